theorem zarrI : Cond.arrayClass (newarray.typeOf .int) ∈ zG := zG_T 212 (by decide +kernel) (by decide +kernel)
theorem zarrZ : Cond.arrayClass (newarray.typeOf .boolean) ∈ zG := zG_T 770 (by decide +kernel) (by decide +kernel)
theorem zarrL : Cond.arrayClass (newarray.typeOf .long) ∈ zG := zG_T 987 (by decide +kernel) (by decide +kernel)
theorem zobjA : Cond.instanceMethod Lib.objectInit ∈ zG := zG_T 25 (by decide +kernel) (by decide +kernel)
theorem zobjB : Cond.code Lib.objectInit ⟨#[0xb1]⟩ 1 none ∈ zG := zG_T 26 (by decide +kernel) (by decide +kernel)
section ZR3
variable {Z : ZC} {F : ZF} {pc q t : Nat} {L st : List Value} {h : ZH} {mc ms : Nat} {Q : ZR → ZH → Prop}
/-! ===== fields ===== -/
/-- the field k of the kind ci, by its place in the pool of own -/
def zFL (own : String) (idx ci k : Nat) : Prop := ∃ (C : String) (T : u_T) (N : Nat), zcls[ci]? = some (C, T, N) ∧ k < N ∧ (∀ w ∈ u_ws C T N, w ∈ zG) ∧ Cond.fieldLink own idx (T k).1 (T k).2.1 (T k).2.2.1 ∈ zG
theorem zz_getf {idx ci k a : Nat} {fs : List Value} {v : Value} (hd : zT F.2.1 pc = some (.getfield idx, q, t)) (hf : zFL (zy F.2.1).cls idx ci k) (ha : h a = some (zo ci fs)) (hv : fs[k]? = some v) (kk : Ev Z F q L (v :: st) h mc ms Q) : Ev Z F pc L (.ref a :: st) h mc ms Q := by
  intro p e R s m args below meth c H locs cells slots ls hF hR hl hr hS hc hs
  obtain ⟨hx, hb, hml, hown, hts, hret, hlk, hnm, htb, hW, hEx, hok⟩ := id hF
  obtain ⟨h1, rfl⟩ := zdec hok hd 3 (fun _ _ => rfl)
  obtain ⟨C, T, N, hc1, hk, hu, hlink⟩ := hf
  obtain ⟨r, e1, cell, q1, q2, q3, q4⟩ := (hr a _ ha).1
  have hr9 : r = (C, T, N) := Option.some.inj (e1.symm.trans hc1)
  subst hr9
  obtain ⟨hSl, hfc, kC, hkC, hkind⟩ := hW.1.1 ci _ hc1
  obtain ⟨cf, kf, fi, f, hi, hsl⟩ := hSl k hk
  refine W.getf hx hb hown (hts _ hlink) hi (u_facts hfc hkC (u_lays hts hu hk) hi).1 q1 (by rw [q3]; exact fun h => by cases h) (v := v) ?_ rfl rfl h1 (kk p e R s m args below meth c H locs cells slots ls hF hR hl hr hS hc hs)
  rw [hsl, q4 k hk]
  simp [vp_V, hv]
/-- v may be put into the field k of the kind ci, here -/
def zPut (own name : String) (ci k : Nat) (v : Value) : Prop := ∃ (C : String) (T : u_T) (N : Nat) (ty0 : Nat → FieldType), zcls[ci]? = some (C, T, N) ∧ (∀ k, k < N → parseFieldDescriptor (T k).2.2.1 = some (ty0 k)) ∧ (∀ a, a < N → ∀ b, b < N → a ≠ b → (T a).2.1 ≠ (T b).2.1) ∧ narrow (ty0 k) v = v ∧ fits (ty0 k) v = true ∧ ((T k).2.2.2 = false ∨ ((T k).2.2.2 = true ∧ name = "<init>" ∧ (T k).1 = own))
theorem zz_putf {idx ci k a : Nat} {fs : List Value} {v : Value} (hd : zT F.2.1 pc = some (.putfield idx, q, t)) (hf : zFL (zy F.2.1).cls idx ci k) (ha : h a = some (zo ci fs)) (hp : zPut (zy F.2.1).cls (zy F.2.1).name ci k v) (hkl : k < fs.length) (kk : Ev Z F q L st (zset h a (zo ci (fs.set k v))) mc ms Q) : Ev Z F pc L (v :: .ref a :: st) h mc ms Q := by
  intro p e R s m args below meth c H locs cells slots ls hF hR hl hr hS hc hs
  obtain ⟨hx, hb, hml, hown, hts, hret, hlk, hnm, htb, hW, hEx, hok⟩ := id hF
  obtain ⟨h1, rfl⟩ := zdec hok hd 3 (fun _ _ => rfl)
  obtain ⟨C, T, N, hc1, hk, hu, hlink⟩ := hf
  obtain ⟨C2, T2, N2, ty0, hc2, hty, hnm2, hn, hfit, hfin⟩ := hp
  have he := Option.some.inj (hc1.symm.trans hc2)
  cases he
  obtain ⟨hat, hba⟩ := hr a _ ha
  obtain ⟨r, e1, cell, q1, q2, q3, q4⟩ := hat
  have hr9 : r = (C, T, N) := Option.some.inj (e1.symm.trans hc1)
  subst hr9
  have hap := va_apart (own := (zy F.2.1).cls) hts hu ty0 hty hnm2 hW.1 hc1
  obtain ⟨hSl, hfc, kC, hkC, hkind⟩ := hW.1.1 ci _ hc1
  obtain ⟨cf, kf, fi, f, hi, hsl⟩ := hSl k hk
  have hlay := hts _ (hu _ (u_in_lay hk))
  have hst := (u_facts hfc hkC (u_lays hts hu hk) hi).1
  have hgo : ∀ H' : Heap, H'[a]? = some (cell.setSlot f.slot v) → H'.size = H.size → (∀ q, q ≠ a → H'[q]? = H[q]?) → W p Z.1 e R s m args below meth c H' (locs ++ [⟨a, f.slot⟩]) cells slots (vx_MQ below (zQc Z Q) (zXC Z Q) args s F.2.2.2.1 F.2.2.2.2 (fun q => Z.2.2.2 ≤ q)) (F0 m (pc + 3) ls st) := by
    intro H' g1 g2 g3
    rw [hsl] at g1
    refine kk p e R s m args below meth c H' _ cells slots ls hF hR hl (hr.set ⟨_, hc1, t_OB.to (V := updV (vp_V fs) k v) ⟨_, g1, q2, q3, t_set q4 hap hk v⟩ (fun j _ => vp_updV_set hkl v j)⟩ hba g3) (hS.put g2 g3 hba) hc hs
  rcases hfin with hfin | ⟨hfin, hname, hdecl⟩
  · unfold u_lay at hlay
    rw [if_neg (by rw [hfin]; decide)] at hlay
    have h6 := u_store hfc hkC hkind hlay hi (hty k hk) hn hfit
    exact W.putK hx hb (f := f) ⟨hown, hts _ hlink, ⟨_, _, _, hi⟩, hst⟩ (by rw [q2]; exact h6) q1 q3 (by rw [hsl]; exact k2_hasslot (q4 k hk)) rfl rfl h1 hgo
  · unfold u_lay at hlay
    rw [if_pos hfin] at hlay
    have hcf : m.cls = cf := by
      obtain ⟨_, _, c', _, _, _, -, -, hf', -, -, -, hown2, -⟩ := Cond.laysFinal_spec hlay
      have e1 : c' = cf := by have := hi.symm.trans hf'; simp at this; exact this.1.symm
      rw [hdecl] at hown2
      rw [← e1]; exact Option.some.inj (hown.symm.trans hown2)
    have h6 := u_fits hfc hkC hkind (Or.inr hlay) hi (hty k hk) hn hfit
    exact W.putFinK hx hb hown (hts _ hlink) hi hst hcf (hnm.trans hname) (by rw [q2]; exact h6) q1 q3 (by rw [hsl]; exact k2_hasslot (q4 k hk)) rfl rfl h1 hgo
/-! ===== new ===== -/
def zNew (own : String) (idx ci N : Nat) (fs : List Value) : Prop := ∃ (C : String) (T : u_T) (ty : Nat → FieldType), zcls[ci]? = some (C, T, N) ∧ (∀ k, k < N → parseFieldDescriptor (T k).2.2.1 = some (ty k)) ∧ (∀ w ∈ u_ws C T N, w ∈ zG) ∧ Cond.classLink own idx C ∈ zG ∧ Cond.instantiable C N ∈ zG ∧ Cond.initialized C ∈ zG ∧ ∀ j, j < N → defaultValue (ty j) = vp_V fs j
theorem zz_new {idx ci N : Nat} {fs : List Value} (hd : zT F.2.1 pc = some (.new idx, q, t)) (hn : zNew (zy F.2.1).cls idx ci N fs) (kk : ∀ a, h a = none → Ev Z F q L (.ref a :: st) (zset h a (zo ci fs)) mc ms Q) : Ev Z F pc L st h (mc + 1) (ms + N) Q := by
  intro p e R s m args below meth c H locs cells slots ls hF hR hl hr hS hc hs
  obtain ⟨hx, hb, hml, hown, hts, hret, hlk, hnm, htb, hW, hEx, hok⟩ := id hF
  obtain ⟨h1, rfl⟩ := zdec hok hd 3 (fun _ _ => rfl)
  obtain ⟨C, T, ty, hc1, hty, hu, hcl, hinst, hini, hfs⟩ := hn
  have hKn := hW.1.1 ci _ hc1
  refine W.newcK hx hb hown (hts _ hcl) (hts _ hinst) (hts _ hini) rfl h1 (by have := hR.2.2.1; omega) (by have := hR.2.2.2; omega) hKn.2.1 rfl fun H1 kC hkC e1 z1 o1 => ?_
  have hbs : Z.2.2.2 ≤ H.size := Nat.le_trans hW.2.2.2.1 hS.1
  refine kk H.size hr.fresh p e R s m args below meth c H1 locs (cells + 1) (slots + N) ls hF hR hl (hr.push ⟨_, hc1, (u_born ty hts hu hKn hkC e1 hty).to hfs⟩ hbs o1) ⟨Nat.le_trans hS.1 (by omega), fun x h1 h2 => (o1 x (Nat.lt_of_lt_of_le h1 hS.1)).trans (hS.2.1 x h1 h2), hS.2.2⟩ (by omega) (by omega)
/-! ===== arrays ===== -/
theorem zz_newi {n : Int} (g N : Nat) (hd : zT F.2.1 pc = some (.newarray .int, q, t)) (hn : 0 ≤ n ∧ n ≤ N ∧ (N : Int) ≤ 100000) (kk : ∀ a, h a = none → Ev Z F q L (.ref a :: st) (zset h a (zi g n.toNat (fun _ => 0))) mc ms Q) : Ev Z F pc L (zI n :: st) h (mc + 1) (ms + N) Q := by
  intro p e R s m args below meth c H locs cells slots ls hF hR hl hr hS hc hs
  obtain ⟨hx, hb, hml, hown, hts, hret, hlk, hnm, htb, hW, hEx, hok⟩ := id hF
  obtain ⟨h1, rfl⟩ := zdec hok hd 2 (fun _ _ => rfl)
  have hz : (Int32.ofInt n).toInt = n := zq_toInt ⟨by omega, by omega⟩
  have hz2 : (Int32.ofInt n).toNatClampNeg = n.toNat := zq_nat ⟨by omega, by omega⟩
  refine va_newaK (N := n.toNat) hx hb (hts _ zarrI) rfl h1 rfl (by rw [Int32.lt_iff_toInt_lt, hz]; show ¬ n < 0; omega) hz2 (by show n.toNat * 4 ≤ 536870912; omega) (by have := hR.2.2.1; omega) (by have := hR.2.2.2; omega) rfl fun H1 cA e1 z1 o1 hAr hNm => ?_
  have hcA : cA = Z.2.2.1 0 := Option.some.inj (hNm.symm.trans (hW.1.2 0 _ rfl).2)
  subst hcA
  have hbs : Z.2.2.2 ≤ H.size := Nat.le_trans hW.2.2.2.1 hS.1
  exact kk H.size hr.fresh p e R s m args below meth c H1 locs (cells + 1) (slots + n.toNat) ls hF hR hl (hr.push e1 hbs o1) ⟨Nat.le_trans hS.1 (by omega), fun x h1 h2 => (o1 x (Nat.lt_of_lt_of_le h1 hS.1)).trans (hS.2.1 x h1 h2), hS.2.2⟩ (by omega) (by omega)
theorem zz_newz {n : Int} (N : Nat) (hd : zT F.2.1 pc = some (.newarray .boolean, q, t)) (hn : 0 ≤ n ∧ n ≤ N ∧ (N : Int) ≤ 100000) (kk : ∀ a, h a = none → Ev Z F q L (.ref a :: st) (zset h a (za 1 n.toNat (fun _ => zI 0))) mc ms Q) : Ev Z F pc L (zI n :: st) h (mc + 1) (ms + N) Q := by
  intro p e R s m args below meth c H locs cells slots ls hF hR hl hr hS hc hs
  obtain ⟨hx, hb, hml, hown, hts, hret, hlk, hnm, htb, hW, hEx, hok⟩ := id hF
  obtain ⟨h1, rfl⟩ := zdec hok hd 2 (fun _ _ => rfl)
  have hz : (Int32.ofInt n).toInt = n := zq_toInt ⟨by omega, by omega⟩
  have hz2 : (Int32.ofInt n).toNatClampNeg = n.toNat := zq_nat ⟨by omega, by omega⟩
  refine va_newaK (N := n.toNat) hx hb (hts _ zarrZ) rfl h1 rfl (by rw [Int32.lt_iff_toInt_lt, hz]; show ¬ n < 0; omega) hz2 (by show n.toNat * 1 ≤ 536870912; omega) (by have := hR.2.2.1; omega) (by have := hR.2.2.2; omega) rfl fun H1 cA e1 z1 o1 hAr hNm => ?_
  have hcA : cA = Z.2.2.1 1 := Option.some.inj (hNm.symm.trans (hW.1.2 1 _ rfl).2)
  subst hcA
  have hbs : Z.2.2.2 ≤ H.size := Nat.le_trans hW.2.2.2.1 hS.1
  exact kk H.size hr.fresh p e R s m args below meth c H1 locs (cells + 1) (slots + n.toNat) ls hF hR hl (hr.push e1 hbs o1) ⟨Nat.le_trans hS.1 (by omega), fun x h1 h2 => (o1 x (Nat.lt_of_lt_of_le h1 hS.1)).trans (hS.2.1 x h1 h2), hS.2.2⟩ (by omega) (by omega)
theorem zz_newl {n : Int} (N : Nat) (hd : zT F.2.1 pc = some (.newarray .long, q, t)) (hn : 0 ≤ n ∧ n ≤ N ∧ (N : Int) ≤ 100000) (kk : ∀ a, h a = none → Ev Z F q L (.ref a :: st) (zset h a (za 2 n.toNat (fun _ => zJ 0))) mc ms Q) : Ev Z F pc L (zI n :: st) h (mc + 1) (ms + N) Q := by
  intro p e R s m args below meth c H locs cells slots ls hF hR hl hr hS hc hs
  obtain ⟨hx, hb, hml, hown, hts, hret, hlk, hnm, htb, hW, hEx, hok⟩ := id hF
  obtain ⟨h1, rfl⟩ := zdec hok hd 2 (fun _ _ => rfl)
  have hz : (Int32.ofInt n).toInt = n := zq_toInt ⟨by omega, by omega⟩
  have hz2 : (Int32.ofInt n).toNatClampNeg = n.toNat := zq_nat ⟨by omega, by omega⟩
  refine va_newaK (N := n.toNat) hx hb (hts _ zarrL) rfl h1 rfl (by rw [Int32.lt_iff_toInt_lt, hz]; show ¬ n < 0; omega) hz2 (by show n.toNat * 8 ≤ 536870912; omega) (by have := hR.2.2.1; omega) (by have := hR.2.2.2; omega) rfl fun H1 cA e1 z1 o1 hAr hNm => ?_
  have hcA : cA = Z.2.2.1 2 := Option.some.inj (hNm.symm.trans (hW.1.2 2 _ rfl).2)
  subst hcA
  have hbs : Z.2.2.2 ≤ H.size := Nat.le_trans hW.2.2.2.1 hS.1
  exact kk H.size hr.fresh p e R s m args below meth c H1 locs (cells + 1) (slots + n.toNat) ls hF hR hl (hr.push e1 hbs o1) ⟨Nat.le_trans hS.1 (by omega), fun x h1 h2 => (o1 x (Nat.lt_of_lt_of_le h1 hS.1)).trans (hS.2.1 x h1 h2), hS.2.2⟩ (by omega) (by omega)
/-- the kinds of arrays of references: 3 of layers (kind 3 of the objects), 4 of pictures -/
def zAK (k : Nat) (C : String) : Prop := (k = 3 ∧ C = "TileStudio$Layer") ∨ (k = 4 ∧ C = "TileStudio$Picture")
theorem zAK.ao {k : Nat} {C : String} {s : State} (h : zAK k C) (hN : zNc s) : va_AO C s := by
  rcases h with ⟨-, rfl⟩ | ⟨-, rfl⟩
  · exact hN.2.2.2.1
  · exact hN.2.2.2.2.1
theorem zAK.ra {k : Nat} {C : String} {s : State} (h : zAK k C) (hK : va_K Z.2.1 zcls (ztys Z) s) : ArrOfT s (Z.2.2.1 k) (.object C) ∧ va_RA s (Z.2.2.1 k) (.object C) := by
  rcases h with ⟨rfl, rfl⟩ | ⟨rfl, rfl⟩
  · exact hK.2 3 _ rfl
  · exact hK.2 4 _ rfl
theorem zz_newq {idx k : Nat} {C : String} {n : Int} (N : Nat) (hd : zT F.2.1 pc = some (.anewarray idx, q, t)) (hk : zAK k C) (hcl : Cond.classLink (zy F.2.1).cls idx C ∈ zG) (hn : 0 ≤ n ∧ n ≤ N ∧ (N : Int) ≤ 100000) (kk : ∀ a, h a = none → Ev Z F q L (.ref a :: st) (zset h a (za k n.toNat (fun _ => .null))) mc ms Q) : Ev Z F pc L (zI n :: st) h (mc + 1) (ms + N) Q := by
  intro p e R s m args below meth c H locs cells slots ls hF hR hl hr hS hc hs
  obtain ⟨hx, hb, hml, hown, hts, hret, hlk, hnm, htb, hW, hEx, hok⟩ := id hF
  obtain ⟨h1, rfl⟩ := zdec hok hd 3 (fun _ _ => rfl)
  have hz : (Int32.ofInt n).toInt = n := zq_toInt ⟨by omega, by omega⟩
  have hz2 : (Int32.ofInt n).toNatClampNeg = n.toNat := zq_nat ⟨by omega, by omega⟩
  refine W.anew hx hb hown (hts _ hcl) (va_AO.use (hk.ao hW.2.1)) rfl h1 rfl (by rw [Int32.lt_iff_toInt_lt, hz]; show ¬ n < 0; omega) (by rw [hz2]; omega) (by have := hR.2.2.1; omega) (by rw [hz2]; have := hR.2.2.2; omega) fun cA kA comp f1 f2 f3 f4 => ?_
  rw [hz2]
  obtain ⟨-, -, -, -, -, -, hRA⟩ := (hk.ra hW.1)
  have hcA : cA = Z.2.2.1 k := Option.some.inj (f1.symm.trans hRA)
  subst hcA
  have hbs : Z.2.2.2 ≤ H.size := Nat.le_trans hW.2.2.2.1 hS.1
  generalize hH1 : H.push ({ cls := Z.2.2.1 k, slots := Array.replicate n.toNat .null, vm := .none } : Cell) = H1
  have z1 : H1.size = H.size + 1 := by rw [← hH1, Array.size_push]
  have e1 : H1[H.size]? = some (arrV (Z.2.2.1 k) n.toNat (fun _ => .null)) := by rw [← hH1, Array.getElem?_push_size, ← arrV_new]
  have o1 : ∀ q : Nat, q < H.size → H1[q]? = H[q]? := fun q hq => by rw [← hH1, Array.getElem?_push, if_neg (Nat.ne_of_lt hq)]
  exact kk H.size hr.fresh p e R s m args below meth c H1 locs (cells + 1) (slots + n.toNat) ls hF hR hl (hr.push e1 hbs o1) ⟨Nat.le_trans hS.1 (by omega), fun x h1 h2 => (o1 x (Nat.lt_of_lt_of_le h1 hS.1)).trans (hS.2.1 x h1 h2), hS.2.2⟩ (by omega) (by omega)
theorem zin {i : Int} {n : Nat} (hi : 0 ≤ i ∧ i < n) (hn : (n : Int) < 2147483648) : (Int32.ofInt i).toNatClampNeg = i.toNat ∧ ¬ (Int32.ofInt i < 0 ∨ n ≤ (Int32.ofInt i).toNatClampNeg) ∧ i.toNat < n := by
  have hz : (Int32.ofInt i).toInt = i := zq_toInt ⟨by omega, by omega⟩
  have hz2 : (Int32.ofInt i).toNatClampNeg = i.toNat := zq_nat ⟨by omega, by omega⟩
  refine ⟨hz2, ?_, by omega⟩
  rw [Int32.lt_iff_toInt_lt, hz, hz2]
  show ¬ (i < 0 ∨ n ≤ i.toNat)
  omega
theorem zz_alenI {a g n : Nat} {f : Nat → Int} (hd : zT F.2.1 pc = some (.arraylength, q, t)) (ha : h a = some (zi g n f)) (kk : Ev Z F q L (zI n :: st) h mc ms Q) : Ev Z F pc L (.ref a :: st) h mc ms Q := by
  intro p e R s m args below meth c H locs cells slots ls hF hR hl hr hS hc hs
  obtain ⟨hx, hb, hml, hown, hts, hret, hlk, hnm, htb, hW, hEx, hok⟩ := id hF
  obtain ⟨h1, rfl⟩ := zdec hok hd 1 (fun _ _ => rfl)
  refine W.alen (n := Int32.ofInt n) hx hb (hr a _ ha).1 ((hW.1.2 0 _ rfl).1 n _) (by rw [arrV_size]; exact Int32.ofInt_eq_ofNat.symm) rfl rfl h1 (kk p e R s m args below meth c H locs cells slots ls hF hR hl hr hS hc hs)
theorem zz_alenA {a n k : Nat} {C : String} {f : Nat → Value} (hd : zT F.2.1 pc = some (.arraylength, q, t)) (hk : zAK k C) (ha : h a = some (za k n f)) (kk : Ev Z F q L (zI n :: st) h mc ms Q) : Ev Z F pc L (.ref a :: st) h mc ms Q := by
  intro p e R s m args below meth c H locs cells slots ls hF hR hl hr hS hc hs
  obtain ⟨hx, hb, hml, hown, hts, hret, hlk, hnm, htb, hW, hEx, hok⟩ := id hF
  obtain ⟨h1, rfl⟩ := zdec hok hd 1 (fun _ _ => rfl)
  refine W.alen (n := Int32.ofInt n) hx hb (hr a _ ha).1 ((hk.ra hW.1).1 n _) (by rw [arrV_size]; exact Int32.ofInt_eq_ofNat.symm) rfl rfl h1 (kk p e R s m args below meth c H locs cells slots ls hF hR hl hr hS hc hs)
theorem zz_iald {a g n : Nat} {f : Nat → Int} {i : Int} (hd : zT F.2.1 pc = some (.iaload, q, t)) (ha : h a = some (zi g n f)) (hn : (n : Int) < 2147483648) (hi : 0 ≤ i ∧ i < n) (kk : Ev Z F q L (zI (f i.toNat) :: st) h mc ms Q) : Ev Z F pc L (zI i :: .ref a :: st) h mc ms Q := by
  intro p e R s m args below meth c H locs cells slots ls hF hR hl hr hS hc hs
  obtain ⟨hx, hb, hml, hown, hts, hret, hlk, hnm, htb, hW, hEx, hok⟩ := id hF
  obtain ⟨h1, rfl⟩ := zdec hok hd 1 (fun _ _ => rfl)
  obtain ⟨z1, z2, z3⟩ := zin hi hn
  refine W.iald (v := zI (f i.toNat)) hx hb (hr a _ ha).1 ((hW.1.2 0 _ rfl).1 n _) (fun h => by cases h) (by rw [arrV_size]; exact z2) (by rw [z1, arrV_read _ _ z3]) rfl rfl h1 (kk p e R s m args below meth c H locs cells slots ls hF hR hl hr hS hc hs)
theorem zz_iast {a g n : Nat} {f : Nat → Int} {i x : Int} (hd : zT F.2.1 pc = some (.iastore, q, t)) (ha : h a = some (zi g n f)) (hn : (n : Int) < 2147483648) (hi : 0 ≤ i ∧ i < n) (kk : Ev Z F q L st (zset h a (zi g n (zup f i.toNat x))) mc ms Q) : Ev Z F pc L (zI x :: zI i :: .ref a :: st) h mc ms Q := by
  intro p e R s m args below meth c H locs cells slots ls hF hR hl hr hS hc hs
  obtain ⟨hx, hb, hml, hown, hts, hret, hlk, hnm, htb, hW, hEx, hok⟩ := id hF
  obtain ⟨h1, rfl⟩ := zdec hok hd 1 (fun _ _ => rfl)
  obtain ⟨z1, z2, z3⟩ := zin hi hn
  obtain ⟨hat, hba⟩ := hr a _ ha
  refine W.iast hx hb hat ((hW.1.2 0 _ rfl).1 n _) (fun h => by cases h) (by rw [arrV_size]; exact z2) rfl rfl h1 fun H1 e1 z oq => ?_
  rw [z1, arrV_store] at e1
  refine kk p e R s m args below meth c H1 _ cells slots ls hF hR hl (hr.set ?_ hba oq) (hS.put z oq hba) hc hs
  show H1[a]? = some (arrV _ n _)
  rw [e1]
  congr 2
  funext j
  by_cases hj : j = i.toNat
  · subst hj; simp [updV, zup]
  · simp [updV, zup, hj]
theorem zz_zald {a n : Nat} {f : Nat → Value} {i : Int} (hd : zT F.2.1 pc = some (.baload, q, t)) (ha : h a = some (za 1 n f)) (hn : (n : Int) < 2147483648) (hi : 0 ≤ i ∧ i < n) (kk : Ev Z F q L (f i.toNat :: st) h mc ms Q) : Ev Z F pc L (zI i :: .ref a :: st) h mc ms Q := by
  intro p e R s m args below meth c H locs cells slots ls hF hR hl hr hS hc hs
  obtain ⟨hx, hb, hml, hown, hts, hret, hlk, hnm, htb, hW, hEx, hok⟩ := id hF
  obtain ⟨h1, rfl⟩ := zdec hok hd 1 (fun _ _ => rfl)
  obtain ⟨z1, z2, z3⟩ := zin hi hn
  refine W.zald (v := f i.toNat) hx hb (hr a _ ha).1 ((hW.1.2 1 _ rfl).1 n _) (fun h => by cases h) (by rw [arrV_size]; exact z2) (by rw [z1, arrV_read _ _ z3]) rfl rfl h1 (kk p e R s m args below meth c H locs cells slots ls hF hR hl hr hS hc hs)
theorem zz_zast {a n : Nat} {f : Nat → Value} {i x : Int} (hd : zT F.2.1 pc = some (.bastore, q, t)) (ha : h a = some (za 1 n f)) (hn : (n : Int) < 2147483648) (hi : 0 ≤ i ∧ i < n) (hx1 : narrow .boolean (zI x) = zI x) (kk : Ev Z F q L st (zset h a (za 1 n (zuv f i.toNat (zI x)))) mc ms Q) : Ev Z F pc L (zI x :: zI i :: .ref a :: st) h mc ms Q := by
  intro p e R s m args below meth c H locs cells slots ls hF hR hl hr hS hc hs
  obtain ⟨hx, hb, hml, hown, hts, hret, hlk, hnm, htb, hW, hEx, hok⟩ := id hF
  obtain ⟨h1, rfl⟩ := zdec hok hd 1 (fun _ _ => rfl)
  obtain ⟨z1, z2, z3⟩ := zin hi hn
  obtain ⟨hat, hba⟩ := hr a _ ha
  refine W.zast hx hb hat ((hW.1.2 1 _ rfl).1 n _) (fun h => by cases h) (by rw [arrV_size]; exact z2) rfl rfl h1 fun H1 e1 z oq => ?_
  rw [z1, hx1, arrV_store] at e1
  exact kk p e R s m args below meth c H1 _ cells slots ls hF hR hl (hr.set e1 hba oq) (hS.put z oq hba) hc hs
theorem zz_lald {a n : Nat} {f : Nat → Value} {i : Int} (hd : zT F.2.1 pc = some (.laload, q, t)) (ha : h a = some (za 2 n f)) (hn : (n : Int) < 2147483648) (hi : 0 ≤ i ∧ i < n) (kk : Ev Z F q L (f i.toNat :: st) h mc ms Q) : Ev Z F pc L (zI i :: .ref a :: st) h mc ms Q := by
  intro p e R s m args below meth c H locs cells slots ls hF hR hl hr hS hc hs
  obtain ⟨hx, hb, hml, hown, hts, hret, hlk, hnm, htb, hW, hEx, hok⟩ := id hF
  obtain ⟨h1, rfl⟩ := zdec hok hd 1 (fun _ _ => rfl)
  obtain ⟨z1, z2, z3⟩ := zin hi hn
  refine W.lald (v := f i.toNat) hx hb (hr a _ ha).1 ((hW.1.2 2 _ rfl).1 n _) (fun h => by cases h) (by rw [arrV_size]; exact z2) (by rw [z1, arrV_read _ _ z3]) rfl rfl h1 (kk p e R s m args below meth c H locs cells slots ls hF hR hl hr hS hc hs)
theorem zz_last {a n : Nat} {f : Nat → Value} {i x : Int} (hd : zT F.2.1 pc = some (.lastore, q, t)) (ha : h a = some (za 2 n f)) (hn : (n : Int) < 2147483648) (hi : 0 ≤ i ∧ i < n) (kk : Ev Z F q L st (zset h a (za 2 n (zuv f i.toNat (zJ x)))) mc ms Q) : Ev Z F pc L (zJ x :: zI i :: .ref a :: st) h mc ms Q := by
  intro p e R s m args below meth c H locs cells slots ls hF hR hl hr hS hc hs
  obtain ⟨hx, hb, hml, hown, hts, hret, hlk, hnm, htb, hW, hEx, hok⟩ := id hF
  obtain ⟨h1, rfl⟩ := zdec hok hd 1 (fun _ _ => rfl)
  obtain ⟨z1, z2, z3⟩ := zin hi hn
  obtain ⟨hat, hba⟩ := hr a _ ha
  refine W.last hx hb hat ((hW.1.2 2 _ rfl).1 n _) (fun h => by cases h) (by rw [arrV_size]; exact z2) rfl rfl h1 fun H1 e1 z oq => ?_
  rw [z1, arrV_store] at e1
  exact kk p e R s m args below meth c H1 _ cells slots ls hF hR hl (hr.set e1 hba oq) (hS.put z oq hba) hc hs
theorem zz_aald {a n k : Nat} {C : String} {f : Nat → Value} {i : Int} (hd : zT F.2.1 pc = some (.aaload, q, t)) (hk : zAK k C) (ha : h a = some (za k n f)) (hn : (n : Int) < 2147483648) (hi : 0 ≤ i ∧ i < n) (kk : Ev Z F q L (f i.toNat :: st) h mc ms Q) : Ev Z F pc L (zI i :: .ref a :: st) h mc ms Q := by
  intro p e R s m args below meth c H locs cells slots ls hF hR hl hr hS hc hs
  obtain ⟨hx, hb, hml, hown, hts, hret, hlk, hnm, htb, hW, hEx, hok⟩ := id hF
  obtain ⟨h1, rfl⟩ := zdec hok hd 1 (fun _ _ => rfl)
  obtain ⟨z1, z2, z3⟩ := zin hi hn
  refine W.aald (v := f i.toNat) (ty := .object C) hx hb (hr a _ ha).1 ((hk.ra hW.1).1 n _) rfl (fun h => by cases h) (by rw [arrV_size]; exact z2) (by rw [z1, arrV_read _ _ z3]) rfl rfl h1 (kk p e R s m args below meth c H locs cells slots ls hF hR hl hr hS hc hs)
theorem zz_aast {a n k v ci : Nat} {r : vw_C} {f : Nat → Value} {fs : List Value} {i : Int} (hd : zT F.2.1 pc = some (.aastore, q, t)) (hk : zAK k r.1) (hci : zcls[ci]? = some r) (ha : h a = some (za k n f)) (hv : h v = some (zo ci fs)) (hn : (n : Int) < 2147483648) (hi : 0 ≤ i ∧ i < n) (kk : Ev Z F q L st (zset h a (za k n (zuv f i.toNat (.ref v)))) mc ms Q) : Ev Z F pc L (.ref v :: zI i :: .ref a :: st) h mc ms Q := by
  intro p e R s m args below meth c H locs cells slots ls hF hR hl hr hS hc hs
  obtain ⟨hx, hb, hml, hown, hts, hret, hlk, hnm, htb, hW, hEx, hok⟩ := id hF
  obtain ⟨h1, rfl⟩ := zdec hok hd 1 (fun _ _ => rfl)
  obtain ⟨z1, z2, z3⟩ := zin hi hn
  obtain ⟨hat, hba⟩ := hr a _ ha
  obtain ⟨r', hr', cellV, g1, g2, g3, -⟩ := (hr v _ hv).1
  have hcls := (hW.1.1 ci r hci).2
  obtain ⟨kA, comp, k1, k2, k3, -⟩ := (hk.ra hW.1).2
  have hcomp : comp = Z.2.1.1 ci := Option.some.inj (k3.symm.trans hcls.1)
  subst hcomp
  obtain ⟨kC, hkC, -⟩ := id hcls.2
  refine W.aast hx hb hat (fun q h => by cases h) (fun h => by cases h) k1 k2 rfl hkC ⟨fun h9 => z2 (Or.inl h9), by rw [arrV_size, z1]; exact z3⟩ g1 (fun q h => by rw [g3] at h; cases h) (by rw [g2]; exact hkC) (by rw [g2]; exact va_assign hcls) rfl rfl h1 fun H1 e1 z oq => ?_
  rw [z1, arrV_store] at e1
  exact kk p e R s m args below meth c H1 _ cells slots ls hF hR hl (hr.set e1 hba oq) (hS.put z oq hba) hc hs
theorem zz_aastN {a n k : Nat} {C : String} {f : Nat → Value} {i : Int} (hd : zT F.2.1 pc = some (.aastore, q, t)) (hk : zAK k C) (ha : h a = some (za k n f)) (hn : (n : Int) < 2147483648) (hi : 0 ≤ i ∧ i < n) (kk : Ev Z F q L st (zset h a (za k n (zuv f i.toNat .null))) mc ms Q) : Ev Z F pc L (.null :: zI i :: .ref a :: st) h mc ms Q := by
  intro p e R s m args below meth c H locs cells slots ls hF hR hl hr hS hc hs
  obtain ⟨hx, hb, hml, hown, hts, hret, hlk, hnm, htb, hW, hEx, hok⟩ := id hF
  obtain ⟨h1, rfl⟩ := zdec hok hd 1 (fun _ _ => rfl)
  obtain ⟨z1, z2, z3⟩ := zin hi hn
  obtain ⟨hat, hba⟩ := hr a _ ha
  refine va_WaastN (C := C) hx hb hat ((hk.ra hW.1).1 n _) (fun h => by cases h) (by rw [arrV_size]; exact z2) rfl rfl h1 fun H1 e1 z oq => ?_
  rw [z1, arrV_store] at e1
  exact kk p e R s m args below meth c H1 _ cells slots ls hF hR hl (hr.set e1 hba oq) (hS.put z oq hba) hc hs
end ZR3

