/-! ===== the state, in numbers ===== -/
/-- a layer: dots, mode, opacity, visible -/
abbrev SL : Type := (Nat → Nat → Int) × Int × Int × Int
/-- a picture: width, height, how many layers, the layers, the selected rows -/
abbrev SP : Type := Nat × Nat × Nat × (Nat → SL) × (Nat → Nat)
/-- what was copied: width, height, dots, rows -/
abbrev SK : Type := Nat × Nat × (Nat → Nat → Int) × (Nat → Nat)
/-- now, last, is there a picture, the pictures, the file, the copy, the brush -/
abbrev SS : Type := Nat × Nat × Bool × (Nat → SP) × Option SP × Option SK × Int × Int
abbrev sw (P : SP) : Nat := P.1
abbrev sh (P : SP) : Nat := P.2.1
abbrev sn (P : SP) : Nat := P.2.2.1
abbrev sl (P : SP) : Nat → SL := P.2.2.2.1
abbrev sr (P : SP) : Nat → Nat := P.2.2.2.2
abbrev sD (L : SL) : Nat → Nat → Int := L.1
abbrev sM (L : SL) : Int := L.2.1
abbrev sO (L : SL) : Int := L.2.2.1
abbrev sV (L : SL) : Int := L.2.2.2
abbrev sNow (S : SS) : Nat := S.1
abbrev sLast (S : SS) : Nat := S.2.1
abbrev sHas (S : SS) : Bool := S.2.2.1
abbrev sHist (S : SS) : Nat → SP := S.2.2.2.1
abbrev sFile (S : SS) : Option SP := S.2.2.2.2.1
abbrev sCopy (S : SS) : Option SK := S.2.2.2.2.2.1
abbrev sBd (S : SS) : Int := S.2.2.2.2.2.2.1
abbrev sBr (S : SS) : Int := S.2.2.2.2.2.2.2
abbrev sCur (S : SS) : SP := sHist S (sNow S)
def okL (w ht : Nat) (L : SL) : Prop := (0 ≤ sM L ∧ sM L ≤ 5) ∧ (0 ≤ sO L ∧ sO L ≤ 255) ∧ (sV L = 0 ∨ sV L = 1) ∧ ∀ x y, x < w → y < ht → zrg (sD L x y)
def okP (P : SP) : Prop := (1 ≤ sw P ∧ sw P ≤ 24) ∧ (1 ≤ sh P ∧ sh P ≤ 24) ∧ (1 ≤ sn P ∧ sn P ≤ 3) ∧ (∀ i, i < sn P → okL (sw P) (sh P) (sl P i)) ∧ ∀ j, j < sh P → sr P j < 2 ^ sw P
def okK (K : SK) : Prop := (1 ≤ K.1 ∧ K.1 ≤ 24) ∧ (1 ≤ K.2.1 ∧ K.2.1 ≤ 24) ∧ (∀ x y, x < K.1 → y < K.2.1 → zrg (K.2.2.1 x y)) ∧ ∀ j, j < K.2.1 → K.2.2.2 j < 2 ^ K.1
theorem z24 {w n : Nat} (hw : w ≤ 24) (h : n < 2 ^ w) : n < 16777216 := Nat.lt_of_lt_of_le h (Nat.pow_le_pow_right (n := 2) (by decide) hw)
/-- cells that are changed once they are there: the studio, its history, the array of pictures; all others stay -/
def zmut (e : ZE) : Bool := match e with
  | .inr (.inr (0, _)) => true
  | .inr (.inr (7, _)) => true
  | .inr (.inl (4, _, _)) => true
  | _ => false
def zfr (h h' : ZH) : Prop := ∀ q e, h q = some e → zmut e = false → h' q = some e
theorem zfr.rf {h : ZH} : zfr h h := fun _ _ h _ => h
theorem zfr.tr {h h1 h2 : ZH} (a : zfr h h1) (b : zfr h1 h2) : zfr h h2 := fun q e hq hm => b q e (a q e hq hm) hm
theorem zext.zfr {h h' : ZH} (a : zext h h') : zfr h h' := fun q e hq _ => a q e hq
theorem zfr.put {h : ZH} {q : Nat} {e e' : ZE} (hq : h q = some e) (hm : zmut e = true) : zfr h (zset h q e') := fun r f hr hf => by
  rw [zset_ne (fun h9 => by subst h9; rw [hq] at hr; cases hr; rw [hm] at hf; cases hf)]
  exact hr
def isL (h : ZH) (b w ht : Nat) (L : SL) : Prop := ∃ da f, isLy h b da w ht f (sM L) (sO L) (sV L) ∧ (∀ k, zrg (f k)) ∧ ∀ x y, x < w → y < ht → f (y * w + x) = sD L x y
def isPd (h : ZH) (a la sa ra : Nat) (lf : Nat → Value) (R : Nat → Nat) (P : SP) : Prop := h a = some (zo 4 [zI (sw P), zI (sh P), .ref la, .ref sa]) ∧ h la = some (za 3 (sn P) lf) ∧ (∀ i, i < sn P → ∃ b, lf i = .ref b ∧ isL h b (sw P) (sh P) (sl P i)) ∧ isPl h sa ra (sw P) (sh P) R ∧ (∀ j, R j < 2 ^ sw P) ∧ ∀ j, j < sh P → R j = sr P j
def isP (h : ZH) (a : Nat) (P : SP) : Prop := ∃ la sa ra lf R, isPd h a la sa ra lf R P
def isK (h : ZH) (c : Nat) (K : SK) : Prop := ∃ cb cl cr L R, h c = some (zo 6 [.ref cb, .ref cl]) ∧ isL h cb K.1 K.2.1 L ∧ (∀ x y, x < K.1 → y < K.2.1 → sD L x y = K.2.2.1 x y) ∧ isPl h cl cr K.1 K.2.1 R ∧ (∀ j, R j < 2 ^ K.1) ∧ ∀ j, j < K.2.1 → R j = K.2.2.2 j
theorem isPl.fz {h h' : ZH} {a ra w ht : Nat} {R : Nat → Nat} (hp : isPl h a ra w ht R) (hf : zfr h h') : isPl h' a ra w ht R := ⟨hf _ _ hp.1 rfl, hf _ _ hp.2 rfl⟩
theorem isL.fz {h h' : ZH} {b w ht : Nat} {L : SL} (hp : isL h b w ht L) (hf : zfr h h') : isL h' b w ht L := by
  obtain ⟨da, f, h1, h2, h3⟩ := hp
  exact ⟨da, f, ⟨hf _ _ h1.1 rfl, hf _ _ h1.2 rfl⟩, h2, h3⟩
theorem isPd.fz {h h' : ZH} {a la sa ra : Nat} {lf : Nat → Value} {R : Nat → Nat} {P : SP} (hp : isPd h a la sa ra lf R P) (hf : zfr h h') : isPd h' a la sa ra lf R P := by
  obtain ⟨h1, h2, h3, h4, h5⟩ := hp
  exact ⟨hf _ _ h1 rfl, hf _ _ h2 rfl, fun i hi => by obtain ⟨b, e1, e2⟩ := h3 i hi; exact ⟨b, e1, e2.fz hf⟩, h4.fz hf, h5⟩
theorem isP.fz {h h' : ZH} {a : Nat} {P : SP} (hp : isP h a P) (hf : zfr h h') : isP h' a P := by
  obtain ⟨la, sa, ra, lf, R, h1⟩ := hp
  exact ⟨la, sa, ra, lf, R, h1.fz hf⟩
theorem isK.fz {h h' : ZH} {c : Nat} {K : SK} (hp : isK h c K) (hf : zfr h h') : isK h' c K := by
  obtain ⟨cb, cl, cr, L, R, h1, h2, h3, h4, h5⟩ := hp
  exact ⟨cb, cl, cr, L, R, hf _ _ h1 rfl, h2.fz hf, h3, h4.fz hf, h5⟩
theorem isP.ob {h : ZH} {a : Nat} {P : SP} (hp : isP h a P) : ∃ fs, h a = some (zo 4 fs) := by
  obtain ⟨la, sa, ra, lf, R, h1, -⟩ := hp
  exact ⟨_, h1⟩
theorem isPd.la {h : ZH} {a la sa ra : Nat} {lf : Nat → Value} {R : Nat → Nat} {P : SP} (hp : isPd h a la sa ra lf R P) : isLa h la (sn P) lf := ⟨hp.2.1, fun i hi => by
  obtain ⟨b, e1, da, f, e2, -⟩ := hp.2.2.1 i hi
  exact ⟨b, _, e1, e2.1⟩⟩
/-- the value of a field that may hold a picture -/
def fvP (h : ZH) (v : Value) (o : Option SP) : Prop := match o with
  | none => v = .null
  | some P => ∃ a, v = .ref a ∧ isP h a P ∧ okP P
def fvK (h : ZH) (v : Value) (o : Option SK) : Prop := match o with
  | none => v = .null
  | some K => ∃ a, v = .ref a ∧ isK h a K ∧ okK K
theorem fvP.fz {h h' : ZH} {v : Value} {o : Option SP} (hp : fvP h v o) (hf : zfr h h') : fvP h' v o := by
  cases o with
  | none => exact hp
  | some P => obtain ⟨a, h1, h2, h3⟩ := hp; exact ⟨a, h1, h2.fz hf, h3⟩
theorem fvK.fz {h h' : ZH} {v : Value} {o : Option SK} (hp : fvK h v o) (hf : zfr h h') : fvK h' v o := by
  cases o with
  | none => exact hp
  | some P => obtain ⟨a, h1, h2, h3⟩ := hp; exact ⟨a, h1, h2.fz hf, h3⟩
/-- the pictures of the history -/
def isHs (h : ZH) (pf : Nat → Value) (S : SS) : Prop := (sHas S = true → sNow S ≤ sLast S ∧ sLast S ≤ 6 ∧ ∀ i, i ≤ sLast S → ∃ a, pf i = .ref a ∧ isP h a (sHist S i) ∧ okP (sHist S i)) ∧ (sHas S = false → sNow S = 0 ∧ sLast S = 0 ∧ pf 0 = .null)
theorem isHs.fz {h h' : ZH} {pf : Nat → Value} {S : SS} (hp : isHs h pf S) (hf : zfr h h') : isHs h' pf S := ⟨fun h1 => by
  obtain ⟨k1, k2, k3⟩ := hp.1 h1
  exact ⟨k1, k2, fun i hi => by obtain ⟨a, e1, e2, e3⟩ := k3 i hi; exact ⟨a, e1, e2.fz hf, e3⟩⟩, hp.2⟩
/-- the studio x with its parts -/
def CR (h : ZH) (x hi pa : Nat) (pf : Nat → Value) (fv cv : Value) (S : SS) : Prop :=
  h x = some (zo 0 [.ref hi, fv, cv, zI (sBd S), zI (sBr S)]) ∧ isHi h hi pa (sNow S) (sLast S) pf ∧ isHs h pf S ∧ fvP h fv (sFile S) ∧ fvK h cv (sCopy S) ∧ zrg (sBd S) ∧ (0 ≤ sBr S ∧ sBr S ≤ 7)
def CRep (h : ZH) (x : Nat) (S : SS) : Prop := ∃ hi pa pf fv cv, CR h x hi pa pf fv cv S
theorem CR.now {h : ZH} {x hi pa : Nat} {pf : Nat → Value} {fv cv : Value} {S : SS} (hC : CR h x hi pa pf fv cv S) : (0 ≤ (sNow S : Int) ∧ (sNow S : Int) ≤ 6) ∧ ((sNow S : Int) ≤ sLast S ∧ (sLast S : Int) ≤ 6) := by
  obtain ⟨-, -, h1, -⟩ := hC
  cases hh : sHas S
  · have := h1.2 hh; omega
  · have := h1.1 hh; omega
theorem CR.ext {h h' : ZH} {x hi pa : Nat} {pf : Nat → Value} {fv cv : Value} {S : SS} (hC : CR h x hi pa pf fv cv S) (he : zext h h') : CR h' x hi pa pf fv cv S := by
  obtain ⟨h1, h2, h3, h4, h5, h6⟩ := hC
  exact ⟨he _ _ h1, ⟨he _ _ h2.1, he _ _ h2.2⟩, h3.fz he.zfr, h4.fz he.zfr, h5.fz he.zfr, h6⟩
def sUpd (H : Nat → SP) (i : Nat) (P : SP) : Nat → SP := fun j => if j = i then P else H j
/-- a step is done -/
def sAdd (S : SS) (P : SP) : SS := if sNow S < 6 then (sNow S + 1, sNow S + 1, true, sUpd (sHist S) (sNow S + 1) P, S.2.2.2.2) else (6, 6, true, (fun i => if i < 6 then sHist S (i + 1) else P), S.2.2.2.2)
theorem ct_step {Z : ZC} {h : ZH} {x hi pa a : Nat} {pf : Nat → Value} {fv cv : Value} {S : SS} {P : SP} (hC : CR h x hi pa pf fv cv S) (hhas : sHas S = true) (ha : isP h a P) (hok : okP P) : Ct Z m_History_add 1 0 0 [.ref hi, .ref a] h (fun r h' => r = .inl none ∧ zfr h h' ∧ CRep h' x (sAdd S P)) := by
  have hn := hC.now
  obtain ⟨h1, h2, h3, h4, h5, h6⟩ := hC
  obtain ⟨k1, k2, k3⟩ := h3.1 hhas
  obtain ⟨fs, hfs⟩ := ha.ob
  have hne : x ≠ hi := zkne h1 h2.1 (zkoo (by decide))
  have hne2 : x ≠ pa := zkne h1 h2.2 zkoa
  have hne3 : hi ≠ pa := zkne h2.1 h2.2 zkoa
  have hfz : ∀ e1 e2, zfr h (zset (zset h hi e1) pa e2) := fun e1 e2 => zfr.tr (zfr.put h2.1 rfl) (zfr.put (e := za 4 7 pf) (by rw [zset_ne hne3.symm]; exact h2.2) rfl)
  by_cases hlt : sNow S < 6
  · have E1 : sAdd S P = (sNow S + 1, sNow S + 1, true, sUpd (sHist S) (sNow S + 1) P, S.2.2.2.2) := by unfold sAdd; rw [if_pos hlt]
    refine (ct_add_lt h2 ⟨hn.1.1, by omega⟩ hfs).mono ?_
    rintro r h' ⟨rfl, rfl⟩
    rw [E1]
    refine ⟨rfl, hfz _ _, hi, pa, _, fv, cv, ?_, ⟨?_, zset_same _ _ _⟩, ?_, h4.fz (hfz _ _), h5.fz (hfz _ _), ?_⟩
    · rw [zset_ne hne2, zset_ne hne, h1]
    · rw [zset_ne hne3, zset_same]
      rfl
    · refine ⟨fun _ => ⟨Nat.le_refl _, by show sNow S + 1 ≤ 6; omega, fun i hi => ?_⟩, fun h9 => by cases h9⟩
      have e : ((sNow S : Int) + 1).toNat = sNow S + 1 := by omega
      by_cases hi2 : i = sNow S + 1
      · refine ⟨a, ?_, ?_⟩
        · unfold zuv; rw [e, if_pos hi2]
        · show isP _ a (sUpd _ _ _ i) ∧ okP (sUpd _ _ _ i)
          unfold sUpd
          rw [if_pos hi2]
          exact ⟨ha.fz (hfz _ _), hok⟩
      · have hi3 : i ≤ sNow S + 1 := hi
        obtain ⟨b, e1, e2, e3⟩ := k3 i (by omega)
        refine ⟨b, ?_, ?_⟩
        · unfold zuv; rw [e, if_neg hi2]; exact e1
        · show isP _ b (sUpd _ _ _ i) ∧ okP (sUpd _ _ _ i)
          unfold sUpd
          rw [if_neg hi2]
          exact ⟨e2.fz (hfz _ _), e3⟩
    · exact h6
  · have h66 : sNow S = 6 := by omega
    have hl6 : sLast S = 6 := by omega
    refine (ct_add_ge h2 (by omega) (fun i hi => by obtain ⟨b, e1, e2, -⟩ := k3 i (by omega); obtain ⟨gs, hg⟩ := e2.ob; exact ⟨b, gs, e1, hg⟩) hfs).mono ?_
    have E1 : sAdd S P = (6, 6, true, (fun i => if i < 6 then sHist S (i + 1) else P), S.2.2.2.2) := by unfold sAdd; rw [if_neg hlt]
    rintro r h' ⟨rfl, rfl⟩
    rw [E1]
    refine ⟨rfl, hfz _ _, hi, pa, _, fv, cv, ?_, ⟨?_, zset_same _ _ _⟩, ?_, h4.fz (hfz _ _), h5.fz (hfz _ _), ?_⟩
    · rw [zset_ne hne2, zset_ne hne, h1]
    · rw [zset_ne hne3, zset_same]
      rfl
    · refine ⟨fun _ => ⟨Nat.le_refl _, Nat.le_refl _, fun i hi => ?_⟩, fun h9 => by cases h9⟩
      have hi3 : i ≤ 6 := hi
      by_cases hi2 : i = 6
      · refine ⟨a, ?_, ?_⟩
        · unfold zuv; rw [if_pos hi2]
        · show isP _ a (if i < 6 then _ else P) ∧ okP (if i < 6 then _ else P)
          rw [if_neg (by omega)]
          exact ⟨ha.fz (hfz _ _), hok⟩
      · obtain ⟨b, e1, e2, e3⟩ := k3 (i + 1) (by omega)
        refine ⟨b, ?_, ?_⟩
        · unfold zuv zsh; rw [if_neg hi2, if_pos (by omega)]; exact e1
        · show isP _ b (if i < 6 then sHist S (i + 1) else P) ∧ okP (if i < 6 then sHist S (i + 1) else P)
          rw [if_pos (by omega)]
          exact ⟨e2.fz (hfz _ _), e3⟩
    · exact h6
/-! ===== what a tool leaves ===== -/
/-- the dots of a layer, one after another -/
def sFl (D : Nat → Nat → Int) (w : Nat) : Nat → Int := fun k => D (k % w) (k / w)
theorem sFl_dt {f : Nat → Int} {D : Nat → Nat → Int} {w ht : Nat} (hf : ∀ x y, x < w → y < ht → f (y * w + x) = D x y) : zldt f w ht = zldt (sFl D w) w ht := by
  funext x y
  unfold zldt
  by_cases hb : zbox x y w ht
  · rw [if_pos hb, if_pos hb, (zkn2 (R := fun _ => 0) hb).1]
    have h1 : x.toNat < w := (zkn2 (R := fun _ => 0) hb).2.2.1
    have h2 : y.toNat < ht := by have := hb.2.2; omega
    rw [hf _ _ h1 h2]
    unfold sFl
    rw [(zxy h1).1, (zxy h1).2]
  · rw [if_neg hb, if_neg hb]
theorem sDt_in {D : Nat → Nat → Int} {w ht x y : Nat} (hx : x < w) (hy : y < ht) : zldt (sFl D w) w ht x y = D x y := by
  have hb : zbox (x : Int) (y : Int) w ht := ⟨by omega, by omega, by omega, by omega⟩
  unfold zldt
  rw [if_pos hb, (zkn2 (R := fun _ => 0) hb).1]
  show sFl D w (y * w + x) = _
  unfold sFl
  rw [(zxy hx).1, (zxy hx).2]
abbrev sSl (P : SP) (x y : Nat) : Prop := (sr P y).testBit x = true
def sPut (P : SP) (l : Int) (G : Nat → Nat → Int) : SP := (sw P, sh P, sn P, (fun i => if (i : Int) = l then ((fun x y => if sSl P x y then G x y else sD (sl P i) x y), sM (sl P i), sO (sl P i), sV (sl P i)) else sl P i), sr P)
theorem zpt_end {f : Nat → Int} {w ht : Nat} {R : Nat → Nat} {G : Nat → Nat → Int} {x y : Nat} (hx : x < w) (hy : y < ht) : zpt f w R G ((ht : Int) * w + 0).toNat (y * w + x) = if (R y).testBit x = true then G x y else f (y * w + x) := by
  have e : ((ht : Int) * w + 0).toNat = ht * w := by
    have : ((ht : Int) * w + 0) = ((ht * w : Nat) : Int) := by simp
    rw [this]; rfl
  have hlt : y * w + x < ht * w := by
    have h1 : (y + 1) * w ≤ ht * w := Nat.mul_le_mul_right w hy
    rw [Nat.add_mul] at h1
    omega
  unfold zpt
  rw [e, (zxy hx).1, (zxy hx).2]
  have hb : zbox (x : Int) (y : Int) w ht := ⟨by omega, by omega, by omega, by omega⟩
  have h1 := (zkn2 (R := R) hb).2.2.2
  have h2 := zhp_bit (R := R) hb
  rw [h1] at h2
  by_cases hc : (R y).testBit x = true
  · rw [if_pos hc, if_pos ⟨hlt, h2.mpr hc⟩]
  · rw [if_neg hc, if_neg (fun h => hc (h2.mp h.2))]
theorem zpt_all {f : Nat → Int} {w ht : Nat} {R : Nat → Nat} {G : Nat → Nat → Int} (hf : ∀ k, zrg (f k)) (hG : ∀ x y, x < w → y < ht → zrg (G x y)) (hw : 1 ≤ w) (k : Nat) : zrg (zpt f w R G ((ht : Int) * w + 0).toNat k) := by
  have e : ((ht : Int) * w + 0).toNat = ht * w := by
    have : ((ht : Int) * w + 0) = ((ht * w : Nat) : Int) := by simp
    rw [this]; rfl
  unfold zpt
  rw [e]
  split
  · next h => exact hG _ _ (Nat.mod_lt _ hw) ((Nat.div_lt_iff_lt_mul hw).mpr h.1)
  · exact hf k
theorem okP_put {P : SP} {l : Int} {G : Nat → Nat → Int} (hok : okP P) (hG : ∀ x y, x < sw P → y < sh P → zrg (G x y)) : okP (sPut P l G) := by
  obtain ⟨h1, h2, h3, h4, h5⟩ := hok
  refine ⟨h1, h2, h3, fun i hi => ?_, h5⟩
  have h6 := h4 i hi
  show okL (sw P) (sh P) (if (i : Int) = l then _ else sl P i)
  by_cases he : (i : Int) = l
  · rw [if_pos he]
    refine ⟨h6.1, h6.2.1, h6.2.2.1, fun x y hx hy => ?_⟩
    show zrg (if sSl P x y then G x y else sD (sl P i) x y)
    by_cases hs : sSl P x y
    · rw [if_pos hs]; exact hG x y hx hy
    · rw [if_neg hs]; exact h6.2.2.2 x y hx hy
  · rw [if_neg he]; exact h6
/-- a painting of the layer l, begun at h -/
def TP (h h' : ZH) (S : SS) (l : Int) (p a la sa ra bf da af : Nat) (lf : Nat → Value) (R : Nat → Nat) (f : Nat → Int) : Prop :=
  zext h h' ∧ h af = none ∧ isPt h' p a la sa ra bf da af (sw (sCur S)) (sh (sCur S)) l R f f (sM (sl (sCur S) l.toNat)) (sO (sl (sCur S) l.toNat)) (sV (sl (sCur S) l.toNat)) ∧ isPd h a la sa ra lf R (sCur S) ∧ okP (sCur S) ∧ (0 ≤ l ∧ l < sn (sCur S)) ∧ (∀ k, zrg (f k)) ∧ ∀ x y, x < sw (sCur S) → y < sh (sCur S) → f (y * sw (sCur S) + x) = sD (sl (sCur S) l.toNat) x y
theorem TP.ext {h h' : ZH} {S : SS} {l : Int} {p a la sa ra bf da af q : Nat} {lf : Nat → Value} {R : Nat → Nat} {f : Nat → Int} {e : ZE} (hT : TP h h' S l p a la sa ra bf da af lf R f) (hq : h' q = none) : TP h (zset h' q e) S l p a la sa ra bf da af lf R f := ⟨hT.1.tr (zext.mk hq), hT.2.1, hT.2.2.1.fr hq, hT.2.2.2⟩
theorem TP.R24 {h h' : ZH} {S : SS} {l : Int} {p a la sa ra bf da af : Nat} {lf : Nat → Value} {R : Nat → Nat} {f : Nat → Int} (hT : TP h h' S l p a la sa ra bf da af lf R f) (j : Nat) : R j < 16777216 := z24 hT.2.2.2.2.1.1.2 (hT.2.2.2.1.2.2.2.2.1 j)
theorem tool_res {Z : ZC} {h h2 : ZH} {x hi pa p pc la sa ra bf da af : Nat} {pf lf : Nat → Value} {fv cv : Value} {S : SS} {l : Int} {R : Nat → Nat} {f : Nat → Int} {G' G : Nat → Nat → Int} (hC : CR h x hi pa pf fv cv S) (hT : TP h h2 S l p pc la sa ra bf da af lf R f) (hG : ∀ x y, x < sw (sCur S) → y < sh (sCur S) → G' x y = G x y ∧ zrg (G x y)) :
    Ct Z m_Painting_result 3 3 13 [.ref p] (zset h2 af (zi 0 (sw (sCur S) * sh (sCur S)) (zpt f (sw (sCur S)) R G' ((sh (sCur S) : Int) * sw (sCur S) + 0).toNat))) (fun r h' => ∃ b2, r = .inl (some (.ref b2)) ∧ zext h h' ∧ CR h' x hi pa pf fv cv S ∧ isP h' b2 (sPut (sCur S) l G) ∧ okP (sPut (sCur S) l G) ∧ zext (zset h2 af (zi 0 (sw (sCur S) * sh (sCur S)) (zpt f (sw (sCur S)) R G' ((sh (sCur S) : Int) * sw (sCur S) + 0).toNat))) h') := by
  obtain ⟨he, haf, hp, hd, hok, hl, hfr, hf⟩ := hT
  have he1 : zext h (zset h2 af (zi 0 (sw (sCur S) * sh (sCur S)) (zpt f (sw (sCur S)) R G' ((sh (sCur S) : Int) * sw (sCur S) + 0).toNat))) := he.set haf
  have hn3 := hok.2.2.1.2
  have hoL := hok.2.2.2.1 l.toNat (by omega)
  refine (ct_result (hp.up _) (hd.fz he1.zfr).la hn3 ⟨by omega, by omega⟩ hoL.2.2.1).mono ?_
  rintro r h' ⟨b1, na, b2, f1, f2, f3, n1, n2, n3, rfl, rfl⟩
  have he2 := ((zext.mk (e := zo 3 [zI (sw (sCur S)), zI (sh (sCur S)), .ref af, zI (sM (sl (sCur S) l.toNat)), zI (sO (sl (sCur S) l.toNat)), zI (sV (sl (sCur S) l.toNat))]) f1).set (e := za 3 (sn (sCur S)) (zfil (sn (sCur S)) (fun i => if (i : Int) = l then .ref b1 else lf i))) f2).set (e := zo 4 [zI (sw (sCur S)), zI (sh (sCur S)), .ref na, .ref sa]) f3
  have he3 := he1.tr he2
  refine ⟨b2, rfl, he3, hC.ext he3, ⟨na, sa, ra, zfil (sn (sCur S)) (fun i => if (i : Int) = l then .ref b1 else lf i), R, zset_same _ _ _, ?_, ?_, hd.2.2.2.1.fz he3.zfr, hd.2.2.2.2⟩, okP_put hok (fun x y hx hy => (hG x y hx hy).2), he2⟩
  · rw [zset_ne n3.symm, zset_same]; rfl
  · intro i hi
    have hi2 : i < sn (sCur S) := hi
    by_cases hil : (i : Int) = l
    · have hil2 : l.toNat = i := by omega
      refine ⟨b1, by unfold zfil; rw [if_pos hi2]; exact if_pos hil, ?_⟩
      show isL _ b1 (sw (sCur S)) (sh (sCur S)) (if (i : Int) = l then _ else sl (sCur S) i)
      rw [if_pos hil]
      refine ⟨af, zpt f (sw (sCur S)) R G' ((sh (sCur S) : Int) * sw (sCur S) + 0).toNat, ⟨?_, he2 _ _ (zset_same _ _ _)⟩, zpt_all hfr (fun x y hx hy => by rw [(hG x y hx hy).1]; exact (hG x y hx hy).2) hok.1.1, fun x y hx hy => ?_⟩
      · rw [zset_ne n2.symm, zset_ne n1.symm, zset_same, hil2]
      · rw [zpt_end hx hy, hd.2.2.2.2.2 y hy, (hG x y hx hy).1, hf x y hx hy, hil2]
    · obtain ⟨b, e1, e2⟩ := hd.2.2.1 i hi2
      refine ⟨b, by unfold zfil; rw [if_pos hi2]; exact (if_neg hil).trans e1, ?_⟩
      show isL _ b (sw (sCur S)) (sh (sCur S)) (if (i : Int) = l then _ else sl (sCur S) i)
      rw [if_neg hil]
      exact e2.fz he3.zfr
/-- what a call leaves: refused the one way, the other way, or done -/
def fcP (h : ZH) (x : Nat) (S : SS) (G1 : Prop) (E1 : String) (G2 : Prop) (E2 : String) (v : Option Value) (S' : SS) : ZR → ZH → Prop := fun r h' => zfr h h' ∧ ((¬ G1 ∧ r = .inr E1 ∧ CRep h' x S) ∨ (G1 ∧ ¬ G2 ∧ r = .inr E2 ∧ CRep h' x S) ∨ (G1 ∧ G2 ∧ r = .inl v ∧ CRep h' x S'))
section FC
variable {h h' : ZH} {x hi pa : Nat} {pf : Nat → Value} {fv cv : Value} {S S' : SS} {G1 G2 : Prop} {E1 E2 : String} {v : Option Value}
theorem fcP.no1 (hC : CR h x hi pa pf fv cv S) (hf : zext h h') (hg : ¬ G1) : fcP h x S G1 E1 G2 E2 v S' (.inr E1) h' := ⟨hf.zfr, Or.inl ⟨hg, rfl, hi, pa, pf, fv, cv, hC.ext hf⟩⟩
theorem fcP.no2 (hC : CR h x hi pa pf fv cv S) (hf : zext h h') (h1 : G1) (hg : ¬ G2) : fcP h x S G1 E1 G2 E2 v S' (.inr E2) h' := ⟨hf.zfr, Or.inr (Or.inl ⟨h1, hg, rfl, hi, pa, pf, fv, cv, hC.ext hf⟩)⟩
theorem fcP.ok (hf : zfr h h') (h1 : G1) (h2 : G2) (hC : CRep h' x S') : fcP h x S G1 E1 G2 E2 v S' (.inl v) h' := ⟨hf, Or.inr (Or.inr ⟨h1, h2, rfl, hC⟩)⟩
end FC
abbrev sLy (S : SS) (l : Int) : Prop := sHas S = true ∧ 0 ≤ l ∧ l < sn (sCur S)
theorem CR.pic {h : ZH} {x hi pa : Nat} {pf : Nat → Value} {fv cv : Value} {S : SS} (hC : CR h x hi pa pf fv cv S) (hh : sHas S = true) : ∃ a la sa ra lf R, pf (sNow S : Int).toNat = .ref a ∧ isPd h a la sa ra lf R (sCur S) ∧ okP (sCur S) := by
  obtain ⟨k1, k2, k3⟩ := hC.2.2.1.1 hh
  obtain ⟨a, e1, ⟨la, sa, ra, lf, R, e2⟩, e3⟩ := k3 (sNow S) k1
  exact ⟨a, la, sa, ra, lf, R, e1, e2, e3⟩
theorem CR.nop {h : ZH} {x hi pa : Nat} {pf : Nat → Value} {fv cv : Value} {S : SS} (hC : CR h x hi pa pf fv cv S) (hh : sHas S = false) : pf (sNow S : Int).toNat = .null := by
  obtain ⟨k1, k2, k3⟩ := hC.2.2.1.2 hh
  rw [k1]
  exact k3
/-- the studio's own fields change -/
theorem CRep.set {h : ZH} {x hi pa : Nat} {pf : Nat → Value} {fv cv fv' cv' : Value} {S b : SS} (hC : CR h x hi pa pf fv cv S) (hf : fvP h fv' (sFile b)) (hk : fvK h cv' (sCopy b)) (e1 : sNow b = sNow S) (e2 : sLast b = sLast S) (e3 : sHas b = sHas S) (e4 : sHist b = sHist S) (hd : zrg (sBd b)) (hr : 0 ≤ sBr b ∧ sBr b ≤ 7) : CRep (zset h x (zo 0 [.ref hi, fv', cv', zI (sBd b), zI (sBr b)])) x b := by
  obtain ⟨h1, h2, h3, -⟩ := hC
  have hz : zfr h (zset h x (zo 0 [.ref hi, fv', cv', zI (sBd b), zI (sBr b)])) := zfr.put h1 rfl
  refine ⟨hi, pa, pf, fv', cv', zset_same _ _ _, ⟨?_, ?_⟩, ?_, hf.fz hz, hk.fz hz, hd, hr⟩
  · rw [e1, e2, zset_ne (zkne h2.1 h1 (zkoo (by decide)))]; exact h2.1
  · rw [zset_ne (zkne h2.2 h1 zkao)]; exact h2.2
  · have h4 := h3.fz hz
    unfold isHs at h4 ⊢
    rw [e1, e2, e3, e4]
    exact h4
