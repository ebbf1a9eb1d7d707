/-! ===== the two sides side by side; the reference's birth ===== -/
/-- cells of the reference -/
def zmd (e : ZE) : Bool := match e with
  | .inl (0, _, _) => false
  | .inl _ => true
  | .inr (.inl (1, _, _)) => true
  | .inr (.inl (2, _, _)) => true
  | .inr (.inr (1, _)) => true
  | _ => false
def zcf (h h' : ZH) : Prop := ∀ q e, h q = some e → zmd e = false → h' q = some e
theorem isPl.cf {h h' : ZH} {a ra w ht : Nat} {R : Nat → Nat} (hp : isPl h a ra w ht R) (hf : zcf h h') : isPl h' a ra w ht R := ⟨hf _ _ hp.1 rfl, hf _ _ hp.2 rfl⟩
theorem isL.cf {h h' : ZH} {b w ht : Nat} {L : SL} (hp : isL h b w ht L) (hf : zcf h h') : isL h' b w ht L := by
  obtain ⟨da, f, h1, h2, h3⟩ := hp
  exact ⟨da, f, ⟨hf _ _ h1.1 rfl, hf _ _ h1.2 rfl⟩, h2, h3⟩
theorem isPd.cf {h h' : ZH} {a la sa ra : Nat} {lf : Nat → Value} {R : Nat → Nat} {P : SP} (hp : isPd h a la sa ra lf R P) (hf : zcf h h') : isPd h' a la sa ra lf R P := by
  obtain ⟨h1, h2, h3, h4, h5⟩ := hp
  exact ⟨hf _ _ h1 rfl, hf _ _ h2 rfl, fun i hi => by obtain ⟨b, e1, e2⟩ := h3 i hi; exact ⟨b, e1, e2.cf hf⟩, h4.cf hf, h5⟩
theorem isP.cf {h h' : ZH} {a : Nat} {P : SP} (hp : isP h a P) (hf : zcf h h') : isP h' a P := by
  obtain ⟨la, sa, ra, lf, R, h1⟩ := hp
  exact ⟨la, sa, ra, lf, R, h1.cf hf⟩
theorem isK.cf {h h' : ZH} {c : Nat} {K : SK} (hp : isK h c K) (hf : zcf h h') : isK h' c K := by
  obtain ⟨cb, cl, cr, L, R, h1, h2, h3, h4, h5⟩ := hp
  exact ⟨cb, cl, cr, L, R, hf _ _ h1 rfl, h2.cf hf, h3, h4.cf hf, h5⟩
theorem fvP.cf {h h' : ZH} {v : Value} {o : Option SP} (hp : fvP h v o) (hf : zcf h h') : fvP h' v o := by
  cases o with
  | none => exact hp
  | some P => obtain ⟨a, h1, h2, h3⟩ := hp; exact ⟨a, h1, h2.cf hf, h3⟩
theorem fvK.cf {h h' : ZH} {v : Value} {o : Option SK} (hp : fvK h v o) (hf : zcf h h') : fvK h' v o := by
  cases o with
  | none => exact hp
  | some P => obtain ⟨a, h1, h2, h3⟩ := hp; exact ⟨a, h1, h2.cf hf, h3⟩
theorem isHs.cf {h h' : ZH} {pf : Nat → Value} {S : SS} (hp : isHs h pf S) (hf : zcf h h') : isHs h' pf S := ⟨fun h1 => by
  obtain ⟨k1, k2, k3⟩ := hp.1 h1
  exact ⟨k1, k2, fun i hi => by obtain ⟨a, e1, e2, e3⟩ := k3 i hi; exact ⟨a, e1, e2.cf hf, e3⟩⟩, hp.2⟩
theorem CRep.cf {h h' : ZH} {x : Nat} {S : SS} (hC : CRep h x S) (he : zcf h h') : CRep h' x S := by
  obtain ⟨hi, pa, pf, fv, cv, h1, h2, h3, h4, h5, h6⟩ := hC
  exact ⟨hi, pa, pf, fv, cv, he _ _ h1 rfl, ⟨he _ _ h2.1 rfl, he _ _ h2.2 rfl⟩, h3.cf he, h4.cf he, h5.cf he, h6⟩
theorem mcell_md {A : Nat → Nat} {X : MX} {k : Nat} : zmd (mcell A X k) = true := by
  unfold mcell
  split
  · rfl
  · split
    · rfl
    · next h0 _ =>
      cases k with
      | zero => exact absurd rfl h0
      | succ k => rfl
theorem mcell_mut {A : Nat → Nat} {X : MX} {k : Nat} : zmut (mcell A X k) = false := by
  unfold mcell
  split
  · rfl
  · split
    · rfl
    · rfl
theorem mH_cf {h : ZH} {A : Nat → Nat} {X X' : MX} : zcf (mH h A X) (mH h A X') := by
  intro q e hq hm
  unfold mH at hq ⊢
  cases hw : mwh A q with
  | none => rw [hw] at hq; exact hq
  | some k =>
    rw [hw] at hq
    have h1 : mcell A X k = e := Option.some.inj hq
    subst h1
    rw [mcell_md] at hm
    cases hm
theorem mH_of {H : ZH} {A : Nat → Nat} {X : MX} (hh : ∀ k, k < 14 → H (A k) = some (mcell A X k)) : H = mH H A X := by
  funext q
  unfold mH
  cases hw : mwh A q with
  | none => rfl
  | some k =>
    obtain ⟨h1, h2⟩ := mwh_some hw
    subst h1
    exact hh k h2
theorem mOk_of {H : ZH} {A : Nat → Nat} {X : MX} (hh : ∀ k, k < 14 → H (A k) = some (mcell A X k)) : mOk A := by
  intro i j hi hj e
  have h1 := hh i hi
  rw [e, hh j hj] at h1
  have h2 : mcell A X j = mcell A X i := Option.some.inj h1
  have key : ∀ k, k < 14 → (match mcell A X k with | .inl (g, _, _) => g | .inr (.inl _) => 13 | .inr (.inr _) => 0) = k := by
    intro k hk
    unfold mcell
    by_cases h0 : k = 0
    · rw [if_pos h0]; exact h0.symm
    · rw [if_neg h0]
      by_cases h13 : k = 13
      · rw [if_pos h13]; exact h13.symm
      · rw [if_neg h13]
  have k1 := key i hi
  have k2 := key j hj
  rw [h2] at k2
  exact k1.symm.trans k2
theorem mcell_no {A : Nat → Nat} {X : MX} {k n : Nat} {f : Nat → Value} : mcell A X k ≠ za 2 n f := by
  unfold mcell
  intro h
  split at h
  · cases h
  · split at h
    · cases h
    · cases h
theorem mH_out {h : ZH} {A : Nat → Nat} {X X' : MX} {o n : Nat} {f : Nat → Value} (ho : mH h A X o = some (za 2 n f)) : mH h A X' o = some (za 2 n f) := by
  unfold mH at ho ⊢
  cases hw : mwh A o with
  | none => rw [hw] at ho; exact ho
  | some k =>
    rw [hw] at ho
    exact absurd (Option.some.inj ho) mcell_no
def zfo (o : Nat) (h h' : ZH) : Prop := ∀ q e, q ≠ o → h q = some e → zmut e = false → h' q = some e
/-- the reference's cells stay where only the class's own are written -/
theorem mH_fr {h h' : ZH} {A : Nat → Nat} {X : MX} {o n : Nat} {f : Nat → Value} (hA : mOk A) (he : h = mH h A X) (hf : zfo o h h') (ho : h o = some (za 2 n f)) : h' = mH h' A X := by
  refine mH_of (fun k hk => ?_)
  have h1 := mget (h := h) (X := X) hA hk
  rw [← he] at h1
  refine hf _ _ (fun h9 => ?_) h1 mcell_mut
  rw [h9, ho] at h1
  exact mcell_no (Option.some.inj h1).symm
theorem mi_ab {Z : ZC} {F : ZF} {pc : Nat} {L st : List Value} {mc ms : Nat} {Q : ZR → ZH → Prop} {H : ZH} {m a : Nat} {e e0 f : ZE} (ha : H a = none) (hm : H m = some e0) (kk : ∀ H' : ZH, H' m = some f → H' a = some e → a ≠ m → (∀ q e', q ≠ m → H q = some e' → H' q = some e') → Ev Z F pc L st H' mc ms Q) : Ev Z F pc L st (zset (zset H a e) m f) mc ms Q := by
  have hne : m ≠ a := zne ha hm
  refine kk _ (zset_same _ _ _) ?_ hne.symm (fun q e' hq he => ?_)
  · rw [zset_ne hne.symm, zset_same]
  · rw [zset_ne hq, zset_ne (zne ha he)]
    exact he
def mX0 : MX := ((fun _ => 0), (fun _ _ => 0), (fun _ => 0))
def sS0 : SS := (0, 0, false, (fun _ => sP0), none, none, 0, 0)
theorem mrel0 : mrel mX0 sS0 := ⟨rfl, rfl, rfl, rfl, rfl, rfl, rfl, (fun h => by cases h), (fun P h => by cases h), (fun K h => by cases h), fun _ => Or.inl rfl⟩
def mAd (l : List Nat) (k : Nat) : Nat := l.getD k 0
section MIN
variable {Z : ZC} {h : ZH}
theorem ct_M_init {m : Nat} (m0 : h m = some (zo 1 [zI 0, .null, .null, .null, .null, .null, .null, .null, .null, zI 0, zI 0, zI 0, zI 0, zI 0, zI 0, zI 0, .null, .null, .null, .null, .null])) : Ct Z m_M_init 0 13 15888 [.ref m] h (fun r h' => r = .inl none ∧ ∃ A, A 0 = m ∧ (∀ k, k < 14 → h' (A k) = some (mcell A mX0 k)) ∧ ∀ q e, q ≠ m → h q = some e → h' q = some e) := by
  have kk : ∀ q e, q ≠ m → h q = some e → h q = some e := fun _ _ _ h => h
  refine zct rfl (by decide) ok_M_init rfl rfl ?_
  refine zz_aload_n rfl rfl ?_
  refine zz_oinit rfl ob_M_1 rfl ?_
  refine zz_aload_n rfl rfl ?_
  refine zz_sipush rfl (by decide) ?_
  refine zz_newi 1 13824 rfl ⟨by decide, by decide, by decide⟩ (fun a1 ha1 => ?_)
  refine zz_putf rfl fl_M_7 (zget ha1 m0) (pt_1_1 rfl rfl) (zblt rfl) ?_
  refine mi_ab ha1 m0 (fun H1 m1 c1 n1 k1 => ?_)
  replace kk := fun q e hq he => k1 q e hq (kk q e hq he)
  clear k1
  refine zz_aload_n rfl rfl ?_
  refine zz_sipush rfl (by decide) ?_
  refine zz_newi 2 192 rfl ⟨by decide, by decide, by decide⟩ (fun a2 ha2 => ?_)
  refine zz_putf rfl fl_M_13 (zget ha2 m1) (pt_1_2 rfl rfl) (zblt rfl) ?_
  refine mi_ab ha2 m1 (fun H2 m2 c2 n2 k2 => ?_)
  replace c1 := k2 _ _ n1 c1
  replace kk := fun q e hq he => k2 q e hq (kk q e hq he)
  clear k2 m1
  refine zz_aload_n rfl rfl ?_
  refine zz_bipush rfl (by decide) ?_
  refine zz_newi 3 24 rfl ⟨by decide, by decide, by decide⟩ (fun a3 ha3 => ?_)
  refine zz_putf rfl fl_M_16 (zget ha3 m2) (pt_1_3 rfl rfl) (zblt rfl) ?_
  refine mi_ab ha3 m2 (fun H3 m3 c3 n3 k3 => ?_)
  replace c1 := k3 _ _ n1 c1
  replace c2 := k3 _ _ n2 c2
  replace kk := fun q e hq he => k3 q e hq (kk q e hq he)
  clear k3 m2
  refine zz_aload_n rfl rfl ?_
  refine zz_bipush rfl (by decide) ?_
  refine zz_newi 4 24 rfl ⟨by decide, by decide, by decide⟩ (fun a4 ha4 => ?_)
  refine zz_putf rfl fl_M_19 (zget ha4 m3) (pt_1_4 rfl rfl) (zblt rfl) ?_
  refine mi_ab ha4 m3 (fun H4 m4 c4 n4 k4 => ?_)
  replace c1 := k4 _ _ n1 c1
  replace c2 := k4 _ _ n2 c2
  replace c3 := k4 _ _ n3 c3
  replace kk := fun q e hq he => k4 q e hq (kk q e hq he)
  clear k4 m3
  refine zz_aload_n rfl rfl ?_
  refine zz_bipush rfl (by decide) ?_
  refine zz_newz 24 rfl ⟨by decide, by decide, by decide⟩ (fun a13 ha13 => ?_)
  refine zz_putf rfl fl_M_22 (zget ha13 m4) (pt_1_5 rfl rfl) (zblt rfl) ?_
  refine mi_ab ha13 m4 (fun H5 m5 c13 n13 k5 => ?_)
  replace c1 := k5 _ _ n1 c1
  replace c2 := k5 _ _ n2 c2
  replace c3 := k5 _ _ n3 c3
  replace c4 := k5 _ _ n4 c4
  replace kk := fun q e hq he => k5 q e hq (kk q e hq he)
  clear k5 m4
  refine zz_aload_n rfl rfl ?_
  refine zz_bipush rfl (by decide) ?_
  refine zz_newi 5 8 rfl ⟨by decide, by decide, by decide⟩ (fun a5 ha5 => ?_)
  refine zz_putf rfl fl_M_26 (zget ha5 m5) (pt_1_6 rfl rfl) (zblt rfl) ?_
  refine mi_ab ha5 m5 (fun H6 m6 c5 n5 k6 => ?_)
  replace c1 := k6 _ _ n1 c1
  replace c2 := k6 _ _ n2 c2
  replace c3 := k6 _ _ n3 c3
  replace c4 := k6 _ _ n4 c4
  replace c13 := k6 _ _ n13 c13
  replace kk := fun q e hq he => k6 q e hq (kk q e hq he)
  clear k6 m5
  refine zz_aload_n rfl rfl ?_
  refine zz_bipush rfl (by decide) ?_
  refine zz_newi 6 8 rfl ⟨by decide, by decide, by decide⟩ (fun a6 ha6 => ?_)
  refine zz_putf rfl fl_M_29 (zget ha6 m6) (pt_1_7 rfl rfl) (zblt rfl) ?_
  refine mi_ab ha6 m6 (fun H7 m7 c6 n6 k7 => ?_)
  replace c1 := k7 _ _ n1 c1
  replace c2 := k7 _ _ n2 c2
  replace c3 := k7 _ _ n3 c3
  replace c4 := k7 _ _ n4 c4
  replace c13 := k7 _ _ n13 c13
  replace c5 := k7 _ _ n5 c5
  replace kk := fun q e hq he => k7 q e hq (kk q e hq he)
  clear k7 m6
  refine zz_aload_n rfl rfl ?_
  refine zz_bipush rfl (by decide) ?_
  refine zz_newi 7 8 rfl ⟨by decide, by decide, by decide⟩ (fun a7 ha7 => ?_)
  refine zz_putf rfl fl_M_32 (zget ha7 m7) (pt_1_8 rfl rfl) (zblt rfl) ?_
  refine mi_ab ha7 m7 (fun H8 m8 c7 n7 k8 => ?_)
  replace c1 := k8 _ _ n1 c1
  replace c2 := k8 _ _ n2 c2
  replace c3 := k8 _ _ n3 c3
  replace c4 := k8 _ _ n4 c4
  replace c13 := k8 _ _ n13 c13
  replace c5 := k8 _ _ n5 c5
  replace c6 := k8 _ _ n6 c6
  replace kk := fun q e hq he => k8 q e hq (kk q e hq he)
  clear k8 m7
  refine zz_aload_n rfl rfl ?_
  refine zz_sipush rfl (by decide) ?_
  refine zz_newi 8 576 rfl ⟨by decide, by decide, by decide⟩ (fun a8 ha8 => ?_)
  refine zz_putf rfl fl_M_35 (zget ha8 m8) (pt_1_16 rfl rfl) (zblt rfl) ?_
  refine mi_ab ha8 m8 (fun H9 m9 c8 n8 k9 => ?_)
  replace c1 := k9 _ _ n1 c1
  replace c2 := k9 _ _ n2 c2
  replace c3 := k9 _ _ n3 c3
  replace c4 := k9 _ _ n4 c4
  replace c13 := k9 _ _ n13 c13
  replace c5 := k9 _ _ n5 c5
  replace c6 := k9 _ _ n6 c6
  replace c7 := k9 _ _ n7 c7
  replace kk := fun q e hq he => k9 q e hq (kk q e hq he)
  clear k9 m8
  refine zz_aload_n rfl rfl ?_
  refine zz_bipush rfl (by decide) ?_
  refine zz_newi 9 24 rfl ⟨by decide, by decide, by decide⟩ (fun a9 ha9 => ?_)
  refine zz_putf rfl fl_M_38 (zget ha9 m9) (pt_1_17 rfl rfl) (zblt rfl) ?_
  refine mi_ab ha9 m9 (fun H10 m10 c9 n9 k10 => ?_)
  replace c1 := k10 _ _ n1 c1
  replace c2 := k10 _ _ n2 c2
  replace c3 := k10 _ _ n3 c3
  replace c4 := k10 _ _ n4 c4
  replace c13 := k10 _ _ n13 c13
  replace c5 := k10 _ _ n5 c5
  replace c6 := k10 _ _ n6 c6
  replace c7 := k10 _ _ n7 c7
  replace c8 := k10 _ _ n8 c8
  replace kk := fun q e hq he => k10 q e hq (kk q e hq he)
  clear k10 m9
  refine zz_aload_n rfl rfl ?_
  refine zz_sipush rfl (by decide) ?_
  refine zz_newi 10 576 rfl ⟨by decide, by decide, by decide⟩ (fun a10 ha10 => ?_)
  refine zz_putf rfl fl_M_41 (zget ha10 m10) (pt_1_18 rfl rfl) (zblt rfl) ?_
  refine mi_ab ha10 m10 (fun H11 m11 c10 n10 k11 => ?_)
  replace c1 := k11 _ _ n1 c1
  replace c2 := k11 _ _ n2 c2
  replace c3 := k11 _ _ n3 c3
  replace c4 := k11 _ _ n4 c4
  replace c13 := k11 _ _ n13 c13
  replace c5 := k11 _ _ n5 c5
  replace c6 := k11 _ _ n6 c6
  replace c7 := k11 _ _ n7 c7
  replace c8 := k11 _ _ n8 c8
  replace c9 := k11 _ _ n9 c9
  replace kk := fun q e hq he => k11 q e hq (kk q e hq he)
  clear k11 m10
  refine zz_aload_n rfl rfl ?_
  refine zz_bipush rfl (by decide) ?_
  refine zz_newi 11 24 rfl ⟨by decide, by decide, by decide⟩ (fun a11 ha11 => ?_)
  refine zz_putf rfl fl_M_44 (zget ha11 m11) (pt_1_19 rfl rfl) (zblt rfl) ?_
  refine mi_ab ha11 m11 (fun H12 m12 c11 n11 k12 => ?_)
  replace c1 := k12 _ _ n1 c1
  replace c2 := k12 _ _ n2 c2
  replace c3 := k12 _ _ n3 c3
  replace c4 := k12 _ _ n4 c4
  replace c13 := k12 _ _ n13 c13
  replace c5 := k12 _ _ n5 c5
  replace c6 := k12 _ _ n6 c6
  replace c7 := k12 _ _ n7 c7
  replace c8 := k12 _ _ n8 c8
  replace c9 := k12 _ _ n9 c9
  replace c10 := k12 _ _ n10 c10
  replace kk := fun q e hq he => k12 q e hq (kk q e hq he)
  clear k12 m11
  refine zz_aload_n rfl rfl ?_
  refine zz_sipush rfl (by decide) ?_
  refine zz_newi 12 576 rfl ⟨by decide, by decide, by decide⟩ (fun a12 ha12 => ?_)
  refine zz_putf rfl fl_M_47 (zget ha12 m12) (pt_1_20 rfl rfl) (zblt rfl) ?_
  refine mi_ab ha12 m12 (fun H13 m13 c12 n12 k13 => ?_)
  replace c1 := k13 _ _ n1 c1
  replace c2 := k13 _ _ n2 c2
  replace c3 := k13 _ _ n3 c3
  replace c4 := k13 _ _ n4 c4
  replace c13 := k13 _ _ n13 c13
  replace c5 := k13 _ _ n5 c5
  replace c6 := k13 _ _ n6 c6
  replace c7 := k13 _ _ n7 c7
  replace c8 := k13 _ _ n8 c8
  replace c9 := k13 _ _ n9 c9
  replace c10 := k13 _ _ n10 c10
  replace c11 := k13 _ _ n11 c11
  replace kk := fun q e hq he => k13 q e hq (kk q e hq he)
  clear k13 m12
  refine zz_vret rfl rfl ⟨rfl, mAd [m, a1, a2, a3, a4, a5, a6, a7, a8, a9, a10, a11, a12, a13], rfl, ?_, kk⟩
  intro k hk
  have hc : k = 0 ∨ k = 1 ∨ k = 2 ∨ k = 3 ∨ k = 4 ∨ k = 5 ∨ k = 6 ∨ k = 7 ∨ k = 8 ∨ k = 9 ∨ k = 10 ∨ k = 11 ∨ k = 12 ∨ k = 13 := by omega
  rcases hc with rfl | rfl | rfl | rfl | rfl | rfl | rfl | rfl | rfl | rfl | rfl | rfl | rfl | rfl
  · exact m13
  · exact c1
  · exact c2
  · exact c3
  · exact c4
  · exact c5
  · exact c6
  · exact c7
  · exact c8
  · exact c9
  · exact c10
  · exact c11
  · exact c12
  · exact c13
theorem CRep0 {x hi pa : Nat} (h1 : h hi = none) (h2 : h pa = none) (h3 : hi ≠ pa) (hx : ∃ e, h x = some e) : CRep (zset (zset (zset h pa (za 4 7 (fun _ => .null))) hi (zo 7 [.ref pa, zI 0, zI 0])) x (zo 0 [.ref hi, .null, .null, zI 0, zI 0])) x sS0 := by
  obtain ⟨e, he⟩ := hx
  have n1 : x ≠ hi := zne h1 he
  have n2 : x ≠ pa := zne h2 he
  refine ⟨hi, pa, (fun _ => .null), .null, .null, zset_same _ _ _, ⟨?_, ?_⟩, ⟨(fun h => by cases h), fun _ => ⟨rfl, rfl, rfl⟩⟩, rfl, rfl, z00, by decide⟩
  · rw [zset_ne n1.symm, zset_same]; rfl
  · rw [zset_ne n2.symm, zset_ne h3.symm, zset_same]
end MIN
