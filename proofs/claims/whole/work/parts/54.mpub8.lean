section MQ6
variable {Z : ZC} {h : ZH}
/-- what of a tile is seen ahead of y, x -/
def mte (D : Nat → Nat → Int) (w x0 y0 y x : Nat) : Prop := ∃ i j : Nat, x0 ≤ i ∧ i < x0 + 8 ∧ i < w ∧ y0 ≤ j ∧ (j < y ∨ (j = y ∧ i < x)) ∧ D i j ≠ 0
noncomputable def msv (P : Prop) : Int := zb (zBool P = true)
theorem msv_t {P : Prop} (h : P) : msv P = 1 := if_pos (zBool_t.mpr h)
theorem msv_f {P : Prop} (h : ¬ P) : msv P = 0 := if_neg (fun h9 => h (zBool_t.mp h9))
theorem msv_c {P Q : Prop} (h : P ↔ Q) : msv P = msv Q := by rw [propext h]
theorem mte_s {D : Nat → Nat → Int} {w x0 y0 y x : Nat} (h1 : x0 ≤ x) (h2 : x < x0 + 8) (h3 : x < w) (h4 : y0 ≤ y) : mte D w x0 y0 y (x + 1) ↔ mte D w x0 y0 y x ∨ D x y ≠ 0 := by
  constructor
  · rintro ⟨i, j, a1, a2, a3, a4, a5, a6⟩
    by_cases g : j = y ∧ i = x
    · right; rw [← g.1, ← g.2]; exact a6
    · left; exact ⟨i, j, a1, a2, a3, a4, by omega, a6⟩
  · rintro (⟨i, j, a1, a2, a3, a4, a5, a6⟩ | h)
    · exact ⟨i, j, a1, a2, a3, a4, by omega, a6⟩
    · exact ⟨x, y, h1, h2, h3, h4, Or.inr ⟨rfl, by omega⟩, h⟩
theorem mte_e {D : Nat → Nat → Int} {w x0 y0 y xe : Nat} (hx : xe = max x0 (min (x0 + 8) w)) : mte D w x0 y0 y xe ↔ mte D w x0 y0 (y + 1) x0 := by
  constructor
  · rintro ⟨i, j, a1, a2, a3, a4, a5, a6⟩
    exact ⟨i, j, a1, a2, a3, a4, by omega, a6⟩
  · rintro ⟨i, j, a1, a2, a3, a4, a5, a6⟩
    exact ⟨i, j, a1, a2, a3, a4, by omega, a6⟩
theorem mte_0 {D : Nat → Nat → Int} {w x0 y0 : Nat} : ¬ mte D w x0 y0 y0 x0 := by
  rintro ⟨i, j, a1, a2, a3, a4, a5, a6⟩
  omega
theorem mte_n {D : Nat → Nat → Int} {w ht t ye : Nat} (hw : w ≤ 24) (hh : ht ≤ 24) (ht9 : t < 9) (hy : ye = max (t / 3 * 8) (min (t / 3 * 8 + 8) ht)) : mte D w (t % 3 * 8) (t / 3 * 8) ye (t % 3 * 8) ↔ ztx D w ht t := by
  constructor
  · rintro ⟨i, j, a1, a2, a3, a4, a5, a6⟩
    exact ⟨i, j, a3, by omega, a6, by omega⟩
  · rintro ⟨i, j, a1, a2, a3, a4⟩
    exact ⟨i, j, by omega, by omega, a1, by omega, by omega, a3⟩
theorem lp_tx {A : Nat → Nat} {X : MX} (hA : mOk A) {n w ht : Nat} {R : Nat → Nat} (hc : mc X n w ht R) {l t c : Nat} {D : Nat → Nat → Int} (hl : l < 3) (ht9 : t < 9) (hD0 : ∀ x y, x < w → y < ht → zrg (D x y)) (hdt : ∀ x y, x < w → y < ht → X.2.1 1 (1728 * n + 576 * l + 24 * y + x) = D x y) {MC MS mc ms : Nat} {Q : ZR → ZH → Prop} {y xe : Nat} (hy : (t / 3 * 8) ≤ y ∧ y < ht) (hxe : xe = max (t % 3 * 8) (min ((t % 3 * 8) + 8) w)) (kx : Ev Z (fun _ => True, m_M_tiles, 1, MC, MS) 125 [.ref (A 0), zI (c : Nat), zI (l : Nat), zI (t : Nat), zI (msv (mte D w (t % 3 * 8) (t / 3 * 8) y xe)), zI (y : Nat), zI (xe : Nat)] [] (mH h A X) mc ms Q) : ∀ (m x : Nat), x + m = xe → (t % 3 * 8) ≤ x → Ev Z (fun _ => True, m_M_tiles, 1, MC, MS) 67 [.ref (A 0), zI (c : Nat), zI (l : Nat), zI (t : Nat), zI (msv (mte D w (t % 3 * 8) (t / 3 * 8) y x)), zI (y : Nat), zI (x : Nat)] [] (mH h A X) mc ms Q := by
  have hw24 := hc.2.2.2.2.1
  have hn6 := hc.2.1
  intro m
  induction m with
  | zero =>
    intro x hx hx0
    refine zz_iload rfl rfl ?_
    refine zz_iload_n rfl rfl ?_
    refine zz_iconst rfl ?_
    refine zz_iremP rfl ⟨by omega, by omega⟩ ⟨by decide, by decide⟩ ?_
    refine zz_bipush rfl (by decide) ?_
    refine zz_imul rfl ?_
    refine zz_bipush rfl (by decide) ?_
    refine zz_iadd rfl ?_
    refine zz_icmp_ge rfl (by omega) (by omega) (fun hb78 => ?_) (fun hb78 => ?_)
    · skip
      obtain rfl : x = xe := by omega
      exact kx
    · skip
      refine zz_iload rfl rfl ?_
      refine zz_aload_n rfl rfl ?_
      refine zz_Vp rfl lk_M_100 cw_M_w rfl (m0 hA) (ct_Mw hA hc) rfl rfl rfl rfl ?_
      refine zz_icmp_ge rfl (by omega) (by omega) (fun hb87 => ?_) (fun hb87 => absurd hb87 (by omega))
      obtain rfl : x = xe := by omega
      exact kx
  | succ m ih =>
    intro x hx hx0
    have hxw : x < w := by omega
    have hs := mte_s (D := D) (w := w) (x0 := (t % 3 * 8)) (y0 := (t / 3 * 8)) (y := y) (x := x) hx0 (by omega) hxw hy.1
    refine zz_iload rfl rfl ?_
    refine zz_iload_n rfl rfl ?_
    refine zz_iconst rfl ?_
    refine zz_iremP rfl ⟨by omega, by omega⟩ ⟨by decide, by decide⟩ ?_
    refine zz_bipush rfl (by decide) ?_
    refine zz_imul rfl ?_
    refine zz_bipush rfl (by decide) ?_
    refine zz_iadd rfl ?_
    refine zz_icmp_ge rfl (by omega) (by omega) (fun hb78 => absurd hb78 (by omega)) (fun hb78 => ?_)
    refine zz_iload rfl rfl ?_
    refine zz_aload_n rfl rfl ?_
    refine zz_Vp rfl lk_M_100 cw_M_w rfl (m0 hA) (ct_Mw hA hc) rfl rfl rfl rfl ?_
    refine zz_icmp_ge rfl (by omega) (by omega) (fun hb87 => absurd hb87 (by omega)) (fun hb87 => ?_)
    refine zz_iload rfl rfl ?_
    refine zz_ifB_ne rfl (fun hb92 => ?_) (fun hb92 => ?_)
    · skip
      refine zz_iconst rfl ?_
      refine zz_goto rfl ?_
      refine zz_eq (show _ = msv (mte D w (t % 3 * 8) (t / 3 * 8) y (x + 1)) from (msv_t (hs.mpr (Or.inl (zBool_t.mp hb92)))).symm) ?_
      refine zz_istore rfl rfl rfl ?_
      refine zz_iincK ((x + 1 : Nat) : Int) rfl rfl rfl rfl (by omega) ?_
      refine zz_goto rfl ?_
      exact ih (x + 1) (by omega) (by omega)
    · skip
      refine zz_aload_n rfl rfl ?_
      refine zz_getf rfl fl_M_7 (m0 hA) rfl ?_
      refine zz_aload_n rfl rfl ?_
      refine zz_iload_n rfl rfl ?_
      refine zz_iload rfl rfl ?_
      refine zz_iload rfl rfl ?_
      refine zz_Vp rfl lk_M_132 cw_M_at rfl (m0 hA) (ct_Mat hA hc.1) rfl rfl rfl rfl ?_
      refine zz_iald rfl (m1 hA) (by decide) ⟨by omega, by omega⟩ ?_
      refine zz_eq (show _ = D x y from (congrArg (X.2.1 1) (by omega)).trans (hdt x y hxw hy.2)) ?_
      refine zz_if_eq rfl (hD0 x y hxw hy.2) (fun hb109 => ?_) (fun hb109 => ?_)
      · skip
        refine zz_iconst rfl ?_
        refine zz_eq (show _ = msv (mte D w (t % 3 * 8) (t / 3 * 8) y (x + 1)) from (msv_f (fun h9 => by rcases hs.mp h9 with h8 | h8; exact hb92 (zBool_t.mpr h8); exact h8 hb109)).symm) ?_
        refine zz_istore rfl rfl rfl ?_
        refine zz_iincK ((x + 1 : Nat) : Int) rfl rfl rfl rfl (by omega) ?_
        refine zz_goto rfl ?_
        exact ih (x + 1) (by omega) (by omega)
      · skip
        refine zz_iconst rfl ?_
        refine zz_goto rfl ?_
        refine zz_eq (show _ = msv (mte D w (t % 3 * 8) (t / 3 * 8) y (x + 1)) from (msv_t (hs.mpr (Or.inr hb109))).symm) ?_
        refine zz_istore rfl rfl rfl ?_
        refine zz_iincK ((x + 1 : Nat) : Int) rfl rfl rfl rfl (by omega) ?_
        refine zz_goto rfl ?_
        exact ih (x + 1) (by omega) (by omega)
theorem lp_ty {A : Nat → Nat} {X : MX} (hA : mOk A) {n w ht : Nat} {R : Nat → Nat} (hc : mc X n w ht R) {l t c : Nat} {D : Nat → Nat → Int} (hl : l < 3) (ht9 : t < 9) (hD0 : ∀ x y, x < w → y < ht → zrg (D x y)) (hdt : ∀ x y, x < w → y < ht → X.2.1 1 (1728 * n + 576 * l + 24 * y + x) = D x y) {MC MS mc ms : Nat} {Q : ZR → ZH → Prop} {ye : Nat} (hye : ye = max (t / 3 * 8) (min ((t / 3 * 8) + 8) ht)) (kx : Ev Z (fun _ => True, m_M_tiles, 1, MC, MS) 131 [.ref (A 0), zI (c : Nat), zI (l : Nat), zI (t : Nat), zI (msv (mte D w (t % 3 * 8) (t / 3 * 8) ye (t % 3 * 8)))] [] (mH h A X) mc ms Q) : ∀ (m y : Nat), y + m = ye → (t / 3 * 8) ≤ y → Ev Z (fun _ => True, m_M_tiles, 1, MC, MS) 36 [.ref (A 0), zI (c : Nat), zI (l : Nat), zI (t : Nat), zI (msv (mte D w (t % 3 * 8) (t / 3 * 8) y (t % 3 * 8))), zI (y : Nat)] [] (mH h A X) mc ms Q := by
  have hw24 := hc.2.2.2.2.1
  have hn6 := hc.2.1
  intro m
  induction m with
  | zero =>
    intro y hy hy0
    refine zz_iload rfl rfl ?_
    refine zz_iload_n rfl rfl ?_
    refine zz_iconst rfl ?_
    refine zz_idivP rfl ⟨by omega, by omega⟩ ⟨by decide, by decide⟩ ?_
    refine zz_bipush rfl (by decide) ?_
    refine zz_imul rfl ?_
    refine zz_bipush rfl (by decide) ?_
    refine zz_iadd rfl ?_
    refine zz_icmp_ge rfl (by omega) (by omega) (fun hb47 => ?_) (fun hb47 => ?_)
    · skip
      obtain rfl : y = ye := by omega
      refine Ev.take 5 ?_
      exact kx
    · skip
      refine zz_iload rfl rfl ?_
      refine zz_aload_n rfl rfl ?_
      refine zz_Vp rfl lk_M_96 cw_M_h rfl (m0 hA) (ct_Mh hA hc) rfl rfl rfl rfl ?_
      refine zz_icmp_ge rfl (by omega) (by omega) (fun hb56 => ?_) (fun hb56 => absurd hb56 (by omega))
      obtain rfl : y = ye := by omega
      refine Ev.take 5 ?_
      exact kx
  | succ m ih =>
    intro y hy hy0
    refine zz_iload rfl rfl ?_
    refine zz_iload_n rfl rfl ?_
    refine zz_iconst rfl ?_
    refine zz_idivP rfl ⟨by omega, by omega⟩ ⟨by decide, by decide⟩ ?_
    refine zz_bipush rfl (by decide) ?_
    refine zz_imul rfl ?_
    refine zz_bipush rfl (by decide) ?_
    refine zz_iadd rfl ?_
    refine zz_icmp_ge rfl (by omega) (by omega) (fun hb47 => absurd hb47 (by omega)) (fun hb47 => ?_)
    refine zz_iload rfl rfl ?_
    refine zz_aload_n rfl rfl ?_
    refine zz_Vp rfl lk_M_96 cw_M_h rfl (m0 hA) (ct_Mh hA hc) rfl rfl rfl rfl ?_
    refine zz_icmp_ge rfl (by omega) (by omega) (fun hb56 => absurd hb56 (by omega)) (fun hb56 => ?_)
    refine zz_iload_n rfl rfl ?_
    refine zz_iconst rfl ?_
    refine zz_iremP rfl ⟨by omega, by omega⟩ ⟨by decide, by decide⟩ ?_
    refine zz_bipush rfl (by decide) ?_
    refine zz_imul rfl ?_
    refine zz_eq (show _ = (((t % 3 * 8) : Nat) : Int) from by omega) ?_
    refine zz_istore rfl rfl rfl ?_
    refine lp_tx (c := c) hA hc hl ht9 hD0 hdt (y := y) (xe := max (t % 3 * 8) (min ((t % 3 * 8) + 8) w)) ⟨hy0, by omega⟩ rfl ?_ (max (t % 3 * 8) (min ((t % 3 * 8) + 8) w) - (t % 3 * 8)) (t % 3 * 8) (by omega) (Nat.le_refl _)
    rw [msv_c (mte_e rfl)]
    refine zz_iincK ((y + 1 : Nat) : Int) rfl rfl rfl rfl (by omega) ?_
    refine zz_goto rfl ?_
    refine Ev.take 6 ?_
    exact ih (y + 1) (by omega) (by omega)
theorem lp_tt {A : Nat → Nat} {X : MX} (hA : mOk A) {n w ht : Nat} {R : Nat → Nat} (hc : mc X n w ht R) {l c : Nat} {D : Nat → Nat → Int} (hl : l < 3) (hc100 : c ≤ 100) (hD0 : ∀ x y, x < w → y < ht → zrg (D x y)) (hdt : ∀ x y, x < w → y < ht → X.2.1 1 (1728 * n + 576 * l + 24 * y + x) = D x y) {MC MS mc ms : Nat} {Q : ZR → ZH → Prop} (kx : Ev Z (fun _ => True, m_M_tiles, 1, MC, MS) 150 [.ref (A 0), zI ((c + zc1 (fun t => zBool (ztx D w ht t)) 9 : Nat) : Int), zI (l : Nat), zI (9 : Nat)] [] (mH h A X) mc ms Q) : ∀ (m t : Nat), t + m = 9 → Ev Z (fun _ => True, m_M_tiles, 1, MC, MS) 19 [.ref (A 0), zI ((c + zc1 (fun t => zBool (ztx D w ht t)) t : Nat) : Int), zI (l : Nat), zI (t : Nat)] [] (mH h A X) mc ms Q := by
  have hw24 := hc.2.2.2.2.1
  have hn6 := hc.2.1
  intro m
  induction m with
  | zero =>
    intro t htt
    refine zz_iload_n rfl rfl ?_
    refine zz_bipush rfl (by decide) ?_
    refine zz_icmp_ge rfl (by omega) (by omega) (fun hb22 => ?_) (fun hb22 => absurd hb22 (by omega))
    obtain rfl : t = 9 := by omega
    exact kx
  | succ m ih =>
    intro t htt
    have ht9 : t < 9 := by omega
    refine zz_iload_n rfl rfl ?_
    refine zz_bipush rfl (by decide) ?_
    refine zz_icmp_ge rfl (by omega) (by omega) (fun hb22 => absurd hb22 (by omega)) (fun hb22 => ?_)
    refine zz_iconst rfl ?_
    refine zz_eq (show (0 : Int) = msv (mte D w (t % 3 * 8) (t / 3 * 8) (t / 3 * 8) (t % 3 * 8)) from (msv_f mte_0).symm) ?_
    refine zz_istore rfl rfl rfl ?_
    refine zz_iload_n rfl rfl ?_
    refine zz_iconst rfl ?_
    refine zz_idivP rfl ⟨by omega, by omega⟩ ⟨by decide, by decide⟩ ?_
    refine zz_bipush rfl (by decide) ?_
    refine zz_imul rfl ?_
    refine zz_eq (show _ = (((t / 3 * 8) : Nat) : Int) from by omega) ?_
    refine zz_istore rfl rfl rfl ?_
    refine lp_ty (c := c + zc1 (fun t => zBool (ztx D w ht t)) t) hA hc hl ht9 hD0 hdt (ye := max (t / 3 * 8) (min ((t / 3 * 8) + 8) ht)) rfl ?_ (max (t / 3 * 8) (min ((t / 3 * 8) + 8) ht) - (t / 3 * 8)) (t / 3 * 8) (by omega) (Nat.le_refl _)
    rw [msv_c (mte_n hw24.1 hw24.2 ht9 rfl)]
    refine zz_iload_n rfl rfl ?_
    refine zz_iload rfl rfl ?_
    refine zz_ifB_eq rfl (fun hb134 => ?_) (fun hb134 => ?_)
    · skip
      refine zz_iconst rfl ?_
      refine zz_iadd rfl ?_
      refine zz_eq (show _ = ((c + zc1 (fun t => zBool (ztx D w ht t)) (t + 1) : Nat) : Int) from by show _ = ((c + (zc1 _ t + (if zBool (ztx D w ht t) = true then 1 else 0)) : Nat) : Int); rw [if_neg hb134]; omega) ?_
      refine zz_istore_n rfl rfl rfl ?_
      refine zz_iincK ((t + 1 : Nat) : Int) rfl rfl rfl rfl (by omega) ?_
      refine zz_goto rfl ?_
      refine Ev.take 4 ?_
      exact ih (t + 1) (by omega)
    · skip
      refine zz_iconst rfl ?_
      refine zz_goto rfl ?_
      refine zz_iadd rfl ?_
      refine zz_eq (show _ = ((c + zc1 (fun t => zBool (ztx D w ht t)) (t + 1) : Nat) : Int) from by show _ = ((c + (zc1 _ t + (if zBool (ztx D w ht t) = true then 1 else 0)) : Nat) : Int); rw [if_pos hb134]; omega) ?_
      refine zz_istore_n rfl rfl rfl ?_
      refine zz_iincK ((t + 1 : Nat) : Int) rfl rfl rfl rfl (by omega) ?_
      refine zz_goto rfl ?_
      refine Ev.take 4 ?_
      exact ih (t + 1) (by omega)
theorem lp_tl {A : Nat → Nat} {X : MX} (hA : mOk A) {n w ht : Nat} {R : Nat → Nat} (hc : mc X n w ht R) {P : SP} (h5 : X.2.1 5 n = (sn P : Int)) (hn3 : sn P ≤ 3) (hD0 : ∀ l, l < sn P → ∀ x y, x < w → y < ht → zrg (sD (sl P l) x y)) (hdt : ∀ l, l < sn P → ∀ x y, x < w → y < ht → X.2.1 1 (1728 * n + 576 * l + 24 * y + x) = sD (sl P l) x y) {MC MS mc ms : Nat} {Q : ZR → ZH → Prop} (kx : Ev Z (fun _ => True, m_M_tiles, 1, MC, MS) 156 [.ref (A 0), zI ((zfl (fun i => sD (sl P i)) w ht (sn P) : Nat) : Int), zI (sn P : Nat)] [] (mH h A X) mc ms Q) : ∀ (m l : Nat), l + m = sn P → zfl (fun i => sD (sl P i)) w ht l ≤ 9 * l → Ev Z (fun _ => True, m_M_tiles, 1, MC, MS) 4 [.ref (A 0), zI ((zfl (fun i => sD (sl P i)) w ht l : Nat) : Int), zI (l : Nat)] [] (mH h A X) mc ms Q := by
  have hw24 := hc.2.2.2.2.1
  have hn6 := hc.2.1
  intro m
  induction m with
  | zero =>
    intro l hl hz
    refine zz_iload_n rfl rfl ?_
    refine zz_aload_n rfl rfl ?_
    refine zz_getf rfl fl_M_26 (m0 hA) rfl ?_
    refine zz_aload_n rfl rfl ?_
    refine zz_getf rfl fl_M_58 (m0 hA) rfl ?_
    refine zz_eq hc.1 ?_
    refine zz_iald rfl (m5 hA) (by decide) ⟨by omega, by omega⟩ ?_
    refine zz_eq h5 ?_
    refine zz_icmp_ge rfl (by omega) (by omega) (fun hb14 => ?_) (fun hb14 => absurd hb14 (by omega))
    obtain rfl : l = sn P := by omega
    exact kx
  | succ m ih =>
    intro l hl hz
    have hz2 := ztl_le (sD (sl P l)) w ht
    refine zz_iload_n rfl rfl ?_
    refine zz_aload_n rfl rfl ?_
    refine zz_getf rfl fl_M_26 (m0 hA) rfl ?_
    refine zz_aload_n rfl rfl ?_
    refine zz_getf rfl fl_M_58 (m0 hA) rfl ?_
    refine zz_eq hc.1 ?_
    refine zz_iald rfl (m5 hA) (by decide) ⟨by omega, by omega⟩ ?_
    refine zz_eq h5 ?_
    refine zz_icmp_ge rfl (by omega) (by omega) (fun hb14 => absurd hb14 (by omega)) (fun hb14 => ?_)
    refine zz_iconst rfl ?_
    refine zz_istore_n rfl rfl rfl ?_
    refine lp_tt (c := zfl (fun i => sD (sl P i)) w ht l) (D := sD (sl P l)) hA hc (by omega) (by omega) (hD0 l (by omega)) (hdt l (by omega)) ?_ 9 0 (by omega)
    refine zz_iincK ((l + 1 : Nat) : Int) rfl rfl rfl rfl (by omega) ?_
    refine zz_goto rfl ?_
    refine Ev.take 3 ?_
    exact ih (l + 1) (by omega) (by show zfl _ _ _ l + ztl (sD (sl P l)) w ht ≤ _; omega)
theorem ct_Mtiles {A : Nat → Nat} {X : MX} (hA : mOk A) {S : SS} (hM : mrel X S) (hk : okS S) (hh : sHas S = true) : Ct Z m_M_tiles 1 0 0 [.ref (A 0)] (mH h A X) (zP (zI ((sTl (sCur S) : Nat) : Int)) (mH h A X)) := by
  have hc := hM.mc hk hh
  obtain ⟨k1, k2, k3⟩ := hk.1 hh
  have hP : okP (sCur S) := k3 _ k1
  have hs := hM.2.2.2.2.2.2.2.1 hh _ k1
  refine zct rfl (by decide) ok_M_tiles rfl rfl ?_
  refine zz_iconst rfl ?_
  refine zz_istore_n rfl rfl rfl ?_
  refine zz_iconst rfl ?_
  refine zz_istore_n rfl rfl rfl ?_
  refine lp_tl (P := sCur S) hA hc hs.2.2.1 hP.2.2.1.2 (fun l hl => (hP.2.2.2.1 l hl).2.2.2) (fun l hl => (hs.2.2.2.2 l hl).2.2.2) ?_ (sn (sCur S)) 0 (by omega) (Nat.le_refl _)
  refine zz_iload_n rfl rfl ?_
  refine zz_iret rfl rfl ⟨rfl, rfl⟩
theorem md_save {A : Nat → Nat} {X : MX} (hA : mOk A) {S : SS} (hM : mrel X S) (hk : okS S) {m : Int} (hm : zrg m) : Ct Z m_M_save 2 0 0 [.ref (A 0), zI m] (mH h A X) (mdI h A S (sHas S = true) (True) (if 0 ≤ m ∧ m < (sTl (sCur S) : Int) + 1 then m else (sTl (sCur S) : Int) + 1) (if 0 ≤ m ∧ m < (sTl (sCur S) : Int) + 1 then S else sSav S)) := by
  rcases zbool (sHas S) with hhas | hhas
  · have h1 : X.1 1 = 0 := by have h9 := hM.1; rw [hhas] at h9; exact h9
    refine zct rfl (by decide) ok_M_save rfl rfl ?_
    refine zz_aload_n rfl rfl ?_
    refine zz_aload_n rfl rfl ?_
    refine zz_getf rfl fl_M_67 (m0 hA) rfl ?_
    refine zz_eq h1 ?_
    refine zz_if_ne rfl ⟨by decide, by decide⟩ (fun hb5 => absurd hb5 (by decide)) (fun hb5 => ?_)
    refine zz_iconst rfl ?_
    refine zz_goto rfl ?_
    refine zz_V rfl lk_M_75 cw_M_refuse rfl (m0 hA) (ct_Mrefuse1 hA) rfl rfl rfl rfl ?_
    rintro _ _ ⟨rfl, rfl⟩
    refine zaft_v ?_
    refine zz_if_eq rfl ⟨by decide, by decide⟩ (fun hb16 => absurd hb16 (by decide)) (fun hb16 => ?_)
    refine zz_iconst rfl ?_
    refine zz_iret rfl rfl ⟨0, rfl, z00, _, rfl, Or.inl ⟨(fun g => absurd g (by rw [hhas]; decide)), rfl, hM.S0 _⟩⟩
  · have h1 : X.1 1 = 1 := by have h9 := hM.1; rw [hhas] at h9; exact h9
    obtain ⟨k1, k2, k3⟩ := hk.1 hhas
    have hP : okP (sCur S) := k3 _ k1
    have htl := sTl_le (P := sCur S) hP.2.2.1.2
    refine zct rfl (by decide) ok_M_save rfl rfl ?_
    refine zz_aload_n rfl rfl ?_
    refine zz_aload_n rfl rfl ?_
    refine zz_getf rfl fl_M_67 (m0 hA) rfl ?_
    refine zz_eq h1 ?_
    refine zz_if_ne rfl ⟨by decide, by decide⟩ (fun hb5 => ?_) (fun hb5 => absurd hb5 (by decide))
    refine zz_iconst rfl ?_
    refine zz_V rfl lk_M_75 cw_M_refuse rfl (m0 hA) (ct_Mrefuse0 hA) rfl rfl rfl rfl ?_
    rintro _ _ ⟨rfl, rfl⟩
    refine zaft_v ?_
    refine zz_if_eq rfl ⟨by decide, by decide⟩ (fun hb16 => ?_) (fun hb16 => absurd hb16 (by decide))
    refine zz_aload_n rfl rfl ?_
    refine zz_Vp rfl lk_M_167 cw_M_tiles rfl (m0 hA) (ct_Mtiles hA (hM.S0 0) hk hhas) rfl rfl rfl rfl ?_
    refine zz_iconst rfl ?_
    refine zz_iadd rfl ?_
    refine zz_istore_n rfl rfl rfl ?_
    refine zz_iload_n rfl rfl ?_
    refine zz_if_lt rfl hm (fun hb29 => ?_) (fun hb29 => ?_)
    · skip
      refine zz_aload_n rfl rfl ?_
      refine zz_bipush rfl (by decide) ?_
      refine zz_aload_n rfl rfl ?_
      refine zz_getf rfl fl_M_58 (m0 hA) rfl ?_
      refine zz_eq (show _ = ((sNow S : Nat) : Int) from hM.2.2.2.1) ?_
      refine zz_Vu rfl lk_M_61 cw_M_copyPicture rfl (m0 hA) (ct_Mcp (X := mS X 0 0) (to := 7) (of_ := sNow S) hA (by decide) (by omega) (by omega) hM.2.2.2.2.2.2.2.2.2.2) rfl rfl rfl rfl ?_
      refine zz_aload_n rfl rfl ?_
      refine zz_iconst rfl ?_
      refine zz_putf rfl fl_M_170 (m0 hA) (pt_1_10 rfl rfl) (zblt rfl) ?_
      refine Ev.heap (ws2 hA) ?_
      refine zz_iload_n rfl rfl ?_
      refine zz_iret rfl rfl ⟨((sTl (sCur S) : Nat) : Int) + 1, rfl, ⟨by omega, by omega⟩, (mS (mCP (mS X 0 0) 7 (sNow S)) 2 1), rfl, Or.inr (Or.inr ⟨hhas, trivial, rfl, (if_neg (by omega)).symm, ?_⟩)⟩
      rw [if_neg (by omega)]
      obtain ⟨a1, a2, a3, a4, a5, a6, a7, a8, a9, a10, a11⟩ := id hM
      refine ⟨a1, rfl, a3, a4, a5, a6, a7, fun hh i hi => ?_, fun P hP2 => ?_, a10, fun i => mCP_B a11 i⟩
      · have hi2 : i ≤ sLast S := hi
        exact mCP_ot (X := mS X 0 0) (a8 hh i hi2) (k3 i hi2) (by omega)
      · have e9 : sCur S = P := Option.some.inj hP2
        subst e9
        exact mCP_to (X := mS X 0 0) (a8 hhas _ k1) hP
    · skip
      refine zz_iload_n rfl rfl ?_
      refine zz_iload_n rfl rfl ?_
      refine zz_icmp_ge rfl hm (by omega) (fun hb34 => ?_) (fun hb34 => ?_)
      · skip
        refine zz_aload_n rfl rfl ?_
        refine zz_bipush rfl (by decide) ?_
        refine zz_aload_n rfl rfl ?_
        refine zz_getf rfl fl_M_58 (m0 hA) rfl ?_
        refine zz_eq (show _ = ((sNow S : Nat) : Int) from hM.2.2.2.1) ?_
        refine zz_Vu rfl lk_M_61 cw_M_copyPicture rfl (m0 hA) (ct_Mcp (X := mS X 0 0) (to := 7) (of_ := sNow S) hA (by decide) (by omega) (by omega) hM.2.2.2.2.2.2.2.2.2.2) rfl rfl rfl rfl ?_
        refine zz_aload_n rfl rfl ?_
        refine zz_iconst rfl ?_
        refine zz_putf rfl fl_M_170 (m0 hA) (pt_1_10 rfl rfl) (zblt rfl) ?_
        refine Ev.heap (ws2 hA) ?_
        refine zz_iload_n rfl rfl ?_
        refine zz_iret rfl rfl ⟨((sTl (sCur S) : Nat) : Int) + 1, rfl, ⟨by omega, by omega⟩, (mS (mCP (mS X 0 0) 7 (sNow S)) 2 1), rfl, Or.inr (Or.inr ⟨hhas, trivial, rfl, (if_neg (by omega)).symm, ?_⟩)⟩
        rw [if_neg (by omega)]
        obtain ⟨a1, a2, a3, a4, a5, a6, a7, a8, a9, a10, a11⟩ := id hM
        refine ⟨a1, rfl, a3, a4, a5, a6, a7, fun hh i hi => ?_, fun P hP2 => ?_, a10, fun i => mCP_B a11 i⟩
        · have hi2 : i ≤ sLast S := hi
          exact mCP_ot (X := mS X 0 0) (a8 hh i hi2) (k3 i hi2) (by omega)
        · have e9 : sCur S = P := Option.some.inj hP2
          subst e9
          exact mCP_to (X := mS X 0 0) (a8 hhas _ k1) hP
      · skip
        refine zz_iload_n rfl rfl ?_
        refine zz_iret rfl rfl ⟨m, rfl, hm, _, rfl, Or.inr (Or.inr ⟨hhas, trivial, rfl, (if_pos ⟨by omega, by omega⟩).symm, by rw [if_pos ⟨by omega, by omega⟩]; exact hM.S0 _⟩)⟩
theorem md_open {A : Nat → Nat} {X : MX} (hA : mOk A) {S : SS} (hM : mrel X S) (hk : okS S) : Ct Z m_M_open 2 0 0 [.ref (A 0)] (mH h A X) (mdV h A S ((sFile S).isSome = true) (True) (sBeg S ((sFile S).getD sP0))) := by
  rcases hF : sFile S with - | P
  · have h2 : X.1 2 = 0 := by have h9 := hM.2.1; rw [hF] at h9; exact h9
    refine zct rfl (by decide) ok_M_open rfl rfl ?_
    refine zz_aload_n rfl rfl ?_
    refine zz_aload_n rfl rfl ?_
    refine zz_getf rfl fl_M_170 (m0 hA) rfl ?_
    refine zz_eq h2 ?_
    refine zz_if_eq rfl ⟨by decide, by decide⟩ (fun hb5 => ?_) (fun hb5 => absurd hb5 (by decide))
    refine zz_iconst rfl ?_
    refine zz_putf rfl fl_M_50 (m0 hA) (pt_1_0 rfl rfl) (zblt rfl) ?_
    refine Ev.heap (ws0 hA) ?_
    refine zz_aload_n rfl rfl ?_
    refine zz_getf rfl fl_M_50 (m0 hA) rfl ?_
    refine zz_eq (show _ = (1 : Int) from rfl) ?_
    refine zz_if_le rfl ⟨by decide, by decide⟩ (fun hb20 => absurd hb20 (by decide)) (fun hb20 => ?_)
    refine zz_vret rfl rfl ⟨rfl, _, rfl, Or.inl ⟨(fun g => by cases g), rfl, hM.S0 _⟩⟩
  · have h2 : X.1 2 = 1 := by have h9 := hM.2.1; rw [hF] at h9; exact h9
    have hkP := hk.2.2.1 P hF
    refine zct rfl (by decide) ok_M_open rfl rfl ?_
    refine zz_aload_n rfl rfl ?_
    refine zz_aload_n rfl rfl ?_
    refine zz_getf rfl fl_M_170 (m0 hA) rfl ?_
    refine zz_eq h2 ?_
    refine zz_if_eq rfl ⟨by decide, by decide⟩ (fun hb5 => absurd hb5 (by decide)) (fun hb5 => ?_)
    refine zz_iconst rfl ?_
    refine zz_goto rfl ?_
    refine zz_putf rfl fl_M_50 (m0 hA) (pt_1_0 rfl rfl) (zblt rfl) ?_
    refine Ev.heap (ws0 hA) ?_
    refine zz_aload_n rfl rfl ?_
    refine zz_getf rfl fl_M_50 (m0 hA) rfl ?_
    refine zz_eq (show _ = (0 : Int) from rfl) ?_
    refine zz_if_le rfl ⟨by decide, by decide⟩ (fun hb20 => ?_) (fun hb20 => absurd hb20 (by decide))
    refine zz_aload_n rfl rfl ?_
    refine zz_iconst rfl ?_
    refine zz_putf rfl fl_M_58 (m0 hA) (pt_1_12 rfl rfl) (zblt rfl) ?_
    refine Ev.heap (ws4 hA) ?_
    refine zz_aload_n rfl rfl ?_
    refine zz_iconst rfl ?_
    refine zz_putf rfl fl_M_64 (m0 hA) (pt_1_13 rfl rfl) (zblt rfl) ?_
    refine Ev.heap (ws5 hA) ?_
    refine zz_aload_n rfl rfl ?_
    refine zz_iconst rfl ?_
    refine zz_putf rfl fl_M_67 (m0 hA) (pt_1_9 rfl rfl) (zblt rfl) ?_
    refine Ev.heap (ws1 hA) ?_
    refine zz_aload_n rfl rfl ?_
    refine zz_iconst rfl ?_
    refine zz_bipush rfl (by decide) ?_
    refine zz_Vu rfl lk_M_61 cw_M_copyPicture rfl (m0 hA) (ct_Mcp (X := mS (mS (mS (mS X 0 0) 4 0) 5 0) 1 1) (to := 0) (of_ := 7) hA (by decide) (by decide) (by decide) hM.2.2.2.2.2.2.2.2.2.2) rfl rfl rfl rfl ?_
    refine zz_vret rfl rfl ⟨rfl, mCP (mS (mS (mS (mS X 0 0) 4 0) 5 0) 1 1) 0 7, rfl, Or.inr (Or.inr ⟨rfl, trivial, rfl, ?_⟩)⟩
    obtain ⟨a1, a2, a3, a4, a5, a6, a7, a8, a9, a10, a11⟩ := id hM
    refine ⟨rfl, a2, a3, rfl, rfl, a6, a7, fun hh i hi => ?_, fun P2 hP2 => ?_, a10, fun i => mCP_B a11 i⟩
    · have hi0 : i = 0 := Nat.le_zero.mp hi
      subst hi0
      exact mCP_to (X := mS (mS (mS (mS X 0 0) 4 0) 5 0) 1 1) (a9 P hF) hkP
    · exact mCP_ot (X := mS (mS (mS (mS X 0 0) 4 0) 5 0) 1 1) (a9 P2 hP2) (hk.2.2.1 P2 hP2) (by decide)
theorem md_count {A : Nat → Nat} {X : MX} (hA : mOk A) {S : SS} (hM : mrel X S) (hk : okS S) {k : Int} (hk0 : zrg k) : Ct Z m_M_count 2 0 0 [.ref (A 0), zI k] (mH h A X) (mdI h A S (True) (True) (sCnt S k) (S)) := by
  by_cases hk5 : 0 ≤ k ∧ k ≤ 5
  · rcases zbool (sHas S) with hhas | hhas
    · have h1 : X.1 1 = 0 := by have h9 := hM.1; rw [hhas] at h9; exact h9
      have e9 : sCnt S k = 0 := by unfold sCnt; rw [if_pos hk5, hhas]; rfl
      rw [e9]
      refine zct rfl (by decide) ok_M_count rfl rfl ?_
      refine zz_aload_n rfl rfl ?_
      refine zz_iconst rfl ?_
      refine zz_putf rfl fl_M_50 (m0 hA) (pt_1_0 rfl rfl) (zblt rfl) ?_
      refine Ev.heap (ws0 hA) ?_
      refine zz_iload_n rfl rfl ?_
      refine zz_iconst rfl ?_
      refine zz_iconst rfl ?_
      refine zz_Sp rfl lk_M_71 cw_M_in (ct_Min hk0 ⟨by decide, by decide⟩ ⟨by decide, by decide⟩) rfl rfl rfl rfl ?_
      refine zz_ifB_ne rfl (fun hb11 => ?_) (fun hb11 => absurd hb11 (by omega))
      refine zz_aload_n rfl rfl ?_
      refine zz_getf rfl fl_M_67 (m0 hA) rfl ?_
      refine zz_eq h1 ?_
      refine zz_if_ne rfl ⟨by decide, by decide⟩ (fun hb20 => absurd hb20 (by decide)) (fun hb20 => ?_)
      refine zz_iconst rfl ?_
      refine zz_iret rfl rfl ⟨0, rfl, ⟨by omega, by omega⟩, _, rfl, Or.inr (Or.inr ⟨trivial, trivial, rfl, rfl, hM.S0 _⟩)⟩
    · have h1 : X.1 1 = 1 := by have h9 := hM.1; rw [hhas] at h9; exact h9
      obtain ⟨k1, k2, k3⟩ := hk.1 hhas
      have hP : okP (sCur S) := k3 _ k1
      have hc : mc (mS X 0 0) (sNow S) (sw (sCur S)) (sh (sCur S)) (sr (sCur S)) := hM.mc hk hhas
      have h4 : X.1 4 = (sNow S : Int) := hM.2.2.2.1
      have hl5 : X.1 5 = (sLast S : Int) := hM.2.2.2.2.1
      have h5 : X.2.1 5 (sNow S) = (sn (sCur S) : Int) := (hM.2.2.2.2.2.2.2.1 hhas _ k1).2.2.1
      have htl := sTl_le (P := sCur S) hP.2.2.1.2
      obtain ⟨⟨hw1, hw⟩, ⟨hh1, hh⟩, ⟨hn1, hn⟩, hkL, hkR⟩ := id hP
      have hct : sCt (sCur S) ≤ 576 := by
        have e8 := zc2_le (fun j i => (sr (sCur S) j).testBit i) (sw (sCur S)) (sh (sCur S))
        have e7 := Nat.mul_le_mul hw hh
        have e6 : sCt (sCur S) = zc2 (fun j i => (sr (sCur S) j).testBit i) (sw (sCur S)) (sh (sCur S)) := rfl
        omega
      have h06 : k = 0 ∨ k = 1 ∨ k = 2 ∨ k = 3 ∨ k = 4 ∨ k = 5 := by omega
      rcases h06 with rfl | rfl | rfl | rfl | rfl | rfl
      · have e9 : sCnt S 0 = (sn (sCur S) : Int) := by unfold sCnt; rw [if_pos hk5, hhas]; rfl
        rw [e9]
        refine zct rfl (by decide) ok_M_count rfl rfl ?_
        refine zz_aload_n rfl rfl ?_
        refine zz_iconst rfl ?_
        refine zz_putf rfl fl_M_50 (m0 hA) (pt_1_0 rfl rfl) (zblt rfl) ?_
        refine Ev.heap (ws0 hA) ?_
        refine zz_iload_n rfl rfl ?_
        refine zz_iconst rfl ?_
        refine zz_iconst rfl ?_
        refine zz_Sp rfl lk_M_71 cw_M_in (ct_Min hk0 ⟨by decide, by decide⟩ ⟨by decide, by decide⟩) rfl rfl rfl rfl ?_
        refine zz_ifB_ne rfl (fun hb11 => ?_) (fun hb11 => absurd hb11 (by omega))
        refine zz_aload_n rfl rfl ?_
        refine zz_getf rfl fl_M_67 (m0 hA) rfl ?_
        refine zz_eq h1 ?_
        refine zz_if_ne rfl ⟨by decide, by decide⟩ (fun hb20 => ?_) (fun hb20 => absurd hb20 (by decide))
        refine zz_iload_n rfl rfl ?_
        refine zz_if_ne rfl (by omega) (fun hb26 => absurd hb26 (by first | decide | omega)) (fun hb26 => ?_)
        refine zz_aload_n rfl rfl ?_
        refine zz_getf rfl fl_M_26 (m0 hA) rfl ?_
        refine zz_aload_n rfl rfl ?_
        refine zz_getf rfl fl_M_58 (m0 hA) rfl ?_
        refine zz_eq h4 ?_
        refine zz_iald rfl (m5 hA) (by decide) ⟨by omega, by omega⟩ ?_
        refine zz_eq h5 ?_
        refine zz_iret rfl rfl ⟨(sn (sCur S) : Int), rfl, ⟨by omega, by omega⟩, _, rfl, Or.inr (Or.inr ⟨trivial, trivial, rfl, rfl, hM.S0 _⟩)⟩
      · have e9 : sCnt S 1 = (sNow S : Int) := by unfold sCnt; rw [if_pos hk5, hhas]; rfl
        rw [e9]
        refine zct rfl (by decide) ok_M_count rfl rfl ?_
        refine zz_aload_n rfl rfl ?_
        refine zz_iconst rfl ?_
        refine zz_putf rfl fl_M_50 (m0 hA) (pt_1_0 rfl rfl) (zblt rfl) ?_
        refine Ev.heap (ws0 hA) ?_
        refine zz_iload_n rfl rfl ?_
        refine zz_iconst rfl ?_
        refine zz_iconst rfl ?_
        refine zz_Sp rfl lk_M_71 cw_M_in (ct_Min hk0 ⟨by decide, by decide⟩ ⟨by decide, by decide⟩) rfl rfl rfl rfl ?_
        refine zz_ifB_ne rfl (fun hb11 => ?_) (fun hb11 => absurd hb11 (by omega))
        refine zz_aload_n rfl rfl ?_
        refine zz_getf rfl fl_M_67 (m0 hA) rfl ?_
        refine zz_eq h1 ?_
        refine zz_if_ne rfl ⟨by decide, by decide⟩ (fun hb20 => ?_) (fun hb20 => absurd hb20 (by decide))
        refine zz_iload_n rfl rfl ?_
        refine zz_if_ne rfl (by omega) (fun hb26 => ?_) (fun hb26 => absurd hb26 (by first | decide | omega))
        refine zz_iload_n rfl rfl ?_
        refine zz_iconst rfl ?_
        refine zz_icmp_ne rfl (by omega) (by omega) (fun hb41 => absurd hb41 (by first | decide | omega)) (fun hb41 => ?_)
        refine zz_aload_n rfl rfl ?_
        refine zz_getf rfl fl_M_58 (m0 hA) rfl ?_
        refine zz_eq h4 ?_
        refine zz_iret rfl rfl ⟨(sNow S : Int), rfl, ⟨by omega, by omega⟩, _, rfl, Or.inr (Or.inr ⟨trivial, trivial, rfl, rfl, hM.S0 _⟩)⟩
      · have e9 : sCnt S 2 = (sLast S : Int) - sNow S := by unfold sCnt; rw [if_pos hk5, hhas]; rfl
        rw [e9]
        refine zct rfl (by decide) ok_M_count rfl rfl ?_
        refine zz_aload_n rfl rfl ?_
        refine zz_iconst rfl ?_
        refine zz_putf rfl fl_M_50 (m0 hA) (pt_1_0 rfl rfl) (zblt rfl) ?_
        refine Ev.heap (ws0 hA) ?_
        refine zz_iload_n rfl rfl ?_
        refine zz_iconst rfl ?_
        refine zz_iconst rfl ?_
        refine zz_Sp rfl lk_M_71 cw_M_in (ct_Min hk0 ⟨by decide, by decide⟩ ⟨by decide, by decide⟩) rfl rfl rfl rfl ?_
        refine zz_ifB_ne rfl (fun hb11 => ?_) (fun hb11 => absurd hb11 (by omega))
        refine zz_aload_n rfl rfl ?_
        refine zz_getf rfl fl_M_67 (m0 hA) rfl ?_
        refine zz_eq h1 ?_
        refine zz_if_ne rfl ⟨by decide, by decide⟩ (fun hb20 => ?_) (fun hb20 => absurd hb20 (by decide))
        refine zz_iload_n rfl rfl ?_
        refine zz_if_ne rfl (by omega) (fun hb26 => ?_) (fun hb26 => absurd hb26 (by first | decide | omega))
        refine zz_iload_n rfl rfl ?_
        refine zz_iconst rfl ?_
        refine zz_icmp_ne rfl (by omega) (by omega) (fun hb41 => ?_) (fun hb41 => absurd hb41 (by first | decide | omega))
        refine zz_iload_n rfl rfl ?_
        refine zz_iconst rfl ?_
        refine zz_icmp_ne rfl (by omega) (by omega) (fun hb51 => absurd hb51 (by first | decide | omega)) (fun hb51 => ?_)
        refine zz_aload_n rfl rfl ?_
        refine zz_getf rfl fl_M_64 (m0 hA) rfl ?_
        refine zz_eq hl5 ?_
        refine zz_aload_n rfl rfl ?_
        refine zz_getf rfl fl_M_58 (m0 hA) rfl ?_
        refine zz_eq h4 ?_
        refine zz_isub rfl ?_
        refine zz_iret rfl rfl ⟨(sLast S : Int) - sNow S, rfl, ⟨by omega, by omega⟩, _, rfl, Or.inr (Or.inr ⟨trivial, trivial, rfl, rfl, hM.S0 _⟩)⟩
      · have e9 : sCnt S 3 = ((sTl (sCur S) : Nat) : Int) := by unfold sCnt; rw [if_pos hk5, hhas]; rfl
        rw [e9]
        refine zct rfl (by decide) ok_M_count rfl rfl ?_
        refine zz_aload_n rfl rfl ?_
        refine zz_iconst rfl ?_
        refine zz_putf rfl fl_M_50 (m0 hA) (pt_1_0 rfl rfl) (zblt rfl) ?_
        refine Ev.heap (ws0 hA) ?_
        refine zz_iload_n rfl rfl ?_
        refine zz_iconst rfl ?_
        refine zz_iconst rfl ?_
        refine zz_Sp rfl lk_M_71 cw_M_in (ct_Min hk0 ⟨by decide, by decide⟩ ⟨by decide, by decide⟩) rfl rfl rfl rfl ?_
        refine zz_ifB_ne rfl (fun hb11 => ?_) (fun hb11 => absurd hb11 (by omega))
        refine zz_aload_n rfl rfl ?_
        refine zz_getf rfl fl_M_67 (m0 hA) rfl ?_
        refine zz_eq h1 ?_
        refine zz_if_ne rfl ⟨by decide, by decide⟩ (fun hb20 => ?_) (fun hb20 => absurd hb20 (by decide))
        refine zz_iload_n rfl rfl ?_
        refine zz_if_ne rfl (by omega) (fun hb26 => ?_) (fun hb26 => absurd hb26 (by first | decide | omega))
        refine zz_iload_n rfl rfl ?_
        refine zz_iconst rfl ?_
        refine zz_icmp_ne rfl (by omega) (by omega) (fun hb41 => ?_) (fun hb41 => absurd hb41 (by first | decide | omega))
        refine zz_iload_n rfl rfl ?_
        refine zz_iconst rfl ?_
        refine zz_icmp_ne rfl (by omega) (by omega) (fun hb51 => ?_) (fun hb51 => absurd hb51 (by first | decide | omega))
        refine zz_iload_n rfl rfl ?_
        refine zz_iconst rfl ?_
        refine zz_icmp_ne rfl (by omega) (by omega) (fun hb66 => absurd hb66 (by first | decide | omega)) (fun hb66 => ?_)
        refine zz_aload_n rfl rfl ?_
        refine zz_Vp rfl lk_M_167 cw_M_tiles rfl (m0 hA) (ct_Mtiles hA (hM.S0 0) hk hhas) rfl rfl rfl rfl ?_
        refine zz_goto rfl ?_
        refine zz_iret rfl rfl ⟨((sTl (sCur S) : Nat) : Int), rfl, ⟨by omega, by omega⟩, _, rfl, Or.inr (Or.inr ⟨trivial, trivial, rfl, rfl, hM.S0 _⟩)⟩
      · have e9 : sCnt S 4 = (sCt (sCur S) : Int) := by unfold sCnt; rw [if_pos hk5, hhas]; rfl
        rw [e9]
        refine zct rfl (by decide) ok_M_count rfl rfl ?_
        refine zz_aload_n rfl rfl ?_
        refine zz_iconst rfl ?_
        refine zz_putf rfl fl_M_50 (m0 hA) (pt_1_0 rfl rfl) (zblt rfl) ?_
        refine Ev.heap (ws0 hA) ?_
        refine zz_iload_n rfl rfl ?_
        refine zz_iconst rfl ?_
        refine zz_iconst rfl ?_
        refine zz_Sp rfl lk_M_71 cw_M_in (ct_Min hk0 ⟨by decide, by decide⟩ ⟨by decide, by decide⟩) rfl rfl rfl rfl ?_
        refine zz_ifB_ne rfl (fun hb11 => ?_) (fun hb11 => absurd hb11 (by omega))
        refine zz_aload_n rfl rfl ?_
        refine zz_getf rfl fl_M_67 (m0 hA) rfl ?_
        refine zz_eq h1 ?_
        refine zz_if_ne rfl ⟨by decide, by decide⟩ (fun hb20 => ?_) (fun hb20 => absurd hb20 (by decide))
        refine zz_iload_n rfl rfl ?_
        refine zz_if_ne rfl (by omega) (fun hb26 => ?_) (fun hb26 => absurd hb26 (by first | decide | omega))
        refine zz_iload_n rfl rfl ?_
        refine zz_iconst rfl ?_
        refine zz_icmp_ne rfl (by omega) (by omega) (fun hb41 => ?_) (fun hb41 => absurd hb41 (by first | decide | omega))
        refine zz_iload_n rfl rfl ?_
        refine zz_iconst rfl ?_
        refine zz_icmp_ne rfl (by omega) (by omega) (fun hb51 => ?_) (fun hb51 => absurd hb51 (by first | decide | omega))
        refine zz_iload_n rfl rfl ?_
        refine zz_iconst rfl ?_
        refine zz_icmp_ne rfl (by omega) (by omega) (fun hb66 => ?_) (fun hb66 => absurd hb66 (by first | decide | omega))
        refine zz_iload_n rfl rfl ?_
        refine zz_iconst rfl ?_
        refine zz_icmp_ne rfl (by omega) (by omega) (fun hb78 => absurd hb78 (by first | decide | omega)) (fun hb78 => ?_)
        refine zz_aload_n rfl rfl ?_
        refine zz_Vp rfl lk_M_107 cw_M_selected rfl (m0 hA) (ct_Mseld hA hc) rfl rfl rfl rfl ?_
        refine zz_goto rfl ?_
        refine zz_iret rfl rfl ⟨(sCt (sCur S) : Int), rfl, ⟨by omega, by omega⟩, _, rfl, Or.inr (Or.inr ⟨trivial, trivial, rfl, rfl, hM.S0 _⟩)⟩
      · have e9 : sCnt S 5 = 10000 * (sw (sCur S) : Int) + 100 * sh (sCur S) := by unfold sCnt; rw [if_pos hk5, hhas]; rfl
        rw [e9]
        refine zct rfl (by decide) ok_M_count rfl rfl ?_
        refine zz_aload_n rfl rfl ?_
        refine zz_iconst rfl ?_
        refine zz_putf rfl fl_M_50 (m0 hA) (pt_1_0 rfl rfl) (zblt rfl) ?_
        refine Ev.heap (ws0 hA) ?_
        refine zz_iload_n rfl rfl ?_
        refine zz_iconst rfl ?_
        refine zz_iconst rfl ?_
        refine zz_Sp rfl lk_M_71 cw_M_in (ct_Min hk0 ⟨by decide, by decide⟩ ⟨by decide, by decide⟩) rfl rfl rfl rfl ?_
        refine zz_ifB_ne rfl (fun hb11 => ?_) (fun hb11 => absurd hb11 (by omega))
        refine zz_aload_n rfl rfl ?_
        refine zz_getf rfl fl_M_67 (m0 hA) rfl ?_
        refine zz_eq h1 ?_
        refine zz_if_ne rfl ⟨by decide, by decide⟩ (fun hb20 => ?_) (fun hb20 => absurd hb20 (by decide))
        refine zz_iload_n rfl rfl ?_
        refine zz_if_ne rfl (by omega) (fun hb26 => ?_) (fun hb26 => absurd hb26 (by first | decide | omega))
        refine zz_iload_n rfl rfl ?_
        refine zz_iconst rfl ?_
        refine zz_icmp_ne rfl (by omega) (by omega) (fun hb41 => ?_) (fun hb41 => absurd hb41 (by first | decide | omega))
        refine zz_iload_n rfl rfl ?_
        refine zz_iconst rfl ?_
        refine zz_icmp_ne rfl (by omega) (by omega) (fun hb51 => ?_) (fun hb51 => absurd hb51 (by first | decide | omega))
        refine zz_iload_n rfl rfl ?_
        refine zz_iconst rfl ?_
        refine zz_icmp_ne rfl (by omega) (by omega) (fun hb66 => ?_) (fun hb66 => absurd hb66 (by first | decide | omega))
        refine zz_iload_n rfl rfl ?_
        refine zz_iconst rfl ?_
        refine zz_icmp_ne rfl (by omega) (by omega) (fun hb78 => ?_) (fun hb78 => absurd hb78 (by first | decide | omega))
        refine zz_sipush rfl (by decide) ?_
        refine zz_aload_n rfl rfl ?_
        refine zz_Vp rfl lk_M_100 cw_M_w rfl (m0 hA) (ct_Mw hA hc) rfl rfl rfl rfl ?_
        refine zz_imul rfl ?_
        refine zz_bipush rfl (by decide) ?_
        refine zz_aload_n rfl rfl ?_
        refine zz_Vp rfl lk_M_96 cw_M_h rfl (m0 hA) (ct_Mh hA hc) rfl rfl rfl rfl ?_
        refine zz_imul rfl ?_
        refine zz_iadd rfl ?_
        refine zz_iret rfl rfl ⟨10000 * (sw (sCur S) : Int) + 100 * sh (sCur S), rfl, ⟨by omega, by omega⟩, _, rfl, Or.inr (Or.inr ⟨trivial, trivial, rfl, rfl, hM.S0 _⟩)⟩
  · have e9 : sCnt S k = -1 := by unfold sCnt; rw [if_neg hk5]
    rw [e9]
    refine zct rfl (by decide) ok_M_count rfl rfl ?_
    refine zz_aload_n rfl rfl ?_
    refine zz_iconst rfl ?_
    refine zz_putf rfl fl_M_50 (m0 hA) (pt_1_0 rfl rfl) (zblt rfl) ?_
    refine Ev.heap (ws0 hA) ?_
    refine zz_iload_n rfl rfl ?_
    refine zz_iconst rfl ?_
    refine zz_iconst rfl ?_
    refine zz_Sp rfl lk_M_71 cw_M_in (ct_Min hk0 ⟨by decide, by decide⟩ ⟨by decide, by decide⟩) rfl rfl rfl rfl ?_
    refine zz_ifB_ne rfl (fun hb11 => absurd hb11 (by omega)) (fun hb11 => ?_)
    refine zz_iconst rfl ?_
    refine zz_iret rfl rfl ⟨(-1), rfl, ⟨by omega, by omega⟩, _, rfl, Or.inr (Or.inr ⟨trivial, trivial, rfl, rfl, hM.S0 _⟩)⟩
end MQ6
