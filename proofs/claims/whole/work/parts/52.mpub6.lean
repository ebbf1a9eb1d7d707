section MQ4
variable {Z : ZC} {h : ZH}
def mfl (f : Nat → Int) (b : Nat) (T : Nat → Int) (k : Nat) : Nat → Int := fun q => if b ≤ q ∧ q < b + k then T (q - b) else f q
theorem mfl_0 (f : Nat → Int) (b : Nat) (T : Nat → Int) : mfl f b T 0 = f := by
  funext q
  unfold mfl
  rw [if_neg (by omega)]
theorem mfl_up {f : Nat → Int} {b k i : Nat} {T : Nat → Int} {v : Int} (hi : i = b + k) (hv : v = T k) : zup (mfl f b T k) i v = mfl f b T (k + 1) := by
  subst hi hv
  funext q
  unfold zup mfl
  by_cases h1 : q = b + k
  · rw [if_pos h1, if_pos (by omega)]
    congr 1
    omega
  · rw [if_neg h1]
    by_cases h2 : b ≤ q ∧ q < b + k
    · rw [if_pos h2, if_pos (by omega)]
    · rw [if_neg h2, if_neg (by omega)]
theorem mfl_in {f : Nat → Int} {b k r : Nat} {T : Nat → Int} (hr : r < k) : mfl f b T k (b + r) = T r := by
  unfold mfl
  rw [if_pos (by omega)]
  congr 1
  omega
theorem mfl_out {f : Nat → Int} {b k q : Nat} {T : Nat → Int} (hq : q < b ∨ b + k ≤ q) : mfl f b T k q = f q := by
  unfold mfl
  rw [if_neg (by omega)]
theorem sShp_eq {kd x1 y1 wd hg : Int} {w j : Nat} (hk : 0 ≤ kd ∧ kd ≤ 13) : zro (fun i : Nat => decide (zbox ((i : Int) - x1) ((j : Int) - y1) wd hg ∧ (kd / 10 = 0 ∨ zel ((i : Int) - x1) ((j : Int) - y1) wd hg))) w = sShp kd x1 y1 wd hg w j := by
  unfold sShp
  by_cases h1 : kd < 10
  · rw [if_pos h1]
    refine zro_congr _ (fun i _ => ?_)
    have h2 : kd / 10 = 0 := by omega
    simp [h2]
  · rw [if_neg h1]
    refine zro_congr _ (fun i _ => ?_)
    have h2 : ¬ kd / 10 = 0 := by omega
    simp [h2]
theorem lp_seli {A : Nat → Nat} {X : MX} (hA : mOk A) {n w ht : Nat} {R : Nat → Nat} (hc : mc X n w ht R) {kd x1 y1 sz wd hg : Int} (hkd : 0 ≤ kd ∧ kd ≤ 13) (hx1 : -1000 ≤ x1 ∧ x1 ≤ 1000) (hy1 : -1000 ≤ y1 ∧ y1 ≤ 1000) (hwd : 0 ≤ wd ∧ wd ≤ 1000) (hhg : 0 ≤ hg ∧ hg ≤ 1000) {j : Nat} (hj : j < ht) {MC MS mc ms : Nat} {Q : ZR → ZH → Prop} (kx : Ev Z (fun _ => True, m_M_select, 3, MC, MS) 181 [.ref (A 0), zI kd, zI x1, zI y1, zI sz, zI wd, zI hg, zI 1, zI (j : Nat), zI (zro (fun i : Nat => decide (zbox ((i : Int) - x1) ((j : Int) - y1) wd hg ∧ (kd / 10 = 0 ∨ zel ((i : Int) - x1) ((j : Int) - y1) wd hg))) w : Nat), zI (w : Nat)] [] (mH h A X) mc ms Q) : ∀ (m x : Nat), x + m = w → Ev Z (fun _ => True, m_M_select, 3, MC, MS) 131 [.ref (A 0), zI kd, zI x1, zI y1, zI sz, zI wd, zI hg, zI 1, zI (j : Nat), zI (zro (fun i : Nat => decide (zbox ((i : Int) - x1) ((j : Int) - y1) wd hg ∧ (kd / 10 = 0 ∨ zel ((i : Int) - x1) ((j : Int) - y1) wd hg))) x : Nat), zI (x : Nat)] [] (mH h A X) mc ms Q := by
  have hw24 := hc.2.2.2.2.1
  intro m
  induction m with
  | zero =>
    intro x hx
    refine zz_iload rfl rfl ?_
    refine zz_aload_n rfl rfl ?_
    refine zz_Vp rfl lk_M_100 cw_M_w rfl (m0 hA) (ct_Mw hA hc) rfl rfl rfl rfl ?_
    refine zz_icmp_ge rfl (by omega) (by omega) (fun hb137 => ?_) (fun hb137 => absurd hb137 (by omega))
    obtain rfl : x = w := by omega
    exact kx
  | succ m ih =>
    intro x hx
    have h2w : 1 * 2 ^ (x : Int).toNat = ((2 ^ x : Nat) : Int) := by show 1 * (2 : Int) ^ x = _; simp
    refine zz_iload rfl rfl ?_
    refine zz_aload_n rfl rfl ?_
    refine zz_Vp rfl lk_M_100 cw_M_w rfl (m0 hA) (ct_Mw hA hc) rfl rfl rfl rfl ?_
    refine zz_icmp_ge rfl (by omega) (by omega) (fun hb137 => absurd hb137 (by omega)) (fun hb137 => ?_)
    refine zz_iload rfl rfl ?_
    refine zz_iload_n rfl rfl ?_
    refine zz_bipush rfl (by decide) ?_
    refine zz_idivP rfl ⟨by omega, by omega⟩ ⟨by decide, by decide⟩ ?_
    refine zz_iload rfl rfl ?_
    refine zz_iload_n rfl rfl ?_
    refine zz_isub rfl ?_
    refine zz_iload rfl rfl ?_
    refine zz_iload_n rfl rfl ?_
    refine zz_isub rfl ?_
    refine zz_iload rfl rfl ?_
    refine zz_iload rfl rfl ?_
    refine zz_Sp rfl lk_M_103 cw_M_isInShape (ct_Mshape ⟨by omega, by omega⟩ ⟨by omega, by omega⟩ ⟨by omega, by omega⟩ hwd hhg) rfl rfl rfl rfl ?_
    refine zz_ifB_eq rfl (fun hb161 => ?_) (fun hb161 => ?_)
    · skip
      refine zz_iconst rfl ?_
      refine zz_ior rfl (show _ = Int32.ofInt ((zro (fun i : Nat => decide (zbox ((i : Int) - x1) ((j : Int) - y1) wd hg ∧ (kd / 10 = 0 ∨ zel ((i : Int) - x1) ((j : Int) - y1) wd hg))) (x + 1) : Nat) : Int) from by show _ = Int32.ofInt (((if decide _ = true then _ else zro _ x : Nat)) : Int); rw [if_neg (by rw [decide_eq_true_eq]; exact hb161)]; exact (zq_or _ 0).trans (by rw [Nat.or_zero])) ?_
      refine zz_istore rfl rfl rfl ?_
      refine zz_iincK ((x + 1 : Nat) : Int) rfl rfl rfl rfl (by omega) ?_
      refine zz_goto rfl ?_
      exact ih (x + 1) (by omega)
    · skip
      refine zz_iconst rfl ?_
      refine zz_iload rfl rfl ?_
      refine zz_ishl rfl ⟨by omega, by omega⟩ ?_
      refine zz_goto rfl ?_
      refine zz_ior rfl (show _ = Int32.ofInt ((zro (fun i : Nat => decide (zbox ((i : Int) - x1) ((j : Int) - y1) wd hg ∧ (kd / 10 = 0 ∨ zel ((i : Int) - x1) ((j : Int) - y1) wd hg))) (x + 1) : Nat) : Int) from by show _ = Int32.ofInt (((if decide _ = true then zro _ x ||| 2 ^ x else _ : Nat)) : Int); rw [if_pos (by rw [decide_eq_true_eq]; exact hb161), h2w]; exact zq_or _ _) ?_
      refine zz_istore rfl rfl rfl ?_
      refine zz_iincK ((x + 1 : Nat) : Int) rfl rfl rfl rfl (by omega) ?_
      refine zz_goto rfl ?_
      exact ih (x + 1) (by omega)
theorem mc_sel {X : MX} {n w ht : Nat} {R : Nat → Nat} (hc : mc X n w ht R) {kd x1 y1 wd hg : Int} (hR : ∀ j, j < ht → R j < 2 ^ w) (k : Nat) (hk : k ≤ ht) : mc (mF X 2 (mfl (X.2.1 2) (24 * n) (fun j => ((zjr (R j) (zro (fun i : Nat => decide (zbox ((i : Int) - x1) ((j : Int) - y1) wd hg ∧ (kd / 10 = 0 ∨ zel ((i : Int) - x1) ((j : Int) - y1) wd hg))) w) (kd % 10) : Nat) : Int)) k)) n w ht (fun j => if j < k then zjr (R j) (zro (fun i : Nat => decide (zbox ((i : Int) - x1) ((j : Int) - y1) wd hg ∧ (kd / 10 = 0 ∨ zel ((i : Int) - x1) ((j : Int) - y1) wd hg))) w) (kd % 10) else R j) := by
  obtain ⟨h1, h2, h3, h4, h5, h6⟩ := hc
  refine ⟨h1, h2, h3, h4, h5, fun y hy => ?_⟩
  show mfl (X.2.1 2) (24 * n) (fun j => ((zjr (R j) (zro (fun i : Nat => decide (zbox ((i : Int) - x1) ((j : Int) - y1) wd hg ∧ (kd / 10 = 0 ∨ zel ((i : Int) - x1) ((j : Int) - y1) wd hg))) w) (kd % 10) : Nat) : Int)) k (24 * n + y) = (((fun j => if j < k then zjr (R j) (zro (fun i : Nat => decide (zbox ((i : Int) - x1) ((j : Int) - y1) wd hg ∧ (kd / 10 = 0 ∨ zel ((i : Int) - x1) ((j : Int) - y1) wd hg))) w) (kd % 10) else R j) y : Nat) : Int) ∧ (fun j => if j < k then zjr (R j) (zro (fun i : Nat => decide (zbox ((i : Int) - x1) ((j : Int) - y1) wd hg ∧ (kd / 10 = 0 ∨ zel ((i : Int) - x1) ((j : Int) - y1) wd hg))) w) (kd % 10) else R j) y < 16777216
  by_cases g : y < k
  · rw [mfl_in g]
    refine ⟨by simp only [if_pos g], ?_⟩
    simp only [if_pos g]
    exact z24 h5.1 (zjr_lt _ (hR y hy) (zro_lt _ _))
  · rw [mfl_out (by omega)]
    simp only [if_neg g]
    exact h6 y hy
theorem lp_selo {A : Nat → Nat} {X : MX} (hA : mOk A) {n w ht : Nat} {R : Nat → Nat} (hc : mc X n w ht R) {kd x1 y1 sz wd hg : Int} (hkd : 0 ≤ kd ∧ kd ≤ 13) (hx1 : -1000 ≤ x1 ∧ x1 ≤ 1000) (hy1 : -1000 ≤ y1 ∧ y1 ≤ 1000) (hwd : 0 ≤ wd ∧ wd ≤ 1000) (hhg : 0 ≤ hg ∧ hg ≤ 1000) (hkm : kd % 10 ≤ 3) (hR : ∀ j, j < ht → R j < 2 ^ w) {MC MS mc ms : Nat} {Q : ZR → ZH → Prop} (kx : Ev Z (fun _ => True, m_M_select, 3, MC, MS) 270 [.ref (A 0), zI kd, zI x1, zI y1, zI sz, zI wd, zI hg, zI 1, zI (ht : Nat)] [] (mH h A (mF X 2 (mfl (X.2.1 2) (24 * n) (fun j => ((zjr (R j) (zro (fun i : Nat => decide (zbox ((i : Int) - x1) ((j : Int) - y1) wd hg ∧ (kd / 10 = 0 ∨ zel ((i : Int) - x1) ((j : Int) - y1) wd hg))) w) (kd % 10) : Nat) : Int)) ht))) mc ms Q) : ∀ (m j : Nat), j + m = ht → Ev Z (fun _ => True, m_M_select, 3, MC, MS) 116 [.ref (A 0), zI kd, zI x1, zI y1, zI sz, zI wd, zI hg, zI 1, zI (j : Nat)] [] (mH h A (mF X 2 (mfl (X.2.1 2) (24 * n) (fun j => ((zjr (R j) (zro (fun i : Nat => decide (zbox ((i : Int) - x1) ((j : Int) - y1) wd hg ∧ (kd / 10 = 0 ∨ zel ((i : Int) - x1) ((j : Int) - y1) wd hg))) w) (kd % 10) : Nat) : Int)) j))) mc ms Q := by
  have hw24 := hc.2.2.2.2.1
  have hn6 := hc.2.1
  intro m
  induction m with
  | zero =>
    intro j hj
    have hcj := mc_sel (kd := kd) (x1 := x1) (y1 := y1) (wd := wd) (hg := hg) hc hR j (by omega)
    refine zz_iload rfl rfl ?_
    refine zz_aload_n rfl rfl ?_
    refine zz_Vp rfl lk_M_96 cw_M_h rfl (m0 hA) (ct_Mh hA hcj) rfl rfl rfl rfl ?_
    refine zz_icmp_ge rfl (by omega) (by omega) (fun hb122 => ?_) (fun hb122 => absurd hb122 (by omega))
    obtain rfl : j = ht := by omega
    exact kx
  | succ m ih =>
    intro j hj
    have hcj := mc_sel (kd := kd) (x1 := x1) (y1 := y1) (wd := wd) (hg := hg) hc hR j (by omega)
    have h4 := hc.1
    have hm4 : kd % 10 = 0 ∨ kd % 10 = 1 ∨ kd % 10 = 2 ∨ kd % 10 = 3 := by omega
    refine zz_iload rfl rfl ?_
    refine zz_aload_n rfl rfl ?_
    refine zz_Vp rfl lk_M_96 cw_M_h rfl (m0 hA) (ct_Mh hA hcj) rfl rfl rfl rfl ?_
    refine zz_icmp_ge rfl (by omega) (by omega) (fun hb122 => absurd hb122 (by omega)) (fun hb122 => ?_)
    refine zz_iconst rfl ?_
    refine zz_istore rfl rfl rfl ?_
    refine zz_iconst rfl ?_
    refine zz_istore rfl rfl rfl ?_
    refine lp_seli hA hcj hkd hx1 hy1 hwd hhg (j := j) (by omega) ?_ w 0 (by omega)
    refine zz_aload_n rfl rfl ?_
    refine zz_getf rfl fl_M_13 (m0 hA) rfl ?_
    refine zz_bipush rfl (by decide) ?_
    refine zz_aload_n rfl rfl ?_
    refine zz_getf rfl fl_M_58 (m0 hA) rfl ?_
    refine zz_eq h4 ?_
    refine zz_imul rfl ?_
    refine zz_iload rfl rfl ?_
    refine zz_iadd rfl ?_
    refine zz_iald rfl (m2 hA) (by decide) ⟨by omega, by omega⟩ ?_
    refine zz_eq (show _ = ((R j : Nat) : Int) from by show mfl (X.2.1 2) (24 * n) (fun j => ((zjr (R j) (zro (fun i : Nat => decide (zbox ((i : Int) - x1) ((j : Int) - y1) wd hg ∧ (kd / 10 = 0 ∨ zel ((i : Int) - x1) ((j : Int) - y1) wd hg))) w) (kd % 10) : Nat) : Int)) j (24 * (n : Int) + (j : Int)).toNat = _; rw [show (24 * (n : Int) + (j : Int)).toNat = 24 * n + j by omega, mfl_out (by omega)]; exact (hc.2.2.2.2.2 j (by omega)).1) ?_
    refine zz_istore rfl rfl rfl ?_
    refine zz_iload_n rfl rfl ?_
    refine zz_bipush rfl (by decide) ?_
    refine zz_iremP rfl ⟨by omega, by omega⟩ ⟨by decide, by decide⟩ ?_
    refine zz_istore rfl rfl rfl ?_
    refine zz_aload_n rfl rfl ?_
    refine zz_getf rfl fl_M_13 (m0 hA) rfl ?_
    refine zz_bipush rfl (by decide) ?_
    refine zz_aload_n rfl rfl ?_
    refine zz_getf rfl fl_M_58 (m0 hA) rfl ?_
    refine zz_eq h4 ?_
    refine zz_imul rfl ?_
    refine zz_iload rfl rfl ?_
    refine zz_iadd rfl ?_
    refine zz_iload rfl rfl ?_
    refine zz_if_ne rfl (by omega) (fun hb220 => ?_) (fun hb220 => ?_)
    · skip
      refine zz_iload rfl rfl ?_
      refine zz_iconst rfl ?_
      refine zz_icmp_ne rfl (by omega) (by omega) (fun hb231 => ?_) (fun hb231 => ?_)
      · skip
        refine zz_iload rfl rfl ?_
        refine zz_iconst rfl ?_
        refine zz_icmp_ne rfl (by omega) (by omega) (fun hb245 => ?_) (fun hb245 => ?_)
        · skip
          refine zz_iload rfl rfl ?_
          refine zz_iload rfl rfl ?_
          refine zz_iand rfl (zq_and _ _) ?_
          refine zz_iast rfl (m2 hA) (by decide) ⟨by omega, by omega⟩ ?_
          refine Ev.heap (w2 hA) ?_
          refine Ev.heap (show mH h A (mF (mF X 2 (mfl (X.2.1 2) (24 * n) (fun j => ((zjr (R j) (zro (fun i : Nat => decide (zbox ((i : Int) - x1) ((j : Int) - y1) wd hg ∧ (kd / 10 = 0 ∨ zel ((i : Int) - x1) ((j : Int) - y1) wd hg))) w) (kd % 10) : Nat) : Int)) j)) 2 (zup (mfl (X.2.1 2) (24 * n) (fun j => ((zjr (R j) (zro (fun i : Nat => decide (zbox ((i : Int) - x1) ((j : Int) - y1) wd hg ∧ (kd / 10 = 0 ∨ zel ((i : Int) - x1) ((j : Int) - y1) wd hg))) w) (kd % 10) : Nat) : Int)) j) (24 * (n : Int) + (j : Int)).toNat (((R j &&& zro (fun i : Nat => decide (zbox ((i : Int) - x1) ((j : Int) - y1) wd hg ∧ (kd / 10 = 0 ∨ zel ((i : Int) - x1) ((j : Int) - y1) wd hg))) w : Nat) : Int)))) = mH h A (mF X 2 (mfl (X.2.1 2) (24 * n) (fun j => ((zjr (R j) (zro (fun i : Nat => decide (zbox ((i : Int) - x1) ((j : Int) - y1) wd hg ∧ (kd / 10 = 0 ∨ zel ((i : Int) - x1) ((j : Int) - y1) wd hg))) w) (kd % 10) : Nat) : Int)) (j + 1))) from by rw [mF_mF, mfl_up (T := (fun j => ((zjr (R j) (zro (fun i : Nat => decide (zbox ((i : Int) - x1) ((j : Int) - y1) wd hg ∧ (kd / 10 = 0 ∨ zel ((i : Int) - x1) ((j : Int) - y1) wd hg))) w) (kd % 10) : Nat) : Int))) (by omega) (show _ = ((zjr (R j) (zro (fun i : Nat => decide (zbox ((i : Int) - x1) ((j : Int) - y1) wd hg ∧ (kd / 10 = 0 ∨ zel ((i : Int) - x1) ((j : Int) - y1) wd hg))) w) (kd % 10) : Nat) : Int) from by unfold zjr; rw [if_neg (by omega), if_neg (by omega), if_neg (by omega)])]) ?_
          refine zz_iincK ((j + 1 : Nat) : Int) rfl rfl rfl rfl (by omega) ?_
          refine zz_goto rfl ?_
          refine Ev.take 9 ?_
          exact ih (j + 1) (by omega)
        · skip
          refine zz_iload rfl rfl ?_
          refine zz_iload rfl rfl ?_
          refine zz_iconst rfl ?_
          refine zz_ixor rfl (zq_not _) ?_
          refine zz_iand rfl (zq_andnot _ _) ?_
          refine zz_goto rfl ?_
          refine zz_iast rfl (m2 hA) (by decide) ⟨by omega, by omega⟩ ?_
          refine Ev.heap (w2 hA) ?_
          refine Ev.heap (show mH h A (mF (mF X 2 (mfl (X.2.1 2) (24 * n) (fun j => ((zjr (R j) (zro (fun i : Nat => decide (zbox ((i : Int) - x1) ((j : Int) - y1) wd hg ∧ (kd / 10 = 0 ∨ zel ((i : Int) - x1) ((j : Int) - y1) wd hg))) w) (kd % 10) : Nat) : Int)) j)) 2 (zup (mfl (X.2.1 2) (24 * n) (fun j => ((zjr (R j) (zro (fun i : Nat => decide (zbox ((i : Int) - x1) ((j : Int) - y1) wd hg ∧ (kd / 10 = 0 ∨ zel ((i : Int) - x1) ((j : Int) - y1) wd hg))) w) (kd % 10) : Nat) : Int)) j) (24 * (n : Int) + (j : Int)).toNat (((R j ^^^ (R j &&& zro (fun i : Nat => decide (zbox ((i : Int) - x1) ((j : Int) - y1) wd hg ∧ (kd / 10 = 0 ∨ zel ((i : Int) - x1) ((j : Int) - y1) wd hg))) w) : Nat) : Int)))) = mH h A (mF X 2 (mfl (X.2.1 2) (24 * n) (fun j => ((zjr (R j) (zro (fun i : Nat => decide (zbox ((i : Int) - x1) ((j : Int) - y1) wd hg ∧ (kd / 10 = 0 ∨ zel ((i : Int) - x1) ((j : Int) - y1) wd hg))) w) (kd % 10) : Nat) : Int)) (j + 1))) from by rw [mF_mF, mfl_up (T := (fun j => ((zjr (R j) (zro (fun i : Nat => decide (zbox ((i : Int) - x1) ((j : Int) - y1) wd hg ∧ (kd / 10 = 0 ∨ zel ((i : Int) - x1) ((j : Int) - y1) wd hg))) w) (kd % 10) : Nat) : Int))) (by omega) (show _ = ((zjr (R j) (zro (fun i : Nat => decide (zbox ((i : Int) - x1) ((j : Int) - y1) wd hg ∧ (kd / 10 = 0 ∨ zel ((i : Int) - x1) ((j : Int) - y1) wd hg))) w) (kd % 10) : Nat) : Int) from by unfold zjr; rw [if_neg (by omega), if_neg (by omega), if_pos (by omega)])]) ?_
          refine zz_iincK ((j + 1 : Nat) : Int) rfl rfl rfl rfl (by omega) ?_
          refine zz_goto rfl ?_
          refine Ev.take 9 ?_
          exact ih (j + 1) (by omega)
      · skip
        refine zz_iload rfl rfl ?_
        refine zz_iload rfl rfl ?_
        refine zz_ior rfl (zq_or _ _) ?_
        refine zz_goto rfl ?_
        refine zz_iast rfl (m2 hA) (by decide) ⟨by omega, by omega⟩ ?_
        refine Ev.heap (w2 hA) ?_
        refine Ev.heap (show mH h A (mF (mF X 2 (mfl (X.2.1 2) (24 * n) (fun j => ((zjr (R j) (zro (fun i : Nat => decide (zbox ((i : Int) - x1) ((j : Int) - y1) wd hg ∧ (kd / 10 = 0 ∨ zel ((i : Int) - x1) ((j : Int) - y1) wd hg))) w) (kd % 10) : Nat) : Int)) j)) 2 (zup (mfl (X.2.1 2) (24 * n) (fun j => ((zjr (R j) (zro (fun i : Nat => decide (zbox ((i : Int) - x1) ((j : Int) - y1) wd hg ∧ (kd / 10 = 0 ∨ zel ((i : Int) - x1) ((j : Int) - y1) wd hg))) w) (kd % 10) : Nat) : Int)) j) (24 * (n : Int) + (j : Int)).toNat (((R j ||| zro (fun i : Nat => decide (zbox ((i : Int) - x1) ((j : Int) - y1) wd hg ∧ (kd / 10 = 0 ∨ zel ((i : Int) - x1) ((j : Int) - y1) wd hg))) w : Nat) : Int)))) = mH h A (mF X 2 (mfl (X.2.1 2) (24 * n) (fun j => ((zjr (R j) (zro (fun i : Nat => decide (zbox ((i : Int) - x1) ((j : Int) - y1) wd hg ∧ (kd / 10 = 0 ∨ zel ((i : Int) - x1) ((j : Int) - y1) wd hg))) w) (kd % 10) : Nat) : Int)) (j + 1))) from by rw [mF_mF, mfl_up (T := (fun j => ((zjr (R j) (zro (fun i : Nat => decide (zbox ((i : Int) - x1) ((j : Int) - y1) wd hg ∧ (kd / 10 = 0 ∨ zel ((i : Int) - x1) ((j : Int) - y1) wd hg))) w) (kd % 10) : Nat) : Int))) (by omega) (show _ = ((zjr (R j) (zro (fun i : Nat => decide (zbox ((i : Int) - x1) ((j : Int) - y1) wd hg ∧ (kd / 10 = 0 ∨ zel ((i : Int) - x1) ((j : Int) - y1) wd hg))) w) (kd % 10) : Nat) : Int) from by unfold zjr; rw [if_neg (by omega), if_pos (by omega)])]) ?_
        refine zz_iincK ((j + 1 : Nat) : Int) rfl rfl rfl rfl (by omega) ?_
        refine zz_goto rfl ?_
        refine Ev.take 9 ?_
        exact ih (j + 1) (by omega)
    · skip
      refine zz_iload rfl rfl ?_
      refine zz_goto rfl ?_
      refine zz_iast rfl (m2 hA) (by decide) ⟨by omega, by omega⟩ ?_
      refine Ev.heap (w2 hA) ?_
      refine Ev.heap (show mH h A (mF (mF X 2 (mfl (X.2.1 2) (24 * n) (fun j => ((zjr (R j) (zro (fun i : Nat => decide (zbox ((i : Int) - x1) ((j : Int) - y1) wd hg ∧ (kd / 10 = 0 ∨ zel ((i : Int) - x1) ((j : Int) - y1) wd hg))) w) (kd % 10) : Nat) : Int)) j)) 2 (zup (mfl (X.2.1 2) (24 * n) (fun j => ((zjr (R j) (zro (fun i : Nat => decide (zbox ((i : Int) - x1) ((j : Int) - y1) wd hg ∧ (kd / 10 = 0 ∨ zel ((i : Int) - x1) ((j : Int) - y1) wd hg))) w) (kd % 10) : Nat) : Int)) j) (24 * (n : Int) + (j : Int)).toNat (((zro (fun i : Nat => decide (zbox ((i : Int) - x1) ((j : Int) - y1) wd hg ∧ (kd / 10 = 0 ∨ zel ((i : Int) - x1) ((j : Int) - y1) wd hg))) w : Nat) : Int)))) = mH h A (mF X 2 (mfl (X.2.1 2) (24 * n) (fun j => ((zjr (R j) (zro (fun i : Nat => decide (zbox ((i : Int) - x1) ((j : Int) - y1) wd hg ∧ (kd / 10 = 0 ∨ zel ((i : Int) - x1) ((j : Int) - y1) wd hg))) w) (kd % 10) : Nat) : Int)) (j + 1))) from by rw [mF_mF, mfl_up (T := (fun j => ((zjr (R j) (zro (fun i : Nat => decide (zbox ((i : Int) - x1) ((j : Int) - y1) wd hg ∧ (kd / 10 = 0 ∨ zel ((i : Int) - x1) ((j : Int) - y1) wd hg))) w) (kd % 10) : Nat) : Int))) (by omega) (show _ = ((zjr (R j) (zro (fun i : Nat => decide (zbox ((i : Int) - x1) ((j : Int) - y1) wd hg ∧ (kd / 10 = 0 ∨ zel ((i : Int) - x1) ((j : Int) - y1) wd hg))) w) (kd % 10) : Nat) : Int) from by unfold zjr; rw [if_pos (by omega)])]) ?_
      refine zz_iincK ((j + 1 : Nat) : Int) rfl rfl rfl rfl (by omega) ?_
      refine zz_goto rfl ?_
      refine Ev.take 9 ?_
      exact ih (j + 1) (by omega)
theorem md_sel {A : Nat → Nat} {X : MX} (hA : mOk A) {S : SS} (hM : mrel X S) (hk : okS S) {kd x1 y1 sz : Int} (hkd : zrg kd) (hx0 : zrg x1) (hy0 : zrg y1) : Ct Z m_M_select 3 0 0 [.ref (A 0), zI kd, zI x1, zI y1, zI sz] (mH h A X) (mdI h A S (sHas S = true ∧ ((0 ≤ kd ∧ kd ≤ 13) ∧ kd % 10 ≤ 3) ∧ ((-1000 ≤ x1 ∧ x1 ≤ 1000) ∧ -1000 ≤ y1 ∧ y1 ≤ 1000) ∧ (sz % 65536) ≤ 1000 ∧ (sz % 4294967296 / 65536) ≤ 1000) (True) (((sCt (sSel (sCur S) kd x1 y1 (sz % 65536) (sz % 4294967296 / 65536)) : Nat) : Int)) (sAdd S (sSel (sCur S) kd x1 y1 (sz % 65536) (sz % 4294967296 / 65536)))) := by
  rcases zbool (sHas S) with hhas | hhas
  · have h1 : X.1 1 = 0 := by have h9 := hM.1; rw [hhas] at h9; exact h9
    refine zct rfl (by decide) ok_M_select rfl rfl ?_
    refine zz_iload rfl rfl ?_
    refine zz_ldc rfl cs_M_95 ?_
    refine zz_iand rfl (zq_m65535 _) ?_
    refine zz_istore rfl rfl rfl ?_
    refine zz_iload rfl rfl ?_
    refine zz_bipush rfl (by decide) ?_
    refine zz_iushr rfl ⟨by decide, by decide⟩ ?_
    refine zz_eq (show sz % 4294967296 / 2 ^ Int.toNat 16 = (sz % 4294967296 / 65536) from rfl) ?_
    refine zz_istore rfl rfl rfl ?_
    refine zz_aload_n rfl rfl ?_
    refine zz_getf rfl fl_M_67 (m0 hA) rfl ?_
    refine zz_eq h1 ?_
    refine zz_if_eq rfl ⟨by decide, by decide⟩ (fun hb18 => ?_) (fun hb18 => absurd hb18 (by decide))
    refine zz_iconst rfl ?_
    refine zz_istore rfl rfl rfl ?_
    refine zz_aload_n rfl rfl ?_
    refine zz_iload rfl rfl ?_
    refine zz_if_ne rfl (by omega) (fun hb93 => absurd hb93 (by first | decide | omega)) (fun hb93 => ?_)
    refine zz_iconst rfl ?_
    refine zz_goto rfl ?_
    refine zz_V rfl lk_M_75 cw_M_refuse rfl (m0 hA) (ct_Mrefuse1 hA) rfl rfl rfl rfl ?_
    rintro _ _ ⟨rfl, rfl⟩
    refine zaft_v ?_
    refine zz_if_eq rfl ⟨by decide, by decide⟩ (fun hb104 => absurd hb104 (by decide)) (fun hb104 => ?_)
    refine zz_iconst rfl ?_
    refine zz_iret rfl rfl ⟨0, rfl, z00, _, rfl, Or.inl ⟨(fun g => absurd g.1 (by rw [hhas]; decide)), rfl, hM.S0 _⟩⟩
  · have h1 : X.1 1 = 1 := by have h9 := hM.1; rw [hhas] at h9; exact h9
    refine zct rfl (by decide) ok_M_select rfl rfl ?_
    refine zz_iload rfl rfl ?_
    refine zz_ldc rfl cs_M_95 ?_
    refine zz_iand rfl (zq_m65535 _) ?_
    refine zz_istore rfl rfl rfl ?_
    refine zz_iload rfl rfl ?_
    refine zz_bipush rfl (by decide) ?_
    refine zz_iushr rfl ⟨by decide, by decide⟩ ?_
    refine zz_eq (show sz % 4294967296 / 2 ^ Int.toNat 16 = (sz % 4294967296 / 65536) from rfl) ?_
    refine zz_istore rfl rfl rfl ?_
    refine zz_aload_n rfl rfl ?_
    refine zz_getf rfl fl_M_67 (m0 hA) rfl ?_
    refine zz_eq h1 ?_
    refine zz_if_eq rfl ⟨by decide, by decide⟩ (fun hb18 => absurd hb18 (by decide)) (fun hb18 => ?_)
    refine zz_iload_n rfl rfl ?_
    refine zz_iconst rfl ?_
    refine zz_iconst rfl ?_
    refine zz_Sp rfl lk_M_71 cw_M_in (ct_Min hkd ⟨by decide, by decide⟩ ⟨by decide, by decide⟩) rfl rfl rfl rfl ?_
    refine zz_ifB_ne rfl (fun hb27 => ?_) (fun hb27 => ?_)
    · skip
      refine zz_iload_n rfl rfl ?_
      refine zz_sipush rfl (by decide) ?_
      refine zz_sipush rfl (by decide) ?_
      refine zz_Sp rfl lk_M_71 cw_M_in (ct_Min hx0 ⟨by decide, by decide⟩ ⟨by decide, by decide⟩) rfl rfl rfl rfl ?_
      refine zz_ifB_eq rfl (fun hb51 => ?_) (fun hb51 => ?_)
      · skip
        refine zz_iconst rfl ?_
        refine zz_istore rfl rfl rfl ?_
        refine zz_aload_n rfl rfl ?_
        refine zz_iload rfl rfl ?_
        refine zz_if_ne rfl (by omega) (fun hb93 => absurd hb93 (by first | decide | omega)) (fun hb93 => ?_)
        refine zz_iconst rfl ?_
        refine zz_goto rfl ?_
        refine zz_V rfl lk_M_75 cw_M_refuse rfl (m0 hA) (ct_Mrefuse1 hA) rfl rfl rfl rfl ?_
        rintro _ _ ⟨rfl, rfl⟩
        refine zaft_v ?_
        refine zz_if_eq rfl ⟨by decide, by decide⟩ (fun hb104 => absurd hb104 (by decide)) (fun hb104 => ?_)
        refine zz_iconst rfl ?_
        refine zz_iret rfl rfl ⟨0, rfl, z00, _, rfl, Or.inl ⟨(fun g => hb51 g.2.2.1.1), rfl, hM.S0 _⟩⟩
      · skip
        refine zz_iload_n rfl rfl ?_
        refine zz_sipush rfl (by decide) ?_
        refine zz_sipush rfl (by decide) ?_
        refine zz_Sp rfl lk_M_71 cw_M_in (ct_Min hy0 ⟨by decide, by decide⟩ ⟨by decide, by decide⟩) rfl rfl rfl rfl ?_
        refine zz_ifB_eq rfl (fun hb64 => ?_) (fun hb64 => ?_)
        · skip
          refine zz_iconst rfl ?_
          refine zz_istore rfl rfl rfl ?_
          refine zz_aload_n rfl rfl ?_
          refine zz_iload rfl rfl ?_
          refine zz_if_ne rfl (by omega) (fun hb93 => absurd hb93 (by first | decide | omega)) (fun hb93 => ?_)
          refine zz_iconst rfl ?_
          refine zz_goto rfl ?_
          refine zz_V rfl lk_M_75 cw_M_refuse rfl (m0 hA) (ct_Mrefuse1 hA) rfl rfl rfl rfl ?_
          rintro _ _ ⟨rfl, rfl⟩
          refine zaft_v ?_
          refine zz_if_eq rfl ⟨by decide, by decide⟩ (fun hb104 => absurd hb104 (by decide)) (fun hb104 => ?_)
          refine zz_iconst rfl ?_
          refine zz_iret rfl rfl ⟨0, rfl, z00, _, rfl, Or.inl ⟨(fun g => hb64 g.2.2.1.2), rfl, hM.S0 _⟩⟩
        · skip
          refine zz_iload rfl rfl ?_
          refine zz_sipush rfl (by decide) ?_
          refine zz_icmp_gt rfl (by omega) (by omega) (fun hb72 => ?_) (fun hb72 => ?_)
          · skip
            refine zz_iconst rfl ?_
            refine zz_istore rfl rfl rfl ?_
            refine zz_aload_n rfl rfl ?_
            refine zz_iload rfl rfl ?_
            refine zz_if_ne rfl (by omega) (fun hb93 => absurd hb93 (by first | decide | omega)) (fun hb93 => ?_)
            refine zz_iconst rfl ?_
            refine zz_goto rfl ?_
            refine zz_V rfl lk_M_75 cw_M_refuse rfl (m0 hA) (ct_Mrefuse1 hA) rfl rfl rfl rfl ?_
            rintro _ _ ⟨rfl, rfl⟩
            refine zaft_v ?_
            refine zz_if_eq rfl ⟨by decide, by decide⟩ (fun hb104 => absurd hb104 (by decide)) (fun hb104 => ?_)
            refine zz_iconst rfl ?_
            refine zz_iret rfl rfl ⟨0, rfl, z00, _, rfl, Or.inl ⟨(fun g => by have := g.2.2.2.1; omega), rfl, hM.S0 _⟩⟩
          · skip
            refine zz_iload rfl rfl ?_
            refine zz_sipush rfl (by decide) ?_
            refine zz_icmp_gt rfl (by omega) (by omega) (fun hb80 => ?_) (fun hb80 => ?_)
            · skip
              refine zz_iconst rfl ?_
              refine zz_istore rfl rfl rfl ?_
              refine zz_aload_n rfl rfl ?_
              refine zz_iload rfl rfl ?_
              refine zz_if_ne rfl (by omega) (fun hb93 => absurd hb93 (by first | decide | omega)) (fun hb93 => ?_)
              refine zz_iconst rfl ?_
              refine zz_goto rfl ?_
              refine zz_V rfl lk_M_75 cw_M_refuse rfl (m0 hA) (ct_Mrefuse1 hA) rfl rfl rfl rfl ?_
              rintro _ _ ⟨rfl, rfl⟩
              refine zaft_v ?_
              refine zz_if_eq rfl ⟨by decide, by decide⟩ (fun hb104 => absurd hb104 (by decide)) (fun hb104 => ?_)
              refine zz_iconst rfl ?_
              refine zz_iret rfl rfl ⟨0, rfl, z00, _, rfl, Or.inl ⟨(fun g => by have := g.2.2.2.2; omega), rfl, hM.S0 _⟩⟩
            · skip
              refine zz_iconst rfl ?_
              refine zz_goto rfl ?_
              refine zz_istore rfl rfl rfl ?_
              refine zz_aload_n rfl rfl ?_
              refine zz_iload rfl rfl ?_
              refine zz_if_ne rfl (by omega) (fun hb93 => ?_) (fun hb93 => absurd hb93 (by first | decide | omega))
              refine zz_iconst rfl ?_
              refine zz_V rfl lk_M_75 cw_M_refuse rfl (m0 hA) (ct_Mrefuse0 hA) rfl rfl rfl rfl ?_
              rintro _ _ ⟨rfl, rfl⟩
              refine zaft_v ?_
              refine zz_if_eq rfl ⟨by decide, by decide⟩ (fun hb104 => ?_) (fun hb104 => absurd hb104 (by decide))
              refine zz_aload_n rfl rfl ?_
              refine zz_V rfl lk_M_83 cw_M_step rfl (m0 hA) (ct_Mstep hA (hM.S0 _) hk hhas) rfl rfl rfl rfl ?_
              rintro _ _ ⟨rfl, X1, rfl, h0, hM1⟩
              refine zaft_u ?_
              have hP : okP (sCur S) := (hk.1 hhas).2.2 _ (hk.1 hhas).1
              obtain ⟨hc1, hs1⟩ := mradd hM1 hk hhas hP
              have h4 := hc1.1
              have hn6 := sN1_le S
              have hB1 := hM1.2.2.2.2.2.2.2.2.2.2
              obtain ⟨⟨hw1, hw⟩, ⟨hh1, hh⟩, ⟨hn1, hn⟩, hkL, hkR⟩ := id hP
              refine zz_iconst rfl ?_
              refine zz_istore rfl rfl rfl ?_
              have hkm : (0 ≤ kd ∧ kd ≤ 13) ∧ kd % 10 ≤ 3 := ⟨⟨by omega, by omega⟩, by omega⟩
              refine Ev.heap (show mH h A X1 = mH h A (mF X1 2 (mfl (X1.2.1 2) (24 * sN1 S) (fun j => ((zjr (sr (sCur S) j) (zro (fun i : Nat => decide (zbox ((i : Int) - x1) ((j : Int) - y1) (sz % 65536) (sz % 4294967296 / 65536) ∧ (kd / 10 = 0 ∨ zel ((i : Int) - x1) ((j : Int) - y1) (sz % 65536) (sz % 4294967296 / 65536)))) (sw (sCur S))) (kd % 10) : Nat) : Int)) 0)) from by rw [mfl_0, mF_id]) ?_
              refine lp_selo (X := X1) (wd := (sz % 65536)) (hg := (sz % 4294967296 / 65536)) hA hc1 hkm.1 hb51 hb64 ⟨by omega, by omega⟩ ⟨by omega, by omega⟩ hkm.2 hkR ?_ (sh (sCur S)) 0 (by omega)
              have hcY := mc_sel (kd := kd) (x1 := x1) (y1 := y1) (wd := (sz % 65536)) (hg := (sz % 4294967296 / 65536)) hc1 hkR (sh (sCur S)) (Nat.le_refl _)
              refine zz_aload_n rfl rfl ?_
              refine zz_Vp rfl lk_M_107 cw_M_selected rfl (m0 hA) (ct_Mseld hA hcY) rfl rfl rfl rfl ?_
              have hrow : ∀ j, j < sh (sCur S) → (fun j => if j < sh (sCur S) then zjr (sr (sCur S) j) (zro (fun i : Nat => decide (zbox ((i : Int) - x1) ((j : Int) - y1) (sz % 65536) (sz % 4294967296 / 65536) ∧ (kd / 10 = 0 ∨ zel ((i : Int) - x1) ((j : Int) - y1) (sz % 65536) (sz % 4294967296 / 65536)))) (sw (sCur S))) (kd % 10) else sr (sCur S) j) j = sr (sSel (sCur S) kd x1 y1 (sz % 65536) (sz % 4294967296 / 65536)) j := fun j hj => by
                show (if j < sh (sCur S) then _ else _) = zjr _ (sShp _ _ _ _ _ _ j) _
                rw [if_pos hj, sShp_eq hkm.1]
              have hct : zc2 (fun j i => ((fun j => if j < sh (sCur S) then zjr (sr (sCur S) j) (zro (fun i : Nat => decide (zbox ((i : Int) - x1) ((j : Int) - y1) (sz % 65536) (sz % 4294967296 / 65536) ∧ (kd / 10 = 0 ∨ zel ((i : Int) - x1) ((j : Int) - y1) (sz % 65536) (sz % 4294967296 / 65536)))) (sw (sCur S))) (kd % 10) else sr (sCur S) j) j).testBit i) (sw (sCur S)) (sh (sCur S)) = sCt (sSel (sCur S) kd x1 y1 (sz % 65536) (sz % 4294967296 / 65536)) := zc2_congr _ (fun j i hj _ => by rw [hrow j hj])
              refine zz_eq (show ((zc2 (fun j i => ((fun j => if j < sh (sCur S) then zjr (sr (sCur S) j) (zro (fun i : Nat => decide (zbox ((i : Int) - x1) ((j : Int) - y1) (sz % 65536) (sz % 4294967296 / 65536) ∧ (kd / 10 = 0 ∨ zel ((i : Int) - x1) ((j : Int) - y1) (sz % 65536) (sz % 4294967296 / 65536)))) (sw (sCur S))) (kd % 10) else sr (sCur S) j) j).testBit i) (sw (sCur S)) (sh (sCur S)) : Nat) : Int) = (sCt (sSel (sCur S) kd x1 y1 (sz % 65536) (sz % 4294967296 / 65536)) : Nat) from by rw [hct]) ?_
              refine zz_iret rfl rfl ⟨_, rfl, ?_, (mF X1 2 (mfl (X1.2.1 2) (24 * sN1 S) (fun j => ((zjr (sr (sCur S) j) (zro (fun i : Nat => decide (zbox ((i : Int) - x1) ((j : Int) - y1) (sz % 65536) (sz % 4294967296 / 65536) ∧ (kd / 10 = 0 ∨ zel ((i : Int) - x1) ((j : Int) - y1) (sz % 65536) (sz % 4294967296 / 65536)))) (sw (sCur S))) (kd % 10) : Nat) : Int)) (sh (sCur S)))), rfl, Or.inr (Or.inr ⟨⟨hhas, hkm, ⟨hb51, hb64⟩, by omega, by omega⟩, trivial, h0, rfl, ?_⟩)⟩
              · have e8 := zc2_le (fun j i => (sr (sSel (sCur S) kd x1 y1 (sz % 65536) (sz % 4294967296 / 65536)) j).testBit i) (sw (sCur S)) (sh (sCur S))
                have e7 := Nat.mul_le_mul hw hh
                have e6 : sCt (sSel (sCur S) kd x1 y1 (sz % 65536) (sz % 4294967296 / 65536)) = zc2 (fun j i => (sr (sSel (sCur S) kd x1 y1 (sz % 65536) (sz % 4294967296 / 65536)) j).testBit i) (sw (sCur S)) (sh (sCur S)) := rfl
                exact ⟨by omega, by omega⟩
              refine hM1.upd hk hhas (fun _ _ => rfl) (fun i Q hi hne hQ hsl => ?_) ⟨hs1.1, hs1.2.1, hs1.2.2.1, fun y hy => ?_, hs1.2.2.2.2⟩ rfl rfl hB1
              · exact hsl.tr hQ rfl rfl rfl (fun y hy => mfl_out (f := X1.2.1 2) (b := 24 * sN1 S) (k := sh (sCur S)) (q := 24 * i + y) (T := (fun j => ((zjr (sr (sCur S) j) (zro (fun i : Nat => decide (zbox ((i : Int) - x1) ((j : Int) - y1) (sz % 65536) (sz % 4294967296 / 65536) ∧ (kd / 10 = 0 ∨ zel ((i : Int) - x1) ((j : Int) - y1) (sz % 65536) (sz % 4294967296 / 65536)))) (sw (sCur S))) (kd % 10) : Nat) : Int))) (by omega)) (fun _ _ => rfl) (fun _ _ => rfl) (fun _ _ => rfl) (fun _ _ => rfl)
              · have hy2 : y < sh (sCur S) := hy
                have e9 := hrow y hy2
                have e8 : (fun j => if j < sh (sCur S) then zjr (sr (sCur S) j) (zro (fun i : Nat => decide (zbox ((i : Int) - x1) ((j : Int) - y1) (sz % 65536) (sz % 4294967296 / 65536) ∧ (kd / 10 = 0 ∨ zel ((i : Int) - x1) ((j : Int) - y1) (sz % 65536) (sz % 4294967296 / 65536)))) (sw (sCur S))) (kd % 10) else sr (sCur S) j) y = zjr (sr (sCur S) y) (zro (fun i : Nat => decide (zbox ((i : Int) - x1) ((y : Int) - y1) (sz % 65536) (sz % 4294967296 / 65536) ∧ (kd / 10 = 0 ∨ zel ((i : Int) - x1) ((y : Int) - y1) (sz % 65536) (sz % 4294967296 / 65536)))) (sw (sCur S))) (kd % 10) := if_pos hy2
                exact (mfl_in (f := X1.2.1 2) (b := 24 * sN1 S) (k := sh (sCur S)) (r := y) (T := (fun j => ((zjr (sr (sCur S) j) (zro (fun i : Nat => decide (zbox ((i : Int) - x1) ((j : Int) - y1) (sz % 65536) (sz % 4294967296 / 65536) ∧ (kd / 10 = 0 ∨ zel ((i : Int) - x1) ((j : Int) - y1) (sz % 65536) (sz % 4294967296 / 65536)))) (sw (sCur S))) (kd % 10) : Nat) : Int))) hy2).trans (congrArg (fun z : Nat => (z : Int)) (e8.symm.trans e9))
    · skip
      refine zz_iload_n rfl rfl ?_
      refine zz_bipush rfl (by decide) ?_
      refine zz_bipush rfl (by decide) ?_
      refine zz_Sp rfl lk_M_71 cw_M_in (ct_Min hkd ⟨by decide, by decide⟩ ⟨by decide, by decide⟩) rfl rfl rfl rfl ?_
      refine zz_ifB_eq rfl (fun hb38 => ?_) (fun hb38 => ?_)
      · skip
        refine zz_iconst rfl ?_
        refine zz_istore rfl rfl rfl ?_
        refine zz_aload_n rfl rfl ?_
        refine zz_iload rfl rfl ?_
        refine zz_if_ne rfl (by omega) (fun hb93 => absurd hb93 (by first | decide | omega)) (fun hb93 => ?_)
        refine zz_iconst rfl ?_
        refine zz_goto rfl ?_
        refine zz_V rfl lk_M_75 cw_M_refuse rfl (m0 hA) (ct_Mrefuse1 hA) rfl rfl rfl rfl ?_
        rintro _ _ ⟨rfl, rfl⟩
        refine zaft_v ?_
        refine zz_if_eq rfl ⟨by decide, by decide⟩ (fun hb104 => absurd hb104 (by decide)) (fun hb104 => ?_)
        refine zz_iconst rfl ?_
        refine zz_iret rfl rfl ⟨0, rfl, z00, _, rfl, Or.inl ⟨(fun g => by have h8 := g.2.1; omega), rfl, hM.S0 _⟩⟩
      · skip
        refine zz_iload_n rfl rfl ?_
        refine zz_sipush rfl (by decide) ?_
        refine zz_sipush rfl (by decide) ?_
        refine zz_Sp rfl lk_M_71 cw_M_in (ct_Min hx0 ⟨by decide, by decide⟩ ⟨by decide, by decide⟩) rfl rfl rfl rfl ?_
        refine zz_ifB_eq rfl (fun hb51 => ?_) (fun hb51 => ?_)
        · skip
          refine zz_iconst rfl ?_
          refine zz_istore rfl rfl rfl ?_
          refine zz_aload_n rfl rfl ?_
          refine zz_iload rfl rfl ?_
          refine zz_if_ne rfl (by omega) (fun hb93 => absurd hb93 (by first | decide | omega)) (fun hb93 => ?_)
          refine zz_iconst rfl ?_
          refine zz_goto rfl ?_
          refine zz_V rfl lk_M_75 cw_M_refuse rfl (m0 hA) (ct_Mrefuse1 hA) rfl rfl rfl rfl ?_
          rintro _ _ ⟨rfl, rfl⟩
          refine zaft_v ?_
          refine zz_if_eq rfl ⟨by decide, by decide⟩ (fun hb104 => absurd hb104 (by decide)) (fun hb104 => ?_)
          refine zz_iconst rfl ?_
          refine zz_iret rfl rfl ⟨0, rfl, z00, _, rfl, Or.inl ⟨(fun g => hb51 g.2.2.1.1), rfl, hM.S0 _⟩⟩
        · skip
          refine zz_iload_n rfl rfl ?_
          refine zz_sipush rfl (by decide) ?_
          refine zz_sipush rfl (by decide) ?_
          refine zz_Sp rfl lk_M_71 cw_M_in (ct_Min hy0 ⟨by decide, by decide⟩ ⟨by decide, by decide⟩) rfl rfl rfl rfl ?_
          refine zz_ifB_eq rfl (fun hb64 => ?_) (fun hb64 => ?_)
          · skip
            refine zz_iconst rfl ?_
            refine zz_istore rfl rfl rfl ?_
            refine zz_aload_n rfl rfl ?_
            refine zz_iload rfl rfl ?_
            refine zz_if_ne rfl (by omega) (fun hb93 => absurd hb93 (by first | decide | omega)) (fun hb93 => ?_)
            refine zz_iconst rfl ?_
            refine zz_goto rfl ?_
            refine zz_V rfl lk_M_75 cw_M_refuse rfl (m0 hA) (ct_Mrefuse1 hA) rfl rfl rfl rfl ?_
            rintro _ _ ⟨rfl, rfl⟩
            refine zaft_v ?_
            refine zz_if_eq rfl ⟨by decide, by decide⟩ (fun hb104 => absurd hb104 (by decide)) (fun hb104 => ?_)
            refine zz_iconst rfl ?_
            refine zz_iret rfl rfl ⟨0, rfl, z00, _, rfl, Or.inl ⟨(fun g => hb64 g.2.2.1.2), rfl, hM.S0 _⟩⟩
          · skip
            refine zz_iload rfl rfl ?_
            refine zz_sipush rfl (by decide) ?_
            refine zz_icmp_gt rfl (by omega) (by omega) (fun hb72 => ?_) (fun hb72 => ?_)
            · skip
              refine zz_iconst rfl ?_
              refine zz_istore rfl rfl rfl ?_
              refine zz_aload_n rfl rfl ?_
              refine zz_iload rfl rfl ?_
              refine zz_if_ne rfl (by omega) (fun hb93 => absurd hb93 (by first | decide | omega)) (fun hb93 => ?_)
              refine zz_iconst rfl ?_
              refine zz_goto rfl ?_
              refine zz_V rfl lk_M_75 cw_M_refuse rfl (m0 hA) (ct_Mrefuse1 hA) rfl rfl rfl rfl ?_
              rintro _ _ ⟨rfl, rfl⟩
              refine zaft_v ?_
              refine zz_if_eq rfl ⟨by decide, by decide⟩ (fun hb104 => absurd hb104 (by decide)) (fun hb104 => ?_)
              refine zz_iconst rfl ?_
              refine zz_iret rfl rfl ⟨0, rfl, z00, _, rfl, Or.inl ⟨(fun g => by have := g.2.2.2.1; omega), rfl, hM.S0 _⟩⟩
            · skip
              refine zz_iload rfl rfl ?_
              refine zz_sipush rfl (by decide) ?_
              refine zz_icmp_gt rfl (by omega) (by omega) (fun hb80 => ?_) (fun hb80 => ?_)
              · skip
                refine zz_iconst rfl ?_
                refine zz_istore rfl rfl rfl ?_
                refine zz_aload_n rfl rfl ?_
                refine zz_iload rfl rfl ?_
                refine zz_if_ne rfl (by omega) (fun hb93 => absurd hb93 (by first | decide | omega)) (fun hb93 => ?_)
                refine zz_iconst rfl ?_
                refine zz_goto rfl ?_
                refine zz_V rfl lk_M_75 cw_M_refuse rfl (m0 hA) (ct_Mrefuse1 hA) rfl rfl rfl rfl ?_
                rintro _ _ ⟨rfl, rfl⟩
                refine zaft_v ?_
                refine zz_if_eq rfl ⟨by decide, by decide⟩ (fun hb104 => absurd hb104 (by decide)) (fun hb104 => ?_)
                refine zz_iconst rfl ?_
                refine zz_iret rfl rfl ⟨0, rfl, z00, _, rfl, Or.inl ⟨(fun g => by have := g.2.2.2.2; omega), rfl, hM.S0 _⟩⟩
              · skip
                refine zz_iconst rfl ?_
                refine zz_goto rfl ?_
                refine zz_istore rfl rfl rfl ?_
                refine zz_aload_n rfl rfl ?_
                refine zz_iload rfl rfl ?_
                refine zz_if_ne rfl (by omega) (fun hb93 => ?_) (fun hb93 => absurd hb93 (by first | decide | omega))
                refine zz_iconst rfl ?_
                refine zz_V rfl lk_M_75 cw_M_refuse rfl (m0 hA) (ct_Mrefuse0 hA) rfl rfl rfl rfl ?_
                rintro _ _ ⟨rfl, rfl⟩
                refine zaft_v ?_
                refine zz_if_eq rfl ⟨by decide, by decide⟩ (fun hb104 => ?_) (fun hb104 => absurd hb104 (by decide))
                refine zz_aload_n rfl rfl ?_
                refine zz_V rfl lk_M_83 cw_M_step rfl (m0 hA) (ct_Mstep hA (hM.S0 _) hk hhas) rfl rfl rfl rfl ?_
                rintro _ _ ⟨rfl, X1, rfl, h0, hM1⟩
                refine zaft_u ?_
                have hP : okP (sCur S) := (hk.1 hhas).2.2 _ (hk.1 hhas).1
                obtain ⟨hc1, hs1⟩ := mradd hM1 hk hhas hP
                have h4 := hc1.1
                have hn6 := sN1_le S
                have hB1 := hM1.2.2.2.2.2.2.2.2.2.2
                obtain ⟨⟨hw1, hw⟩, ⟨hh1, hh⟩, ⟨hn1, hn⟩, hkL, hkR⟩ := id hP
                refine zz_iconst rfl ?_
                refine zz_istore rfl rfl rfl ?_
                have hkm : (0 ≤ kd ∧ kd ≤ 13) ∧ kd % 10 ≤ 3 := ⟨⟨by omega, by omega⟩, by omega⟩
                refine Ev.heap (show mH h A X1 = mH h A (mF X1 2 (mfl (X1.2.1 2) (24 * sN1 S) (fun j => ((zjr (sr (sCur S) j) (zro (fun i : Nat => decide (zbox ((i : Int) - x1) ((j : Int) - y1) (sz % 65536) (sz % 4294967296 / 65536) ∧ (kd / 10 = 0 ∨ zel ((i : Int) - x1) ((j : Int) - y1) (sz % 65536) (sz % 4294967296 / 65536)))) (sw (sCur S))) (kd % 10) : Nat) : Int)) 0)) from by rw [mfl_0, mF_id]) ?_
                refine lp_selo (X := X1) (wd := (sz % 65536)) (hg := (sz % 4294967296 / 65536)) hA hc1 hkm.1 hb51 hb64 ⟨by omega, by omega⟩ ⟨by omega, by omega⟩ hkm.2 hkR ?_ (sh (sCur S)) 0 (by omega)
                have hcY := mc_sel (kd := kd) (x1 := x1) (y1 := y1) (wd := (sz % 65536)) (hg := (sz % 4294967296 / 65536)) hc1 hkR (sh (sCur S)) (Nat.le_refl _)
                refine zz_aload_n rfl rfl ?_
                refine zz_Vp rfl lk_M_107 cw_M_selected rfl (m0 hA) (ct_Mseld hA hcY) rfl rfl rfl rfl ?_
                have hrow : ∀ j, j < sh (sCur S) → (fun j => if j < sh (sCur S) then zjr (sr (sCur S) j) (zro (fun i : Nat => decide (zbox ((i : Int) - x1) ((j : Int) - y1) (sz % 65536) (sz % 4294967296 / 65536) ∧ (kd / 10 = 0 ∨ zel ((i : Int) - x1) ((j : Int) - y1) (sz % 65536) (sz % 4294967296 / 65536)))) (sw (sCur S))) (kd % 10) else sr (sCur S) j) j = sr (sSel (sCur S) kd x1 y1 (sz % 65536) (sz % 4294967296 / 65536)) j := fun j hj => by
                  show (if j < sh (sCur S) then _ else _) = zjr _ (sShp _ _ _ _ _ _ j) _
                  rw [if_pos hj, sShp_eq hkm.1]
                have hct : zc2 (fun j i => ((fun j => if j < sh (sCur S) then zjr (sr (sCur S) j) (zro (fun i : Nat => decide (zbox ((i : Int) - x1) ((j : Int) - y1) (sz % 65536) (sz % 4294967296 / 65536) ∧ (kd / 10 = 0 ∨ zel ((i : Int) - x1) ((j : Int) - y1) (sz % 65536) (sz % 4294967296 / 65536)))) (sw (sCur S))) (kd % 10) else sr (sCur S) j) j).testBit i) (sw (sCur S)) (sh (sCur S)) = sCt (sSel (sCur S) kd x1 y1 (sz % 65536) (sz % 4294967296 / 65536)) := zc2_congr _ (fun j i hj _ => by rw [hrow j hj])
                refine zz_eq (show ((zc2 (fun j i => ((fun j => if j < sh (sCur S) then zjr (sr (sCur S) j) (zro (fun i : Nat => decide (zbox ((i : Int) - x1) ((j : Int) - y1) (sz % 65536) (sz % 4294967296 / 65536) ∧ (kd / 10 = 0 ∨ zel ((i : Int) - x1) ((j : Int) - y1) (sz % 65536) (sz % 4294967296 / 65536)))) (sw (sCur S))) (kd % 10) else sr (sCur S) j) j).testBit i) (sw (sCur S)) (sh (sCur S)) : Nat) : Int) = (sCt (sSel (sCur S) kd x1 y1 (sz % 65536) (sz % 4294967296 / 65536)) : Nat) from by rw [hct]) ?_
                refine zz_iret rfl rfl ⟨_, rfl, ?_, (mF X1 2 (mfl (X1.2.1 2) (24 * sN1 S) (fun j => ((zjr (sr (sCur S) j) (zro (fun i : Nat => decide (zbox ((i : Int) - x1) ((j : Int) - y1) (sz % 65536) (sz % 4294967296 / 65536) ∧ (kd / 10 = 0 ∨ zel ((i : Int) - x1) ((j : Int) - y1) (sz % 65536) (sz % 4294967296 / 65536)))) (sw (sCur S))) (kd % 10) : Nat) : Int)) (sh (sCur S)))), rfl, Or.inr (Or.inr ⟨⟨hhas, hkm, ⟨hb51, hb64⟩, by omega, by omega⟩, trivial, h0, rfl, ?_⟩)⟩
                · have e8 := zc2_le (fun j i => (sr (sSel (sCur S) kd x1 y1 (sz % 65536) (sz % 4294967296 / 65536)) j).testBit i) (sw (sCur S)) (sh (sCur S))
                  have e7 := Nat.mul_le_mul hw hh
                  have e6 : sCt (sSel (sCur S) kd x1 y1 (sz % 65536) (sz % 4294967296 / 65536)) = zc2 (fun j i => (sr (sSel (sCur S) kd x1 y1 (sz % 65536) (sz % 4294967296 / 65536)) j).testBit i) (sw (sCur S)) (sh (sCur S)) := rfl
                  exact ⟨by omega, by omega⟩
                refine hM1.upd hk hhas (fun _ _ => rfl) (fun i Q hi hne hQ hsl => ?_) ⟨hs1.1, hs1.2.1, hs1.2.2.1, fun y hy => ?_, hs1.2.2.2.2⟩ rfl rfl hB1
                · exact hsl.tr hQ rfl rfl rfl (fun y hy => mfl_out (f := X1.2.1 2) (b := 24 * sN1 S) (k := sh (sCur S)) (q := 24 * i + y) (T := (fun j => ((zjr (sr (sCur S) j) (zro (fun i : Nat => decide (zbox ((i : Int) - x1) ((j : Int) - y1) (sz % 65536) (sz % 4294967296 / 65536) ∧ (kd / 10 = 0 ∨ zel ((i : Int) - x1) ((j : Int) - y1) (sz % 65536) (sz % 4294967296 / 65536)))) (sw (sCur S))) (kd % 10) : Nat) : Int))) (by omega)) (fun _ _ => rfl) (fun _ _ => rfl) (fun _ _ => rfl) (fun _ _ => rfl)
                · have hy2 : y < sh (sCur S) := hy
                  have e9 := hrow y hy2
                  have e8 : (fun j => if j < sh (sCur S) then zjr (sr (sCur S) j) (zro (fun i : Nat => decide (zbox ((i : Int) - x1) ((j : Int) - y1) (sz % 65536) (sz % 4294967296 / 65536) ∧ (kd / 10 = 0 ∨ zel ((i : Int) - x1) ((j : Int) - y1) (sz % 65536) (sz % 4294967296 / 65536)))) (sw (sCur S))) (kd % 10) else sr (sCur S) j) y = zjr (sr (sCur S) y) (zro (fun i : Nat => decide (zbox ((i : Int) - x1) ((y : Int) - y1) (sz % 65536) (sz % 4294967296 / 65536) ∧ (kd / 10 = 0 ∨ zel ((i : Int) - x1) ((y : Int) - y1) (sz % 65536) (sz % 4294967296 / 65536)))) (sw (sCur S))) (kd % 10) := if_pos hy2
                  exact (mfl_in (f := X1.2.1 2) (b := 24 * sN1 S) (k := sh (sCur S)) (r := y) (T := (fun j => ((zjr (sr (sCur S) j) (zro (fun i : Nat => decide (zbox ((i : Int) - x1) ((j : Int) - y1) (sz % 65536) (sz % 4294967296 / 65536) ∧ (kd / 10 = 0 ∨ zel ((i : Int) - x1) ((j : Int) - y1) (sz % 65536) (sz % 4294967296 / 65536)))) (sw (sCur S))) (kd % 10) : Nat) : Int))) hy2).trans (congrArg (fun z : Nat => (z : Int)) (e8.symm.trans e9))
end MQ4
