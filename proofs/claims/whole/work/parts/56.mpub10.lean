section MQ8
variable {Z : ZC} {h : ZH}
theorem zhv_1 {n k : Int} (hk : 0 ≤ k ∧ k ≤ 2) : zhv (zhv n k) 1 = zhv n (k + 1) := by
  have h : k = 0 ∨ k = 1 ∨ k = 2 := by omega
  unfold zhv
  rcases h with rfl | rfl | rfl
  · show ((n + 1 - 1) / 1 + 2 - 1) / 2 = (n + 2 - 1) / 2; omega
  · show ((n + 2 - 1) / 2 + 2 - 1) / 2 = (n + 4 - 1) / 4; omega
  · show ((n + 4 - 1) / 4 + 2 - 1) / 2 = (n + 8 - 1) / 8; omega
theorem zhv_0 (n : Int) : zhv n 0 = n := by
  unfold zhv
  show (n + 1 - 1) / 1 = n
  omega
theorem zhv_2 {n x : Int} (hn : 0 ≤ n) : x < zhv n 1 ↔ 2 * x < n := by
  unfold zhv
  show x < (n + 2 - 1) / 2 ↔ _
  omega
theorem zmg_0 : zmg 0 0 0 0 = 0 := by
  unfold zmg
  rw [if_pos (by unfold zmc; simp only [zby_0c]; rfl)]
theorem zmg_rr (a b c d : Int) : zrg (zmg a b c d) := by
  unfold zmg
  split
  · exact z00
  · exact zdot_rg _ _ _ _
theorem zlv_out {f : Nat → Int} {w ht : Nat} : ∀ k : Nat, k ≤ 3 → ∀ x y : Int, (zhv w k ≤ x ∨ zhv ht k ≤ y) → zlv f w ht k x y = 0 := by
  intro k
  induction k with
  | zero =>
    intro _ x y h
    rw [show ((0 : Nat) : Int) = 0 from rfl, zhv_0, zhv_0] at h
    show zldt f w ht x y = 0
    unfold zldt
    rw [if_neg (fun h9 => by have := h9.2.1; have := h9.2.2.2; omega)]
  | succ k ih =>
    intro hk x y h
    have e1 := zhv_1 (n := (w : Int)) (k := (k : Int)) ⟨by omega, by omega⟩
    have e2 := zhv_1 (n := (ht : Int)) (k := (k : Int)) ⟨by omega, by omega⟩
    have r1 := zhv_rg (n := (w : Int)) (k := (k : Int)) 
    have n1 : 0 ≤ zhv (w : Int) (k : Int) := by unfold zhv; exact Int.ediv_nonneg (by have := zpw_rg (k := (k : Int)) ⟨by omega, by omega⟩; omega) (by have := zpw_rg (k := (k : Int)) ⟨by omega, by omega⟩; omega)
    have n2 : 0 ≤ zhv (ht : Int) (k : Int) := by unfold zhv; exact Int.ediv_nonneg (by have := zpw_rg (k := (k : Int)) ⟨by omega, by omega⟩; omega) (by have := zpw_rg (k := (k : Int)) ⟨by omega, by omega⟩; omega)
    rw [show ((k + 1 : Nat) : Int) = (k : Int) + 1 by omega, ← e1, ← e2] at h
    have h3 : zhv w k ≤ 2 * x ∨ zhv ht k ≤ 2 * y := by
      rcases h with h | h
      · left
        have := (zhv_2 (x := x) n1)
        omega
      · right
        have := (zhv_2 (x := y) n2)
        omega
    show zmg _ _ _ _ = 0
    rw [ih (by omega) _ _ (by omega), ih (by omega) _ _ (by omega), ih (by omega) _ _ (by omega), ih (by omega) _ _ (by omega)]
    exact zmg_0
theorem zlv_rr {f : Nat → Int} {w ht : Nat} (hf : ∀ x y : Int, zrg (zldt f w ht x y)) (k : Nat) (x y : Int) : zrg (zlv f w ht k x y) := by
  cases k with
  | zero => exact hf x y
  | succ k => exact zmg_rr _ _ _ _
def mlv (X : MX) (w ht : Nat) (D : Nat → Nat → Int) (k : Nat) : Prop := ∀ x y : Nat, (x : Int) < zhv w k → (y : Int) < zhv ht k → X.2.1 12 (24 * y + x) = zlv (sFl D w) w ht k x y
theorem mq_rd {f : Nat → Int} {p : Nat → Nat → Bool} {G : Nat → Nat → Int} {y x i j : Nat} (hi : i < 24) (hj : ¬ (j < y ∨ (j = y ∧ i < x))) : mq f 0 p G y x (24 * j + i) = f (24 * j + i) := by
  unfold mq
  have e1 : (24 * j + i - 0) / 24 = j := by omega
  have e2 : (24 * j + i - 0) % 24 = i := by omega
  rw [e1, e2, if_neg (fun h9 => hj h9.2.1)]
theorem lp_cl0_i {A : Nat → Nat} {X : MX} (hA : mOk A) {n w ht : Nat} {R : Nat → Nat} (hc : mc X n w ht R) {l to : Int} (hl : 0 ≤ l ∧ l < 3) {MC MS mc ms : Nat} {Q : ZR → ZH → Prop} {y : Nat} (hy : y < ht) (kx : Ev Z (fun _ => True, m_M_climb, 2, MC, MS) 53 [.ref (A 0), zI l, zI to, zI (y : Nat), zI (w : Nat)] [] (mH h A (mF X 12 (mq (X.2.1 12) 0 (mpA w) (fun i j => X.2.1 1 (1728 * n + 576 * l.toNat + 24 * j + i)) y w))) mc ms Q) : ∀ (m x : Nat), x + m = w → Ev Z (fun _ => True, m_M_climb, 2, MC, MS) 13 [.ref (A 0), zI l, zI to, zI (y : Nat), zI (x : Nat)] [] (mH h A (mF X 12 (mq (X.2.1 12) 0 (mpA w) (fun i j => X.2.1 1 (1728 * n + 576 * l.toNat + 24 * j + i)) y x))) mc ms Q := by
  have hn6 := hc.2.1
  have hw24 := hc.2.2.2.2.1
  intro m
  induction m with
  | zero =>
    intro x hx
    refine zz_iload rfl rfl ?_
    refine zz_aload_n rfl rfl ?_
    refine zz_Vp rfl lk_M_100 cw_M_w rfl (m0 hA) (ct_Mw hA (hc.F 12 _ rfl)) rfl rfl rfl rfl ?_
    refine zz_icmp_ge rfl (by omega) (by omega) (fun hb19 => ?_) (fun hb19 => absurd hb19 (by omega))
    obtain rfl : x = w := by omega
    exact kx
  | succ m ih =>
    intro x hx
    have hxw : x < w := by omega
    refine zz_iload rfl rfl ?_
    refine zz_aload_n rfl rfl ?_
    refine zz_Vp rfl lk_M_100 cw_M_w rfl (m0 hA) (ct_Mw hA (hc.F 12 _ rfl)) rfl rfl rfl rfl ?_
    refine zz_icmp_ge rfl (by omega) (by omega) (fun hb19 => absurd hb19 (by omega)) (fun hb19 => ?_)
    refine zz_aload_n rfl rfl ?_
    refine zz_getf rfl fl_M_47 (m0 hA) rfl ?_
    refine zz_bipush rfl (by decide) ?_
    refine zz_iload_n rfl rfl ?_
    refine zz_imul rfl ?_
    refine zz_iload rfl rfl ?_
    refine zz_iadd rfl ?_
    refine zz_aload_n rfl rfl ?_
    refine zz_getf rfl fl_M_7 (m0 hA) rfl ?_
    refine zz_aload_n rfl rfl ?_
    refine zz_iload_n rfl rfl ?_
    refine zz_iload rfl rfl ?_
    refine zz_iload_n rfl rfl ?_
    refine zz_Vp rfl lk_M_132 cw_M_at rfl (m0 hA) (ct_Mat hA (hc.F 12 _ rfl).1) rfl rfl rfl rfl ?_
    refine zz_iald rfl (m1 hA) (by decide) (by omega) ?_
    refine zz_iast rfl (m12 hA) (by decide) (by omega) ?_
    refine Ev.heap (w12 hA) ?_
    refine Ev.heap (show mH h A (mF (mF X 12 (mq (X.2.1 12) 0 (mpA w) (fun i j => X.2.1 1 (1728 * n + 576 * l.toNat + 24 * j + i)) y x)) 12 (zup (mq (X.2.1 12) 0 (mpA w) (fun i j => X.2.1 1 (1728 * n + 576 * l.toNat + 24 * j + i)) y x) (24 * (y : Int) + (x : Int)).toNat (X.2.1 1 (1728 * (n : Int) + 576 * l + 24 * (y : Int) + (x : Int)).toNat))) = mH h A (mF X 12 (mq (X.2.1 12) 0 (mpA w) (fun i j => X.2.1 1 (1728 * n + 576 * l.toNat + 24 * j + i)) y (x + 1))) from by rw [mF_mF, mq_t (by omega) (mpA_t hxw) (by omega) (congrArg (X.2.1 1) (by omega))]) ?_
    refine zz_iincK ((x + 1 : Nat) : Int) rfl rfl rfl rfl (by omega) ?_
    refine zz_goto rfl ?_
    exact ih (x + 1) (by omega)
theorem lp_cl0_o {A : Nat → Nat} {X : MX} (hA : mOk A) {n w ht : Nat} {R : Nat → Nat} (hc : mc X n w ht R) {l to : Int} (hl : 0 ≤ l ∧ l < 3) {MC MS mc ms : Nat} {Q : ZR → ZH → Prop} (kx : Ev Z (fun _ => True, m_M_climb, 2, MC, MS) 59 [.ref (A 0), zI l, zI to, zI (ht : Nat)] [] (mH h A (mF X 12 (mq (X.2.1 12) 0 (mpA w) (fun i j => X.2.1 1 (1728 * n + 576 * l.toNat + 24 * j + i)) ht 0))) mc ms Q) : ∀ (m y : Nat), y + m = ht → Ev Z (fun _ => True, m_M_climb, 2, MC, MS) 2 [.ref (A 0), zI l, zI to, zI (y : Nat)] [] (mH h A (mF X 12 (mq (X.2.1 12) 0 (mpA w) (fun i j => X.2.1 1 (1728 * n + 576 * l.toNat + 24 * j + i)) y 0))) mc ms Q := by
  have hn6 := hc.2.1
  have hw24 := hc.2.2.2.2.1
  intro m
  induction m with
  | zero =>
    intro y hy
    refine zz_iload_n rfl rfl ?_
    refine zz_aload_n rfl rfl ?_
    refine zz_Vp rfl lk_M_96 cw_M_h rfl (m0 hA) (ct_Mh hA (hc.F 12 _ rfl)) rfl rfl rfl rfl ?_
    refine zz_icmp_ge rfl (by omega) (by omega) (fun hb7 => ?_) (fun hb7 => absurd hb7 (by omega))
    obtain rfl : y = ht := by omega
    exact kx
  | succ m ih =>
    intro y hy
    refine zz_iload_n rfl rfl ?_
    refine zz_aload_n rfl rfl ?_
    refine zz_Vp rfl lk_M_96 cw_M_h rfl (m0 hA) (ct_Mh hA (hc.F 12 _ rfl)) rfl rfl rfl rfl ?_
    refine zz_icmp_ge rfl (by omega) (by omega) (fun hb7 => absurd hb7 (by omega)) (fun hb7 => ?_)
    refine zz_iconst rfl ?_
    refine zz_istore rfl rfl rfl ?_
    refine lp_cl0_i hA hc hl (by omega) ?_ w 0 (by omega)
    refine zz_iincK ((y + 1 : Nat) : Int) rfl rfl rfl rfl (by omega) ?_
    refine zz_goto rfl ?_
    refine Ev.take 4 ?_
    refine Ev.heap (show _ = mH h A (mF X 12 (mq (X.2.1 12) 0 (mpA w) (fun i j => X.2.1 1 (1728 * n + 576 * l.toNat + 24 * j + i)) (y + 1) 0)) from by rw [mq_e mpA_lt]) ?_
    exact ih (y + 1) (by omega)
theorem lp_ck_i {A : Nat → Nat} {X : MX} (hA : mOk A) {n w ht : Nat} {R : Nat → Nat} (hc : mc X n w ht R) {l to : Int} {k wk hk w2 h2 : Nat} {D : Nat → Nat → Int} (hk2 : k ≤ 2) (ewk : (wk : Int) = zhv w k) (ehk : (hk : Int) = zhv ht k) (ew2 : (w2 : Int) = zhv w (k + 1)) (eh2 : (h2 : Int) = zhv ht (k + 1)) (hb1 : wk ≤ 24 ∧ hk ≤ 24) (hb2 : w2 ≤ 24 ∧ h2 ≤ 24) (hD0 : ∀ x y, x < w → y < ht → zrg (D x y)) (hlv : mlv X w ht D k) {MC MS mc ms : Nat} {Q : ZR → ZH → Prop} {y : Nat} (hy : y < h2) (kx : Ev Z (fun _ => True, m_M_climb, 2, MC, MS) 149 [.ref (A 0), zI l, zI to, zI (k : Nat), zI (wk : Nat), zI (hk : Nat), zI (y : Nat), zI (w2 : Nat)] [] (mH h A (mF X 12 (mq (X.2.1 12) 0 (mpA w2) (fun i j => zlv (sFl D w) w ht (k + 1) (i : Int) (j : Int)) y w2))) mc ms Q) : ∀ (m x : Nat), x + m = w2 → Ev Z (fun _ => True, m_M_climb, 2, MC, MS) 103 [.ref (A 0), zI l, zI to, zI (k : Nat), zI (wk : Nat), zI (hk : Nat), zI (y : Nat), zI (x : Nat)] [] (mH h A (mF X 12 (mq (X.2.1 12) 0 (mpA w2) (fun i j => zlv (sFl D w) w ht (k + 1) (i : Int) (j : Int)) y x))) mc ms Q := by
  have z1 := zhv_1 (n := (w : Int)) (k := (k : Int)) ⟨by omega, by omega⟩
  have z2 := zhv_1 (n := (ht : Int)) (k := (k : Int)) ⟨by omega, by omega⟩
  rw [← ewk, ← ew2] at z1
  rw [← ehk, ← eh2] at z2
  have y1 := fun x => zhv_2 (n := (wk : Int)) (x := x) (by omega)
  have y2 := fun x => zhv_2 (n := (hk : Int)) (x := x) (by omega)
  have hDr : ∀ a b : Int, zrg (zldt (sFl D w) w ht a b) := sDt_rg hD0
  intro m
  induction m with
  | zero =>
    intro x hx
    refine zz_iload rfl rfl ?_
    refine zz_iload rfl rfl ?_
    refine zz_iconst rfl ?_
    refine zz_Sp rfl lk_M_173 cw_M_half (ct_Mhalf (k := 1) ⟨by omega, by omega⟩ (by decide)) rfl rfl rfl rfl ?_
    refine zz_eq (show zhv (wk : Int) 1 = (w2 : Int) from z1) ?_
    refine zz_icmp_ge rfl (by omega) (by omega) (fun hb111 => ?_) (fun hb111 => absurd hb111 (by omega))
    obtain rfl : x = w2 := by omega
    exact kx
  | succ m ih =>
    intro x hx
    have hxw : x < w2 := by omega
    have y1x := y1 (x : Int)
    have y2y := y2 (y : Int)
    rw [z1] at y1x
    rw [z2] at y2y
    have rd : ∀ i j : Nat, (i : Int) < zhv w k → (j : Int) < zhv ht k → ¬ (j < y ∨ (j = y ∧ i < x)) → (mF X 12 (mq (X.2.1 12) 0 (mpA w2) (fun i j => zlv (sFl D w) w ht (k + 1) (i : Int) (j : Int)) y x)).2.1 12 (24 * j + i) = zlv (sFl D w) w ht k i j := fun i j hi hj hn => show mq (X.2.1 12) 0 (mpA w2) (fun i j => zlv (sFl D w) w ht (k + 1) (i : Int) (j : Int)) y x (24 * j + i) = _ from (mq_rd (by omega) hn).trans (hlv i j hi hj)
    refine zz_iload rfl rfl ?_
    refine zz_iload rfl rfl ?_
    refine zz_iconst rfl ?_
    refine zz_Sp rfl lk_M_173 cw_M_half (ct_Mhalf (k := 1) ⟨by omega, by omega⟩ (by decide)) rfl rfl rfl rfl ?_
    refine zz_eq (show zhv (wk : Int) 1 = (w2 : Int) from z1) ?_
    refine zz_icmp_ge rfl (by omega) (by omega) (fun hb111 => absurd hb111 (by omega)) (fun hb111 => ?_)
    have c1 : ((2 * x : Nat) : Int) = 2 * (x : Int) := by omega
    have c2 : ((2 * y : Nat) : Int) = 2 * (y : Int) := by omega
    have c3 : ((2 * x + 1 : Nat) : Int) = 2 * (x : Int) + 1 := by omega
    have c4 : ((2 * y + 1 : Nat) : Int) = 2 * (y : Int) + 1 := by omega
    have va := rd (2 * x) (2 * y) (by omega) (by omega) (by omega)
    rw [c1, c2] at va
    have vb : if 2 * x + 1 < wk then (mF X 12 (mq (X.2.1 12) 0 (mpA w2) (fun i j => zlv (sFl D w) w ht (k + 1) (i : Int) (j : Int)) y x)).2.1 12 (24 * (2 * y) + (2 * x + 1)) = zlv (sFl D w) w ht k (2 * (x : Int) + 1) (2 * (y : Int)) else zlv (sFl D w) w ht k (2 * (x : Int) + 1) (2 * (y : Int)) = 0 := by
      split
      · next g => have h9 := rd (2 * x + 1) (2 * y) (by omega) (by omega) (by omega); rw [c3, c2] at h9; exact h9
      · next g => exact zlv_out k (by omega) _ _ (by omega)
    have vc : if 2 * y + 1 < hk then (mF X 12 (mq (X.2.1 12) 0 (mpA w2) (fun i j => zlv (sFl D w) w ht (k + 1) (i : Int) (j : Int)) y x)).2.1 12 (24 * (2 * y + 1) + 2 * x) = zlv (sFl D w) w ht k (2 * (x : Int)) (2 * (y : Int) + 1) else zlv (sFl D w) w ht k (2 * (x : Int)) (2 * (y : Int) + 1) = 0 := by
      split
      · next g => have h9 := rd (2 * x) (2 * y + 1) (by omega) (by omega) (by omega); rw [c1, c4] at h9; exact h9
      · next g => exact zlv_out k (by omega) _ _ (by omega)
    have vd : if 2 * x + 1 < wk ∧ 2 * y + 1 < hk then (mF X 12 (mq (X.2.1 12) 0 (mpA w2) (fun i j => zlv (sFl D w) w ht (k + 1) (i : Int) (j : Int)) y x)).2.1 12 (24 * (2 * y + 1) + (2 * x + 1)) = zlv (sFl D w) w ht k (2 * (x : Int) + 1) (2 * (y : Int) + 1) else zlv (sFl D w) w ht k (2 * (x : Int) + 1) (2 * (y : Int) + 1) = 0 := by
      split
      · next g => have h9 := rd (2 * x + 1) (2 * y + 1) (by omega) (by omega) (by omega); rw [c3, c4] at h9; exact h9
      · next g => exact zlv_out k (by omega) _ _ (by omega)
    refine zz_aload_n rfl rfl ?_
    refine zz_getf rfl fl_M_47 (m0 hA) rfl ?_
    refine zz_bipush rfl (by decide) ?_
    refine zz_iload rfl rfl ?_
    refine zz_imul rfl ?_
    refine zz_iload rfl rfl ?_
    refine zz_iadd rfl ?_
    refine zz_aload_n rfl rfl ?_
    refine zz_iconst rfl ?_
    refine zz_iload rfl rfl ?_
    refine zz_imul rfl ?_
    refine zz_eq (show 2 * (x : Int) = ((2 * x : Nat) : Int) from by omega) ?_
    refine zz_iconst rfl ?_
    refine zz_iload rfl rfl ?_
    refine zz_imul rfl ?_
    refine zz_eq (show 2 * (y : Int) = ((2 * y : Nat) : Int) from by omega) ?_
    refine zz_iload rfl rfl ?_
    refine zz_iload rfl rfl ?_
    refine zz_Vp rfl lk_M_176 cw_M_four rfl (m0 hA) (ct_Mfour (x := 2 * x) (y := 2 * y) (w := wk) (e := hk) (a := zlv (sFl D w) w ht k (2 * (x : Int)) (2 * (y : Int))) (b := zlv (sFl D w) w ht k (2 * (x : Int) + 1) (2 * (y : Int))) (c := zlv (sFl D w) w ht k (2 * (x : Int)) (2 * (y : Int) + 1)) (d := zlv (sFl D w) w ht k (2 * (x : Int) + 1) (2 * (y : Int) + 1)) hA (by omega) (by omega) hb1.1 hb1.2 (zlv_rr hDr _ _ _) (zlv_rr hDr _ _ _) (zlv_rr hDr _ _ _) (zlv_rr hDr _ _ _) va vb vc vd) rfl rfl rfl rfl ?_
    refine zz_iast rfl (m12 hA) (by decide) ⟨by omega, by omega⟩ ?_
    refine Ev.heap (w12 hA) ?_
    refine Ev.heap (show mH h A (mF (mF X 12 (mq (X.2.1 12) 0 (mpA w2) (fun i j => zlv (sFl D w) w ht (k + 1) (i : Int) (j : Int)) y x)) 12 (zup (mq (X.2.1 12) 0 (mpA w2) (fun i j => zlv (sFl D w) w ht (k + 1) (i : Int) (j : Int)) y x) (24 * (y : Int) + (x : Int)).toNat (zmg (zlv (sFl D w) w ht k (2 * (x : Int)) (2 * (y : Int))) (zlv (sFl D w) w ht k (2 * (x : Int) + 1) (2 * (y : Int))) (zlv (sFl D w) w ht k (2 * (x : Int)) (2 * (y : Int) + 1)) (zlv (sFl D w) w ht k (2 * (x : Int) + 1) (2 * (y : Int) + 1))))) = mH h A (mF X 12 (mq (X.2.1 12) 0 (mpA w2) (fun i j => zlv (sFl D w) w ht (k + 1) (i : Int) (j : Int)) y (x + 1))) from by rw [mF_mF]; exact congrArg (fun z => mH h A (mF X 12 z)) (mq_t (G := (fun i j => zlv (sFl D w) w ht (k + 1) (i : Int) (j : Int))) (by omega) (mpA_t hxw) (by omega) rfl)) ?_
    refine zz_iincK ((x + 1 : Nat) : Int) rfl rfl rfl rfl (by omega) ?_
    refine zz_goto rfl ?_
    exact ih (x + 1) (by omega)
theorem lp_ck_o {A : Nat → Nat} {X : MX} (hA : mOk A) {n w ht : Nat} {R : Nat → Nat} (hc : mc X n w ht R) {l to : Int} {k wk hk w2 h2 : Nat} {D : Nat → Nat → Int} (hk2 : k ≤ 2) (ewk : (wk : Int) = zhv w k) (ehk : (hk : Int) = zhv ht k) (ew2 : (w2 : Int) = zhv w (k + 1)) (eh2 : (h2 : Int) = zhv ht (k + 1)) (hb1 : wk ≤ 24 ∧ hk ≤ 24) (hb2 : w2 ≤ 24 ∧ h2 ≤ 24) (hD0 : ∀ x y, x < w → y < ht → zrg (D x y)) (hlv : mlv X w ht D k) {MC MS mc ms : Nat} {Q : ZR → ZH → Prop} (kx : Ev Z (fun _ => True, m_M_climb, 2, MC, MS) 155 [.ref (A 0), zI l, zI to, zI (k : Nat), zI (wk : Nat), zI (hk : Nat), zI (h2 : Nat)] [] (mH h A (mF X 12 (mq (X.2.1 12) 0 (mpA w2) (fun i j => zlv (sFl D w) w ht (k + 1) (i : Int) (j : Int)) h2 0))) mc ms Q) : ∀ (m y : Nat), y + m = h2 → Ev Z (fun _ => True, m_M_climb, 2, MC, MS) 89 [.ref (A 0), zI l, zI to, zI (k : Nat), zI (wk : Nat), zI (hk : Nat), zI (y : Nat)] [] (mH h A (mF X 12 (mq (X.2.1 12) 0 (mpA w2) (fun i j => zlv (sFl D w) w ht (k + 1) (i : Int) (j : Int)) y 0))) mc ms Q := by
  have z1 := zhv_1 (n := (w : Int)) (k := (k : Int)) ⟨by omega, by omega⟩
  have z2 := zhv_1 (n := (ht : Int)) (k := (k : Int)) ⟨by omega, by omega⟩
  rw [← ewk, ← ew2] at z1
  rw [← ehk, ← eh2] at z2
  have y1 := fun x => zhv_2 (n := (wk : Int)) (x := x) (by omega)
  have y2 := fun x => zhv_2 (n := (hk : Int)) (x := x) (by omega)
  have hDr : ∀ a b : Int, zrg (zldt (sFl D w) w ht a b) := sDt_rg hD0
  intro m
  induction m with
  | zero =>
    intro y hy
    refine zz_iload rfl rfl ?_
    refine zz_iload rfl rfl ?_
    refine zz_iconst rfl ?_
    refine zz_Sp rfl lk_M_173 cw_M_half (ct_Mhalf (k := 1) ⟨by omega, by omega⟩ (by decide)) rfl rfl rfl rfl ?_
    refine zz_eq (show zhv (hk : Int) 1 = (h2 : Int) from z2) ?_
    refine zz_icmp_ge rfl (by omega) (by omega) (fun hb97 => ?_) (fun hb97 => absurd hb97 (by omega))
    obtain rfl : y = h2 := by omega
    exact kx
  | succ m ih =>
    intro y hy
    have y2y := y2 (y : Int)
    rw [z2] at y2y
    refine zz_iload rfl rfl ?_
    refine zz_iload rfl rfl ?_
    refine zz_iconst rfl ?_
    refine zz_Sp rfl lk_M_173 cw_M_half (ct_Mhalf (k := 1) ⟨by omega, by omega⟩ (by decide)) rfl rfl rfl rfl ?_
    refine zz_eq (show zhv (hk : Int) 1 = (h2 : Int) from z2) ?_
    refine zz_icmp_ge rfl (by omega) (by omega) (fun hb97 => absurd hb97 (by omega)) (fun hb97 => ?_)
    refine zz_iconst rfl ?_
    refine zz_istore rfl rfl rfl ?_
    refine lp_ck_i hA hc hk2 ewk ehk ew2 eh2 hb1 hb2 hD0 hlv (by omega) ?_ w2 0 (by omega)
    refine zz_iincK ((y + 1 : Nat) : Int) rfl rfl rfl rfl (by omega) ?_
    refine zz_goto rfl ?_
    refine Ev.take 7 ?_
    refine Ev.heap (show _ = mH h A (mF X 12 (mq (X.2.1 12) 0 (mpA w2) (fun i j => zlv (sFl D w) w ht (k + 1) (i : Int) (j : Int)) (y + 1) 0)) from by rw [mq_e mpA_lt]) ?_
    exact ih (y + 1) (by omega)
theorem cl_one {A : Nat → Nat} {X : MX} (hA : mOk A) {n w ht : Nat} {R : Nat → Nat} (hc : mc X n w ht R) {l to : Int} {k : Nat} {D : Nat → Nat → Int} (hk2 : k ≤ 2) (hD0 : ∀ x y, x < w → y < ht → zrg (D x y)) (hlv : mlv X w ht D k) {MC MS mc ms : Nat} {Q : ZR → ZH → Prop} (kx : ∀ f, mlv (mF X 12 f) w ht D (k + 1) → Ev Z (fun _ => True, m_M_climb, 2, MC, MS) 155 [.ref (A 0), zI l, zI to, zI (k : Nat)] [] (mH h A (mF X 12 f)) mc ms Q) : Ev Z (fun _ => True, m_M_climb, 2, MC, MS) 66 [.ref (A 0), zI l, zI to, zI (k : Nat)] [] (mH h A X) mc ms Q := by
  have hw24 := hc.2.2.2.2.1
  have r1 := zhv_24 (k := (k : Int)) hw24.1 ⟨by omega, by omega⟩
  have r2 := zhv_24 (k := (k : Int)) hw24.2 ⟨by omega, by omega⟩
  have r3 := zhv_24 (k := ((k + 1 : Nat) : Int)) hw24.1 ⟨by omega, by omega⟩
  have r4 := zhv_24 (k := ((k + 1 : Nat) : Int)) hw24.2 ⟨by omega, by omega⟩
  have s1 := zhv_rg (n := (w : Int)) (k := (k : Int)) ⟨by omega, by omega⟩ ⟨by omega, by omega⟩
  have s2 := zhv_rg (n := (ht : Int)) (k := (k : Int)) ⟨by omega, by omega⟩ ⟨by omega, by omega⟩
  have s3 := zhv_rg (n := (w : Int)) (k := ((k + 1 : Nat) : Int)) ⟨by omega, by omega⟩ ⟨by omega, by omega⟩
  have s4 := zhv_rg (n := (ht : Int)) (k := ((k + 1 : Nat) : Int)) ⟨by omega, by omega⟩ ⟨by omega, by omega⟩
  obtain ⟨wk, ewk⟩ := Int.eq_ofNat_of_zero_le s1.1
  obtain ⟨hk, ehk⟩ := Int.eq_ofNat_of_zero_le s2.1
  obtain ⟨w2, ew2⟩ := Int.eq_ofNat_of_zero_le s3.1
  obtain ⟨h2, eh2⟩ := Int.eq_ofNat_of_zero_le s4.1
  refine zz_aload_n rfl rfl ?_
  refine zz_Vp rfl lk_M_100 cw_M_w rfl (m0 hA) (ct_Mw hA hc) rfl rfl rfl rfl ?_
  refine zz_iload_n rfl rfl ?_
  refine zz_Sp rfl lk_M_173 cw_M_half (ct_Mhalf ⟨by omega, by omega⟩ ⟨by omega, by omega⟩) rfl rfl rfl rfl ?_
  refine zz_eq ewk ?_
  refine zz_istore rfl rfl rfl ?_
  refine zz_aload_n rfl rfl ?_
  refine zz_Vp rfl lk_M_96 cw_M_h rfl (m0 hA) (ct_Mh hA hc) rfl rfl rfl rfl ?_
  refine zz_iload_n rfl rfl ?_
  refine zz_Sp rfl lk_M_173 cw_M_half (ct_Mhalf ⟨by omega, by omega⟩ ⟨by omega, by omega⟩) rfl rfl rfl rfl ?_
  refine zz_eq ehk ?_
  refine zz_istore rfl rfl rfl ?_
  refine zz_iconst rfl ?_
  refine zz_istore rfl rfl rfl ?_
  refine Ev.heap (show mH h A X = mH h A (mF X 12 (mq (X.2.1 12) 0 (mpA w2) (fun i j => zlv (sFl D w) w ht (k + 1) (i : Int) (j : Int)) 0 0)) from by rw [mq_0, mF_id]) ?_
  refine lp_ck_o (w2 := w2) (h2 := h2) hA hc hk2 ewk.symm ehk.symm ew2.symm eh2.symm ⟨by omega, by omega⟩ ⟨by omega, by omega⟩ hD0 hlv ?_ h2 0 (by omega)
  refine Ev.take 4 ?_
  refine kx _ (fun x y hx hy => ?_)
  have e9 := mq_at (f := X.2.1 12) (b := 0) (p := mpA w2) (G := (fun i j => zlv (sFl D w) w ht (k + 1) (i : Int) (j : Int))) (ht := h2) (i := x) (j := y) (by omega) (by omega)
  rw [Nat.zero_add, mpA_t (by omega), if_pos rfl] at e9
  exact e9
theorem ct_Mclimb {A : Nat → Nat} {X : MX} (hA : mOk A) {n w ht : Nat} {R : Nat → Nat} (hc : mc X n w ht R) {l to : Int} {D : Nat → Nat → Int} (hl : 0 ≤ l ∧ l < 3) (hto0 : 0 ≤ to ∧ to ≤ 3) (hD0 : ∀ x y, x < w → y < ht → zrg (D x y)) (hdt : ∀ x y, x < w → y < ht → X.2.1 1 (1728 * n + 576 * l.toNat + 24 * y + x) = D x y) : Ct Z m_M_climb 2 0 0 [.ref (A 0), zI l, zI to] (mH h A X) (fun r h' => r = .inl none ∧ ∃ f, h' = mH h A (mF X 12 f) ∧ mlv (mF X 12 f) w ht D to.toNat) := by
  have hw24 := hc.2.2.2.2.1
  have hto : to = 0 ∨ to = 1 ∨ to = 2 ∨ to = 3 := by omega
  rcases hto with rfl | rfl | rfl | rfl
  · skip
    refine zct rfl (by decide) ok_M_climb rfl rfl ?_
    refine zz_iconst rfl ?_
    refine zz_istore_n rfl rfl rfl ?_
    refine Ev.heap (show mH h A X = mH h A (mF X 12 (mq (X.2.1 12) 0 (mpA w) (fun i j => X.2.1 1 (1728 * n + 576 * l.toNat + 24 * j + i)) 0 0)) from by rw [mq_0, mF_id]) ?_
    refine lp_cl0_o hA hc hl ?_ ht 0 (by omega)
    obtain ⟨f0, hf0⟩ : ∃ f, f = mq (X.2.1 12) 0 (mpA w) (fun i j => X.2.1 1 (1728 * n + 576 * l.toNat + 24 * j + i)) ht 0 := ⟨_, rfl⟩
    rw [← hf0]
    have lv0 : mlv (mF X 12 f0) w ht D 0 := fun x y hx hy => by
      rw [show ((0 : Nat) : Int) = 0 from rfl, zhv_0] at hx hy
      have e9 := mq_at (f := X.2.1 12) (b := 0) (p := mpA w) (G := (fun i j => X.2.1 1 (1728 * n + 576 * l.toNat + 24 * j + i))) (ht := ht) (i := x) (j := y) (by omega) (by omega)
      rw [Nat.zero_add, mpA_t (by omega), if_pos rfl, ← hf0] at e9
      exact e9.trans ((hdt x y (by omega) (by omega)).trans (sDt_in (by omega) (by omega)).symm)
    refine zz_iconst rfl ?_
    refine zz_istore_n rfl rfl rfl ?_
    refine zz_iload_n rfl rfl ?_
    refine zz_iload_n rfl rfl ?_
    refine zz_icmp_ge rfl (by omega) (by omega) (fun hb63 => ?_) (fun hb63 => absurd hb63 (by first | decide | omega))
    refine zz_vret rfl rfl ⟨rfl, f0, rfl, lv0⟩
  · skip
    refine zct rfl (by decide) ok_M_climb rfl rfl ?_
    refine zz_iconst rfl ?_
    refine zz_istore_n rfl rfl rfl ?_
    refine Ev.heap (show mH h A X = mH h A (mF X 12 (mq (X.2.1 12) 0 (mpA w) (fun i j => X.2.1 1 (1728 * n + 576 * l.toNat + 24 * j + i)) 0 0)) from by rw [mq_0, mF_id]) ?_
    refine lp_cl0_o hA hc hl ?_ ht 0 (by omega)
    obtain ⟨f0, hf0⟩ : ∃ f, f = mq (X.2.1 12) 0 (mpA w) (fun i j => X.2.1 1 (1728 * n + 576 * l.toNat + 24 * j + i)) ht 0 := ⟨_, rfl⟩
    rw [← hf0]
    have lv0 : mlv (mF X 12 f0) w ht D 0 := fun x y hx hy => by
      rw [show ((0 : Nat) : Int) = 0 from rfl, zhv_0] at hx hy
      have e9 := mq_at (f := X.2.1 12) (b := 0) (p := mpA w) (G := (fun i j => X.2.1 1 (1728 * n + 576 * l.toNat + 24 * j + i))) (ht := ht) (i := x) (j := y) (by omega) (by omega)
      rw [Nat.zero_add, mpA_t (by omega), if_pos rfl, ← hf0] at e9
      exact e9.trans ((hdt x y (by omega) (by omega)).trans (sDt_in (by omega) (by omega)).symm)
    refine zz_iconst rfl ?_
    refine zz_istore_n rfl rfl rfl ?_
    refine zz_iload_n rfl rfl ?_
    refine zz_iload_n rfl rfl ?_
    refine zz_icmp_ge rfl (by omega) (by omega) (fun hb63 => absurd hb63 (by first | decide | omega)) (fun hb63 => ?_)
    refine Ev.take 4 ?_
    refine cl_one (X := mF X 12 f0) (k := 0) hA (hc.F 12 _ rfl) (by decide) hD0 lv0 (fun g1 lv1 => ?_)
    obtain ⟨f1, hf1⟩ : ∃ f, f = g1 := ⟨_, rfl⟩
    refine Ev.heap (show _ = mH h A (mF X 12 f1) from by rw [mF_mF, hf1]) ?_
    replace lv1 : mlv (mF X 12 f1) w ht D 1 := by rw [hf1]; exact lv1
    refine zz_iincK 1 rfl rfl rfl rfl (by decide) ?_
    refine zz_goto rfl ?_
    refine zz_iload_n rfl rfl ?_
    refine zz_iload_n rfl rfl ?_
    refine zz_icmp_ge rfl (by omega) (by omega) (fun hb63 => ?_) (fun hb63 => absurd hb63 (by first | decide | omega))
    refine zz_vret rfl rfl ⟨rfl, f1, rfl, lv1⟩
  · skip
    refine zct rfl (by decide) ok_M_climb rfl rfl ?_
    refine zz_iconst rfl ?_
    refine zz_istore_n rfl rfl rfl ?_
    refine Ev.heap (show mH h A X = mH h A (mF X 12 (mq (X.2.1 12) 0 (mpA w) (fun i j => X.2.1 1 (1728 * n + 576 * l.toNat + 24 * j + i)) 0 0)) from by rw [mq_0, mF_id]) ?_
    refine lp_cl0_o hA hc hl ?_ ht 0 (by omega)
    obtain ⟨f0, hf0⟩ : ∃ f, f = mq (X.2.1 12) 0 (mpA w) (fun i j => X.2.1 1 (1728 * n + 576 * l.toNat + 24 * j + i)) ht 0 := ⟨_, rfl⟩
    rw [← hf0]
    have lv0 : mlv (mF X 12 f0) w ht D 0 := fun x y hx hy => by
      rw [show ((0 : Nat) : Int) = 0 from rfl, zhv_0] at hx hy
      have e9 := mq_at (f := X.2.1 12) (b := 0) (p := mpA w) (G := (fun i j => X.2.1 1 (1728 * n + 576 * l.toNat + 24 * j + i))) (ht := ht) (i := x) (j := y) (by omega) (by omega)
      rw [Nat.zero_add, mpA_t (by omega), if_pos rfl, ← hf0] at e9
      exact e9.trans ((hdt x y (by omega) (by omega)).trans (sDt_in (by omega) (by omega)).symm)
    refine zz_iconst rfl ?_
    refine zz_istore_n rfl rfl rfl ?_
    refine zz_iload_n rfl rfl ?_
    refine zz_iload_n rfl rfl ?_
    refine zz_icmp_ge rfl (by omega) (by omega) (fun hb63 => absurd hb63 (by first | decide | omega)) (fun hb63 => ?_)
    refine Ev.take 4 ?_
    refine cl_one (X := mF X 12 f0) (k := 0) hA (hc.F 12 _ rfl) (by decide) hD0 lv0 (fun g1 lv1 => ?_)
    obtain ⟨f1, hf1⟩ : ∃ f, f = g1 := ⟨_, rfl⟩
    refine Ev.heap (show _ = mH h A (mF X 12 f1) from by rw [mF_mF, hf1]) ?_
    replace lv1 : mlv (mF X 12 f1) w ht D 1 := by rw [hf1]; exact lv1
    refine zz_iincK 1 rfl rfl rfl rfl (by decide) ?_
    refine zz_goto rfl ?_
    refine zz_iload_n rfl rfl ?_
    refine zz_iload_n rfl rfl ?_
    refine zz_icmp_ge rfl (by omega) (by omega) (fun hb63 => absurd hb63 (by first | decide | omega)) (fun hb63 => ?_)
    refine Ev.take 4 ?_
    refine cl_one (X := mF X 12 f1) (k := 1) hA (hc.F 12 _ rfl) (by decide) hD0 lv1 (fun g2 lv2 => ?_)
    obtain ⟨f2, hf2⟩ : ∃ f, f = g2 := ⟨_, rfl⟩
    refine Ev.heap (show _ = mH h A (mF X 12 f2) from by rw [mF_mF, hf2]) ?_
    replace lv2 : mlv (mF X 12 f2) w ht D 2 := by rw [hf2]; exact lv2
    refine zz_iincK 2 rfl rfl rfl rfl (by decide) ?_
    refine zz_goto rfl ?_
    refine zz_iload_n rfl rfl ?_
    refine zz_iload_n rfl rfl ?_
    refine zz_icmp_ge rfl (by omega) (by omega) (fun hb63 => ?_) (fun hb63 => absurd hb63 (by first | decide | omega))
    refine zz_vret rfl rfl ⟨rfl, f2, rfl, lv2⟩
  · skip
    refine zct rfl (by decide) ok_M_climb rfl rfl ?_
    refine zz_iconst rfl ?_
    refine zz_istore_n rfl rfl rfl ?_
    refine Ev.heap (show mH h A X = mH h A (mF X 12 (mq (X.2.1 12) 0 (mpA w) (fun i j => X.2.1 1 (1728 * n + 576 * l.toNat + 24 * j + i)) 0 0)) from by rw [mq_0, mF_id]) ?_
    refine lp_cl0_o hA hc hl ?_ ht 0 (by omega)
    obtain ⟨f0, hf0⟩ : ∃ f, f = mq (X.2.1 12) 0 (mpA w) (fun i j => X.2.1 1 (1728 * n + 576 * l.toNat + 24 * j + i)) ht 0 := ⟨_, rfl⟩
    rw [← hf0]
    have lv0 : mlv (mF X 12 f0) w ht D 0 := fun x y hx hy => by
      rw [show ((0 : Nat) : Int) = 0 from rfl, zhv_0] at hx hy
      have e9 := mq_at (f := X.2.1 12) (b := 0) (p := mpA w) (G := (fun i j => X.2.1 1 (1728 * n + 576 * l.toNat + 24 * j + i))) (ht := ht) (i := x) (j := y) (by omega) (by omega)
      rw [Nat.zero_add, mpA_t (by omega), if_pos rfl, ← hf0] at e9
      exact e9.trans ((hdt x y (by omega) (by omega)).trans (sDt_in (by omega) (by omega)).symm)
    refine zz_iconst rfl ?_
    refine zz_istore_n rfl rfl rfl ?_
    refine zz_iload_n rfl rfl ?_
    refine zz_iload_n rfl rfl ?_
    refine zz_icmp_ge rfl (by omega) (by omega) (fun hb63 => absurd hb63 (by first | decide | omega)) (fun hb63 => ?_)
    refine Ev.take 4 ?_
    refine cl_one (X := mF X 12 f0) (k := 0) hA (hc.F 12 _ rfl) (by decide) hD0 lv0 (fun g1 lv1 => ?_)
    obtain ⟨f1, hf1⟩ : ∃ f, f = g1 := ⟨_, rfl⟩
    refine Ev.heap (show _ = mH h A (mF X 12 f1) from by rw [mF_mF, hf1]) ?_
    replace lv1 : mlv (mF X 12 f1) w ht D 1 := by rw [hf1]; exact lv1
    refine zz_iincK 1 rfl rfl rfl rfl (by decide) ?_
    refine zz_goto rfl ?_
    refine zz_iload_n rfl rfl ?_
    refine zz_iload_n rfl rfl ?_
    refine zz_icmp_ge rfl (by omega) (by omega) (fun hb63 => absurd hb63 (by first | decide | omega)) (fun hb63 => ?_)
    refine Ev.take 4 ?_
    refine cl_one (X := mF X 12 f1) (k := 1) hA (hc.F 12 _ rfl) (by decide) hD0 lv1 (fun g2 lv2 => ?_)
    obtain ⟨f2, hf2⟩ : ∃ f, f = g2 := ⟨_, rfl⟩
    refine Ev.heap (show _ = mH h A (mF X 12 f2) from by rw [mF_mF, hf2]) ?_
    replace lv2 : mlv (mF X 12 f2) w ht D 2 := by rw [hf2]; exact lv2
    refine zz_iincK 2 rfl rfl rfl rfl (by decide) ?_
    refine zz_goto rfl ?_
    refine zz_iload_n rfl rfl ?_
    refine zz_iload_n rfl rfl ?_
    refine zz_icmp_ge rfl (by omega) (by omega) (fun hb63 => absurd hb63 (by first | decide | omega)) (fun hb63 => ?_)
    refine Ev.take 4 ?_
    refine cl_one (X := mF X 12 f2) (k := 2) hA (hc.F 12 _ rfl) (by decide) hD0 lv2 (fun g3 lv3 => ?_)
    obtain ⟨f3, hf3⟩ : ∃ f, f = g3 := ⟨_, rfl⟩
    refine Ev.heap (show _ = mH h A (mF X 12 f3) from by rw [mF_mF, hf3]) ?_
    replace lv3 : mlv (mF X 12 f3) w ht D 3 := by rw [hf3]; exact lv3
    refine zz_iincK 3 rfl rfl rfl rfl (by decide) ?_
    refine zz_goto rfl ?_
    refine zz_iload_n rfl rfl ?_
    refine zz_iload_n rfl rfl ?_
    refine zz_icmp_ge rfl (by omega) (by omega) (fun hb63 => ?_) (fun hb63 => absurd hb63 (by first | decide | omega))
    refine zz_vret rfl rfl ⟨rfl, f3, rfl, lv3⟩
end MQ8
