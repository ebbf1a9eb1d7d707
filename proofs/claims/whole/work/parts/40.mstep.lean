section MS
variable {Z : ZC} {h : ZH}
theorem mF_mF (X : MX) (k : Nat) (f g : Nat → Int) : mF (mF X k f) k g = mF X k g := by
  refine Prod.ext rfl (Prod.ext (funext fun j => ?_) rfl)
  show (if j = k then g else if j = k then f else X.2.1 j) = if j = k then g else X.2.1 j
  by_cases h1 : j = k
  · rw [if_pos h1, if_pos h1]
  · rw [if_neg h1, if_neg h1, if_neg h1]
theorem mF_id (X : MX) (k : Nat) : mF X k (X.2.1 k) = X := by
  refine Prod.ext rfl (Prod.ext (funext fun j => ?_) rfl)
  show (if j = k then X.2.1 k else X.2.1 j) = X.2.1 j
  by_cases h1 : j = k
  · rw [if_pos h1, h1]
  · rw [if_neg h1]
def mCW (X : MX) (to of_ : Nat) : MX := mB (mF (mF X 3 (zup (X.2.1 3) to (X.2.1 3 of_))) 4 (zup (X.2.1 4) to (X.2.1 4 of_))) (zup X.2.2 to (X.2.2 of_))
def mW (Y : MX) (to of_ k : Nat) : MX := mB (mF (mF Y 3 (mcp (Y.2.1 3) (3 * to) (3 * of_) k)) 4 (mcp (Y.2.1 4) (3 * to) (3 * of_) k)) (mcp Y.2.2 (3 * to) (3 * of_) k)
theorem mB_id (X : MX) : mB X X.2.2 = X := rfl
theorem mW_0 (Y : MX) (to of_ : Nat) : mW Y to of_ 0 = Y := by
  unfold mW
  rw [mcp_0, mcp_0, mcp_0, mF_id, mF_id, mB_id]
theorem mW_up {Y : MX} {to of_ k i j : Nat} (hd : 3 * to ≤ 3 * of_ ∨ 3 * of_ + k < 3 * to) (hi : i = 3 * to + k) (hj : j = 3 * of_ + k) : mCW (mW Y to of_ k) i j = mW Y to of_ (k + 1) := by
  have e1 := mcp_up (f := Y.2.1 3) hd hi hj
  have e2 := mcp_up (f := Y.2.1 4) hd hi hj
  have e3 := mcp_up (f := Y.2.2) hd hi hj
  unfold mW
  rw [← e1, ← e2, ← e3]
  refine Prod.ext rfl (Prod.ext (funext fun q => ?_) rfl)
  show (if q = 4 then _ else if q = 3 then _ else if q = 4 then _ else if q = 3 then _ else Y.2.1 q) = (if q = 4 then _ else if q = 3 then _ else Y.2.1 q)
  by_cases h4 : q = 4
  · rw [if_pos h4, if_pos h4]; rfl
  · by_cases h3 : q = 3
    · rw [if_neg h4, if_pos h3, if_neg h4, if_pos h3]; rfl
    · rw [if_neg h4, if_neg h3, if_neg h4, if_neg h3, if_neg h4, if_neg h3]
def mCP2 (X : MX) (to of_ : Nat) : MX := mF (mF X 1 (mcp (X.2.1 1) (1728 * to) (1728 * of_) 1728)) 2 (mcp (X.2.1 2) (24 * to) (24 * of_) 24)
def mCP (X : MX) (to of_ : Nat) : MX := mF (mF (mF (mW (mCP2 X to of_) to of_ 3) 5 (zup (X.2.1 5) to (X.2.1 5 of_))) 6 (zup (X.2.1 6) to (X.2.1 6 of_))) 7 (zup (X.2.1 7) to (X.2.1 7 of_))
theorem ct_Mways {A : Nat → Nat} {X : MX} (hA : mOk A) {to of_ : Nat} (h1 : to < 24) (h2 : of_ < 24) (hB : ∀ i, X.2.2 i = 0 ∨ X.2.2 i = 1) : Ct Z m_M_copyLayerWays 0 0 0 [.ref (A 0), zI to, zI of_] (mH h A X) (zV (mH h A (mCW X to of_))) := by
  refine zct rfl (by decide) ok_M_copyLayerWays rfl rfl ?_
  refine zz_aload_n rfl rfl ?_
  refine zz_getf rfl fl_M_16 (m0 hA) rfl ?_
  refine zz_iload_n rfl rfl ?_
  refine zz_aload_n rfl rfl ?_
  refine zz_getf rfl fl_M_16 (m0 hA) rfl ?_
  refine zz_iload_n rfl rfl ?_
  refine zz_iald rfl (m3 hA) (by decide) (by omega) ?_
  refine zz_iast rfl (m3 hA) (by decide) (by omega) ?_
  refine Ev.heap (w3 hA) ?_
  refine zz_aload_n rfl rfl ?_
  refine zz_getf rfl fl_M_19 (m0 hA) rfl ?_
  refine zz_iload_n rfl rfl ?_
  refine zz_aload_n rfl rfl ?_
  refine zz_getf rfl fl_M_19 (m0 hA) rfl ?_
  refine zz_iload_n rfl rfl ?_
  refine zz_iald rfl (m4 hA) (by decide) (by omega) ?_
  refine zz_iast rfl (m4 hA) (by decide) (by omega) ?_
  refine Ev.heap (w4 hA) ?_
  refine zz_aload_n rfl rfl ?_
  refine zz_getf rfl fl_M_22 (m0 hA) rfl ?_
  refine zz_iload_n rfl rfl ?_
  refine zz_aload_n rfl rfl ?_
  refine zz_getf rfl fl_M_22 (m0 hA) rfl ?_
  refine zz_iload_n rfl rfl ?_
  refine zz_zald rfl (m13 hA) (by decide) (by omega) ?_
  refine zz_zast rfl (m13 hA) (by decide) (by omega) (show narrow .boolean (zI (X.2.2 of_)) = zI (X.2.2 of_) from by rcases hB of_ with h9 | h9 <;> rw [h9] <;> rfl) ?_
  refine Ev.heap (w13 hA) ?_
  refine zz_vret rfl rfl ⟨rfl, rfl⟩
theorem lp_cp1 {A : Nat → Nat} {X : MX} (hA : mOk A) {to of_ : Nat} (h1 : to ≤ 7) (h2 : of_ ≤ 7) (hne : to ≠ of_) {MC MS mc ms : Nat} {Q : ZR → ZH → Prop} (kx : Ev Z (fun _ => True, m_M_copyPicture, 1, MC, MS) 39 [.ref (A 0), zI to, zI of_, zI (1728 : Nat)] [] (mH h A (mF X 1 (mcp (X.2.1 1) (1728 * to) (1728 * of_) 1728))) mc ms Q) : ∀ (m k : Nat), k + m = 1728 → Ev Z (fun _ => True, m_M_copyPicture, 1, MC, MS) 2 [.ref (A 0), zI to, zI of_, zI (k : Nat)] [] (mH h A (mF X 1 (mcp (X.2.1 1) (1728 * to) (1728 * of_) k))) mc ms Q := by
  intro m
  induction m with
  | zero =>
    intro k hk
    refine zz_iload_n rfl rfl ?_
    refine zz_sipush rfl (by decide) ?_
    refine zz_icmp_ge rfl (by omega) (by omega) (fun hb6 => ?_) (fun hb6 => absurd hb6 (by omega))
    obtain rfl : k = 1728 := by omega
    exact kx
  | succ m ih =>
    intro k hk
    refine zz_iload_n rfl rfl ?_
    refine zz_sipush rfl (by decide) ?_
    refine zz_icmp_ge rfl (by omega) (by omega) (fun hb6 => absurd hb6 (by omega)) (fun hb6 => ?_)
    refine zz_aload_n rfl rfl ?_
    refine zz_getf rfl fl_M_7 (m0 hA) rfl ?_
    refine zz_sipush rfl (by decide) ?_
    refine zz_iload_n rfl rfl ?_
    refine zz_imul rfl ?_
    refine zz_iload_n rfl rfl ?_
    refine zz_iadd rfl ?_
    refine zz_aload_n rfl rfl ?_
    refine zz_getf rfl fl_M_7 (m0 hA) rfl ?_
    refine zz_sipush rfl (by decide) ?_
    refine zz_iload_n rfl rfl ?_
    refine zz_imul rfl ?_
    refine zz_iload_n rfl rfl ?_
    refine zz_iadd rfl ?_
    refine zz_iald rfl (m1 hA) (by decide) (by omega) ?_
    refine zz_iast rfl (m1 hA) (by decide) (by omega) ?_
    refine Ev.heap (w1 hA) ?_
    refine zz_iincK ((k + 1 : Nat) : Int) rfl rfl rfl rfl (by omega) ?_
    refine zz_goto rfl ?_
    refine Ev.heap (show mH h A (mF (mF X 1 (mcp (X.2.1 1) (1728 * to) (1728 * of_) k)) 1 (zup (mcp (X.2.1 1) (1728 * to) (1728 * of_) k) (1728 * (to : Int) + (k : Int)).toNat (mcp (X.2.1 1) (1728 * to) (1728 * of_) k (1728 * (of_ : Int) + (k : Int)).toNat))) = (mH h A (mF X 1 (mcp (X.2.1 1) (1728 * to) (1728 * of_) (k + 1)))) from by rw [mF_mF, mcp_up (by omega) (by omega) (by omega)]) ?_
    exact ih (k + 1) (by omega)
theorem lp_cp2 {A : Nat → Nat} {X : MX} (hA : mOk A) {to of_ : Nat} (h1 : to ≤ 7) (h2 : of_ ≤ 7) (hne : to ≠ of_) {MC MS mc ms : Nat} {Q : ZR → ZH → Prop} (kx : Ev Z (fun _ => True, m_M_copyPicture, 1, MC, MS) 75 [.ref (A 0), zI to, zI of_, zI (24 : Nat)] [] (mH h A (mF X 2 (mcp (X.2.1 2) (24 * to) (24 * of_) 24))) mc ms Q) : ∀ (m k : Nat), k + m = 24 → Ev Z (fun _ => True, m_M_copyPicture, 1, MC, MS) 41 [.ref (A 0), zI to, zI of_, zI (k : Nat)] [] (mH h A (mF X 2 (mcp (X.2.1 2) (24 * to) (24 * of_) k))) mc ms Q := by
  intro m
  induction m with
  | zero =>
    intro k hk
    refine zz_iload_n rfl rfl ?_
    refine zz_bipush rfl (by decide) ?_
    refine zz_icmp_ge rfl (by omega) (by omega) (fun hb44 => ?_) (fun hb44 => absurd hb44 (by omega))
    obtain rfl : k = 24 := by omega
    exact kx
  | succ m ih =>
    intro k hk
    refine zz_iload_n rfl rfl ?_
    refine zz_bipush rfl (by decide) ?_
    refine zz_icmp_ge rfl (by omega) (by omega) (fun hb44 => absurd hb44 (by omega)) (fun hb44 => ?_)
    refine zz_aload_n rfl rfl ?_
    refine zz_getf rfl fl_M_13 (m0 hA) rfl ?_
    refine zz_bipush rfl (by decide) ?_
    refine zz_iload_n rfl rfl ?_
    refine zz_imul rfl ?_
    refine zz_iload_n rfl rfl ?_
    refine zz_iadd rfl ?_
    refine zz_aload_n rfl rfl ?_
    refine zz_getf rfl fl_M_13 (m0 hA) rfl ?_
    refine zz_bipush rfl (by decide) ?_
    refine zz_iload_n rfl rfl ?_
    refine zz_imul rfl ?_
    refine zz_iload_n rfl rfl ?_
    refine zz_iadd rfl ?_
    refine zz_iald rfl (m2 hA) (by decide) (by omega) ?_
    refine zz_iast rfl (m2 hA) (by decide) (by omega) ?_
    refine Ev.heap (w2 hA) ?_
    refine zz_iincK ((k + 1 : Nat) : Int) rfl rfl rfl rfl (by omega) ?_
    refine zz_goto rfl ?_
    refine Ev.heap (show mH h A (mF (mF X 2 (mcp (X.2.1 2) (24 * to) (24 * of_) k)) 2 (zup (mcp (X.2.1 2) (24 * to) (24 * of_) k) (24 * (to : Int) + (k : Int)).toNat (mcp (X.2.1 2) (24 * to) (24 * of_) k (24 * (of_ : Int) + (k : Int)).toNat))) = (mH h A (mF X 2 (mcp (X.2.1 2) (24 * to) (24 * of_) (k + 1)))) from by rw [mF_mF, mcp_up (by omega) (by omega) (by omega)]) ?_
    exact ih (k + 1) (by omega)
theorem mF_st {h : ZH} {A : Nat → Nat} {X : MX} (k : Nat) (a b : Nat) : mH h A X = mH h A (mF X k (mcp (X.2.1 k) a b 0)) := by rw [mcp_0, mF_id]
theorem ct_Mcp {A : Nat → Nat} {X : MX} (hA : mOk A) {to of_ : Nat} (h1 : to ≤ 7) (h2 : of_ ≤ 7) (hne : to ≠ of_) (hB : ∀ i, X.2.2 i = 0 ∨ X.2.2 i = 1) : Ct Z m_M_copyPicture 1 0 0 [.ref (A 0), zI to, zI of_] (mH h A X) (zV (mH h A (mCP X to of_))) := by
  have hB1 : ∀ k i, (mW (mCP2 X to of_) to of_ k).2.2 i = 0 ∨ (mW (mCP2 X to of_) to of_ k).2.2 i = 1 := fun k i => by
    show mcp X.2.2 _ _ _ i = 0 ∨ mcp X.2.2 _ _ _ i = 1
    unfold mcp
    split
    · exact hB _
    · exact hB _
  refine zct rfl (by decide) ok_M_copyPicture rfl rfl ?_
  refine zz_iconst rfl ?_
  refine zz_istore_n rfl rfl rfl ?_
  refine Ev.heap (mF_st 1 (1728 * to) (1728 * of_)) ?_
  refine lp_cp1 hA h1 h2 hne ?_ 1728 0 (by omega)
  refine zz_iconst rfl ?_
  refine zz_istore_n rfl rfl rfl ?_
  refine Ev.heap (mF_st 2 (24 * to) (24 * of_)) ?_
  refine lp_cp2 hA h1 h2 hne ?_ 24 0 (by omega)
  refine Ev.heap (show mH h A (mCP2 X to of_) = mH h A (mW (mCP2 X to of_) to of_ 0) from by rw [mW_0]) ?_
  refine zz_iconst rfl ?_
  refine zz_istore_n rfl rfl rfl ?_
  refine zz_iload_n rfl rfl ?_
  refine zz_iconst rfl ?_
  refine zz_icmp_ge rfl (by omega) (by omega) (fun hb79 => absurd hb79 (by first | decide | omega)) (fun hb79 => ?_)
  refine zz_aload_n rfl rfl ?_
  refine zz_iconst rfl ?_
  refine zz_iload_n rfl rfl ?_
  refine zz_imul rfl ?_
  refine zz_iload_n rfl rfl ?_
  refine zz_iadd rfl ?_
  refine zz_iconst rfl ?_
  refine zz_iload_n rfl rfl ?_
  refine zz_imul rfl ?_
  refine zz_iload_n rfl rfl ?_
  refine zz_iadd rfl ?_
  refine zz_Vu rfl lk_M_54 cw_M_copyLayerWays rfl (m0 hA) (ct_Mways (to := 3 * to + 0) (of_ := 3 * of_ + 0) hA (by omega) (by omega) (hB1 0)) rfl (show [zI (3 * (of_ : Int) + 0), zI (3 * (to : Int) + 0), .ref (A 0)] = [zI ((3 * of_ + 0 : Nat) : Int), zI ((3 * to + 0 : Nat) : Int), .ref (A 0)] from by congr 4 <;> omega) rfl rfl ?_
  refine Ev.heap (show mH h A (mCW (mW (mCP2 X to of_) to of_ 0) _ _) = mH h A (mW (mCP2 X to of_) to of_ 1) from by rw [mW_up (by omega) rfl rfl]) ?_
  refine zz_iincK 1 rfl rfl rfl rfl (by decide) ?_
  refine zz_goto rfl ?_
  refine zz_iload_n rfl rfl ?_
  refine zz_iconst rfl ?_
  refine zz_icmp_ge rfl (by omega) (by omega) (fun hb79 => absurd hb79 (by first | decide | omega)) (fun hb79 => ?_)
  refine zz_aload_n rfl rfl ?_
  refine zz_iconst rfl ?_
  refine zz_iload_n rfl rfl ?_
  refine zz_imul rfl ?_
  refine zz_iload_n rfl rfl ?_
  refine zz_iadd rfl ?_
  refine zz_iconst rfl ?_
  refine zz_iload_n rfl rfl ?_
  refine zz_imul rfl ?_
  refine zz_iload_n rfl rfl ?_
  refine zz_iadd rfl ?_
  refine zz_Vu rfl lk_M_54 cw_M_copyLayerWays rfl (m0 hA) (ct_Mways (to := 3 * to + 1) (of_ := 3 * of_ + 1) hA (by omega) (by omega) (hB1 1)) rfl (show [zI (3 * (of_ : Int) + 1), zI (3 * (to : Int) + 1), .ref (A 0)] = [zI ((3 * of_ + 1 : Nat) : Int), zI ((3 * to + 1 : Nat) : Int), .ref (A 0)] from by congr 4 <;> omega) rfl rfl ?_
  refine Ev.heap (show mH h A (mCW (mW (mCP2 X to of_) to of_ 1) _ _) = mH h A (mW (mCP2 X to of_) to of_ 2) from by rw [mW_up (by omega) rfl rfl]) ?_
  refine zz_iincK 2 rfl rfl rfl rfl (by decide) ?_
  refine zz_goto rfl ?_
  refine zz_iload_n rfl rfl ?_
  refine zz_iconst rfl ?_
  refine zz_icmp_ge rfl (by omega) (by omega) (fun hb79 => absurd hb79 (by first | decide | omega)) (fun hb79 => ?_)
  refine zz_aload_n rfl rfl ?_
  refine zz_iconst rfl ?_
  refine zz_iload_n rfl rfl ?_
  refine zz_imul rfl ?_
  refine zz_iload_n rfl rfl ?_
  refine zz_iadd rfl ?_
  refine zz_iconst rfl ?_
  refine zz_iload_n rfl rfl ?_
  refine zz_imul rfl ?_
  refine zz_iload_n rfl rfl ?_
  refine zz_iadd rfl ?_
  refine zz_Vu rfl lk_M_54 cw_M_copyLayerWays rfl (m0 hA) (ct_Mways (to := 3 * to + 2) (of_ := 3 * of_ + 2) hA (by omega) (by omega) (hB1 2)) rfl (show [zI (3 * (of_ : Int) + 2), zI (3 * (to : Int) + 2), .ref (A 0)] = [zI ((3 * of_ + 2 : Nat) : Int), zI ((3 * to + 2 : Nat) : Int), .ref (A 0)] from by congr 4 <;> omega) rfl rfl ?_
  refine Ev.heap (show mH h A (mCW (mW (mCP2 X to of_) to of_ 2) _ _) = mH h A (mW (mCP2 X to of_) to of_ 3) from by rw [mW_up (by omega) rfl rfl]) ?_
  refine zz_iincK 3 rfl rfl rfl rfl (by decide) ?_
  refine zz_goto rfl ?_
  refine zz_iload_n rfl rfl ?_
  refine zz_iconst rfl ?_
  refine zz_icmp_ge rfl (by omega) (by omega) (fun hb79 => ?_) (fun hb79 => absurd hb79 (by first | decide | omega))
  refine zz_aload_n rfl rfl ?_
  refine zz_getf rfl fl_M_26 (m0 hA) rfl ?_
  refine zz_iload_n rfl rfl ?_
  refine zz_aload_n rfl rfl ?_
  refine zz_getf rfl fl_M_26 (m0 hA) rfl ?_
  refine zz_iload_n rfl rfl ?_
  refine zz_iald rfl (m5 hA) (by decide) (by omega) ?_
  refine zz_iast rfl (m5 hA) (by decide) (by omega) ?_
  refine Ev.heap (w5 hA) ?_
  refine zz_aload_n rfl rfl ?_
  refine zz_getf rfl fl_M_29 (m0 hA) rfl ?_
  refine zz_iload_n rfl rfl ?_
  refine zz_aload_n rfl rfl ?_
  refine zz_getf rfl fl_M_29 (m0 hA) rfl ?_
  refine zz_iload_n rfl rfl ?_
  refine zz_iald rfl (m6 hA) (by decide) (by omega) ?_
  refine zz_iast rfl (m6 hA) (by decide) (by omega) ?_
  refine Ev.heap (w6 hA) ?_
  refine zz_aload_n rfl rfl ?_
  refine zz_getf rfl fl_M_32 (m0 hA) rfl ?_
  refine zz_iload_n rfl rfl ?_
  refine zz_aload_n rfl rfl ?_
  refine zz_getf rfl fl_M_32 (m0 hA) rfl ?_
  refine zz_iload_n rfl rfl ?_
  refine zz_iald rfl (m7 hA) (by decide) (by omega) ?_
  refine zz_iast rfl (m7 hA) (by decide) (by omega) ?_
  refine Ev.heap (w7 hA) ?_
  refine zz_vret rfl rfl ⟨rfl, rfl⟩
end MS
