section MT
variable {Z : ZC} {h : ZH}
def mSh (X : MX) : Nat → MX
  | 0 => X
  | k + 1 => mCP (mSh X k) k (k + 1)
theorem mSh_all {X : MX} {S : SS} (hk : okS S) (hh : sHas S = true) (hM : mrel X S) (h6 : sLast S = 6) : ∀ k, k ≤ 6 → (∀ i, i < k → mslot (mSh X k) i (sHist S (i + 1))) ∧ (∀ i, k ≤ i → i ≤ 6 → mslot (mSh X k) i (sHist S i)) ∧ (∀ P, sFile S = some P → mslot (mSh X k) 7 P) ∧ (mSh X k).1 = X.1 ∧ (mSh X k).2.1 8 = X.2.1 8 ∧ (mSh X k).2.1 9 = X.2.1 9 ∧ ∀ i, (mSh X k).2.2 i = 0 ∨ (mSh X k).2.2 i = 1 := by
  obtain ⟨k1, k2, k3⟩ := hk.1 hh
  intro k
  induction k with
  | zero =>
    intro _
    exact ⟨fun i hi => by omega, fun i _ hi => hM.2.2.2.2.2.2.2.1 hh i (by omega), hM.2.2.2.2.2.2.2.2.1, rfl, rfl, rfl, hM.2.2.2.2.2.2.2.2.2.2⟩
  | succ k ih =>
    intro hk6
    obtain ⟨a1, a2, a3, a4, a5, a6, a7⟩ := ih (by omega)
    refine ⟨fun i hi => ?_, fun i hi1 hi2 => mCP_ot (a2 i (by omega) hi2) (k3 i (by omega)) (by omega), fun P hP => mCP_ot (a3 P hP) (hk.2.2.1 P hP) (by omega), a4, a5, a6, mCP_B a7⟩
    by_cases h1 : i = k
    · subst h1
      exact mCP_to (a2 (i + 1) (by omega) (by omega)) (k3 _ (by omega))
    · exact mCP_ot (a1 i (by omega)) (k3 _ (by omega)) h1
theorem mrel_lt {X : MX} {S : SS} (hk : okS S) (hh : sHas S = true) (hM : mrel X S) (h6 : sNow S < 6) : mrel (mS (mS (mCP X (sNow S + 1) (sNow S)) 4 (sNow S + 1 : Nat)) 5 (sNow S + 1 : Nat)) (sAdd S (sCur S)) := by
  obtain ⟨k1, k2, k3⟩ := hk.1 hh
  obtain ⟨a1, a2, a3, a4, a5, a6, a7, a8, a9, a10, a11⟩ := id hM
  rw [sAdd_lt _ h6]
  rw [hh] at a1
  refine ⟨a1, a2, a3, rfl, rfl, a6, a7, fun _ i hi => ?_, fun P hP => ?_, a10, mCP_B a11⟩
  · have hi2 : i ≤ sNow S + 1 := hi
    show mslot _ i (sUpd _ _ _ i)
    unfold sUpd
    by_cases h1 : i = sNow S + 1
    · rw [if_pos h1, h1]
      exact mCP_to (a8 hh _ k1) (k3 _ k1)
    · rw [if_neg h1]
      exact mCP_ot (a8 hh i (by omega)) (k3 i (by omega)) h1
  · exact mCP_ot (a9 P hP) (hk.2.2.1 P hP) (by omega)
theorem mrel_ge {X : MX} {S : SS} (hk : okS S) (hh : sHas S = true) (hM : mrel X S) (h6 : sNow S = 6) {Y : MX} (hY : (∀ i, i < 6 → mslot Y i (sHist S (i + 1))) ∧ (∀ i, 6 ≤ i → i ≤ 6 → mslot Y i (sHist S i)) ∧ (∀ P, sFile S = some P → mslot Y 7 P) ∧ Y.1 = X.1 ∧ Y.2.1 8 = X.2.1 8 ∧ Y.2.1 9 = X.2.1 9 ∧ ∀ i, Y.2.2 i = 0 ∨ Y.2.2 i = 1) : mrel (mS (mS (mCP (mS Y 4 5) 6 5) 4 6) 5 6) (sAdd S (sCur S)) := by
  obtain ⟨k1, k2, k3⟩ := hk.1 hh
  obtain ⟨a1, a2, a3, a4, a5, a6, a7, a8, a9, a10, a11⟩ := id hM
  have hl6 : sLast S = 6 := by omega
  obtain ⟨b1, b2, b3, b4, b5, b6, b7⟩ := hY
  rw [sAdd_ge _ (by omega)]
  rw [hh] at a1
  have hc : sCur S = sHist S 6 := by show sHist S (sNow S) = _; rw [h6]
  refine ⟨?_, ?_, ?_, rfl, rfl, ?_, ?_, fun _ i hi => ?_, fun P hP => ?_, fun K hK => ?_, mCP_B b7⟩
  · show Y.1 1 = _; rw [b4]; exact a1
  · show Y.1 2 = _; rw [b4]; exact a2
  · show Y.1 3 = _; rw [b4]; exact a3
  · show Y.1 6 = _; rw [b4]; exact a6
  · show Y.1 7 = _; rw [b4]; exact a7
  · have hi2 : i ≤ 6 := hi
    show mslot _ i (if i < 6 then sHist S (i + 1) else sCur S)
    by_cases h1 : i = 6
    · rw [if_neg (by omega), h1, hc]
      exact mCP_to (X := mS Y 4 5) (b1 5 (by decide)) (k3 6 (by omega))
    · rw [if_pos (by omega)]
      exact mCP_ot (X := mS Y 4 5) (b1 i (by omega)) (k3 _ (by omega)) h1
  · exact mCP_ot (X := mS Y 4 5) (b3 P hP) (hk.2.2.1 P hP) (by decide)
  · have g := a10 K hK
    unfold mcopy at g ⊢
    refine ⟨fun y hy => ?_, fun x y hx hy => ?_⟩
    · show Y.2.1 9 y = _
      rw [b6]; exact g.1 y hy
    · show Y.2.1 8 _ = _
      rw [b5]; exact g.2 x y hx hy
theorem ct_Mstep {A : Nat → Nat} {X : MX} (hA : mOk A) {S : SS} (hM : mrel X S) (hk : okS S) (hh : sHas S = true) : Ct Z m_M_step 2 0 0 [.ref (A 0)] (mH h A X) (fun r h' => r = .inl none ∧ ∃ X', h' = mH h A X' ∧ X'.1 0 = X.1 0 ∧ mrel X' (sAdd S (sCur S))) := by
  have h4 : X.1 4 = (sNow S : Int) := hM.2.2.2.1
  obtain ⟨k1, k2, k3⟩ := hk.1 hh
  have hB := hM.2.2.2.2.2.2.2.2.2.2
  by_cases h6 : sNow S < 6
  · refine zct rfl (by decide) ok_M_step rfl rfl ?_
    refine zz_aload_n rfl rfl ?_
    refine zz_getf rfl fl_M_58 (m0 hA) rfl ?_
    refine zz_eq h4 ?_
    refine zz_bipush rfl (by decide) ?_
    refine zz_icmp_ne rfl (by omega) (by omega) (fun hb6 => ?_) (fun hb6 => absurd hb6 (by omega))
    refine zz_aload_n rfl rfl ?_
    refine zz_aload_n rfl rfl ?_
    refine zz_getf rfl fl_M_58 (m0 hA) rfl ?_
    refine zz_eq h4 ?_
    refine zz_iconst rfl ?_
    refine zz_iadd rfl ?_
    refine zz_eq (show (sNow S : Int) + 1 = ((sNow S + 1 : Nat) : Int) from by omega) ?_
    refine zz_aload_n rfl rfl ?_
    refine zz_getf rfl fl_M_58 (m0 hA) rfl ?_
    refine zz_eq h4 ?_
    refine zz_Vu rfl lk_M_61 cw_M_copyPicture rfl (m0 hA) (ct_Mcp (to := sNow S + 1) (of_ := sNow S) hA (by omega) (by omega) (by omega) hB) rfl rfl rfl rfl ?_
    refine zz_aload_n rfl rfl ?_
    refine zz_dup rfl rfl ?_
    refine zz_getf rfl fl_M_58 (m0 hA) rfl ?_
    refine zz_eq h4 ?_
    refine zz_iconst rfl ?_
    refine zz_iadd rfl ?_
    refine zz_eq (show (sNow S : Int) + 1 = ((sNow S + 1 : Nat) : Int) from by omega) ?_
    refine zz_putf rfl fl_M_58 (m0 hA) (pt_1_12 rfl rfl) (zblt rfl) ?_
    refine Ev.heap (ws4 hA) ?_
    refine zz_aload_n rfl rfl ?_
    refine zz_aload_n rfl rfl ?_
    refine zz_getf rfl fl_M_58 (m0 hA) rfl ?_
    refine zz_eq (show _ = ((sNow S + 1 : Nat) : Int) from rfl) ?_
    refine zz_putf rfl fl_M_64 (m0 hA) (pt_1_13 rfl rfl) (zblt rfl) ?_
    refine Ev.heap (ws5 hA) ?_
    refine zz_vret rfl rfl ⟨rfl, _, rfl, rfl, mrel_lt hk hh hM h6⟩
  · have e6 : sNow S = 6 := by omega
    have hl6 : sLast S = 6 := by omega
    have h46 : X.1 4 = 6 := by rw [h4, e6]; rfl
    have hall := mSh_all hk hh hM hl6
    have hall6 := hall 6 (by decide)
    have h466 : (mSh X 6).1 4 = 6 := by rw [hall6.2.2.2.1]; exact h46
    refine zct rfl (by decide) ok_M_step rfl rfl ?_
    refine zz_aload_n rfl rfl ?_
    refine zz_getf rfl fl_M_58 (m0 hA) rfl ?_
    refine zz_eq h46 ?_
    refine zz_bipush rfl (by decide) ?_
    refine zz_icmp_ne rfl ⟨by decide, by decide⟩ ⟨by decide, by decide⟩ (fun hb6 => absurd hb6 (by decide)) (fun hb6 => ?_)
    refine zz_iconst rfl ?_
    refine zz_istore_n rfl rfl rfl ?_
    refine zz_iload_n rfl rfl ?_
    refine zz_bipush rfl (by decide) ?_
    refine zz_icmp_ge rfl (by omega) (by omega) (fun hb14 => absurd hb14 (by first | decide | omega)) (fun hb14 => ?_)
    refine zz_aload_n rfl rfl ?_
    refine zz_iload_n rfl rfl ?_
    refine zz_iload_n rfl rfl ?_
    refine zz_iconst rfl ?_
    refine zz_iadd rfl ?_
    refine zz_Vu rfl lk_M_61 cw_M_copyPicture rfl (m0 hA) (ct_Mcp (X := mSh X 0) (to := 0) (of_ := 1) hA (by decide) (by decide) (by decide) (hall 0 (by decide)).2.2.2.2.2.2) rfl rfl rfl rfl ?_
    refine Ev.heap (show _ = mH h A (mSh X 1) from rfl) ?_
    refine zz_iincK 1 rfl rfl rfl rfl (by decide) ?_
    refine zz_goto rfl ?_
    refine zz_iload_n rfl rfl ?_
    refine zz_bipush rfl (by decide) ?_
    refine zz_icmp_ge rfl (by omega) (by omega) (fun hb14 => absurd hb14 (by first | decide | omega)) (fun hb14 => ?_)
    refine zz_aload_n rfl rfl ?_
    refine zz_iload_n rfl rfl ?_
    refine zz_iload_n rfl rfl ?_
    refine zz_iconst rfl ?_
    refine zz_iadd rfl ?_
    refine zz_Vu rfl lk_M_61 cw_M_copyPicture rfl (m0 hA) (ct_Mcp (X := mSh X 1) (to := 1) (of_ := 2) hA (by decide) (by decide) (by decide) (hall 1 (by decide)).2.2.2.2.2.2) rfl rfl rfl rfl ?_
    refine Ev.heap (show _ = mH h A (mSh X 2) from rfl) ?_
    refine zz_iincK 2 rfl rfl rfl rfl (by decide) ?_
    refine zz_goto rfl ?_
    refine zz_iload_n rfl rfl ?_
    refine zz_bipush rfl (by decide) ?_
    refine zz_icmp_ge rfl (by omega) (by omega) (fun hb14 => absurd hb14 (by first | decide | omega)) (fun hb14 => ?_)
    refine zz_aload_n rfl rfl ?_
    refine zz_iload_n rfl rfl ?_
    refine zz_iload_n rfl rfl ?_
    refine zz_iconst rfl ?_
    refine zz_iadd rfl ?_
    refine zz_Vu rfl lk_M_61 cw_M_copyPicture rfl (m0 hA) (ct_Mcp (X := mSh X 2) (to := 2) (of_ := 3) hA (by decide) (by decide) (by decide) (hall 2 (by decide)).2.2.2.2.2.2) rfl rfl rfl rfl ?_
    refine Ev.heap (show _ = mH h A (mSh X 3) from rfl) ?_
    refine zz_iincK 3 rfl rfl rfl rfl (by decide) ?_
    refine zz_goto rfl ?_
    refine zz_iload_n rfl rfl ?_
    refine zz_bipush rfl (by decide) ?_
    refine zz_icmp_ge rfl (by omega) (by omega) (fun hb14 => absurd hb14 (by first | decide | omega)) (fun hb14 => ?_)
    refine zz_aload_n rfl rfl ?_
    refine zz_iload_n rfl rfl ?_
    refine zz_iload_n rfl rfl ?_
    refine zz_iconst rfl ?_
    refine zz_iadd rfl ?_
    refine zz_Vu rfl lk_M_61 cw_M_copyPicture rfl (m0 hA) (ct_Mcp (X := mSh X 3) (to := 3) (of_ := 4) hA (by decide) (by decide) (by decide) (hall 3 (by decide)).2.2.2.2.2.2) rfl rfl rfl rfl ?_
    refine Ev.heap (show _ = mH h A (mSh X 4) from rfl) ?_
    refine zz_iincK 4 rfl rfl rfl rfl (by decide) ?_
    refine zz_goto rfl ?_
    refine zz_iload_n rfl rfl ?_
    refine zz_bipush rfl (by decide) ?_
    refine zz_icmp_ge rfl (by omega) (by omega) (fun hb14 => absurd hb14 (by first | decide | omega)) (fun hb14 => ?_)
    refine zz_aload_n rfl rfl ?_
    refine zz_iload_n rfl rfl ?_
    refine zz_iload_n rfl rfl ?_
    refine zz_iconst rfl ?_
    refine zz_iadd rfl ?_
    refine zz_Vu rfl lk_M_61 cw_M_copyPicture rfl (m0 hA) (ct_Mcp (X := mSh X 4) (to := 4) (of_ := 5) hA (by decide) (by decide) (by decide) (hall 4 (by decide)).2.2.2.2.2.2) rfl rfl rfl rfl ?_
    refine Ev.heap (show _ = mH h A (mSh X 5) from rfl) ?_
    refine zz_iincK 5 rfl rfl rfl rfl (by decide) ?_
    refine zz_goto rfl ?_
    refine zz_iload_n rfl rfl ?_
    refine zz_bipush rfl (by decide) ?_
    refine zz_icmp_ge rfl (by omega) (by omega) (fun hb14 => absurd hb14 (by first | decide | omega)) (fun hb14 => ?_)
    refine zz_aload_n rfl rfl ?_
    refine zz_iload_n rfl rfl ?_
    refine zz_iload_n rfl rfl ?_
    refine zz_iconst rfl ?_
    refine zz_iadd rfl ?_
    refine zz_Vu rfl lk_M_61 cw_M_copyPicture rfl (m0 hA) (ct_Mcp (X := mSh X 5) (to := 5) (of_ := 6) hA (by decide) (by decide) (by decide) (hall 5 (by decide)).2.2.2.2.2.2) rfl rfl rfl rfl ?_
    refine Ev.heap (show _ = mH h A (mSh X 6) from rfl) ?_
    refine zz_iincK 6 rfl rfl rfl rfl (by decide) ?_
    refine zz_goto rfl ?_
    refine zz_iload_n rfl rfl ?_
    refine zz_bipush rfl (by decide) ?_
    refine zz_icmp_ge rfl (by omega) (by omega) (fun hb14 => ?_) (fun hb14 => absurd hb14 (by first | decide | omega))
    clear hall
    generalize mSh X 6 = Y at hall6 h466 ⊢
    refine zz_aload_n rfl rfl ?_
    refine zz_dup rfl rfl ?_
    refine zz_getf rfl fl_M_58 (m0 hA) rfl ?_
    refine zz_eq h466 ?_
    refine zz_iconst rfl ?_
    refine zz_isub rfl ?_
    refine zz_eq (show (6 : Int) - 1 = 5 from rfl) ?_
    refine zz_putf rfl fl_M_58 (m0 hA) (pt_1_12 rfl rfl) (zblt rfl) ?_
    refine Ev.heap (ws4 hA) ?_
    refine zz_aload_n rfl rfl ?_
    refine zz_aload_n rfl rfl ?_
    refine zz_getf rfl fl_M_58 (m0 hA) rfl ?_
    refine zz_eq (show _ = (5 : Int) from rfl) ?_
    refine zz_iconst rfl ?_
    refine zz_iadd rfl ?_
    refine zz_eq (show (5 : Int) + 1 = 6 from rfl) ?_
    refine zz_aload_n rfl rfl ?_
    refine zz_getf rfl fl_M_58 (m0 hA) rfl ?_
    refine zz_eq (show _ = (5 : Int) from rfl) ?_
    refine zz_Vu rfl lk_M_61 cw_M_copyPicture rfl (m0 hA) (ct_Mcp (X := mS Y 4 5) (to := 6) (of_ := 5) hA (by decide) (by decide) (by decide) hall6.2.2.2.2.2.2) rfl rfl rfl rfl ?_
    refine zz_aload_n rfl rfl ?_
    refine zz_dup rfl rfl ?_
    refine zz_getf rfl fl_M_58 (m0 hA) rfl ?_
    refine zz_eq (show _ = (5 : Int) from rfl) ?_
    refine zz_iconst rfl ?_
    refine zz_iadd rfl ?_
    refine zz_eq (show (5 : Int) + 1 = 6 from rfl) ?_
    refine zz_putf rfl fl_M_58 (m0 hA) (pt_1_12 rfl rfl) (zblt rfl) ?_
    refine Ev.heap (ws4 hA) ?_
    refine zz_aload_n rfl rfl ?_
    refine zz_aload_n rfl rfl ?_
    refine zz_getf rfl fl_M_58 (m0 hA) rfl ?_
    refine zz_eq (show _ = (6 : Int) from rfl) ?_
    refine zz_putf rfl fl_M_64 (m0 hA) (pt_1_13 rfl rfl) (zblt rfl) ?_
    refine Ev.heap (ws5 hA) ?_
    refine zz_vret rfl rfl ⟨rfl, _, rfl, congrFun hall6.2.2.2.1 0, mrel_ge hk hh hM e6 hall6⟩
theorem lp_seld_i {A : Nat → Nat} {X : MX} (hA : mOk A) {n w ht : Nat} {R : Nat → Nat} (hc : mc X n w ht R)  {MC MS mc ms : Nat} {Q : ZR → ZH → Prop} {y : Nat} (hy : y < ht) (kx : Ev Z (fun _ => True, m_M_selected, 1, MC, MS) 45 [.ref (A 0), zI ((zc2 (fun j i => (R j).testBit i) w y + zc1 ((fun j i => (R j).testBit i) y) w : Nat) : Nat), zI (y : Nat), zI (w : Nat)] [] (mH h A X) mc ms Q) : ∀ (m x : Nat), x + m = w → Ev Z (fun _ => True, m_M_selected, 1, MC, MS) 14 [.ref (A 0), zI ((zc2 (fun j i => (R j).testBit i) w y + zc1 ((fun j i => (R j).testBit i) y) x : Nat) : Nat), zI (y : Nat), zI (x : Nat)] [] (mH h A X) mc ms Q := by
  have hn6 := hc.2.1
  have hw24 := hc.2.2.2.2.1
  intro m
  induction m with
  | zero =>
    intro x hx
    refine zz_iload_n rfl rfl ?_
    refine zz_aload_n rfl rfl ?_
    refine zz_Vp rfl lk_M_100 cw_M_w rfl (m0 hA) (ct_Mw hA hc) rfl rfl rfl rfl ?_
    refine zz_icmp_ge rfl (by omega) (by omega) (fun hb19 => ?_) (fun hb19 => absurd hb19 (by omega))
    obtain rfl : x = w := by omega
    exact kx
  | succ m ih =>
    intro x hx
    have hxw : x < w := by omega
    refine zz_iload_n rfl rfl ?_
    refine zz_aload_n rfl rfl ?_
    refine zz_Vp rfl lk_M_100 cw_M_w rfl (m0 hA) (ct_Mw hA hc) rfl rfl rfl rfl ?_
    refine zz_icmp_ge rfl (by omega) (by omega) (fun hb19 => absurd hb19 (by omega)) (fun hb19 => ?_)
    refine zz_iload_n rfl rfl ?_
    refine zz_aload_n rfl rfl ?_
    refine zz_iload_n rfl rfl ?_
    refine zz_iload_n rfl rfl ?_
    refine zz_Vp rfl lk_M_110 cw_M_isChosen rfl (m0 hA) (ct_Mchosen hA hc hxw hy) rfl rfl rfl rfl ?_
    refine zz_ifB_eq rfl (fun hb29 => ?_) (fun hb29 => ?_)
    · skip
      refine zz_iconst rfl ?_
      refine zz_iadd rfl ?_
      refine zz_eq (show _ = ((zc2 (fun j i => (R j).testBit i) w y + zc1 ((fun j i => (R j).testBit i) y) (x + 1) : Nat) : Int) from by show _ = ((zc2 _ _ _ + (zc1 _ _ + if (R y).testBit x = true then 1 else 0) : Nat) : Int); rw [if_neg hb29]; omega) ?_
      refine zz_istore_n rfl rfl rfl ?_
      refine zz_iincK ((x + 1 : Nat) : Int) rfl rfl rfl rfl (by omega) ?_
      refine zz_goto rfl ?_
      exact ih (x + 1) (by omega)
    · skip
      refine zz_iconst rfl ?_
      refine zz_goto rfl ?_
      refine zz_iadd rfl ?_
      refine zz_eq (show _ = ((zc2 (fun j i => (R j).testBit i) w y + zc1 ((fun j i => (R j).testBit i) y) (x + 1) : Nat) : Int) from by show _ = ((zc2 _ _ _ + (zc1 _ _ + if (R y).testBit x = true then 1 else 0) : Nat) : Int); rw [if_pos hb29]; omega) ?_
      refine zz_istore_n rfl rfl rfl ?_
      refine zz_iincK ((x + 1 : Nat) : Int) rfl rfl rfl rfl (by omega) ?_
      refine zz_goto rfl ?_
      exact ih (x + 1) (by omega)
theorem lp_seld_o {A : Nat → Nat} {X : MX} (hA : mOk A) {n w ht : Nat} {R : Nat → Nat} (hc : mc X n w ht R)  {MC MS mc ms : Nat} {Q : ZR → ZH → Prop} (kx : Ev Z (fun _ => True, m_M_selected, 1, MC, MS) 51 [.ref (A 0), zI ((zc2 (fun j i => (R j).testBit i) w ht + zc1 ((fun j i => (R j).testBit i) ht) 0 : Nat) : Nat), zI (ht : Nat)] [] (mH h A X) mc ms Q) : ∀ (m y : Nat), y + m = ht → Ev Z (fun _ => True, m_M_selected, 1, MC, MS) 4 [.ref (A 0), zI ((zc2 (fun j i => (R j).testBit i) w y + zc1 ((fun j i => (R j).testBit i) y) 0 : Nat) : Nat), zI (y : Nat)] [] (mH h A X) mc ms Q := by
  have hn6 := hc.2.1
  have hw24 := hc.2.2.2.2.1
  intro m
  induction m with
  | zero =>
    intro y hy
    refine zz_iload_n rfl rfl ?_
    refine zz_aload_n rfl rfl ?_
    refine zz_Vp rfl lk_M_96 cw_M_h rfl (m0 hA) (ct_Mh hA hc) rfl rfl rfl rfl ?_
    refine zz_icmp_ge rfl (by omega) (by omega) (fun hb9 => ?_) (fun hb9 => absurd hb9 (by omega))
    obtain rfl : y = ht := by omega
    exact kx
  | succ m ih =>
    intro y hy
    refine zz_iload_n rfl rfl ?_
    refine zz_aload_n rfl rfl ?_
    refine zz_Vp rfl lk_M_96 cw_M_h rfl (m0 hA) (ct_Mh hA hc) rfl rfl rfl rfl ?_
    refine zz_icmp_ge rfl (by omega) (by omega) (fun hb9 => absurd hb9 (by omega)) (fun hb9 => ?_)
    refine zz_iconst rfl ?_
    refine zz_istore_n rfl rfl rfl ?_
    refine lp_seld_i hA hc  (by omega) ?_ w 0 (by omega)
    refine zz_iincK ((y + 1 : Nat) : Int) rfl rfl rfl rfl (by omega) ?_
    refine zz_goto rfl ?_
    refine Ev.take 3 ?_
    exact ih (y + 1) (by omega)
theorem ct_Mseld {A : Nat → Nat} {X : MX} (hA : mOk A) {n w ht : Nat} {R : Nat → Nat} (hc : mc X n w ht R) : Ct Z m_M_selected 1 0 0 [.ref (A 0)] (mH h A X) (zP (zI (zc2 (fun j i => (R j).testBit i) w ht : Nat)) (mH h A X)) := by
  refine zct rfl (by decide) ok_M_selected rfl rfl ?_
  refine zz_iconst rfl ?_
  refine zz_istore_n rfl rfl rfl ?_
  refine zz_iconst rfl ?_
  refine zz_istore_n rfl rfl rfl ?_
  refine lp_seld_o hA hc ?_ ht 0 (by omega)
  refine zz_iload_n rfl rfl ?_
  refine zz_iret rfl rfl ⟨rfl, rfl⟩
end MT
