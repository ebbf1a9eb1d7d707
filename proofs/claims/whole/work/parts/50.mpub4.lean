section MQ2
variable {Z : ZC} {h : ZH}
theorem lp_drp {A : Nat → Nat} {X : MX} (hA : mOk A) {n p c : Nat} {P : SP} (h4 : X.1 4 = (n : Int)) (hn : n ≤ 6) (hw : sw P ≤ 24) (hh : sh P ≤ 24) (hsn : sn P = c + 1) (hc3 : c < 3) (hp : p ≤ c) {MC MS mc ms : Nat} {Q : ZR → ZH → Prop} (kx : ∀ Y, mfr X Y n → Y.2.1 5 n = (c : Int) → (∀ i, i < c → mlay Y n (sw P) (sh P) i (if i < p then sl P i else sl P (i + 1))) → Ev Z (fun _ => True, m_M_drop, 3, MC, MS) 88 [.ref (A 0), zI (p : Nat), zI (c : Nat)] [] (mH h A Y) mc ms Q) : ∀ (m k : Nat) (Y : MX), k + m = c → p ≤ k → mfr X Y n → Y.2.1 5 n = (c : Int) → (∀ i, i < k → mlay Y n (sw P) (sh P) i (if i < p then sl P i else sl P (i + 1))) → (∀ i, k ≤ i → i ≤ c → mlay Y n (sw P) (sh P) i (sl P i)) → Ev Z (fun _ => True, m_M_drop, 3, MC, MS) 61 [.ref (A 0), zI (p : Nat), zI (k : Nat)] [] (mH h A Y) mc ms Q := by
  intro m
  induction m with
  | zero =>
    intro k Y hk hpk hf h5 h1 h2
    have h4Y : Y.1 4 = (n : Int) := by rw [hf.1 4 (by decide)]; exact h4
    refine zz_iload_n rfl rfl ?_
    refine zz_aload_n rfl rfl ?_
    refine zz_getf rfl fl_M_26 (m0 hA) rfl ?_
    refine zz_aload_n rfl rfl ?_
    refine zz_getf rfl fl_M_58 (m0 hA) rfl ?_
    refine zz_eq h4Y ?_
    refine zz_iald rfl (m5 hA) (by decide) ⟨by omega, by omega⟩ ?_
    refine zz_eq h5 ?_
    refine zz_icmp_ge rfl (by omega) (by omega) (fun hb71 => ?_) (fun hb71 => absurd hb71 (by omega))
    obtain rfl : k = c := by omega
    exact kx Y hf h5 h1
  | succ m ih =>
    intro k Y hk hpk hf h5 h1 h2
    have h4Y : Y.1 4 = (n : Int) := by rw [hf.1 4 (by decide)]; exact h4
    refine zz_iload_n rfl rfl ?_
    refine zz_aload_n rfl rfl ?_
    refine zz_getf rfl fl_M_26 (m0 hA) rfl ?_
    refine zz_aload_n rfl rfl ?_
    refine zz_getf rfl fl_M_58 (m0 hA) rfl ?_
    refine zz_eq h4Y ?_
    refine zz_iald rfl (m5 hA) (by decide) ⟨by omega, by omega⟩ ?_
    refine zz_eq h5 ?_
    refine zz_icmp_ge rfl (by omega) (by omega) (fun hb71 => absurd hb71 (by omega)) (fun hb71 => ?_)
    refine zz_aload_n rfl rfl ?_
    refine zz_iload_n rfl rfl ?_
    refine zz_iload_n rfl rfl ?_
    refine zz_iconst rfl ?_
    refine zz_iadd rfl ?_
    refine zz_eq (show (k : Int) + 1 = ((k + 1 : Nat) : Int) from by omega) ?_
    refine zz_Vu rfl lk_M_86 cw_M_layerTo rfl (m0 hA) (ct_Mlto (to := k) (of_ := k + 1) hA h4Y hn (by omega) (by omega) (by omega) hf.2.2.2.2.2.2) rfl rfl rfl rfl ?_
    refine zz_iincK ((k + 1 : Nat) : Int) rfl rfl rfl rfl (by omega) ?_
    refine zz_goto rfl ?_
    refine ih (k + 1) _ (by omega) (by omega) (hf.tr (mLX_fr hf.2.2.2.2.2.2 (by omega))) h5 (fun i hi => ?_) (fun i hi1 hi2 => mLX_ot hw hh (Or.inr (by omega)) (by omega) (by omega) (h2 i (by omega) hi2))
    by_cases he : i = k
    · subst he
      rw [if_neg (by omega)]
      exact mLX_to hw hh (h2 (i + 1) (by omega) (by omega))
    · exact mLX_ot hw hh (Or.inr he) (by omega) (by omega) (h1 i (by omega))
theorem md_drop {A : Nat → Nat} {X : MX} (hA : mOk A) {S : SS} (hM : mrel X S) (hk : okS S) {l : Int} (hl : zrg l) : Ct Z m_M_drop 3 0 0 [.ref (A 0), zI l] (mH h A X) (mdV h A S (sLy S l) (sn (sCur S) ≠ 1) (sAdd S (sDrp (sCur S) l))) := by
  rcases zbool (sHas S) with hhas | hhas
  · refine zct rfl (by decide) ok_M_drop rfl rfl ?_
    refine zz_aload_n rfl rfl ?_
    refine zz_aload_n rfl rfl ?_
    refine zz_iload_n rfl rfl ?_
    refine zz_Vp rfl lk_M_89 cw_M_isLayer rfl (m0 hA) (ct_MisLayer hA hM hk hl) rfl rfl rfl rfl ?_
    refine zz_ifB_ne rfl (fun hb6 => absurd hb6 (fun h9 => absurd h9.1 (by rw [hhas]; decide))) (fun hb6 => ?_)
    refine zz_iconst rfl ?_
    refine zz_goto rfl ?_
    refine zz_putf rfl fl_M_50 (m0 hA) (pt_1_0 rfl rfl) (zblt rfl) ?_
    refine Ev.heap (ws0 hA) ?_
    refine zz_aload_n rfl rfl ?_
    refine zz_getf rfl fl_M_50 (m0 hA) rfl ?_
    refine zz_eq (show _ = (1 : Int) from rfl) ?_
    refine zz_if_le rfl ⟨by decide, by decide⟩ (fun hb38 => absurd hb38 (by decide)) (fun hb38 => ?_)
    refine zz_vret rfl rfl ⟨rfl, _, rfl, Or.inl ⟨fun g => absurd g.1 (by rw [hhas]; decide), rfl, hM.S0 _⟩⟩
  · have hc := hM.mc hk hhas
    have h40 := hc.1
    obtain ⟨k1, k2, k3⟩ := hk.1 hhas
    have hP : okP (sCur S) := k3 _ k1
    obtain ⟨⟨hw1, hw⟩, ⟨hh1, hh⟩, ⟨hn1, hn⟩, hkL, hkR⟩ := id hP
    have h5 : X.2.1 5 (sNow S) = (sn (sCur S) : Int) := (hM.2.2.2.2.2.2.2.1 hhas _ k1).2.2.1
    refine zct rfl (by decide) ok_M_drop rfl rfl ?_
    refine zz_aload_n rfl rfl ?_
    refine zz_aload_n rfl rfl ?_
    refine zz_iload_n rfl rfl ?_
    refine zz_Vp rfl lk_M_89 cw_M_isLayer rfl (m0 hA) (ct_MisLayer hA hM hk hl) rfl rfl rfl rfl ?_
    refine zz_ifB_ne rfl (fun hb6 => ?_) (fun hb6 => ?_)
    · skip
      refine zz_aload_n rfl rfl ?_
      refine zz_getf rfl fl_M_26 (m0 hA) rfl ?_
      refine zz_aload_n rfl rfl ?_
      refine zz_getf rfl fl_M_58 (m0 hA) rfl ?_
      refine zz_eq h40 ?_
      refine zz_iald rfl (m5 hA) (by decide) ⟨by omega, by omega⟩ ?_
      refine zz_eq h5 ?_
      refine zz_iconst rfl ?_
      refine zz_icmp_ne rfl (by omega) (by omega) (fun hb23 => ?_) (fun hb23 => ?_)
      · skip
        refine zz_iconst rfl ?_
        refine zz_putf rfl fl_M_50 (m0 hA) (pt_1_0 rfl rfl) (zblt rfl) ?_
        refine Ev.heap (ws0 hA) ?_
        refine zz_aload_n rfl rfl ?_
        refine zz_getf rfl fl_M_50 (m0 hA) rfl ?_
        refine zz_eq (show _ = (0 : Int) from rfl) ?_
        refine zz_if_le rfl ⟨by decide, by decide⟩ (fun hb38 => ?_) (fun hb38 => absurd hb38 (by decide))
        refine zz_aload_n rfl rfl ?_
        refine zz_V rfl lk_M_83 cw_M_step rfl (m0 hA) (ct_Mstep hA (hM.S0 _) hk hhas) rfl rfl rfl rfl ?_
        rintro _ _ ⟨rfl, X1, rfl, h0, hM1⟩
        refine zaft_u ?_
        obtain ⟨hc1, hs1⟩ := mradd hM1 hk hhas hP
        have h4 := hc1.1
        have hn6 := sN1_le S
        have hB1 := hM1.2.2.2.2.2.2.2.2.2.2
        obtain ⟨p, rfl⟩ := Int.eq_ofNat_of_zero_le hb6.2.1
        obtain ⟨c, hcc⟩ : ∃ c, sn (sCur S) = c + 1 := ⟨sn (sCur S) - 1, by omega⟩
        have hpc : p ≤ c := by have := hb6.2.2; omega
        have hN5 : X1.2.1 5 (sN1 S) = (sn (sCur S) : Int) := hs1.2.2.1
        refine zz_aload_n rfl rfl ?_
        refine zz_getf rfl fl_M_26 (m0 hA) rfl ?_
        refine zz_aload_n rfl rfl ?_
        refine zz_getf rfl fl_M_58 (m0 hA) rfl ?_
        refine zz_eq h4 ?_
        refine zz_dup2 rfl rfl rfl ?_
        refine zz_iald rfl (m5 hA) (by decide) ⟨by omega, by omega⟩ ?_
        refine zz_eq hN5 ?_
        refine zz_iconst rfl ?_
        refine zz_isub rfl ?_
        refine zz_iast rfl (m5 hA) (by decide) ⟨by omega, by omega⟩ ?_
        refine Ev.heap (w5 hA) ?_
        refine zz_iload_n rfl rfl ?_
        refine zz_istore_n rfl rfl rfl ?_
        refine lp_drp (X := X1) (p := p) (c := c) (P := sCur S) hA h4 hn6 hw hh hcc (by omega) hpc (fun Y hf hF5 hi1 => ?_) (c - p) p (mF X1 5 (zup (X1.2.1 5) (sN1 S) ((sn (sCur S) : Int) - 1))) (by omega) (Nat.le_refl _) (mF5_fr hB1) ((zup_s _ _ _).trans (by omega)) (fun i hi => by rw [if_pos hi]; exact hs1.2.2.2.2 i (by omega)) (fun i hi1 hi2 => hs1.2.2.2.2 i (by omega))
        refine zz_vret rfl rfl ⟨rfl, _, rfl, Or.inr (Or.inr ⟨hb6, (by omega), hf.2.1.trans h0, ?_⟩)⟩
        refine hf.rel hM1 hk hhas (hf.sizes hs1 rfl rfl rfl (hF5.trans (show (c : Int) = ((sn (sCur S) - 1 : Nat) : Int) by omega)) (fun i hi => ?_))
        have hi9 : i < sn (sCur S) - 1 := hi
        have e9 := hi1 i (by omega)
        show mlay _ _ _ _ i (if (i : Int) < (p : Int) then _ else _)
        by_cases g1 : i < p
        · rw [if_pos g1] at e9
          rw [if_pos (by omega)]
          exact e9
        · rw [if_neg g1] at e9
          rw [if_neg (by omega)]
          exact e9
      · skip
        refine zz_iconst rfl ?_
        refine zz_goto rfl ?_
        refine zz_putf rfl fl_M_50 (m0 hA) (pt_1_0 rfl rfl) (zblt rfl) ?_
        refine Ev.heap (ws0 hA) ?_
        refine zz_aload_n rfl rfl ?_
        refine zz_getf rfl fl_M_50 (m0 hA) rfl ?_
        refine zz_eq (show _ = (2 : Int) from rfl) ?_
        refine zz_if_le rfl ⟨by decide, by decide⟩ (fun hb38 => absurd hb38 (by decide)) (fun hb38 => ?_)
        refine zz_vret rfl rfl ⟨rfl, _, rfl, Or.inr (Or.inl ⟨hb6, (by omega), rfl, hM.S0 _⟩)⟩
    · skip
      refine zz_iconst rfl ?_
      refine zz_goto rfl ?_
      refine zz_putf rfl fl_M_50 (m0 hA) (pt_1_0 rfl rfl) (zblt rfl) ?_
      refine Ev.heap (ws0 hA) ?_
      refine zz_aload_n rfl rfl ?_
      refine zz_getf rfl fl_M_50 (m0 hA) rfl ?_
      refine zz_eq (show _ = (1 : Int) from rfl) ?_
      refine zz_if_le rfl ⟨by decide, by decide⟩ (fun hb38 => absurd hb38 (by decide)) (fun hb38 => ?_)
      refine zz_vret rfl rfl ⟨rfl, _, rfl, Or.inl ⟨hb6, rfl, hM.S0 _⟩⟩
theorem lp_mvi {A : Nat → Nat} {X : MX} (hA : mOk A) {n f0 t0 o k q0 : Nat} {rs : Int} (h4 : X.1 4 = (n : Int)) (hn : n ≤ 6) (ho : o < n) (hk : k < 3) (hq : q0 < 3) {MC MS mc ms : Nat} {Q : ZR → ZH → Prop} (kx : Ev Z (fun _ => True, m_M_move, 3, MC, MS) 161 [.ref (A 0), zI (f0 : Nat), zI (t0 : Nat), zI (o : Nat), zI (k : Nat), zI rs, zI (q0 : Nat), zI (576 : Nat)] [] (mH h A (mF X 1 (mcp (X.2.1 1) (1728 * n + 576 * k) (1728 * o + 576 * q0) 576))) mc ms Q) : ∀ (m i : Nat), i + m = 576 → Ev Z (fun _ => True, m_M_move, 3, MC, MS) 104 [.ref (A 0), zI (f0 : Nat), zI (t0 : Nat), zI (o : Nat), zI (k : Nat), zI rs, zI (q0 : Nat), zI (i : Nat)] [] (mH h A (mF X 1 (mcp (X.2.1 1) (1728 * n + 576 * k) (1728 * o + 576 * q0) i))) mc ms Q := by
  intro m
  induction m with
  | zero =>
    intro i hi
    refine zz_iload rfl rfl ?_
    refine zz_sipush rfl (by decide) ?_
    refine zz_icmp_ge rfl (by omega) (by omega) (fun hb109 => ?_) (fun hb109 => absurd hb109 (by omega))
    obtain rfl : i = 576 := by omega
    exact kx
  | succ m ih =>
    intro i hi
    refine zz_iload rfl rfl ?_
    refine zz_sipush rfl (by decide) ?_
    refine zz_icmp_ge rfl (by omega) (by omega) (fun hb109 => absurd hb109 (by omega)) (fun hb109 => ?_)
    refine zz_aload_n rfl rfl ?_
    refine zz_getf rfl fl_M_7 (m0 hA) rfl ?_
    refine zz_sipush rfl (by decide) ?_
    refine zz_aload_n rfl rfl ?_
    refine zz_getf rfl fl_M_58 (m0 hA) rfl ?_
    refine zz_eq h4 ?_
    refine zz_imul rfl ?_
    refine zz_sipush rfl (by decide) ?_
    refine zz_iload rfl rfl ?_
    refine zz_imul rfl ?_
    refine zz_iadd rfl ?_
    refine zz_iload rfl rfl ?_
    refine zz_iadd rfl ?_
    refine zz_aload_n rfl rfl ?_
    refine zz_getf rfl fl_M_7 (m0 hA) rfl ?_
    refine zz_sipush rfl (by decide) ?_
    refine zz_iload_n rfl rfl ?_
    refine zz_imul rfl ?_
    refine zz_sipush rfl (by decide) ?_
    refine zz_iload rfl rfl ?_
    refine zz_imul rfl ?_
    refine zz_iadd rfl ?_
    refine zz_iload rfl rfl ?_
    refine zz_iadd rfl ?_
    refine zz_iald rfl (m1 hA) (by decide) (by omega) ?_
    refine zz_iast rfl (m1 hA) (by decide) (by omega) ?_
    refine Ev.heap (w1 hA) ?_
    refine zz_iincK ((i + 1 : Nat) : Int) rfl rfl rfl rfl (by omega) ?_
    refine zz_goto rfl ?_
    refine Ev.heap (show mH h A (mF (mF X 1 (mcp (X.2.1 1) (1728 * n + 576 * k) (1728 * o + 576 * q0) i)) 1 (zup (mcp (X.2.1 1) (1728 * n + 576 * k) (1728 * o + 576 * q0) i) (1728 * (n : Int) + 576 * (k : Int) + (i : Int)).toNat ((mcp (X.2.1 1) (1728 * n + 576 * k) (1728 * o + 576 * q0) i) (1728 * (o : Int) + 576 * (q0 : Int) + (i : Int)).toNat))) = (mH h A (mF X 1 (mcp (X.2.1 1) (1728 * n + 576 * k) (1728 * o + 576 * q0) (i + 1)))) from by rw [mF_mF, mcp_up (by omega) (by omega) (by omega)]) ?_
    exact ih (i + 1) (by omega)
theorem mv_one {A : Nat → Nat} {X : MX} (hA : mOk A) {n f0 t0 o k q0 : Nat} {rs : Int} (h4 : X.1 4 = (n : Int)) (hn : n ≤ 6) (ho : o < n) (hk : k < 3) (hq : q0 < 3) (hB : ∀ i, X.2.2 i = 0 ∨ X.2.2 i = 1) {MC MS mc ms : Nat} {Q : ZR → ZH → Prop} (kx : Ev Z (fun _ => True, m_M_move, 3, MC, MS) 180 [.ref (A 0), zI (f0 : Nat), zI (t0 : Nat), zI (o : Nat), zI (k : Nat), zI rs, zI (q0 : Nat)] [] (mH h A (mLX X n k o q0)) mc ms Q) : Ev Z (fun _ => True, m_M_move, 3, MC, MS) 101 [.ref (A 0), zI (f0 : Nat), zI (t0 : Nat), zI (o : Nat), zI (k : Nat), zI rs, zI (q0 : Nat)] [] (mH h A X) mc ms Q := by
  refine zz_iconst rfl ?_
  refine zz_istore rfl rfl rfl ?_
  refine Ev.heap (show mH h A X = (mH h A (mF X 1 (mcp (X.2.1 1) (1728 * n + 576 * k) (1728 * o + 576 * q0) 0))) from by rw [mcp_0, mF_id]) ?_
  refine lp_mvi hA h4 hn ho hk hq ?_ 576 0 (by omega)
  refine zz_aload_n rfl rfl ?_
  refine zz_iconst rfl ?_
  refine zz_aload_n rfl rfl ?_
  refine zz_getf rfl fl_M_58 (m0 hA) rfl ?_
  refine zz_eq h4 ?_
  refine zz_imul rfl ?_
  refine zz_iload rfl rfl ?_
  refine zz_iadd rfl ?_
  refine zz_eq (show 3 * (n : Int) + (k : Int) = ((3 * n + k : Nat) : Int) from by omega) ?_
  refine zz_iconst rfl ?_
  refine zz_iload_n rfl rfl ?_
  refine zz_imul rfl ?_
  refine zz_iload rfl rfl ?_
  refine zz_iadd rfl ?_
  refine zz_eq (show 3 * (o : Int) + (q0 : Int) = ((3 * o + q0 : Nat) : Int) from by omega) ?_
  refine zz_Vu rfl lk_M_54 cw_M_copyLayerWays rfl (m0 hA) (ct_Mways (X := mF X 1 (mcp (X.2.1 1) (1728 * n + 576 * k) (1728 * o + 576 * q0) 576)) (to := 3 * n + k) (of_ := 3 * o + q0) hA (by omega) (by omega) hB) rfl rfl rfl rfl ?_
  refine Ev.take 7 ?_
  exact kx
theorem lp_mv {A : Nat → Nat} {X : MX} (hA : mOk A) {n f0 t0 o : Nat} {P : SP} (h4 : X.1 4 = (n : Int)) (hn : n ≤ 6) (ho : o < n) (hw : sw P ≤ 24) (hh : sh P ≤ 24) (hsn : sn P ≤ 3) (hf0 : f0 < sn P) (ht0 : t0 < sn P) (h5 : X.2.1 5 n = (sn P : Int)) (hold : ∀ i, i < sn P → mlay X o (sw P) (sh P) i (sl P i)) {MC MS mc ms : Nat} {Q : ZR → ZH → Prop} (kx : ∀ Y, mfr X Y n → Y.2.1 5 n = (sn P : Int) → (∀ i, i < sn P → mlay Y n (sw P) (sh P) i (if (i : Int) < (t0 : Int) then (if (i : Int) < (f0 : Int) then sl P i else sl P (i + 1)) else if (i : Int) = (t0 : Int) then sl P f0 else (if ((i - 1 : Nat) : Int) < (f0 : Int) then sl P (i - 1) else sl P (i - 1 + 1)))) → Ev Z (fun _ => True, m_M_move, 3, MC, MS) 186 [.ref (A 0), zI (f0 : Nat), zI (t0 : Nat), zI (o : Nat), zI (sn P : Nat)] [] (mH h A Y) mc ms Q) : ∀ (m k : Nat) (Y : MX), k + m = sn P → mfr X Y n → Y.2.1 5 n = (sn P : Int) → (∀ i, i < k → mlay Y n (sw P) (sh P) i (if (i : Int) < (t0 : Int) then (if (i : Int) < (f0 : Int) then sl P i else sl P (i + 1)) else if (i : Int) = (t0 : Int) then sl P f0 else (if ((i - 1 : Nat) : Int) < (f0 : Int) then sl P (i - 1) else sl P (i - 1 + 1)))) → (∀ i, i < sn P → mlay Y o (sw P) (sh P) i (sl P i)) → Ev Z (fun _ => True, m_M_move, 3, MC, MS) 43 [.ref (A 0), zI (f0 : Nat), zI (t0 : Nat), zI (o : Nat), zI (k : Nat)] [] (mH h A Y) mc ms Q := by
  intro m
  induction m with
  | zero =>
    intro k Y hk hf h5 h1 h2
    have h4Y : Y.1 4 = (n : Int) := by rw [hf.1 4 (by decide)]; exact h4
    refine zz_iload rfl rfl ?_
    refine zz_aload_n rfl rfl ?_
    refine zz_getf rfl fl_M_26 (m0 hA) rfl ?_
    refine zz_aload_n rfl rfl ?_
    refine zz_getf rfl fl_M_58 (m0 hA) rfl ?_
    refine zz_eq h4Y ?_
    refine zz_iald rfl (m5 hA) (by decide) ⟨by omega, by omega⟩ ?_
    refine zz_eq h5 ?_
    refine zz_icmp_ge rfl (by omega) (by omega) (fun hb54 => ?_) (fun hb54 => absurd hb54 (by omega))
    obtain rfl : k = sn P := by omega
    exact kx Y hf h5 h1
  | succ m ih =>
    intro k Y hk hf h5 h1 h2
    have h4Y : Y.1 4 = (n : Int) := by rw [hf.1 4 (by decide)]; exact h4
    have hBY := hf.2.2.2.2.2.2
    refine zz_iload rfl rfl ?_
    refine zz_aload_n rfl rfl ?_
    refine zz_getf rfl fl_M_26 (m0 hA) rfl ?_
    refine zz_aload_n rfl rfl ?_
    refine zz_getf rfl fl_M_58 (m0 hA) rfl ?_
    refine zz_eq h4Y ?_
    refine zz_iald rfl (m5 hA) (by decide) ⟨by omega, by omega⟩ ?_
    refine zz_eq h5 ?_
    refine zz_icmp_ge rfl (by omega) (by omega) (fun hb54 => absurd hb54 (by omega)) (fun hb54 => ?_)
    refine zz_iload rfl rfl ?_
    refine zz_iload_n rfl rfl ?_
    refine zz_icmp_ge rfl (by omega) (by omega) (fun hb60 => ?_) (fun hb60 => ?_)
    · skip
      refine zz_iload rfl rfl ?_
      refine zz_iconst rfl ?_
      refine zz_isub rfl ?_
      refine zz_eq (show _ = (k : Int) - 1 from rfl) ?_
      refine zz_istore rfl rfl rfl ?_
      refine zz_iload rfl rfl ?_
      refine zz_iload_n rfl rfl ?_
      refine zz_icmp_ne rfl (by omega) (by omega) (fun hb77 => ?_) (fun hb77 => ?_)
      · skip
        refine zz_iload rfl rfl ?_
        refine zz_iload_n rfl rfl ?_
        refine zz_icmp_ge rfl (by omega) (by omega) (fun hb87 => ?_) (fun hb87 => ?_)
        · skip
          refine zz_iload rfl rfl ?_
          refine zz_iconst rfl ?_
          refine zz_iadd rfl ?_
          refine zz_eq (show _ = ((k - 1 + 1 : Nat) : Int) from by omega) ?_
          refine zz_istore rfl rfl rfl ?_
          refine mv_one (X := Y) (n := n) (k := k) (o := o) (q0 := k - 1 + 1) hA h4Y hn ho (by omega) (by omega) hBY ?_
          have hnx : ∀ i, i < k + 1 → mlay (mLX Y n k o (k - 1 + 1)) n (sw P) (sh P) i (if (i : Int) < (t0 : Int) then (if (i : Int) < (f0 : Int) then sl P i else sl P (i + 1)) else if (i : Int) = (t0 : Int) then sl P f0 else (if ((i - 1 : Nat) : Int) < (f0 : Int) then sl P (i - 1) else sl P (i - 1 + 1))) := by
            intro i hi
            by_cases he : i = k
            · subst he
              rw [if_neg (by omega), if_neg (by omega), if_neg (by omega)]
              exact mLX_to hw hh (h2 _ (by omega))
            · exact mLX_ot hw hh (Or.inr he) (by omega) (by omega) (h1 i (by omega))
          have hox : ∀ i, i < sn P → mlay (mLX Y n k o (k - 1 + 1)) o (sw P) (sh P) i (sl P i) := fun i hi => mLX_ot hw hh (Or.inl (by omega)) (by omega) (by omega) (h2 i hi)
          have hfx := hf.tr (mLX_fr (n := n) (to := k) (m := o) (of_ := k - 1 + 1) hBY (by omega))
          refine zz_iincK ((k + 1 : Nat) : Int) rfl rfl rfl rfl (by omega) ?_
          refine zz_goto rfl ?_
          refine Ev.take 5 ?_
          exact ih (k + 1) _ (by omega) hfx h5 hnx hox
        · skip
          refine zz_iload rfl rfl ?_
          refine zz_goto rfl ?_
          refine zz_eq (show _ = ((k - 1 : Nat) : Int) from by omega) ?_
          refine zz_istore rfl rfl rfl ?_
          refine mv_one (X := Y) (n := n) (k := k) (o := o) (q0 := k - 1) hA h4Y hn ho (by omega) (by omega) hBY ?_
          have hnx : ∀ i, i < k + 1 → mlay (mLX Y n k o (k - 1)) n (sw P) (sh P) i (if (i : Int) < (t0 : Int) then (if (i : Int) < (f0 : Int) then sl P i else sl P (i + 1)) else if (i : Int) = (t0 : Int) then sl P f0 else (if ((i - 1 : Nat) : Int) < (f0 : Int) then sl P (i - 1) else sl P (i - 1 + 1))) := by
            intro i hi
            by_cases he : i = k
            · subst he
              rw [if_neg (by omega), if_neg (by omega), if_pos (by omega)]
              exact mLX_to hw hh (h2 _ (by omega))
            · exact mLX_ot hw hh (Or.inr he) (by omega) (by omega) (h1 i (by omega))
          have hox : ∀ i, i < sn P → mlay (mLX Y n k o (k - 1)) o (sw P) (sh P) i (sl P i) := fun i hi => mLX_ot hw hh (Or.inl (by omega)) (by omega) (by omega) (h2 i hi)
          have hfx := hf.tr (mLX_fr (n := n) (to := k) (m := o) (of_ := k - 1) hBY (by omega))
          refine zz_iincK ((k + 1 : Nat) : Int) rfl rfl rfl rfl (by omega) ?_
          refine zz_goto rfl ?_
          refine Ev.take 5 ?_
          exact ih (k + 1) _ (by omega) hfx h5 hnx hox
      · skip
        refine zz_iload_n rfl rfl ?_
        refine zz_goto rfl ?_
        refine zz_eq (show _ = ((f0 : Nat) : Int) from by omega) ?_
        refine zz_istore rfl rfl rfl ?_
        refine mv_one (X := Y) (n := n) (k := k) (o := o) (q0 := f0) hA h4Y hn ho (by omega) (by omega) hBY ?_
        have hnx : ∀ i, i < k + 1 → mlay (mLX Y n k o (f0)) n (sw P) (sh P) i (if (i : Int) < (t0 : Int) then (if (i : Int) < (f0 : Int) then sl P i else sl P (i + 1)) else if (i : Int) = (t0 : Int) then sl P f0 else (if ((i - 1 : Nat) : Int) < (f0 : Int) then sl P (i - 1) else sl P (i - 1 + 1))) := by
          intro i hi
          by_cases he : i = k
          · subst he
            rw [if_neg (by omega), if_pos (by omega)]
            exact mLX_to hw hh (h2 _ (by omega))
          · exact mLX_ot hw hh (Or.inr he) (by omega) (by omega) (h1 i (by omega))
        have hox : ∀ i, i < sn P → mlay (mLX Y n k o (f0)) o (sw P) (sh P) i (sl P i) := fun i hi => mLX_ot hw hh (Or.inl (by omega)) (by omega) (by omega) (h2 i hi)
        have hfx := hf.tr (mLX_fr (n := n) (to := k) (m := o) (of_ := f0) hBY (by omega))
        refine zz_iincK ((k + 1 : Nat) : Int) rfl rfl rfl rfl (by omega) ?_
        refine zz_goto rfl ?_
        refine Ev.take 5 ?_
        exact ih (k + 1) _ (by omega) hfx h5 hnx hox
    · skip
      refine zz_iload rfl rfl ?_
      refine zz_goto rfl ?_
      refine zz_istore rfl rfl rfl ?_
      refine zz_iload rfl rfl ?_
      refine zz_iload_n rfl rfl ?_
      refine zz_icmp_ne rfl (by omega) (by omega) (fun hb77 => ?_) (fun hb77 => absurd hb77 (by omega))
      refine zz_iload rfl rfl ?_
      refine zz_iload_n rfl rfl ?_
      refine zz_icmp_ge rfl (by omega) (by omega) (fun hb87 => ?_) (fun hb87 => ?_)
      · skip
        refine zz_iload rfl rfl ?_
        refine zz_iconst rfl ?_
        refine zz_iadd rfl ?_
        refine zz_eq (show _ = ((k + 1 : Nat) : Int) from by omega) ?_
        refine zz_istore rfl rfl rfl ?_
        refine mv_one (X := Y) (n := n) (k := k) (o := o) (q0 := k + 1) hA h4Y hn ho (by omega) (by omega) hBY ?_
        have hnx : ∀ i, i < k + 1 → mlay (mLX Y n k o (k + 1)) n (sw P) (sh P) i (if (i : Int) < (t0 : Int) then (if (i : Int) < (f0 : Int) then sl P i else sl P (i + 1)) else if (i : Int) = (t0 : Int) then sl P f0 else (if ((i - 1 : Nat) : Int) < (f0 : Int) then sl P (i - 1) else sl P (i - 1 + 1))) := by
          intro i hi
          by_cases he : i = k
          · subst he
            rw [if_pos (by omega), if_neg (by omega)]
            exact mLX_to hw hh (h2 _ (by omega))
          · exact mLX_ot hw hh (Or.inr he) (by omega) (by omega) (h1 i (by omega))
        have hox : ∀ i, i < sn P → mlay (mLX Y n k o (k + 1)) o (sw P) (sh P) i (sl P i) := fun i hi => mLX_ot hw hh (Or.inl (by omega)) (by omega) (by omega) (h2 i hi)
        have hfx := hf.tr (mLX_fr (n := n) (to := k) (m := o) (of_ := k + 1) hBY (by omega))
        refine zz_iincK ((k + 1 : Nat) : Int) rfl rfl rfl rfl (by omega) ?_
        refine zz_goto rfl ?_
        refine Ev.take 5 ?_
        exact ih (k + 1) _ (by omega) hfx h5 hnx hox
      · skip
        refine zz_iload rfl rfl ?_
        refine zz_goto rfl ?_
        refine zz_eq (show _ = ((k : Nat) : Int) from by omega) ?_
        refine zz_istore rfl rfl rfl ?_
        refine mv_one (X := Y) (n := n) (k := k) (o := o) (q0 := k) hA h4Y hn ho (by omega) (by omega) hBY ?_
        have hnx : ∀ i, i < k + 1 → mlay (mLX Y n k o (k)) n (sw P) (sh P) i (if (i : Int) < (t0 : Int) then (if (i : Int) < (f0 : Int) then sl P i else sl P (i + 1)) else if (i : Int) = (t0 : Int) then sl P f0 else (if ((i - 1 : Nat) : Int) < (f0 : Int) then sl P (i - 1) else sl P (i - 1 + 1))) := by
          intro i hi
          by_cases he : i = k
          · subst he
            rw [if_pos (by omega), if_pos (by omega)]
            exact mLX_to hw hh (h2 _ (by omega))
          · exact mLX_ot hw hh (Or.inr he) (by omega) (by omega) (h1 i (by omega))
        have hox : ∀ i, i < sn P → mlay (mLX Y n k o (k)) o (sw P) (sh P) i (sl P i) := fun i hi => mLX_ot hw hh (Or.inl (by omega)) (by omega) (by omega) (h2 i hi)
        have hfx := hf.tr (mLX_fr (n := n) (to := k) (m := o) (of_ := k) hBY (by omega))
        refine zz_iincK ((k + 1 : Nat) : Int) rfl rfl rfl rfl (by omega) ?_
        refine zz_goto rfl ?_
        refine Ev.take 5 ?_
        exact ih (k + 1) _ (by omega) hfx h5 hnx hox
theorem md_move {A : Nat → Nat} {X : MX} (hA : mOk A) {S : SS} (hM : mrel X S) (hk : okS S) {l t : Int} (hl : zrg l) (ht : zrg t) : Ct Z m_M_move 3 0 0 [.ref (A 0), zI l, zI t] (mH h A X) (mdV h A S (sLy S l ∧ 0 ≤ t ∧ t ≤ (sn (sCur S) : Int) - 1) (True) (sAdd S (sMov (sCur S) l t))) := by
  refine zct rfl (by decide) ok_M_move rfl rfl ?_
  refine zz_aload_n rfl rfl ?_
  refine zz_aload_n rfl rfl ?_
  refine zz_iload_n rfl rfl ?_
  refine zz_Vp rfl lk_M_89 cw_M_isLayer rfl (m0 hA) (ct_MisLayer hA hM hk hl) rfl rfl rfl rfl ?_
  refine zz_ifB_eq rfl (fun hb6 => ?_) (fun hb6 => ?_)
  · skip
    refine zz_iconst rfl ?_
    refine zz_goto rfl ?_
    refine zz_V rfl lk_M_75 cw_M_refuse rfl (m0 hA) (ct_Mrefuse1 hA) rfl rfl rfl rfl ?_
    rintro _ _ ⟨rfl, rfl⟩
    refine zaft_v ?_
    refine zz_if_eq rfl ⟨by decide, by decide⟩ (fun hb25 => absurd hb25 (by decide)) (fun hb25 => ?_)
    refine zz_vret rfl rfl ⟨rfl, _, rfl, Or.inl ⟨(fun g => hb6 g.1), rfl, hM.S0 _⟩⟩
  · skip
    refine zz_aload_n rfl rfl ?_
    refine zz_iload_n rfl rfl ?_
    refine zz_Vp rfl lk_M_89 cw_M_isLayer rfl (m0 hA) (ct_MisLayer hA hM hk ht) rfl rfl rfl rfl ?_
    refine zz_ifB_ne rfl (fun hb14 => ?_) (fun hb14 => ?_)
    · skip
      refine zz_iconst rfl ?_
      refine zz_V rfl lk_M_75 cw_M_refuse rfl (m0 hA) (ct_Mrefuse0 hA) rfl rfl rfl rfl ?_
      rintro _ _ ⟨rfl, rfl⟩
      refine zaft_v ?_
      refine zz_if_eq rfl ⟨by decide, by decide⟩ (fun hb25 => ?_) (fun hb25 => absurd hb25 (by decide))
      refine zz_aload_n rfl rfl ?_
      refine zz_V rfl lk_M_83 cw_M_step rfl (m0 hA) (ct_Mstep hA (hM.S0 _) hk hb6.1) rfl rfl rfl rfl ?_
      rintro _ _ ⟨rfl, X1, rfl, h0, hM1⟩
      refine zaft_u ?_
      have hhas := hb6.1
      have hP : okP (sCur S) := (hk.1 hhas).2.2 _ (hk.1 hhas).1
      obtain ⟨hc1, hs1⟩ := mradd hM1 hk hhas hP
      have h4 := hc1.1
      have hn6 := sN1_le S
      have hB1 := hM1.2.2.2.2.2.2.2.2.2.2
      obtain ⟨⟨hw1, hw⟩, ⟨hh1, hh⟩, ⟨hn1, hn⟩, hkL, hkR⟩ := id hP
      obtain ⟨f0, rfl⟩ := Int.eq_ofNat_of_zero_le hb6.2.1
      obtain ⟨t0, rfl⟩ := Int.eq_ofNat_of_zero_le hb14.2.1
      have hg1 := hb6.2.2
      have hg2 := hb14.2.2
      have hN5 : X1.2.1 5 (sN1 S) = (sn (sCur S) : Int) := hs1.2.2.1
      have hold : ∀ i, i < sn (sCur S) → mlay X1 (sN1 S - 1) (sw (sCur S)) (sh (sCur S)) i (sl (sCur S) i) := by
        have h9 := hM1.2.2.2.2.2.2.2.1 (sAdd_has _ _) (sN1 S - 1) (by rw [sAdd_last]; omega)
        rw [sAdd_prev _ hk hhas] at h9
        exact h9.2.2.2.2
      refine zz_aload_n rfl rfl ?_
      refine zz_getf rfl fl_M_58 (m0 hA) rfl ?_
      refine zz_eq h4 ?_
      refine zz_iconst rfl ?_
      refine zz_isub rfl ?_
      refine zz_eq (show (sN1 S : Int) - 1 = ((sN1 S - 1 : Nat) : Int) from by have := sN1_pos (S := S); omega) ?_
      refine zz_istore_n rfl rfl rfl ?_
      refine zz_iconst rfl ?_
      refine zz_istore rfl rfl rfl ?_
      refine lp_mv (X := X1) (n := sN1 S) (o := sN1 S - 1) (P := sCur S) hA h4 hn6 (by have := sN1_pos (S := S); omega) hw hh hn (by omega) (by omega) hN5 hold (fun Y hf hF5 hi1 => ?_) (sn (sCur S)) 0 X1 (by omega) (mfr.rf hB1) hN5 (fun i hi => by omega) hold
      refine zz_vret rfl rfl ⟨rfl, _, rfl, Or.inr (Or.inr ⟨⟨hb6, hb14.2.1, by have := hb14.2.2; omega⟩, trivial, hf.2.1.trans h0, ?_⟩)⟩
      refine hf.rel hM1 hk hhas (hf.sizes hs1 rfl rfl rfl hF5 (fun i hi => ?_))
      exact hi1 i hi
    · skip
      refine zz_iconst rfl ?_
      refine zz_goto rfl ?_
      refine zz_V rfl lk_M_75 cw_M_refuse rfl (m0 hA) (ct_Mrefuse1 hA) rfl rfl rfl rfl ?_
      rintro _ _ ⟨rfl, rfl⟩
      refine zaft_v ?_
      refine zz_if_eq rfl ⟨by decide, by decide⟩ (fun hb25 => absurd hb25 (by decide)) (fun hb25 => ?_)
      refine zz_vret rfl rfl ⟨rfl, _, rfl, Or.inl ⟨(fun g => hb14 ⟨g.1.1, g.2.1, by have := g.2.2; omega⟩), rfl, hM.S0 _⟩⟩
end MQ2
