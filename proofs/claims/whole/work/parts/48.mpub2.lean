section MR
variable {Z : ZC} {h : ZH}
theorem lp_fresh {A : Nat → Nat} {X : MX} (hA : mOk A) {n l : Nat} (h4 : X.1 4 = (n : Int)) (hn : n ≤ 6) (hl : l < 3) {MC MS mc ms : Nat} {Q : ZR → ZH → Prop} (kx : Ev Z (fun _ => True, m_M_freshLayer, 0, MC, MS) 37 [.ref (A 0), zI l, zI (576 : Nat)] [] (mH h A (mF X 1 (mzf (X.2.1 1) (1728 * n + 576 * l) 576))) mc ms Q) : ∀ (m k : Nat), k + m = 576 → Ev Z (fun _ => True, m_M_freshLayer, 0, MC, MS) 2 [.ref (A 0), zI l, zI (k : Nat)] [] (mH h A (mF X 1 (mzf (X.2.1 1) (1728 * n + 576 * l) k))) mc ms Q := by
  intro m
  induction m with
  | zero =>
    intro k hk
    refine zz_iload_n rfl rfl ?_
    refine zz_sipush rfl (by decide) ?_
    refine zz_icmp_ge rfl (by omega) (by omega) (fun hb6 => ?_) (fun hb6 => absurd hb6 (by omega))
    obtain rfl : k = 576 := by omega
    exact kx
  | succ m ih =>
    intro k hk
    refine zz_iload_n rfl rfl ?_
    refine zz_sipush rfl (by decide) ?_
    refine zz_icmp_ge rfl (by omega) (by omega) (fun hb6 => absurd hb6 (by omega)) (fun hb6 => ?_)
    refine zz_aload_n rfl rfl ?_
    refine zz_getf rfl fl_M_7 (m0 hA) rfl ?_
    refine zz_sipush rfl (by decide) ?_
    refine zz_aload_n rfl rfl ?_
    refine zz_getf rfl fl_M_58 (m0 hA) rfl ?_
    refine zz_eq h4 ?_
    refine zz_imul rfl ?_
    refine zz_sipush rfl (by decide) ?_
    refine zz_iload_n rfl rfl ?_
    refine zz_imul rfl ?_
    refine zz_iadd rfl ?_
    refine zz_iload_n rfl rfl ?_
    refine zz_iadd rfl ?_
    refine zz_iconst rfl ?_
    refine zz_iast rfl (m1 hA) (by decide) (by omega) ?_
    refine Ev.heap (w1 hA) ?_
    refine zz_iincK ((k + 1 : Nat) : Int) rfl rfl rfl rfl (by omega) ?_
    refine zz_goto rfl ?_
    refine Ev.heap (show mH h A (mF (mF X 1 (mzf (X.2.1 1) (1728 * n + 576 * l) k)) 1 (zup (mzf (X.2.1 1) (1728 * n + 576 * l) k) (1728 * (n : Int) + 576 * (l : Int) + (k : Int)).toNat 0)) = (mH h A (mF X 1 (mzf (X.2.1 1) (1728 * n + 576 * l) (k + 1)))) from by rw [mF_mF, mzf_up (by omega)]) ?_
    exact ih (k + 1) (by omega)
theorem ct_Mfresh {A : Nat → Nat} {X : MX} (hA : mOk A) {n l : Nat} (h4 : X.1 4 = (n : Int)) (hn : n ≤ 6) (hl : l < 3) : Ct Z m_M_freshLayer 0 0 0 [.ref (A 0), zI l] (mH h A X) (zV (mH h A (mFr X n l))) := by
  have e9 : (3 * (n : Int) + (l : Int)).toNat = 3 * n + l := by omega
  refine zct rfl (by decide) ok_M_freshLayer rfl rfl ?_
  refine zz_iconst rfl ?_
  refine zz_istore_n rfl rfl rfl ?_
  refine Ev.heap (show mH h A X = (mH h A (mF X 1 (mzf (X.2.1 1) (1728 * n + 576 * l) 0))) from by rw [mzf_0, mF_id]) ?_
  refine lp_fresh hA h4 hn hl ?_ 576 0 (by omega)
  refine zz_aload_n rfl rfl ?_
  refine zz_getf rfl fl_M_16 (m0 hA) rfl ?_
  refine zz_iconst rfl ?_
  refine zz_aload_n rfl rfl ?_
  refine zz_getf rfl fl_M_58 (m0 hA) rfl ?_
  refine zz_eq h4 ?_
  refine zz_imul rfl ?_
  refine zz_iload_n rfl rfl ?_
  refine zz_iadd rfl ?_
  refine zz_iconst rfl ?_
  refine zz_iast rfl (m3 hA) (by decide) (by omega) ?_
  refine Ev.heap (w3 hA) ?_
  refine zz_aload_n rfl rfl ?_
  refine zz_getf rfl fl_M_19 (m0 hA) rfl ?_
  refine zz_iconst rfl ?_
  refine zz_aload_n rfl rfl ?_
  refine zz_getf rfl fl_M_58 (m0 hA) rfl ?_
  refine zz_eq h4 ?_
  refine zz_imul rfl ?_
  refine zz_iload_n rfl rfl ?_
  refine zz_iadd rfl ?_
  refine zz_sipush rfl (by decide) ?_
  refine zz_iast rfl (m4 hA) (by decide) (by omega) ?_
  refine Ev.heap (w4 hA) ?_
  refine zz_aload_n rfl rfl ?_
  refine zz_getf rfl fl_M_22 (m0 hA) rfl ?_
  refine zz_iconst rfl ?_
  refine zz_aload_n rfl rfl ?_
  refine zz_getf rfl fl_M_58 (m0 hA) rfl ?_
  refine zz_eq h4 ?_
  refine zz_imul rfl ?_
  refine zz_iload_n rfl rfl ?_
  refine zz_iadd rfl ?_
  refine zz_iconst rfl ?_
  refine zz_zast rfl (m13 hA) (by decide) (by omega) rfl ?_
  refine Ev.heap (w13 hA) ?_
  refine zz_vret rfl rfl ⟨rfl, by show mH h A (mB (mF (mF (mF X 1 _) 3 (zup (X.2.1 3) (3 * (n : Int) + (l : Int)).toNat 0)) 4 (zup (X.2.1 4) (3 * (n : Int) + (l : Int)).toNat 255)) (zup X.2.2 (3 * (n : Int) + (l : Int)).toNat 1)) = _; rw [e9]; rfl⟩
theorem lp_lto {A : Nat → Nat} {X : MX} (hA : mOk A) {n to of_ : Nat} (h4 : X.1 4 = (n : Int)) (hn : n ≤ 6) (ht : to < 3) (hf : of_ < 3) (hne : to ≠ of_) {MC MS mc ms : Nat} {Q : ZR → ZH → Prop} (kx : Ev Z (fun _ => True, m_M_layerTo, 1, MC, MS) 57 [.ref (A 0), zI to, zI of_, zI (576 : Nat)] [] (mH h A (mF X 1 (mcp (X.2.1 1) (1728 * n + 576 * to) (1728 * n + 576 * of_) 576))) mc ms Q) : ∀ (m k : Nat), k + m = 576 → Ev Z (fun _ => True, m_M_layerTo, 1, MC, MS) 2 [.ref (A 0), zI to, zI of_, zI (k : Nat)] [] (mH h A (mF X 1 (mcp (X.2.1 1) (1728 * n + 576 * to) (1728 * n + 576 * of_) k))) mc ms Q := by
  intro m
  induction m with
  | zero =>
    intro k hk
    refine zz_iload_n rfl rfl ?_
    refine zz_sipush rfl (by decide) ?_
    refine zz_icmp_ge rfl (by omega) (by omega) (fun hb6 => ?_) (fun hb6 => absurd hb6 (by omega))
    obtain rfl : k = 576 := by omega
    exact kx
  | succ m ih =>
    intro k hk
    refine zz_iload_n rfl rfl ?_
    refine zz_sipush rfl (by decide) ?_
    refine zz_icmp_ge rfl (by omega) (by omega) (fun hb6 => absurd hb6 (by omega)) (fun hb6 => ?_)
    refine zz_aload_n rfl rfl ?_
    refine zz_getf rfl fl_M_7 (m0 hA) rfl ?_
    refine zz_sipush rfl (by decide) ?_
    refine zz_aload_n rfl rfl ?_
    refine zz_getf rfl fl_M_58 (m0 hA) rfl ?_
    refine zz_eq h4 ?_
    refine zz_imul rfl ?_
    refine zz_sipush rfl (by decide) ?_
    refine zz_iload_n rfl rfl ?_
    refine zz_imul rfl ?_
    refine zz_iadd rfl ?_
    refine zz_iload_n rfl rfl ?_
    refine zz_iadd rfl ?_
    refine zz_aload_n rfl rfl ?_
    refine zz_getf rfl fl_M_7 (m0 hA) rfl ?_
    refine zz_sipush rfl (by decide) ?_
    refine zz_aload_n rfl rfl ?_
    refine zz_getf rfl fl_M_58 (m0 hA) rfl ?_
    refine zz_eq h4 ?_
    refine zz_imul rfl ?_
    refine zz_sipush rfl (by decide) ?_
    refine zz_iload_n rfl rfl ?_
    refine zz_imul rfl ?_
    refine zz_iadd rfl ?_
    refine zz_iload_n rfl rfl ?_
    refine zz_iadd rfl ?_
    refine zz_iald rfl (m1 hA) (by decide) (by omega) ?_
    refine zz_iast rfl (m1 hA) (by decide) (by omega) ?_
    refine Ev.heap (w1 hA) ?_
    refine zz_iincK ((k + 1 : Nat) : Int) rfl rfl rfl rfl (by omega) ?_
    refine zz_goto rfl ?_
    refine Ev.heap (show mH h A (mF (mF X 1 (mcp (X.2.1 1) (1728 * n + 576 * to) (1728 * n + 576 * of_) k)) 1 (zup (mcp (X.2.1 1) (1728 * n + 576 * to) (1728 * n + 576 * of_) k) (1728 * (n : Int) + 576 * (to : Int) + (k : Int)).toNat ((mcp (X.2.1 1) (1728 * n + 576 * to) (1728 * n + 576 * of_) k) (1728 * (n : Int) + 576 * (of_ : Int) + (k : Int)).toNat))) = (mH h A (mF X 1 (mcp (X.2.1 1) (1728 * n + 576 * to) (1728 * n + 576 * of_) (k + 1)))) from by rw [mF_mF, mcp_up (by omega) (by omega) (by omega)]) ?_
    exact ih (k + 1) (by omega)
theorem ct_Mlto {A : Nat → Nat} {X : MX} (hA : mOk A) {n to of_ : Nat} (h4 : X.1 4 = (n : Int)) (hn : n ≤ 6) (ht : to < 3) (hf : of_ < 3) (hne : to ≠ of_) (hB : ∀ i, X.2.2 i = 0 ∨ X.2.2 i = 1) : Ct Z m_M_layerTo 1 0 0 [.ref (A 0), zI to, zI of_] (mH h A X) (zV (mH h A (mLT X n to of_))) := by
  refine zct rfl (by decide) ok_M_layerTo rfl rfl ?_
  refine zz_iconst rfl ?_
  refine zz_istore_n rfl rfl rfl ?_
  refine Ev.heap (show mH h A X = (mH h A (mF X 1 (mcp (X.2.1 1) (1728 * n + 576 * to) (1728 * n + 576 * of_) 0))) from by rw [mcp_0, mF_id]) ?_
  refine lp_lto hA h4 hn ht hf hne ?_ 576 0 (by omega)
  refine zz_aload_n rfl rfl ?_
  refine zz_iconst rfl ?_
  refine zz_aload_n rfl rfl ?_
  refine zz_getf rfl fl_M_58 (m0 hA) rfl ?_
  refine zz_eq h4 ?_
  refine zz_imul rfl ?_
  refine zz_iload_n rfl rfl ?_
  refine zz_iadd rfl ?_
  refine zz_eq (show 3 * (n : Int) + (to : Int) = ((3 * n + to : Nat) : Int) from by omega) ?_
  refine zz_iconst rfl ?_
  refine zz_aload_n rfl rfl ?_
  refine zz_getf rfl fl_M_58 (m0 hA) rfl ?_
  refine zz_eq h4 ?_
  refine zz_imul rfl ?_
  refine zz_iload_n rfl rfl ?_
  refine zz_iadd rfl ?_
  refine zz_eq (show 3 * (n : Int) + (of_ : Int) = ((3 * n + of_ : Nat) : Int) from by omega) ?_
  refine zz_Vu rfl lk_M_54 cw_M_copyLayerWays rfl (m0 hA) (ct_Mways (X := mF X 1 (mcp (X.2.1 1) (1728 * n + 576 * to) (1728 * n + 576 * of_) 576)) (to := 3 * n + to) (of_ := 3 * n + of_) hA (by omega) (by omega) hB) rfl rfl rfl rfl ?_
  refine zz_vret rfl rfl ⟨rfl, rfl⟩
theorem md_mode {A : Nat → Nat} {X : MX} (hA : mOk A) {S : SS} (hM : mrel X S) (hk : okS S) {l m op v : Int} (hl : zrg l) (hm : zrg m) (hop : zrg op) (hv : v = 0 ∨ v = 1) : Ct Z m_M_mode 3 0 0 [.ref (A 0), zI l, zI m, zI op, zI v] (mH h A X) (mdV h A S (sLy S l ∧ (0 ≤ m ∧ m ≤ 5) ∧ 0 ≤ op ∧ op ≤ 255) (True) (sAdd S (sMod (sCur S) l m op v))) := by
  refine zct rfl (by decide) ok_M_mode rfl rfl ?_
  refine zz_aload_n rfl rfl ?_
  refine zz_aload_n rfl rfl ?_
  refine zz_iload_n rfl rfl ?_
  refine zz_Vp rfl lk_M_89 cw_M_isLayer rfl (m0 hA) (ct_MisLayer hA hM hk hl) rfl rfl rfl rfl ?_
  refine zz_ifB_eq rfl (fun hb6 => ?_) (fun hb6 => ?_)
  · skip
    refine zz_iconst rfl ?_
    refine zz_goto rfl ?_
    refine zz_V rfl lk_M_75 cw_M_refuse rfl (m0 hA) (ct_Mrefuse1 hA) rfl rfl rfl rfl ?_
    rintro _ _ ⟨rfl, rfl⟩
    refine zaft_v ?_
    refine zz_if_eq rfl ⟨by decide, by decide⟩ (fun hb37 => absurd hb37 (by decide)) (fun hb37 => ?_)
    refine zz_vret rfl rfl ⟨rfl, _, rfl, Or.inl ⟨(fun g => hb6 g.1), rfl, hM.S0 _⟩⟩
  · skip
    refine zz_iload_n rfl rfl ?_
    refine zz_iconst rfl ?_
    refine zz_iconst rfl ?_
    refine zz_Sp rfl lk_M_71 cw_M_in (ct_Min hm ⟨by decide, by decide⟩ ⟨by decide, by decide⟩) rfl rfl rfl rfl ?_
    refine zz_ifB_eq rfl (fun hb15 => ?_) (fun hb15 => ?_)
    · skip
      refine zz_iconst rfl ?_
      refine zz_goto rfl ?_
      refine zz_V rfl lk_M_75 cw_M_refuse rfl (m0 hA) (ct_Mrefuse1 hA) rfl rfl rfl rfl ?_
      rintro _ _ ⟨rfl, rfl⟩
      refine zaft_v ?_
      refine zz_if_eq rfl ⟨by decide, by decide⟩ (fun hb37 => absurd hb37 (by decide)) (fun hb37 => ?_)
      refine zz_vret rfl rfl ⟨rfl, _, rfl, Or.inl ⟨(fun g => hb15 g.2.1), rfl, hM.S0 _⟩⟩
    · skip
      refine zz_iload_n rfl rfl ?_
      refine zz_iconst rfl ?_
      refine zz_sipush rfl (by decide) ?_
      refine zz_Sp rfl lk_M_71 cw_M_in (ct_Min hop ⟨by decide, by decide⟩ ⟨by decide, by decide⟩) rfl rfl rfl rfl ?_
      refine zz_ifB_ne rfl (fun hb26 => ?_) (fun hb26 => ?_)
      · skip
        refine zz_iconst rfl ?_
        refine zz_V rfl lk_M_75 cw_M_refuse rfl (m0 hA) (ct_Mrefuse0 hA) rfl rfl rfl rfl ?_
        rintro _ _ ⟨rfl, rfl⟩
        refine zaft_v ?_
        refine zz_if_eq rfl ⟨by decide, by decide⟩ (fun hb37 => ?_) (fun hb37 => absurd hb37 (by decide))
        refine zz_aload_n rfl rfl ?_
        refine zz_V rfl lk_M_83 cw_M_step rfl (m0 hA) (ct_Mstep hA (hM.S0 _) hk hb6.1) rfl rfl rfl rfl ?_
        rintro _ _ ⟨rfl, X1, rfl, h0, hM1⟩
        refine zaft_u ?_
        have hhas := hb6.1
        have hP : okP (sCur S) := (hk.1 hhas).2.2 _ (hk.1 hhas).1
        obtain ⟨hc1, hs1⟩ := mradd hM1 hk hhas hP
        have h4 := hc1.1
        have hn6 := sN1_le S
        have hB1 := hM1.2.2.2.2.2.2.2.2.2.2
        obtain ⟨⟨hw1, hw⟩, ⟨hh1, hh⟩, ⟨hn1, hn⟩, hkL, hkR⟩ := id hP
        obtain ⟨hl0, hl1⟩ := id hb6.2
        refine zz_aload_n rfl rfl ?_
        refine zz_getf rfl fl_M_16 (m0 hA) rfl ?_
        refine zz_iconst rfl ?_
        refine zz_aload_n rfl rfl ?_
        refine zz_getf rfl fl_M_58 (m0 hA) rfl ?_
        refine zz_eq h4 ?_
        refine zz_imul rfl ?_
        refine zz_iload_n rfl rfl ?_
        refine zz_iadd rfl ?_
        refine zz_iload_n rfl rfl ?_
        refine zz_iast rfl (m3 hA) (by decide) (by omega) ?_
        refine Ev.heap (w3 hA) ?_
        refine zz_aload_n rfl rfl ?_
        refine zz_getf rfl fl_M_19 (m0 hA) rfl ?_
        refine zz_iconst rfl ?_
        refine zz_aload_n rfl rfl ?_
        refine zz_getf rfl fl_M_58 (m0 hA) rfl ?_
        refine zz_eq h4 ?_
        refine zz_imul rfl ?_
        refine zz_iload_n rfl rfl ?_
        refine zz_iadd rfl ?_
        refine zz_iload_n rfl rfl ?_
        refine zz_iast rfl (m4 hA) (by decide) (by omega) ?_
        refine Ev.heap (w4 hA) ?_
        refine zz_aload_n rfl rfl ?_
        refine zz_getf rfl fl_M_22 (m0 hA) rfl ?_
        refine zz_iconst rfl ?_
        refine zz_aload_n rfl rfl ?_
        refine zz_getf rfl fl_M_58 (m0 hA) rfl ?_
        refine zz_eq h4 ?_
        refine zz_imul rfl ?_
        refine zz_iload_n rfl rfl ?_
        refine zz_iadd rfl ?_
        refine zz_iload rfl rfl ?_
        refine zz_zast rfl (m13 hA) (by decide) (by omega) (show narrow .boolean (zI v) = zI v from by rcases hv with h9 | h9 <;> rw [h9] <;> rfl) ?_
        refine Ev.heap (w13 hA) ?_
        refine zz_vret rfl rfl ⟨rfl, mB (mF (mF X1 3 (zup (X1.2.1 3) (3 * (sN1 S : Int) + l).toNat m)) 4 (zup (X1.2.1 4) (3 * (sN1 S : Int) + l).toNat op)) (zup X1.2.2 (3 * (sN1 S : Int) + l).toNat v), rfl, Or.inr (Or.inr ⟨⟨hb6, hb15, hb26⟩, trivial, h0, ?_⟩)⟩
        have e9 : (3 * (sN1 S : Int) + l).toNat = 3 * sN1 S + l.toNat := by omega
        rw [e9]
        have hf : mfr X1 (mB (mF (mF X1 3 (zup (X1.2.1 3) (3 * sN1 S + l.toNat) m)) 4 (zup (X1.2.1 4) (3 * sN1 S + l.toNat) op)) (zup X1.2.2 (3 * sN1 S + l.toNat) v)) (sN1 S) := by
          refine ⟨fun _ _ => rfl, rfl, fun k h1 h2 h3 h4 => ?_, fun _ _ => rfl, fun q hq => rfl, fun q hq => ⟨zup_o (by omega), zup_o (by omega), zup_o (by omega)⟩, fun i => ?_⟩
          · show (if k = 4 then _ else if k = 3 then _ else X1.2.1 k) = _
            rw [if_neg h3, if_neg h2]
          · show zup X1.2.2 _ _ i = 0 ∨ zup X1.2.2 _ _ i = 1
            unfold zup
            split
            · exact hv
            · exact hB1 _
        refine hf.rel hM1 hk hhas (hf.sizes hs1 rfl rfl rfl hs1.2.2.1 (fun i hi => ?_))
        have hi2 : i < sn (sCur S) := hi
        obtain ⟨g1, g2, g3, g4⟩ := hs1.2.2.2.2 i hi2
        show mlay _ _ _ _ i (if (i : Int) = l then _ else sl (sCur S) i)
        by_cases he : (i : Int) = l
        · have e8 : l.toNat = i := by omega
          rw [if_pos he, e8]
          exact ⟨zup_s _ _ _, zup_s _ _ _, zup_s _ _ _, g4⟩
        · rw [if_neg he]
          exact ⟨(zup_o (by omega)).trans g1, (zup_o (by omega)).trans g2, (zup_o (by omega)).trans g3, g4⟩
      · skip
        refine zz_iconst rfl ?_
        refine zz_goto rfl ?_
        refine zz_V rfl lk_M_75 cw_M_refuse rfl (m0 hA) (ct_Mrefuse1 hA) rfl rfl rfl rfl ?_
        rintro _ _ ⟨rfl, rfl⟩
        refine zaft_v ?_
        refine zz_if_eq rfl ⟨by decide, by decide⟩ (fun hb37 => absurd hb37 (by decide)) (fun hb37 => ?_)
        refine zz_vret rfl rfl ⟨rfl, _, rfl, Or.inl ⟨(fun g => hb26 g.2.2), rfl, hM.S0 _⟩⟩
theorem md_undo {A : Nat → Nat} {X : MX} (hA : mOk A) {S : SS} (hM : mrel X S) (hk : okS S) : Ct Z m_M_undo 0 0 0 [.ref (A 0)] (mH h A X) (mdI h A S (True) (True) (zb (0 < sNow S)) (sUndo S)) := by
  have h4 : X.1 4 = (sNow S : Int) := hM.2.2.2.1
  have h5 : X.1 5 = (sLast S : Int) := hM.2.2.2.2.1
  rcases zbool (sHas S) with hh | hh
  · have h1 : X.1 1 = 0 := by have h9 := hM.1; rw [hh] at h9; exact h9
    have hz := hk.2.1 hh
    refine zct rfl (by decide) ok_M_undo rfl rfl ?_
    refine zz_aload_n rfl rfl ?_
    refine zz_iconst rfl ?_
    refine zz_putf rfl fl_M_50 (m0 hA) (pt_1_0 rfl rfl) (zblt rfl) ?_
    refine Ev.heap (ws0 hA) ?_
    refine zz_aload_n rfl rfl ?_
    refine zz_getf rfl fl_M_67 (m0 hA) rfl ?_
    refine zz_eq h1 ?_
    refine zz_if_eq rfl ⟨by decide, by decide⟩ (fun hb9 => ?_) (fun hb9 => absurd hb9 (by decide))
    refine zz_iconst rfl ?_
    refine zz_zret rfl rfl rfl ⟨0, rfl, z00, _, rfl, Or.inr (Or.inr ⟨trivial, trivial, rfl, (if_neg (by omega)).symm, ?_⟩)⟩
    rw [show sUndo S = S from by show (sNow S - 1, S.2) = S; rw [show sNow S - 1 = sNow S by omega]]
    exact hM.S0 _
  · have h1 : X.1 1 = 1 := by have h9 := hM.1; rw [hh] at h9; exact h9
    have hz := (hk.1 hh)
    obtain ⟨hz1, hz2, -⟩ := hz
    refine zct rfl (by decide) ok_M_undo rfl rfl ?_
    refine zz_aload_n rfl rfl ?_
    refine zz_iconst rfl ?_
    refine zz_putf rfl fl_M_50 (m0 hA) (pt_1_0 rfl rfl) (zblt rfl) ?_
    refine Ev.heap (ws0 hA) ?_
    refine zz_aload_n rfl rfl ?_
    refine zz_getf rfl fl_M_67 (m0 hA) rfl ?_
    refine zz_eq h1 ?_
    refine zz_if_eq rfl ⟨by decide, by decide⟩ (fun hb9 => absurd hb9 (by decide)) (fun hb9 => ?_)
    refine zz_aload_n rfl rfl ?_
    refine zz_getf rfl fl_M_58 (m0 hA) rfl ?_
    refine zz_eq h4 ?_
    refine zz_if_ne rfl (by omega) (fun hb16 => ?_) (fun hb16 => ?_)
    · skip
      refine zz_aload_n rfl rfl ?_
      refine zz_dup rfl rfl ?_
      refine zz_getf rfl fl_M_58 (m0 hA) rfl ?_
      refine zz_eq h4 ?_
      refine zz_iconst rfl ?_
      refine zz_isub rfl ?_
      refine zz_putf rfl fl_M_58 (m0 hA) (pt_1_12 rfl rfl) (zblt rfl) ?_
      refine Ev.heap (ws4 hA) ?_
      refine zz_iconst rfl ?_
      refine zz_zret rfl rfl rfl ⟨1, rfl, ⟨by decide, by decide⟩, _, rfl, Or.inr (Or.inr ⟨trivial, trivial, rfl, (if_pos (by omega)).symm, ?_⟩)⟩
      obtain ⟨a1, a2, a3, a4, a5, a6⟩ := id hM
      exact ⟨a1, a2, a3, (show (sNow S : Int) - 1 = ((sNow S - 1 : Nat) : Int) by omega), a5, a6⟩
    · skip
      refine zz_iconst rfl ?_
      refine zz_zret rfl rfl rfl ⟨0, rfl, z00, _, rfl, Or.inr (Or.inr ⟨trivial, trivial, rfl, (if_neg (by omega)).symm, ?_⟩)⟩
      rw [show sUndo S = S from by show (sNow S - 1, S.2) = S; rw [show sNow S - 1 = sNow S by omega]]
      exact hM.S0 _
theorem md_redo {A : Nat → Nat} {X : MX} (hA : mOk A) {S : SS} (hM : mrel X S) (hk : okS S) : Ct Z m_M_redo 0 0 0 [.ref (A 0)] (mH h A X) (mdI h A S (True) (True) (zb (sNow S < sLast S)) (sRedo S)) := by
  have h4 : X.1 4 = (sNow S : Int) := hM.2.2.2.1
  have h5 : X.1 5 = (sLast S : Int) := hM.2.2.2.2.1
  rcases zbool (sHas S) with hh | hh
  · have h1 : X.1 1 = 0 := by have h9 := hM.1; rw [hh] at h9; exact h9
    have hz := hk.2.1 hh
    refine zct rfl (by decide) ok_M_redo rfl rfl ?_
    refine zz_aload_n rfl rfl ?_
    refine zz_iconst rfl ?_
    refine zz_putf rfl fl_M_50 (m0 hA) (pt_1_0 rfl rfl) (zblt rfl) ?_
    refine Ev.heap (ws0 hA) ?_
    refine zz_aload_n rfl rfl ?_
    refine zz_getf rfl fl_M_67 (m0 hA) rfl ?_
    refine zz_eq h1 ?_
    refine zz_if_eq rfl ⟨by decide, by decide⟩ (fun hb9 => ?_) (fun hb9 => absurd hb9 (by decide))
    refine zz_iconst rfl ?_
    refine zz_zret rfl rfl rfl ⟨0, rfl, z00, _, rfl, Or.inr (Or.inr ⟨trivial, trivial, rfl, (if_neg (by omega)).symm, ?_⟩)⟩
    rw [show sRedo S = S from by unfold sRedo; rw [if_neg (by omega)]]
    exact hM.S0 _
  · have h1 : X.1 1 = 1 := by have h9 := hM.1; rw [hh] at h9; exact h9
    have hz := (hk.1 hh)
    obtain ⟨hz1, hz2, -⟩ := hz
    refine zct rfl (by decide) ok_M_redo rfl rfl ?_
    refine zz_aload_n rfl rfl ?_
    refine zz_iconst rfl ?_
    refine zz_putf rfl fl_M_50 (m0 hA) (pt_1_0 rfl rfl) (zblt rfl) ?_
    refine Ev.heap (ws0 hA) ?_
    refine zz_aload_n rfl rfl ?_
    refine zz_getf rfl fl_M_67 (m0 hA) rfl ?_
    refine zz_eq h1 ?_
    refine zz_if_eq rfl ⟨by decide, by decide⟩ (fun hb9 => absurd hb9 (by decide)) (fun hb9 => ?_)
    refine zz_aload_n rfl rfl ?_
    refine zz_getf rfl fl_M_58 (m0 hA) rfl ?_
    refine zz_eq h4 ?_
    refine zz_aload_n rfl rfl ?_
    refine zz_getf rfl fl_M_64 (m0 hA) rfl ?_
    refine zz_eq h5 ?_
    refine zz_icmp_ne rfl (by omega) (by omega) (fun hb20 => ?_) (fun hb20 => ?_)
    · skip
      refine zz_aload_n rfl rfl ?_
      refine zz_dup rfl rfl ?_
      refine zz_getf rfl fl_M_58 (m0 hA) rfl ?_
      refine zz_eq h4 ?_
      refine zz_iconst rfl ?_
      refine zz_iadd rfl ?_
      refine zz_putf rfl fl_M_58 (m0 hA) (pt_1_12 rfl rfl) (zblt rfl) ?_
      refine Ev.heap (ws4 hA) ?_
      refine zz_iconst rfl ?_
      refine zz_zret rfl rfl rfl ⟨1, rfl, ⟨by decide, by decide⟩, _, rfl, Or.inr (Or.inr ⟨trivial, trivial, rfl, (if_pos (by omega)).symm, ?_⟩)⟩
      obtain ⟨a1, a2, a3, a4, a5, a6⟩ := id hM
      rw [show sRedo S = (sNow S + 1, S.2) from by unfold sRedo; rw [if_pos (by omega)]]
      exact ⟨a1, a2, a3, (show (sNow S : Int) + 1 = ((sNow S + 1 : Nat) : Int) by omega), a5, a6⟩
    · skip
      refine zz_iconst rfl ?_
      refine zz_zret rfl rfl rfl ⟨0, rfl, z00, _, rfl, Or.inr (Or.inr ⟨trivial, trivial, rfl, (if_neg (by omega)).symm, ?_⟩)⟩
      rw [show sRedo S = S from by unfold sRedo; rw [if_neg (by omega)]]
      exact hM.S0 _
end MR
