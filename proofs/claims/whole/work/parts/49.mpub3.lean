section MQ1
variable {Z : ZC} {h : ZH}
theorem lp_ins {A : Nat → Nat} {X : MX} (hA : mOk A) {n p : Nat} {P : SP} (h4 : X.1 4 = (n : Int)) (hn : n ≤ 6) (hw : sw P ≤ 24) (hh : sh P ≤ 24) (hsn : sn P < 3) {MC MS mc ms : Nat} {Q : ZR → ZH → Prop} (kx : ∀ Y, mfr X Y n → Y.2.1 5 n = X.2.1 5 n → (∀ i, p < i → i ≤ sn P → mlay Y n (sw P) (sh P) i (sl P (i - 1))) → (∀ i, i < p → mlay Y n (sw P) (sh P) i (sl P i)) → Ev Z (fun _ => True, m_M_layer, 3, MC, MS) 91 [.ref (A 0), zI (p : Nat), zI (p : Nat)] [] (mH h A Y) mc ms Q) : ∀ (m l : Nat) (Y : MX), p + m = l → l ≤ sn P → mfr X Y n → Y.2.1 5 n = X.2.1 5 n → (∀ i, l < i → i ≤ sn P → mlay Y n (sw P) (sh P) i (sl P (i - 1))) → (∀ i, i < l → mlay Y n (sw P) (sh P) i (sl P i)) → Ev Z (fun _ => True, m_M_layer, 3, MC, MS) 72 [.ref (A 0), zI (p : Nat), zI (l : Nat)] [] (mH h A Y) mc ms Q := by
  intro m
  induction m with
  | zero =>
    intro l Y hl hl2 hf h5 h1 h2
    refine zz_iload_n rfl rfl ?_
    refine zz_iload_n rfl rfl ?_
    refine zz_icmp_le rfl (by omega) (by omega) (fun hb74 => ?_) (fun hb74 => absurd hb74 (by omega))
    obtain rfl : l = p := by omega
    exact kx Y hf h5 h1 h2
  | succ m ih =>
    intro l Y hl hl2 hf h5 h1 h2
    have h4Y : Y.1 4 = (n : Int) := by rw [hf.1 4 (by decide)]; exact h4
    refine zz_iload_n rfl rfl ?_
    refine zz_iload_n rfl rfl ?_
    refine zz_icmp_le rfl (by omega) (by omega) (fun hb74 => absurd hb74 (by omega)) (fun hb74 => ?_)
    refine zz_aload_n rfl rfl ?_
    refine zz_iload_n rfl rfl ?_
    refine zz_iload_n rfl rfl ?_
    refine zz_iconst rfl ?_
    refine zz_isub rfl ?_
    refine zz_eq (show (l : Int) - 1 = ((l - 1 : Nat) : Int) from by omega) ?_
    refine zz_Vu rfl lk_M_86 cw_M_layerTo rfl (m0 hA) (ct_Mlto (to := l) (of_ := l - 1) hA h4Y hn (by omega) (by omega) (by omega) hf.2.2.2.2.2.2) rfl rfl rfl rfl ?_
    refine zz_iincK ((l - 1 : Nat) : Int) rfl rfl rfl rfl (by omega) ?_
    refine zz_goto rfl ?_
    refine ih (l - 1) _ (by omega) (by omega) (hf.tr (mLX_fr hf.2.2.2.2.2.2 (by omega))) h5 (fun i hi1 hi2 => ?_) (fun i hi => mLX_ot hw hh (Or.inr (by omega)) (by omega) (by omega) (h2 i (by omega)))
    by_cases he : i = l
    · subst he
      exact mLX_to hw hh (h2 (i - 1) (by omega))
    · exact mLX_ot hw hh (Or.inr he) (by omega) (by omega) (h1 i (by omega) hi2)
theorem md_layer {A : Nat → Nat} {X : MX} (hA : mOk A) {S : SS} (hM : mrel X S) (hk : okS S) {l : Int} (hl : zrg l) : Ct Z m_M_layer 3 0 0 [.ref (A 0), zI l] (mH h A X) (mdV h A S (sHas S = true ∧ 0 ≤ l ∧ l ≤ sn (sCur S)) (sn (sCur S) < 3) (sAdd S (sIns (sCur S) l sClr))) := by
  rcases zbool (sHas S) with hhas | hhas
  · have h1 : X.1 1 = 0 := by have h9 := hM.1; rw [hhas] at h9; exact h9
    refine zct rfl (by decide) ok_M_layer rfl rfl ?_
    refine zz_aload_n rfl rfl ?_
    refine zz_aload_n rfl rfl ?_
    refine zz_getf rfl fl_M_67 (m0 hA) rfl ?_
    refine zz_eq h1 ?_
    refine zz_if_eq rfl ⟨by decide, by decide⟩ (fun hb5 => ?_) (fun hb5 => absurd hb5 (by decide))
    refine zz_iconst rfl ?_
    refine zz_goto rfl ?_
    refine zz_putf rfl fl_M_50 (m0 hA) (pt_1_0 rfl rfl) (zblt rfl) ?_
    refine Ev.heap (ws0 hA) ?_
    refine zz_aload_n rfl rfl ?_
    refine zz_getf rfl fl_M_50 (m0 hA) rfl ?_
    refine zz_eq (show _ = (1 : Int) from rfl) ?_
    refine zz_if_le rfl ⟨by decide, by decide⟩ (fun hb54 => absurd hb54 (by decide)) (fun hb54 => ?_)
    refine zz_vret rfl rfl ⟨rfl, _, rfl, Or.inl ⟨fun g => absurd g.1 (by rw [hhas]; decide), rfl, hM.S0 _⟩⟩
  · have h1 : X.1 1 = 1 := by have h9 := hM.1; rw [hhas] at h9; exact h9
    have hc := hM.mc hk hhas
    have h40 := hc.1
    obtain ⟨k1, k2, k3⟩ := hk.1 hhas
    have hP : okP (sCur S) := k3 _ k1
    obtain ⟨⟨hw1, hw⟩, ⟨hh1, hh⟩, ⟨hn1, hn⟩, hkL, hkR⟩ := id hP
    have h5 : X.2.1 5 (sNow S) = (sn (sCur S) : Int) := (hM.2.2.2.2.2.2.2.1 hhas _ k1).2.2.1
    refine zct rfl (by decide) ok_M_layer rfl rfl ?_
    refine zz_aload_n rfl rfl ?_
    refine zz_aload_n rfl rfl ?_
    refine zz_getf rfl fl_M_67 (m0 hA) rfl ?_
    refine zz_eq h1 ?_
    refine zz_if_eq rfl ⟨by decide, by decide⟩ (fun hb5 => absurd hb5 (by decide)) (fun hb5 => ?_)
    refine zz_iload_n rfl rfl ?_
    refine zz_iconst rfl ?_
    refine zz_aload_n rfl rfl ?_
    refine zz_getf rfl fl_M_26 (m0 hA) rfl ?_
    refine zz_aload_n rfl rfl ?_
    refine zz_getf rfl fl_M_58 (m0 hA) rfl ?_
    refine zz_eq h40 ?_
    refine zz_iald rfl (m5 hA) (by decide) ⟨by omega, by omega⟩ ?_
    refine zz_eq h5 ?_
    refine zz_Sp rfl lk_M_71 cw_M_in (ct_Min hl ⟨by decide, by decide⟩ ⟨by omega, by omega⟩) rfl rfl rfl rfl ?_
    refine zz_ifB_ne rfl (fun hb22 => ?_) (fun hb22 => ?_)
    · skip
      refine zz_aload_n rfl rfl ?_
      refine zz_getf rfl fl_M_26 (m0 hA) rfl ?_
      refine zz_aload_n rfl rfl ?_
      refine zz_getf rfl fl_M_58 (m0 hA) rfl ?_
      refine zz_eq h40 ?_
      refine zz_iald rfl (m5 hA) (by decide) ⟨by omega, by omega⟩ ?_
      refine zz_eq h5 ?_
      refine zz_iconst rfl ?_
      refine zz_icmp_ne rfl (by omega) (by omega) (fun hb39 => ?_) (fun hb39 => ?_)
      · skip
        refine zz_iconst rfl ?_
        refine zz_putf rfl fl_M_50 (m0 hA) (pt_1_0 rfl rfl) (zblt rfl) ?_
        refine Ev.heap (ws0 hA) ?_
        refine zz_aload_n rfl rfl ?_
        refine zz_getf rfl fl_M_50 (m0 hA) rfl ?_
        refine zz_eq (show _ = (0 : Int) from rfl) ?_
        refine zz_if_le rfl ⟨by decide, by decide⟩ (fun hb54 => ?_) (fun hb54 => absurd hb54 (by decide))
        refine zz_aload_n rfl rfl ?_
        refine zz_V rfl lk_M_83 cw_M_step rfl (m0 hA) (ct_Mstep hA (hM.S0 _) hk hhas) rfl rfl rfl rfl ?_
        rintro _ _ ⟨rfl, X1, rfl, h0, hM1⟩
        refine zaft_u ?_
        obtain ⟨hc1, hs1⟩ := mradd hM1 hk hhas hP
        have h4 := hc1.1
        have hn6 := sN1_le S
        have hB1 := hM1.2.2.2.2.2.2.2.2.2.2
        obtain ⟨p, rfl⟩ := Int.eq_ofNat_of_zero_le hb22.1
        have hN5 : X1.2.1 5 (sN1 S) = (sn (sCur S) : Int) := hs1.2.2.1
        refine zz_aload_n rfl rfl ?_
        refine zz_getf rfl fl_M_26 (m0 hA) rfl ?_
        refine zz_aload_n rfl rfl ?_
        refine zz_getf rfl fl_M_58 (m0 hA) rfl ?_
        refine zz_eq h4 ?_
        refine zz_iald rfl (m5 hA) (by decide) ⟨by omega, by omega⟩ ?_
        refine zz_eq hN5 ?_
        refine zz_istore_n rfl rfl rfl ?_
        refine lp_ins (p := p) hA h4 hn6 hw hh (by omega) (fun Y hf hF5 hi1 hi2 => ?_) (sn (sCur S) - p) (sn (sCur S)) X1 (by omega) (Nat.le_refl _) (mfr.rf hB1) rfl (fun i hi1 hi2 => by omega) (fun i hi => hs1.2.2.2.2 i hi)
        refine zz_aload_n rfl rfl ?_
        refine zz_iload_n rfl rfl ?_
        have h4Y : Y.1 4 = (sN1 S : Int) := by rw [hf.1 4 (by decide)]; exact h4
        refine zz_Vu rfl lk_M_79 cw_M_freshLayer rfl (m0 hA) (ct_Mfresh hA h4Y hn6 (by omega)) rfl rfl rfl rfl ?_
        have hf2 := hf.tr (mFr_fr (l := p) hf.2.2.2.2.2.2 (by omega))
        refine zz_aload_n rfl rfl ?_
        refine zz_getf rfl fl_M_26 (m0 hA) rfl ?_
        refine zz_aload_n rfl rfl ?_
        refine zz_getf rfl fl_M_58 (m0 hA) rfl ?_
        refine zz_eq (show _ = (sN1 S : Int) from h4Y) ?_
        refine zz_dup2 rfl rfl rfl ?_
        refine zz_iald rfl (m5 hA) (by decide) ⟨by omega, by omega⟩ ?_
        refine zz_iconst rfl ?_
        refine zz_iadd rfl ?_
        refine zz_iast rfl (m5 hA) (by decide) ⟨by omega, by omega⟩ ?_
        refine Ev.heap (w5 hA) ?_
        refine zz_vret rfl rfl ⟨rfl, _, rfl, Or.inr (Or.inr ⟨⟨hhas, hb22⟩, (by omega), ?_, ?_⟩)⟩
        · exact hf2.2.1.trans h0
        refine (hf2.tr (mF5_fr hf2.2.2.2.2.2.2)).rel hM1 hk hhas ((hf2.tr (mF5_fr (v := (mFr Y (sN1 S) p).2.1 5 (sN1 S) + 1) hf2.2.2.2.2.2.2)).sizes hs1 rfl rfl rfl ?_ (fun i hi => ?_))
        · refine (zup_s _ _ _).trans ?_
          show Y.2.1 5 (sN1 S) + 1 = ((sn (sCur S) + 1 : Nat) : Int)
          rw [hF5, hN5]
          omega
        · have hi9 : i < sn (sCur S) + 1 := hi
          show mlay (mFr Y (sN1 S) p) _ _ _ i (if (i : Int) < (p : Int) then sl (sCur S) i else if (i : Int) = (p : Int) then sClr else sl (sCur S) (i - 1))
          by_cases g1 : (i : Int) < (p : Int)
          · rw [if_pos g1]
            exact mFr_ot hw hh (by omega) (by omega) (by omega) (hi2 i (by omega))
          · by_cases g2 : (i : Int) = (p : Int)
            · rw [if_neg g1, if_pos g2]
              have e8 : i = p := by omega
              subst e8
              exact mFr_to Y hw hh
            · rw [if_neg g1, if_neg g2]
              exact mFr_ot hw hh (by omega) (by omega) (by omega) (hi1 i (by omega) (by omega))
      · skip
        refine zz_iconst rfl ?_
        refine zz_goto rfl ?_
        refine zz_putf rfl fl_M_50 (m0 hA) (pt_1_0 rfl rfl) (zblt rfl) ?_
        refine Ev.heap (ws0 hA) ?_
        refine zz_aload_n rfl rfl ?_
        refine zz_getf rfl fl_M_50 (m0 hA) rfl ?_
        refine zz_eq (show _ = (2 : Int) from rfl) ?_
        refine zz_if_le rfl ⟨by decide, by decide⟩ (fun hb54 => absurd hb54 (by decide)) (fun hb54 => ?_)
        refine zz_vret rfl rfl ⟨rfl, _, rfl, Or.inr (Or.inl ⟨⟨hhas, hb22⟩, (by omega), rfl, hM.S0 _⟩)⟩
    · skip
      refine zz_iconst rfl ?_
      refine zz_goto rfl ?_
      refine zz_putf rfl fl_M_50 (m0 hA) (pt_1_0 rfl rfl) (zblt rfl) ?_
      refine Ev.heap (ws0 hA) ?_
      refine zz_aload_n rfl rfl ?_
      refine zz_getf rfl fl_M_50 (m0 hA) rfl ?_
      refine zz_eq (show _ = (1 : Int) from rfl) ?_
      refine zz_if_le rfl ⟨by decide, by decide⟩ (fun hb54 => absurd hb54 (by decide)) (fun hb54 => ?_)
      refine zz_vret rfl rfl ⟨rfl, _, rfl, Or.inl ⟨(fun g => hb22 g.2), rfl, hM.S0 _⟩⟩
end MQ1
