section MQ9
variable {Z : ZC} {h : ZH}
theorem ct_MisPlace {A : Nat → Nat} {X : MX} (hA : mOk A) {n w ht : Nat} {R : Nat → Nat} (hc : mc X n w ht R) {k x y : Int} (hk : 0 ≤ k ∧ k ≤ 3) (hx : zrg x) (hy : zrg y) : Ct Z m_M_isPlace 1 0 0 [.ref (A 0), zI k, zI x, zI y] (mH h A X) (zP (zI (zb ((0 ≤ x ∧ x ≤ zhv w k - 1) ∧ 0 ≤ y ∧ y ≤ zhv ht k - 1))) (mH h A X)) := by
  have hw24 := hc.2.2.2.2.1
  have s1 := zhv_rg (n := (w : Int)) (k := k) ⟨by omega, by omega⟩ hk
  have s2 := zhv_rg (n := (ht : Int)) (k := k) ⟨by omega, by omega⟩ hk
  refine zct rfl (by decide) ok_M_isPlace rfl rfl ?_
  refine zz_iload_n rfl rfl ?_
  refine zz_if_lt rfl hx (fun hb1 => ?_) (fun hb1 => ?_)
  · skip
    refine zz_iconst rfl ?_
    refine zz_zret rfl rfl rfl (zret_f (fun h9 => by have := h9.1; have := h9.2; omega))
  · skip
    refine zz_iload_n rfl rfl ?_
    refine zz_aload_n rfl rfl ?_
    refine zz_Vp rfl lk_M_100 cw_M_w rfl (m0 hA) (ct_Mw hA hc) rfl rfl rfl rfl ?_
    refine zz_iload_n rfl rfl ?_
    refine zz_Sp rfl lk_M_173 cw_M_half (ct_Mhalf ⟨by omega, by omega⟩ hk) rfl rfl rfl rfl ?_
    refine zz_icmp_ge rfl hx ⟨by omega, by omega⟩ (fun hb13 => ?_) (fun hb13 => ?_)
    · skip
      refine zz_iconst rfl ?_
      refine zz_zret rfl rfl rfl (zret_f (fun h9 => by have := h9.1; have := h9.2; omega))
    · skip
      refine zz_iload_n rfl rfl ?_
      refine zz_if_lt rfl hy (fun hb17 => ?_) (fun hb17 => ?_)
      · skip
        refine zz_iconst rfl ?_
        refine zz_zret rfl rfl rfl (zret_f (fun h9 => by have := h9.1; have := h9.2; omega))
      · skip
        refine zz_iload_n rfl rfl ?_
        refine zz_aload_n rfl rfl ?_
        refine zz_Vp rfl lk_M_96 cw_M_h rfl (m0 hA) (ct_Mh hA hc) rfl rfl rfl rfl ?_
        refine zz_iload_n rfl rfl ?_
        refine zz_Sp rfl lk_M_173 cw_M_half (ct_Mhalf ⟨by omega, by omega⟩ hk) rfl rfl rfl rfl ?_
        refine zz_icmp_ge rfl hy ⟨by omega, by omega⟩ (fun hb29 => ?_) (fun hb29 => ?_)
        · skip
          refine zz_iconst rfl ?_
          refine zz_zret rfl rfl rfl (zret_f (fun h9 => by have := h9.1; have := h9.2; omega))
        · skip
          refine zz_iconst rfl ?_
          refine zz_goto rfl ?_
          refine zz_zret rfl rfl rfl (zret_t ⟨⟨by omega, by omega⟩, by omega, by omega⟩)
theorem md_dot {A : Nat → Nat} {X : MX} (hA : mOk A) {S : SS} (hM : mrel X S) (hk : okS S) {l k x1 y1 : Int} (hl : zrg l) (hk0 : zrg k) (hx0 : zrg x1) (hy0 : zrg y1) : Ct Z m_M_dot 3 0 0 [.ref (A 0), zI l, zI k, zI x1, zI y1] (mH h A X) (mdI h A S (sLy S l ∧ 0 ≤ k ∧ k ≤ 3) ((0 ≤ x1 ∧ x1 ≤ zhv (sw (sCur S)) k - 1) ∧ 0 ≤ y1 ∧ y1 ≤ zhv (sh (sCur S)) k - 1) (zlv (sFl (sD (sl (sCur S) l.toNat)) (sw (sCur S))) (sw (sCur S)) (sh (sCur S)) k.toNat x1 y1) (S)) := by
  refine zct rfl (by decide) ok_M_dot rfl rfl ?_
  refine zz_aload_n rfl rfl ?_
  refine zz_aload_n rfl rfl ?_
  refine zz_iload_n rfl rfl ?_
  refine zz_Vp rfl lk_M_89 cw_M_isLayer rfl (m0 hA) (ct_MisLayer hA hM hk hl) rfl rfl rfl rfl ?_
  refine zz_ifB_eq rfl (fun hb6 => ?_) (fun hb6 => ?_)
  · skip
    refine zz_iconst rfl ?_
    refine zz_goto rfl ?_
    refine zz_putf rfl fl_M_50 (m0 hA) (pt_1_0 rfl rfl) (zblt rfl) ?_
    refine Ev.heap (ws0 hA) ?_
    refine zz_aload_n rfl rfl ?_
    refine zz_getf rfl fl_M_50 (m0 hA) rfl ?_
    refine zz_eq (show _ = (1 : Int) from rfl) ?_
    refine zz_if_le rfl ⟨by decide, by decide⟩ (fun hb45 => absurd hb45 (by decide)) (fun hb45 => ?_)
    refine zz_iconst rfl ?_
    refine zz_iret rfl rfl ⟨0, rfl, z00, _, rfl, Or.inl ⟨(fun g => hb6 g.1), rfl, hM.S0 _⟩⟩
  · skip
    have hhas := hb6.1
    obtain ⟨k1, k2, k3⟩ := hk.1 hhas
    have hP : okP (sCur S) := k3 _ k1
    have hc : mc X (sNow S) (sw (sCur S)) (sh (sCur S)) (sr (sCur S)) := hM.mc hk hhas
    refine zz_iload_n rfl rfl ?_
    refine zz_iconst rfl ?_
    refine zz_iconst rfl ?_
    refine zz_Sp rfl lk_M_71 cw_M_in (ct_Min hk0 ⟨by decide, by decide⟩ ⟨by decide, by decide⟩) rfl rfl rfl rfl ?_
    refine zz_ifB_ne rfl (fun hb15 => ?_) (fun hb15 => ?_)
    · skip
      refine zz_aload_n rfl rfl ?_
      refine zz_iload_n rfl rfl ?_
      refine zz_iload_n rfl rfl ?_
      refine zz_iload rfl rfl ?_
      refine zz_Vp rfl lk_M_179 cw_M_isPlace rfl (m0 hA) (ct_MisPlace hA hc hb15 hx0 hy0) rfl rfl rfl rfl ?_
      refine zz_ifB_ne rfl (fun hb30 => ?_) (fun hb30 => ?_)
      · skip
        refine zz_iconst rfl ?_
        refine zz_putf rfl fl_M_50 (m0 hA) (pt_1_0 rfl rfl) (zblt rfl) ?_
        refine Ev.heap (ws0 hA) ?_
        refine zz_aload_n rfl rfl ?_
        refine zz_getf rfl fl_M_50 (m0 hA) rfl ?_
        refine zz_eq (show _ = (0 : Int) from rfl) ?_
        refine zz_if_le rfl ⟨by decide, by decide⟩ (fun hb45 => ?_) (fun hb45 => absurd hb45 (by decide))
        refine zz_aload_n rfl rfl ?_
        refine zz_iload_n rfl rfl ?_
        refine zz_iload_n rfl rfl ?_
        have hn3 := hP.2.2.1.2
        obtain ⟨hl0, hl1⟩ := id hb6.2
        have hL := hP.2.2.2.1 l.toNat (by omega)
        have hDr : ∀ x y, x < (sw (sCur S)) → y < (sh (sCur S)) → zrg ((sD (sl (sCur S) l.toNat)) x y) := hL.2.2.2
        have hdt := ((hM.2.2.2.2.2.2.2.1 hhas _ k1).2.2.2.2 l.toNat (show l.toNat < sn (sCur S) by omega)).2.2.2
        have r1 := zhv_24 (k := k) hP.1.2 hb15
        have r2 := zhv_24 (k := k) hP.2.1.2 hb15
        obtain ⟨⟨p1, p2⟩, p3, p4⟩ := id hb30
        refine zz_V rfl lk_M_182 cw_M_climb rfl (m0 hA) (ct_Mclimb (X := mS X 0 0) (D := (sD (sl (sCur S) l.toNat))) hA (hc.S0 0) ⟨by omega, by omega⟩ hb15 hDr hdt) rfl rfl rfl rfl ?_
        rintro _ _ ⟨rfl, f, rfl, lv⟩
        refine zaft_u ?_
        refine zz_aload_n rfl rfl ?_
        refine zz_getf rfl fl_M_47 (m0 hA) rfl ?_
        refine zz_bipush rfl (by decide) ?_
        refine zz_iload rfl rfl ?_
        refine zz_imul rfl ?_
        refine zz_iload_n rfl rfl ?_
        refine zz_iadd rfl ?_
        refine zz_iald rfl (m12 hA) (by decide) ⟨by omega, by omega⟩ ?_
        have e9 := lv x1.toNat y1.toNat (by rw [Int.toNat_of_nonneg hb15.1]; omega) (by rw [Int.toNat_of_nonneg hb15.1]; omega)
        rw [Int.toNat_of_nonneg p1, Int.toNat_of_nonneg p3] at e9
        refine zz_eq (show _ = zlv (sFl (sD (sl (sCur S) l.toNat)) (sw (sCur S))) (sw (sCur S)) (sh (sCur S)) k.toNat x1 y1 from (congrArg ((mF (mS X 0 0) 12 f).2.1 12) (by omega)).trans e9) ?_
        refine zz_iret rfl rfl ⟨_, rfl, zlv_rr (sDt_rg hDr) _ _ _, _, rfl, Or.inr (Or.inr ⟨⟨hb6, hb15⟩, hb30, rfl, rfl, (hM.S0 0).F12 f⟩)⟩
      · skip
        refine zz_iconst rfl ?_
        refine zz_goto rfl ?_
        refine zz_putf rfl fl_M_50 (m0 hA) (pt_1_0 rfl rfl) (zblt rfl) ?_
        refine Ev.heap (ws0 hA) ?_
        refine zz_aload_n rfl rfl ?_
        refine zz_getf rfl fl_M_50 (m0 hA) rfl ?_
        refine zz_eq (show _ = (2 : Int) from rfl) ?_
        refine zz_if_le rfl ⟨by decide, by decide⟩ (fun hb45 => absurd hb45 (by decide)) (fun hb45 => ?_)
        refine zz_iconst rfl ?_
        refine zz_iret rfl rfl ⟨0, rfl, z00, _, rfl, Or.inr (Or.inl ⟨⟨hb6, hb15⟩, hb30, rfl, hM.S0 _⟩)⟩
    · skip
      refine zz_iconst rfl ?_
      refine zz_goto rfl ?_
      refine zz_putf rfl fl_M_50 (m0 hA) (pt_1_0 rfl rfl) (zblt rfl) ?_
      refine Ev.heap (ws0 hA) ?_
      refine zz_aload_n rfl rfl ?_
      refine zz_getf rfl fl_M_50 (m0 hA) rfl ?_
      refine zz_eq (show _ = (1 : Int) from rfl) ?_
      refine zz_if_le rfl ⟨by decide, by decide⟩ (fun hb45 => absurd hb45 (by decide)) (fun hb45 => ?_)
      refine zz_iconst rfl ?_
      refine zz_iret rfl rfl ⟨0, rfl, z00, _, rfl, Or.inl ⟨(fun g => hb15 g.2), rfl, hM.S0 _⟩⟩
theorem sVw_rg (P : SP) (k x y : Int) (i : Nat) : zrg (sVw P k x y i) := by
  induction i with
  | zero => exact z00
  | succ i ih =>
    show zrg (if sV (sl P i) = 0 then _ else _)
    split
    · exact ih
    · exact zbl_rg _ _ _ _
theorem lp_mview {A : Nat → Nat} {X : MX} (hA : mOk A) {S : SS} (hM : mrel X S) (hk : okS S) (hhas : sHas S = true) {k x1 y1 : Int} (hk1 : 0 ≤ k ∧ k ≤ 3) (hpl : (0 ≤ x1 ∧ x1 ≤ zhv (sw (sCur S)) k - 1) ∧ 0 ≤ y1 ∧ y1 ≤ zhv (sh (sCur S)) k - 1) {MC MS mc ms : Nat} {Q : ZR → ZH → Prop} (kx : ∀ f, Ev Z (fun _ => True, m_M_view, 3, MC, MS) 147 [.ref (A 0), zI k, zI x1, zI y1, zI (sVw (sCur S) k x1 y1 (sn (sCur S))), zI ((sn (sCur S)) : Nat)] [] (mH h A (mF X 12 f)) mc ms Q) : ∀ (m i : Nat) (f : Nat → Int), i + m = sn (sCur S) → Ev Z (fun _ => True, m_M_view, 3, MC, MS) 54 [.ref (A 0), zI k, zI x1, zI y1, zI (sVw (sCur S) k x1 y1 i), zI (i : Nat)] [] (mH h A (mF X 12 f)) mc ms Q := by
  obtain ⟨k1, k2, k3⟩ := hk.1 hhas
  have hP : okP (sCur S) := k3 _ k1
  obtain ⟨⟨hw1, hw⟩, ⟨hh1, hh⟩, ⟨hn1, hn⟩, hkL, hkR⟩ := id hP
  have hc := hM.mc hk hhas
  have h4 : X.1 4 = (sNow S : Int) := hM.2.2.2.1
  obtain ⟨q1, q2, h5, q4, q5⟩ := hM.2.2.2.2.2.2.2.1 hhas _ k1
  have r1 := zhv_24 (k := k) hP.1.2 hk1
  have r2 := zhv_24 (k := k) hP.2.1.2 hk1
  obtain ⟨⟨p1, p2⟩, p3, p4⟩ := id hpl
  intro m
  induction m with
  | zero =>
    intro i f hi
    refine zz_iload rfl rfl ?_
    refine zz_aload_n rfl rfl ?_
    refine zz_getf rfl fl_M_26 (m0 hA) rfl ?_
    refine zz_aload_n rfl rfl ?_
    refine zz_getf rfl fl_M_58 (m0 hA) rfl ?_
    refine zz_eq (show _ = ((sNow S : Nat) : Int) from h4) ?_
    refine zz_iald rfl (m5 hA) (by decide) ⟨by omega, by omega⟩ ?_
    refine zz_eq (show _ = ((sn (sCur S) : Nat) : Int) from h5) ?_
    refine zz_icmp_ge rfl (by omega) (by omega) (fun hb65 => ?_) (fun hb65 => absurd hb65 (by omega))
    obtain rfl : i = sn (sCur S) := by omega
    exact kx f
  | succ m ih =>
    intro i f hi
    have hoL := hkL i (by omega)
    obtain ⟨g1, g2, g3, g4⟩ := q5 i (show i < sn (sCur S) by omega)
    have ei : (3 * ((sNow S : Nat) : Int) + ((i : Nat) : Int)).toNat = 3 * sNow S + i := by omega
    refine zz_iload rfl rfl ?_
    refine zz_aload_n rfl rfl ?_
    refine zz_getf rfl fl_M_26 (m0 hA) rfl ?_
    refine zz_aload_n rfl rfl ?_
    refine zz_getf rfl fl_M_58 (m0 hA) rfl ?_
    refine zz_eq (show _ = ((sNow S : Nat) : Int) from h4) ?_
    refine zz_iald rfl (m5 hA) (by decide) ⟨by omega, by omega⟩ ?_
    refine zz_eq (show _ = ((sn (sCur S) : Nat) : Int) from h5) ?_
    refine zz_icmp_ge rfl (by omega) (by omega) (fun hb65 => absurd hb65 (by omega)) (fun hb65 => ?_)
    refine zz_aload_n rfl rfl ?_
    refine zz_getf rfl fl_M_22 (m0 hA) rfl ?_
    refine zz_iconst rfl ?_
    refine zz_aload_n rfl rfl ?_
    refine zz_getf rfl fl_M_58 (m0 hA) rfl ?_
    refine zz_eq (show _ = ((sNow S : Nat) : Int) from h4) ?_
    refine zz_imul rfl ?_
    refine zz_iload rfl rfl ?_
    refine zz_iadd rfl ?_
    refine zz_zald rfl (m13 hA) (by decide) ⟨by omega, by omega⟩ ?_
    refine zz_eq (show _ = sV (sl (sCur S) i) from (congrArg X.2.2 ei).trans g3) ?_
    refine zz_if_ne rfl (by rcases hoL.2.2.1 with h9 | h9 <;> rw [h9] <;> exact ⟨by decide, by decide⟩) (fun hb82 => ?_) (fun hb82 => ?_)
    · skip
      refine zz_aload_n rfl rfl ?_
      refine zz_iload rfl rfl ?_
      refine zz_iload_n rfl rfl ?_
      refine zz_V rfl lk_M_182 cw_M_climb rfl (m0 hA) (ct_Mclimb (X := mF X 12 f) (l := (i : Int)) (D := sD (sl (sCur S) i)) hA (hc.F 12 _ rfl) ⟨by omega, by omega⟩ hk1 hoL.2.2.2 g4) rfl rfl rfl rfl ?_
      rintro _ _ ⟨rfl, f2, rfl, lv⟩
      refine zaft_u ?_
      rw [mF_mF] at lv
      refine Ev.heap (show _ = mH h A (mF X 12 f2) from by rw [mF_mF]) ?_
      have e9 := lv x1.toNat y1.toNat (by rw [Int.toNat_of_nonneg hk1.1]; omega) (by rw [Int.toNat_of_nonneg hk1.1]; omega)
      rw [Int.toNat_of_nonneg p1, Int.toNat_of_nonneg p3] at e9
      refine zz_iload rfl rfl ?_
      refine zz_aload_n rfl rfl ?_
      refine zz_getf rfl fl_M_47 (m0 hA) rfl ?_
      refine zz_bipush rfl (by decide) ?_
      refine zz_iload_n rfl rfl ?_
      refine zz_imul rfl ?_
      refine zz_iload_n rfl rfl ?_
      refine zz_iadd rfl ?_
      refine zz_iald rfl (m12 hA) (by decide) ⟨by omega, by omega⟩ ?_
      refine zz_eq (show _ = zlv (sFl (sD (sl (sCur S) i)) (sw (sCur S))) (sw (sCur S)) (sh (sCur S)) k.toNat x1 y1 from (congrArg ((mF X 12 f2).2.1 12) (by omega)).trans e9) ?_
      refine zz_aload_n rfl rfl ?_
      refine zz_getf rfl fl_M_16 (m0 hA) rfl ?_
      refine zz_iconst rfl ?_
      refine zz_aload_n rfl rfl ?_
      refine zz_getf rfl fl_M_58 (m0 hA) rfl ?_
      refine zz_eq (show _ = ((sNow S : Nat) : Int) from h4) ?_
      refine zz_imul rfl ?_
      refine zz_iload rfl rfl ?_
      refine zz_iadd rfl ?_
      refine zz_iald rfl (m3 hA) (by decide) ⟨by omega, by omega⟩ ?_
      refine zz_eq (show _ = sM (sl (sCur S) i) from (congrArg (X.2.1 3) ei).trans g1) ?_
      refine zz_aload_n rfl rfl ?_
      refine zz_getf rfl fl_M_19 (m0 hA) rfl ?_
      refine zz_iconst rfl ?_
      refine zz_aload_n rfl rfl ?_
      refine zz_getf rfl fl_M_58 (m0 hA) rfl ?_
      refine zz_eq (show _ = ((sNow S : Nat) : Int) from h4) ?_
      refine zz_imul rfl ?_
      refine zz_iload rfl rfl ?_
      refine zz_iadd rfl ?_
      refine zz_iald rfl (m4 hA) (by decide) ⟨by omega, by omega⟩ ?_
      refine zz_eq (show _ = sO (sl (sCur S) i) from (congrArg (X.2.1 4) ei).trans g2) ?_
      refine zz_Sp rfl lk_M_151 cw_M_blend (ct_Mblend (zlv_rr (sDt_rg hoL.2.2.2) _ _ _) (sVw_rg _ _ _ _ _) hoL.1 hoL.2.1) rfl rfl rfl rfl ?_
      refine zz_istore rfl rfl rfl ?_
      refine zz_iincK ((i + 1 : Nat) : Int) rfl rfl rfl rfl (by omega) ?_
      refine zz_goto rfl ?_
      refine Ev.take 6 ?_
      have e8 : sVw (sCur S) k x1 y1 (i + 1) = zbl (zlv (sFl (sD (sl (sCur S) i)) (sw (sCur S))) (sw (sCur S)) (sh (sCur S)) k.toNat x1 y1) (sVw (sCur S) k x1 y1 i) (sM (sl (sCur S) i)) (sO (sl (sCur S) i)) := by show (if sV (sl (sCur S) i) = 0 then _ else _) = _; rw [if_neg hb82]
      have k9 := ih (i + 1) f2 (by omega)
      rw [e8] at k9
      exact k9
    · skip
      refine zz_goto rfl ?_
      refine zz_iincK ((i + 1 : Nat) : Int) rfl rfl rfl rfl (by omega) ?_
      refine zz_goto rfl ?_
      refine Ev.take 6 ?_
      have e8 : sVw (sCur S) k x1 y1 (i + 1) = sVw (sCur S) k x1 y1 i := by show (if sV (sl (sCur S) i) = 0 then _ else _) = _; rw [if_pos hb82]
      have k9 := ih (i + 1) f (by omega)
      rw [e8] at k9
      exact k9
theorem md_view {A : Nat → Nat} {X : MX} (hA : mOk A) {S : SS} (hM : mrel X S) (hk : okS S) {k x1 y1 : Int} (hk0 : zrg k) (hx0 : zrg x1) (hy0 : zrg y1) : Ct Z m_M_view 3 0 0 [.ref (A 0), zI k, zI x1, zI y1] (mH h A X) (mdI h A S (sHas S = true ∧ 0 ≤ k ∧ k ≤ 3) ((0 ≤ x1 ∧ x1 ≤ zhv (sw (sCur S)) k - 1) ∧ 0 ≤ y1 ∧ y1 ≤ zhv (sh (sCur S)) k - 1) (sVw (sCur S) k x1 y1 (sn (sCur S))) (S)) := by
  rcases zbool (sHas S) with hhas | hhas
  · have h1 : X.1 1 = 0 := by have h9 := hM.1; rw [hhas] at h9; exact h9
    refine zct rfl (by decide) ok_M_view rfl rfl ?_
    refine zz_aload_n rfl rfl ?_
    refine zz_aload_n rfl rfl ?_
    refine zz_getf rfl fl_M_67 (m0 hA) rfl ?_
    refine zz_eq h1 ?_
    refine zz_if_eq rfl ⟨by decide, by decide⟩ (fun hb5 => ?_) (fun hb5 => absurd hb5 (by decide))
    refine zz_iconst rfl ?_
    refine zz_goto rfl ?_
    refine zz_putf rfl fl_M_50 (m0 hA) (pt_1_0 rfl rfl) (zblt rfl) ?_
    refine Ev.heap (ws0 hA) ?_
    refine zz_aload_n rfl rfl ?_
    refine zz_getf rfl fl_M_50 (m0 hA) rfl ?_
    refine zz_eq (show _ = (1 : Int) from rfl) ?_
    refine zz_if_le rfl ⟨by decide, by decide⟩ (fun hb43 => absurd hb43 (by decide)) (fun hb43 => ?_)
    refine zz_iconst rfl ?_
    refine zz_iret rfl rfl ⟨0, rfl, z00, _, rfl, Or.inl ⟨(fun g => by have h9 := g.1; rw [hhas] at h9; cases h9), rfl, hM.S0 _⟩⟩
  · have h1 : X.1 1 = 1 := by have h9 := hM.1; rw [hhas] at h9; exact h9
    have hc : mc X (sNow S) (sw (sCur S)) (sh (sCur S)) (sr (sCur S)) := hM.mc hk hhas
    refine zct rfl (by decide) ok_M_view rfl rfl ?_
    refine zz_aload_n rfl rfl ?_
    refine zz_aload_n rfl rfl ?_
    refine zz_getf rfl fl_M_67 (m0 hA) rfl ?_
    refine zz_eq h1 ?_
    refine zz_if_eq rfl ⟨by decide, by decide⟩ (fun hb5 => absurd hb5 (by decide)) (fun hb5 => ?_)
    refine zz_iload_n rfl rfl ?_
    refine zz_iconst rfl ?_
    refine zz_iconst rfl ?_
    refine zz_Sp rfl lk_M_71 cw_M_in (ct_Min hk0 ⟨by decide, by decide⟩ ⟨by decide, by decide⟩) rfl rfl rfl rfl ?_
    refine zz_ifB_ne rfl (fun hb14 => ?_) (fun hb14 => ?_)
    · skip
      refine zz_aload_n rfl rfl ?_
      refine zz_iload_n rfl rfl ?_
      refine zz_iload_n rfl rfl ?_
      refine zz_iload_n rfl rfl ?_
      refine zz_Vp rfl lk_M_179 cw_M_isPlace rfl (m0 hA) (ct_MisPlace hA hc hb14 hx0 hy0) rfl rfl rfl rfl ?_
      refine zz_ifB_ne rfl (fun hb28 => ?_) (fun hb28 => ?_)
      · skip
        refine zz_iconst rfl ?_
        refine zz_putf rfl fl_M_50 (m0 hA) (pt_1_0 rfl rfl) (zblt rfl) ?_
        refine Ev.heap (ws0 hA) ?_
        refine zz_aload_n rfl rfl ?_
        refine zz_getf rfl fl_M_50 (m0 hA) rfl ?_
        refine zz_eq (show _ = (0 : Int) from rfl) ?_
        refine zz_if_le rfl ⟨by decide, by decide⟩ (fun hb43 => ?_) (fun hb43 => absurd hb43 (by decide))
        refine zz_iconst rfl ?_
        refine zz_istore rfl rfl rfl ?_
        refine zz_iconst rfl ?_
        refine zz_istore rfl rfl rfl ?_
        refine Ev.heap (show _ = mH h A (mF (mS X 0 0) 12 ((mS X 0 0).2.1 12)) from by rw [mF_id]) ?_
        refine lp_mview (X := mS X 0 0) hA (hM.S0 0) hk hhas hb14 hb28 (fun f => ?_) (sn (sCur S)) 0 _ (by omega)
        refine zz_iload rfl rfl ?_
        refine zz_iret rfl rfl ⟨_, rfl, sVw_rg _ _ _ _ _, _, rfl, Or.inr (Or.inr ⟨⟨hhas, hb14⟩, hb28, rfl, rfl, (hM.S0 0).F12 f⟩)⟩
      · skip
        refine zz_iconst rfl ?_
        refine zz_goto rfl ?_
        refine zz_putf rfl fl_M_50 (m0 hA) (pt_1_0 rfl rfl) (zblt rfl) ?_
        refine Ev.heap (ws0 hA) ?_
        refine zz_aload_n rfl rfl ?_
        refine zz_getf rfl fl_M_50 (m0 hA) rfl ?_
        refine zz_eq (show _ = (2 : Int) from rfl) ?_
        refine zz_if_le rfl ⟨by decide, by decide⟩ (fun hb43 => absurd hb43 (by decide)) (fun hb43 => ?_)
        refine zz_iconst rfl ?_
        refine zz_iret rfl rfl ⟨0, rfl, z00, _, rfl, Or.inr (Or.inl ⟨⟨hhas, hb14⟩, hb28, rfl, hM.S0 _⟩)⟩
    · skip
      refine zz_iconst rfl ?_
      refine zz_goto rfl ?_
      refine zz_putf rfl fl_M_50 (m0 hA) (pt_1_0 rfl rfl) (zblt rfl) ?_
      refine Ev.heap (ws0 hA) ?_
      refine zz_aload_n rfl rfl ?_
      refine zz_getf rfl fl_M_50 (m0 hA) rfl ?_
      refine zz_eq (show _ = (1 : Int) from rfl) ?_
      refine zz_if_le rfl ⟨by decide, by decide⟩ (fun hb43 => absurd hb43 (by decide)) (fun hb43 => ?_)
      refine zz_iconst rfl ?_
      refine zz_iret rfl rfl ⟨0, rfl, z00, _, rfl, Or.inl ⟨(fun g => hb14 g.2), rfl, hM.S0 _⟩⟩
end MQ9
