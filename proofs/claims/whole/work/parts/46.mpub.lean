section MP
variable {Z : ZC} {h : ZH}
theorem md_fill {A : Nat → Nat} {X : MX} (hA : mOk A) {S : SS} (hM : mrel X S) (hk : okS S) {l d : Int} (hl : zrg l) : Ct Z m_M_fill 4 0 0 [.ref (A 0), zI l, zI d] (mH h A X) (mdV h A S (sLy S l) (True) (sAdd S (sPut (sCur S) l (fun _ _ => d)))) := by
  refine zct rfl (by decide) ok_M_fill rfl rfl ?_
  refine zz_aload_n rfl rfl ?_
  refine zz_aload_n rfl rfl ?_
  refine zz_iload_n rfl rfl ?_
  refine zz_Vp rfl lk_M_89 cw_M_isLayer rfl (m0 hA) (ct_MisLayer hA hM hk hl) rfl rfl rfl rfl ?_
  refine zz_ifB_ne rfl (fun hb6 => ?_) (fun hb6 => ?_)
  · skip
    refine zz_iconst rfl ?_
    refine zz_V rfl lk_M_75 cw_M_refuse rfl (m0 hA) (ct_Mrefuse0 hA) rfl rfl rfl rfl ?_
    rintro _ _ ⟨rfl, rfl⟩
    refine zaft_v ?_
    refine zz_if_eq rfl ⟨by decide, by decide⟩ (fun hb17 => ?_) (fun hb17 => absurd hb17 (by decide))
    refine zz_aload_n rfl rfl ?_
    refine zz_iload_n rfl rfl ?_
    refine zz_V rfl lk_M_135 cw_M_beginTool rfl (m0 hA) (ct_Mbeg hA (hM.S0 _) hk hb6) rfl rfl rfl rfl ?_
    rintro _ _ ⟨rfl, X1, rfl, h0, hM1, hwas⟩
    refine zaft_u ?_
    have hly := hb6
    have hP : okP (sCur S) := (hk.1 hly.1).2.2 _ (hk.1 hly.1).1
    obtain ⟨hc1, hs1⟩ := mradd hM1 hk hly.1 hP
    have hn3 := hP.2.2.1.2
    obtain ⟨hl0, hl1⟩ := id hly.2
    have hDr : ∀ x y, x < (sw (sCur S)) → y < (sh (sCur S)) → zrg ((sD (sl (sCur S) l.toNat)) x y) := (hP.2.2.2.1 l.toNat (by omega)).2.2.2
    refine zz_iconst rfl ?_
    refine zz_istore_n rfl rfl rfl ?_
    refine Ev.heap (show mH h A X1 = mH h A (mF X1 1 (mq (X1.2.1 1) (1728 * sN1 S + 576 * l.toNat) (mpR (sw (sCur S)) (sr (sCur S))) (fun _ _ => d) 0 0)) from by rw [mq_0, mF_id]) ?_
    refine tm_fill_o hA hc1 ⟨by omega, by omega⟩  ?_ (sh (sCur S)) 0 (by omega)
    refine zz_vret rfl rfl ⟨rfl, _, rfl, Or.inr (Or.inr ⟨hly, trivial, h0, hM1.put hk hly.1 hP ⟨hl0, hl1⟩ (fun i j hi hj hb => rfl)⟩)⟩
  · skip
    refine zz_iconst rfl ?_
    refine zz_goto rfl ?_
    refine zz_V rfl lk_M_75 cw_M_refuse rfl (m0 hA) (ct_Mrefuse1 hA) rfl rfl rfl rfl ?_
    rintro _ _ ⟨rfl, rfl⟩
    refine zaft_v ?_
    refine zz_if_eq rfl ⟨by decide, by decide⟩ (fun hb17 => absurd hb17 (by decide)) (fun hb17 => ?_)
    refine zz_vret rfl rfl ⟨rfl, _, rfl, Or.inl ⟨hb6, rfl, hM.S0 _⟩⟩
theorem md_grad {A : Nat → Nat} {X : MX} (hA : mOk A) {S : SS} (hM : mrel X S) (hk : okS S) {l fi la1 ax : Int} (hl : zrg l) (hfi : zrg fi) (hla : zrg la1) (hax0 : zrg ax) : Ct Z m_M_gradient 4 0 0 [.ref (A 0), zI l, zI fi, zI la1, zI ax] (mH h A X) (mdV h A S (sLy S l ∧ 0 ≤ ax ∧ ax ≤ 1) (True) (sAdd S (sPut (sCur S) l (fun x y => zbt fi la1 (if ax = 0 then (x : Int) else (y : Int)) (if ax = 0 then ((sw (sCur S)) : Int) - 1 else ((sh (sCur S)) : Int) - 1))))) := by
  refine zct rfl (by decide) ok_M_gradient rfl rfl ?_
  refine zz_aload_n rfl rfl ?_
  refine zz_aload_n rfl rfl ?_
  refine zz_iload_n rfl rfl ?_
  refine zz_Vp rfl lk_M_89 cw_M_isLayer rfl (m0 hA) (ct_MisLayer hA hM hk hl) rfl rfl rfl rfl ?_
  refine zz_ifB_eq rfl (fun hb6 => ?_) (fun hb6 => ?_)
  · skip
    refine zz_iconst rfl ?_
    refine zz_goto rfl ?_
    refine zz_V rfl lk_M_75 cw_M_refuse rfl (m0 hA) (ct_Mrefuse1 hA) rfl rfl rfl rfl ?_
    rintro _ _ ⟨rfl, rfl⟩
    refine zaft_v ?_
    refine zz_if_eq rfl ⟨by decide, by decide⟩ (fun hb27 => absurd hb27 (by decide)) (fun hb27 => ?_)
    refine zz_vret rfl rfl ⟨rfl, _, rfl, Or.inl ⟨(fun g => hb6 g.1), rfl, hM.S0 _⟩⟩
  · skip
    refine zz_iload rfl rfl ?_
    refine zz_iconst rfl ?_
    refine zz_iconst rfl ?_
    refine zz_Sp rfl lk_M_71 cw_M_in (ct_Min hax0 ⟨by decide, by decide⟩ ⟨by decide, by decide⟩) rfl rfl rfl rfl ?_
    refine zz_ifB_ne rfl (fun hb16 => ?_) (fun hb16 => ?_)
    · skip
      refine zz_iconst rfl ?_
      refine zz_V rfl lk_M_75 cw_M_refuse rfl (m0 hA) (ct_Mrefuse0 hA) rfl rfl rfl rfl ?_
      rintro _ _ ⟨rfl, rfl⟩
      refine zaft_v ?_
      refine zz_if_eq rfl ⟨by decide, by decide⟩ (fun hb27 => ?_) (fun hb27 => absurd hb27 (by decide))
      refine zz_aload_n rfl rfl ?_
      refine zz_iload_n rfl rfl ?_
      refine zz_V rfl lk_M_135 cw_M_beginTool rfl (m0 hA) (ct_Mbeg hA (hM.S0 _) hk hb6) rfl rfl rfl rfl ?_
      rintro _ _ ⟨rfl, X1, rfl, h0, hM1, hwas⟩
      refine zaft_u ?_
      have hly := hb6
      have hP : okP (sCur S) := (hk.1 hly.1).2.2 _ (hk.1 hly.1).1
      obtain ⟨hc1, hs1⟩ := mradd hM1 hk hly.1 hP
      have hn3 := hP.2.2.1.2
      obtain ⟨hl0, hl1⟩ := id hly.2
      have hDr : ∀ x y, x < (sw (sCur S)) → y < (sh (sCur S)) → zrg ((sD (sl (sCur S) l.toNat)) x y) := (hP.2.2.2.1 l.toNat (by omega)).2.2.2
      refine zz_iload rfl rfl ?_
      refine zz_if_ne rfl (by omega) (fun hb38 => ?_) (fun hb38 => ?_)
      · skip
        refine zz_aload_n rfl rfl ?_
        refine zz_Vp rfl lk_M_96 cw_M_h rfl (m0 hA) (ct_Mh hA hc1) rfl rfl rfl rfl ?_
        refine zz_iconst rfl ?_
        refine zz_isub rfl ?_
        refine zz_istore rfl rfl rfl ?_
        refine zz_iconst rfl ?_
        refine zz_istore rfl rfl rfl ?_
        refine Ev.heap (show mH h A X1 = mH h A (mF X1 1 (mq (X1.2.1 1) (1728 * sN1 S + 576 * l.toNat) (mpR (sw (sCur S)) (sr (sCur S))) (fun x y => zbt fi la1 (if ax = 0 then (x : Int) else (y : Int)) (((sh (sCur S)) : Int) - 1)) 0 0)) from by rw [mq_0, mF_id]) ?_
        refine tm_grad_o hA hc1 ⟨by omega, by omega⟩ hfi hla hb16 (fun h9 => absurd h9 hb38) (fun h9 => rfl) ?_ (sh (sCur S)) 0 (by omega)
        refine zz_vret rfl rfl ⟨rfl, _, rfl, Or.inr (Or.inr ⟨⟨hly, hb16⟩, trivial, h0, hM1.put hk hly.1 hP ⟨hl0, hl1⟩ (fun i j hi hj hb => by simp only [if_neg hb38])⟩)⟩
      · skip
        refine zz_aload_n rfl rfl ?_
        refine zz_Vp rfl lk_M_100 cw_M_w rfl (m0 hA) (ct_Mw hA hc1) rfl rfl rfl rfl ?_
        refine zz_goto rfl ?_
        refine zz_iconst rfl ?_
        refine zz_isub rfl ?_
        refine zz_istore rfl rfl rfl ?_
        refine zz_iconst rfl ?_
        refine zz_istore rfl rfl rfl ?_
        refine Ev.heap (show mH h A X1 = mH h A (mF X1 1 (mq (X1.2.1 1) (1728 * sN1 S + 576 * l.toNat) (mpR (sw (sCur S)) (sr (sCur S))) (fun x y => zbt fi la1 (if ax = 0 then (x : Int) else (y : Int)) (((sw (sCur S)) : Int) - 1)) 0 0)) from by rw [mq_0, mF_id]) ?_
        refine tm_grad_o hA hc1 ⟨by omega, by omega⟩ hfi hla hb16 (fun h9 => rfl) (fun h9 => absurd hb38 h9) ?_ (sh (sCur S)) 0 (by omega)
        refine zz_vret rfl rfl ⟨rfl, _, rfl, Or.inr (Or.inr ⟨⟨hly, hb16⟩, trivial, h0, hM1.put hk hly.1 hP ⟨hl0, hl1⟩ (fun i j hi hj hb => by simp only [if_pos hb38])⟩)⟩
    · skip
      refine zz_iconst rfl ?_
      refine zz_goto rfl ?_
      refine zz_V rfl lk_M_75 cw_M_refuse rfl (m0 hA) (ct_Mrefuse1 hA) rfl rfl rfl rfl ?_
      rintro _ _ ⟨rfl, rfl⟩
      refine zaft_v ?_
      refine zz_if_eq rfl ⟨by decide, by decide⟩ (fun hb27 => absurd hb27 (by decide)) (fun hb27 => ?_)
      refine zz_vret rfl rfl ⟨rfl, _, rfl, Or.inl ⟨(fun g => hb16 g.2), rfl, hM.S0 _⟩⟩
theorem md_mirr {A : Nat → Nat} {X : MX} (hA : mOk A) {S : SS} (hM : mrel X S) (hk : okS S) {l ax : Int} (hl : zrg l) (hax0 : zrg ax) : Ct Z m_M_mirror 4 0 0 [.ref (A 0), zI l, zI ax] (mH h A X) (mdV h A S (sLy S l ∧ 0 ≤ ax ∧ ax ≤ 1) (True) (sAdd S (sPut (sCur S) l (fun x y => (zldt (sFl (sD (sl (sCur S) l.toNat)) (sw (sCur S))) (sw (sCur S)) (sh (sCur S))) (if ax = 0 then ((sw (sCur S)) : Int) - 1 - (x : Int) else (x : Int)) (if ax = 1 then ((sh (sCur S)) : Int) - 1 - (y : Int) else (y : Int)))))) := by
  refine zct rfl (by decide) ok_M_mirror rfl rfl ?_
  refine zz_aload_n rfl rfl ?_
  refine zz_aload_n rfl rfl ?_
  refine zz_iload_n rfl rfl ?_
  refine zz_Vp rfl lk_M_89 cw_M_isLayer rfl (m0 hA) (ct_MisLayer hA hM hk hl) rfl rfl rfl rfl ?_
  refine zz_ifB_eq rfl (fun hb6 => ?_) (fun hb6 => ?_)
  · skip
    refine zz_iconst rfl ?_
    refine zz_goto rfl ?_
    refine zz_V rfl lk_M_75 cw_M_refuse rfl (m0 hA) (ct_Mrefuse1 hA) rfl rfl rfl rfl ?_
    rintro _ _ ⟨rfl, rfl⟩
    refine zaft_v ?_
    refine zz_if_eq rfl ⟨by decide, by decide⟩ (fun hb26 => absurd hb26 (by decide)) (fun hb26 => ?_)
    refine zz_vret rfl rfl ⟨rfl, _, rfl, Or.inl ⟨(fun g => hb6 g.1), rfl, hM.S0 _⟩⟩
  · skip
    refine zz_iload_n rfl rfl ?_
    refine zz_iconst rfl ?_
    refine zz_iconst rfl ?_
    refine zz_Sp rfl lk_M_71 cw_M_in (ct_Min hax0 ⟨by decide, by decide⟩ ⟨by decide, by decide⟩) rfl rfl rfl rfl ?_
    refine zz_ifB_ne rfl (fun hb15 => ?_) (fun hb15 => ?_)
    · skip
      refine zz_iconst rfl ?_
      refine zz_V rfl lk_M_75 cw_M_refuse rfl (m0 hA) (ct_Mrefuse0 hA) rfl rfl rfl rfl ?_
      rintro _ _ ⟨rfl, rfl⟩
      refine zaft_v ?_
      refine zz_if_eq rfl ⟨by decide, by decide⟩ (fun hb26 => ?_) (fun hb26 => absurd hb26 (by decide))
      refine zz_aload_n rfl rfl ?_
      refine zz_iload_n rfl rfl ?_
      refine zz_V rfl lk_M_135 cw_M_beginTool rfl (m0 hA) (ct_Mbeg hA (hM.S0 _) hk hb6) rfl rfl rfl rfl ?_
      rintro _ _ ⟨rfl, X1, rfl, h0, hM1, hwas⟩
      refine zaft_u ?_
      have hly := hb6
      have hP : okP (sCur S) := (hk.1 hly.1).2.2 _ (hk.1 hly.1).1
      obtain ⟨hc1, hs1⟩ := mradd hM1 hk hly.1 hP
      have hn3 := hP.2.2.1.2
      obtain ⟨hl0, hl1⟩ := id hly.2
      have hDr : ∀ x y, x < (sw (sCur S)) → y < (sh (sCur S)) → zrg ((sD (sl (sCur S) l.toNat)) x y) := (hP.2.2.2.1 l.toNat (by omega)).2.2.2
      refine zz_iconst rfl ?_
      refine zz_istore_n rfl rfl rfl ?_
      refine Ev.heap (show mH h A X1 = mH h A (mF X1 1 (mq (X1.2.1 1) (1728 * sN1 S + 576 * l.toNat) (mpR (sw (sCur S)) (sr (sCur S))) (fun x y => zldt (sFl (sD (sl (sCur S) l.toNat)) (sw (sCur S))) (sw (sCur S)) (sh (sCur S)) (if ax = 0 then ((sw (sCur S)) : Int) - 1 - (x : Int) else (x : Int)) (if ax = 1 then ((sh (sCur S)) : Int) - 1 - (y : Int) else (y : Int))) 0 0)) from by rw [mq_0, mF_id]) ?_
      refine tm_mirr_o hA hc1 ⟨by omega, by omega⟩ hb15 hwas ?_ (sh (sCur S)) 0 (by omega)
      refine zz_vret rfl rfl ⟨rfl, _, rfl, Or.inr (Or.inr ⟨⟨hly, hb15⟩, trivial, h0, hM1.put hk hly.1 hP ⟨hl0, hl1⟩ (fun i j hi hj hb => rfl)⟩)⟩
    · skip
      refine zz_iconst rfl ?_
      refine zz_goto rfl ?_
      refine zz_V rfl lk_M_75 cw_M_refuse rfl (m0 hA) (ct_Mrefuse1 hA) rfl rfl rfl rfl ?_
      rintro _ _ ⟨rfl, rfl⟩
      refine zaft_v ?_
      refine zz_if_eq rfl ⟨by decide, by decide⟩ (fun hb26 => absurd hb26 (by decide)) (fun hb26 => ?_)
      refine zz_vret rfl rfl ⟨rfl, _, rfl, Or.inl ⟨(fun g => hb15 g.2), rfl, hM.S0 _⟩⟩
theorem md_shift {A : Nat → Nat} {X : MX} (hA : mOk A) {S : SS} (hM : mrel X S) (hk : okS S) {l dx dy : Int} (hl : zrg l) (hdx0 : zrg dx) (hdy0 : zrg dy) : Ct Z m_M_shift 4 0 0 [.ref (A 0), zI l, zI dx, zI dy] (mH h A X) (mdV h A S (sLy S l ∧ (-100 ≤ dx ∧ dx ≤ 100) ∧ -100 ≤ dy ∧ dy ≤ 100) (True) (sAdd S (sPut (sCur S) l (fun x y => (zldt (sFl (sD (sl (sCur S) l.toNat)) (sw (sCur S))) (sw (sCur S)) (sh (sCur S))) ((x : Int) - dx) ((y : Int) - dy))))) := by
  refine zct rfl (by decide) ok_M_shift rfl rfl ?_
  refine zz_aload_n rfl rfl ?_
  refine zz_aload_n rfl rfl ?_
  refine zz_iload_n rfl rfl ?_
  refine zz_Vp rfl lk_M_89 cw_M_isLayer rfl (m0 hA) (ct_MisLayer hA hM hk hl) rfl rfl rfl rfl ?_
  refine zz_ifB_eq rfl (fun hb6 => ?_) (fun hb6 => ?_)
  · skip
    refine zz_iconst rfl ?_
    refine zz_goto rfl ?_
    refine zz_V rfl lk_M_75 cw_M_refuse rfl (m0 hA) (ct_Mrefuse1 hA) rfl rfl rfl rfl ?_
    rintro _ _ ⟨rfl, rfl⟩
    refine zaft_v ?_
    refine zz_if_eq rfl ⟨by decide, by decide⟩ (fun hb39 => absurd hb39 (by decide)) (fun hb39 => ?_)
    refine zz_vret rfl rfl ⟨rfl, _, rfl, Or.inl ⟨(fun g => hb6 g.1), rfl, hM.S0 _⟩⟩
  · skip
    refine zz_iload_n rfl rfl ?_
    refine zz_bipush rfl (by decide) ?_
    refine zz_bipush rfl (by decide) ?_
    refine zz_Sp rfl lk_M_71 cw_M_in (ct_Min hdx0 ⟨by decide, by decide⟩ ⟨by decide, by decide⟩) rfl rfl rfl rfl ?_
    refine zz_ifB_eq rfl (fun hb17 => ?_) (fun hb17 => ?_)
    · skip
      refine zz_iconst rfl ?_
      refine zz_goto rfl ?_
      refine zz_V rfl lk_M_75 cw_M_refuse rfl (m0 hA) (ct_Mrefuse1 hA) rfl rfl rfl rfl ?_
      rintro _ _ ⟨rfl, rfl⟩
      refine zaft_v ?_
      refine zz_if_eq rfl ⟨by decide, by decide⟩ (fun hb39 => absurd hb39 (by decide)) (fun hb39 => ?_)
      refine zz_vret rfl rfl ⟨rfl, _, rfl, Or.inl ⟨(fun g => hb17 g.2.1), rfl, hM.S0 _⟩⟩
    · skip
      refine zz_iload_n rfl rfl ?_
      refine zz_bipush rfl (by decide) ?_
      refine zz_bipush rfl (by decide) ?_
      refine zz_Sp rfl lk_M_71 cw_M_in (ct_Min hdy0 ⟨by decide, by decide⟩ ⟨by decide, by decide⟩) rfl rfl rfl rfl ?_
      refine zz_ifB_ne rfl (fun hb28 => ?_) (fun hb28 => ?_)
      · skip
        refine zz_iconst rfl ?_
        refine zz_V rfl lk_M_75 cw_M_refuse rfl (m0 hA) (ct_Mrefuse0 hA) rfl rfl rfl rfl ?_
        rintro _ _ ⟨rfl, rfl⟩
        refine zaft_v ?_
        refine zz_if_eq rfl ⟨by decide, by decide⟩ (fun hb39 => ?_) (fun hb39 => absurd hb39 (by decide))
        refine zz_aload_n rfl rfl ?_
        refine zz_iload_n rfl rfl ?_
        refine zz_V rfl lk_M_135 cw_M_beginTool rfl (m0 hA) (ct_Mbeg hA (hM.S0 _) hk hb6) rfl rfl rfl rfl ?_
        rintro _ _ ⟨rfl, X1, rfl, h0, hM1, hwas⟩
        refine zaft_u ?_
        have hly := hb6
        have hP : okP (sCur S) := (hk.1 hly.1).2.2 _ (hk.1 hly.1).1
        obtain ⟨hc1, hs1⟩ := mradd hM1 hk hly.1 hP
        have hn3 := hP.2.2.1.2
        obtain ⟨hl0, hl1⟩ := id hly.2
        have hDr : ∀ x y, x < (sw (sCur S)) → y < (sh (sCur S)) → zrg ((sD (sl (sCur S) l.toNat)) x y) := (hP.2.2.2.1 l.toNat (by omega)).2.2.2
        refine zz_iconst rfl ?_
        refine zz_istore rfl rfl rfl ?_
        refine Ev.heap (show mH h A X1 = mH h A (mF X1 1 (mq (X1.2.1 1) (1728 * sN1 S + 576 * l.toNat) (mpR (sw (sCur S)) (sr (sCur S))) (fun x y => (zldt (sFl (sD (sl (sCur S) l.toNat)) (sw (sCur S))) (sw (sCur S)) (sh (sCur S))) ((x : Int) - dx) ((y : Int) - dy)) 0 0)) from by rw [mq_0, mF_id]) ?_
        refine tm_shift_o hA hc1 ⟨by omega, by omega⟩ hb17 hb28 hwas ?_ (sh (sCur S)) 0 (by omega)
        refine zz_vret rfl rfl ⟨rfl, _, rfl, Or.inr (Or.inr ⟨⟨hly, hb17, hb28⟩, trivial, h0, hM1.put hk hly.1 hP ⟨hl0, hl1⟩ (fun i j hi hj hb => rfl)⟩)⟩
      · skip
        refine zz_iconst rfl ?_
        refine zz_goto rfl ?_
        refine zz_V rfl lk_M_75 cw_M_refuse rfl (m0 hA) (ct_Mrefuse1 hA) rfl rfl rfl rfl ?_
        rintro _ _ ⟨rfl, rfl⟩
        refine zaft_v ?_
        refine zz_if_eq rfl ⟨by decide, by decide⟩ (fun hb39 => absurd hb39 (by decide)) (fun hb39 => ?_)
        refine zz_vret rfl rfl ⟨rfl, _, rfl, Or.inl ⟨(fun g => hb28 g.2.2), rfl, hM.S0 _⟩⟩
theorem md_blur {A : Nat → Nat} {X : MX} (hA : mOk A) {S : SS} (hM : mrel X S) (hk : okS S) {l r : Int} (hl : zrg l) (hr0 : zrg r) : Ct Z m_M_blur 4 0 0 [.ref (A 0), zI l, zI r] (mH h A X) (mdV h A S (sLy S l ∧ 1 ≤ r ∧ r ≤ 4) (True) (sAdd S (sPut (sCur S) l (fun x y => zbd (sFl (sD (sl (sCur S) l.toNat)) (sw (sCur S))) (sw (sCur S)) (sh (sCur S)) r (x : Int) (y : Int))))) := by
  refine zct rfl (by decide) ok_M_blur rfl rfl ?_
  refine zz_aload_n rfl rfl ?_
  refine zz_aload_n rfl rfl ?_
  refine zz_iload_n rfl rfl ?_
  refine zz_Vp rfl lk_M_89 cw_M_isLayer rfl (m0 hA) (ct_MisLayer hA hM hk hl) rfl rfl rfl rfl ?_
  refine zz_ifB_eq rfl (fun hb6 => ?_) (fun hb6 => ?_)
  · skip
    refine zz_iconst rfl ?_
    refine zz_goto rfl ?_
    refine zz_V rfl lk_M_75 cw_M_refuse rfl (m0 hA) (ct_Mrefuse1 hA) rfl rfl rfl rfl ?_
    rintro _ _ ⟨rfl, rfl⟩
    refine zaft_v ?_
    refine zz_if_eq rfl ⟨by decide, by decide⟩ (fun hb26 => absurd hb26 (by decide)) (fun hb26 => ?_)
    refine zz_vret rfl rfl ⟨rfl, _, rfl, Or.inl ⟨(fun g => hb6 g.1), rfl, hM.S0 _⟩⟩
  · skip
    refine zz_iload_n rfl rfl ?_
    refine zz_iconst rfl ?_
    refine zz_iconst rfl ?_
    refine zz_Sp rfl lk_M_71 cw_M_in (ct_Min hr0 ⟨by decide, by decide⟩ ⟨by decide, by decide⟩) rfl rfl rfl rfl ?_
    refine zz_ifB_ne rfl (fun hb15 => ?_) (fun hb15 => ?_)
    · skip
      refine zz_iconst rfl ?_
      refine zz_V rfl lk_M_75 cw_M_refuse rfl (m0 hA) (ct_Mrefuse0 hA) rfl rfl rfl rfl ?_
      rintro _ _ ⟨rfl, rfl⟩
      refine zaft_v ?_
      refine zz_if_eq rfl ⟨by decide, by decide⟩ (fun hb26 => ?_) (fun hb26 => absurd hb26 (by decide))
      refine zz_aload_n rfl rfl ?_
      refine zz_iload_n rfl rfl ?_
      refine zz_V rfl lk_M_135 cw_M_beginTool rfl (m0 hA) (ct_Mbeg hA (hM.S0 _) hk hb6) rfl rfl rfl rfl ?_
      rintro _ _ ⟨rfl, X1, rfl, h0, hM1, hwas⟩
      refine zaft_u ?_
      have hly := hb6
      have hP : okP (sCur S) := (hk.1 hly.1).2.2 _ (hk.1 hly.1).1
      obtain ⟨hc1, hs1⟩ := mradd hM1 hk hly.1 hP
      have hn3 := hP.2.2.1.2
      obtain ⟨hl0, hl1⟩ := id hly.2
      have hDr : ∀ x y, x < (sw (sCur S)) → y < (sh (sCur S)) → zrg ((sD (sl (sCur S) l.toNat)) x y) := (hP.2.2.2.1 l.toNat (by omega)).2.2.2
      refine zz_iconst rfl ?_
      refine zz_iload_n rfl rfl ?_
      refine zz_imul rfl ?_
      refine zz_iconst rfl ?_
      refine zz_iadd rfl ?_
      refine zz_iconst rfl ?_
      refine zz_iload_n rfl rfl ?_
      refine zz_imul rfl ?_
      refine zz_iconst rfl ?_
      refine zz_iadd rfl ?_
      refine zz_imul rfl ?_
      refine zz_istore_n rfl rfl rfl ?_
      refine zz_iconst rfl ?_
      refine zz_istore rfl rfl rfl ?_
      refine Ev.heap (show mH h A X1 = mH h A (mF X1 1 (mq (X1.2.1 1) (1728 * sN1 S + 576 * l.toNat) (mpR (sw (sCur S)) (sr (sCur S))) (fun x y => zbd (sFl (sD (sl (sCur S) l.toNat)) (sw (sCur S))) (sw (sCur S)) (sh (sCur S)) r (x : Int) (y : Int)) 0 0)) from by rw [mq_0, mF_id]) ?_
      refine tm_blur_o hA hc1 ⟨by omega, by omega⟩ hb15 hwas hDr ?_ (sh (sCur S)) 0 (by omega)
      refine zz_vret rfl rfl ⟨rfl, _, rfl, Or.inr (Or.inr ⟨⟨hly, hb15⟩, trivial, h0, hM1.put hk hly.1 hP ⟨hl0, hl1⟩ (fun i j hi hj hb => rfl)⟩)⟩
    · skip
      refine zz_iconst rfl ?_
      refine zz_goto rfl ?_
      refine zz_V rfl lk_M_75 cw_M_refuse rfl (m0 hA) (ct_Mrefuse1 hA) rfl rfl rfl rfl ?_
      rintro _ _ ⟨rfl, rfl⟩
      refine zaft_v ?_
      refine zz_if_eq rfl ⟨by decide, by decide⟩ (fun hb26 => absurd hb26 (by decide)) (fun hb26 => ?_)
      refine zz_vret rfl rfl ⟨rfl, _, rfl, Or.inl ⟨(fun g => hb15 g.2), rfl, hM.S0 _⟩⟩
theorem zab_sw (a b : Int) : zab (b - a) = zab (a - b) := by
  unfold zab
  split <;> split <;> omega
theorem zab_b {a b : Int} (ha : -100 ≤ a ∧ a ≤ 100) (hb : -100 ≤ b ∧ b ≤ 100) : 0 ≤ zab (a - b) ∧ zab (a - b) ≤ 200 := by
  unfold zab
  split <;> omega
theorem md_stroke {A : Nat → Nat} {X : MX} (hA : mOk A) {S : SS} (hM : mrel X S) (hk : okS S) {l fr to : Int} (hl : zrg l) (hfr : zrg fr) (hto : zrg to) : Ct Z m_M_stroke 4 0 0 [.ref (A 0), zI l, zI fr, zI to] (mH h A X) (mdV h A S (sLy S l ∧ zl4 fr to) (True) (sAdd S (sPut (sCur S) l (fun (x y : Nat) => if zlb (zlx fr to) (zly fr to) (sBr S) (x : Int) (y : Int) (zln fr to + 1).toNat = true then zbl (sBd S) ((sD (sl (sCur S) l.toNat)) x y) 0 255 else (sD (sl (sCur S) l.toNat)) x y)))) := by
  refine zct rfl (by decide) ok_M_stroke rfl rfl ?_
  refine zz_iload_n rfl rfl ?_
  refine zz_Sp rfl lk_M_142 cw_M_low ct_Mlow rfl rfl rfl rfl ?_
  refine zz_istore rfl rfl rfl ?_
  refine zz_iload_n rfl rfl ?_
  refine zz_bipush rfl (by decide) ?_
  refine zz_ishr rfl (by omega) (by omega) ?_
  refine zz_eq (show fr / 2 ^ Int.toNat 16 = zhi fr from rfl) ?_
  refine zz_istore rfl rfl rfl ?_
  refine zz_iload_n rfl rfl ?_
  refine zz_Sp rfl lk_M_142 cw_M_low ct_Mlow rfl rfl rfl rfl ?_
  refine zz_istore rfl rfl rfl ?_
  refine zz_iload_n rfl rfl ?_
  refine zz_bipush rfl (by decide) ?_
  refine zz_ishr rfl (by omega) (by omega) ?_
  refine zz_eq (show to / 2 ^ Int.toNat 16 = zhi to from rfl) ?_
  refine zz_istore rfl rfl rfl ?_
  refine zz_aload_n rfl rfl ?_
  refine zz_aload_n rfl rfl ?_
  refine zz_iload_n rfl rfl ?_
  refine zz_Vp rfl lk_M_89 cw_M_isLayer rfl (m0 hA) (ct_MisLayer hA hM hk hl) rfl rfl rfl rfl ?_
  refine zz_ifB_eq rfl (fun hb30 => ?_) (fun hb30 => ?_)
  · skip
    refine zz_iconst rfl ?_
    refine zz_goto rfl ?_
    refine zz_V rfl lk_M_75 cw_M_refuse rfl (m0 hA) (ct_Mrefuse1 hA) rfl rfl rfl rfl ?_
    rintro _ _ ⟨rfl, rfl⟩
    refine zaft_v ?_
    refine zz_if_eq rfl ⟨by decide, by decide⟩ (fun hb89 => absurd hb89 (by decide)) (fun hb89 => ?_)
    refine zz_vret rfl rfl ⟨rfl, _, rfl, Or.inl ⟨(fun g => hb30 g.1), rfl, hM.S0 _⟩⟩
  · skip
    refine zz_iload rfl rfl ?_
    refine zz_bipush rfl (by decide) ?_
    refine zz_bipush rfl (by decide) ?_
    refine zz_Sp rfl lk_M_71 cw_M_in (ct_Min (zlo_rg fr) ⟨by decide, by decide⟩ ⟨by decide, by decide⟩) rfl rfl rfl rfl ?_
    refine zz_ifB_eq rfl (fun hb42 => ?_) (fun hb42 => ?_)
    · skip
      refine zz_iconst rfl ?_
      refine zz_goto rfl ?_
      refine zz_V rfl lk_M_75 cw_M_refuse rfl (m0 hA) (ct_Mrefuse1 hA) rfl rfl rfl rfl ?_
      rintro _ _ ⟨rfl, rfl⟩
      refine zaft_v ?_
      refine zz_if_eq rfl ⟨by decide, by decide⟩ (fun hb89 => absurd hb89 (by decide)) (fun hb89 => ?_)
      refine zz_vret rfl rfl ⟨rfl, _, rfl, Or.inl ⟨(fun g => hb42 g.2.1.1), rfl, hM.S0 _⟩⟩
    · skip
      refine zz_iload rfl rfl ?_
      refine zz_bipush rfl (by decide) ?_
      refine zz_bipush rfl (by decide) ?_
      refine zz_Sp rfl lk_M_71 cw_M_in (ct_Min (zhi_rg hfr) ⟨by decide, by decide⟩ ⟨by decide, by decide⟩) rfl rfl rfl rfl ?_
      refine zz_ifB_eq rfl (fun hb54 => ?_) (fun hb54 => ?_)
      · skip
        refine zz_iconst rfl ?_
        refine zz_goto rfl ?_
        refine zz_V rfl lk_M_75 cw_M_refuse rfl (m0 hA) (ct_Mrefuse1 hA) rfl rfl rfl rfl ?_
        rintro _ _ ⟨rfl, rfl⟩
        refine zaft_v ?_
        refine zz_if_eq rfl ⟨by decide, by decide⟩ (fun hb89 => absurd hb89 (by decide)) (fun hb89 => ?_)
        refine zz_vret rfl rfl ⟨rfl, _, rfl, Or.inl ⟨(fun g => hb54 g.2.1.2), rfl, hM.S0 _⟩⟩
      · skip
        refine zz_iload rfl rfl ?_
        refine zz_bipush rfl (by decide) ?_
        refine zz_bipush rfl (by decide) ?_
        refine zz_Sp rfl lk_M_71 cw_M_in (ct_Min (zlo_rg to) ⟨by decide, by decide⟩ ⟨by decide, by decide⟩) rfl rfl rfl rfl ?_
        refine zz_ifB_eq rfl (fun hb66 => ?_) (fun hb66 => ?_)
        · skip
          refine zz_iconst rfl ?_
          refine zz_goto rfl ?_
          refine zz_V rfl lk_M_75 cw_M_refuse rfl (m0 hA) (ct_Mrefuse1 hA) rfl rfl rfl rfl ?_
          rintro _ _ ⟨rfl, rfl⟩
          refine zaft_v ?_
          refine zz_if_eq rfl ⟨by decide, by decide⟩ (fun hb89 => absurd hb89 (by decide)) (fun hb89 => ?_)
          refine zz_vret rfl rfl ⟨rfl, _, rfl, Or.inl ⟨(fun g => hb66 g.2.2.1), rfl, hM.S0 _⟩⟩
        · skip
          refine zz_iload rfl rfl ?_
          refine zz_bipush rfl (by decide) ?_
          refine zz_bipush rfl (by decide) ?_
          refine zz_Sp rfl lk_M_71 cw_M_in (ct_Min (zhi_rg hto) ⟨by decide, by decide⟩ ⟨by decide, by decide⟩) rfl rfl rfl rfl ?_
          refine zz_ifB_ne rfl (fun hb78 => ?_) (fun hb78 => ?_)
          · skip
            refine zz_iconst rfl ?_
            refine zz_V rfl lk_M_75 cw_M_refuse rfl (m0 hA) (ct_Mrefuse0 hA) rfl rfl rfl rfl ?_
            rintro _ _ ⟨rfl, rfl⟩
            refine zaft_v ?_
            refine zz_if_eq rfl ⟨by decide, by decide⟩ (fun hb89 => ?_) (fun hb89 => absurd hb89 (by decide))
            refine zz_aload_n rfl rfl ?_
            refine zz_iload_n rfl rfl ?_
            refine zz_V rfl lk_M_135 cw_M_beginTool rfl (m0 hA) (ct_Mbeg hA (hM.S0 _) hk hb30) rfl rfl rfl rfl ?_
            rintro _ _ ⟨rfl, X1, rfl, h0, hM1, hwas⟩
            refine zaft_u ?_
            have hly := hb30
            have hP : okP (sCur S) := (hk.1 hly.1).2.2 _ (hk.1 hly.1).1
            obtain ⟨hc1, hs1⟩ := mradd hM1 hk hly.1 hP
            have hn3 := hP.2.2.1.2
            obtain ⟨hl0, hl1⟩ := id hly.2
            have hDr : ∀ x y, x < (sw (sCur S)) → y < (sh (sCur S)) → zrg ((sD (sl (sCur S) l.toNat)) x y) := (hP.2.2.2.1 l.toNat (by omega)).2.2.2
            have hz1 := zab_b hb42 hb66
            have hz2 := zab_b hb54 hb78
            refine zz_iload rfl rfl ?_
            refine zz_iload rfl rfl ?_
            refine zz_Sp rfl lk_M_145 cw_M_distance (ct_Mdist ⟨by omega, by omega⟩ ⟨by omega, by omega⟩) rfl rfl rfl rfl ?_
            refine zz_iload rfl rfl ?_
            refine zz_iload rfl rfl ?_
            refine zz_Sp rfl lk_M_145 cw_M_distance (ct_Mdist ⟨by omega, by omega⟩ ⟨by omega, by omega⟩) rfl rfl rfl rfl ?_
            refine zz_icmp_le rfl ⟨by omega, by omega⟩ ⟨by omega, by omega⟩ (fun hb112 => ?_) (fun hb112 => ?_)
            · skip
              refine zz_iload rfl rfl ?_
              refine zz_iload rfl rfl ?_
              refine zz_Sp rfl lk_M_145 cw_M_distance (ct_Mdist ⟨by omega, by omega⟩ ⟨by omega, by omega⟩) rfl rfl rfl rfl ?_
              refine zz_eq (show _ = zln fr to from by unfold zln zmx2; rw [zab_sw (zlo fr), zab_sw (zhi fr)]; split <;> omega) ?_
              refine zz_istore rfl rfl rfl ?_
              refine zz_iconst rfl ?_
              refine zz_istore rfl rfl rfl ?_
              have hbr6 : X1.1 7 = sBr S := by have h9 := hM1.2.2.2.2.2.2.1; rw [show sBr (sAdd S (sCur S)) = sBr S from congrArg (fun z : Option SP × Option SK × Int × Int => z.2.2.2) (sAdd_rest S (sCur S))] at h9; exact h9
              have hbd6 : X1.1 6 = sBd S := by have h9 := hM1.2.2.2.2.2.1; rw [show sBd (sAdd S (sCur S)) = sBd S from congrArg (fun z : Option SP × Option SK × Int × Int => z.2.2.1) (sAdd_rest S (sCur S))] at h9; exact h9
              refine Ev.heap (show mH h A X1 = mH h A (mF X1 1 (mq (X1.2.1 1) (1728 * sN1 S + 576 * l.toNat) (mpR (sw (sCur S)) (sr (sCur S))) (fun (x y : Nat) => if zlb (zlx fr to) (zly fr to) (sBr S) (x : Int) (y : Int) (zln fr to + 1).toNat = true then zbl (sBd S) ((sD (sl (sCur S) l.toNat)) x y) 0 255 else (sD (sl (sCur S) l.toNat)) x y) 0 0)) from by rw [mq_0, mF_id]) ?_
              refine tm_stroke_o hA hc1 ⟨by omega, by omega⟩ ⟨⟨hb42, hb54⟩, hb66, hb78⟩ hbr6 hk.2.2.2.2.2 hbd6 hk.2.2.2.2.1 hwas hDr (hs1.2.2.2.2 l.toNat (by omega)).2.2.2 ?_ (sh (sCur S)) 0 (by omega)
              refine zz_vret rfl rfl ⟨rfl, _, rfl, Or.inr (Or.inr ⟨⟨hly, ⟨hb42, hb54⟩, hb66, hb78⟩, trivial, h0, hM1.put hk hly.1 hP ⟨hl0, hl1⟩ (fun i j hi hj hb => rfl)⟩)⟩
            · skip
              refine zz_iload rfl rfl ?_
              refine zz_iload rfl rfl ?_
              refine zz_Sp rfl lk_M_145 cw_M_distance (ct_Mdist ⟨by omega, by omega⟩ ⟨by omega, by omega⟩) rfl rfl rfl rfl ?_
              refine zz_goto rfl ?_
              refine zz_eq (show _ = zln fr to from by unfold zln zmx2; rw [zab_sw (zlo fr), zab_sw (zhi fr)]; split <;> omega) ?_
              refine zz_istore rfl rfl rfl ?_
              refine zz_iconst rfl ?_
              refine zz_istore rfl rfl rfl ?_
              have hbr6 : X1.1 7 = sBr S := by have h9 := hM1.2.2.2.2.2.2.1; rw [show sBr (sAdd S (sCur S)) = sBr S from congrArg (fun z : Option SP × Option SK × Int × Int => z.2.2.2) (sAdd_rest S (sCur S))] at h9; exact h9
              have hbd6 : X1.1 6 = sBd S := by have h9 := hM1.2.2.2.2.2.1; rw [show sBd (sAdd S (sCur S)) = sBd S from congrArg (fun z : Option SP × Option SK × Int × Int => z.2.2.1) (sAdd_rest S (sCur S))] at h9; exact h9
              refine Ev.heap (show mH h A X1 = mH h A (mF X1 1 (mq (X1.2.1 1) (1728 * sN1 S + 576 * l.toNat) (mpR (sw (sCur S)) (sr (sCur S))) (fun (x y : Nat) => if zlb (zlx fr to) (zly fr to) (sBr S) (x : Int) (y : Int) (zln fr to + 1).toNat = true then zbl (sBd S) ((sD (sl (sCur S) l.toNat)) x y) 0 255 else (sD (sl (sCur S) l.toNat)) x y) 0 0)) from by rw [mq_0, mF_id]) ?_
              refine tm_stroke_o hA hc1 ⟨by omega, by omega⟩ ⟨⟨hb42, hb54⟩, hb66, hb78⟩ hbr6 hk.2.2.2.2.2 hbd6 hk.2.2.2.2.1 hwas hDr (hs1.2.2.2.2 l.toNat (by omega)).2.2.2 ?_ (sh (sCur S)) 0 (by omega)
              refine zz_vret rfl rfl ⟨rfl, _, rfl, Or.inr (Or.inr ⟨⟨hly, ⟨hb42, hb54⟩, hb66, hb78⟩, trivial, h0, hM1.put hk hly.1 hP ⟨hl0, hl1⟩ (fun i j hi hj hb => rfl)⟩)⟩
          · skip
            refine zz_iconst rfl ?_
            refine zz_goto rfl ?_
            refine zz_V rfl lk_M_75 cw_M_refuse rfl (m0 hA) (ct_Mrefuse1 hA) rfl rfl rfl rfl ?_
            rintro _ _ ⟨rfl, rfl⟩
            refine zaft_v ?_
            refine zz_if_eq rfl ⟨by decide, by decide⟩ (fun hb89 => absurd hb89 (by decide)) (fun hb89 => ?_)
            refine zz_vret rfl rfl ⟨rfl, _, rfl, Or.inl ⟨(fun g => hb78 g.2.2.2), rfl, hM.S0 _⟩⟩
theorem md_brush {A : Nat → Nat} {X : MX} (hA : mOk A) {S : SS} (hM : mrel X S) (hk : okS S) {d r : Int} (hr0 : zrg r) : Ct Z m_M_brush 1 0 0 [.ref (A 0), zI d, zI r] (mH h A X) (mdV h A S (0 ≤ r ∧ r ≤ 7) (True) ((sNow S, sLast S, sHas S, sHist S, sFile S, sCopy S, d, r))) := by
  refine zct rfl (by decide) ok_M_brush rfl rfl ?_
  refine zz_aload_n rfl rfl ?_
  refine zz_iload_n rfl rfl ?_
  refine zz_iconst rfl ?_
  refine zz_bipush rfl (by decide) ?_
  refine zz_Sp rfl lk_M_71 cw_M_in (ct_Min hr0 ⟨by decide, by decide⟩ ⟨by decide, by decide⟩) rfl rfl rfl rfl ?_
  refine zz_ifB_ne rfl (fun hb8 => ?_) (fun hb8 => ?_)
  · skip
    refine zz_iconst rfl ?_
    refine zz_V rfl lk_M_75 cw_M_refuse rfl (m0 hA) (ct_Mrefuse0 hA) rfl rfl rfl rfl ?_
    rintro _ _ ⟨rfl, rfl⟩
    refine zaft_v ?_
    refine zz_if_eq rfl ⟨by decide, by decide⟩ (fun hb19 => ?_) (fun hb19 => absurd hb19 (by decide))
    refine zz_aload_n rfl rfl ?_
    refine zz_iload_n rfl rfl ?_
    refine zz_putf rfl fl_M_126 (m0 hA) (pt_1_14 rfl rfl) (zblt rfl) ?_
    refine Ev.heap (ws6 hA) ?_
    refine zz_aload_n rfl rfl ?_
    refine zz_iload_n rfl rfl ?_
    refine zz_putf rfl fl_M_129 (m0 hA) (pt_1_15 rfl rfl) (zblt rfl) ?_
    refine Ev.heap (ws7 hA) ?_
    refine zz_vret rfl rfl ⟨rfl, _, rfl, Or.inr (Or.inr ⟨hb8, trivial, rfl, ?_⟩)⟩
    obtain ⟨a1, a2, a3, a4, a5, a6, a7, a8⟩ := id hM
    exact ⟨a1, a2, a3, a4, a5, rfl, rfl, a8⟩
  · skip
    refine zz_iconst rfl ?_
    refine zz_goto rfl ?_
    refine zz_V rfl lk_M_75 cw_M_refuse rfl (m0 hA) (ct_Mrefuse1 hA) rfl rfl rfl rfl ?_
    rintro _ _ ⟨rfl, rfl⟩
    refine zaft_v ?_
    refine zz_if_eq rfl ⟨by decide, by decide⟩ (fun hb19 => absurd hb19 (by decide)) (fun hb19 => ?_)
    refine zz_vret rfl rfl ⟨rfl, _, rfl, Or.inl ⟨hb8, rfl, hM.S0 _⟩⟩
end MP
