section MQ5
variable {Z : ZC} {h : ZH}
theorem lp_cpr {A : Nat → Nat} {X : MX} (hA : mOk A) {n w ht : Nat} {R : Nat → Nat} (hc : mc X n w ht R) {l : Int} {MC MS mc ms : Nat} {Q : ZR → ZH → Prop} (kx : Ev Z (fun _ => True, m_M_copy, 2, MC, MS) 73 [.ref (A 0), zI l, zI (24 : Nat)] [] (mH h A (mF X 9 (mfl (X.2.1 9) 0 (fun y => ((if y < ht then R y else 0 : Nat) : Int)) 24))) mc ms Q) : ∀ (m k : Nat), k + m = 24 → Ev Z (fun _ => True, m_M_copy, 2, MC, MS) 29 [.ref (A 0), zI l, zI (k : Nat)] [] (mH h A (mF X 9 (mfl (X.2.1 9) 0 (fun y => ((if y < ht then R y else 0 : Nat) : Int)) k))) mc ms Q := by
  have hw24 := hc.2.2.2.2.1
  have hn6 := hc.2.1
  intro m
  induction m with
  | zero =>
    intro k hk
    refine zz_iload_n rfl rfl ?_
    refine zz_bipush rfl (by decide) ?_
    refine zz_icmp_ge rfl (by omega) (by omega) (fun hb32 => ?_) (fun hb32 => absurd hb32 (by omega))
    obtain rfl : k = 24 := by omega
    exact kx
  | succ m ih =>
    intro k hk
    refine zz_iload_n rfl rfl ?_
    refine zz_bipush rfl (by decide) ?_
    refine zz_icmp_ge rfl (by omega) (by omega) (fun hb32 => absurd hb32 (by omega)) (fun hb32 => ?_)
    refine zz_aload_n rfl rfl ?_
    refine zz_getf rfl fl_M_38 (m0 hA) rfl ?_
    refine zz_iload_n rfl rfl ?_
    refine zz_iload_n rfl rfl ?_
    refine zz_aload_n rfl rfl ?_
    refine zz_Vp rfl lk_M_96 cw_M_h rfl (m0 hA) (ct_Mh hA (hc.F 9 _ rfl)) rfl rfl rfl rfl ?_
    refine zz_icmp_ge rfl (by omega) (by omega) (fun hb45 => ?_) (fun hb45 => ?_)
    · skip
      refine zz_iconst rfl ?_
      refine zz_iast rfl (m9 hA) (by decide) ⟨by omega, by omega⟩ ?_
      refine Ev.heap (w9 hA) ?_
      refine Ev.heap (show mH h A (mF (mF X 9 (mfl (X.2.1 9) 0 (fun y => ((if y < ht then R y else 0 : Nat) : Int)) k)) 9 (zup (mfl (X.2.1 9) 0 (fun y => ((if y < ht then R y else 0 : Nat) : Int)) k) k (0))) = mH h A (mF X 9 (mfl (X.2.1 9) 0 (fun y => ((if y < ht then R y else 0 : Nat) : Int)) (k + 1))) from by rw [mF_mF, mfl_up (T := (fun y => ((if y < ht then R y else 0 : Nat) : Int))) (by omega) (show _ = ((if k < ht then R k else 0 : Nat) : Int) from by rw [if_neg (by omega)]; rfl)]) ?_
      refine zz_iincK ((k + 1 : Nat) : Int) rfl rfl rfl rfl (by omega) ?_
      refine zz_goto rfl ?_
      exact ih (k + 1) (by omega)
    · skip
      refine zz_aload_n rfl rfl ?_
      refine zz_getf rfl fl_M_13 (m0 hA) rfl ?_
      refine zz_bipush rfl (by decide) ?_
      refine zz_aload_n rfl rfl ?_
      refine zz_getf rfl fl_M_58 (m0 hA) rfl ?_
      refine zz_eq (show _ = (n : Int) from hc.1) ?_
      refine zz_imul rfl ?_
      refine zz_iload_n rfl rfl ?_
      refine zz_iadd rfl ?_
      refine zz_iald rfl (m2 hA) (by decide) ⟨by omega, by omega⟩ ?_
      refine zz_eq (show _ = (R k : Int) from by show X.2.1 2 (24 * (n : Int) + (k : Int)).toNat = _; rw [show (24 * (n : Int) + (k : Int)).toNat = 24 * n + k by omega]; exact (hc.2.2.2.2.2 k (by omega)).1) ?_
      refine zz_goto rfl ?_
      refine zz_iast rfl (m9 hA) (by decide) ⟨by omega, by omega⟩ ?_
      refine Ev.heap (w9 hA) ?_
      refine Ev.heap (show mH h A (mF (mF X 9 (mfl (X.2.1 9) 0 (fun y => ((if y < ht then R y else 0 : Nat) : Int)) k)) 9 (zup (mfl (X.2.1 9) 0 (fun y => ((if y < ht then R y else 0 : Nat) : Int)) k) k ((R k : Int)))) = mH h A (mF X 9 (mfl (X.2.1 9) 0 (fun y => ((if y < ht then R y else 0 : Nat) : Int)) (k + 1))) from by rw [mF_mF, mfl_up (T := (fun y => ((if y < ht then R y else 0 : Nat) : Int))) (by omega) (show _ = ((if k < ht then R k else 0 : Nat) : Int) from by rw [if_pos (by omega)])]) ?_
      refine zz_iincK ((k + 1 : Nat) : Int) rfl rfl rfl rfl (by omega) ?_
      refine zz_goto rfl ?_
      exact ih (k + 1) (by omega)
theorem lp_cpd_i {A : Nat → Nat} {X : MX} (hA : mOk A) {n w ht : Nat} {R : Nat → Nat} (hc : mc X n w ht R) {l : Int} (hl : 0 ≤ l ∧ l < 3) {MC MS mc ms : Nat} {Q : ZR → ZH → Prop} {y : Nat} (hy : y < ht) (kx : Ev Z (fun _ => True, m_M_copy, 2, MC, MS) 122 [.ref (A 0), zI l, zI (y : Nat), zI (w : Nat)] [] (mH h A (mF X 8 (mq (X.2.1 8) 0 (mpA w) (fun i j => X.2.1 1 (1728 * n + 576 * l.toNat + 24 * j + i)) y w))) mc ms Q) : ∀ (m x : Nat), x + m = w → Ev Z (fun _ => True, m_M_copy, 2, MC, MS) 85 [.ref (A 0), zI l, zI (y : Nat), zI (x : Nat)] [] (mH h A (mF X 8 (mq (X.2.1 8) 0 (mpA w) (fun i j => X.2.1 1 (1728 * n + 576 * l.toNat + 24 * j + i)) y x))) mc ms Q := by
  have hn6 := hc.2.1
  have hw24 := hc.2.2.2.2.1
  intro m
  induction m with
  | zero =>
    intro x hx
    refine zz_iload_n rfl rfl ?_
    refine zz_aload_n rfl rfl ?_
    refine zz_Vp rfl lk_M_100 cw_M_w rfl (m0 hA) (ct_Mw hA (hc.F 8 _ rfl)) rfl rfl rfl rfl ?_
    refine zz_icmp_ge rfl (by omega) (by omega) (fun hb90 => ?_) (fun hb90 => absurd hb90 (by omega))
    obtain rfl : x = w := by omega
    exact kx
  | succ m ih =>
    intro x hx
    have hxw : x < w := by omega
    refine zz_iload_n rfl rfl ?_
    refine zz_aload_n rfl rfl ?_
    refine zz_Vp rfl lk_M_100 cw_M_w rfl (m0 hA) (ct_Mw hA (hc.F 8 _ rfl)) rfl rfl rfl rfl ?_
    refine zz_icmp_ge rfl (by omega) (by omega) (fun hb90 => absurd hb90 (by omega)) (fun hb90 => ?_)
    refine zz_aload_n rfl rfl ?_
    refine zz_getf rfl fl_M_35 (m0 hA) rfl ?_
    refine zz_bipush rfl (by decide) ?_
    refine zz_iload_n rfl rfl ?_
    refine zz_imul rfl ?_
    refine zz_iload_n rfl rfl ?_
    refine zz_iadd rfl ?_
    refine zz_aload_n rfl rfl ?_
    refine zz_getf rfl fl_M_7 (m0 hA) rfl ?_
    refine zz_aload_n rfl rfl ?_
    refine zz_iload_n rfl rfl ?_
    refine zz_iload_n rfl rfl ?_
    refine zz_iload_n rfl rfl ?_
    refine zz_Vp rfl lk_M_132 cw_M_at rfl (m0 hA) (ct_Mat hA (hc.F 8 _ rfl).1) rfl rfl rfl rfl ?_
    refine zz_iald rfl (m1 hA) (by decide) (by omega) ?_
    refine zz_iast rfl (m8 hA) (by decide) (by omega) ?_
    refine Ev.heap (w8 hA) ?_
    refine Ev.heap (show mH h A (mF (mF X 8 (mq (X.2.1 8) 0 (mpA w) (fun i j => X.2.1 1 (1728 * n + 576 * l.toNat + 24 * j + i)) y x)) 8 (zup (mq (X.2.1 8) 0 (mpA w) (fun i j => X.2.1 1 (1728 * n + 576 * l.toNat + 24 * j + i)) y x) (24 * (y : Int) + (x : Int)).toNat (X.2.1 1 (1728 * (n : Int) + 576 * l + 24 * (y : Int) + (x : Int)).toNat))) = mH h A (mF X 8 (mq (X.2.1 8) 0 (mpA w) (fun i j => X.2.1 1 (1728 * n + 576 * l.toNat + 24 * j + i)) y (x + 1))) from by rw [mF_mF, mq_t (by omega) (mpA_t hxw) (by omega) (congrArg (X.2.1 1) (by omega))]) ?_
    refine zz_iincK ((x + 1 : Nat) : Int) rfl rfl rfl rfl (by omega) ?_
    refine zz_goto rfl ?_
    exact ih (x + 1) (by omega)
theorem lp_cpd_o {A : Nat → Nat} {X : MX} (hA : mOk A) {n w ht : Nat} {R : Nat → Nat} (hc : mc X n w ht R) {l : Int} (hl : 0 ≤ l ∧ l < 3) {MC MS mc ms : Nat} {Q : ZR → ZH → Prop} (kx : Ev Z (fun _ => True, m_M_copy, 2, MC, MS) 128 [.ref (A 0), zI l, zI (ht : Nat)] [] (mH h A (mF X 8 (mq (X.2.1 8) 0 (mpA w) (fun i j => X.2.1 1 (1728 * n + 576 * l.toNat + 24 * j + i)) ht 0))) mc ms Q) : ∀ (m y : Nat), y + m = ht → Ev Z (fun _ => True, m_M_copy, 2, MC, MS) 75 [.ref (A 0), zI l, zI (y : Nat)] [] (mH h A (mF X 8 (mq (X.2.1 8) 0 (mpA w) (fun i j => X.2.1 1 (1728 * n + 576 * l.toNat + 24 * j + i)) y 0))) mc ms Q := by
  have hn6 := hc.2.1
  have hw24 := hc.2.2.2.2.1
  intro m
  induction m with
  | zero =>
    intro y hy
    refine zz_iload_n rfl rfl ?_
    refine zz_aload_n rfl rfl ?_
    refine zz_Vp rfl lk_M_96 cw_M_h rfl (m0 hA) (ct_Mh hA (hc.F 8 _ rfl)) rfl rfl rfl rfl ?_
    refine zz_icmp_ge rfl (by omega) (by omega) (fun hb80 => ?_) (fun hb80 => absurd hb80 (by omega))
    obtain rfl : y = ht := by omega
    exact kx
  | succ m ih =>
    intro y hy
    refine zz_iload_n rfl rfl ?_
    refine zz_aload_n rfl rfl ?_
    refine zz_Vp rfl lk_M_96 cw_M_h rfl (m0 hA) (ct_Mh hA (hc.F 8 _ rfl)) rfl rfl rfl rfl ?_
    refine zz_icmp_ge rfl (by omega) (by omega) (fun hb80 => absurd hb80 (by omega)) (fun hb80 => ?_)
    refine zz_iconst rfl ?_
    refine zz_istore_n rfl rfl rfl ?_
    refine lp_cpd_i hA hc hl (by omega) ?_ w 0 (by omega)
    refine zz_iincK ((y + 1 : Nat) : Int) rfl rfl rfl rfl (by omega) ?_
    refine zz_goto rfl ?_
    refine Ev.take 3 ?_
    refine Ev.heap (show _ = mH h A (mF X 8 (mq (X.2.1 8) 0 (mpA w) (fun i j => X.2.1 1 (1728 * n + 576 * l.toNat + 24 * j + i)) (y + 1) 0)) from by rw [mq_e mpA_lt]) ?_
    exact ih (y + 1) (by omega)
theorem md_copy {A : Nat → Nat} {X : MX} (hA : mOk A) {S : SS} (hM : mrel X S) (hk : okS S) {l : Int} (hl : zrg l) : Ct Z m_M_copy 2 0 0 [.ref (A 0), zI l] (mH h A X) (mdI h A S (sLy S l) (True) (((sCt (sCur S) : Nat) : Int)) (sCpy S l)) := by
  refine zct rfl (by decide) ok_M_copy rfl rfl ?_
  refine zz_aload_n rfl rfl ?_
  refine zz_aload_n rfl rfl ?_
  refine zz_iload_n rfl rfl ?_
  refine zz_Vp rfl lk_M_89 cw_M_isLayer rfl (m0 hA) (ct_MisLayer hA hM hk hl) rfl rfl rfl rfl ?_
  refine zz_ifB_ne rfl (fun hb6 => ?_) (fun hb6 => ?_)
  · skip
    refine zz_iconst rfl ?_
    refine zz_V rfl lk_M_75 cw_M_refuse rfl (m0 hA) (ct_Mrefuse0 hA) rfl rfl rfl rfl ?_
    rintro _ _ ⟨rfl, rfl⟩
    refine zaft_v ?_
    refine zz_if_eq rfl ⟨by decide, by decide⟩ (fun hb17 => ?_) (fun hb17 => absurd hb17 (by decide))
    have hly := hb6
    have hP : okP (sCur S) := (hk.1 hly.1).2.2 _ (hk.1 hly.1).1
    have hc1 : mc (mS (mS X 0 0) 3 1) (sNow S) (sw (sCur S)) (sh (sCur S)) (sr (sCur S)) := hM.mc hk hly.1
    have hs1 : mslot (mS (mS X 0 0) 3 1) (sNow S) (sCur S) := hM.2.2.2.2.2.2.2.1 hly.1 _ (hk.1 hly.1).1
    have hn3 := hP.2.2.1.2
    have hw24 := hP.1.2
    have hh24 := hP.2.1.2
    obtain ⟨hl0, hl1⟩ := id hly.2
    have hDr : ∀ x y, x < (sw (sCur S)) → y < (sh (sCur S)) → zrg ((sD (sl (sCur S) l.toNat)) x y) := (hP.2.2.2.1 l.toNat (by omega)).2.2.2
    refine zz_aload_n rfl rfl ?_
    refine zz_iconst rfl ?_
    refine zz_putf rfl fl_M_161 (m0 hA) (pt_1_11 rfl rfl) (zblt rfl) ?_
    refine Ev.heap (ws3 hA) ?_
    refine zz_iconst rfl ?_
    refine zz_istore_n rfl rfl rfl ?_
    refine Ev.heap (show mH h A (mS (mS X 0 0) 3 1) = mH h A (mF (mS (mS X 0 0) 3 1) 9 (mfl (X.2.1 9) 0 (fun y => ((if y < (sh (sCur S)) then sr (sCur S) y else 0 : Nat) : Int)) 0)) from by rw [mfl_0]; exact congrArg (mH h A) (mF_id (mS (mS X 0 0) 3 1) 9).symm) ?_
    refine lp_cpr (X := (mS (mS X 0 0) 3 1)) hA hc1 ?_ 24 0 (by omega)
    refine zz_iconst rfl ?_
    refine zz_istore_n rfl rfl rfl ?_
    refine Ev.heap (show mH h A (mF (mS (mS X 0 0) 3 1) 9 (mfl (X.2.1 9) 0 (fun y => ((if y < (sh (sCur S)) then sr (sCur S) y else 0 : Nat) : Int)) 24)) = mH h A (mF (mF (mS (mS X 0 0) 3 1) 9 (mfl (X.2.1 9) 0 (fun y => ((if y < (sh (sCur S)) then sr (sCur S) y else 0 : Nat) : Int)) 24)) 8 (mq (X.2.1 8) 0 (mpA (sw (sCur S))) (fun i j => X.2.1 1 (1728 * sNow S + 576 * l.toNat + 24 * j + i)) 0 0)) from by rw [mq_0]; exact congrArg (mH h A) (mF_id (mF (mS (mS X 0 0) 3 1) 9 (mfl (X.2.1 9) 0 (fun y => ((if y < (sh (sCur S)) then sr (sCur S) y else 0 : Nat) : Int)) 24)) 8).symm) ?_
    refine lp_cpd_o (X := (mF (mS (mS X 0 0) 3 1) 9 (mfl (X.2.1 9) 0 (fun y => ((if y < (sh (sCur S)) then sr (sCur S) y else 0 : Nat) : Int)) 24))) hA (hc1.F 9 _ rfl) ⟨by omega, by omega⟩ ?_ (sh (sCur S)) 0 (by omega)
    refine zz_aload_n rfl rfl ?_
    refine zz_Vp rfl lk_M_107 cw_M_selected rfl (m0 hA) (ct_Mseld (X := (mF (mF (mS (mS X 0 0) 3 1) 9 (mfl (X.2.1 9) 0 (fun y => ((if y < (sh (sCur S)) then sr (sCur S) y else 0 : Nat) : Int)) 24)) 8 (mq (X.2.1 8) 0 (mpA (sw (sCur S))) (fun i j => X.2.1 1 (1728 * sNow S + 576 * l.toNat + 24 * j + i)) (sh (sCur S)) 0))) hA ((hc1.F 9 _ rfl).F 8 _ rfl)) rfl rfl rfl rfl ?_
    refine zz_iret rfl rfl ⟨((sCt (sCur S) : Nat) : Int), rfl, ?_, (mF (mF (mS (mS X 0 0) 3 1) 9 (mfl (X.2.1 9) 0 (fun y => ((if y < (sh (sCur S)) then sr (sCur S) y else 0 : Nat) : Int)) 24)) 8 (mq (X.2.1 8) 0 (mpA (sw (sCur S))) (fun i j => X.2.1 1 (1728 * sNow S + 576 * l.toNat + 24 * j + i)) (sh (sCur S)) 0)), rfl, Or.inr (Or.inr ⟨hly, trivial, rfl, rfl, ?_⟩)⟩
    · have e8 := zc2_le (fun j i => (sr (sCur S) j).testBit i) (sw (sCur S)) (sh (sCur S))
      have e7 := Nat.mul_le_mul hw24 hh24
      have e6 : sCt (sCur S) = zc2 (fun j i => (sr (sCur S) j).testBit i) (sw (sCur S)) (sh (sCur S)) := rfl
      exact ⟨by omega, by omega⟩
    obtain ⟨a1, a2, a3, a4, a5, a6, a7, a8, a9, a10, a11⟩ := id hM
    refine ⟨a1, a2, rfl, a4, a5, a6, a7, a8, a9, fun K hK => ?_, a11⟩
    have hK2 : ((sw (sCur S)), (sh (sCur S)), (sD (sl (sCur S) l.toNat)), sr (sCur S)) = K := Option.some.inj hK
    subst hK2
    refine ⟨fun y hy => ?_, fun x y hx hy => ?_⟩
    · have e9 := mfl_in (f := X.2.1 9) (b := 0) (k := 24) (r := y) (T := (fun y => ((if y < (sh (sCur S)) then sr (sCur S) y else 0 : Nat) : Int))) hy
      rw [Nat.zero_add] at e9
      exact e9
    · have hx2 : x < (sw (sCur S)) := hx
      have hy2 : y < (sh (sCur S)) := hy
      have e9 := mq_at (f := X.2.1 8) (b := 0) (p := mpA (sw (sCur S))) (G := (fun i j => X.2.1 1 (1728 * sNow S + 576 * l.toNat + 24 * j + i))) (ht := (sh (sCur S))) (i := x) (j := y) (by omega) hy2
      rw [Nat.zero_add, mpA_t hx2, if_pos rfl] at e9
      exact e9.trans ((hs1.2.2.2.2 l.toNat (by omega)).2.2.2 x y hx2 hy2)
  · skip
    refine zz_iconst rfl ?_
    refine zz_goto rfl ?_
    refine zz_V rfl lk_M_75 cw_M_refuse rfl (m0 hA) (ct_Mrefuse1 hA) rfl rfl rfl rfl ?_
    rintro _ _ ⟨rfl, rfl⟩
    refine zaft_v ?_
    refine zz_if_eq rfl ⟨by decide, by decide⟩ (fun hb17 => absurd hb17 (by decide)) (fun hb17 => ?_)
    refine zz_iconst rfl ?_
    refine zz_iret rfl rfl ⟨0, rfl, z00, _, rfl, Or.inl ⟨hb6, rfl, hM.S0 _⟩⟩
theorem sPs_24 {K : SK} {dx dy : Int} {x y : Nat} (hk : okK K) (h24 : zbox ((x : Int) - dx) ((y : Int) - dy) 24 24) : sPs K dx dy x y ↔ (((if ((y : Int) - dy).toNat < K.2.1 then K.2.2.2 ((y : Int) - dy).toNat else 0 : Nat)).testBit ((x : Int) - dx).toNat = true) := by
  obtain ⟨b1, b2, b3, b4⟩ := h24
  constructor
  · rintro ⟨⟨c1, c2, c3, c4⟩, h⟩
    rw [if_pos (by omega)]
    exact h
  · intro h
    by_cases g : ((y : Int) - dy).toNat < K.2.1
    · rw [if_pos g] at h
      have h9 := zlt_bit (hk.2.2.2 _ g) h
      exact ⟨⟨b1, by omega, b3, by omega⟩, h⟩
    · rw [if_neg g] at h
      exact absurd h (by rw [Nat.zero_testBit]; decide)
theorem sPs_no {K : SK} {dx dy : Int} {x y : Nat} (hk : okK K) (h : ¬ zbox ((x : Int) - dx) ((y : Int) - dy) 24 24) : ¬ sPs K dx dy x y := by
  rintro ⟨⟨c1, c2, c3, c4⟩, -⟩
  have := hk.1.2
  have := hk.2.1.2
  exact h ⟨c1, by omega, c3, by omega⟩
theorem tm_paste_i {A : Nat → Nat} {X : MX} (hA : mOk A) {n w ht : Nat} {R : Nat → Nat} (hc : mc X n w ht R) {l : Int} (hl : 0 ≤ l ∧ l < 3) {dx dy : Int} {K : SK} {D : Nat → Nat → Int} (hdx : -100 ≤ dx ∧ dx ≤ 100) (hdy : -100 ≤ dy ∧ dy ≤ 100) (hkK : okK K) (hcp : mcopy X K) (hdt : ∀ x y, x < w → y < ht → X.2.1 1 (1728 * n + 576 * l.toNat + 24 * y + x) = D x y) {MC MS mc ms : Nat} {Q : ZR → ZH → Prop} {y : Nat} (hy : y < ht) (kx : Ev Z (fun _ => True, m_M_paste, 3, MC, MS) 191 [.ref (A 0), zI l, zI dx, zI dy, zI ((zc2 (fun j i => decide ((R j).testBit i = true ∧ sPs K dx dy i j)) w y + zc1 ((fun j i => decide ((R j).testBit i = true ∧ sPs K dx dy i j)) y) w : Nat) : Int), zI (y : Nat), zI (w : Nat)] [] (mH h A (mF X 1 (mq (X.2.1 1) (1728 * n + 576 * l.toNat) (mpR w R) (sPg K dx dy D) y w))) mc ms Q) : ∀ (m x : Nat), x + m = w → Ev Z (fun _ => True, m_M_paste, 3, MC, MS) 81 [.ref (A 0), zI l, zI dx, zI dy, zI ((zc2 (fun j i => decide ((R j).testBit i = true ∧ sPs K dx dy i j)) w y + zc1 ((fun j i => decide ((R j).testBit i = true ∧ sPs K dx dy i j)) y) x : Nat) : Int), zI (y : Nat), zI (x : Nat)] [] (mH h A (mF X 1 (mq (X.2.1 1) (1728 * n + 576 * l.toNat) (mpR w R) (sPg K dx dy D) y x))) mc ms Q := by
  have hn6 := hc.2.1
  have hw24 := hc.2.2.2.2.1
  intro m
  induction m with
  | zero =>
    intro x hx
    refine zz_iload rfl rfl ?_
    refine zz_aload_n rfl rfl ?_
    refine zz_Vp rfl lk_M_100 cw_M_w rfl (m0 hA) (ct_Mw hA (hc.F 1 _ rfl)) rfl rfl rfl rfl ?_
    refine zz_icmp_ge rfl (by omega) (by omega) (fun hb87 => ?_) (fun hb87 => absurd hb87 (by omega))
    obtain rfl : x = w := by omega
    exact kx
  | succ m ih =>
    intro x hx
    have hxw : x < w := by omega
    refine zz_iload rfl rfl ?_
    refine zz_aload_n rfl rfl ?_
    refine zz_Vp rfl lk_M_100 cw_M_w rfl (m0 hA) (ct_Mw hA (hc.F 1 _ rfl)) rfl rfl rfl rfl ?_
    refine zz_icmp_ge rfl (by omega) (by omega) (fun hb87 => absurd hb87 (by omega)) (fun hb87 => ?_)
    refine zz_iload rfl rfl ?_
    refine zz_iload_n rfl rfl ?_
    refine zz_isub rfl ?_
    refine zz_istore rfl rfl rfl ?_
    refine zz_iload rfl rfl ?_
    refine zz_iload_n rfl rfl ?_
    refine zz_isub rfl ?_
    refine zz_istore rfl rfl rfl ?_
    refine zz_iload rfl rfl ?_
    refine zz_if_lt rfl (by omega) (fun hb104 => ?_) (fun hb104 => ?_)
    · skip
      have hns : ¬ sPs K dx dy x y := (sPs_no hkK (fun h9 => by have := h9.1; have := h9.2.1; have := h9.2.2.1; have := h9.2.2.2; omega))
      have hc0 : zc1 ((fun j i => decide ((R j).testBit i = true ∧ sPs K dx dy i j)) y) x = zc1 ((fun j i => decide ((R j).testBit i = true ∧ sPs K dx dy i j)) y) (x + 1) := by show _ = zc1 _ x + (if decide _ = true then 1 else 0); rw [if_neg (by rw [decide_eq_true_eq]; exact fun h9 => hns h9.2), Nat.add_zero]
      rw [hc0]
      refine Ev.heap (show _ = mH h A (mF X 1 (mq (X.2.1 1) (1728 * n + 576 * l.toNat) (mpR w R) (sPg K dx dy D) y (x + 1))) from by rw [mq_s (by omega) (show sPg K dx dy D x y = _ from by unfold sPg; rw [if_neg hns, hdt x y hxw hy])]) ?_
      refine zz_iincK ((x + 1 : Nat) : Int) rfl rfl rfl rfl (by omega) ?_
      refine zz_goto rfl ?_
      refine Ev.take 7 ?_
      exact ih (x + 1) (by omega)
    · skip
      refine zz_iload rfl rfl ?_
      refine zz_bipush rfl (by decide) ?_
      refine zz_icmp_ge rfl (by omega) (by omega) (fun hb111 => ?_) (fun hb111 => ?_)
      · skip
        have hns : ¬ sPs K dx dy x y := (sPs_no hkK (fun h9 => by have := h9.1; have := h9.2.1; have := h9.2.2.1; have := h9.2.2.2; omega))
        have hc0 : zc1 ((fun j i => decide ((R j).testBit i = true ∧ sPs K dx dy i j)) y) x = zc1 ((fun j i => decide ((R j).testBit i = true ∧ sPs K dx dy i j)) y) (x + 1) := by show _ = zc1 _ x + (if decide _ = true then 1 else 0); rw [if_neg (by rw [decide_eq_true_eq]; exact fun h9 => hns h9.2), Nat.add_zero]
        rw [hc0]
        refine Ev.heap (show _ = mH h A (mF X 1 (mq (X.2.1 1) (1728 * n + 576 * l.toNat) (mpR w R) (sPg K dx dy D) y (x + 1))) from by rw [mq_s (by omega) (show sPg K dx dy D x y = _ from by unfold sPg; rw [if_neg hns, hdt x y hxw hy])]) ?_
        refine zz_iincK ((x + 1 : Nat) : Int) rfl rfl rfl rfl (by omega) ?_
        refine zz_goto rfl ?_
        refine Ev.take 7 ?_
        exact ih (x + 1) (by omega)
      · skip
        refine zz_iload rfl rfl ?_
        refine zz_if_lt rfl (by omega) (fun hb116 => ?_) (fun hb116 => ?_)
        · skip
          have hns : ¬ sPs K dx dy x y := (sPs_no hkK (fun h9 => by have := h9.1; have := h9.2.1; have := h9.2.2.1; have := h9.2.2.2; omega))
          have hc0 : zc1 ((fun j i => decide ((R j).testBit i = true ∧ sPs K dx dy i j)) y) x = zc1 ((fun j i => decide ((R j).testBit i = true ∧ sPs K dx dy i j)) y) (x + 1) := by show _ = zc1 _ x + (if decide _ = true then 1 else 0); rw [if_neg (by rw [decide_eq_true_eq]; exact fun h9 => hns h9.2), Nat.add_zero]
          rw [hc0]
          refine Ev.heap (show _ = mH h A (mF X 1 (mq (X.2.1 1) (1728 * n + 576 * l.toNat) (mpR w R) (sPg K dx dy D) y (x + 1))) from by rw [mq_s (by omega) (show sPg K dx dy D x y = _ from by unfold sPg; rw [if_neg hns, hdt x y hxw hy])]) ?_
          refine zz_iincK ((x + 1 : Nat) : Int) rfl rfl rfl rfl (by omega) ?_
          refine zz_goto rfl ?_
          refine Ev.take 7 ?_
          exact ih (x + 1) (by omega)
        · skip
          refine zz_iload rfl rfl ?_
          refine zz_bipush rfl (by decide) ?_
          refine zz_icmp_ge rfl (by omega) (by omega) (fun hb123 => ?_) (fun hb123 => ?_)
          · skip
            have hns : ¬ sPs K dx dy x y := (sPs_no hkK (fun h9 => by have := h9.1; have := h9.2.1; have := h9.2.2.1; have := h9.2.2.2; omega))
            have hc0 : zc1 ((fun j i => decide ((R j).testBit i = true ∧ sPs K dx dy i j)) y) x = zc1 ((fun j i => decide ((R j).testBit i = true ∧ sPs K dx dy i j)) y) (x + 1) := by show _ = zc1 _ x + (if decide _ = true then 1 else 0); rw [if_neg (by rw [decide_eq_true_eq]; exact fun h9 => hns h9.2), Nat.add_zero]
            rw [hc0]
            refine Ev.heap (show _ = mH h A (mF X 1 (mq (X.2.1 1) (1728 * n + 576 * l.toNat) (mpR w R) (sPg K dx dy D) y (x + 1))) from by rw [mq_s (by omega) (show sPg K dx dy D x y = _ from by unfold sPg; rw [if_neg hns, hdt x y hxw hy])]) ?_
            refine zz_iincK ((x + 1 : Nat) : Int) rfl rfl rfl rfl (by omega) ?_
            refine zz_goto rfl ?_
            refine Ev.take 7 ?_
            exact ih (x + 1) (by omega)
          · skip
            refine zz_aload_n rfl rfl ?_
            refine zz_getf rfl fl_M_38 (m0 hA) rfl ?_
            refine zz_iload rfl rfl ?_
            have hb24 : zbox ((x : Int) - dx) ((y : Int) - dy) 24 24 := ⟨by omega, by omega, by omega, by omega⟩
            have h24 := sPs_24 (K := K) hkK hb24
            refine zz_iald rfl (m9 hA) (by decide) ⟨by omega, by omega⟩ ?_
            have hrj : X.2.1 9 ((y : Int) - dy).toNat = (((if ((y : Int) - dy).toNat < K.2.1 then K.2.2.2 ((y : Int) - dy).toNat else 0 : Nat)) : Int) := hcp.1 _ (by have := hb24.2.2.2; omega)
            have hr24 : ((if ((y : Int) - dy).toNat < K.2.1 then K.2.2.2 ((y : Int) - dy).toNat else 0 : Nat)) < 16777216 := by
              by_cases g : ((y : Int) - dy).toNat < K.2.1
              · rw [if_pos g]; exact z24 hkK.1.2 (hkK.2.2.2 _ g)
              · rw [if_neg g]; decide
            refine zz_eq (show _ = (((if ((y : Int) - dy).toNat < K.2.1 then K.2.2.2 ((y : Int) - dy).toNat else 0 : Nat)) : Int) from hrj) ?_
            refine zz_iload rfl rfl ?_
            refine zz_ishr rfl ⟨by omega, by omega⟩ ⟨by omega, by omega⟩ ?_
            refine zz_iconst rfl ?_
            refine zz_iand rfl (zq_m1 _) ?_
            have hbit : ((if ((y : Int) - dy).toNat < K.2.1 then K.2.2.2 ((y : Int) - dy).toNat else 0 : Nat)).testBit ((x : Int) - dx).toNat = true ↔ (((if ((y : Int) - dy).toNat < K.2.1 then K.2.2.2 ((y : Int) - dy).toNat else 0 : Nat)) : Int) / 2 ^ ((x : Int) - dx).toNat % 2 = 1 := by
              rw [zbit_div]
              have e : ((((if ((y : Int) - dy).toNat < K.2.1 then K.2.2.2 ((y : Int) - dy).toNat else 0 : Nat)) : Nat) : Int) / 2 ^ ((x : Int) - dx).toNat % 2 = ((((if ((y : Int) - dy).toNat < K.2.1 then K.2.2.2 ((y : Int) - dy).toNat else 0 : Nat)) / 2 ^ ((x : Int) - dx).toNat % 2 : Nat) : Int) := by
                show (_ : Int) / 2 ^ _ % 2 = _
                simp
              rw [e]
              omega
            refine zz_if_eq rfl ⟨by omega, by omega⟩ (fun hb138 => ?_) (fun hb138 => ?_)
            · skip
              have hns : ¬ sPs K dx dy x y := fun h9 => by have h8 := hbit.mp (h24.mp h9); omega
              have hc0 : zc1 ((fun j i => decide ((R j).testBit i = true ∧ sPs K dx dy i j)) y) x = zc1 ((fun j i => decide ((R j).testBit i = true ∧ sPs K dx dy i j)) y) (x + 1) := by show _ = zc1 _ x + (if decide _ = true then 1 else 0); rw [if_neg (by rw [decide_eq_true_eq]; exact fun h9 => hns h9.2), Nat.add_zero]
              rw [hc0]
              refine Ev.heap (show _ = mH h A (mF X 1 (mq (X.2.1 1) (1728 * n + 576 * l.toNat) (mpR w R) (sPg K dx dy D) y (x + 1))) from by rw [mq_s (by omega) (show sPg K dx dy D x y = _ from by unfold sPg; rw [if_neg hns, hdt x y hxw hy])]) ?_
              refine zz_iincK ((x + 1 : Nat) : Int) rfl rfl rfl rfl (by omega) ?_
              refine zz_goto rfl ?_
              refine Ev.take 7 ?_
              exact ih (x + 1) (by omega)
            · skip
              refine zz_aload_n rfl rfl ?_
              refine zz_iload rfl rfl ?_
              refine zz_iload rfl rfl ?_
              refine zz_Vp rfl lk_M_110 cw_M_isChosen rfl (m0 hA) (ct_Mchosen hA (hc.F 1 _ rfl) hxw hy) rfl rfl rfl rfl ?_
              refine zz_ifB_ne rfl (fun hb149 => ?_) (fun hb149 => ?_)
              · skip
                refine zz_aload_n rfl rfl ?_
                refine zz_getf rfl fl_M_7 (m0 hA) rfl ?_
                refine zz_aload_n rfl rfl ?_
                refine zz_iload_n rfl rfl ?_
                refine zz_iload rfl rfl ?_
                refine zz_iload rfl rfl ?_
                refine zz_Vp rfl lk_M_132 cw_M_at rfl (m0 hA) (ct_Mat hA (hc.F 1 _ rfl).1) rfl rfl rfl rfl ?_
                refine zz_aload_n rfl rfl ?_
                refine zz_getf rfl fl_M_35 (m0 hA) rfl ?_
                refine zz_bipush rfl (by decide) ?_
                refine zz_iload rfl rfl ?_
                refine zz_imul rfl ?_
                refine zz_iload rfl rfl ?_
                refine zz_iadd rfl ?_
                refine zz_iald rfl (m8 hA) (by decide) ⟨by omega, by omega⟩ ?_
                refine zz_iast rfl (m1 hA) (by decide) ⟨by omega, by omega⟩ ?_
                refine Ev.heap (w1 hA) ?_
                have hps : sPs K dx dy x y := h24.mpr (hbit.mpr (by omega))
                have hval : X.2.1 8 (24 * ((y : Int) - dy) + ((x : Int) - dx)).toNat = sPg K dx dy D x y := by
                  unfold sPg
                  have q1 := hps.1
                  rw [if_pos hps, ← hcp.2 ((x : Int) - dx).toNat ((y : Int) - dy).toNat (by have := q1.2.1; omega) (by have := q1.2.2.2; omega)]
                  exact congrArg (X.2.1 8) (by omega)
                refine Ev.heap (show mH h A (mF (mF X 1 (mq (X.2.1 1) (1728 * n + 576 * l.toNat) (mpR w R) (sPg K dx dy D) y x)) 1 (zup (mq (X.2.1 1) (1728 * n + 576 * l.toNat) (mpR w R) (sPg K dx dy D) y x) (1728 * (n : Int) + 576 * l + 24 * (y : Int) + (x : Int)).toNat (X.2.1 8 (24 * ((y : Int) - dy) + ((x : Int) - dx)).toNat))) = mH h A (mF X 1 (mq (X.2.1 1) (1728 * n + 576 * l.toNat) (mpR w R) (sPg K dx dy D) y (x + 1))) from by rw [mF_mF, mq_t (by omega) (by rw [mpR_t hxw]; exact hb149) (by omega) (show _ = sPg K dx dy D x y from hval)]) ?_
                refine zz_iincK ((zc2 (fun j i => decide ((R j).testBit i = true ∧ sPs K dx dy i j)) w y + zc1 ((fun j i => decide ((R j).testBit i = true ∧ sPs K dx dy i j)) y) (x + 1) : Nat) : Int) rfl rfl rfl rfl (by show _ = ((zc2 _ _ _ + (zc1 _ x + (if decide _ = true then 1 else 0)) : Nat) : Int); rw [if_pos (by rw [decide_eq_true_eq]; exact ⟨hb149, hps⟩)]; omega) ?_
                refine zz_iincK ((x + 1 : Nat) : Int) rfl rfl rfl rfl (by omega) ?_
                refine zz_goto rfl ?_
                refine Ev.take 7 ?_
                exact ih (x + 1) (by omega)
              · skip
                refine zz_goto rfl ?_
                have hc0 : zc1 ((fun j i => decide ((R j).testBit i = true ∧ sPs K dx dy i j)) y) x = zc1 ((fun j i => decide ((R j).testBit i = true ∧ sPs K dx dy i j)) y) (x + 1) := by show _ = zc1 _ x + (if decide _ = true then 1 else 0); rw [if_neg (by rw [decide_eq_true_eq]; exact fun h9 => hb149 h9.1), Nat.add_zero]
                rw [hc0]
                refine Ev.heap (show _ = mH h A (mF X 1 (mq (X.2.1 1) (1728 * n + 576 * l.toNat) (mpR w R) (sPg K dx dy D) y (x + 1))) from by rw [mq_f (by rw [mpR_t hxw]; exact Bool.eq_false_iff.mpr hb149)]) ?_
                refine zz_iincK ((x + 1 : Nat) : Int) rfl rfl rfl rfl (by omega) ?_
                refine zz_goto rfl ?_
                refine Ev.take 7 ?_
                exact ih (x + 1) (by omega)
theorem tm_paste_o {A : Nat → Nat} {X : MX} (hA : mOk A) {n w ht : Nat} {R : Nat → Nat} (hc : mc X n w ht R) {l : Int} (hl : 0 ≤ l ∧ l < 3) {dx dy : Int} {K : SK} {D : Nat → Nat → Int} (hdx : -100 ≤ dx ∧ dx ≤ 100) (hdy : -100 ≤ dy ∧ dy ≤ 100) (hkK : okK K) (hcp : mcopy X K) (hdt : ∀ x y, x < w → y < ht → X.2.1 1 (1728 * n + 576 * l.toNat + 24 * y + x) = D x y) {MC MS mc ms : Nat} {Q : ZR → ZH → Prop} (kx : Ev Z (fun _ => True, m_M_paste, 3, MC, MS) 197 [.ref (A 0), zI l, zI dx, zI dy, zI ((zc2 (fun j i => decide ((R j).testBit i = true ∧ sPs K dx dy i j)) w ht + zc1 ((fun j i => decide ((R j).testBit i = true ∧ sPs K dx dy i j)) ht) 0 : Nat) : Int), zI (ht : Nat)] [] (mH h A (mF X 1 (mq (X.2.1 1) (1728 * n + 576 * l.toNat) (mpR w R) (sPg K dx dy D) ht 0))) mc ms Q) : ∀ (m y : Nat), y + m = ht → Ev Z (fun _ => True, m_M_paste, 3, MC, MS) 69 [.ref (A 0), zI l, zI dx, zI dy, zI ((zc2 (fun j i => decide ((R j).testBit i = true ∧ sPs K dx dy i j)) w y + zc1 ((fun j i => decide ((R j).testBit i = true ∧ sPs K dx dy i j)) y) 0 : Nat) : Int), zI (y : Nat)] [] (mH h A (mF X 1 (mq (X.2.1 1) (1728 * n + 576 * l.toNat) (mpR w R) (sPg K dx dy D) y 0))) mc ms Q := by
  have hn6 := hc.2.1
  have hw24 := hc.2.2.2.2.1
  intro m
  induction m with
  | zero =>
    intro y hy
    refine zz_iload rfl rfl ?_
    refine zz_aload_n rfl rfl ?_
    refine zz_Vp rfl lk_M_96 cw_M_h rfl (m0 hA) (ct_Mh hA (hc.F 1 _ rfl)) rfl rfl rfl rfl ?_
    refine zz_icmp_ge rfl (by omega) (by omega) (fun hb75 => ?_) (fun hb75 => absurd hb75 (by omega))
    obtain rfl : y = ht := by omega
    exact kx
  | succ m ih =>
    intro y hy
    refine zz_iload rfl rfl ?_
    refine zz_aload_n rfl rfl ?_
    refine zz_Vp rfl lk_M_96 cw_M_h rfl (m0 hA) (ct_Mh hA (hc.F 1 _ rfl)) rfl rfl rfl rfl ?_
    refine zz_icmp_ge rfl (by omega) (by omega) (fun hb75 => absurd hb75 (by omega)) (fun hb75 => ?_)
    refine zz_iconst rfl ?_
    refine zz_istore rfl rfl rfl ?_
    refine tm_paste_i hA hc hl hdx hdy hkK hcp hdt (by omega) ?_ w 0 (by omega)
    refine zz_iincK ((y + 1 : Nat) : Int) rfl rfl rfl rfl (by omega) ?_
    refine zz_goto rfl ?_
    refine Ev.take 6 ?_
    refine Ev.heap (show _ = mH h A (mF X 1 (mq (X.2.1 1) (1728 * n + 576 * l.toNat) (mpR w R) (sPg K dx dy D) (y + 1) 0)) from by rw [mq_e mpR_lt]) ?_
    exact ih (y + 1) (by omega)
theorem md_paste {A : Nat → Nat} {X : MX} (hA : mOk A) {S : SS} (hM : mrel X S) (hk : okS S) {l dx dy : Int} (hl : zrg l) (hdx0 : zrg dx) (hdy0 : zrg dy) : Ct Z m_M_paste 3 0 0 [.ref (A 0), zI l, zI dx, zI dy] (mH h A X) (mdI h A S (sLy S l ∧ (-100 ≤ dx ∧ dx ≤ 100) ∧ -100 ≤ dy ∧ dy ≤ 100) ((sCopy S).isSome = true) (((zc2 (fun j i => decide (sSl (sCur S) i j ∧ sPs ((sCopy S).getD sK0) dx dy i j)) (sw (sCur S)) (sh (sCur S)) : Nat) : Int)) (sAdd S (sPut (sCur S) l (sPg ((sCopy S).getD sK0) dx dy (sD (sl (sCur S) l.toNat)))))) := by
  rcases hK : sCopy S with - | K
  · have h3 : X.1 3 = 0 := by have h9 := hM.2.2.1; rw [hK] at h9; exact h9
    refine zct rfl (by decide) ok_M_paste rfl rfl ?_
    refine zz_aload_n rfl rfl ?_
    refine zz_aload_n rfl rfl ?_
    refine zz_iload_n rfl rfl ?_
    refine zz_Vp rfl lk_M_89 cw_M_isLayer rfl (m0 hA) (ct_MisLayer hA hM hk hl) rfl rfl rfl rfl ?_
    refine zz_ifB_eq rfl (fun hb6 => ?_) (fun hb6 => ?_)
    · skip
      refine zz_iconst rfl ?_
      refine zz_goto rfl ?_
      refine zz_putf rfl fl_M_50 (m0 hA) (pt_1_0 rfl rfl) (zblt rfl) ?_
      refine Ev.heap (ws0 hA) ?_
      refine zz_aload_n rfl rfl ?_
      refine zz_getf rfl fl_M_50 (m0 hA) rfl ?_
      refine zz_eq (show _ = (1 : Int) from rfl) ?_
      refine zz_if_le rfl ⟨by decide, by decide⟩ (fun hb54 => absurd hb54 (by decide)) (fun hb54 => ?_)
      refine zz_iconst rfl ?_
      refine zz_iret rfl rfl ⟨0, rfl, z00, _, rfl, Or.inl ⟨(fun g => hb6 g.1), rfl, hM.S0 _⟩⟩
    · skip
      refine zz_iload_n rfl rfl ?_
      refine zz_bipush rfl (by decide) ?_
      refine zz_bipush rfl (by decide) ?_
      refine zz_Sp rfl lk_M_71 cw_M_in (ct_Min hdx0 ⟨by decide, by decide⟩ ⟨by decide, by decide⟩) rfl rfl rfl rfl ?_
      refine zz_ifB_eq rfl (fun hb17 => ?_) (fun hb17 => ?_)
      · skip
        refine zz_iconst rfl ?_
        refine zz_goto rfl ?_
        refine zz_putf rfl fl_M_50 (m0 hA) (pt_1_0 rfl rfl) (zblt rfl) ?_
        refine Ev.heap (ws0 hA) ?_
        refine zz_aload_n rfl rfl ?_
        refine zz_getf rfl fl_M_50 (m0 hA) rfl ?_
        refine zz_eq (show _ = (1 : Int) from rfl) ?_
        refine zz_if_le rfl ⟨by decide, by decide⟩ (fun hb54 => absurd hb54 (by decide)) (fun hb54 => ?_)
        refine zz_iconst rfl ?_
        refine zz_iret rfl rfl ⟨0, rfl, z00, _, rfl, Or.inl ⟨(fun g => hb17 g.2.1), rfl, hM.S0 _⟩⟩
      · skip
        refine zz_iload_n rfl rfl ?_
        refine zz_bipush rfl (by decide) ?_
        refine zz_bipush rfl (by decide) ?_
        refine zz_Sp rfl lk_M_71 cw_M_in (ct_Min hdy0 ⟨by decide, by decide⟩ ⟨by decide, by decide⟩) rfl rfl rfl rfl ?_
        refine zz_ifB_ne rfl (fun hb28 => ?_) (fun hb28 => ?_)
        · skip
          refine zz_aload_n rfl rfl ?_
          refine zz_getf rfl fl_M_161 (m0 hA) rfl ?_
          refine zz_eq (show _ = (0 : Int) from h3) ?_
          refine zz_if_ne rfl ⟨by decide, by decide⟩ (fun hb39 => absurd hb39 (by decide)) (fun hb39 => ?_)
          refine zz_iconst rfl ?_
          refine zz_goto rfl ?_
          refine zz_putf rfl fl_M_50 (m0 hA) (pt_1_0 rfl rfl) (zblt rfl) ?_
          refine Ev.heap (ws0 hA) ?_
          refine zz_aload_n rfl rfl ?_
          refine zz_getf rfl fl_M_50 (m0 hA) rfl ?_
          refine zz_eq (show _ = (2 : Int) from rfl) ?_
          refine zz_if_le rfl ⟨by decide, by decide⟩ (fun hb54 => absurd hb54 (by decide)) (fun hb54 => ?_)
          refine zz_iconst rfl ?_
          refine zz_iret rfl rfl ⟨0, rfl, z00, _, rfl, Or.inr (Or.inl ⟨⟨hb6, hb17, hb28⟩, (fun g => by cases g), rfl, hM.S0 _⟩)⟩
        · skip
          refine zz_iconst rfl ?_
          refine zz_goto rfl ?_
          refine zz_putf rfl fl_M_50 (m0 hA) (pt_1_0 rfl rfl) (zblt rfl) ?_
          refine Ev.heap (ws0 hA) ?_
          refine zz_aload_n rfl rfl ?_
          refine zz_getf rfl fl_M_50 (m0 hA) rfl ?_
          refine zz_eq (show _ = (1 : Int) from rfl) ?_
          refine zz_if_le rfl ⟨by decide, by decide⟩ (fun hb54 => absurd hb54 (by decide)) (fun hb54 => ?_)
          refine zz_iconst rfl ?_
          refine zz_iret rfl rfl ⟨0, rfl, z00, _, rfl, Or.inl ⟨(fun g => hb28 g.2.2), rfl, hM.S0 _⟩⟩
  · have h3 : X.1 3 = 1 := by have h9 := hM.2.2.1; rw [hK] at h9; exact h9
    have hkK := hk.2.2.2.1 K hK
    show Ct Z m_M_paste 3 0 0 _ (mH h A X) (mdI h A S _ _ ((zc2 (fun j i => decide (sSl (sCur S) i j ∧ sPs K dx dy i j)) (sw (sCur S)) (sh (sCur S)) : Nat) : Int) (sAdd S (sPut (sCur S) l (sPg K dx dy (sD (sl (sCur S) l.toNat))))))
    refine zct rfl (by decide) ok_M_paste rfl rfl ?_
    refine zz_aload_n rfl rfl ?_
    refine zz_aload_n rfl rfl ?_
    refine zz_iload_n rfl rfl ?_
    refine zz_Vp rfl lk_M_89 cw_M_isLayer rfl (m0 hA) (ct_MisLayer hA hM hk hl) rfl rfl rfl rfl ?_
    refine zz_ifB_eq rfl (fun hb6 => ?_) (fun hb6 => ?_)
    · skip
      refine zz_iconst rfl ?_
      refine zz_goto rfl ?_
      refine zz_putf rfl fl_M_50 (m0 hA) (pt_1_0 rfl rfl) (zblt rfl) ?_
      refine Ev.heap (ws0 hA) ?_
      refine zz_aload_n rfl rfl ?_
      refine zz_getf rfl fl_M_50 (m0 hA) rfl ?_
      refine zz_eq (show _ = (1 : Int) from rfl) ?_
      refine zz_if_le rfl ⟨by decide, by decide⟩ (fun hb54 => absurd hb54 (by decide)) (fun hb54 => ?_)
      refine zz_iconst rfl ?_
      refine zz_iret rfl rfl ⟨0, rfl, z00, _, rfl, Or.inl ⟨(fun g => hb6 g.1), rfl, hM.S0 _⟩⟩
    · skip
      refine zz_iload_n rfl rfl ?_
      refine zz_bipush rfl (by decide) ?_
      refine zz_bipush rfl (by decide) ?_
      refine zz_Sp rfl lk_M_71 cw_M_in (ct_Min hdx0 ⟨by decide, by decide⟩ ⟨by decide, by decide⟩) rfl rfl rfl rfl ?_
      refine zz_ifB_eq rfl (fun hb17 => ?_) (fun hb17 => ?_)
      · skip
        refine zz_iconst rfl ?_
        refine zz_goto rfl ?_
        refine zz_putf rfl fl_M_50 (m0 hA) (pt_1_0 rfl rfl) (zblt rfl) ?_
        refine Ev.heap (ws0 hA) ?_
        refine zz_aload_n rfl rfl ?_
        refine zz_getf rfl fl_M_50 (m0 hA) rfl ?_
        refine zz_eq (show _ = (1 : Int) from rfl) ?_
        refine zz_if_le rfl ⟨by decide, by decide⟩ (fun hb54 => absurd hb54 (by decide)) (fun hb54 => ?_)
        refine zz_iconst rfl ?_
        refine zz_iret rfl rfl ⟨0, rfl, z00, _, rfl, Or.inl ⟨(fun g => hb17 g.2.1), rfl, hM.S0 _⟩⟩
      · skip
        refine zz_iload_n rfl rfl ?_
        refine zz_bipush rfl (by decide) ?_
        refine zz_bipush rfl (by decide) ?_
        refine zz_Sp rfl lk_M_71 cw_M_in (ct_Min hdy0 ⟨by decide, by decide⟩ ⟨by decide, by decide⟩) rfl rfl rfl rfl ?_
        refine zz_ifB_ne rfl (fun hb28 => ?_) (fun hb28 => ?_)
        · skip
          refine zz_aload_n rfl rfl ?_
          refine zz_getf rfl fl_M_161 (m0 hA) rfl ?_
          refine zz_eq (show _ = (1 : Int) from h3) ?_
          refine zz_if_ne rfl ⟨by decide, by decide⟩ (fun hb39 => ?_) (fun hb39 => absurd hb39 (by decide))
          refine zz_iconst rfl ?_
          refine zz_putf rfl fl_M_50 (m0 hA) (pt_1_0 rfl rfl) (zblt rfl) ?_
          refine Ev.heap (ws0 hA) ?_
          refine zz_aload_n rfl rfl ?_
          refine zz_getf rfl fl_M_50 (m0 hA) rfl ?_
          refine zz_eq (show _ = (0 : Int) from rfl) ?_
          refine zz_if_le rfl ⟨by decide, by decide⟩ (fun hb54 => ?_) (fun hb54 => absurd hb54 (by decide))
          refine zz_aload_n rfl rfl ?_
          refine zz_V rfl lk_M_83 cw_M_step rfl (m0 hA) (ct_Mstep hA (hM.S0 _) hk hb6.1) rfl rfl rfl rfl ?_
          rintro _ _ ⟨rfl, X1, rfl, h0, hM1⟩
          refine zaft_u ?_
          have hhas := hb6.1
          have hP : okP (sCur S) := (hk.1 hhas).2.2 _ (hk.1 hhas).1
          obtain ⟨hc1, hs1⟩ := mradd hM1 hk hhas hP
          have h4 := hc1.1
          have hn6 := sN1_le S
          have hB1 := hM1.2.2.2.2.2.2.2.2.2.2
          obtain ⟨⟨hw1, hw⟩, ⟨hh1, hh⟩, ⟨hn1, hn⟩, hkL, hkR⟩ := id hP
          obtain ⟨hl0, hl1⟩ := id hb6.2
          have hcp1 : mcopy X1 K := hM1.2.2.2.2.2.2.2.2.2.1 K (by rw [show sCopy (sAdd S (sCur S)) = sCopy S from congrArg (fun z : Option SP × Option SK × Int × Int => z.2.1) (sAdd_rest S (sCur S))]; exact hK)
          refine zz_iconst rfl ?_
          refine zz_istore rfl rfl rfl ?_
          refine zz_iconst rfl ?_
          refine zz_istore rfl rfl rfl ?_
          refine Ev.heap (show mH h A X1 = mH h A (mF X1 1 (mq (X1.2.1 1) (1728 * sN1 S + 576 * l.toNat) (mpR (sw (sCur S)) (sr (sCur S))) (sPg K dx dy (sD (sl (sCur S) l.toNat))) 0 0)) from by rw [mq_0, mF_id]) ?_
          refine tm_paste_o (X := X1) (K := K) (D := (sD (sl (sCur S) l.toNat))) hA hc1 ⟨by omega, by omega⟩ hb17 hb28 hkK hcp1 (hs1.2.2.2.2 l.toNat (by omega)).2.2.2 ?_ (sh (sCur S)) 0 (by omega)
          refine zz_iload rfl rfl ?_
          refine zz_iret rfl rfl ⟨((zc2 (fun j i => decide (sSl (sCur S) i j ∧ sPs K dx dy i j)) (sw (sCur S)) (sh (sCur S)) : Nat) : Int), rfl, ?_, _, rfl, Or.inr (Or.inr ⟨⟨hb6, hb17, hb28⟩, rfl, h0, rfl, hM1.put hk hhas hP ⟨hl0, hl1⟩ (fun i j hi hj hb => rfl)⟩)⟩
          have e8 := zc2_le (fun j i => decide (sSl (sCur S) i j ∧ sPs K dx dy i j)) (sw (sCur S)) (sh (sCur S))
          have e7 := Nat.mul_le_mul hw hh
          exact ⟨by omega, by omega⟩
        · skip
          refine zz_iconst rfl ?_
          refine zz_goto rfl ?_
          refine zz_putf rfl fl_M_50 (m0 hA) (pt_1_0 rfl rfl) (zblt rfl) ?_
          refine Ev.heap (ws0 hA) ?_
          refine zz_aload_n rfl rfl ?_
          refine zz_getf rfl fl_M_50 (m0 hA) rfl ?_
          refine zz_eq (show _ = (1 : Int) from rfl) ?_
          refine zz_if_le rfl ⟨by decide, by decide⟩ (fun hb54 => absurd hb54 (by decide)) (fun hb54 => ?_)
          refine zz_iconst rfl ?_
          refine zz_iret rfl rfl ⟨0, rfl, z00, _, rfl, Or.inl ⟨(fun g => hb28 g.2.2), rfl, hM.S0 _⟩⟩
end MQ5
