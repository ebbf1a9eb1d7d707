section MU
variable {Z : ZC} {h : ZH}
def mpR (w : Nat) (R : Nat → Nat) (i j : Nat) : Bool := decide (i < w) && (R j).testBit i
theorem mpR_lt {w : Nat} {R : Nat → Nat} (i j : Nat) (h : mpR w R i j = true) : i < w := by
  unfold mpR at h
  rw [Bool.and_eq_true, decide_eq_true_eq] at h
  exact h.1
theorem mpR_t {w : Nat} {R : Nat → Nat} {i j : Nat} (hi : i < w) : mpR w R i j = (R j).testBit i := by
  unfold mpR
  rw [decide_eq_true hi, Bool.true_and]
def mpA (w : Nat) (i _j : Nat) : Bool := decide (i < w)
theorem mpA_lt {w : Nat} (i j : Nat) (h : mpA w i j = true) : i < w := of_decide_eq_true h
theorem mpA_t {w i j : Nat} (hi : i < w) : mpA w i j = true := decide_eq_true hi
theorem mq_s {f : Nat → Int} {b y x : Nat} {p : Nat → Nat → Bool} {G : Nat → Nat → Int} (hx : x < 24) (hg : G x y = f (b + 24 * y + x)) : mq f b p G y x = mq f b p G y (x + 1) := by
  cases hp : p x y
  · exact mq_f hp
  · rw [← mq_t hx hp rfl rfl]
    funext q
    unfold zup
    split
    · next h9 =>
      rw [hg, h9]
      unfold mq
      rw [if_neg (by omega)]
    · rfl
theorem mput_eq {A : Nat → Nat} {X : MX} {n w x y : Nat} {l v : Int} {R : Nat → Nat} {G : Nat → Nat → Int} (hx : x < w) (hw : w ≤ 24) (hv : (R y).testBit x = true → v = G x y) : mH h A (if (R y).testBit x = true then mF (mF X 1 (mq (X.2.1 1) (1728 * n + 576 * l.toNat) (mpR w R) G y x)) 1 (zup ((mF X 1 (mq (X.2.1 1) (1728 * n + 576 * l.toNat) (mpR w R) G y x)).2.1 1) (1728 * n + 576 * l.toNat + 24 * y + x) v) else mF X 1 (mq (X.2.1 1) (1728 * n + 576 * l.toNat) (mpR w R) G y x)) = mH h A (mF X 1 (mq (X.2.1 1) (1728 * n + 576 * l.toNat) (mpR w R) G y (x + 1))) := by
  by_cases hb : (R y).testBit x = true
  · rw [if_pos hb, mF_mF]
    show mH h A (mF X 1 (zup (mq (X.2.1 1) (1728 * n + 576 * l.toNat) (mpR w R) G y x) _ v)) = _
    rw [mq_t (by omega) (by rw [mpR_t hx]; exact hb) rfl (hv hb)]
  · rw [if_neg hb, mq_f (by rw [mpR_t hx]; exact Bool.eq_false_iff.mpr hb)]
def mwas (X : MX) (w ht : Nat) (D : Nat → Nat → Int) : Prop := ∀ x y, x < w → y < ht → X.2.1 10 (24 * y + x) = D x y
theorem mwas.F1 {X : MX} {w ht : Nat} {D : Nat → Nat → Int} (h : mwas X w ht D) (f : Nat → Int) : mwas (mF X 1 f) w ht D := h
theorem mwas.F11 {X : MX} {w ht : Nat} {D : Nat → Nat → Int} (h : mwas X w ht D) (f : Nat → Int) : mwas (mF X 11 f) w ht D := h
theorem mrel.F10 {X : MX} {S : SS} (h : mrel X S) (f : Nat → Int) : mrel (mF X 10 f) S := h
theorem mrel.F11 {X : MX} {S : SS} (h : mrel X S) (f : Nat → Int) : mrel (mF X 11 f) S := h
theorem mrel.F12 {X : MX} {S : SS} (h : mrel X S) (f : Nat → Int) : mrel (mF X 12 f) S := h
theorem mradd {X : MX} {S : SS} {P : SP} (hM : mrel X (sAdd S P)) (hk : okS S) (hh : sHas S = true) (hP : okP P) : mc X (sN1 S) (sw P) (sh P) (sr P) ∧ mslot X (sN1 S) P := by
  have hc := hM.mc (hk.add hh hP) (sAdd_has _ _)
  rw [sAdd_now, sAdd_cur] at hc
  have hs := hM.2.2.2.2.2.2.2.1 (sAdd_has _ _) (sN1 S) (by rw [sAdd_last]; exact Nat.le_refl _)
  rw [(sAdd_hist S P 0).1] at hs
  exact ⟨hc, hs⟩
theorem mrel.put {X : MX} {S : SS} {P : SP} {l : Int} {G G' : Nat → Nat → Int} (hM : mrel X (sAdd S P)) (hk : okS S) (hh : sHas S = true) (hP : okP P) (hl : 0 ≤ l ∧ l < sn P) (hG : ∀ i j, i < sw P → j < sh P → sSl P i j → G i j = G' i j) : mrel (mF X 1 (mq (X.2.1 1) (1728 * sN1 S + 576 * l.toNat) (mpR (sw P) (sr P)) G (sh P) 0)) (sAdd S (sPut P l G')) := by
  obtain ⟨hc, hs⟩ := mradd hM hk hh hP
  have hh24 := hP.2.1.2
  have hw24 := hP.1.2
  have hn3 := hP.2.2.1.2
  refine hM.upd hk hh (fun _ _ => rfl) (fun i Q hi hne hQ hsl => ?_) ?_ rfl rfl hM.2.2.2.2.2.2.2.2.2.2
  · refine hsl.tr hQ rfl rfl rfl (fun _ _ => rfl) (fun _ _ => rfl) (fun _ _ => rfl) (fun _ _ => rfl) (fun q hq => ?_)
    show mq _ _ _ _ _ _ _ = _
    exact mq_out hh24 (by omega)
  · obtain ⟨h1, h2, h3, h4, h5⟩ := hs
    refine ⟨h1, h2, h3, h4, fun m hm => ?_⟩
    have hm2 : m < sn P := hm
    obtain ⟨g1, g2, g3, g4⟩ := h5 m hm2
    show _ = sM (if (m : Int) = l then _ else sl P m) ∧ _ = sO (if (m : Int) = l then _ else sl P m) ∧ _ = sV (if (m : Int) = l then _ else sl P m) ∧ ∀ x y, x < sw P → y < sh P → mq _ _ _ _ _ _ _ = sD (if (m : Int) = l then _ else sl P m) x y
    by_cases hml : (m : Int) = l
    · have e : l.toNat = m := by omega
      subst e
      rw [if_pos hml]
      refine ⟨g1, g2, g3, fun x y hx hy => ?_⟩
      rw [mq_at (by omega) hy, mpR_t hx]
      show _ = if sSl P x y then G' x y else sD (sl P l.toNat) x y
      by_cases hb : sSl P x y
      · rw [if_pos hb, if_pos hb, hG x y hx hy hb]
      · rw [if_neg hb, if_neg hb]; exact g4 x y hx hy
    · rw [if_neg hml]
      refine ⟨g1, g2, g3, fun x y hx hy => ?_⟩
      rw [mq_out hh24 (by omega)]
      exact g4 x y hx hy
theorem lp_beg_i {A : Nat → Nat} {X : MX} (hA : mOk A) {n w ht : Nat} {R : Nat → Nat} (hc : mc X n w ht R) {l : Int} (hl : 0 ≤ l ∧ l < 3) {MC MS mc ms : Nat} {Q : ZR → ZH → Prop} {y : Nat} (hy : y < ht) (kx : Ev Z (fun _ => True, m_M_beginTool, 3, MC, MS) 53 [.ref (A 0), zI l, zI (y : Nat), zI (w : Nat)] [] (mH h A (mF X 10 (mq (X.2.1 10) 0 (mpA w) (fun i j => X.2.1 1 (1728 * n + 576 * l.toNat + 24 * j + i)) y w))) mc ms Q) : ∀ (m x : Nat), x + m = w → Ev Z (fun _ => True, m_M_beginTool, 3, MC, MS) 16 [.ref (A 0), zI l, zI (y : Nat), zI (x : Nat)] [] (mH h A (mF X 10 (mq (X.2.1 10) 0 (mpA w) (fun i j => X.2.1 1 (1728 * n + 576 * l.toNat + 24 * j + i)) y x))) mc ms Q := by
  have hn6 := hc.2.1
  have hw24 := hc.2.2.2.2.1
  intro m
  induction m with
  | zero =>
    intro x hx
    refine zz_iload_n rfl rfl ?_
    refine zz_aload_n rfl rfl ?_
    refine zz_Vp rfl lk_M_100 cw_M_w rfl (m0 hA) (ct_Mw hA (hc.F 10 _ rfl)) rfl rfl rfl rfl ?_
    refine zz_icmp_ge rfl (by omega) (by omega) (fun hb21 => ?_) (fun hb21 => absurd hb21 (by omega))
    obtain rfl : x = w := by omega
    exact kx
  | succ m ih =>
    intro x hx
    have hxw : x < w := by omega
    refine zz_iload_n rfl rfl ?_
    refine zz_aload_n rfl rfl ?_
    refine zz_Vp rfl lk_M_100 cw_M_w rfl (m0 hA) (ct_Mw hA (hc.F 10 _ rfl)) rfl rfl rfl rfl ?_
    refine zz_icmp_ge rfl (by omega) (by omega) (fun hb21 => absurd hb21 (by omega)) (fun hb21 => ?_)
    refine zz_aload_n rfl rfl ?_
    refine zz_getf rfl fl_M_41 (m0 hA) rfl ?_
    refine zz_bipush rfl (by decide) ?_
    refine zz_iload_n rfl rfl ?_
    refine zz_imul rfl ?_
    refine zz_iload_n rfl rfl ?_
    refine zz_iadd rfl ?_
    refine zz_aload_n rfl rfl ?_
    refine zz_getf rfl fl_M_7 (m0 hA) rfl ?_
    refine zz_aload_n rfl rfl ?_
    refine zz_iload_n rfl rfl ?_
    refine zz_iload_n rfl rfl ?_
    refine zz_iload_n rfl rfl ?_
    refine zz_Vp rfl lk_M_132 cw_M_at rfl (m0 hA) (ct_Mat hA (hc.F 10 _ rfl).1) rfl rfl rfl rfl ?_
    refine zz_iald rfl (m1 hA) (by decide) (by omega) ?_
    refine zz_iast rfl (m10 hA) (by decide) (by omega) ?_
    refine Ev.heap (w10 hA) ?_
    refine Ev.heap (show mH h A (mF (mF X 10 (mq (X.2.1 10) 0 (mpA w) (fun i j => X.2.1 1 (1728 * n + 576 * l.toNat + 24 * j + i)) y x)) 10 (zup (mq (X.2.1 10) 0 (mpA w) (fun i j => X.2.1 1 (1728 * n + 576 * l.toNat + 24 * j + i)) y x) (24 * (y : Int) + (x : Int)).toNat (X.2.1 1 (1728 * (n : Int) + 576 * l + 24 * (y : Int) + (x : Int)).toNat))) = mH h A (mF X 10 (mq (X.2.1 10) 0 (mpA w) (fun i j => X.2.1 1 (1728 * n + 576 * l.toNat + 24 * j + i)) y (x + 1))) from by rw [mF_mF, mq_t (by omega) (mpA_t hxw) (by omega) (congrArg (X.2.1 1) (by omega))]) ?_
    refine zz_iincK ((x + 1 : Nat) : Int) rfl rfl rfl rfl (by omega) ?_
    refine zz_goto rfl ?_
    exact ih (x + 1) (by omega)
theorem lp_beg_o {A : Nat → Nat} {X : MX} (hA : mOk A) {n w ht : Nat} {R : Nat → Nat} (hc : mc X n w ht R) {l : Int} (hl : 0 ≤ l ∧ l < 3) {MC MS mc ms : Nat} {Q : ZR → ZH → Prop} (kx : Ev Z (fun _ => True, m_M_beginTool, 3, MC, MS) 59 [.ref (A 0), zI l, zI (ht : Nat)] [] (mH h A (mF X 10 (mq (X.2.1 10) 0 (mpA w) (fun i j => X.2.1 1 (1728 * n + 576 * l.toNat + 24 * j + i)) ht 0))) mc ms Q) : ∀ (m y : Nat), y + m = ht → Ev Z (fun _ => True, m_M_beginTool, 3, MC, MS) 6 [.ref (A 0), zI l, zI (y : Nat)] [] (mH h A (mF X 10 (mq (X.2.1 10) 0 (mpA w) (fun i j => X.2.1 1 (1728 * n + 576 * l.toNat + 24 * j + i)) y 0))) mc ms Q := by
  have hn6 := hc.2.1
  have hw24 := hc.2.2.2.2.1
  intro m
  induction m with
  | zero =>
    intro y hy
    refine zz_iload_n rfl rfl ?_
    refine zz_aload_n rfl rfl ?_
    refine zz_Vp rfl lk_M_96 cw_M_h rfl (m0 hA) (ct_Mh hA (hc.F 10 _ rfl)) rfl rfl rfl rfl ?_
    refine zz_icmp_ge rfl (by omega) (by omega) (fun hb11 => ?_) (fun hb11 => absurd hb11 (by omega))
    obtain rfl : y = ht := by omega
    exact kx
  | succ m ih =>
    intro y hy
    refine zz_iload_n rfl rfl ?_
    refine zz_aload_n rfl rfl ?_
    refine zz_Vp rfl lk_M_96 cw_M_h rfl (m0 hA) (ct_Mh hA (hc.F 10 _ rfl)) rfl rfl rfl rfl ?_
    refine zz_icmp_ge rfl (by omega) (by omega) (fun hb11 => absurd hb11 (by omega)) (fun hb11 => ?_)
    refine zz_iconst rfl ?_
    refine zz_istore_n rfl rfl rfl ?_
    refine lp_beg_i hA hc hl (by omega) ?_ w 0 (by omega)
    refine zz_iincK ((y + 1 : Nat) : Int) rfl rfl rfl rfl (by omega) ?_
    refine zz_goto rfl ?_
    refine Ev.take 3 ?_
    refine Ev.heap (show _ = mH h A (mF X 10 (mq (X.2.1 10) 0 (mpA w) (fun i j => X.2.1 1 (1728 * n + 576 * l.toNat + 24 * j + i)) (y + 1) 0)) from by rw [mq_e mpA_lt]) ?_
    exact ih (y + 1) (by omega)
theorem ct_Mbeg {A : Nat → Nat} {X : MX} (hA : mOk A) {S : SS} (hM : mrel X S) (hk : okS S) {l : Int} (hly : sLy S l) : Ct Z m_M_beginTool 3 0 0 [.ref (A 0), zI l] (mH h A X) (fun r h' => r = .inl none ∧ ∃ X', h' = mH h A X' ∧ X'.1 0 = X.1 0 ∧ mrel X' (sAdd S (sCur S)) ∧ mwas X' (sw (sCur S)) (sh (sCur S)) (sD (sl (sCur S) l.toNat))) := by
  refine zct rfl (by decide) ok_M_beginTool rfl rfl ?_
  refine zz_aload_n rfl rfl ?_
  refine zz_V rfl lk_M_83 cw_M_step rfl (m0 hA) (ct_Mstep hA hM hk hly.1) rfl rfl rfl rfl ?_
  rintro _ _ ⟨rfl, X1, rfl, h0, hM1⟩
  refine zaft_u ?_
  have hP : okP (sCur S) := (hk.1 hly.1).2.2 _ (hk.1 hly.1).1
  obtain ⟨hc1, hs1⟩ := mradd hM1 hk hly.1 hP
  have hn3 := hP.2.2.1.2
  have hl2 := hly.2
  refine zz_iconst rfl ?_
  refine zz_istore_n rfl rfl rfl ?_
  refine Ev.heap (show mH h A X1 = mH h A (mF X1 10 (mq (X1.2.1 10) 0 (mpA (sw (sCur S))) (fun i j => X1.2.1 1 (1728 * sN1 S + 576 * l.toNat + 24 * j + i)) 0 0)) from by rw [mq_0, mF_id]) ?_
  refine lp_beg_o hA hc1 ⟨by omega, by omega⟩ ?_ (sh (sCur S)) 0 (by omega)
  refine zz_vret rfl rfl ⟨rfl, _, rfl, h0, hM1.F10 _, fun x y hx hy => ?_⟩
  have e9 := mq_at (f := X1.2.1 10) (b := 0) (p := mpA (sw (sCur S))) (G := (fun i j => X1.2.1 1 (1728 * sN1 S + 576 * l.toNat + 24 * j + i))) (ht := sh (sCur S)) (i := x) (j := y) (by have := hP.1.2; omega) hy
  rw [Nat.zero_add, mpA_t hx, if_pos rfl] at e9
  exact e9.trans ((hs1.2.2.2.2 l.toNat (by omega)).2.2.2 x y hx hy)
theorem ct_Mbefore {A : Nat → Nat} {X : MX} (hA : mOk A) {n w ht : Nat} {R : Nat → Nat} (hc : mc X n w ht R) {D : Nat → Nat → Int} (hwas : mwas X w ht D) {x y : Int} (hx : zrg x) (hy : zrg y) : Ct Z m_M_before 1 0 0 [.ref (A 0), zI x, zI y] (mH h A X) (zP (zI (zldt (sFl D w) w ht x y)) (mH h A X)) := by
  have hw24 := hc.2.2.2.2.1
  refine zct rfl (by decide) ok_M_before rfl rfl ?_
  refine zz_iload_n rfl rfl ?_
  refine zz_if_lt rfl (by omega) (fun hb1 => ?_) (fun hb1 => ?_)
  · skip
    refine zz_iconst rfl ?_
    refine zz_goto rfl ?_
    refine zz_iret rfl rfl (zret_e (by unfold zldt; rw [if_neg (fun h9 => by have := h9.1; have := h9.2.1; have := h9.2.2.1; have := h9.2.2.2; omega)]))
  · skip
    refine zz_iload_n rfl rfl ?_
    refine zz_aload_n rfl rfl ?_
    refine zz_Vp rfl lk_M_100 cw_M_w rfl (m0 hA) (ct_Mw hA hc) rfl rfl rfl rfl ?_
    refine zz_icmp_ge rfl (by omega) (by omega) (fun hb9 => ?_) (fun hb9 => ?_)
    · skip
      refine zz_iconst rfl ?_
      refine zz_goto rfl ?_
      refine zz_iret rfl rfl (zret_e (by unfold zldt; rw [if_neg (fun h9 => by have := h9.1; have := h9.2.1; have := h9.2.2.1; have := h9.2.2.2; omega)]))
    · skip
      refine zz_iload_n rfl rfl ?_
      refine zz_if_lt rfl (by omega) (fun hb13 => ?_) (fun hb13 => ?_)
      · skip
        refine zz_iconst rfl ?_
        refine zz_goto rfl ?_
        refine zz_iret rfl rfl (zret_e (by unfold zldt; rw [if_neg (fun h9 => by have := h9.1; have := h9.2.1; have := h9.2.2.1; have := h9.2.2.2; omega)]))
      · skip
        refine zz_iload_n rfl rfl ?_
        refine zz_aload_n rfl rfl ?_
        refine zz_Vp rfl lk_M_96 cw_M_h rfl (m0 hA) (ct_Mh hA hc) rfl rfl rfl rfl ?_
        refine zz_icmp_lt rfl (by omega) (by omega) (fun hb21 => ?_) (fun hb21 => ?_)
        · skip
          refine zz_aload_n rfl rfl ?_
          refine zz_getf rfl fl_M_41 (m0 hA) rfl ?_
          refine zz_bipush rfl (by decide) ?_
          refine zz_iload_n rfl rfl ?_
          refine zz_imul rfl ?_
          refine zz_iload_n rfl rfl ?_
          refine zz_iadd rfl ?_
          refine zz_iald rfl (m10 hA) (by decide) ⟨by omega, by omega⟩ ?_
          refine zz_iret rfl rfl (zret_e ?_)
          have h1 : x.toNat < w := by omega
          have h2 : y.toNat < ht := by omega
          have e3 := sDt_in (D := D) h1 h2
          rw [Int.toNat_of_nonneg (by omega), Int.toNat_of_nonneg (by omega)] at e3
          rw [e3, ← hwas _ _ h1 h2]
          exact congrArg (X.2.1 10) (by omega)
        · skip
          refine zz_iconst rfl ?_
          refine zz_goto rfl ?_
          refine zz_iret rfl rfl (zret_e (by unfold zldt; rw [if_neg (fun h9 => by have := h9.1; have := h9.2.1; have := h9.2.2.1; have := h9.2.2.2; omega)]))
theorem tm_fill_i {A : Nat → Nat} {X : MX} (hA : mOk A) {n w ht : Nat} {R : Nat → Nat} (hc : mc X n w ht R) {l : Int} (hl : 0 ≤ l ∧ l < 3) {d : Int} {MC MS mc ms : Nat} {Q : ZR → ZH → Prop} {y : Nat} (hy : y < ht) (kx : Ev Z (fun _ => True, m_M_fill, 4, MC, MS) 63 [.ref (A 0), zI l, zI d, zI (y : Nat), zI (w : Nat)] [] (mH h A (mF X 1 (mq (X.2.1 1) (1728 * n + 576 * l.toNat) (mpR w R) (fun _ _ => d) y w))) mc ms Q) : ∀ (m x : Nat), x + m = w → Ev Z (fun _ => True, m_M_fill, 4, MC, MS) 39 [.ref (A 0), zI l, zI d, zI (y : Nat), zI (x : Nat)] [] (mH h A (mF X 1 (mq (X.2.1 1) (1728 * n + 576 * l.toNat) (mpR w R) (fun _ _ => d) y x))) mc ms Q := by
  have hn6 := hc.2.1
  have hw24 := hc.2.2.2.2.1
  intro m
  induction m with
  | zero =>
    intro x hx
    refine zz_iload rfl rfl ?_
    refine zz_aload_n rfl rfl ?_
    refine zz_Vp rfl lk_M_100 cw_M_w rfl (m0 hA) (ct_Mw hA (hc.F 1 _ rfl)) rfl rfl rfl rfl ?_
    refine zz_icmp_ge rfl (by omega) (by omega) (fun hb45 => ?_) (fun hb45 => absurd hb45 (by omega))
    obtain rfl : x = w := by omega
    exact kx
  | succ m ih =>
    intro x hx
    have hxw : x < w := by omega
    refine zz_iload rfl rfl ?_
    refine zz_aload_n rfl rfl ?_
    refine zz_Vp rfl lk_M_100 cw_M_w rfl (m0 hA) (ct_Mw hA (hc.F 1 _ rfl)) rfl rfl rfl rfl ?_
    refine zz_icmp_ge rfl (by omega) (by omega) (fun hb45 => absurd hb45 (by omega)) (fun hb45 => ?_)
    refine zz_aload_n rfl rfl ?_
    refine zz_iload_n rfl rfl ?_
    refine zz_iload rfl rfl ?_
    refine zz_iload_n rfl rfl ?_
    refine zz_iload_n rfl rfl ?_
    refine zz_Vu rfl lk_M_138 cw_M_put rfl (m0 hA) (ct_Mput hA (hc.F 1 _ rfl) hxw hy hl) rfl rfl rfl rfl ?_
    refine Ev.heap (mput_eq hxw hw24.1 (fun hbit => rfl)) ?_
    refine zz_iincK ((x + 1 : Nat) : Int) rfl rfl rfl rfl (by omega) ?_
    refine zz_goto rfl ?_
    exact ih (x + 1) (by omega)
theorem tm_fill_o {A : Nat → Nat} {X : MX} (hA : mOk A) {n w ht : Nat} {R : Nat → Nat} (hc : mc X n w ht R) {l : Int} (hl : 0 ≤ l ∧ l < 3) {d : Int} {MC MS mc ms : Nat} {Q : ZR → ZH → Prop} (kx : Ev Z (fun _ => True, m_M_fill, 4, MC, MS) 69 [.ref (A 0), zI l, zI d, zI (ht : Nat)] [] (mH h A (mF X 1 (mq (X.2.1 1) (1728 * n + 576 * l.toNat) (mpR w R) (fun _ _ => d) ht 0))) mc ms Q) : ∀ (m y : Nat), y + m = ht → Ev Z (fun _ => True, m_M_fill, 4, MC, MS) 28 [.ref (A 0), zI l, zI d, zI (y : Nat)] [] (mH h A (mF X 1 (mq (X.2.1 1) (1728 * n + 576 * l.toNat) (mpR w R) (fun _ _ => d) y 0))) mc ms Q := by
  have hn6 := hc.2.1
  have hw24 := hc.2.2.2.2.1
  intro m
  induction m with
  | zero =>
    intro y hy
    refine zz_iload_n rfl rfl ?_
    refine zz_aload_n rfl rfl ?_
    refine zz_Vp rfl lk_M_96 cw_M_h rfl (m0 hA) (ct_Mh hA (hc.F 1 _ rfl)) rfl rfl rfl rfl ?_
    refine zz_icmp_ge rfl (by omega) (by omega) (fun hb33 => ?_) (fun hb33 => absurd hb33 (by omega))
    obtain rfl : y = ht := by omega
    exact kx
  | succ m ih =>
    intro y hy
    refine zz_iload_n rfl rfl ?_
    refine zz_aload_n rfl rfl ?_
    refine zz_Vp rfl lk_M_96 cw_M_h rfl (m0 hA) (ct_Mh hA (hc.F 1 _ rfl)) rfl rfl rfl rfl ?_
    refine zz_icmp_ge rfl (by omega) (by omega) (fun hb33 => absurd hb33 (by omega)) (fun hb33 => ?_)
    refine zz_iconst rfl ?_
    refine zz_istore rfl rfl rfl ?_
    refine tm_fill_i hA hc hl (by omega) ?_ w 0 (by omega)
    refine zz_iincK ((y + 1 : Nat) : Int) rfl rfl rfl rfl (by omega) ?_
    refine zz_goto rfl ?_
    refine Ev.take 4 ?_
    refine Ev.heap (show _ = mH h A (mF X 1 (mq (X.2.1 1) (1728 * n + 576 * l.toNat) (mpR w R) (fun _ _ => d) (y + 1) 0)) from by rw [mq_e mpR_lt]) ?_
    exact ih (y + 1) (by omega)
theorem tm_mirr_i {A : Nat → Nat} {X : MX} (hA : mOk A) {n w ht : Nat} {R : Nat → Nat} (hc : mc X n w ht R) {l : Int} (hl : 0 ≤ l ∧ l < 3) {ax : Int} (hax : 0 ≤ ax ∧ ax ≤ 1) {D : Nat → Nat → Int} (hwas : mwas X w ht D) {MC MS mc ms : Nat} {Q : ZR → ZH → Prop} {y : Nat} (hy : y < ht) (kx : Ev Z (fun _ => True, m_M_mirror, 4, MC, MS) 116 [.ref (A 0), zI l, zI ax, zI (y : Nat), zI (w : Nat)] [] (mH h A (mF X 1 (mq (X.2.1 1) (1728 * n + 576 * l.toNat) (mpR w R) (fun x y => zldt (sFl D w) w ht (if ax = 0 then (w : Int) - 1 - (x : Int) else (x : Int)) (if ax = 1 then (ht : Int) - 1 - (y : Int) else (y : Int))) y w))) mc ms Q) : ∀ (m x : Nat), x + m = w → Ev Z (fun _ => True, m_M_mirror, 4, MC, MS) 48 [.ref (A 0), zI l, zI ax, zI (y : Nat), zI (x : Nat)] [] (mH h A (mF X 1 (mq (X.2.1 1) (1728 * n + 576 * l.toNat) (mpR w R) (fun x y => zldt (sFl D w) w ht (if ax = 0 then (w : Int) - 1 - (x : Int) else (x : Int)) (if ax = 1 then (ht : Int) - 1 - (y : Int) else (y : Int))) y x))) mc ms Q := by
  have hn6 := hc.2.1
  have hw24 := hc.2.2.2.2.1
  intro m
  induction m with
  | zero =>
    intro x hx
    refine zz_iload rfl rfl ?_
    refine zz_aload_n rfl rfl ?_
    refine zz_Vp rfl lk_M_100 cw_M_w rfl (m0 hA) (ct_Mw hA (hc.F 1 _ rfl)) rfl rfl rfl rfl ?_
    refine zz_icmp_ge rfl (by omega) (by omega) (fun hb54 => ?_) (fun hb54 => absurd hb54 (by omega))
    obtain rfl : x = w := by omega
    exact kx
  | succ m ih =>
    intro x hx
    have hxw : x < w := by omega
    refine zz_iload rfl rfl ?_
    refine zz_aload_n rfl rfl ?_
    refine zz_Vp rfl lk_M_100 cw_M_w rfl (m0 hA) (ct_Mw hA (hc.F 1 _ rfl)) rfl rfl rfl rfl ?_
    refine zz_icmp_ge rfl (by omega) (by omega) (fun hb54 => absurd hb54 (by omega)) (fun hb54 => ?_)
    refine zz_aload_n rfl rfl ?_
    refine zz_iload_n rfl rfl ?_
    refine zz_iload rfl rfl ?_
    refine zz_iload_n rfl rfl ?_
    refine zz_iload_n rfl rfl ?_
    refine zz_if_ne rfl (by omega) (fun hb63 => ?_) (fun hb63 => ?_)
    · skip
      refine zz_aload_n rfl rfl ?_
      refine zz_getf rfl fl_M_41 (m0 hA) rfl ?_
      refine zz_bipush rfl (by decide) ?_
      refine zz_aload_n rfl rfl ?_
      refine zz_Vp rfl lk_M_96 cw_M_h rfl (m0 hA) (ct_Mh hA (hc.F 1 _ rfl)) rfl rfl rfl rfl ?_
      refine zz_iconst rfl ?_
      refine zz_isub rfl ?_
      refine zz_iload_n rfl rfl ?_
      refine zz_isub rfl ?_
      refine zz_imul rfl ?_
      refine zz_iload rfl rfl ?_
      refine zz_iadd rfl ?_
      refine zz_iald rfl (m10 hA) (by decide) ⟨by omega, by omega⟩ ?_
      have hmv : X.2.1 10 (24 * ((ht : Int) - 1 - (y : Int)) + (x : Int)).toNat = zldt (sFl D w) w ht (x : Int) ((ht : Int) - 1 - (y : Int)) := by
        have e3 := sDt_in (D := D) (w := w) (ht := ht) (x := x) (y := ht - 1 - y) hxw (by omega)
        rw [show ((ht - 1 - y : Nat) : Int) = (ht : Int) - 1 - (y : Int) by omega] at e3
        rw [e3, ← hwas x (ht - 1 - y) hxw (by omega)]
        exact congrArg (X.2.1 10) (by omega)
      refine zz_Vu rfl lk_M_138 cw_M_put rfl (m0 hA) (ct_Mput hA (hc.F 1 _ rfl) hxw hy hl) rfl rfl rfl rfl ?_
      refine Ev.heap (mput_eq hxw hw24.1 (fun hbit => (show _ = zldt (sFl D w) w ht (if ax = 0 then (w : Int) - 1 - (x : Int) else (x : Int)) (if ax = 1 then (ht : Int) - 1 - (y : Int) else (y : Int)) from by rw [if_neg hb63, if_pos (by omega : ax = 1)]; exact hmv))) ?_
      refine zz_iincK ((x + 1 : Nat) : Int) rfl rfl rfl rfl (by omega) ?_
      refine zz_goto rfl ?_
      exact ih (x + 1) (by omega)
    · skip
      refine zz_aload_n rfl rfl ?_
      refine zz_getf rfl fl_M_41 (m0 hA) rfl ?_
      refine zz_bipush rfl (by decide) ?_
      refine zz_iload_n rfl rfl ?_
      refine zz_imul rfl ?_
      refine zz_aload_n rfl rfl ?_
      refine zz_Vp rfl lk_M_100 cw_M_w rfl (m0 hA) (ct_Mw hA (hc.F 1 _ rfl)) rfl rfl rfl rfl ?_
      refine zz_iadd rfl ?_
      refine zz_iconst rfl ?_
      refine zz_isub rfl ?_
      refine zz_iload rfl rfl ?_
      refine zz_isub rfl ?_
      refine zz_iald rfl (m10 hA) (by decide) ⟨by omega, by omega⟩ ?_
      refine zz_goto rfl ?_
      have hmv : X.2.1 10 (24 * (y : Int) + (w : Int) - 1 - (x : Int)).toNat = zldt (sFl D w) w ht ((w : Int) - 1 - (x : Int)) (y : Int) := by
        have e3 := sDt_in (D := D) (w := w) (ht := ht) (x := w - 1 - x) (y := y) (by omega) hy
        rw [show ((w - 1 - x : Nat) : Int) = (w : Int) - 1 - (x : Int) by omega] at e3
        rw [e3, ← hwas (w - 1 - x) y (by omega) hy]
        exact congrArg (X.2.1 10) (by omega)
      refine zz_Vu rfl lk_M_138 cw_M_put rfl (m0 hA) (ct_Mput hA (hc.F 1 _ rfl) hxw hy hl) rfl rfl rfl rfl ?_
      refine Ev.heap (mput_eq hxw hw24.1 (fun hbit => (show _ = zldt (sFl D w) w ht (if ax = 0 then (w : Int) - 1 - (x : Int) else (x : Int)) (if ax = 1 then (ht : Int) - 1 - (y : Int) else (y : Int)) from by rw [if_pos hb63, if_neg (by omega : ¬ ax = 1)]; exact hmv))) ?_
      refine zz_iincK ((x + 1 : Nat) : Int) rfl rfl rfl rfl (by omega) ?_
      refine zz_goto rfl ?_
      exact ih (x + 1) (by omega)
theorem tm_mirr_o {A : Nat → Nat} {X : MX} (hA : mOk A) {n w ht : Nat} {R : Nat → Nat} (hc : mc X n w ht R) {l : Int} (hl : 0 ≤ l ∧ l < 3) {ax : Int} (hax : 0 ≤ ax ∧ ax ≤ 1) {D : Nat → Nat → Int} (hwas : mwas X w ht D) {MC MS mc ms : Nat} {Q : ZR → ZH → Prop} (kx : Ev Z (fun _ => True, m_M_mirror, 4, MC, MS) 122 [.ref (A 0), zI l, zI ax, zI (ht : Nat)] [] (mH h A (mF X 1 (mq (X.2.1 1) (1728 * n + 576 * l.toNat) (mpR w R) (fun x y => zldt (sFl D w) w ht (if ax = 0 then (w : Int) - 1 - (x : Int) else (x : Int)) (if ax = 1 then (ht : Int) - 1 - (y : Int) else (y : Int))) ht 0))) mc ms Q) : ∀ (m y : Nat), y + m = ht → Ev Z (fun _ => True, m_M_mirror, 4, MC, MS) 37 [.ref (A 0), zI l, zI ax, zI (y : Nat)] [] (mH h A (mF X 1 (mq (X.2.1 1) (1728 * n + 576 * l.toNat) (mpR w R) (fun x y => zldt (sFl D w) w ht (if ax = 0 then (w : Int) - 1 - (x : Int) else (x : Int)) (if ax = 1 then (ht : Int) - 1 - (y : Int) else (y : Int))) y 0))) mc ms Q := by
  have hn6 := hc.2.1
  have hw24 := hc.2.2.2.2.1
  intro m
  induction m with
  | zero =>
    intro y hy
    refine zz_iload_n rfl rfl ?_
    refine zz_aload_n rfl rfl ?_
    refine zz_Vp rfl lk_M_96 cw_M_h rfl (m0 hA) (ct_Mh hA (hc.F 1 _ rfl)) rfl rfl rfl rfl ?_
    refine zz_icmp_ge rfl (by omega) (by omega) (fun hb42 => ?_) (fun hb42 => absurd hb42 (by omega))
    obtain rfl : y = ht := by omega
    exact kx
  | succ m ih =>
    intro y hy
    refine zz_iload_n rfl rfl ?_
    refine zz_aload_n rfl rfl ?_
    refine zz_Vp rfl lk_M_96 cw_M_h rfl (m0 hA) (ct_Mh hA (hc.F 1 _ rfl)) rfl rfl rfl rfl ?_
    refine zz_icmp_ge rfl (by omega) (by omega) (fun hb42 => absurd hb42 (by omega)) (fun hb42 => ?_)
    refine zz_iconst rfl ?_
    refine zz_istore rfl rfl rfl ?_
    refine tm_mirr_i hA hc hl hax hwas (by omega) ?_ w 0 (by omega)
    refine zz_iincK ((y + 1 : Nat) : Int) rfl rfl rfl rfl (by omega) ?_
    refine zz_goto rfl ?_
    refine Ev.take 4 ?_
    refine Ev.heap (show _ = mH h A (mF X 1 (mq (X.2.1 1) (1728 * n + 576 * l.toNat) (mpR w R) (fun x y => zldt (sFl D w) w ht (if ax = 0 then (w : Int) - 1 - (x : Int) else (x : Int)) (if ax = 1 then (ht : Int) - 1 - (y : Int) else (y : Int))) (y + 1) 0)) from by rw [mq_e mpR_lt]) ?_
    exact ih (y + 1) (by omega)
theorem tm_shift_i {A : Nat → Nat} {X : MX} (hA : mOk A) {n w ht : Nat} {R : Nat → Nat} (hc : mc X n w ht R) {l : Int} (hl : 0 ≤ l ∧ l < 3) {dx dy : Int} (hdx : -100 ≤ dx ∧ dx ≤ 100) (hdy : -100 ≤ dy ∧ dy ≤ 100) {D : Nat → Nat → Int} (hwas : mwas X w ht D) {MC MS mc ms : Nat} {Q : ZR → ZH → Prop} {y : Nat} (hy : y < ht) (kx : Ev Z (fun _ => True, m_M_shift, 4, MC, MS) 99 [.ref (A 0), zI l, zI dx, zI dy, zI (y : Nat), zI (w : Nat)] [] (mH h A (mF X 1 (mq (X.2.1 1) (1728 * n + 576 * l.toNat) (mpR w R) (fun x y => zldt (sFl D w) w ht ((x : Int) - dx) ((y : Int) - dy)) y w))) mc ms Q) : ∀ (m x : Nat), x + m = w → Ev Z (fun _ => True, m_M_shift, 4, MC, MS) 63 [.ref (A 0), zI l, zI dx, zI dy, zI (y : Nat), zI (x : Nat)] [] (mH h A (mF X 1 (mq (X.2.1 1) (1728 * n + 576 * l.toNat) (mpR w R) (fun x y => zldt (sFl D w) w ht ((x : Int) - dx) ((y : Int) - dy)) y x))) mc ms Q := by
  have hn6 := hc.2.1
  have hw24 := hc.2.2.2.2.1
  intro m
  induction m with
  | zero =>
    intro x hx
    refine zz_iload rfl rfl ?_
    refine zz_aload_n rfl rfl ?_
    refine zz_Vp rfl lk_M_100 cw_M_w rfl (m0 hA) (ct_Mw hA (hc.F 1 _ rfl)) rfl rfl rfl rfl ?_
    refine zz_icmp_ge rfl (by omega) (by omega) (fun hb69 => ?_) (fun hb69 => absurd hb69 (by omega))
    obtain rfl : x = w := by omega
    exact kx
  | succ m ih =>
    intro x hx
    have hxw : x < w := by omega
    refine zz_iload rfl rfl ?_
    refine zz_aload_n rfl rfl ?_
    refine zz_Vp rfl lk_M_100 cw_M_w rfl (m0 hA) (ct_Mw hA (hc.F 1 _ rfl)) rfl rfl rfl rfl ?_
    refine zz_icmp_ge rfl (by omega) (by omega) (fun hb69 => absurd hb69 (by omega)) (fun hb69 => ?_)
    refine zz_aload_n rfl rfl ?_
    refine zz_iload_n rfl rfl ?_
    refine zz_iload rfl rfl ?_
    refine zz_iload rfl rfl ?_
    refine zz_aload_n rfl rfl ?_
    refine zz_iload rfl rfl ?_
    refine zz_iload_n rfl rfl ?_
    refine zz_isub rfl ?_
    refine zz_iload rfl rfl ?_
    refine zz_iload_n rfl rfl ?_
    refine zz_isub rfl ?_
    refine zz_Vp rfl lk_M_164 cw_M_before rfl (m0 hA) (ct_Mbefore hA (hc.F 1 _ rfl) (hwas.F1 _) ⟨by omega, by omega⟩ ⟨by omega, by omega⟩) rfl rfl rfl rfl ?_
    refine zz_Vu rfl lk_M_138 cw_M_put rfl (m0 hA) (ct_Mput hA (hc.F 1 _ rfl) hxw hy hl) rfl rfl rfl rfl ?_
    refine Ev.heap (mput_eq hxw hw24.1 (fun hbit => rfl)) ?_
    refine zz_iincK ((x + 1 : Nat) : Int) rfl rfl rfl rfl (by omega) ?_
    refine zz_goto rfl ?_
    exact ih (x + 1) (by omega)
theorem tm_shift_o {A : Nat → Nat} {X : MX} (hA : mOk A) {n w ht : Nat} {R : Nat → Nat} (hc : mc X n w ht R) {l : Int} (hl : 0 ≤ l ∧ l < 3) {dx dy : Int} (hdx : -100 ≤ dx ∧ dx ≤ 100) (hdy : -100 ≤ dy ∧ dy ≤ 100) {D : Nat → Nat → Int} (hwas : mwas X w ht D) {MC MS mc ms : Nat} {Q : ZR → ZH → Prop} (kx : Ev Z (fun _ => True, m_M_shift, 4, MC, MS) 105 [.ref (A 0), zI l, zI dx, zI dy, zI (ht : Nat)] [] (mH h A (mF X 1 (mq (X.2.1 1) (1728 * n + 576 * l.toNat) (mpR w R) (fun x y => zldt (sFl D w) w ht ((x : Int) - dx) ((y : Int) - dy)) ht 0))) mc ms Q) : ∀ (m y : Nat), y + m = ht → Ev Z (fun _ => True, m_M_shift, 4, MC, MS) 51 [.ref (A 0), zI l, zI dx, zI dy, zI (y : Nat)] [] (mH h A (mF X 1 (mq (X.2.1 1) (1728 * n + 576 * l.toNat) (mpR w R) (fun x y => zldt (sFl D w) w ht ((x : Int) - dx) ((y : Int) - dy)) y 0))) mc ms Q := by
  have hn6 := hc.2.1
  have hw24 := hc.2.2.2.2.1
  intro m
  induction m with
  | zero =>
    intro y hy
    refine zz_iload rfl rfl ?_
    refine zz_aload_n rfl rfl ?_
    refine zz_Vp rfl lk_M_96 cw_M_h rfl (m0 hA) (ct_Mh hA (hc.F 1 _ rfl)) rfl rfl rfl rfl ?_
    refine zz_icmp_ge rfl (by omega) (by omega) (fun hb57 => ?_) (fun hb57 => absurd hb57 (by omega))
    obtain rfl : y = ht := by omega
    exact kx
  | succ m ih =>
    intro y hy
    refine zz_iload rfl rfl ?_
    refine zz_aload_n rfl rfl ?_
    refine zz_Vp rfl lk_M_96 cw_M_h rfl (m0 hA) (ct_Mh hA (hc.F 1 _ rfl)) rfl rfl rfl rfl ?_
    refine zz_icmp_ge rfl (by omega) (by omega) (fun hb57 => absurd hb57 (by omega)) (fun hb57 => ?_)
    refine zz_iconst rfl ?_
    refine zz_istore rfl rfl rfl ?_
    refine tm_shift_i hA hc hl hdx hdy hwas (by omega) ?_ w 0 (by omega)
    refine zz_iincK ((y + 1 : Nat) : Int) rfl rfl rfl rfl (by omega) ?_
    refine zz_goto rfl ?_
    refine Ev.take 5 ?_
    refine Ev.heap (show _ = mH h A (mF X 1 (mq (X.2.1 1) (1728 * n + 576 * l.toNat) (mpR w R) (fun x y => zldt (sFl D w) w ht ((x : Int) - dx) ((y : Int) - dy)) (y + 1) 0)) from by rw [mq_e mpR_lt]) ?_
    exact ih (y + 1) (by omega)
end MU
