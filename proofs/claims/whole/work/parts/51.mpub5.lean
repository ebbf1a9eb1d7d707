section MQ3
variable {Z : ZC} {h : ZH}
def mrw (w ht : Nat) (f : Nat → Int) (k : Nat) : Nat → Int := fun q => if q < k then (if q < ht then ((2 ^ w - 1 : Nat) : Int) else 0) else f q
theorem mrw_0 (w ht : Nat) (f : Nat → Int) : mrw w ht f 0 = f := by
  funext q
  unfold mrw
  rw [if_neg (by omega)]
theorem mrw_up {w ht : Nat} {f : Nat → Int} {k : Nat} {v : Int} (hv : v = if k < ht then ((2 ^ w - 1 : Nat) : Int) else 0) : zup (mrw w ht f k) k v = mrw w ht f (k + 1) := by
  subst hv
  funext q
  unfold zup mrw
  by_cases h1 : q = k
  · subst h1
    rw [if_pos rfl]
    exact (if_pos (show q < q + 1 by omega)).symm
  · rw [if_neg h1]
    by_cases h2 : q < k
    · rw [if_pos h2]
      exact (if_pos (show q < k + 1 by omega)).symm
    · rw [if_neg h2]
      exact (if_neg (show ¬ q < k + 1 by omega)).symm
theorem lp_mk {A : Nat → Nat} {X : MX} (hA : mOk A) {w ht : Nat} (hw : w ≤ 24) (hh : ht ≤ 24) {MC MS mc ms : Nat} {Q : ZR → ZH → Prop} (kx : Ev Z (fun _ => True, m_M_make, 1, MC, MS) 108 [.ref (A 0), zI (w : Nat), zI (ht : Nat), zI (24 : Nat)] [] (mH h A (mF X 2 (mrw w ht (X.2.1 2) 24))) mc ms Q) : ∀ (m k : Nat), k + m = 24 → Ev Z (fun _ => True, m_M_make, 1, MC, MS) 76 [.ref (A 0), zI (w : Nat), zI (ht : Nat), zI (k : Nat)] [] (mH h A (mF X 2 (mrw w ht (X.2.1 2) k))) mc ms Q := by
  intro m
  induction m with
  | zero =>
    intro k hk
    refine zz_iload_n rfl rfl ?_
    refine zz_bipush rfl (by decide) ?_
    refine zz_icmp_ge rfl (by omega) (by omega) (fun hb79 => ?_) (fun hb79 => absurd hb79 (by omega))
    obtain rfl : k = 24 := by omega
    exact kx
  | succ m ih =>
    intro k hk
    have h2w : 2 ^ (w : Int).toNat = ((2 ^ w : Nat) : Int) := by show (2 : Int) ^ w = _; simp
    have h2p := Nat.two_pow_pos w
    refine zz_iload_n rfl rfl ?_
    refine zz_bipush rfl (by decide) ?_
    refine zz_icmp_ge rfl (by omega) (by omega) (fun hb79 => absurd hb79 (by omega)) (fun hb79 => ?_)
    refine zz_aload_n rfl rfl ?_
    refine zz_getf rfl fl_M_13 (m0 hA) rfl ?_
    refine zz_iload_n rfl rfl ?_
    refine zz_iload_n rfl rfl ?_
    refine zz_iload_n rfl rfl ?_
    refine zz_icmp_ge rfl (by omega) (by omega) (fun hb89 => ?_) (fun hb89 => ?_)
    · skip
      refine zz_iconst rfl ?_
      refine zz_iast rfl (m2 hA) (by decide) (by omega) ?_
      refine Ev.heap (w2 hA) ?_
      refine Ev.heap (show mH h A (mF (mF X 2 (mrw w ht (X.2.1 2) k)) 2 (zup (mrw w ht (X.2.1 2) k) k (0))) = (mH h A (mF X 2 (mrw w ht (X.2.1 2) (k + 1)))) from by rw [mF_mF, mrw_up (by rw [if_neg (by omega)])]) ?_
      refine zz_iincK ((k + 1 : Nat) : Int) rfl rfl rfl rfl (by omega) ?_
      refine zz_goto rfl ?_
      exact ih (k + 1) (by omega)
    · skip
      refine zz_iconst rfl ?_
      refine zz_iload_n rfl rfl ?_
      refine zz_ishl rfl (by omega) ?_
      refine zz_iconst rfl ?_
      refine zz_isub rfl ?_
      refine zz_goto rfl ?_
      refine zz_iast rfl (m2 hA) (by decide) (by omega) ?_
      refine Ev.heap (w2 hA) ?_
      refine Ev.heap (show mH h A (mF (mF X 2 (mrw w ht (X.2.1 2) k)) 2 (zup (mrw w ht (X.2.1 2) k) k (1 * 2 ^ (w : Int).toNat - 1))) = (mH h A (mF X 2 (mrw w ht (X.2.1 2) (k + 1)))) from by rw [mF_mF, mrw_up (by rw [if_pos (by omega), h2w]; omega)]) ?_
      refine zz_iincK ((k + 1 : Nat) : Int) rfl rfl rfl rfl (by omega) ?_
      refine zz_goto rfl ?_
      exact ih (k + 1) (by omega)
theorem mrel_make {X : MX} {S : SS} {w ht : Nat} (hM : mrel X S) (hk : okS S) (hw : w ≤ 24) (hh : ht ≤ 24) : mrel (mF (mFr (mF (mF (mF (mS (mS (mS (mS X 0 0) 4 0) 5 0) 1 1) 5 (zup (X.2.1 5) 0 1)) 6 (zup (X.2.1 6) 0 (w : Int))) 7 (zup (X.2.1 7) 0 (ht : Int))) 0 0) 2 (mrw w ht (X.2.1 2) 24)) (sBeg S (sNew w ht)) := by
  obtain ⟨a1, a2, a3, a4, a5, a6, a7, a8, a9, a10, a11⟩ := id hM
  have hfr := mFr_to (mF (mF (mF (mS (mS (mS (mS X 0 0) 4 0) 5 0) 1 1) 5 (zup (X.2.1 5) 0 1)) 6 (zup (X.2.1 6) 0 (w : Int))) 7 (zup (X.2.1 7) 0 (ht : Int))) (n := 0) (l := 0) hw hh
  refine ⟨rfl, a2, a3, rfl, rfl, a6, a7, fun _ i hi => ?_, fun P hP => ?_, a10, fun i => ?_⟩
  · have hi0 : i = 0 := Nat.le_zero.mp hi
    subst hi0
    refine ⟨zup_s (X.2.1 6) 0 (w : Int), zup_s (X.2.1 7) 0 (ht : Int), zup_s (X.2.1 5) 0 1, fun y hy => ?_, fun l hl => ?_⟩
    · have hy2 : y < ht := hy
      show mrw w ht (X.2.1 2) 24 (24 * 0 + y) = ((2 ^ w - 1 : Nat) : Int)
      unfold mrw
      rw [if_pos (by omega), if_pos (by omega)]
    · have hl0 : l = 0 := Nat.lt_one_iff.mp hl
      subst hl0
      exact hfr
  · refine (a9 P hP).tr (hk.2.2.1 P hP) (zup_o (f := X.2.1 6) (i := 0) (j := 7) (v := (w : Int)) (by decide)) (zup_o (f := X.2.1 7) (i := 0) (j := 7) (v := (ht : Int)) (by decide)) (zup_o (f := X.2.1 5) (i := 0) (j := 7) (v := 1) (by decide)) (fun y hy => ?_) (fun l hl => zup_o (f := X.2.1 3) (i := 3 * 0 + 0) (v := 0) (by omega)) (fun l hl => zup_o (f := X.2.1 4) (i := 3 * 0 + 0) (v := 255) (by omega)) (fun l hl => zup_o (f := X.2.2) (i := 3 * 0 + 0) (v := 1) (by omega)) (fun q hq => ?_)
    · show mrw w ht (X.2.1 2) 24 (24 * 7 + y) = X.2.1 2 (24 * 7 + y)
      unfold mrw
      rw [if_neg (by omega)]
    · show mzf (X.2.1 1) (1728 * 0 + 576 * 0) 576 (1728 * 7 + q) = X.2.1 1 (1728 * 7 + q)
      unfold mzf
      rw [if_neg (by omega)]
  · show zup X.2.2 _ _ i = 0 ∨ zup X.2.2 _ _ i = 1
    unfold zup
    split
    · exact Or.inr rfl
    · exact a11 _
theorem md_make {A : Nat → Nat} {X : MX} (hA : mOk A) {S : SS} (hM : mrel X S) (hk : okS S) {w e : Int} (hw0 : zrg w) (he0 : zrg e) : Ct Z m_M_make 1 0 0 [.ref (A 0), zI w, zI e] (mH h A X) (mdV h A S ((1 ≤ w ∧ w ≤ 24) ∧ 1 ≤ e ∧ e ≤ 24) True (sBeg S (sNew w.toNat e.toNat))) := by
  refine zct rfl (by decide) ok_M_make rfl rfl ?_
  refine zz_aload_n rfl rfl ?_
  refine zz_iload_n rfl rfl ?_
  refine zz_iconst rfl ?_
  refine zz_bipush rfl (by decide) ?_
  refine zz_Sp rfl lk_M_71 cw_M_in (ct_Min hw0 ⟨by decide, by decide⟩ ⟨by decide, by decide⟩) rfl rfl rfl rfl ?_
  refine zz_ifB_eq rfl (fun hb8 => ?_) (fun hb8 => ?_)
  · skip
    refine zz_iconst rfl ?_
    refine zz_goto rfl ?_
    refine zz_V rfl lk_M_75 cw_M_refuse rfl (m0 hA) (ct_Mrefuse1 hA) rfl rfl rfl rfl ?_
    rintro _ _ ⟨rfl, rfl⟩
    refine zaft_v ?_
    refine zz_if_eq rfl ⟨by decide, by decide⟩ (fun hb29 => absurd hb29 (by decide)) (fun hb29 => ?_)
    refine zz_vret rfl rfl ⟨rfl, _, rfl, Or.inl ⟨(fun g => hb8 g.1), rfl, hM.S0 _⟩⟩
  · skip
    refine zz_iload_n rfl rfl ?_
    refine zz_iconst rfl ?_
    refine zz_bipush rfl (by decide) ?_
    refine zz_Sp rfl lk_M_71 cw_M_in (ct_Min he0 ⟨by decide, by decide⟩ ⟨by decide, by decide⟩) rfl rfl rfl rfl ?_
    refine zz_ifB_ne rfl (fun hb18 => ?_) (fun hb18 => ?_)
    · skip
      refine zz_iconst rfl ?_
      refine zz_V rfl lk_M_75 cw_M_refuse rfl (m0 hA) (ct_Mrefuse0 hA) rfl rfl rfl rfl ?_
      rintro _ _ ⟨rfl, rfl⟩
      refine zaft_v ?_
      refine zz_if_eq rfl ⟨by decide, by decide⟩ (fun hb29 => ?_) (fun hb29 => absurd hb29 (by decide))
      obtain ⟨w, rfl⟩ := Int.eq_ofNat_of_zero_le (show 0 ≤ w by omega)
      obtain ⟨ht, rfl⟩ := Int.eq_ofNat_of_zero_le (show 0 ≤ e by omega)
      refine zz_aload_n rfl rfl ?_
      refine zz_iconst rfl ?_
      refine zz_putf rfl fl_M_58 (m0 hA) (pt_1_12 rfl rfl) (zblt rfl) ?_
      refine Ev.heap (ws4 hA) ?_
      refine zz_aload_n rfl rfl ?_
      refine zz_iconst rfl ?_
      refine zz_putf rfl fl_M_64 (m0 hA) (pt_1_13 rfl rfl) (zblt rfl) ?_
      refine Ev.heap (ws5 hA) ?_
      refine zz_aload_n rfl rfl ?_
      refine zz_iconst rfl ?_
      refine zz_putf rfl fl_M_67 (m0 hA) (pt_1_9 rfl rfl) (zblt rfl) ?_
      refine Ev.heap (ws1 hA) ?_
      refine zz_aload_n rfl rfl ?_
      refine zz_getf rfl fl_M_26 (m0 hA) rfl ?_
      refine zz_iconst rfl ?_
      refine zz_iconst rfl ?_
      refine zz_iast rfl (m5 hA) (by decide) (by omega) ?_
      refine Ev.heap (w5 hA) ?_
      refine zz_aload_n rfl rfl ?_
      refine zz_getf rfl fl_M_29 (m0 hA) rfl ?_
      refine zz_iconst rfl ?_
      refine zz_iload_n rfl rfl ?_
      refine zz_iast rfl (m6 hA) (by decide) (by omega) ?_
      refine Ev.heap (w6 hA) ?_
      refine zz_aload_n rfl rfl ?_
      refine zz_getf rfl fl_M_32 (m0 hA) rfl ?_
      refine zz_iconst rfl ?_
      refine zz_iload_n rfl rfl ?_
      refine zz_iast rfl (m7 hA) (by decide) (by omega) ?_
      refine Ev.heap (w7 hA) ?_
      refine zz_aload_n rfl rfl ?_
      refine zz_iconst rfl ?_
      refine zz_Vu rfl lk_M_79 cw_M_freshLayer rfl (m0 hA) (ct_Mfresh (X := (mF (mF (mF (mS (mS (mS (mS X 0 0) 4 0) 5 0) 1 1) 5 (zup (X.2.1 5) 0 1)) 6 (zup (X.2.1 6) 0 (w : Int))) 7 (zup (X.2.1 7) 0 (ht : Int)))) (n := 0) (l := 0) hA rfl (by decide) (by decide)) rfl rfl rfl rfl ?_
      refine zz_iconst rfl ?_
      refine zz_istore_n rfl rfl rfl ?_
      refine Ev.heap (show mH h A (mFr (mF (mF (mF (mS (mS (mS (mS X 0 0) 4 0) 5 0) 1 1) 5 (zup (X.2.1 5) 0 1)) 6 (zup (X.2.1 6) 0 (w : Int))) 7 (zup (X.2.1 7) 0 (ht : Int))) 0 0) = mH h A (mF (mFr (mF (mF (mF (mS (mS (mS (mS X 0 0) 4 0) 5 0) 1 1) 5 (zup (X.2.1 5) 0 1)) 6 (zup (X.2.1 6) 0 (w : Int))) 7 (zup (X.2.1 7) 0 (ht : Int))) 0 0) 2 (mrw w ht ((mFr (mF (mF (mF (mS (mS (mS (mS X 0 0) 4 0) 5 0) 1 1) 5 (zup (X.2.1 5) 0 1)) 6 (zup (X.2.1 6) 0 (w : Int))) 7 (zup (X.2.1 7) 0 (ht : Int))) 0 0).2.1 2) 0)) from by rw [mrw_0, mF_id]) ?_
      refine lp_mk (w := w) (ht := ht) hA (by omega) (by omega) ?_ 24 0 (by omega)
      refine zz_vret rfl rfl ⟨rfl, (mF (mFr (mF (mF (mF (mS (mS (mS (mS X 0 0) 4 0) 5 0) 1 1) 5 (zup (X.2.1 5) 0 1)) 6 (zup (X.2.1 6) 0 (w : Int))) 7 (zup (X.2.1 7) 0 (ht : Int))) 0 0) 2 (mrw w ht (X.2.1 2) 24)), rfl, Or.inr (Or.inr ⟨⟨hb8, hb18⟩, trivial, rfl, mrel_make hM hk (by omega) (by omega)⟩)⟩
    · skip
      refine zz_iconst rfl ?_
      refine zz_goto rfl ?_
      refine zz_V rfl lk_M_75 cw_M_refuse rfl (m0 hA) (ct_Mrefuse1 hA) rfl rfl rfl rfl ?_
      rintro _ _ ⟨rfl, rfl⟩
      refine zaft_v ?_
      refine zz_if_eq rfl ⟨by decide, by decide⟩ (fun hb29 => absurd hb29 (by decide)) (fun hb29 => ?_)
      refine zz_vret rfl rfl ⟨rfl, _, rfl, Or.inl ⟨(fun g => hb18 g.2), rfl, hM.S0 _⟩⟩
theorem lp_mhist_i {A : Nat → Nat} {X : MX} (hA : mOk A) {n w ht : Nat} {R : Nat → Nat} (hc : mc X n w ht R) {l : Int} (hl : 0 ≤ l ∧ l < 3) {c v : Int} {D : Nat → Nat → Int} (hcc : 0 ≤ c ∧ c ≤ 3) (hv : zrg v) (hD0 : ∀ x y, x < w → y < ht → zrg (D x y)) (hdt : ∀ x y, x < w → y < ht → X.2.1 1 (1728 * n + 576 * l.toNat + 24 * y + x) = D x y) {MC MS mc ms : Nat} {Q : ZR → ZH → Prop} {y : Nat} (hy : y < ht) (kx : Ev Z (fun _ => True, m_M_histogram, 2, MC, MS) 107 [.ref (A 0), zI l, zI c, zI v, zI ((zc2 (fun j i => (R j).testBit i && decide (zby (D i j) c = v)) w y + zc1 ((fun j i => (R j).testBit i && decide (zby (D i j) c = v)) y) w : Nat) : Nat), zI (y : Nat), zI (w : Nat)] [] (mH h A X) mc ms Q) : ∀ (m x : Nat), x + m = w → Ev Z (fun _ => True, m_M_histogram, 2, MC, MS) 49 [.ref (A 0), zI l, zI c, zI v, zI ((zc2 (fun j i => (R j).testBit i && decide (zby (D i j) c = v)) w y + zc1 ((fun j i => (R j).testBit i && decide (zby (D i j) c = v)) y) x : Nat) : Nat), zI (y : Nat), zI (x : Nat)] [] (mH h A X) mc ms Q := by
  have hn6 := hc.2.1
  have hw24 := hc.2.2.2.2.1
  intro m
  induction m with
  | zero =>
    intro x hx
    refine zz_iload rfl rfl ?_
    refine zz_aload_n rfl rfl ?_
    refine zz_Vp rfl lk_M_100 cw_M_w rfl (m0 hA) (ct_Mw hA hc) rfl rfl rfl rfl ?_
    refine zz_icmp_ge rfl (by omega) (by omega) (fun hb55 => ?_) (fun hb55 => absurd hb55 (by omega))
    obtain rfl : x = w := by omega
    exact kx
  | succ m ih =>
    intro x hx
    have hxw : x < w := by omega
    refine zz_iload rfl rfl ?_
    refine zz_aload_n rfl rfl ?_
    refine zz_Vp rfl lk_M_100 cw_M_w rfl (m0 hA) (ct_Mw hA hc) rfl rfl rfl rfl ?_
    refine zz_icmp_ge rfl (by omega) (by omega) (fun hb55 => absurd hb55 (by omega)) (fun hb55 => ?_)
    refine zz_iload rfl rfl ?_
    refine zz_aload_n rfl rfl ?_
    refine zz_iload rfl rfl ?_
    refine zz_iload rfl rfl ?_
    refine zz_Vp rfl lk_M_110 cw_M_isChosen rfl (m0 hA) (ct_Mchosen hA hc hxw hy) rfl rfl rfl rfl ?_
    refine zz_ifB_eq rfl (fun hb68 => ?_) (fun hb68 => ?_)
    · skip
      refine zz_iconst rfl ?_
      refine zz_iadd rfl ?_
      refine zz_eq (show _ = ((zc2 (fun j i => (R j).testBit i && decide (zby (D i j) c = v)) w y + zc1 ((fun j i => (R j).testBit i && decide (zby (D i j) c = v)) y) (x + 1) : Nat) : Int) from by show _ = ((zc2 _ _ _ + (zc1 _ _ + if (fun j i => (R j).testBit i && decide (zby (D i j) c = v)) y x = true then 1 else 0) : Nat) : Int); rw [if_neg (by rw [Bool.and_eq_true]; exact fun h9 => hb68 h9.1)]; omega) ?_
      refine zz_istore rfl rfl rfl ?_
      refine zz_iincK ((x + 1 : Nat) : Int) rfl rfl rfl rfl (by omega) ?_
      refine zz_goto rfl ?_
      exact ih (x + 1) (by omega)
    · skip
      refine zz_aload_n rfl rfl ?_
      refine zz_getf rfl fl_M_7 (m0 hA) rfl ?_
      refine zz_aload_n rfl rfl ?_
      refine zz_iload_n rfl rfl ?_
      refine zz_iload rfl rfl ?_
      refine zz_iload rfl rfl ?_
      refine zz_Vp rfl lk_M_132 cw_M_at rfl (m0 hA) (ct_Mat hA hc.1) rfl rfl rfl rfl ?_
      refine zz_iald rfl (m1 hA) (by decide) ⟨by omega, by omega⟩ ?_
      refine zz_eq (show _ = D x y from (congrArg (X.2.1 1) (by omega)).trans (hdt x y hxw hy)) ?_
      refine zz_iload_n rfl rfl ?_
      refine zz_Sp rfl lk_M_118 cw_M_part (ct_Mpart (hD0 x y hxw hy) hcc) rfl rfl rfl rfl ?_
      refine zz_iload_n rfl rfl ?_
      refine zz_icmp_ne rfl (by have := zby_rg (D x y) c; omega) hv (fun hb90 => ?_) (fun hb90 => ?_)
      · skip
        refine zz_iconst rfl ?_
        refine zz_iadd rfl ?_
        refine zz_eq (show _ = ((zc2 (fun j i => (R j).testBit i && decide (zby (D i j) c = v)) w y + zc1 ((fun j i => (R j).testBit i && decide (zby (D i j) c = v)) y) (x + 1) : Nat) : Int) from by show _ = ((zc2 _ _ _ + (zc1 _ _ + if (fun j i => (R j).testBit i && decide (zby (D i j) c = v)) y x = true then 1 else 0) : Nat) : Int); rw [if_neg (by rw [Bool.and_eq_true, decide_eq_true_eq]; exact fun h9 => hb90 h9.2)]; omega) ?_
        refine zz_istore rfl rfl rfl ?_
        refine zz_iincK ((x + 1 : Nat) : Int) rfl rfl rfl rfl (by omega) ?_
        refine zz_goto rfl ?_
        exact ih (x + 1) (by omega)
      · skip
        refine zz_iconst rfl ?_
        refine zz_goto rfl ?_
        refine zz_iadd rfl ?_
        refine zz_eq (show _ = ((zc2 (fun j i => (R j).testBit i && decide (zby (D i j) c = v)) w y + zc1 ((fun j i => (R j).testBit i && decide (zby (D i j) c = v)) y) (x + 1) : Nat) : Int) from by show _ = ((zc2 _ _ _ + (zc1 _ _ + if (fun j i => (R j).testBit i && decide (zby (D i j) c = v)) y x = true then 1 else 0) : Nat) : Int); rw [if_pos (by rw [Bool.and_eq_true, decide_eq_true_eq]; exact ⟨hb68, hb90⟩)]; omega) ?_
        refine zz_istore rfl rfl rfl ?_
        refine zz_iincK ((x + 1 : Nat) : Int) rfl rfl rfl rfl (by omega) ?_
        refine zz_goto rfl ?_
        exact ih (x + 1) (by omega)
theorem lp_mhist_o {A : Nat → Nat} {X : MX} (hA : mOk A) {n w ht : Nat} {R : Nat → Nat} (hc : mc X n w ht R) {l : Int} (hl : 0 ≤ l ∧ l < 3) {c v : Int} {D : Nat → Nat → Int} (hcc : 0 ≤ c ∧ c ≤ 3) (hv : zrg v) (hD0 : ∀ x y, x < w → y < ht → zrg (D x y)) (hdt : ∀ x y, x < w → y < ht → X.2.1 1 (1728 * n + 576 * l.toNat + 24 * y + x) = D x y) {MC MS mc ms : Nat} {Q : ZR → ZH → Prop} (kx : Ev Z (fun _ => True, m_M_histogram, 2, MC, MS) 113 [.ref (A 0), zI l, zI c, zI v, zI ((zc2 (fun j i => (R j).testBit i && decide (zby (D i j) c = v)) w ht + zc1 ((fun j i => (R j).testBit i && decide (zby (D i j) c = v)) ht) 0 : Nat) : Nat), zI (ht : Nat)] [] (mH h A X) mc ms Q) : ∀ (m y : Nat), y + m = ht → Ev Z (fun _ => True, m_M_histogram, 2, MC, MS) 37 [.ref (A 0), zI l, zI c, zI v, zI ((zc2 (fun j i => (R j).testBit i && decide (zby (D i j) c = v)) w y + zc1 ((fun j i => (R j).testBit i && decide (zby (D i j) c = v)) y) 0 : Nat) : Nat), zI (y : Nat)] [] (mH h A X) mc ms Q := by
  have hn6 := hc.2.1
  have hw24 := hc.2.2.2.2.1
  intro m
  induction m with
  | zero =>
    intro y hy
    refine zz_iload rfl rfl ?_
    refine zz_aload_n rfl rfl ?_
    refine zz_Vp rfl lk_M_96 cw_M_h rfl (m0 hA) (ct_Mh hA hc) rfl rfl rfl rfl ?_
    refine zz_icmp_ge rfl (by omega) (by omega) (fun hb43 => ?_) (fun hb43 => absurd hb43 (by omega))
    obtain rfl : y = ht := by omega
    exact kx
  | succ m ih =>
    intro y hy
    refine zz_iload rfl rfl ?_
    refine zz_aload_n rfl rfl ?_
    refine zz_Vp rfl lk_M_96 cw_M_h rfl (m0 hA) (ct_Mh hA hc) rfl rfl rfl rfl ?_
    refine zz_icmp_ge rfl (by omega) (by omega) (fun hb43 => absurd hb43 (by omega)) (fun hb43 => ?_)
    refine zz_iconst rfl ?_
    refine zz_istore rfl rfl rfl ?_
    refine lp_mhist_i hA hc hl hcc hv hD0 hdt (by omega) ?_ w 0 (by omega)
    refine zz_iincK ((y + 1 : Nat) : Int) rfl rfl rfl rfl (by omega) ?_
    refine zz_goto rfl ?_
    refine Ev.take 6 ?_
    exact ih (y + 1) (by omega)
theorem md_hist {A : Nat → Nat} {X : MX} (hA : mOk A) {S : SS} (hM : mrel X S) (hk : okS S) {l c v : Int} (hl : zrg l) (hc0 : zrg c) (hv : zrg v) : Ct Z m_M_histogram 2 0 0 [.ref (A 0), zI l, zI c, zI v] (mH h A X) (mdI h A S (sLy S l ∧ 0 ≤ c ∧ c ≤ 3) (True) (((zc2 (fun j i => decide (sSl (sCur S) i j ∧ zby ((sD (sl (sCur S) l.toNat)) i j) c = v)) (sw (sCur S)) (sh (sCur S)) : Nat) : Int)) (S)) := by
  refine zct rfl (by decide) ok_M_histogram rfl rfl ?_
  refine zz_aload_n rfl rfl ?_
  refine zz_aload_n rfl rfl ?_
  refine zz_iload_n rfl rfl ?_
  refine zz_Vp rfl lk_M_89 cw_M_isLayer rfl (m0 hA) (ct_MisLayer hA hM hk hl) rfl rfl rfl rfl ?_
  refine zz_ifB_eq rfl (fun hb6 => ?_) (fun hb6 => ?_)
  · skip
    refine zz_iconst rfl ?_
    refine zz_goto rfl ?_
    refine zz_V rfl lk_M_75 cw_M_refuse rfl (m0 hA) (ct_Mrefuse1 hA) rfl rfl rfl rfl ?_
    rintro _ _ ⟨rfl, rfl⟩
    refine zaft_v ?_
    refine zz_if_eq rfl ⟨by decide, by decide⟩ (fun hb26 => absurd hb26 (by decide)) (fun hb26 => ?_)
    refine zz_iconst rfl ?_
    refine zz_iret rfl rfl ⟨0, rfl, z00, _, rfl, Or.inl ⟨(fun g => hb6 g.1), rfl, hM.S0 _⟩⟩
  · skip
    refine zz_iload_n rfl rfl ?_
    refine zz_iconst rfl ?_
    refine zz_iconst rfl ?_
    refine zz_Sp rfl lk_M_71 cw_M_in (ct_Min hc0 ⟨by decide, by decide⟩ ⟨by decide, by decide⟩) rfl rfl rfl rfl ?_
    refine zz_ifB_ne rfl (fun hb15 => ?_) (fun hb15 => ?_)
    · skip
      refine zz_iconst rfl ?_
      refine zz_V rfl lk_M_75 cw_M_refuse rfl (m0 hA) (ct_Mrefuse0 hA) rfl rfl rfl rfl ?_
      rintro _ _ ⟨rfl, rfl⟩
      refine zaft_v ?_
      refine zz_if_eq rfl ⟨by decide, by decide⟩ (fun hb26 => ?_) (fun hb26 => absurd hb26 (by decide))
      have hly := hb6
      have hP : okP (sCur S) := (hk.1 hly.1).2.2 _ (hk.1 hly.1).1
      have hc1 : mc (mS X 0 0) (sNow S) (sw (sCur S)) (sh (sCur S)) (sr (sCur S)) := hM.mc hk hly.1
      have hs1 : mslot (mS X 0 0) (sNow S) (sCur S) := hM.2.2.2.2.2.2.2.1 hly.1 _ (hk.1 hly.1).1
      have hn3 := hP.2.2.1.2
      have hw24 := hP.1.2
      have hh24 := hP.2.1.2
      obtain ⟨hl0, hl1⟩ := id hly.2
      have hDr : ∀ x y, x < (sw (sCur S)) → y < (sh (sCur S)) → zrg ((sD (sl (sCur S) l.toNat)) x y) := (hP.2.2.2.1 l.toNat (by omega)).2.2.2
      refine zz_iconst rfl ?_
      refine zz_istore rfl rfl rfl ?_
      refine zz_iconst rfl ?_
      refine zz_istore rfl rfl rfl ?_
      refine lp_mhist_o (X := mS X 0 0) (D := (sD (sl (sCur S) l.toNat))) (v := v) hA hc1 ⟨by omega, by omega⟩ hb15 hv hDr (hs1.2.2.2.2 l.toNat (by omega)).2.2.2 ?_ (sh (sCur S)) 0 (by omega)
      refine zz_iload rfl rfl ?_
      refine zz_iret rfl rfl ⟨_, rfl, ?_, _, rfl, Or.inr (Or.inr ⟨⟨hly, hb15⟩, trivial, rfl, ?_, hM.S0 _⟩)⟩
      · have e8 := zc2_le (fun j i => (sr (sCur S) j).testBit i && decide (zby ((sD (sl (sCur S) l.toNat)) i j) c = v)) (sw (sCur S)) (sh (sCur S))
        have e7 := Nat.mul_le_mul hw24 hh24
        have e6 : zc1 ((fun j i => (sr (sCur S) j).testBit i && decide (zby ((sD (sl (sCur S) l.toNat)) i j) c = v)) (sh (sCur S))) 0 = 0 := rfl
        exact ⟨by omega, by omega⟩
      · have e9 : zc2 (fun j i => (sr (sCur S) j).testBit i && decide (zby ((sD (sl (sCur S) l.toNat)) i j) c = v)) (sw (sCur S)) (sh (sCur S)) = zc2 (fun j i => decide (sSl (sCur S) i j ∧ zby ((sD (sl (sCur S) l.toNat)) i j) c = v)) (sw (sCur S)) (sh (sCur S)) := zc2_congr _ (fun j i _ _ => by show (_ && _) = decide _; rw [Bool.decide_and]; congr 1; rw [Bool.decide_eq_true])
        rw [← e9]
        rfl
    · skip
      refine zz_iconst rfl ?_
      refine zz_goto rfl ?_
      refine zz_V rfl lk_M_75 cw_M_refuse rfl (m0 hA) (ct_Mrefuse1 hA) rfl rfl rfl rfl ?_
      rintro _ _ ⟨rfl, rfl⟩
      refine zaft_v ?_
      refine zz_if_eq rfl ⟨by decide, by decide⟩ (fun hb26 => absurd hb26 (by decide)) (fun hb26 => ?_)
      refine zz_iconst rfl ?_
      refine zz_iret rfl rfl ⟨0, rfl, z00, _, rfl, Or.inl ⟨(fun g => hb15 g.2), rfl, hM.S0 _⟩⟩
end MQ3
