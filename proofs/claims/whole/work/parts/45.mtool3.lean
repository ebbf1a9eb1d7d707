section MW
variable {Z : ZC} {h : ZH}
theorem zci_sw {mx my r i j : Int} : zci mx my r i j ↔ (mx - i) * (mx - i) + (my - j) * (my - j) ≤ r * r := by
  unfold zci
  have e1 : (i - mx) * (i - mx) = (mx - i) * (mx - i) := by rw [← Int.neg_mul_neg]; congr 1 <;> omega
  have e2 : (j - my) * (j - my) = (my - j) * (my - j) := by rw [← Int.neg_mul_neg]; congr 1 <;> omega
  rw [e1, e2]
theorem zlb_s {px py : Nat → Int} {r i j : Int} {k : Nat} : zlb px py r i j (k + 1) = true ↔ zlb px py r i j k = true ∨ zci (px k) (py k) r i j := by
  show (zlb px py r i j k || decide _) = true ↔ _
  rw [Bool.or_eq_true, decide_eq_true_eq]
theorem st_k {A : Nat → Nat} {X : MX} (hA : mOk A) {l fr to br : Int} {x y : Nat} (h4 : zl4 fr to) (hbr : X.1 7 = br) (hb7 : 0 ≤ br ∧ br ≤ 7) (hx : x < 24) (hy : y < 24) {MC MS mc ms : Nat} {Q : ZR → ZH → Prop} (kx : Ev Z (fun _ => True, m_M_stroke, 4, MC, MS) 294 [.ref (A 0), zI l, zI fr, zI to, zI (zlo fr), zI (zhi fr), zI (zlo to), zI (zhi to), zI (zln fr to), zI (y : Nat), zI (x : Nat), zI (zb (zlb (zlx fr to) (zly fr to) br (x : Int) (y : Int) (zln fr to + 1).toNat = true))] [] (mH h A X) mc ms Q) : ∀ (m k : Nat), (k : Int) + m = zln fr to + 1 → Ev Z (fun _ => True, m_M_stroke, 4, MC, MS) 164 [.ref (A 0), zI l, zI fr, zI to, zI (zlo fr), zI (zhi fr), zI (zlo to), zI (zhi to), zI (zln fr to), zI (y : Nat), zI (x : Nat), zI (zb (zlb (zlx fr to) (zly fr to) br (x : Int) (y : Int) k = true)), zI (k : Nat)] [] (mH h A X) mc ms Q := by
  obtain ⟨hn, hwx, hwy⟩ := zln_rg h4
  obtain ⟨⟨g1, g2⟩, g3, g4⟩ := id h4
  intro m
  induction m with
  | zero =>
    intro k hk
    refine zz_iload rfl rfl ?_
    refine zz_iload rfl rfl ?_
    refine zz_icmp_gt rfl (by omega) (by omega) (fun hb168 => ?_) (fun hb168 => absurd hb168 (by omega))
    have e1 : (zln fr to + 1).toNat = k := by omega
    rw [e1] at kx
    refine Ev.take 12 ?_
    exact kx
  | succ m ih =>
    intro k hk
    have gx := zpa_rg (a := zlo to - zlo fr) (s := k) (l := zln fr to) hwx ⟨by omega, by omega⟩
    have gy := zpa_rg (a := zhi to - zhi fr) (s := k) (l := zln fr to) hwy ⟨by omega, by omega⟩
    have hm1 := zmula (a := 2 * (k : Int)) (b := zlo to - zlo fr) (A := 400) (B := 200) ⟨by omega, by omega⟩ hwx
    have hm2 := zmula (a := 2 * (k : Int)) (b := zhi to - zhi fr) (A := 400) (B := 200) ⟨by omega, by omega⟩ hwy
    have q1 : -300 ≤ zlx fr to k ∧ zlx fr to k ≤ 300 := by show -300 ≤ zlo fr + zpa (zlo to - zlo fr) k (zln fr to) ∧ zlo fr + zpa (zlo to - zlo fr) k (zln fr to) ≤ 300; omega
    have q2 : -300 ≤ zly fr to k ∧ zly fr to k ≤ 300 := by show -300 ≤ zhi fr + zpa (zhi to - zhi fr) k (zln fr to) ∧ zhi fr + zpa (zhi to - zhi fr) k (zln fr to) ≤ 300; omega
    have s1 := zsq (a := zlx fr to k - (x : Int)) (B := 400) ⟨by omega, by omega⟩
    have s2 := zsq (a := zly fr to k - (y : Int)) (B := 400) ⟨by omega, by omega⟩
    have s3 := zsq (a := br) (B := 7) ⟨by omega, by omega⟩
    by_cases h0 : zln fr to = 0
    · skip
      refine zz_iload rfl rfl ?_
      refine zz_iload rfl rfl ?_
      refine zz_icmp_gt rfl (by omega) (by omega) (fun hb168 => absurd hb168 (by omega)) (fun hb168 => ?_)
      refine zz_iload rfl rfl ?_
      refine zz_if_ne rfl (by omega) (fun hb173 => absurd hb173 (by omega)) (fun hb173 => ?_)
      refine zz_iload rfl rfl ?_
      refine zz_goto rfl ?_
      refine zz_eq (show _ = zlx fr to k from by show _ = zlo fr + zpa (zlo to - zlo fr) k (zln fr to); unfold zpa; rw [if_pos h0, Int.add_zero]) ?_
      refine zz_istore rfl rfl rfl ?_
      refine zz_iload rfl rfl ?_
      refine zz_if_ne rfl (by omega) (fun hb208 => absurd hb208 (by omega)) (fun hb208 => ?_)
      refine zz_iload rfl rfl ?_
      refine zz_goto rfl ?_
      refine zz_eq (show _ = zly fr to k from by show _ = zhi fr + zpa (zhi to - zhi fr) k (zln fr to); unfold zpa; rw [if_pos h0, Int.add_zero]) ?_
      refine zz_istore rfl rfl rfl ?_
      refine zz_iload rfl rfl ?_
      refine zz_ifB_ne rfl (fun hb243 => ?_) (fun hb243 => ?_)
      · skip
        refine zz_iconst rfl ?_
        refine zz_goto rfl ?_
        refine zz_tv (show zI 1 = zI (zb (zlb (zlx fr to) (zly fr to) br (x : Int) (y : Int) (k + 1) = true)) from by rw [show zb (zlb (zlx fr to) (zly fr to) br (x : Int) (y : Int) (k + 1) = true) = 1 from (if_pos (zlb_s.mpr (Or.inl hb243)))]) ?_
        refine zz_istore rfl rfl rfl ?_
        refine zz_iincK ((k + 1 : Nat) : Int) rfl rfl rfl rfl (by omega) ?_
        refine zz_goto rfl ?_
        refine Ev.take 13 ?_
        exact ih (k + 1) (by omega)
      · skip
        refine zz_iload rfl rfl ?_
        refine zz_iload rfl rfl ?_
        refine zz_isub rfl ?_
        refine zz_iload rfl rfl ?_
        refine zz_iload rfl rfl ?_
        refine zz_isub rfl ?_
        refine zz_imul rfl ?_
        refine zz_iload rfl rfl ?_
        refine zz_iload rfl rfl ?_
        refine zz_isub rfl ?_
        refine zz_iload rfl rfl ?_
        refine zz_iload rfl rfl ?_
        refine zz_isub rfl ?_
        refine zz_imul rfl ?_
        refine zz_iadd rfl ?_
        refine zz_aload_n rfl rfl ?_
        refine zz_getf rfl fl_M_129 (m0 hA) rfl ?_
        refine zz_eq hbr ?_
        refine zz_aload_n rfl rfl ?_
        refine zz_getf rfl fl_M_129 (m0 hA) rfl ?_
        refine zz_eq hbr ?_
        refine zz_imul rfl ?_
        refine zz_icmp_gt rfl ⟨by omega, by omega⟩ ⟨by omega, by omega⟩ (fun hb278 => ?_) (fun hb278 => ?_)
        · skip
          refine zz_iconst rfl ?_
          refine zz_tv (show zI 0 = zI (zb (zlb (zlx fr to) (zly fr to) br (x : Int) (y : Int) (k + 1) = true)) from by rw [show zb (zlb (zlx fr to) (zly fr to) br (x : Int) (y : Int) (k + 1) = true) = 0 from (if_neg (fun h9 => by rcases zlb_s.mp h9 with h8 | h8; exact hb243 h8; exact absurd (zci_sw.mp h8) (by omega)))]) ?_
          refine zz_istore rfl rfl rfl ?_
          refine zz_iincK ((k + 1 : Nat) : Int) rfl rfl rfl rfl (by omega) ?_
          refine zz_goto rfl ?_
          refine Ev.take 13 ?_
          exact ih (k + 1) (by omega)
        · skip
          refine zz_iconst rfl ?_
          refine zz_goto rfl ?_
          refine zz_tv (show zI 1 = zI (zb (zlb (zlx fr to) (zly fr to) br (x : Int) (y : Int) (k + 1) = true)) from by rw [show zb (zlb (zlx fr to) (zly fr to) br (x : Int) (y : Int) (k + 1) = true) = 1 from (if_pos (zlb_s.mpr (Or.inr (zci_sw.mpr (by omega)))))]) ?_
          refine zz_istore rfl rfl rfl ?_
          refine zz_iincK ((k + 1 : Nat) : Int) rfl rfl rfl rfl (by omega) ?_
          refine zz_goto rfl ?_
          refine Ev.take 13 ?_
          exact ih (k + 1) (by omega)
    · skip
      refine zz_iload rfl rfl ?_
      refine zz_iload rfl rfl ?_
      refine zz_icmp_gt rfl (by omega) (by omega) (fun hb168 => absurd hb168 (by omega)) (fun hb168 => ?_)
      refine zz_iload rfl rfl ?_
      refine zz_if_ne rfl (by omega) (fun hb173 => ?_) (fun hb173 => absurd hb173 (by omega))
      refine zz_iload rfl rfl ?_
      refine zz_iconst rfl ?_
      refine zz_iload rfl rfl ?_
      refine zz_imul rfl ?_
      refine zz_iload rfl rfl ?_
      refine zz_iload rfl rfl ?_
      refine zz_isub rfl ?_
      refine zz_imul rfl ?_
      refine zz_iload rfl rfl ?_
      refine zz_iadd rfl ?_
      refine zz_iconst rfl ?_
      refine zz_iload rfl rfl ?_
      refine zz_imul rfl ?_
      refine zz_Sp rfl lk_M_148 cw_M_down (ct_Mdown ⟨by omega, by omega⟩ ⟨by omega, by omega⟩) rfl rfl rfl rfl ?_
      refine zz_iadd rfl ?_
      refine zz_eq (show _ = zlx fr to k from by show _ = zlo fr + zpa (zlo to - zlo fr) k (zln fr to); unfold zpa; rw [if_neg h0]) ?_
      refine zz_istore rfl rfl rfl ?_
      refine zz_iload rfl rfl ?_
      refine zz_if_ne rfl (by omega) (fun hb208 => ?_) (fun hb208 => absurd hb208 (by omega))
      refine zz_iload rfl rfl ?_
      refine zz_iconst rfl ?_
      refine zz_iload rfl rfl ?_
      refine zz_imul rfl ?_
      refine zz_iload rfl rfl ?_
      refine zz_iload rfl rfl ?_
      refine zz_isub rfl ?_
      refine zz_imul rfl ?_
      refine zz_iload rfl rfl ?_
      refine zz_iadd rfl ?_
      refine zz_iconst rfl ?_
      refine zz_iload rfl rfl ?_
      refine zz_imul rfl ?_
      refine zz_Sp rfl lk_M_148 cw_M_down (ct_Mdown ⟨by omega, by omega⟩ ⟨by omega, by omega⟩) rfl rfl rfl rfl ?_
      refine zz_iadd rfl ?_
      refine zz_eq (show _ = zly fr to k from by show _ = zhi fr + zpa (zhi to - zhi fr) k (zln fr to); unfold zpa; rw [if_neg h0]) ?_
      refine zz_istore rfl rfl rfl ?_
      refine zz_iload rfl rfl ?_
      refine zz_ifB_ne rfl (fun hb243 => ?_) (fun hb243 => ?_)
      · skip
        refine zz_iconst rfl ?_
        refine zz_goto rfl ?_
        refine zz_tv (show zI 1 = zI (zb (zlb (zlx fr to) (zly fr to) br (x : Int) (y : Int) (k + 1) = true)) from by rw [show zb (zlb (zlx fr to) (zly fr to) br (x : Int) (y : Int) (k + 1) = true) = 1 from (if_pos (zlb_s.mpr (Or.inl hb243)))]) ?_
        refine zz_istore rfl rfl rfl ?_
        refine zz_iincK ((k + 1 : Nat) : Int) rfl rfl rfl rfl (by omega) ?_
        refine zz_goto rfl ?_
        refine Ev.take 13 ?_
        exact ih (k + 1) (by omega)
      · skip
        refine zz_iload rfl rfl ?_
        refine zz_iload rfl rfl ?_
        refine zz_isub rfl ?_
        refine zz_iload rfl rfl ?_
        refine zz_iload rfl rfl ?_
        refine zz_isub rfl ?_
        refine zz_imul rfl ?_
        refine zz_iload rfl rfl ?_
        refine zz_iload rfl rfl ?_
        refine zz_isub rfl ?_
        refine zz_iload rfl rfl ?_
        refine zz_iload rfl rfl ?_
        refine zz_isub rfl ?_
        refine zz_imul rfl ?_
        refine zz_iadd rfl ?_
        refine zz_aload_n rfl rfl ?_
        refine zz_getf rfl fl_M_129 (m0 hA) rfl ?_
        refine zz_eq hbr ?_
        refine zz_aload_n rfl rfl ?_
        refine zz_getf rfl fl_M_129 (m0 hA) rfl ?_
        refine zz_eq hbr ?_
        refine zz_imul rfl ?_
        refine zz_icmp_gt rfl ⟨by omega, by omega⟩ ⟨by omega, by omega⟩ (fun hb278 => ?_) (fun hb278 => ?_)
        · skip
          refine zz_iconst rfl ?_
          refine zz_tv (show zI 0 = zI (zb (zlb (zlx fr to) (zly fr to) br (x : Int) (y : Int) (k + 1) = true)) from by rw [show zb (zlb (zlx fr to) (zly fr to) br (x : Int) (y : Int) (k + 1) = true) = 0 from (if_neg (fun h9 => by rcases zlb_s.mp h9 with h8 | h8; exact hb243 h8; exact absurd (zci_sw.mp h8) (by omega)))]) ?_
          refine zz_istore rfl rfl rfl ?_
          refine zz_iincK ((k + 1 : Nat) : Int) rfl rfl rfl rfl (by omega) ?_
          refine zz_goto rfl ?_
          refine Ev.take 13 ?_
          exact ih (k + 1) (by omega)
        · skip
          refine zz_iconst rfl ?_
          refine zz_goto rfl ?_
          refine zz_tv (show zI 1 = zI (zb (zlb (zlx fr to) (zly fr to) br (x : Int) (y : Int) (k + 1) = true)) from by rw [show zb (zlb (zlx fr to) (zly fr to) br (x : Int) (y : Int) (k + 1) = true) = 1 from (if_pos (zlb_s.mpr (Or.inr (zci_sw.mpr (by omega)))))]) ?_
          refine zz_istore rfl rfl rfl ?_
          refine zz_iincK ((k + 1 : Nat) : Int) rfl rfl rfl rfl (by omega) ?_
          refine zz_goto rfl ?_
          refine Ev.take 13 ?_
          exact ih (k + 1) (by omega)
theorem tm_stroke_i {A : Nat → Nat} {X : MX} (hA : mOk A) {n w ht : Nat} {R : Nat → Nat} (hc : mc X n w ht R) {l : Int} (hl : 0 ≤ l ∧ l < 3) {fr to br bd : Int} (h4 : zl4 fr to) (hbr : X.1 7 = br) (hb7 : 0 ≤ br ∧ br ≤ 7) (hbd : X.1 6 = bd) (hbr2 : zrg bd) {D : Nat → Nat → Int} (hwas : mwas X w ht D) (hD0 : ∀ x y, x < w → y < ht → zrg (D x y)) (hdt : ∀ x y, x < w → y < ht → X.2.1 1 (1728 * n + 576 * l.toNat + 24 * y + x) = D x y) {MC MS mc ms : Nat} {Q : ZR → ZH → Prop} {y : Nat} (hy : y < ht) (kx : Ev Z (fun _ => True, m_M_stroke, 4, MC, MS) 338 [.ref (A 0), zI l, zI fr, zI to, zI (zlo fr), zI (zhi fr), zI (zlo to), zI (zhi to), zI (zln fr to), zI (y : Nat), zI (w : Nat)] [] (mH h A (mF X 1 (mq (X.2.1 1) (1728 * n + 576 * l.toNat) (mpR w R) (fun (x y : Nat) => if zlb (zlx fr to) (zly fr to) br (x : Int) (y : Int) (zln fr to + 1).toNat = true then zbl bd (D x y) 0 255 else D x y) y w))) mc ms Q) : ∀ (m x : Nat), x + m = w → Ev Z (fun _ => True, m_M_stroke, 4, MC, MS) 149 [.ref (A 0), zI l, zI fr, zI to, zI (zlo fr), zI (zhi fr), zI (zlo to), zI (zhi to), zI (zln fr to), zI (y : Nat), zI (x : Nat)] [] (mH h A (mF X 1 (mq (X.2.1 1) (1728 * n + 576 * l.toNat) (mpR w R) (fun (x y : Nat) => if zlb (zlx fr to) (zly fr to) br (x : Int) (y : Int) (zln fr to + 1).toNat = true then zbl bd (D x y) 0 255 else D x y) y x))) mc ms Q := by
  have hn6 := hc.2.1
  have hw24 := hc.2.2.2.2.1
  intro m
  induction m with
  | zero =>
    intro x hx
    refine zz_iload rfl rfl ?_
    refine zz_aload_n rfl rfl ?_
    refine zz_Vp rfl lk_M_100 cw_M_w rfl (m0 hA) (ct_Mw hA (hc.F 1 _ rfl)) rfl rfl rfl rfl ?_
    refine zz_icmp_ge rfl (by omega) (by omega) (fun hb155 => ?_) (fun hb155 => absurd hb155 (by omega))
    obtain rfl : x = w := by omega
    exact kx
  | succ m ih =>
    intro x hx
    have hxw : x < w := by omega
    refine zz_iload rfl rfl ?_
    refine zz_aload_n rfl rfl ?_
    refine zz_Vp rfl lk_M_100 cw_M_w rfl (m0 hA) (ct_Mw hA (hc.F 1 _ rfl)) rfl rfl rfl rfl ?_
    refine zz_icmp_ge rfl (by omega) (by omega) (fun hb155 => absurd hb155 (by omega)) (fun hb155 => ?_)
    refine zz_iconst rfl ?_
    refine zz_istore rfl rfl rfl ?_
    refine zz_iconst rfl ?_
    refine zz_istore rfl rfl rfl ?_
    refine st_k (X := (mF X 1 (mq (X.2.1 1) (1728 * n + 576 * l.toNat) (mpR w R) (fun (x y : Nat) => if zlb (zlx fr to) (zly fr to) br (x : Int) (y : Int) (zln fr to + 1).toNat = true then zbl bd (D x y) 0 255 else D x y) y x))) hA h4 hbr hb7 (by omega) (by omega) ?_ (zln fr to + 1).toNat 0 (by have := (zln_rg h4).1; omega)
    refine zz_iload rfl rfl ?_
    refine zz_ifB_eq rfl (fun hb296 => ?_) (fun hb296 => ?_)
    · skip
      refine Ev.heap (show _ = mH h A (mF X 1 (mq (X.2.1 1) (1728 * n + 576 * l.toNat) (mpR w R) (fun (x y : Nat) => if zlb (zlx fr to) (zly fr to) br (x : Int) (y : Int) (zln fr to + 1).toNat = true then zbl bd (D x y) 0 255 else D x y) y (x + 1))) from by rw [mq_s (by omega) (show (if zlb (zlx fr to) (zly fr to) br (x : Int) (y : Int) (zln fr to + 1).toNat = true then zbl bd (D x y) 0 255 else D x y) = _ from by rw [if_neg hb296, hdt x y hxw hy])]) ?_
      refine zz_iincK ((x + 1 : Nat) : Int) rfl rfl rfl rfl (by omega) ?_
      refine zz_goto rfl ?_
      refine Ev.take 11 ?_
      exact ih (x + 1) (by omega)
    · skip
      refine zz_aload_n rfl rfl ?_
      refine zz_iload_n rfl rfl ?_
      refine zz_iload rfl rfl ?_
      refine zz_iload rfl rfl ?_
      refine zz_aload_n rfl rfl ?_
      refine zz_getf rfl fl_M_41 (m0 hA) rfl ?_
      refine zz_bipush rfl (by decide) ?_
      refine zz_iload rfl rfl ?_
      refine zz_imul rfl ?_
      refine zz_iload rfl rfl ?_
      refine zz_iadd rfl ?_
      refine zz_iald rfl (m10 hA) (by decide) ⟨by omega, by omega⟩ ?_
      refine zz_eq (show _ = D x y from (congrArg (X.2.1 10) (by omega)).trans (hwas x y hxw hy)) ?_
      refine zz_aload_n rfl rfl ?_
      refine zz_getf rfl fl_M_126 (m0 hA) rfl ?_
      refine zz_eq hbd ?_
      refine zz_iconst rfl ?_
      refine zz_sipush rfl (by decide) ?_
      refine zz_Sp rfl lk_M_151 cw_M_blend (ct_Mblend hbr2 (hD0 x y hxw hy) (by decide) (by decide)) rfl rfl rfl rfl ?_
      refine zz_Vu rfl lk_M_138 cw_M_put rfl (m0 hA) (ct_Mput hA (hc.F 1 _ rfl) hxw hy hl) rfl rfl rfl rfl ?_
      refine Ev.heap (mput_eq hxw hw24.1 (fun hbit => (show _ = (if zlb (zlx fr to) (zly fr to) br (x : Int) (y : Int) (zln fr to + 1).toNat = true then zbl bd (D x y) 0 255 else D x y) from by rw [if_pos hb296]))) ?_
      refine zz_iincK ((x + 1 : Nat) : Int) rfl rfl rfl rfl (by omega) ?_
      refine zz_goto rfl ?_
      refine Ev.take 11 ?_
      exact ih (x + 1) (by omega)
theorem tm_stroke_o {A : Nat → Nat} {X : MX} (hA : mOk A) {n w ht : Nat} {R : Nat → Nat} (hc : mc X n w ht R) {l : Int} (hl : 0 ≤ l ∧ l < 3) {fr to br bd : Int} (h4 : zl4 fr to) (hbr : X.1 7 = br) (hb7 : 0 ≤ br ∧ br ≤ 7) (hbd : X.1 6 = bd) (hbr2 : zrg bd) {D : Nat → Nat → Int} (hwas : mwas X w ht D) (hD0 : ∀ x y, x < w → y < ht → zrg (D x y)) (hdt : ∀ x y, x < w → y < ht → X.2.1 1 (1728 * n + 576 * l.toNat + 24 * y + x) = D x y) {MC MS mc ms : Nat} {Q : ZR → ZH → Prop} (kx : Ev Z (fun _ => True, m_M_stroke, 4, MC, MS) 344 [.ref (A 0), zI l, zI fr, zI to, zI (zlo fr), zI (zhi fr), zI (zlo to), zI (zhi to), zI (zln fr to), zI (ht : Nat)] [] (mH h A (mF X 1 (mq (X.2.1 1) (1728 * n + 576 * l.toNat) (mpR w R) (fun (x y : Nat) => if zlb (zlx fr to) (zly fr to) br (x : Int) (y : Int) (zln fr to + 1).toNat = true then zbl bd (D x y) 0 255 else D x y) ht 0))) mc ms Q) : ∀ (m y : Nat), y + m = ht → Ev Z (fun _ => True, m_M_stroke, 4, MC, MS) 137 [.ref (A 0), zI l, zI fr, zI to, zI (zlo fr), zI (zhi fr), zI (zlo to), zI (zhi to), zI (zln fr to), zI (y : Nat)] [] (mH h A (mF X 1 (mq (X.2.1 1) (1728 * n + 576 * l.toNat) (mpR w R) (fun (x y : Nat) => if zlb (zlx fr to) (zly fr to) br (x : Int) (y : Int) (zln fr to + 1).toNat = true then zbl bd (D x y) 0 255 else D x y) y 0))) mc ms Q := by
  have hn6 := hc.2.1
  have hw24 := hc.2.2.2.2.1
  intro m
  induction m with
  | zero =>
    intro y hy
    refine zz_iload rfl rfl ?_
    refine zz_aload_n rfl rfl ?_
    refine zz_Vp rfl lk_M_96 cw_M_h rfl (m0 hA) (ct_Mh hA (hc.F 1 _ rfl)) rfl rfl rfl rfl ?_
    refine zz_icmp_ge rfl (by omega) (by omega) (fun hb143 => ?_) (fun hb143 => absurd hb143 (by omega))
    obtain rfl : y = ht := by omega
    exact kx
  | succ m ih =>
    intro y hy
    refine zz_iload rfl rfl ?_
    refine zz_aload_n rfl rfl ?_
    refine zz_Vp rfl lk_M_96 cw_M_h rfl (m0 hA) (ct_Mh hA (hc.F 1 _ rfl)) rfl rfl rfl rfl ?_
    refine zz_icmp_ge rfl (by omega) (by omega) (fun hb143 => absurd hb143 (by omega)) (fun hb143 => ?_)
    refine zz_iconst rfl ?_
    refine zz_istore rfl rfl rfl ?_
    refine tm_stroke_i hA hc hl h4 hbr hb7 hbd hbr2 hwas hD0 hdt (by omega) ?_ w 0 (by omega)
    refine zz_iincK ((y + 1 : Nat) : Int) rfl rfl rfl rfl (by omega) ?_
    refine zz_goto rfl ?_
    refine Ev.take 10 ?_
    refine Ev.heap (show _ = mH h A (mF X 1 (mq (X.2.1 1) (1728 * n + 576 * l.toNat) (mpR w R) (fun (x y : Nat) => if zlb (zlx fr to) (zly fr to) br (x : Int) (y : Int) (zln fr to + 1).toNat = true then zbl bd (D x y) 0 255 else D x y) (y + 1) 0)) from by rw [mq_e mpR_lt]) ?_
    exact ih (y + 1) (by omega)
end MW
