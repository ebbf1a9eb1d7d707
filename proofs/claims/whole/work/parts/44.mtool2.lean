section MV
variable {Z : ZC} {h : ZH}
theorem gr_dot {A : Nat → Nat} {X : MX} (hA : mOk A) {l fi la1 ax e y x k : Int} (hfi : zrg fi) (hla : zrg la1) (hk : 0 ≤ k ∧ k ≤ e) (he : e ≤ 1000) {MC MS mc ms : Nat} {Q : ZR → ZH → Prop} (kx : Ev Z (fun _ => True, m_M_gradient, 4, MC, MS) 174 [.ref (A 0), zI l, zI fi, zI la1, zI ax, zI e, zI y, zI x, zI k, zI (zbt fi la1 k e)] [] (mH h A X) mc ms Q) : Ev Z (fun _ => True, m_M_gradient, 4, MC, MS) 94 [.ref (A 0), zI l, zI fi, zI la1, zI ax, zI e, zI y, zI x, zI k] [] (mH h A X) mc ms Q := by
  by_cases h0 : e = 0
  · skip
    refine zz_iconst rfl ?_
    refine zz_eq (show (0 : Int) = zpq 0 0 0 0 from by decide) ?_
    refine zz_istore rfl rfl rfl ?_
    refine zz_iconst rfl ?_
    refine zz_istore rfl rfl rfl ?_
    refine zz_iload rfl rfl ?_
    refine zz_iconst rfl ?_
    refine zz_icmp_ge rfl (by omega) (by omega) (fun hb103 => absurd hb103 (by first | decide | omega)) (fun hb103 => ?_)
    refine zz_iload rfl rfl ?_
    refine zz_if_ne rfl (by omega) (fun hb108 => absurd hb108 (by omega)) (fun hb108 => ?_)
    refine zz_iload_n rfl rfl ?_
    refine zz_iload rfl rfl ?_
    refine zz_Sp rfl lk_M_118 cw_M_part (ct_Mpart hfi (by omega)) rfl rfl rfl rfl ?_
    refine zz_goto rfl ?_
    refine zz_istore rfl rfl rfl ?_
    refine zz_iload rfl rfl ?_
    refine zz_iload rfl rfl ?_
    refine zz_bipush rfl (by decide) ?_
    refine zz_bipush rfl (by decide) ?_
    refine zz_iload rfl rfl ?_
    refine zz_imul rfl ?_
    refine zz_isub rfl ?_
    refine zz_ishl rfl (by omega) ?_
    refine zz_ior rfl (zo_a (zby_rg fi 0) (by decide) (by decide) (by decide)) ?_
    refine zz_istore rfl rfl rfl ?_
    refine zz_iincK 1 rfl rfl rfl rfl (by decide) ?_
    refine zz_goto rfl ?_
    refine zz_iload rfl rfl ?_
    refine zz_iconst rfl ?_
    refine zz_icmp_ge rfl (by omega) (by omega) (fun hb103 => absurd hb103 (by first | decide | omega)) (fun hb103 => ?_)
    refine zz_iload rfl rfl ?_
    refine zz_if_ne rfl (by omega) (fun hb108 => absurd hb108 (by omega)) (fun hb108 => ?_)
    refine zz_iload_n rfl rfl ?_
    refine zz_iload rfl rfl ?_
    refine zz_Sp rfl lk_M_118 cw_M_part (ct_Mpart hfi (by omega)) rfl rfl rfl rfl ?_
    refine zz_goto rfl ?_
    refine zz_istore rfl rfl rfl ?_
    refine zz_iload rfl rfl ?_
    refine zz_iload rfl rfl ?_
    refine zz_bipush rfl (by decide) ?_
    refine zz_bipush rfl (by decide) ?_
    refine zz_iload rfl rfl ?_
    refine zz_imul rfl ?_
    refine zz_isub rfl ?_
    refine zz_ishl rfl (by omega) ?_
    refine zz_ior rfl (zo_b (zby_rg fi 0) (zby_rg fi 1) (by decide) (by decide)) ?_
    refine zz_istore rfl rfl rfl ?_
    refine zz_iincK 2 rfl rfl rfl rfl (by decide) ?_
    refine zz_goto rfl ?_
    refine zz_iload rfl rfl ?_
    refine zz_iconst rfl ?_
    refine zz_icmp_ge rfl (by omega) (by omega) (fun hb103 => absurd hb103 (by first | decide | omega)) (fun hb103 => ?_)
    refine zz_iload rfl rfl ?_
    refine zz_if_ne rfl (by omega) (fun hb108 => absurd hb108 (by omega)) (fun hb108 => ?_)
    refine zz_iload_n rfl rfl ?_
    refine zz_iload rfl rfl ?_
    refine zz_Sp rfl lk_M_118 cw_M_part (ct_Mpart hfi (by omega)) rfl rfl rfl rfl ?_
    refine zz_goto rfl ?_
    refine zz_istore rfl rfl rfl ?_
    refine zz_iload rfl rfl ?_
    refine zz_iload rfl rfl ?_
    refine zz_bipush rfl (by decide) ?_
    refine zz_bipush rfl (by decide) ?_
    refine zz_iload rfl rfl ?_
    refine zz_imul rfl ?_
    refine zz_isub rfl ?_
    refine zz_ishl rfl (by omega) ?_
    refine zz_ior rfl (zo_c (zby_rg fi 0) (zby_rg fi 1) (zby_rg fi 2) (by decide)) ?_
    refine zz_istore rfl rfl rfl ?_
    refine zz_iincK 3 rfl rfl rfl rfl (by decide) ?_
    refine zz_goto rfl ?_
    refine zz_iload rfl rfl ?_
    refine zz_iconst rfl ?_
    refine zz_icmp_ge rfl (by omega) (by omega) (fun hb103 => absurd hb103 (by first | decide | omega)) (fun hb103 => ?_)
    refine zz_iload rfl rfl ?_
    refine zz_if_ne rfl (by omega) (fun hb108 => absurd hb108 (by omega)) (fun hb108 => ?_)
    refine zz_iload_n rfl rfl ?_
    refine zz_iload rfl rfl ?_
    refine zz_Sp rfl lk_M_118 cw_M_part (ct_Mpart hfi (by omega)) rfl rfl rfl rfl ?_
    refine zz_goto rfl ?_
    refine zz_istore rfl rfl rfl ?_
    refine zz_iload rfl rfl ?_
    refine zz_iload rfl rfl ?_
    refine zz_bipush rfl (by decide) ?_
    refine zz_bipush rfl (by decide) ?_
    refine zz_iload rfl rfl ?_
    refine zz_imul rfl ?_
    refine zz_isub rfl ?_
    refine zz_ishl rfl (by omega) ?_
    refine zz_ior rfl (zo_d (zby_rg fi 0) (zby_rg fi 1) (zby_rg fi 2) (zby_rg fi 3)) ?_
    refine zz_istore rfl rfl rfl ?_
    refine zz_iincK 4 rfl rfl rfl rfl (by decide) ?_
    refine zz_goto rfl ?_
    refine zz_iload rfl rfl ?_
    refine zz_iconst rfl ?_
    refine zz_icmp_ge rfl (by omega) (by omega) (fun hb103 => ?_) (fun hb103 => absurd hb103 (by first | decide | omega))
    refine Ev.take 10 ?_
    have e9 : zI (zpq (zby fi 0) (zby fi 1) (zby fi 2) (zby fi 3)) = zI (zbt fi la1 k e) := by
      rw [zpq_dot]
      show zI (zdot _ _ _ _) = _
      unfold zbt
      rw [if_pos h0, zdot_by hfi]
      skip
    rw [← e9] at kx
    exact kx
  · skip
    refine zz_iconst rfl ?_
    refine zz_eq (show (0 : Int) = zpq 0 0 0 0 from by decide) ?_
    refine zz_istore rfl rfl rfl ?_
    refine zz_iconst rfl ?_
    refine zz_istore rfl rfl rfl ?_
    refine zz_iload rfl rfl ?_
    refine zz_iconst rfl ?_
    refine zz_icmp_ge rfl (by omega) (by omega) (fun hb103 => absurd hb103 (by first | decide | omega)) (fun hb103 => ?_)
    refine zz_iload rfl rfl ?_
    refine zz_if_ne rfl (by omega) (fun hb108 => ?_) (fun hb108 => absurd hb108 (by omega))
    refine zz_iload_n rfl rfl ?_
    refine zz_iload rfl rfl ?_
    refine zz_Sp rfl lk_M_118 cw_M_part (ct_Mpart hfi (by omega)) rfl rfl rfl rfl ?_
    refine zz_iload rfl rfl ?_
    refine zz_iload rfl rfl ?_
    refine zz_isub rfl ?_
    refine zz_imul rfl ?_
    refine zz_iload_n rfl rfl ?_
    refine zz_iload rfl rfl ?_
    refine zz_Sp rfl lk_M_118 cw_M_part (ct_Mpart hla (by omega)) rfl rfl rfl rfl ?_
    refine zz_iload rfl rfl ?_
    refine zz_imul rfl ?_
    refine zz_iadd rfl ?_
    have g0 := zgc_rg (f := fi) (l := la1) (k := k) (n := e) 0 hk ⟨by omega, by omega⟩
    refine zz_iload rfl rfl ?_
    refine zz_iconst rfl ?_
    refine zz_idivP rfl (by omega) (by omega) ?_
    refine zz_iadd rfl ?_
    refine zz_iload rfl rfl ?_
    refine zz_idivP rfl (by omega) (by omega) ?_
    refine zz_istore rfl rfl rfl ?_
    refine zz_iload rfl rfl ?_
    refine zz_iload rfl rfl ?_
    refine zz_bipush rfl (by decide) ?_
    refine zz_bipush rfl (by decide) ?_
    refine zz_iload rfl rfl ?_
    refine zz_imul rfl ?_
    refine zz_isub rfl ?_
    refine zz_ishl rfl (by omega) ?_
    refine zz_ior rfl (zo_a ⟨g0.1, g0.2.1⟩ (by decide) (by decide) (by decide)) ?_
    refine zz_istore rfl rfl rfl ?_
    refine zz_iincK 1 rfl rfl rfl rfl (by decide) ?_
    refine zz_goto rfl ?_
    refine zz_iload rfl rfl ?_
    refine zz_iconst rfl ?_
    refine zz_icmp_ge rfl (by omega) (by omega) (fun hb103 => absurd hb103 (by first | decide | omega)) (fun hb103 => ?_)
    refine zz_iload rfl rfl ?_
    refine zz_if_ne rfl (by omega) (fun hb108 => ?_) (fun hb108 => absurd hb108 (by omega))
    refine zz_iload_n rfl rfl ?_
    refine zz_iload rfl rfl ?_
    refine zz_Sp rfl lk_M_118 cw_M_part (ct_Mpart hfi (by omega)) rfl rfl rfl rfl ?_
    refine zz_iload rfl rfl ?_
    refine zz_iload rfl rfl ?_
    refine zz_isub rfl ?_
    refine zz_imul rfl ?_
    refine zz_iload_n rfl rfl ?_
    refine zz_iload rfl rfl ?_
    refine zz_Sp rfl lk_M_118 cw_M_part (ct_Mpart hla (by omega)) rfl rfl rfl rfl ?_
    refine zz_iload rfl rfl ?_
    refine zz_imul rfl ?_
    refine zz_iadd rfl ?_
    have g1 := zgc_rg (f := fi) (l := la1) (k := k) (n := e) 1 hk ⟨by omega, by omega⟩
    refine zz_iload rfl rfl ?_
    refine zz_iconst rfl ?_
    refine zz_idivP rfl (by omega) (by omega) ?_
    refine zz_iadd rfl ?_
    refine zz_iload rfl rfl ?_
    refine zz_idivP rfl (by omega) (by omega) ?_
    refine zz_istore rfl rfl rfl ?_
    refine zz_iload rfl rfl ?_
    refine zz_iload rfl rfl ?_
    refine zz_bipush rfl (by decide) ?_
    refine zz_bipush rfl (by decide) ?_
    refine zz_iload rfl rfl ?_
    refine zz_imul rfl ?_
    refine zz_isub rfl ?_
    refine zz_ishl rfl (by omega) ?_
    refine zz_ior rfl (zo_b ⟨g0.1, g0.2.1⟩ ⟨g1.1, g1.2.1⟩ (by decide) (by decide)) ?_
    refine zz_istore rfl rfl rfl ?_
    refine zz_iincK 2 rfl rfl rfl rfl (by decide) ?_
    refine zz_goto rfl ?_
    refine zz_iload rfl rfl ?_
    refine zz_iconst rfl ?_
    refine zz_icmp_ge rfl (by omega) (by omega) (fun hb103 => absurd hb103 (by first | decide | omega)) (fun hb103 => ?_)
    refine zz_iload rfl rfl ?_
    refine zz_if_ne rfl (by omega) (fun hb108 => ?_) (fun hb108 => absurd hb108 (by omega))
    refine zz_iload_n rfl rfl ?_
    refine zz_iload rfl rfl ?_
    refine zz_Sp rfl lk_M_118 cw_M_part (ct_Mpart hfi (by omega)) rfl rfl rfl rfl ?_
    refine zz_iload rfl rfl ?_
    refine zz_iload rfl rfl ?_
    refine zz_isub rfl ?_
    refine zz_imul rfl ?_
    refine zz_iload_n rfl rfl ?_
    refine zz_iload rfl rfl ?_
    refine zz_Sp rfl lk_M_118 cw_M_part (ct_Mpart hla (by omega)) rfl rfl rfl rfl ?_
    refine zz_iload rfl rfl ?_
    refine zz_imul rfl ?_
    refine zz_iadd rfl ?_
    have g2 := zgc_rg (f := fi) (l := la1) (k := k) (n := e) 2 hk ⟨by omega, by omega⟩
    refine zz_iload rfl rfl ?_
    refine zz_iconst rfl ?_
    refine zz_idivP rfl (by omega) (by omega) ?_
    refine zz_iadd rfl ?_
    refine zz_iload rfl rfl ?_
    refine zz_idivP rfl (by omega) (by omega) ?_
    refine zz_istore rfl rfl rfl ?_
    refine zz_iload rfl rfl ?_
    refine zz_iload rfl rfl ?_
    refine zz_bipush rfl (by decide) ?_
    refine zz_bipush rfl (by decide) ?_
    refine zz_iload rfl rfl ?_
    refine zz_imul rfl ?_
    refine zz_isub rfl ?_
    refine zz_ishl rfl (by omega) ?_
    refine zz_ior rfl (zo_c ⟨g0.1, g0.2.1⟩ ⟨g1.1, g1.2.1⟩ ⟨g2.1, g2.2.1⟩ (by decide)) ?_
    refine zz_istore rfl rfl rfl ?_
    refine zz_iincK 3 rfl rfl rfl rfl (by decide) ?_
    refine zz_goto rfl ?_
    refine zz_iload rfl rfl ?_
    refine zz_iconst rfl ?_
    refine zz_icmp_ge rfl (by omega) (by omega) (fun hb103 => absurd hb103 (by first | decide | omega)) (fun hb103 => ?_)
    refine zz_iload rfl rfl ?_
    refine zz_if_ne rfl (by omega) (fun hb108 => ?_) (fun hb108 => absurd hb108 (by omega))
    refine zz_iload_n rfl rfl ?_
    refine zz_iload rfl rfl ?_
    refine zz_Sp rfl lk_M_118 cw_M_part (ct_Mpart hfi (by omega)) rfl rfl rfl rfl ?_
    refine zz_iload rfl rfl ?_
    refine zz_iload rfl rfl ?_
    refine zz_isub rfl ?_
    refine zz_imul rfl ?_
    refine zz_iload_n rfl rfl ?_
    refine zz_iload rfl rfl ?_
    refine zz_Sp rfl lk_M_118 cw_M_part (ct_Mpart hla (by omega)) rfl rfl rfl rfl ?_
    refine zz_iload rfl rfl ?_
    refine zz_imul rfl ?_
    refine zz_iadd rfl ?_
    have g3 := zgc_rg (f := fi) (l := la1) (k := k) (n := e) 3 hk ⟨by omega, by omega⟩
    refine zz_iload rfl rfl ?_
    refine zz_iconst rfl ?_
    refine zz_idivP rfl (by omega) (by omega) ?_
    refine zz_iadd rfl ?_
    refine zz_iload rfl rfl ?_
    refine zz_idivP rfl (by omega) (by omega) ?_
    refine zz_istore rfl rfl rfl ?_
    refine zz_iload rfl rfl ?_
    refine zz_iload rfl rfl ?_
    refine zz_bipush rfl (by decide) ?_
    refine zz_bipush rfl (by decide) ?_
    refine zz_iload rfl rfl ?_
    refine zz_imul rfl ?_
    refine zz_isub rfl ?_
    refine zz_ishl rfl (by omega) ?_
    refine zz_ior rfl (zo_d ⟨g0.1, g0.2.1⟩ ⟨g1.1, g1.2.1⟩ ⟨g2.1, g2.2.1⟩ ⟨g3.1, g3.2.1⟩) ?_
    refine zz_istore rfl rfl rfl ?_
    refine zz_iincK 4 rfl rfl rfl rfl (by decide) ?_
    refine zz_goto rfl ?_
    refine zz_iload rfl rfl ?_
    refine zz_iconst rfl ?_
    refine zz_icmp_ge rfl (by omega) (by omega) (fun hb103 => ?_) (fun hb103 => absurd hb103 (by first | decide | omega))
    refine Ev.take 10 ?_
    have e9 : zI (zpq ((zby fi 0 * (e - k) + zby la1 0 * k + e / 2) / e) ((zby fi 1 * (e - k) + zby la1 1 * k + e / 2) / e) ((zby fi 2 * (e - k) + zby la1 2 * k + e / 2) / e) ((zby fi 3 * (e - k) + zby la1 3 * k + e / 2) / e)) = zI (zbt fi la1 k e) := by
      rw [zpq_dot]
      show zI (zdot _ _ _ _) = _
      unfold zbt
      rw [if_neg h0]
      rfl
    rw [← e9] at kx
    exact kx
theorem tm_grad_i {A : Nat → Nat} {X : MX} (hA : mOk A) {n w ht : Nat} {R : Nat → Nat} (hc : mc X n w ht R) {l : Int} (hl : 0 ≤ l ∧ l < 3) {fi la1 ax e : Int} (hfi : zrg fi) (hla : zrg la1) (hax : 0 ≤ ax ∧ ax ≤ 1) (he0 : ax = 0 → e = (w : Int) - 1) (he1 : ax ≠ 0 → e = (ht : Int) - 1) {MC MS mc ms : Nat} {Q : ZR → ZH → Prop} {y : Nat} (hy : y < ht) (kx : Ev Z (fun _ => True, m_M_gradient, 4, MC, MS) 191 [.ref (A 0), zI l, zI fi, zI la1, zI ax, zI e, zI (y : Nat), zI (w : Nat)] [] (mH h A (mF X 1 (mq (X.2.1 1) (1728 * n + 576 * l.toNat) (mpR w R) (fun x y => zbt fi la1 (if ax = 0 then (x : Int) else (y : Int)) e) y w))) mc ms Q) : ∀ (m x : Nat), x + m = w → Ev Z (fun _ => True, m_M_gradient, 4, MC, MS) 71 [.ref (A 0), zI l, zI fi, zI la1, zI ax, zI e, zI (y : Nat), zI (x : Nat)] [] (mH h A (mF X 1 (mq (X.2.1 1) (1728 * n + 576 * l.toNat) (mpR w R) (fun x y => zbt fi la1 (if ax = 0 then (x : Int) else (y : Int)) e) y x))) mc ms Q := by
  have hn6 := hc.2.1
  have hw24 := hc.2.2.2.2.1
  intro m
  induction m with
  | zero =>
    intro x hx
    refine zz_iload rfl rfl ?_
    refine zz_aload_n rfl rfl ?_
    refine zz_Vp rfl lk_M_100 cw_M_w rfl (m0 hA) (ct_Mw hA (hc.F 1 _ rfl)) rfl rfl rfl rfl ?_
    refine zz_icmp_ge rfl (by omega) (by omega) (fun hb77 => ?_) (fun hb77 => absurd hb77 (by omega))
    obtain rfl : x = w := by omega
    exact kx
  | succ m ih =>
    intro x hx
    have hxw : x < w := by omega
    refine zz_iload rfl rfl ?_
    refine zz_aload_n rfl rfl ?_
    refine zz_Vp rfl lk_M_100 cw_M_w rfl (m0 hA) (ct_Mw hA (hc.F 1 _ rfl)) rfl rfl rfl rfl ?_
    refine zz_icmp_ge rfl (by omega) (by omega) (fun hb77 => absurd hb77 (by omega)) (fun hb77 => ?_)
    refine zz_iload rfl rfl ?_
    refine zz_if_ne rfl (by omega) (fun hb82 => ?_) (fun hb82 => ?_)
    · skip
      refine zz_iload rfl rfl ?_
      refine zz_istore rfl rfl rfl ?_
      refine gr_dot hA hfi hla ⟨by omega, by have := he1 hb82; omega⟩ (by have := he1 hb82; omega) ?_
      refine zz_aload_n rfl rfl ?_
      refine zz_iload_n rfl rfl ?_
      refine zz_iload rfl rfl ?_
      refine zz_iload rfl rfl ?_
      refine zz_iload rfl rfl ?_
      refine zz_Vu rfl lk_M_138 cw_M_put rfl (m0 hA) (ct_Mput hA (hc.F 1 _ rfl) hxw hy hl) rfl rfl rfl rfl ?_
      refine Ev.heap (mput_eq hxw hw24.1 (fun hbit => (show _ = zbt fi la1 (if ax = 0 then (x : Int) else (y : Int)) e from by rw [if_neg hb82]))) ?_
      refine zz_iincK ((x + 1 : Nat) : Int) rfl rfl rfl rfl (by omega) ?_
      refine zz_goto rfl ?_
      refine Ev.take 8 ?_
      exact ih (x + 1) (by omega)
    · skip
      refine zz_iload rfl rfl ?_
      refine zz_goto rfl ?_
      refine zz_istore rfl rfl rfl ?_
      refine gr_dot hA hfi hla ⟨by omega, by have := he0 hb82; omega⟩ (by have := he0 hb82; omega) ?_
      refine zz_aload_n rfl rfl ?_
      refine zz_iload_n rfl rfl ?_
      refine zz_iload rfl rfl ?_
      refine zz_iload rfl rfl ?_
      refine zz_iload rfl rfl ?_
      refine zz_Vu rfl lk_M_138 cw_M_put rfl (m0 hA) (ct_Mput hA (hc.F 1 _ rfl) hxw hy hl) rfl rfl rfl rfl ?_
      refine Ev.heap (mput_eq hxw hw24.1 (fun hbit => (show _ = zbt fi la1 (if ax = 0 then (x : Int) else (y : Int)) e from by rw [if_pos hb82]))) ?_
      refine zz_iincK ((x + 1 : Nat) : Int) rfl rfl rfl rfl (by omega) ?_
      refine zz_goto rfl ?_
      refine Ev.take 8 ?_
      exact ih (x + 1) (by omega)
theorem tm_grad_o {A : Nat → Nat} {X : MX} (hA : mOk A) {n w ht : Nat} {R : Nat → Nat} (hc : mc X n w ht R) {l : Int} (hl : 0 ≤ l ∧ l < 3) {fi la1 ax e : Int} (hfi : zrg fi) (hla : zrg la1) (hax : 0 ≤ ax ∧ ax ≤ 1) (he0 : ax = 0 → e = (w : Int) - 1) (he1 : ax ≠ 0 → e = (ht : Int) - 1) {MC MS mc ms : Nat} {Q : ZR → ZH → Prop} (kx : Ev Z (fun _ => True, m_M_gradient, 4, MC, MS) 197 [.ref (A 0), zI l, zI fi, zI la1, zI ax, zI e, zI (ht : Nat)] [] (mH h A (mF X 1 (mq (X.2.1 1) (1728 * n + 576 * l.toNat) (mpR w R) (fun x y => zbt fi la1 (if ax = 0 then (x : Int) else (y : Int)) e) ht 0))) mc ms Q) : ∀ (m y : Nat), y + m = ht → Ev Z (fun _ => True, m_M_gradient, 4, MC, MS) 59 [.ref (A 0), zI l, zI fi, zI la1, zI ax, zI e, zI (y : Nat)] [] (mH h A (mF X 1 (mq (X.2.1 1) (1728 * n + 576 * l.toNat) (mpR w R) (fun x y => zbt fi la1 (if ax = 0 then (x : Int) else (y : Int)) e) y 0))) mc ms Q := by
  have hn6 := hc.2.1
  have hw24 := hc.2.2.2.2.1
  intro m
  induction m with
  | zero =>
    intro y hy
    refine zz_iload rfl rfl ?_
    refine zz_aload_n rfl rfl ?_
    refine zz_Vp rfl lk_M_96 cw_M_h rfl (m0 hA) (ct_Mh hA (hc.F 1 _ rfl)) rfl rfl rfl rfl ?_
    refine zz_icmp_ge rfl (by omega) (by omega) (fun hb65 => ?_) (fun hb65 => absurd hb65 (by omega))
    obtain rfl : y = ht := by omega
    exact kx
  | succ m ih =>
    intro y hy
    refine zz_iload rfl rfl ?_
    refine zz_aload_n rfl rfl ?_
    refine zz_Vp rfl lk_M_96 cw_M_h rfl (m0 hA) (ct_Mh hA (hc.F 1 _ rfl)) rfl rfl rfl rfl ?_
    refine zz_icmp_ge rfl (by omega) (by omega) (fun hb65 => absurd hb65 (by omega)) (fun hb65 => ?_)
    refine zz_iconst rfl ?_
    refine zz_istore rfl rfl rfl ?_
    refine tm_grad_i hA hc hl hfi hla hax he0 he1 (by omega) ?_ w 0 (by omega)
    refine zz_iincK ((y + 1 : Nat) : Int) rfl rfl rfl rfl (by omega) ?_
    refine zz_goto rfl ?_
    refine Ev.take 7 ?_
    refine Ev.heap (show _ = mH h A (mF X 1 (mq (X.2.1 1) (1728 * n + 576 * l.toNat) (mpR w R) (fun x y => zbt fi la1 (if ax = 0 then (x : Int) else (y : Int)) e) (y + 1) 0)) from by rw [mq_e mpR_lt]) ?_
    exact ih (y + 1) (by omega)
theorem bl_i {A : Nat → Nat} {X : MX} (hA : mOk A) {n w ht : Nat} {R : Nat → Nat} (hc : mc X n w ht R) {D : Nat → Nat → Int} (hwas : mwas X w ht D) {l r nn y x d c : Int} (hr : 1 ≤ r ∧ r ≤ 4) (hy : 0 ≤ y ∧ y < ht) (hx : 0 ≤ x ∧ x < w) (hcc : 0 ≤ c ∧ c ≤ 3) {MC MS mc ms : Nat} {Q : ZR → ZH → Prop} (hD0 : ∀ x y, x < w → y < ht → zrg (D x y)) {j : Nat} (hj : (j : Int) ≤ 2 * r) {s0 : Int} (kx : Ev Z (fun _ => True, m_M_blur, 4, MC, MS) 136 [.ref (A 0), zI l, zI r, zI nn, zI y, zI x, zI d, zI c, zI (s0 + zsum (fun i => zby (zldt (sFl D w) w ht (x - r + (i : Int)) (y - r + (j : Int))) c) (2 * r + 1).toNat), zI (-r + (j : Int)), zI (r + 1)] [] (mH h A X) mc ms Q) : ∀ (m k : Nat), (k : Int) + m = 2 * r + 1 → Ev Z (fun _ => True, m_M_blur, 4, MC, MS) 100 [.ref (A 0), zI l, zI r, zI nn, zI y, zI x, zI d, zI c, zI (s0 + zsum (fun i => zby (zldt (sFl D w) w ht (x - r + (i : Int)) (y - r + (j : Int))) c) k), zI (-r + (j : Int)), zI (-r + (k : Int))] [] (mH h A X) mc ms Q := by
  have hw24 := hc.2.2.2.2.1
  have hDr : ∀ a b : Int, zrg (zldt (sFl D w) w ht a b) := sDt_rg hD0
  intro m
  induction m with
  | zero =>
    intro k hk
    refine zz_iload rfl rfl ?_
    refine zz_iload_n rfl rfl ?_
    refine zz_icmp_gt rfl (by omega) (by omega) (fun hb103 => ?_) (fun hb103 => absurd hb103 (by omega))
    have e1 : (2 * r + 1).toNat = k := by omega
    have e2 : r + 1 = -r + (k : Int) := by omega
    rw [e1, e2] at kx
    exact kx
  | succ m ih =>
    intro k hk
    refine zz_iload rfl rfl ?_
    refine zz_iload_n rfl rfl ?_
    refine zz_icmp_gt rfl (by omega) (by omega) (fun hb103 => absurd hb103 (by omega)) (fun hb103 => ?_)
    refine zz_iload rfl rfl ?_
    refine zz_aload_n rfl rfl ?_
    refine zz_iload rfl rfl ?_
    refine zz_iload rfl rfl ?_
    refine zz_iadd rfl ?_
    refine zz_iload rfl rfl ?_
    refine zz_iload rfl rfl ?_
    refine zz_iadd rfl ?_
    refine zz_Vp rfl lk_M_164 cw_M_before rfl (m0 hA) (ct_Mbefore hA hc hwas ⟨by omega, by omega⟩ ⟨by omega, by omega⟩) rfl rfl rfl rfl ?_
    refine zz_iload rfl rfl ?_
    refine zz_Sp rfl lk_M_118 cw_M_part (ct_Mpart (hDr _ _) hcc) rfl rfl rfl rfl ?_
    refine zz_iadd rfl ?_
    refine zz_eq (show _ = s0 + zsum (fun i => zby (zldt (sFl D w) w ht (x - r + (i : Int)) (y - r + (j : Int))) c) (k + 1) from by show _ = s0 + (zsum _ k + zby _ c); rw [show x + (-r + (k : Int)) = x - r + (k : Int) by omega, show y + (-r + (j : Int)) = y - r + (j : Int) by omega]; omega) ?_
    refine zz_istore rfl rfl rfl ?_
    refine zz_iincK (-r + ((k + 1 : Nat) : Int)) rfl rfl rfl rfl (by omega) ?_
    refine zz_goto rfl ?_
    exact ih (k + 1) (by omega)
theorem bl_j {A : Nat → Nat} {X : MX} (hA : mOk A) {n w ht : Nat} {R : Nat → Nat} (hc : mc X n w ht R) {D : Nat → Nat → Int} (hwas : mwas X w ht D) {l r nn y x d c : Int} (hr : 1 ≤ r ∧ r ≤ 4) (hy : 0 ≤ y ∧ y < ht) (hx : 0 ≤ x ∧ x < w) (hcc : 0 ≤ c ∧ c ≤ 3) {MC MS mc ms : Nat} {Q : ZR → ZH → Prop} (hD0 : ∀ x y, x < w → y < ht → zrg (D x y)) (kx : Ev Z (fun _ => True, m_M_blur, 4, MC, MS) 142 [.ref (A 0), zI l, zI r, zI nn, zI y, zI x, zI d, zI c, zI (zsum (fun j => zsum (fun i => zby (zldt (sFl D w) w ht (x - r + (i : Int)) (y - r + (j : Int))) c) (2 * r + 1).toNat) (2 * r + 1).toNat)] [] (mH h A X) mc ms Q) : ∀ (m k : Nat), (k : Int) + m = 2 * r + 1 → Ev Z (fun _ => True, m_M_blur, 4, MC, MS) 90 [.ref (A 0), zI l, zI r, zI nn, zI y, zI x, zI d, zI c, zI (zsum (fun j => zsum (fun i => zby (zldt (sFl D w) w ht (x - r + (i : Int)) (y - r + (j : Int))) c) (2 * r + 1).toNat) k), zI (-r + (k : Int))] [] (mH h A X) mc ms Q := by
  intro m
  induction m with
  | zero =>
    intro k hk
    refine zz_iload rfl rfl ?_
    refine zz_iload_n rfl rfl ?_
    refine zz_icmp_gt rfl (by omega) (by omega) (fun hb93 => ?_) (fun hb93 => absurd hb93 (by omega))
    have e1 : (2 * r + 1).toNat = k := by omega
    rw [e1] at kx
    refine Ev.take 9 ?_
    rw [e1]
    exact kx
  | succ m ih =>
    intro k hk
    refine zz_iload rfl rfl ?_
    refine zz_iload_n rfl rfl ?_
    refine zz_icmp_gt rfl (by omega) (by omega) (fun hb93 => absurd hb93 (by omega)) (fun hb93 => ?_)
    refine zz_iload_n rfl rfl ?_
    refine zz_ineg rfl ?_
    refine zz_istore rfl rfl rfl ?_
    have k1 := bl_i (l := l) (nn := nn) (d := d) (s0 := zsum (fun j => zsum (fun i => zby (zldt (sFl D w) w ht (x - r + (i : Int)) (y - r + (j : Int))) c) (2 * r + 1).toNat) k) (Z := Z) (h := h) (MC := MC) (MS := MS) (mc := mc) (ms := ms) (Q := Q) hA hc hwas hr hy hx hcc hD0 (j := k) (by omega) ?_ (2 * r + 1).toNat 0 (by omega)
    · have e3 : zsum (fun j => zsum (fun i => zby (zldt (sFl D w) w ht (x - r + (i : Int)) (y - r + (j : Int))) c) (2 * r + 1).toNat) k + zsum (fun i => zby (zldt (sFl D w) w ht (x - r + (i : Int)) (y - r + (k : Int))) c) 0 = zsum (fun j => zsum (fun i => zby (zldt (sFl D w) w ht (x - r + (i : Int)) (y - r + (j : Int))) c) (2 * r + 1).toNat) k := by show _ + 0 = _; omega
      rw [e3, show -r + ((0 : Nat) : Int) = -r by omega] at k1
      exact k1
    refine zz_iincK (-r + ((k + 1 : Nat) : Int)) rfl rfl rfl rfl (by omega) ?_
    refine zz_goto rfl ?_
    refine Ev.take 10 ?_
    exact ih (k + 1) (by omega)
theorem bl_c {A : Nat → Nat} {X : MX} (hA : mOk A) {n w ht : Nat} {R : Nat → Nat} (hc : mc X n w ht R) {D : Nat → Nat → Int} (hwas : mwas X w ht D) {l r nn y x d c : Int} (hr : 1 ≤ r ∧ r ≤ 4) (hy : 0 ≤ y ∧ y < ht) (hx : 0 ≤ x ∧ x < w) (hcc : 0 ≤ c ∧ c ≤ 3) {MC MS mc ms : Nat} {Q : ZR → ZH → Prop} (hD0 : ∀ x y, x < w → y < ht → zrg (D x y)) (kx : Ev Z (fun _ => True, m_M_blur, 4, MC, MS) 142 [.ref (A 0), zI l, zI r, zI nn, zI y, zI x, zI d, zI c, zI (zsum (fun j => zsum (fun i => zby (zldt (sFl D w) w ht (x - r + (i : Int)) (y - r + (j : Int))) c) (2 * r + 1).toNat) (2 * r + 1).toNat)] [] (mH h A X) mc ms Q) : Ev Z (fun _ => True, m_M_blur, 4, MC, MS) 83 [.ref (A 0), zI l, zI r, zI nn, zI y, zI x, zI d, zI c] [] (mH h A X) mc ms Q := by
  refine zz_iconst rfl ?_
  refine zz_istore rfl rfl rfl ?_
  refine zz_iload_n rfl rfl ?_
  refine zz_ineg rfl ?_
  refine zz_istore rfl rfl rfl ?_
  have k1 := bl_j (Z := Z) (h := h) hA hc hwas hr hy hx hcc hD0 kx (2 * r + 1).toNat 0 (by omega)
  rw [show -r + ((0 : Nat) : Int) = -r by omega] at k1
  exact k1
theorem zbr_rg {f : Nat → Int} {w ht : Nat} {r x y c : Int} (hr : 1 ≤ r ∧ r ≤ 4) : (0 ≤ zsum (fun j => zsum (fun i => zby (zldt f w ht (x - r + (i : Int)) (y - r + (j : Int))) c) (2 * r + 1).toNat) (2 * r + 1).toNat + (2 * r + 1) * (2 * r + 1) / 2 ∧ zsum (fun j => zsum (fun i => zby (zldt f w ht (x - r + (i : Int)) (y - r + (j : Int))) c) (2 * r + 1).toNat) (2 * r + 1).toNat + (2 * r + 1) * (2 * r + 1) / 2 ≤ 30000) ∧ (9 ≤ (2 * r + 1) * (2 * r + 1) ∧ (2 * r + 1) * (2 * r + 1) ≤ 81) ∧ (0 ≤ zbr f w ht r x y c ∧ zbr f w ht r x y c ≤ 255) := by
  have h1 : ∀ j, 0 ≤ zsum (fun i => zby (zldt f w ht (x - r + (i : Int)) (y - r + (j : Int))) c) (2 * r + 1).toNat ∧ zsum (fun i => zby (zldt f w ht (x - r + (i : Int)) (y - r + (j : Int))) c) (2 * r + 1).toNat ≤ ((2 * r + 1).toNat : Int) * 255 := fun j => zsum_rg _ (fun _ _ => zby_rg _ _)
  have h2 := zsum_rg (F := fun j => zsum (fun i => zby (zldt f w ht (x - r + (i : Int)) (y - r + (j : Int))) c) (2 * r + 1).toNat) (2 * r + 1).toNat (fun j _ => h1 j)
  have hb : zbr f w ht r x y c = (zsum (fun j => zsum (fun i => zby (zldt f w ht (x - r + (i : Int)) (y - r + (j : Int))) c) (2 * r + 1).toNat) (2 * r + 1).toNat + (2 * r + 1) * (2 * r + 1) / 2) / ((2 * r + 1) * (2 * r + 1)) := rfl
  rw [hb]
  generalize zsum (fun j => zsum (fun i => zby (zldt f w ht (x - r + (i : Int)) (y - r + (j : Int))) c) (2 * r + 1).toNat) (2 * r + 1).toNat = s at h2 ⊢
  have h : r = 1 ∨ r = 2 ∨ r = 3 ∨ r = 4 := by omega
  rcases h with rfl | rfl | rfl | rfl
  · have h3 : 0 ≤ s ∧ s ≤ 3 * (3 * 255) := h2
    refine ⟨?_, ?_, ?_⟩ <;> omega
  · have h3 : 0 ≤ s ∧ s ≤ 5 * (5 * 255) := h2
    refine ⟨?_, ?_, ?_⟩ <;> omega
  · have h3 : 0 ≤ s ∧ s ≤ 7 * (7 * 255) := h2
    refine ⟨?_, ?_, ?_⟩ <;> omega
  · have h3 : 0 ≤ s ∧ s ≤ 9 * (9 * 255) := h2
    refine ⟨?_, ?_, ?_⟩ <;> omega
theorem tm_blur_i {A : Nat → Nat} {X : MX} (hA : mOk A) {n w ht : Nat} {R : Nat → Nat} (hc : mc X n w ht R) {l : Int} (hl : 0 ≤ l ∧ l < 3) {r : Int} (hr : 1 ≤ r ∧ r ≤ 4) {D : Nat → Nat → Int} (hwas : mwas X w ht D) (hD0 : ∀ x y, x < w → y < ht → zrg (D x y)) {MC MS mc ms : Nat} {Q : ZR → ZH → Prop} {y : Nat} (hy : y < ht) (kx : Ev Z (fun _ => True, m_M_blur, 4, MC, MS) 187 [.ref (A 0), zI l, zI r, zI ((2 * r + 1) * (2 * r + 1)), zI (y : Nat), zI (w : Nat)] [] (mH h A (mF X 1 (mq (X.2.1 1) (1728 * n + 576 * l.toNat) (mpR w R) (fun x y => zbd (sFl D w) w ht r (x : Int) (y : Int)) y w))) mc ms Q) : ∀ (m x : Nat), x + m = w → Ev Z (fun _ => True, m_M_blur, 4, MC, MS) 62 [.ref (A 0), zI l, zI r, zI ((2 * r + 1) * (2 * r + 1)), zI (y : Nat), zI (x : Nat)] [] (mH h A (mF X 1 (mq (X.2.1 1) (1728 * n + 576 * l.toNat) (mpR w R) (fun x y => zbd (sFl D w) w ht r (x : Int) (y : Int)) y x))) mc ms Q := by
  have hn6 := hc.2.1
  have hw24 := hc.2.2.2.2.1
  intro m
  induction m with
  | zero =>
    intro x hx
    refine zz_iload rfl rfl ?_
    refine zz_aload_n rfl rfl ?_
    refine zz_Vp rfl lk_M_100 cw_M_w rfl (m0 hA) (ct_Mw hA (hc.F 1 _ rfl)) rfl rfl rfl rfl ?_
    refine zz_icmp_ge rfl (by omega) (by omega) (fun hb68 => ?_) (fun hb68 => absurd hb68 (by omega))
    obtain rfl : x = w := by omega
    exact kx
  | succ m ih =>
    intro x hx
    have hxw : x < w := by omega
    refine zz_iload rfl rfl ?_
    refine zz_aload_n rfl rfl ?_
    refine zz_Vp rfl lk_M_100 cw_M_w rfl (m0 hA) (ct_Mw hA (hc.F 1 _ rfl)) rfl rfl rfl rfl ?_
    refine zz_icmp_ge rfl (by omega) (by omega) (fun hb68 => absurd hb68 (by omega)) (fun hb68 => ?_)
    refine zz_iconst rfl ?_
    refine zz_eq (show (0 : Int) = zpq 0 0 0 0 from by decide) ?_
    refine zz_istore rfl rfl rfl ?_
    refine zz_iconst rfl ?_
    refine zz_istore rfl rfl rfl ?_
    refine zz_iload rfl rfl ?_
    refine zz_iconst rfl ?_
    refine zz_icmp_ge rfl (by omega) (by omega) (fun hb80 => absurd hb80 (by first | decide | omega)) (fun hb80 => ?_)
    refine Ev.take 8 ?_
    refine bl_c (R := R) hA (hc.F 1 _ rfl) (hwas.F1 _) hr ⟨by omega, by omega⟩ ⟨by omega, by omega⟩ (by decide) hD0 ?_
    have g0 := zbr_rg (f := sFl D w) (w := w) (ht := ht) (x := (x : Int)) (y := (y : Int)) (c := 0) hr
    refine zz_iload rfl rfl ?_
    refine zz_iload rfl rfl ?_
    refine zz_iload_n rfl rfl ?_
    refine zz_iconst rfl ?_
    refine zz_idivP rfl (by omega) (by decide) ?_
    refine zz_iadd rfl ?_
    refine zz_iload_n rfl rfl ?_
    refine zz_idivP rfl ⟨g0.1.1, by omega⟩ ⟨by omega, by omega⟩ ?_
    refine zz_bipush rfl (by decide) ?_
    refine zz_bipush rfl (by decide) ?_
    refine zz_iload rfl rfl ?_
    refine zz_imul rfl ?_
    refine zz_isub rfl ?_
    refine zz_ishl rfl (by omega) ?_
    refine zz_ior rfl (zo_a g0.2.2 (by decide) (by decide) (by decide)) ?_
    refine zz_istore rfl rfl rfl ?_
    refine zz_iincK 1 rfl rfl rfl rfl (by decide) ?_
    refine zz_goto rfl ?_
    refine zz_iload rfl rfl ?_
    refine zz_iconst rfl ?_
    refine zz_icmp_ge rfl (by omega) (by omega) (fun hb80 => absurd hb80 (by first | decide | omega)) (fun hb80 => ?_)
    refine Ev.take 8 ?_
    refine bl_c (R := R) hA (hc.F 1 _ rfl) (hwas.F1 _) hr ⟨by omega, by omega⟩ ⟨by omega, by omega⟩ (by decide) hD0 ?_
    have g1 := zbr_rg (f := sFl D w) (w := w) (ht := ht) (x := (x : Int)) (y := (y : Int)) (c := 1) hr
    refine zz_iload rfl rfl ?_
    refine zz_iload rfl rfl ?_
    refine zz_iload_n rfl rfl ?_
    refine zz_iconst rfl ?_
    refine zz_idivP rfl (by omega) (by decide) ?_
    refine zz_iadd rfl ?_
    refine zz_iload_n rfl rfl ?_
    refine zz_idivP rfl ⟨g1.1.1, by omega⟩ ⟨by omega, by omega⟩ ?_
    refine zz_bipush rfl (by decide) ?_
    refine zz_bipush rfl (by decide) ?_
    refine zz_iload rfl rfl ?_
    refine zz_imul rfl ?_
    refine zz_isub rfl ?_
    refine zz_ishl rfl (by omega) ?_
    refine zz_ior rfl (zo_b g0.2.2 g1.2.2 (by decide) (by decide)) ?_
    refine zz_istore rfl rfl rfl ?_
    refine zz_iincK 2 rfl rfl rfl rfl (by decide) ?_
    refine zz_goto rfl ?_
    refine zz_iload rfl rfl ?_
    refine zz_iconst rfl ?_
    refine zz_icmp_ge rfl (by omega) (by omega) (fun hb80 => absurd hb80 (by first | decide | omega)) (fun hb80 => ?_)
    refine Ev.take 8 ?_
    refine bl_c (R := R) hA (hc.F 1 _ rfl) (hwas.F1 _) hr ⟨by omega, by omega⟩ ⟨by omega, by omega⟩ (by decide) hD0 ?_
    have g2 := zbr_rg (f := sFl D w) (w := w) (ht := ht) (x := (x : Int)) (y := (y : Int)) (c := 2) hr
    refine zz_iload rfl rfl ?_
    refine zz_iload rfl rfl ?_
    refine zz_iload_n rfl rfl ?_
    refine zz_iconst rfl ?_
    refine zz_idivP rfl (by omega) (by decide) ?_
    refine zz_iadd rfl ?_
    refine zz_iload_n rfl rfl ?_
    refine zz_idivP rfl ⟨g2.1.1, by omega⟩ ⟨by omega, by omega⟩ ?_
    refine zz_bipush rfl (by decide) ?_
    refine zz_bipush rfl (by decide) ?_
    refine zz_iload rfl rfl ?_
    refine zz_imul rfl ?_
    refine zz_isub rfl ?_
    refine zz_ishl rfl (by omega) ?_
    refine zz_ior rfl (zo_c g0.2.2 g1.2.2 g2.2.2 (by decide)) ?_
    refine zz_istore rfl rfl rfl ?_
    refine zz_iincK 3 rfl rfl rfl rfl (by decide) ?_
    refine zz_goto rfl ?_
    refine zz_iload rfl rfl ?_
    refine zz_iconst rfl ?_
    refine zz_icmp_ge rfl (by omega) (by omega) (fun hb80 => absurd hb80 (by first | decide | omega)) (fun hb80 => ?_)
    refine Ev.take 8 ?_
    refine bl_c (R := R) hA (hc.F 1 _ rfl) (hwas.F1 _) hr ⟨by omega, by omega⟩ ⟨by omega, by omega⟩ (by decide) hD0 ?_
    have g3 := zbr_rg (f := sFl D w) (w := w) (ht := ht) (x := (x : Int)) (y := (y : Int)) (c := 3) hr
    refine zz_iload rfl rfl ?_
    refine zz_iload rfl rfl ?_
    refine zz_iload_n rfl rfl ?_
    refine zz_iconst rfl ?_
    refine zz_idivP rfl (by omega) (by decide) ?_
    refine zz_iadd rfl ?_
    refine zz_iload_n rfl rfl ?_
    refine zz_idivP rfl ⟨g3.1.1, by omega⟩ ⟨by omega, by omega⟩ ?_
    refine zz_bipush rfl (by decide) ?_
    refine zz_bipush rfl (by decide) ?_
    refine zz_iload rfl rfl ?_
    refine zz_imul rfl ?_
    refine zz_isub rfl ?_
    refine zz_ishl rfl (by omega) ?_
    refine zz_ior rfl (zo_d g0.2.2 g1.2.2 g2.2.2 g3.2.2) ?_
    refine zz_istore rfl rfl rfl ?_
    refine zz_iincK 4 rfl rfl rfl rfl (by decide) ?_
    refine zz_goto rfl ?_
    refine zz_iload rfl rfl ?_
    refine zz_iconst rfl ?_
    refine zz_icmp_ge rfl (by omega) (by omega) (fun hb80 => ?_) (fun hb80 => absurd hb80 (by first | decide | omega))
    refine Ev.take 7 ?_
    refine zz_aload_n rfl rfl ?_
    refine zz_iload_n rfl rfl ?_
    refine zz_iload rfl rfl ?_
    refine zz_iload rfl rfl ?_
    refine zz_iload rfl rfl ?_
    refine zz_tv (show _ = zI (zbd (sFl D w) w ht r (x : Int) (y : Int)) from zpq_dot _ _ _ _) ?_
    refine zz_Vu rfl lk_M_138 cw_M_put rfl (m0 hA) (ct_Mput hA (hc.F 1 _ rfl) hxw hy hl) rfl rfl rfl rfl ?_
    refine Ev.heap (mput_eq hxw hw24.1 (fun hbit => rfl)) ?_
    refine zz_iincK ((x + 1 : Nat) : Int) rfl rfl rfl rfl (by omega) ?_
    refine zz_goto rfl ?_
    refine Ev.take 6 ?_
    exact ih (x + 1) (by omega)
theorem tm_blur_o {A : Nat → Nat} {X : MX} (hA : mOk A) {n w ht : Nat} {R : Nat → Nat} (hc : mc X n w ht R) {l : Int} (hl : 0 ≤ l ∧ l < 3) {r : Int} (hr : 1 ≤ r ∧ r ≤ 4) {D : Nat → Nat → Int} (hwas : mwas X w ht D) (hD0 : ∀ x y, x < w → y < ht → zrg (D x y)) {MC MS mc ms : Nat} {Q : ZR → ZH → Prop} (kx : Ev Z (fun _ => True, m_M_blur, 4, MC, MS) 193 [.ref (A 0), zI l, zI r, zI ((2 * r + 1) * (2 * r + 1)), zI (ht : Nat)] [] (mH h A (mF X 1 (mq (X.2.1 1) (1728 * n + 576 * l.toNat) (mpR w R) (fun x y => zbd (sFl D w) w ht r (x : Int) (y : Int)) ht 0))) mc ms Q) : ∀ (m y : Nat), y + m = ht → Ev Z (fun _ => True, m_M_blur, 4, MC, MS) 50 [.ref (A 0), zI l, zI r, zI ((2 * r + 1) * (2 * r + 1)), zI (y : Nat)] [] (mH h A (mF X 1 (mq (X.2.1 1) (1728 * n + 576 * l.toNat) (mpR w R) (fun x y => zbd (sFl D w) w ht r (x : Int) (y : Int)) y 0))) mc ms Q := by
  have hn6 := hc.2.1
  have hw24 := hc.2.2.2.2.1
  intro m
  induction m with
  | zero =>
    intro y hy
    refine zz_iload rfl rfl ?_
    refine zz_aload_n rfl rfl ?_
    refine zz_Vp rfl lk_M_96 cw_M_h rfl (m0 hA) (ct_Mh hA (hc.F 1 _ rfl)) rfl rfl rfl rfl ?_
    refine zz_icmp_ge rfl (by omega) (by omega) (fun hb56 => ?_) (fun hb56 => absurd hb56 (by omega))
    obtain rfl : y = ht := by omega
    exact kx
  | succ m ih =>
    intro y hy
    refine zz_iload rfl rfl ?_
    refine zz_aload_n rfl rfl ?_
    refine zz_Vp rfl lk_M_96 cw_M_h rfl (m0 hA) (ct_Mh hA (hc.F 1 _ rfl)) rfl rfl rfl rfl ?_
    refine zz_icmp_ge rfl (by omega) (by omega) (fun hb56 => absurd hb56 (by omega)) (fun hb56 => ?_)
    refine zz_iconst rfl ?_
    refine zz_istore rfl rfl rfl ?_
    refine tm_blur_i hA hc hl hr hwas hD0 (by omega) ?_ w 0 (by omega)
    refine zz_iincK ((y + 1 : Nat) : Int) rfl rfl rfl rfl (by omega) ?_
    refine zz_goto rfl ?_
    refine Ev.take 5 ?_
    refine Ev.heap (show _ = mH h A (mF X 1 (mq (X.2.1 1) (1728 * n + 576 * l.toNat) (mpR w R) (fun x y => zbd (sFl D w) w ht r (x : Int) (y : Int)) (y + 1) 0)) from by rw [mq_e mpR_lt]) ?_
    exact ih (y + 1) (by omega)
end MV
