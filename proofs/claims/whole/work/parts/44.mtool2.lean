section MV
variable {Z : ZC} {h : ZH}
theorem gr_dot {A : Nat → Nat} {X : MX} (hA : mOk A) {X1 : MX} {l fi la1 ax e y x k : Int} (hfi : zrg fi) (hla : zrg la1) (hk : 0 ≤ k ∧ k ≤ e) (he : e ≤ 1000) {MC MS mc ms : Nat} {Q : ZR → ZH → Prop} (kx : Ev Z (fun _ => True, m_M_gradient, 4, MC, MS) 174 [.ref (A 0), zI l, zI fi, zI la1, zI ax, zI e, zI y, zI x, zI k, zI (zbt fi la1 k e)] [] (mH h A X) mc ms Q) : Ev Z (fun _ => True, m_M_gradient, 4, MC, MS) 94 [.ref (A 0), zI l, zI fi, zI la1, zI ax, zI e, zI y, zI x, zI k] [] (mH h A X) mc ms Q := by
  by_cases h0 : e = 0
  · skip
    refine zz_iconst rfl ?_
    refine zz_eq (show (0 : Int) = zpq 0 0 0 0 from by decide) ?_
    refine zz_istore rfl rfl rfl ?_
    refine zz_iconst rfl ?_
    refine zz_istore rfl rfl rfl ?_
    refine zz_iload rfl rfl ?_
    refine zz_iconst rfl ?_
    refine zz_icmp_ge rfl (by omega) (by omega) (fun hb103 => absurd hb103 (by first | decide | omega)) (fun hb103 => ?_)
    refine zz_iload rfl rfl ?_
    refine zz_if_ne rfl (by omega) (fun hb108 => absurd hb108 (by omega)) (fun hb108 => ?_)
    refine zz_iload_n rfl rfl ?_
    refine zz_iload rfl rfl ?_
    refine zz_Sp rfl lk_M_118 cw_M_part (ct_Mpart hfi (by omega)) rfl rfl rfl rfl ?_
    refine zz_goto rfl ?_
    refine zz_istore rfl rfl rfl ?_
    refine zz_iload rfl rfl ?_
    refine zz_iload rfl rfl ?_
    refine zz_bipush rfl (by decide) ?_
    refine zz_bipush rfl (by decide) ?_
    refine zz_iload rfl rfl ?_
    refine zz_imul rfl ?_
    refine zz_isub rfl ?_
    refine zz_ishl rfl (by omega) ?_
    refine zz_ior rfl (zo_a (zby_rg fi 0) (by decide) (by decide) (by decide)) ?_
    refine zz_istore rfl rfl rfl ?_
    refine zz_iincK 1 rfl rfl rfl rfl (by decide) ?_
    refine zz_goto rfl ?_
    refine zz_iload rfl rfl ?_
    refine zz_iconst rfl ?_
    refine zz_icmp_ge rfl (by omega) (by omega) (fun hb103 => absurd hb103 (by first | decide | omega)) (fun hb103 => ?_)
    refine zz_iload rfl rfl ?_
    refine zz_if_ne rfl (by omega) (fun hb108 => absurd hb108 (by omega)) (fun hb108 => ?_)
    refine zz_iload_n rfl rfl ?_
    refine zz_iload rfl rfl ?_
    refine zz_Sp rfl lk_M_118 cw_M_part (ct_Mpart hfi (by omega)) rfl rfl rfl rfl ?_
    refine zz_goto rfl ?_
    refine zz_istore rfl rfl rfl ?_
    refine zz_iload rfl rfl ?_
    refine zz_iload rfl rfl ?_
    refine zz_bipush rfl (by decide) ?_
    refine zz_bipush rfl (by decide) ?_
    refine zz_iload rfl rfl ?_
    refine zz_imul rfl ?_
    refine zz_isub rfl ?_
    refine zz_ishl rfl (by omega) ?_
    refine zz_ior rfl (zo_b (zby_rg fi 0) (zby_rg fi 1) (by decide) (by decide)) ?_
    refine zz_istore rfl rfl rfl ?_
    refine zz_iincK 2 rfl rfl rfl rfl (by decide) ?_
    refine zz_goto rfl ?_
    refine zz_iload rfl rfl ?_
    refine zz_iconst rfl ?_
    refine zz_icmp_ge rfl (by omega) (by omega) (fun hb103 => absurd hb103 (by first | decide | omega)) (fun hb103 => ?_)
    refine zz_iload rfl rfl ?_
    refine zz_if_ne rfl (by omega) (fun hb108 => absurd hb108 (by omega)) (fun hb108 => ?_)
    refine zz_iload_n rfl rfl ?_
    refine zz_iload rfl rfl ?_
    refine zz_Sp rfl lk_M_118 cw_M_part (ct_Mpart hfi (by omega)) rfl rfl rfl rfl ?_
    refine zz_goto rfl ?_
    refine zz_istore rfl rfl rfl ?_
    refine zz_iload rfl rfl ?_
    refine zz_iload rfl rfl ?_
    refine zz_bipush rfl (by decide) ?_
    refine zz_bipush rfl (by decide) ?_
    refine zz_iload rfl rfl ?_
    refine zz_imul rfl ?_
    refine zz_isub rfl ?_
    refine zz_ishl rfl (by omega) ?_
    refine zz_ior rfl (zo_c (zby_rg fi 0) (zby_rg fi 1) (zby_rg fi 2) (by decide)) ?_
    refine zz_istore rfl rfl rfl ?_
    refine zz_iincK 3 rfl rfl rfl rfl (by decide) ?_
    refine zz_goto rfl ?_
    refine zz_iload rfl rfl ?_
    refine zz_iconst rfl ?_
    refine zz_icmp_ge rfl (by omega) (by omega) (fun hb103 => absurd hb103 (by first | decide | omega)) (fun hb103 => ?_)
    refine zz_iload rfl rfl ?_
    refine zz_if_ne rfl (by omega) (fun hb108 => absurd hb108 (by omega)) (fun hb108 => ?_)
    refine zz_iload_n rfl rfl ?_
    refine zz_iload rfl rfl ?_
    refine zz_Sp rfl lk_M_118 cw_M_part (ct_Mpart hfi (by omega)) rfl rfl rfl rfl ?_
    refine zz_goto rfl ?_
    refine zz_istore rfl rfl rfl ?_
    refine zz_iload rfl rfl ?_
    refine zz_iload rfl rfl ?_
    refine zz_bipush rfl (by decide) ?_
    refine zz_bipush rfl (by decide) ?_
    refine zz_iload rfl rfl ?_
    refine zz_imul rfl ?_
    refine zz_isub rfl ?_
    refine zz_ishl rfl (by omega) ?_
    refine zz_ior rfl (zo_d (zby_rg fi 0) (zby_rg fi 1) (zby_rg fi 2) (zby_rg fi 3)) ?_
    refine zz_istore rfl rfl rfl ?_
    refine zz_iincK 4 rfl rfl rfl rfl (by decide) ?_
    refine zz_goto rfl ?_
    refine zz_iload rfl rfl ?_
    refine zz_iconst rfl ?_
    refine zz_icmp_ge rfl (by omega) (by omega) (fun hb103 => ?_) (fun hb103 => absurd hb103 (by first | decide | omega))
    refine Ev.take 10 ?_
    have e9 : zI (zpq (zby fi 0) (zby fi 1) (zby fi 2) (zby fi 3)) = zI (zbt fi la1 k e) := by
      rw [zpq_dot]
      show zI (zdot _ _ _ _) = _
      unfold zbt
      rw [if_pos h0, zdot_by hfi]
    rw [← e9] at kx
    exact kx
  · skip
    refine zz_iconst rfl ?_
    refine zz_eq (show (0 : Int) = zpq 0 0 0 0 from by decide) ?_
    refine zz_istore rfl rfl rfl ?_
    refine zz_iconst rfl ?_
    refine zz_istore rfl rfl rfl ?_
    refine zz_iload rfl rfl ?_
    refine zz_iconst rfl ?_
    refine zz_icmp_ge rfl (by omega) (by omega) (fun hb103 => absurd hb103 (by first | decide | omega)) (fun hb103 => ?_)
    refine zz_iload rfl rfl ?_
    refine zz_if_ne rfl (by omega) (fun hb108 => ?_) (fun hb108 => absurd hb108 (by omega))
    refine zz_iload_n rfl rfl ?_
    refine zz_iload rfl rfl ?_
    refine zz_Sp rfl lk_M_118 cw_M_part (ct_Mpart hfi (by omega)) rfl rfl rfl rfl ?_
    refine zz_iload rfl rfl ?_
    refine zz_iload rfl rfl ?_
    refine zz_isub rfl ?_
    refine zz_imul rfl ?_
    refine zz_iload_n rfl rfl ?_
    refine zz_iload rfl rfl ?_
    refine zz_Sp rfl lk_M_118 cw_M_part (ct_Mpart hla (by omega)) rfl rfl rfl rfl ?_
    refine zz_iload rfl rfl ?_
    refine zz_imul rfl ?_
    refine zz_iadd rfl ?_
    have g0 := zgc_rg (f := fi) (l := la1) (k := k) (n := e) 0 hk ⟨by omega, by omega⟩
    refine zz_iload rfl rfl ?_
    refine zz_iconst rfl ?_
    refine zz_idivP rfl (by omega) (by omega) ?_
    refine zz_iadd rfl ?_
    refine zz_iload rfl rfl ?_
    refine zz_idivP rfl (by omega) (by omega) ?_
    refine zz_istore rfl rfl rfl ?_
    refine zz_iload rfl rfl ?_
    refine zz_iload rfl rfl ?_
    refine zz_bipush rfl (by decide) ?_
    refine zz_bipush rfl (by decide) ?_
    refine zz_iload rfl rfl ?_
    refine zz_imul rfl ?_
    refine zz_isub rfl ?_
    refine zz_ishl rfl (by omega) ?_
    refine zz_ior rfl (zo_a ⟨g0.1, g0.2.1⟩ (by decide) (by decide) (by decide)) ?_
    refine zz_istore rfl rfl rfl ?_
    refine zz_iincK 1 rfl rfl rfl rfl (by decide) ?_
    refine zz_goto rfl ?_
    refine zz_iload rfl rfl ?_
    refine zz_iconst rfl ?_
    refine zz_icmp_ge rfl (by omega) (by omega) (fun hb103 => absurd hb103 (by first | decide | omega)) (fun hb103 => ?_)
    refine zz_iload rfl rfl ?_
    refine zz_if_ne rfl (by omega) (fun hb108 => ?_) (fun hb108 => absurd hb108 (by omega))
    refine zz_iload_n rfl rfl ?_
    refine zz_iload rfl rfl ?_
    refine zz_Sp rfl lk_M_118 cw_M_part (ct_Mpart hfi (by omega)) rfl rfl rfl rfl ?_
    refine zz_iload rfl rfl ?_
    refine zz_iload rfl rfl ?_
    refine zz_isub rfl ?_
    refine zz_imul rfl ?_
    refine zz_iload_n rfl rfl ?_
    refine zz_iload rfl rfl ?_
    refine zz_Sp rfl lk_M_118 cw_M_part (ct_Mpart hla (by omega)) rfl rfl rfl rfl ?_
    refine zz_iload rfl rfl ?_
    refine zz_imul rfl ?_
    refine zz_iadd rfl ?_
    have g1 := zgc_rg (f := fi) (l := la1) (k := k) (n := e) 1 hk ⟨by omega, by omega⟩
    refine zz_iload rfl rfl ?_
    refine zz_iconst rfl ?_
    refine zz_idivP rfl (by omega) (by omega) ?_
    refine zz_iadd rfl ?_
    refine zz_iload rfl rfl ?_
    refine zz_idivP rfl (by omega) (by omega) ?_
    refine zz_istore rfl rfl rfl ?_
    refine zz_iload rfl rfl ?_
    refine zz_iload rfl rfl ?_
    refine zz_bipush rfl (by decide) ?_
    refine zz_bipush rfl (by decide) ?_
    refine zz_iload rfl rfl ?_
    refine zz_imul rfl ?_
    refine zz_isub rfl ?_
    refine zz_ishl rfl (by omega) ?_
    refine zz_ior rfl (zo_b ⟨g0.1, g0.2.1⟩ ⟨g1.1, g1.2.1⟩ (by decide) (by decide)) ?_
    refine zz_istore rfl rfl rfl ?_
    refine zz_iincK 2 rfl rfl rfl rfl (by decide) ?_
    refine zz_goto rfl ?_
    refine zz_iload rfl rfl ?_
    refine zz_iconst rfl ?_
    refine zz_icmp_ge rfl (by omega) (by omega) (fun hb103 => absurd hb103 (by first | decide | omega)) (fun hb103 => ?_)
    refine zz_iload rfl rfl ?_
    refine zz_if_ne rfl (by omega) (fun hb108 => ?_) (fun hb108 => absurd hb108 (by omega))
    refine zz_iload_n rfl rfl ?_
    refine zz_iload rfl rfl ?_
    refine zz_Sp rfl lk_M_118 cw_M_part (ct_Mpart hfi (by omega)) rfl rfl rfl rfl ?_
    refine zz_iload rfl rfl ?_
    refine zz_iload rfl rfl ?_
    refine zz_isub rfl ?_
    refine zz_imul rfl ?_
    refine zz_iload_n rfl rfl ?_
    refine zz_iload rfl rfl ?_
    refine zz_Sp rfl lk_M_118 cw_M_part (ct_Mpart hla (by omega)) rfl rfl rfl rfl ?_
    refine zz_iload rfl rfl ?_
    refine zz_imul rfl ?_
    refine zz_iadd rfl ?_
    have g2 := zgc_rg (f := fi) (l := la1) (k := k) (n := e) 2 hk ⟨by omega, by omega⟩
    refine zz_iload rfl rfl ?_
    refine zz_iconst rfl ?_
    refine zz_idivP rfl (by omega) (by omega) ?_
    refine zz_iadd rfl ?_
    refine zz_iload rfl rfl ?_
    refine zz_idivP rfl (by omega) (by omega) ?_
    refine zz_istore rfl rfl rfl ?_
    refine zz_iload rfl rfl ?_
    refine zz_iload rfl rfl ?_
    refine zz_bipush rfl (by decide) ?_
    refine zz_bipush rfl (by decide) ?_
    refine zz_iload rfl rfl ?_
    refine zz_imul rfl ?_
    refine zz_isub rfl ?_
    refine zz_ishl rfl (by omega) ?_
    refine zz_ior rfl (zo_c ⟨g0.1, g0.2.1⟩ ⟨g1.1, g1.2.1⟩ ⟨g2.1, g2.2.1⟩ (by decide)) ?_
    refine zz_istore rfl rfl rfl ?_
    refine zz_iincK 3 rfl rfl rfl rfl (by decide) ?_
    refine zz_goto rfl ?_
    refine zz_iload rfl rfl ?_
    refine zz_iconst rfl ?_
    refine zz_icmp_ge rfl (by omega) (by omega) (fun hb103 => absurd hb103 (by first | decide | omega)) (fun hb103 => ?_)
    refine zz_iload rfl rfl ?_
    refine zz_if_ne rfl (by omega) (fun hb108 => ?_) (fun hb108 => absurd hb108 (by omega))
    refine zz_iload_n rfl rfl ?_
    refine zz_iload rfl rfl ?_
    refine zz_Sp rfl lk_M_118 cw_M_part (ct_Mpart hfi (by omega)) rfl rfl rfl rfl ?_
    refine zz_iload rfl rfl ?_
    refine zz_iload rfl rfl ?_
    refine zz_isub rfl ?_
    refine zz_imul rfl ?_
    refine zz_iload_n rfl rfl ?_
    refine zz_iload rfl rfl ?_
    refine zz_Sp rfl lk_M_118 cw_M_part (ct_Mpart hla (by omega)) rfl rfl rfl rfl ?_
    refine zz_iload rfl rfl ?_
    refine zz_imul rfl ?_
    refine zz_iadd rfl ?_
    have g3 := zgc_rg (f := fi) (l := la1) (k := k) (n := e) 3 hk ⟨by omega, by omega⟩
    refine zz_iload rfl rfl ?_
    refine zz_iconst rfl ?_
    refine zz_idivP rfl (by omega) (by omega) ?_
    refine zz_iadd rfl ?_
    refine zz_iload rfl rfl ?_
    refine zz_idivP rfl (by omega) (by omega) ?_
    refine zz_istore rfl rfl rfl ?_
    refine zz_iload rfl rfl ?_
    refine zz_iload rfl rfl ?_
    refine zz_bipush rfl (by decide) ?_
    refine zz_bipush rfl (by decide) ?_
    refine zz_iload rfl rfl ?_
    refine zz_imul rfl ?_
    refine zz_isub rfl ?_
    refine zz_ishl rfl (by omega) ?_
    refine zz_ior rfl (zo_d ⟨g0.1, g0.2.1⟩ ⟨g1.1, g1.2.1⟩ ⟨g2.1, g2.2.1⟩ ⟨g3.1, g3.2.1⟩) ?_
    refine zz_istore rfl rfl rfl ?_
    refine zz_iincK 4 rfl rfl rfl rfl (by decide) ?_
    refine zz_goto rfl ?_
    refine zz_iload rfl rfl ?_
    refine zz_iconst rfl ?_
    refine zz_icmp_ge rfl (by omega) (by omega) (fun hb103 => ?_) (fun hb103 => absurd hb103 (by first | decide | omega))
    refine Ev.take 10 ?_
    have e9 : zI (zpq ((zby fi 0 * (e - k) + zby la1 0 * k + e / 2) / e) ((zby fi 1 * (e - k) + zby la1 1 * k + e / 2) / e) ((zby fi 2 * (e - k) + zby la1 2 * k + e / 2) / e) ((zby fi 3 * (e - k) + zby la1 3 * k + e / 2) / e)) = zI (zbt fi la1 k e) := by
      rw [zpq_dot]
      show zI (zdot _ _ _ _) = _
      unfold zbt
      rw [if_neg h0]
    rfl
    rw [← e9] at kx
    exact kx
end MV
