section MQ7
variable {Z : ZC} {h : ZH}
theorem fr_end {A : Nat → Nat} {X : MX} (hA : mOk A) {x y w e a b c d cv rd gr bl : Int} {MC MS mc ms : Nat} (h5 : cv = zmc a b c d) (h6 : rd = zms a b c d 0) (h7 : gr = zms a b c d 1) (h8 : bl = zms a b c d 2) : Ev Z (fun _ => True, m_M_four, 1, MC, MS) 131 [.ref (A 0), zI x, zI y, zI w, zI e, zI cv, zI rd, zI gr, zI bl] [] (mH h A X) mc ms (zP (zI (zmg a b c d)) (mH h A X)) := by
  subst h5 h6 h7 h8
  have hc0 := zmc_rg a b c d
  refine zz_iload rfl rfl ?_
  refine zz_if_ne rfl (by omega) (fun hb133 => ?_) (fun hb133 => ?_)
  · skip
    have g0 := zmg_rg (a := a) (b := b) (c := c) (d := d) 0 hb133
    have g1 := zmg_rg (a := a) (b := b) (c := c) (d := d) 1 hb133
    have g2 := zmg_rg (a := a) (b := b) (c := c) (d := d) 2 hb133
    refine zz_iload rfl rfl ?_
    refine zz_iload rfl rfl ?_
    refine zz_iconst rfl ?_
    refine zz_idivP rfl (by omega) (by omega) ?_
    refine zz_iadd rfl ?_
    refine zz_iload rfl rfl ?_
    refine zz_idivP rfl (by omega) (by omega) ?_
    refine zz_bipush rfl (by decide) ?_
    refine zz_ishl rfl (by omega) ?_
    refine zz_eq (zpq_0 _) ?_
    refine zz_iload rfl rfl ?_
    refine zz_iload rfl rfl ?_
    refine zz_iconst rfl ?_
    refine zz_idivP rfl (by omega) (by omega) ?_
    refine zz_iadd rfl ?_
    refine zz_iload rfl rfl ?_
    refine zz_idivP rfl (by omega) (by omega) ?_
    refine zz_bipush rfl (by decide) ?_
    refine zz_ishl rfl (by omega) ?_
    refine zz_ior rfl (zo_b g0.2.2 g1.2.2 (by decide) (by decide)) ?_
    refine zz_iload rfl rfl ?_
    refine zz_iload rfl rfl ?_
    refine zz_iconst rfl ?_
    refine zz_idivP rfl (by omega) (by omega) ?_
    refine zz_iadd rfl ?_
    refine zz_iload rfl rfl ?_
    refine zz_idivP rfl (by omega) (by omega) ?_
    refine zz_bipush rfl (by decide) ?_
    refine zz_ishl rfl (by omega) ?_
    refine zz_ior rfl (zo_c g0.2.2 g1.2.2 g2.2.2 (by decide)) ?_
    refine zz_iload rfl rfl ?_
    refine zz_iconst rfl ?_
    refine zz_iadd rfl ?_
    refine zz_iconst rfl ?_
    refine zz_idivP rfl (by omega) (by omega) ?_
    refine zz_eq (show _ = (zmc a b c d + 2) / 4 * 2 ^ (24 - 8 * (3 : Int)).toNat from by show _ = _ * 1; omega) ?_
    refine zz_ior rfl (zo_d g0.2.2 g1.2.2 g2.2.2 ⟨by omega, by omega⟩) ?_
    refine zz_iret rfl rfl (zret_q (by rw [zpq_dot]; unfold zmg; rw [if_neg hb133]))
  · skip
    refine zz_iconst rfl ?_
    refine zz_iret rfl rfl (zret_e (by unfold zmg; rw [if_pos hb133]))
theorem ct_Mfour {A : Nat → Nat} {X : MX} (hA : mOk A) {x y w e : Nat} {a b c d : Int} (hx : x < w) (hy : y < e) (hw : w ≤ 24) (he : e ≤ 24) (ra : zrg a) (rb : zrg b) (rc : zrg c) (rd : zrg d) (va : X.2.1 12 (24 * y + x) = a) (vb : if x + 1 < w then X.2.1 12 (24 * y + (x + 1)) = b else b = 0) (vc : if y + 1 < e then X.2.1 12 (24 * (y + 1) + x) = c else c = 0) (vd : if x + 1 < w ∧ y + 1 < e then X.2.1 12 (24 * (y + 1) + (x + 1)) = d else d = 0) : Ct Z m_M_four 1 0 0 [.ref (A 0), zI (x : Nat), zI (y : Nat), zI (w : Nat), zI (e : Nat)] (mH h A X) (zP (zI (zmg a b c d)) (mH h A X)) := by
  by_cases cx : x + 1 < w
  · by_cases cy : y + 1 < e
    · skip
      rw [if_pos cx] at vb
      rw [if_pos cy] at vc
      rw [if_pos ⟨cx, cy⟩] at vd
      refine zct rfl (by decide) ok_M_four rfl rfl ?_
      refine zz_iconst rfl ?_
      refine zz_istore rfl rfl rfl ?_
      refine zz_iconst rfl ?_
      refine zz_istore rfl rfl rfl ?_
      refine zz_iconst rfl ?_
      refine zz_istore rfl rfl rfl ?_
      refine zz_iconst rfl ?_
      refine zz_istore rfl rfl rfl ?_
      refine zz_iconst rfl ?_
      refine zz_istore rfl rfl rfl ?_
      refine zz_iload rfl rfl ?_
      refine zz_iconst rfl ?_
      refine zz_icmp_ge rfl (by omega) (by omega) (fun hb18 => absurd hb18 (by first | decide | omega)) (fun hb18 => ?_)
      refine zz_iload_n rfl rfl ?_
      refine zz_iload rfl rfl ?_
      refine zz_iconst rfl ?_
      refine zz_iremP rfl ⟨by decide, by decide⟩ ⟨by decide, by decide⟩ ?_
      refine zz_iadd rfl ?_
      refine zz_istore rfl rfl rfl ?_
      refine zz_iload_n rfl rfl ?_
      refine zz_iload rfl rfl ?_
      refine zz_iconst rfl ?_
      refine zz_idivP rfl ⟨by decide, by decide⟩ ⟨by decide, by decide⟩ ?_
      refine zz_iadd rfl ?_
      refine zz_istore rfl rfl rfl ?_
      refine zz_iload rfl rfl ?_
      refine zz_iload_n rfl rfl ?_
      refine zz_icmp_ge rfl (by omega) (by omega) (fun hb40 => absurd hb40 (by omega)) (fun hb40 => ?_)
      refine zz_iload rfl rfl ?_
      refine zz_iload rfl rfl ?_
      refine zz_icmp_lt rfl (by omega) (by omega) (fun hb47 => ?_) (fun hb47 => absurd hb47 (by omega))
      refine zz_aload_n rfl rfl ?_
      refine zz_getf rfl fl_M_47 (m0 hA) rfl ?_
      refine zz_bipush rfl (by decide) ?_
      refine zz_iload rfl rfl ?_
      refine zz_imul rfl ?_
      refine zz_iload rfl rfl ?_
      refine zz_iadd rfl ?_
      refine zz_iald rfl (m12 hA) (by decide) ⟨by omega, by omega⟩ ?_
      refine zz_eq (show _ = a from (congrArg (X.2.1 12) (by omega)).trans va) ?_
      refine zz_istore rfl rfl rfl ?_
      refine zz_iload rfl rfl ?_
      refine zz_sipush rfl (by decide) ?_
      refine zz_iand rfl (zq_m255 _) ?_
      refine zz_eq (zby_3 a).symm ?_
      refine zz_istore rfl rfl rfl ?_
      refine zz_iload rfl rfl ?_
      refine zz_iload rfl rfl ?_
      refine zz_iadd rfl ?_
      refine zz_istore rfl rfl rfl ?_
      refine zz_iload rfl rfl ?_
      refine zz_iload rfl rfl ?_
      refine zz_iload rfl rfl ?_
      refine zz_iconst rfl ?_
      refine zz_Sp rfl lk_M_118 cw_M_part (ct_Mpart ra (by decide)) rfl rfl rfl rfl ?_
      refine zz_imul rfl ?_
      refine zz_iadd rfl ?_
      refine zz_istore rfl rfl rfl ?_
      refine zz_iload rfl rfl ?_
      refine zz_iload rfl rfl ?_
      refine zz_iload rfl rfl ?_
      refine zz_iconst rfl ?_
      refine zz_Sp rfl lk_M_118 cw_M_part (ct_Mpart ra (by decide)) rfl rfl rfl rfl ?_
      refine zz_imul rfl ?_
      refine zz_iadd rfl ?_
      refine zz_istore rfl rfl rfl ?_
      refine zz_iload rfl rfl ?_
      refine zz_iload rfl rfl ?_
      refine zz_iload rfl rfl ?_
      refine zz_iconst rfl ?_
      refine zz_Sp rfl lk_M_118 cw_M_part (ct_Mpart ra (by decide)) rfl rfl rfl rfl ?_
      refine zz_imul rfl ?_
      refine zz_iadd rfl ?_
      refine zz_istore rfl rfl rfl ?_
      refine zz_iincK 1 rfl rfl rfl rfl (by decide) ?_
      refine zz_goto rfl ?_
      refine zz_iload rfl rfl ?_
      refine zz_iconst rfl ?_
      refine zz_icmp_ge rfl (by omega) (by omega) (fun hb18 => absurd hb18 (by first | decide | omega)) (fun hb18 => ?_)
      refine zz_iload_n rfl rfl ?_
      refine zz_iload rfl rfl ?_
      refine zz_iconst rfl ?_
      refine zz_iremP rfl ⟨by decide, by decide⟩ ⟨by decide, by decide⟩ ?_
      refine zz_iadd rfl ?_
      refine zz_istore rfl rfl rfl ?_
      refine zz_iload_n rfl rfl ?_
      refine zz_iload rfl rfl ?_
      refine zz_iconst rfl ?_
      refine zz_idivP rfl ⟨by decide, by decide⟩ ⟨by decide, by decide⟩ ?_
      refine zz_iadd rfl ?_
      refine zz_istore rfl rfl rfl ?_
      refine zz_iload rfl rfl ?_
      refine zz_iload_n rfl rfl ?_
      refine zz_icmp_ge rfl (by omega) (by omega) (fun hb40 => absurd hb40 (by omega)) (fun hb40 => ?_)
      refine zz_iload rfl rfl ?_
      refine zz_iload rfl rfl ?_
      refine zz_icmp_lt rfl (by omega) (by omega) (fun hb47 => ?_) (fun hb47 => absurd hb47 (by omega))
      refine zz_aload_n rfl rfl ?_
      refine zz_getf rfl fl_M_47 (m0 hA) rfl ?_
      refine zz_bipush rfl (by decide) ?_
      refine zz_iload rfl rfl ?_
      refine zz_imul rfl ?_
      refine zz_iload rfl rfl ?_
      refine zz_iadd rfl ?_
      refine zz_iald rfl (m12 hA) (by decide) ⟨by omega, by omega⟩ ?_
      refine zz_eq (show _ = b from (congrArg (X.2.1 12) (by omega)).trans vb) ?_
      refine zz_istore rfl rfl rfl ?_
      refine zz_iload rfl rfl ?_
      refine zz_sipush rfl (by decide) ?_
      refine zz_iand rfl (zq_m255 _) ?_
      refine zz_eq (zby_3 b).symm ?_
      refine zz_istore rfl rfl rfl ?_
      refine zz_iload rfl rfl ?_
      refine zz_iload rfl rfl ?_
      refine zz_iadd rfl ?_
      refine zz_istore rfl rfl rfl ?_
      refine zz_iload rfl rfl ?_
      refine zz_iload rfl rfl ?_
      refine zz_iload rfl rfl ?_
      refine zz_iconst rfl ?_
      refine zz_Sp rfl lk_M_118 cw_M_part (ct_Mpart rb (by decide)) rfl rfl rfl rfl ?_
      refine zz_imul rfl ?_
      refine zz_iadd rfl ?_
      refine zz_istore rfl rfl rfl ?_
      refine zz_iload rfl rfl ?_
      refine zz_iload rfl rfl ?_
      refine zz_iload rfl rfl ?_
      refine zz_iconst rfl ?_
      refine zz_Sp rfl lk_M_118 cw_M_part (ct_Mpart rb (by decide)) rfl rfl rfl rfl ?_
      refine zz_imul rfl ?_
      refine zz_iadd rfl ?_
      refine zz_istore rfl rfl rfl ?_
      refine zz_iload rfl rfl ?_
      refine zz_iload rfl rfl ?_
      refine zz_iload rfl rfl ?_
      refine zz_iconst rfl ?_
      refine zz_Sp rfl lk_M_118 cw_M_part (ct_Mpart rb (by decide)) rfl rfl rfl rfl ?_
      refine zz_imul rfl ?_
      refine zz_iadd rfl ?_
      refine zz_istore rfl rfl rfl ?_
      refine zz_iincK 2 rfl rfl rfl rfl (by decide) ?_
      refine zz_goto rfl ?_
      refine zz_iload rfl rfl ?_
      refine zz_iconst rfl ?_
      refine zz_icmp_ge rfl (by omega) (by omega) (fun hb18 => absurd hb18 (by first | decide | omega)) (fun hb18 => ?_)
      refine zz_iload_n rfl rfl ?_
      refine zz_iload rfl rfl ?_
      refine zz_iconst rfl ?_
      refine zz_iremP rfl ⟨by decide, by decide⟩ ⟨by decide, by decide⟩ ?_
      refine zz_iadd rfl ?_
      refine zz_istore rfl rfl rfl ?_
      refine zz_iload_n rfl rfl ?_
      refine zz_iload rfl rfl ?_
      refine zz_iconst rfl ?_
      refine zz_idivP rfl ⟨by decide, by decide⟩ ⟨by decide, by decide⟩ ?_
      refine zz_iadd rfl ?_
      refine zz_istore rfl rfl rfl ?_
      refine zz_iload rfl rfl ?_
      refine zz_iload_n rfl rfl ?_
      refine zz_icmp_ge rfl (by omega) (by omega) (fun hb40 => absurd hb40 (by omega)) (fun hb40 => ?_)
      refine zz_iload rfl rfl ?_
      refine zz_iload rfl rfl ?_
      refine zz_icmp_lt rfl (by omega) (by omega) (fun hb47 => ?_) (fun hb47 => absurd hb47 (by omega))
      refine zz_aload_n rfl rfl ?_
      refine zz_getf rfl fl_M_47 (m0 hA) rfl ?_
      refine zz_bipush rfl (by decide) ?_
      refine zz_iload rfl rfl ?_
      refine zz_imul rfl ?_
      refine zz_iload rfl rfl ?_
      refine zz_iadd rfl ?_
      refine zz_iald rfl (m12 hA) (by decide) ⟨by omega, by omega⟩ ?_
      refine zz_eq (show _ = c from (congrArg (X.2.1 12) (by omega)).trans vc) ?_
      refine zz_istore rfl rfl rfl ?_
      refine zz_iload rfl rfl ?_
      refine zz_sipush rfl (by decide) ?_
      refine zz_iand rfl (zq_m255 _) ?_
      refine zz_eq (zby_3 c).symm ?_
      refine zz_istore rfl rfl rfl ?_
      refine zz_iload rfl rfl ?_
      refine zz_iload rfl rfl ?_
      refine zz_iadd rfl ?_
      refine zz_istore rfl rfl rfl ?_
      refine zz_iload rfl rfl ?_
      refine zz_iload rfl rfl ?_
      refine zz_iload rfl rfl ?_
      refine zz_iconst rfl ?_
      refine zz_Sp rfl lk_M_118 cw_M_part (ct_Mpart rc (by decide)) rfl rfl rfl rfl ?_
      refine zz_imul rfl ?_
      refine zz_iadd rfl ?_
      refine zz_istore rfl rfl rfl ?_
      refine zz_iload rfl rfl ?_
      refine zz_iload rfl rfl ?_
      refine zz_iload rfl rfl ?_
      refine zz_iconst rfl ?_
      refine zz_Sp rfl lk_M_118 cw_M_part (ct_Mpart rc (by decide)) rfl rfl rfl rfl ?_
      refine zz_imul rfl ?_
      refine zz_iadd rfl ?_
      refine zz_istore rfl rfl rfl ?_
      refine zz_iload rfl rfl ?_
      refine zz_iload rfl rfl ?_
      refine zz_iload rfl rfl ?_
      refine zz_iconst rfl ?_
      refine zz_Sp rfl lk_M_118 cw_M_part (ct_Mpart rc (by decide)) rfl rfl rfl rfl ?_
      refine zz_imul rfl ?_
      refine zz_iadd rfl ?_
      refine zz_istore rfl rfl rfl ?_
      refine zz_iincK 3 rfl rfl rfl rfl (by decide) ?_
      refine zz_goto rfl ?_
      refine zz_iload rfl rfl ?_
      refine zz_iconst rfl ?_
      refine zz_icmp_ge rfl (by omega) (by omega) (fun hb18 => absurd hb18 (by first | decide | omega)) (fun hb18 => ?_)
      refine zz_iload_n rfl rfl ?_
      refine zz_iload rfl rfl ?_
      refine zz_iconst rfl ?_
      refine zz_iremP rfl ⟨by decide, by decide⟩ ⟨by decide, by decide⟩ ?_
      refine zz_iadd rfl ?_
      refine zz_istore rfl rfl rfl ?_
      refine zz_iload_n rfl rfl ?_
      refine zz_iload rfl rfl ?_
      refine zz_iconst rfl ?_
      refine zz_idivP rfl ⟨by decide, by decide⟩ ⟨by decide, by decide⟩ ?_
      refine zz_iadd rfl ?_
      refine zz_istore rfl rfl rfl ?_
      refine zz_iload rfl rfl ?_
      refine zz_iload_n rfl rfl ?_
      refine zz_icmp_ge rfl (by omega) (by omega) (fun hb40 => absurd hb40 (by omega)) (fun hb40 => ?_)
      refine zz_iload rfl rfl ?_
      refine zz_iload rfl rfl ?_
      refine zz_icmp_lt rfl (by omega) (by omega) (fun hb47 => ?_) (fun hb47 => absurd hb47 (by omega))
      refine zz_aload_n rfl rfl ?_
      refine zz_getf rfl fl_M_47 (m0 hA) rfl ?_
      refine zz_bipush rfl (by decide) ?_
      refine zz_iload rfl rfl ?_
      refine zz_imul rfl ?_
      refine zz_iload rfl rfl ?_
      refine zz_iadd rfl ?_
      refine zz_iald rfl (m12 hA) (by decide) ⟨by omega, by omega⟩ ?_
      refine zz_eq (show _ = d from (congrArg (X.2.1 12) (by omega)).trans vd) ?_
      refine zz_istore rfl rfl rfl ?_
      refine zz_iload rfl rfl ?_
      refine zz_sipush rfl (by decide) ?_
      refine zz_iand rfl (zq_m255 _) ?_
      refine zz_eq (zby_3 d).symm ?_
      refine zz_istore rfl rfl rfl ?_
      refine zz_iload rfl rfl ?_
      refine zz_iload rfl rfl ?_
      refine zz_iadd rfl ?_
      refine zz_istore rfl rfl rfl ?_
      refine zz_iload rfl rfl ?_
      refine zz_iload rfl rfl ?_
      refine zz_iload rfl rfl ?_
      refine zz_iconst rfl ?_
      refine zz_Sp rfl lk_M_118 cw_M_part (ct_Mpart rd (by decide)) rfl rfl rfl rfl ?_
      refine zz_imul rfl ?_
      refine zz_iadd rfl ?_
      refine zz_istore rfl rfl rfl ?_
      refine zz_iload rfl rfl ?_
      refine zz_iload rfl rfl ?_
      refine zz_iload rfl rfl ?_
      refine zz_iconst rfl ?_
      refine zz_Sp rfl lk_M_118 cw_M_part (ct_Mpart rd (by decide)) rfl rfl rfl rfl ?_
      refine zz_imul rfl ?_
      refine zz_iadd rfl ?_
      refine zz_istore rfl rfl rfl ?_
      refine zz_iload rfl rfl ?_
      refine zz_iload rfl rfl ?_
      refine zz_iload rfl rfl ?_
      refine zz_iconst rfl ?_
      refine zz_Sp rfl lk_M_118 cw_M_part (ct_Mpart rd (by decide)) rfl rfl rfl rfl ?_
      refine zz_imul rfl ?_
      refine zz_iadd rfl ?_
      refine zz_istore rfl rfl rfl ?_
      refine zz_iincK 4 rfl rfl rfl rfl (by decide) ?_
      refine zz_goto rfl ?_
      refine zz_iload rfl rfl ?_
      refine zz_iconst rfl ?_
      refine zz_icmp_ge rfl (by omega) (by omega) (fun hb18 => ?_) (fun hb18 => absurd hb18 (by first | decide | omega))
      refine Ev.take 9 ?_
      exact fr_end (a := a) (b := b) (c := c) (d := d) hA (by unfold zmc; omega) (by unfold zms; omega) (by unfold zms; omega) (by unfold zms; omega)
    · skip
      rw [if_pos cx] at vb
      rw [if_neg cy] at vc
      rw [if_neg (fun h9 => cy h9.2)] at vd
      refine zct rfl (by decide) ok_M_four rfl rfl ?_
      refine zz_iconst rfl ?_
      refine zz_istore rfl rfl rfl ?_
      refine zz_iconst rfl ?_
      refine zz_istore rfl rfl rfl ?_
      refine zz_iconst rfl ?_
      refine zz_istore rfl rfl rfl ?_
      refine zz_iconst rfl ?_
      refine zz_istore rfl rfl rfl ?_
      refine zz_iconst rfl ?_
      refine zz_istore rfl rfl rfl ?_
      refine zz_iload rfl rfl ?_
      refine zz_iconst rfl ?_
      refine zz_icmp_ge rfl (by omega) (by omega) (fun hb18 => absurd hb18 (by first | decide | omega)) (fun hb18 => ?_)
      refine zz_iload_n rfl rfl ?_
      refine zz_iload rfl rfl ?_
      refine zz_iconst rfl ?_
      refine zz_iremP rfl ⟨by decide, by decide⟩ ⟨by decide, by decide⟩ ?_
      refine zz_iadd rfl ?_
      refine zz_istore rfl rfl rfl ?_
      refine zz_iload_n rfl rfl ?_
      refine zz_iload rfl rfl ?_
      refine zz_iconst rfl ?_
      refine zz_idivP rfl ⟨by decide, by decide⟩ ⟨by decide, by decide⟩ ?_
      refine zz_iadd rfl ?_
      refine zz_istore rfl rfl rfl ?_
      refine zz_iload rfl rfl ?_
      refine zz_iload_n rfl rfl ?_
      refine zz_icmp_ge rfl (by omega) (by omega) (fun hb40 => absurd hb40 (by omega)) (fun hb40 => ?_)
      refine zz_iload rfl rfl ?_
      refine zz_iload rfl rfl ?_
      refine zz_icmp_lt rfl (by omega) (by omega) (fun hb47 => ?_) (fun hb47 => absurd hb47 (by omega))
      refine zz_aload_n rfl rfl ?_
      refine zz_getf rfl fl_M_47 (m0 hA) rfl ?_
      refine zz_bipush rfl (by decide) ?_
      refine zz_iload rfl rfl ?_
      refine zz_imul rfl ?_
      refine zz_iload rfl rfl ?_
      refine zz_iadd rfl ?_
      refine zz_iald rfl (m12 hA) (by decide) ⟨by omega, by omega⟩ ?_
      refine zz_eq (show _ = a from (congrArg (X.2.1 12) (by omega)).trans va) ?_
      refine zz_istore rfl rfl rfl ?_
      refine zz_iload rfl rfl ?_
      refine zz_sipush rfl (by decide) ?_
      refine zz_iand rfl (zq_m255 _) ?_
      refine zz_eq (zby_3 a).symm ?_
      refine zz_istore rfl rfl rfl ?_
      refine zz_iload rfl rfl ?_
      refine zz_iload rfl rfl ?_
      refine zz_iadd rfl ?_
      refine zz_istore rfl rfl rfl ?_
      refine zz_iload rfl rfl ?_
      refine zz_iload rfl rfl ?_
      refine zz_iload rfl rfl ?_
      refine zz_iconst rfl ?_
      refine zz_Sp rfl lk_M_118 cw_M_part (ct_Mpart ra (by decide)) rfl rfl rfl rfl ?_
      refine zz_imul rfl ?_
      refine zz_iadd rfl ?_
      refine zz_istore rfl rfl rfl ?_
      refine zz_iload rfl rfl ?_
      refine zz_iload rfl rfl ?_
      refine zz_iload rfl rfl ?_
      refine zz_iconst rfl ?_
      refine zz_Sp rfl lk_M_118 cw_M_part (ct_Mpart ra (by decide)) rfl rfl rfl rfl ?_
      refine zz_imul rfl ?_
      refine zz_iadd rfl ?_
      refine zz_istore rfl rfl rfl ?_
      refine zz_iload rfl rfl ?_
      refine zz_iload rfl rfl ?_
      refine zz_iload rfl rfl ?_
      refine zz_iconst rfl ?_
      refine zz_Sp rfl lk_M_118 cw_M_part (ct_Mpart ra (by decide)) rfl rfl rfl rfl ?_
      refine zz_imul rfl ?_
      refine zz_iadd rfl ?_
      refine zz_istore rfl rfl rfl ?_
      refine zz_iincK 1 rfl rfl rfl rfl (by decide) ?_
      refine zz_goto rfl ?_
      refine zz_iload rfl rfl ?_
      refine zz_iconst rfl ?_
      refine zz_icmp_ge rfl (by omega) (by omega) (fun hb18 => absurd hb18 (by first | decide | omega)) (fun hb18 => ?_)
      refine zz_iload_n rfl rfl ?_
      refine zz_iload rfl rfl ?_
      refine zz_iconst rfl ?_
      refine zz_iremP rfl ⟨by decide, by decide⟩ ⟨by decide, by decide⟩ ?_
      refine zz_iadd rfl ?_
      refine zz_istore rfl rfl rfl ?_
      refine zz_iload_n rfl rfl ?_
      refine zz_iload rfl rfl ?_
      refine zz_iconst rfl ?_
      refine zz_idivP rfl ⟨by decide, by decide⟩ ⟨by decide, by decide⟩ ?_
      refine zz_iadd rfl ?_
      refine zz_istore rfl rfl rfl ?_
      refine zz_iload rfl rfl ?_
      refine zz_iload_n rfl rfl ?_
      refine zz_icmp_ge rfl (by omega) (by omega) (fun hb40 => absurd hb40 (by omega)) (fun hb40 => ?_)
      refine zz_iload rfl rfl ?_
      refine zz_iload rfl rfl ?_
      refine zz_icmp_lt rfl (by omega) (by omega) (fun hb47 => ?_) (fun hb47 => absurd hb47 (by omega))
      refine zz_aload_n rfl rfl ?_
      refine zz_getf rfl fl_M_47 (m0 hA) rfl ?_
      refine zz_bipush rfl (by decide) ?_
      refine zz_iload rfl rfl ?_
      refine zz_imul rfl ?_
      refine zz_iload rfl rfl ?_
      refine zz_iadd rfl ?_
      refine zz_iald rfl (m12 hA) (by decide) ⟨by omega, by omega⟩ ?_
      refine zz_eq (show _ = b from (congrArg (X.2.1 12) (by omega)).trans vb) ?_
      refine zz_istore rfl rfl rfl ?_
      refine zz_iload rfl rfl ?_
      refine zz_sipush rfl (by decide) ?_
      refine zz_iand rfl (zq_m255 _) ?_
      refine zz_eq (zby_3 b).symm ?_
      refine zz_istore rfl rfl rfl ?_
      refine zz_iload rfl rfl ?_
      refine zz_iload rfl rfl ?_
      refine zz_iadd rfl ?_
      refine zz_istore rfl rfl rfl ?_
      refine zz_iload rfl rfl ?_
      refine zz_iload rfl rfl ?_
      refine zz_iload rfl rfl ?_
      refine zz_iconst rfl ?_
      refine zz_Sp rfl lk_M_118 cw_M_part (ct_Mpart rb (by decide)) rfl rfl rfl rfl ?_
      refine zz_imul rfl ?_
      refine zz_iadd rfl ?_
      refine zz_istore rfl rfl rfl ?_
      refine zz_iload rfl rfl ?_
      refine zz_iload rfl rfl ?_
      refine zz_iload rfl rfl ?_
      refine zz_iconst rfl ?_
      refine zz_Sp rfl lk_M_118 cw_M_part (ct_Mpart rb (by decide)) rfl rfl rfl rfl ?_
      refine zz_imul rfl ?_
      refine zz_iadd rfl ?_
      refine zz_istore rfl rfl rfl ?_
      refine zz_iload rfl rfl ?_
      refine zz_iload rfl rfl ?_
      refine zz_iload rfl rfl ?_
      refine zz_iconst rfl ?_
      refine zz_Sp rfl lk_M_118 cw_M_part (ct_Mpart rb (by decide)) rfl rfl rfl rfl ?_
      refine zz_imul rfl ?_
      refine zz_iadd rfl ?_
      refine zz_istore rfl rfl rfl ?_
      refine zz_iincK 2 rfl rfl rfl rfl (by decide) ?_
      refine zz_goto rfl ?_
      refine zz_iload rfl rfl ?_
      refine zz_iconst rfl ?_
      refine zz_icmp_ge rfl (by omega) (by omega) (fun hb18 => absurd hb18 (by first | decide | omega)) (fun hb18 => ?_)
      refine zz_iload_n rfl rfl ?_
      refine zz_iload rfl rfl ?_
      refine zz_iconst rfl ?_
      refine zz_iremP rfl ⟨by decide, by decide⟩ ⟨by decide, by decide⟩ ?_
      refine zz_iadd rfl ?_
      refine zz_istore rfl rfl rfl ?_
      refine zz_iload_n rfl rfl ?_
      refine zz_iload rfl rfl ?_
      refine zz_iconst rfl ?_
      refine zz_idivP rfl ⟨by decide, by decide⟩ ⟨by decide, by decide⟩ ?_
      refine zz_iadd rfl ?_
      refine zz_istore rfl rfl rfl ?_
      refine zz_iload rfl rfl ?_
      refine zz_iload_n rfl rfl ?_
      refine zz_icmp_ge rfl (by omega) (by omega) (fun hb40 => absurd hb40 (by omega)) (fun hb40 => ?_)
      refine zz_iload rfl rfl ?_
      refine zz_iload rfl rfl ?_
      refine zz_icmp_lt rfl (by omega) (by omega) (fun hb47 => absurd hb47 (by omega)) (fun hb47 => ?_)
      refine zz_goto rfl ?_
      refine zz_iincK 3 rfl rfl rfl rfl (by decide) ?_
      refine zz_goto rfl ?_
      refine zz_iload rfl rfl ?_
      refine zz_iconst rfl ?_
      refine zz_icmp_ge rfl (by omega) (by omega) (fun hb18 => absurd hb18 (by first | decide | omega)) (fun hb18 => ?_)
      refine zz_iload_n rfl rfl ?_
      refine zz_iload rfl rfl ?_
      refine zz_iconst rfl ?_
      refine zz_iremP rfl ⟨by decide, by decide⟩ ⟨by decide, by decide⟩ ?_
      refine zz_iadd rfl ?_
      refine zz_istore rfl rfl rfl ?_
      refine zz_iload_n rfl rfl ?_
      refine zz_iload rfl rfl ?_
      refine zz_iconst rfl ?_
      refine zz_idivP rfl ⟨by decide, by decide⟩ ⟨by decide, by decide⟩ ?_
      refine zz_iadd rfl ?_
      refine zz_istore rfl rfl rfl ?_
      refine zz_iload rfl rfl ?_
      refine zz_iload_n rfl rfl ?_
      refine zz_icmp_ge rfl (by omega) (by omega) (fun hb40 => absurd hb40 (by omega)) (fun hb40 => ?_)
      refine zz_iload rfl rfl ?_
      refine zz_iload rfl rfl ?_
      refine zz_icmp_lt rfl (by omega) (by omega) (fun hb47 => absurd hb47 (by omega)) (fun hb47 => ?_)
      refine zz_goto rfl ?_
      refine zz_iincK 4 rfl rfl rfl rfl (by decide) ?_
      refine zz_goto rfl ?_
      refine zz_iload rfl rfl ?_
      refine zz_iconst rfl ?_
      refine zz_icmp_ge rfl (by omega) (by omega) (fun hb18 => ?_) (fun hb18 => absurd hb18 (by first | decide | omega))
      refine Ev.take 9 ?_
      exact fr_end (a := a) (b := b) (c := c) (d := d) hA (by rw [vc, vd]; unfold zmc; simp only [zby_0c, Int.zero_mul]; omega) (by rw [vc, vd]; unfold zms; simp only [zby_0c, Int.zero_mul]; omega) (by rw [vc, vd]; unfold zms; simp only [zby_0c, Int.zero_mul]; omega) (by rw [vc, vd]; unfold zms; simp only [zby_0c, Int.zero_mul]; omega)
  · by_cases cy : y + 1 < e
    · skip
      rw [if_neg cx] at vb
      rw [if_pos cy] at vc
      rw [if_neg (fun h9 => cx h9.1)] at vd
      refine zct rfl (by decide) ok_M_four rfl rfl ?_
      refine zz_iconst rfl ?_
      refine zz_istore rfl rfl rfl ?_
      refine zz_iconst rfl ?_
      refine zz_istore rfl rfl rfl ?_
      refine zz_iconst rfl ?_
      refine zz_istore rfl rfl rfl ?_
      refine zz_iconst rfl ?_
      refine zz_istore rfl rfl rfl ?_
      refine zz_iconst rfl ?_
      refine zz_istore rfl rfl rfl ?_
      refine zz_iload rfl rfl ?_
      refine zz_iconst rfl ?_
      refine zz_icmp_ge rfl (by omega) (by omega) (fun hb18 => absurd hb18 (by first | decide | omega)) (fun hb18 => ?_)
      refine zz_iload_n rfl rfl ?_
      refine zz_iload rfl rfl ?_
      refine zz_iconst rfl ?_
      refine zz_iremP rfl ⟨by decide, by decide⟩ ⟨by decide, by decide⟩ ?_
      refine zz_iadd rfl ?_
      refine zz_istore rfl rfl rfl ?_
      refine zz_iload_n rfl rfl ?_
      refine zz_iload rfl rfl ?_
      refine zz_iconst rfl ?_
      refine zz_idivP rfl ⟨by decide, by decide⟩ ⟨by decide, by decide⟩ ?_
      refine zz_iadd rfl ?_
      refine zz_istore rfl rfl rfl ?_
      refine zz_iload rfl rfl ?_
      refine zz_iload_n rfl rfl ?_
      refine zz_icmp_ge rfl (by omega) (by omega) (fun hb40 => absurd hb40 (by omega)) (fun hb40 => ?_)
      refine zz_iload rfl rfl ?_
      refine zz_iload rfl rfl ?_
      refine zz_icmp_lt rfl (by omega) (by omega) (fun hb47 => ?_) (fun hb47 => absurd hb47 (by omega))
      refine zz_aload_n rfl rfl ?_
      refine zz_getf rfl fl_M_47 (m0 hA) rfl ?_
      refine zz_bipush rfl (by decide) ?_
      refine zz_iload rfl rfl ?_
      refine zz_imul rfl ?_
      refine zz_iload rfl rfl ?_
      refine zz_iadd rfl ?_
      refine zz_iald rfl (m12 hA) (by decide) ⟨by omega, by omega⟩ ?_
      refine zz_eq (show _ = a from (congrArg (X.2.1 12) (by omega)).trans va) ?_
      refine zz_istore rfl rfl rfl ?_
      refine zz_iload rfl rfl ?_
      refine zz_sipush rfl (by decide) ?_
      refine zz_iand rfl (zq_m255 _) ?_
      refine zz_eq (zby_3 a).symm ?_
      refine zz_istore rfl rfl rfl ?_
      refine zz_iload rfl rfl ?_
      refine zz_iload rfl rfl ?_
      refine zz_iadd rfl ?_
      refine zz_istore rfl rfl rfl ?_
      refine zz_iload rfl rfl ?_
      refine zz_iload rfl rfl ?_
      refine zz_iload rfl rfl ?_
      refine zz_iconst rfl ?_
      refine zz_Sp rfl lk_M_118 cw_M_part (ct_Mpart ra (by decide)) rfl rfl rfl rfl ?_
      refine zz_imul rfl ?_
      refine zz_iadd rfl ?_
      refine zz_istore rfl rfl rfl ?_
      refine zz_iload rfl rfl ?_
      refine zz_iload rfl rfl ?_
      refine zz_iload rfl rfl ?_
      refine zz_iconst rfl ?_
      refine zz_Sp rfl lk_M_118 cw_M_part (ct_Mpart ra (by decide)) rfl rfl rfl rfl ?_
      refine zz_imul rfl ?_
      refine zz_iadd rfl ?_
      refine zz_istore rfl rfl rfl ?_
      refine zz_iload rfl rfl ?_
      refine zz_iload rfl rfl ?_
      refine zz_iload rfl rfl ?_
      refine zz_iconst rfl ?_
      refine zz_Sp rfl lk_M_118 cw_M_part (ct_Mpart ra (by decide)) rfl rfl rfl rfl ?_
      refine zz_imul rfl ?_
      refine zz_iadd rfl ?_
      refine zz_istore rfl rfl rfl ?_
      refine zz_iincK 1 rfl rfl rfl rfl (by decide) ?_
      refine zz_goto rfl ?_
      refine zz_iload rfl rfl ?_
      refine zz_iconst rfl ?_
      refine zz_icmp_ge rfl (by omega) (by omega) (fun hb18 => absurd hb18 (by first | decide | omega)) (fun hb18 => ?_)
      refine zz_iload_n rfl rfl ?_
      refine zz_iload rfl rfl ?_
      refine zz_iconst rfl ?_
      refine zz_iremP rfl ⟨by decide, by decide⟩ ⟨by decide, by decide⟩ ?_
      refine zz_iadd rfl ?_
      refine zz_istore rfl rfl rfl ?_
      refine zz_iload_n rfl rfl ?_
      refine zz_iload rfl rfl ?_
      refine zz_iconst rfl ?_
      refine zz_idivP rfl ⟨by decide, by decide⟩ ⟨by decide, by decide⟩ ?_
      refine zz_iadd rfl ?_
      refine zz_istore rfl rfl rfl ?_
      refine zz_iload rfl rfl ?_
      refine zz_iload_n rfl rfl ?_
      refine zz_icmp_ge rfl (by omega) (by omega) (fun hb40 => ?_) (fun hb40 => absurd hb40 (by omega))
      refine zz_iincK 2 rfl rfl rfl rfl (by decide) ?_
      refine zz_goto rfl ?_
      refine zz_iload rfl rfl ?_
      refine zz_iconst rfl ?_
      refine zz_icmp_ge rfl (by omega) (by omega) (fun hb18 => absurd hb18 (by first | decide | omega)) (fun hb18 => ?_)
      refine zz_iload_n rfl rfl ?_
      refine zz_iload rfl rfl ?_
      refine zz_iconst rfl ?_
      refine zz_iremP rfl ⟨by decide, by decide⟩ ⟨by decide, by decide⟩ ?_
      refine zz_iadd rfl ?_
      refine zz_istore rfl rfl rfl ?_
      refine zz_iload_n rfl rfl ?_
      refine zz_iload rfl rfl ?_
      refine zz_iconst rfl ?_
      refine zz_idivP rfl ⟨by decide, by decide⟩ ⟨by decide, by decide⟩ ?_
      refine zz_iadd rfl ?_
      refine zz_istore rfl rfl rfl ?_
      refine zz_iload rfl rfl ?_
      refine zz_iload_n rfl rfl ?_
      refine zz_icmp_ge rfl (by omega) (by omega) (fun hb40 => absurd hb40 (by omega)) (fun hb40 => ?_)
      refine zz_iload rfl rfl ?_
      refine zz_iload rfl rfl ?_
      refine zz_icmp_lt rfl (by omega) (by omega) (fun hb47 => ?_) (fun hb47 => absurd hb47 (by omega))
      refine zz_aload_n rfl rfl ?_
      refine zz_getf rfl fl_M_47 (m0 hA) rfl ?_
      refine zz_bipush rfl (by decide) ?_
      refine zz_iload rfl rfl ?_
      refine zz_imul rfl ?_
      refine zz_iload rfl rfl ?_
      refine zz_iadd rfl ?_
      refine zz_iald rfl (m12 hA) (by decide) ⟨by omega, by omega⟩ ?_
      refine zz_eq (show _ = c from (congrArg (X.2.1 12) (by omega)).trans vc) ?_
      refine zz_istore rfl rfl rfl ?_
      refine zz_iload rfl rfl ?_
      refine zz_sipush rfl (by decide) ?_
      refine zz_iand rfl (zq_m255 _) ?_
      refine zz_eq (zby_3 c).symm ?_
      refine zz_istore rfl rfl rfl ?_
      refine zz_iload rfl rfl ?_
      refine zz_iload rfl rfl ?_
      refine zz_iadd rfl ?_
      refine zz_istore rfl rfl rfl ?_
      refine zz_iload rfl rfl ?_
      refine zz_iload rfl rfl ?_
      refine zz_iload rfl rfl ?_
      refine zz_iconst rfl ?_
      refine zz_Sp rfl lk_M_118 cw_M_part (ct_Mpart rc (by decide)) rfl rfl rfl rfl ?_
      refine zz_imul rfl ?_
      refine zz_iadd rfl ?_
      refine zz_istore rfl rfl rfl ?_
      refine zz_iload rfl rfl ?_
      refine zz_iload rfl rfl ?_
      refine zz_iload rfl rfl ?_
      refine zz_iconst rfl ?_
      refine zz_Sp rfl lk_M_118 cw_M_part (ct_Mpart rc (by decide)) rfl rfl rfl rfl ?_
      refine zz_imul rfl ?_
      refine zz_iadd rfl ?_
      refine zz_istore rfl rfl rfl ?_
      refine zz_iload rfl rfl ?_
      refine zz_iload rfl rfl ?_
      refine zz_iload rfl rfl ?_
      refine zz_iconst rfl ?_
      refine zz_Sp rfl lk_M_118 cw_M_part (ct_Mpart rc (by decide)) rfl rfl rfl rfl ?_
      refine zz_imul rfl ?_
      refine zz_iadd rfl ?_
      refine zz_istore rfl rfl rfl ?_
      refine zz_iincK 3 rfl rfl rfl rfl (by decide) ?_
      refine zz_goto rfl ?_
      refine zz_iload rfl rfl ?_
      refine zz_iconst rfl ?_
      refine zz_icmp_ge rfl (by omega) (by omega) (fun hb18 => absurd hb18 (by first | decide | omega)) (fun hb18 => ?_)
      refine zz_iload_n rfl rfl ?_
      refine zz_iload rfl rfl ?_
      refine zz_iconst rfl ?_
      refine zz_iremP rfl ⟨by decide, by decide⟩ ⟨by decide, by decide⟩ ?_
      refine zz_iadd rfl ?_
      refine zz_istore rfl rfl rfl ?_
      refine zz_iload_n rfl rfl ?_
      refine zz_iload rfl rfl ?_
      refine zz_iconst rfl ?_
      refine zz_idivP rfl ⟨by decide, by decide⟩ ⟨by decide, by decide⟩ ?_
      refine zz_iadd rfl ?_
      refine zz_istore rfl rfl rfl ?_
      refine zz_iload rfl rfl ?_
      refine zz_iload_n rfl rfl ?_
      refine zz_icmp_ge rfl (by omega) (by omega) (fun hb40 => ?_) (fun hb40 => absurd hb40 (by omega))
      refine zz_iincK 4 rfl rfl rfl rfl (by decide) ?_
      refine zz_goto rfl ?_
      refine zz_iload rfl rfl ?_
      refine zz_iconst rfl ?_
      refine zz_icmp_ge rfl (by omega) (by omega) (fun hb18 => ?_) (fun hb18 => absurd hb18 (by first | decide | omega))
      refine Ev.take 9 ?_
      exact fr_end (a := a) (b := b) (c := c) (d := d) hA (by rw [vb, vd]; unfold zmc; simp only [zby_0c, Int.zero_mul]; omega) (by rw [vb, vd]; unfold zms; simp only [zby_0c, Int.zero_mul]; omega) (by rw [vb, vd]; unfold zms; simp only [zby_0c, Int.zero_mul]; omega) (by rw [vb, vd]; unfold zms; simp only [zby_0c, Int.zero_mul]; omega)
    · skip
      rw [if_neg cx] at vb
      rw [if_neg cy] at vc
      rw [if_neg (fun h9 => cx h9.1)] at vd
      refine zct rfl (by decide) ok_M_four rfl rfl ?_
      refine zz_iconst rfl ?_
      refine zz_istore rfl rfl rfl ?_
      refine zz_iconst rfl ?_
      refine zz_istore rfl rfl rfl ?_
      refine zz_iconst rfl ?_
      refine zz_istore rfl rfl rfl ?_
      refine zz_iconst rfl ?_
      refine zz_istore rfl rfl rfl ?_
      refine zz_iconst rfl ?_
      refine zz_istore rfl rfl rfl ?_
      refine zz_iload rfl rfl ?_
      refine zz_iconst rfl ?_
      refine zz_icmp_ge rfl (by omega) (by omega) (fun hb18 => absurd hb18 (by first | decide | omega)) (fun hb18 => ?_)
      refine zz_iload_n rfl rfl ?_
      refine zz_iload rfl rfl ?_
      refine zz_iconst rfl ?_
      refine zz_iremP rfl ⟨by decide, by decide⟩ ⟨by decide, by decide⟩ ?_
      refine zz_iadd rfl ?_
      refine zz_istore rfl rfl rfl ?_
      refine zz_iload_n rfl rfl ?_
      refine zz_iload rfl rfl ?_
      refine zz_iconst rfl ?_
      refine zz_idivP rfl ⟨by decide, by decide⟩ ⟨by decide, by decide⟩ ?_
      refine zz_iadd rfl ?_
      refine zz_istore rfl rfl rfl ?_
      refine zz_iload rfl rfl ?_
      refine zz_iload_n rfl rfl ?_
      refine zz_icmp_ge rfl (by omega) (by omega) (fun hb40 => absurd hb40 (by omega)) (fun hb40 => ?_)
      refine zz_iload rfl rfl ?_
      refine zz_iload rfl rfl ?_
      refine zz_icmp_lt rfl (by omega) (by omega) (fun hb47 => ?_) (fun hb47 => absurd hb47 (by omega))
      refine zz_aload_n rfl rfl ?_
      refine zz_getf rfl fl_M_47 (m0 hA) rfl ?_
      refine zz_bipush rfl (by decide) ?_
      refine zz_iload rfl rfl ?_
      refine zz_imul rfl ?_
      refine zz_iload rfl rfl ?_
      refine zz_iadd rfl ?_
      refine zz_iald rfl (m12 hA) (by decide) ⟨by omega, by omega⟩ ?_
      refine zz_eq (show _ = a from (congrArg (X.2.1 12) (by omega)).trans va) ?_
      refine zz_istore rfl rfl rfl ?_
      refine zz_iload rfl rfl ?_
      refine zz_sipush rfl (by decide) ?_
      refine zz_iand rfl (zq_m255 _) ?_
      refine zz_eq (zby_3 a).symm ?_
      refine zz_istore rfl rfl rfl ?_
      refine zz_iload rfl rfl ?_
      refine zz_iload rfl rfl ?_
      refine zz_iadd rfl ?_
      refine zz_istore rfl rfl rfl ?_
      refine zz_iload rfl rfl ?_
      refine zz_iload rfl rfl ?_
      refine zz_iload rfl rfl ?_
      refine zz_iconst rfl ?_
      refine zz_Sp rfl lk_M_118 cw_M_part (ct_Mpart ra (by decide)) rfl rfl rfl rfl ?_
      refine zz_imul rfl ?_
      refine zz_iadd rfl ?_
      refine zz_istore rfl rfl rfl ?_
      refine zz_iload rfl rfl ?_
      refine zz_iload rfl rfl ?_
      refine zz_iload rfl rfl ?_
      refine zz_iconst rfl ?_
      refine zz_Sp rfl lk_M_118 cw_M_part (ct_Mpart ra (by decide)) rfl rfl rfl rfl ?_
      refine zz_imul rfl ?_
      refine zz_iadd rfl ?_
      refine zz_istore rfl rfl rfl ?_
      refine zz_iload rfl rfl ?_
      refine zz_iload rfl rfl ?_
      refine zz_iload rfl rfl ?_
      refine zz_iconst rfl ?_
      refine zz_Sp rfl lk_M_118 cw_M_part (ct_Mpart ra (by decide)) rfl rfl rfl rfl ?_
      refine zz_imul rfl ?_
      refine zz_iadd rfl ?_
      refine zz_istore rfl rfl rfl ?_
      refine zz_iincK 1 rfl rfl rfl rfl (by decide) ?_
      refine zz_goto rfl ?_
      refine zz_iload rfl rfl ?_
      refine zz_iconst rfl ?_
      refine zz_icmp_ge rfl (by omega) (by omega) (fun hb18 => absurd hb18 (by first | decide | omega)) (fun hb18 => ?_)
      refine zz_iload_n rfl rfl ?_
      refine zz_iload rfl rfl ?_
      refine zz_iconst rfl ?_
      refine zz_iremP rfl ⟨by decide, by decide⟩ ⟨by decide, by decide⟩ ?_
      refine zz_iadd rfl ?_
      refine zz_istore rfl rfl rfl ?_
      refine zz_iload_n rfl rfl ?_
      refine zz_iload rfl rfl ?_
      refine zz_iconst rfl ?_
      refine zz_idivP rfl ⟨by decide, by decide⟩ ⟨by decide, by decide⟩ ?_
      refine zz_iadd rfl ?_
      refine zz_istore rfl rfl rfl ?_
      refine zz_iload rfl rfl ?_
      refine zz_iload_n rfl rfl ?_
      refine zz_icmp_ge rfl (by omega) (by omega) (fun hb40 => ?_) (fun hb40 => absurd hb40 (by omega))
      refine zz_iincK 2 rfl rfl rfl rfl (by decide) ?_
      refine zz_goto rfl ?_
      refine zz_iload rfl rfl ?_
      refine zz_iconst rfl ?_
      refine zz_icmp_ge rfl (by omega) (by omega) (fun hb18 => absurd hb18 (by first | decide | omega)) (fun hb18 => ?_)
      refine zz_iload_n rfl rfl ?_
      refine zz_iload rfl rfl ?_
      refine zz_iconst rfl ?_
      refine zz_iremP rfl ⟨by decide, by decide⟩ ⟨by decide, by decide⟩ ?_
      refine zz_iadd rfl ?_
      refine zz_istore rfl rfl rfl ?_
      refine zz_iload_n rfl rfl ?_
      refine zz_iload rfl rfl ?_
      refine zz_iconst rfl ?_
      refine zz_idivP rfl ⟨by decide, by decide⟩ ⟨by decide, by decide⟩ ?_
      refine zz_iadd rfl ?_
      refine zz_istore rfl rfl rfl ?_
      refine zz_iload rfl rfl ?_
      refine zz_iload_n rfl rfl ?_
      refine zz_icmp_ge rfl (by omega) (by omega) (fun hb40 => absurd hb40 (by omega)) (fun hb40 => ?_)
      refine zz_iload rfl rfl ?_
      refine zz_iload rfl rfl ?_
      refine zz_icmp_lt rfl (by omega) (by omega) (fun hb47 => absurd hb47 (by omega)) (fun hb47 => ?_)
      refine zz_goto rfl ?_
      refine zz_iincK 3 rfl rfl rfl rfl (by decide) ?_
      refine zz_goto rfl ?_
      refine zz_iload rfl rfl ?_
      refine zz_iconst rfl ?_
      refine zz_icmp_ge rfl (by omega) (by omega) (fun hb18 => absurd hb18 (by first | decide | omega)) (fun hb18 => ?_)
      refine zz_iload_n rfl rfl ?_
      refine zz_iload rfl rfl ?_
      refine zz_iconst rfl ?_
      refine zz_iremP rfl ⟨by decide, by decide⟩ ⟨by decide, by decide⟩ ?_
      refine zz_iadd rfl ?_
      refine zz_istore rfl rfl rfl ?_
      refine zz_iload_n rfl rfl ?_
      refine zz_iload rfl rfl ?_
      refine zz_iconst rfl ?_
      refine zz_idivP rfl ⟨by decide, by decide⟩ ⟨by decide, by decide⟩ ?_
      refine zz_iadd rfl ?_
      refine zz_istore rfl rfl rfl ?_
      refine zz_iload rfl rfl ?_
      refine zz_iload_n rfl rfl ?_
      refine zz_icmp_ge rfl (by omega) (by omega) (fun hb40 => ?_) (fun hb40 => absurd hb40 (by omega))
      refine zz_iincK 4 rfl rfl rfl rfl (by decide) ?_
      refine zz_goto rfl ?_
      refine zz_iload rfl rfl ?_
      refine zz_iconst rfl ?_
      refine zz_icmp_ge rfl (by omega) (by omega) (fun hb18 => ?_) (fun hb18 => absurd hb18 (by first | decide | omega))
      refine Ev.take 9 ?_
      exact fr_end (a := a) (b := b) (c := c) (d := d) hA (by rw [vb, vc, vd]; unfold zmc; simp only [zby_0c, Int.zero_mul]; omega) (by rw [vb, vc, vd]; unfold zms; simp only [zby_0c, Int.zero_mul]; omega) (by rw [vb, vc, vd]; unfold zms; simp only [zby_0c, Int.zero_mul]; omega) (by rw [vb, vc, vd]; unfold zms; simp only [zby_0c, Int.zero_mul]; omega)
end MQ7
