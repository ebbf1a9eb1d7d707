section ML
variable {Z : ZC} {h : ZH}
theorem zbool (b : Bool) : b = false ∨ b = true := by cases b; exact Or.inl rfl; exact Or.inr rfl
theorem ct_Min {v a b : Int} (hv : zrg v) (ha : zrg a) (hb : zrg b) : Ct Z m_M_in 0 0 0 [zI v, zI a, zI b] h (zP (zI (zb (a ≤ v ∧ v ≤ b))) h) := by
  refine zct rfl (by decide) ok_M_in rfl rfl ?_
  refine zz_iload_n rfl rfl ?_
  refine zz_iload_n rfl rfl ?_
  refine zz_icmp_lt rfl hv ha (fun hb2 => ?_) (fun hb2 => ?_)
  · skip
    refine zz_iconst rfl ?_
    refine zz_zret rfl rfl rfl (zret_f (fun h9 => by have := h9.1; omega))
  · skip
    refine zz_iload_n rfl rfl ?_
    refine zz_iload_n rfl rfl ?_
    refine zz_icmp_gt rfl hv hb (fun hb7 => ?_) (fun hb7 => ?_)
    · skip
      refine zz_iconst rfl ?_
      refine zz_zret rfl rfl rfl (zret_f (fun h9 => by have := h9.2; omega))
    · skip
      refine zz_iconst rfl ?_
      refine zz_goto rfl ?_
      refine zz_zret rfl rfl rfl (zret_t ⟨by omega, by omega⟩)
theorem ct_Mpart {d c : Int} (hd : zrg d) (hc : 0 ≤ c ∧ c ≤ 3) : Ct Z m_M_part 0 0 0 [zI d, zI c] h (zP (zI (zby d c)) h) := by
  refine zct rfl (by decide) ok_M_part rfl rfl ?_
  refine zz_iload_n rfl rfl ?_
  refine zz_bipush rfl (by decide) ?_
  refine zz_bipush rfl (by decide) ?_
  refine zz_iload_n rfl rfl ?_
  refine zz_imul rfl ?_
  refine zz_isub rfl ?_
  refine zz_ishr rfl hd (by omega) ?_
  refine zz_sipush rfl (by decide) ?_
  refine zz_iand rfl (zq_m255 _) ?_
  refine zz_iret rfl rfl ⟨rfl, rfl⟩
theorem ct_Mdiv {v : Int} (hv : 0 ≤ v ∧ v ≤ 100000) : Ct Z m_M_div 0 0 0 [zI v] h (zP (zI (zdv v)) h) := by
  refine zct rfl (by decide) ok_M_div rfl rfl ?_
  refine zz_iload_n rfl rfl ?_
  refine zz_bipush rfl (by decide) ?_
  refine zz_iadd rfl ?_
  refine zz_sipush rfl (by decide) ?_
  refine zz_idivP rfl (by omega) (by omega) ?_
  refine zz_iret rfl rfl ⟨rfl, rfl⟩
theorem ct_Mmixed {s b m : Int} (hs : 0 ≤ s ∧ s ≤ 255) (hb : 0 ≤ b ∧ b ≤ 255) (hm : 0 ≤ m ∧ m ≤ 5) : Ct Z m_M_mixed 1 0 0 [zI m, zI s, zI b] h (zP (zI (zmx m s b)) h) := by
  have hc : m = 0 ∨ m = 1 ∨ m = 2 ∨ m = 3 ∨ m = 4 ∨ m = 5 := by omega
  have hsb := zmulb hs hb
  rcases hc with rfl | rfl | rfl | rfl | rfl | rfl
  · skip
    refine zct rfl (by decide) ok_M_mixed rfl rfl ?_
    refine zz_iload_n rfl rfl ?_
    refine zz_if_ne rfl (by omega) (fun hb1 => absurd hb1 (by first | decide | omega)) (fun hb1 => ?_)
    refine zz_iload_n rfl rfl ?_
    refine zz_iret rfl rfl (zret_e rfl)
  · skip
    refine zct rfl (by decide) ok_M_mixed rfl rfl ?_
    refine zz_iload_n rfl rfl ?_
    refine zz_if_ne rfl (by omega) (fun hb1 => ?_) (fun hb1 => absurd hb1 (by first | decide | omega))
    refine zz_iload_n rfl rfl ?_
    refine zz_iconst rfl ?_
    refine zz_icmp_ne rfl (by omega) (by omega) (fun hb8 => absurd hb8 (by first | decide | omega)) (fun hb8 => ?_)
    refine zz_iload_n rfl rfl ?_
    refine zz_iload_n rfl rfl ?_
    refine zz_imul rfl ?_
    refine zz_Sp rfl lk_M_114 cw_M_div (ct_Mdiv ⟨hsb.1, by omega⟩) rfl rfl rfl rfl ?_
    refine zz_iret rfl rfl (zret_e rfl)
  · skip
    refine zct rfl (by decide) ok_M_mixed rfl rfl ?_
    refine zz_iload_n rfl rfl ?_
    refine zz_if_ne rfl (by omega) (fun hb1 => ?_) (fun hb1 => absurd hb1 (by first | decide | omega))
    refine zz_iload_n rfl rfl ?_
    refine zz_iconst rfl ?_
    refine zz_icmp_ne rfl (by omega) (by omega) (fun hb8 => ?_) (fun hb8 => absurd hb8 (by first | decide | omega))
    refine zz_iload_n rfl rfl ?_
    refine zz_iconst rfl ?_
    refine zz_icmp_ne rfl (by omega) (by omega) (fun hb20 => absurd hb20 (by first | decide | omega)) (fun hb20 => ?_)
    refine zz_iload_n rfl rfl ?_
    refine zz_iload_n rfl rfl ?_
    refine zz_iadd rfl ?_
    refine zz_iload_n rfl rfl ?_
    refine zz_iload_n rfl rfl ?_
    refine zz_imul rfl ?_
    refine zz_Sp rfl lk_M_114 cw_M_div (ct_Mdiv ⟨hsb.1, by omega⟩) rfl rfl rfl rfl ?_
    refine zz_isub rfl ?_
    refine zz_iret rfl rfl (zret_e rfl)
  · skip
    refine zct rfl (by decide) ok_M_mixed rfl rfl ?_
    refine zz_iload_n rfl rfl ?_
    refine zz_if_ne rfl (by omega) (fun hb1 => ?_) (fun hb1 => absurd hb1 (by first | decide | omega))
    refine zz_iload_n rfl rfl ?_
    refine zz_iconst rfl ?_
    refine zz_icmp_ne rfl (by omega) (by omega) (fun hb8 => ?_) (fun hb8 => absurd hb8 (by first | decide | omega))
    refine zz_iload_n rfl rfl ?_
    refine zz_iconst rfl ?_
    refine zz_icmp_ne rfl (by omega) (by omega) (fun hb20 => ?_) (fun hb20 => absurd hb20 (by first | decide | omega))
    refine zz_iload_n rfl rfl ?_
    refine zz_iconst rfl ?_
    refine zz_icmp_ne rfl (by omega) (by omega) (fun hb36 => absurd hb36 (by first | decide | omega)) (fun hb36 => ?_)
    refine zz_iload_n rfl rfl ?_
    refine zz_iload_n rfl rfl ?_
    refine zz_icmp_ge rfl (by omega) (by omega) (fun hb41 => ?_) (fun hb41 => ?_)
    · skip
      refine zz_iload_n rfl rfl ?_
      refine zz_iret rfl rfl (zret_e (by show _ = (if b < s then b else s); split <;> omega))
    · skip
      refine zz_iload_n rfl rfl ?_
      refine zz_goto rfl ?_
      refine zz_iret rfl rfl (zret_e (by show _ = (if b < s then b else s); split <;> omega))
  · skip
    refine zct rfl (by decide) ok_M_mixed rfl rfl ?_
    refine zz_iload_n rfl rfl ?_
    refine zz_if_ne rfl (by omega) (fun hb1 => ?_) (fun hb1 => absurd hb1 (by first | decide | omega))
    refine zz_iload_n rfl rfl ?_
    refine zz_iconst rfl ?_
    refine zz_icmp_ne rfl (by omega) (by omega) (fun hb8 => ?_) (fun hb8 => absurd hb8 (by first | decide | omega))
    refine zz_iload_n rfl rfl ?_
    refine zz_iconst rfl ?_
    refine zz_icmp_ne rfl (by omega) (by omega) (fun hb20 => ?_) (fun hb20 => absurd hb20 (by first | decide | omega))
    refine zz_iload_n rfl rfl ?_
    refine zz_iconst rfl ?_
    refine zz_icmp_ne rfl (by omega) (by omega) (fun hb36 => ?_) (fun hb36 => absurd hb36 (by first | decide | omega))
    refine zz_iload_n rfl rfl ?_
    refine zz_iconst rfl ?_
    refine zz_icmp_ne rfl (by omega) (by omega) (fun hb52 => absurd hb52 (by first | decide | omega)) (fun hb52 => ?_)
    refine zz_iload_n rfl rfl ?_
    refine zz_iload_n rfl rfl ?_
    refine zz_icmp_le rfl (by omega) (by omega) (fun hb57 => ?_) (fun hb57 => ?_)
    · skip
      refine zz_iload_n rfl rfl ?_
      refine zz_iret rfl rfl (zret_e (by show _ = (if s < b then b else s); split <;> omega))
    · skip
      refine zz_iload_n rfl rfl ?_
      refine zz_goto rfl ?_
      refine zz_iret rfl rfl (zret_e (by show _ = (if s < b then b else s); split <;> omega))
  · skip
    refine zct rfl (by decide) ok_M_mixed rfl rfl ?_
    refine zz_iload_n rfl rfl ?_
    refine zz_if_ne rfl (by omega) (fun hb1 => ?_) (fun hb1 => absurd hb1 (by first | decide | omega))
    refine zz_iload_n rfl rfl ?_
    refine zz_iconst rfl ?_
    refine zz_icmp_ne rfl (by omega) (by omega) (fun hb8 => ?_) (fun hb8 => absurd hb8 (by first | decide | omega))
    refine zz_iload_n rfl rfl ?_
    refine zz_iconst rfl ?_
    refine zz_icmp_ne rfl (by omega) (by omega) (fun hb20 => ?_) (fun hb20 => absurd hb20 (by first | decide | omega))
    refine zz_iload_n rfl rfl ?_
    refine zz_iconst rfl ?_
    refine zz_icmp_ne rfl (by omega) (by omega) (fun hb36 => ?_) (fun hb36 => absurd hb36 (by first | decide | omega))
    refine zz_iload_n rfl rfl ?_
    refine zz_iconst rfl ?_
    refine zz_icmp_ne rfl (by omega) (by omega) (fun hb52 => ?_) (fun hb52 => absurd hb52 (by first | decide | omega))
    refine zz_iload_n rfl rfl ?_
    refine zz_iload_n rfl rfl ?_
    refine zz_iadd rfl ?_
    refine zz_sipush rfl (by decide) ?_
    refine zz_icmp_le rfl (by omega) (by omega) (fun hb72 => ?_) (fun hb72 => ?_)
    · skip
      refine zz_iload_n rfl rfl ?_
      refine zz_iload_n rfl rfl ?_
      refine zz_iadd rfl ?_
      refine zz_iret rfl rfl (zret_e (by show _ = (if s + b < 255 then s + b else 255); split <;> omega))
    · skip
      refine zz_sipush rfl (by decide) ?_
      refine zz_goto rfl ?_
      refine zz_iret rfl rfl (zret_e (by show _ = (if s + b < 255 then s + b else 255); split <;> omega))
theorem ct_Mblend {S B m op : Int} (hS : zrg S) (hB : zrg B) (hm : 0 ≤ m ∧ m ≤ 5) (ho : 0 ≤ op ∧ op ≤ 255) : Ct Z m_M_blend 2 0 0 [zI B, zI S, zI m, zI op] h (zP (zI (zbl S B m op)) h) := by
  have h1 := zbs_rg S ho
  have h2 := zbu_rg S B ho
  have hw0 : 0 ≤ zbw S B op ∧ zbw S B op ≤ 65025 := by unfold zbw; omega
  have gd := zdv_rg hw0
  by_cases h0 : zbw S B op = 0
  · refine zct rfl (by decide) ok_M_blend rfl rfl ?_
    refine zz_iload_n rfl rfl ?_
    refine zz_sipush rfl (by decide) ?_
    refine zz_iand rfl (zq_m255 _) ?_
    refine zz_eq (zby_3 S).symm ?_
    refine zz_iload_n rfl rfl ?_
    refine zz_imul rfl ?_
    refine zz_Sp rfl lk_M_114 cw_M_div (ct_Mdiv (by omega)) rfl rfl rfl rfl ?_
    refine zz_eq (show _ = zbs S op from rfl) ?_
    refine zz_istore rfl rfl rfl ?_
    refine zz_iload_n rfl rfl ?_
    refine zz_sipush rfl (by decide) ?_
    refine zz_iand rfl (zq_m255 _) ?_
    refine zz_eq (zby_3 B).symm ?_
    refine zz_istore rfl rfl rfl ?_
    refine zz_sipush rfl (by decide) ?_
    refine zz_iload rfl rfl ?_
    refine zz_imul rfl ?_
    refine zz_iload rfl rfl ?_
    refine zz_sipush rfl (by decide) ?_
    refine zz_iload rfl rfl ?_
    refine zz_isub rfl ?_
    refine zz_imul rfl ?_
    refine zz_iadd rfl ?_
    refine zz_eq (show _ = zbw S B op from rfl) ?_
    refine zz_istore rfl rfl rfl ?_
    refine zz_iload rfl rfl ?_
    refine zz_Sp rfl lk_M_114 cw_M_div (ct_Mdiv (by omega)) rfl rfl rfl rfl ?_
    refine zz_eq (show zdv (zbw S B op) = 0 from by rw [h0]; rfl) ?_
    refine zz_istore rfl rfl rfl ?_
    refine zz_iconst rfl ?_
    refine zz_istore rfl rfl rfl ?_
    refine zz_iload rfl rfl ?_
    refine zz_iconst rfl ?_
    refine zz_icmp_ge rfl (by omega) (by omega) (fun hb50 => absurd hb50 (by first | decide | omega)) (fun hb50 => ?_)
    refine zz_iload rfl rfl ?_
    refine zz_iload_n rfl rfl ?_
    refine zz_iload_n rfl rfl ?_
    refine zz_iload rfl rfl ?_
    refine zz_Sp rfl lk_M_118 cw_M_part (ct_Mpart hS (by omega)) rfl rfl rfl rfl ?_
    refine zz_iload_n rfl rfl ?_
    refine zz_iload rfl rfl ?_
    refine zz_Sp rfl lk_M_118 cw_M_part (ct_Mpart hB (by omega)) rfl rfl rfl rfl ?_
    refine zz_Sp rfl lk_M_122 cw_M_mixed (ct_Mmixed (zby_rg _ _) (zby_rg _ _) hm) rfl rfl rfl rfl ?_
    refine zz_imul rfl ?_
    refine zz_sipush rfl (by decide) ?_
    refine zz_iload rfl rfl ?_
    refine zz_isub rfl ?_
    refine zz_iload_n rfl rfl ?_
    refine zz_iload rfl rfl ?_
    refine zz_Sp rfl lk_M_118 cw_M_part (ct_Mpart hS (by omega)) rfl rfl rfl rfl ?_
    refine zz_imul rfl ?_
    refine zz_iadd rfl ?_
    refine zz_Sp rfl lk_M_114 cw_M_div (ct_Mdiv ⟨(zbx_rg S B m 0).2.2.1, by have := (zbx_rg S B m 0).2.2.2; omega⟩) rfl rfl rfl rfl ?_
    refine zz_eq (show _ = zbx S B m 0 from rfl) ?_
    refine zz_istore rfl rfl rfl ?_
    refine zz_iload rfl rfl ?_
    refine zz_if_ne rfl (by omega) (fun hb93 => absurd hb93 (by omega)) (fun hb93 => ?_)
    refine zz_iconst rfl ?_
    refine zz_goto rfl ?_
    refine zz_istore rfl rfl rfl ?_
    refine zz_iload rfl rfl ?_
    refine zz_iload rfl rfl ?_
    refine zz_bipush rfl (by decide) ?_
    refine zz_bipush rfl (by decide) ?_
    refine zz_iload rfl rfl ?_
    refine zz_imul rfl ?_
    refine zz_isub rfl ?_
    refine zz_ishl rfl (by omega) ?_
    refine zz_ior rfl (show _ = Int32.ofInt 0 from by decide) ?_
    refine zz_istore rfl rfl rfl ?_
    refine zz_iincK 1 rfl rfl rfl rfl (by decide) ?_
    refine zz_goto rfl ?_
    refine zz_iload rfl rfl ?_
    refine zz_iconst rfl ?_
    refine zz_icmp_ge rfl (by omega) (by omega) (fun hb50 => absurd hb50 (by first | decide | omega)) (fun hb50 => ?_)
    refine zz_iload rfl rfl ?_
    refine zz_iload_n rfl rfl ?_
    refine zz_iload_n rfl rfl ?_
    refine zz_iload rfl rfl ?_
    refine zz_Sp rfl lk_M_118 cw_M_part (ct_Mpart hS (by omega)) rfl rfl rfl rfl ?_
    refine zz_iload_n rfl rfl ?_
    refine zz_iload rfl rfl ?_
    refine zz_Sp rfl lk_M_118 cw_M_part (ct_Mpart hB (by omega)) rfl rfl rfl rfl ?_
    refine zz_Sp rfl lk_M_122 cw_M_mixed (ct_Mmixed (zby_rg _ _) (zby_rg _ _) hm) rfl rfl rfl rfl ?_
    refine zz_imul rfl ?_
    refine zz_sipush rfl (by decide) ?_
    refine zz_iload rfl rfl ?_
    refine zz_isub rfl ?_
    refine zz_iload_n rfl rfl ?_
    refine zz_iload rfl rfl ?_
    refine zz_Sp rfl lk_M_118 cw_M_part (ct_Mpart hS (by omega)) rfl rfl rfl rfl ?_
    refine zz_imul rfl ?_
    refine zz_iadd rfl ?_
    refine zz_Sp rfl lk_M_114 cw_M_div (ct_Mdiv ⟨(zbx_rg S B m 1).2.2.1, by have := (zbx_rg S B m 1).2.2.2; omega⟩) rfl rfl rfl rfl ?_
    refine zz_eq (show _ = zbx S B m 1 from rfl) ?_
    refine zz_istore rfl rfl rfl ?_
    refine zz_iload rfl rfl ?_
    refine zz_if_ne rfl (by omega) (fun hb93 => absurd hb93 (by omega)) (fun hb93 => ?_)
    refine zz_iconst rfl ?_
    refine zz_goto rfl ?_
    refine zz_istore rfl rfl rfl ?_
    refine zz_iload rfl rfl ?_
    refine zz_iload rfl rfl ?_
    refine zz_bipush rfl (by decide) ?_
    refine zz_bipush rfl (by decide) ?_
    refine zz_iload rfl rfl ?_
    refine zz_imul rfl ?_
    refine zz_isub rfl ?_
    refine zz_ishl rfl (by omega) ?_
    refine zz_ior rfl (show _ = Int32.ofInt 0 from by decide) ?_
    refine zz_istore rfl rfl rfl ?_
    refine zz_iincK 2 rfl rfl rfl rfl (by decide) ?_
    refine zz_goto rfl ?_
    refine zz_iload rfl rfl ?_
    refine zz_iconst rfl ?_
    refine zz_icmp_ge rfl (by omega) (by omega) (fun hb50 => absurd hb50 (by first | decide | omega)) (fun hb50 => ?_)
    refine zz_iload rfl rfl ?_
    refine zz_iload_n rfl rfl ?_
    refine zz_iload_n rfl rfl ?_
    refine zz_iload rfl rfl ?_
    refine zz_Sp rfl lk_M_118 cw_M_part (ct_Mpart hS (by omega)) rfl rfl rfl rfl ?_
    refine zz_iload_n rfl rfl ?_
    refine zz_iload rfl rfl ?_
    refine zz_Sp rfl lk_M_118 cw_M_part (ct_Mpart hB (by omega)) rfl rfl rfl rfl ?_
    refine zz_Sp rfl lk_M_122 cw_M_mixed (ct_Mmixed (zby_rg _ _) (zby_rg _ _) hm) rfl rfl rfl rfl ?_
    refine zz_imul rfl ?_
    refine zz_sipush rfl (by decide) ?_
    refine zz_iload rfl rfl ?_
    refine zz_isub rfl ?_
    refine zz_iload_n rfl rfl ?_
    refine zz_iload rfl rfl ?_
    refine zz_Sp rfl lk_M_118 cw_M_part (ct_Mpart hS (by omega)) rfl rfl rfl rfl ?_
    refine zz_imul rfl ?_
    refine zz_iadd rfl ?_
    refine zz_Sp rfl lk_M_114 cw_M_div (ct_Mdiv ⟨(zbx_rg S B m 2).2.2.1, by have := (zbx_rg S B m 2).2.2.2; omega⟩) rfl rfl rfl rfl ?_
    refine zz_eq (show _ = zbx S B m 2 from rfl) ?_
    refine zz_istore rfl rfl rfl ?_
    refine zz_iload rfl rfl ?_
    refine zz_if_ne rfl (by omega) (fun hb93 => absurd hb93 (by omega)) (fun hb93 => ?_)
    refine zz_iconst rfl ?_
    refine zz_goto rfl ?_
    refine zz_istore rfl rfl rfl ?_
    refine zz_iload rfl rfl ?_
    refine zz_iload rfl rfl ?_
    refine zz_bipush rfl (by decide) ?_
    refine zz_bipush rfl (by decide) ?_
    refine zz_iload rfl rfl ?_
    refine zz_imul rfl ?_
    refine zz_isub rfl ?_
    refine zz_ishl rfl (by omega) ?_
    refine zz_ior rfl (show _ = Int32.ofInt 0 from by decide) ?_
    refine zz_istore rfl rfl rfl ?_
    refine zz_iincK 3 rfl rfl rfl rfl (by decide) ?_
    refine zz_goto rfl ?_
    refine zz_iload rfl rfl ?_
    refine zz_iconst rfl ?_
    refine zz_icmp_ge rfl (by omega) (by omega) (fun hb50 => ?_) (fun hb50 => absurd hb50 (by first | decide | omega))
    refine zz_iload rfl rfl ?_
    refine zz_iret rfl rfl (zret_e (by unfold zbl; rw [if_pos h0]))
  · refine zct rfl (by decide) ok_M_blend rfl rfl ?_
    refine zz_iload_n rfl rfl ?_
    refine zz_sipush rfl (by decide) ?_
    refine zz_iand rfl (zq_m255 _) ?_
    refine zz_eq (zby_3 S).symm ?_
    refine zz_iload_n rfl rfl ?_
    refine zz_imul rfl ?_
    refine zz_Sp rfl lk_M_114 cw_M_div (ct_Mdiv (by omega)) rfl rfl rfl rfl ?_
    refine zz_eq (show _ = zbs S op from rfl) ?_
    refine zz_istore rfl rfl rfl ?_
    refine zz_iload_n rfl rfl ?_
    refine zz_sipush rfl (by decide) ?_
    refine zz_iand rfl (zq_m255 _) ?_
    refine zz_eq (zby_3 B).symm ?_
    refine zz_istore rfl rfl rfl ?_
    refine zz_sipush rfl (by decide) ?_
    refine zz_iload rfl rfl ?_
    refine zz_imul rfl ?_
    refine zz_iload rfl rfl ?_
    refine zz_sipush rfl (by decide) ?_
    refine zz_iload rfl rfl ?_
    refine zz_isub rfl ?_
    refine zz_imul rfl ?_
    refine zz_iadd rfl ?_
    refine zz_eq (show _ = zbw S B op from rfl) ?_
    refine zz_istore rfl rfl rfl ?_
    refine zz_iload rfl rfl ?_
    refine zz_Sp rfl lk_M_114 cw_M_div (ct_Mdiv (by omega)) rfl rfl rfl rfl ?_
    refine zz_eq (show zdv (zbw S B op) = zpq 0 0 0 (zdv (zbw S B op)) from by unfold zpq; omega) ?_
    refine zz_istore rfl rfl rfl ?_
    refine zz_iconst rfl ?_
    refine zz_istore rfl rfl rfl ?_
    refine zz_iload rfl rfl ?_
    refine zz_iconst rfl ?_
    refine zz_icmp_ge rfl (by omega) (by omega) (fun hb50 => absurd hb50 (by first | decide | omega)) (fun hb50 => ?_)
    refine zz_iload rfl rfl ?_
    refine zz_iload_n rfl rfl ?_
    refine zz_iload_n rfl rfl ?_
    refine zz_iload rfl rfl ?_
    refine zz_Sp rfl lk_M_118 cw_M_part (ct_Mpart hS (by omega)) rfl rfl rfl rfl ?_
    refine zz_iload_n rfl rfl ?_
    refine zz_iload rfl rfl ?_
    refine zz_Sp rfl lk_M_118 cw_M_part (ct_Mpart hB (by omega)) rfl rfl rfl rfl ?_
    refine zz_Sp rfl lk_M_122 cw_M_mixed (ct_Mmixed (zby_rg _ _) (zby_rg _ _) hm) rfl rfl rfl rfl ?_
    refine zz_imul rfl ?_
    refine zz_sipush rfl (by decide) ?_
    refine zz_iload rfl rfl ?_
    refine zz_isub rfl ?_
    refine zz_iload_n rfl rfl ?_
    refine zz_iload rfl rfl ?_
    refine zz_Sp rfl lk_M_118 cw_M_part (ct_Mpart hS (by omega)) rfl rfl rfl rfl ?_
    refine zz_imul rfl ?_
    refine zz_iadd rfl ?_
    refine zz_Sp rfl lk_M_114 cw_M_div (ct_Mdiv ⟨(zbx_rg S B m 0).2.2.1, by have := (zbx_rg S B m 0).2.2.2; omega⟩) rfl rfl rfl rfl ?_
    refine zz_eq (show _ = zbx S B m 0 from rfl) ?_
    refine zz_istore rfl rfl rfl ?_
    refine zz_iload rfl rfl ?_
    refine zz_if_ne rfl (by omega) (fun hb93 => ?_) (fun hb93 => absurd hb93 (by omega))
    refine zz_sipush rfl (by decide) ?_
    refine zz_iload rfl rfl ?_
    refine zz_imul rfl ?_
    refine zz_iload rfl rfl ?_
    refine zz_imul rfl ?_
    refine zz_iload rfl rfl ?_
    refine zz_sipush rfl (by decide) ?_
    refine zz_iload rfl rfl ?_
    refine zz_isub rfl ?_
    refine zz_imul rfl ?_
    refine zz_iload_n rfl rfl ?_
    refine zz_iload rfl rfl ?_
    refine zz_Sp rfl lk_M_118 cw_M_part (ct_Mpart hB (by omega)) rfl rfl rfl rfl ?_
    refine zz_imul rfl ?_
    refine zz_iadd rfl ?_
    refine zz_eq (show _ = zbn S B m op 0 from rfl) ?_
    have g0 := zbk_rg S B m 0 ho h0
    refine zz_iload rfl rfl ?_
    refine zz_iconst rfl ?_
    refine zz_idivP rfl (by omega) (by omega) ?_
    refine zz_iadd rfl ?_
    refine zz_iload rfl rfl ?_
    refine zz_idivP rfl (by omega) (by omega) ?_
    refine zz_istore rfl rfl rfl ?_
    refine zz_iload rfl rfl ?_
    refine zz_iload rfl rfl ?_
    refine zz_bipush rfl (by decide) ?_
    refine zz_bipush rfl (by decide) ?_
    refine zz_iload rfl rfl ?_
    refine zz_imul rfl ?_
    refine zz_isub rfl ?_
    refine zz_ishl rfl (by omega) ?_
    refine zz_ior rfl (zo_a g0.2.2 (by decide) (by decide) gd) ?_
    refine zz_istore rfl rfl rfl ?_
    refine zz_iincK 1 rfl rfl rfl rfl (by decide) ?_
    refine zz_goto rfl ?_
    refine zz_iload rfl rfl ?_
    refine zz_iconst rfl ?_
    refine zz_icmp_ge rfl (by omega) (by omega) (fun hb50 => absurd hb50 (by first | decide | omega)) (fun hb50 => ?_)
    refine zz_iload rfl rfl ?_
    refine zz_iload_n rfl rfl ?_
    refine zz_iload_n rfl rfl ?_
    refine zz_iload rfl rfl ?_
    refine zz_Sp rfl lk_M_118 cw_M_part (ct_Mpart hS (by omega)) rfl rfl rfl rfl ?_
    refine zz_iload_n rfl rfl ?_
    refine zz_iload rfl rfl ?_
    refine zz_Sp rfl lk_M_118 cw_M_part (ct_Mpart hB (by omega)) rfl rfl rfl rfl ?_
    refine zz_Sp rfl lk_M_122 cw_M_mixed (ct_Mmixed (zby_rg _ _) (zby_rg _ _) hm) rfl rfl rfl rfl ?_
    refine zz_imul rfl ?_
    refine zz_sipush rfl (by decide) ?_
    refine zz_iload rfl rfl ?_
    refine zz_isub rfl ?_
    refine zz_iload_n rfl rfl ?_
    refine zz_iload rfl rfl ?_
    refine zz_Sp rfl lk_M_118 cw_M_part (ct_Mpart hS (by omega)) rfl rfl rfl rfl ?_
    refine zz_imul rfl ?_
    refine zz_iadd rfl ?_
    refine zz_Sp rfl lk_M_114 cw_M_div (ct_Mdiv ⟨(zbx_rg S B m 1).2.2.1, by have := (zbx_rg S B m 1).2.2.2; omega⟩) rfl rfl rfl rfl ?_
    refine zz_eq (show _ = zbx S B m 1 from rfl) ?_
    refine zz_istore rfl rfl rfl ?_
    refine zz_iload rfl rfl ?_
    refine zz_if_ne rfl (by omega) (fun hb93 => ?_) (fun hb93 => absurd hb93 (by omega))
    refine zz_sipush rfl (by decide) ?_
    refine zz_iload rfl rfl ?_
    refine zz_imul rfl ?_
    refine zz_iload rfl rfl ?_
    refine zz_imul rfl ?_
    refine zz_iload rfl rfl ?_
    refine zz_sipush rfl (by decide) ?_
    refine zz_iload rfl rfl ?_
    refine zz_isub rfl ?_
    refine zz_imul rfl ?_
    refine zz_iload_n rfl rfl ?_
    refine zz_iload rfl rfl ?_
    refine zz_Sp rfl lk_M_118 cw_M_part (ct_Mpart hB (by omega)) rfl rfl rfl rfl ?_
    refine zz_imul rfl ?_
    refine zz_iadd rfl ?_
    refine zz_eq (show _ = zbn S B m op 1 from rfl) ?_
    have g1 := zbk_rg S B m 1 ho h0
    refine zz_iload rfl rfl ?_
    refine zz_iconst rfl ?_
    refine zz_idivP rfl (by omega) (by omega) ?_
    refine zz_iadd rfl ?_
    refine zz_iload rfl rfl ?_
    refine zz_idivP rfl (by omega) (by omega) ?_
    refine zz_istore rfl rfl rfl ?_
    refine zz_iload rfl rfl ?_
    refine zz_iload rfl rfl ?_
    refine zz_bipush rfl (by decide) ?_
    refine zz_bipush rfl (by decide) ?_
    refine zz_iload rfl rfl ?_
    refine zz_imul rfl ?_
    refine zz_isub rfl ?_
    refine zz_ishl rfl (by omega) ?_
    refine zz_ior rfl (zo_b g0.2.2 g1.2.2 (by decide) gd) ?_
    refine zz_istore rfl rfl rfl ?_
    refine zz_iincK 2 rfl rfl rfl rfl (by decide) ?_
    refine zz_goto rfl ?_
    refine zz_iload rfl rfl ?_
    refine zz_iconst rfl ?_
    refine zz_icmp_ge rfl (by omega) (by omega) (fun hb50 => absurd hb50 (by first | decide | omega)) (fun hb50 => ?_)
    refine zz_iload rfl rfl ?_
    refine zz_iload_n rfl rfl ?_
    refine zz_iload_n rfl rfl ?_
    refine zz_iload rfl rfl ?_
    refine zz_Sp rfl lk_M_118 cw_M_part (ct_Mpart hS (by omega)) rfl rfl rfl rfl ?_
    refine zz_iload_n rfl rfl ?_
    refine zz_iload rfl rfl ?_
    refine zz_Sp rfl lk_M_118 cw_M_part (ct_Mpart hB (by omega)) rfl rfl rfl rfl ?_
    refine zz_Sp rfl lk_M_122 cw_M_mixed (ct_Mmixed (zby_rg _ _) (zby_rg _ _) hm) rfl rfl rfl rfl ?_
    refine zz_imul rfl ?_
    refine zz_sipush rfl (by decide) ?_
    refine zz_iload rfl rfl ?_
    refine zz_isub rfl ?_
    refine zz_iload_n rfl rfl ?_
    refine zz_iload rfl rfl ?_
    refine zz_Sp rfl lk_M_118 cw_M_part (ct_Mpart hS (by omega)) rfl rfl rfl rfl ?_
    refine zz_imul rfl ?_
    refine zz_iadd rfl ?_
    refine zz_Sp rfl lk_M_114 cw_M_div (ct_Mdiv ⟨(zbx_rg S B m 2).2.2.1, by have := (zbx_rg S B m 2).2.2.2; omega⟩) rfl rfl rfl rfl ?_
    refine zz_eq (show _ = zbx S B m 2 from rfl) ?_
    refine zz_istore rfl rfl rfl ?_
    refine zz_iload rfl rfl ?_
    refine zz_if_ne rfl (by omega) (fun hb93 => ?_) (fun hb93 => absurd hb93 (by omega))
    refine zz_sipush rfl (by decide) ?_
    refine zz_iload rfl rfl ?_
    refine zz_imul rfl ?_
    refine zz_iload rfl rfl ?_
    refine zz_imul rfl ?_
    refine zz_iload rfl rfl ?_
    refine zz_sipush rfl (by decide) ?_
    refine zz_iload rfl rfl ?_
    refine zz_isub rfl ?_
    refine zz_imul rfl ?_
    refine zz_iload_n rfl rfl ?_
    refine zz_iload rfl rfl ?_
    refine zz_Sp rfl lk_M_118 cw_M_part (ct_Mpart hB (by omega)) rfl rfl rfl rfl ?_
    refine zz_imul rfl ?_
    refine zz_iadd rfl ?_
    refine zz_eq (show _ = zbn S B m op 2 from rfl) ?_
    have g2 := zbk_rg S B m 2 ho h0
    refine zz_iload rfl rfl ?_
    refine zz_iconst rfl ?_
    refine zz_idivP rfl (by omega) (by omega) ?_
    refine zz_iadd rfl ?_
    refine zz_iload rfl rfl ?_
    refine zz_idivP rfl (by omega) (by omega) ?_
    refine zz_istore rfl rfl rfl ?_
    refine zz_iload rfl rfl ?_
    refine zz_iload rfl rfl ?_
    refine zz_bipush rfl (by decide) ?_
    refine zz_bipush rfl (by decide) ?_
    refine zz_iload rfl rfl ?_
    refine zz_imul rfl ?_
    refine zz_isub rfl ?_
    refine zz_ishl rfl (by omega) ?_
    refine zz_ior rfl (zo_c g0.2.2 g1.2.2 g2.2.2 gd) ?_
    refine zz_istore rfl rfl rfl ?_
    refine zz_iincK 3 rfl rfl rfl rfl (by decide) ?_
    refine zz_goto rfl ?_
    refine zz_iload rfl rfl ?_
    refine zz_iconst rfl ?_
    refine zz_icmp_ge rfl (by omega) (by omega) (fun hb50 => ?_) (fun hb50 => absurd hb50 (by first | decide | omega))
    refine zz_iload rfl rfl ?_
    refine zz_iret rfl rfl (zret_q (by rw [zpq_dot]; unfold zbl; rw [if_neg h0]; rfl))
theorem ct_Mlow {v : Int} : Ct Z m_M_low 0 0 0 [zI v] h (zP (zI (zlo v)) h) := by
  refine zct rfl (by decide) ok_M_low rfl rfl ?_
  refine zz_iload_n rfl rfl ?_
  refine zz_i2s rfl ?_
  refine zz_iret rfl rfl ⟨rfl, rfl⟩
theorem zdown {x y : Int} (hy : 0 < y) : (x.tmod y < 0 → x / y = x.tdiv y - 1) ∧ (¬ x.tmod y < 0 → x / y = x.tdiv y) := by
  have h1 := Int.mul_tdiv_add_tmod x y
  have e : y * x.tdiv y = x.tdiv y * y := Int.mul_comm _ _
  have h2 := ztd (x := x) hy
  rcases Int.lt_or_le x 0 with hx | hx
  · constructor
    · intro h
      exact h2.2 hx (by omega)
    · intro h
      have h3 : x.tmod y ≤ 0 := by
        have h5 : x.tmod y = -((-x).tmod y) := by rw [Int.neg_tmod, Int.neg_neg]
        have h6 := Int.tmod_nonneg y (show 0 ≤ -x by omega)
        omega
      exact h2.1 hx (by omega)
  · have h3 := Int.tmod_nonneg y hx
    have h4 := Int.tdiv_eq_ediv_of_nonneg (b := y) hx
    constructor
    · intro h; omega
    · intro h; exact h4.symm
theorem ct_Mdown {x y : Int} (hx : zrg x) (hy : 0 < y ∧ y < 2147483648) : Ct Z m_M_down 0 0 0 [zI x, zI y] h (zP (zI (x / y)) h) := by
  have hd := zdown (x := x) hy.1
  have htr : zrg (x.tmod y) := by
    have h1 := Int.tmod_lt_of_pos x hy.1
    have h5 : x.tmod y = -((-x).tmod y) := by rw [Int.neg_tmod, Int.neg_neg]
    have h6 := Int.tmod_lt_of_pos (-x) hy.1
    exact ⟨by omega, by omega⟩
  refine zct rfl (by decide) ok_M_down rfl rfl ?_
  refine zz_iload_n rfl rfl ?_
  refine zz_iload_n rfl rfl ?_
  refine zz_irem rfl hx ⟨by omega, by omega⟩ (by omega) ?_
  refine zz_if_ge rfl htr (fun hb3 => ?_) (fun hb3 => ?_)
  · skip
    refine zz_iload_n rfl rfl ?_
    refine zz_iload_n rfl rfl ?_
    refine zz_idiv rfl hx ⟨by omega, by omega⟩ (by omega) ?_
    refine zz_iret rfl rfl (zret_e (hd.2 (by omega)).symm)
  · skip
    refine zz_iload_n rfl rfl ?_
    refine zz_iload_n rfl rfl ?_
    refine zz_idiv rfl hx ⟨by omega, by omega⟩ (by omega) ?_
    refine zz_iconst rfl ?_
    refine zz_isub rfl ?_
    refine zz_goto rfl ?_
    refine zz_iret rfl rfl (zret_e (hd.1 (by omega)).symm)
theorem ct_Mdist {a b : Int} (ha : -1000000 ≤ a ∧ a ≤ 1000000) (hb : -1000000 ≤ b ∧ b ≤ 1000000) : Ct Z m_M_distance 0 0 0 [zI a, zI b] h (zP (zI (zab (a - b))) h) := by
  refine zct rfl (by decide) ok_M_distance rfl rfl ?_
  refine zz_iload_n rfl rfl ?_
  refine zz_iload_n rfl rfl ?_
  refine zz_icmp_le rfl (by omega) (by omega) (fun hb2 => ?_) (fun hb2 => ?_)
  · skip
    refine zz_iload_n rfl rfl ?_
    refine zz_iload_n rfl rfl ?_
    refine zz_isub rfl ?_
    refine zz_iret rfl rfl (zret_e (by unfold zab; split <;> omega))
  · skip
    refine zz_iload_n rfl rfl ?_
    refine zz_iload_n rfl rfl ?_
    refine zz_isub rfl ?_
    refine zz_goto rfl ?_
    refine zz_iret rfl rfl (zret_e (by unfold zab; split <;> omega))
theorem ct_Mshape {s x y w e : Int} (hs : 0 ≤ s ∧ s ≤ 1) (hx : -2000 ≤ x ∧ x ≤ 2000) (hy : -2000 ≤ y ∧ y ≤ 2000) (hw : 0 ≤ w ∧ w ≤ 1000) (he : 0 ≤ e ∧ e ≤ 1000) : Ct Z m_M_isInShape 0 0 0 [zI s, zI x, zI y, zI w, zI e] h (zP (zI (zb (zbox x y w e ∧ (s = 0 ∨ zel x y w e)))) h) := by
  refine zct rfl (by decide) ok_M_isInShape rfl rfl ?_
  refine zz_iload_n rfl rfl ?_
  refine zz_if_lt rfl (by omega) (fun hb1 => ?_) (fun hb1 => ?_)
  · skip
    refine zz_iconst rfl ?_
    refine zz_zret rfl rfl rfl (zret_f (fun h9 => absurd h9.1 (fun h8 => by have := h8.1; have := h8.2.1; have := h8.2.2.1; have := h8.2.2.2; omega)))
  · skip
    refine zz_iload_n rfl rfl ?_
    refine zz_iload_n rfl rfl ?_
    refine zz_icmp_ge rfl (by omega) (by omega) (fun hb6 => ?_) (fun hb6 => ?_)
    · skip
      refine zz_iconst rfl ?_
      refine zz_zret rfl rfl rfl (zret_f (fun h9 => absurd h9.1 (fun h8 => by have := h8.1; have := h8.2.1; have := h8.2.2.1; have := h8.2.2.2; omega)))
    · skip
      refine zz_iload_n rfl rfl ?_
      refine zz_if_lt rfl (by omega) (fun hb10 => ?_) (fun hb10 => ?_)
      · skip
        refine zz_iconst rfl ?_
        refine zz_zret rfl rfl rfl (zret_f (fun h9 => absurd h9.1 (fun h8 => by have := h8.1; have := h8.2.1; have := h8.2.2.1; have := h8.2.2.2; omega)))
      · skip
        refine zz_iload_n rfl rfl ?_
        refine zz_iload rfl rfl ?_
        refine zz_icmp_lt rfl (by omega) (by omega) (fun hb16 => ?_) (fun hb16 => ?_)
        · skip
          have hbx : zbox x y w e := ⟨by omega, by omega, by omega, by omega⟩
          have hr := zel_rg ⟨hbx.1, hbx.2.1⟩ ⟨hbx.2.2.1, hbx.2.2.2⟩ hw.2 he.2
          refine zz_ldc2 rfl cs_M_93 ?_
          refine zz_iload_n rfl rfl ?_
          refine zz_i2l rfl (by omega) ?_
          refine zz_lmul rfl ?_
          refine zz_lconst (z := 1) rfl (by decide) ?_
          refine zz_ladd rfl ?_
          refine zz_iload_n rfl rfl ?_
          refine zz_i2l rfl (by omega) ?_
          refine zz_lsub rfl ?_
          refine zz_lstore rfl rfl rfl ?_
          refine zz_ldc2 rfl cs_M_93 ?_
          refine zz_iload_n rfl rfl ?_
          refine zz_i2l rfl (by omega) ?_
          refine zz_lmul rfl ?_
          refine zz_lconst (z := 1) rfl (by decide) ?_
          refine zz_ladd rfl ?_
          refine zz_iload rfl rfl ?_
          refine zz_i2l rfl (by omega) ?_
          refine zz_lsub rfl ?_
          refine zz_lstore rfl rfl rfl ?_
          refine zz_iload_n rfl rfl ?_
          refine zz_i2l rfl (by omega) ?_
          refine zz_iload_n rfl rfl ?_
          refine zz_i2l rfl (by omega) ?_
          refine zz_lmul rfl ?_
          refine zz_lstore rfl rfl rfl ?_
          refine zz_iload rfl rfl ?_
          refine zz_i2l rfl (by omega) ?_
          refine zz_iload rfl rfl ?_
          refine zz_i2l rfl (by omega) ?_
          refine zz_lmul rfl ?_
          refine zz_lstore rfl rfl rfl ?_
          refine zz_iload_n rfl rfl ?_
          refine zz_if_eq rfl (by omega) (fun hb65 => ?_) (fun hb65 => ?_)
          · skip
            refine zz_iconst rfl ?_
            refine zz_goto rfl ?_
            refine zz_zret rfl rfl rfl (zret_t ⟨hbx, Or.inl hb65⟩)
          · skip
            refine zz_lload rfl rfl ?_
            refine zz_lload rfl rfl ?_
            refine zz_lmul rfl ?_
            refine zz_lload rfl rfl ?_
            refine zz_lmul rfl ?_
            refine zz_lload rfl rfl ?_
            refine zz_lload rfl rfl ?_
            refine zz_lmul rfl ?_
            refine zz_lload rfl rfl ?_
            refine zz_lmul rfl ?_
            refine zz_ladd rfl ?_
            refine zz_lload rfl rfl ?_
            refine zz_lload rfl rfl ?_
            refine zz_lmul rfl ?_
            refine zz_lcmp rfl (by omega) (by omega) ?_
            refine zz_if_gt rfl (by split; decide; split <;> decide) (fun hb91 => ?_) (fun hb91 => ?_)
            · skip
              refine zz_iconst rfl ?_
              refine zz_zret rfl rfl rfl (zret_f (fun h9 => by rcases h9.2 with h8 | h8; exact hb65 h8; exact absurd (zlcg.mp hb91) (by omega)))
            · skip
              refine zz_iconst rfl ?_
              refine zz_goto rfl ?_
              refine zz_zret rfl rfl rfl (zret_t ⟨hbx, Or.inr (Int.not_lt.mp (fun h9 => hb91 (zlcg.mpr h9)))⟩)
        · skip
          refine zz_iconst rfl ?_
          refine zz_zret rfl rfl rfl (zret_f (fun h9 => absurd h9.1 (fun h8 => by have := h8.1; have := h8.2.1; have := h8.2.2.1; have := h8.2.2.2; omega)))
theorem ct_Mhalf {n k : Int} (hn : 0 ≤ n ∧ n ≤ 1000) (hk : 0 ≤ k ∧ k ≤ 3) : Ct Z m_M_half 0 0 0 [zI n, zI k] h (zP (zI (zhv n k)) h) := by
  have hc : k = 0 ∨ k = 1 ∨ k = 2 ∨ k = 3 := by omega
  rcases hc with rfl | rfl | rfl | rfl
  · skip
    refine zct rfl (by decide) ok_M_half rfl rfl ?_
    refine zz_iload_n rfl rfl ?_
    refine zz_istore_n rfl rfl rfl ?_
    refine zz_iconst rfl ?_
    refine zz_istore_n rfl rfl rfl ?_
    refine zz_iload_n rfl rfl ?_
    refine zz_iload_n rfl rfl ?_
    refine zz_icmp_ge rfl (by omega) (by omega) (fun hb6 => ?_) (fun hb6 => absurd hb6 (by first | decide | omega))
    refine zz_iload_n rfl rfl ?_
    refine zz_iret rfl rfl (zret_e (by unfold zhv; show _ = (n + 1 - 1) / 1; omega))
  · skip
    refine zct rfl (by decide) ok_M_half rfl rfl ?_
    refine zz_iload_n rfl rfl ?_
    refine zz_istore_n rfl rfl rfl ?_
    refine zz_iconst rfl ?_
    refine zz_istore_n rfl rfl rfl ?_
    refine zz_iload_n rfl rfl ?_
    refine zz_iload_n rfl rfl ?_
    refine zz_icmp_ge rfl (by omega) (by omega) (fun hb6 => absurd hb6 (by first | decide | omega)) (fun hb6 => ?_)
    refine zz_iload_n rfl rfl ?_
    refine zz_iconst rfl ?_
    refine zz_iadd rfl ?_
    refine zz_iconst rfl ?_
    refine zz_idivP rfl (by omega) (by omega) ?_
    refine zz_istore_n rfl rfl rfl ?_
    refine zz_iincK 1 rfl rfl rfl rfl (by decide) ?_
    refine zz_goto rfl ?_
    refine zz_iload_n rfl rfl ?_
    refine zz_iload_n rfl rfl ?_
    refine zz_icmp_ge rfl (by omega) (by omega) (fun hb6 => ?_) (fun hb6 => absurd hb6 (by first | decide | omega))
    refine zz_iload_n rfl rfl ?_
    refine zz_iret rfl rfl (zret_e (by unfold zhv; show _ = (n + 2 - 1) / 2; omega))
  · skip
    refine zct rfl (by decide) ok_M_half rfl rfl ?_
    refine zz_iload_n rfl rfl ?_
    refine zz_istore_n rfl rfl rfl ?_
    refine zz_iconst rfl ?_
    refine zz_istore_n rfl rfl rfl ?_
    refine zz_iload_n rfl rfl ?_
    refine zz_iload_n rfl rfl ?_
    refine zz_icmp_ge rfl (by omega) (by omega) (fun hb6 => absurd hb6 (by first | decide | omega)) (fun hb6 => ?_)
    refine zz_iload_n rfl rfl ?_
    refine zz_iconst rfl ?_
    refine zz_iadd rfl ?_
    refine zz_iconst rfl ?_
    refine zz_idivP rfl (by omega) (by omega) ?_
    refine zz_istore_n rfl rfl rfl ?_
    refine zz_iincK 1 rfl rfl rfl rfl (by decide) ?_
    refine zz_goto rfl ?_
    refine zz_iload_n rfl rfl ?_
    refine zz_iload_n rfl rfl ?_
    refine zz_icmp_ge rfl (by omega) (by omega) (fun hb6 => absurd hb6 (by first | decide | omega)) (fun hb6 => ?_)
    refine zz_iload_n rfl rfl ?_
    refine zz_iconst rfl ?_
    refine zz_iadd rfl ?_
    refine zz_iconst rfl ?_
    refine zz_idivP rfl (by omega) (by omega) ?_
    refine zz_istore_n rfl rfl rfl ?_
    refine zz_iincK 2 rfl rfl rfl rfl (by decide) ?_
    refine zz_goto rfl ?_
    refine zz_iload_n rfl rfl ?_
    refine zz_iload_n rfl rfl ?_
    refine zz_icmp_ge rfl (by omega) (by omega) (fun hb6 => ?_) (fun hb6 => absurd hb6 (by first | decide | omega))
    refine zz_iload_n rfl rfl ?_
    refine zz_iret rfl rfl (zret_e (by unfold zhv; show _ = (n + 4 - 1) / 4; omega))
  · skip
    refine zct rfl (by decide) ok_M_half rfl rfl ?_
    refine zz_iload_n rfl rfl ?_
    refine zz_istore_n rfl rfl rfl ?_
    refine zz_iconst rfl ?_
    refine zz_istore_n rfl rfl rfl ?_
    refine zz_iload_n rfl rfl ?_
    refine zz_iload_n rfl rfl ?_
    refine zz_icmp_ge rfl (by omega) (by omega) (fun hb6 => absurd hb6 (by first | decide | omega)) (fun hb6 => ?_)
    refine zz_iload_n rfl rfl ?_
    refine zz_iconst rfl ?_
    refine zz_iadd rfl ?_
    refine zz_iconst rfl ?_
    refine zz_idivP rfl (by omega) (by omega) ?_
    refine zz_istore_n rfl rfl rfl ?_
    refine zz_iincK 1 rfl rfl rfl rfl (by decide) ?_
    refine zz_goto rfl ?_
    refine zz_iload_n rfl rfl ?_
    refine zz_iload_n rfl rfl ?_
    refine zz_icmp_ge rfl (by omega) (by omega) (fun hb6 => absurd hb6 (by first | decide | omega)) (fun hb6 => ?_)
    refine zz_iload_n rfl rfl ?_
    refine zz_iconst rfl ?_
    refine zz_iadd rfl ?_
    refine zz_iconst rfl ?_
    refine zz_idivP rfl (by omega) (by omega) ?_
    refine zz_istore_n rfl rfl rfl ?_
    refine zz_iincK 2 rfl rfl rfl rfl (by decide) ?_
    refine zz_goto rfl ?_
    refine zz_iload_n rfl rfl ?_
    refine zz_iload_n rfl rfl ?_
    refine zz_icmp_ge rfl (by omega) (by omega) (fun hb6 => absurd hb6 (by first | decide | omega)) (fun hb6 => ?_)
    refine zz_iload_n rfl rfl ?_
    refine zz_iconst rfl ?_
    refine zz_iadd rfl ?_
    refine zz_iconst rfl ?_
    refine zz_idivP rfl (by omega) (by omega) ?_
    refine zz_istore_n rfl rfl rfl ?_
    refine zz_iincK 3 rfl rfl rfl rfl (by decide) ?_
    refine zz_goto rfl ?_
    refine zz_iload_n rfl rfl ?_
    refine zz_iload_n rfl rfl ?_
    refine zz_icmp_ge rfl (by omega) (by omega) (fun hb6 => ?_) (fun hb6 => absurd hb6 (by first | decide | omega))
    refine zz_iload_n rfl rfl ?_
    refine zz_iret rfl rfl (zret_e (by unfold zhv; show _ = (n + 8 - 1) / 8; omega))
theorem ct_Mw {A : Nat → Nat} {X : MX} (hA : mOk A) {n w ht : Nat} {R : Nat → Nat} (hc : mc X n w ht R) : Ct Z m_M_w 0 0 0 [.ref (A 0)] (mH h A X) (zP (zI w) (mH h A X)) := by
  refine zct rfl (by decide) ok_M_w rfl rfl ?_
  refine zz_aload_n rfl rfl ?_
  refine zz_getf rfl fl_M_29 (m0 hA) rfl ?_
  refine zz_aload_n rfl rfl ?_
  refine zz_getf rfl fl_M_58 (m0 hA) rfl ?_
  refine zz_eq hc.1 ?_
  refine zz_iald rfl (m6 hA) (by decide) ⟨by omega, by have := hc.2.1; omega⟩ ?_
  refine zz_iret rfl rfl (zret_e hc.2.2.1)
theorem ct_Mh {A : Nat → Nat} {X : MX} (hA : mOk A) {n w ht : Nat} {R : Nat → Nat} (hc : mc X n w ht R) : Ct Z m_M_h 0 0 0 [.ref (A 0)] (mH h A X) (zP (zI ht) (mH h A X)) := by
  refine zct rfl (by decide) ok_M_h rfl rfl ?_
  refine zz_aload_n rfl rfl ?_
  refine zz_getf rfl fl_M_32 (m0 hA) rfl ?_
  refine zz_aload_n rfl rfl ?_
  refine zz_getf rfl fl_M_58 (m0 hA) rfl ?_
  refine zz_eq hc.1 ?_
  refine zz_iald rfl (m7 hA) (by decide) ⟨by omega, by have := hc.2.1; omega⟩ ?_
  refine zz_iret rfl rfl (zret_e hc.2.2.2.1)
theorem ct_Mthrown {A : Nat → Nat} {X : MX} (hA : mOk A) : Ct Z m_M_thrown 0 0 0 [.ref (A 0)] (mH h A X) (zP (zI (X.1 0)) (mH h A X)) := by
  refine zct rfl (by decide) ok_M_thrown rfl rfl ?_
  refine zz_aload_n rfl rfl ?_
  refine zz_getf rfl fl_M_50 (m0 hA) rfl ?_
  refine zz_iret rfl rfl ⟨rfl, rfl⟩
theorem ct_Mrefuse1 {A : Nat → Nat} {X : MX} (hA : mOk A) : Ct Z m_M_refuse 0 0 0 [.ref (A 0), zI 1] (mH h A X) (fun r h' => r = .inl (some (zI 1)) ∧ h' = mH h A (mS X 0 1)) := by
  refine zct rfl (by decide) ok_M_refuse rfl rfl ?_
  refine zz_aload_n rfl rfl ?_
  refine zz_iload_n rfl rfl ?_
  refine zz_if_eq rfl (by omega) (fun hb2 => absurd hb2 (by first | decide | omega)) (fun hb2 => ?_)
  refine zz_iconst rfl ?_
  refine zz_goto rfl ?_
  refine zz_putf rfl fl_M_50 (m0 hA) (pt_1_0 rfl rfl) (zblt rfl) ?_
  refine Ev.heap (ws0 hA) ?_
  refine zz_iload_n rfl rfl ?_
  refine zz_zret rfl rfl rfl ⟨rfl, rfl⟩
theorem ct_Mrefuse0 {A : Nat → Nat} {X : MX} (hA : mOk A) : Ct Z m_M_refuse 0 0 0 [.ref (A 0), zI 0] (mH h A X) (fun r h' => r = .inl (some (zI 0)) ∧ h' = mH h A (mS X 0 0)) := by
  refine zct rfl (by decide) ok_M_refuse rfl rfl ?_
  refine zz_aload_n rfl rfl ?_
  refine zz_iload_n rfl rfl ?_
  refine zz_if_eq rfl (by omega) (fun hb2 => ?_) (fun hb2 => absurd hb2 (by first | decide | omega))
  refine zz_iconst rfl ?_
  refine zz_putf rfl fl_M_50 (m0 hA) (pt_1_0 rfl rfl) (zblt rfl) ?_
  refine Ev.heap (ws0 hA) ?_
  refine zz_iload_n rfl rfl ?_
  refine zz_zret rfl rfl rfl ⟨rfl, rfl⟩
theorem ct_Mat {A : Nat → Nat} {X : MX} (hA : mOk A) {n : Nat} (hn : X.1 4 = (n : Int)) {l x y : Int} : Ct Z m_M_at 0 0 0 [.ref (A 0), zI l, zI x, zI y] (mH h A X) (zP (zI (1728 * (n : Int) + 576 * l + 24 * y + x)) (mH h A X)) := by
  refine zct rfl (by decide) ok_M_at rfl rfl ?_
  refine zz_sipush rfl (by decide) ?_
  refine zz_aload_n rfl rfl ?_
  refine zz_getf rfl fl_M_58 (m0 hA) rfl ?_
  refine zz_eq hn ?_
  refine zz_imul rfl ?_
  refine zz_sipush rfl (by decide) ?_
  refine zz_iload_n rfl rfl ?_
  refine zz_imul rfl ?_
  refine zz_iadd rfl ?_
  refine zz_bipush rfl (by decide) ?_
  refine zz_iload_n rfl rfl ?_
  refine zz_imul rfl ?_
  refine zz_iadd rfl ?_
  refine zz_iload_n rfl rfl ?_
  refine zz_iadd rfl ?_
  refine zz_iret rfl rfl ⟨rfl, rfl⟩
theorem ct_Mchosen {A : Nat → Nat} {X : MX} (hA : mOk A) {n w ht : Nat} {R : Nat → Nat} (hc : mc X n w ht R) {x y : Nat} (hx : x < w) (hy : y < ht) : Ct Z m_M_isChosen 0 0 0 [.ref (A 0), zI x, zI y] (mH h A X) (zP (zI (zb ((R y).testBit x = true))) (mH h A X)) := by
  have ze : (R y).testBit x = true ↔ (R y : Int) / 2 ^ ((x : Nat) : Int).toNat % 2 = 1 := by
    rw [zbit_div]
    have e : ((R y : Nat) : Int) / 2 ^ ((x : Nat) : Int).toNat % 2 = ((R y / 2 ^ x % 2 : Nat) : Int) := by
      show (R y : Int) / 2 ^ x % 2 = _
      simp
    rw [e]
    omega
  refine zct rfl (by decide) ok_M_isChosen rfl rfl ?_
  refine zz_aload_n rfl rfl ?_
  refine zz_getf rfl fl_M_13 (m0 hA) rfl ?_
  refine zz_bipush rfl (by decide) ?_
  refine zz_aload_n rfl rfl ?_
  refine zz_getf rfl fl_M_58 (m0 hA) rfl ?_
  refine zz_eq hc.1 ?_
  refine zz_imul rfl ?_
  refine zz_iload_n rfl rfl ?_
  refine zz_iadd rfl ?_
  refine zz_iald rfl (m2 hA) (by decide) ⟨by omega, by have := hc.2.1; have := hc.2.2.2.2.1; omega⟩ ?_
  refine zz_eq (show X.2.1 2 (24 * (n : Int) + (y : Int)).toNat = (R y : Int) from by rw [show (24 * (n : Int) + (y : Int)).toNat = 24 * n + y by omega]; exact (hc.2.2.2.2.2 y hy).1) ?_
  refine zz_iload_n rfl rfl ?_
  refine zz_ishr rfl ⟨by omega, by have := (hc.2.2.2.2.2 y hy).2; omega⟩ ⟨by omega, by have := hc.2.2.2.2.1; omega⟩ ?_
  refine zz_iconst rfl ?_
  refine zz_iand rfl (zq_m1 _) ?_
  refine zz_iconst rfl ?_
  refine zz_icmp_ne rfl ⟨by omega, by omega⟩ ⟨by decide, by decide⟩ (fun hb19 => ?_) (fun hb19 => ?_)
  · skip
    refine zz_iconst rfl ?_
    refine zz_zret rfl rfl rfl (zret_f (fun h9 => hb19 (ze.mp h9)))
  · skip
    refine zz_iconst rfl ?_
    refine zz_goto rfl ?_
    refine zz_zret rfl rfl rfl (zret_t (ze.mpr hb19))
theorem ct_MisLayer {A : Nat → Nat} {X : MX} (hA : mOk A) {S : SS} (hM : mrel X S) (hk : okS S) {l : Int} (hl : zrg l) : Ct Z m_M_isLayer 1 0 0 [.ref (A 0), zI l] (mH h A X) (zP (zI (zb (sLy S l))) (mH h A X)) := by
  rcases zbool (sHas S) with hh | hh
  · have h1 : X.1 1 = 0 := by have h9 := hM.1; rw [hh] at h9; exact h9
    refine zct rfl (by decide) ok_M_isLayer rfl rfl ?_
    refine zz_aload_n rfl rfl ?_
    refine zz_getf rfl fl_M_67 (m0 hA) rfl ?_
    refine zz_eq h1 ?_
    refine zz_if_eq rfl ⟨by decide, by decide⟩ (fun hb4 => ?_) (fun hb4 => absurd hb4 (by omega))
    refine zz_iconst rfl ?_
    refine zz_zret rfl rfl rfl (zret_f (fun h9 => by have h8 := h9.1; rw [hh] at h8; cases h8))
  · have h1 : X.1 1 = 1 := by have h9 := hM.1; rw [hh] at h9; exact h9
    have hc := hM.mc hk hh
    obtain ⟨k1, k2, k3⟩ := hk.1 hh
    have hP := k3 _ k1
    have hn : X.2.1 5 (sNow S) = (sn (sCur S) : Int) := (hM.2.2.2.2.2.2.2.1 hh _ k1).2.2.1
    have hn3 : sn (sCur S) ≤ 3 := hP.2.2.1.2
    refine zct rfl (by decide) ok_M_isLayer rfl rfl ?_
    refine zz_aload_n rfl rfl ?_
    refine zz_getf rfl fl_M_67 (m0 hA) rfl ?_
    refine zz_eq h1 ?_
    refine zz_if_eq rfl ⟨by decide, by decide⟩ (fun hb4 => absurd hb4 (by omega)) (fun hb4 => ?_)
    refine zz_iload_n rfl rfl ?_
    refine zz_iconst rfl ?_
    refine zz_aload_n rfl rfl ?_
    refine zz_getf rfl fl_M_26 (m0 hA) rfl ?_
    refine zz_aload_n rfl rfl ?_
    refine zz_getf rfl fl_M_58 (m0 hA) rfl ?_
    refine zz_eq hc.1 ?_
    refine zz_iald rfl (m5 hA) (by decide) ⟨by omega, by omega⟩ ?_
    refine zz_eq hn ?_
    refine zz_iconst rfl ?_
    refine zz_isub rfl ?_
    refine zz_Sp rfl lk_M_71 cw_M_in (ct_Min hl ⟨by decide, by decide⟩ ⟨by omega, by omega⟩) rfl rfl rfl rfl ?_
    refine zz_ifB_eq rfl (fun hb23 => ?_) (fun hb23 => ?_)
    · skip
      refine zz_iconst rfl ?_
      refine zz_zret rfl rfl rfl (zret_f (fun h9 => hb23 ⟨h9.2.1, by have := h9.2.2; omega⟩))
    · skip
      refine zz_iconst rfl ?_
      refine zz_goto rfl ?_
      refine zz_zret rfl rfl rfl (zret_t ⟨hh, hb23.1, by have := hb23.2; omega⟩)
theorem ct_Mput {A : Nat → Nat} {X : MX} (hA : mOk A) {n w ht : Nat} {R : Nat → Nat} (hc : mc X n w ht R) {l d : Int} {x y : Nat} (hx : x < w) (hy : y < ht) (hl : 0 ≤ l ∧ l < 3) : Ct Z m_M_put 1 0 0 [.ref (A 0), zI l, zI x, zI y, zI d] (mH h A X) (zV (mH h A (if (R y).testBit x = true then mF X 1 (zup (X.2.1 1) (1728 * n + 576 * l.toNat + 24 * y + x) d) else X))) := by
  refine zct rfl (by decide) ok_M_put rfl rfl ?_
  refine zz_aload_n rfl rfl ?_
  refine zz_iload_n rfl rfl ?_
  refine zz_iload_n rfl rfl ?_
  refine zz_Vp rfl lk_M_110 cw_M_isChosen rfl (m0 hA) (ct_Mchosen hA hc hx hy) rfl rfl rfl rfl ?_
  refine zz_ifB_eq rfl (fun hb6 => ?_) (fun hb6 => ?_)
  · skip
    refine zz_vret rfl rfl ⟨rfl, by rw [if_neg hb6]⟩
  · skip
    refine zz_aload_n rfl rfl ?_
    refine zz_getf rfl fl_M_7 (m0 hA) rfl ?_
    refine zz_aload_n rfl rfl ?_
    refine zz_iload_n rfl rfl ?_
    refine zz_iload_n rfl rfl ?_
    refine zz_iload_n rfl rfl ?_
    refine zz_Vp rfl lk_M_132 cw_M_at rfl (m0 hA) (ct_Mat hA hc.1) rfl rfl rfl rfl ?_
    refine zz_iload rfl rfl ?_
    refine zz_iast rfl (m1 hA) (by decide) ⟨by omega, by have := hc.2.1; have := hc.2.2.2.2.1; omega⟩ ?_
    refine Ev.heap (w1 hA) ?_
    refine zz_vret rfl rfl ⟨rfl, by rw [if_pos hb6, show (1728 * (n : Int) + 576 * l + 24 * (y : Int) + (x : Int)).toNat = 1728 * n + 576 * l.toNat + 24 * y + x by omega]⟩
end ML
