section DT
variable {Z : ZC} {h : ZH}
theorem ct_byteOf {d c : Int} (hc : 0 ≤ c ∧ c ≤ 3) : Ct Z m_Dots_byteOf 0 0 0 [zI d, zI c] h (zP (zI (zby d c)) h) := by
  refine zct rfl (by decide) ok_Dots_byteOf rfl rfl ?_
  refine zz_iload_n rfl rfl ?_
  refine zz_bipush rfl (by decide) ?_
  refine zz_bipush rfl (by decide) ?_
  refine zz_iload_n rfl rfl ?_
  refine zz_imul rfl ?_
  refine zz_isub rfl ?_
  refine zz_iushr rfl (by omega) ?_
  refine zz_sipush rfl (by decide) ?_
  refine zz_iand rfl (zq_m255 _) ?_
  refine zz_iret rfl rfl (zret_e (zby_u hc))
theorem ct_placed {v c : Int} (hc : 0 ≤ c ∧ c ≤ 3) : Ct Z m_Dots_placed 0 0 0 [zI v, zI c] h (zP (zI (v * 2 ^ (24 - 8 * c).toNat)) h) := by
  refine zct rfl (by decide) ok_Dots_placed rfl rfl ?_
  refine zz_iload_n rfl rfl ?_
  refine zz_bipush rfl (by decide) ?_
  refine zz_bipush rfl (by decide) ?_
  refine zz_iload_n rfl rfl ?_
  refine zz_imul rfl ?_
  refine zz_isub rfl ?_
  refine zz_ishl rfl (by omega) ?_
  refine zz_iret rfl rfl ⟨rfl, rfl⟩
theorem ct_div {v : Int} (hv : 0 ≤ v ∧ v ≤ 100000) : Ct Z m_Dots_div 0 0 0 [zI v] h (zP (zI (zdv v)) h) := by
  refine zct rfl (by decide) ok_Dots_div rfl rfl ?_
  refine zz_iload_n rfl rfl ?_
  refine zz_bipush rfl (by decide) ?_
  refine zz_iadd rfl ?_
  refine zz_sipush rfl (by decide) ?_
  refine zz_idivP rfl (by omega) (by omega) ?_
  refine zz_iret rfl rfl ⟨rfl, rfl⟩
theorem ct_covered {d c : Int} (hc : 0 ≤ c ∧ c ≤ 3) : Ct Z m_Dots_covered 1 0 0 [zI d, zI c] h (zP (zI (zby d 3 * zby d c)) h) := by
  refine zct rfl (by decide) ok_Dots_covered rfl rfl ?_
  refine zz_iload_n rfl rfl ?_
  refine zz_iconst rfl ?_
  refine zz_Sp rfl lk_Dots_9 cw_Dots_byteOf (ct_byteOf (by omega)) rfl rfl rfl rfl ?_
  refine zz_iload_n rfl rfl ?_
  refine zz_iload_n rfl rfl ?_
  refine zz_Sp rfl lk_Dots_9 cw_Dots_byteOf (ct_byteOf (by omega)) rfl rfl rfl rfl ?_
  refine zz_imul rfl ?_
  refine zz_iret rfl rfl ⟨rfl, rfl⟩
theorem ct_mixed {s b m : Int} (hs : 0 ≤ s ∧ s ≤ 255) (hb : 0 ≤ b ∧ b ≤ 255) (hm : 0 ≤ m ∧ m ≤ 5) : Ct Z m_Dots_mixed 1 0 0 [zI s, zI b, zI m] h (zP (zI (zmx m s b)) h) := by
  have hsb := zmulb hs hb
  have hc : m = 0 ∨ m = 1 ∨ m = 2 ∨ m = 3 ∨ m = 4 ∨ m = 5 := by omega
  rcases hc with rfl | rfl | rfl | rfl | rfl | rfl
  · refine zct rfl (by decide) ok_Dots_mixed rfl rfl ?_
    refine zz_iload_n rfl rfl ?_
    refine zz_tswD (tg := 76) rfl (by decide) (by decide) rfl ?_
    refine zz_iload_n rfl rfl ?_
    refine zz_iret rfl rfl (zret_e (by simp [zmx]))
  · refine zct rfl (by decide) ok_Dots_mixed rfl rfl ?_
    refine zz_iload_n rfl rfl ?_
    refine zz_tsw (tg := 36) rfl (by decide) (by decide) (by decide) rfl rfl ?_
    refine zz_iload_n rfl rfl ?_
    refine zz_iload_n rfl rfl ?_
    refine zz_imul rfl ?_
    refine zz_Sp rfl lk_Dots_27 cw_Dots_div (ct_div (by omega)) rfl rfl rfl rfl ?_
    refine zz_iret rfl rfl (zret_e (by simp [zmx]))
  · refine zct rfl (by decide) ok_Dots_mixed rfl rfl ?_
    refine zz_iload_n rfl rfl ?_
    refine zz_tsw (tg := 43) rfl (by decide) (by decide) (by decide) rfl rfl ?_
    refine zz_iload_n rfl rfl ?_
    refine zz_iload_n rfl rfl ?_
    refine zz_iadd rfl ?_
    refine zz_iload_n rfl rfl ?_
    refine zz_iload_n rfl rfl ?_
    refine zz_imul rfl ?_
    refine zz_Sp rfl lk_Dots_27 cw_Dots_div (ct_div (by omega)) rfl rfl rfl rfl ?_
    refine zz_isub rfl ?_
    refine zz_iret rfl rfl (zret_e (by simp [zmx]))
  · refine zct rfl (by decide) ok_Dots_mixed rfl rfl ?_
    refine zz_iload_n rfl rfl ?_
    refine zz_tsw (tg := 54) rfl (by decide) (by decide) (by decide) rfl rfl ?_
    refine zz_iload_n rfl rfl ?_
    refine zz_iload_n rfl rfl ?_
    refine zz_mmin rfl mt_Dots_34 rfl (by omega) (by omega) ?_
    refine zz_iret rfl rfl (zret_e (by simp [zmx]))
  · refine zct rfl (by decide) ok_Dots_mixed rfl rfl ?_
    refine zz_iload_n rfl rfl ?_
    refine zz_tsw (tg := 60) rfl (by decide) (by decide) (by decide) rfl rfl ?_
    refine zz_iload_n rfl rfl ?_
    refine zz_iload_n rfl rfl ?_
    refine zz_mmax rfl mt_Dots_37 rfl (by omega) (by omega) ?_
    refine zz_iret rfl rfl (zret_e (by simp [zmx]))
  · refine zct rfl (by decide) ok_Dots_mixed rfl rfl ?_
    refine zz_iload_n rfl rfl ?_
    refine zz_tsw (tg := 66) rfl (by decide) (by decide) (by decide) rfl rfl ?_
    refine zz_sipush rfl (by decide) ?_
    refine zz_iload_n rfl rfl ?_
    refine zz_iload_n rfl rfl ?_
    refine zz_iadd rfl ?_
    refine zz_mmin rfl mt_Dots_34 rfl (by omega) (by omega) ?_
    refine zz_iret rfl rfl (zret_e (by simp [zmx]))
theorem zab_rg (p q k : Int) : 0 ≤ zab (zby p k - zby q k) ∧ zab (zby p k - zby q k) ≤ 255 := by
  have h1 := zby_rg p k
  have h2 := zby_rg q k
  unfold zab
  split <;> omega
theorem ct_areAlike {p q t : Int} (ht : 0 ≤ t ∧ t ≤ 255) : Ct Z m_Dots_areAlike 1 0 0 [zI p, zI q, zI t] h (zP (zI (zb (zak p q t))) h) := by
  refine zct rfl (by decide) ok_Dots_areAlike rfl rfl ?_
  refine zz_iconst rfl ?_
  refine zz_istore_n rfl rfl rfl ?_
  refine zz_iload_n rfl rfl ?_
  refine zz_iconst rfl ?_
  refine zz_icmp_ge rfl (by omega) (by omega) (fun hb4 => absurd hb4 (by first | decide | omega)) (fun hb4 => ?_)
  refine zz_iload_n rfl rfl ?_
  refine zz_iload_n rfl rfl ?_
  refine zz_Sp rfl lk_Dots_9 cw_Dots_byteOf (ct_byteOf (by omega)) rfl rfl rfl rfl ?_
  refine zz_iload_n rfl rfl ?_
  refine zz_iload_n rfl rfl ?_
  refine zz_Sp rfl lk_Dots_9 cw_Dots_byteOf (ct_byteOf (by omega)) rfl rfl rfl rfl ?_
  refine zz_isub rfl ?_
  refine zz_mabs rfl mt_Dots_15 rfl (by have := zby_rg p 0; have := zby_rg p 1; have := zby_rg p 2; have := zby_rg p 3; have := zby_rg q 0; have := zby_rg q 1; have := zby_rg q 2; have := zby_rg q 3; omega) ?_
  refine zz_eq (show _ = zab (zby p 0 - zby q 0) from rfl) ?_
  have ha0 := zab_rg p q 0
  refine zz_iload_n rfl rfl ?_
  have hk0 : True := trivial
  refine zz_icmp_le rfl (by omega) (by omega) (fun hb22 => ?_) (fun hb22 => ?_)
  · skip
    have hq0 := hb22
    refine zz_iincK 1 rfl rfl rfl rfl (by decide) ?_
    refine zz_goto rfl ?_
    refine zz_iload_n rfl rfl ?_
    refine zz_iconst rfl ?_
    refine zz_icmp_ge rfl (by omega) (by omega) (fun hb4 => absurd hb4 (by first | decide | omega)) (fun hb4 => ?_)
    refine zz_iload_n rfl rfl ?_
    refine zz_iload_n rfl rfl ?_
    refine zz_Sp rfl lk_Dots_9 cw_Dots_byteOf (ct_byteOf (by omega)) rfl rfl rfl rfl ?_
    refine zz_iload_n rfl rfl ?_
    refine zz_iload_n rfl rfl ?_
    refine zz_Sp rfl lk_Dots_9 cw_Dots_byteOf (ct_byteOf (by omega)) rfl rfl rfl rfl ?_
    refine zz_isub rfl ?_
    refine zz_mabs rfl mt_Dots_15 rfl (by have := zby_rg p 0; have := zby_rg p 1; have := zby_rg p 2; have := zby_rg p 3; have := zby_rg q 0; have := zby_rg q 1; have := zby_rg q 2; have := zby_rg q 3; omega) ?_
    refine zz_eq (show _ = zab (zby p 1 - zby q 1) from rfl) ?_
    have ha1 := zab_rg p q 1
    refine zz_iload_n rfl rfl ?_
    have hk1 : True := trivial
    refine zz_icmp_le rfl (by omega) (by omega) (fun hb22 => ?_) (fun hb22 => ?_)
    · skip
      have hq1 := hb22
      refine zz_iincK 2 rfl rfl rfl rfl (by decide) ?_
      refine zz_goto rfl ?_
      refine zz_iload_n rfl rfl ?_
      refine zz_iconst rfl ?_
      refine zz_icmp_ge rfl (by omega) (by omega) (fun hb4 => absurd hb4 (by first | decide | omega)) (fun hb4 => ?_)
      refine zz_iload_n rfl rfl ?_
      refine zz_iload_n rfl rfl ?_
      refine zz_Sp rfl lk_Dots_9 cw_Dots_byteOf (ct_byteOf (by omega)) rfl rfl rfl rfl ?_
      refine zz_iload_n rfl rfl ?_
      refine zz_iload_n rfl rfl ?_
      refine zz_Sp rfl lk_Dots_9 cw_Dots_byteOf (ct_byteOf (by omega)) rfl rfl rfl rfl ?_
      refine zz_isub rfl ?_
      refine zz_mabs rfl mt_Dots_15 rfl (by have := zby_rg p 0; have := zby_rg p 1; have := zby_rg p 2; have := zby_rg p 3; have := zby_rg q 0; have := zby_rg q 1; have := zby_rg q 2; have := zby_rg q 3; omega) ?_
      refine zz_eq (show _ = zab (zby p 2 - zby q 2) from rfl) ?_
      have ha2 := zab_rg p q 2
      refine zz_iload_n rfl rfl ?_
      have hk2 : True := trivial
      refine zz_icmp_le rfl (by omega) (by omega) (fun hb22 => ?_) (fun hb22 => ?_)
      · skip
        have hq2 := hb22
        refine zz_iincK 3 rfl rfl rfl rfl (by decide) ?_
        refine zz_goto rfl ?_
        refine zz_iload_n rfl rfl ?_
        refine zz_iconst rfl ?_
        refine zz_icmp_ge rfl (by omega) (by omega) (fun hb4 => absurd hb4 (by first | decide | omega)) (fun hb4 => ?_)
        refine zz_iload_n rfl rfl ?_
        refine zz_iload_n rfl rfl ?_
        refine zz_Sp rfl lk_Dots_9 cw_Dots_byteOf (ct_byteOf (by omega)) rfl rfl rfl rfl ?_
        refine zz_iload_n rfl rfl ?_
        refine zz_iload_n rfl rfl ?_
        refine zz_Sp rfl lk_Dots_9 cw_Dots_byteOf (ct_byteOf (by omega)) rfl rfl rfl rfl ?_
        refine zz_isub rfl ?_
        refine zz_mabs rfl mt_Dots_15 rfl (by have := zby_rg p 0; have := zby_rg p 1; have := zby_rg p 2; have := zby_rg p 3; have := zby_rg q 0; have := zby_rg q 1; have := zby_rg q 2; have := zby_rg q 3; omega) ?_
        refine zz_eq (show _ = zab (zby p 3 - zby q 3) from rfl) ?_
        have ha3 := zab_rg p q 3
        refine zz_iload_n rfl rfl ?_
        have hk3 : True := trivial
        refine zz_icmp_le rfl (by omega) (by omega) (fun hb22 => ?_) (fun hb22 => ?_)
        · skip
          have hq3 := hb22
          refine zz_iincK 4 rfl rfl rfl rfl (by decide) ?_
          refine zz_goto rfl ?_
          refine zz_iload_n rfl rfl ?_
          refine zz_iconst rfl ?_
          refine zz_icmp_ge rfl (by omega) (by omega) (fun hb4 => ?_) (fun hb4 => absurd hb4 (by first | decide | omega))
          refine zz_iconst rfl ?_
          refine zz_zret rfl rfl rfl (zret_t ⟨hq0, hq1, hq2, hq3⟩)
        · skip
          refine zz_iconst rfl ?_
          exact zz_zret rfl rfl rfl (zret_f (fun h9 => hb22 h9.2.2.2))
      · skip
        refine zz_iconst rfl ?_
        exact zz_zret rfl rfl rfl (zret_f (fun h9 => hb22 h9.2.2.1))
    · skip
      refine zz_iconst rfl ?_
      exact zz_zret rfl rfl rfl (zret_f (fun h9 => hb22 h9.2.1))
  · skip
    refine zz_iconst rfl ?_
    exact zz_zret rfl rfl rfl (zret_f (fun h9 => hb22 h9.1))
theorem ct_between {f l k n : Int} (hk : 0 ≤ k ∧ k ≤ n) (hn : n ≤ 1000) : Ct Z m_Dots_between 1 0 0 [zI f, zI l, zI k, zI n] h (zP (zI (zbt f l k n)) h) := by
  refine zct rfl (by decide) ok_Dots_between rfl rfl ?_
  refine zz_iload_n rfl rfl ?_
  refine zz_if_ne rfl (by omega) (fun hb1 => ?_) (fun hb1 => ?_)
  · skip
    refine zz_iconst rfl ?_
    refine zz_eq (show (0 : Int) = zpq 0 0 0 0 from by decide) ?_
    have hn0 : 0 < n := by omega
    refine zz_istore rfl rfl rfl ?_
    refine zz_iconst rfl ?_
    refine zz_istore rfl rfl rfl ?_
    refine zz_iload rfl rfl ?_
    refine zz_iconst rfl ?_
    refine zz_icmp_ge rfl (by omega) (by omega) (fun hb15 => absurd hb15 (by first | decide | omega)) (fun hb15 => ?_)
    refine zz_iload_n rfl rfl ?_
    refine zz_iload rfl rfl ?_
    refine zz_Sp rfl lk_Dots_9 cw_Dots_byteOf (ct_byteOf (by omega)) rfl rfl rfl rfl ?_
    refine zz_iload_n rfl rfl ?_
    refine zz_iload_n rfl rfl ?_
    refine zz_isub rfl ?_
    refine zz_imul rfl ?_
    refine zz_iload_n rfl rfl ?_
    refine zz_iload rfl rfl ?_
    refine zz_Sp rfl lk_Dots_9 cw_Dots_byteOf (ct_byteOf (by omega)) rfl rfl rfl rfl ?_
    refine zz_iload_n rfl rfl ?_
    refine zz_imul rfl ?_
    refine zz_iadd rfl ?_
    refine zz_istore rfl rfl rfl ?_
    have g0 := zgc_rg (f := f) (l := l) (k := k) (n := n) 0 hk ⟨hn0, by omega⟩
    refine zz_iload rfl rfl ?_
    refine zz_iload rfl rfl ?_
    refine zz_iload_n rfl rfl ?_
    refine zz_iconst rfl ?_
    refine zz_idivP rfl (by omega) (by omega) ?_
    refine zz_iadd rfl ?_
    refine zz_iload_n rfl rfl ?_
    refine zz_idivP rfl (by omega) (by omega) ?_
    refine zz_iload rfl rfl ?_
    refine zz_Sp rfl lk_Dots_21 cw_Dots_placed (ct_placed (by omega)) rfl rfl rfl rfl ?_
    refine zz_ior rfl (zo_a ⟨g0.1, g0.2.1⟩ (by decide) (by decide) (by decide)) ?_
    refine zz_istore rfl rfl rfl ?_
    refine zz_iincK 1 rfl rfl rfl rfl (by decide) ?_
    refine zz_goto rfl ?_
    refine zz_iload rfl rfl ?_
    refine zz_iconst rfl ?_
    refine zz_icmp_ge rfl (by omega) (by omega) (fun hb15 => absurd hb15 (by first | decide | omega)) (fun hb15 => ?_)
    refine zz_iload_n rfl rfl ?_
    refine zz_iload rfl rfl ?_
    refine zz_Sp rfl lk_Dots_9 cw_Dots_byteOf (ct_byteOf (by omega)) rfl rfl rfl rfl ?_
    refine zz_iload_n rfl rfl ?_
    refine zz_iload_n rfl rfl ?_
    refine zz_isub rfl ?_
    refine zz_imul rfl ?_
    refine zz_iload_n rfl rfl ?_
    refine zz_iload rfl rfl ?_
    refine zz_Sp rfl lk_Dots_9 cw_Dots_byteOf (ct_byteOf (by omega)) rfl rfl rfl rfl ?_
    refine zz_iload_n rfl rfl ?_
    refine zz_imul rfl ?_
    refine zz_iadd rfl ?_
    refine zz_istore rfl rfl rfl ?_
    have g1 := zgc_rg (f := f) (l := l) (k := k) (n := n) 1 hk ⟨hn0, by omega⟩
    refine zz_iload rfl rfl ?_
    refine zz_iload rfl rfl ?_
    refine zz_iload_n rfl rfl ?_
    refine zz_iconst rfl ?_
    refine zz_idivP rfl (by omega) (by omega) ?_
    refine zz_iadd rfl ?_
    refine zz_iload_n rfl rfl ?_
    refine zz_idivP rfl (by omega) (by omega) ?_
    refine zz_iload rfl rfl ?_
    refine zz_Sp rfl lk_Dots_21 cw_Dots_placed (ct_placed (by omega)) rfl rfl rfl rfl ?_
    refine zz_ior rfl (zo_b ⟨g0.1, g0.2.1⟩ ⟨g1.1, g1.2.1⟩ (by decide) (by decide)) ?_
    refine zz_istore rfl rfl rfl ?_
    refine zz_iincK 2 rfl rfl rfl rfl (by decide) ?_
    refine zz_goto rfl ?_
    refine zz_iload rfl rfl ?_
    refine zz_iconst rfl ?_
    refine zz_icmp_ge rfl (by omega) (by omega) (fun hb15 => absurd hb15 (by first | decide | omega)) (fun hb15 => ?_)
    refine zz_iload_n rfl rfl ?_
    refine zz_iload rfl rfl ?_
    refine zz_Sp rfl lk_Dots_9 cw_Dots_byteOf (ct_byteOf (by omega)) rfl rfl rfl rfl ?_
    refine zz_iload_n rfl rfl ?_
    refine zz_iload_n rfl rfl ?_
    refine zz_isub rfl ?_
    refine zz_imul rfl ?_
    refine zz_iload_n rfl rfl ?_
    refine zz_iload rfl rfl ?_
    refine zz_Sp rfl lk_Dots_9 cw_Dots_byteOf (ct_byteOf (by omega)) rfl rfl rfl rfl ?_
    refine zz_iload_n rfl rfl ?_
    refine zz_imul rfl ?_
    refine zz_iadd rfl ?_
    refine zz_istore rfl rfl rfl ?_
    have g2 := zgc_rg (f := f) (l := l) (k := k) (n := n) 2 hk ⟨hn0, by omega⟩
    refine zz_iload rfl rfl ?_
    refine zz_iload rfl rfl ?_
    refine zz_iload_n rfl rfl ?_
    refine zz_iconst rfl ?_
    refine zz_idivP rfl (by omega) (by omega) ?_
    refine zz_iadd rfl ?_
    refine zz_iload_n rfl rfl ?_
    refine zz_idivP rfl (by omega) (by omega) ?_
    refine zz_iload rfl rfl ?_
    refine zz_Sp rfl lk_Dots_21 cw_Dots_placed (ct_placed (by omega)) rfl rfl rfl rfl ?_
    refine zz_ior rfl (zo_c ⟨g0.1, g0.2.1⟩ ⟨g1.1, g1.2.1⟩ ⟨g2.1, g2.2.1⟩ (by decide)) ?_
    refine zz_istore rfl rfl rfl ?_
    refine zz_iincK 3 rfl rfl rfl rfl (by decide) ?_
    refine zz_goto rfl ?_
    refine zz_iload rfl rfl ?_
    refine zz_iconst rfl ?_
    refine zz_icmp_ge rfl (by omega) (by omega) (fun hb15 => absurd hb15 (by first | decide | omega)) (fun hb15 => ?_)
    refine zz_iload_n rfl rfl ?_
    refine zz_iload rfl rfl ?_
    refine zz_Sp rfl lk_Dots_9 cw_Dots_byteOf (ct_byteOf (by omega)) rfl rfl rfl rfl ?_
    refine zz_iload_n rfl rfl ?_
    refine zz_iload_n rfl rfl ?_
    refine zz_isub rfl ?_
    refine zz_imul rfl ?_
    refine zz_iload_n rfl rfl ?_
    refine zz_iload rfl rfl ?_
    refine zz_Sp rfl lk_Dots_9 cw_Dots_byteOf (ct_byteOf (by omega)) rfl rfl rfl rfl ?_
    refine zz_iload_n rfl rfl ?_
    refine zz_imul rfl ?_
    refine zz_iadd rfl ?_
    refine zz_istore rfl rfl rfl ?_
    have g3 := zgc_rg (f := f) (l := l) (k := k) (n := n) 3 hk ⟨hn0, by omega⟩
    refine zz_iload rfl rfl ?_
    refine zz_iload rfl rfl ?_
    refine zz_iload_n rfl rfl ?_
    refine zz_iconst rfl ?_
    refine zz_idivP rfl (by omega) (by omega) ?_
    refine zz_iadd rfl ?_
    refine zz_iload_n rfl rfl ?_
    refine zz_idivP rfl (by omega) (by omega) ?_
    refine zz_iload rfl rfl ?_
    refine zz_Sp rfl lk_Dots_21 cw_Dots_placed (ct_placed (by omega)) rfl rfl rfl rfl ?_
    refine zz_ior rfl (zo_d ⟨g0.1, g0.2.1⟩ ⟨g1.1, g1.2.1⟩ ⟨g2.1, g2.2.1⟩ ⟨g3.1, g3.2.1⟩) ?_
    refine zz_istore rfl rfl rfl ?_
    refine zz_iincK 4 rfl rfl rfl rfl (by decide) ?_
    refine zz_goto rfl ?_
    refine zz_iload rfl rfl ?_
    refine zz_iconst rfl ?_
    refine zz_icmp_ge rfl (by omega) (by omega) (fun hb15 => ?_) (fun hb15 => absurd hb15 (by first | decide | omega))
    refine zz_iload rfl rfl ?_
    refine zz_iret rfl rfl (zret_q (by rw [zpq_dot]; unfold zbt; rw [if_neg hb1]; rfl))
  · skip
    refine zz_iload_n rfl rfl ?_
    refine zz_iret rfl rfl (zret_e (by unfold zbt; rw [if_pos hb1]))
theorem zmc_rg (a b c d : Int) : 0 ≤ zmc a b c d ∧ zmc a b c d ≤ 1020 := by
  have := zby_rg a 3
  have := zby_rg b 3
  have := zby_rg c 3
  have := zby_rg d 3
  unfold zmc
  omega
theorem ct_merged {a b c d : Int} : Ct Z m_Dots_merged 2 0 0 [zI a, zI b, zI c, zI d] h (zP (zI (zmg a b c d)) h) := by
  refine zct rfl (by decide) ok_Dots_merged rfl rfl ?_
  refine zz_iload_n rfl rfl ?_
  refine zz_iconst rfl ?_
  refine zz_Sp rfl lk_Dots_9 cw_Dots_byteOf (ct_byteOf (by omega)) rfl rfl rfl rfl ?_
  refine zz_iload_n rfl rfl ?_
  refine zz_iconst rfl ?_
  refine zz_Sp rfl lk_Dots_9 cw_Dots_byteOf (ct_byteOf (by omega)) rfl rfl rfl rfl ?_
  refine zz_iadd rfl ?_
  refine zz_iload_n rfl rfl ?_
  refine zz_iconst rfl ?_
  refine zz_Sp rfl lk_Dots_9 cw_Dots_byteOf (ct_byteOf (by omega)) rfl rfl rfl rfl ?_
  refine zz_iadd rfl ?_
  refine zz_iload_n rfl rfl ?_
  refine zz_iconst rfl ?_
  refine zz_Sp rfl lk_Dots_9 cw_Dots_byteOf (ct_byteOf (by omega)) rfl rfl rfl rfl ?_
  refine zz_iadd rfl ?_
  refine zz_eq (show _ = zmc a b c d from rfl) ?_
  have hc0 := zmc_rg a b c d
  refine zz_istore rfl rfl rfl ?_
  refine zz_iload rfl rfl ?_
  refine zz_if_ne rfl (by omega) (fun hb27 => ?_) (fun hb27 => ?_)
  · skip
    refine zz_iload rfl rfl ?_
    refine zz_iconst rfl ?_
    refine zz_iadd rfl ?_
    refine zz_iconst rfl ?_
    refine zz_idivP rfl (by omega) (by omega) ?_
    refine zz_iconst rfl ?_
    refine zz_Sp rfl lk_Dots_21 cw_Dots_placed (ct_placed (by omega)) rfl rfl rfl rfl ?_
    refine zz_eq (zpq_3 _) ?_
    refine zz_istore rfl rfl rfl ?_
    refine zz_iconst rfl ?_
    refine zz_istore rfl rfl rfl ?_
    refine zz_iload rfl rfl ?_
    refine zz_iconst rfl ?_
    refine zz_icmp_ge rfl (by omega) (by omega) (fun hb50 => absurd hb50 (by first | decide | omega)) (fun hb50 => ?_)
    refine zz_iload_n rfl rfl ?_
    refine zz_iload rfl rfl ?_
    refine zz_Sp rfl lk_Dots_24 cw_Dots_covered (ct_covered (by omega)) rfl rfl rfl rfl ?_
    refine zz_iload_n rfl rfl ?_
    refine zz_iload rfl rfl ?_
    refine zz_Sp rfl lk_Dots_24 cw_Dots_covered (ct_covered (by omega)) rfl rfl rfl rfl ?_
    refine zz_iadd rfl ?_
    refine zz_iload_n rfl rfl ?_
    refine zz_iload rfl rfl ?_
    refine zz_Sp rfl lk_Dots_24 cw_Dots_covered (ct_covered (by omega)) rfl rfl rfl rfl ?_
    refine zz_iadd rfl ?_
    refine zz_iload_n rfl rfl ?_
    refine zz_iload rfl rfl ?_
    refine zz_Sp rfl lk_Dots_24 cw_Dots_covered (ct_covered (by omega)) rfl rfl rfl rfl ?_
    refine zz_iadd rfl ?_
    refine zz_eq (show _ = zms a b c d 0 from rfl) ?_
    have g0 := zmg_rg (a := a) (b := b) (c := c) (d := d) 0 hb27
    refine zz_istore rfl rfl rfl ?_
    refine zz_iload rfl rfl ?_
    refine zz_iload rfl rfl ?_
    refine zz_iload rfl rfl ?_
    refine zz_iconst rfl ?_
    refine zz_idivP rfl (by omega) (by omega) ?_
    refine zz_iadd rfl ?_
    refine zz_iload rfl rfl ?_
    refine zz_idivP rfl (by omega) (by omega) ?_
    refine zz_iload rfl rfl ?_
    refine zz_Sp rfl lk_Dots_21 cw_Dots_placed (ct_placed (by omega)) rfl rfl rfl rfl ?_
    refine zz_ior rfl (zo_a g0.2.2 (by decide) (by decide) ⟨by omega, by omega⟩) ?_
    refine zz_istore rfl rfl rfl ?_
    refine zz_iincK 1 rfl rfl rfl rfl (by decide) ?_
    refine zz_goto rfl ?_
    refine zz_iload rfl rfl ?_
    refine zz_iconst rfl ?_
    refine zz_icmp_ge rfl (by omega) (by omega) (fun hb50 => absurd hb50 (by first | decide | omega)) (fun hb50 => ?_)
    refine zz_iload_n rfl rfl ?_
    refine zz_iload rfl rfl ?_
    refine zz_Sp rfl lk_Dots_24 cw_Dots_covered (ct_covered (by omega)) rfl rfl rfl rfl ?_
    refine zz_iload_n rfl rfl ?_
    refine zz_iload rfl rfl ?_
    refine zz_Sp rfl lk_Dots_24 cw_Dots_covered (ct_covered (by omega)) rfl rfl rfl rfl ?_
    refine zz_iadd rfl ?_
    refine zz_iload_n rfl rfl ?_
    refine zz_iload rfl rfl ?_
    refine zz_Sp rfl lk_Dots_24 cw_Dots_covered (ct_covered (by omega)) rfl rfl rfl rfl ?_
    refine zz_iadd rfl ?_
    refine zz_iload_n rfl rfl ?_
    refine zz_iload rfl rfl ?_
    refine zz_Sp rfl lk_Dots_24 cw_Dots_covered (ct_covered (by omega)) rfl rfl rfl rfl ?_
    refine zz_iadd rfl ?_
    refine zz_eq (show _ = zms a b c d 1 from rfl) ?_
    have g1 := zmg_rg (a := a) (b := b) (c := c) (d := d) 1 hb27
    refine zz_istore rfl rfl rfl ?_
    refine zz_iload rfl rfl ?_
    refine zz_iload rfl rfl ?_
    refine zz_iload rfl rfl ?_
    refine zz_iconst rfl ?_
    refine zz_idivP rfl (by omega) (by omega) ?_
    refine zz_iadd rfl ?_
    refine zz_iload rfl rfl ?_
    refine zz_idivP rfl (by omega) (by omega) ?_
    refine zz_iload rfl rfl ?_
    refine zz_Sp rfl lk_Dots_21 cw_Dots_placed (ct_placed (by omega)) rfl rfl rfl rfl ?_
    refine zz_ior rfl (zo_b g0.2.2 g1.2.2 (by decide) ⟨by omega, by omega⟩) ?_
    refine zz_istore rfl rfl rfl ?_
    refine zz_iincK 2 rfl rfl rfl rfl (by decide) ?_
    refine zz_goto rfl ?_
    refine zz_iload rfl rfl ?_
    refine zz_iconst rfl ?_
    refine zz_icmp_ge rfl (by omega) (by omega) (fun hb50 => absurd hb50 (by first | decide | omega)) (fun hb50 => ?_)
    refine zz_iload_n rfl rfl ?_
    refine zz_iload rfl rfl ?_
    refine zz_Sp rfl lk_Dots_24 cw_Dots_covered (ct_covered (by omega)) rfl rfl rfl rfl ?_
    refine zz_iload_n rfl rfl ?_
    refine zz_iload rfl rfl ?_
    refine zz_Sp rfl lk_Dots_24 cw_Dots_covered (ct_covered (by omega)) rfl rfl rfl rfl ?_
    refine zz_iadd rfl ?_
    refine zz_iload_n rfl rfl ?_
    refine zz_iload rfl rfl ?_
    refine zz_Sp rfl lk_Dots_24 cw_Dots_covered (ct_covered (by omega)) rfl rfl rfl rfl ?_
    refine zz_iadd rfl ?_
    refine zz_iload_n rfl rfl ?_
    refine zz_iload rfl rfl ?_
    refine zz_Sp rfl lk_Dots_24 cw_Dots_covered (ct_covered (by omega)) rfl rfl rfl rfl ?_
    refine zz_iadd rfl ?_
    refine zz_eq (show _ = zms a b c d 2 from rfl) ?_
    have g2 := zmg_rg (a := a) (b := b) (c := c) (d := d) 2 hb27
    refine zz_istore rfl rfl rfl ?_
    refine zz_iload rfl rfl ?_
    refine zz_iload rfl rfl ?_
    refine zz_iload rfl rfl ?_
    refine zz_iconst rfl ?_
    refine zz_idivP rfl (by omega) (by omega) ?_
    refine zz_iadd rfl ?_
    refine zz_iload rfl rfl ?_
    refine zz_idivP rfl (by omega) (by omega) ?_
    refine zz_iload rfl rfl ?_
    refine zz_Sp rfl lk_Dots_21 cw_Dots_placed (ct_placed (by omega)) rfl rfl rfl rfl ?_
    refine zz_ior rfl (zo_c g0.2.2 g1.2.2 g2.2.2 ⟨by omega, by omega⟩) ?_
    refine zz_istore rfl rfl rfl ?_
    refine zz_iincK 3 rfl rfl rfl rfl (by decide) ?_
    refine zz_goto rfl ?_
    refine zz_iload rfl rfl ?_
    refine zz_iconst rfl ?_
    refine zz_icmp_ge rfl (by omega) (by omega) (fun hb50 => ?_) (fun hb50 => absurd hb50 (by first | decide | omega))
    refine zz_iload rfl rfl ?_
    refine zz_iret rfl rfl (zret_q (by rw [zpq_dot]; unfold zmg; rw [if_neg hb27]))
  · skip
    refine zz_iconst rfl ?_
    refine zz_iret rfl rfl (zret_e (by unfold zmg; rw [if_pos hb27]))
theorem ct_blended {S B m op : Int} (hm : 0 ≤ m ∧ m ≤ 5) (ho : 0 ≤ op ∧ op ≤ 255) : Ct Z m_Dots_blended 2 0 0 [zI S, zI B, zI m, zI op] h (zP (zI (zbl S B m op)) h) := by
  have h1 := zbs_rg S ho
  have h2 := zbu_rg S B ho
  refine zct rfl (by decide) ok_Dots_blended rfl rfl ?_
  refine zz_iload_n rfl rfl ?_
  refine zz_iconst rfl ?_
  refine zz_Sp rfl lk_Dots_9 cw_Dots_byteOf (ct_byteOf (by omega)) rfl rfl rfl rfl ?_
  refine zz_iload_n rfl rfl ?_
  refine zz_imul rfl ?_
  refine zz_Sp rfl lk_Dots_27 cw_Dots_div (ct_div (by omega)) rfl rfl rfl rfl ?_
  refine zz_eq (show _ = zbs S op from rfl) ?_
  refine zz_istore rfl rfl rfl ?_
  refine zz_iload_n rfl rfl ?_
  refine zz_iconst rfl ?_
  refine zz_Sp rfl lk_Dots_9 cw_Dots_byteOf (ct_byteOf (by omega)) rfl rfl rfl rfl ?_
  refine zz_istore rfl rfl rfl ?_
  refine zz_sipush rfl (by decide) ?_
  refine zz_iload rfl rfl ?_
  refine zz_imul rfl ?_
  refine zz_istore rfl rfl rfl ?_
  refine zz_iload rfl rfl ?_
  refine zz_sipush rfl (by decide) ?_
  refine zz_iload rfl rfl ?_
  refine zz_isub rfl ?_
  refine zz_imul rfl ?_
  refine zz_eq (show _ = zbu S B op from rfl) ?_
  refine zz_istore rfl rfl rfl ?_
  refine zz_iload rfl rfl ?_
  refine zz_iload rfl rfl ?_
  refine zz_iadd rfl ?_
  refine zz_eq (show _ = zbw S B op from rfl) ?_
  have hw0 : 0 ≤ zbw S B op ∧ zbw S B op ≤ 65025 := by unfold zbw; omega
  refine zz_istore rfl rfl rfl ?_
  refine zz_iload rfl rfl ?_
  refine zz_if_ne rfl (by omega) (fun hb47 => ?_) (fun hb47 => ?_)
  · skip
    refine zz_iload rfl rfl ?_
    refine zz_Sp rfl lk_Dots_27 cw_Dots_div (ct_div (by omega)) rfl rfl rfl rfl ?_
    refine zz_iconst rfl ?_
    refine zz_Sp rfl lk_Dots_21 cw_Dots_placed (ct_placed (by omega)) rfl rfl rfl rfl ?_
    refine zz_eq (zpq_3 _) ?_
    have gd := zdv_rg hw0
    refine zz_istore rfl rfl rfl ?_
    refine zz_iconst rfl ?_
    refine zz_istore rfl rfl rfl ?_
    refine zz_iload rfl rfl ?_
    refine zz_iconst rfl ?_
    refine zz_icmp_ge rfl (by omega) (by omega) (fun hb69 => absurd hb69 (by first | decide | omega)) (fun hb69 => ?_)
    refine zz_iload_n rfl rfl ?_
    refine zz_iload rfl rfl ?_
    refine zz_Sp rfl lk_Dots_9 cw_Dots_byteOf (ct_byteOf (by omega)) rfl rfl rfl rfl ?_
    refine zz_istore rfl rfl rfl ?_
    refine zz_iload_n rfl rfl ?_
    refine zz_iload rfl rfl ?_
    refine zz_Sp rfl lk_Dots_9 cw_Dots_byteOf (ct_byteOf (by omega)) rfl rfl rfl rfl ?_
    refine zz_istore rfl rfl rfl ?_
    refine zz_iload rfl rfl ?_
    refine zz_iload rfl rfl ?_
    refine zz_iload_n rfl rfl ?_
    refine zz_Sp rfl lk_Dots_30 cw_Dots_mixed (ct_mixed (zby_rg _ _) (zby_rg _ _) hm) rfl rfl rfl rfl ?_
    refine zz_istore rfl rfl rfl ?_
    refine zz_iload rfl rfl ?_
    refine zz_iload rfl rfl ?_
    refine zz_imul rfl ?_
    refine zz_sipush rfl (by decide) ?_
    refine zz_iload rfl rfl ?_
    refine zz_isub rfl ?_
    refine zz_iload rfl rfl ?_
    refine zz_imul rfl ?_
    refine zz_iadd rfl ?_
    refine zz_Sp rfl lk_Dots_27 cw_Dots_div (ct_div ⟨(zbx_rg S B m 0).2.2.1, by have := (zbx_rg S B m 0).2.2.2; omega⟩) rfl rfl rfl rfl ?_
    refine zz_eq (show _ = zbx S B m 0 from rfl) ?_
    refine zz_istore rfl rfl rfl ?_
    refine zz_iload rfl rfl ?_
    refine zz_iload rfl rfl ?_
    refine zz_imul rfl ?_
    refine zz_iload rfl rfl ?_
    refine zz_iload rfl rfl ?_
    refine zz_imul rfl ?_
    refine zz_iadd rfl ?_
    refine zz_eq (show _ = zbn S B m op 0 from rfl) ?_
    have g0 := zbk_rg S B m 0 ho hb47
    refine zz_istore rfl rfl rfl ?_
    refine zz_iload rfl rfl ?_
    refine zz_iload rfl rfl ?_
    refine zz_iload rfl rfl ?_
    refine zz_iconst rfl ?_
    refine zz_idivP rfl (by omega) (by omega) ?_
    refine zz_iadd rfl ?_
    refine zz_iload rfl rfl ?_
    refine zz_idivP rfl (by omega) (by omega) ?_
    refine zz_iload rfl rfl ?_
    refine zz_Sp rfl lk_Dots_21 cw_Dots_placed (ct_placed (by omega)) rfl rfl rfl rfl ?_
    refine zz_ior rfl (zo_a g0.2.2 (by decide) (by decide) gd) ?_
    refine zz_istore rfl rfl rfl ?_
    refine zz_iincK 1 rfl rfl rfl rfl (by decide) ?_
    refine zz_goto rfl ?_
    refine zz_iload rfl rfl ?_
    refine zz_iconst rfl ?_
    refine zz_icmp_ge rfl (by omega) (by omega) (fun hb69 => absurd hb69 (by first | decide | omega)) (fun hb69 => ?_)
    refine zz_iload_n rfl rfl ?_
    refine zz_iload rfl rfl ?_
    refine zz_Sp rfl lk_Dots_9 cw_Dots_byteOf (ct_byteOf (by omega)) rfl rfl rfl rfl ?_
    refine zz_istore rfl rfl rfl ?_
    refine zz_iload_n rfl rfl ?_
    refine zz_iload rfl rfl ?_
    refine zz_Sp rfl lk_Dots_9 cw_Dots_byteOf (ct_byteOf (by omega)) rfl rfl rfl rfl ?_
    refine zz_istore rfl rfl rfl ?_
    refine zz_iload rfl rfl ?_
    refine zz_iload rfl rfl ?_
    refine zz_iload_n rfl rfl ?_
    refine zz_Sp rfl lk_Dots_30 cw_Dots_mixed (ct_mixed (zby_rg _ _) (zby_rg _ _) hm) rfl rfl rfl rfl ?_
    refine zz_istore rfl rfl rfl ?_
    refine zz_iload rfl rfl ?_
    refine zz_iload rfl rfl ?_
    refine zz_imul rfl ?_
    refine zz_sipush rfl (by decide) ?_
    refine zz_iload rfl rfl ?_
    refine zz_isub rfl ?_
    refine zz_iload rfl rfl ?_
    refine zz_imul rfl ?_
    refine zz_iadd rfl ?_
    refine zz_Sp rfl lk_Dots_27 cw_Dots_div (ct_div ⟨(zbx_rg S B m 1).2.2.1, by have := (zbx_rg S B m 1).2.2.2; omega⟩) rfl rfl rfl rfl ?_
    refine zz_eq (show _ = zbx S B m 1 from rfl) ?_
    refine zz_istore rfl rfl rfl ?_
    refine zz_iload rfl rfl ?_
    refine zz_iload rfl rfl ?_
    refine zz_imul rfl ?_
    refine zz_iload rfl rfl ?_
    refine zz_iload rfl rfl ?_
    refine zz_imul rfl ?_
    refine zz_iadd rfl ?_
    refine zz_eq (show _ = zbn S B m op 1 from rfl) ?_
    have g1 := zbk_rg S B m 1 ho hb47
    refine zz_istore rfl rfl rfl ?_
    refine zz_iload rfl rfl ?_
    refine zz_iload rfl rfl ?_
    refine zz_iload rfl rfl ?_
    refine zz_iconst rfl ?_
    refine zz_idivP rfl (by omega) (by omega) ?_
    refine zz_iadd rfl ?_
    refine zz_iload rfl rfl ?_
    refine zz_idivP rfl (by omega) (by omega) ?_
    refine zz_iload rfl rfl ?_
    refine zz_Sp rfl lk_Dots_21 cw_Dots_placed (ct_placed (by omega)) rfl rfl rfl rfl ?_
    refine zz_ior rfl (zo_b g0.2.2 g1.2.2 (by decide) gd) ?_
    refine zz_istore rfl rfl rfl ?_
    refine zz_iincK 2 rfl rfl rfl rfl (by decide) ?_
    refine zz_goto rfl ?_
    refine zz_iload rfl rfl ?_
    refine zz_iconst rfl ?_
    refine zz_icmp_ge rfl (by omega) (by omega) (fun hb69 => absurd hb69 (by first | decide | omega)) (fun hb69 => ?_)
    refine zz_iload_n rfl rfl ?_
    refine zz_iload rfl rfl ?_
    refine zz_Sp rfl lk_Dots_9 cw_Dots_byteOf (ct_byteOf (by omega)) rfl rfl rfl rfl ?_
    refine zz_istore rfl rfl rfl ?_
    refine zz_iload_n rfl rfl ?_
    refine zz_iload rfl rfl ?_
    refine zz_Sp rfl lk_Dots_9 cw_Dots_byteOf (ct_byteOf (by omega)) rfl rfl rfl rfl ?_
    refine zz_istore rfl rfl rfl ?_
    refine zz_iload rfl rfl ?_
    refine zz_iload rfl rfl ?_
    refine zz_iload_n rfl rfl ?_
    refine zz_Sp rfl lk_Dots_30 cw_Dots_mixed (ct_mixed (zby_rg _ _) (zby_rg _ _) hm) rfl rfl rfl rfl ?_
    refine zz_istore rfl rfl rfl ?_
    refine zz_iload rfl rfl ?_
    refine zz_iload rfl rfl ?_
    refine zz_imul rfl ?_
    refine zz_sipush rfl (by decide) ?_
    refine zz_iload rfl rfl ?_
    refine zz_isub rfl ?_
    refine zz_iload rfl rfl ?_
    refine zz_imul rfl ?_
    refine zz_iadd rfl ?_
    refine zz_Sp rfl lk_Dots_27 cw_Dots_div (ct_div ⟨(zbx_rg S B m 2).2.2.1, by have := (zbx_rg S B m 2).2.2.2; omega⟩) rfl rfl rfl rfl ?_
    refine zz_eq (show _ = zbx S B m 2 from rfl) ?_
    refine zz_istore rfl rfl rfl ?_
    refine zz_iload rfl rfl ?_
    refine zz_iload rfl rfl ?_
    refine zz_imul rfl ?_
    refine zz_iload rfl rfl ?_
    refine zz_iload rfl rfl ?_
    refine zz_imul rfl ?_
    refine zz_iadd rfl ?_
    refine zz_eq (show _ = zbn S B m op 2 from rfl) ?_
    have g2 := zbk_rg S B m 2 ho hb47
    refine zz_istore rfl rfl rfl ?_
    refine zz_iload rfl rfl ?_
    refine zz_iload rfl rfl ?_
    refine zz_iload rfl rfl ?_
    refine zz_iconst rfl ?_
    refine zz_idivP rfl (by omega) (by omega) ?_
    refine zz_iadd rfl ?_
    refine zz_iload rfl rfl ?_
    refine zz_idivP rfl (by omega) (by omega) ?_
    refine zz_iload rfl rfl ?_
    refine zz_Sp rfl lk_Dots_21 cw_Dots_placed (ct_placed (by omega)) rfl rfl rfl rfl ?_
    refine zz_ior rfl (zo_c g0.2.2 g1.2.2 g2.2.2 gd) ?_
    refine zz_istore rfl rfl rfl ?_
    refine zz_iincK 3 rfl rfl rfl rfl (by decide) ?_
    refine zz_goto rfl ?_
    refine zz_iload rfl rfl ?_
    refine zz_iconst rfl ?_
    refine zz_icmp_ge rfl (by omega) (by omega) (fun hb69 => ?_) (fun hb69 => absurd hb69 (by first | decide | omega))
    refine zz_iload rfl rfl ?_
    refine zz_iret rfl rfl (zret_q (by rw [zpq_dot]; unfold zbl; rw [if_neg hb47]; rfl))
  · skip
    refine zz_iconst rfl ?_
    refine zz_iret rfl rfl (zret_e (by unfold zbl; rw [if_pos hb47]))
end DT
