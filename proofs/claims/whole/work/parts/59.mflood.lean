section MFL
variable {Z : ZC} {h : ZH}
theorem ct_MisNear {A : Nat → Nat} {X : MX} (hA : mOk A) {a b t : Int} (ha : zrg a) (hb : zrg b) (ht : 0 ≤ t ∧ t ≤ 255) : Ct Z m_M_isNear 1 0 0 [.ref (A 0), zI a, zI b, zI t] (mH h A X) (zP (zI (zb (zak a b t))) (mH h A X)) := by
  have u0 := zby_rg a 0
  have v0 := zby_rg b 0
  have d0 := zab_rg a b 0
  have u1 := zby_rg a 1
  have v1 := zby_rg b 1
  have d1 := zab_rg a b 1
  have u2 := zby_rg a 2
  have v2 := zby_rg b 2
  have d2 := zab_rg a b 2
  have u3 := zby_rg a 3
  have v3 := zby_rg b 3
  have d3 := zab_rg a b 3
  refine zct rfl (by decide) ok_M_isNear rfl rfl ?_
  refine zz_iconst rfl ?_
  refine zz_istore rfl rfl rfl ?_
  refine zz_iconst rfl ?_
  refine zz_istore rfl rfl rfl ?_
  refine zz_iload rfl rfl ?_
  refine zz_iconst rfl ?_
  refine zz_icmp_ge rfl (by omega) (by omega) (fun hb9 => absurd hb9 (by first | decide | omega)) (fun hb9 => ?_)
  refine zz_iload rfl rfl ?_
  refine zz_if_eq rfl (by omega) (fun hb14 => absurd hb14 (by first | decide | omega)) (fun hb14 => ?_)
  refine zz_iload_n rfl rfl ?_
  refine zz_iload rfl rfl ?_
  refine zz_Sp rfl lk_M_118 cw_M_part (ct_Mpart ha ⟨by decide, by decide⟩) rfl rfl rfl rfl ?_
  refine zz_iload_n rfl rfl ?_
  refine zz_iload rfl rfl ?_
  refine zz_Sp rfl lk_M_118 cw_M_part (ct_Mpart hb ⟨by decide, by decide⟩) rfl rfl rfl rfl ?_
  refine zz_Sp rfl lk_M_145 cw_M_distance (ct_Mdist ⟨by omega, by omega⟩ ⟨by omega, by omega⟩) rfl rfl rfl rfl ?_
  refine zz_iload_n rfl rfl ?_
  refine zz_icmp_gt rfl ⟨by omega, by omega⟩ ⟨by omega, by omega⟩ (fun hb33 => ?_) (fun hb33 => ?_)
  · skip
    refine zz_iconst rfl ?_
    refine zz_istore rfl rfl rfl ?_
    refine zz_iincK 1 rfl rfl rfl rfl (by decide) ?_
    refine zz_goto rfl ?_
    refine zz_iload rfl rfl ?_
    refine zz_iconst rfl ?_
    refine zz_icmp_ge rfl (by omega) (by omega) (fun hb9 => absurd hb9 (by first | decide | omega)) (fun hb9 => ?_)
    refine zz_iload rfl rfl ?_
    refine zz_if_eq rfl (by omega) (fun hb14 => ?_) (fun hb14 => absurd hb14 (by first | decide | omega))
    refine zz_iconst rfl ?_
    refine zz_istore rfl rfl rfl ?_
    refine zz_iincK 2 rfl rfl rfl rfl (by decide) ?_
    refine zz_goto rfl ?_
    refine zz_iload rfl rfl ?_
    refine zz_iconst rfl ?_
    refine zz_icmp_ge rfl (by omega) (by omega) (fun hb9 => absurd hb9 (by first | decide | omega)) (fun hb9 => ?_)
    refine zz_iload rfl rfl ?_
    refine zz_if_eq rfl (by omega) (fun hb14 => ?_) (fun hb14 => absurd hb14 (by first | decide | omega))
    refine zz_iconst rfl ?_
    refine zz_istore rfl rfl rfl ?_
    refine zz_iincK 3 rfl rfl rfl rfl (by decide) ?_
    refine zz_goto rfl ?_
    refine zz_iload rfl rfl ?_
    refine zz_iconst rfl ?_
    refine zz_icmp_ge rfl (by omega) (by omega) (fun hb9 => absurd hb9 (by first | decide | omega)) (fun hb9 => ?_)
    refine zz_iload rfl rfl ?_
    refine zz_if_eq rfl (by omega) (fun hb14 => ?_) (fun hb14 => absurd hb14 (by first | decide | omega))
    refine zz_iconst rfl ?_
    refine zz_istore rfl rfl rfl ?_
    refine zz_iincK 4 rfl rfl rfl rfl (by decide) ?_
    refine zz_goto rfl ?_
    refine zz_iload rfl rfl ?_
    refine zz_iconst rfl ?_
    refine zz_icmp_ge rfl (by omega) (by omega) (fun hb9 => ?_) (fun hb9 => absurd hb9 (by first | decide | omega))
    refine zz_iload rfl rfl ?_
    refine zz_zret rfl rfl rfl (zret_f (fun h9 => by have := h9.1; omega))
  · skip
    have g0 := hb33
    refine zz_iconst rfl ?_
    refine zz_goto rfl ?_
    refine zz_istore rfl rfl rfl ?_
    refine zz_iincK 1 rfl rfl rfl rfl (by decide) ?_
    refine zz_goto rfl ?_
    refine zz_iload rfl rfl ?_
    refine zz_iconst rfl ?_
    refine zz_icmp_ge rfl (by omega) (by omega) (fun hb9 => absurd hb9 (by first | decide | omega)) (fun hb9 => ?_)
    refine zz_iload rfl rfl ?_
    refine zz_if_eq rfl (by omega) (fun hb14 => absurd hb14 (by first | decide | omega)) (fun hb14 => ?_)
    refine zz_iload_n rfl rfl ?_
    refine zz_iload rfl rfl ?_
    refine zz_Sp rfl lk_M_118 cw_M_part (ct_Mpart ha ⟨by decide, by decide⟩) rfl rfl rfl rfl ?_
    refine zz_iload_n rfl rfl ?_
    refine zz_iload rfl rfl ?_
    refine zz_Sp rfl lk_M_118 cw_M_part (ct_Mpart hb ⟨by decide, by decide⟩) rfl rfl rfl rfl ?_
    refine zz_Sp rfl lk_M_145 cw_M_distance (ct_Mdist ⟨by omega, by omega⟩ ⟨by omega, by omega⟩) rfl rfl rfl rfl ?_
    refine zz_iload_n rfl rfl ?_
    refine zz_icmp_gt rfl ⟨by omega, by omega⟩ ⟨by omega, by omega⟩ (fun hb33 => ?_) (fun hb33 => ?_)
    · skip
      refine zz_iconst rfl ?_
      refine zz_istore rfl rfl rfl ?_
      refine zz_iincK 2 rfl rfl rfl rfl (by decide) ?_
      refine zz_goto rfl ?_
      refine zz_iload rfl rfl ?_
      refine zz_iconst rfl ?_
      refine zz_icmp_ge rfl (by omega) (by omega) (fun hb9 => absurd hb9 (by first | decide | omega)) (fun hb9 => ?_)
      refine zz_iload rfl rfl ?_
      refine zz_if_eq rfl (by omega) (fun hb14 => ?_) (fun hb14 => absurd hb14 (by first | decide | omega))
      refine zz_iconst rfl ?_
      refine zz_istore rfl rfl rfl ?_
      refine zz_iincK 3 rfl rfl rfl rfl (by decide) ?_
      refine zz_goto rfl ?_
      refine zz_iload rfl rfl ?_
      refine zz_iconst rfl ?_
      refine zz_icmp_ge rfl (by omega) (by omega) (fun hb9 => absurd hb9 (by first | decide | omega)) (fun hb9 => ?_)
      refine zz_iload rfl rfl ?_
      refine zz_if_eq rfl (by omega) (fun hb14 => ?_) (fun hb14 => absurd hb14 (by first | decide | omega))
      refine zz_iconst rfl ?_
      refine zz_istore rfl rfl rfl ?_
      refine zz_iincK 4 rfl rfl rfl rfl (by decide) ?_
      refine zz_goto rfl ?_
      refine zz_iload rfl rfl ?_
      refine zz_iconst rfl ?_
      refine zz_icmp_ge rfl (by omega) (by omega) (fun hb9 => ?_) (fun hb9 => absurd hb9 (by first | decide | omega))
      refine zz_iload rfl rfl ?_
      refine zz_zret rfl rfl rfl (zret_f (fun h9 => by have := h9.2.1; omega))
    · skip
      have g1 := hb33
      refine zz_iconst rfl ?_
      refine zz_goto rfl ?_
      refine zz_istore rfl rfl rfl ?_
      refine zz_iincK 2 rfl rfl rfl rfl (by decide) ?_
      refine zz_goto rfl ?_
      refine zz_iload rfl rfl ?_
      refine zz_iconst rfl ?_
      refine zz_icmp_ge rfl (by omega) (by omega) (fun hb9 => absurd hb9 (by first | decide | omega)) (fun hb9 => ?_)
      refine zz_iload rfl rfl ?_
      refine zz_if_eq rfl (by omega) (fun hb14 => absurd hb14 (by first | decide | omega)) (fun hb14 => ?_)
      refine zz_iload_n rfl rfl ?_
      refine zz_iload rfl rfl ?_
      refine zz_Sp rfl lk_M_118 cw_M_part (ct_Mpart ha ⟨by decide, by decide⟩) rfl rfl rfl rfl ?_
      refine zz_iload_n rfl rfl ?_
      refine zz_iload rfl rfl ?_
      refine zz_Sp rfl lk_M_118 cw_M_part (ct_Mpart hb ⟨by decide, by decide⟩) rfl rfl rfl rfl ?_
      refine zz_Sp rfl lk_M_145 cw_M_distance (ct_Mdist ⟨by omega, by omega⟩ ⟨by omega, by omega⟩) rfl rfl rfl rfl ?_
      refine zz_iload_n rfl rfl ?_
      refine zz_icmp_gt rfl ⟨by omega, by omega⟩ ⟨by omega, by omega⟩ (fun hb33 => ?_) (fun hb33 => ?_)
      · skip
        refine zz_iconst rfl ?_
        refine zz_istore rfl rfl rfl ?_
        refine zz_iincK 3 rfl rfl rfl rfl (by decide) ?_
        refine zz_goto rfl ?_
        refine zz_iload rfl rfl ?_
        refine zz_iconst rfl ?_
        refine zz_icmp_ge rfl (by omega) (by omega) (fun hb9 => absurd hb9 (by first | decide | omega)) (fun hb9 => ?_)
        refine zz_iload rfl rfl ?_
        refine zz_if_eq rfl (by omega) (fun hb14 => ?_) (fun hb14 => absurd hb14 (by first | decide | omega))
        refine zz_iconst rfl ?_
        refine zz_istore rfl rfl rfl ?_
        refine zz_iincK 4 rfl rfl rfl rfl (by decide) ?_
        refine zz_goto rfl ?_
        refine zz_iload rfl rfl ?_
        refine zz_iconst rfl ?_
        refine zz_icmp_ge rfl (by omega) (by omega) (fun hb9 => ?_) (fun hb9 => absurd hb9 (by first | decide | omega))
        refine zz_iload rfl rfl ?_
        refine zz_zret rfl rfl rfl (zret_f (fun h9 => by have := h9.2.2.1; omega))
      · skip
        have g2 := hb33
        refine zz_iconst rfl ?_
        refine zz_goto rfl ?_
        refine zz_istore rfl rfl rfl ?_
        refine zz_iincK 3 rfl rfl rfl rfl (by decide) ?_
        refine zz_goto rfl ?_
        refine zz_iload rfl rfl ?_
        refine zz_iconst rfl ?_
        refine zz_icmp_ge rfl (by omega) (by omega) (fun hb9 => absurd hb9 (by first | decide | omega)) (fun hb9 => ?_)
        refine zz_iload rfl rfl ?_
        refine zz_if_eq rfl (by omega) (fun hb14 => absurd hb14 (by first | decide | omega)) (fun hb14 => ?_)
        refine zz_iload_n rfl rfl ?_
        refine zz_iload rfl rfl ?_
        refine zz_Sp rfl lk_M_118 cw_M_part (ct_Mpart ha ⟨by decide, by decide⟩) rfl rfl rfl rfl ?_
        refine zz_iload_n rfl rfl ?_
        refine zz_iload rfl rfl ?_
        refine zz_Sp rfl lk_M_118 cw_M_part (ct_Mpart hb ⟨by decide, by decide⟩) rfl rfl rfl rfl ?_
        refine zz_Sp rfl lk_M_145 cw_M_distance (ct_Mdist ⟨by omega, by omega⟩ ⟨by omega, by omega⟩) rfl rfl rfl rfl ?_
        refine zz_iload_n rfl rfl ?_
        refine zz_icmp_gt rfl ⟨by omega, by omega⟩ ⟨by omega, by omega⟩ (fun hb33 => ?_) (fun hb33 => ?_)
        · skip
          refine zz_iconst rfl ?_
          refine zz_istore rfl rfl rfl ?_
          refine zz_iincK 4 rfl rfl rfl rfl (by decide) ?_
          refine zz_goto rfl ?_
          refine zz_iload rfl rfl ?_
          refine zz_iconst rfl ?_
          refine zz_icmp_ge rfl (by omega) (by omega) (fun hb9 => ?_) (fun hb9 => absurd hb9 (by first | decide | omega))
          refine zz_iload rfl rfl ?_
          refine zz_zret rfl rfl rfl (zret_f (fun h9 => by have := h9.2.2.2; omega))
        · skip
          have g3 := hb33
          refine zz_iconst rfl ?_
          refine zz_goto rfl ?_
          refine zz_istore rfl rfl rfl ?_
          refine zz_iincK 4 rfl rfl rfl rfl (by decide) ?_
          refine zz_goto rfl ?_
          refine zz_iload rfl rfl ?_
          refine zz_iconst rfl ?_
          refine zz_icmp_ge rfl (by omega) (by omega) (fun hb9 => ?_) (fun hb9 => absurd hb9 (by first | decide | omega))
          refine zz_iload rfl rfl ?_
          refine zz_zret rfl rfl rfl (zret_t ⟨by omega, by omega, by omega, by omega⟩)
theorem ct_MisReached {A : Nat → Nat} {X : MX} (hA : mOk A) {n w ht : Nat} {R : Nat → Nat} (hc : mc X n w ht R) {Y : Nat → Nat} (hr : mG (X.2.1 11) ht Y) (hY : ∀ j, Y j < 2 ^ w) {x y : Int} (hx : -1 ≤ x ∧ x ≤ 100) (hy : -1 ≤ y ∧ y ≤ 100) : Ct Z m_M_isReached 1 0 0 [.ref (A 0), zI x, zI y] (mH h A X) (zP (zI (zb (mRe Y w ht x y))) (mH h A X)) := by
  have hw24 := hc.2.2.2.2.1
  have ze : (Y y.toNat).testBit x.toNat = true ↔ (Y y.toNat : Int) / 2 ^ x.toNat % 2 = 1 := by
    rw [zbit_div]
    have e : ((Y y.toNat : Nat) : Int) / 2 ^ x.toNat % 2 = ((Y y.toNat / 2 ^ x.toNat % 2 : Nat) : Int) := by simp
    rw [e]
    omega
  refine zct rfl (by decide) ok_M_isReached rfl rfl ?_
  refine zz_iload_n rfl rfl ?_
  refine zz_if_lt rfl (by omega) (fun hb1 => ?_) (fun hb1 => ?_)
  · skip
    refine zz_iconst rfl ?_
    refine zz_zret rfl rfl rfl (zret_f (fun h9 => by have := h9.1.1; omega))
  · skip
    refine zz_iload_n rfl rfl ?_
    refine zz_aload_n rfl rfl ?_
    refine zz_Vp rfl lk_M_100 cw_M_w rfl (m0 hA) (ct_Mw hA hc) rfl rfl rfl rfl ?_
    refine zz_icmp_ge rfl ⟨by omega, by omega⟩ ⟨by omega, by omega⟩ (fun hb9 => ?_) (fun hb9 => ?_)
    · skip
      refine zz_iconst rfl ?_
      refine zz_zret rfl rfl rfl (zret_f (fun h9 => by have := h9.1.2; omega))
    · skip
      refine zz_iload_n rfl rfl ?_
      refine zz_if_lt rfl (by omega) (fun hb13 => ?_) (fun hb13 => ?_)
      · skip
        refine zz_iconst rfl ?_
        refine zz_zret rfl rfl rfl (zret_f (fun h9 => by have := h9.2.1.1; omega))
      · skip
        refine zz_iload_n rfl rfl ?_
        refine zz_aload_n rfl rfl ?_
        refine zz_Vp rfl lk_M_96 cw_M_h rfl (m0 hA) (ct_Mh hA hc) rfl rfl rfl rfl ?_
        refine zz_icmp_ge rfl ⟨by omega, by omega⟩ ⟨by omega, by omega⟩ (fun hb21 => ?_) (fun hb21 => ?_)
        · skip
          refine zz_iconst rfl ?_
          refine zz_zret rfl rfl rfl (zret_f (fun h9 => by have := h9.2.1.2; omega))
        · skip
          refine zz_aload_n rfl rfl ?_
          refine zz_getf rfl fl_M_44 (m0 hA) rfl ?_
          refine zz_iload_n rfl rfl ?_
          refine zz_iald rfl (m11 hA) (by decide) ⟨by omega, by omega⟩ ?_
          refine zz_eq (hr y.toNat (by omega)) ?_
          refine zz_iload_n rfl rfl ?_
          refine zz_ishr rfl ⟨by omega, by have := z24 hw24.1 (hY y.toNat); omega⟩ ⟨by omega, by omega⟩ ?_
          refine zz_iconst rfl ?_
          refine zz_iand rfl (zq_m1 _) ?_
          refine zz_iconst rfl ?_
          refine zz_icmp_ne rfl ⟨by omega, by omega⟩ ⟨by decide, by decide⟩ (fun hb35 => ?_) (fun hb35 => ?_)
          · skip
            refine zz_iconst rfl ?_
            refine zz_zret rfl rfl rfl (zret_f (fun h9 => hb35 (ze.mp h9.2.2)))
          · skip
            refine zz_iconst rfl ?_
            refine zz_goto rfl ?_
            refine zz_zret rfl rfl rfl (zret_t ⟨⟨by omega, by omega⟩, ⟨by omega, by omega⟩, ze.mpr hb35⟩)
theorem fl_bes {A : Nat → Nat} {X : MX} (hA : mOk A) {n w ht : Nat} {R : Nat → Nat} (hc : mc X n w ht R) {l px py d tol fi : Int} {Y : Nat → Nat} {g : Nat → Int} (hg : mG g ht Y) (hY : ∀ j, Y j < 2 ^ w) {nn n0 i j : Nat} (hi : i < w) (hj : j < ht) {MC MS mc ms : Nat} {Q : ZR → ZH → Prop} (kt : mBe Y w ht i j → Ev Z (fun _ => True, m_M_flood, 4, MC, MS) 234 [.ref (A 0), zI l, zI px, zI py, zI d, zI tol, zI 1, zI fi, zI (nn : Nat), zI 1, zI (n0 : Nat), zI (j : Nat), zI (i : Nat), zI 1] [] (mH h A (mF X 11 g)) mc ms Q) (kf : ¬ mBe Y w ht i j → Ev Z (fun _ => True, m_M_flood, 4, MC, MS) 234 [.ref (A 0), zI l, zI px, zI py, zI d, zI tol, zI 1, zI fi, zI (nn : Nat), zI 1, zI (n0 : Nat), zI (j : Nat), zI (i : Nat), zI 0] [] (mH h A (mF X 11 g)) mc ms Q) : Ev Z (fun _ => True, m_M_flood, 4, MC, MS) 175 [.ref (A 0), zI l, zI px, zI py, zI d, zI tol, zI 1, zI fi, zI (nn : Nat), zI 1, zI (n0 : Nat), zI (j : Nat), zI (i : Nat)] [] (mH h A (mF X 11 g)) mc ms Q := by
  have hw24 := hc.2.2.2.2.1
  refine zz_aload_n rfl rfl ?_
  refine zz_iload rfl rfl ?_
  refine zz_iconst rfl ?_
  refine zz_isub rfl ?_
  refine zz_iload rfl rfl ?_
  refine zz_Vp rfl lk_M_155 cw_M_isReached rfl (m0 hA) (ct_MisReached hA (hc.F 11 _ rfl) hg hY ⟨by omega, by omega⟩ ⟨by omega, by omega⟩) rfl rfl rfl rfl ?_
  refine zz_ifB_ne rfl (fun hb185 => ?_) (fun hb185 => ?_)
  · skip
    refine zz_iconst rfl ?_
    refine zz_goto rfl ?_
    refine zz_istore rfl rfl rfl ?_
    exact kt (Or.inl hb185)
  · skip
    refine zz_aload_n rfl rfl ?_
    refine zz_iload rfl rfl ?_
    refine zz_iconst rfl ?_
    refine zz_iadd rfl ?_
    refine zz_iload rfl rfl ?_
    refine zz_Vp rfl lk_M_155 cw_M_isReached rfl (m0 hA) (ct_MisReached hA (hc.F 11 _ rfl) hg hY ⟨by omega, by omega⟩ ⟨by omega, by omega⟩) rfl rfl rfl rfl ?_
    refine zz_ifB_ne rfl (fun hb198 => ?_) (fun hb198 => ?_)
    · skip
      refine zz_iconst rfl ?_
      refine zz_goto rfl ?_
      refine zz_istore rfl rfl rfl ?_
      exact kt (Or.inr (Or.inl hb198))
    · skip
      refine zz_aload_n rfl rfl ?_
      refine zz_iload rfl rfl ?_
      refine zz_iload rfl rfl ?_
      refine zz_iconst rfl ?_
      refine zz_isub rfl ?_
      refine zz_Vp rfl lk_M_155 cw_M_isReached rfl (m0 hA) (ct_MisReached hA (hc.F 11 _ rfl) hg hY ⟨by omega, by omega⟩ ⟨by omega, by omega⟩) rfl rfl rfl rfl ?_
      refine zz_ifB_ne rfl (fun hb211 => ?_) (fun hb211 => ?_)
      · skip
        refine zz_iconst rfl ?_
        refine zz_goto rfl ?_
        refine zz_istore rfl rfl rfl ?_
        exact kt (Or.inr (Or.inr (Or.inl hb211)))
      · skip
        refine zz_aload_n rfl rfl ?_
        refine zz_iload rfl rfl ?_
        refine zz_iload rfl rfl ?_
        refine zz_iconst rfl ?_
        refine zz_iadd rfl ?_
        refine zz_Vp rfl lk_M_155 cw_M_isReached rfl (m0 hA) (ct_MisReached hA (hc.F 11 _ rfl) hg hY ⟨by omega, by omega⟩ ⟨by omega, by omega⟩) rfl rfl rfl rfl ?_
        refine zz_ifB_eq rfl (fun hb224 => ?_) (fun hb224 => ?_)
        · skip
          refine zz_iconst rfl ?_
          refine zz_istore rfl rfl rfl ?_
          exact kf (fun h9 => by rcases h9 with h9 | h9 | h9 | h9; exact hb185 h9; exact hb198 h9; exact hb211 h9; exact hb224 h9)
        · skip
          refine zz_iconst rfl ?_
          refine zz_goto rfl ?_
          refine zz_istore rfl rfl rfl ?_
          exact kt (Or.inr (Or.inr (Or.inr hb224)))
theorem fl_i {A : Nat → Nat} {X : MX} (hA : mOk A) {n w ht : Nat} {R : Nat → Nat} (hc : mc X n w ht R) {l px py d tol fi : Int} {O : Nat → Nat} {D : Nat → Nat → Int} {sx sy : Nat} (hfi : zrg fi) (htol : 0 ≤ tol ∧ tol ≤ 255) (hwas : mwas X w ht D) (hD0 : ∀ x y, x < w → y < ht → zrg (D x y)) (hO : ∀ i j, i < w → j < ht → ((O j).testBit i = true ↔ (R j).testBit i = true ∧ zak (D i j) fi tol)) {Y0 : Nat → Nat} {n0 : Nat} {MC MS mc ms : Nat} {Q : ZR → ZH → Prop} {y : Nat} (hy : y < ht) (kx : ∀ Y nn g, mG g ht Y → mK O w ht sx sy Y0 n0 Y nn y w → Ev Z (fun _ => True, m_M_flood, 4, MC, MS) 311 [.ref (A 0), zI l, zI px, zI py, zI d, zI tol, zI 1, zI fi, zI (nn : Nat), zI 1, zI (n0 : Nat), zI (y : Nat), zI (w : Nat)] [] (mH h A (mF X 11 g)) mc ms Q) : ∀ (m x : Nat) (Y : Nat → Nat) (nn : Nat) (g : Nat → Int), x + m = w → mG g ht Y → mK O w ht sx sy Y0 n0 Y nn y x → Ev Z (fun _ => True, m_M_flood, 4, MC, MS) 166 [.ref (A 0), zI l, zI px, zI py, zI d, zI tol, zI 1, zI fi, zI (nn : Nat), zI 1, zI (n0 : Nat), zI (y : Nat), zI (x : Nat)] [] (mH h A (mF X 11 g)) mc ms Q := by
  have hw24 := hc.2.2.2.2.1
  intro m
  induction m with
  | zero =>
    intro x Y nn g hx hg hK
    refine zz_iload rfl rfl ?_
    refine zz_aload_n rfl rfl ?_
    refine zz_Vp rfl lk_M_100 cw_M_w rfl (m0 hA) (ct_Mw hA (hc.F 11 _ rfl)) rfl rfl rfl rfl ?_
    refine zz_icmp_ge rfl (by omega) (by omega) (fun hb172 => ?_) (fun hb172 => absurd hb172 (by omega))
    obtain rfl : x = w := by omega
    exact kx Y nn g hg hK
  | succ m ih =>
    intro x Y nn g hx hg hK
    have hxw : x < w := by omega
    have hY := hK.1.1
    have hn576 := hK.1.le hw24.1 hw24.2
    refine zz_iload rfl rfl ?_
    refine zz_aload_n rfl rfl ?_
    refine zz_Vp rfl lk_M_100 cw_M_w rfl (m0 hA) (ct_Mw hA (hc.F 11 _ rfl)) rfl rfl rfl rfl ?_
    refine zz_icmp_ge rfl (by omega) (by omega) (fun hb172 => absurd hb172 (by omega)) (fun hb172 => ?_)
    refine fl_bes hA hc hg hY hxw hy (fun hbe => ?_) (fun hbe => ?_)
    · skip
      refine zz_iload rfl rfl ?_
      refine zz_if_eq rfl (by omega) (fun hb236 => absurd hb236 (by first | decide | omega)) (fun hb236 => ?_)
      refine zz_aload_n rfl rfl ?_
      refine zz_iload rfl rfl ?_
      refine zz_iload rfl rfl ?_
      refine zz_Vp rfl lk_M_155 cw_M_isReached rfl (m0 hA) (ct_MisReached hA (hc.F 11 _ rfl) hg hY ⟨by omega, by omega⟩ ⟨by omega, by omega⟩) rfl rfl rfl rfl ?_
      refine zz_ifB_ne rfl (fun hb247 => ?_) (fun hb247 => ?_)
      · skip
        refine zz_iincK ((x + 1 : Nat) : Int) rfl rfl rfl rfl (by omega) ?_
        refine zz_goto rfl ?_
        refine Ev.take 13 ?_
        exact ih (x + 1) Y nn g (by omega) hg (hK.skip (fun _ _ => hb247.2.2))
      · skip
        refine zz_aload_n rfl rfl ?_
        refine zz_iload rfl rfl ?_
        refine zz_iload rfl rfl ?_
        refine zz_Vp rfl lk_M_110 cw_M_isChosen rfl (m0 hA) (ct_Mchosen hA (hc.F 11 _ rfl) hxw hy) rfl rfl rfl rfl ?_
        refine zz_ifB_eq rfl (fun hb258 => ?_) (fun hb258 => ?_)
        · skip
          refine zz_iincK ((x + 1 : Nat) : Int) rfl rfl rfl rfl (by omega) ?_
          refine zz_goto rfl ?_
          refine Ev.take 13 ?_
          exact ih (x + 1) Y nn g (by omega) hg (hK.skip (fun _ h9 => absurd ((hO x y hxw hy).mp h9).1 hb258))
        · skip
          refine zz_aload_n rfl rfl ?_
          refine zz_aload_n rfl rfl ?_
          refine zz_getf rfl fl_M_41 (m0 hA) rfl ?_
          refine zz_bipush rfl (by decide) ?_
          refine zz_iload rfl rfl ?_
          refine zz_imul rfl ?_
          refine zz_iload rfl rfl ?_
          refine zz_iadd rfl ?_
          refine zz_iald rfl (m10 hA) (by decide) ⟨by omega, by omega⟩ ?_
          refine zz_eq (show _ = D x y from (congrArg (X.2.1 10) (by omega)).trans (hwas x y hxw hy)) ?_
          refine zz_iload rfl rfl ?_
          refine zz_iload rfl rfl ?_
          refine zz_Vp rfl lk_M_158 cw_M_isNear rfl (m0 hA) (ct_MisNear hA (hD0 x y hxw hy) hfi htol) rfl rfl rfl rfl ?_
          refine zz_ifB_ne rfl (fun hb282 => ?_) (fun hb282 => ?_)
          · skip
            refine zz_aload_n rfl rfl ?_
            refine zz_getf rfl fl_M_44 (m0 hA) rfl ?_
            refine zz_iload rfl rfl ?_
            refine zz_dup2 rfl rfl rfl ?_
            refine zz_iald rfl (m11 hA) (by decide) ⟨by omega, by omega⟩ ?_
            refine zz_eq (show _ = ((Y y : Nat) : Int) from hg y hy) ?_
            refine zz_iconst rfl ?_
            refine zz_iload rfl rfl ?_
            refine zz_ishl rfl ⟨by omega, by omega⟩ ?_
            refine zz_ior rfl (show _ = Int32.ofInt ((Y y ||| 2 ^ x : Nat) : Int) from by rw [← zq_or]; congr 2; rw [Int.one_mul]; simp) ?_
            refine zz_iast rfl (m11 hA) (by decide) ⟨by omega, by omega⟩ ?_
            refine Ev.heap (w11 hA) ?_
            refine Ev.heap (show mH h A (mF (mF X 11 g) 11 (zup g ((y : Nat) : Int).toNat ((Y y ||| 2 ^ x : Nat) : Int))) = mH h A (mF X 11 (zup g y ((Y y ||| 2 ^ x : Nat) : Int))) from by rw [mF_mF, Int.toNat_natCast]) ?_
            refine zz_iincK ((nn + 1 : Nat) : Int) rfl rfl rfl rfl (by omega) ?_
            refine zz_iincK ((x + 1 : Nat) : Int) rfl rfl rfl rfl (by omega) ?_
            refine zz_goto rfl ?_
            refine Ev.take 13 ?_
            exact ih (x + 1) (zun Y y (Y y ||| 2 ^ x)) (nn + 1) _ (by omega) (hg.up y _) (hK.add hxw hy hbe ((hO x y hxw hy).mpr ⟨hb258, hb282⟩) (fun h9 => hb247 ⟨⟨by omega, by omega⟩, ⟨by omega, by omega⟩, h9⟩))
          · skip
            refine zz_goto rfl ?_
            refine zz_iincK ((x + 1 : Nat) : Int) rfl rfl rfl rfl (by omega) ?_
            refine zz_goto rfl ?_
            refine Ev.take 13 ?_
            exact ih (x + 1) Y nn g (by omega) hg (hK.skip (fun _ h9 => absurd ((hO x y hxw hy).mp h9).2 hb282))
    · skip
      refine zz_iload rfl rfl ?_
      refine zz_if_eq rfl (by omega) (fun hb236 => ?_) (fun hb236 => absurd hb236 (by first | decide | omega))
      refine zz_iincK ((x + 1 : Nat) : Int) rfl rfl rfl rfl (by omega) ?_
      refine zz_goto rfl ?_
      refine Ev.take 13 ?_
      exact ih (x + 1) Y nn g (by omega) hg (hK.skip (fun h9 _ => absurd h9 hbe))
theorem fl_o {A : Nat → Nat} {X : MX} (hA : mOk A) {n w ht : Nat} {R : Nat → Nat} (hc : mc X n w ht R) {l px py d tol fi : Int} {O : Nat → Nat} {D : Nat → Nat → Int} {sx sy : Nat} (hfi : zrg fi) (htol : 0 ≤ tol ∧ tol ≤ 255) (hwas : mwas X w ht D) (hD0 : ∀ x y, x < w → y < ht → zrg (D x y)) (hO : ∀ i j, i < w → j < ht → ((O j).testBit i = true ↔ (R j).testBit i = true ∧ zak (D i j) fi tol)) {Y0 : Nat → Nat} {n0 : Nat} {MC MS mc ms : Nat} {Q : ZR → ZH → Prop} (kx : ∀ Y nn g, mG g ht Y → mK O w ht sx sy Y0 n0 Y nn ht 0 → Ev Z (fun _ => True, m_M_flood, 4, MC, MS) 317 [.ref (A 0), zI l, zI px, zI py, zI d, zI tol, zI 1, zI fi, zI (nn : Nat), zI 1, zI (n0 : Nat), zI (ht : Nat)] [] (mH h A (mF X 11 g)) mc ms Q) : ∀ (m y : Nat) (Y : Nat → Nat) (nn : Nat) (g : Nat → Int), y + m = ht → mG g ht Y → mK O w ht sx sy Y0 n0 Y nn y 0 → Ev Z (fun _ => True, m_M_flood, 4, MC, MS) 154 [.ref (A 0), zI l, zI px, zI py, zI d, zI tol, zI 1, zI fi, zI (nn : Nat), zI 1, zI (n0 : Nat), zI (y : Nat)] [] (mH h A (mF X 11 g)) mc ms Q := by
  have hw24 := hc.2.2.2.2.1
  intro m
  induction m with
  | zero =>
    intro y Y nn g hy hg hK
    refine zz_iload rfl rfl ?_
    refine zz_aload_n rfl rfl ?_
    refine zz_Vp rfl lk_M_96 cw_M_h rfl (m0 hA) (ct_Mh hA (hc.F 11 _ rfl)) rfl rfl rfl rfl ?_
    refine zz_icmp_ge rfl (by omega) (by omega) (fun hb160 => ?_) (fun hb160 => absurd hb160 (by omega))
    obtain rfl : y = ht := by omega
    exact kx Y nn g hg hK
  | succ m ih =>
    intro y Y nn g hy hg hK
    refine zz_iload rfl rfl ?_
    refine zz_aload_n rfl rfl ?_
    refine zz_Vp rfl lk_M_96 cw_M_h rfl (m0 hA) (ct_Mh hA (hc.F 11 _ rfl)) rfl rfl rfl rfl ?_
    refine zz_icmp_ge rfl (by omega) (by omega) (fun hb160 => absurd hb160 (by omega)) (fun hb160 => ?_)
    refine zz_iconst rfl ?_
    refine zz_istore rfl rfl rfl ?_
    refine fl_i (sx := sx) (sy := sy) (Y0 := Y0) hA hc hfi htol hwas hD0 hO (by omega) (fun Y2 n2 g2 hg2 hK2 => ?_) w 0 Y nn g (by omega) hg hK
    refine zz_iincK ((y + 1 : Nat) : Int) rfl rfl rfl rfl (by omega) ?_
    refine zz_goto rfl ?_
    refine Ev.take 12 ?_
    exact ih (y + 1) Y2 n2 g2 (by omega) hg2 hK2.row
theorem fl_r {A : Nat → Nat} {X : MX} (hA : mOk A) {n w ht : Nat} {R : Nat → Nat} (hc : mc X n w ht R) {l px py d tol fi : Int} {O : Nat → Nat} {D : Nat → Nat → Int} {sx sy : Nat} (hfi : zrg fi) (htol : 0 ≤ tol ∧ tol ≤ 255) (hwas : mwas X w ht D) (hD0 : ∀ x y, x < w → y < ht → zrg (D x y)) (hO : ∀ i j, i < w → j < ht → ((O j).testBit i = true ↔ (R j).testBit i = true ∧ zak (D i j) fi tol)) {MC MS mc ms : Nat} {Q : ZR → ZH → Prop} (kx : ∀ Y nn g, mG g ht Y → mJ O w ht sx sy Y nn → zcz O w ht (fun i j => j < ht ∧ (Y j).testBit i = true) → Ev Z (fun _ => True, m_M_flood, 4, MC, MS) 334 [.ref (A 0), zI l, zI px, zI py, zI d, zI tol, zI 1, zI fi, zI (nn : Nat), zI 0] [] (mH h A (mF X 11 g)) mc ms Q) : ∀ (m : Nat) (Y : Nat → Nat) (nn : Nat) (g : Nat → Int), 577 ≤ nn + m → mG g ht Y → mJ O w ht sx sy Y nn → Ev Z (fun _ => True, m_M_flood, 4, MC, MS) 142 [.ref (A 0), zI l, zI px, zI py, zI d, zI tol, zI 1, zI fi, zI (nn : Nat), zI 1] [] (mH h A (mF X 11 g)) mc ms Q := by
  have hw24 := hc.2.2.2.2.1
  intro m
  induction m with
  | zero =>
    intro Y nn g hm hg hJ
    have := hJ.le hw24.1 hw24.2
    omega
  | succ m ih =>
    intro Y nn g hm hg hJ
    have hn576 := hJ.le hw24.1 hw24.2
    refine zz_iload rfl rfl ?_
    refine zz_if_eq rfl (by omega) (fun hb144 => absurd hb144 (by first | decide | omega)) (fun hb144 => ?_)
    refine zz_iload rfl rfl ?_
    refine zz_istore rfl rfl rfl ?_
    refine zz_iconst rfl ?_
    refine zz_istore rfl rfl rfl ?_
    refine fl_o (sx := sx) (sy := sy) (Y0 := Y) hA hc hfi htol hwas hD0 hO (fun Y2 n2 g2 hg2 hK2 => ?_) ht 0 Y nn g (by omega) hg (mK.st hJ)
    have hn2 := hK2.1.le hw24.1 hw24.2
    refine zz_iload rfl rfl ?_
    refine zz_iload rfl rfl ?_
    refine zz_icmp_le rfl (by omega) (by omega) (fun hb321 => ?_) (fun hb321 => ?_)
    · skip
      refine zz_iconst rfl ?_
      refine zz_istore rfl rfl rfl ?_
      refine zz_goto rfl ?_
      refine zz_iload rfl rfl ?_
      refine zz_if_eq rfl (by omega) (fun hb144 => ?_) (fun hb144 => absurd hb144 (by first | decide | omega))
      refine Ev.take 10 ?_
      exact kx Y2 n2 g2 hg2 hK2.1 (hK2.fin (by omega))
    · skip
      refine zz_iconst rfl ?_
      refine zz_goto rfl ?_
      refine zz_istore rfl rfl rfl ?_
      refine zz_goto rfl ?_
      refine Ev.take 10 ?_
      exact ih Y2 n2 g2 (by omega) hg2 hK2.1
theorem fl_c {A : Nat → Nat} {X : MX} (hA : mOk A) {l px py d tol : Int} {MC MS mc ms : Nat} {Q : ZR → ZH → Prop} (kx : Ev Z (fun _ => True, m_M_flood, 4, MC, MS) 103 [.ref (A 0), zI l, zI px, zI py, zI d, zI tol, zI 1, zI (24 : Nat)] [] (mH h A (mF X 11 (mzf (X.2.1 11) 0 24))) mc ms Q) : ∀ (m k : Nat), k + m = 24 → Ev Z (fun _ => True, m_M_flood, 4, MC, MS) 82 [.ref (A 0), zI l, zI px, zI py, zI d, zI tol, zI 1, zI (k : Nat)] [] (mH h A (mF X 11 (mzf (X.2.1 11) 0 k))) mc ms Q := by
  intro m
  induction m with
  | zero =>
    intro k hk
    refine zz_iload rfl rfl ?_
    refine zz_bipush rfl (by decide) ?_
    refine zz_icmp_ge rfl (by omega) (by omega) (fun hb86 => ?_) (fun hb86 => absurd hb86 (by omega))
    obtain rfl : k = 24 := by omega
    exact kx
  | succ m ih =>
    intro k hk
    refine zz_iload rfl rfl ?_
    refine zz_bipush rfl (by decide) ?_
    refine zz_icmp_ge rfl (by omega) (by omega) (fun hb86 => absurd hb86 (by omega)) (fun hb86 => ?_)
    refine zz_aload_n rfl rfl ?_
    refine zz_getf rfl fl_M_44 (m0 hA) rfl ?_
    refine zz_iload rfl rfl ?_
    refine zz_iconst rfl ?_
    refine zz_iast rfl (m11 hA) (by decide) ⟨by omega, by omega⟩ ?_
    refine Ev.heap (w11 hA) ?_
    refine Ev.heap (show mH h A (mF (mF X 11 (mzf (X.2.1 11) 0 k)) 11 (zup (mzf (X.2.1 11) 0 k) ((k : Nat) : Int).toNat 0)) = mH h A (mF X 11 (mzf (X.2.1 11) 0 (k + 1))) from by rw [mF_mF, mzf_up (by omega)]) ?_
    refine zz_iincK ((k + 1 : Nat) : Int) rfl rfl rfl rfl (by omega) ?_
    refine zz_goto rfl ?_
    exact ih (k + 1) (by omega)
theorem fl_p_i {A : Nat → Nat} {X : MX} (hA : mOk A) {n w ht : Nat} {R : Nat → Nat} (hc : mc X n w ht R) {l px py d tol fi : Int} {nn : Nat} {Y : Nat → Nat} (hl : 0 ≤ l ∧ l < 3) (hr : mG (X.2.1 11) ht Y) (hY : ∀ j, Y j < 2 ^ w) (hch : ∀ i j, i < w → j < ht → (Y j).testBit i = true → (R j).testBit i = true) {MC MS mc ms : Nat} {Q : ZR → ZH → Prop} {y : Nat} (hy : y < ht) (kx : Ev Z (fun _ => True, m_M_flood, 4, MC, MS) 386 [.ref (A 0), zI l, zI px, zI py, zI d, zI tol, zI 1, zI fi, zI (nn : Nat), zI 0, zI (y : Nat), zI (w : Nat)] [] (mH h A (mF X 1 (mq (X.2.1 1) (1728 * n + 576 * l.toNat) (mpR w Y) (fun _ _ => d) y w))) mc ms Q) : ∀ (m x : Nat), x + m = w → Ev Z (fun _ => True, m_M_flood, 4, MC, MS) 349 [.ref (A 0), zI l, zI px, zI py, zI d, zI tol, zI 1, zI fi, zI (nn : Nat), zI 0, zI (y : Nat), zI (x : Nat)] [] (mH h A (mF X 1 (mq (X.2.1 1) (1728 * n + 576 * l.toNat) (mpR w Y) (fun _ _ => d) y x))) mc ms Q := by
  have hn6 := hc.2.1
  have hw24 := hc.2.2.2.2.1
  intro m
  induction m with
  | zero =>
    intro x hx
    refine zz_iload rfl rfl ?_
    refine zz_aload_n rfl rfl ?_
    refine zz_Vp rfl lk_M_100 cw_M_w rfl (m0 hA) (ct_Mw hA (hc.F 1 _ rfl)) rfl rfl rfl rfl ?_
    refine zz_icmp_ge rfl (by omega) (by omega) (fun hb355 => ?_) (fun hb355 => absurd hb355 (by omega))
    obtain rfl : x = w := by omega
    exact kx
  | succ m ih =>
    intro x hx
    have hxw : x < w := by omega
    refine zz_iload rfl rfl ?_
    refine zz_aload_n rfl rfl ?_
    refine zz_Vp rfl lk_M_100 cw_M_w rfl (m0 hA) (ct_Mw hA (hc.F 1 _ rfl)) rfl rfl rfl rfl ?_
    refine zz_icmp_ge rfl (by omega) (by omega) (fun hb355 => absurd hb355 (by omega)) (fun hb355 => ?_)
    refine zz_aload_n rfl rfl ?_
    refine zz_iload rfl rfl ?_
    refine zz_iload rfl rfl ?_
    refine zz_Vp rfl lk_M_155 cw_M_isReached rfl (m0 hA) (ct_MisReached (Y := Y) hA (hc.F 1 _ rfl) hr hY ⟨by omega, by omega⟩ ⟨by omega, by omega⟩) rfl rfl rfl rfl ?_
    refine zz_ifB_eq rfl (fun hb366 => ?_) (fun hb366 => ?_)
    · skip
      refine Ev.heap (show _ = mH h A (mF X 1 (mq (X.2.1 1) (1728 * n + 576 * l.toNat) (mpR w Y) (fun _ _ => d) y (x + 1))) from by rw [mq_f (x := x) (y := y) (show mpR w Y x y = false from by rw [mpR_t hxw]; cases hbb : (Y y).testBit x; rfl; exact absurd ⟨⟨by omega, by omega⟩, ⟨by omega, by omega⟩, hbb⟩ hb366)]) ?_
      refine zz_iincK ((x + 1 : Nat) : Int) rfl rfl rfl rfl (by omega) ?_
      refine zz_goto rfl ?_
      exact ih (x + 1) (by omega)
    · skip
      refine zz_aload_n rfl rfl ?_
      refine zz_iload_n rfl rfl ?_
      refine zz_iload rfl rfl ?_
      refine zz_iload rfl rfl ?_
      refine zz_iload rfl rfl ?_
      refine zz_Vu rfl lk_M_138 cw_M_put rfl (m0 hA) (ct_Mput hA (hc.F 1 _ rfl) hxw hy hl) rfl rfl rfl rfl ?_
      refine Ev.heap (show _ = mH h A (mF X 1 (mq (X.2.1 1) (1728 * n + 576 * l.toNat) (mpR w Y) (fun _ _ => d) y (x + 1))) from by rw [if_pos (hch x y hxw hy hb366.2.2), mF_mF]; exact congrArg (fun z => mH h A (mF X 1 z)) (mq_t (f := X.2.1 1) (b := 1728 * n + 576 * l.toNat) (p := mpR w Y) (G := fun _ _ => d) (x := x) (y := y) (by omega) (by rw [mpR_t hxw]; exact hb366.2.2) rfl rfl)) ?_
      refine zz_iincK ((x + 1 : Nat) : Int) rfl rfl rfl rfl (by omega) ?_
      refine zz_goto rfl ?_
      exact ih (x + 1) (by omega)
theorem fl_p_o {A : Nat → Nat} {X : MX} (hA : mOk A) {n w ht : Nat} {R : Nat → Nat} (hc : mc X n w ht R) {l px py d tol fi : Int} {nn : Nat} {Y : Nat → Nat} (hl : 0 ≤ l ∧ l < 3) (hr : mG (X.2.1 11) ht Y) (hY : ∀ j, Y j < 2 ^ w) (hch : ∀ i j, i < w → j < ht → (Y j).testBit i = true → (R j).testBit i = true) {MC MS mc ms : Nat} {Q : ZR → ZH → Prop} (kx : Ev Z (fun _ => True, m_M_flood, 4, MC, MS) 392 [.ref (A 0), zI l, zI px, zI py, zI d, zI tol, zI 1, zI fi, zI (nn : Nat), zI 0, zI (ht : Nat)] [] (mH h A (mF X 1 (mq (X.2.1 1) (1728 * n + 576 * l.toNat) (mpR w Y) (fun _ _ => d) ht 0))) mc ms Q) : ∀ (m y : Nat), y + m = ht → Ev Z (fun _ => True, m_M_flood, 4, MC, MS) 337 [.ref (A 0), zI l, zI px, zI py, zI d, zI tol, zI 1, zI fi, zI (nn : Nat), zI 0, zI (y : Nat)] [] (mH h A (mF X 1 (mq (X.2.1 1) (1728 * n + 576 * l.toNat) (mpR w Y) (fun _ _ => d) y 0))) mc ms Q := by
  have hn6 := hc.2.1
  have hw24 := hc.2.2.2.2.1
  intro m
  induction m with
  | zero =>
    intro y hy
    refine zz_iload rfl rfl ?_
    refine zz_aload_n rfl rfl ?_
    refine zz_Vp rfl lk_M_96 cw_M_h rfl (m0 hA) (ct_Mh hA (hc.F 1 _ rfl)) rfl rfl rfl rfl ?_
    refine zz_icmp_ge rfl (by omega) (by omega) (fun hb343 => ?_) (fun hb343 => absurd hb343 (by omega))
    obtain rfl : y = ht := by omega
    exact kx
  | succ m ih =>
    intro y hy
    refine zz_iload rfl rfl ?_
    refine zz_aload_n rfl rfl ?_
    refine zz_Vp rfl lk_M_96 cw_M_h rfl (m0 hA) (ct_Mh hA (hc.F 1 _ rfl)) rfl rfl rfl rfl ?_
    refine zz_icmp_ge rfl (by omega) (by omega) (fun hb343 => absurd hb343 (by omega)) (fun hb343 => ?_)
    refine zz_iconst rfl ?_
    refine zz_istore rfl rfl rfl ?_
    refine fl_p_i hA hc hl hr hY hch (by omega) ?_ w 0 (by omega)
    refine zz_iincK ((y + 1 : Nat) : Int) rfl rfl rfl rfl (by omega) ?_
    refine zz_goto rfl ?_
    refine Ev.take 11 ?_
    refine Ev.heap (show _ = mH h A (mF X 1 (mq (X.2.1 1) (1728 * n + 576 * l.toNat) (mpR w Y) (fun _ _ => d) (y + 1) 0)) from by rw [mq_e mpR_lt]) ?_
    exact ih (y + 1) (by omega)
theorem md_flood {A : Nat → Nat} {X : MX} (hA : mOk A) {S : SS} (hM : mrel X S) (hk : okS S) {l px py d tol : Int} (hl : zrg l) (hpx : zrg px) (hpy : zrg py) (htl : zrg tol) : Ct Z m_M_flood 4 0 0 [.ref (A 0), zI l, zI px, zI py, zI d, zI tol] (mH h A X) (mdI h A S (sLy S l ∧ ((0 ≤ px ∧ px ≤ ((sw (sCur S)) : Int) - 1) ∧ 0 ≤ py ∧ py ≤ ((sh (sCur S)) : Int) - 1) ∧ 0 ≤ tol ∧ tol ≤ 255) (True) (((zc2 (fun j i => zBool (sRch (sCur S) l.toNat px.toNat py.toNat tol i j)) (sw (sCur S)) (sh (sCur S)) : Nat) : Int)) (sAdd S (sPut (sCur S) l (fun (x y : Nat) => if zBool (sRch (sCur S) l.toNat px.toNat py.toNat tol x y) = true then d else (sD (sl (sCur S) l.toNat)) x y)))) := by
  refine zct rfl (by decide) ok_M_flood rfl rfl ?_
  refine zz_aload_n rfl rfl ?_
  refine zz_iload_n rfl rfl ?_
  refine zz_Vp rfl lk_M_89 cw_M_isLayer rfl (m0 hA) (ct_MisLayer hA hM hk hl) rfl rfl rfl rfl ?_
  refine zz_ifB_eq rfl (fun hb5 => ?_) (fun hb5 => ?_)
  · skip
    refine zz_iconst rfl ?_
    refine zz_istore rfl rfl rfl ?_
    refine zz_aload_n rfl rfl ?_
    refine zz_iload rfl rfl ?_
    refine zz_if_ne rfl (by omega) (fun hb58 => absurd hb58 (by first | decide | omega)) (fun hb58 => ?_)
    refine zz_iconst rfl ?_
    refine zz_goto rfl ?_
    refine zz_V rfl lk_M_75 cw_M_refuse rfl (m0 hA) (ct_Mrefuse1 hA) rfl rfl rfl rfl ?_
    rintro _ _ ⟨rfl, rfl⟩
    refine zaft_v ?_
    refine zz_if_eq rfl ⟨by decide, by decide⟩ (fun hb69 => absurd hb69 (by decide)) (fun hb69 => ?_)
    refine zz_iconst rfl ?_
    refine zz_iret rfl rfl ⟨0, rfl, z00, _, rfl, Or.inl ⟨(fun g => hb5 g.1), rfl, hM.S0 _⟩⟩
  · skip
    have hhas := hb5.1
    have hc : mc X (sNow S) (sw (sCur S)) (sh (sCur S)) (sr (sCur S)) := hM.mc hk hhas
    have hw24 := hc.2.2.2.2.1
    refine zz_iload_n rfl rfl ?_
    refine zz_iconst rfl ?_
    refine zz_aload_n rfl rfl ?_
    refine zz_Vp rfl lk_M_100 cw_M_w rfl (m0 hA) (ct_Mw hA hc) rfl rfl rfl rfl ?_
    refine zz_iconst rfl ?_
    refine zz_isub rfl ?_
    refine zz_Sp rfl lk_M_71 cw_M_in (ct_Min hpx ⟨by decide, by decide⟩ ⟨by omega, by omega⟩) rfl rfl rfl rfl ?_
    refine zz_ifB_eq rfl (fun hb19 => ?_) (fun hb19 => ?_)
    · skip
      refine zz_iconst rfl ?_
      refine zz_istore rfl rfl rfl ?_
      refine zz_aload_n rfl rfl ?_
      refine zz_iload rfl rfl ?_
      refine zz_if_ne rfl (by omega) (fun hb58 => absurd hb58 (by first | decide | omega)) (fun hb58 => ?_)
      refine zz_iconst rfl ?_
      refine zz_goto rfl ?_
      refine zz_V rfl lk_M_75 cw_M_refuse rfl (m0 hA) (ct_Mrefuse1 hA) rfl rfl rfl rfl ?_
      rintro _ _ ⟨rfl, rfl⟩
      refine zaft_v ?_
      refine zz_if_eq rfl ⟨by decide, by decide⟩ (fun hb69 => absurd hb69 (by decide)) (fun hb69 => ?_)
      refine zz_iconst rfl ?_
      refine zz_iret rfl rfl ⟨0, rfl, z00, _, rfl, Or.inl ⟨(fun g => hb19 g.2.1.1), rfl, hM.S0 _⟩⟩
    · skip
      refine zz_iload_n rfl rfl ?_
      refine zz_iconst rfl ?_
      refine zz_aload_n rfl rfl ?_
      refine zz_Vp rfl lk_M_96 cw_M_h rfl (m0 hA) (ct_Mh hA hc) rfl rfl rfl rfl ?_
      refine zz_iconst rfl ?_
      refine zz_isub rfl ?_
      refine zz_Sp rfl lk_M_71 cw_M_in (ct_Min hpy ⟨by decide, by decide⟩ ⟨by omega, by omega⟩) rfl rfl rfl rfl ?_
      refine zz_ifB_eq rfl (fun hb33 => ?_) (fun hb33 => ?_)
      · skip
        refine zz_iconst rfl ?_
        refine zz_istore rfl rfl rfl ?_
        refine zz_aload_n rfl rfl ?_
        refine zz_iload rfl rfl ?_
        refine zz_if_ne rfl (by omega) (fun hb58 => absurd hb58 (by first | decide | omega)) (fun hb58 => ?_)
        refine zz_iconst rfl ?_
        refine zz_goto rfl ?_
        refine zz_V rfl lk_M_75 cw_M_refuse rfl (m0 hA) (ct_Mrefuse1 hA) rfl rfl rfl rfl ?_
        rintro _ _ ⟨rfl, rfl⟩
        refine zaft_v ?_
        refine zz_if_eq rfl ⟨by decide, by decide⟩ (fun hb69 => absurd hb69 (by decide)) (fun hb69 => ?_)
        refine zz_iconst rfl ?_
        refine zz_iret rfl rfl ⟨0, rfl, z00, _, rfl, Or.inl ⟨(fun g => hb33 g.2.1.2), rfl, hM.S0 _⟩⟩
      · skip
        refine zz_iload rfl rfl ?_
        refine zz_iconst rfl ?_
        refine zz_sipush rfl (by decide) ?_
        refine zz_Sp rfl lk_M_71 cw_M_in (ct_Min htl ⟨by decide, by decide⟩ ⟨by decide, by decide⟩) rfl rfl rfl rfl ?_
        refine zz_ifB_eq rfl (fun hb45 => ?_) (fun hb45 => ?_)
        · skip
          refine zz_iconst rfl ?_
          refine zz_istore rfl rfl rfl ?_
          refine zz_aload_n rfl rfl ?_
          refine zz_iload rfl rfl ?_
          refine zz_if_ne rfl (by omega) (fun hb58 => absurd hb58 (by first | decide | omega)) (fun hb58 => ?_)
          refine zz_iconst rfl ?_
          refine zz_goto rfl ?_
          refine zz_V rfl lk_M_75 cw_M_refuse rfl (m0 hA) (ct_Mrefuse1 hA) rfl rfl rfl rfl ?_
          rintro _ _ ⟨rfl, rfl⟩
          refine zaft_v ?_
          refine zz_if_eq rfl ⟨by decide, by decide⟩ (fun hb69 => absurd hb69 (by decide)) (fun hb69 => ?_)
          refine zz_iconst rfl ?_
          refine zz_iret rfl rfl ⟨0, rfl, z00, _, rfl, Or.inl ⟨(fun g => hb45 g.2.2), rfl, hM.S0 _⟩⟩
        · skip
          refine zz_iconst rfl ?_
          refine zz_goto rfl ?_
          refine zz_istore rfl rfl rfl ?_
          refine zz_aload_n rfl rfl ?_
          refine zz_iload rfl rfl ?_
          refine zz_if_ne rfl (by omega) (fun hb58 => ?_) (fun hb58 => absurd hb58 (by first | decide | omega))
          refine zz_iconst rfl ?_
          refine zz_V rfl lk_M_75 cw_M_refuse rfl (m0 hA) (ct_Mrefuse0 hA) rfl rfl rfl rfl ?_
          rintro _ _ ⟨rfl, rfl⟩
          refine zaft_v ?_
          refine zz_if_eq rfl ⟨by decide, by decide⟩ (fun hb69 => ?_) (fun hb69 => absurd hb69 (by decide))
          obtain ⟨a, rfl⟩ := Int.eq_ofNat_of_zero_le hb19.1
          obtain ⟨b, rfl⟩ := Int.eq_ofNat_of_zero_le hb33.1
          rw [Int.toNat_natCast a, Int.toNat_natCast b]
          refine zz_aload_n rfl rfl ?_
          refine zz_iload_n rfl rfl ?_
          refine zz_V rfl lk_M_135 cw_M_beginTool rfl (m0 hA) (ct_Mbeg hA (hM.S0 _) hk hb5) rfl rfl rfl rfl ?_
          rintro _ _ ⟨rfl, X1, rfl, h0, hM1, hwas⟩
          refine zaft_u ?_
          have hly := hb5
          have hP : okP (sCur S) := (hk.1 hly.1).2.2 _ (hk.1 hly.1).1
          obtain ⟨hc1, hs1⟩ := mradd hM1 hk hly.1 hP
          have hn3 := hP.2.2.1.2
          obtain ⟨hl0, hl1⟩ := id hly.2
          have hDr : ∀ x y, x < (sw (sCur S)) → y < (sh (sCur S)) → zrg ((sD (sl (sCur S) l.toNat)) x y) := (hP.2.2.2.1 l.toNat (by omega)).2.2.2
          refine zz_iconst rfl ?_
          refine zz_istore rfl rfl rfl ?_
          refine Ev.heap (show mH h A X1 = mH h A (mF X1 11 (mzf (X1.2.1 11) 0 0)) from by rw [mzf_0, mF_id]) ?_
          refine fl_c hA ?_ 24 0 (by omega)
          refine zz_aload_n rfl rfl ?_
          refine zz_iload_n rfl rfl ?_
          refine zz_iload_n rfl rfl ?_
          refine zz_Vp rfl lk_M_110 cw_M_isChosen rfl (m0 hA) (ct_Mchosen hA (hc1.F 11 _ rfl) (show a < (sw (sCur S)) by omega) (show b < (sh (sCur S)) by omega)) rfl rfl rfl rfl ?_
          refine zz_ifB_ne rfl (fun hb109 => ?_) (fun hb109 => ?_)
          · skip
            refine zz_aload_n rfl rfl ?_
            refine zz_getf rfl fl_M_41 (m0 hA) rfl ?_
            refine zz_bipush rfl (by decide) ?_
            refine zz_iload_n rfl rfl ?_
            refine zz_imul rfl ?_
            refine zz_iload_n rfl rfl ?_
            refine zz_iadd rfl ?_
            refine zz_iald rfl (m10 hA) (by decide) ⟨by omega, by omega⟩ ?_
            refine zz_eq (show _ = (sD (sl (sCur S) l.toNat)) a b from (congrArg (X1.2.1 10) (by omega)).trans (hwas a b (by omega) (by omega))) ?_
            refine zz_istore rfl rfl rfl ?_
            refine zz_aload_n rfl rfl ?_
            refine zz_getf rfl fl_M_44 (m0 hA) rfl ?_
            refine zz_iload_n rfl rfl ?_
            refine zz_iconst rfl ?_
            refine zz_iload_n rfl rfl ?_
            refine zz_ishl rfl ⟨by omega, by omega⟩ ?_
            refine zz_iast rfl (m11 hA) (by decide) ⟨by omega, by omega⟩ ?_
            refine Ev.heap (w11 hA) ?_
            obtain ⟨g0, hg0⟩ : ∃ g, g = zup (mzf (X1.2.1 11) 0 24) b ((0 ||| 2 ^ a : Nat) : Int) := ⟨_, rfl⟩
            refine Ev.heap (show mH h A (mF (mF X1 11 (mzf (X1.2.1 11) 0 24)) 11 (zup (mzf (X1.2.1 11) 0 24) ((b : Nat) : Int).toNat (1 * 2 ^ ((a : Nat) : Int).toNat))) = mH h A (mF X1 11 g0) from by rw [mF_mF, hg0, Int.toNat_natCast, Int.toNat_natCast, Int.one_mul, Nat.zero_or, Int.natCast_pow]; rfl) ?_
            have hgg : mG g0 (sh (sCur S)) (zun (fun _ => 0) b (0 ||| 2 ^ a)) := by
              rw [hg0]
              refine mG.up (fun j hj => ?_) b _
              unfold mzf
              rw [if_pos (by omega)]
              rfl
            have hzk : zak ((sD (sl (sCur S) l.toNat)) a b) ((sD (sl (sCur S) l.toNat)) a b) tol := by
              have e0 : ∀ z : Int, zab (z - z) ≤ tol := fun z => by unfold zab; split <;> omega
              exact ⟨e0 _, e0 _, e0 _, e0 _⟩
            have hO : ∀ i j, i < (sw (sCur S)) → j < (sh (sCur S)) → (((sOp (sCur S) l.toNat a b tol) j).testBit i = true ↔ (sr (sCur S) j).testBit i = true ∧ zak ((sD (sl (sCur S) l.toNat)) i j) ((sD (sl (sCur S) l.toNat)) a b) tol) := fun i j hi hj => by
              unfold sOp
              rw [zro_bit, decide_eq_true hi, Bool.true_and, decide_eq_true_eq]
            have hst : ((sOp (sCur S) l.toNat a b tol) b).testBit a = true := (hO a b (by omega) (by omega)).mpr ⟨hb109, hzk⟩
            refine zz_iconst rfl ?_
            refine zz_istore rfl rfl rfl ?_
            refine zz_iconst rfl ?_
            refine zz_istore rfl rfl rfl ?_
            refine fl_r (sx := a) (sy := b) (O := (sOp (sCur S) l.toNat a b tol)) (D := (sD (sl (sCur S) l.toNat))) hA hc1 (hDr a b (by omega) (by omega)) hb45 hwas hDr hO (fun Y nn g hg hJ hcl => ?_) 577 _ 1 g0 (by omega) hgg (mJ.start (by omega) (by omega) hst)
            have hrc : ∀ i j, j < (sh (sCur S)) → ((Y j).testBit i = true ↔ sRch (sCur S) l.toNat a b tol i j) := fun i j hj => zrch_of (by omega) hJ.1 hJ.2.1 (fun _ => hJ.2.2.1) hcl hj
            have hopn : ∀ i j, i < (sw (sCur S)) → j < (sh (sCur S)) → (Y j).testBit i = true → ((sOp (sCur S) l.toNat a b tol) j).testBit i = true := fun i j hi hj hb => hJ.2.1 (fun i j => ((sOp (sCur S) l.toNat a b tol) j).testBit i = true) (fun i j i2 j2 _ _ _ _ h9 => h9) (fun h9 => h9) i j hj hb
            have hch : ∀ i j, i < (sw (sCur S)) → j < (sh (sCur S)) → (Y j).testBit i = true → (sr (sCur S) j).testBit i = true := fun i j hi hj hb => ((hO i j hi hj).mp (hopn i j hi hj hb)).1
            have hn576 := hJ.le hw24.1 hw24.2
            refine zz_iconst rfl ?_
            refine zz_istore rfl rfl rfl ?_
            refine Ev.take 11 ?_
            refine Ev.heap (show _ = mH h A (mF (mF X1 11 g) 1 (mq ((mF X1 11 g).2.1 1) (1728 * sN1 S + 576 * l.toNat) (mpR (sw (sCur S)) Y) (fun _ _ => d) 0 0)) from by rw [mq_0, mF_id]) ?_
            refine fl_p_o (X := mF X1 11 g) hA (hc1.F 11 _ rfl) ⟨by omega, by omega⟩ hg hJ.1 hch ?_ (sh (sCur S)) 0 (by omega)
            refine zz_iload rfl rfl ?_
            refine zz_iret rfl rfl ⟨_, rfl, ⟨by omega, by omega⟩, _, rfl, Or.inr (Or.inr ⟨⟨hly, ⟨hb19, hb33⟩, hb45⟩, trivial, h0, ?_, ?_⟩)⟩
            · rw [hJ.2.2.2, zc2_congr (sh (sCur S)) (fun j i hj hi => zBool_eq (hrc i j hj))]
            · refine (hM1.F11 g).flood hk hhas hP ⟨hl0, hl1⟩ hch (fun i j hi hj => ?_)
              by_cases hb : (Y j).testBit i = true
              · rw [if_pos hb, if_pos (zBool_t.mpr ((hrc i j hj).mp hb))]
              · rw [if_neg hb, if_neg (fun h9 => hb ((hrc i j hj).mpr (zBool_t.mp h9)))]
          · skip
            refine zz_iconst rfl ?_
            have hno : ∀ i j, ¬ sRch (sCur S) l.toNat a b tol i j := fun i j h9 => h9 (fun _ _ => False) (fun _ _ _ _ h8 _ _ _ _ => h8) (fun h8 => by
              unfold sOp at h8
              rw [zro_bit, decide_eq_true (show a < (sw (sCur S)) by omega), Bool.true_and, decide_eq_true_eq] at h8
              exact hb109 h8.1)
            refine zz_iret rfl rfl ⟨0, rfl, z00, _, rfl, Or.inr (Or.inr ⟨⟨hly, ⟨hb19, hb33⟩, hb45⟩, trivial, h0, ?_, ?_⟩)⟩
            · rw [zc2_zero (fun j i => by cases hb : zBool (sRch (sCur S) l.toNat a b tol i j); rfl; exact absurd (zBool_t.mp hb) (hno i j)) (sh (sCur S))]
              rfl
            · have e9 := (hM1.F11 (mzf (X1.2.1 11) 0 24)).flood (Y := fun _ => 0) (d := d) (G' := (fun (x y : Nat) => if zBool (sRch (sCur S) l.toNat a b tol x y) = true then d else (sD (sl (sCur S) l.toNat)) x y)) hk hhas hP ⟨hl0, hl1⟩ (fun i j _ _ h9 => absurd h9 (fun h8 => z0b h8)) (fun i j _ _ => by rw [if_neg (fun h9 => hno i j (zBool_t.mp h9)), if_neg (fun h8 => z0b h8)])
              rw [mq_none (fun i j => by unfold mpR; rw [Nat.zero_testBit, Bool.and_false]), mF_id] at e9
              exact e9
end MFL
