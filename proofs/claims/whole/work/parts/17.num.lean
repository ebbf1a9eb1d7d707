section NU
variable {Z : ZC} {h : ZH}
theorem ct_isInEllipse {x y w e : Int} (hx : 0 ≤ x ∧ x < w) (hy : 0 ≤ y ∧ y < e) (hw : w ≤ 1000) (he : e ≤ 1000) : Ct Z m_TS_isInEllipse 0 0 0 [zI x, zI y, zI w, zI e] h (zP (zI (zb (zel x y w e))) h) := by
  have hr := zel_rg hx hy hw he
  refine zct rfl (by decide) ok_TS_isInEllipse rfl rfl ?_
  refine zz_ldc2 rfl cs_TS_271 ?_
  refine zz_iload_n rfl rfl ?_
  refine zz_i2l rfl (by omega) ?_
  refine zz_lmul rfl ?_
  refine zz_lconst (z := 1) rfl (by decide) ?_
  refine zz_ladd rfl ?_
  refine zz_iload_n rfl rfl ?_
  refine zz_i2l rfl (by omega) ?_
  refine zz_lsub rfl ?_
  refine zz_ldc2 rfl cs_TS_271 ?_
  refine zz_iload_n rfl rfl ?_
  refine zz_i2l rfl (by omega) ?_
  refine zz_lmul rfl ?_
  refine zz_lconst (z := 1) rfl (by decide) ?_
  refine zz_ladd rfl ?_
  refine zz_iload_n rfl rfl ?_
  refine zz_i2l rfl (by omega) ?_
  refine zz_lsub rfl ?_
  refine zz_lmul rfl ?_
  refine zz_lstore rfl rfl rfl ?_
  refine zz_ldc2 rfl cs_TS_271 ?_
  refine zz_iload_n rfl rfl ?_
  refine zz_i2l rfl (by omega) ?_
  refine zz_lmul rfl ?_
  refine zz_lconst (z := 1) rfl (by decide) ?_
  refine zz_ladd rfl ?_
  refine zz_iload_n rfl rfl ?_
  refine zz_i2l rfl (by omega) ?_
  refine zz_lsub rfl ?_
  refine zz_ldc2 rfl cs_TS_271 ?_
  refine zz_iload_n rfl rfl ?_
  refine zz_i2l rfl (by omega) ?_
  refine zz_lmul rfl ?_
  refine zz_lconst (z := 1) rfl (by decide) ?_
  refine zz_ladd rfl ?_
  refine zz_iload_n rfl rfl ?_
  refine zz_i2l rfl (by omega) ?_
  refine zz_lsub rfl ?_
  refine zz_lmul rfl ?_
  refine zz_lstore rfl rfl rfl ?_
  refine zz_iload_n rfl rfl ?_
  refine zz_i2l rfl (by omega) ?_
  refine zz_iload_n rfl rfl ?_
  refine zz_i2l rfl (by omega) ?_
  refine zz_lmul rfl ?_
  refine zz_lstore rfl rfl rfl ?_
  refine zz_iload_n rfl rfl ?_
  refine zz_i2l rfl (by omega) ?_
  refine zz_iload_n rfl rfl ?_
  refine zz_i2l rfl (by omega) ?_
  refine zz_lmul rfl ?_
  refine zz_lstore rfl rfl rfl ?_
  refine zz_lload rfl rfl ?_
  refine zz_lload rfl rfl ?_
  refine zz_lmul rfl ?_
  refine zz_lload rfl rfl ?_
  refine zz_lload rfl rfl ?_
  refine zz_lmul rfl ?_
  refine zz_ladd rfl ?_
  refine zz_lload rfl rfl ?_
  refine zz_lload rfl rfl ?_
  refine zz_lmul rfl ?_
  refine zz_lcmp rfl (by omega) (by omega) ?_
  refine zz_if_gt rfl (by split; decide; split <;> decide) (fun hb81 => ?_) (fun hb81 => ?_)
  · skip
    refine zz_iconst rfl ?_
    refine zz_zret rfl rfl rfl (zret_f (fun h9 => absurd (zlcg.mp hb81) (by omega)))
  · skip
    refine zz_iconst rfl ?_
    refine zz_goto rfl ?_
    refine zz_zret rfl rfl rfl (zret_t (Int.not_lt.mp (fun h9 => hb81 (zlcg.mpr h9))))
theorem ct_joinedRow {A B : Nat} {k : Int} (hk : 0 ≤ k ∧ k ≤ 3) : Ct Z m_TS_joinedRow 0 0 0 [zI A, zI B, zI k] h (zP (zI (zjr A B k)) h) := by
  have hc : k = 0 ∨ k = 1 ∨ k = 2 ∨ k = 3 := by omega
  rcases hc with rfl | rfl | rfl | rfl
  · refine zct rfl (by decide) ok_TS_joinedRow rfl rfl ?_
    refine zz_iload_n rfl rfl ?_
    refine zz_tsw (tg := 28) rfl (by decide) (by decide) (by decide) rfl rfl ?_
    refine zz_iload_n rfl rfl ?_
    refine zz_iret rfl rfl (zret_e rfl)
  · refine zct rfl (by decide) ok_TS_joinedRow rfl rfl ?_
    refine zz_iload_n rfl rfl ?_
    refine zz_tsw (tg := 30) rfl (by decide) (by decide) (by decide) rfl rfl ?_
    refine zz_iload_n rfl rfl ?_
    refine zz_iload_n rfl rfl ?_
    refine zz_ior rfl (zq_or A B) ?_
    refine zz_iret rfl rfl (zret_e rfl)
  · refine zct rfl (by decide) ok_TS_joinedRow rfl rfl ?_
    refine zz_iload_n rfl rfl ?_
    refine zz_tsw (tg := 34) rfl (by decide) (by decide) (by decide) rfl rfl ?_
    refine zz_iload_n rfl rfl ?_
    refine zz_iload_n rfl rfl ?_
    refine zz_iconst rfl ?_
    refine zz_ixor rfl (zq_not _) ?_
    refine zz_iand rfl (zq_andnot A B) ?_
    refine zz_iret rfl rfl (zret_e rfl)
  · refine zct rfl (by decide) ok_TS_joinedRow rfl rfl ?_
    refine zz_iload_n rfl rfl ?_
    refine zz_tswD (tg := 40) rfl (by decide) (by decide) rfl ?_
    refine zz_iload_n rfl rfl ?_
    refine zz_iload_n rfl rfl ?_
    refine zz_iand rfl (zq_and A B) ?_
    refine zz_iret rfl rfl (zret_e rfl)
theorem ztm {x y : Int} (hx : zrg x) (hx0 : x < 0) (hy : 0 < y ∧ y < 2147483648) : zrg (x.tdiv y * y) := by
  have h1 := Int.mul_tdiv_add_tmod x y
  have e1 : y * x.tdiv y = x.tdiv y * y := Int.mul_comm _ _
  have e : x.tmod y = -((-x).tmod y) := by rw [Int.neg_tmod, Int.neg_neg]
  rw [e, Int.tmod_eq_emod_of_nonneg (by omega)] at h1
  have h3 := Int.emod_nonneg (-x) (by omega : y ≠ 0)
  have h5 : 0 ≤ (-x) / y := Int.ediv_nonneg (by omega) (by omega)
  have h6 := Int.emod_add_mul_ediv (-x) y
  have h7 : 0 ≤ y * ((-x) / y) := Int.mul_nonneg (by omega) h5
  have h4 : (-x) % y ≤ -x := by omega
  constructor <;> omega
theorem ct_floorDiv {x y : Int} (hx : zrg x) (hy : 0 < y ∧ y < 2147483648) : Ct Z m_Math_floorDiv 0 0 0 [zI x, zI y] h (zP (zI (x / y)) h) := by
  refine zctF rfl (by decide +kernel) ok_Math_floorDiv rfl rfl ?_
  refine zz_iload_n rfl rfl ?_
  refine zz_iload_n rfl rfl ?_
  refine zz_idiv rfl hx ⟨by omega, by omega⟩ (by omega) ?_
  refine zz_istore_n rfl rfl rfl ?_
  refine zz_iload_n rfl rfl ?_
  refine zz_iload_n rfl rfl ?_
  obtain ⟨v, hv1, hv2, hv3⟩ := zq_xsg hx hy
  refine zz_ixor rfl hv1 ?_
  refine zz_if_ge rfl hv2 (fun hb7 => ?_) (fun hb7 => ?_)
  · skip
    refine zz_iload_n rfl rfl ?_
    refine zz_iret rfl rfl (zret_e (Int.tdiv_eq_ediv_of_nonneg (hv3.mp hb7)))
  · skip
    refine zz_iload_n rfl rfl ?_
    refine zz_iload_n rfl rfl ?_
    refine zz_imul rfl ?_
    refine zz_iload_n rfl rfl ?_
    have hx0 : x < 0 := by omega
    have ht := ztd (x := x) hy.1
    refine zz_icmp_eq rfl (ztm hx hx0 hy) hx (fun hb14 => ?_) (fun hb14 => ?_)
    · skip
      refine zz_iload_n rfl rfl ?_
      refine zz_iret rfl rfl (zret_e (ht.1 hx0 hb14).symm)
    · skip
      refine zz_iload_n rfl rfl ?_
      refine zz_iconst rfl ?_
      refine zz_isub rfl ?_
      refine zz_iret rfl rfl (zret_e (ht.2 hx0 hb14).symm)
theorem ct_partOf {a s l : Int} (ha : -200 ≤ a ∧ a ≤ 200) (hs : 0 ≤ s ∧ s ≤ l) (hl : l ≤ 200) : Ct Z m_TS_partOf 1 0 0 [zI a, zI s, zI l] h (zP (zI (zpa a s l)) h) := by
  have hm := zmula (a := 2 * s) (b := a) (A := 400) (B := 200) ⟨by omega, by omega⟩ ha
  refine zct rfl (by decide) ok_TS_partOf rfl rfl ?_
  refine zz_iload_n rfl rfl ?_
  refine zz_if_ne rfl (by omega) (fun hb1 => ?_) (fun hb1 => ?_)
  · skip
    refine zz_iconst rfl ?_
    refine zz_iload_n rfl rfl ?_
    refine zz_imul rfl ?_
    refine zz_iload_n rfl rfl ?_
    refine zz_imul rfl ?_
    refine zz_iload_n rfl rfl ?_
    refine zz_iadd rfl ?_
    refine zz_iconst rfl ?_
    refine zz_iload_n rfl rfl ?_
    refine zz_imul rfl ?_
    refine zz_Sp rfl lk_TS_296 cw_Math_floorDiv (ct_floorDiv ⟨by omega, by omega⟩ ⟨by omega, by omega⟩) rfl rfl rfl rfl ?_
    refine zz_iret rfl rfl (zret_e (by unfold zpa; rw [if_neg hb1]))
  · skip
    refine zz_iconst rfl ?_
    refine zz_goto rfl ?_
    refine zz_iret rfl rfl (zret_e (by unfold zpa; rw [if_pos hb1]))
end NU
