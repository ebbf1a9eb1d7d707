section HP
variable {Z : ZC} {h : ZH}
theorem ct_isWithin {v a b : Int} (hv : zrg v) (ha : zrg a) (hb : zrg b) : Ct Z m_TS_isWithin 0 0 0 [zI v, zI a, zI b] h (zP (zI (zb (a ≤ v ∧ v ≤ b))) h) := by
  refine zct rfl (by decide) ok_TS_isWithin rfl rfl ?_
  refine zz_iload_n rfl rfl ?_
  refine zz_iload_n rfl rfl ?_
  refine zz_icmp_lt rfl (by omega) (by omega) (fun hb2 => ?_) (fun hb2 => ?_)
  · skip
    refine zz_iconst rfl ?_
    refine zz_zret rfl rfl rfl (zret_f (fun h9 => by omega))
  · skip
    refine zz_iload_n rfl rfl ?_
    refine zz_iload_n rfl rfl ?_
    refine zz_icmp_gt rfl (by omega) (by omega) (fun hb7 => ?_) (fun hb7 => ?_)
    · skip
      refine zz_iconst rfl ?_
      refine zz_zret rfl rfl rfl (zret_f (fun h9 => by omega))
    · skip
      refine zz_iconst rfl ?_
      refine zz_goto rfl ?_
      refine zz_zret rfl rfl rfl (zret_t ⟨by omega, by omega⟩)
theorem ct_isInBox {x y w e : Int} (hx : zrg x) (hy : zrg y) (hw : zrg w) (he : zrg e) : Ct Z m_TS_isInBox 0 0 0 [zI x, zI y, zI w, zI e] h (zP (zI (zb (zbox x y w e))) h) := by
  refine zct rfl (by decide) ok_TS_isInBox rfl rfl ?_
  refine zz_iload_n rfl rfl ?_
  refine zz_if_lt rfl (by omega) (fun hb1 => ?_) (fun hb1 => ?_)
  · skip
    refine zz_iconst rfl ?_
    refine zz_zret rfl rfl rfl (zret_f (fun h9 => by omega))
  · skip
    refine zz_iload_n rfl rfl ?_
    refine zz_iload_n rfl rfl ?_
    refine zz_icmp_ge rfl (by omega) (by omega) (fun hb6 => ?_) (fun hb6 => ?_)
    · skip
      refine zz_iconst rfl ?_
      refine zz_zret rfl rfl rfl (zret_f (fun h9 => by omega))
    · skip
      refine zz_iload_n rfl rfl ?_
      refine zz_if_lt rfl (by omega) (fun hb10 => ?_) (fun hb10 => ?_)
      · skip
        refine zz_iconst rfl ?_
        refine zz_zret rfl rfl rfl (zret_f (fun h9 => by omega))
      · skip
        refine zz_iload_n rfl rfl ?_
        refine zz_iload_n rfl rfl ?_
        refine zz_icmp_ge rfl (by omega) (by omega) (fun hb15 => ?_) (fun hb15 => ?_)
        · skip
          refine zz_iconst rfl ?_
          refine zz_zret rfl rfl rfl (zret_f (fun h9 => by omega))
        · skip
          refine zz_iconst rfl ?_
          refine zz_goto rfl ?_
          refine zz_zret rfl rfl rfl (zret_t ⟨by omega, by omega, by omega, by omega⟩)
theorem ct_require1  : Ct Z m_TS_require 0 1 6 [zI 1] h (zV h) := by
  refine zct rfl (by decide) ok_TS_require rfl rfl ?_
  refine zz_iload_n rfl rfl ?_
  refine zz_if_ne rfl (by omega) (fun hb1 => ?_) (fun hb1 => absurd hb1 (by first | decide | omega))
  refine zz_vret rfl rfl ⟨rfl, rfl⟩
theorem ct_require0  : Ct Z m_TS_require 0 1 6 [zI 0] h (fun r h' => r = .inr zIAE ∧ h' = h) := by
  refine zct rfl (by decide) ok_TS_require rfl rfl ?_
  refine zz_iload_n rfl rfl ?_
  refine zz_if_ne rfl (by omega) (fun hb1 => absurd hb1 (by first | decide | omega)) (fun hb1 => ?_)
  refine zz_throw th_TS_245 rfl rfl rfl rfl rfl rfl ⟨rfl, rfl⟩
theorem ct_require {P : Prop} [Decidable P] : Ct Z m_TS_require 0 1 6 [zI (zb P)] h (zRq P zIAE h) := by
  refine zct rfl (by decide) ok_TS_require rfl rfl ?_
  refine zz_iload_n rfl rfl ?_
  refine zz_ifB_ne rfl (fun hb1 => ?_) (fun hb1 => ?_)
  · skip
    refine zz_vret rfl rfl ⟨rfl, Or.inl ⟨hb1, rfl⟩⟩
  · skip
    refine zz_throw th_TS_245 rfl rfl rfl rfl rfl rfl ⟨rfl, Or.inr ⟨hb1, rfl⟩⟩
theorem ct_requireShift {x y : Int} (hx : zrg x) (hy : zrg y) : Ct Z m_TS_requireShift 1 1 6 [zI x, zI y] h (zRq ((-100 ≤ x ∧ x ≤ 100) ∧ -100 ≤ y ∧ y ≤ 100) zIAE h) := by
  refine zct rfl (by decide) ok_TS_requireShift rfl rfl ?_
  refine zz_iload_n rfl rfl ?_
  refine zz_bipush rfl (by decide) ?_
  refine zz_bipush rfl (by decide) ?_
  refine zz_Sp rfl lk_TS_16 cw_TS_isWithin (ct_isWithin hx (by decide) (by decide)) rfl rfl rfl rfl ?_
  refine zz_ifB_eq rfl (fun hb8 => ?_) (fun hb8 => ?_)
  · skip
    refine zz_iconst rfl ?_
    refine zz_S rfl lk_TS_20 cw_TS_require ct_require0 rfl rfl rfl rfl ?_
    rintro _ _ ⟨rfl, rfl⟩
    exact zx_out rfl ⟨rfl, Or.inr ⟨fun h9 => by omega, rfl⟩⟩
  · skip
    refine zz_iload_n rfl rfl ?_
    refine zz_bipush rfl (by decide) ?_
    refine zz_bipush rfl (by decide) ?_
    refine zz_Sp rfl lk_TS_16 cw_TS_isWithin (ct_isWithin hy (by decide) (by decide)) rfl rfl rfl rfl ?_
    refine zz_ifB_eq rfl (fun hb19 => ?_) (fun hb19 => ?_)
    · skip
      refine zz_iconst rfl ?_
      refine zz_S rfl lk_TS_20 cw_TS_require ct_require0 rfl rfl rfl rfl ?_
      rintro _ _ ⟨rfl, rfl⟩
      exact zx_out rfl ⟨rfl, Or.inr ⟨fun h9 => by omega, rfl⟩⟩
    · skip
      refine zz_iconst rfl ?_
      refine zz_goto rfl ?_
      refine zz_Su rfl lk_TS_20 cw_TS_require ct_require1 rfl rfl rfl rfl ?_
      refine zz_vret rfl rfl ⟨rfl, Or.inl ⟨⟨hb8, hb19⟩, rfl⟩⟩
theorem ct_sideAtLevel {n k : Int} (hn : 0 ≤ n ∧ n ≤ 1000) (hk : 0 ≤ k ∧ k ≤ 3) : Ct Z m_TS_sideAtLevel 0 0 0 [zI n, zI k] h (zP (zI (zhv n k)) h) := by
  have hp := zpw_rg hk
  refine zct rfl (by decide) ok_TS_sideAtLevel rfl rfl ?_
  refine zz_iload_n rfl rfl ?_
  refine zz_iconst rfl ?_
  refine zz_iload_n rfl rfl ?_
  refine zz_ishl rfl (by omega) ?_
  refine zz_iadd rfl ?_
  refine zz_iconst rfl ?_
  refine zz_isub rfl ?_
  refine zz_iload_n rfl rfl ?_
  refine zz_ishr rfl (by omega) (by omega) ?_
  refine zz_iret rfl rfl (zret_e (by unfold zhv; rw [Int.one_mul]))
theorem ct_Places_height {a ra w ht : Nat} {R : Nat → Nat} (hp : isPl h a ra w ht R) : Ct Z m_Places_height 0 0 0 [.ref a] h (zP (zI ht) h) := by
  refine zct rfl (by decide) ok_Places_height rfl rfl ?_
  refine zz_aload_n rfl rfl ?_
  refine zz_getf rfl fl_Places_13 hp.1 rfl ?_
  refine zz_alenI rfl hp.2 ?_
  refine zz_iret rfl rfl ⟨rfl, rfl⟩
theorem ct_rowAt {a ra w ht : Nat} {R : Nat → Nat} {y : Int} (hp : isPl h a ra w ht R) (hy : zrg y) (hh : ht ≤ 24) : Ct Z m_Places_rowAt 0 0 0 [.ref a, zI y] h (zP (zI (zrw R ht y)) h) := by
  refine zct rfl (by decide) ok_Places_rowAt rfl rfl ?_
  refine zz_iload_n rfl rfl ?_
  refine zz_if_lt rfl (by omega) (fun hb1 => ?_) (fun hb1 => ?_)
  · skip
    refine zz_iconst rfl ?_
    refine zz_iret rfl rfl (zret_e (by unfold zrw; rw [if_neg (by omega)]; rfl))
  · skip
    refine zz_iload_n rfl rfl ?_
    refine zz_aload_n rfl rfl ?_
    refine zz_getf rfl fl_Places_13 hp.1 rfl ?_
    refine zz_alenI rfl hp.2 ?_
    refine zz_icmp_ge rfl (by omega) (by omega) (fun hb10 => ?_) (fun hb10 => ?_)
    · skip
      refine zz_iconst rfl ?_
      refine zz_iret rfl rfl (zret_e (by unfold zrw; rw [if_neg (by omega)]; rfl))
    · skip
      refine zz_aload_n rfl rfl ?_
      refine zz_getf rfl fl_Places_13 hp.1 rfl ?_
      refine zz_iload_n rfl rfl ?_
      refine zz_iald rfl hp.2 (by omega) (by omega) ?_
      refine zz_goto rfl ?_
      refine zz_iret rfl rfl (zret_e (by unfold zrw; rw [if_pos (by omega)]; rfl))
theorem ct_has {a ra w ht : Nat} {R : Nat → Nat} {x y : Int} (hp : isPl h a ra w ht R) (hx : zrg x) (hy : zrg y) (hh : ht ≤ 24) (hw : w ≤ 24) (hR : ∀ j, R j < 16777216) : Ct Z m_Places_has 1 0 0 [.ref a, zI x, zI y] h (zP (zI (zb (zhp R w ht x y))) h) := by
  refine zct rfl (by decide) ok_Places_has rfl rfl ?_
  refine zz_iload_n rfl rfl ?_
  refine zz_if_lt rfl (by omega) (fun hb1 => ?_) (fun hb1 => ?_)
  · skip
    refine zz_iconst rfl ?_
    refine zz_zret rfl rfl rfl (zret_f (fun h9 => by omega))
  · skip
    refine zz_iload_n rfl rfl ?_
    refine zz_aload_n rfl rfl ?_
    refine zz_getf rfl fl_Places_7 hp.1 rfl ?_
    refine zz_icmp_ge rfl (by omega) (by omega) (fun hb9 => ?_) (fun hb9 => ?_)
    · skip
      refine zz_iconst rfl ?_
      refine zz_zret rfl rfl rfl (zret_f (fun h9 => by omega))
    · skip
      refine zz_aload_n rfl rfl ?_
      refine zz_iload_n rfl rfl ?_
      refine zz_Vp rfl lk_Places_17 cw_Places_rowAt rfl hp.1 (ct_rowAt hp hy hh) rfl rfl rfl rfl ?_
      have hq : zrw R ht y < 16777216 := by unfold zrw; split; exact hR _; decide
      refine zz_iload_n rfl rfl ?_
      refine zz_ishr rfl (by omega) (by omega) ?_
      refine zz_iconst rfl ?_
      refine zz_iand rfl (zq_m1 _) ?_
      refine zz_if_eq rfl (by omega) (fun hb21 => ?_) (fun hb21 => ?_)
      · skip
        refine zz_iconst rfl ?_
        refine zz_zret rfl rfl rfl (zret_f (fun h9 => h9.2.2 hb21))
      · skip
        refine zz_iconst rfl ?_
        refine zz_goto rfl ?_
        refine zz_zret rfl rfl rfl (zret_t ⟨by omega, by omega, hb21⟩)
theorem ct_add {a ra w ht : Nat} {R : Nat → Nat} {x y : Int} (hp : isPl h a ra w ht R) (hx : zrg x) (hy : zrg y) (hh : ht ≤ 24) (hw : w ≤ 24) : Ct Z m_Places_add 1 0 0 [.ref a, zI x, zI y] h (zV (if zbox x y w ht then zset h ra (zi 0 ht (zcn (zun R y.toNat (R y.toNat ||| 2 ^ x.toNat)))) else h)) := by
  refine zct rfl (by decide) ok_Places_add rfl rfl ?_
  refine zz_iload_n rfl rfl ?_
  refine zz_iload_n rfl rfl ?_
  refine zz_aload_n rfl rfl ?_
  refine zz_getf rfl fl_Places_7 hp.1 rfl ?_
  refine zz_aload_n rfl rfl ?_
  refine zz_getf rfl fl_Places_13 hp.1 rfl ?_
  refine zz_alenI rfl hp.2 ?_
  refine zz_SNp rfl lk_Places_21 cw_TS_isInBox (ct_isInBox hx hy ⟨by omega, by omega⟩ ⟨by omega, by omega⟩) rfl rfl rfl rfl ?_
  refine zz_ifB_eq rfl (fun hb14 => ?_) (fun hb14 => ?_)
  · skip
    refine zz_vret rfl rfl ⟨rfl, by rw [if_neg hb14]⟩
  · skip
    refine zz_aload_n rfl rfl ?_
    refine zz_getf rfl fl_Places_13 hp.1 rfl ?_
    refine zz_iload_n rfl rfl ?_
    refine zz_dup2 rfl rfl rfl ?_
    refine zz_iald rfl hp.2 (by omega) (by omega) ?_
    refine zz_iconst rfl ?_
    refine zz_iload_n rfl rfl ?_
    refine zz_ishl rfl (by omega) ?_
    refine zz_ior rfl (show _ = Int32.ofInt ((R y.toNat ||| 2 ^ x.toNat : Nat) : Int) from by rw [← zq_or]; congr 2; rw [Int.one_mul]; simp) ?_
    refine zz_iast rfl hp.2 (by omega) (by omega) ?_
    refine zz_vret rfl rfl ⟨rfl, by rw [if_pos hb14, zup_cn]⟩
theorem ct_dotAt {a da w ht : Nat} {f : Nat → Int} {md op vs x y : Int} (hp : isLy h a da w ht f md op vs) (hx : zrg x) (hy : zrg y) (hh : ht ≤ 24) (hw : w ≤ 24) : Ct Z m_Layer_dotAt 1 0 0 [.ref a, zI x, zI y] h (zP (zI (zldt f w ht x y)) h) := by
  refine zct rfl (by decide) ok_Layer_dotAt rfl rfl ?_
  refine zz_iload_n rfl rfl ?_
  refine zz_iload_n rfl rfl ?_
  refine zz_aload_n rfl rfl ?_
  refine zz_getf rfl fl_Layer_9 hp.1 rfl ?_
  refine zz_aload_n rfl rfl ?_
  refine zz_getf rfl fl_Layer_15 hp.1 rfl ?_
  refine zz_SNp rfl lk_Layer_35 cw_TS_isInBox (ct_isInBox hx hy ⟨by omega, by omega⟩ ⟨by omega, by omega⟩) rfl rfl rfl rfl ?_
  refine zz_ifB_eq rfl (fun hb13 => ?_) (fun hb13 => ?_)
  · skip
    refine zz_iconst rfl ?_
    refine zz_iret rfl rfl (zret_e (by unfold zldt; rw [if_neg hb13]))
  · skip
    refine zz_aload_n rfl rfl ?_
    refine zz_getf rfl fl_Layer_18 hp.1 rfl ?_
    refine zz_iload_n rfl rfl ?_
    refine zz_aload_n rfl rfl ?_
    refine zz_getf rfl fl_Layer_9 hp.1 rfl ?_
    refine zz_imul rfl ?_
    refine zz_iload_n rfl rfl ?_
    refine zz_iadd rfl ?_
    refine zz_iald rfl hp.2 (by have := Nat.mul_le_mul hw hh; omega) (zidx hb13) ?_
    refine zz_goto rfl ?_
    refine zz_iret rfl rfl (zret_e (by unfold zldt; rw [if_pos hb13]))
end HP
