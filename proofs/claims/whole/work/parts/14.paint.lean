section PT
variable {Z : ZC} {h : ZH}
theorem ct_Painting_init {p pc la sa n b da w ht : Nat} {pos : Int} {lf : Nat → Value} {f : Nat → Int} {md op vs : Int} (hp : h p = some (zo 5 [.null, zI 0, .null, .null])) (hc : h pc = some (zo 4 [zI w, zI ht, .ref la, .ref sa])) (hl : h la = some (za 3 n lf)) (hn : n ≤ 3) (hpos : 0 ≤ pos ∧ pos < n) (hb : lf pos.toNat = .ref b) (hy : isLy h b da w ht f md op vs) (hw : w ≤ 24) (hh : ht ≤ 24) : Ct Z m_Painting_init 0 1 576 [.ref p, .ref pc, zI pos] h (fun r h' => r = .inl none ∧ ∃ af, h af = none ∧ h' = zset (zset h af (zi 0 (w * ht) f)) p (zo 5 [.ref pc, zI pos, .ref b, .ref af])) := by
  refine zct rfl (by decide) ok_Painting_init rfl rfl ?_
  refine zz_aload_n rfl rfl ?_
  refine zz_oinit rfl ob_Painting_1 rfl ?_
  refine zz_aload_n rfl rfl ?_
  refine zz_aload_n rfl rfl ?_
  refine zz_putf rfl fl_Painting_7 hp (pt_5_0 rfl rfl) (zblt rfl) ?_
  refine zz_aload_n rfl rfl ?_
  refine zz_iload_n rfl rfl ?_
  refine zz_putf rfl fl_Painting_13 (zset_same _ _ _) (pt_5_1 rfl rfl) (zblt rfl) ?_
  refine Ev.heap (zset_set _ _ _ _) ?_
  refine zz_aload_n rfl rfl ?_
  refine zz_aload_n rfl rfl ?_
  refine zz_getf rfl fl_Painting_17 (zoth hp hc (zkoo (by decide))) rfl ?_
  refine zz_iload_n rfl rfl ?_
  refine zz_aald rfl (Or.inl ⟨rfl, rfl⟩) (zoth hp hl zkoa) (by omega) (by omega) ?_
  refine zz_tv hb ?_
  refine zz_putf rfl fl_Painting_23 (zset_same _ _ _) (pt_5_2 rfl rfl) (zblt rfl) ?_
  refine Ev.heap (zset_set _ _ _ _) ?_
  refine zz_aload_n rfl rfl ?_
  refine zz_aload_n rfl rfl ?_
  refine zz_getf rfl fl_Painting_23 (zset_same _ _ _) rfl ?_
  refine zz_getf rfl fl_Painting_27 (zoth hp hy.1 (zkoo (by decide))) rfl ?_
  refine zz_clone 0 576 rfl ck_clone rfl (zoth hp hy.2 zkoi) (Nat.mul_le_mul hw hh) (fun af haf => ?_)
  refine zz_castA rfl cl_Painting_34 (zset_same _ _ _) ?_
  refine zz_putf rfl fl_Painting_38 (zget haf (zset_same _ _ _)) (pt_5_3 rfl rfl) (zblt rfl) ?_
  refine zz_vret rfl rfl ⟨rfl, af, (zset_none haf).1, by rw [zset_mid h _ _ _ (zset_none haf).2.symm]; rfl⟩
theorem ct_Pw {p pc la sa ra bf da af w ht : Nat} {pos : Int} {R : Nat → Nat} {f g : Nat → Int} {md op vs : Int} (hp : isPt h p pc la sa ra bf da af w ht pos R f g md op vs) : Ct Z m_Painting_width 0 0 0 [.ref p] h (zP (zI w) h) := by
  refine zct rfl (by decide) ok_Painting_width rfl rfl ?_
  refine zz_aload_n rfl rfl ?_
  refine zz_getf rfl fl_Painting_7 hp.1 rfl ?_
  refine zz_getf rfl fl_Painting_41 hp.2.1 rfl ?_
  refine zz_iret rfl rfl ⟨rfl, rfl⟩
theorem ct_Ph {p pc la sa ra bf da af w ht : Nat} {pos : Int} {R : Nat → Nat} {f g : Nat → Int} {md op vs : Int} (hp : isPt h p pc la sa ra bf da af w ht pos R f g md op vs) : Ct Z m_Painting_height 0 0 0 [.ref p] h (zP (zI ht) h) := by
  refine zct rfl (by decide) ok_Painting_height rfl rfl ?_
  refine zz_aload_n rfl rfl ?_
  refine zz_getf rfl fl_Painting_7 hp.1 rfl ?_
  refine zz_getf rfl fl_Painting_44 hp.2.1 rfl ?_
  refine zz_iret rfl rfl ⟨rfl, rfl⟩
theorem ct_takes {p pc la sa ra bf da af w ht : Nat} {pos : Int} {R : Nat → Nat} {f g : Nat → Int} {md op vs : Int} (hp : isPt h p pc la sa ra bf da af w ht pos R f g md op vs) (hh : ht ≤ 24) (hw : w ≤ 24) (hR : ∀ j, R j < 16777216) {x y : Int} (hx : zrg x) (hy : zrg y) : Ct Z m_Painting_takes 2 0 0 [.ref p, zI x, zI y] h (zP (zI (zb (zhp R w ht x y))) h) := by
  refine zct rfl (by decide) ok_Painting_takes rfl rfl ?_
  refine zz_aload_n rfl rfl ?_
  refine zz_getf rfl fl_Painting_7 hp.1 rfl ?_
  refine zz_getf rfl fl_Painting_47 hp.2.1 rfl ?_
  refine zz_iload_n rfl rfl ?_
  refine zz_iload_n rfl rfl ?_
  refine zz_Vp rfl lk_Painting_51 cw_Places_has rfl hp.2.2.1.1 (ct_has hp.2.2.1 hx hy hh hw hR) rfl rfl rfl rfl ?_
  refine zz_zret rfl rfl (znb _) ⟨rfl, rfl⟩
theorem ct_put {p pc la sa ra bf da af w ht : Nat} {pos : Int} {R : Nat → Nat} {f g : Nat → Int} {md op vs : Int} (hp : isPt h p pc la sa ra bf da af w ht pos R f g md op vs) (hh : ht ≤ 24) (hw : w ≤ 24) (hR : ∀ j, R j < 16777216) {x y d : Int} (hb : zbox x y w ht) : Ct Z m_Painting_put 3 0 0 [.ref p, zI x, zI y, zI d] h (zV (if zhp R w ht x y then zset h af (zi 0 (w * ht) (zup g (y * w + x).toNat d)) else h)) := by
  obtain ⟨hb1, hb2, hb3, hb4⟩ := id hb
  refine zct rfl (by decide) ok_Painting_put rfl rfl ?_
  refine zz_aload_n rfl rfl ?_
  refine zz_iload_n rfl rfl ?_
  refine zz_iload_n rfl rfl ?_
  refine zz_Vp rfl lk_Painting_57 cw_Painting_takes rfl hp.1 (ct_takes hp hh hw hR ⟨by omega, by omega⟩ ⟨by omega, by omega⟩) rfl rfl rfl rfl ?_
  refine zz_ifB_eq rfl (fun hb6 => ?_) (fun hb6 => ?_)
  · skip
    refine zz_vret rfl rfl ⟨rfl, by rw [if_neg hb6]⟩
  · skip
    refine zz_aload_n rfl rfl ?_
    refine zz_getf rfl fl_Painting_38 hp.1 rfl ?_
    refine zz_iload_n rfl rfl ?_
    refine zz_aload_n rfl rfl ?_
    refine zz_getf rfl fl_Painting_23 hp.1 rfl ?_
    refine zz_getf rfl fl_Painting_60 hp.2.2.2.1.1 rfl ?_
    refine zz_imul rfl ?_
    refine zz_iload_n rfl rfl ?_
    refine zz_iadd rfl ?_
    refine zz_iload_n rfl rfl ?_
    refine zz_iast rfl hp.2.2.2.2.1 (by have := Nat.mul_le_mul hw hh; omega) (zidx hb) ?_
    refine zz_vret rfl rfl ⟨rfl, by rw [if_pos hb6]⟩
theorem ct_result {p pc la sa ra bf da af w ht : Nat} {pos : Int} {R : Nat → Nat} {f g : Nat → Int} {md op vs : Int} (hp : isPt h p pc la sa ra bf da af w ht pos R f g md op vs) {n : Nat} {lf : Nat → Value} (hl : isLa h la n lf) (hn : n ≤ 3) (hpos : zrg pos) (hv : vs = 0 ∨ vs = 1) : Ct Z m_Painting_result 3 3 13 [.ref p] h (fun r h' => ∃ b1 na b2, h b1 = none ∧ h na = none ∧ h b2 = none ∧ na ≠ b1 ∧ b2 ≠ b1 ∧ b2 ≠ na ∧ r = .inl (some (.ref b2)) ∧ h' = zset (zset (zset h b1 (zo 3 [zI w, zI ht, .ref af, zI md, zI op, zI vs])) na (za 3 n (zfil n (fun i => if (i : Int) = pos then .ref b1 else lf i)))) b2 (zo 4 [zI w, zI ht, .ref na, .ref sa])) := by
  refine zct rfl (by decide) ok_Painting_result rfl rfl ?_
  refine zz_aload_n rfl rfl ?_
  refine zz_getf rfl fl_Painting_7 hp.1 rfl ?_
  refine zz_aload_n rfl rfl ?_
  refine zz_getf rfl fl_Painting_13 hp.1 rfl ?_
  refine zz_aload_n rfl rfl ?_
  refine zz_getf rfl fl_Painting_23 hp.1 rfl ?_
  refine zz_aload_n rfl rfl ?_
  refine zz_getf rfl fl_Painting_38 hp.1 rfl ?_
  refine zz_V rfl lk_Painting_61 cw_Layer_withDots rfl hp.2.2.2.1.1 (ct_withDots hp.2.2.2.1 hv) rfl rfl rfl rfl ?_
  rintro _ _ ⟨b1, hb1, rfl, rfl⟩
  refine zaft_v ?_
  refine zz_V rfl lk_Painting_65 cw_Picture_withLayer rfl (zget hb1 hp.2.1) (ct_withLayer (zget hb1 hp.2.1) ⟨zget hb1 hl.1, fun i hi => by obtain ⟨b, fs, e1, e2⟩ := hl.2 i hi; exact ⟨b, fs, e1, zget hb1 e2⟩⟩ hn (zset_same _ _ _) hpos) rfl rfl rfl rfl ?_
  rintro _ _ ⟨na, b2, h1, h2, h3, rfl, rfl⟩
  obtain ⟨h4, h5⟩ := zset_none h1
  obtain ⟨h6, h7⟩ := zset_none h2
  refine zaft_v ?_
  refine zz_aret rfl rfl (Or.inl ⟨_, rfl⟩) (Or.inr ⟨_, rfl⟩) ⟨b1, na, b2, hb1, h4, h6, h5, h7, h3, rfl, rfl⟩
theorem ct_Copied_init {a ly pl : Nat} (ha : h a = some (zo 6 [.null, .null])) : Ct Z m_Copied_init 0 0 0 [.ref a, .ref ly, .ref pl] h (zV (zset h a (zo 6 [.ref ly, .ref pl]))) := by
  refine zct rfl (by decide) ok_Copied_init rfl rfl ?_
  refine zz_aload_n rfl rfl ?_
  refine zz_oinit rfl ob_Copied_1 rfl ?_
  refine zz_aload_n rfl rfl ?_
  refine zz_aload_n rfl rfl ?_
  refine zz_putf rfl fl_Copied_7 ha (pt_6_0 rfl rfl) (zblt rfl) ?_
  refine zz_aload_n rfl rfl ?_
  refine zz_aload_n rfl rfl ?_
  refine zz_putf rfl fl_Copied_13 (zset_same _ _ _) (pt_6_1 rfl rfl) (zblt rfl) ?_
  refine zz_vret rfl rfl ⟨rfl, by rw [zset_set]; rfl⟩
end PT
