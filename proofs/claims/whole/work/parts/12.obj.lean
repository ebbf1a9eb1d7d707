section OB
variable {Z : ZC} {h : ZH}
theorem ct_Places_init {a w ht : Nat} (ha : h a = some (zo 2 [zI 0, .null])) (hh : ht ≤ 24) : Ct Z m_Places_init 0 1 24 [.ref a, zI w, zI ht] h (fun r h' => r = .inl none ∧ ∃ ra, h ra = none ∧ h' = zset (zset h ra (zi 0 ht (zcn (fun _ => 0)))) a (zo 2 [zI w, .ref ra])) := by
  refine zct rfl (by decide) ok_Places_init rfl rfl ?_
  refine zz_aload_n rfl rfl ?_
  refine zz_oinit rfl ob_Places_1 rfl ?_
  refine zz_aload_n rfl rfl ?_
  refine zz_iload_n rfl rfl ?_
  refine zz_putf rfl fl_Places_7 ha (pt_2_0 rfl rfl) (zblt rfl) ?_
  refine zz_aload_n rfl rfl ?_
  refine zz_iload_n rfl rfl ?_
  refine zz_newi 0 24 rfl (by omega) (fun a11 ha11 => ?_)
  obtain ⟨hr1, hr2⟩ := zset_none ha11
  rw [Int.toNat_natCast]
  refine zz_putf rfl fl_Places_13 (show _ = some (zo 2 [zI w, .null]) from by rw [zset_ne hr2.symm, zset_same]; rfl) (pt_2_1 rfl rfl) (zblt rfl) ?_
  refine zz_vret rfl rfl ⟨rfl, a11, hr1, by rw [zset_mid h _ _ _ hr2.symm]; rfl⟩
theorem ct_Layer_init {a da : Nat} {w e md op vs : Int} (ha : h a = some (zo 3 [zI 0, zI 0, .null, zI 0, zI 0, zI 0])) (hv : vs = 0 ∨ vs = 1) : Ct Z m_Layer_init 0 0 0 [.ref a, zI w, zI e, .ref da, zI md, zI op, zI vs] h (zV (zset h a (zo 3 [zI w, zI e, .ref da, zI md, zI op, zI vs]))) := by
  refine zct rfl (by decide) ok_Layer_init rfl rfl ?_
  refine zz_aload_n rfl rfl ?_
  refine zz_oinit rfl ob_Layer_3 rfl ?_
  refine zz_aload_n rfl rfl ?_
  refine zz_iload_n rfl rfl ?_
  refine zz_putf rfl fl_Layer_9 ha (pt_3_0 rfl rfl) (zblt rfl) ?_
  refine zz_aload_n rfl rfl ?_
  refine zz_iload_n rfl rfl ?_
  refine zz_putf rfl fl_Layer_15 (zset_same _ _ _) (pt_3_1 rfl rfl) (zblt rfl) ?_
  refine zz_aload_n rfl rfl ?_
  refine zz_aload_n rfl rfl ?_
  refine zz_putf rfl fl_Layer_18 (zset_same _ _ _) (pt_3_2 rfl rfl) (zblt rfl) ?_
  refine zz_aload_n rfl rfl ?_
  refine zz_iload rfl rfl ?_
  refine zz_putf rfl fl_Layer_22 (zset_same _ _ _) (pt_3_3 rfl rfl) (zblt rfl) ?_
  refine zz_aload_n rfl rfl ?_
  refine zz_iload rfl rfl ?_
  refine zz_putf rfl fl_Layer_25 (zset_same _ _ _) (pt_3_4 rfl rfl) (zblt rfl) ?_
  refine zz_aload_n rfl rfl ?_
  refine zz_iload rfl rfl ?_
  refine zz_putf rfl fl_Layer_28 (zset_same _ _ _) (pt_3_5 (by rcases hv with rfl | rfl <;> rfl) (by rcases hv with rfl | rfl <;> rfl)) (zblt rfl) ?_
  refine zz_vret rfl rfl ⟨rfl, by simp only [zset_set]; rfl⟩
theorem ct_withDots {a da na w ht : Nat} {f : Nat → Int} {md op vs : Int} (hp : isLy h a da w ht f md op vs) (hv : vs = 0 ∨ vs = 1) : Ct Z m_Layer_withDots 1 1 6 [.ref a, .ref na] h (fun r h' => ∃ b, h b = none ∧ r = .inl (some (.ref b)) ∧ h' = zset h b (zo 3 [zI w, zI ht, .ref na, zI md, zI op, zI vs])) := by
  refine zct rfl (by decide) ok_Layer_withDots rfl rfl ?_
  refine zz_new (N := 6) rfl nw_Layer_10 (fun a0 ha0 => ?_)
  refine zz_dup rfl rfl ?_
  refine zz_aload_n rfl rfl ?_
  refine zz_getf rfl fl_Layer_9 (zget ha0 hp.1) rfl ?_
  refine zz_aload_n rfl rfl ?_
  refine zz_getf rfl fl_Layer_15 (zget ha0 hp.1) rfl ?_
  refine zz_aload_n rfl rfl ?_
  refine zz_aload_n rfl rfl ?_
  refine zz_getf rfl fl_Layer_22 (zget ha0 hp.1) rfl ?_
  refine zz_aload_n rfl rfl ?_
  refine zz_getf rfl fl_Layer_25 (zget ha0 hp.1) rfl ?_
  refine zz_aload_n rfl rfl ?_
  refine zz_getf rfl fl_Layer_28 (zget ha0 hp.1) rfl ?_
  refine zz_Nu rfl lk_Layer_32 cw_Layer_init (ct_Layer_init (zset_same _ _ _) hv) rfl rfl rfl rfl ?_
  refine Ev.heap (zset_set _ _ _ _) ?_
  refine zz_aret rfl rfl (Or.inl ⟨_, rfl⟩) (Or.inr ⟨_, rfl⟩) ⟨a0, ha0, rfl, rfl⟩
theorem ct_withBlending {a da w ht : Nat} {f : Nat → Int} {md op vs md1 op1 vs1 : Int} (hp : isLy h a da w ht f md op vs) (hv : vs1 = 0 ∨ vs1 = 1) : Ct Z m_Layer_withBlending 1 1 6 [.ref a, zI md1, zI op1, zI vs1] h (fun r h' => ∃ b, h b = none ∧ r = .inl (some (.ref b)) ∧ h' = zset h b (zo 3 [zI w, zI ht, .ref da, zI md1, zI op1, zI vs1])) := by
  refine zct rfl (by decide) ok_Layer_withBlending rfl rfl ?_
  refine zz_new (N := 6) rfl nw_Layer_10 (fun a0 ha0 => ?_)
  refine zz_dup rfl rfl ?_
  refine zz_aload_n rfl rfl ?_
  refine zz_getf rfl fl_Layer_9 (zget ha0 hp.1) rfl ?_
  refine zz_aload_n rfl rfl ?_
  refine zz_getf rfl fl_Layer_15 (zget ha0 hp.1) rfl ?_
  refine zz_aload_n rfl rfl ?_
  refine zz_getf rfl fl_Layer_18 (zget ha0 hp.1) rfl ?_
  refine zz_iload_n rfl rfl ?_
  refine zz_iload_n rfl rfl ?_
  refine zz_iload_n rfl rfl ?_
  refine zz_Nu rfl lk_Layer_32 cw_Layer_init (ct_Layer_init (zset_same _ _ _) hv) rfl rfl rfl rfl ?_
  refine Ev.heap (zset_set _ _ _ _) ?_
  refine zz_aret rfl rfl (Or.inl ⟨_, rfl⟩) (Or.inr ⟨_, rfl⟩) ⟨a0, ha0, rfl, rfl⟩
theorem ct_clearLayer {w ht : Nat} (hw : w ≤ 24) (hh : ht ≤ 24) : Ct Z m_TS_clearLayer 1 2 582 [zI w, zI ht] h (fun r h' => ∃ a da, h a = none ∧ h da = none ∧ da ≠ a ∧ r = .inl (some (.ref a)) ∧ h' = zset (zset h da (zi 0 (w * ht) (fun _ => 0))) a (zo 3 [zI w, zI ht, .ref da, zI 0, zI 255, zI 1])) := by
  refine zct rfl (by decide) ok_TS_clearLayer rfl rfl ?_
  refine zz_new (N := 6) rfl nw_TS_33 (fun a0 ha0 => ?_)
  refine zz_dup rfl rfl ?_
  refine zz_iload_n rfl rfl ?_
  refine zz_iload_n rfl rfl ?_
  refine zz_iload_n rfl rfl ?_
  refine zz_iload_n rfl rfl ?_
  refine zz_imul rfl ?_
  refine zz_eq (Int.natCast_mul w ht).symm ?_
  have hwh := Nat.mul_le_mul hw hh
  refine zz_newi 0 576 rfl (by omega) (fun a9 ha9 => ?_)
  obtain ⟨hr1, hr2⟩ := zset_none ha9
  rw [Int.toNat_natCast]
  refine zz_iconst rfl ?_
  refine zz_sipush rfl (by decide) ?_
  refine zz_iconst rfl ?_
  refine zz_Nu rfl lk_TS_257 cw_Layer_init (ct_Layer_init (show _ = some (zo 3 [zI 0, zI 0, .null, zI 0, zI 0, zI 0]) from by rw [zset_ne hr2.symm, zset_same]) (Or.inr rfl)) rfl rfl rfl rfl ?_
  refine Ev.heap (zset_mid h _ _ _ hr2.symm) ?_
  refine zz_aret rfl rfl (Or.inl ⟨_, rfl⟩) (Or.inr ⟨_, rfl⟩) ⟨a0, a9, ha0, hr1, hr2, rfl, rfl⟩
theorem ct_Picture_init {a la sa : Nat} {w e : Int} (ha : h a = some (zo 4 [zI 0, zI 0, .null, .null])) : Ct Z m_Picture_init 0 0 0 [.ref a, zI w, zI e, .ref la, .ref sa] h (zV (zset h a (zo 4 [zI w, zI e, .ref la, .ref sa]))) := by
  refine zct rfl (by decide) ok_Picture_init rfl rfl ?_
  refine zz_aload_n rfl rfl ?_
  refine zz_oinit rfl ob_Picture_1 rfl ?_
  refine zz_aload_n rfl rfl ?_
  refine zz_iload_n rfl rfl ?_
  refine zz_putf rfl fl_Picture_7 ha (pt_4_0 rfl rfl) (zblt rfl) ?_
  refine zz_aload_n rfl rfl ?_
  refine zz_iload_n rfl rfl ?_
  refine zz_putf rfl fl_Picture_13 (zset_same _ _ _) (pt_4_1 rfl rfl) (zblt rfl) ?_
  refine zz_aload_n rfl rfl ?_
  refine zz_aload_n rfl rfl ?_
  refine zz_putf rfl fl_Picture_16 (zset_same _ _ _) (pt_4_2 rfl rfl) (zblt rfl) ?_
  refine zz_aload_n rfl rfl ?_
  refine zz_aload rfl rfl ?_
  refine zz_putf rfl fl_Picture_20 (zset_same _ _ _) (pt_4_3 rfl rfl) (zblt rfl) ?_
  refine zz_vret rfl rfl ⟨rfl, by simp only [zset_set]; rfl⟩
theorem ct_withLayers {a la sa na w ht : Nat} (hp : h a = some (zo 4 [zI w, zI ht, .ref la, .ref sa])) : Ct Z m_Picture_withLayers 1 1 4 [.ref a, .ref na] h (fun r h' => ∃ b, h b = none ∧ r = .inl (some (.ref b)) ∧ h' = zset h b (zo 4 [zI w, zI ht, .ref na, .ref sa])) := by
  refine zct rfl (by decide) ok_Picture_withLayers rfl rfl ?_
  refine zz_new (N := 4) rfl nw_Picture_8 (fun a0 ha0 => ?_)
  refine zz_dup rfl rfl ?_
  refine zz_aload_n rfl rfl ?_
  refine zz_getf rfl fl_Picture_7 (zget ha0 hp) rfl ?_
  refine zz_aload_n rfl rfl ?_
  refine zz_getf rfl fl_Picture_13 (zget ha0 hp) rfl ?_
  refine zz_aload_n rfl rfl ?_
  refine zz_aload_n rfl rfl ?_
  refine zz_getf rfl fl_Picture_20 (zget ha0 hp) rfl ?_
  refine zz_Nu rfl lk_Picture_24 cw_Picture_init (ct_Picture_init (zset_same _ _ _)) rfl rfl rfl rfl ?_
  refine Ev.heap (zset_set _ _ _ _) ?_
  refine zz_aret rfl rfl (Or.inl ⟨_, rfl⟩) (Or.inr ⟨_, rfl⟩) ⟨a0, ha0, rfl, rfl⟩
theorem ct_withSelection {a la sa na w ht : Nat} (hp : h a = some (zo 4 [zI w, zI ht, .ref la, .ref sa])) : Ct Z m_Picture_withSelection 1 1 4 [.ref a, .ref na] h (fun r h' => ∃ b, h b = none ∧ r = .inl (some (.ref b)) ∧ h' = zset h b (zo 4 [zI w, zI ht, .ref la, .ref na])) := by
  refine zct rfl (by decide) ok_Picture_withSelection rfl rfl ?_
  refine zz_new (N := 4) rfl nw_Picture_8 (fun a0 ha0 => ?_)
  refine zz_dup rfl rfl ?_
  refine zz_aload_n rfl rfl ?_
  refine zz_getf rfl fl_Picture_7 (zget ha0 hp) rfl ?_
  refine zz_aload_n rfl rfl ?_
  refine zz_getf rfl fl_Picture_13 (zget ha0 hp) rfl ?_
  refine zz_aload_n rfl rfl ?_
  refine zz_getf rfl fl_Picture_16 (zget ha0 hp) rfl ?_
  refine zz_aload_n rfl rfl ?_
  refine zz_Nu rfl lk_Picture_24 cw_Picture_init (ct_Picture_init (zset_same _ _ _)) rfl rfl rfl rfl ?_
  refine Ev.heap (zset_set _ _ _ _) ?_
  refine zz_aret rfl rfl (Or.inl ⟨_, rfl⟩) (Or.inr ⟨_, rfl⟩) ⟨a0, ha0, rfl, rfl⟩
theorem lp_withLayer {a la sa na ch n : Nat} {w ht pos : Int} {lf : Nat → Value} {cf : List Value} {MC MS mc ms : Nat} {Q : ZR → ZH → Prop} (hp : h a = some (zo 4 [zI w, zI ht, .ref la, .ref sa])) (hl : isLa h la n lf) (hn : n ≤ 3) (hc : h ch = some (zo 3 cf)) (hpos : zrg pos) (hna : h na = none) (kx : Ev Z (fun _ => True, m_Picture_withLayer, 2, MC, MS) 46 [.ref a, zI pos, .ref ch, .ref na, zI n] [] (zset h na (za 3 n (zfil n (fun i => if (i : Int) = pos then .ref ch else lf i)))) mc ms Q) : ∀ (m : Nat) (k : Int), 0 ≤ k → k + m = n → Ev Z (fun _ => True, m_Picture_withLayer, 2, MC, MS) 12 [.ref a, zI pos, .ref ch, .ref na, zI k] [] (zset h na (za 3 n (zfil k.toNat (fun i => if (i : Int) = pos then .ref ch else lf i)))) mc ms Q := by
  intro m
  induction m with
  | zero =>
    intro k hk0 hkn
    refine zz_iload rfl rfl ?_
    refine zz_aload_n rfl rfl ?_
    refine zz_alenA rfl (Or.inl ⟨rfl, rfl⟩) (zset_same _ _ _) ?_
    refine zz_icmp_ge rfl (by omega) (by omega) (fun hb16 => ?_) (fun hb16 => absurd hb16 (by omega))
    obtain rfl : k = (n : Int) := by omega
    exact kx
  | succ m ih =>
    intro k hk0 hkn
    refine zz_iload rfl rfl ?_
    refine zz_aload_n rfl rfl ?_
    refine zz_alenA rfl (Or.inl ⟨rfl, rfl⟩) (zset_same _ _ _) ?_
    refine zz_icmp_ge rfl (by omega) (by omega) (fun hb16 => absurd hb16 (by omega)) (fun hb16 => ?_)
    refine zz_aload_n rfl rfl ?_
    refine zz_iload rfl rfl ?_
    refine zz_iload rfl rfl ?_
    refine zz_iload_n rfl rfl ?_
    refine zz_icmp_ne rfl (by omega) (by omega) (fun hb25 => ?_) (fun hb25 => ?_)
    · skip
      refine zz_aload_n rfl rfl ?_
      refine zz_getf rfl fl_Picture_16 (zget hna hp) rfl ?_
      refine zz_iload rfl rfl ?_
      refine zz_aald rfl (Or.inl ⟨rfl, rfl⟩) (zget hna hl.1) (by omega) (by omega) ?_
      obtain ⟨b0, f0, hb0, hg0⟩ := hl.2 k.toNat (by omega)
      refine zz_tv hb0 ?_
      refine zz_aast rfl (Or.inl ⟨rfl, rfl⟩) rfl (zset_same _ _ _) (zget hna hg0) (by omega) (by omega) ?_
      have hz9 := (show (Value.ref b0) = (fun i : Nat => if (i : Int) = pos then Value.ref ch else lf i) k.toNat from by show _ = if ((k.toNat : Nat) : Int) = pos then _ else _; rw [if_neg (by omega)]; exact hb0.symm)
      refine zz_iinc rfl rfl rfl rfl ?_
      refine zz_goto rfl ?_
      refine Ev.heap (show _ = zset h na (za 3 n (zfil (k + 1).toNat (fun i => if (i : Int) = pos then .ref ch else lf i))) from by rw [zset_set, zfil_up hk0 hz9]) ?_
      exact ih (k + 1) (by omega) (by omega)
    · skip
      refine zz_aload_n rfl rfl ?_
      refine zz_goto rfl ?_
      refine zz_aast rfl (Or.inl ⟨rfl, rfl⟩) rfl (zset_same _ _ _) (zget hna hc) (by omega) (by omega) ?_
      have hz9 := (show (Value.ref ch) = (fun i : Nat => if (i : Int) = pos then Value.ref ch else lf i) k.toNat from by show _ = if ((k.toNat : Nat) : Int) = pos then _ else _; rw [if_pos (by omega)])
      refine zz_iinc rfl rfl rfl rfl ?_
      refine zz_goto rfl ?_
      refine Ev.heap (show _ = zset h na (za 3 n (zfil (k + 1).toNat (fun i => if (i : Int) = pos then .ref ch else lf i))) from by rw [zset_set, zfil_up hk0 hz9]) ?_
      exact ih (k + 1) (by omega) (by omega)
theorem ct_withLayer {a la sa ch n w ht : Nat} {pos : Int} {lf : Nat → Value} {cf : List Value} (hp : h a = some (zo 4 [zI w, zI ht, .ref la, .ref sa])) (hl : isLa h la n lf) (hn : n ≤ 3) (hc : h ch = some (zo 3 cf)) (hpos : zrg pos) : Ct Z m_Picture_withLayer 2 2 7 [.ref a, zI pos, .ref ch] h (fun r h' => ∃ na b, h na = none ∧ h b = none ∧ b ≠ na ∧ r = .inl (some (.ref b)) ∧ h' = zset (zset h na (za 3 n (zfil n (fun i => if (i : Int) = pos then .ref ch else lf i)))) b (zo 4 [zI w, zI ht, .ref na, .ref sa])) := by
  refine zct rfl (by decide) ok_Picture_withLayer rfl rfl ?_
  refine zz_aload_n rfl rfl ?_
  refine zz_getf rfl fl_Picture_16 hp rfl ?_
  refine zz_alenA rfl (Or.inl ⟨rfl, rfl⟩) hl.1 ?_
  refine zz_newq 3 rfl (Or.inl ⟨rfl, rfl⟩) cl_Picture_27 (by omega) (fun na hna => ?_)
  rw [Int.toNat_natCast, zfil_0 (fun i : Nat => if (i : Int) = pos then Value.ref ch else lf i)]
  refine zz_astore_n rfl rfl rfl ?_
  refine zz_iconst rfl ?_
  refine zz_istore rfl rfl rfl ?_
  refine lp_withLayer hp hl hn hc hpos hna ?_ n 0 (by omega) (by omega)
  refine zz_aload_n rfl rfl ?_
  refine zz_aload_n rfl rfl ?_
  refine zz_V rfl lk_Picture_29 cw_Picture_withLayers rfl (zget hna hp) (ct_withLayers (zget hna hp)) rfl rfl rfl rfl ?_
  rintro _ _ ⟨b, hb1, rfl, rfl⟩
  obtain ⟨hb2, hb3⟩ := zset_none hb1
  refine zaft_v ?_
  refine zz_aret rfl rfl (Or.inl ⟨_, rfl⟩) (Or.inr ⟨_, rfl⟩) ⟨na, b, hna, hb2, hb3, rfl, rfl⟩
end OB
