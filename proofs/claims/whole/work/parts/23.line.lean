section LN
variable {Z : ZC} {h : ZH}
theorem lp_line {a ra w ht : Nat} {R R1 : Nat → Nat} {fr to r : Int} (hp : isPl h a ra w ht R1) (hh : ht ≤ 24) (hw : w ≤ 24) (h4 : zl4 fr to) (hr : 0 ≤ r ∧ r ≤ 7) {MC MS mc ms : Nat} {Q : ZR → ZH → Prop} (kx : ∀ R2, zcv R R2 w ht (fun i j => zlb (zlx fr to) (zly fr to) r i j ((zln fr to + 1).toNat) = true) → Ev Z (fun _ => True, m_TS_addLine, 3, MC, MS) 86 [.ref a, zI fr, zI to, zI r, zI (zlo fr), zI (zhi fr), zI (zlo to - zlo fr), zI (zhi to - zhi fr), zI (zln fr to), zI (zln fr to + 1)] [] (zset h ra (zi 0 ht (zcn R2))) mc ms Q) : ∀ (m : Nat) (k : Nat) (R2 : Nat → Nat), (k : Int) + m = zln fr to + 1 → zcv R R2 w ht (fun i j => zlb (zlx fr to) (zly fr to) r i j (k) = true) → Ev Z (fun _ => True, m_TS_addLine, 3, MC, MS) 44 [.ref a, zI fr, zI to, zI r, zI (zlo fr), zI (zhi fr), zI (zlo to - zlo fr), zI (zhi to - zhi fr), zI (zln fr to), zI (k)] [] (zset h ra (zi 0 ht (zcn R2))) mc ms Q := by
  obtain ⟨hn, hwx, hwy⟩ := zln_rg h4
  obtain ⟨⟨g1, g2⟩, g3, g4⟩ := id h4
  intro m
  induction m with
  | zero =>
    intro k R2 hkn hcv
    refine zz_iload rfl rfl ?_
    refine zz_iload rfl rfl ?_
    refine zz_icmp_gt rfl (by omega) (by omega) (fun hb48 => ?_) (fun hb48 => absurd hb48 (by omega))
    have e : zln fr to + 1 = (k : Int) := by omega
    have kx1 := kx R2
    rw [e, Int.toNat_natCast] at kx1
    exact kx1 hcv
  | succ m ih =>
    intro k R2 hkn hcv
    have gx := zpa_rg (a := zlo to - zlo fr) (s := k) (l := zln fr to) hwx ⟨by omega, by omega⟩
    have gy := zpa_rg (a := zhi to - zhi fr) (s := k) (l := zln fr to) hwy ⟨by omega, by omega⟩
    refine zz_iload rfl rfl ?_
    refine zz_iload rfl rfl ?_
    refine zz_icmp_gt rfl (by omega) (by omega) (fun hb48 => absurd hb48 (by omega)) (fun hb48 => ?_)
    refine zz_aload_n rfl rfl ?_
    refine zz_iload rfl rfl ?_
    refine zz_iload rfl rfl ?_
    refine zz_iload rfl rfl ?_
    refine zz_iload rfl rfl ?_
    refine zz_Sp rfl lk_TS_290 cw_TS_partOf (ct_partOf hwx ⟨by omega, by omega⟩ (by omega)) rfl rfl rfl rfl ?_
    refine zz_iadd rfl ?_
    refine zz_iload rfl rfl ?_
    refine zz_iload rfl rfl ?_
    refine zz_iload rfl rfl ?_
    refine zz_iload rfl rfl ?_
    refine zz_Sp rfl lk_TS_290 cw_TS_partOf (ct_partOf hwy ⟨by omega, by omega⟩ (by omega)) rfl rfl rfl rfl ?_
    refine zz_iadd rfl ?_
    refine zz_iload_n rfl rfl ?_
    refine zz_S rfl lk_TS_293 cw_TS_addDisc (ct_addDisc (hp.up R2) hh hw ⟨by omega, by omega⟩ ⟨by omega, by omega⟩ hr hcv.2) rfl rfl rfl rfl ?_
    rintro _ _ ⟨rfl, R3, hc3, rfl⟩
    refine zaft_u ?_
    refine Ev.heap (zset_set _ _ _ _) ?_
    refine zz_iincK ((k + 1 : Nat) : Int) rfl rfl rfl rfl (by omega) ?_
    refine zz_goto rfl ?_
    exact ih (k + 1) R3 (by omega) (hcv.trans hc3 (fun i j _ _ => by show (zlb (zlx fr to) (zly fr to) r i j k || decide (zci (zlx fr to k) (zly fr to k) r i j)) = true ↔ _; rw [Bool.or_eq_true, decide_eq_true_eq]; exact Iff.rfl))
theorem ct_addLine {a ra w ht : Nat} {R : Nat → Nat} {fr to r : Int} (hp : isPl h a ra w ht R) (hh : ht ≤ 24) (hw : w ≤ 24) (h4 : zl4 fr to) (hr : 0 ≤ r ∧ r ≤ 7) (hRw : ∀ j, R j < 2 ^ w) (hfr : zrg fr) (hto : zrg to) : Ct Z m_TS_addLine 3 0 0 [.ref a, zI fr, zI to, zI r] h (fun r9 h' => r9 = .inl none ∧ ∃ R2, zcv R R2 w ht (fun i j => zlb (zlx fr to) (zly fr to) r i j ((zln fr to + 1).toNat) = true) ∧ h' = zset h ra (zi 0 ht (zcn R2))) := by
  obtain ⟨hn, hwx, hwy⟩ := zln_rg h4
  obtain ⟨⟨g1, g2⟩, g3, g4⟩ := id h4
  refine zct rfl (by decide) ok_TS_addLine rfl rfl ?_
  refine zz_iload_n rfl rfl ?_
  refine zz_i2s rfl ?_
  refine zz_eq (show fr.bmod 65536 = zlo fr from rfl) ?_
  refine zz_istore rfl rfl rfl ?_
  refine zz_iload_n rfl rfl ?_
  refine zz_bipush rfl (by decide) ?_
  refine zz_ishr rfl (by omega) (by omega) ?_
  refine zz_eq (show fr / 2 ^ Int.toNat 16 = zhi fr from rfl) ?_
  refine zz_istore rfl rfl rfl ?_
  refine zz_iload_n rfl rfl ?_
  refine zz_i2s rfl ?_
  refine zz_eq (show to.bmod 65536 = zlo to from rfl) ?_
  refine zz_iload rfl rfl ?_
  refine zz_isub rfl ?_
  refine zz_istore rfl rfl rfl ?_
  refine zz_iload_n rfl rfl ?_
  refine zz_bipush rfl (by decide) ?_
  refine zz_ishr rfl (by omega) (by omega) ?_
  refine zz_eq (show to / 2 ^ Int.toNat 16 = zhi to from rfl) ?_
  refine zz_iload rfl rfl ?_
  refine zz_isub rfl ?_
  refine zz_istore rfl rfl rfl ?_
  refine zz_iload rfl rfl ?_
  refine zz_mabs rfl mt_TS_281 rfl (by omega) ?_
  refine zz_iload rfl rfl ?_
  refine zz_mabs rfl mt_TS_281 rfl (by omega) ?_
  refine zz_mmax rfl mt_TS_287 rfl (by split <;> omega) (by split <;> omega) ?_
  refine zz_eq (show _ = zln fr to from rfl) ?_
  refine zz_istore rfl rfl rfl ?_
  refine zz_iconst rfl ?_
  refine zz_istore rfl rfl rfl ?_
  refine Ev.heap (zset_id hp.2).symm ?_
  refine lp_line (R := R) hp hh hw h4 hr (fun R2 hc2 => zz_vret rfl rfl ⟨rfl, R2, hc2, rfl⟩) (zln fr to + 1).toNat 0 R (by omega) (zcv.start hRw (fun i j _ _ h9 => by cases h9))
theorem tl_stroke_i {p pc la sa ra bf da af w ht : Nat} {pos : Int} {R : Nat → Nat} {f : Nat → Int} {md op vs : Int} (hp : isPt h p pc la sa ra bf da af w ht pos R f f md op vs) (hh : ht ≤ 24) (hw : w ≤ 24) (hR : ∀ j, R j < 16777216) {x0 tp tr : Nat} {T : Nat → Nat} {l fr to bd br : Int} {o1 o2 o3 : Value} (hth : h x0 = some (zo 0 [o1, o2, o3, zI bd, zI br])) (hT : isPl h tp tr w ht T) (hTR : ∀ j, T j < 16777216) (hta : af ≠ tr) {MC MS mc ms : Nat} {Q : ZR → ZH → Prop} {y : Int} (hy : 0 ≤ y ∧ y < ht) (kx : Ev Z (fun _ => True, m_TS_stroke, 4, MC, MS) 135 [.ref x0, zI l, zI fr, zI to, .ref p, .ref tp, zI y, zI w] [] (zset h af (zi 0 (w * ht) (zpt f w R (fun x y => if zhp T w ht (x : Int) (y : Int) then zbl bd (zldt f w ht (x : Int) (y : Int)) 0 255 else f (y * w + x)) (y * w + w).toNat))) mc ms Q) : ∀ (m : Nat) (x : Int), 0 ≤ x → x + m = w → Ev Z (fun _ => True, m_TS_stroke, 4, MC, MS) 71 [.ref x0, zI l, zI fr, zI to, .ref p, .ref tp, zI y, zI x] [] (zset h af (zi 0 (w * ht) (zpt f w R (fun x y => if zhp T w ht (x : Int) (y : Int) then zbl bd (zldt f w ht (x : Int) (y : Int)) 0 255 else f (y * w + x)) (y * w + x).toNat))) mc ms Q := by
  intro m
  induction m with
  | zero =>
    intro x hx0 hxn
    refine zz_iload rfl rfl ?_
    refine zz_aload rfl rfl ?_
    refine zz_Vp rfl lk_TS_127 cw_Painting_width rfl (hp.up _).1 (ct_Pw (hp.up _)) rfl rfl rfl rfl ?_
    refine zz_icmp_ge rfl (by omega) (by omega) (fun hb78 => ?_) (fun hb78 => absurd hb78 (by omega))
    obtain rfl : x = (w : Int) := by omega
    exact kx
  | succ m ih =>
    intro x hx0 hxn
    have hbx : zbox x y w ht := ⟨by omega, by omega, by omega, by omega⟩
    have hxt : ((x.toNat : Nat) : Int) = x := Int.toNat_of_nonneg hx0
    have hyt : ((y.toNat : Nat) : Int) = y := Int.toNat_of_nonneg hy.1
    refine zz_iload rfl rfl ?_
    refine zz_aload rfl rfl ?_
    refine zz_Vp rfl lk_TS_127 cw_Painting_width rfl (hp.up _).1 (ct_Pw (hp.up _)) rfl rfl rfl rfl ?_
    refine zz_icmp_ge rfl (by omega) (by omega) (fun hb78 => absurd hb78 (by omega)) (fun hb78 => ?_)
    refine zz_aload rfl rfl ?_
    refine zz_iload rfl rfl ?_
    refine zz_iload rfl rfl ?_
    refine zz_Vp rfl lk_TS_149 cw_Places_has rfl (isPl.oth hT hp.2.2.2.2.1 hta).1 (ct_has (isPl.oth hT hp.2.2.2.2.1 hta) ⟨by omega, by omega⟩ ⟨by omega, by omega⟩ hh hw hTR) rfl rfl rfl rfl ?_
    refine zz_ifB_eq rfl (fun hb90 => ?_) (fun hb90 => ?_)
    · skip
      refine Ev.heap (zskip hbx (show (if zhp T w ht ((x.toNat : Nat) : Int) ((y.toNat : Nat) : Int) then zbl bd (zldt f w ht ((x.toNat : Nat) : Int) ((y.toNat : Nat) : Int)) 0 255 else f (y.toNat * w + x.toNat)) = _ from by rw [hxt, hyt, if_neg hb90])) ?_
      refine zz_iinc rfl rfl rfl rfl ?_
      refine zz_goto rfl ?_
      refine Ev.take 8 ?_
      exact ih (x + 1) (by omega) (by omega)
    · skip
      refine zz_aload rfl rfl ?_
      refine zz_getf rfl fl_TS_153 (hp.up _).1 rfl ?_
      refine zz_iload rfl rfl ?_
      refine zz_iload rfl rfl ?_
      refine zz_Vp rfl lk_TS_157 cw_Layer_dotAt rfl (hp.up _).2.2.2.1.1 (ct_dotAt (hp.up _).2.2.2.1 ⟨by omega, by omega⟩ ⟨by omega, by omega⟩ hh hw) rfl rfl rfl rfl ?_
      refine zz_istore rfl rfl rfl ?_
      refine zz_aload rfl rfl ?_
      refine zz_iload rfl rfl ?_
      refine zz_iload rfl rfl ?_
      refine zz_aload_n rfl rfl ?_
      refine zz_getf rfl fl_TS_113 (zoth hp.2.2.2.2.1 hth zkio) rfl ?_
      refine zz_iload rfl rfl ?_
      refine zz_iconst rfl ?_
      refine zz_sipush rfl (by decide) ?_
      refine zz_Sp rfl lk_TS_161 cw_Dots_blended (ct_blended (by decide) (by decide)) rfl rfl rfl rfl ?_
      refine zz_Vu rfl lk_TS_129 cw_Painting_put rfl (hp.up _).1 (ct_put (hp.up _) hh hw hR hbx) rfl rfl rfl rfl ?_
      refine Ev.heap (zput_eq hbx (show _ = (if zhp T w ht ((x.toNat : Nat) : Int) ((y.toNat : Nat) : Int) then zbl bd (zldt f w ht ((x.toNat : Nat) : Int) ((y.toNat : Nat) : Int)) 0 255 else f (y.toNat * w + x.toNat)) from by rw [hxt, hyt, if_pos hb90])) ?_
      refine zz_iinc rfl rfl rfl rfl ?_
      refine zz_goto rfl ?_
      refine Ev.take 8 ?_
      exact ih (x + 1) (by omega) (by omega)
theorem tl_stroke_o {p pc la sa ra bf da af w ht : Nat} {pos : Int} {R : Nat → Nat} {f : Nat → Int} {md op vs : Int} (hp : isPt h p pc la sa ra bf da af w ht pos R f f md op vs) (hh : ht ≤ 24) (hw : w ≤ 24) (hR : ∀ j, R j < 16777216) {x0 tp tr : Nat} {T : Nat → Nat} {l fr to bd br : Int} {o1 o2 o3 : Value} (hth : h x0 = some (zo 0 [o1, o2, o3, zI bd, zI br])) (hT : isPl h tp tr w ht T) (hTR : ∀ j, T j < 16777216) (hta : af ≠ tr) {MC MS mc ms : Nat} {Q : ZR → ZH → Prop} (kx : Ev Z (fun _ => True, m_TS_stroke, 4, MC, MS) 141 [.ref x0, zI l, zI fr, zI to, .ref p, .ref tp, zI ht] [] (zset h af (zi 0 (w * ht) (zpt f w R (fun x y => if zhp T w ht (x : Int) (y : Int) then zbl bd (zldt f w ht (x : Int) (y : Int)) 0 255 else f (y * w + x)) ((ht : Int) * w + 0).toNat))) mc ms Q) : ∀ (m : Nat) (y : Int), 0 ≤ y → y + m = ht → Ev Z (fun _ => True, m_TS_stroke, 4, MC, MS) 58 [.ref x0, zI l, zI fr, zI to, .ref p, .ref tp, zI y] [] (zset h af (zi 0 (w * ht) (zpt f w R (fun x y => if zhp T w ht (x : Int) (y : Int) then zbl bd (zldt f w ht (x : Int) (y : Int)) 0 255 else f (y * w + x)) (y * w + 0).toNat))) mc ms Q := by
  intro m
  induction m with
  | zero =>
    intro y hy0 hyn
    refine zz_iload rfl rfl ?_
    refine zz_aload rfl rfl ?_
    refine zz_Vp rfl lk_TS_123 cw_Painting_height rfl (hp.up _).1 (ct_Ph (hp.up _)) rfl rfl rfl rfl ?_
    refine zz_icmp_ge rfl (by omega) (by omega) (fun hb65 => ?_) (fun hb65 => absurd hb65 (by omega))
    obtain rfl : y = (ht : Int) := by omega
    exact kx
  | succ m ih =>
    intro y hy0 hyn
    refine zz_iload rfl rfl ?_
    refine zz_aload rfl rfl ?_
    refine zz_Vp rfl lk_TS_123 cw_Painting_height rfl (hp.up _).1 (ct_Ph (hp.up _)) rfl rfl rfl rfl ?_
    refine zz_icmp_ge rfl (by omega) (by omega) (fun hb65 => absurd hb65 (by omega)) (fun hb65 => ?_)
    refine zz_iconst rfl ?_
    refine zz_istore rfl rfl rfl ?_
    refine tl_stroke_i hp hh hw hR hth hT hTR hta ⟨hy0, by omega⟩ ?_ w 0 (by omega) (by omega)
    refine zz_iinc rfl rfl rfl rfl ?_
    refine zz_goto rfl ?_
    refine Ev.take 7 ?_
    refine Ev.heap (zrow_end y) ?_
    exact ih (y + 1) (by omega) (by omega)
theorem tl_flood_i {p pc la sa ra bf da af w ht : Nat} {pos : Int} {R : Nat → Nat} {f : Nat → Int} {md op vs : Int} (hp : isPt h p pc la sa ra bf da af w ht pos R f f md op vs) (hh : ht ≤ 24) (hw : w ≤ 24) (hR : ∀ j, R j < 16777216) {x0 tp tr : Nat} {T : Nat → Nat} {l px py d tol wt : Int} (hT : isPl h tp tr w ht T) (hTR : ∀ j, T j < 16777216) (hta : af ≠ tr) {MC MS mc ms : Nat} {Q : ZR → ZH → Prop} {y : Int} (hy : 0 ≤ y ∧ y < ht) (kx : Ev Z (fun _ => True, m_TS_flood, 4, MC, MS) 140 [.ref x0, zI l, zI px, zI py, zI d, zI tol, .ref p, zI wt, .ref tp, zI y, zI w] [] (zset h af (zi 0 (w * ht) (zpt f w R (fun x y => if zhp T w ht (x : Int) (y : Int) then d else f (y * w + x)) (y * w + w).toNat))) mc ms Q) : ∀ (m : Nat) (x : Int), 0 ≤ x → x + m = w → Ev Z (fun _ => True, m_TS_flood, 4, MC, MS) 101 [.ref x0, zI l, zI px, zI py, zI d, zI tol, .ref p, zI wt, .ref tp, zI y, zI x] [] (zset h af (zi 0 (w * ht) (zpt f w R (fun x y => if zhp T w ht (x : Int) (y : Int) then d else f (y * w + x)) (y * w + x).toNat))) mc ms Q := by
  intro m
  induction m with
  | zero =>
    intro x hx0 hxn
    refine zz_iload rfl rfl ?_
    refine zz_aload rfl rfl ?_
    refine zz_Vp rfl lk_TS_127 cw_Painting_width rfl (hp.up _).1 (ct_Pw (hp.up _)) rfl rfl rfl rfl ?_
    refine zz_icmp_ge rfl (by omega) (by omega) (fun hb108 => ?_) (fun hb108 => absurd hb108 (by omega))
    obtain rfl : x = (w : Int) := by omega
    exact kx
  | succ m ih =>
    intro x hx0 hxn
    have hbx : zbox x y w ht := ⟨by omega, by omega, by omega, by omega⟩
    have hxt : ((x.toNat : Nat) : Int) = x := Int.toNat_of_nonneg hx0
    have hyt : ((y.toNat : Nat) : Int) = y := Int.toNat_of_nonneg hy.1
    refine zz_iload rfl rfl ?_
    refine zz_aload rfl rfl ?_
    refine zz_Vp rfl lk_TS_127 cw_Painting_width rfl (hp.up _).1 (ct_Pw (hp.up _)) rfl rfl rfl rfl ?_
    refine zz_icmp_ge rfl (by omega) (by omega) (fun hb108 => absurd hb108 (by omega)) (fun hb108 => ?_)
    refine zz_aload rfl rfl ?_
    refine zz_iload rfl rfl ?_
    refine zz_iload rfl rfl ?_
    refine zz_Vp rfl lk_TS_149 cw_Places_has rfl (isPl.oth hT hp.2.2.2.2.1 hta).1 (ct_has (isPl.oth hT hp.2.2.2.2.1 hta) ⟨by omega, by omega⟩ ⟨by omega, by omega⟩ hh hw hTR) rfl rfl rfl rfl ?_
    refine zz_ifB_eq rfl (fun hb120 => ?_) (fun hb120 => ?_)
    · skip
      refine Ev.heap (zskip hbx (show (if zhp T w ht ((x.toNat : Nat) : Int) ((y.toNat : Nat) : Int) then d else f (y.toNat * w + x.toNat)) = _ from by rw [hxt, hyt, if_neg hb120])) ?_
      refine zz_iinc rfl rfl rfl rfl ?_
      refine zz_goto rfl ?_
      exact ih (x + 1) (by omega) (by omega)
    · skip
      refine zz_aload rfl rfl ?_
      refine zz_iload rfl rfl ?_
      refine zz_iload rfl rfl ?_
      refine zz_iload rfl rfl ?_
      refine zz_Vu rfl lk_TS_129 cw_Painting_put rfl (hp.up _).1 (ct_put (hp.up _) hh hw hR hbx) rfl rfl rfl rfl ?_
      refine Ev.heap (zput_eq hbx (show _ = (if zhp T w ht ((x.toNat : Nat) : Int) ((y.toNat : Nat) : Int) then d else f (y.toNat * w + x.toNat)) from by rw [hxt, hyt, if_pos hb120])) ?_
      refine zz_iinc rfl rfl rfl rfl ?_
      refine zz_goto rfl ?_
      exact ih (x + 1) (by omega) (by omega)
theorem tl_flood_o {p pc la sa ra bf da af w ht : Nat} {pos : Int} {R : Nat → Nat} {f : Nat → Int} {md op vs : Int} (hp : isPt h p pc la sa ra bf da af w ht pos R f f md op vs) (hh : ht ≤ 24) (hw : w ≤ 24) (hR : ∀ j, R j < 16777216) {x0 tp tr : Nat} {T : Nat → Nat} {l px py d tol wt : Int} (hT : isPl h tp tr w ht T) (hTR : ∀ j, T j < 16777216) (hta : af ≠ tr) {MC MS mc ms : Nat} {Q : ZR → ZH → Prop} (kx : Ev Z (fun _ => True, m_TS_flood, 4, MC, MS) 146 [.ref x0, zI l, zI px, zI py, zI d, zI tol, .ref p, zI wt, .ref tp, zI ht] [] (zset h af (zi 0 (w * ht) (zpt f w R (fun x y => if zhp T w ht (x : Int) (y : Int) then d else f (y * w + x)) ((ht : Int) * w + 0).toNat))) mc ms Q) : ∀ (m : Nat) (y : Int), 0 ≤ y → y + m = ht → Ev Z (fun _ => True, m_TS_flood, 4, MC, MS) 88 [.ref x0, zI l, zI px, zI py, zI d, zI tol, .ref p, zI wt, .ref tp, zI y] [] (zset h af (zi 0 (w * ht) (zpt f w R (fun x y => if zhp T w ht (x : Int) (y : Int) then d else f (y * w + x)) (y * w + 0).toNat))) mc ms Q := by
  intro m
  induction m with
  | zero =>
    intro y hy0 hyn
    refine zz_iload rfl rfl ?_
    refine zz_aload rfl rfl ?_
    refine zz_Vp rfl lk_TS_123 cw_Painting_height rfl (hp.up _).1 (ct_Ph (hp.up _)) rfl rfl rfl rfl ?_
    refine zz_icmp_ge rfl (by omega) (by omega) (fun hb95 => ?_) (fun hb95 => absurd hb95 (by omega))
    obtain rfl : y = (ht : Int) := by omega
    exact kx
  | succ m ih =>
    intro y hy0 hyn
    refine zz_iload rfl rfl ?_
    refine zz_aload rfl rfl ?_
    refine zz_Vp rfl lk_TS_123 cw_Painting_height rfl (hp.up _).1 (ct_Ph (hp.up _)) rfl rfl rfl rfl ?_
    refine zz_icmp_ge rfl (by omega) (by omega) (fun hb95 => absurd hb95 (by omega)) (fun hb95 => ?_)
    refine zz_iconst rfl ?_
    refine zz_istore rfl rfl rfl ?_
    refine tl_flood_i hp hh hw hR hT hTR hta ⟨hy0, by omega⟩ ?_ w 0 (by omega) (by omega)
    refine zz_iinc rfl rfl rfl rfl ?_
    refine zz_goto rfl ?_
    refine Ev.take 10 ?_
    refine Ev.heap (zrow_end y) ?_
    exact ih (y + 1) (by omega) (by omega)
theorem tl_paste_i {p pc la sa ra bf da af w ht : Nat} {pos : Int} {R : Nat → Nat} {f : Nat → Int} {md op vs : Int} (hp : isPt h p pc la sa ra bf da af w ht pos R f f md op vs) (hh : ht ≤ 24) (hw : w ≤ 24) (hR : ∀ j, R j < 16777216) {x0 cp cl cb cd cr w1 ht1 : Nat} {T : Nat → Nat} {f1 : Nat → Int} {l dx dy md1 op1 vs1 : Int} {o1 o2 o4 o5 : Value} (hth : h x0 = some (zo 0 [o1, o2, .ref cp, o4, o5])) (hcp : h cp = some (zo 6 [.ref cb, .ref cl])) (hT : isPl h cl cr w1 ht1 T) (hTR : ∀ j, T j < 16777216) (hta : af ≠ cr) (hL : isLy h cb cd w1 ht1 f1 md1 op1 vs1) (htd : af ≠ cd) (hw1 : w1 ≤ 24) (hh1 : ht1 ≤ 24) (hdx : -100 ≤ dx ∧ dx ≤ 100) (hdy : -100 ≤ dy ∧ dy ≤ 100) {MC MS mc ms : Nat} {Q : ZR → ZH → Prop} {y : Int} (hy : 0 ≤ y ∧ y < ht) (kx : Ev Z (fun _ => True, m_TS_paste, 4, MC, MS) 125 [.ref x0, zI l, zI dx, zI dy, .ref p, zI (zcn2 (fun j i => decide (zhp R w ht (i : Int) (j : Int) ∧ zhp T w1 ht1 ((i : Int) - dx) ((j : Int) - dy))) w y w : Nat), zI y, zI w] [] (zset h af (zi 0 (w * ht) (zpt f w R (fun x y => if zhp T w1 ht1 ((x : Int) - dx) ((y : Int) - dy) then zldt f1 w1 ht1 ((x : Int) - dx) ((y : Int) - dy) else f (y * w + x)) (y * w + w).toNat))) mc ms Q) : ∀ (m : Nat) (x : Int), 0 ≤ x → x + m = w → Ev Z (fun _ => True, m_TS_paste, 4, MC, MS) 46 [.ref x0, zI l, zI dx, zI dy, .ref p, zI (zcn2 (fun j i => decide (zhp R w ht (i : Int) (j : Int) ∧ zhp T w1 ht1 ((i : Int) - dx) ((j : Int) - dy))) w y x : Nat), zI y, zI x] [] (zset h af (zi 0 (w * ht) (zpt f w R (fun x y => if zhp T w1 ht1 ((x : Int) - dx) ((y : Int) - dy) then zldt f1 w1 ht1 ((x : Int) - dx) ((y : Int) - dy) else f (y * w + x)) (y * w + x).toNat))) mc ms Q := by
  intro m
  induction m with
  | zero =>
    intro x hx0 hxn
    refine zz_iload rfl rfl ?_
    refine zz_aload rfl rfl ?_
    refine zz_Vp rfl lk_TS_127 cw_Painting_width rfl (hp.up _).1 (ct_Pw (hp.up _)) rfl rfl rfl rfl ?_
    refine zz_icmp_ge rfl (by omega) (by omega) (fun hb53 => ?_) (fun hb53 => absurd hb53 (by omega))
    obtain rfl : x = (w : Int) := by omega
    exact kx
  | succ m ih =>
    intro x hx0 hxn
    have hbx : zbox x y w ht := ⟨by omega, by omega, by omega, by omega⟩
    have hxt : ((x.toNat : Nat) : Int) = x := Int.toNat_of_nonneg hx0
    have hyt : ((y.toNat : Nat) : Int) = y := Int.toNat_of_nonneg hy.1
    refine zz_iload rfl rfl ?_
    refine zz_aload rfl rfl ?_
    refine zz_Vp rfl lk_TS_127 cw_Painting_width rfl (hp.up _).1 (ct_Pw (hp.up _)) rfl rfl rfl rfl ?_
    refine zz_icmp_ge rfl (by omega) (by omega) (fun hb53 => absurd hb53 (by omega)) (fun hb53 => ?_)
    refine zz_aload rfl rfl ?_
    refine zz_iload rfl rfl ?_
    refine zz_iload rfl rfl ?_
    refine zz_Vp rfl lk_TS_184 cw_Painting_takes rfl (hp.up _).1 (ct_takes (hp.up _) hh hw hR ⟨by omega, by omega⟩ ⟨by omega, by omega⟩) rfl rfl rfl rfl ?_
    refine zz_ifB_eq rfl (fun hb65 => ?_) (fun hb65 => ?_)
    · skip
      have hc0 := zcn2_f (w := w) (P := (fun j i => decide (zhp R w ht (i : Int) (j : Int) ∧ zhp T w1 ht1 ((i : Int) - dx) ((j : Int) - dy)))) (y := y) hx0 (show decide (zhp R w ht ((x.toNat : Nat) : Int) ((y.toNat : Nat) : Int) ∧ zhp T w1 ht1 ((((x.toNat : Nat) : Int) : Int) - dx) ((((y.toNat : Nat) : Int) : Int) - dy)) = false from by rw [hxt, hyt]; exact decide_eq_false (fun h9 => hb65 h9.1))
      rw [hc0]
      refine Ev.heap (show _ = zset h af (zi 0 (w * ht) (zpt f w R (fun x y => if zhp T w1 ht1 ((x : Int) - dx) ((y : Int) - dy) then zldt f1 w1 ht1 ((x : Int) - dx) ((y : Int) - dy) else f (y * w + x)) (y * w + (x + 1)).toNat)) from by rw [← zpt_f hbx hb65]) ?_
      refine zz_iinc rfl rfl rfl rfl ?_
      refine zz_goto rfl ?_
      exact ih (x + 1) (by omega) (by omega)
    · skip
      refine zz_aload_n rfl rfl ?_
      refine zz_getf rfl fl_TS_177 (zoth hp.2.2.2.2.1 hth zkio) rfl ?_
      refine zz_getf rfl fl_TS_187 (zoth hp.2.2.2.2.1 hcp zkio) rfl ?_
      refine zz_iload rfl rfl ?_
      refine zz_iload_n rfl rfl ?_
      refine zz_isub rfl ?_
      refine zz_iload rfl rfl ?_
      refine zz_iload_n rfl rfl ?_
      refine zz_isub rfl ?_
      refine zz_Vp rfl lk_TS_149 cw_Places_has rfl (isPl.oth hT hp.2.2.2.2.1 hta).1 (ct_has (isPl.oth hT hp.2.2.2.2.1 hta) ⟨by omega, by omega⟩ ⟨by omega, by omega⟩ hh1 hw1 hTR) rfl rfl rfl rfl ?_
      refine zz_ifB_eq rfl (fun hb86 => ?_) (fun hb86 => ?_)
      · skip
        have hc0 := zcn2_f (w := w) (P := (fun j i => decide (zhp R w ht (i : Int) (j : Int) ∧ zhp T w1 ht1 ((i : Int) - dx) ((j : Int) - dy)))) (y := y) hx0 (show decide (zhp R w ht ((x.toNat : Nat) : Int) ((y.toNat : Nat) : Int) ∧ zhp T w1 ht1 ((((x.toNat : Nat) : Int) : Int) - dx) ((((y.toNat : Nat) : Int) : Int) - dy)) = false from by rw [hxt, hyt]; exact decide_eq_false (fun h9 => hb86 h9.2))
        rw [hc0]
        refine Ev.heap (zskip hbx (show (if zhp T w1 ht1 ((((x.toNat : Nat) : Int) : Int) - dx) ((((y.toNat : Nat) : Int) : Int) - dy) then zldt f1 w1 ht1 (((x.toNat : Nat) : Int) - dx) (((y.toNat : Nat) : Int) - dy) else f (y.toNat * w + x.toNat)) = _ from by rw [hxt, hyt, if_neg hb86])) ?_
        refine zz_iinc rfl rfl rfl rfl ?_
        refine zz_goto rfl ?_
        exact ih (x + 1) (by omega) (by omega)
      · skip
        refine zz_aload rfl rfl ?_
        refine zz_iload rfl rfl ?_
        refine zz_iload rfl rfl ?_
        refine zz_aload_n rfl rfl ?_
        refine zz_getf rfl fl_TS_177 (zoth hp.2.2.2.2.1 hth zkio) rfl ?_
        refine zz_getf rfl fl_TS_190 (zoth hp.2.2.2.2.1 hcp zkio) rfl ?_
        refine zz_iload rfl rfl ?_
        refine zz_iload_n rfl rfl ?_
        refine zz_isub rfl ?_
        refine zz_iload rfl rfl ?_
        refine zz_iload_n rfl rfl ?_
        refine zz_isub rfl ?_
        refine zz_Vp rfl lk_TS_157 cw_Layer_dotAt rfl (zoth hp.2.2.2.2.1 hL.1 zkio) (ct_dotAt (show isLy (zset h af _) cb cd w1 ht1 f1 md1 op1 vs1 from ⟨zoth hp.2.2.2.2.1 hL.1 zkio, by rw [zset_ne htd.symm]; exact hL.2⟩) ⟨by omega, by omega⟩ ⟨by omega, by omega⟩ hh1 hw1) rfl rfl rfl rfl ?_
        refine zz_Vu rfl lk_TS_129 cw_Painting_put rfl (hp.up _).1 (ct_put (hp.up _) hh hw hR hbx) rfl rfl rfl rfl ?_
        refine Ev.heap (zput_eq hbx (show _ = (if zhp T w1 ht1 ((((x.toNat : Nat) : Int) : Int) - dx) ((((y.toNat : Nat) : Int) : Int) - dy) then zldt f1 w1 ht1 (((x.toNat : Nat) : Int) - dx) (((y.toNat : Nat) : Int) - dy) else f (y.toNat * w + x.toNat)) from by rw [hxt, hyt, if_pos hb86])) ?_
        refine zz_iincK ((zcn2 (fun j i => decide (zhp R w ht (i : Int) (j : Int) ∧ zhp T w1 ht1 ((i : Int) - dx) ((j : Int) - dy))) w y (x + 1) : Nat) : Int) rfl rfl rfl rfl (zcn2_t hx0 (show decide (zhp R w ht ((x.toNat : Nat) : Int) ((y.toNat : Nat) : Int) ∧ zhp T w1 ht1 ((((x.toNat : Nat) : Int) : Int) - dx) ((((y.toNat : Nat) : Int) : Int) - dy)) = true from by rw [hxt, hyt]; exact decide_eq_true ⟨hb65, hb86⟩)) ?_
        refine zz_iinc rfl rfl rfl rfl ?_
        refine zz_goto rfl ?_
        exact ih (x + 1) (by omega) (by omega)
theorem tl_paste_o {p pc la sa ra bf da af w ht : Nat} {pos : Int} {R : Nat → Nat} {f : Nat → Int} {md op vs : Int} (hp : isPt h p pc la sa ra bf da af w ht pos R f f md op vs) (hh : ht ≤ 24) (hw : w ≤ 24) (hR : ∀ j, R j < 16777216) {x0 cp cl cb cd cr w1 ht1 : Nat} {T : Nat → Nat} {f1 : Nat → Int} {l dx dy md1 op1 vs1 : Int} {o1 o2 o4 o5 : Value} (hth : h x0 = some (zo 0 [o1, o2, .ref cp, o4, o5])) (hcp : h cp = some (zo 6 [.ref cb, .ref cl])) (hT : isPl h cl cr w1 ht1 T) (hTR : ∀ j, T j < 16777216) (hta : af ≠ cr) (hL : isLy h cb cd w1 ht1 f1 md1 op1 vs1) (htd : af ≠ cd) (hw1 : w1 ≤ 24) (hh1 : ht1 ≤ 24) (hdx : -100 ≤ dx ∧ dx ≤ 100) (hdy : -100 ≤ dy ∧ dy ≤ 100) {MC MS mc ms : Nat} {Q : ZR → ZH → Prop} (kx : Ev Z (fun _ => True, m_TS_paste, 4, MC, MS) 131 [.ref x0, zI l, zI dx, zI dy, .ref p, zI (zcn2 (fun j i => decide (zhp R w ht (i : Int) (j : Int) ∧ zhp T w1 ht1 ((i : Int) - dx) ((j : Int) - dy))) w ht 0 : Nat), zI ht] [] (zset h af (zi 0 (w * ht) (zpt f w R (fun x y => if zhp T w1 ht1 ((x : Int) - dx) ((y : Int) - dy) then zldt f1 w1 ht1 ((x : Int) - dx) ((y : Int) - dy) else f (y * w + x)) ((ht : Int) * w + 0).toNat))) mc ms Q) : ∀ (m : Nat) (y : Int), 0 ≤ y → y + m = ht → Ev Z (fun _ => True, m_TS_paste, 4, MC, MS) 33 [.ref x0, zI l, zI dx, zI dy, .ref p, zI (zcn2 (fun j i => decide (zhp R w ht (i : Int) (j : Int) ∧ zhp T w1 ht1 ((i : Int) - dx) ((j : Int) - dy))) w y 0 : Nat), zI y] [] (zset h af (zi 0 (w * ht) (zpt f w R (fun x y => if zhp T w1 ht1 ((x : Int) - dx) ((y : Int) - dy) then zldt f1 w1 ht1 ((x : Int) - dx) ((y : Int) - dy) else f (y * w + x)) (y * w + 0).toNat))) mc ms Q := by
  intro m
  induction m with
  | zero =>
    intro y hy0 hyn
    refine zz_iload rfl rfl ?_
    refine zz_aload rfl rfl ?_
    refine zz_Vp rfl lk_TS_123 cw_Painting_height rfl (hp.up _).1 (ct_Ph (hp.up _)) rfl rfl rfl rfl ?_
    refine zz_icmp_ge rfl (by omega) (by omega) (fun hb40 => ?_) (fun hb40 => absurd hb40 (by omega))
    obtain rfl : y = (ht : Int) := by omega
    exact kx
  | succ m ih =>
    intro y hy0 hyn
    refine zz_iload rfl rfl ?_
    refine zz_aload rfl rfl ?_
    refine zz_Vp rfl lk_TS_123 cw_Painting_height rfl (hp.up _).1 (ct_Ph (hp.up _)) rfl rfl rfl rfl ?_
    refine zz_icmp_ge rfl (by omega) (by omega) (fun hb40 => absurd hb40 (by omega)) (fun hb40 => ?_)
    refine zz_iconst rfl ?_
    refine zz_istore rfl rfl rfl ?_
    refine tl_paste_i hp hh hw hR hth hcp hT hTR hta hL htd hw1 hh1 hdx hdy ⟨hy0, by omega⟩ ?_ w 0 (by omega) (by omega)
    refine zz_iinc rfl rfl rfl rfl ?_
    refine zz_goto rfl ?_
    have hce := zcn2_e (fun j i => decide (zhp R w ht (i : Int) (j : Int) ∧ zhp T w1 ht1 ((i : Int) - dx) ((j : Int) - dy))) w hy0
    rw [hce]
    refine Ev.take 7 ?_
    refine Ev.heap (zrow_end y) ?_
    exact ih (y + 1) (by omega) (by omega)
end LN
