section FL
variable {Z : ZC} {h : ZH}
theorem lp_spread {a ra b rb w ht : Nat} {X X0 O : Nat → Nat} (hA : isPl h a ra w ht X0) (hB : isPl h b rb w ht O) (h1 : ra ≠ rb) (hh : ht ≤ 24) (hw : w ≤ 24) (hO : ∀ j, O j < 2 ^ w) {MC MS mc ms : Nat} {Q : ZR → ZH → Prop} (kx : ∀ Y g, zin2 O w ht X Y ht g → Ev Z (fun _ => True, m_TS_spread, 1, MC, MS) 92 [.ref a, .ref b, zI g, zI ht] [] (zset h ra (zi 0 ht (zcn Y))) mc ms Q) : ∀ (m : Nat) (y : Int) (Y : Nat → Nat) (g : Int), 0 ≤ y → y + m = ht → zin2 O w ht X Y y g → Ev Z (fun _ => True, m_TS_spread, 1, MC, MS) 4 [.ref a, .ref b, zI g, zI y] [] (zset h ra (zi 0 ht (zcn Y))) mc ms Q := by
  intro m
  induction m with
  | zero =>
    intro y Y g hy0 hyn hI
    refine zz_iload_n rfl rfl ?_
    refine zz_aload_n rfl rfl ?_
    refine zz_Vp rfl lk_TS_260 cw_Places_height rfl (isPl.oth hB hA.2 h1).1 (ct_Places_height (isPl.oth hB hA.2 h1)) rfl rfl rfl rfl ?_
    refine zz_icmp_ge rfl (by omega) (by omega) (fun hb9 => ?_) (fun hb9 => absurd hb9 (by omega))
    obtain rfl : y = (ht : Int) := by omega
    exact kx Y g hI
  | succ m ih =>
    intro y Y g hy0 hyn hI
    have hyh : 0 ≤ y ∧ y < ht := ⟨hy0, by omega⟩
    have hw24 : (2 : Nat) ^ w ≤ 2 ^ 24 := Nat.pow_le_pow_right (by decide) hw
    have hY24 : ∀ j, Y j < 16777216 := fun j => Nat.lt_of_lt_of_le (hI.2.2.1 j) hw24
    have hYy := hY24 y.toNat
    have hst := fun g' hg => hI.step (g' := g') hO hyh hg
    have hg01 := hI.2.2.2.2.1
    have hn24 : znr Y ht y &&& O y.toNat < 16777216 := Nat.lt_of_lt_of_le (Nat.and_lt_two_pow _ (hO _)) hw24
    refine zz_iload_n rfl rfl ?_
    refine zz_aload_n rfl rfl ?_
    refine zz_Vp rfl lk_TS_260 cw_Places_height rfl (isPl.oth hB hA.2 h1).1 (ct_Places_height (isPl.oth hB hA.2 h1)) rfl rfl rfl rfl ?_
    refine zz_icmp_ge rfl (by omega) (by omega) (fun hb9 => absurd hb9 (by omega)) (fun hb9 => ?_)
    refine zz_aload_n rfl rfl ?_
    refine zz_getf rfl fl_TS_273 (hA.up _).1 rfl ?_
    refine zz_iload_n rfl rfl ?_
    refine zz_iald rfl (zset_same _ _ _) (by omega) (by omega) ?_
    refine zz_eq (show zcn Y y.toNat = ((Y y.toNat : Nat) : Int) from rfl) ?_
    refine zz_istore rfl rfl rfl ?_
    refine zz_iload rfl rfl ?_
    refine zz_iload rfl rfl ?_
    refine zz_iconst rfl ?_
    refine zz_ishl rfl (by omega) ?_
    refine zz_eq (show _ = ((Y y.toNat * 2 : Nat) : Int) from by show ((Y y.toNat : Nat) : Int) * 2 = _; omega) ?_
    refine zz_ior rfl (zq_or (Y y.toNat) (Y y.toNat * 2)) ?_
    refine zz_iload rfl rfl ?_
    refine zz_iconst rfl ?_
    refine zz_ishr rfl (by omega) (by omega) ?_
    refine zz_eq (show _ = ((Y y.toNat / 2 : Nat) : Int) from by show ((Y y.toNat : Nat) : Int) / 2 = _; omega) ?_
    refine zz_ior rfl (zq_or (Y y.toNat ||| Y y.toNat * 2) (Y y.toNat / 2)) ?_
    refine zz_aload_n rfl rfl ?_
    refine zz_iload_n rfl rfl ?_
    refine zz_iconst rfl ?_
    refine zz_isub rfl ?_
    refine zz_Vp rfl lk_TS_306 cw_Places_rowAt rfl (hA.up _).1 (ct_rowAt (hA.up _) ⟨by omega, by omega⟩ hh) rfl rfl rfl rfl ?_
    refine zz_ior rfl (zq_or (Y y.toNat ||| Y y.toNat * 2 ||| Y y.toNat / 2) (zrw Y ht (y - 1))) ?_
    refine zz_aload_n rfl rfl ?_
    refine zz_iload_n rfl rfl ?_
    refine zz_iconst rfl ?_
    refine zz_iadd rfl ?_
    refine zz_Vp rfl lk_TS_306 cw_Places_rowAt rfl (hA.up _).1 (ct_rowAt (hA.up _) ⟨by omega, by omega⟩ hh) rfl rfl rfl rfl ?_
    refine zz_ior rfl (zq_or (Y y.toNat ||| Y y.toNat * 2 ||| Y y.toNat / 2 ||| zrw Y ht (y - 1)) (zrw Y ht (y + 1))) ?_
    refine zz_eq (show _ = ((znr Y ht y : Nat) : Int) from rfl) ?_
    refine zz_istore rfl rfl rfl ?_
    refine zz_aload_n rfl rfl ?_
    refine zz_getf rfl fl_TS_273 (hA.up _).1 rfl ?_
    refine zz_iload_n rfl rfl ?_
    refine zz_iload rfl rfl ?_
    refine zz_aload_n rfl rfl ?_
    refine zz_getf rfl fl_TS_273 (isPl.oth hB hA.2 h1).1 rfl ?_
    refine zz_iload_n rfl rfl ?_
    refine zz_iald rfl (isPl.oth hB hA.2 h1).2 (by omega) (by omega) ?_
    refine zz_eq (show zcn O y.toNat = ((O y.toNat : Nat) : Int) from rfl) ?_
    refine zz_iand rfl (zq_and (znr Y ht y) (O y.toNat)) ?_
    refine zz_iast rfl (zset_same _ _ _) (by omega) (by omega) ?_
    refine Ev.heap (show _ = (zset h ra (zi 0 ht (zcn (zun Y y.toNat (znr Y ht y &&& O y.toNat))))) from by rw [zset_set, zup_cn]) ?_
    refine zz_iload_n rfl rfl ?_
    refine zz_if_ne rfl (by omega) (fun hb66 => ?_) (fun hb66 => ?_)
    · skip
      refine zz_iconst rfl ?_
      refine zz_goto rfl ?_
      refine zz_istore_n rfl rfl rfl ?_
      have hI2 := hst 1 (by rw [if_neg (fun h9 => hb66 h9.1)])
      refine zz_iinc rfl rfl rfl rfl ?_
      refine zz_goto rfl ?_
      refine Ev.take 4 ?_
      exact ih (y + 1) _ _ (by omega) (by omega) hI2
    · skip
      refine zz_aload_n rfl rfl ?_
      refine zz_getf rfl fl_TS_273 (hA.up _).1 rfl ?_
      refine zz_iload_n rfl rfl ?_
      refine zz_iald rfl (zset_same _ _ _) (by omega) (by omega) ?_
      refine zz_eq (show zcn (zun Y y.toNat (znr Y ht y &&& O y.toNat)) y.toNat = ((znr Y ht y &&& O y.toNat : Nat) : Int) from by unfold zcn zun; rw [if_pos rfl]) ?_
      refine zz_iload rfl rfl ?_
      refine zz_icmp_eq rfl (by omega) (by omega) (fun hb77 => ?_) (fun hb77 => ?_)
      · skip
        refine zz_iconst rfl ?_
        refine zz_istore_n rfl rfl rfl ?_
        have hI2 := hst 0 (by rw [if_pos ⟨hb66, by omega⟩])
        refine zz_iinc rfl rfl rfl rfl ?_
        refine zz_goto rfl ?_
        refine Ev.take 4 ?_
        exact ih (y + 1) _ _ (by omega) (by omega) hI2
      · skip
        refine zz_iconst rfl ?_
        refine zz_goto rfl ?_
        refine zz_istore_n rfl rfl rfl ?_
        have hI2 := hst 1 (by rw [if_neg (fun h9 => hb77 (by rw [h9.2]))])
        refine zz_iinc rfl rfl rfl rfl ?_
        refine zz_goto rfl ?_
        refine Ev.take 4 ?_
        exact ih (y + 1) _ _ (by omega) (by omega) hI2
theorem ct_spread {a ra b rb w ht : Nat} {X O : Nat → Nat} (hA : isPl h a ra w ht X) (hB : isPl h b rb w ht O) (h1 : ra ≠ rb) (hh : ht ≤ 24) (hw : w ≤ 24) (hO : ∀ j, O j < 2 ^ w) (hX : ∀ j, X j < 2 ^ w) (hXO : ∀ j, zsbs (X j) (O j)) : Ct Z m_TS_spread 1 0 0 [.ref a, .ref b] h (fun r h' => ∃ Y g, zin2 O w ht X Y ht g ∧ r = .inl (some (zI g)) ∧ h' = zset h ra (zi 0 ht (zcn Y))) := by
  refine zct rfl (by decide) ok_TS_spread rfl rfl ?_
  refine zz_iconst rfl ?_
  refine zz_istore_n rfl rfl rfl ?_
  refine zz_iconst rfl ?_
  refine zz_istore_n rfl rfl rfl ?_
  refine Ev.heap (zset_id hA.2).symm ?_
  refine lp_spread (X := X) hA hB h1 hh hw hO (fun Y g hI => ?_) ht 0 X 0 (by omega) (by omega) ⟨fun _ _ => rfl, fun j => ⟨fun _ h => h, hXO j⟩, hX, fun C _ h => h, Or.inl rfl, fun _ => ⟨fun _ => rfl, fun j hj => by omega⟩, fun h => by cases h⟩
  exact zz_iload_n rfl rfl (zz_zret rfl rfl (by rcases hI.2.2.2.2.1 with rfl | rfl <;> rfl) ⟨Y, g, hI, rfl, rfl⟩)
theorem lp_reach {a ra b rb w ht : Nat} {X0 O : Nat → Nat} {x y : Int} (hA : isPl h a ra w ht X0) (hB : isPl h b rb w ht O) (h1 : ra ≠ rb) (hh : ht ≤ 24) (hw : w ≤ 24) (hO : ∀ j, O j < 2 ^ w) {MC MS mc ms : Nat} {Q : ZR → ZH → Prop} (hy : 0 ≤ y ∧ y < ht) (kx : ∀ X g k, ((∀ j, X j < 2 ^ w) ∧ (∀ j, zsbs (X j) (O j)) ∧ (∀ C : Nat → Nat → Prop, zcz O w ht C → ((O y.toNat).testBit x.toNat = true → C x.toNat y.toNat) → ∀ i j, j < ht → (X j).testBit i = true → C i j) ∧ ((O y.toNat).testBit x.toNat = true → (X y.toNat).testBit x.toNat = true) ∧ zcz O w ht (fun i j => j < ht ∧ (X j).testBit i = true)) → Ev Z (fun _ => True, m_TS_reachedFrom, 2, MC, MS) 74 [zI x, zI y, .ref b, .ref a, zI g, zI ((w * ht : Nat) : Int), zI k] [] (zset h ra (zi 0 ht (zcn X))) mc ms Q) : ∀ (m : Nat) (k : Int) (X : Nat → Nat) (g : Int), 0 ≤ k → k + m = (w * ht : Nat) → ((∀ j, X j < 2 ^ w) ∧ (∀ j, zsbs (X j) (O j)) ∧ (∀ C : Nat → Nat → Prop, zcz O w ht C → ((O y.toNat).testBit x.toNat = true → C x.toNat y.toNat) → ∀ i j, j < ht → (X j).testBit i = true → C i j) ∧ ((O y.toNat).testBit x.toNat = true → (X y.toNat).testBit x.toNat = true) ∧ (g = 0 ∨ g = 1) ∧ (g = 0 → zcz O w ht (fun i j => j < ht ∧ (X j).testBit i = true)) ∧ (g = 1 → (k : Int) + 1 ≤ zsz X ht)) → Ev Z (fun _ => True, m_TS_reachedFrom, 2, MC, MS) 49 [zI x, zI y, .ref b, .ref a, zI g, zI ((w * ht : Nat) : Int), zI k] [] (zset h ra (zi 0 ht (zcn X))) mc ms Q := by
  have hwh := Nat.mul_le_mul hw hh
  intro m
  induction m with
  | zero =>
    intro k X g hk0 hkn hI
    obtain ⟨i1, i2, i3, i4, i5, i6, i7⟩ := hI
    refine zz_iload rfl rfl ?_
    refine zz_iload rfl rfl ?_
    refine zz_icmp_ge rfl (by omega) (by omega) (fun hb53 => ?_) (fun hb53 => absurd hb53 (by omega))
    refine kx X g k ⟨i1, i2, i3, i4, ?_⟩
    rcases i5 with i5 | i5
    · exact i6 i5
    · have h8 := zsz_le hw i1 ht
      have h9 := i7 i5
      omega
  | succ m ih =>
    intro k X g hk0 hkn hI
    obtain ⟨i1, i2, i3, i4, i5, i6, i7⟩ := hI
    have hw24 : (2 : Nat) ^ w ≤ 2 ^ 24 := Nat.pow_le_pow_right (by decide) hw
    refine zz_iload rfl rfl ?_
    refine zz_iload rfl rfl ?_
    refine zz_icmp_ge rfl (by omega) (by omega) (fun hb53 => absurd hb53 (by omega)) (fun hb53 => ?_)
    refine zz_iload rfl rfl ?_
    refine zz_if_eq rfl (by omega) (fun hb58 => ?_) (fun hb58 => ?_)
    · skip
      exact kx X g k ⟨i1, i2, i3, i4, i6 hb58⟩
    · skip
      refine zz_aload_n rfl rfl ?_
      refine zz_aload_n rfl rfl ?_
      refine zz_S rfl lk_TS_302 cw_TS_spread (ct_spread (hA.up X) (isPl.oth hB hA.2 h1) h1 hh hw hO i1 i2) rfl rfl rfl rfl ?_
      rintro _ _ ⟨Y, g2, hJ, rfl, rfl⟩
      refine zaft_v ?_
      refine Ev.heap (zset_set _ _ _ _) ?_
      obtain ⟨j1, j2, j3, j4, j5, j6, j7⟩ := hJ
      refine zz_istore rfl rfl rfl ?_
      refine zz_iinc rfl rfl rfl rfl ?_
      refine zz_goto rfl ?_
      refine ih (k + 1) Y g2 (by omega) (by omega) ⟨j3, fun j => (j2 j).2, fun C hC hS i j hj hb => j4 C hC (i3 C hC hS) i j hj hb, fun ho => (j2 _).1 _ (i4 ho), j5, fun h0 => ?_, fun h1 => ?_⟩
      · obtain ⟨e1, e2⟩ := j6 h0
        have e3 : Y = X := funext e1
        rw [e3]
        exact zcl_of e2 i1
      · obtain ⟨j, e1, e2⟩ := j7 h1
        have h8 := zsz_strict (fun j => (j2 j).1) (fun j => Nat.lt_of_lt_of_le (j3 j) hw24) e2 ht e1
        have h9 := i7 (i5.resolve_left hb58)
        omega
theorem ct_reachedFrom {b rb w ht : Nat} {O : Nat → Nat} {x y : Int} (hB : isPl h b rb w ht O) (hh : ht ≤ 24) (hw : w ≤ 24) (hO : ∀ j, O j < 2 ^ w) (hbx : zbox x y w ht) : Ct Z m_TS_reachedFrom 2 2 26 [zI x, zI y, .ref b] h (fun r h' => ∃ na nr X, h na = none ∧ h nr = none ∧ na ≠ nr ∧ (∀ j, X j < 2 ^ w) ∧ (∀ i j, j < ht → ((X j).testBit i = true ↔ zrch O w ht x.toNat y.toNat i j)) ∧ r = .inl (some (.ref na)) ∧ h' = zset (zset h nr (zi 0 ht (zcn X))) na (zo 2 [zI w, .ref nr])) := by
  have hwh := Nat.mul_le_mul hw hh
  have hbx1 := hbx.1
  have hbx2 := hbx.2.1
  have hbx3 := hbx.2.2.1
  have hbx4 := hbx.2.2.2
  refine zct rfl (by decide) ok_TS_reachedFrom rfl rfl ?_
  refine zz_new (N := 2) rfl nw_TS_24 (fun na hna => ?_)
  refine zz_dup rfl rfl ?_
  refine zz_aload_n rfl rfl ?_
  refine zz_getf rfl fl_TS_261 (zget hna hB.1) rfl ?_
  refine zz_aload_n rfl rfl ?_
  refine zz_Vp rfl lk_TS_260 cw_Places_height rfl (zget hna hB.1) (ct_Places_height (isPl.fr hB hna)) rfl rfl rfl rfl ?_
  refine zz_N rfl lk_TS_26 cw_Places_init (fun E h9 h8 => by cases h8.1) (ct_Places_init (zset_same _ _ _) hh) rfl rfl rfl rfl ?_
  rintro _ _ ⟨rfl, nr, hnr0, rfl⟩
  obtain ⟨hnr, hne⟩ := zset_none hnr0
  refine zaft_u ?_
  refine Ev.heap (zset_mid h _ _ _ hne.symm) ?_
  have hnn : ∀ e, zset h nr e na = none := fun e => zset_nn hna hne.symm
  have hN : isPl (zset (zset h nr (zi 0 ht (zcn (fun _ => 0)))) na (zo 2 [zI w, .ref nr])) na nr w ht (fun _ => 0) := ⟨zset_same _ _ _, by rw [zset_ne hne, zset_same]⟩
  have hB2 : isPl (zset (zset h nr (zi 0 ht (zcn (fun _ => 0)))) na (zo 2 [zI w, .ref nr])) b rb w ht O := isPl.fr (isPl.fr hB hnr) (hnn _)
  have hrb : nr ≠ rb := (zne hnr hB.2).symm
  have hw24 : (2 : Nat) ^ w ≤ 2 ^ 24 := Nat.pow_le_pow_right (by decide) hw
  have hO24 : ∀ j, O j < 16777216 := fun j => Nat.lt_of_lt_of_le (hO j) hw24
  have hbb := zhp_bit (R := O) hbx
  refine zz_astore_n rfl rfl rfl ?_
  refine zz_aload_n rfl rfl ?_
  refine zz_iload_n rfl rfl ?_
  refine zz_iload_n rfl rfl ?_
  refine zz_Vp rfl lk_TS_149 cw_Places_has rfl hB2.1 (ct_has hB2 ⟨by omega, by omega⟩ ⟨by omega, by omega⟩ hh hw hO24) rfl rfl rfl rfl ?_
  refine zz_istore rfl rfl rfl ?_
  refine zz_iload rfl rfl ?_
  refine zz_ifB_eq rfl (fun hb26 => ?_) (fun hb26 => ?_)
  · skip
    refine zz_aload_n rfl rfl ?_
    refine zz_getf rfl fl_TS_261 hB2.1 rfl ?_
    refine zz_aload_n rfl rfl ?_
    refine zz_Vp rfl lk_TS_260 cw_Places_height rfl hB2.1 (ct_Places_height hB2) rfl rfl rfl rfl ?_
    refine zz_imul rfl ?_
    refine zz_eq (Int.natCast_mul w ht).symm ?_
    refine zz_istore rfl rfl rfl ?_
    refine zz_iconst rfl ?_
    refine zz_istore rfl rfl rfl ?_
    refine Ev.heap (show _ = zset (zset (zset h nr (zi 0 ht (zcn (fun _ => 0)))) na (zo 2 [zI w, .ref nr])) nr (zi 0 ht (zcn (fun _ => 0))) from by rw [zset_id hN.2]) ?_
    have hzb : zb (zhp O w ht x y) = 0 := if_neg hb26
    rw [hzb]
    refine lp_reach hN hB2 hrb hh hw hO ⟨hbx.2.2.1, hbx.2.2.2⟩ (fun X g k hC => ?_) (w * ht) 0 (fun _ => 0) 0 (by omega) (by omega) ?_
    · obtain ⟨c1, c2, c3, c4, c5⟩ := hC
      have hy9 : y.toNat < ht := by have := hbx.2.2.1; have := hbx.2.2.2; omega
      refine zz_aload_n rfl rfl ?_
      refine zz_aret rfl rfl (Or.inl ⟨_, rfl⟩) (Or.inr ⟨_, rfl⟩) ⟨na, nr, X, hna, hnr, hne.symm, c1, fun i j hj => zrch_of hy9 c1 c3 c4 c5 hj, rfl, zset_low h _ _ _ hne.symm⟩
    · refine ⟨fun j => Nat.two_pow_pos w, fun j i hi => (z0b hi).elim, fun C _ _ i j _ hi => (z0b hi).elim, fun ho => absurd (hbb.mpr ho) hb26, Or.inl rfl, fun _ i j i' j' hC => ?_, fun h9 => (nomatch h9)⟩
      have h8 := hC.2
      rw [Nat.zero_testBit] at h8
      cases h8
  · skip
    refine zz_aload_n rfl rfl ?_
    refine zz_iload_n rfl rfl ?_
    refine zz_iload_n rfl rfl ?_
    refine zz_Vu rfl lk_TS_266 cw_Places_add rfl hN.1 (ct_add hN ⟨by omega, by omega⟩ ⟨by omega, by omega⟩ hh hw) rfl rfl rfl rfl ?_
    rw [if_pos hbx]
    refine zz_aload_n rfl rfl ?_
    refine zz_getf rfl fl_TS_261 (isPl.oth hB2 hN.2 hrb).1 rfl ?_
    refine zz_aload_n rfl rfl ?_
    refine zz_Vp rfl lk_TS_260 cw_Places_height rfl (isPl.oth hB2 hN.2 hrb).1 (ct_Places_height (isPl.oth hB2 hN.2 hrb)) rfl rfl rfl rfl ?_
    refine zz_imul rfl ?_
    refine zz_eq (Int.natCast_mul w ht).symm ?_
    refine zz_istore rfl rfl rfl ?_
    refine zz_iconst rfl ?_
    refine zz_istore rfl rfl rfl ?_
    refine Ev.heap (show _ = zset (zset (zset h nr (zi 0 ht (zcn (fun _ => 0)))) na (zo 2 [zI w, .ref nr])) nr (zi 0 ht (zcn (zun (fun _ => 0) y.toNat (0 ||| 2 ^ x.toNat)))) from by rfl) ?_
    have hzb : zb (zhp O w ht x y) = 1 := if_pos hb26
    rw [hzb]
    refine lp_reach hN hB2 hrb hh hw hO ⟨hbx.2.2.1, hbx.2.2.2⟩ (fun X g k hC => ?_) (w * ht) 0 (zun (fun _ => 0) y.toNat (0 ||| 2 ^ x.toNat)) 1 (by omega) (by omega) ?_
    · obtain ⟨c1, c2, c3, c4, c5⟩ := hC
      have hy9 : y.toNat < ht := by have := hbx.2.2.1; have := hbx.2.2.2; omega
      refine zz_aload_n rfl rfl ?_
      refine zz_aret rfl rfl (Or.inl ⟨_, rfl⟩) (Or.inr ⟨_, rfl⟩) ⟨na, nr, X, hna, hnr, hne.symm, c1, fun i j hj => zrch_of hy9 c1 c3 c4 c5 hj, rfl, zset_low h _ _ _ hne.symm⟩
    · have hbit : ∀ i j, (((zun (fun _ => 0) y.toNat (0 ||| 2 ^ x.toNat)) j).testBit i = true ↔ j = y.toNat ∧ i = x.toNat) := by
        intro i j
        unfold zun
        split
        · next e => rw [Nat.zero_or, Nat.testBit_two_pow, decide_eq_true_eq]; exact ⟨fun h => ⟨e, h.symm⟩, fun h => h.2.symm⟩
        · next e => rw [Nat.zero_testBit]; exact ⟨fun h => (nomatch h), fun h => absurd h.1 e⟩
      have hO1 := hbb.mp hb26
      have hlt : ∀ j, (zun (fun _ => 0) y.toNat (0 ||| 2 ^ x.toNat)) j < 2 ^ w := by
        intro j
        unfold zun
        split
        · rw [Nat.zero_or]; exact Nat.pow_lt_pow_right (by decide) (by have := hbx.1; have := hbx.2.1; omega)
        · exact Nat.two_pow_pos w
      refine ⟨hlt, fun j i hi => ?_, fun C _ hS i j _ hi => ?_, fun _ => (hbit _ _).mpr ⟨rfl, rfl⟩, Or.inr rfl, fun h9 => (nomatch h9), fun _ => ?_⟩
      · obtain ⟨e1, e2⟩ := (hbit i j).mp hi
        rw [e1, e2]; exact hO1
      · obtain ⟨e1, e2⟩ := (hbit i j).mp hi
        rw [e1, e2]; exact hS hO1
      · have h8 := zsz_strict (A := fun _ => 0) (B := (zun (fun _ => 0) y.toNat (0 ||| 2 ^ x.toNat))) (fun j i hi => (z0b hi).elim) (fun j => Nat.lt_of_lt_of_le (hlt j) hw24) (k := y.toNat) (fun h9 => by have h7 := (hbit x.toNat y.toNat).mpr ⟨rfl, rfl⟩; rw [h9] at h7; exact z0b h7) ht (by have := hbx.2.2.1; have := hbx.2.2.2; omega)
        omega
end FL
