section FE
variable {Z : ZC} {h : ZH}
theorem zro_congr {p q : Nat → Bool} : ∀ n, (∀ i, i < n → p i = q i) → zro p n = zro q n := by
  intro n
  induction n with
  | zero => intro _; rfl
  | succ n ih =>
    intro hc
    show (if p n = true then zro p n ||| 2 ^ n else zro p n) = (if q n = true then zro q n ||| 2 ^ n else zro q n)
    rw [ih (fun i hi => hc i (by omega)), hc n (by omega)]
theorem zrs_in {p : Nat → Nat → Bool} {w ht j : Nat} (hj : j < ht) : zrs p w ht 0 j = zro (p j) w := by
  unfold zrs
  rw [if_pos (by omega)]
theorem zrs_w {p : Nat → Nat → Bool} {w ht : Nat} (j : Nat) : zrs p w ht 0 j < 2 ^ w := zrs_lt p ⟨by omega, by omega⟩ j
theorem zro_full {p : Nat → Bool} (w : Nat) (hp : ∀ i, i < w → p i = true) : zro p w = 2 ^ w - 1 := by
  apply Nat.eq_of_testBit_eq
  intro i
  rw [zro_bit, Nat.testBit_two_pow_sub_one]
  by_cases hi : i < w
  · rw [hp i hi]; simp
  · simp [hi]
theorem fc_make0 {x : Nat} {S : SS} (hR : CRep h x S) {w e : Int} (hw : zrg w) (he : zrg e) (hn : ¬ ((1 ≤ w ∧ w ≤ 24) ∧ 1 ≤ e ∧ e ≤ 24)) : Ct Z m_TS_make 3 20 4000 [.ref x, zI w, zI e] h (fcP h x S ((1 ≤ w ∧ w ≤ 24) ∧ 1 ≤ e ∧ e ≤ 24) zIAE (True) zIAE (none) (sBeg S (sNew w.toNat e.toNat))) := by
  obtain ⟨hi, pa, pf, fv, cv, hC⟩ := hR
  have hC1 := hC.1
  refine zct rfl (by decide) ok_TS_make rfl rfl ?_
  refine zz_iload_n rfl rfl ?_
  refine zz_iconst rfl ?_
  refine zz_bipush rfl (by decide) ?_
  refine zz_Sp rfl lk_TS_16 cw_TS_isWithin (ct_isWithin hw ⟨by decide, by decide⟩ ⟨by decide, by decide⟩) rfl rfl rfl rfl ?_
  refine zz_ifB_eq rfl (fun hb7 => ?_) (fun hb7 => ?_)
  · skip
    refine zz_iconst rfl ?_
    refine zz_S rfl lk_TS_20 cw_TS_require ct_require0 rfl rfl rfl rfl ?_
    rintro _ _ ⟨rfl, rfl⟩
    exact zaft_x (zx_out rfl (fcP.no1 hC zext.rf (fun g => hb7 g.1)))
  · skip
    refine zz_iload_n rfl rfl ?_
    refine zz_iconst rfl ?_
    refine zz_bipush rfl (by decide) ?_
    refine zz_Sp rfl lk_TS_16 cw_TS_isWithin (ct_isWithin he ⟨by decide, by decide⟩ ⟨by decide, by decide⟩) rfl rfl rfl rfl ?_
    refine zz_ifB_eq rfl (fun hb17 => ?_) (fun hb17 => ?_)
    · skip
      refine zz_iconst rfl ?_
      refine zz_S rfl lk_TS_20 cw_TS_require ct_require0 rfl rfl rfl rfl ?_
      rintro _ _ ⟨rfl, rfl⟩
      exact zaft_x (zx_out rfl (fcP.no1 hC zext.rf (fun g => hb17 g.2)))
    · skip
      refine zz_iconst rfl ?_
      refine zz_goto rfl ?_
      exact absurd ⟨hb7, hb17⟩ hn
      skip
theorem fc_make1 {x : Nat} {S : SS} (hR : CRep h x S) {w ht : Nat} (hw1 : 1 ≤ w) (hw : w ≤ 24) (hh1 : 1 ≤ ht) (hh : ht ≤ 24) : Ct Z m_TS_make 3 20 4000 [.ref x, zI w, zI ht] h (fun r h' => r = .inl none ∧ zfr h h' ∧ CRep h' x (sBeg S (sNew w ht))) := by
  obtain ⟨hi, pa, pf, fv, cv, hC⟩ := hR
  have hC1 := hC.1
  refine zct rfl (by decide) ok_TS_make rfl rfl ?_
  refine zz_iload_n rfl rfl ?_
  refine zz_iconst rfl ?_
  refine zz_bipush rfl (by decide) ?_
  refine zz_Sp rfl lk_TS_16 cw_TS_isWithin (ct_isWithin ⟨by omega, by omega⟩ ⟨by decide, by decide⟩ ⟨by decide, by decide⟩) rfl rfl rfl rfl ?_
  refine zz_ifB_eq rfl (fun hb7 => absurd hb7 (by omega)) (fun hb7 => ?_)
  refine zz_iload_n rfl rfl ?_
  refine zz_iconst rfl ?_
  refine zz_bipush rfl (by decide) ?_
  refine zz_Sp rfl lk_TS_16 cw_TS_isWithin (ct_isWithin ⟨by omega, by omega⟩ ⟨by decide, by decide⟩ ⟨by decide, by decide⟩) rfl rfl rfl rfl ?_
  refine zz_ifB_eq rfl (fun hb17 => absurd hb17 (by omega)) (fun hb17 => ?_)
  refine zz_iconst rfl ?_
  refine zz_goto rfl ?_
  refine zz_Su rfl lk_TS_20 cw_TS_require ct_require1 rfl rfl rfl rfl ?_
  refine zz_new (N := 2) rfl nw_TS_24 (fun na hna => ?_)
  refine zz_dup rfl rfl ?_
  refine zz_iload_n rfl rfl ?_
  refine zz_iload_n rfl rfl ?_
  refine zz_N rfl lk_TS_26 cw_Places_init (fun E h9 h8 => by cases h8.1) (ct_Places_init (w := w) (ht := ht) (zset_same _ _ _) hh) rfl rfl rfl rfl ?_
  rintro _ _ ⟨rfl, nr, hnr0, rfl⟩
  obtain ⟨hnr, hne⟩ := zset_none hnr0
  refine zaft_u ?_
  refine Ev.heap (zset_mid h _ _ _ hne.symm) ?_
  have hnn : ∀ e, zset h nr e na = none := fun e => zset_nn hna hne.symm
  have hN : isPl (zset (zset h nr (zi 0 ht (zcn (fun _ => 0)))) na (zo 2 [zI w, .ref nr])) na nr w ht (fun _ => 0) := ⟨zset_same _ _ _, by rw [zset_ne hne, zset_same]⟩
  refine zz_astore_n rfl rfl rfl ?_
  refine zz_aload_n rfl rfl ?_
  refine zz_iconst rfl ?_
  refine zz_iconst rfl ?_
  refine zz_iload_n rfl rfl ?_
  refine zz_iload_n rfl rfl ?_
  refine zz_Su rfl lk_TS_29 cw_TS_addRectangle (ct_addRectangle hN hh hw ⟨by decide, by decide⟩ ⟨by decide, by decide⟩ ⟨by omega, by omega⟩ ⟨by omega, by omega⟩) rfl rfl rfl rfl ?_
  refine Ev.heap (zset_low h _ _ _ hne.symm) ?_
  have hE1 : zext h (zset (zset h nr (zi 0 ht (zcn (zrs (fun j i => decide (zbox ((i : Int) - 0) ((j : Int) - 0) w ht)) w ht 0)))) na (zo 2 [zI w, .ref nr])) := (zext.mk hnr).set hna
  refine zz_iconst rfl ?_
  refine zz_newq 1 rfl (Or.inl ⟨rfl, rfl⟩) cl_TS_33 (by omega) (fun ly hly => ?_)
  refine zz_dup rfl rfl ?_
  refine zz_iconst rfl ?_
  refine zz_iload_n rfl rfl ?_
  refine zz_iload_n rfl rfl ?_
  refine zz_S rfl lk_TS_35 cw_TS_clearLayer (ct_clearLayer hw hh) rfl rfl rfl rfl ?_
  rintro _ _ ⟨c, dc, hc, hdc, hcd, rfl, rfl⟩
  obtain ⟨hc1, hc2⟩ := zset_none hc
  obtain ⟨hdc1, hdc2⟩ := zset_none hdc
  refine zaft_v ?_
  refine zz_aast rfl (Or.inl ⟨rfl, rfl⟩) rfl (show _ = some (za 3 1 (fun _ => .null)) from by rw [zset_ne hc2.symm, zset_ne hdc2.symm, zset_same]; rfl) (zset_same _ _ _) (by omega) (by omega) ?_
  have hE2 : zext h (zset (zset (zset (zset (zset (zset h nr (zi 0 ht (zcn (zrs (fun j i => decide (zbox ((i : Int) - 0) ((j : Int) - 0) w ht)) w ht 0)))) na (zo 2 [zI w, .ref nr])) ly (za 3 1 (fun _ => .null))) dc (zi 0 (w * ht) (fun _ => 0))) c (zo 3 [zI w, zI ht, .ref dc, zI 0, zI 255, zI 1])) ly (za 3 1 (zuv (fun _ => .null) 0 (.ref c)))) := ((((hE1.set (hE1.fr hly)).set (hE1.fr hdc1)).set (hE1.fr hc1)).set (hE1.fr hly))
  have hc3 : zset (zset (zset (zset (zset (zset h nr (zi 0 ht (zcn (zrs (fun j i => decide (zbox ((i : Int) - 0) ((j : Int) - 0) w ht)) w ht 0)))) na (zo 2 [zI w, .ref nr])) ly (za 3 1 (fun _ => .null))) dc (zi 0 (w * ht) (fun _ => 0))) c (zo 3 [zI w, zI ht, .ref dc, zI 0, zI 255, zI 1])) ly (za 3 1 (zuv (fun _ => .null) 0 (.ref c))) c = some (zo 3 [zI w, zI ht, .ref dc, zI 0, zI 255, zI 1]) := by rw [zset_ne hc2, zset_same]
  have hd3 : zset (zset (zset (zset (zset (zset h nr (zi 0 ht (zcn (zrs (fun j i => decide (zbox ((i : Int) - 0) ((j : Int) - 0) w ht)) w ht 0)))) na (zo 2 [zI w, .ref nr])) ly (za 3 1 (fun _ => .null))) dc (zi 0 (w * ht) (fun _ => 0))) c (zo 3 [zI w, zI ht, .ref dc, zI 0, zI 255, zI 1])) ly (za 3 1 (zuv (fun _ => .null) 0 (.ref c))) dc = some (zi 0 (w * ht) (fun _ => 0)) := by rw [zset_ne hdc2, zset_ne hcd, zset_same]
  have hnr3 : zset (zset h nr (zi 0 ht (zcn (zrs (fun j i => decide (zbox ((i : Int) - 0) ((j : Int) - 0) w ht)) w ht 0)))) na (zo 2 [zI w, .ref nr]) nr = some (zi 0 ht (zcn (zrs (fun j i => decide (zbox ((i : Int) - 0) ((j : Int) - 0) w ht)) w ht 0))) := by rw [zset_ne hne, zset_same]
  have hp3 : isPl (zset (zset (zset (zset (zset (zset h nr (zi 0 ht (zcn (zrs (fun j i => decide (zbox ((i : Int) - 0) ((j : Int) - 0) w ht)) w ht 0)))) na (zo 2 [zI w, .ref nr])) ly (za 3 1 (fun _ => .null))) dc (zi 0 (w * ht) (fun _ => 0))) c (zo 3 [zI w, zI ht, .ref dc, zI 0, zI 255, zI 1])) ly (za 3 1 (zuv (fun _ => .null) 0 (.ref c)))) na nr w ht (zrs (fun j i => decide (zbox ((i : Int) - 0) ((j : Int) - 0) w ht)) w ht 0) := ⟨by rw [zset_ne (zne hly (zset_same _ _ _)), zset_ne (zne hc1 (zset_same _ _ _)), zset_ne (zne hdc1 (zset_same _ _ _)), zset_ne (zne hly (zset_same _ _ _)), zset_same], by rw [zset_ne (zne hly hnr3), zset_ne (zne hc1 hnr3), zset_ne (zne hdc1 hnr3), zset_ne (zne hly hnr3), hnr3]⟩
  refine zz_astore rfl rfl rfl ?_
  refine zz_aload_n rfl rfl ?_
  refine zz_getf rfl fl_TS_12 (hE2 _ _ hC1) rfl ?_
  refine zz_new (N := 4) rfl nw_TS_39 (fun b hb => ?_)
  refine zz_dup rfl rfl ?_
  refine zz_iload_n rfl rfl ?_
  refine zz_iload_n rfl rfl ?_
  refine zz_aload rfl rfl ?_
  refine zz_aload_n rfl rfl ?_
  refine zz_Nu rfl lk_TS_41 cw_Picture_init (ct_Picture_init (zset_same _ _ _)) rfl rfl rfl rfl ?_
  refine Ev.heap (zset_set _ _ _ _) ?_
  have hZ := zext.mk (e := zo 4 [zI w, zI ht, .ref ly, .ref na]) hb
  have hE3 := hE2.tr hZ
  have hC3 := hC.ext hE3
  have hP3 : isP (zset _ b (zo 4 [zI w, zI ht, .ref ly, .ref na])) b (sNew w ht) := ⟨ly, na, nr, zuv (fun _ => .null) 0 (.ref c), (zrs (fun j i => decide (zbox ((i : Int) - 0) ((j : Int) - 0) w ht)) w ht 0), zset_same _ _ _, hZ _ _ (zset_same _ _ _), fun i hi => ⟨c, by have h9 : i = 0 := Nat.lt_one_iff.mp hi; subst h9; rfl, isL_clr (hZ _ _ hc3) (hZ _ _ hd3)⟩, hp3.fz hZ.zfr, fun j => zrs_w j, fun j hj => by rw [zrs_in (ht := ht) hj]; exact zro_full w (fun i hi => decide_eq_true ⟨by omega, by omega, by omega, by have h9 : j < ht := hj; omega⟩)⟩
  have hk3 : okP (sNew w ht) := ⟨⟨hw1, hw⟩, ⟨hh1, hh⟩, ⟨Nat.le_refl 1, (by decide : 1 ≤ 3)⟩, fun i _ => okL_clr w ht, fun j _ => Nat.sub_lt (Nat.two_pow_pos w) Nat.one_pos⟩
  refine zz_V rfl lk_TS_44 cw_History_begin rfl hC3.2.1.1 (CRep.begin hC3 hP3 hk3) rfl rfl rfl rfl ?_
  rintro _ h5 ⟨rfl, hf5, hC5⟩
  refine zaft_u ?_
  refine zz_vret rfl rfl ⟨rfl, hE3.zfr.tr hf5, hC5⟩
theorem fc_make {x : Nat} {S : SS} (hR : CRep h x S) {w e : Int} (hw : zrg w) (he : zrg e) : Ct Z m_TS_make 3 20 4000 [.ref x, zI w, zI e] h (fcP h x S ((1 ≤ w ∧ w ≤ 24) ∧ 1 ≤ e ∧ e ≤ 24) zIAE (True) zIAE (none) (sBeg S (sNew w.toNat e.toNat))) := by
  by_cases hn : (1 ≤ w ∧ w ≤ 24) ∧ 1 ≤ e ∧ e ≤ 24
  · obtain ⟨w, rfl⟩ := Int.eq_ofNat_of_zero_le (show 0 ≤ w by omega)
    obtain ⟨e, rfl⟩ := Int.eq_ofNat_of_zero_le (show 0 ≤ e by omega)
    refine (fc_make1 hR (w := w) (ht := e) (by omega) (by omega) (by omega) (by omega)).mono ?_
    rintro r h' ⟨rfl, h2, h3⟩
    exact fcP.ok h2 hn trivial h3
  · exact fc_make0 hR hw he hn
theorem fc_copy {x : Nat} {S : SS} (hR : CRep h x S) {l : Int} (hl : zrg l) : Ct Z m_TS_copy 3 20 4000 [.ref x, zI l] h (fcP h x S (sLy S l) zIAE (True) zIAE (some (zI ((sCt (sCur S) : Nat)))) (sCpy S l)) := by
  obtain ⟨hi, pa, pf, fv, cv, hC⟩ := hR
  have hC1 := hC.1
  refine zct rfl (by decide) ok_TS_copy rfl rfl ?_
  refine zz_aload_n rfl rfl ?_
  refine zz_iload_n rfl rfl ?_
  refine zz_V rfl lk_TS_77 cw_TS_pictureWithLayer rfl hC.1 (ct_pwl hC hl) rfl rfl rfl rfl ?_
  rintro _ h ⟨rfl, ⟨hno, rfl⟩ | ⟨hly, a, la, sa, ra, lf, R, rfl, hP, hk⟩⟩
  · exact zaft_x (zx_out rfl (fcP.no1 hC zext.rf hno))
  obtain ⟨hhas, hl0, hl1⟩ := id hly
  obtain ⟨⟨hw1, hw⟩, ⟨hh1, hh⟩, ⟨hn1, hn⟩, hkL, hkR⟩ := id hk
  have hP1 := hP.1
  have hP2 := hP.2.1
  refine zaft_v ?_
  refine zz_astore_n rfl rfl rfl ?_
  refine zz_aload_n rfl rfl ?_
  refine zz_new (N := 2) rfl nw_TS_172 (fun c hc => ?_)
  have hE1 := zext.mk (e := zo 6 [.null, .null]) hc
  obtain ⟨bl, hbl1, hbl2⟩ := hP.2.2.1 l.toNat (by omega)
  refine zz_dup rfl rfl ?_
  refine zz_aload_n rfl rfl ?_
  refine zz_getf rfl fl_TS_52 (hE1 _ _ hP1) rfl ?_
  refine zz_iload_n rfl rfl ?_
  refine zz_aald rfl (Or.inl ⟨rfl, rfl⟩) (hE1 _ _ hP2) (by omega) (by omega) ?_
  refine zz_tv hbl1 ?_
  refine zz_aload_n rfl rfl ?_
  refine zz_getf rfl fl_TS_97 (hE1 _ _ hP1) rfl ?_
  refine zz_Nu rfl lk_TS_174 cw_Copied_init (ct_Copied_init (zset_same _ _ _)) rfl rfl rfl rfl ?_
  refine Ev.heap (zset_set _ _ _ _) ?_
  have hE2 := zext.mk (e := zo 6 [.ref bl, .ref sa]) hc
  have hC2 := hC.ext hE2
  have hL2 := hbl2.fz hE2.zfr
  refine zz_putf rfl fl_TS_177 hC2.1 (pt_0_2 rfl rfl) (zblt rfl) ?_
  have hk2 : isK (zset h c (zo 6 [.ref bl, .ref sa])) c (sw (sCur S), sh (sCur S), sD (sl (sCur S) l.toNat), sr (sCur S)) := ⟨bl, sa, ra, _, R, zset_same _ _ _, hL2, fun _ _ _ _ => rfl, hP.2.2.2.1.fz hE2.zfr, hP.2.2.2.2⟩
  have hZ : zfr (zset h c (zo 6 [.ref bl, .ref sa])) (zset (zset h c (zo 6 [.ref bl, .ref sa])) x (zo 0 [.ref hi, fv, .ref c, zI (sBd S), zI (sBr S)])) := zfr.put hC2.1 rfl
  have hP5 := (hP.fz hE2.zfr).fz hZ
  refine zz_aload_n rfl rfl ?_
  refine zz_getf rfl fl_TS_97 hP5.1 rfl ?_
  refine zz_Vp rfl lk_TS_109 cw_Places_size rfl hP5.2.2.2.1.1 (ct_size hP5.2.2.2.1 hh (fun j => z24 hw (hP.2.2.2.2.1 j))) rfl rfl rfl rfl ?_
  refine zz_eq (show ((zsz R (sh (sCur S)) : Nat) : Int) = (sCt (sCur S) : Nat) from by rw [sCt_eq hw hP.2.2.2.2.1 hP.2.2.2.2.2]) ?_
  refine zz_iret rfl rfl (fcP.ok (hE2.zfr.tr hZ) hly trivial (CRep.set hC2 (b := sCpy S l) hC2.2.2.2.1 ⟨c, rfl, hk2, hk.1, hk.2.1, (hkL l.toNat (by omega)).2.2.2, hkR⟩ rfl rfl rfl rfl hC.2.2.2.2.2.1 hC.2.2.2.2.2.2))
theorem zlv_congr {f g : Nat → Int} {w ht : Nat} (hfg : zldt f w ht = zldt g w ht) (n : Nat) : zlv f w ht n = zlv g w ht n := by
  induction n with
  | zero => exact hfg
  | succ n ih => funext x y; show zmg _ _ _ _ = zmg _ _ _ _; rw [ih]
theorem zhv_24 {w : Nat} {k : Int} (hw : w ≤ 24) (hk : 0 ≤ k ∧ k ≤ 3) : zhv w k ≤ 24 := by
  have h : k = 0 ∨ k = 1 ∨ k = 2 ∨ k = 3 := by omega
  unfold zhv
  rcases h with rfl | rfl | rfl | rfl
  · show ((w : Int) + 1 - 1) / 1 ≤ 24; omega
  · show ((w : Int) + 2 - 1) / 2 ≤ 24; omega
  · show ((w : Int) + 4 - 1) / 4 ≤ 24; omega
  · show ((w : Int) + 8 - 1) / 8 ≤ 24; omega
theorem zz_lev {F : ZF} {pc q t idx : Nat} {L : List Value} {mc ms : Nat} {Q : ZR → ZH → Prop} {a da w ht : Nat} {f : Nat → Int} {md op vs : Int} (hd : zT F.2.1 pc = some (.invokestatic idx, q, t)) (hlk : Cond.methodLink (zy F.2.1).cls idx (zy m_TS_dotAtLevel) ∈ zG ∧ Cond.static (zy m_TS_dotAtLevel) ∈ zG) (hp : isLy h a da w ht f md op vs) (hh : ht ≤ 24) (hw : w ≤ 24) {k x y : Int} (hk : 0 ≤ k ∧ k ≤ 3) (hx : 0 ≤ x ∧ x ≤ zhv w k - 1) (hy : 0 ≤ y ∧ y ≤ zhv ht k - 1) (hdd0 : Nat.blt 7 F.2.2.1 = true) (kk : Ev Z F q L [zI (zlv f w ht k.toNat x y)] h mc ms Q) : Ev Z F pc L [zI y, zI x, zI k, .ref a] h mc ms Q := by
  have hdd : 7 < F.2.2.1 := Nat.le_of_ble_eq_true hdd0
  have h1 := zhv_24 hw hk
  have h2 := zhv_24 hh hk
  have h : k = 0 ∨ k = 1 ∨ k = 2 ∨ k = 3 := by omega
  rcases h with rfl | rfl | rfl | rfl
  · exact zz_Sp hd hlk cw_TS_dotAtLevel (ct_lev0 (x := x) (y := y) hp hh hw ⟨by omega, by omega⟩ ⟨by omega, by omega⟩) rfl rfl rfl (Nat.ble_eq_true_of_le (by omega)) kk
  · exact zz_Sp hd hlk cw_TS_dotAtLevel (ct_lev1 (x := x) (y := y) hp hh hw ⟨by omega, by omega⟩ ⟨by omega, by omega⟩) rfl rfl rfl (Nat.ble_eq_true_of_le (by omega)) kk
  · exact zz_Sp hd hlk cw_TS_dotAtLevel (ct_lev2 (x := x) (y := y) hp hh hw ⟨by omega, by omega⟩ ⟨by omega, by omega⟩) rfl rfl rfl (Nat.ble_eq_true_of_le (by omega)) kk
  · exact zz_Sp hd hlk cw_TS_dotAtLevel (ct_lev3 (x := x) (y := y) hp hh hw ⟨by omega, by omega⟩ ⟨by omega, by omega⟩) rfl rfl rfl (Nat.ble_eq_true_of_le (by omega)) kk
theorem fc_dot {x : Nat} {S : SS} (hR : CRep h x S) {l k x1 y1 : Int} (hl : zrg l) (hk0 : zrg k) (hx0 : zrg x1) (hy0 : zrg y1) : Ct Z m_TS_dot 8 20 4000 [.ref x, zI l, zI k, zI x1, zI y1] h (fcP h x S (sLy S l ∧ 0 ≤ k ∧ k ≤ 3) zIAE ((0 ≤ x1 ∧ x1 ≤ zhv (sw (sCur S)) k - 1) ∧ 0 ≤ y1 ∧ y1 ≤ zhv (sh (sCur S)) k - 1) zIOB (some (zI (zlv (sFl (sD (sl (sCur S) l.toNat)) (sw (sCur S))) (sw (sCur S)) (sh (sCur S)) k.toNat x1 y1))) (S)) := by
  obtain ⟨hi, pa, pf, fv, cv, hC⟩ := hR
  have hC1 := hC.1
  refine zct rfl (by decide) ok_TS_dot rfl rfl ?_
  refine zz_aload_n rfl rfl ?_
  refine zz_iload_n rfl rfl ?_
  refine zz_V rfl lk_TS_77 cw_TS_pictureWithLayer rfl hC.1 (ct_pwl hC hl) rfl rfl rfl rfl ?_
  rintro _ h ⟨rfl, ⟨hno, rfl⟩ | ⟨hly, a, la, sa, ra, lf, R, rfl, hP, hk⟩⟩
  · exact zaft_x (zx_out rfl (fcP.no1 hC zext.rf (fun g => hno g.1)))
  obtain ⟨hhas, hl0, hl1⟩ := id hly
  obtain ⟨⟨hw1, hw⟩, ⟨hh1, hh⟩, ⟨hn1, hn⟩, hkL, hkR⟩ := id hk
  have hP1 := hP.1
  have hP2 := hP.2.1
  refine zaft_v ?_
  refine zz_astore rfl rfl rfl ?_
  refine zz_iload_n rfl rfl ?_
  refine zz_iconst rfl ?_
  refine zz_iconst rfl ?_
  refine zz_Sp rfl lk_TS_16 cw_TS_isWithin (ct_isWithin hk0 ⟨by decide, by decide⟩ ⟨by decide, by decide⟩) rfl rfl rfl rfl ?_
  refine zz_Srq rfl lk_TS_20 cw_TS_require ct_require rfl rfl rfl rfl rfl (fun hno => fcP.no1 hC zext.rf (fun g => hno g.2)) (fun hk1 => ?_)
  refine zz_aload rfl rfl ?_
  refine zz_iload_n rfl rfl ?_
  refine zz_iload_n rfl rfl ?_
  refine zz_iload rfl rfl ?_
  refine zz_Srq rfl lk_TS_215 cw_TS_requirePlace (ct_requirePlace hP1 hw hh hk1 hx0 hy0) rfl rfl rfl rfl rfl (fun hno => fcP.no2 hC zext.rf ⟨hly, hk1⟩ hno) (fun hpl => ?_)
  obtain ⟨bl, hbl1, da, f, hbl2, hbl3, hbl4⟩ := hP.2.2.1 l.toNat (by omega)
  refine zz_aload rfl rfl ?_
  refine zz_getf rfl fl_TS_52 (by assumption) rfl ?_
  refine zz_iload_n rfl rfl ?_
  refine zz_aald rfl (Or.inl ⟨rfl, rfl⟩) hP2 (by omega) (by omega) ?_
  refine zz_tv hbl1 ?_
  refine zz_iload_n rfl rfl ?_
  refine zz_iload_n rfl rfl ?_
  refine zz_iload rfl rfl ?_
  refine zz_lev rfl lk_TS_219 hbl2 hh hw hk1 hpl.1 hpl.2 rfl ?_
  refine zz_eq (show zlv f (sw (sCur S)) (sh (sCur S)) k.toNat x1 y1 = zlv (sFl (sD (sl (sCur S) l.toNat)) (sw (sCur S))) (sw (sCur S)) (sh (sCur S)) k.toNat x1 y1 from by rw [zlv_congr (sFl_dt hbl4)]) ?_
  refine zz_iret rfl rfl (fcP.ok zfr.rf ⟨hly, hk1⟩ hpl ⟨hi, pa, pf, fv, cv, hC⟩)
def sVw (P : SP) (k x y : Int) : Nat → Int
  | 0 => 0
  | i + 1 => if sV (sl P i) = 0 then sVw P k x y i else zbl (zlv (sFl (sD (sl P i)) (sw P)) (sw P) (sh P) k.toNat x y) (sVw P k x y i) (sM (sl P i)) (sO (sl P i))
theorem lp_view {x a la sa ra : Nat} {lf : Nat → Value} {R : Nat → Nat} {P : SP} {k x1 y1 : Int} (hP : isPd h a la sa ra lf R P) (hk : okP P) (hk1 : 0 ≤ k ∧ k ≤ 3) (hpl : (0 ≤ x1 ∧ x1 ≤ zhv (sw P) k - 1) ∧ 0 ≤ y1 ∧ y1 ≤ zhv (sh P) k - 1) {MC MS mc ms : Nat} {Q : ZR → ZH → Prop} (kx : Ev Z (fun _ => True, m_TS_view, 8, MC, MS) 93 [.ref x, zI k, zI x1, zI y1, .ref a, zI (sVw P k x1 y1 (sn P)), zI ((sn P) : Nat)] [] h mc ms Q) : ∀ (m i : Nat), i + m = sn P → Ev Z (fun _ => True, m_TS_view, 8, MC, MS) 29 [.ref x, zI k, zI x1, zI y1, .ref a, zI (sVw P k x1 y1 i), zI (i : Nat)] [] h mc ms Q := by
  obtain ⟨⟨hw1, hw⟩, ⟨hh1, hh⟩, ⟨hn1, hn⟩, hkL, hkR⟩ := id hk
  have hP1 := hP.1
  have hP2 := hP.2.1
  intro m
  induction m with
  | zero =>
    intro i hi
    refine zz_iload rfl rfl ?_
    refine zz_aload rfl rfl ?_
    refine zz_getf rfl fl_TS_52 hP1 rfl ?_
    refine zz_alenA rfl (Or.inl ⟨rfl, rfl⟩) hP2 ?_
    refine zz_icmp_ge rfl (by omega) (by omega) (fun hb37 => ?_) (fun hb37 => absurd hb37 (by omega))
    obtain rfl : i = sn P := by omega
    exact kx
  | succ m ih =>
    intro i hi
    obtain ⟨bl, hbl1, da, f, hbl2, hbl3, hbl4⟩ := hP.2.2.1 i (by omega)
    have hoL := hkL i (by omega)
    refine zz_iload rfl rfl ?_
    refine zz_aload rfl rfl ?_
    refine zz_getf rfl fl_TS_52 hP1 rfl ?_
    refine zz_alenA rfl (Or.inl ⟨rfl, rfl⟩) hP2 ?_
    refine zz_icmp_ge rfl (by omega) (by omega) (fun hb37 => absurd hb37 (by omega)) (fun hb37 => ?_)
    refine zz_aload rfl rfl ?_
    refine zz_getf rfl fl_TS_52 hP1 rfl ?_
    refine zz_iload rfl rfl ?_
    refine zz_aald rfl (Or.inl ⟨rfl, rfl⟩) hP2 (by omega) (by omega) ?_
    refine zz_tv hbl1 ?_
    refine zz_astore rfl rfl rfl ?_
    refine zz_aload rfl rfl ?_
    refine zz_getf rfl fl_TS_223 hbl2.1 rfl ?_
    refine zz_if_eq rfl (by rcases hoL.2.2.1 with h9 | h9 <;> rw [h9] <;> exact ⟨by decide, by decide⟩) (fun hb55 => ?_) (fun hb55 => ?_)
    · skip
      refine zz_iincK ((i + 1 : Nat) : Int) rfl rfl rfl rfl (by omega) ?_
      refine zz_goto rfl ?_
      refine Ev.take 7 ?_
      have e9 : sVw P k x1 y1 (i + 1) = sVw P k x1 y1 i := by show (if sV (sl P i) = 0 then _ else _) = _; rw [if_pos hb55]
      have k9 := ih (i + 1) (by omega)
      rw [e9] at k9
      exact k9
    · skip
      refine zz_aload rfl rfl ?_
      refine zz_iload_n rfl rfl ?_
      refine zz_iload_n rfl rfl ?_
      refine zz_iload_n rfl rfl ?_
      refine zz_lev rfl lk_TS_219 hbl2 hh hw hk1 hpl.1 hpl.2 rfl ?_
      refine zz_istore rfl rfl rfl ?_
      refine zz_iload rfl rfl ?_
      refine zz_iload rfl rfl ?_
      refine zz_aload rfl rfl ?_
      refine zz_getf rfl fl_TS_227 hbl2.1 rfl ?_
      refine zz_aload rfl rfl ?_
      refine zz_getf rfl fl_TS_230 hbl2.1 rfl ?_
      refine zz_Sp rfl lk_TS_161 cw_Dots_blended (ct_blended hoL.1 hoL.2.1) rfl rfl rfl rfl ?_
      refine zz_istore rfl rfl rfl ?_
      refine zz_iincK ((i + 1 : Nat) : Int) rfl rfl rfl rfl (by omega) ?_
      refine zz_goto rfl ?_
      refine Ev.take 7 ?_
      have e9 : sVw P k x1 y1 (i + 1) = zbl (zlv f (sw P) (sh P) k.toNat x1 y1) (sVw P k x1 y1 i) (sM (sl P i)) (sO (sl P i)) := by show (if sV (sl P i) = 0 then _ else _) = _; rw [if_neg hb55, zlv_congr (sFl_dt hbl4)]
      have k9 := ih (i + 1) (by omega)
      rw [e9] at k9
      exact k9
theorem fc_view {x : Nat} {S : SS} (hR : CRep h x S) {k x1 y1 : Int} (hk0 : zrg k) (hx0 : zrg x1) (hy0 : zrg y1) : Ct Z m_TS_view 8 20 4000 [.ref x, zI k, zI x1, zI y1] h (fcP h x S (sHas S = true ∧ 0 ≤ k ∧ k ≤ 3) zIAE ((0 ≤ x1 ∧ x1 ≤ zhv (sw (sCur S)) k - 1) ∧ 0 ≤ y1 ∧ y1 ≤ zhv (sh (sCur S)) k - 1) zIOB (some (zI (sVw (sCur S) k x1 y1 (sn (sCur S))))) (S)) := by
  obtain ⟨hi, pa, pf, fv, cv, hC⟩ := hR
  have hC1 := hC.1
  refine zct rfl (by decide) ok_TS_view rfl rfl ?_
  refine zz_aload_n rfl rfl ?_
  refine zz_V rfl lk_TS_48 cw_TS_presentPicture rfl hC.1 (ct_pp hC) rfl rfl rfl rfl ?_
  rintro _ h ⟨rfl, ⟨hno, rfl⟩ | ⟨hhas, a, la, sa, ra, lf, R, rfl, hP, hk⟩⟩
  · exact zaft_x (zx_out rfl (fcP.no1 hC zext.rf (fun g => hno g.1)))
  obtain ⟨⟨hw1, hw⟩, ⟨hh1, hh⟩, ⟨hn1, hn⟩, hkL, hkR⟩ := id hk
  have hP1 := hP.1
  have hP2 := hP.2.1
  refine zaft_v ?_
  refine zz_astore rfl rfl rfl ?_
  refine zz_iload_n rfl rfl ?_
  refine zz_iconst rfl ?_
  refine zz_iconst rfl ?_
  refine zz_Sp rfl lk_TS_16 cw_TS_isWithin (ct_isWithin hk0 ⟨by decide, by decide⟩ ⟨by decide, by decide⟩) rfl rfl rfl rfl ?_
  refine zz_Srq rfl lk_TS_20 cw_TS_require ct_require rfl rfl rfl rfl rfl (fun hno => fcP.no1 hC zext.rf (fun g => hno g.2)) (fun hk1 => ?_)
  refine zz_aload rfl rfl ?_
  refine zz_iload_n rfl rfl ?_
  refine zz_iload_n rfl rfl ?_
  refine zz_iload_n rfl rfl ?_
  refine zz_Srq rfl lk_TS_215 cw_TS_requirePlace (ct_requirePlace hP1 hw hh hk1 hx0 hy0) rfl rfl rfl rfl rfl (fun hno => fcP.no2 hC zext.rf ⟨hhas, hk1⟩ hno) (fun hpl => ?_)
  refine zz_iconst rfl ?_
  refine zz_istore rfl rfl rfl ?_
  refine zz_iconst rfl ?_
  refine zz_istore rfl rfl rfl ?_
  refine lp_view hP hk hk1 hpl ?_ (sn (sCur S)) 0 (by omega)
  refine zz_iload rfl rfl ?_
  refine zz_iret rfl rfl (fcP.ok zfr.rf ⟨hhas, hk1⟩ hpl ⟨hi, pa, pf, fv, cv, hC⟩)
end FE
