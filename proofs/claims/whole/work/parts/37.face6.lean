section FH
variable {Z : ZC} {h : ZH}
theorem zlo_rg (v : Int) : zrg (zlo v) := by
  have h1 := Int.le_bmod (x := v) (m := 65536) (by decide)
  have h2 := Int.bmod_lt (x := v) (m := 65536) (by decide)
  unfold zlo
  exact ⟨by omega, by omega⟩
theorem zhi_rg {v : Int} (h : zrg v) : zrg (zhi v) := by
  unfold zhi
  obtain ⟨h1, h2⟩ := h
  exact ⟨by omega, by omega⟩
theorem fc_stroke {x : Nat} {S : SS} (hR : CRep h x S) {l fr to : Int} (hl : zrg l) (hfr : zrg fr) (hto : zrg to) : Ct Z m_TS_stroke 4 20 4000 [.ref x, zI l, zI fr, zI to] h (fcP h x S (sLy S l ∧ zl4 fr to) zIAE (True) zIAE (none) (sAdd S (sPut (sCur S) l (fun (x y : Nat) => if zlb (zlx fr to) (zly fr to) (sBr S) (x : Int) (y : Int) (zln fr to + 1).toNat = true then zbl (sBd S) ((sD (sl (sCur S) l.toNat)) x y) 0 255 else (sD (sl (sCur S) l.toNat)) x y)))) := by
  obtain ⟨hi, pa, pf, fv, cv, hC⟩ := hR
  have hC1 := hC.1
  refine zct rfl (by decide) ok_TS_stroke rfl rfl ?_
  refine zz_aload_n rfl rfl ?_
  refine zz_iload_n rfl rfl ?_
  refine zz_V rfl lk_TS_119 cw_TS_paintingOf rfl hC.1 (ct_po hC hl) rfl rfl rfl rfl ?_
  rintro _ h1 (⟨hno, rfl, hx1⟩ | ⟨hly, p, a, la, sa, ra, bf, da, af, lf, R, f, rfl, hT⟩)
  · exact zaft_x (zx_out rfl (fcP.no1 hC hx1 (fun g => hno g.1)))
  obtain ⟨⟨hw1, hw⟩, ⟨hh1, hh⟩, ⟨hn1, hn⟩, hkL, hkR⟩ := id hT.2.2.2.2.1
  obtain ⟨hl0, hl1⟩ := id hT.2.2.2.2.2.1
  have hp := hT.2.2.1
  have hdt := sFl_dt hT.2.2.2.2.2.2.2
  refine zaft_v ?_
  refine zz_astore rfl rfl rfl ?_
  refine zz_iload_n rfl rfl ?_
  refine zz_i2s rfl ?_
  refine zz_eq (show fr.bmod 65536 = zlo fr from rfl) ?_
  refine zz_iload_n rfl rfl ?_
  refine zz_bipush rfl (by decide) ?_
  refine zz_ishr rfl (by omega) (by omega) ?_
  refine zz_eq (show fr / 2 ^ Int.toNat 16 = zhi fr from rfl) ?_
  refine zz_Srq rfl lk_TS_142 cw_TS_requireShift (ct_requireShift (zlo_rg fr) (zhi_rg hfr)) rfl rfl rfl rfl rfl (fun hno => fcP.no1 hC hT.1 (fun g => hno g.2.1)) (fun hs1 => ?_)
  refine zz_iload_n rfl rfl ?_
  refine zz_i2s rfl ?_
  refine zz_eq (show to.bmod 65536 = zlo to from rfl) ?_
  refine zz_iload_n rfl rfl ?_
  refine zz_bipush rfl (by decide) ?_
  refine zz_ishr rfl (by omega) (by omega) ?_
  refine zz_eq (show to / 2 ^ Int.toNat 16 = zhi to from rfl) ?_
  refine zz_Srq rfl lk_TS_142 cw_TS_requireShift (ct_requireShift (zlo_rg to) (zhi_rg hto)) rfl rfl rfl rfl rfl (fun hno => fcP.no1 hC hT.1 (fun g => hno g.2.2)) (fun hs2 => ?_)
  refine zz_new (N := 2) rfl nw_TS_24 (fun na hna => ?_)
  refine zz_dup rfl rfl ?_
  refine zz_aload rfl rfl ?_
  refine zz_Vp rfl lk_TS_127 cw_Painting_width rfl (hp.fr hna).1 (ct_Pw (hp.fr hna)) rfl rfl rfl rfl ?_
  refine zz_aload rfl rfl ?_
  refine zz_Vp rfl lk_TS_123 cw_Painting_height rfl (hp.fr hna).1 (ct_Ph (hp.fr hna)) rfl rfl rfl rfl ?_
  refine zz_N rfl lk_TS_26 cw_Places_init (fun E h9 h8 => by cases h8.1) (ct_Places_init (w := (sw (sCur S))) (ht := (sh (sCur S))) (zset_same _ _ _) hh) rfl rfl rfl rfl ?_
  rintro _ _ ⟨rfl, nr, hnr0, rfl⟩
  obtain ⟨hnr, hne⟩ := zset_none hnr0
  refine zaft_u ?_
  refine Ev.heap (zset_mid h1 _ _ _ hne.symm) ?_
  have hnn : ∀ e, zset h1 nr e na = none := fun e => zset_nn hna hne.symm
  have hN : isPl (zset (zset h1 nr (zi 0 (sh (sCur S)) (zcn (fun _ => 0)))) na (zo 2 [zI (sw (sCur S)), .ref nr])) na nr (sw (sCur S)) (sh (sCur S)) (fun _ => 0) := ⟨zset_same _ _ _, by rw [zset_ne hne, zset_same]⟩
  refine zz_astore rfl rfl rfl ?_
  refine zz_aload rfl rfl ?_
  refine zz_iload_n rfl rfl ?_
  refine zz_iload_n rfl rfl ?_
  refine zz_aload_n rfl rfl ?_
  have hTa := (hT.ext (e := zi 0 (sh (sCur S)) (zcn (fun _ => 0))) hnr).ext (e := zo 2 [zI (sw (sCur S)), .ref nr]) (hnn _)
  refine zz_getf rfl fl_TS_116 (hC.ext hTa.1).1 rfl ?_
  refine zz_S rfl lk_TS_145 cw_TS_addLine (ct_addLine hN hh hw ⟨hs1, hs2⟩ hC.2.2.2.2.2.2 (fun j => Nat.two_pow_pos _) hfr hto) rfl rfl rfl rfl ?_
  rintro _ _ ⟨rfl, R2, hc2, rfl⟩
  refine zaft_u ?_
  refine Ev.heap (zset_low h1 _ _ _ hne.symm) ?_
  have hTb := (hT.ext (e := zi 0 (sh (sCur S)) (zcn R2)) hnr).ext (e := zo 2 [zI (sw (sCur S)), .ref nr]) (zset_nn hna hne.symm)
  refine zz_iconst rfl ?_
  refine zz_istore rfl rfl rfl ?_
  have hDr : ∀ x y, x < (sw (sCur S)) → y < (sh (sCur S)) → zrg ((sD (sl (sCur S) l.toNat)) x y) := (hkL l.toNat (by omega)).2.2.2
  have hfD := hT.2.2.2.2.2.2.2
  have hGG : ∀ x y, x < (sw (sCur S)) → y < (sh (sCur S)) → (fun (x y : Nat) => if zhp R2 (sw (sCur S)) (sh (sCur S)) (x : Int) (y : Int) then zbl (sBd S) (zldt f (sw (sCur S)) (sh (sCur S)) (x : Int) (y : Int)) 0 255 else f (y * (sw (sCur S)) + x)) x y = (fun (x y : Nat) => if zlb (zlx fr to) (zly fr to) (sBr S) (x : Int) (y : Int) (zln fr to + 1).toNat = true then zbl (sBd S) ((sD (sl (sCur S) l.toNat)) x y) 0 255 else (sD (sl (sCur S) l.toNat)) x y) x y ∧ zrg ((fun (x y : Nat) => if zlb (zlx fr to) (zly fr to) (sBr S) (x : Int) (y : Int) (zln fr to + 1).toNat = true then zbl (sBd S) ((sD (sl (sCur S) l.toNat)) x y) 0 255 else (sD (sl (sCur S) l.toNat)) x y) x y) := by
    intro x y hx hy
    have e1 : zhp R2 (sw (sCur S)) (sh (sCur S)) (x : Int) (y : Int) ↔ zlb (zlx fr to) (zly fr to) (sBr S) (x : Int) (y : Int) (zln fr to + 1).toNat = true := by
      rw [zhp_sl hx hy, hc2.1 x y hx hy]
      simp
    refine ⟨?_, ?_⟩
    · show (if zhp R2 (sw (sCur S)) (sh (sCur S)) (x : Int) (y : Int) then zbl (sBd S) (zldt f (sw (sCur S)) (sh (sCur S)) (x : Int) (y : Int)) 0 255 else f (y * (sw (sCur S)) + x)) = (if zlb (zlx fr to) (zly fr to) (sBr S) (x : Int) (y : Int) (zln fr to + 1).toNat = true then zbl (sBd S) ((sD (sl (sCur S) l.toNat)) x y) 0 255 else (sD (sl (sCur S) l.toNat)) x y)
      rw [hdt, sDt_in hx hy, hfD x y hx hy]
      simp only [e1]
    · show zrg (if zlb (zlx fr to) (zly fr to) (sBr S) (x : Int) (y : Int) (zln fr to + 1).toNat = true then zbl (sBd S) ((sD (sl (sCur S) l.toNat)) x y) 0 255 else (sD (sl (sCur S) l.toNat)) x y)
      split
      · exact zbl_rg _ _ _ _
      · exact hDr x y hx hy
  have hN2 : isPl (zset (zset h1 nr (zi 0 (sh (sCur S)) (zcn R2))) na (zo 2 [zI (sw (sCur S)), .ref nr])) na nr (sw (sCur S)) (sh (sCur S)) R2 := ⟨zset_same _ _ _, by rw [zset_ne hne, zset_same]⟩
  refine Ev.heap (zstart R (fun (x y : Nat) => if zhp R2 (sw (sCur S)) (sh (sCur S)) (x : Int) (y : Int) then zbl (sBd S) (zldt f (sw (sCur S)) (sh (sCur S)) (x : Int) (y : Int)) 0 255 else f (y * (sw (sCur S)) + x)) hTb.2.2.1.2.2.2.2.1) ?_
  refine tl_stroke_o hTb.2.2.1 hh hw hT.R24 (hC.ext hTb.1).1 hN2 (fun j => z24 hw (hc2.2 j)) (fun h9 => by subst h9; rw [hp.2.2.2.2.1] at hnr; cases hnr) ?_ (sh (sCur S)) 0 (by omega) (by omega)
  refine zz_aload_n rfl rfl ?_
  refine zz_getf rfl fl_TS_12 (hC.ext (hTb.1.set hTb.2.1)).1 rfl ?_
  refine zz_aload rfl rfl ?_
  refine zz_V rfl lk_TS_133 cw_Painting_result rfl (hTb.2.2.1.up _).1 (tool_res (G := (fun (x y : Nat) => if zlb (zlx fr to) (zly fr to) (sBr S) (x : Int) (y : Int) (zln fr to + 1).toNat = true then zbl (sBd S) ((sD (sl (sCur S) l.toNat)) x y) 0 255 else (sD (sl (sCur S) l.toNat)) x y)) hC hTb hGG) rfl rfl rfl rfl ?_
  rintro _ h3 ⟨b2, rfl, hx3, hC3, hP3, hk3, hx4⟩
  refine zaft_v ?_
  refine zz_V rfl lk_TS_74 cw_History_add rfl hC3.2.1.1 (ct_step hC3 hly.1 hP3 hk3) rfl rfl rfl rfl ?_
  rintro _ h5 ⟨rfl, hf5, hC5⟩
  refine zaft_u ?_
  refine zz_vret rfl rfl (fcP.ok (hx3.zfr.tr hf5) ⟨hly, hs1, hs2⟩ trivial hC5)
theorem zrch_congr {O O' : Nat → Nat} {w ht sx sy : Nat} (hO : ∀ j, j < ht → O j = O' j) (hsy : sy < ht) {i j : Nat} : zrch O w ht sx sy i j ↔ zrch O' w ht sx sy i j := by
  unfold zrch zcz
  rw [hO sy hsy]
  constructor
  · intro hh C hC hS
    exact hh C (fun i j i' j' h1 h2 h3 h4 h5 => hC i j i' j' h1 h2 h3 h4 (by rw [← hO j' h3]; exact h5)) hS
  · intro hh C hC hS
    exact hh C (fun i j i' j' h1 h2 h3 h4 h5 => hC i j i' j' h1 h2 h3 h4 (by rw [hO j' h3]; exact h5)) hS
/-- the places that may be flooded -/
def sOp (P : SP) (l : Nat) (px py : Nat) (tol : Int) (j : Nat) : Nat := zro (fun i => decide (sSl P i j ∧ zak (sD (sl P l) i j) (sD (sl P l) px py) tol)) (sw P)
def sRch (P : SP) (l px py : Nat) (tol : Int) (i j : Nat) : Prop := zrch (sOp P l px py tol) (sw P) (sh P) px py i j
theorem fc_flood {x : Nat} {S : SS} (hR : CRep h x S) {l px py d tol : Int} (hl : zrg l) (hpx : zrg px) (hpy : zrg py) (hd : zrg d) (htol : zrg tol) : Ct Z m_TS_flood 4 20 4000 [.ref x, zI l, zI px, zI py, zI d, zI tol] h (fcP h x S (sLy S l ∧ ((0 ≤ px ∧ px ≤ ((sw (sCur S)) : Int) - 1) ∧ 0 ≤ py ∧ py ≤ ((sh (sCur S)) : Int) - 1) ∧ 0 ≤ tol ∧ tol ≤ 255) zIAE (True) zIAE (some (zI ((zc2 (fun j i => zBool (sRch (sCur S) l.toNat px.toNat py.toNat tol i j)) (sw (sCur S)) (sh (sCur S)) : Nat)))) (sAdd S (sPut (sCur S) l (fun (x y : Nat) => if zBool (sRch (sCur S) l.toNat px.toNat py.toNat tol x y) = true then d else (sD (sl (sCur S) l.toNat)) x y)))) := by
  obtain ⟨hi, pa, pf, fv, cv, hC⟩ := hR
  have hC1 := hC.1
  refine zct rfl (by decide) ok_TS_flood rfl rfl ?_
  refine zz_aload_n rfl rfl ?_
  refine zz_iload_n rfl rfl ?_
  refine zz_V rfl lk_TS_119 cw_TS_paintingOf rfl hC.1 (ct_po hC hl) rfl rfl rfl rfl ?_
  rintro _ h1 (⟨hno, rfl, hx1⟩ | ⟨hly, p, a, la, sa, ra, bf, da, af, lf, R, f, rfl, hT⟩)
  · exact zaft_x (zx_out rfl (fcP.no1 hC hx1 (fun g => hno g.1)))
  obtain ⟨⟨hw1, hw⟩, ⟨hh1, hh⟩, ⟨hn1, hn⟩, hkL, hkR⟩ := id hT.2.2.2.2.1
  obtain ⟨hl0, hl1⟩ := id hT.2.2.2.2.2.1
  have hp := hT.2.2.1
  have hdt := sFl_dt hT.2.2.2.2.2.2.2
  refine zaft_v ?_
  refine zz_astore rfl rfl rfl ?_
  refine zz_iload_n rfl rfl ?_
  refine zz_iconst rfl ?_
  refine zz_aload rfl rfl ?_
  refine zz_Vp rfl lk_TS_127 cw_Painting_width rfl hp.1 (ct_Pw hp) rfl rfl rfl rfl ?_
  refine zz_iconst rfl ?_
  refine zz_isub rfl ?_
  refine zz_Sp rfl lk_TS_16 cw_TS_isWithin (ct_isWithin hpx ⟨by decide, by decide⟩ ⟨by omega, by omega⟩) rfl rfl rfl rfl ?_
  refine zz_ifB_eq rfl (fun hb19 => ?_) (fun hb19 => ?_)
  · skip
    refine zz_iconst rfl ?_
    refine zz_S rfl lk_TS_20 cw_TS_require ct_require0 rfl rfl rfl rfl ?_
    rintro _ _ ⟨rfl, rfl⟩
    exact zaft_x (zx_out rfl (fcP.no1 hC hT.1 (fun g => hb19 g.2.1.1)))
  · skip
    refine zz_iload_n rfl rfl ?_
    refine zz_iconst rfl ?_
    refine zz_aload rfl rfl ?_
    refine zz_Vp rfl lk_TS_123 cw_Painting_height rfl hp.1 (ct_Ph hp) rfl rfl rfl rfl ?_
    refine zz_iconst rfl ?_
    refine zz_isub rfl ?_
    refine zz_Sp rfl lk_TS_16 cw_TS_isWithin (ct_isWithin hpy ⟨by decide, by decide⟩ ⟨by omega, by omega⟩) rfl rfl rfl rfl ?_
    refine zz_ifB_eq rfl (fun hb34 => ?_) (fun hb34 => ?_)
    · skip
      refine zz_iconst rfl ?_
      refine zz_S rfl lk_TS_20 cw_TS_require ct_require0 rfl rfl rfl rfl ?_
      rintro _ _ ⟨rfl, rfl⟩
      exact zaft_x (zx_out rfl (fcP.no1 hC hT.1 (fun g => hb34 g.2.1.2)))
    · skip
      refine zz_iconst rfl ?_
      refine zz_goto rfl ?_
      refine zz_Su rfl lk_TS_20 cw_TS_require ct_require1 rfl rfl rfl rfl ?_
      refine zz_iload rfl rfl ?_
      refine zz_iconst rfl ?_
      refine zz_sipush rfl (by decide) ?_
      refine zz_Sp rfl lk_TS_16 cw_TS_isWithin (ct_isWithin htol ⟨by decide, by decide⟩ ⟨by decide, by decide⟩) rfl rfl rfl rfl ?_
      refine zz_Srq rfl lk_TS_20 cw_TS_require ct_require rfl rfl rfl rfl rfl (fun hno => fcP.no1 hC hT.1 (fun g => hno g.2.2)) (fun htl => ?_)
      refine zz_aload rfl rfl ?_
      refine zz_getf rfl fl_TS_153 hp.1 rfl ?_
      refine zz_iload_n rfl rfl ?_
      refine zz_iload_n rfl rfl ?_
      refine zz_Vp rfl lk_TS_157 cw_Layer_dotAt rfl hp.2.2.2.1.1 (ct_dotAt hp.2.2.2.1 hpx hpy hh hw) rfl rfl rfl rfl ?_
      refine zz_istore rfl rfl rfl ?_
      refine zz_iload_n rfl rfl ?_
      refine zz_iload_n rfl rfl ?_
      refine zz_aload rfl rfl ?_
      refine zz_iload rfl rfl ?_
      refine zz_iload rfl rfl ?_
      refine zz_S rfl lk_TS_164 cw_TS_alikePlaces (ct_alikePlaces hp hh hw hT.R24 htl) rfl rfl rfl rfl ?_
      rintro _ _ ⟨na, nr, hna, hnr, hne, rfl, rfl⟩
      have hTa := (hT.ext (e := zi 0 (sh (sCur S)) (zcn (zrs (fun j i => decide (zhp R (sw (sCur S)) (sh (sCur S)) (i : Int) (j : Int) ∧ zak (zldt f (sw (sCur S)) (sh (sCur S)) (i : Int) (j : Int)) (zldt f (sw (sCur S)) (sh (sCur S)) px py) tol)) (sw (sCur S)) (sh (sCur S)) 0))) hnr).ext (e := zo 2 [zI (sw (sCur S)), .ref nr]) (zset_nn hna hne)
      have hN : isPl (zset (zset h1 nr (zi 0 (sh (sCur S)) (zcn (zrs (fun j i => decide (zhp R (sw (sCur S)) (sh (sCur S)) (i : Int) (j : Int) ∧ zak (zldt f (sw (sCur S)) (sh (sCur S)) (i : Int) (j : Int)) (zldt f (sw (sCur S)) (sh (sCur S)) px py) tol)) (sw (sCur S)) (sh (sCur S)) 0)))) na (zo 2 [zI (sw (sCur S)), .ref nr])) na nr (sw (sCur S)) (sh (sCur S)) (zrs (fun j i => decide (zhp R (sw (sCur S)) (sh (sCur S)) (i : Int) (j : Int) ∧ zak (zldt f (sw (sCur S)) (sh (sCur S)) (i : Int) (j : Int)) (zldt f (sw (sCur S)) (sh (sCur S)) px py) tol)) (sw (sCur S)) (sh (sCur S)) 0) := ⟨zset_same _ _ _, by rw [zset_ne hne.symm, zset_same]⟩
      refine zaft_v ?_
      refine zz_S rfl lk_TS_168 cw_TS_reachedFrom (ct_reachedFrom hN hh hw (fun j => zrs_w j) (show zbox px py (sw (sCur S)) (sh (sCur S)) from ⟨by omega, by omega, by omega, by omega⟩)) rfl rfl rfl rfl ?_
      rintro _ _ ⟨n2, m2, X, hn2, hm2, hnm, hX1, hX2, rfl, rfl⟩
      have hTb := (hTa.ext (e := zi 0 (sh (sCur S)) (zcn X)) hm2).ext (e := zo 2 [zI (sw (sCur S)), .ref m2]) (zset_nn hn2 hnm)
      refine zaft_v ?_
      refine zz_astore rfl rfl rfl ?_
      refine zz_iconst rfl ?_
      refine zz_istore rfl rfl rfl ?_
      have hDr : ∀ x y, x < (sw (sCur S)) → y < (sh (sCur S)) → zrg ((sD (sl (sCur S) l.toNat)) x y) := (hkL l.toNat (by omega)).2.2.2
      have hfD := hT.2.2.2.2.2.2.2
      have hRe : ∀ i j, j < (sh (sCur S)) → ((X j).testBit i = true ↔ sRch (sCur S) l.toNat px.toNat py.toNat tol i j) := by
        intro i j hj
        rw [hX2 i j hj]
        refine zrch_congr (fun j hj => ?_) (by omega)
        rw [zrs_in hj]
        refine zro_congr _ (fun i hi => ?_)
        have e1 : (px.toNat : Int) = px := Int.toNat_of_nonneg hb19.1
        have e2 : (py.toNat : Int) = py := Int.toNat_of_nonneg hb34.1
        have e3 := sDt_in (D := (sD (sl (sCur S) l.toNat))) (w := (sw (sCur S))) (ht := (sh (sCur S))) (x := px.toNat) (y := py.toNat) (by omega) (by omega)
        rw [e1, e2] at e3
        show decide _ = decide _
        rw [hdt, sDt_in hi hj, e3]
        congr 1
        rw [zhp_sl hi hj, hT.2.2.2.1.2.2.2.2.2 j hj]
      have hGG : ∀ x y, x < (sw (sCur S)) → y < (sh (sCur S)) → (fun (x y : Nat) => if zhp X (sw (sCur S)) (sh (sCur S)) (x : Int) (y : Int) then d else f (y * (sw (sCur S)) + x)) x y = (fun (x y : Nat) => if zBool (sRch (sCur S) l.toNat px.toNat py.toNat tol x y) = true then d else (sD (sl (sCur S) l.toNat)) x y) x y ∧ zrg ((fun (x y : Nat) => if zBool (sRch (sCur S) l.toNat px.toNat py.toNat tol x y) = true then d else (sD (sl (sCur S) l.toNat)) x y) x y) := by
        intro x y hx hy
        have e1 : zhp X (sw (sCur S)) (sh (sCur S)) (x : Int) (y : Int) ↔ zBool (sRch (sCur S) l.toNat px.toNat py.toNat tol x y) = true := by
          rw [zhp_sl hx hy, hRe x y hy, zBool_t]
        refine ⟨?_, ?_⟩
        · show (if zhp X (sw (sCur S)) (sh (sCur S)) (x : Int) (y : Int) then d else f (y * (sw (sCur S)) + x)) = (if zBool (sRch (sCur S) l.toNat px.toNat py.toNat tol x y) = true then d else (sD (sl (sCur S) l.toNat)) x y)
          rw [hfD x y hx hy]
          simp only [e1]
        · show zrg (if zBool (sRch (sCur S) l.toNat px.toNat py.toNat tol x y) = true then d else (sD (sl (sCur S) l.toNat)) x y)
          split
          · exact hd
          · exact hDr x y hx hy
      have hCt : ((zsz X (sh (sCur S)) : Nat) : Int) = (zc2 (fun j i => zBool (sRch (sCur S) l.toNat px.toNat py.toNat tol i j)) (sw (sCur S)) (sh (sCur S)) : Nat) := by
        rw [zsz_c2 hw _ (fun j _ => hX1 j)]
        congr 1
        exact zc2_congr _ (fun j i hj hi => zBool_eq (hRe i j hj))
      have hN2 : isPl (zset (zset (zset (zset h1 nr (zi 0 (sh (sCur S)) (zcn (zrs (fun j i => decide (zhp R (sw (sCur S)) (sh (sCur S)) (i : Int) (j : Int) ∧ zak (zldt f (sw (sCur S)) (sh (sCur S)) (i : Int) (j : Int)) (zldt f (sw (sCur S)) (sh (sCur S)) px py) tol)) (sw (sCur S)) (sh (sCur S)) 0)))) na (zo 2 [zI (sw (sCur S)), .ref nr])) m2 (zi 0 (sh (sCur S)) (zcn X))) n2 (zo 2 [zI (sw (sCur S)), .ref m2])) n2 m2 (sw (sCur S)) (sh (sCur S)) X := ⟨zset_same _ _ _, by rw [zset_ne hnm.symm, zset_same]⟩
      have hma : af ≠ m2 := fun h9 => by subst h9; rw [hTa.2.2.1.2.2.2.2.1] at hm2; cases hm2
      refine Ev.heap (zstart R (fun (x y : Nat) => if zhp X (sw (sCur S)) (sh (sCur S)) (x : Int) (y : Int) then d else f (y * (sw (sCur S)) + x)) hTb.2.2.1.2.2.2.2.1) ?_
      refine tl_flood_o hTb.2.2.1 hh hw hT.R24 hN2 (fun j => z24 hw (hX1 j)) hma ?_ (sh (sCur S)) 0 (by omega) (by omega)
      have hN3 := isPl.oth (e := zi 0 ((sw (sCur S)) * (sh (sCur S))) (zpt f (sw (sCur S)) R (fun (x y : Nat) => if zhp X (sw (sCur S)) (sh (sCur S)) (x : Int) (y : Int) then d else f (y * (sw (sCur S)) + x)) (((sh (sCur S)) : Int) * (sw (sCur S)) + 0).toNat)) hN2 hTb.2.2.1.2.2.2.2.1 hma
      refine zz_aload_n rfl rfl ?_
      refine zz_getf rfl fl_TS_12 (hC.ext (hTb.1.set hTb.2.1)).1 rfl ?_
      refine zz_aload rfl rfl ?_
      refine zz_V rfl lk_TS_133 cw_Painting_result rfl (hTb.2.2.1.up _).1 (tool_res (G := (fun (x y : Nat) => if zBool (sRch (sCur S) l.toNat px.toNat py.toNat tol x y) = true then d else (sD (sl (sCur S) l.toNat)) x y)) hC hTb hGG) rfl rfl rfl rfl ?_
      rintro _ h3 ⟨b2, rfl, hx3, hC3, hP3, hk3, hx4⟩
      refine zaft_v ?_
      refine zz_V rfl lk_TS_74 cw_History_add rfl hC3.2.1.1 (ct_step hC3 hly.1 hP3 hk3) rfl rfl rfl rfl ?_
      rintro _ h5 ⟨rfl, hf5, hC5⟩
      refine zaft_u ?_
      refine zz_aload rfl rfl ?_
      refine zz_Vp rfl lk_TS_109 cw_Places_size rfl ((hN3.fz hx4.zfr).fz hf5).1 (ct_size ((hN3.fz hx4.zfr).fz hf5) hh (fun j => z24 hw (hX1 j))) rfl rfl rfl rfl ?_
      refine zz_eq hCt ?_
      refine zz_iret rfl rfl (fcP.ok (hx3.zfr.tr hf5) ⟨hly, ⟨hb19, hb34⟩, htl⟩ trivial hC5)
abbrev sPs (K : SK) (dx dy : Int) (x y : Nat) : Prop := zbox ((x : Int) - dx) ((y : Int) - dy) K.1 K.2.1 ∧ (K.2.2.2 ((y : Int) - dy).toNat).testBit ((x : Int) - dx).toNat = true
def sPg (K : SK) (dx dy : Int) (D : Nat → Nat → Int) (x y : Nat) : Int := if sPs K dx dy x y then K.2.2.1 ((x : Int) - dx).toNat ((y : Int) - dy).toNat else D x y
theorem fc_paste {x : Nat} {S : SS} (hR : CRep h x S) {l dx dy : Int} (hl : zrg l) (hdx0 : zrg dx) (hdy0 : zrg dy) : Ct Z m_TS_paste 4 20 4000 [.ref x, zI l, zI dx, zI dy] h (fcP h x S (sLy S l ∧ (-100 ≤ dx ∧ dx ≤ 100) ∧ -100 ≤ dy ∧ dy ≤ 100) zIAE ((sCopy S).isSome = true) zNSE (some (zI ((zc2 (fun j i => decide (sSl (sCur S) i j ∧ sPs ((sCopy S).getD sK0) dx dy i j)) (sw (sCur S)) (sh (sCur S)) : Nat)))) (sAdd S (sPut (sCur S) l (sPg ((sCopy S).getD sK0) dx dy (sD (sl (sCur S) l.toNat)))))) := by
  obtain ⟨hi, pa, pf, fv, cv, hC⟩ := hR
  have hC1 := hC.1
  cases hK : sCopy S with
  | none =>
    have hv : cv = .null := by have h9 := hC.2.2.2.2.1; rw [hK] at h9; exact h9
    subst hv
    refine zct rfl (by decide) ok_TS_paste rfl rfl ?_
    refine zz_aload_n rfl rfl ?_
    refine zz_iload_n rfl rfl ?_
    refine zz_V rfl lk_TS_119 cw_TS_paintingOf rfl hC.1 (ct_po hC hl) rfl rfl rfl rfl ?_
    rintro _ h1 (⟨hno, rfl, hx1⟩ | ⟨hly, p, a, la, sa, ra, bf, da, af, lf, R, f, rfl, hT⟩)
    · exact zaft_x (zx_out rfl (fcP.no1 hC hx1 (fun g => hno g.1)))
    obtain ⟨⟨hw1, hw⟩, ⟨hh1, hh⟩, ⟨hn1, hn⟩, hkL, hkR⟩ := id hT.2.2.2.2.1
    obtain ⟨hl0, hl1⟩ := id hT.2.2.2.2.2.1
    have hp := hT.2.2.1
    have hdt := sFl_dt hT.2.2.2.2.2.2.2
    refine zaft_v ?_
    refine zz_astore rfl rfl rfl ?_
    refine zz_iload_n rfl rfl ?_
    refine zz_iload_n rfl rfl ?_
    refine zz_Srq rfl lk_TS_142 cw_TS_requireShift (ct_requireShift hdx0 hdy0) rfl rfl rfl rfl rfl (fun hno => fcP.no1 hC hT.1 (fun g => hno g.2)) (fun hsh => ?_)
    refine zz_aload_n rfl rfl ?_
    refine zz_getf rfl fl_TS_177 (hC.ext hT.1).1 rfl ?_
    refine zz_ifnonnullN rfl ?_
    refine zz_throw th_TS_181 rfl rfl rfl rfl rfl rfl (fcP.no2 hC hT.1 ⟨hly, hsh⟩ (fun g => by cases g))
  | some K =>
    obtain ⟨cp, hv, ⟨cb, cl, cr, Lk, T, hcp, ⟨cd, f1, hly1, hf1r, hf1⟩, hLD, hTl, hTw, hTr⟩, hkK⟩ : ∃ a, cv = .ref a ∧ isK h a K ∧ okK K := by have h9 := hC.2.2.2.2.1; rw [hK] at h9; exact h9
    subst hv
    show Ct Z m_TS_paste 4 20 4000 _ h (fcP h x S _ zIAE _ zNSE (some (zI ((zc2 (fun j i => decide (sSl (sCur S) i j ∧ sPs K dx dy i j)) (sw (sCur S)) (sh (sCur S)) : Nat) : Int))) (sAdd S (sPut (sCur S) l (sPg K dx dy (sD (sl (sCur S) l.toNat))))))
    refine zct rfl (by decide) ok_TS_paste rfl rfl ?_
    refine zz_aload_n rfl rfl ?_
    refine zz_iload_n rfl rfl ?_
    refine zz_V rfl lk_TS_119 cw_TS_paintingOf rfl hC.1 (ct_po hC hl) rfl rfl rfl rfl ?_
    rintro _ h1 (⟨hno, rfl, hx1⟩ | ⟨hly, p, a, la, sa, ra, bf, da, af, lf, R, f, rfl, hT⟩)
    · exact zaft_x (zx_out rfl (fcP.no1 hC hx1 (fun g => hno g.1)))
    obtain ⟨⟨hw1, hw⟩, ⟨hh1, hh⟩, ⟨hn1, hn⟩, hkL, hkR⟩ := id hT.2.2.2.2.1
    obtain ⟨hl0, hl1⟩ := id hT.2.2.2.2.2.1
    have hp := hT.2.2.1
    have hdt := sFl_dt hT.2.2.2.2.2.2.2
    refine zaft_v ?_
    refine zz_astore rfl rfl rfl ?_
    refine zz_iload_n rfl rfl ?_
    refine zz_iload_n rfl rfl ?_
    refine zz_Srq rfl lk_TS_142 cw_TS_requireShift (ct_requireShift hdx0 hdy0) rfl rfl rfl rfl rfl (fun hno => fcP.no1 hC hT.1 (fun g => hno g.2)) (fun hsh => ?_)
    refine zz_aload_n rfl rfl ?_
    refine zz_getf rfl fl_TS_177 (hC.ext hT.1).1 rfl ?_
    refine zz_ifnonnull rfl ?_
    refine zz_iconst rfl ?_
    refine zz_istore rfl rfl rfl ?_
    refine zz_iconst rfl ?_
    refine zz_istore rfl rfl rfl ?_
    have hDr : ∀ x y, x < (sw (sCur S)) → y < (sh (sCur S)) → zrg ((sD (sl (sCur S) l.toNat)) x y) := (hkL l.toNat (by omega)).2.2.2
    have hfD := hT.2.2.2.2.2.2.2
    have hpb : ∀ x y : Nat, zhp T K.1 K.2.1 ((x : Int) - dx) ((y : Int) - dy) ↔ sPs K dx dy x y := by
      intro x y
      rw [zhp_box]
      unfold sPs
      constructor
      · rintro ⟨h8, h9⟩
        exact ⟨h8, by rw [← hTr _ (by have := h8.2.2; omega)]; exact h9⟩
      · rintro ⟨h8, h9⟩
        exact ⟨h8, by rw [hTr _ (by have := h8.2.2; omega)]; exact h9⟩
    have hGG : ∀ x y, x < (sw (sCur S)) → y < (sh (sCur S)) → (fun (x y : Nat) => if zhp T K.1 K.2.1 ((x : Int) - dx) ((y : Int) - dy) then zldt f1 K.1 K.2.1 ((x : Int) - dx) ((y : Int) - dy) else f (y * (sw (sCur S)) + x)) x y = sPg K dx dy (sD (sl (sCur S) l.toNat)) x y ∧ zrg (sPg K dx dy (sD (sl (sCur S) l.toNat)) x y) := by
      intro x y hx hy
      by_cases hc : sPs K dx dy x y
      · have hb := hc.1
        have g1 : ((x : Int) - dx).toNat < K.1 := by have := hb.2.1; have := hb.1; omega
        have g2 : ((y : Int) - dy).toNat < K.2.1 := by have := hb.2.2; omega
        have e3 := sDt_in (D := sD Lk) g1 g2
        rw [Int.toNat_of_nonneg hb.1, Int.toNat_of_nonneg hb.2.2.1, ← sFl_dt hf1] at e3
        refine ⟨?_, ?_⟩
        · show (if zhp T K.1 K.2.1 ((x : Int) - dx) ((y : Int) - dy) then zldt f1 K.1 K.2.1 ((x : Int) - dx) ((y : Int) - dy) else f (y * (sw (sCur S)) + x)) = sPg K dx dy (sD (sl (sCur S) l.toNat)) x y
          unfold sPg
          rw [if_pos ((hpb x y).mpr hc), if_pos hc, e3, hLD _ _ g1 g2]
        · unfold sPg
          rw [if_pos hc]
          exact hkK.2.2.1 _ _ g1 g2
      · refine ⟨?_, ?_⟩
        · show (if zhp T K.1 K.2.1 ((x : Int) - dx) ((y : Int) - dy) then zldt f1 K.1 K.2.1 ((x : Int) - dx) ((y : Int) - dy) else f (y * (sw (sCur S)) + x)) = sPg K dx dy (sD (sl (sCur S) l.toNat)) x y
          unfold sPg
          rw [if_neg (fun h9 => hc ((hpb x y).mp h9)), if_neg hc, hfD x y hx hy]
        · unfold sPg
          rw [if_neg hc]
          exact hDr x y hx hy
    have hCt : ((zcn2 (fun j i => decide (zhp R (sw (sCur S)) (sh (sCur S)) (i : Int) (j : Int) ∧ zhp T K.1 K.2.1 ((i : Int) - dx) ((j : Int) - dy))) (sw (sCur S)) (sh (sCur S)) 0 : Nat) : Int) = (zc2 (fun j i => decide (sSl (sCur S) i j ∧ sPs K dx dy i j)) (sw (sCur S)) (sh (sCur S)) : Nat) := by
      congr 1
      refine zc2_congr _ (fun j i hj0 hi => ?_)
      have hj : j < (sh (sCur S)) := hj0
      show decide _ = decide _
      congr 1
      rw [zhp_sl hi hj, hT.2.2.2.1.2.2.2.2.2 j hj, hpb i j]
    have hTl1 := hTl.fz hT.1.zfr
    have hL1 : isLy h1 cb cd K.1 K.2.1 f1 (sM Lk) (sO Lk) (sV Lk) := ⟨hT.1 _ _ hly1.1, hT.1 _ _ hly1.2⟩
    refine Ev.heap (zstart R (fun (x y : Nat) => if zhp T K.1 K.2.1 ((x : Int) - dx) ((y : Int) - dy) then zldt f1 K.1 K.2.1 ((x : Int) - dx) ((y : Int) - dy) else f (y * (sw (sCur S)) + x)) hp.2.2.2.2.1) ?_
    refine tl_paste_o hp hh hw hT.R24 (hC.ext hT.1).1 (hT.1 _ _ hcp) hTl1 (fun j => z24 hkK.1.2 (hTw j)) (zne hT.2.1 hTl.2).symm hL1 (zne hT.2.1 hly1.2).symm hkK.1.2 hkK.2.1.2 hsh.1 hsh.2 ?_ (sh (sCur S)) 0 (by omega) (by omega)
    refine zz_aload_n rfl rfl ?_
    refine zz_getf rfl fl_TS_12 (hC.ext (hT.1.set hT.2.1)).1 rfl ?_
    refine zz_aload rfl rfl ?_
    refine zz_V rfl lk_TS_133 cw_Painting_result rfl (hT.2.2.1.up _).1 (tool_res (G := (sPg K dx dy (sD (sl (sCur S) l.toNat)))) hC hT hGG) rfl rfl rfl rfl ?_
    rintro _ h3 ⟨b2, rfl, hx3, hC3, hP3, hk3, hx4⟩
    refine zaft_v ?_
    refine zz_V rfl lk_TS_74 cw_History_add rfl hC3.2.1.1 (ct_step hC3 hly.1 hP3 hk3) rfl rfl rfl rfl ?_
    rintro _ h5 ⟨rfl, hf5, hC5⟩
    refine zaft_u ?_
    refine zz_iload rfl rfl ?_
    refine zz_iret rfl rfl (by rw [hCt]; exact fcP.ok (hx3.zfr.tr hf5) ⟨hly, hsh⟩ rfl hC5)
end FH
