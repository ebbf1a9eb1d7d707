section FA
variable {Z : ZC} {h : ZH}
theorem ct_pp_n {x hi pa : Nat} {pf : Nat → Value} {fv cv : Value} {S : SS} (hC : CR h x hi pa pf fv cv S) (hh : sHas S = false) : Ct Z m_TS_presentPicture 1 1 6 [.ref x] h (fun r h' => r = .inr zIAE ∧ h' = h) := by
  refine zct rfl (by decide) ok_TS_presentPicture rfl rfl ?_
  refine zz_aload_n rfl rfl ?_
  refine zz_getf rfl fl_TS_12 hC.1 rfl ?_
  refine zz_Vp rfl lk_TS_236 cw_History_present rfl hC.2.1.1 (ct_present hC.2.1 hC.now.1 (Or.inl (hC.nop hh))) rfl rfl rfl rfl ?_
  refine zz_tv (hC.nop hh) ?_
  refine zz_astore_nN rfl rfl rfl ?_
  refine zz_aload_nN rfl rfl ?_
  refine zz_ifnonnullN rfl ?_
  refine zz_throw th_TS_245 rfl rfl rfl rfl rfl rfl ⟨rfl, rfl⟩
theorem ct_pp_s {x hi pa : Nat} {pf : Nat → Value} {fv cv : Value} {S : SS} (hC : CR h x hi pa pf fv cv S) {a : Nat} (ha : pf (sNow S : Int).toNat = .ref a) : Ct Z m_TS_presentPicture 1 1 6 [.ref x] h (zP (.ref a) h) := by
  refine zct rfl (by decide) ok_TS_presentPicture rfl rfl ?_
  refine zz_aload_n rfl rfl ?_
  refine zz_getf rfl fl_TS_12 hC.1 rfl ?_
  refine zz_Vp rfl lk_TS_236 cw_History_present rfl hC.2.1.1 (ct_present hC.2.1 hC.now.1 (Or.inr ⟨a, ha⟩)) rfl rfl rfl rfl ?_
  refine zz_tv ha ?_
  refine zz_astore_n rfl rfl rfl ?_
  refine zz_aload_n rfl rfl ?_
  refine zz_ifnonnull rfl ?_
  refine zz_aload_n rfl rfl ?_
  refine zz_aret rfl rfl (Or.inl ⟨_, rfl⟩) (Or.inr ⟨_, rfl⟩) ⟨rfl, rfl⟩
theorem ct_pp {x hi pa : Nat} {pf : Nat → Value} {fv cv : Value} {S : SS} (hC : CR h x hi pa pf fv cv S) : Ct Z m_TS_presentPicture 1 1 6 [.ref x] h (fun r h' => h' = h ∧ ((sHas S ≠ true ∧ r = .inr zIAE) ∨ (sHas S = true ∧ ∃ a la sa ra lf R, r = .inl (some (.ref a)) ∧ isPd h a la sa ra lf R (sCur S) ∧ okP (sCur S)))) := by
  cases hh : sHas S
  · refine (ct_pp_n hC hh).mono ?_
    rintro r h' ⟨rfl, rfl⟩
    exact ⟨rfl, Or.inl ⟨fun h => (by cases h), rfl⟩⟩
  · obtain ⟨a, la, sa, ra, lf, R, e1, e2, e3⟩ := hC.pic hh
    refine (ct_pp_s hC e1).mono ?_
    rintro r h' ⟨rfl, rfl⟩
    exact ⟨rfl, Or.inr ⟨rfl, a, la, sa, ra, lf, R, rfl, e2, e3⟩⟩
theorem ct_pwl {x hi pa : Nat} {pf : Nat → Value} {fv cv : Value} {S : SS} (hC : CR h x hi pa pf fv cv S) {l : Int} (hl : zrg l) : Ct Z m_TS_pictureWithLayer 2 2 12 [.ref x, zI l] h (fun r h' => h' = h ∧ ((¬ sLy S l ∧ r = .inr zIAE) ∨ (sLy S l ∧ ∃ a la sa ra lf R, r = .inl (some (.ref a)) ∧ isPd h a la sa ra lf R (sCur S) ∧ okP (sCur S)))) := by
  refine zct rfl (by decide) ok_TS_pictureWithLayer rfl rfl ?_
  refine zz_aload_n rfl rfl ?_
  refine zz_V rfl lk_TS_48 cw_TS_presentPicture rfl hC.1 (ct_pp hC) rfl rfl rfl rfl ?_
  rintro _ h ⟨rfl, ⟨hno, rfl⟩ | ⟨hhas, a, la, sa, ra, lf, R, rfl, hP, hk⟩⟩
  · exact zaft_x (zx_out rfl ⟨rfl, Or.inl ⟨fun g => hno g.1, rfl⟩⟩)
  obtain ⟨⟨hw1, hw⟩, ⟨hh1, hh⟩, ⟨hn1, hn⟩, hkL, hkR⟩ := id hk
  have hP1 := hP.1
  have hP2 := hP.2.1
  refine zaft_v ?_
  refine zz_astore_n rfl rfl rfl ?_
  refine zz_iload_n rfl rfl ?_
  refine zz_iconst rfl ?_
  refine zz_aload_n rfl rfl ?_
  refine zz_getf rfl fl_TS_52 (by assumption) rfl ?_
  refine zz_alenA rfl (Or.inl ⟨rfl, rfl⟩) hP2 ?_
  refine zz_iconst rfl ?_
  refine zz_isub rfl ?_
  refine zz_Sp rfl lk_TS_16 cw_TS_isWithin (ct_isWithin hl ⟨by decide, by decide⟩ ⟨by omega, by omega⟩) rfl rfl rfl rfl ?_
  refine zz_Srq rfl lk_TS_20 cw_TS_require ct_require rfl rfl rfl rfl rfl (fun hno => ⟨rfl, Or.inl ⟨fun g => hno ⟨g.2.1, by have := g.2.2; omega⟩, rfl⟩⟩) (fun hyes => ?_)
  refine zz_aload_n rfl rfl ?_
  refine zz_aret rfl rfl (Or.inl ⟨_, rfl⟩) (Or.inr ⟨_, rfl⟩) ⟨rfl, Or.inr ⟨⟨hhas, hyes.1, by have := hyes.2; omega⟩, a, la, sa, ra, lf, R, rfl, hP, hk⟩⟩
theorem ct_po_b2 {p q : Nat} {e e' : ZE} (hp : h p = none) (hq : zset h p e q = some e') (he : e ≠ e') : h q = some e' := by
  by_cases hpq : q = p
  · subst hpq; rw [zset_same] at hq; exact absurd (Option.some.inj hq) he
  · rw [zset_ne hpq] at hq; exact hq
theorem ct_po_back {p a la sa ra : Nat} {lf : Nat → Value} {R : Nat → Nat} {P : SP} {fs : List Value} (hp : h p = none) (hP : isPd (zset h p (zo 5 fs)) a la sa ra lf R P) : isPd h a la sa ra lf R P := by
  obtain ⟨h1, h2, h3, h4, h5⟩ := hP
  refine ⟨ct_po_b2 hp h1 (by intro h9; cases h9), ct_po_b2 hp h2 (by intro h9; cases h9), fun i hi => ?_, ⟨ct_po_b2 hp h4.1 (by intro h9; cases h9), ct_po_b2 hp h4.2 (by intro h9; cases h9)⟩, h5⟩
  obtain ⟨b, e1, da, f, e2, e3⟩ := h3 i hi
  exact ⟨b, e1, da, f, ⟨ct_po_b2 hp e2.1 (by intro h9; cases h9), ct_po_b2 hp e2.2 (by intro h9; cases h9)⟩, e3⟩
theorem ct_po {x hi pa : Nat} {pf : Nat → Value} {fv cv : Value} {S : SS} (hC : CR h x hi pa pf fv cv S) {l : Int} (hl : zrg l) : Ct Z m_TS_paintingOf 3 4 600 [.ref x, zI l] h (fun r h' => (¬ sLy S l ∧ r = .inr zIAE ∧ zext h h') ∨ (sLy S l ∧ ∃ p a la sa ra bf da af lf R f, r = .inl (some (.ref p)) ∧ TP h h' S l p a la sa ra bf da af lf R f)) := by
  refine zct rfl (by decide) ok_TS_paintingOf rfl rfl ?_
  refine zz_new (N := 4) rfl nw_TS_124 (fun p hp => ?_)
  have hE := zext.mk (e := zo 5 [.null, zI 0, .null, .null]) hp
  have hC1 := hC.ext hE
  refine zz_dup rfl rfl ?_
  refine zz_aload_n rfl rfl ?_
  refine zz_iload_n rfl rfl ?_
  refine zz_V rfl lk_TS_77 cw_TS_pictureWithLayer rfl hC1.1 (ct_pwl hC1 hl) rfl rfl rfl rfl ?_
  rintro _ _ ⟨rfl, ⟨hno, rfl⟩ | ⟨hly, a, la, sa, ra, lf, R, rfl, hP, hk⟩⟩
  · exact zaft_x (zx_out rfl (Or.inl ⟨hno, rfl, hE⟩))
  obtain ⟨hhas, hl0, hl1⟩ := id hly
  obtain ⟨⟨hw1, hw⟩, ⟨hh1, hh⟩, ⟨hn1, hn⟩, hkL, hkR⟩ := id hk
  obtain ⟨b, hb1, da, f, hb2, hb3, hb4⟩ := hP.2.2.1 l.toNat (by omega)
  refine zaft_v ?_
  refine zz_iload_n rfl rfl ?_
  refine zz_N rfl lk_TS_254 cw_Painting_init (fun E h9 h8 => by cases h8.1) (ct_Painting_init (zset_same _ _ _) hP.1 hP.2.1 hn ⟨hl0, hl1⟩ hb1 hb2 hw hh) rfl rfl rfl rfl ?_
  rintro _ _ ⟨rfl, af, haf, rfl⟩
  obtain ⟨hf1, hf2⟩ := zset_none haf
  refine zaft_u ?_
  refine Ev.heap (zset_mid h _ _ _ hf2.symm) ?_
  refine zz_aret rfl rfl (Or.inl ⟨_, rfl⟩) (Or.inr ⟨_, rfl⟩) (Or.inr ⟨hly, p, a, la, sa, ra, b, da, af, lf, R, f, rfl, ?_⟩)
  have hpn : ∀ e, zset h af e p = none := fun e => zset_nn hp hf2.symm
  have hE2 : zext h (zset (zset h af (zi 0 (sw (sCur S) * sh (sCur S)) f)) p (zo 5 [.ref a, zI l, .ref b, .ref af])) := (zext.mk hf1).set hp
  obtain ⟨a0, la0, sa0, ra0, lf0, R0, e1, hP0, -⟩ := hC.pic hhas
  obtain ⟨a2, la2, sa2, ra2, lf2, R2, e1b, hP2, -⟩ := hC1.pic hhas
  have hne : ∀ q e, h q = some e → p ≠ q := fun q e hq h9 => by subst h9; rw [hp] at hq; cases hq
  have hPp := ct_po_back hp hP
  exact ⟨hE2, hf1, ⟨zset_same _ _ _, hE2 _ _ hPp.1, ⟨hE2 _ _ hPp.2.2.2.1.1, hE2 _ _ hPp.2.2.2.1.2⟩, ⟨hE2 _ _ (ct_po_b2 hp hb2.1 (by intro h9; cases h9)), hE2 _ _ (ct_po_b2 hp hb2.2 (by intro h9; cases h9))⟩, by rw [zset_ne hf2, zset_same], (zne hf1 hPp.2.2.2.1.2).symm, (zne hf1 (ct_po_b2 hp hb2.2 (by intro h9; cases h9))).symm⟩, hPp, hk, ⟨hl0, hl1⟩, hb3, hb4⟩
theorem fc_fill {x : Nat} {S : SS} (hR : CRep h x S) {l d : Int} (hl : zrg l) (hd : zrg d) : Ct Z m_TS_fill 4 20 4000 [.ref x, zI l, zI d] h (fcP h x S (sLy S l) zIAE (True) zIAE (none) (sAdd S (sPut (sCur S) l (fun _ _ => d)))) := by
  obtain ⟨hi, pa, pf, fv, cv, hC⟩ := hR
  have hC1 := hC.1
  refine zct rfl (by decide) ok_TS_fill rfl rfl ?_
  refine zz_aload_n rfl rfl ?_
  refine zz_iload_n rfl rfl ?_
  refine zz_V rfl lk_TS_119 cw_TS_paintingOf rfl hC.1 (ct_po hC hl) rfl rfl rfl rfl ?_
  rintro _ h1 (⟨hno, rfl, hx1⟩ | ⟨hly, p, a, la, sa, ra, bf, da, af, lf, R, f, rfl, hT⟩)
  · exact zaft_x (zx_out rfl (fcP.no1 hC hx1 hno))
  obtain ⟨⟨hw1, hw⟩, ⟨hh1, hh⟩, ⟨hn1, hn⟩, hkL, hkR⟩ := id hT.2.2.2.2.1
  obtain ⟨hl0, hl1⟩ := id hT.2.2.2.2.2.1
  have hp := hT.2.2.1
  have hdt := sFl_dt hT.2.2.2.2.2.2.2
  refine zaft_v ?_
  refine zz_astore_n rfl rfl rfl ?_
  refine zz_iconst rfl ?_
  refine zz_istore rfl rfl rfl ?_
  refine Ev.heap (zstart R (fun _ _ => d) hT.2.2.1.2.2.2.2.1) ?_
  refine tl_fill_o hp hh hw hT.R24 ?_ (sh (sCur S)) 0 (by omega) (by omega)
  refine zz_aload_n rfl rfl ?_
  refine zz_getf rfl fl_TS_12 (hC.ext (hT.1.set hT.2.1)).1 rfl ?_
  refine zz_aload_n rfl rfl ?_
  refine zz_V rfl lk_TS_133 cw_Painting_result rfl (hT.2.2.1.up _).1 (tool_res (G := (fun _ _ => d)) hC hT (fun x y hx hy => ⟨rfl, hd⟩)) rfl rfl rfl rfl ?_
  rintro _ h3 ⟨b2, rfl, hx3, hC3, hP3, hk3, hx4⟩
  refine zaft_v ?_
  refine zz_V rfl lk_TS_74 cw_History_add rfl hC3.2.1.1 (ct_step hC3 hly.1 hP3 hk3) rfl rfl rfl rfl ?_
  rintro _ h5 ⟨rfl, hf5, hC5⟩
  refine zaft_u ?_
  refine zz_vret rfl rfl (fcP.ok (hx3.zfr.tr hf5) hly trivial hC5)
theorem zbt_rg {f : Int} (hf : zrg f) (l k n : Int) : zrg (zbt f l k n) := by
  unfold zbt
  split
  · exact hf
  · exact zdot_rg _ _ _ _
theorem zbl_rg (s b m o : Int) : zrg (zbl s b m o) := by
  unfold zbl
  split
  · exact ⟨by decide, by decide⟩
  · exact zdot_rg _ _ _ _
theorem sDt_rg {D : Nat → Nat → Int} {w ht : Nat} (hD : ∀ x y, x < w → y < ht → zrg (D x y)) (x y : Int) : zrg (zldt (sFl D w) w ht x y) := by
  by_cases hb : zbox x y w ht
  · have e1 : (x.toNat : Int) = x := Int.toNat_of_nonneg hb.1
    have e2 : (y.toNat : Int) = y := Int.toNat_of_nonneg hb.2.2.1
    have h1 : x.toNat < w := by have := hb.2.1; omega
    have h2 : y.toNat < ht := by have := hb.2.2.2; omega
    rw [← e1, ← e2, sDt_in h1 h2]
    exact hD _ _ h1 h2
  · unfold zldt
    rw [if_neg hb]
    exact ⟨by decide, by decide⟩
theorem fc_grad {x : Nat} {S : SS} (hR : CRep h x S) {l fi la1 ax : Int} (hl : zrg l) (hfi : zrg fi) (hax0 : zrg ax) : Ct Z m_TS_gradient 4 20 4000 [.ref x, zI l, zI fi, zI la1, zI ax] h (fcP h x S (sLy S l ∧ 0 ≤ ax ∧ ax ≤ 1) zIAE (True) zIAE (none) (sAdd S (sPut (sCur S) l (fun x y => zbt fi la1 (if ax = 0 then (x : Int) else (y : Int)) (if ax = 0 then ((sw (sCur S)) : Int) - 1 else ((sh (sCur S)) : Int) - 1))))) := by
  obtain ⟨hi, pa, pf, fv, cv, hC⟩ := hR
  have hC1 := hC.1
  refine zct rfl (by decide) ok_TS_gradient rfl rfl ?_
  refine zz_aload_n rfl rfl ?_
  refine zz_iload_n rfl rfl ?_
  refine zz_V rfl lk_TS_119 cw_TS_paintingOf rfl hC.1 (ct_po hC hl) rfl rfl rfl rfl ?_
  rintro _ h1 (⟨hno, rfl, hx1⟩ | ⟨hly, p, a, la, sa, ra, bf, da, af, lf, R, f, rfl, hT⟩)
  · exact zaft_x (zx_out rfl (fcP.no1 hC hx1 (fun g => hno g.1)))
  obtain ⟨⟨hw1, hw⟩, ⟨hh1, hh⟩, ⟨hn1, hn⟩, hkL, hkR⟩ := id hT.2.2.2.2.1
  obtain ⟨hl0, hl1⟩ := id hT.2.2.2.2.2.1
  have hp := hT.2.2.1
  have hdt := sFl_dt hT.2.2.2.2.2.2.2
  refine zaft_v ?_
  refine zz_astore rfl rfl rfl ?_
  refine zz_iload rfl rfl ?_
  refine zz_iconst rfl ?_
  refine zz_iconst rfl ?_
  refine zz_Sp rfl lk_TS_16 cw_TS_isWithin (ct_isWithin hax0 ⟨by decide, by decide⟩ ⟨by decide, by decide⟩) rfl rfl rfl rfl ?_
  refine zz_Srq rfl lk_TS_20 cw_TS_require ct_require rfl rfl rfl rfl rfl (fun hno => fcP.no1 hC hT.1 (fun g => hno g.2)) (fun hax => ?_)
  refine zz_iload rfl rfl ?_
  refine zz_if_ne rfl (by omega) (fun hb19 => ?_) (fun hb19 => ?_)
  · skip
    refine zz_aload rfl rfl ?_
    refine zz_Vp rfl lk_TS_123 cw_Painting_height rfl hp.1 (ct_Ph hp) rfl rfl rfl rfl ?_
    refine zz_iconst rfl ?_
    refine zz_isub rfl ?_
    refine zz_istore rfl rfl rfl ?_
    refine zz_iconst rfl ?_
    refine zz_istore rfl rfl rfl ?_
    refine Ev.heap (zstart R (fun x y => zbt fi la1 (if ax = 0 then (x : Int) else (y : Int)) (((sh (sCur S)) : Int) - 1)) hp.2.2.2.2.1) ?_
    refine tl_grad_o hp hh hw hT.R24 hax (fun h9 => absurd h9 hb19) (fun h9 => rfl) ?_ (sh (sCur S)) 0 (by omega) (by omega)
    refine zz_aload_n rfl rfl ?_
    refine zz_getf rfl fl_TS_12 (hC.ext (hT.1.set hT.2.1)).1 rfl ?_
    refine zz_aload rfl rfl ?_
    refine zz_V rfl lk_TS_133 cw_Painting_result rfl (hT.2.2.1.up _).1 (tool_res (G := (fun x y => zbt fi la1 (if ax = 0 then (x : Int) else (y : Int)) (if ax = 0 then ((sw (sCur S)) : Int) - 1 else ((sh (sCur S)) : Int) - 1))) hC hT (fun x y hx hy => ⟨by simp only [if_neg hb19], zbt_rg hfi _ _ _⟩)) rfl rfl rfl rfl ?_
    rintro _ h3 ⟨b2, rfl, hx3, hC3, hP3, hk3, hx4⟩
    refine zaft_v ?_
    refine zz_V rfl lk_TS_74 cw_History_add rfl hC3.2.1.1 (ct_step hC3 hly.1 hP3 hk3) rfl rfl rfl rfl ?_
    rintro _ h5 ⟨rfl, hf5, hC5⟩
    refine zaft_u ?_
    refine zz_vret rfl rfl (fcP.ok (hx3.zfr.tr hf5) ⟨hly, hax⟩ trivial hC5)
  · skip
    refine zz_aload rfl rfl ?_
    refine zz_Vp rfl lk_TS_127 cw_Painting_width rfl hp.1 (ct_Pw hp) rfl rfl rfl rfl ?_
    refine zz_goto rfl ?_
    refine zz_iconst rfl ?_
    refine zz_isub rfl ?_
    refine zz_istore rfl rfl rfl ?_
    refine zz_iconst rfl ?_
    refine zz_istore rfl rfl rfl ?_
    refine Ev.heap (zstart R (fun x y => zbt fi la1 (if ax = 0 then (x : Int) else (y : Int)) (((sw (sCur S)) : Int) - 1)) hp.2.2.2.2.1) ?_
    refine tl_grad_o hp hh hw hT.R24 hax (fun h9 => rfl) (fun h9 => absurd hb19 h9) ?_ (sh (sCur S)) 0 (by omega) (by omega)
    refine zz_aload_n rfl rfl ?_
    refine zz_getf rfl fl_TS_12 (hC.ext (hT.1.set hT.2.1)).1 rfl ?_
    refine zz_aload rfl rfl ?_
    refine zz_V rfl lk_TS_133 cw_Painting_result rfl (hT.2.2.1.up _).1 (tool_res (G := (fun x y => zbt fi la1 (if ax = 0 then (x : Int) else (y : Int)) (if ax = 0 then ((sw (sCur S)) : Int) - 1 else ((sh (sCur S)) : Int) - 1))) hC hT (fun x y hx hy => ⟨by simp only [if_pos hb19], zbt_rg hfi _ _ _⟩)) rfl rfl rfl rfl ?_
    rintro _ h3 ⟨b2, rfl, hx3, hC3, hP3, hk3, hx4⟩
    refine zaft_v ?_
    refine zz_V rfl lk_TS_74 cw_History_add rfl hC3.2.1.1 (ct_step hC3 hly.1 hP3 hk3) rfl rfl rfl rfl ?_
    rintro _ h5 ⟨rfl, hf5, hC5⟩
    refine zaft_u ?_
    refine zz_vret rfl rfl (fcP.ok (hx3.zfr.tr hf5) ⟨hly, hax⟩ trivial hC5)
theorem fc_mirr {x : Nat} {S : SS} (hR : CRep h x S) {l ax : Int} (hl : zrg l) (hax0 : zrg ax) : Ct Z m_TS_mirror 4 20 4000 [.ref x, zI l, zI ax] h (fcP h x S (sLy S l ∧ 0 ≤ ax ∧ ax ≤ 1) zIAE (True) zIAE (none) (sAdd S (sPut (sCur S) l (fun x y => (zldt (sFl (sD (sl (sCur S) l.toNat)) (sw (sCur S))) (sw (sCur S)) (sh (sCur S))) (if ax = 0 then ((sw (sCur S)) : Int) - 1 - (x : Int) else (x : Int)) (if ax = 1 then ((sh (sCur S)) : Int) - 1 - (y : Int) else (y : Int)))))) := by
  obtain ⟨hi, pa, pf, fv, cv, hC⟩ := hR
  have hC1 := hC.1
  refine zct rfl (by decide) ok_TS_mirror rfl rfl ?_
  refine zz_aload_n rfl rfl ?_
  refine zz_iload_n rfl rfl ?_
  refine zz_V rfl lk_TS_119 cw_TS_paintingOf rfl hC.1 (ct_po hC hl) rfl rfl rfl rfl ?_
  rintro _ h1 (⟨hno, rfl, hx1⟩ | ⟨hly, p, a, la, sa, ra, bf, da, af, lf, R, f, rfl, hT⟩)
  · exact zaft_x (zx_out rfl (fcP.no1 hC hx1 (fun g => hno g.1)))
  obtain ⟨⟨hw1, hw⟩, ⟨hh1, hh⟩, ⟨hn1, hn⟩, hkL, hkR⟩ := id hT.2.2.2.2.1
  obtain ⟨hl0, hl1⟩ := id hT.2.2.2.2.2.1
  have hp := hT.2.2.1
  have hdt := sFl_dt hT.2.2.2.2.2.2.2
  refine zaft_v ?_
  refine zz_astore_n rfl rfl rfl ?_
  refine zz_iload_n rfl rfl ?_
  refine zz_iconst rfl ?_
  refine zz_iconst rfl ?_
  refine zz_Sp rfl lk_TS_16 cw_TS_isWithin (ct_isWithin hax0 ⟨by decide, by decide⟩ ⟨by decide, by decide⟩) rfl rfl rfl rfl ?_
  refine zz_Srq rfl lk_TS_20 cw_TS_require ct_require rfl rfl rfl rfl rfl (fun hno => fcP.no1 hC hT.1 (fun g => hno g.2)) (fun hax => ?_)
  refine zz_iconst rfl ?_
  refine zz_istore rfl rfl rfl ?_
  have hDr : ∀ x y, x < (sw (sCur S)) → y < (sh (sCur S)) → zrg ((sD (sl (sCur S) l.toNat)) x y) := (hkL l.toNat (by omega)).2.2.2
  refine Ev.heap (zstart R (fun x y => zldt f (sw (sCur S)) (sh (sCur S)) (if ax = 0 then ((sw (sCur S)) : Int) - 1 - (x : Int) else (x : Int)) (if ax = 1 then ((sh (sCur S)) : Int) - 1 - (y : Int) else (y : Int))) hT.2.2.1.2.2.2.2.1) ?_
  refine tl_mirr_o hp hh hw hT.R24 hax ?_ (sh (sCur S)) 0 (by omega) (by omega)
  refine zz_aload_n rfl rfl ?_
  refine zz_getf rfl fl_TS_12 (hC.ext (hT.1.set hT.2.1)).1 rfl ?_
  refine zz_aload_n rfl rfl ?_
  refine zz_V rfl lk_TS_133 cw_Painting_result rfl (hT.2.2.1.up _).1 (tool_res (G := (fun x y => (zldt (sFl (sD (sl (sCur S) l.toNat)) (sw (sCur S))) (sw (sCur S)) (sh (sCur S))) (if ax = 0 then ((sw (sCur S)) : Int) - 1 - (x : Int) else (x : Int)) (if ax = 1 then ((sh (sCur S)) : Int) - 1 - (y : Int) else (y : Int)))) hC hT (fun x y hx hy => ⟨by rw [hdt], sDt_rg hDr _ _⟩)) rfl rfl rfl rfl ?_
  rintro _ h3 ⟨b2, rfl, hx3, hC3, hP3, hk3, hx4⟩
  refine zaft_v ?_
  refine zz_V rfl lk_TS_74 cw_History_add rfl hC3.2.1.1 (ct_step hC3 hly.1 hP3 hk3) rfl rfl rfl rfl ?_
  rintro _ h5 ⟨rfl, hf5, hC5⟩
  refine zaft_u ?_
  refine zz_vret rfl rfl (fcP.ok (hx3.zfr.tr hf5) ⟨hly, hax⟩ trivial hC5)
theorem fc_shift {x : Nat} {S : SS} (hR : CRep h x S) {l dx dy : Int} (hl : zrg l) (hdx0 : zrg dx) (hdy0 : zrg dy) : Ct Z m_TS_shift 4 20 4000 [.ref x, zI l, zI dx, zI dy] h (fcP h x S (sLy S l ∧ (-100 ≤ dx ∧ dx ≤ 100) ∧ -100 ≤ dy ∧ dy ≤ 100) zIAE (True) zIAE (none) (sAdd S (sPut (sCur S) l (fun x y => (zldt (sFl (sD (sl (sCur S) l.toNat)) (sw (sCur S))) (sw (sCur S)) (sh (sCur S))) ((x : Int) - dx) ((y : Int) - dy))))) := by
  obtain ⟨hi, pa, pf, fv, cv, hC⟩ := hR
  have hC1 := hC.1
  refine zct rfl (by decide) ok_TS_shift rfl rfl ?_
  refine zz_aload_n rfl rfl ?_
  refine zz_iload_n rfl rfl ?_
  refine zz_V rfl lk_TS_119 cw_TS_paintingOf rfl hC.1 (ct_po hC hl) rfl rfl rfl rfl ?_
  rintro _ h1 (⟨hno, rfl, hx1⟩ | ⟨hly, p, a, la, sa, ra, bf, da, af, lf, R, f, rfl, hT⟩)
  · exact zaft_x (zx_out rfl (fcP.no1 hC hx1 (fun g => hno g.1)))
  obtain ⟨⟨hw1, hw⟩, ⟨hh1, hh⟩, ⟨hn1, hn⟩, hkL, hkR⟩ := id hT.2.2.2.2.1
  obtain ⟨hl0, hl1⟩ := id hT.2.2.2.2.2.1
  have hp := hT.2.2.1
  have hdt := sFl_dt hT.2.2.2.2.2.2.2
  refine zaft_v ?_
  refine zz_astore rfl rfl rfl ?_
  refine zz_iload_n rfl rfl ?_
  refine zz_iload_n rfl rfl ?_
  refine zz_Srq rfl lk_TS_142 cw_TS_requireShift (ct_requireShift hdx0 hdy0) rfl rfl rfl rfl rfl (fun hno => fcP.no1 hC hT.1 (fun g => hno g.2)) (fun hsh => ?_)
  refine zz_iconst rfl ?_
  refine zz_istore rfl rfl rfl ?_
  have hDr : ∀ x y, x < (sw (sCur S)) → y < (sh (sCur S)) → zrg ((sD (sl (sCur S) l.toNat)) x y) := (hkL l.toNat (by omega)).2.2.2
  refine Ev.heap (zstart R (fun x y => zldt f (sw (sCur S)) (sh (sCur S)) ((x : Int) - dx) ((y : Int) - dy)) hT.2.2.1.2.2.2.2.1) ?_
  refine tl_shift_o hp hh hw hT.R24 hsh.1 hsh.2 ?_ (sh (sCur S)) 0 (by omega) (by omega)
  refine zz_aload_n rfl rfl ?_
  refine zz_getf rfl fl_TS_12 (hC.ext (hT.1.set hT.2.1)).1 rfl ?_
  refine zz_aload rfl rfl ?_
  refine zz_V rfl lk_TS_133 cw_Painting_result rfl (hT.2.2.1.up _).1 (tool_res (G := (fun x y => (zldt (sFl (sD (sl (sCur S) l.toNat)) (sw (sCur S))) (sw (sCur S)) (sh (sCur S))) ((x : Int) - dx) ((y : Int) - dy))) hC hT (fun x y hx hy => ⟨by rw [hdt], sDt_rg hDr _ _⟩)) rfl rfl rfl rfl ?_
  rintro _ h3 ⟨b2, rfl, hx3, hC3, hP3, hk3, hx4⟩
  refine zaft_v ?_
  refine zz_V rfl lk_TS_74 cw_History_add rfl hC3.2.1.1 (ct_step hC3 hly.1 hP3 hk3) rfl rfl rfl rfl ?_
  rintro _ h5 ⟨rfl, hf5, hC5⟩
  refine zaft_u ?_
  refine zz_vret rfl rfl (fcP.ok (hx3.zfr.tr hf5) ⟨hly, hsh⟩ trivial hC5)
theorem zbd_congr {f g : Nat → Int} {w ht : Nat} (h : zldt f w ht = zldt g w ht) (r x y : Int) : zbd f w ht r x y = zbd g w ht r x y := by
  unfold zbd zbr
  rw [h]
theorem fc_blur {x : Nat} {S : SS} (hR : CRep h x S) {l r : Int} (hl : zrg l) (hr0 : zrg r) : Ct Z m_TS_blur 4 20 4000 [.ref x, zI l, zI r] h (fcP h x S (sLy S l ∧ 1 ≤ r ∧ r ≤ 4) zIAE (True) zIAE (none) (sAdd S (sPut (sCur S) l (fun x y => zbd (sFl (sD (sl (sCur S) l.toNat)) (sw (sCur S))) (sw (sCur S)) (sh (sCur S)) r (x : Int) (y : Int))))) := by
  obtain ⟨hi, pa, pf, fv, cv, hC⟩ := hR
  have hC1 := hC.1
  refine zct rfl (by decide) ok_TS_blur rfl rfl ?_
  refine zz_aload_n rfl rfl ?_
  refine zz_iload_n rfl rfl ?_
  refine zz_V rfl lk_TS_119 cw_TS_paintingOf rfl hC.1 (ct_po hC hl) rfl rfl rfl rfl ?_
  rintro _ h1 (⟨hno, rfl, hx1⟩ | ⟨hly, p, a, la, sa, ra, bf, da, af, lf, R, f, rfl, hT⟩)
  · exact zaft_x (zx_out rfl (fcP.no1 hC hx1 (fun g => hno g.1)))
  obtain ⟨⟨hw1, hw⟩, ⟨hh1, hh⟩, ⟨hn1, hn⟩, hkL, hkR⟩ := id hT.2.2.2.2.1
  obtain ⟨hl0, hl1⟩ := id hT.2.2.2.2.2.1
  have hp := hT.2.2.1
  have hdt := sFl_dt hT.2.2.2.2.2.2.2
  refine zaft_v ?_
  refine zz_astore_n rfl rfl rfl ?_
  refine zz_iload_n rfl rfl ?_
  refine zz_iconst rfl ?_
  refine zz_iconst rfl ?_
  refine zz_Sp rfl lk_TS_16 cw_TS_isWithin (ct_isWithin hr0 ⟨by decide, by decide⟩ ⟨by decide, by decide⟩) rfl rfl rfl rfl ?_
  refine zz_Srq rfl lk_TS_20 cw_TS_require ct_require rfl rfl rfl rfl rfl (fun hno => fcP.no1 hC hT.1 (fun g => hno g.2)) (fun hr => ?_)
  refine zz_iconst rfl ?_
  refine zz_aload_n rfl rfl ?_
  refine zz_Vp rfl lk_TS_127 cw_Painting_width rfl hp.1 (ct_Pw hp) rfl rfl rfl rfl ?_
  refine zz_imul rfl ?_
  refine zz_newi 0 96 rfl (by omega) (fun sm hsm => ?_)
  have hT2 := hT.ext (e := zi 0 (4 * (sw (sCur S) : Int)).toNat (fun _ => 0)) hsm
  refine zz_astore rfl rfl rfl ?_
  refine zz_iconst rfl ?_
  refine zz_istore rfl rfl rfl ?_
  have e4 : (4 * (sw (sCur S) : Int)).toNat = 4 * sw (sCur S) := by omega
  rw [e4] at hT2
  refine Ev.heap (show _ = zset (zset (zset h1 sm (zi 0 (4 * sw (sCur S)) (fun _ => 0))) sm (zi 0 (4 * sw (sCur S)) (fun _ => 0))) af _ from by rw [e4, zset_set]; exact zstart R (fun x y => zbd f (sw (sCur S)) (sh (sCur S)) r (x : Int) (y : Int)) hT2.2.2.1.2.2.2.2.1) ?_
  refine tl_blur_o hT2.2.2.1 hh hw hT.R24 hr (zset_same _ _ _) (zne hsm hp.2.2.1.2).symm (zne hsm hp.2.2.2.1.2).symm (zne hsm hp.2.2.2.2.1).symm (fun old => ?_) (sh (sCur S)) 0 (fun _ => 0) (by omega) (by omega) (fun k => ⟨by decide, by omega⟩)
  refine Ev.heap (show _ = zset (zset h1 sm (zi 0 (4 * sw (sCur S)) old)) af _ from by rw [zset_set]) ?_
  have hT3 := hT.ext (e := zi 0 (4 * sw (sCur S)) old) hsm
  refine zz_aload_n rfl rfl ?_
  refine zz_getf rfl fl_TS_12 (hC.ext (hT3.1.set hT3.2.1)).1 rfl ?_
  refine zz_aload_n rfl rfl ?_
  refine zz_V rfl lk_TS_133 cw_Painting_result rfl (hT3.2.2.1.up _).1 (tool_res (G := (fun x y => zbd (sFl (sD (sl (sCur S) l.toNat)) (sw (sCur S))) (sw (sCur S)) (sh (sCur S)) r (x : Int) (y : Int))) hC hT3 (fun x y hx hy => ⟨zbd_congr hdt _ _ _, zdot_rg _ _ _ _⟩)) rfl rfl rfl rfl ?_
  rintro _ h3 ⟨b2, rfl, hx3, hC3, hP3, hk3, hx4⟩
  refine zaft_v ?_
  refine zz_V rfl lk_TS_74 cw_History_add rfl hC3.2.1.1 (ct_step hC3 hly.1 hP3 hk3) rfl rfl rfl rfl ?_
  rintro _ h5 ⟨rfl, hf5, hC5⟩
  refine zaft_u ?_
  refine zz_vret rfl rfl (fcP.ok (hx3.zfr.tr hf5) ⟨hly, hr⟩ trivial hC5)
theorem fc_brush {x : Nat} {S : SS} (hR : CRep h x S) {d r : Int} (hd : zrg d) (hr0 : zrg r) : Ct Z m_TS_brush 1 20 4000 [.ref x, zI d, zI r] h (fcP h x S (0 ≤ r ∧ r ≤ 7) zIAE (True) zIAE (none) ((sNow S, sLast S, sHas S, sHist S, sFile S, sCopy S, d, r))) := by
  obtain ⟨hi, pa, pf, fv, cv, hC⟩ := hR
  have hC1 := hC.1
  refine zct rfl (by decide) ok_TS_brush rfl rfl ?_
  refine zz_iload_n rfl rfl ?_
  refine zz_iconst rfl ?_
  refine zz_bipush rfl (by decide) ?_
  refine zz_Sp rfl lk_TS_16 cw_TS_isWithin (ct_isWithin hr0 ⟨by decide, by decide⟩ ⟨by decide, by decide⟩) rfl rfl rfl rfl ?_
  refine zz_Srq rfl lk_TS_20 cw_TS_require ct_require rfl rfl rfl rfl rfl (fun hno => fcP.no1 hC zext.rf hno) (fun hr => ?_)
  refine zz_aload_n rfl rfl ?_
  refine zz_iload_n rfl rfl ?_
  refine zz_putf rfl fl_TS_113 hC1 (pt_0_3 rfl rfl) (zblt rfl) ?_
  refine zz_aload_n rfl rfl ?_
  refine zz_iload_n rfl rfl ?_
  refine zz_putf rfl fl_TS_116 (zset_same _ _ _) (pt_0_4 rfl rfl) (zblt rfl) ?_
  refine Ev.heap (zset_set _ _ _ _) ?_
  refine zz_vret rfl rfl (fcP.ok (zfr.put hC1 rfl) hr trivial (CRep.set hC (b := (sNow S, sLast S, sHas S, sHist S, sFile S, sCopy S, d, r)) hC.2.2.2.1 hC.2.2.2.2.1 rfl rfl rfl rfl hd hr))
end FA
