section FG
variable {Z : ZC} {h : ZH}
theorem zhp_sl {R : Nat → Nat} {w ht i j : Nat} (hi : i < w) (hj : j < ht) : zhp R w ht (i : Int) (j : Int) ↔ (R j).testBit i = true := zhp_bit (x := (i : Int)) (y := (j : Int)) ⟨by omega, by omega, by omega, by omega⟩
theorem zhp_box {R : Nat → Nat} {w ht : Nat} {x y : Int} : zhp R w ht x y ↔ zbox x y w ht ∧ (R y.toNat).testBit x.toNat = true := by
  by_cases hb : zbox x y w ht
  · rw [zhp_bit hb]
    exact ⟨fun h => ⟨hb, h⟩, fun h => h.2⟩
  · constructor
    · rintro ⟨h1, h2, h3⟩
      refine absurd ⟨h1, h2, ?_⟩ hb
      refine Classical.byContradiction (fun h4 => h3 ?_)
      have e : zrw R ht y = 0 := by unfold zrw; rw [if_neg h4]
      rw [e]
      simp
    · intro h; exact absurd h.1 hb
noncomputable def sCnt (S : SS) (k : Int) : Int := if 0 ≤ k ∧ k ≤ 5 then (if sHas S = true then (if k = 0 then (sn (sCur S) : Int) else if k = 1 then (sNow S : Int) else if k = 2 then (sLast S : Int) - sNow S else if k = 3 then ((sTl (sCur S) : Nat) : Int) else if k = 4 then (sCt (sCur S) : Int) else 10000 * (sw (sCur S) : Int) + 100 * sh (sCur S)) else 0) else -1
theorem lp_hist_i {x0 a la sa ra bl da : Nat} {lf : Nat → Value} {R : Nat → Nat} {P : SP} {l c v md op vs : Int} {f : Nat → Int} (hP : isPd h a la sa ra lf R P) (hk : okP P) (hl : 0 ≤ l ∧ l < sn P) (hbl1 : lf l.toNat = .ref bl) (hbl2 : isLy h bl da (sw P) (sh P) f md op vs) (hc : 0 ≤ c ∧ c ≤ 3) (hv : zrg v) {MC MS mc ms : Nat} {Q : ZR → ZH → Prop} {y : Int} (hy : 0 ≤ y ∧ y < sh P) (kx : Ev Z (fun _ => True, m_TS_histogram, 3, MC, MS) 95 [.ref x0, zI l, zI c, zI v, .ref a, zI (zcn2 (fun j i => decide (zhp R (sw P) (sh P) (i : Int) (j : Int) ∧ zby (zldt f (sw P) (sh P) (i : Int) (j : Int)) c = v)) (sw P) y (sw P) : Nat), zI y, zI (sw P)] [] h mc ms Q) : ∀ (m : Nat) (x : Int), 0 ≤ x → x + m = sw P → Ev Z (fun _ => True, m_TS_histogram, 3, MC, MS) 35 [.ref x0, zI l, zI c, zI v, .ref a, zI (zcn2 (fun j i => decide (zhp R (sw P) (sh P) (i : Int) (j : Int) ∧ zby (zldt f (sw P) (sh P) (i : Int) (j : Int)) c = v)) (sw P) y x : Nat), zI y, zI x] [] h mc ms Q := by
  obtain ⟨⟨hw1, hw⟩, ⟨hh1, hh⟩, ⟨hn1, hn⟩, hkL, hkR⟩ := id hk
  obtain ⟨hl0, hl1⟩ := hl
  intro m
  induction m with
  | zero =>
    intro x hx0 hxn
    refine zz_iload rfl rfl ?_
    refine zz_aload rfl rfl ?_
    refine zz_getf rfl fl_TS_59 hP.1 rfl ?_
    refine zz_icmp_ge rfl (by omega) (by omega) (fun hb42 => ?_) (fun hb42 => absurd hb42 (by omega))
    obtain rfl : x = (sw P : Int) := by omega
    exact kx
  | succ m ih =>
    intro x hx0 hxn
    have hbx : zbox x y (sw P) (sh P) := ⟨by omega, by omega, by omega, by omega⟩
    have hxt : ((x.toNat : Nat) : Int) = x := Int.toNat_of_nonneg hx0
    have hyt : ((y.toNat : Nat) : Int) = y := Int.toNat_of_nonneg hy.1
    refine zz_iload rfl rfl ?_
    refine zz_aload rfl rfl ?_
    refine zz_getf rfl fl_TS_59 hP.1 rfl ?_
    refine zz_icmp_ge rfl (by omega) (by omega) (fun hb42 => absurd hb42 (by omega)) (fun hb42 => ?_)
    refine zz_aload rfl rfl ?_
    refine zz_getf rfl fl_TS_52 hP.1 rfl ?_
    refine zz_iload_n rfl rfl ?_
    refine zz_aald rfl (Or.inl ⟨rfl, rfl⟩) hP.2.1 (by omega) (by omega) ?_
    refine zz_tv hbl1 ?_
    refine zz_iload rfl rfl ?_
    refine zz_iload rfl rfl ?_
    refine zz_Vp rfl lk_TS_157 cw_Layer_dotAt rfl hbl2.1 (ct_dotAt hbl2 ⟨by omega, by omega⟩ ⟨by omega, by omega⟩ hh hw) rfl rfl rfl rfl ?_
    refine zz_istore rfl rfl rfl ?_
    refine zz_aload rfl rfl ?_
    refine zz_getf rfl fl_TS_97 hP.1 rfl ?_
    refine zz_iload rfl rfl ?_
    refine zz_iload rfl rfl ?_
    refine zz_Vp rfl lk_TS_149 cw_Places_has rfl hP.2.2.2.1.1 (ct_has hP.2.2.2.1 ⟨by omega, by omega⟩ ⟨by omega, by omega⟩ hh hw (fun j => z24 hw (hP.2.2.2.2.1 j))) rfl rfl rfl rfl ?_
    refine zz_ifB_eq rfl (fun hb73 => ?_) (fun hb73 => ?_)
    · skip
      have hc0 := zcn2_f (w := sw P) (P := (fun j i => decide (zhp R (sw P) (sh P) (i : Int) (j : Int) ∧ zby (zldt f (sw P) (sh P) (i : Int) (j : Int)) c = v))) (y := y) hx0 (show decide (zhp R (sw P) (sh P) ((x.toNat : Nat) : Int) ((y.toNat : Nat) : Int) ∧ zby (zldt f (sw P) (sh P) ((x.toNat : Nat) : Int) ((y.toNat : Nat) : Int)) c = v) = false from by rw [hxt, hyt]; exact decide_eq_false (fun h9 => hb73 h9.1))
      rw [hc0]
      refine zz_iinc rfl rfl rfl rfl ?_
      refine zz_goto rfl ?_
      refine Ev.take 8 ?_
      exact ih (x + 1) (by omega) (by omega)
    · skip
      refine zz_iload rfl rfl ?_
      refine zz_iload_n rfl rfl ?_
      refine zz_Sp rfl lk_TS_233 cw_Dots_byteOf (ct_byteOf hc) rfl rfl rfl rfl ?_
      refine zz_iload_n rfl rfl ?_
      refine zz_icmp_ne rfl (by have := zby_rg (zldt f (sw P) (sh P) x y) c; omega) hv (fun hb83 => ?_) (fun hb83 => ?_)
      · skip
        have hc0 := zcn2_f (w := sw P) (P := (fun j i => decide (zhp R (sw P) (sh P) (i : Int) (j : Int) ∧ zby (zldt f (sw P) (sh P) (i : Int) (j : Int)) c = v))) (y := y) hx0 (show decide (zhp R (sw P) (sh P) ((x.toNat : Nat) : Int) ((y.toNat : Nat) : Int) ∧ zby (zldt f (sw P) (sh P) ((x.toNat : Nat) : Int) ((y.toNat : Nat) : Int)) c = v) = false from by rw [hxt, hyt]; exact decide_eq_false (fun h9 => hb83 h9.2))
        rw [hc0]
        refine zz_iinc rfl rfl rfl rfl ?_
        refine zz_goto rfl ?_
        refine Ev.take 8 ?_
        exact ih (x + 1) (by omega) (by omega)
      · skip
        refine zz_iincK ((zcn2 (fun j i => decide (zhp R (sw P) (sh P) (i : Int) (j : Int) ∧ zby (zldt f (sw P) (sh P) (i : Int) (j : Int)) c = v)) (sw P) y (x + 1) : Nat) : Int) rfl rfl rfl rfl (zcn2_t hx0 (show decide (zhp R (sw P) (sh P) ((x.toNat : Nat) : Int) ((y.toNat : Nat) : Int) ∧ zby (zldt f (sw P) (sh P) ((x.toNat : Nat) : Int) ((y.toNat : Nat) : Int)) c = v) = true from by rw [hxt, hyt]; exact decide_eq_true ⟨hb73, hb83⟩)) ?_
        refine zz_iinc rfl rfl rfl rfl ?_
        refine zz_goto rfl ?_
        refine Ev.take 8 ?_
        exact ih (x + 1) (by omega) (by omega)
theorem lp_hist_o {x0 a la sa ra bl da : Nat} {lf : Nat → Value} {R : Nat → Nat} {P : SP} {l c v md op vs : Int} {f : Nat → Int} (hP : isPd h a la sa ra lf R P) (hk : okP P) (hl : 0 ≤ l ∧ l < sn P) (hbl1 : lf l.toNat = .ref bl) (hbl2 : isLy h bl da (sw P) (sh P) f md op vs) (hc : 0 ≤ c ∧ c ≤ 3) (hv : zrg v) {MC MS mc ms : Nat} {Q : ZR → ZH → Prop} (kx : Ev Z (fun _ => True, m_TS_histogram, 3, MC, MS) 101 [.ref x0, zI l, zI c, zI v, .ref a, zI (zcn2 (fun j i => decide (zhp R (sw P) (sh P) (i : Int) (j : Int) ∧ zby (zldt f (sw P) (sh P) (i : Int) (j : Int)) c = v)) (sw P) (sh P) 0 : Nat), zI (sh P)] [] h mc ms Q) : ∀ (m : Nat) (y : Int), 0 ≤ y → y + m = sh P → Ev Z (fun _ => True, m_TS_histogram, 3, MC, MS) 22 [.ref x0, zI l, zI c, zI v, .ref a, zI (zcn2 (fun j i => decide (zhp R (sw P) (sh P) (i : Int) (j : Int) ∧ zby (zldt f (sw P) (sh P) (i : Int) (j : Int)) c = v)) (sw P) y 0 : Nat), zI y] [] h mc ms Q := by
  intro m
  induction m with
  | zero =>
    intro y hy0 hyn
    obtain ⟨⟨hw1, hw⟩, ⟨hh1, hh⟩, -⟩ := id hk
    refine zz_iload rfl rfl ?_
    refine zz_aload rfl rfl ?_
    refine zz_getf rfl fl_TS_63 hP.1 rfl ?_
    refine zz_icmp_ge rfl (by omega) (by omega) (fun hb29 => ?_) (fun hb29 => absurd hb29 (by omega))
    obtain rfl : y = (sh P : Int) := by omega
    exact kx
  | succ m ih =>
    intro y hy0 hyn
    obtain ⟨⟨hw1, hw⟩, ⟨hh1, hh⟩, -⟩ := id hk
    refine zz_iload rfl rfl ?_
    refine zz_aload rfl rfl ?_
    refine zz_getf rfl fl_TS_63 hP.1 rfl ?_
    refine zz_icmp_ge rfl (by omega) (by omega) (fun hb29 => absurd hb29 (by omega)) (fun hb29 => ?_)
    refine zz_iconst rfl ?_
    refine zz_istore rfl rfl rfl ?_
    refine lp_hist_i hP hk hl hbl1 hbl2 hc hv ⟨hy0, by omega⟩ ?_ (sw P) 0 (by omega) (by omega)
    refine zz_iinc rfl rfl rfl rfl ?_
    refine zz_goto rfl ?_
    have hce := zcn2_e (fun j i => decide (zhp R (sw P) (sh P) (i : Int) (j : Int) ∧ zby (zldt f (sw P) (sh P) (i : Int) (j : Int)) c = v)) (sw P) hy0
    rw [hce]
    refine Ev.take 7 ?_
    exact ih (y + 1) (by omega) (by omega)
theorem fc_hist {x : Nat} {S : SS} (hR : CRep h x S) {l c v : Int} (hl : zrg l) (hc0 : zrg c) (hv : zrg v) : Ct Z m_TS_histogram 3 20 4000 [.ref x, zI l, zI c, zI v] h (fcP h x S (sLy S l ∧ 0 ≤ c ∧ c ≤ 3) zIAE (True) zIAE (some (zI ((zc2 (fun j i => decide (sSl (sCur S) i j ∧ zby ((sD (sl (sCur S) l.toNat)) i j) c = v)) (sw (sCur S)) (sh (sCur S)) : Nat)))) (S)) := by
  obtain ⟨hi, pa, pf, fv, cv, hC⟩ := hR
  have hC1 := hC.1
  refine zct rfl (by decide) ok_TS_histogram rfl rfl ?_
  refine zz_aload_n rfl rfl ?_
  refine zz_iload_n rfl rfl ?_
  refine zz_V rfl lk_TS_77 cw_TS_pictureWithLayer rfl hC.1 (ct_pwl hC hl) rfl rfl rfl rfl ?_
  rintro _ h ⟨rfl, ⟨hno, rfl⟩ | ⟨hly, a, la, sa, ra, lf, R, rfl, hP, hk⟩⟩
  · exact zaft_x (zx_out rfl (fcP.no1 hC zext.rf (fun g => hno g.1)))
  obtain ⟨hhas, hl0, hl1⟩ := id hly
  obtain ⟨⟨hw1, hw⟩, ⟨hh1, hh⟩, ⟨hn1, hn⟩, hkL, hkR⟩ := id hk
  have hP1 := hP.1
  have hP2 := hP.2.1
  refine zaft_v ?_
  refine zz_astore rfl rfl rfl ?_
  refine zz_iload_n rfl rfl ?_
  refine zz_iconst rfl ?_
  refine zz_iconst rfl ?_
  refine zz_Sp rfl lk_TS_16 cw_TS_isWithin (ct_isWithin hc0 ⟨by decide, by decide⟩ ⟨by decide, by decide⟩) rfl rfl rfl rfl ?_
  refine zz_Srq rfl lk_TS_20 cw_TS_require ct_require rfl rfl rfl rfl rfl (fun hno => fcP.no1 hC zext.rf (fun g => hno g.2)) (fun hc => ?_)
  refine zz_iconst rfl ?_
  refine zz_istore rfl rfl rfl ?_
  refine zz_iconst rfl ?_
  refine zz_istore rfl rfl rfl ?_
  obtain ⟨bl, hbl1, da, f, hbl2, hbl3, hbl4⟩ := hP.2.2.1 l.toNat (by omega)
  refine lp_hist_o (f := f) hP hk ⟨hl0, hl1⟩ hbl1 hbl2 hc hv ?_ (sh (sCur S)) 0 (by omega) (by omega)
  refine zz_iload rfl rfl ?_
  refine zz_iret rfl rfl ?_
  have e9 : zcn2 (fun j i => decide (zhp R (sw (sCur S)) (sh (sCur S)) (i : Int) (j : Int) ∧ zby (zldt f (sw (sCur S)) (sh (sCur S)) (i : Int) (j : Int)) c = v)) (sw (sCur S)) (sh (sCur S)) 0 = zc2 (fun j i => decide (sSl (sCur S) i j ∧ zby ((sD (sl (sCur S) l.toNat)) i j) c = v)) (sw (sCur S)) (sh (sCur S)) := zc2_congr _ (fun j i hj0 hi => by have hj : j < sh (sCur S) := hj0; show decide _ = decide _; rw [sFl_dt hbl4, sDt_in hi hj]; congr 1; rw [zhp_sl hi hj, hP.2.2.2.2.2 j hj])
  rw [e9]
  exact fcP.ok zfr.rf ⟨hly, hc⟩ trivial ⟨hi, pa, pf, fv, cv, hC⟩
theorem fc_count {x : Nat} {S : SS} (hR : CRep h x S) {k : Int} (hk0 : zrg k) : Ct Z m_TS_count 4 20 4000 [.ref x, zI k] h (fcP h x S (True) zIAE (True) zIAE (some (zI (sCnt S k))) (S)) := by
  obtain ⟨hi, pa, pf, fv, cv, hC⟩ := hR
  have hC1 := hC.1
  by_cases hk5 : 0 ≤ k ∧ k ≤ 5
  · cases hh0 : sHas S
    · have e9 : sCnt S k = 0 := by unfold sCnt; rw [if_pos hk5, hh0]; rfl
      rw [e9]
      refine zct rfl (by decide) ok_TS_count rfl rfl ?_
      refine zz_iload_n rfl rfl ?_
      refine zz_iconst rfl ?_
      refine zz_iconst rfl ?_
      refine zz_Sp rfl lk_TS_16 cw_TS_isWithin (ct_isWithin hk0 ⟨by decide, by decide⟩ ⟨by decide, by decide⟩) rfl rfl rfl rfl ?_
      refine zz_ifB_ne rfl (fun hb6 => ?_) (fun hb6 => absurd hb6 (by omega))
      refine zz_aload_n rfl rfl ?_
      refine zz_getf rfl fl_TS_12 hC1 rfl ?_
      refine zz_Vp rfl lk_TS_236 cw_History_present rfl hC.2.1.1 (ct_present hC.2.1 hC.now.1 (Or.inl (hC.nop hh0))) rfl rfl rfl rfl ?_
      refine zz_tv (hC.nop hh0) ?_
      refine zz_astore_nN rfl rfl rfl ?_
      refine zz_aload_nN rfl rfl ?_
      refine zz_ifnonnullN rfl ?_
      refine zz_iconst rfl ?_
      refine zz_iret rfl rfl (fcP.ok zfr.rf trivial trivial ⟨hi, pa, pf, fv, cv, hC⟩)
    · obtain ⟨a, la, sa, ra, lf, R, ha, hP, hk⟩ := hC.pic hh0
      obtain ⟨⟨hw1, hw⟩, ⟨hh1, hh⟩, ⟨hn1, hn⟩, hkL, hkR⟩ := id hk
      have hP1 := hP.1
      have hP2 := hP.2.1
      have h06 : k = 0 ∨ k = 1 ∨ k = 2 ∨ k = 3 ∨ k = 4 ∨ k = 5 := by omega
      rcases h06 with rfl | rfl | rfl | rfl | rfl | rfl
      · have e9 : sCnt S 0 = (sn (sCur S) : Int) := by unfold sCnt; rw [if_pos hk5, hh0]; rfl
        rw [e9]
        refine zct rfl (by decide) ok_TS_count rfl rfl ?_
        refine zz_iload_n rfl rfl ?_
        refine zz_iconst rfl ?_
        refine zz_iconst rfl ?_
        refine zz_Sp rfl lk_TS_16 cw_TS_isWithin (ct_isWithin hk0 ⟨by decide, by decide⟩ ⟨by decide, by decide⟩) rfl rfl rfl rfl ?_
        refine zz_ifB_ne rfl (fun hb6 => ?_) (fun hb6 => absurd hb6 (by omega))
        refine zz_aload_n rfl rfl ?_
        refine zz_getf rfl fl_TS_12 hC1 rfl ?_
        refine zz_Vp rfl lk_TS_236 cw_History_present rfl hC.2.1.1 (ct_present hC.2.1 hC.now.1 (Or.inr ⟨a, ha⟩)) rfl rfl rfl rfl ?_
        refine zz_tv ha ?_
        refine zz_astore_n rfl rfl rfl ?_
        refine zz_aload_n rfl rfl ?_
        refine zz_ifnonnull rfl ?_
        refine zz_iload_n rfl rfl ?_
        refine zz_tsw (tg := 60) rfl (by decide) (by decide) (by decide) rfl rfl ?_
        refine zz_aload_n rfl rfl ?_
        refine zz_getf rfl fl_TS_52 hP1 rfl ?_
        refine zz_alenA rfl (Or.inl ⟨rfl, rfl⟩) hP2 ?_
        refine zz_iret rfl rfl (fcP.ok zfr.rf trivial trivial ⟨hi, pa, pf, fv, cv, hC⟩)
      · have e9 : sCnt S 1 = (sNow S : Int) := by unfold sCnt; rw [if_pos hk5, hh0]; rfl
        rw [e9]
        refine zct rfl (by decide) ok_TS_count rfl rfl ?_
        refine zz_iload_n rfl rfl ?_
        refine zz_iconst rfl ?_
        refine zz_iconst rfl ?_
        refine zz_Sp rfl lk_TS_16 cw_TS_isWithin (ct_isWithin hk0 ⟨by decide, by decide⟩ ⟨by decide, by decide⟩) rfl rfl rfl rfl ?_
        refine zz_ifB_ne rfl (fun hb6 => ?_) (fun hb6 => absurd hb6 (by omega))
        refine zz_aload_n rfl rfl ?_
        refine zz_getf rfl fl_TS_12 hC1 rfl ?_
        refine zz_Vp rfl lk_TS_236 cw_History_present rfl hC.2.1.1 (ct_present hC.2.1 hC.now.1 (Or.inr ⟨a, ha⟩)) rfl rfl rfl rfl ?_
        refine zz_tv ha ?_
        refine zz_astore_n rfl rfl rfl ?_
        refine zz_aload_n rfl rfl ?_
        refine zz_ifnonnull rfl ?_
        refine zz_iload_n rfl rfl ?_
        refine zz_tsw (tg := 66) rfl (by decide) (by decide) (by decide) rfl rfl ?_
        refine zz_aload_n rfl rfl ?_
        refine zz_getf rfl fl_TS_12 hC1 rfl ?_
        refine zz_Vp rfl lk_TS_239 cw_History_stepsBack rfl hC.2.1.1 (ct_stepsBack hC.2.1 hC.now.1) rfl rfl rfl rfl ?_
        refine zz_iret rfl rfl (fcP.ok zfr.rf trivial trivial ⟨hi, pa, pf, fv, cv, hC⟩)
      · have e9 : sCnt S 2 = (sLast S : Int) - sNow S := by unfold sCnt; rw [if_pos hk5, hh0]; rfl
        rw [e9]
        refine zct rfl (by decide) ok_TS_count rfl rfl ?_
        refine zz_iload_n rfl rfl ?_
        refine zz_iconst rfl ?_
        refine zz_iconst rfl ?_
        refine zz_Sp rfl lk_TS_16 cw_TS_isWithin (ct_isWithin hk0 ⟨by decide, by decide⟩ ⟨by decide, by decide⟩) rfl rfl rfl rfl ?_
        refine zz_ifB_ne rfl (fun hb6 => ?_) (fun hb6 => absurd hb6 (by omega))
        refine zz_aload_n rfl rfl ?_
        refine zz_getf rfl fl_TS_12 hC1 rfl ?_
        refine zz_Vp rfl lk_TS_236 cw_History_present rfl hC.2.1.1 (ct_present hC.2.1 hC.now.1 (Or.inr ⟨a, ha⟩)) rfl rfl rfl rfl ?_
        refine zz_tv ha ?_
        refine zz_astore_n rfl rfl rfl ?_
        refine zz_aload_n rfl rfl ?_
        refine zz_ifnonnull rfl ?_
        refine zz_iload_n rfl rfl ?_
        refine zz_tsw (tg := 74) rfl (by decide) (by decide) (by decide) rfl rfl ?_
        refine zz_aload_n rfl rfl ?_
        refine zz_getf rfl fl_TS_12 hC1 rfl ?_
        refine zz_Vp rfl lk_TS_242 cw_History_stepsForth rfl hC.2.1.1 (ct_stepsForth hC.2.1 hC.now.1) rfl rfl rfl rfl ?_
        refine zz_iret rfl rfl (fcP.ok zfr.rf trivial trivial ⟨hi, pa, pf, fv, cv, hC⟩)
      · have e9 : sCnt S 3 = ((sTl (sCur S) : Nat) : Int) := by unfold sCnt; rw [if_pos hk5, hh0]; rfl
        rw [e9]
        refine zct rfl (by decide) ok_TS_count rfl rfl ?_
        refine zz_iload_n rfl rfl ?_
        refine zz_iconst rfl ?_
        refine zz_iconst rfl ?_
        refine zz_Sp rfl lk_TS_16 cw_TS_isWithin (ct_isWithin hk0 ⟨by decide, by decide⟩ ⟨by decide, by decide⟩) rfl rfl rfl rfl ?_
        refine zz_ifB_ne rfl (fun hb6 => ?_) (fun hb6 => absurd hb6 (by omega))
        refine zz_aload_n rfl rfl ?_
        refine zz_getf rfl fl_TS_12 hC1 rfl ?_
        refine zz_Vp rfl lk_TS_236 cw_History_present rfl hC.2.1.1 (ct_present hC.2.1 hC.now.1 (Or.inr ⟨a, ha⟩)) rfl rfl rfl rfl ?_
        refine zz_tv ha ?_
        refine zz_astore_n rfl rfl rfl ?_
        refine zz_aload_n rfl rfl ?_
        refine zz_ifnonnull rfl ?_
        refine zz_iload_n rfl rfl ?_
        refine zz_tsw (tg := 82) rfl (by decide) (by decide) (by decide) rfl rfl ?_
        refine zz_aload_n rfl rfl ?_
        refine zz_Vp rfl lk_TS_208 cw_Picture_fullTiles rfl hP1 (ct_Ptl hP hk) rfl rfl rfl rfl ?_
        refine zz_iret rfl rfl (fcP.ok zfr.rf trivial trivial ⟨hi, pa, pf, fv, cv, hC⟩)
      · have e9 : sCnt S 4 = (sCt (sCur S) : Int) := by unfold sCnt; rw [if_pos hk5, hh0]; rfl
        rw [e9]
        refine zct rfl (by decide) ok_TS_count rfl rfl ?_
        refine zz_iload_n rfl rfl ?_
        refine zz_iconst rfl ?_
        refine zz_iconst rfl ?_
        refine zz_Sp rfl lk_TS_16 cw_TS_isWithin (ct_isWithin hk0 ⟨by decide, by decide⟩ ⟨by decide, by decide⟩) rfl rfl rfl rfl ?_
        refine zz_ifB_ne rfl (fun hb6 => ?_) (fun hb6 => absurd hb6 (by omega))
        refine zz_aload_n rfl rfl ?_
        refine zz_getf rfl fl_TS_12 hC1 rfl ?_
        refine zz_Vp rfl lk_TS_236 cw_History_present rfl hC.2.1.1 (ct_present hC.2.1 hC.now.1 (Or.inr ⟨a, ha⟩)) rfl rfl rfl rfl ?_
        refine zz_tv ha ?_
        refine zz_astore_n rfl rfl rfl ?_
        refine zz_aload_n rfl rfl ?_
        refine zz_ifnonnull rfl ?_
        refine zz_iload_n rfl rfl ?_
        refine zz_tsw (tg := 87) rfl (by decide) (by decide) (by decide) rfl rfl ?_
        refine zz_aload_n rfl rfl ?_
        refine zz_getf rfl fl_TS_97 hP1 rfl ?_
        refine zz_Vp rfl lk_TS_109 cw_Places_size rfl hP.2.2.2.1.1 (ct_size hP.2.2.2.1 hh (fun j => z24 hw (hP.2.2.2.2.1 j))) rfl rfl rfl rfl ?_
        refine zz_eq (show ((zsz R (sh (sCur S)) : Nat) : Int) = (sCt (sCur S) : Nat) from by rw [sCt_eq hw hP.2.2.2.2.1 hP.2.2.2.2.2]) ?_
        refine zz_iret rfl rfl (fcP.ok zfr.rf trivial trivial ⟨hi, pa, pf, fv, cv, hC⟩)
      · have e9 : sCnt S 5 = 10000 * (sw (sCur S) : Int) + 100 * sh (sCur S) := by unfold sCnt; rw [if_pos hk5, hh0]; rfl
        rw [e9]
        refine zct rfl (by decide) ok_TS_count rfl rfl ?_
        refine zz_iload_n rfl rfl ?_
        refine zz_iconst rfl ?_
        refine zz_iconst rfl ?_
        refine zz_Sp rfl lk_TS_16 cw_TS_isWithin (ct_isWithin hk0 ⟨by decide, by decide⟩ ⟨by decide, by decide⟩) rfl rfl rfl rfl ?_
        refine zz_ifB_ne rfl (fun hb6 => ?_) (fun hb6 => absurd hb6 (by omega))
        refine zz_aload_n rfl rfl ?_
        refine zz_getf rfl fl_TS_12 hC1 rfl ?_
        refine zz_Vp rfl lk_TS_236 cw_History_present rfl hC.2.1.1 (ct_present hC.2.1 hC.now.1 (Or.inr ⟨a, ha⟩)) rfl rfl rfl rfl ?_
        refine zz_tv ha ?_
        refine zz_astore_n rfl rfl rfl ?_
        refine zz_aload_n rfl rfl ?_
        refine zz_ifnonnull rfl ?_
        refine zz_iload_n rfl rfl ?_
        refine zz_tswD (tg := 95) rfl (by decide) (by decide) rfl ?_
        refine zz_sipush rfl (by decide) ?_
        refine zz_aload_n rfl rfl ?_
        refine zz_getf rfl fl_TS_59 hP1 rfl ?_
        refine zz_imul rfl ?_
        refine zz_bipush rfl (by decide) ?_
        refine zz_aload_n rfl rfl ?_
        refine zz_getf rfl fl_TS_63 hP1 rfl ?_
        refine zz_imul rfl ?_
        refine zz_iadd rfl ?_
        refine zz_iret rfl rfl (fcP.ok zfr.rf trivial trivial ⟨hi, pa, pf, fv, cv, hC⟩)
  · have e9 : sCnt S k = -1 := by unfold sCnt; rw [if_neg hk5]
    rw [e9]
    refine zct rfl (by decide) ok_TS_count rfl rfl ?_
    refine zz_iload_n rfl rfl ?_
    refine zz_iconst rfl ?_
    refine zz_iconst rfl ?_
    refine zz_Sp rfl lk_TS_16 cw_TS_isWithin (ct_isWithin hk0 ⟨by decide, by decide⟩ ⟨by decide, by decide⟩) rfl rfl rfl rfl ?_
    refine zz_ifB_ne rfl (fun hb6 => absurd hb6 (by omega)) (fun hb6 => ?_)
    refine zz_iconst rfl ?_
    refine zz_iret rfl rfl (fcP.ok zfr.rf trivial trivial ⟨hi, pa, pf, fv, cv, hC⟩)
theorem lp_sel {x hi pa : Nat} {pf : Nat → Value} {fv cv : Value} {S : SS} (hC : CR h x hi pa pf fv cv S) {a la sa ra na nr : Nat} {lf : Nat → Value} {R B : Nat → Nat} {kd x1 y1 sz wd hg : Int} (hP : isPd h a la sa ra lf R (sCur S)) (hk : okP (sCur S)) (hG : sHas S = true ∧ ((0 ≤ kd ∧ kd ≤ 13) ∧ kd % 10 ≤ 3) ∧ ((-1000 ≤ x1 ∧ x1 ≤ 1000) ∧ -1000 ≤ y1 ∧ y1 ≤ 1000) ∧ (sz % 65536) ≤ 1000 ∧ (sz % 4294967296 / 65536) ≤ 1000) (hna : h na = none) (hnr : h nr = none) (hne : nr ≠ na) (hB1 : ∀ j, B j < 2 ^ sw (sCur S)) (hB2 : ∀ j, j < sh (sCur S) → B j = sShp kd x1 y1 (sz % 65536) (sz % 4294967296 / 65536) (sw (sCur S)) j) {MC MS mc ms : Nat} : Ev Z (fun _ => True, m_TS_select, 3, MC, MS) 154 [.ref x, zI kd, zI x1, zI y1, zI sz, .ref a, zI wd, zI hg, .ref na] [] (zset (zset h nr (zi 0 (sh (sCur S)) (zcn B))) na (zo 2 [zI (sw (sCur S)), .ref nr])) (mc + 10) (ms + 1000) (fcP h x S (sHas S = true ∧ ((0 ≤ kd ∧ kd ≤ 13) ∧ kd % 10 ≤ 3) ∧ ((-1000 ≤ x1 ∧ x1 ≤ 1000) ∧ -1000 ≤ y1 ∧ y1 ≤ 1000) ∧ (sz % 65536) ≤ 1000 ∧ (sz % 4294967296 / 65536) ≤ 1000) zIAE (True) zIAE (some (zI ((sCt (sSel (sCur S) kd x1 y1 (sz % 65536) (sz % 4294967296 / 65536)) : Nat)))) (sAdd S (sSel (sCur S) kd x1 y1 (sz % 65536) (sz % 4294967296 / 65536)))) := by
  obtain ⟨hhas, ⟨⟨hk1, hk2⟩, hk3⟩, hxy, hwh⟩ := id hG
  obtain ⟨⟨hw1, hw⟩, ⟨hh1, hh⟩, ⟨hn1, hn⟩, hkL, hkR⟩ := id hk
  have hE1 : zext h (zset (zset h nr (zi 0 (sh (sCur S)) (zcn B))) na (zo 2 [zI (sw (sCur S)), .ref nr])) := (zext.mk hnr).set hna
  have hP1 := hE1 _ _ hP.1
  have hB : isPl (zset (zset h nr (zi 0 (sh (sCur S)) (zcn B))) na (zo 2 [zI (sw (sCur S)), .ref nr])) na nr (sw (sCur S)) (sh (sCur S)) B := ⟨zset_same _ _ _, by rw [zset_ne hne, zset_same]⟩
  refine Ev.bud (mc' := 10) (ms' := 1000) (by omega) (by omega) ?_
  refine zz_aload rfl rfl ?_
  refine zz_getf rfl fl_TS_97 hP1 rfl ?_
  refine zz_aload rfl rfl ?_
  refine zz_iload_n rfl rfl ?_
  refine zz_bipush rfl (by decide) ?_
  refine zz_iremP rfl (by omega) (by omega) ?_
  refine zz_S rfl lk_TS_101 cw_TS_joined (ct_joined (hP.2.2.2.1.fz hE1.zfr) hB hh ⟨by omega, hk3⟩) rfl rfl rfl rfl ?_
  rintro _ _ ⟨n2, m2, hn2, hm2, hnm, rfl, rfl⟩
  have hE2 := hE1.tr ((zext.mk (e := zi 0 (sh (sCur S)) (zcn (zjs R B (kd % 10) (sh (sCur S))))) hm2).set (e := zo 2 [zI (sw (sCur S)), .ref m2]) hn2)
  refine zaft_v ?_
  refine zz_astore rfl rfl rfl ?_
  refine zz_aload_n rfl rfl ?_
  refine zz_getf rfl fl_TS_12 (hE2 _ _ hC.1) rfl ?_
  refine zz_aload rfl rfl ?_
  refine zz_aload rfl rfl ?_
  refine zz_V rfl lk_TS_105 cw_Picture_withSelection rfl (hE2 _ _ hP.1) (ct_withSelection (hE2 _ _ hP.1)) rfl rfl rfl rfl ?_
  rintro _ _ ⟨b, hb, rfl, rfl⟩
  have hE9 := zext.mk (e := zo 4 [zI (sw (sCur S)), zI (sh (sCur S)), .ref la, .ref n2]) hb
  have hE3 := hE2.tr hE9
  have hC3 := hC.ext hE3
  have hJ := isPl.fz (w := (sw (sCur S))) (ht := (sh (sCur S))) (R := zjs R B (kd % 10) (sh (sCur S))) ⟨zset_same _ _ _, by rw [zset_ne hnm.symm, zset_same]⟩ hE9.zfr
  have hJw : ∀ j, zjs R B (kd % 10) (sh (sCur S)) j < 2 ^ (sw (sCur S)) := fun j => by
    unfold zjs
    split
    · exact zjr_lt _ (hP.2.2.2.2.1 j) (hB1 j)
    · exact Nat.two_pow_pos _
  have hJr : ∀ j, j < (sh (sCur S)) → zjs R B (kd % 10) (sh (sCur S)) j = sr (sSel (sCur S) kd x1 y1 (sz % 65536) (sz % 4294967296 / 65536)) j := fun j hj => by
    unfold zjs
    rw [if_pos (by omega), hP.2.2.2.2.2 j hj, hB2 j hj]
    rfl
  have hP3 : isP _ b (sSel (sCur S) kd x1 y1 (sz % 65536) (sz % 4294967296 / 65536)) := ⟨la, n2, m2, lf, _, zset_same _ _ _, hE3 _ _ hP.2.1, fun i hi => by obtain ⟨c2, e1, e2⟩ := hP.2.2.1 i hi; exact ⟨c2, e1, e2.fz hE3.zfr⟩, hJ, hJw, hJr⟩
  have hk3 : okP (sSel (sCur S) kd x1 y1 (sz % 65536) (sz % 4294967296 / 65536)) := ⟨hk.1, hk.2.1, hk.2.2.1, hkL, fun j hj => by rw [← hJr j hj]; exact hJw j⟩
  refine zaft_v ?_
  refine zz_V rfl lk_TS_74 cw_History_add rfl hC3.2.1.1 (ct_step hC3 hhas hP3 hk3) rfl rfl rfl rfl ?_
  rintro _ h5 ⟨rfl, hf5, hC5⟩
  refine zaft_u ?_
  refine zz_aload rfl rfl ?_
  refine zz_Vp rfl lk_TS_109 cw_Places_size rfl (hJ.fz hf5).1 (ct_size (hJ.fz hf5) hh (fun j => z24 hw (hJw j))) rfl rfl rfl rfl ?_
  refine zz_eq (show ((zsz (zjs R B (kd % 10) (sh (sCur S))) (sh (sCur S)) : Nat) : Int) = (sCt (sSel (sCur S) kd x1 y1 (sz % 65536) (sz % 4294967296 / 65536)) : Nat) from by rw [← sCt_eq (P := (sSel (sCur S) kd x1 y1 (sz % 65536) (sz % 4294967296 / 65536))) hw hJw hJr]; rfl) ?_
  refine zz_iret rfl rfl (fcP.ok (hE3.zfr.tr hf5) hG trivial hC5)
theorem fc_sel {x : Nat} {S : SS} (hR : CRep h x S) {kd x1 y1 sz : Int} (hkd : zrg kd) (hx0 : zrg x1) (hy0 : zrg y1) : Ct Z m_TS_select 3 20 4000 [.ref x, zI kd, zI x1, zI y1, zI sz] h (fcP h x S (sHas S = true ∧ ((0 ≤ kd ∧ kd ≤ 13) ∧ kd % 10 ≤ 3) ∧ ((-1000 ≤ x1 ∧ x1 ≤ 1000) ∧ -1000 ≤ y1 ∧ y1 ≤ 1000) ∧ (sz % 65536) ≤ 1000 ∧ (sz % 4294967296 / 65536) ≤ 1000) zIAE (True) zIAE (some (zI ((sCt (sSel (sCur S) kd x1 y1 (sz % 65536) (sz % 4294967296 / 65536)) : Nat)))) (sAdd S (sSel (sCur S) kd x1 y1 (sz % 65536) (sz % 4294967296 / 65536)))) := by
  obtain ⟨hi, pa, pf, fv, cv, hC⟩ := hR
  have hC1 := hC.1
  refine zct rfl (by decide) ok_TS_select rfl rfl ?_
  refine zz_aload_n rfl rfl ?_
  refine zz_V rfl lk_TS_48 cw_TS_presentPicture rfl hC.1 (ct_pp hC) rfl rfl rfl rfl ?_
  rintro _ h ⟨rfl, ⟨hno, rfl⟩ | ⟨hhas, a, la, sa, ra, lf, R, rfl, hP, hk⟩⟩
  · exact zaft_x (zx_out rfl (fcP.no1 hC zext.rf (fun g => hno g.1)))
  obtain ⟨⟨hw1, hw⟩, ⟨hh1, hh⟩, ⟨hn1, hn⟩, hkL, hkR⟩ := id hk
  have hP1 := hP.1
  have hP2 := hP.2.1
  refine zaft_v ?_
  refine zz_astore rfl rfl rfl ?_
  refine zz_iload rfl rfl ?_
  refine zz_ldc rfl cs_TS_93 ?_
  refine zz_iand rfl (zq_m65535 _) ?_
  refine zz_istore rfl rfl rfl ?_
  refine zz_iload rfl rfl ?_
  refine zz_bipush rfl (by decide) ?_
  refine zz_iushr rfl ⟨by decide, by decide⟩ ?_
  refine zz_eq (show sz % 4294967296 / 2 ^ Int.toNat 16 = (sz % 4294967296 / 65536) from rfl) ?_
  refine zz_istore rfl rfl rfl ?_
  refine zz_iload_n rfl rfl ?_
  refine zz_iconst rfl ?_
  refine zz_bipush rfl (by decide) ?_
  refine zz_Sp rfl lk_TS_16 cw_TS_isWithin (ct_isWithin hkd ⟨by decide, by decide⟩ ⟨by decide, by decide⟩) rfl rfl rfl rfl ?_
  refine zz_ifB_eq rfl (fun hb27 => ?_) (fun hb27 => ?_)
  · skip
    refine zz_iconst rfl ?_
    refine zz_S rfl lk_TS_20 cw_TS_require ct_require0 rfl rfl rfl rfl ?_
    rintro _ _ ⟨rfl, rfl⟩
    exact zaft_x (zx_out rfl (fcP.no1 hC zext.rf (fun g => hb27 g.2.1.1)))
  · skip
    refine zz_iload_n rfl rfl ?_
    refine zz_bipush rfl (by decide) ?_
    refine zz_iremP rfl ⟨by omega, by omega⟩ ⟨by decide, by decide⟩ ?_
    refine zz_iconst rfl ?_
    refine zz_icmp_gt rfl (by omega) (by omega) (fun hb35 => ?_) (fun hb35 => ?_)
    · skip
      refine zz_iconst rfl ?_
      refine zz_S rfl lk_TS_20 cw_TS_require ct_require0 rfl rfl rfl rfl ?_
      rintro _ _ ⟨rfl, rfl⟩
      exact zaft_x (zx_out rfl (fcP.no1 hC zext.rf (fun g => by have := g.2.1.2; omega)))
    · skip
      refine zz_iconst rfl ?_
      refine zz_goto rfl ?_
      refine zz_Su rfl lk_TS_20 cw_TS_require ct_require1 rfl rfl rfl rfl ?_
      refine zz_iload_n rfl rfl ?_
      refine zz_sipush rfl (by decide) ?_
      refine zz_sipush rfl (by decide) ?_
      refine zz_Sp rfl lk_TS_16 cw_TS_isWithin (ct_isWithin hx0 ⟨by decide, by decide⟩ ⟨by decide, by decide⟩) rfl rfl rfl rfl ?_
      refine zz_ifB_eq rfl (fun hb56 => ?_) (fun hb56 => ?_)
      · skip
        refine zz_iconst rfl ?_
        refine zz_S rfl lk_TS_20 cw_TS_require ct_require0 rfl rfl rfl rfl ?_
        rintro _ _ ⟨rfl, rfl⟩
        exact zaft_x (zx_out rfl (fcP.no1 hC zext.rf (fun g => hb56 g.2.2.1.1)))
      · skip
        refine zz_iload_n rfl rfl ?_
        refine zz_sipush rfl (by decide) ?_
        refine zz_sipush rfl (by decide) ?_
        refine zz_Sp rfl lk_TS_16 cw_TS_isWithin (ct_isWithin hy0 ⟨by decide, by decide⟩ ⟨by decide, by decide⟩) rfl rfl rfl rfl ?_
        refine zz_ifB_eq rfl (fun hb69 => ?_) (fun hb69 => ?_)
        · skip
          refine zz_iconst rfl ?_
          refine zz_S rfl lk_TS_20 cw_TS_require ct_require0 rfl rfl rfl rfl ?_
          rintro _ _ ⟨rfl, rfl⟩
          exact zaft_x (zx_out rfl (fcP.no1 hC zext.rf (fun g => hb69 g.2.2.1.2)))
        · skip
          refine zz_iconst rfl ?_
          refine zz_goto rfl ?_
          refine zz_Su rfl lk_TS_20 cw_TS_require ct_require1 rfl rfl rfl rfl ?_
          refine zz_iload rfl rfl ?_
          refine zz_sipush rfl (by decide) ?_
          refine zz_icmp_gt rfl (by omega) (by omega) (fun hb85 => ?_) (fun hb85 => ?_)
          · skip
            refine zz_iconst rfl ?_
            refine zz_S rfl lk_TS_20 cw_TS_require ct_require0 rfl rfl rfl rfl ?_
            rintro _ _ ⟨rfl, rfl⟩
            exact zaft_x (zx_out rfl (fcP.no1 hC zext.rf (fun g => by have := g.2.2.2.1; omega)))
          · skip
            refine zz_iload rfl rfl ?_
            refine zz_sipush rfl (by decide) ?_
            refine zz_icmp_gt rfl (by omega) (by omega) (fun hb93 => ?_) (fun hb93 => ?_)
            · skip
              refine zz_iconst rfl ?_
              refine zz_S rfl lk_TS_20 cw_TS_require ct_require0 rfl rfl rfl rfl ?_
              rintro _ _ ⟨rfl, rfl⟩
              exact zaft_x (zx_out rfl (fcP.no1 hC zext.rf (fun g => by have := g.2.2.2.2; omega)))
            · skip
              refine zz_iconst rfl ?_
              refine zz_goto rfl ?_
              refine zz_Su rfl lk_TS_20 cw_TS_require ct_require1 rfl rfl rfl rfl ?_
              refine zz_new (N := 2) rfl nw_TS_24 (fun na hna => ?_)
              refine zz_dup rfl rfl ?_
              refine zz_aload rfl rfl ?_
              refine zz_getf rfl fl_TS_59 (zget hna hP1) rfl ?_
              refine zz_aload rfl rfl ?_
              refine zz_getf rfl fl_TS_63 (zget hna hP1) rfl ?_
              refine zz_N rfl lk_TS_26 cw_Places_init (fun E h9 h8 => by cases h8.1) (ct_Places_init (w := (sw (sCur S))) (ht := (sh (sCur S))) (zset_same _ _ _) hh) rfl rfl rfl rfl ?_
              rintro _ _ ⟨rfl, nr, hnr0, rfl⟩
              obtain ⟨hnr, hne⟩ := zset_none hnr0
              refine zaft_u ?_
              refine Ev.heap (zset_mid h _ _ _ hne.symm) ?_
              have hnn : ∀ e, zset h nr e na = none := fun e => zset_nn hna hne.symm
              have hN : isPl (zset (zset h nr (zi 0 (sh (sCur S)) (zcn (fun _ => 0)))) na (zo 2 [zI (sw (sCur S)), .ref nr])) na nr (sw (sCur S)) (sh (sCur S)) (fun _ => 0) := ⟨zset_same _ _ _, by rw [zset_ne hne, zset_same]⟩
              refine zz_astore rfl rfl rfl ?_
              refine zz_iload_n rfl rfl ?_
              refine zz_bipush rfl (by decide) ?_
              refine zz_icmp_ge rfl (by omega) (by omega) (fun hb126 => ?_) (fun hb126 => ?_)
              · skip
                refine zz_aload rfl rfl ?_
                refine zz_iload_n rfl rfl ?_
                refine zz_iload_n rfl rfl ?_
                refine zz_iload rfl rfl ?_
                refine zz_iload rfl rfl ?_
                refine zz_Su rfl lk_TS_94 cw_TS_addEllipse (ct_addEllipse hN hh hw ⟨hb56.1, hb56.2⟩ ⟨hb69.1, hb69.2⟩ ⟨by omega, by omega⟩ ⟨by omega, by omega⟩) rfl rfl rfl rfl ?_
                refine Ev.heap (zset_low h _ _ _ hne.symm) ?_
                refine lp_sel (B := zrs (fun j i => decide (zbox ((i : Int) - x1) ((j : Int) - y1) (sz % 65536) (sz % 4294967296 / 65536) ∧ zel ((i : Int) - x1) ((j : Int) - y1) (sz % 65536) (sz % 4294967296 / 65536))) (sw (sCur S)) (sh (sCur S)) 0) (sz := sz) hC hP hk ⟨hhas, ⟨hb27, by omega⟩, ⟨hb56, hb69⟩, by omega, by omega⟩ hna hnr hne (fun j => zrs_w j) (fun j hj => ?_)
                rw [zrs_in hj]
                unfold sShp
                rw [if_neg (by omega)]
              · skip
                refine zz_aload rfl rfl ?_
                refine zz_iload_n rfl rfl ?_
                refine zz_iload_n rfl rfl ?_
                refine zz_iload rfl rfl ?_
                refine zz_iload rfl rfl ?_
                refine zz_Su rfl lk_TS_29 cw_TS_addRectangle (ct_addRectangle hN hh hw ⟨hb56.1, hb56.2⟩ ⟨hb69.1, hb69.2⟩ ⟨by omega, by omega⟩ ⟨by omega, by omega⟩) rfl rfl rfl rfl ?_
                refine Ev.heap (zset_low h _ _ _ hne.symm) ?_
                refine zz_goto rfl ?_
                refine lp_sel (B := zrs (fun j i => decide (zbox ((i : Int) - x1) ((j : Int) - y1) (sz % 65536) (sz % 4294967296 / 65536))) (sw (sCur S)) (sh (sCur S)) 0) (sz := sz) hC hP hk ⟨hhas, ⟨hb27, by omega⟩, ⟨hb56, hb69⟩, by omega, by omega⟩ hna hnr hne (fun j => zrs_w j) (fun j hj => ?_)
                rw [zrs_in hj]
                unfold sShp
                rw [if_pos (by omega)]
end FG
