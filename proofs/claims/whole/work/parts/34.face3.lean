section FD
variable {Z : ZC} {h : ZH}
theorem isP.mkL {h3 : ZH} {a la sa ra b na n' : Nat} {lf t : Nat → Value} {R : Nat → Nat} {P : SP} {L' : Nat → SL} (hP : isPd h a la sa ra lf R P) (he : zext h h3) (hb : h3 b = some (zo 4 [zI (sw P), zI (sh P), .ref na, .ref sa])) (hna : h3 na = some (za 3 n' (zfil n' t))) (hL : ∀ i, i < n' → ∃ c, t i = .ref c ∧ isL h3 c (sw P) (sh P) (L' i)) : isP h3 b (sw P, sh P, n', L', sr P) := by
  refine ⟨na, sa, ra, zfil n' t, R, hb, hna, fun i hi => ?_, hP.2.2.2.1.fz he.zfr, hP.2.2.2.2⟩
  have hi2 : i < n' := hi
  obtain ⟨c, e1, e2⟩ := hL i hi2
  exact ⟨c, by unfold zfil; rw [if_pos hi2]; exact e1, e2⟩
theorem okP.mkL {P : SP} {n' : Nat} {L' : Nat → SL} (hk : okP P) (hn : 1 ≤ n' ∧ n' ≤ 3) (hL : ∀ i, i < n' → okL (sw P) (sh P) (L' i)) : okP (sw P, sh P, n', L', sr P) := ⟨hk.1, hk.2.1, hn, hL, hk.2.2.2.2⟩
theorem z00 : zrg 0 := ⟨by decide, by decide⟩
theorem okL_clr (w ht : Nat) : okL w ht sClr := ⟨⟨by decide, by decide⟩, ⟨by decide, by decide⟩, Or.inr rfl, fun _ _ _ _ => z00⟩
theorem isL_clr {h3 : ZH} {a da w ht : Nat} (ha : h3 a = some (zo 3 [zI w, zI ht, .ref da, zI 0, zI 255, zI 1])) (hd : h3 da = some (zi 0 (w * ht) (fun _ => 0))) : isL h3 a w ht sClr := ⟨da, fun _ => 0, ⟨ha, hd⟩, fun _ => z00, fun _ _ _ _ => rfl⟩
def sIns (P : SP) (pos : Int) (L : SL) : SP := (sw P, sh P, sn P + 1, (fun i => if (i : Int) < pos then sl P i else if (i : Int) = pos then L else sl P (i - 1)), sr P)
def sDrp (P : SP) (l : Int) : SP := (sw P, sh P, sn P - 1, (fun i => if (i : Int) < l then sl P i else sl P (i + 1)), sr P)
def sMov (P : SP) (fr to : Int) : SP := (sw P, sh P, sn P, (fun i => if (i : Int) < to then (if (i : Int) < fr then sl P i else sl P (i + 1)) else if (i : Int) = to then sl P fr.toNat else (if ((i - 1 : Nat) : Int) < fr then sl P (i - 1) else sl P (i - 1 + 1))), sr P)
def sMod (P : SP) (l m op v : Int) : SP := (sw P, sh P, sn P, (fun i => if (i : Int) = l then (sD (sl P i), m, op, v) else sl P i), sr P)
def sNew (w ht : Nat) : SP := (w, ht, 1, (fun _ => sClr), (fun _ => 2 ^ w - 1))
/-- the rows of a shape -/
def sShp (kind x y w e : Int) (pw : Nat) (j : Nat) : Nat := if kind < 10 then zro (fun i => decide (zbox ((i : Int) - x) ((j : Int) - y) w e)) pw else zro (fun i => decide (zbox ((i : Int) - x) ((j : Int) - y) w e ∧ zel ((i : Int) - x) ((j : Int) - y) w e)) pw
def sSel (P : SP) (kind x y w e : Int) : SP := (sw P, sh P, sn P, sl P, (fun j => zjr (sr P j) (sShp kind x y w e (sw P) j) (kind % 10)))
theorem fc_layer {x : Nat} {S : SS} (hR : CRep h x S) {l : Int} (hl : zrg l) : Ct Z m_TS_layer 2 20 4000 [.ref x, zI l] h (fcP h x S (sHas S = true ∧ 0 ≤ l ∧ l ≤ sn (sCur S)) zIAE (sn (sCur S) < 3) zISE (none) (sAdd S (sIns (sCur S) l sClr))) := by
  obtain ⟨hi, pa, pf, fv, cv, hC⟩ := hR
  have hC1 := hC.1
  refine zct rfl (by decide) ok_TS_layer rfl rfl ?_
  refine zz_aload_n rfl rfl ?_
  refine zz_V rfl lk_TS_48 cw_TS_presentPicture rfl hC.1 (ct_pp hC) rfl rfl rfl rfl ?_
  rintro _ h ⟨rfl, ⟨hno, rfl⟩ | ⟨hhas, a, la, sa, ra, lf, R, rfl, hP, hk⟩⟩
  · exact zaft_x (zx_out rfl (fcP.no1 hC zext.rf (fun g => hno g.1)))
  obtain ⟨⟨hw1, hw⟩, ⟨hh1, hh⟩, ⟨hn1, hn⟩, hkL, hkR⟩ := id hk
  have hP1 := hP.1
  have hP2 := hP.2.1
  refine zaft_v ?_
  refine zz_astore_n rfl rfl rfl ?_
  refine zz_iload_n rfl rfl ?_
  refine zz_iconst rfl ?_
  refine zz_aload_n rfl rfl ?_
  refine zz_getf rfl fl_TS_52 (by assumption) rfl ?_
  refine zz_alenA rfl (Or.inl ⟨rfl, rfl⟩) hP2 ?_
  refine zz_Sp rfl lk_TS_16 cw_TS_isWithin (ct_isWithin hl ⟨by decide, by decide⟩ ⟨by omega, by omega⟩) rfl rfl rfl rfl ?_
  refine zz_Srq rfl lk_TS_20 cw_TS_require ct_require rfl rfl rfl rfl rfl (fun hno => fcP.no1 hC zext.rf (fun g => hno g.2)) (fun hyes => ?_)
  refine zz_aload_n rfl rfl ?_
  refine zz_getf rfl fl_TS_52 (by assumption) rfl ?_
  refine zz_alenA rfl (Or.inl ⟨rfl, rfl⟩) hP2 ?_
  refine zz_iconst rfl ?_
  refine zz_icmp_lt rfl (by omega) (by omega) (fun hb24 => ?_) (fun hb24 => ?_)
  · skip
    refine zz_aload_n rfl rfl ?_
    refine zz_getf rfl fl_TS_59 (by assumption) rfl ?_
    refine zz_aload_n rfl rfl ?_
    refine zz_getf rfl fl_TS_63 (by assumption) rfl ?_
    refine zz_S rfl lk_TS_35 cw_TS_clearLayer (ct_clearLayer hw hh) rfl rfl rfl rfl ?_
    rintro _ _ ⟨c, dc, hc, hdc, hne, rfl, rfl⟩
    have hE1 : zext h (zset (zset h dc (zi 0 (sw (sCur S) * sh (sCur S)) (fun _ => 0))) c (zo 3 [zI (sw (sCur S)), zI (sh (sCur S)), .ref dc, zI 0, zI 255, zI 1])) := (zext.mk hdc).set hc
    refine zaft_v ?_
    refine zz_astore_n rfl rfl rfl ?_
    refine zz_aload_n rfl rfl ?_
    refine zz_getf rfl fl_TS_12 (hC.ext hE1).1 rfl ?_
    refine zz_aload_n rfl rfl ?_
    refine zz_aload_n rfl rfl ?_
    refine zz_getf rfl fl_TS_52 (hE1 _ _ hP1) rfl ?_
    refine zz_iload_n rfl rfl ?_
    refine zz_aload_n rfl rfl ?_
    refine zz_S rfl lk_TS_66 cw_TS_inserted (ct_inserted (hP.fz hE1.zfr).la hn hyes (zset_same _ _ _)) rfl rfl rfl rfl ?_
    rintro _ _ ⟨na, hna, rfl, rfl⟩
    have hE2 := hE1.tr (zext.mk (e := za 3 (sn (sCur S) + 1) (zfil (sn (sCur S) + 1) (fun i : Nat => if (i : Int) < l then lf i else if (i : Int) = l then .ref c else lf (i - 1)))) hna)
    refine zaft_v ?_
    refine zz_V rfl lk_TS_70 cw_Picture_withLayers rfl (hE2 _ _ hP1) (ct_withLayers (hE2 _ _ hP1)) rfl rfl rfl rfl ?_
    rintro _ _ ⟨b, hb, rfl, rfl⟩
    have hE3 := hE2.tr (zext.mk (e := zo 4 [zI (sw (sCur S)), zI (sh (sCur S)), .ref na, .ref sa]) hb)
    have hC3 := hC.ext hE3
    have hP3 := isP.mkL (L' := fun i => if (i : Int) < l then sl (sCur S) i else if (i : Int) = l then sClr else sl (sCur S) (i - 1)) hP hE3 (zset_same _ _ _) (by rw [zset_ne (zne hb (zset_same _ _ _)), zset_same]) (fun i hi => by
      by_cases h1 : (i : Int) < l
      · obtain ⟨c2, e1, e2⟩ := hP.2.2.1 i (by omega)
        exact ⟨c2, by rw [if_pos h1]; exact e1, by rw [if_pos h1]; exact e2.fz hE3.zfr⟩
      · by_cases h2 : (i : Int) = l
        · refine ⟨c, by rw [if_neg h1, if_pos h2], ?_⟩
          rw [if_neg h1, if_pos h2]
          have hz1 := zext.mk (e := za 3 (sn (sCur S) + 1) (zfil (sn (sCur S) + 1) (fun i : Nat => if (i : Int) < l then lf i else if (i : Int) = l then .ref c else lf (i - 1)))) hna
          have hz2 := zext.mk (e := zo 4 [zI (sw (sCur S)), zI (sh (sCur S)), .ref na, .ref sa]) hb
          exact isL_clr (hz2 _ _ (hz1 _ _ (zset_same _ _ _))) (hz2 _ _ (hz1 _ _ (by rw [zset_ne hne, zset_same])))
        · obtain ⟨c2, e1, e2⟩ := hP.2.2.1 (i - 1) (by omega)
          exact ⟨c2, by rw [if_neg h1, if_neg h2]; exact e1, by rw [if_neg h1, if_neg h2]; exact e2.fz hE3.zfr⟩)
    have hk3 : okP (sIns (sCur S) l sClr) := okP.mkL hk ⟨by omega, by omega⟩ (fun i hi => by
      show okL _ _ (if (i : Int) < l then _ else if (i : Int) = l then sClr else _)
      by_cases h1 : (i : Int) < l
      · rw [if_pos h1]; exact hkL i (by omega)
      · rw [if_neg h1]
        by_cases h2 : (i : Int) = l
        · rw [if_pos h2]; exact okL_clr _ _
        · rw [if_neg h2]; exact hkL (i - 1) (by omega))
    refine zaft_v ?_
    refine zz_V rfl lk_TS_74 cw_History_add rfl hC3.2.1.1 (ct_step hC3 hhas hP3 hk3) rfl rfl rfl rfl ?_
    rintro _ h5 ⟨rfl, hf5, hC5⟩
    refine zaft_u ?_
    refine zz_vret rfl rfl (fcP.ok (hE3.zfr.tr hf5) ⟨hhas, hyes⟩ (by omega) hC5)
  · skip
    refine zz_throw th_TS_56 rfl rfl rfl rfl rfl rfl (fcP.no2 hC zext.rf ⟨hhas, hyes⟩ (by omega))
theorem fc_drop {x : Nat} {S : SS} (hR : CRep h x S) {l : Int} (hl : zrg l) : Ct Z m_TS_drop 3 20 4000 [.ref x, zI l] h (fcP h x S (sLy S l) zIAE (sn (sCur S) ≠ 1) zISE (none) (sAdd S (sDrp (sCur S) l))) := by
  obtain ⟨hi, pa, pf, fv, cv, hC⟩ := hR
  have hC1 := hC.1
  refine zct rfl (by decide) ok_TS_drop rfl rfl ?_
  refine zz_aload_n rfl rfl ?_
  refine zz_iload_n rfl rfl ?_
  refine zz_V rfl lk_TS_77 cw_TS_pictureWithLayer rfl hC.1 (ct_pwl hC hl) rfl rfl rfl rfl ?_
  rintro _ h ⟨rfl, ⟨hno, rfl⟩ | ⟨hly, a, la, sa, ra, lf, R, rfl, hP, hk⟩⟩
  · exact zaft_x (zx_out rfl (fcP.no1 hC zext.rf hno))
  obtain ⟨hhas, hl0, hl1⟩ := id hly
  obtain ⟨⟨hw1, hw⟩, ⟨hh1, hh⟩, ⟨hn1, hn⟩, hkL, hkR⟩ := id hk
  have hP1 := hP.1
  have hP2 := hP.2.1
  refine zaft_v ?_
  refine zz_astore_n rfl rfl rfl ?_
  refine zz_aload_n rfl rfl ?_
  refine zz_getf rfl fl_TS_52 (by assumption) rfl ?_
  refine zz_alenA rfl (Or.inl ⟨rfl, rfl⟩) hP2 ?_
  refine zz_iconst rfl ?_
  refine zz_icmp_ne rfl (by omega) (by omega) (fun hb12 => ?_) (fun hb12 => ?_)
  · skip
    obtain ⟨n1, hn1⟩ : ∃ n1, sn (sCur S) = n1 + 1 := ⟨sn (sCur S) - 1, by omega⟩
    refine zz_aload_n rfl rfl ?_
    refine zz_getf rfl fl_TS_12 hC1 rfl ?_
    refine zz_aload_n rfl rfl ?_
    refine zz_aload_n rfl rfl ?_
    refine zz_getf rfl fl_TS_52 (by assumption) rfl ?_
    refine zz_iload_n rfl rfl ?_
    refine zz_S rfl lk_TS_81 cw_TS_removed (ct_removed (n := n1) (hn1 ▸ hP.la) (by omega) hl) rfl rfl rfl rfl ?_
    rintro _ _ ⟨na, hna, rfl, rfl⟩
    have hE2 := zext.mk (e := za 3 n1 (zfil n1 (fun i : Nat => if (i : Int) < l then lf i else lf (i + 1)))) hna
    refine zaft_v ?_
    refine zz_V rfl lk_TS_70 cw_Picture_withLayers rfl (hE2 _ _ hP1) (ct_withLayers (hE2 _ _ hP1)) rfl rfl rfl rfl ?_
    rintro _ _ ⟨b, hb, rfl, rfl⟩
    have hE3 := hE2.tr (zext.mk (e := zo 4 [zI (sw (sCur S)), zI (sh (sCur S)), .ref na, .ref sa]) hb)
    have hC3 := hC.ext hE3
    have hP3 := isP.mkL (L' := fun i => if (i : Int) < l then sl (sCur S) i else sl (sCur S) (i + 1)) hP hE3 (zset_same _ _ _) (by rw [zset_ne (zne hb (zset_same _ _ _)), zset_same]) (fun i hi => by
      by_cases h1 : (i : Int) < l
      · obtain ⟨c2, e1, e2⟩ := hP.2.2.1 i (by omega)
        exact ⟨c2, by rw [if_pos h1]; exact e1, by rw [if_pos h1]; exact e2.fz hE3.zfr⟩
      · obtain ⟨c2, e1, e2⟩ := hP.2.2.1 (i + 1) (by omega)
        exact ⟨c2, by rw [if_neg h1]; exact e1, by rw [if_neg h1]; exact e2.fz hE3.zfr⟩)
    have e9 : sn (sCur S) - 1 = n1 := by omega
    have hk3 : okP (sDrp (sCur S) l) := okP.mkL hk ⟨by omega, by omega⟩ (fun i hi => by
      show okL _ _ (if (i : Int) < l then _ else _)
      by_cases h1 : (i : Int) < l
      · rw [if_pos h1]; exact hkL i (by omega)
      · rw [if_neg h1]; exact hkL (i + 1) (by omega))
    refine zaft_v ?_
    refine zz_V rfl lk_TS_74 cw_History_add rfl hC3.2.1.1 (ct_step hC3 hhas (show isP _ b (sDrp (sCur S) l) from by unfold sDrp; rw [e9]; exact hP3) hk3) rfl rfl rfl rfl ?_
    rintro _ h5 ⟨rfl, hf5, hC5⟩
    refine zaft_u ?_
    refine zz_vret rfl rfl (fcP.ok (hE3.zfr.tr hf5) hly (by omega) hC5)
  · skip
    refine zz_throw th_TS_56 rfl rfl rfl rfl rfl rfl (fcP.no2 hC zext.rf hly (by omega))
theorem fc_move {x : Nat} {S : SS} (hR : CRep h x S) {l t : Int} (hl : zrg l) (ht : zrg t) : Ct Z m_TS_move 3 20 4000 [.ref x, zI l, zI t] h (fcP h x S (sLy S l ∧ 0 ≤ t ∧ t ≤ (sn (sCur S) : Int) - 1) zIAE (True) zIAE (none) (sAdd S (sMov (sCur S) l t))) := by
  obtain ⟨hi, pa, pf, fv, cv, hC⟩ := hR
  have hC1 := hC.1
  refine zct rfl (by decide) ok_TS_move rfl rfl ?_
  refine zz_aload_n rfl rfl ?_
  refine zz_iload_n rfl rfl ?_
  refine zz_V rfl lk_TS_77 cw_TS_pictureWithLayer rfl hC.1 (ct_pwl hC hl) rfl rfl rfl rfl ?_
  rintro _ h ⟨rfl, ⟨hno, rfl⟩ | ⟨hly, a, la, sa, ra, lf, R, rfl, hP, hk⟩⟩
  · exact zaft_x (zx_out rfl (fcP.no1 hC zext.rf (fun g => hno g.1)))
  obtain ⟨hhas, hl0, hl1⟩ := id hly
  obtain ⟨⟨hw1, hw⟩, ⟨hh1, hh⟩, ⟨hn1, hn⟩, hkL, hkR⟩ := id hk
  have hP1 := hP.1
  have hP2 := hP.2.1
  refine zaft_v ?_
  refine zz_astore_n rfl rfl rfl ?_
  refine zz_iload_n rfl rfl ?_
  refine zz_iconst rfl ?_
  refine zz_aload_n rfl rfl ?_
  refine zz_getf rfl fl_TS_52 (by assumption) rfl ?_
  refine zz_alenA rfl (Or.inl ⟨rfl, rfl⟩) hP2 ?_
  refine zz_iconst rfl ?_
  refine zz_isub rfl ?_
  refine zz_Sp rfl lk_TS_16 cw_TS_isWithin (ct_isWithin ht ⟨by decide, by decide⟩ ⟨by omega, by omega⟩) rfl rfl rfl rfl ?_
  refine zz_Srq rfl lk_TS_20 cw_TS_require ct_require rfl rfl rfl rfl rfl (fun hno => fcP.no1 hC zext.rf (fun g => hno g.2)) (fun hyes => ?_)
  obtain ⟨n1, hn1⟩ : ∃ n1, sn (sCur S) = n1 + 1 := ⟨sn (sCur S) - 1, by omega⟩
  obtain ⟨bl, hbl1, hbl2⟩ := hP.2.2.1 l.toNat (by omega)
  have hbl3 : ∃ fs, h bl = some (zo 3 fs) := by obtain ⟨da, f, e2, -⟩ := hbl2; exact ⟨_, e2.1⟩
  obtain ⟨fs3, hbl3⟩ := hbl3
  refine zz_aload_n rfl rfl ?_
  refine zz_getf rfl fl_TS_52 (by assumption) rfl ?_
  refine zz_iload_n rfl rfl ?_
  refine zz_S rfl lk_TS_81 cw_TS_removed (ct_removed (n := n1) (hn1 ▸ hP.la) (by omega) hl) rfl rfl rfl rfl ?_
  rintro _ _ ⟨na, hna, rfl, rfl⟩
  have hE1 := zext.mk (e := za 3 n1 (zfil n1 (fun i : Nat => if (i : Int) < l then lf i else lf (i + 1)))) hna
  have hLa : isLa (zset h na (za 3 n1 (zfil n1 (fun i : Nat => if (i : Int) < l then lf i else lf (i + 1))))) na n1 (zfil n1 (fun i : Nat => if (i : Int) < l then lf i else lf (i + 1))) := ⟨zset_same _ _ _, fun i hi => by
    unfold zfil
    rw [if_pos hi]
    by_cases h1 : (i : Int) < l
    · obtain ⟨c2, fs, e1, e2⟩ := hP.la.2 i (by omega)
      exact ⟨c2, fs, by show (if _ then _ else _) = _; rw [if_pos h1]; exact e1, hE1 _ _ e2⟩
    · obtain ⟨c2, fs, e1, e2⟩ := hP.la.2 (i + 1) (by omega)
      exact ⟨c2, fs, by show (if _ then _ else _) = _; rw [if_neg h1]; exact e1, hE1 _ _ e2⟩⟩
  refine zaft_v ?_
  refine zz_astore rfl rfl rfl ?_
  refine zz_aload_n rfl rfl ?_
  refine zz_getf rfl fl_TS_12 (hE1 _ _ hC1) rfl ?_
  refine zz_aload_n rfl rfl ?_
  refine zz_aload rfl rfl ?_
  refine zz_iload_n rfl rfl ?_
  refine zz_aload_n rfl rfl ?_
  refine zz_getf rfl fl_TS_52 (hE1 _ _ hP1) rfl ?_
  refine zz_iload_n rfl rfl ?_
  refine zz_aald rfl (Or.inl ⟨rfl, rfl⟩) (hE1 _ _ hP2) (by omega) (by omega) ?_
  refine zz_tv hbl1 ?_
  refine zz_S rfl lk_TS_66 cw_TS_inserted (ct_inserted hLa (by omega) ⟨hyes.1, by omega⟩ (hE1 _ _ hbl3)) rfl rfl rfl rfl ?_
  rintro _ _ ⟨nb, hnb, rfl, rfl⟩
  have hE2 := hE1.tr (zext.mk (e := za 3 (n1 + 1) (zfil (n1 + 1) (fun i : Nat => if (i : Int) < t then zfil n1 (fun i : Nat => if (i : Int) < l then lf i else lf (i + 1)) i else if (i : Int) = t then .ref bl else zfil n1 (fun i : Nat => if (i : Int) < l then lf i else lf (i + 1)) (i - 1)))) hnb)
  refine zaft_v ?_
  refine zz_V rfl lk_TS_70 cw_Picture_withLayers rfl (hE2 _ _ hP1) (ct_withLayers (hE2 _ _ hP1)) rfl rfl rfl rfl ?_
  rintro _ _ ⟨b, hb, rfl, rfl⟩
  have hE3 := hE2.tr (zext.mk (e := zo 4 [zI (sw (sCur S)), zI (sh (sCur S)), .ref nb, .ref sa]) hb)
  have hC3 := hC.ext hE3
  have hin : ∀ i, i < n1 → ∃ c, zfil n1 (fun i : Nat => if (i : Int) < l then lf i else lf (i + 1)) i = .ref c ∧ isL h c (sw (sCur S)) (sh (sCur S)) (if (i : Int) < l then sl (sCur S) i else sl (sCur S) (i + 1)) := by
    intro i hi
    unfold zfil
    rw [if_pos hi]
    by_cases h1 : (i : Int) < l
    · obtain ⟨c2, e1, e2⟩ := hP.2.2.1 i (by omega)
      exact ⟨c2, by show (if _ then _ else _) = _; rw [if_pos h1]; exact e1, by rw [if_pos h1]; exact e2⟩
    · obtain ⟨c2, e1, e2⟩ := hP.2.2.1 (i + 1) (by omega)
      exact ⟨c2, by show (if _ then _ else _) = _; rw [if_neg h1]; exact e1, by rw [if_neg h1]; exact e2⟩
  have hP3 := isP.mkL (L' := fun i => if (i : Int) < t then (if (i : Int) < l then sl (sCur S) i else sl (sCur S) (i + 1)) else if (i : Int) = t then sl (sCur S) l.toNat else (if ((i - 1 : Nat) : Int) < l then sl (sCur S) (i - 1) else sl (sCur S) (i - 1 + 1))) hP hE3 (zset_same _ _ _) (by rw [zset_ne (zne hb (zset_same _ _ _)), zset_same]) (fun i hi => by
    by_cases h1 : (i : Int) < t
    · obtain ⟨c2, e1, e2⟩ := hin i (by omega)
      exact ⟨c2, by rw [if_pos h1]; exact e1, by rw [if_pos h1]; exact e2.fz hE3.zfr⟩
    · by_cases h2 : (i : Int) = t
      · exact ⟨bl, by rw [if_neg h1, if_pos h2], by rw [if_neg h1, if_pos h2]; exact hbl2.fz hE3.zfr⟩
      · obtain ⟨c2, e1, e2⟩ := hin (i - 1) (by omega)
        exact ⟨c2, by rw [if_neg h1, if_neg h2]; exact e1, by rw [if_neg h1, if_neg h2]; exact e2.fz hE3.zfr⟩)
  have hko : ∀ i, i < n1 → okL (sw (sCur S)) (sh (sCur S)) (if (i : Int) < l then sl (sCur S) i else sl (sCur S) (i + 1)) := by
    intro i hi
    by_cases h1 : (i : Int) < l
    · rw [if_pos h1]; exact hkL i (by omega)
    · rw [if_neg h1]; exact hkL (i + 1) (by omega)
  have hk3 : okP (sMov (sCur S) l t) := okP.mkL hk ⟨by omega, by omega⟩ (fun i hi => by
    by_cases h1 : (i : Int) < t
    · rw [if_pos h1]; exact hko i (by omega)
    · rw [if_neg h1]
      by_cases h2 : (i : Int) = t
      · rw [if_pos h2]; exact hkL _ (by omega)
      · rw [if_neg h2]; exact hko (i - 1) (by omega))
  refine zaft_v ?_
  refine zz_V rfl lk_TS_74 cw_History_add rfl hC3.2.1.1 (ct_step hC3 hhas (show isP _ b (sMov (sCur S) l t) from by unfold sMov; rw [hn1]; exact hP3) hk3) rfl rfl rfl rfl ?_
  rintro _ h5 ⟨rfl, hf5, hC5⟩
  refine zaft_u ?_
  refine zz_vret rfl rfl (fcP.ok (hE3.zfr.tr hf5) ⟨hly, hyes⟩ trivial hC5)
theorem fc_mode {x : Nat} {S : SS} (hR : CRep h x S) {l m op v : Int} (hl : zrg l) (hm : zrg m) (hop : zrg op) (hv : v = 0 ∨ v = 1) : Ct Z m_TS_mode 3 20 4000 [.ref x, zI l, zI m, zI op, zI v] h (fcP h x S (sLy S l ∧ (0 ≤ m ∧ m ≤ 5) ∧ 0 ≤ op ∧ op ≤ 255) zIAE (True) zIAE (none) (sAdd S (sMod (sCur S) l m op v))) := by
  obtain ⟨hi, pa, pf, fv, cv, hC⟩ := hR
  have hC1 := hC.1
  refine zct rfl (by decide) ok_TS_mode rfl rfl ?_
  refine zz_aload_n rfl rfl ?_
  refine zz_iload_n rfl rfl ?_
  refine zz_V rfl lk_TS_77 cw_TS_pictureWithLayer rfl hC.1 (ct_pwl hC hl) rfl rfl rfl rfl ?_
  rintro _ h ⟨rfl, ⟨hno, rfl⟩ | ⟨hly, a, la, sa, ra, lf, R, rfl, hP, hk⟩⟩
  · exact zaft_x (zx_out rfl (fcP.no1 hC zext.rf (fun g => hno g.1)))
  obtain ⟨hhas, hl0, hl1⟩ := id hly
  obtain ⟨⟨hw1, hw⟩, ⟨hh1, hh⟩, ⟨hn1, hn⟩, hkL, hkR⟩ := id hk
  have hP1 := hP.1
  have hP2 := hP.2.1
  refine zaft_v ?_
  refine zz_astore rfl rfl rfl ?_
  refine zz_iload_n rfl rfl ?_
  refine zz_iconst rfl ?_
  refine zz_iconst rfl ?_
  refine zz_Sp rfl lk_TS_16 cw_TS_isWithin (ct_isWithin hm ⟨by decide, by decide⟩ ⟨by decide, by decide⟩) rfl rfl rfl rfl ?_
  refine zz_ifB_eq rfl (fun hb13 => ?_) (fun hb13 => ?_)
  · skip
    refine zz_iconst rfl ?_
    refine zz_S rfl lk_TS_20 cw_TS_require ct_require0 rfl rfl rfl rfl ?_
    rintro _ _ ⟨rfl, rfl⟩
    exact zaft_x (zx_out rfl (fcP.no1 hC zext.rf (fun g => hb13 g.2.1)))
  · skip
    refine zz_iload_n rfl rfl ?_
    refine zz_iconst rfl ?_
    refine zz_sipush rfl (by decide) ?_
    refine zz_Sp rfl lk_TS_16 cw_TS_isWithin (ct_isWithin hop ⟨by decide, by decide⟩ ⟨by decide, by decide⟩) rfl rfl rfl rfl ?_
    refine zz_ifB_eq rfl (fun hb24 => ?_) (fun hb24 => ?_)
    · skip
      refine zz_iconst rfl ?_
      refine zz_S rfl lk_TS_20 cw_TS_require ct_require0 rfl rfl rfl rfl ?_
      rintro _ _ ⟨rfl, rfl⟩
      exact zaft_x (zx_out rfl (fcP.no1 hC zext.rf (fun g => hb24 g.2.2)))
    · skip
      refine zz_iconst rfl ?_
      refine zz_goto rfl ?_
      refine zz_Su rfl lk_TS_20 cw_TS_require ct_require1 rfl rfl rfl rfl ?_
      obtain ⟨bl, hbl1, da, f, hbl2, hbl3, hbl4⟩ := hP.2.2.1 l.toNat (by omega)
      refine zz_aload rfl rfl ?_
      refine zz_getf rfl fl_TS_52 (by assumption) rfl ?_
      refine zz_iload_n rfl rfl ?_
      refine zz_aald rfl (Or.inl ⟨rfl, rfl⟩) hP2 (by omega) (by omega) ?_
      refine zz_tv hbl1 ?_
      refine zz_iload_n rfl rfl ?_
      refine zz_iload_n rfl rfl ?_
      refine zz_iload rfl rfl ?_
      refine zz_V rfl lk_TS_85 cw_Layer_withBlending rfl hbl2.1 (ct_withBlending hbl2 hv) rfl rfl rfl rfl ?_
      rintro _ _ ⟨b1, hb1, rfl, rfl⟩
      have hE1 := zext.mk (e := zo 3 [zI (sw (sCur S)), zI (sh (sCur S)), .ref da, zI m, zI op, zI v]) hb1
      refine zaft_v ?_
      refine zz_astore rfl rfl rfl ?_
      refine zz_aload_n rfl rfl ?_
      refine zz_getf rfl fl_TS_12 (hE1 _ _ hC1) rfl ?_
      refine zz_aload rfl rfl ?_
      refine zz_iload_n rfl rfl ?_
      refine zz_aload rfl rfl ?_
      refine zz_V rfl lk_TS_89 cw_Picture_withLayer rfl (hE1 _ _ hP1) (ct_withLayer (hE1 _ _ hP1) (hP.fz hE1.zfr).la hn (zset_same _ _ _) hl) rfl rfl rfl rfl ?_
      rintro _ _ ⟨na, b, hna, hb, hne, rfl, rfl⟩
      have hE2 := (zext.mk (e := za 3 (sn (sCur S)) (zfil (sn (sCur S)) (fun i => if (i : Int) = l then .ref b1 else lf i))) hna).set (e := zo 4 [zI (sw (sCur S)), zI (sh (sCur S)), .ref na, .ref sa]) hb
      have hE3 := hE1.tr hE2
      have hC3 := hC.ext hE3
      have hP3 := isP.mkL (L' := fun i => if (i : Int) = l then (sD (sl (sCur S) i), m, op, v) else sl (sCur S) i) hP hE3 (zset_same _ _ _) (by rw [zset_ne hne.symm, zset_same]) (fun i hi => by
        by_cases h1 : (i : Int) = l
        · have e9 : l.toNat = i := by omega
          refine ⟨b1, by rw [if_pos h1], ?_⟩
          rw [if_pos h1]
          exact ⟨da, f, ⟨hE2 _ _ (zset_same _ _ _), hE3 _ _ hbl2.2⟩, hbl3, by rw [← e9]; exact hbl4⟩
        · obtain ⟨c2, e1, e2⟩ := hP.2.2.1 i (by omega)
          exact ⟨c2, by rw [if_neg h1]; exact e1, by rw [if_neg h1]; exact e2.fz hE3.zfr⟩)
      have hk3 : okP (sMod (sCur S) l m op v) := okP.mkL hk ⟨by omega, by omega⟩ (fun i hi => by
        by_cases h1 : (i : Int) = l
        · rw [if_pos h1]; exact ⟨hb13, hb24, hv, (hkL i hi).2.2.2⟩
        · rw [if_neg h1]; exact hkL i hi)
      refine zaft_v ?_
      refine zz_V rfl lk_TS_74 cw_History_add rfl hC3.2.1.1 (ct_step hC3 hhas hP3 hk3) rfl rfl rfl rfl ?_
      rintro _ h5 ⟨rfl, hf5, hC5⟩
      refine zaft_u ?_
      refine zz_vret rfl rfl (fcP.ok (hE3.zfr.tr hf5) ⟨hly, hb13, hb24⟩ trivial hC5)
end FD
