section FB
variable {Z : ZC} {h : ZH}
/-! ===== what the calls answer ===== -/
theorem zc2_congr {P Q : Nat → Nat → Bool} {w : Nat} : ∀ n, (∀ j i, j < n → i < w → P j i = Q j i) → zc2 P w n = zc2 Q w n := by
  intro n
  induction n with
  | zero => intro _; rfl
  | succ n ih =>
    intro hc
    show zc2 P w n + zc1 (P n) w = zc2 Q w n + zc1 (Q n) w
    rw [ih (fun j i hj hi => hc j i (by omega) hi), zc1_congr w (fun i hi => hc n i (by omega) hi)]
theorem zsz_c2 {X : Nat → Nat} {w : Nat} (hw : w ≤ 24) : ∀ n, (∀ j, j < n → X j < 2 ^ w) → zsz X n = zc2 (fun j i => (X j).testBit i) w n := by
  intro n
  induction n with
  | zero => intro _; rfl
  | succ n ih =>
    intro hX
    show zsz X n + zcb (X n) 24 = zc2 _ w n + zc1 (fun i => (X n).testBit i) w
    rw [ih (fun j hj => hX j (by omega)), zcb_c1]
    have h1 := zc1_cut (p := fun t => (X n).testBit t) w (24 - w) (fun i hi => Nat.testBit_lt_two_pow (Nat.lt_of_lt_of_le (hX n (by omega)) (Nat.pow_le_pow_right (by decide) hi)))
    rw [show w + (24 - w) = 24 by omega] at h1
    rw [h1]
/-- how many places are selected -/
def sCt (P : SP) : Nat := zc2 (fun j i => (sr P j).testBit i) (sw P) (sh P)
theorem sCt_eq {P : SP} {R : Nat → Nat} (hw : sw P ≤ 24) (hR : ∀ j, R j < 2 ^ sw P) (hr : ∀ j, j < sh P → R j = sr P j) : zsz R (sh P) = sCt P := by
  rw [zsz_c2 hw _ (fun j _ => hR j)]
  exact zc2_congr _ (fun j i hj _ => by rw [hr j hj])
def sUndo (S : SS) : SS := (sNow S - 1, S.2)
def sRedo (S : SS) : SS := (if sNow S < sLast S then sNow S + 1 else sNow S, S.2)
def sBeg (S : SS) (P : SP) : SS := (0, 0, true, (fun _ => P), S.2.2.2.2)
def sClr : SL := ((fun _ _ => 0), 0, 255, 1)
def sP0 : SP := (0, 0, 0, (fun _ => sClr), (fun _ => 0))
def sK0 : SK := (0, 0, (fun _ _ => 0), (fun _ => 0))
noncomputable def sTl (P : SP) : Nat := zfl (fun i => sD (sl P i)) (sw P) (sh P) (sn P)
def sSav (S : SS) : SS := (sNow S, sLast S, sHas S, sHist S, some (sCur S), sCopy S, sBd S, sBr S)
def sCpy (S : SS) (l : Int) : SS := (sNow S, sLast S, sHas S, sHist S, sFile S, some (sw (sCur S), sh (sCur S), sD (sl (sCur S) l.toNat), sr (sCur S)), sBd S, sBr S)
theorem CRep.begin {x hi pa a : Nat} {pf : Nat → Value} {fv cv : Value} {S : SS} {P : SP} (hC : CR h x hi pa pf fv cv S) (ha : isP h a P) (hok : okP P) : Ct Z m_History_begin 0 0 0 [.ref hi, .ref a] h (fun r h' => r = .inl none ∧ zfr h h' ∧ CRep h' x (sBeg S P)) := by
  obtain ⟨h1, h2, h3, h4, h5, h6⟩ := hC
  obtain ⟨fs, hfs⟩ := ha.ob
  have hne : x ≠ hi := zkne h1 h2.1 (zkoo (by decide))
  have hne2 : x ≠ pa := zkne h1 h2.2 zkoa
  have hne3 : hi ≠ pa := zkne h2.1 h2.2 zkoa
  have hfz : ∀ e1 e2, zfr h (zset (zset h hi e1) pa e2) := fun e1 e2 => zfr.tr (zfr.put h2.1 rfl) (zfr.put (e := za 4 7 pf) (by rw [zset_ne hne3.symm]; exact h2.2) rfl)
  refine (ct_begin h2 hfs).mono ?_
  rintro r h' ⟨rfl, rfl⟩
  refine ⟨rfl, hfz _ _, hi, pa, _, fv, cv, ?_, ⟨?_, zset_same _ _ _⟩, ?_, h4.fz (hfz _ _), h5.fz (hfz _ _), h6⟩
  · rw [zset_ne hne2, zset_ne hne, h1]; rfl
  · rw [zset_ne hne3, zset_same]; rfl
  · refine ⟨fun _ => ⟨Nat.le_refl _, Nat.zero_le _, fun i hi => ?_⟩, fun h9 => by cases h9⟩
    have hi3 : i = 0 := Nat.le_zero.mp hi
    subst hi3
    exact ⟨a, rfl, ha.fz (hfz _ _), hok⟩
theorem CRep.now {x hi pa : Nat} {pf : Nat → Value} {fv cv : Value} {S : SS} (hC : CR h x hi pa pf fv cv S) {n : Nat} (hn : sHas S = true → n ≤ sLast S) (hn0 : sHas S = false → n = 0) : zfr h (zset h hi (zo 7 [.ref pa, zI n, zI (sLast S)])) ∧ CRep (zset h hi (zo 7 [.ref pa, zI n, zI (sLast S)])) x (n, S.2) := by
  obtain ⟨h1, h2, h3, h4, h5, h6⟩ := hC
  have hz : zfr h (zset h hi (zo 7 [.ref pa, zI n, zI (sLast S)])) := zfr.put h2.1 rfl
  refine ⟨hz, hi, pa, pf, fv, cv, ?_, ⟨zset_same _ _ _, ?_⟩, ⟨fun h9 => ?_, fun h9 => ?_⟩, h4.fz hz, h5.fz hz, h6⟩
  · rw [zset_ne (zkne h1 h2.1 (zkoo (by decide)))]; exact h1
  · rw [zset_ne (zkne h2.2 h2.1 zkao)]; exact h2.2
  · have h8 := (h3.fz hz).1 h9
    exact ⟨hn h9, h8.2⟩
  · have h8 := (h3.fz hz).2 h9
    exact ⟨hn0 h9, h8.2⟩
theorem fc_undo {x : Nat} {S : SS} (hR : CRep h x S) : Ct Z m_TS_undo 1 20 4000 [.ref x] h (fcP h x S (True) zIAE (True) zIAE (some (zI (zb (0 < sNow S)))) (sUndo S)) := by
  obtain ⟨hi, pa, pf, fv, cv, hC⟩ := hR
  have hC1 := hC.1
  refine zct rfl (by decide) ok_TS_undo rfl rfl ?_
  refine zz_aload_n rfl rfl ?_
  refine zz_getf rfl fl_TS_12 hC1 rfl ?_
  refine zz_V rfl lk_TS_201 cw_History_goBack rfl hC.2.1.1 (ct_goBack hC.2.1 hC.now.1) rfl rfl rfl rfl ?_
  rintro _ _ (⟨h1, rfl, rfl⟩ | ⟨h1, rfl, rfl⟩)
  · refine zaft_v ?_
    have hk := CRep.now hC (n := sNow S - 1) (fun h9 => by have := (hC.2.2.1.1 h9).1; omega) (fun h9 => by have := (hC.2.2.1.2 h9).1; omega)
    have e9 : ((sNow S - 1 : Nat) : Int) = (sNow S : Int) - 1 := by omega
    rw [e9] at hk
    refine zz_zret rfl rfl rfl ?_
    rw [show zb (0 < sNow S) = 1 from if_pos (by omega)]
    exact fcP.ok hk.1 trivial trivial hk.2
  refine zaft_v ?_
  refine zz_zret rfl rfl rfl ?_
  rw [show zb (0 < sNow S) = 0 from if_neg (by omega), show sUndo S = S from by show (sNow S - 1, S.2) = S; rw [show sNow S - 1 = sNow S by omega]]
  exact fcP.ok zfr.rf trivial trivial ⟨hi, pa, pf, fv, cv, hC⟩
theorem fc_redo {x : Nat} {S : SS} (hR : CRep h x S) : Ct Z m_TS_redo 1 20 4000 [.ref x] h (fcP h x S (True) zIAE (True) zIAE (some (zI (zb (sNow S < sLast S)))) (sRedo S)) := by
  obtain ⟨hi, pa, pf, fv, cv, hC⟩ := hR
  have hC1 := hC.1
  refine zct rfl (by decide) ok_TS_redo rfl rfl ?_
  refine zz_aload_n rfl rfl ?_
  refine zz_getf rfl fl_TS_12 hC1 rfl ?_
  refine zz_V rfl lk_TS_205 cw_History_goForth rfl hC.2.1.1 (ct_goForth hC.2.1 hC.now.1 hC.now.2) rfl rfl rfl rfl ?_
  rintro _ _ (⟨h1, rfl, rfl⟩ | ⟨h1, rfl, rfl⟩)
  · refine zaft_v ?_
    have hk := CRep.now hC (n := sNow S + 1) (fun h9 => by omega) (fun h9 => by have := hC.2.2.1.2 h9; omega)
    have e9 : ((sNow S + 1 : Nat) : Int) = (sNow S : Int) + 1 := by omega
    rw [e9] at hk
    refine zz_zret rfl rfl rfl ?_
    rw [show zb (sNow S < sLast S) = 1 from if_pos (by omega), show sRedo S = (sNow S + 1, S.2) from by unfold sRedo; rw [if_pos (by omega)]]
    exact fcP.ok hk.1 trivial trivial hk.2
  refine zaft_v ?_
  refine zz_zret rfl rfl rfl ?_
  rw [show zb (sNow S < sLast S) = 0 from if_neg (by omega), show sRedo S = S from by unfold sRedo; rw [if_neg (by omega)]]
  exact fcP.ok zfr.rf trivial trivial ⟨hi, pa, pf, fv, cv, hC⟩
theorem fc_open {x : Nat} {S : SS} (hR : CRep h x S) : Ct Z m_TS_open 1 20 4000 [.ref x] h (fcP h x S ((sFile S).isSome = true) zNSE (True) zIAE (none) (sBeg S ((sFile S).getD sP0))) := by
  obtain ⟨hi, pa, pf, fv, cv, hC⟩ := hR
  have hC1 := hC.1
  cases hF : sFile S with
  | none =>
    have hv : fv = .null := by have h9 := hC.2.2.2.1; rw [hF] at h9; exact h9
    subst hv
    refine zct rfl (by decide) ok_TS_open rfl rfl ?_
    refine zz_aload_n rfl rfl ?_
    refine zz_getf rfl fl_TS_211 hC1 rfl ?_
    refine zz_ifnonnullN rfl ?_
    refine zz_throw th_TS_181 rfl rfl rfl rfl rfl rfl (fcP.no1 hC zext.rf (fun g => by cases g))
  | some P =>
    obtain ⟨a, hv, hP, hk⟩ : ∃ a, fv = .ref a ∧ isP h a P ∧ okP P := by have h9 := hC.2.2.2.1; rw [hF] at h9; exact h9
    subst hv
    refine zct rfl (by decide) ok_TS_open rfl rfl ?_
    refine zz_aload_n rfl rfl ?_
    refine zz_getf rfl fl_TS_211 hC1 rfl ?_
    refine zz_ifnonnull rfl ?_
    refine zz_aload_n rfl rfl ?_
    refine zz_getf rfl fl_TS_12 hC1 rfl ?_
    refine zz_aload_n rfl rfl ?_
    refine zz_getf rfl fl_TS_211 hC1 rfl ?_
    refine zz_V rfl lk_TS_44 cw_History_begin rfl hC.2.1.1 (CRep.begin hC hP hk) rfl rfl rfl rfl ?_
    rintro _ _ ⟨rfl, hf5, hC5⟩
    refine zaft_u ?_
    refine zz_vret rfl rfl (fcP.ok hf5 rfl trivial hC5)
theorem sTl_le {P : SP} (hn : sn P ≤ 3) : sTl P ≤ 27 := by
  have h1 : ∀ n, zfl (fun i => sD (sl P i)) (sw P) (sh P) n ≤ 9 * n := by
    intro n
    induction n with
    | zero => exact Nat.le_refl _
    | succ n ih =>
      have h2 := ztl_le (sD (sl P n)) (sw P) (sh P)
      show zfl (fun i => sD (sl P i)) (sw P) (sh P) n + ztl (sD (sl P n)) (sw P) (sh P) ≤ 9 * (n + 1)
      omega
  have h2 := h1 (sn P)
  unfold sTl
  omega
theorem isPd.ly {a la sa ra : Nat} {lf : Nat → Value} {R : Nat → Nat} {P : SP} (hP : isPd h a la sa ra lf R P) : ∀ i, i < sn P → ∃ b da f md op vs, lf i = .ref b ∧ isLy h b da (sw P) (sh P) f md op vs ∧ (∀ k, zrg (f k)) ∧ ∀ x y : Nat, x < sw P → y < sh P → zldt f (sw P) (sh P) x y = sD (sl P i) x y := by
  intro i hi
  obtain ⟨b, e1, da, f, e2, e3, e4⟩ := hP.2.2.1 i hi
  exact ⟨b, da, f, _, _, _, e1, e2, e3, fun x y hx hy => by rw [sFl_dt e4, sDt_in hx hy]⟩
theorem ct_Ptl {a la sa ra : Nat} {lf : Nat → Value} {R : Nat → Nat} {P : SP} (hP : isPd h a la sa ra lf R P) (hk : okP P) : Ct Z m_Picture_fullTiles 3 0 0 [.ref a] h (zP (zI (sTl P : Nat)) h) :=
  ct_Pfull hP.1 hP.2.1 hk.2.2.1.2 hk.2.1.2 hk.1.2 hP.ly
theorem fc_save {x : Nat} {S : SS} (hR : CRep h x S) {m : Int} (hm : zrg m) : Ct Z m_TS_save 4 20 4000 [.ref x, zI m] h (fcP h x S (sHas S = true) zIAE (True) zIAE (some (zI (if 0 ≤ m ∧ m < (sTl (sCur S) : Int) + 1 then m else (sTl (sCur S) : Int) + 1))) (if 0 ≤ m ∧ m < (sTl (sCur S) : Int) + 1 then S else sSav S)) := by
  obtain ⟨hi, pa, pf, fv, cv, hC⟩ := hR
  have hC1 := hC.1
  refine zct rfl (by decide) ok_TS_save rfl rfl ?_
  refine zz_aload_n rfl rfl ?_
  refine zz_V rfl lk_TS_48 cw_TS_presentPicture rfl hC.1 (ct_pp hC) rfl rfl rfl rfl ?_
  rintro _ h ⟨rfl, ⟨hno, rfl⟩ | ⟨hhas, a, la, sa, ra, lf, R, rfl, hP, hk⟩⟩
  · exact zaft_x (zx_out rfl (fcP.no1 hC zext.rf hno))
  obtain ⟨⟨hw1, hw⟩, ⟨hh1, hh⟩, ⟨hn1, hn⟩, hkL, hkR⟩ := id hk
  have hP1 := hP.1
  have hP2 := hP.2.1
  refine zaft_v ?_
  refine zz_astore_n rfl rfl rfl ?_
  refine zz_aload_n rfl rfl ?_
  refine zz_Vp rfl lk_TS_208 cw_Picture_fullTiles rfl hP1 (ct_Ptl hP hk) rfl rfl rfl rfl ?_
  have htl := sTl_le (P := sCur S) hn
  refine zz_iconst rfl ?_
  refine zz_iadd rfl ?_
  refine zz_istore_n rfl rfl rfl ?_
  refine zz_iload_n rfl rfl ?_
  refine zz_if_lt rfl (by omega) (fun hb13 => ?_) (fun hb13 => ?_)
  · skip
    refine zz_aload_n rfl rfl ?_
    refine zz_aload_n rfl rfl ?_
    refine zz_putf rfl fl_TS_211 hC1 (pt_0_1 rfl rfl) (zblt rfl) ?_
    refine zz_iload_n rfl rfl ?_
    refine zz_iret rfl rfl (by rw [if_neg (by omega), if_neg (by omega)]; exact fcP.ok (zfr.put hC1 rfl) hhas trivial (CRep.set hC (b := sSav S) ⟨a, rfl, ⟨la, sa, ra, lf, R, hP⟩, hk⟩ hC.2.2.2.2.1 rfl rfl rfl rfl hC.2.2.2.2.2.1 hC.2.2.2.2.2.2))
  · skip
    refine zz_iload_n rfl rfl ?_
    refine zz_iload_n rfl rfl ?_
    refine zz_icmp_ge rfl (by omega) (by omega) (fun hb18 => ?_) (fun hb18 => ?_)
    · skip
      refine zz_aload_n rfl rfl ?_
      refine zz_aload_n rfl rfl ?_
      refine zz_putf rfl fl_TS_211 hC1 (pt_0_1 rfl rfl) (zblt rfl) ?_
      refine zz_iload_n rfl rfl ?_
      refine zz_iret rfl rfl (by rw [if_neg (by omega), if_neg (by omega)]; exact fcP.ok (zfr.put hC1 rfl) hhas trivial (CRep.set hC (b := sSav S) ⟨a, rfl, ⟨la, sa, ra, lf, R, hP⟩, hk⟩ hC.2.2.2.2.1 rfl rfl rfl rfl hC.2.2.2.2.2.1 hC.2.2.2.2.2.2))
    · skip
      refine zz_iload_n rfl rfl ?_
      refine zz_iret rfl rfl (by rw [if_pos ⟨by omega, by omega⟩, if_pos ⟨by omega, by omega⟩]; exact fcP.ok zfr.rf hhas trivial ⟨hi, pa, pf, fv, cv, hC⟩)
end FB
