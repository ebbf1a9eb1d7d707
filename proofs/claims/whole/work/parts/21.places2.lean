section PM
variable {Z : ZC} {h : ZH}
theorem lp_joined {a ra b rb na nr w ht : Nat} {A B R0 : Nat → Nat} {how : Int} (hA : isPl h a ra w ht A) (hB : isPl h b rb w ht B) (hN : isPl h na nr w ht R0) (h1 : nr ≠ ra) (h2 : nr ≠ rb) (hh : ht ≤ 24) (hk : 0 ≤ how ∧ how ≤ 3) {MC MS mc ms : Nat} {Q : ZR → ZH → Prop} (kx : Ev Z (fun _ => True, m_TS_joined, 1, MC, MS) 68 [.ref a, .ref b, zI how, .ref na, zI ht] [] (zset h nr (zi 0 ht (zcn (zjs A B how ((ht : Int)))))) mc ms Q) : ∀ (m : Nat) (k : Int), 0 ≤ k → k + m = ht → Ev Z (fun _ => True, m_TS_joined, 1, MC, MS) 19 [.ref a, .ref b, zI how, .ref na, zI k] [] (zset h nr (zi 0 ht (zcn (zjs A B how (k))))) mc ms Q := by
  intro m
  induction m with
  | zero =>
    intro k hk0 hkn
    refine zz_iload rfl rfl ?_
    refine zz_aload_n rfl rfl ?_
    refine zz_Vp rfl lk_TS_260 cw_Places_height rfl (isPl.oth hA hN.2 h1).1 (ct_Places_height (isPl.oth hA hN.2 h1)) rfl rfl rfl rfl ?_
    refine zz_icmp_ge rfl (by omega) (by omega) (fun hb25 => ?_) (fun hb25 => absurd hb25 (by omega))
    obtain rfl : k = (ht : Int) := by omega
    exact kx
  | succ m ih =>
    intro k hk0 hkn
    refine zz_iload rfl rfl ?_
    refine zz_aload_n rfl rfl ?_
    refine zz_Vp rfl lk_TS_260 cw_Places_height rfl (isPl.oth hA hN.2 h1).1 (ct_Places_height (isPl.oth hA hN.2 h1)) rfl rfl rfl rfl ?_
    refine zz_icmp_ge rfl (by omega) (by omega) (fun hb25 => absurd hb25 (by omega)) (fun hb25 => ?_)
    refine zz_iload rfl rfl ?_
    refine zz_aload_n rfl rfl ?_
    refine zz_Vp rfl lk_TS_260 cw_Places_height rfl (isPl.oth hB hN.2 h2).1 (ct_Places_height (isPl.oth hB hN.2 h2)) rfl rfl rfl rfl ?_
    refine zz_icmp_ge rfl (by omega) (by omega) (fun hb34 => absurd hb34 (by omega)) (fun hb34 => ?_)
    refine zz_aload_n rfl rfl ?_
    refine zz_getf rfl fl_TS_273 (hN.up _).1 rfl ?_
    refine zz_iload rfl rfl ?_
    refine zz_aload_n rfl rfl ?_
    refine zz_getf rfl fl_TS_273 (isPl.oth hA hN.2 h1).1 rfl ?_
    refine zz_iload rfl rfl ?_
    refine zz_iald rfl (isPl.oth hA hN.2 h1).2 (by omega) (by omega) ?_
    refine zz_aload_n rfl rfl ?_
    refine zz_getf rfl fl_TS_273 (isPl.oth hB hN.2 h2).1 rfl ?_
    refine zz_iload rfl rfl ?_
    refine zz_iald rfl (isPl.oth hB hN.2 h2).2 (by omega) (by omega) ?_
    refine zz_iload_n rfl rfl ?_
    refine zz_Sp rfl lk_TS_277 cw_TS_joinedRow (ct_joinedRow (A := A k.toNat) (B := B k.toNat) hk) rfl rfl rfl rfl ?_
    refine zz_iast rfl (zset_same _ _ _) (by omega) (by omega) ?_
    refine zz_iinc rfl rfl rfl rfl ?_
    refine zz_goto rfl ?_
    refine Ev.heap (show _ = (zset h nr (zi 0 ht (zcn (zjs A B how (k + 1))))) from by rw [zset_set, zjs_up hk0]) ?_
    exact ih (k + 1) (by omega) (by omega)
theorem ct_joined {a ra b rb w ht : Nat} {A B : Nat → Nat} {how : Int} (hA : isPl h a ra w ht A) (hB : isPl h b rb w ht B) (hh : ht ≤ 24) (hk : 0 ≤ how ∧ how ≤ 3) : Ct Z m_TS_joined 1 2 26 [.ref a, .ref b, zI how] h (fun r h' => ∃ na nr, h na = none ∧ h nr = none ∧ na ≠ nr ∧ r = .inl (some (.ref na)) ∧ h' = zset (zset h nr (zi 0 ht (zcn (zjs A B how ht)))) na (zo 2 [zI w, .ref nr])) := by
  refine zct rfl (by decide) ok_TS_joined rfl rfl ?_
  refine zz_new (N := 2) rfl nw_TS_24 (fun na hna => ?_)
  refine zz_dup rfl rfl ?_
  refine zz_aload_n rfl rfl ?_
  refine zz_getf rfl fl_TS_261 (zget hna hA.1) rfl ?_
  refine zz_aload_n rfl rfl ?_
  refine zz_Vp rfl lk_TS_260 cw_Places_height rfl (zget hna hA.1) (ct_Places_height (isPl.fr hA hna)) rfl rfl rfl rfl ?_
  refine zz_N rfl lk_TS_26 cw_Places_init (fun E h9 h8 => by cases h8.1) (ct_Places_init (zset_same _ _ _) hh) rfl rfl rfl rfl ?_
  rintro _ _ ⟨rfl, nr, hnr0, rfl⟩
  obtain ⟨hnr, hne⟩ := zset_none hnr0
  refine zaft_u ?_
  refine Ev.heap (zset_mid h _ _ _ hne.symm) ?_
  refine zz_astore_n rfl rfl rfl ?_
  refine zz_iconst rfl ?_
  refine zz_istore rfl rfl rfl ?_
  have hnn : ∀ e, zset h nr e na = none := fun e => zset_nn hna hne.symm
  have hN : isPl (zset (zset h nr (zi 0 ht (zcn (fun _ => 0)))) na (zo 2 [zI w, .ref nr])) na nr w ht (fun _ => 0) := ⟨zset_same _ _ _, by rw [zset_ne hne, zset_same]⟩
  refine Ev.heap (show _ = zset (zset (zset h nr (zi 0 ht (zcn (fun _ => 0)))) na (zo 2 [zI w, .ref nr])) nr (zi 0 ht (zcn (zjs A B how 0))) from by rw [← zjs_0, zset_id hN.2]) ?_
  refine lp_joined (isPl.fr (isPl.fr hA hnr) (hnn _)) (isPl.fr (isPl.fr hB hnr) (hnn _)) hN (zne hnr hA.2).symm (zne hnr hB.2).symm hh hk ?_ ht 0 (by omega) (by omega)
  refine zz_aload_n rfl rfl ?_
  refine zz_aret rfl rfl (Or.inl ⟨_, rfl⟩) (Or.inr ⟨_, rfl⟩) ⟨na, nr, hna, hnr, hne.symm, rfl, zset_low h _ _ _ hne.symm⟩
theorem lp_alike_i {p pc la sa ra bf da af w ht : Nat} {pos : Int} {R : Nat → Nat} {f g : Nat → Int} {md op vs : Int} (hp : isPt h p pc la sa ra bf da af w ht pos R f g md op vs) (hh : ht ≤ 24) (hw : w ≤ 24) (hR : ∀ j, R j < 16777216) {na nr : Nat} {R0 : Nat → Nat} {wt tol : Int} (hN : isPl h na nr w ht R0) (h1 : nr ≠ ra) (h2 : nr ≠ da) (h3 : nr ≠ af) (htol : 0 ≤ tol ∧ tol ≤ 255) {MC MS mc ms : Nat} {Q : ZR → ZH → Prop} {y : Int} (hy : 0 ≤ y ∧ y < ht) (kx : Ev Z (fun _ => True, m_TS_alikePlaces, 3, MC, MS) 84 [.ref p, zI wt, zI tol, .ref na, zI y, zI w] [] (zset h nr (zi 0 ht (zcn (zrs (fun j i => decide (zhp R w ht (i : Int) (j : Int) ∧ zak (zldt f w ht (i : Int) (j : Int)) wt tol)) w (y) (w))))) mc ms Q) : ∀ (m : Nat) (x : Int), 0 ≤ x → x + m = w → Ev Z (fun _ => True, m_TS_alikePlaces, 3, MC, MS) 31 [.ref p, zI wt, zI tol, .ref na, zI y, zI x] [] (zset h nr (zi 0 ht (zcn (zrs (fun j i => decide (zhp R w ht (i : Int) (j : Int) ∧ zak (zldt f w ht (i : Int) (j : Int)) wt tol)) w (y) (x))))) mc ms Q := by
  intro m
  induction m with
  | zero =>
    intro x hx0 hxn
    refine zz_iload rfl rfl ?_
    refine zz_aload_n rfl rfl ?_
    refine zz_Vp rfl lk_TS_127 cw_Painting_width rfl (isPt.oth hp hN.2 h1 h2 h3).1 (ct_Pw (isPt.oth hp hN.2 h1 h2 h3)) rfl rfl rfl rfl ?_
    refine zz_icmp_ge rfl (by omega) (by omega) (fun hb37 => ?_) (fun hb37 => absurd hb37 (by omega))
    obtain rfl : x = (w : Int) := by omega
    exact kx
  | succ m ih =>
    intro x hx0 hxn
    have hbx : zbox x y w ht := ⟨by omega, by omega, by omega, by omega⟩
    have hxt : ((x.toNat : Nat) : Int) = x := Int.toNat_of_nonneg hx0
    have hyt : ((y.toNat : Nat) : Int) = y := Int.toNat_of_nonneg hy.1
    refine zz_iload rfl rfl ?_
    refine zz_aload_n rfl rfl ?_
    refine zz_Vp rfl lk_TS_127 cw_Painting_width rfl (isPt.oth hp hN.2 h1 h2 h3).1 (ct_Pw (isPt.oth hp hN.2 h1 h2 h3)) rfl rfl rfl rfl ?_
    refine zz_icmp_ge rfl (by omega) (by omega) (fun hb37 => absurd hb37 (by omega)) (fun hb37 => ?_)
    refine zz_aload_n rfl rfl ?_
    refine zz_iload rfl rfl ?_
    refine zz_iload rfl rfl ?_
    refine zz_Vp rfl lk_TS_184 cw_Painting_takes rfl (isPt.oth hp hN.2 h1 h2 h3).1 (ct_takes (isPt.oth hp hN.2 h1 h2 h3) hh hw hR ⟨by omega, by omega⟩ ⟨by omega, by omega⟩) rfl rfl rfl rfl ?_
    refine zz_ifB_eq rfl (fun hb48 => ?_) (fun hb48 => ?_)
    · skip
      refine Ev.heap (show _ = (zset h nr (zi 0 ht (zcn (zrs (fun j i => decide (zhp R w ht (i : Int) (j : Int) ∧ zak (zldt f w ht (i : Int) (j : Int)) wt tol)) w (y) (x + 1))))) from by rw [← zrs_f hx0 hy.1 (show (fun j i => decide (zhp R w ht (i : Int) (j : Int) ∧ zak (zldt f w ht (i : Int) (j : Int)) wt tol)) y.toNat x.toNat = false from (by show decide (zhp R w ht ((x.toNat : Nat) : Int) ((y.toNat : Nat) : Int) ∧ zak (zldt f w ht ((x.toNat : Nat) : Int) ((y.toNat : Nat) : Int)) wt tol) = false; rw [hxt, hyt]; exact decide_eq_false (fun h9 => hb48 h9.1)))]) ?_
      refine zz_iinc rfl rfl rfl rfl ?_
      refine zz_goto rfl ?_
      exact ih (x + 1) (by omega) (by omega)
    · skip
      refine zz_aload_n rfl rfl ?_
      refine zz_getf rfl fl_TS_153 (isPt.oth hp hN.2 h1 h2 h3).1 rfl ?_
      refine zz_iload rfl rfl ?_
      refine zz_iload rfl rfl ?_
      refine zz_Vp rfl lk_TS_157 cw_Layer_dotAt rfl (isPt.oth hp hN.2 h1 h2 h3).2.2.2.1.1 (ct_dotAt (isPt.oth hp hN.2 h1 h2 h3).2.2.2.1 ⟨by omega, by omega⟩ ⟨by omega, by omega⟩ hh hw) rfl rfl rfl rfl ?_
      refine zz_iload_n rfl rfl ?_
      refine zz_iload_n rfl rfl ?_
      refine zz_Sp rfl lk_TS_299 cw_Dots_areAlike (ct_areAlike htol) rfl rfl rfl rfl ?_
      refine zz_ifB_eq rfl (fun hb67 => ?_) (fun hb67 => ?_)
      · skip
        refine Ev.heap (show _ = (zset h nr (zi 0 ht (zcn (zrs (fun j i => decide (zhp R w ht (i : Int) (j : Int) ∧ zak (zldt f w ht (i : Int) (j : Int)) wt tol)) w (y) (x + 1))))) from by rw [← zrs_f hx0 hy.1 (show (fun j i => decide (zhp R w ht (i : Int) (j : Int) ∧ zak (zldt f w ht (i : Int) (j : Int)) wt tol)) y.toNat x.toNat = false from (by show decide (zhp R w ht ((x.toNat : Nat) : Int) ((y.toNat : Nat) : Int) ∧ zak (zldt f w ht ((x.toNat : Nat) : Int) ((y.toNat : Nat) : Int)) wt tol) = false; rw [hxt, hyt]; exact decide_eq_false (fun h9 => hb67 h9.2)))]) ?_
        refine zz_iinc rfl rfl rfl rfl ?_
        refine zz_goto rfl ?_
        exact ih (x + 1) (by omega) (by omega)
      · skip
        refine zz_aload_n rfl rfl ?_
        refine zz_iload rfl rfl ?_
        refine zz_iload rfl rfl ?_
        refine zz_Vu rfl lk_TS_266 cw_Places_add rfl (hN.up _).1 (ct_add (hN.up _) ⟨by omega, by omega⟩ ⟨by omega, by omega⟩ hh hw) rfl rfl rfl rfl ?_
        refine Ev.heap (zadd_eq hbx (show (fun j i => decide (zhp R w ht (i : Int) (j : Int) ∧ zak (zldt f w ht (i : Int) (j : Int)) wt tol)) y.toNat x.toNat = true from (by show decide (zhp R w ht ((x.toNat : Nat) : Int) ((y.toNat : Nat) : Int) ∧ zak (zldt f w ht ((x.toNat : Nat) : Int) ((y.toNat : Nat) : Int)) wt tol) = true; rw [hxt, hyt]; exact decide_eq_true ⟨hb48, hb67⟩))) ?_
        refine zz_iinc rfl rfl rfl rfl ?_
        refine zz_goto rfl ?_
        exact ih (x + 1) (by omega) (by omega)
theorem lp_alike_o {p pc la sa ra bf da af w ht : Nat} {pos : Int} {R : Nat → Nat} {f g : Nat → Int} {md op vs : Int} (hp : isPt h p pc la sa ra bf da af w ht pos R f g md op vs) (hh : ht ≤ 24) (hw : w ≤ 24) (hR : ∀ j, R j < 16777216) {na nr : Nat} {R0 : Nat → Nat} {wt tol : Int} (hN : isPl h na nr w ht R0) (h1 : nr ≠ ra) (h2 : nr ≠ da) (h3 : nr ≠ af) (htol : 0 ≤ tol ∧ tol ≤ 255) {MC MS mc ms : Nat} {Q : ZR → ZH → Prop} (kx : Ev Z (fun _ => True, m_TS_alikePlaces, 3, MC, MS) 90 [.ref p, zI wt, zI tol, .ref na, zI ht] [] (zset h nr (zi 0 ht (zcn (zrs (fun j i => decide (zhp R w ht (i : Int) (j : Int) ∧ zak (zldt f w ht (i : Int) (j : Int)) wt tol)) w ((ht : Int)) (0))))) mc ms Q) : ∀ (m : Nat) (y : Int), 0 ≤ y → y + m = ht → Ev Z (fun _ => True, m_TS_alikePlaces, 3, MC, MS) 19 [.ref p, zI wt, zI tol, .ref na, zI y] [] (zset h nr (zi 0 ht (zcn (zrs (fun j i => decide (zhp R w ht (i : Int) (j : Int) ∧ zak (zldt f w ht (i : Int) (j : Int)) wt tol)) w (y) (0))))) mc ms Q := by
  intro m
  induction m with
  | zero =>
    intro y hy0 hyn
    refine zz_iload rfl rfl ?_
    refine zz_aload_n rfl rfl ?_
    refine zz_Vp rfl lk_TS_123 cw_Painting_height rfl (isPt.oth hp hN.2 h1 h2 h3).1 (ct_Ph (isPt.oth hp hN.2 h1 h2 h3)) rfl rfl rfl rfl ?_
    refine zz_icmp_ge rfl (by omega) (by omega) (fun hb25 => ?_) (fun hb25 => absurd hb25 (by omega))
    obtain rfl : y = (ht : Int) := by omega
    exact kx
  | succ m ih =>
    intro y hy0 hyn
    refine zz_iload rfl rfl ?_
    refine zz_aload_n rfl rfl ?_
    refine zz_Vp rfl lk_TS_123 cw_Painting_height rfl (isPt.oth hp hN.2 h1 h2 h3).1 (ct_Ph (isPt.oth hp hN.2 h1 h2 h3)) rfl rfl rfl rfl ?_
    refine zz_icmp_ge rfl (by omega) (by omega) (fun hb25 => absurd hb25 (by omega)) (fun hb25 => ?_)
    refine zz_iconst rfl ?_
    refine zz_istore rfl rfl rfl ?_
    refine lp_alike_i hp hh hw hR hN h1 h2 h3 htol ⟨hy0, by omega⟩ ?_ w 0 (by omega) (by omega)
    refine zz_iinc rfl rfl rfl rfl ?_
    refine zz_goto rfl ?_
    refine Ev.take 5 ?_
    refine Ev.heap (show _ = (zset h nr (zi 0 ht (zcn (zrs (fun j i => decide (zhp R w ht (i : Int) (j : Int) ∧ zak (zldt f w ht (i : Int) (j : Int)) wt tol)) w (y + 1) (0))))) from by rw [zrs_e]) ?_
    exact ih (y + 1) (by omega) (by omega)
theorem ct_alikePlaces {p pc la sa ra bf da af w ht : Nat} {pos : Int} {R : Nat → Nat} {f g : Nat → Int} {md op vs : Int} (hp : isPt h p pc la sa ra bf da af w ht pos R f g md op vs) (hh : ht ≤ 24) (hw : w ≤ 24) (hR : ∀ j, R j < 16777216) {wt tol : Int} (htol : 0 ≤ tol ∧ tol ≤ 255) : Ct Z m_TS_alikePlaces 3 2 26 [.ref p, zI wt, zI tol] h (fun r h' => ∃ na nr, h na = none ∧ h nr = none ∧ na ≠ nr ∧ r = .inl (some (.ref na)) ∧ h' = zset (zset h nr (zi 0 ht (zcn (zrs (fun j i => decide (zhp R w ht (i : Int) (j : Int) ∧ zak (zldt f w ht (i : Int) (j : Int)) wt tol)) w ht 0)))) na (zo 2 [zI w, .ref nr])) := by
  refine zct rfl (by decide) ok_TS_alikePlaces rfl rfl ?_
  refine zz_new (N := 2) rfl nw_TS_24 (fun na hna => ?_)
  refine zz_dup rfl rfl ?_
  refine zz_aload_n rfl rfl ?_
  refine zz_Vp rfl lk_TS_127 cw_Painting_width rfl (zget hna hp.1) (ct_Pw (isPt.fr hp hna)) rfl rfl rfl rfl ?_
  refine zz_aload_n rfl rfl ?_
  refine zz_Vp rfl lk_TS_123 cw_Painting_height rfl (zget hna hp.1) (ct_Ph (isPt.fr hp hna)) rfl rfl rfl rfl ?_
  refine zz_N rfl lk_TS_26 cw_Places_init (fun E h9 h8 => by cases h8.1) (ct_Places_init (zset_same _ _ _) hh) rfl rfl rfl rfl ?_
  rintro _ _ ⟨rfl, nr, hnr0, rfl⟩
  obtain ⟨hnr, hne⟩ := zset_none hnr0
  refine zaft_u ?_
  refine Ev.heap (zset_mid h _ _ _ hne.symm) ?_
  refine zz_astore_n rfl rfl rfl ?_
  refine zz_iconst rfl ?_
  refine zz_istore rfl rfl rfl ?_
  have hnn : ∀ e, zset h nr e na = none := fun e => zset_nn hna hne.symm
  have hN : isPl (zset (zset h nr (zi 0 ht (zcn (fun _ => 0)))) na (zo 2 [zI w, .ref nr])) na nr w ht (fun _ => 0) := ⟨zset_same _ _ _, by rw [zset_ne hne, zset_same]⟩
  refine Ev.heap (show _ = zset (zset (zset h nr (zi 0 ht (zcn (fun _ => 0)))) na (zo 2 [zI w, .ref nr])) nr (zi 0 ht (zcn (zrs (fun j i => decide (zhp R w ht (i : Int) (j : Int) ∧ zak (zldt f w ht (i : Int) (j : Int)) wt tol)) w 0 0))) from by rw [← zrs_0, zset_id hN.2]) ?_
  refine lp_alike_o (isPt.fr (isPt.fr hp hnr) (hnn _)) hh hw hR hN (zne hnr hp.2.2.1.2).symm (zne hnr hp.2.2.2.1.2).symm (zne hnr hp.2.2.2.2.1).symm htol ?_ ht 0 (by omega) (by omega)
  refine zz_aload_n rfl rfl ?_
  refine zz_aret rfl rfl (Or.inl ⟨_, rfl⟩) (Or.inr ⟨_, rfl⟩) ⟨na, nr, hna, hnr, hne.symm, rfl, zset_low h _ _ _ hne.symm⟩
theorem lp_disc_i {a ra w ht : Nat} {R R1 : Nat → Nat} {mx my r : Int} (hp : isPl h a ra w ht R1) (hh : ht ≤ 24) (hw : w ≤ 24) (hmx : -1000 ≤ mx ∧ mx ≤ 1000) (hmy : -1000 ≤ my ∧ my ≤ 1000) (hr : 0 ≤ r ∧ r ≤ 7) {MC MS mc ms : Nat} {Q : ZR → ZH → Prop} {dy : Int} (hdy : -r ≤ dy ∧ dy ≤ r) (kx : ∀ R2, zcv R R2 w ht (zdi mx my r dy (r + 1)) → Ev Z (fun _ => True, m_TS_addDisc, 2, MC, MS) 55 [.ref a, zI mx, zI my, zI r, zI (dy), zI (r + 1)] [] (zset h ra (zi 0 ht (zcn R2))) mc ms Q) : ∀ (m : Nat) (dx : Int) (R2 : Nat → Nat), -r ≤ dx → dx + m = r + 1 → zcv R R2 w ht (zdi mx my r dy dx) → Ev Z (fun _ => True, m_TS_addDisc, 2, MC, MS) 14 [.ref a, zI mx, zI my, zI r, zI (dy), zI (dx)] [] (zset h ra (zi 0 ht (zcn R2))) mc ms Q := by
  intro m
  induction m with
  | zero =>
    intro dx R2 hd0 hdn hcv
    refine zz_iload rfl rfl ?_
    refine zz_iload_n rfl rfl ?_
    refine zz_icmp_gt rfl (by omega) (by omega) (fun hb17 => ?_) (fun hb17 => absurd hb17 (by omega))
    obtain rfl : dx = r + 1 := by omega
    exact kx R2 hcv
  | succ m ih =>
    intro dx R2 hd0 hdn hcv
    have hs1 := zsq (a := dx) (B := 7) ⟨by omega, by omega⟩
    have hs2 := zsq (a := dy) (B := 7) ⟨by omega, by omega⟩
    have hs3 := zsq (a := r) (B := 7) ⟨by omega, by omega⟩
    have hS1 : ¬ dx * dx + dy * dy ≤ r * r → ∀ i j : Nat, i < w → j < ht → (zdi mx my r dy (dx + 1) i j ↔ zdi mx my r dy dx i j) := by
      intro hno i j hi hj
      unfold zdi
      constructor
      · rintro ⟨h1, h2⟩
        refine ⟨?_, h2⟩
        by_cases h3 : (j : Int) - my = dy ∧ (i : Int) - mx = dx
        · exfalso
          have h4 : ((i : Int) - mx) * ((i : Int) - mx) + ((j : Int) - my) * ((j : Int) - my) ≤ r * r := h2
          rw [h3.1, h3.2] at h4
          exact hno h4
        · omega
      · rintro ⟨h1, h2⟩
        exact ⟨by omega, h2⟩
    have hS2 : dx * dx + dy * dy ≤ r * r → ∀ i j : Nat, i < w → j < ht → (zdi mx my r dy (dx + 1) i j ↔ zdi mx my r dy dx i j ∨ ((i : Int) = mx + dx ∧ (j : Int) = my + dy)) := by
      intro hyes i j hi hj
      unfold zdi
      constructor
      · rintro ⟨h1, h2⟩
        by_cases h3 : (j : Int) - my = dy ∧ (i : Int) - mx = dx
        · exact Or.inr ⟨by omega, by omega⟩
        · exact Or.inl ⟨by omega, h2⟩
      · rintro (⟨h1, h2⟩ | ⟨h1, h2⟩)
        · exact ⟨by omega, h2⟩
        · refine ⟨by omega, ?_⟩
          have h3 : (j : Int) - my = dy := by omega
          have h4 : (i : Int) - mx = dx := by omega
          show ((i : Int) - mx) * ((i : Int) - mx) + ((j : Int) - my) * ((j : Int) - my) ≤ r * r
          rw [h3, h4]
          exact hyes
    refine zz_iload rfl rfl ?_
    refine zz_iload_n rfl rfl ?_
    refine zz_icmp_gt rfl (by omega) (by omega) (fun hb17 => absurd hb17 (by omega)) (fun hb17 => ?_)
    refine zz_iload rfl rfl ?_
    refine zz_iload rfl rfl ?_
    refine zz_imul rfl ?_
    refine zz_iload rfl rfl ?_
    refine zz_iload rfl rfl ?_
    refine zz_imul rfl ?_
    refine zz_iadd rfl ?_
    refine zz_iload_n rfl rfl ?_
    refine zz_iload_n rfl rfl ?_
    refine zz_imul rfl ?_
    refine zz_icmp_gt rfl (by omega) (by omega) (fun hb34 => ?_) (fun hb34 => ?_)
    · skip
      have hcv2 := hcv.same (hS1 (by omega))
      refine zz_iinc rfl rfl rfl rfl ?_
      refine zz_goto rfl ?_
      exact ih (dx + 1) R2 (by omega) (by omega) hcv2
    · skip
      refine zz_aload_n rfl rfl ?_
      refine zz_iload_n rfl rfl ?_
      refine zz_iload rfl rfl ?_
      refine zz_iadd rfl ?_
      refine zz_iload_n rfl rfl ?_
      refine zz_iload rfl rfl ?_
      refine zz_iadd rfl ?_
      refine zz_Vu rfl lk_TS_266 cw_Places_add rfl (hp.up _).1 (ct_add (hp.up R2) (x := mx + dx) (y := my + dy) ⟨by omega, by omega⟩ ⟨by omega, by omega⟩ hh hw) rfl rfl rfl rfl ?_
      by_cases hbx : zbox (mx + dx) (my + dy) w ht
      · rw [if_pos hbx, zset_set]
        refine zz_iinc rfl rfl rfl rfl ?_
        refine zz_goto rfl ?_
        exact ih (dx + 1) _ (by omega) (by omega) (hcv.add hbx (hS2 (by omega)))
      rw [if_neg hbx]
      have hcv2 := hcv.same (S' := zdi mx my r dy (dx + 1)) (fun i j hi hj => by rw [hS2 (by omega) i j hi hj]; constructor; (rintro (h1 | h1); exact h1; exact absurd (⟨by omega, by omega, by omega, by omega⟩ : zbox (mx + dx) (my + dy) w ht) hbx); exact Or.inl)
      refine zz_iinc rfl rfl rfl rfl ?_
      refine zz_goto rfl ?_
      exact ih (dx + 1) R2 (by omega) (by omega) hcv2
theorem lp_disc_o {a ra w ht : Nat} {R R1 : Nat → Nat} {mx my r : Int} (hp : isPl h a ra w ht R1) (hh : ht ≤ 24) (hw : w ≤ 24) (hmx : -1000 ≤ mx ∧ mx ≤ 1000) (hmy : -1000 ≤ my ∧ my ≤ 1000) (hr : 0 ≤ r ∧ r ≤ 7) {MC MS mc ms : Nat} {Q : ZR → ZH → Prop} (kx : ∀ R2, zcv R R2 w ht (zdi mx my r (r + 1) (-r)) → Ev Z (fun _ => True, m_TS_addDisc, 2, MC, MS) 61 [.ref a, zI mx, zI my, zI r, zI (r + 1)] [] (zset h ra (zi 0 ht (zcn R2))) mc ms Q) : ∀ (m : Nat) (dy : Int) (R2 : Nat → Nat), -r ≤ dy → dy + m = r + 1 → zcv R R2 w ht (zdi mx my r dy (-r)) → Ev Z (fun _ => True, m_TS_addDisc, 2, MC, MS) 4 [.ref a, zI mx, zI my, zI r, zI (dy)] [] (zset h ra (zi 0 ht (zcn R2))) mc ms Q := by
  intro m
  induction m with
  | zero =>
    intro dy R2 hd0 hdn hcv
    refine zz_iload rfl rfl ?_
    refine zz_iload_n rfl rfl ?_
    refine zz_icmp_gt rfl (by omega) (by omega) (fun hb7 => ?_) (fun hb7 => absurd hb7 (by omega))
    obtain rfl : dy = r + 1 := by omega
    exact kx R2 hcv
  | succ m ih =>
    intro dy R2 hd0 hdn hcv
    refine zz_iload rfl rfl ?_
    refine zz_iload_n rfl rfl ?_
    refine zz_icmp_gt rfl (by omega) (by omega) (fun hb7 => absurd hb7 (by omega)) (fun hb7 => ?_)
    refine zz_iload_n rfl rfl ?_
    refine zz_ineg rfl ?_
    refine zz_istore rfl rfl rfl ?_
    refine lp_disc_i hp hh hw hmx hmy hr ⟨hd0, by omega⟩ (fun R3 hc3 => ?_) (2 * r + 1).toNat (-r) R2 (by omega) (by omega) hcv
    refine zz_iinc rfl rfl rfl rfl ?_
    refine zz_goto rfl ?_
    refine Ev.take 5 ?_
    exact ih (dy + 1) R3 (by omega) (by omega) (hc3.same (fun i j _ _ => zdi_e hr.1 i j))
theorem ct_addDisc {a ra w ht : Nat} {R : Nat → Nat} {mx my r : Int} (hp : isPl h a ra w ht R) (hh : ht ≤ 24) (hw : w ≤ 24) (hmx : -1000 ≤ mx ∧ mx ≤ 1000) (hmy : -1000 ≤ my ∧ my ≤ 1000) (hr : 0 ≤ r ∧ r ≤ 7) (hRw : ∀ j, R j < 2 ^ w) : Ct Z m_TS_addDisc 2 0 0 [.ref a, zI mx, zI my, zI r] h (fun r9 h' => r9 = .inl none ∧ ∃ R2, zcv R R2 w ht (fun i j => zci mx my r i j) ∧ h' = zset h ra (zi 0 ht (zcn R2))) := by
  refine zct rfl (by decide) ok_TS_addDisc rfl rfl ?_
  refine zz_iload_n rfl rfl ?_
  refine zz_ineg rfl ?_
  refine zz_istore rfl rfl rfl ?_
  refine Ev.heap (zset_id hp.2).symm ?_
  refine lp_disc_o (R := R) hp hh hw hmx hmy hr (fun R2 hc2 => ?_) (2 * r + 1).toNat (-r) R (by omega) (by omega) (zcv.start hRw (fun i j _ _ h9 => ?_))
  · exact zz_vret rfl rfl ⟨rfl, R2, hc2.same (fun i j _ _ => ⟨fun h9 => ⟨by have := zci_rg hr.1 h9; omega, h9⟩, fun h9 => h9.2⟩), rfl⟩
  · have := zci_rg hr.1 h9.2
    have := h9.1
    omega
end PM
