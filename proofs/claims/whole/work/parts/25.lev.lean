section LV2
variable {Z : ZC} {h : ZH}
theorem ct_lev0 {a da w ht : Nat} {f : Nat → Int} {md op vs : Int} (hp : isLy h a da w ht f md op vs) (hh : ht ≤ 24) (hw : w ≤ 24) {x y : Int} (hx : 0 ≤ x ∧ x ≤ 247) (hy : 0 ≤ y ∧ y ≤ 247) : Ct Z m_TS_dotAtLevel 4 0 0 [.ref a, zI 0, zI x, zI y] h (zP (zI (zlv f w ht 0 x y)) h) := by
  refine zct rfl (by decide) ok_TS_dotAtLevel rfl rfl ?_
  refine zz_iload_n rfl rfl ?_
  refine zz_if_le rfl (by omega) (fun hb1 => ?_) (fun hb1 => absurd hb1 (by first | decide | omega))
  refine zz_aload_n rfl rfl ?_
  refine zz_iload_n rfl rfl ?_
  refine zz_iload_n rfl rfl ?_
  refine zz_Vp rfl lk_TS_157 cw_Layer_dotAt rfl hp.1 (ct_dotAt hp ⟨by omega, by omega⟩ ⟨by omega, by omega⟩ hh hw) rfl rfl rfl rfl ?_
  refine zz_iret rfl rfl ⟨rfl, rfl⟩
theorem ct_lev1 {a da w ht : Nat} {f : Nat → Int} {md op vs : Int} (hp : isLy h a da w ht f md op vs) (hh : ht ≤ 24) (hw : w ≤ 24) {x y : Int} (hx : 0 ≤ x ∧ x ≤ 123) (hy : 0 ≤ y ∧ y ≤ 123) : Ct Z m_TS_dotAtLevel 5 0 0 [.ref a, zI 1, zI x, zI y] h (zP (zI (zlv f w ht 1 x y)) h) := by
  refine zct rfl (by decide) ok_TS_dotAtLevel rfl rfl ?_
  refine zz_iload_n rfl rfl ?_
  refine zz_if_le rfl (by omega) (fun hb1 => absurd hb1 (by first | decide | omega)) (fun hb1 => ?_)
  refine zz_iload_n rfl rfl ?_
  refine zz_iconst rfl ?_
  refine zz_icmp_le rfl (by omega) (by omega) (fun hb6 => ?_) (fun hb6 => absurd hb6 (by first | decide | omega))
  refine zz_aload_n rfl rfl ?_
  refine zz_iload_n rfl rfl ?_
  refine zz_iconst rfl ?_
  refine zz_isub rfl ?_
  refine zz_eq (show (1 : Int) - 1 = 0 from by decide) ?_
  refine zz_iconst rfl ?_
  refine zz_iload_n rfl rfl ?_
  refine zz_imul rfl ?_
  refine zz_iconst rfl ?_
  refine zz_iload_n rfl rfl ?_
  refine zz_imul rfl ?_
  refine zz_Sp rfl lk_TS_219 cw_TS_dotAtLevel (ct_lev0 hp hh hw ⟨by omega, by omega⟩ ⟨by omega, by omega⟩) rfl rfl rfl rfl ?_
  refine zz_aload_n rfl rfl ?_
  refine zz_iload_n rfl rfl ?_
  refine zz_iconst rfl ?_
  refine zz_isub rfl ?_
  refine zz_eq (show (1 : Int) - 1 = 0 from by decide) ?_
  refine zz_iconst rfl ?_
  refine zz_iload_n rfl rfl ?_
  refine zz_imul rfl ?_
  refine zz_iconst rfl ?_
  refine zz_iadd rfl ?_
  refine zz_iconst rfl ?_
  refine zz_iload_n rfl rfl ?_
  refine zz_imul rfl ?_
  refine zz_Sp rfl lk_TS_219 cw_TS_dotAtLevel (ct_lev0 hp hh hw ⟨by omega, by omega⟩ ⟨by omega, by omega⟩) rfl rfl rfl rfl ?_
  refine zz_aload_n rfl rfl ?_
  refine zz_iload_n rfl rfl ?_
  refine zz_iconst rfl ?_
  refine zz_isub rfl ?_
  refine zz_eq (show (1 : Int) - 1 = 0 from by decide) ?_
  refine zz_iconst rfl ?_
  refine zz_iload_n rfl rfl ?_
  refine zz_imul rfl ?_
  refine zz_iconst rfl ?_
  refine zz_iload_n rfl rfl ?_
  refine zz_imul rfl ?_
  refine zz_iconst rfl ?_
  refine zz_iadd rfl ?_
  refine zz_Sp rfl lk_TS_219 cw_TS_dotAtLevel (ct_lev0 hp hh hw ⟨by omega, by omega⟩ ⟨by omega, by omega⟩) rfl rfl rfl rfl ?_
  refine zz_aload_n rfl rfl ?_
  refine zz_iload_n rfl rfl ?_
  refine zz_iconst rfl ?_
  refine zz_isub rfl ?_
  refine zz_eq (show (1 : Int) - 1 = 0 from by decide) ?_
  refine zz_iconst rfl ?_
  refine zz_iload_n rfl rfl ?_
  refine zz_imul rfl ?_
  refine zz_iconst rfl ?_
  refine zz_iadd rfl ?_
  refine zz_iconst rfl ?_
  refine zz_iload_n rfl rfl ?_
  refine zz_imul rfl ?_
  refine zz_iconst rfl ?_
  refine zz_iadd rfl ?_
  refine zz_Sp rfl lk_TS_219 cw_TS_dotAtLevel (ct_lev0 hp hh hw ⟨by omega, by omega⟩ ⟨by omega, by omega⟩) rfl rfl rfl rfl ?_
  refine zz_Sp rfl lk_TS_315 cw_Dots_merged ct_merged rfl rfl rfl rfl ?_
  refine zz_iret rfl rfl ⟨rfl, rfl⟩
theorem ct_lev2 {a da w ht : Nat} {f : Nat → Int} {md op vs : Int} (hp : isLy h a da w ht f md op vs) (hh : ht ≤ 24) (hw : w ≤ 24) {x y : Int} (hx : 0 ≤ x ∧ x ≤ 61) (hy : 0 ≤ y ∧ y ≤ 61) : Ct Z m_TS_dotAtLevel 6 0 0 [.ref a, zI 2, zI x, zI y] h (zP (zI (zlv f w ht 2 x y)) h) := by
  refine zct rfl (by decide) ok_TS_dotAtLevel rfl rfl ?_
  refine zz_iload_n rfl rfl ?_
  refine zz_if_le rfl (by omega) (fun hb1 => absurd hb1 (by first | decide | omega)) (fun hb1 => ?_)
  refine zz_iload_n rfl rfl ?_
  refine zz_iconst rfl ?_
  refine zz_icmp_le rfl (by omega) (by omega) (fun hb6 => ?_) (fun hb6 => absurd hb6 (by first | decide | omega))
  refine zz_aload_n rfl rfl ?_
  refine zz_iload_n rfl rfl ?_
  refine zz_iconst rfl ?_
  refine zz_isub rfl ?_
  refine zz_eq (show (2 : Int) - 1 = 1 from by decide) ?_
  refine zz_iconst rfl ?_
  refine zz_iload_n rfl rfl ?_
  refine zz_imul rfl ?_
  refine zz_iconst rfl ?_
  refine zz_iload_n rfl rfl ?_
  refine zz_imul rfl ?_
  refine zz_Sp rfl lk_TS_219 cw_TS_dotAtLevel (ct_lev1 hp hh hw ⟨by omega, by omega⟩ ⟨by omega, by omega⟩) rfl rfl rfl rfl ?_
  refine zz_aload_n rfl rfl ?_
  refine zz_iload_n rfl rfl ?_
  refine zz_iconst rfl ?_
  refine zz_isub rfl ?_
  refine zz_eq (show (2 : Int) - 1 = 1 from by decide) ?_
  refine zz_iconst rfl ?_
  refine zz_iload_n rfl rfl ?_
  refine zz_imul rfl ?_
  refine zz_iconst rfl ?_
  refine zz_iadd rfl ?_
  refine zz_iconst rfl ?_
  refine zz_iload_n rfl rfl ?_
  refine zz_imul rfl ?_
  refine zz_Sp rfl lk_TS_219 cw_TS_dotAtLevel (ct_lev1 hp hh hw ⟨by omega, by omega⟩ ⟨by omega, by omega⟩) rfl rfl rfl rfl ?_
  refine zz_aload_n rfl rfl ?_
  refine zz_iload_n rfl rfl ?_
  refine zz_iconst rfl ?_
  refine zz_isub rfl ?_
  refine zz_eq (show (2 : Int) - 1 = 1 from by decide) ?_
  refine zz_iconst rfl ?_
  refine zz_iload_n rfl rfl ?_
  refine zz_imul rfl ?_
  refine zz_iconst rfl ?_
  refine zz_iload_n rfl rfl ?_
  refine zz_imul rfl ?_
  refine zz_iconst rfl ?_
  refine zz_iadd rfl ?_
  refine zz_Sp rfl lk_TS_219 cw_TS_dotAtLevel (ct_lev1 hp hh hw ⟨by omega, by omega⟩ ⟨by omega, by omega⟩) rfl rfl rfl rfl ?_
  refine zz_aload_n rfl rfl ?_
  refine zz_iload_n rfl rfl ?_
  refine zz_iconst rfl ?_
  refine zz_isub rfl ?_
  refine zz_eq (show (2 : Int) - 1 = 1 from by decide) ?_
  refine zz_iconst rfl ?_
  refine zz_iload_n rfl rfl ?_
  refine zz_imul rfl ?_
  refine zz_iconst rfl ?_
  refine zz_iadd rfl ?_
  refine zz_iconst rfl ?_
  refine zz_iload_n rfl rfl ?_
  refine zz_imul rfl ?_
  refine zz_iconst rfl ?_
  refine zz_iadd rfl ?_
  refine zz_Sp rfl lk_TS_219 cw_TS_dotAtLevel (ct_lev1 hp hh hw ⟨by omega, by omega⟩ ⟨by omega, by omega⟩) rfl rfl rfl rfl ?_
  refine zz_Sp rfl lk_TS_315 cw_Dots_merged ct_merged rfl rfl rfl rfl ?_
  refine zz_iret rfl rfl ⟨rfl, rfl⟩
theorem ct_lev3 {a da w ht : Nat} {f : Nat → Int} {md op vs : Int} (hp : isLy h a da w ht f md op vs) (hh : ht ≤ 24) (hw : w ≤ 24) {x y : Int} (hx : 0 ≤ x ∧ x ≤ 30) (hy : 0 ≤ y ∧ y ≤ 30) : Ct Z m_TS_dotAtLevel 7 0 0 [.ref a, zI 3, zI x, zI y] h (zP (zI (zlv f w ht 3 x y)) h) := by
  refine zct rfl (by decide) ok_TS_dotAtLevel rfl rfl ?_
  refine zz_iload_n rfl rfl ?_
  refine zz_if_le rfl (by omega) (fun hb1 => absurd hb1 (by first | decide | omega)) (fun hb1 => ?_)
  refine zz_iload_n rfl rfl ?_
  refine zz_iconst rfl ?_
  refine zz_icmp_le rfl (by omega) (by omega) (fun hb6 => ?_) (fun hb6 => absurd hb6 (by first | decide | omega))
  refine zz_aload_n rfl rfl ?_
  refine zz_iload_n rfl rfl ?_
  refine zz_iconst rfl ?_
  refine zz_isub rfl ?_
  refine zz_eq (show (3 : Int) - 1 = 2 from by decide) ?_
  refine zz_iconst rfl ?_
  refine zz_iload_n rfl rfl ?_
  refine zz_imul rfl ?_
  refine zz_iconst rfl ?_
  refine zz_iload_n rfl rfl ?_
  refine zz_imul rfl ?_
  refine zz_Sp rfl lk_TS_219 cw_TS_dotAtLevel (ct_lev2 hp hh hw ⟨by omega, by omega⟩ ⟨by omega, by omega⟩) rfl rfl rfl rfl ?_
  refine zz_aload_n rfl rfl ?_
  refine zz_iload_n rfl rfl ?_
  refine zz_iconst rfl ?_
  refine zz_isub rfl ?_
  refine zz_eq (show (3 : Int) - 1 = 2 from by decide) ?_
  refine zz_iconst rfl ?_
  refine zz_iload_n rfl rfl ?_
  refine zz_imul rfl ?_
  refine zz_iconst rfl ?_
  refine zz_iadd rfl ?_
  refine zz_iconst rfl ?_
  refine zz_iload_n rfl rfl ?_
  refine zz_imul rfl ?_
  refine zz_Sp rfl lk_TS_219 cw_TS_dotAtLevel (ct_lev2 hp hh hw ⟨by omega, by omega⟩ ⟨by omega, by omega⟩) rfl rfl rfl rfl ?_
  refine zz_aload_n rfl rfl ?_
  refine zz_iload_n rfl rfl ?_
  refine zz_iconst rfl ?_
  refine zz_isub rfl ?_
  refine zz_eq (show (3 : Int) - 1 = 2 from by decide) ?_
  refine zz_iconst rfl ?_
  refine zz_iload_n rfl rfl ?_
  refine zz_imul rfl ?_
  refine zz_iconst rfl ?_
  refine zz_iload_n rfl rfl ?_
  refine zz_imul rfl ?_
  refine zz_iconst rfl ?_
  refine zz_iadd rfl ?_
  refine zz_Sp rfl lk_TS_219 cw_TS_dotAtLevel (ct_lev2 hp hh hw ⟨by omega, by omega⟩ ⟨by omega, by omega⟩) rfl rfl rfl rfl ?_
  refine zz_aload_n rfl rfl ?_
  refine zz_iload_n rfl rfl ?_
  refine zz_iconst rfl ?_
  refine zz_isub rfl ?_
  refine zz_eq (show (3 : Int) - 1 = 2 from by decide) ?_
  refine zz_iconst rfl ?_
  refine zz_iload_n rfl rfl ?_
  refine zz_imul rfl ?_
  refine zz_iconst rfl ?_
  refine zz_iadd rfl ?_
  refine zz_iconst rfl ?_
  refine zz_iload_n rfl rfl ?_
  refine zz_imul rfl ?_
  refine zz_iconst rfl ?_
  refine zz_iadd rfl ?_
  refine zz_Sp rfl lk_TS_219 cw_TS_dotAtLevel (ct_lev2 hp hh hw ⟨by omega, by omega⟩ ⟨by omega, by omega⟩) rfl rfl rfl rfl ?_
  refine zz_Sp rfl lk_TS_315 cw_Dots_merged ct_merged rfl rfl rfl rfl ?_
  refine zz_iret rfl rfl ⟨rfl, rfl⟩
theorem ct_requirePlace {a la sa w ht : Nat} {k x y : Int} (hp : h a = some (zo 4 [zI w, zI ht, .ref la, .ref sa])) (hw : w ≤ 24) (hh : ht ≤ 24) (hk : 0 ≤ k ∧ k ≤ 3) (hx : zrg x) (hy : zrg y) : Ct Z m_TS_requirePlace 1 1 6 [.ref a, zI k, zI x, zI y] h (zRq ((0 ≤ x ∧ x ≤ zhv w k - 1) ∧ 0 ≤ y ∧ y ≤ zhv ht k - 1) zIOB h) := by
  have g1 := zhv_rg (n := w) (k := k) ⟨by omega, by omega⟩ hk
  have g2 := zhv_rg (n := ht) (k := k) ⟨by omega, by omega⟩ hk
  refine zct rfl (by decide) ok_TS_requirePlace rfl rfl ?_
  refine zz_iload_n rfl rfl ?_
  refine zz_iconst rfl ?_
  refine zz_aload_n rfl rfl ?_
  refine zz_getf rfl fl_TS_59 hp rfl ?_
  refine zz_iload_n rfl rfl ?_
  refine zz_Sp rfl lk_TS_248 cw_TS_sideAtLevel (ct_sideAtLevel ⟨by omega, by omega⟩ hk) rfl rfl rfl rfl ?_
  refine zz_iconst rfl ?_
  refine zz_isub rfl ?_
  refine zz_Sp rfl lk_TS_16 cw_TS_isWithin (ct_isWithin ⟨by omega, by omega⟩ (by decide) ⟨by omega, by omega⟩) rfl rfl rfl rfl ?_
  refine zz_ifB_eq rfl (fun hb15 => ?_) (fun hb15 => ?_)
  · skip
    refine zz_throw th_TS_251 rfl rfl rfl rfl rfl rfl ⟨rfl, Or.inr ⟨fun h9 => hb15 h9.1, rfl⟩⟩
  · skip
    refine zz_iload_n rfl rfl ?_
    refine zz_iconst rfl ?_
    refine zz_aload_n rfl rfl ?_
    refine zz_getf rfl fl_TS_63 hp rfl ?_
    refine zz_iload_n rfl rfl ?_
    refine zz_Sp rfl lk_TS_248 cw_TS_sideAtLevel (ct_sideAtLevel ⟨by omega, by omega⟩ hk) rfl rfl rfl rfl ?_
    refine zz_iconst rfl ?_
    refine zz_isub rfl ?_
    refine zz_Sp rfl lk_TS_16 cw_TS_isWithin (ct_isWithin ⟨by omega, by omega⟩ (by decide) ⟨by omega, by omega⟩) rfl rfl rfl rfl ?_
    refine zz_ifB_ne rfl (fun hb33 => ?_) (fun hb33 => ?_)
    · skip
      refine zz_vret rfl rfl ⟨rfl, Or.inl ⟨⟨hb15, hb33⟩, rfl⟩⟩
    · skip
      refine zz_throw th_TS_251 rfl rfl rfl rfl rfl rfl ⟨rfl, Or.inr ⟨fun h9 => hb33 h9.2, rfl⟩⟩
theorem zldt_rg {f : Nat → Int} {w ht : Nat} (hf : ∀ i, zrg (f i)) (x y : Int) : zrg (zldt f w ht x y) := by
  unfold zldt
  split
  · exact hf _
  · decide
theorem lp_tiles_i {a da w ht : Nat} {f : Nat → Int} {md op vs : Int} (hp : isLy h a da w ht f md op vs) (hh : ht ≤ 24) (hw : w ≤ 24) (hf : ∀ i, zrg (f i)) {MC MS mc ms : Nat} {Q : ZR → ZH → Prop} {y : Int} (hy : 0 ≤ y ∧ y < ht) (kx : ∀ M, ztm2 M (zta (fun i j => zldt f w ht (i : Int) (j : Int)) w y w) → Ev Z (fun _ => True, m_Layer_fullTiles, 2, MC, MS) 53 [.ref a, zI (M : Nat), zI y, zI w] [] h mc ms Q) : ∀ (m : Nat) (x : Int) (M : Nat), 0 ≤ x → x + m = w → ztm2 M (zta (fun i j => zldt f w ht (i : Int) (j : Int)) w y x) → Ev Z (fun _ => True, m_Layer_fullTiles, 2, MC, MS) 14 [.ref a, zI (M : Nat), zI y, zI x] [] h mc ms Q := by
  intro m
  induction m with
  | zero =>
    intro x M hx0 hxn hM
    refine zz_iload_n rfl rfl ?_
    refine zz_aload_n rfl rfl ?_
    refine zz_getf rfl fl_Layer_9 hp.1 rfl ?_
    refine zz_icmp_ge rfl (by omega) (by omega) (fun hb19 => ?_) (fun hb19 => absurd hb19 (by omega))
    obtain rfl : x = (w : Int) := by omega
    exact kx M hM
  | succ m ih =>
    intro x M hx0 hxn hM
    have hM0 := hM.1
    have hxt : ((x.toNat : Nat) : Int) = x := Int.toNat_of_nonneg hx0
    have hyt : ((y.toNat : Nat) : Int) = y := Int.toNat_of_nonneg hy.1
    have hs := fun t => zta_s (D := (fun i j => zldt f w ht (i : Int) (j : Int))) (w := w) (y := y) (x := x) ⟨hx0, by omega⟩ hy.1 t
    refine zz_iload_n rfl rfl ?_
    refine zz_aload_n rfl rfl ?_
    refine zz_getf rfl fl_Layer_9 hp.1 rfl ?_
    refine zz_icmp_ge rfl (by omega) (by omega) (fun hb19 => absurd hb19 (by omega)) (fun hb19 => ?_)
    refine zz_aload_n rfl rfl ?_
    refine zz_iload_n rfl rfl ?_
    refine zz_iload_n rfl rfl ?_
    refine zz_Vp rfl lk_Layer_39 cw_Layer_dotAt rfl hp.1 (ct_dotAt hp ⟨by omega, by omega⟩ ⟨by omega, by omega⟩ hh hw) rfl rfl rfl rfl ?_
    refine zz_if_eq rfl (zldt_rg hf _ _) (fun hb28 => ?_) (fun hb28 => ?_)
    · skip
      have hM2 : ztm2 M (zta (fun i j => zldt f w ht (i : Int) (j : Int)) w y (x + 1)) := hM.same (fun t => by rw [hs t]; constructor; (rintro (h1 | ⟨h1, h2⟩); exact h1; exact absurd (show zldt f w ht ((x.toNat : Nat) : Int) ((y.toNat : Nat) : Int) = 0 from by rw [hxt, hyt]; exact hb28) h1); exact Or.inl)
      refine zz_iinc rfl rfl rfl rfl ?_
      refine zz_goto rfl ?_
      exact ih (x + 1) _ (by omega) (by omega) hM2
    · skip
      refine zz_iload_n rfl rfl ?_
      refine zz_iconst rfl ?_
      refine zz_iload_n rfl rfl ?_
      refine zz_bipush rfl (by decide) ?_
      refine zz_idivP rfl (by omega) (by omega) ?_
      refine zz_iconst rfl ?_
      refine zz_imul rfl ?_
      refine zz_iload_n rfl rfl ?_
      refine zz_bipush rfl (by decide) ?_
      refine zz_idivP rfl (by omega) (by omega) ?_
      refine zz_iadd rfl ?_
      refine zz_ishl rfl (by omega) ?_
      refine zz_ior rfl (show _ = Int32.ofInt ((M ||| 2 ^ (y.toNat / 8 * 3 + x.toNat / 8) : Nat) : Int) from by rw [← zq_or]; congr 2; rw [Int.one_mul, show (y / 8 * 3 + x / 8).toNat = (y.toNat / 8 * 3 + x.toNat / 8) from by omega]; simp) ?_
      refine zz_istore_n rfl rfl rfl ?_
      have hM2 : ztm2 (M ||| 2 ^ (y.toNat / 8 * 3 + x.toNat / 8)) (zta (fun i j => zldt f w ht (i : Int) (j : Int)) w y (x + 1)) := hM.add (by omega) (fun t => by rw [hs t]; constructor; (rintro (h1 | ⟨h1, h2⟩); exact Or.inl h1; exact Or.inr h2); (rintro (h1 | h1); exact Or.inl h1; exact Or.inr ⟨show zldt f w ht ((x.toNat : Nat) : Int) ((y.toNat : Nat) : Int) ≠ 0 from by rw [hxt, hyt]; exact hb28, h1⟩))
      refine zz_iinc rfl rfl rfl rfl ?_
      refine zz_goto rfl ?_
      exact ih (x + 1) _ (by omega) (by omega) hM2
theorem lp_tiles_o {a da w ht : Nat} {f : Nat → Int} {md op vs : Int} (hp : isLy h a da w ht f md op vs) (hh : ht ≤ 24) (hw : w ≤ 24) (hf : ∀ i, zrg (f i)) {MC MS mc ms : Nat} {Q : ZR → ZH → Prop} (kx : ∀ M, ztm2 M (zta (fun i j => zldt f w ht (i : Int) (j : Int)) w ht 0) → Ev Z (fun _ => True, m_Layer_fullTiles, 2, MC, MS) 59 [.ref a, zI (M : Nat), zI ht] [] h mc ms Q) : ∀ (m : Nat) (y : Int) (M : Nat), 0 ≤ y → y + m = ht → ztm2 M (zta (fun i j => zldt f w ht (i : Int) (j : Int)) w y 0) → Ev Z (fun _ => True, m_Layer_fullTiles, 2, MC, MS) 4 [.ref a, zI (M : Nat), zI y] [] h mc ms Q := by
  intro m
  induction m with
  | zero =>
    intro y M hy0 hyn hM
    refine zz_iload_n rfl rfl ?_
    refine zz_aload_n rfl rfl ?_
    refine zz_getf rfl fl_Layer_15 hp.1 rfl ?_
    refine zz_icmp_ge rfl (by omega) (by omega) (fun hb9 => ?_) (fun hb9 => absurd hb9 (by omega))
    obtain rfl : y = (ht : Int) := by omega
    exact kx M hM
  | succ m ih =>
    intro y M hy0 hyn hM
    refine zz_iload_n rfl rfl ?_
    refine zz_aload_n rfl rfl ?_
    refine zz_getf rfl fl_Layer_15 hp.1 rfl ?_
    refine zz_icmp_ge rfl (by omega) (by omega) (fun hb9 => absurd hb9 (by omega)) (fun hb9 => ?_)
    refine zz_iconst rfl ?_
    refine zz_istore_n rfl rfl rfl ?_
    refine lp_tiles_i hp hh hw hf ⟨hy0, by omega⟩ (fun M2 hM2 => ?_) w 0 M (by omega) (by omega) hM
    refine zz_iinc rfl rfl rfl rfl ?_
    refine zz_goto rfl ?_
    refine Ev.take 3 ?_
    exact ih (y + 1) M2 (by omega) (by omega) (hM2.same (fun t => zta_e _ w y t))
theorem ct_Lfull {a da w ht : Nat} {f : Nat → Int} {md op vs : Int} (hp : isLy h a da w ht f md op vs) (hh : ht ≤ 24) (hw : w ≤ 24) (hf : ∀ i, zrg (f i)) : Ct Z m_Layer_fullTiles 2 0 0 [.ref a] h (zP (zI (ztl (fun i j => zldt f w ht (i : Int) (j : Int)) w ht)) h) := by
  refine zct rfl (by decide) ok_Layer_fullTiles rfl rfl ?_
  refine zz_iconst rfl ?_
  refine zz_istore_n rfl rfl rfl ?_
  refine zz_iconst rfl ?_
  refine zz_istore_n rfl rfl rfl ?_
  refine lp_tiles_o hp hh hw hf (fun M hM => ?_) ht 0 0 (by omega) (by omega) ⟨by decide, fun t => ?_⟩
  · have hM0 := hM.1
    have hc : zcb M 24 = ztl (fun i j => zldt f w ht (i : Int) (j : Int)) w ht := (hM.same (fun t => (zta_n (fun i j => zldt f w ht (i : Int) (j : Int)) w ht t).symm)).cnt
    refine zz_iload_n rfl rfl ?_
    refine zz_Sp rfl lk_Layer_43 cw_Int_bitCount (ct_bitCount (by omega)) rfl rfl rfl rfl ?_
    refine zz_iret rfl rfl (zret_e (by rw [hc]))
  · rw [Nat.zero_testBit]
    constructor
    · intro h9; cases h9
    · rintro ⟨i, j, h1, h2, h3⟩
      omega
noncomputable def zfl (D : Nat → Nat → Nat → Int) (w ht : Nat) : Nat → Nat
  | 0 => 0
  | n + 1 => zfl D w ht n + ztl (D n) w ht
theorem ztl_le (D : Nat → Nat → Int) (w ht : Nat) : ztl D w ht ≤ 9 := zc1_le _ 9
theorem ztl_congr {D D2 : Nat → Nat → Int} {w ht : Nat} (h : ∀ i j, i < w → j < ht → D i j = D2 i j) : ztl D w ht = ztl D2 w ht := by
  unfold ztl
  refine zc1_congr 9 (fun t _ => ?_)
  refine zBool_eq ?_
  rw [zBool_t]
  unfold ztx
  constructor
  · rintro ⟨i, j, h1, h2, h3, h4⟩
    exact ⟨i, j, h1, h2, by rw [← h i j h1 h2]; exact h3, h4⟩
  · rintro ⟨i, j, h1, h2, h3, h4⟩
    exact ⟨i, j, h1, h2, by rw [h i j h1 h2]; exact h3, h4⟩
theorem lp_pf {a la sa n w ht : Nat} {lf : Nat → Value} {D : Nat → Nat → Nat → Int} (hp : h a = some (zo 4 [zI w, zI ht, .ref la, .ref sa])) (hl : h la = some (za 3 n lf)) (hn : n ≤ 3) (hh : ht ≤ 24) (hw : w ≤ 24) (hL : ∀ i, i < n → ∃ b da f md op vs, lf i = .ref b ∧ isLy h b da w ht f md op vs ∧ (∀ k, zrg (f k)) ∧ ∀ x y : Nat, x < w → y < ht → zldt f w ht x y = D i x y) {MC MS mc ms : Nat} {Q : ZR → ZH → Prop} (kx : Ev Z (fun _ => True, m_Picture_fullTiles, 3, MC, MS) 31 [.ref a, zI (zfl D w ht n : Nat), zI n] [] h mc ms Q) : ∀ (m k : Nat), k + m = n → zfl D w ht k ≤ 9 * k → Ev Z (fun _ => True, m_Picture_fullTiles, 3, MC, MS) 4 [.ref a, zI (zfl D w ht k : Nat), zI k] [] h mc ms Q := by
  intro m
  induction m with
  | zero =>
    intro k hkn hk9
    refine zz_iload_n rfl rfl ?_
    refine zz_aload_n rfl rfl ?_
    refine zz_getf rfl fl_Picture_16 hp rfl ?_
    refine zz_alenA rfl (Or.inl ⟨rfl, rfl⟩) hl ?_
    refine zz_icmp_ge rfl (by omega) (by omega) (fun hb10 => ?_) (fun hb10 => absurd hb10 (by omega))
    obtain rfl : k = n := by omega
    exact kx
  | succ m ih =>
    intro k hkn hk9
    obtain ⟨b, da, f, md, op, vs, hb1, hb2, hb3, hb4⟩ := hL k (by omega)
    have hte := ztl_le (fun i j => zldt f w ht (i : Int) (j : Int)) w ht
    refine zz_iload_n rfl rfl ?_
    refine zz_aload_n rfl rfl ?_
    refine zz_getf rfl fl_Picture_16 hp rfl ?_
    refine zz_alenA rfl (Or.inl ⟨rfl, rfl⟩) hl ?_
    refine zz_icmp_ge rfl (by omega) (by omega) (fun hb10 => absurd hb10 (by omega)) (fun hb10 => ?_)
    refine zz_iload_n rfl rfl ?_
    refine zz_aload_n rfl rfl ?_
    refine zz_getf rfl fl_Picture_16 hp rfl ?_
    refine zz_iload_n rfl rfl ?_
    refine zz_aald rfl (Or.inl ⟨rfl, rfl⟩) hl (by omega) (by omega) ?_
    refine zz_tv (show lf (Int.toNat k) = .ref b from by rw [Int.toNat_natCast]; exact hb1) ?_
    refine zz_Vp rfl lk_Picture_33 cw_Layer_fullTiles rfl hb2.1 (ct_Lfull hb2 hh hw hb3) rfl rfl rfl rfl ?_
    refine zz_iadd rfl ?_
    have he : zfl D w ht (k + 1) = zfl D w ht k + ztl (fun i j => zldt f w ht (i : Int) (j : Int)) w ht := by show _ + ztl (D k) w ht = _; rw [ztl_congr (fun i j h1 h2 => (hb4 i j h1 h2).symm)]
    refine zz_eq (show _ = ((zfl D w ht (k + 1) : Nat) : Int) from by rw [he]; omega) ?_
    refine zz_istore_n rfl rfl rfl ?_
    refine zz_iincK ((k + 1 : Nat) : Int) rfl rfl rfl rfl (by omega) ?_
    refine zz_goto rfl ?_
    exact ih (k + 1) (by omega) (by rw [he]; omega)
theorem ct_Pfull {a la sa n w ht : Nat} {lf : Nat → Value} {D : Nat → Nat → Nat → Int} (hp : h a = some (zo 4 [zI w, zI ht, .ref la, .ref sa])) (hl : h la = some (za 3 n lf)) (hn : n ≤ 3) (hh : ht ≤ 24) (hw : w ≤ 24) (hL : ∀ i, i < n → ∃ b da f md op vs, lf i = .ref b ∧ isLy h b da w ht f md op vs ∧ (∀ k, zrg (f k)) ∧ ∀ x y : Nat, x < w → y < ht → zldt f w ht x y = D i x y) : Ct Z m_Picture_fullTiles 3 0 0 [.ref a] h (zP (zI (zfl D w ht n : Nat)) h) := by
  refine zct rfl (by decide) ok_Picture_fullTiles rfl rfl ?_
  refine zz_iconst rfl ?_
  refine zz_istore_n rfl rfl rfl ?_
  refine zz_iconst rfl ?_
  refine zz_istore_n rfl rfl rfl ?_
  exact lp_pf hp hl hn hh hw hL (zz_iload_n rfl rfl (zz_iret rfl rfl ⟨rfl, rfl⟩)) n 0 (by omega) (Nat.le_refl _)
end LV2
