section BM
variable {Z : ZC} {h : ZH}
theorem tl_blur_i {p pc la sa ra bf da af w ht : Nat} {pos : Int} {R : Nat → Nat} {f : Nat → Int} {md op vs : Int} (hp : isPt h p pc la sa ra bf da af w ht pos R f f md op vs) (hh : ht ≤ 24) (hw : w ≤ 24) (hR : ∀ j, R j < 16777216) {x0 sm : Nat} {l r : Int} {old : Nat → Int} (hr : 1 ≤ r ∧ r ≤ 4) (ho : ∀ k, 0 ≤ old k ∧ old k ≤ (2 * r + 1) * 255) {MC MS mc ms : Nat} {Q : ZR → ZH → Prop} {y : Int} (hy : 0 ≤ y ∧ y < ht) (hs : h sm = some (zi 0 (4 * w) (zcls2 f w ht (y - r) (2 * r + 1).toNat old (4 * w)))) (hsa : sm ≠ af) (kx : Ev Z (fun _ => True, m_TS_blur, 4, MC, MS) 83 [.ref x0, zI l, zI r, .ref p, .ref sm, zI y, zI w] [] (zset h af (zi 0 (w * ht) (zpt f w R (fun x y => zbd f w ht r (x : Int) (y : Int)) (y * w + w).toNat))) mc ms Q) : ∀ (m : Nat) (x : Int), 0 ≤ x → x + m = w → Ev Z (fun _ => True, m_TS_blur, 4, MC, MS) 52 [.ref x0, zI l, zI r, .ref p, .ref sm, zI y, zI x] [] (zset h af (zi 0 (w * ht) (zpt f w R (fun x y => zbd f w ht r (x : Int) (y : Int)) (y * w + x).toNat))) mc ms Q := by
  intro m
  induction m with
  | zero =>
    intro x hx0 hxn
    refine zz_iload rfl rfl ?_
    refine zz_aload_n rfl rfl ?_
    refine zz_Vp rfl lk_TS_127 cw_Painting_width rfl (hp.up _).1 (ct_Pw (hp.up _)) rfl rfl rfl rfl ?_
    refine zz_icmp_ge rfl (by omega) (by omega) (fun hb58 => ?_) (fun hb58 => absurd hb58 (by omega))
    obtain rfl : x = (w : Int) := by omega
    exact kx
  | succ m ih =>
    intro x hx0 hxn
    have hbx : zbox x y w ht := ⟨by omega, by omega, by omega, by omega⟩
    have hxt : ((x.toNat : Nat) : Int) = x := Int.toNat_of_nonneg hx0
    have hyt : ((y.toNat : Nat) : Int) = y := Int.toNat_of_nonneg hy.1
    refine zz_iload rfl rfl ?_
    refine zz_aload_n rfl rfl ?_
    refine zz_Vp rfl lk_TS_127 cw_Painting_width rfl (hp.up _).1 (ct_Pw (hp.up _)) rfl rfl rfl rfl ?_
    refine zz_icmp_ge rfl (by omega) (by omega) (fun hb58 => absurd hb58 (by omega)) (fun hb58 => ?_)
    refine zz_aload_n rfl rfl ?_
    refine zz_iload rfl rfl ?_
    refine zz_iload rfl rfl ?_
    refine zz_aload rfl rfl ?_
    refine zz_iload rfl rfl ?_
    refine zz_iload_n rfl rfl ?_
    refine zz_Sp rfl lk_TS_197 cw_TS_blurredDot (ct_blurredDot (show _ = some (zi 0 (4 * w) (zcls2 f w ht (y - r) (2 * r + 1).toNat old (4 * w))) from by rw [zset_ne hsa]; exact hs) hw hr ⟨hx0, by omega⟩ (zcls2_rg hr.1 ho (4 * w))) rfl rfl rfl rfl ?_
    rw [zbyte hr ⟨hx0, by omega⟩ 0 (by decide), zbyte hr ⟨hx0, by omega⟩ 1 (by decide), zbyte hr ⟨hx0, by omega⟩ 2 (by decide), zbyte hr ⟨hx0, by omega⟩ 3 (by decide)]
    refine zz_Vu rfl lk_TS_129 cw_Painting_put rfl (hp.up _).1 (ct_put (hp.up _) hh hw hR hbx) rfl rfl rfl rfl ?_
    refine Ev.heap (zput_eq hbx (show _ = zbd f w ht r ((x.toNat : Nat) : Int) ((y.toNat : Nat) : Int) from by rw [hxt, hyt]; rfl)) ?_
    refine zz_iinc rfl rfl rfl rfl ?_
    refine zz_goto rfl ?_
    exact ih (x + 1) (by omega) (by omega)
theorem tl_blur_o {p pc la sa ra bf da af w ht : Nat} {pos : Int} {R : Nat → Nat} {f : Nat → Int} {md op vs : Int} (hp : isPt h p pc la sa ra bf da af w ht pos R f f md op vs) (hh : ht ≤ 24) (hw : w ≤ 24) (hR : ∀ j, R j < 16777216) {x0 sm : Nat} {l r : Int} {old0 : Nat → Int} (hr : 1 ≤ r ∧ r ≤ 4) (hs : h sm = some (zi 0 (4 * w) old0)) (h1 : sm ≠ ra) (h2 : sm ≠ da) (h3 : sm ≠ af) {MC MS mc ms : Nat} {Q : ZR → ZH → Prop} (kx : ∀ old : Nat → Int, Ev Z (fun _ => True, m_TS_blur, 4, MC, MS) 89 [.ref x0, zI l, zI r, .ref p, .ref sm, zI ht] [] (zset (zset h sm (zi 0 (4 * w) old)) af (zi 0 (w * ht) (zpt f w R (fun x y => zbd f w ht r (x : Int) (y : Int)) ((ht : Int) * w + 0).toNat))) mc ms Q) : ∀ (m : Nat) (y : Int) (old : Nat → Int), 0 ≤ y → y + m = ht → (∀ k, 0 ≤ old k ∧ old k ≤ (2 * r + 1) * 255) → Ev Z (fun _ => True, m_TS_blur, 4, MC, MS) 28 [.ref x0, zI l, zI r, .ref p, .ref sm, zI y] [] (zset (zset h sm (zi 0 (4 * w) old)) af (zi 0 (w * ht) (zpt f w R (fun x y => zbd f w ht r (x : Int) (y : Int)) (y * w + 0).toNat))) mc ms Q := by
  intro m
  induction m with
  | zero =>
    intro y old hy0 hyn ho
    refine zz_iload rfl rfl ?_
    refine zz_aload_n rfl rfl ?_
    refine zz_Vp rfl lk_TS_123 cw_Painting_height rfl ((isPt.oth hp hs h1 h2 h3).up _).1 (ct_Ph ((isPt.oth hp hs h1 h2 h3).up _)) rfl rfl rfl rfl ?_
    refine zz_icmp_ge rfl (by omega) (by omega) (fun hb34 => ?_) (fun hb34 => absurd hb34 (by omega))
    obtain rfl : y = (ht : Int) := by omega
    exact kx old
  | succ m ih =>
    intro y old hy0 hyn ho
    refine zz_iload rfl rfl ?_
    refine zz_aload_n rfl rfl ?_
    refine zz_Vp rfl lk_TS_123 cw_Painting_height rfl ((isPt.oth hp hs h1 h2 h3).up _).1 (ct_Ph ((isPt.oth hp hs h1 h2 h3).up _)) rfl rfl rfl rfl ?_
    refine zz_icmp_ge rfl (by omega) (by omega) (fun hb34 => absurd hb34 (by omega)) (fun hb34 => ?_)
    refine zz_aload_n rfl rfl ?_
    refine zz_getf rfl fl_TS_153 ((isPt.oth hp hs h1 h2 h3).up _).1 rfl ?_
    refine zz_iload rfl rfl ?_
    refine zz_iload_n rfl rfl ?_
    refine zz_aload rfl rfl ?_
    refine zz_Su rfl lk_TS_193 cw_TS_sumColumns (ct_sumColumns (((isPt.oth hp hs h1 h2 h3).up _).2.2.2.1) hh hw (show _ = some (zi 0 (4 * w) old) from by rw [zset_ne h3, zset_same]) h2 ⟨hy0, by omega⟩ hr) rfl rfl rfl rfl ?_
    refine Ev.heap (zset_low h _ _ _ h3.symm) ?_
    refine zz_iconst rfl ?_
    refine zz_istore rfl rfl rfl ?_
    refine tl_blur_i (isPt.oth hp hs h1 h2 h3) hh hw hR hr ho ⟨hy0, by omega⟩ (zset_same _ _ _) h3 ?_ w 0 (by omega) (by omega)
    refine zz_iinc rfl rfl rfl rfl ?_
    refine zz_goto rfl ?_
    refine Ev.take 6 ?_
    refine Ev.heap (zrow_end y) ?_
    exact ih (y + 1) _ (by omega) (by omega) (zcls2_rg hr.1 ho (4 * w))
end BM
