section TL
variable {Z : ZC} {h : ZH}
theorem zstart {af w ht : Nat} {f : Nat → Int} (R : Nat → Nat) (G : Nat → Nat → Int) (haf : h af = some (zi 0 (w * ht) f)) : h = zset h af (zi 0 (w * ht) (zpt f w R G ((0 : Int) * w + 0).toNat)) := by
  have e : ((0 : Int) * w + 0).toNat = 0 := by omega
  rw [e, zpt_0, zset_id haf]
theorem tl_fill_i {p pc la sa ra bf da af w ht : Nat} {pos : Int} {R : Nat → Nat} {f : Nat → Int} {md op vs : Int} (hp : isPt h p pc la sa ra bf da af w ht pos R f f md op vs) (hh : ht ≤ 24) (hw : w ≤ 24) (hR : ∀ j, R j < 16777216) {x0 : Nat} {l d : Int} {MC MS mc ms : Nat} {Q : ZR → ZH → Prop} {y : Int} (hy : 0 ≤ y ∧ y < ht) (kx : Ev Z (fun _ => True, m_TS_fill, 4, MC, MS) 45 [.ref x0, zI l, zI d, .ref p, zI y, zI w] [] (zset h af (zi 0 (w * ht) (zpt f w R (fun _ _ => d) (y * w + w).toNat))) mc ms Q) : ∀ (m : Nat) (x : Int), 0 ≤ x → x + m = w → Ev Z (fun _ => True, m_TS_fill, 4, MC, MS) 21 [.ref x0, zI l, zI d, .ref p, zI y, zI x] [] (zset h af (zi 0 (w * ht) (zpt f w R (fun _ _ => d) (y * w + x).toNat))) mc ms Q := by
  intro m
  induction m with
  | zero =>
    intro x hx0 hxn
    refine zz_iload rfl rfl ?_
    refine zz_aload_n rfl rfl ?_
    refine zz_Vp rfl lk_TS_127 cw_Painting_width rfl (hp.up _).1 (ct_Pw (hp.up _)) rfl rfl rfl rfl ?_
    refine zz_icmp_ge rfl (by omega) (by omega) (fun hb27 => ?_) (fun hb27 => absurd hb27 (by omega))
    obtain rfl : x = (w : Int) := by omega
    exact kx
  | succ m ih =>
    intro x hx0 hxn
    refine zz_iload rfl rfl ?_
    refine zz_aload_n rfl rfl ?_
    refine zz_Vp rfl lk_TS_127 cw_Painting_width rfl (hp.up _).1 (ct_Pw (hp.up _)) rfl rfl rfl rfl ?_
    refine zz_icmp_ge rfl (by omega) (by omega) (fun hb27 => absurd hb27 (by omega)) (fun hb27 => ?_)
    have hbx : zbox x y w ht := ⟨by omega, by omega, by omega, by omega⟩
    refine zz_aload_n rfl rfl ?_
    refine zz_iload rfl rfl ?_
    refine zz_iload rfl rfl ?_
    refine zz_iload_n rfl rfl ?_
    refine zz_Vu rfl lk_TS_129 cw_Painting_put rfl (hp.up _).1 (ct_put (hp.up _) hh hw hR hbx) rfl rfl rfl rfl ?_
    refine Ev.heap (zput_eq hbx rfl) ?_
    refine zz_iinc rfl rfl rfl rfl ?_
    refine zz_goto rfl ?_
    exact ih (x + 1) (by omega) (by omega)
theorem tl_fill_o {p pc la sa ra bf da af w ht : Nat} {pos : Int} {R : Nat → Nat} {f : Nat → Int} {md op vs : Int} (hp : isPt h p pc la sa ra bf da af w ht pos R f f md op vs) (hh : ht ≤ 24) (hw : w ≤ 24) (hR : ∀ j, R j < 16777216) {x0 : Nat} {l d : Int} {MC MS mc ms : Nat} {Q : ZR → ZH → Prop} (kx : Ev Z (fun _ => True, m_TS_fill, 4, MC, MS) 51 [.ref x0, zI l, zI d, .ref p, zI ht] [] (zset h af (zi 0 (w * ht) (zpt f w R (fun _ _ => d) ((ht : Int) * w + 0).toNat))) mc ms Q) : ∀ (m : Nat) (y : Int), 0 ≤ y → y + m = ht → Ev Z (fun _ => True, m_TS_fill, 4, MC, MS) 9 [.ref x0, zI l, zI d, .ref p, zI y] [] (zset h af (zi 0 (w * ht) (zpt f w R (fun _ _ => d) (y * w + 0).toNat))) mc ms Q := by
  intro m
  induction m with
  | zero =>
    intro y hy0 hyn
    refine zz_iload rfl rfl ?_
    refine zz_aload_n rfl rfl ?_
    refine zz_Vp rfl lk_TS_123 cw_Painting_height rfl (hp.up _).1 (ct_Ph (hp.up _)) rfl rfl rfl rfl ?_
    refine zz_icmp_ge rfl (by omega) (by omega) (fun hb15 => ?_) (fun hb15 => absurd hb15 (by omega))
    obtain rfl : y = (ht : Int) := by omega
    exact kx
  | succ m ih =>
    intro y hy0 hyn
    refine zz_iload rfl rfl ?_
    refine zz_aload_n rfl rfl ?_
    refine zz_Vp rfl lk_TS_123 cw_Painting_height rfl (hp.up _).1 (ct_Ph (hp.up _)) rfl rfl rfl rfl ?_
    refine zz_icmp_ge rfl (by omega) (by omega) (fun hb15 => absurd hb15 (by omega)) (fun hb15 => ?_)
    refine zz_iconst rfl ?_
    refine zz_istore rfl rfl rfl ?_
    refine tl_fill_i hp hh hw hR  ⟨hy0, by omega⟩ ?_ w 0 (by omega) (by omega)
    refine zz_iinc rfl rfl rfl rfl ?_
    refine zz_goto rfl ?_
    refine Ev.take 5 ?_
    refine Ev.heap (zrow_end y) ?_
    exact ih (y + 1) (by omega) (by omega)
theorem tl_grad_i {p pc la sa ra bf da af w ht : Nat} {pos : Int} {R : Nat → Nat} {f : Nat → Int} {md op vs : Int} (hp : isPt h p pc la sa ra bf da af w ht pos R f f md op vs) (hh : ht ≤ 24) (hw : w ≤ 24) (hR : ∀ j, R j < 16777216) {x0 : Nat} {l fi la1 ax e : Int} (hax : 0 ≤ ax ∧ ax ≤ 1) (he0 : ax = 0 → e = w - 1) (he1 : ax ≠ 0 → e = ht - 1) {MC MS mc ms : Nat} {Q : ZR → ZH → Prop} {y : Int} (hy : 0 ≤ y ∧ y < ht) (kx : Ev Z (fun _ => True, m_TS_gradient, 4, MC, MS) 99 [.ref x0, zI l, zI fi, zI la1, zI ax, .ref p, zI e, zI y, zI w] [] (zset h af (zi 0 (w * ht) (zpt f w R (fun x y => zbt fi la1 (if ax = 0 then (x : Int) else (y : Int)) e) (y * w + w).toNat))) mc ms Q) : ∀ (m : Nat) (x : Int), 0 ≤ x → x + m = w → Ev Z (fun _ => True, m_TS_gradient, 4, MC, MS) 55 [.ref x0, zI l, zI fi, zI la1, zI ax, .ref p, zI e, zI y, zI x] [] (zset h af (zi 0 (w * ht) (zpt f w R (fun x y => zbt fi la1 (if ax = 0 then (x : Int) else (y : Int)) e) (y * w + x).toNat))) mc ms Q := by
  intro m
  induction m with
  | zero =>
    intro x hx0 hxn
    refine zz_iload rfl rfl ?_
    refine zz_aload rfl rfl ?_
    refine zz_Vp rfl lk_TS_127 cw_Painting_width rfl (hp.up _).1 (ct_Pw (hp.up _)) rfl rfl rfl rfl ?_
    refine zz_icmp_ge rfl (by omega) (by omega) (fun hb62 => ?_) (fun hb62 => absurd hb62 (by omega))
    obtain rfl : x = (w : Int) := by omega
    exact kx
  | succ m ih =>
    intro x hx0 hxn
    refine zz_iload rfl rfl ?_
    refine zz_aload rfl rfl ?_
    refine zz_Vp rfl lk_TS_127 cw_Painting_width rfl (hp.up _).1 (ct_Pw (hp.up _)) rfl rfl rfl rfl ?_
    refine zz_icmp_ge rfl (by omega) (by omega) (fun hb62 => absurd hb62 (by omega)) (fun hb62 => ?_)
    have hbx : zbox x y w ht := ⟨by omega, by omega, by omega, by omega⟩
    refine zz_aload rfl rfl ?_
    refine zz_iload rfl rfl ?_
    refine zz_iload rfl rfl ?_
    refine zz_iload_n rfl rfl ?_
    refine zz_iload_n rfl rfl ?_
    refine zz_iload rfl rfl ?_
    refine zz_if_ne rfl (by omega) (fun hb75 => ?_) (fun hb75 => ?_)
    · skip
      refine zz_iload rfl rfl ?_
      refine zz_iload rfl rfl ?_
      refine zz_Sp rfl lk_TS_136 cw_Dots_between (ct_between ⟨by omega, by have := he1 hb75; omega⟩ (by have := he1 hb75; omega)) rfl rfl rfl rfl ?_
      refine zz_Vu rfl lk_TS_129 cw_Painting_put rfl (hp.up _).1 (ct_put (hp.up _) hh hw hR hbx) rfl rfl rfl rfl ?_
      refine Ev.heap (zput_eq hbx (show _ = zbt fi la1 (if ax = 0 then ((x.toNat : Nat) : Int) else ((y.toNat : Nat) : Int)) e from by rw [if_neg hb75, Int.toNat_of_nonneg hbx.2.2.1])) ?_
      refine zz_iinc rfl rfl rfl rfl ?_
      refine zz_goto rfl ?_
      exact ih (x + 1) (by omega) (by omega)
    · skip
      refine zz_iload rfl rfl ?_
      refine zz_goto rfl ?_
      refine zz_iload rfl rfl ?_
      refine zz_Sp rfl lk_TS_136 cw_Dots_between (ct_between ⟨by omega, by have := he0 hb75; omega⟩ (by have := he0 hb75; omega)) rfl rfl rfl rfl ?_
      refine zz_Vu rfl lk_TS_129 cw_Painting_put rfl (hp.up _).1 (ct_put (hp.up _) hh hw hR hbx) rfl rfl rfl rfl ?_
      refine Ev.heap (zput_eq hbx (show _ = zbt fi la1 (if ax = 0 then ((x.toNat : Nat) : Int) else ((y.toNat : Nat) : Int)) e from by rw [if_pos hb75, Int.toNat_of_nonneg hbx.1])) ?_
      refine zz_iinc rfl rfl rfl rfl ?_
      refine zz_goto rfl ?_
      exact ih (x + 1) (by omega) (by omega)
theorem tl_grad_o {p pc la sa ra bf da af w ht : Nat} {pos : Int} {R : Nat → Nat} {f : Nat → Int} {md op vs : Int} (hp : isPt h p pc la sa ra bf da af w ht pos R f f md op vs) (hh : ht ≤ 24) (hw : w ≤ 24) (hR : ∀ j, R j < 16777216) {x0 : Nat} {l fi la1 ax e : Int} (hax : 0 ≤ ax ∧ ax ≤ 1) (he0 : ax = 0 → e = w - 1) (he1 : ax ≠ 0 → e = ht - 1) {MC MS mc ms : Nat} {Q : ZR → ZH → Prop} (kx : Ev Z (fun _ => True, m_TS_gradient, 4, MC, MS) 105 [.ref x0, zI l, zI fi, zI la1, zI ax, .ref p, zI e, zI ht] [] (zset h af (zi 0 (w * ht) (zpt f w R (fun x y => zbt fi la1 (if ax = 0 then (x : Int) else (y : Int)) e) ((ht : Int) * w + 0).toNat))) mc ms Q) : ∀ (m : Nat) (y : Int), 0 ≤ y → y + m = ht → Ev Z (fun _ => True, m_TS_gradient, 4, MC, MS) 42 [.ref x0, zI l, zI fi, zI la1, zI ax, .ref p, zI e, zI y] [] (zset h af (zi 0 (w * ht) (zpt f w R (fun x y => zbt fi la1 (if ax = 0 then (x : Int) else (y : Int)) e) (y * w + 0).toNat))) mc ms Q := by
  intro m
  induction m with
  | zero =>
    intro y hy0 hyn
    refine zz_iload rfl rfl ?_
    refine zz_aload rfl rfl ?_
    refine zz_Vp rfl lk_TS_123 cw_Painting_height rfl (hp.up _).1 (ct_Ph (hp.up _)) rfl rfl rfl rfl ?_
    refine zz_icmp_ge rfl (by omega) (by omega) (fun hb49 => ?_) (fun hb49 => absurd hb49 (by omega))
    obtain rfl : y = (ht : Int) := by omega
    exact kx
  | succ m ih =>
    intro y hy0 hyn
    refine zz_iload rfl rfl ?_
    refine zz_aload rfl rfl ?_
    refine zz_Vp rfl lk_TS_123 cw_Painting_height rfl (hp.up _).1 (ct_Ph (hp.up _)) rfl rfl rfl rfl ?_
    refine zz_icmp_ge rfl (by omega) (by omega) (fun hb49 => absurd hb49 (by omega)) (fun hb49 => ?_)
    refine zz_iconst rfl ?_
    refine zz_istore rfl rfl rfl ?_
    refine tl_grad_i hp hh hw hR hax he0 he1 ⟨hy0, by omega⟩ ?_ w 0 (by omega) (by omega)
    refine zz_iinc rfl rfl rfl rfl ?_
    refine zz_goto rfl ?_
    refine Ev.take 8 ?_
    refine Ev.heap (zrow_end y) ?_
    exact ih (y + 1) (by omega) (by omega)
theorem tl_mirr_i {p pc la sa ra bf da af w ht : Nat} {pos : Int} {R : Nat → Nat} {f : Nat → Int} {md op vs : Int} (hp : isPt h p pc la sa ra bf da af w ht pos R f f md op vs) (hh : ht ≤ 24) (hw : w ≤ 24) (hR : ∀ j, R j < 16777216) {x0 : Nat} {l ax : Int} (hax : 0 ≤ ax ∧ ax ≤ 1) {MC MS mc ms : Nat} {Q : ZR → ZH → Prop} {y : Int} (hy : 0 ≤ y ∧ y < ht) (kx : Ev Z (fun _ => True, m_TS_mirror, 4, MC, MS) 105 [.ref x0, zI l, zI ax, .ref p, zI y, zI w] [] (zset h af (zi 0 (w * ht) (zpt f w R (fun x y => zldt f w ht (if ax = 0 then (w : Int) - 1 - (x : Int) else (x : Int)) (if ax = 1 then (ht : Int) - 1 - (y : Int) else (y : Int))) (y * w + w).toNat))) mc ms Q) : ∀ (m : Nat) (x : Int), 0 ≤ x → x + m = w → Ev Z (fun _ => True, m_TS_mirror, 4, MC, MS) 30 [.ref x0, zI l, zI ax, .ref p, zI y, zI x] [] (zset h af (zi 0 (w * ht) (zpt f w R (fun x y => zldt f w ht (if ax = 0 then (w : Int) - 1 - (x : Int) else (x : Int)) (if ax = 1 then (ht : Int) - 1 - (y : Int) else (y : Int))) (y * w + x).toNat))) mc ms Q := by
  intro m
  induction m with
  | zero =>
    intro x hx0 hxn
    refine zz_iload rfl rfl ?_
    refine zz_aload_n rfl rfl ?_
    refine zz_Vp rfl lk_TS_127 cw_Painting_width rfl (hp.up _).1 (ct_Pw (hp.up _)) rfl rfl rfl rfl ?_
    refine zz_icmp_ge rfl (by omega) (by omega) (fun hb36 => ?_) (fun hb36 => absurd hb36 (by omega))
    obtain rfl : x = (w : Int) := by omega
    exact kx
  | succ m ih =>
    intro x hx0 hxn
    refine zz_iload rfl rfl ?_
    refine zz_aload_n rfl rfl ?_
    refine zz_Vp rfl lk_TS_127 cw_Painting_width rfl (hp.up _).1 (ct_Pw (hp.up _)) rfl rfl rfl rfl ?_
    refine zz_icmp_ge rfl (by omega) (by omega) (fun hb36 => absurd hb36 (by omega)) (fun hb36 => ?_)
    have hbx : zbox x y w ht := ⟨by omega, by omega, by omega, by omega⟩
    refine zz_iload_n rfl rfl ?_
    refine zz_if_ne rfl (by omega) (fun hb40 => ?_) (fun hb40 => ?_)
    · skip
      refine zz_iload rfl rfl ?_
      refine zz_istore rfl rfl rfl ?_
      refine zz_iload_n rfl rfl ?_
      refine zz_iconst rfl ?_
      refine zz_icmp_ne rfl (by omega) (by omega) (fun hb61 => ?_) (fun hb61 => ?_)
      · skip
        refine zz_iload rfl rfl ?_
        refine zz_istore rfl rfl rfl ?_
        refine zz_aload_n rfl rfl ?_
        refine zz_iload rfl rfl ?_
        refine zz_iload rfl rfl ?_
        refine zz_aload_n rfl rfl ?_
        refine zz_getf rfl fl_TS_153 (hp.up _).1 rfl ?_
        refine zz_iload rfl rfl ?_
        refine zz_iload rfl rfl ?_
        refine zz_Vp rfl lk_TS_157 cw_Layer_dotAt rfl (hp.up _).2.2.2.1.1 (ct_dotAt (hp.up _).2.2.2.1 ⟨by omega, by omega⟩ ⟨by omega, by omega⟩ hh hw) rfl rfl rfl rfl ?_
        refine zz_Vu rfl lk_TS_129 cw_Painting_put rfl (hp.up _).1 (ct_put (hp.up _) hh hw hR hbx) rfl rfl rfl rfl ?_
        refine Ev.heap (zput_eq hbx (show _ = zldt f w ht (if ax = 0 then (w : Int) - 1 - ((x.toNat : Nat) : Int) else ((x.toNat : Nat) : Int)) (if ax = 1 then (ht : Int) - 1 - ((y.toNat : Nat) : Int) else ((y.toNat : Nat) : Int)) from by rw [if_neg hb40, if_neg hb61, Int.toNat_of_nonneg hbx.1, Int.toNat_of_nonneg hbx.2.2.1])) ?_
        refine zz_iinc rfl rfl rfl rfl ?_
        refine zz_goto rfl ?_
        refine Ev.take 6 ?_
        exact ih (x + 1) (by omega) (by omega)
      · skip
        refine zz_aload_n rfl rfl ?_
        refine zz_Vp rfl lk_TS_123 cw_Painting_height rfl (hp.up _).1 (ct_Ph (hp.up _)) rfl rfl rfl rfl ?_
        refine zz_iconst rfl ?_
        refine zz_isub rfl ?_
        refine zz_iload rfl rfl ?_
        refine zz_isub rfl ?_
        refine zz_goto rfl ?_
        refine zz_istore rfl rfl rfl ?_
        refine zz_aload_n rfl rfl ?_
        refine zz_iload rfl rfl ?_
        refine zz_iload rfl rfl ?_
        refine zz_aload_n rfl rfl ?_
        refine zz_getf rfl fl_TS_153 (hp.up _).1 rfl ?_
        refine zz_iload rfl rfl ?_
        refine zz_iload rfl rfl ?_
        refine zz_Vp rfl lk_TS_157 cw_Layer_dotAt rfl (hp.up _).2.2.2.1.1 (ct_dotAt (hp.up _).2.2.2.1 ⟨by omega, by omega⟩ ⟨by omega, by omega⟩ hh hw) rfl rfl rfl rfl ?_
        refine zz_Vu rfl lk_TS_129 cw_Painting_put rfl (hp.up _).1 (ct_put (hp.up _) hh hw hR hbx) rfl rfl rfl rfl ?_
        refine Ev.heap (zput_eq hbx (show _ = zldt f w ht (if ax = 0 then (w : Int) - 1 - ((x.toNat : Nat) : Int) else ((x.toNat : Nat) : Int)) (if ax = 1 then (ht : Int) - 1 - ((y.toNat : Nat) : Int) else ((y.toNat : Nat) : Int)) from by rw [if_neg hb40, if_pos hb61, Int.toNat_of_nonneg hbx.1, Int.toNat_of_nonneg hbx.2.2.1])) ?_
        refine zz_iinc rfl rfl rfl rfl ?_
        refine zz_goto rfl ?_
        refine Ev.take 6 ?_
        exact ih (x + 1) (by omega) (by omega)
    · skip
      refine zz_aload_n rfl rfl ?_
      refine zz_Vp rfl lk_TS_127 cw_Painting_width rfl (hp.up _).1 (ct_Pw (hp.up _)) rfl rfl rfl rfl ?_
      refine zz_iconst rfl ?_
      refine zz_isub rfl ?_
      refine zz_iload rfl rfl ?_
      refine zz_isub rfl ?_
      refine zz_goto rfl ?_
      refine zz_istore rfl rfl rfl ?_
      refine zz_iload_n rfl rfl ?_
      refine zz_iconst rfl ?_
      refine zz_icmp_ne rfl (by omega) (by omega) (fun hb61 => ?_) (fun hb61 => ?_)
      · skip
        refine zz_iload rfl rfl ?_
        refine zz_istore rfl rfl rfl ?_
        refine zz_aload_n rfl rfl ?_
        refine zz_iload rfl rfl ?_
        refine zz_iload rfl rfl ?_
        refine zz_aload_n rfl rfl ?_
        refine zz_getf rfl fl_TS_153 (hp.up _).1 rfl ?_
        refine zz_iload rfl rfl ?_
        refine zz_iload rfl rfl ?_
        refine zz_Vp rfl lk_TS_157 cw_Layer_dotAt rfl (hp.up _).2.2.2.1.1 (ct_dotAt (hp.up _).2.2.2.1 ⟨by omega, by omega⟩ ⟨by omega, by omega⟩ hh hw) rfl rfl rfl rfl ?_
        refine zz_Vu rfl lk_TS_129 cw_Painting_put rfl (hp.up _).1 (ct_put (hp.up _) hh hw hR hbx) rfl rfl rfl rfl ?_
        refine Ev.heap (zput_eq hbx (show _ = zldt f w ht (if ax = 0 then (w : Int) - 1 - ((x.toNat : Nat) : Int) else ((x.toNat : Nat) : Int)) (if ax = 1 then (ht : Int) - 1 - ((y.toNat : Nat) : Int) else ((y.toNat : Nat) : Int)) from by rw [if_pos hb40, if_neg hb61, Int.toNat_of_nonneg hbx.1, Int.toNat_of_nonneg hbx.2.2.1])) ?_
        refine zz_iinc rfl rfl rfl rfl ?_
        refine zz_goto rfl ?_
        refine Ev.take 6 ?_
        exact ih (x + 1) (by omega) (by omega)
      · skip
        refine zz_aload_n rfl rfl ?_
        refine zz_Vp rfl lk_TS_123 cw_Painting_height rfl (hp.up _).1 (ct_Ph (hp.up _)) rfl rfl rfl rfl ?_
        refine zz_iconst rfl ?_
        refine zz_isub rfl ?_
        refine zz_iload rfl rfl ?_
        refine zz_isub rfl ?_
        refine zz_goto rfl ?_
        refine zz_istore rfl rfl rfl ?_
        refine zz_aload_n rfl rfl ?_
        refine zz_iload rfl rfl ?_
        refine zz_iload rfl rfl ?_
        refine zz_aload_n rfl rfl ?_
        refine zz_getf rfl fl_TS_153 (hp.up _).1 rfl ?_
        refine zz_iload rfl rfl ?_
        refine zz_iload rfl rfl ?_
        refine zz_Vp rfl lk_TS_157 cw_Layer_dotAt rfl (hp.up _).2.2.2.1.1 (ct_dotAt (hp.up _).2.2.2.1 ⟨by omega, by omega⟩ ⟨by omega, by omega⟩ hh hw) rfl rfl rfl rfl ?_
        refine zz_Vu rfl lk_TS_129 cw_Painting_put rfl (hp.up _).1 (ct_put (hp.up _) hh hw hR hbx) rfl rfl rfl rfl ?_
        refine Ev.heap (zput_eq hbx (show _ = zldt f w ht (if ax = 0 then (w : Int) - 1 - ((x.toNat : Nat) : Int) else ((x.toNat : Nat) : Int)) (if ax = 1 then (ht : Int) - 1 - ((y.toNat : Nat) : Int) else ((y.toNat : Nat) : Int)) from by rw [if_pos hb40, if_pos hb61, Int.toNat_of_nonneg hbx.1, Int.toNat_of_nonneg hbx.2.2.1])) ?_
        refine zz_iinc rfl rfl rfl rfl ?_
        refine zz_goto rfl ?_
        refine Ev.take 6 ?_
        exact ih (x + 1) (by omega) (by omega)
theorem tl_mirr_o {p pc la sa ra bf da af w ht : Nat} {pos : Int} {R : Nat → Nat} {f : Nat → Int} {md op vs : Int} (hp : isPt h p pc la sa ra bf da af w ht pos R f f md op vs) (hh : ht ≤ 24) (hw : w ≤ 24) (hR : ∀ j, R j < 16777216) {x0 : Nat} {l ax : Int} (hax : 0 ≤ ax ∧ ax ≤ 1) {MC MS mc ms : Nat} {Q : ZR → ZH → Prop} (kx : Ev Z (fun _ => True, m_TS_mirror, 4, MC, MS) 111 [.ref x0, zI l, zI ax, .ref p, zI ht] [] (zset h af (zi 0 (w * ht) (zpt f w R (fun x y => zldt f w ht (if ax = 0 then (w : Int) - 1 - (x : Int) else (x : Int)) (if ax = 1 then (ht : Int) - 1 - (y : Int) else (y : Int))) ((ht : Int) * w + 0).toNat))) mc ms Q) : ∀ (m : Nat) (y : Int), 0 ≤ y → y + m = ht → Ev Z (fun _ => True, m_TS_mirror, 4, MC, MS) 18 [.ref x0, zI l, zI ax, .ref p, zI y] [] (zset h af (zi 0 (w * ht) (zpt f w R (fun x y => zldt f w ht (if ax = 0 then (w : Int) - 1 - (x : Int) else (x : Int)) (if ax = 1 then (ht : Int) - 1 - (y : Int) else (y : Int))) (y * w + 0).toNat))) mc ms Q := by
  intro m
  induction m with
  | zero =>
    intro y hy0 hyn
    refine zz_iload rfl rfl ?_
    refine zz_aload_n rfl rfl ?_
    refine zz_Vp rfl lk_TS_123 cw_Painting_height rfl (hp.up _).1 (ct_Ph (hp.up _)) rfl rfl rfl rfl ?_
    refine zz_icmp_ge rfl (by omega) (by omega) (fun hb24 => ?_) (fun hb24 => absurd hb24 (by omega))
    obtain rfl : y = (ht : Int) := by omega
    exact kx
  | succ m ih =>
    intro y hy0 hyn
    refine zz_iload rfl rfl ?_
    refine zz_aload_n rfl rfl ?_
    refine zz_Vp rfl lk_TS_123 cw_Painting_height rfl (hp.up _).1 (ct_Ph (hp.up _)) rfl rfl rfl rfl ?_
    refine zz_icmp_ge rfl (by omega) (by omega) (fun hb24 => absurd hb24 (by omega)) (fun hb24 => ?_)
    refine zz_iconst rfl ?_
    refine zz_istore rfl rfl rfl ?_
    refine tl_mirr_i hp hh hw hR hax ⟨hy0, by omega⟩ ?_ w 0 (by omega) (by omega)
    refine zz_iinc rfl rfl rfl rfl ?_
    refine zz_goto rfl ?_
    refine Ev.take 5 ?_
    refine Ev.heap (zrow_end y) ?_
    exact ih (y + 1) (by omega) (by omega)
theorem tl_shift_i {p pc la sa ra bf da af w ht : Nat} {pos : Int} {R : Nat → Nat} {f : Nat → Int} {md op vs : Int} (hp : isPt h p pc la sa ra bf da af w ht pos R f f md op vs) (hh : ht ≤ 24) (hw : w ≤ 24) (hR : ∀ j, R j < 16777216) {x0 : Nat} {l dx dy : Int} (hdx : -100 ≤ dx ∧ dx ≤ 100) (hdy : -100 ≤ dy ∧ dy ≤ 100) {MC MS mc ms : Nat} {Q : ZR → ZH → Prop} {y : Int} (hy : 0 ≤ y ∧ y < ht) (kx : Ev Z (fun _ => True, m_TS_shift, 4, MC, MS) 69 [.ref x0, zI l, zI dx, zI dy, .ref p, zI y, zI w] [] (zset h af (zi 0 (w * ht) (zpt f w R (fun x y => zldt f w ht ((x : Int) - dx) ((y : Int) - dy)) (y * w + w).toNat))) mc ms Q) : ∀ (m : Nat) (x : Int), 0 ≤ x → x + m = w → Ev Z (fun _ => True, m_TS_shift, 4, MC, MS) 28 [.ref x0, zI l, zI dx, zI dy, .ref p, zI y, zI x] [] (zset h af (zi 0 (w * ht) (zpt f w R (fun x y => zldt f w ht ((x : Int) - dx) ((y : Int) - dy)) (y * w + x).toNat))) mc ms Q := by
  intro m
  induction m with
  | zero =>
    intro x hx0 hxn
    refine zz_iload rfl rfl ?_
    refine zz_aload rfl rfl ?_
    refine zz_Vp rfl lk_TS_127 cw_Painting_width rfl (hp.up _).1 (ct_Pw (hp.up _)) rfl rfl rfl rfl ?_
    refine zz_icmp_ge rfl (by omega) (by omega) (fun hb35 => ?_) (fun hb35 => absurd hb35 (by omega))
    obtain rfl : x = (w : Int) := by omega
    exact kx
  | succ m ih =>
    intro x hx0 hxn
    refine zz_iload rfl rfl ?_
    refine zz_aload rfl rfl ?_
    refine zz_Vp rfl lk_TS_127 cw_Painting_width rfl (hp.up _).1 (ct_Pw (hp.up _)) rfl rfl rfl rfl ?_
    refine zz_icmp_ge rfl (by omega) (by omega) (fun hb35 => absurd hb35 (by omega)) (fun hb35 => ?_)
    have hbx : zbox x y w ht := ⟨by omega, by omega, by omega, by omega⟩
    refine zz_aload rfl rfl ?_
    refine zz_iload rfl rfl ?_
    refine zz_iload rfl rfl ?_
    refine zz_aload rfl rfl ?_
    refine zz_getf rfl fl_TS_153 (hp.up _).1 rfl ?_
    refine zz_iload rfl rfl ?_
    refine zz_iload_n rfl rfl ?_
    refine zz_isub rfl ?_
    refine zz_iload rfl rfl ?_
    refine zz_iload_n rfl rfl ?_
    refine zz_isub rfl ?_
    refine zz_Vp rfl lk_TS_157 cw_Layer_dotAt rfl (hp.up _).2.2.2.1.1 (ct_dotAt (hp.up _).2.2.2.1 ⟨by omega, by omega⟩ ⟨by omega, by omega⟩ hh hw) rfl rfl rfl rfl ?_
    refine zz_Vu rfl lk_TS_129 cw_Painting_put rfl (hp.up _).1 (ct_put (hp.up _) hh hw hR hbx) rfl rfl rfl rfl ?_
    refine Ev.heap (zput_eq hbx (show _ = zldt f w ht (((x.toNat : Nat) : Int) - dx) (((y.toNat : Nat) : Int) - dy) from by rw [Int.toNat_of_nonneg hbx.1, Int.toNat_of_nonneg hbx.2.2.1])) ?_
    refine zz_iinc rfl rfl rfl rfl ?_
    refine zz_goto rfl ?_
    exact ih (x + 1) (by omega) (by omega)
theorem tl_shift_o {p pc la sa ra bf da af w ht : Nat} {pos : Int} {R : Nat → Nat} {f : Nat → Int} {md op vs : Int} (hp : isPt h p pc la sa ra bf da af w ht pos R f f md op vs) (hh : ht ≤ 24) (hw : w ≤ 24) (hR : ∀ j, R j < 16777216) {x0 : Nat} {l dx dy : Int} (hdx : -100 ≤ dx ∧ dx ≤ 100) (hdy : -100 ≤ dy ∧ dy ≤ 100) {MC MS mc ms : Nat} {Q : ZR → ZH → Prop} (kx : Ev Z (fun _ => True, m_TS_shift, 4, MC, MS) 75 [.ref x0, zI l, zI dx, zI dy, .ref p, zI ht] [] (zset h af (zi 0 (w * ht) (zpt f w R (fun x y => zldt f w ht ((x : Int) - dx) ((y : Int) - dy)) ((ht : Int) * w + 0).toNat))) mc ms Q) : ∀ (m : Nat) (y : Int), 0 ≤ y → y + m = ht → Ev Z (fun _ => True, m_TS_shift, 4, MC, MS) 15 [.ref x0, zI l, zI dx, zI dy, .ref p, zI y] [] (zset h af (zi 0 (w * ht) (zpt f w R (fun x y => zldt f w ht ((x : Int) - dx) ((y : Int) - dy)) (y * w + 0).toNat))) mc ms Q := by
  intro m
  induction m with
  | zero =>
    intro y hy0 hyn
    refine zz_iload rfl rfl ?_
    refine zz_aload rfl rfl ?_
    refine zz_Vp rfl lk_TS_123 cw_Painting_height rfl (hp.up _).1 (ct_Ph (hp.up _)) rfl rfl rfl rfl ?_
    refine zz_icmp_ge rfl (by omega) (by omega) (fun hb22 => ?_) (fun hb22 => absurd hb22 (by omega))
    obtain rfl : y = (ht : Int) := by omega
    exact kx
  | succ m ih =>
    intro y hy0 hyn
    refine zz_iload rfl rfl ?_
    refine zz_aload rfl rfl ?_
    refine zz_Vp rfl lk_TS_123 cw_Painting_height rfl (hp.up _).1 (ct_Ph (hp.up _)) rfl rfl rfl rfl ?_
    refine zz_icmp_ge rfl (by omega) (by omega) (fun hb22 => absurd hb22 (by omega)) (fun hb22 => ?_)
    refine zz_iconst rfl ?_
    refine zz_istore rfl rfl rfl ?_
    refine tl_shift_i hp hh hw hR hdx hdy ⟨hy0, by omega⟩ ?_ w 0 (by omega) (by omega)
    refine zz_iinc rfl rfl rfl rfl ?_
    refine zz_goto rfl ?_
    refine Ev.take 6 ?_
    refine Ev.heap (zrow_end y) ?_
    exact ih (y + 1) (by omega) (by omega)
end TL
