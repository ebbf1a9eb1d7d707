/-! ===== the law's rows: the script, calls of what has a table of handlers ===== -/
def lwEx (b n base : Nat) (xs : Nat → Int32) : State → Prop := fun s => va_X b n xs s s.heap ∧ b < s.heap.size ∧ b < base
section LWR
variable {Z : ZC} {F : ZF} {pc q t : Nat} {L st : List Value} {h : ZH} {mc ms : Nat} {Q : ZR → ZH → Prop}
theorem zz_sld {b n : Nat} {xs : Nat → Int32} {i : Int} (hE : F.1 = lwEx b n Z.2.2.2 xs) (hd : zT F.2.1 pc = some (.iaload, q, t)) (hn : (n : Int) < 2147483648) (hi : 0 ≤ i ∧ i < n) (kk : Ev Z F q L (zI (xs i.toNat).toInt :: st) h mc ms Q) : Ev Z F pc L (zI i :: .ref b :: st) h mc ms Q := by
  intro p e R s m args below meth c H locs cells slots ls hF hR hl hr hS hc hs
  obtain ⟨hx, hb, hml, hown, hts, hret, hlk, hnm, htb, hW, hEx, hok⟩ := id hF
  obtain ⟨h1, rfl⟩ := zdec hok hd 1 (fun _ _ => rfl)
  obtain ⟨z1, z2, z3⟩ := zin hi hn
  rw [hE] at hEx
  refine va_sld hx hb hEx.1 hEx.2.1 (Nat.not_le.mpr hEx.2.2) hS z2 h1 ?_
  rw [z1]
  have e9 : Value.int (xs i.toNat) = zI (xs i.toNat).toInt := by show _ = Value.int (Int32.ofInt _); rw [Int32.ofInt_toInt]
  rw [e9]
  exact kk p e R s m args below meth c H locs cells slots ls hF hR hl hr hS hc hs
theorem zz_slen {b n : Nat} {xs : Nat → Int32} (hE : F.1 = lwEx b n Z.2.2.2 xs) (hd : zT F.2.1 pc = some (.arraylength, q, t)) (kk : Ev Z F q L (zI n :: st) h mc ms Q) : Ev Z F pc L (.ref b :: st) h mc ms Q := by
  intro p e R s m args below meth c H locs cells slots ls hF hR hl hr hS hc hs
  obtain ⟨hx, hb, hml, hown, hts, hret, hlk, hnm, htb, hW, hEx, hok⟩ := id hF
  obtain ⟨h1, rfl⟩ := zdec hok hd 1 (fun _ _ => rfl)
  rw [hE] at hEx
  refine va_slen hx hb hEx.1 hEx.2.1 (Nat.not_le.mpr hEx.2.2) hS h1 ?_
  have e9 : Value.int (Int32.ofNat n) = zI n := by show _ = Value.int (Int32.ofInt _); rw [Int32.ofInt_eq_ofNat]
  rw [e9]
  exact kk p e R s m args below meth c H locs cells slots ls hF hR hl hr hS hc hs
theorem zz_SW {M' : MI} {d' mc' ms' n idx : Nat} {av rest : List Value} {Qy : ZR → ZH → Prop} (hd : zT F.2.1 pc = some (.invokestatic idx, q, t)) (hk : Cond.methodLink (zy F.2.1).cls idx (zy M') ∈ zG ∧ Cond.static (zy M') ∈ zG) (hw : zcw M' = .codeWith (zy M') (zcc M') (znL M') (zret M') (zhh M') ∧ zcw M' ∈ zG ∧ Cond.initialized (zy M').cls ∈ zG ∧ ((zy M').cls ≠ "java/lang/invoke/MethodHandle" ∧ (zy M').cls ≠ "java/lang/invoke/VarHandle" ∧ (parseMethodDescriptor (zy M').desc).map (fun d => d.parameters.length) = some n) ∧ znL M' ≤ 21) (hno : ∀ E h', ¬ Qy (.inr E) h') (hc9 : Ct Z M' d' mc' ms' av h Qy) (hn : av.length = n) (hst : st = av.reverse ++ rest) (h8 : Nat.ble ((rest.map fun v => v.category).sum) 8 = true) (hdd : Nat.blt d' F.2.2.1 = true)
    (kk : ∀ r h', Qy r h' → zAft Z F pc q L rest mc ms Q r h') : Ev Z F pc L st h (mc + mc') (ms + ms') Q := by
  intro p e R s m args below meth c H locs cells slots ls hF hR hl hr hS hc hs
  obtain ⟨hx, hb, hml, hown, hts, hret, hlk, hnm, htb, hW, hEx, hok⟩ := id hF
  obtain ⟨h1, rfl⟩ := zdec hok hd 3 (fun _ _ => rfl)
  obtain ⟨w1, w2, w3, w4, w5⟩ := hw
  subst hst
  have hG : GoodIn zG (va_wsS (zy F.2.1).cls idx (zy M') (zcw M' :: zG)) := by
    refine zgood (fun w hw => ?_)
    simp only [va_wsS, List.cons_append, List.nil_append, List.mem_cons] at hw
    rcases hw with rfl | rfl | rfl | rfl | hw
    · exact hk.1
    · exact hk.2
    · exact w3
    · exact w2
    · exact hw
  have cw := vx_cwSW (R := R) (mc := mc') (ms := ms') n hts hG (by rw [w1]) rfl rfl w4 (zroom (mc' := mc') (ms' := ms') hR hdd w5)
  refine zgo (zrun_of (vx_runSW ⟨hx, hb, hml, hown, hts⟩ (hc9.met hno) cw (zpre hW hr hS) rfl hn hl.1 rfl (lv_room (Nat.le_of_ble_eq_true h8)) h1 ⟨?_, ?_⟩)) hF hR hl hS hc hs kk
  · have := hR.2.2.1; omega
  · have := hR.2.2.2; omega
end LWR
theorem cl_L_13 : Cond.classLink "TileStudioLaw" 13 zIAE ∈ zG := zG_T 125 (by decide +kernel) (by decide +kernel)
theorem cl_L_19 : Cond.classLink "TileStudioLaw" 19 zISE ∈ zG := zG_T 294 (by decide +kernel) (by decide +kernel)
theorem cl_L_61 : Cond.classLink "TileStudioLaw" 61 zNSE ∈ zG := zG_T 584 (by decide +kernel) (by decide +kernel)
theorem cl_L_81 : Cond.classLink "TileStudioLaw" 81 zIOB ∈ zG := zG_T 651 (by decide +kernel) (by decide +kernel)
theorem ca_13 : (zIAE, zIAE) ∈ zcasts := by decide +kernel
theorem ca_19 : (zISE, zISE) ∈ zcasts := by decide +kernel
theorem ca_61 : (zNSE, zNSE) ∈ zcasts := by decide +kernel
theorem ca_81 : (zIOB, zIOB) ∈ zcasts := by decide +kernel
theorem nc_19 : (zISE, zIAE) ∈ znocasts := by decide +kernel
theorem nc_61 : (zNSE, zIAE) ∈ znocasts := by decide +kernel
theorem nc_81 : (zIOB, zIAE) ∈ znocasts := by decide +kernel
/-- what a wrapper leaves: its answer, the cell out, the class's state -/
def wk (h : ZH) (x o : Nat) (S : SS) (G1 G2 : Prop) (vo : Option Int) (S' : SS) : ZR → ZH → Prop := fun r h' => ∃ k : Int, r = .inl (some (zI k)) ∧ zfo o h h' ∧ (∃ f, h' o = some (za 2 1 f) ∧ (k = 0 → ∀ v, vo = some v → f 0 = zJ (v.bmod 4294967296))) ∧ ((¬ G1 ∧ k = 1 ∧ CRep h' x S) ∨ (G1 ∧ ¬ G2 ∧ k = 2 ∧ CRep h' x S) ∨ (G1 ∧ G2 ∧ k = 0 ∧ CRep h' x S'))
section WKS
variable {h h' h1 : ZH} {x o : Nat} {S S' : SS} {G1 G2 : Prop} {vo : Option Int} {f : Nat → Value}
theorem zfr.fo (hf : zfr h h') : zfo o h h' := fun q e _ hq hm => hf q e hq hm
theorem wk.a (hf : zfr h h') (ho : h o = some (za 2 1 f)) (hg : ¬ G1) (hC : CRep h' x S) : wk h x o S G1 G2 vo S' (.inl (some (zI 1))) h' := ⟨1, rfl, hf.fo, ⟨f, hf _ _ ho rfl, fun h9 => by cases h9⟩, Or.inl ⟨hg, rfl, hC⟩⟩
theorem wk.b (hf : zfr h h') (ho : h o = some (za 2 1 f)) (h1 : G1) (hg : ¬ G2) (hC : CRep h' x S) : wk h x o S G1 G2 vo S' (.inl (some (zI 2))) h' := ⟨2, rfl, hf.fo, ⟨f, hf _ _ ho rfl, fun h9 => by cases h9⟩, Or.inr (Or.inl ⟨h1, hg, rfl, hC⟩)⟩
theorem wk.c (hf : zfr h h') (ho : h o = some (za 2 1 f)) (h1 : G1) (h2 : G2) (hC : CRep h' x S') : wk h x o S G1 G2 none S' (.inl (some (zI 0))) h' := ⟨0, rfl, hf.fo, ⟨f, hf _ _ ho rfl, fun _ v h9 => by cases h9⟩, Or.inr (Or.inr ⟨h1, h2, rfl, hC⟩)⟩
theorem zcf.put {q : Nat} {e e' : ZE} (hq : h q = some e) (hm : zmd e = true) : zcf h (zset h q e') := fun r g hr hg => by
  rw [zset_ne (fun h9 => by subst h9; rw [hq] at hr; cases hr; rw [hm] at hg; cases hg)]
  exact hr
theorem wk.d {v : Int} (hf : zfr h h1) (ho : h o = some (za 2 1 f)) (g1 : G1) (g2 : G2) (hC : CRep h1 x S') : wk h x o S G1 G2 (some v) S' (.inl (some (zI 0))) (zset h1 o (za 2 1 (zuv f (0 : Int).toNat (zJ (v.bmod 4294967296))))) := by
  refine ⟨0, rfl, fun q e hqo hq hm => ?_, ⟨_, zset_same _ _ _, fun _ w h9 => ?_⟩, Or.inr (Or.inr ⟨g1, g2, rfl, hC.cf (zcf.put (hf _ _ ho rfl) rfl)⟩)⟩
  · rw [zset_ne hqo]
    exact hf q e hq hm
  · cases h9
    rfl
theorem wk.no {E : String} {h2 : ZH} : ¬ wk h x o S G1 G2 vo S' (.inr E) h2 := fun h9 => by
  obtain ⟨k, h8, -⟩ := h9
  cases h8
theorem zbm_rg (v : Int) : -2147483648 ≤ v.bmod 4294967296 ∧ v.bmod 4294967296 < 2147483648 := by
  have h1 := Int.le_bmod (x := v) (m := 4294967296) (by decide)
  have h2 := Int.bmod_lt (x := v) (m := 4294967296) (by decide)
  omega
end WKS
section WRP
variable {Z : ZC} {h : ZH}
theorem ct_L_make {x o : Nat} {fs : List Value} {f : Nat → Value} {S S' : SS} {G1 : Prop} {w e : Int} (hx : h x = some (zo 0 fs)) (ho : h o = some (za 2 1 f)) (hc : Ct Z m_TS_make 3 20 4000 [.ref x, zI w, zI e] h (fcP h x S G1 zIAE True zIAE none S')) : Ct Z m_L_make 4 20 4000 [.ref x, zI w, zI e] h (wk h x o S G1 True none S') := by
  refine zctH rfl (by decide) ok_L_make rfl rfl ?_
  refine zz_aload_n rfl rfl ?_
  refine zz_iload_n rfl rfl ?_
  refine zz_iload_n rfl rfl ?_
  refine zz_V rfl lk_L_7 cw_TS_make rfl hx hc rfl rfl rfl rfl ?_
  rintro _ h1 ⟨hf, ⟨hg, rfl, hC⟩ | ⟨hg1, hg, rfl, hC⟩ | ⟨hg1, hg2, rfl, hC⟩⟩
  · skip
    refine zaft_x (zx_catch [] (0, 6, 9, 13) [] rfl (fun z hz => by cases hz) rfl (by decide) cl_L_13 ca_13 (fun qa => ?_))
    refine zz_astore_n rfl rfl rfl ?_
    refine zz_iconst rfl ?_
    refine zz_iret rfl rfl (wk.a hf ho hg hC)
  · exact absurd trivial hg
  · skip
    refine zaft_u ?_
    refine zz_goto rfl ?_
    refine zz_iconst rfl ?_
    refine zz_iret rfl rfl (wk.c hf ho hg1 hg2 hC)
theorem ct_L_layer {x o : Nat} {fs : List Value} {f : Nat → Value} {S S' : SS} {G1 G2 : Prop} {l : Int} (hx : h x = some (zo 0 fs)) (ho : h o = some (za 2 1 f)) (hc : Ct Z m_TS_layer 2 20 4000 [.ref x, zI l] h (fcP h x S G1 zIAE G2 zISE none S')) : Ct Z m_L_layer 3 20 4000 [.ref x, zI l] h (wk h x o S G1 G2 none S') := by
  refine zctH rfl (by decide) ok_L_layer rfl rfl ?_
  refine zz_aload_n rfl rfl ?_
  refine zz_iload_n rfl rfl ?_
  refine zz_V rfl lk_L_15 cw_TS_layer rfl hx hc rfl rfl rfl rfl ?_
  rintro _ h1 ⟨hf, ⟨hg, rfl, hC⟩ | ⟨hg1, hg, rfl, hC⟩ | ⟨hg1, hg2, rfl, hC⟩⟩
  · skip
    refine zaft_x (zx_catch [] (0, 5, 8, 13) [(0, 5, 11, 19)] rfl (fun z hz => by cases hz) rfl (by decide) cl_L_13 ca_13 (fun qa => ?_))
    refine zz_astore_n rfl rfl rfl ?_
    refine zz_iconst rfl ?_
    refine zz_iret rfl rfl (wk.a hf ho hg hC)
  · skip
    refine zaft_x (zx_catch [(0, 5, 8, 13)] (0, 5, 11, 19) [] rfl (fun z hz => by rw [List.mem_singleton] at hz; subst hz; exact Or.inr ⟨by decide, _, cl_L_13, nc_19⟩) rfl (by decide) cl_L_19 ca_19 (fun qa => ?_))
    refine zz_astore_n rfl rfl rfl ?_
    refine zz_iconst rfl ?_
    refine zz_iret rfl rfl (wk.b hf ho hg1 hg hC)
  · skip
    refine zaft_u ?_
    refine zz_goto rfl ?_
    refine zz_iconst rfl ?_
    refine zz_iret rfl rfl (wk.c hf ho hg1 hg2 hC)
theorem ct_L_drop {x o : Nat} {fs : List Value} {f : Nat → Value} {S S' : SS} {G1 G2 : Prop} {l : Int} (hx : h x = some (zo 0 fs)) (ho : h o = some (za 2 1 f)) (hc : Ct Z m_TS_drop 3 20 4000 [.ref x, zI l] h (fcP h x S G1 zIAE G2 zISE none S')) : Ct Z m_L_drop 4 20 4000 [.ref x, zI l] h (wk h x o S G1 G2 none S') := by
  refine zctH rfl (by decide) ok_L_drop rfl rfl ?_
  refine zz_aload_n rfl rfl ?_
  refine zz_iload_n rfl rfl ?_
  refine zz_V rfl lk_L_21 cw_TS_drop rfl hx hc rfl rfl rfl rfl ?_
  rintro _ h1 ⟨hf, ⟨hg, rfl, hC⟩ | ⟨hg1, hg, rfl, hC⟩ | ⟨hg1, hg2, rfl, hC⟩⟩
  · skip
    refine zaft_x (zx_catch [] (0, 5, 8, 13) [(0, 5, 11, 19)] rfl (fun z hz => by cases hz) rfl (by decide) cl_L_13 ca_13 (fun qa => ?_))
    refine zz_astore_n rfl rfl rfl ?_
    refine zz_iconst rfl ?_
    refine zz_iret rfl rfl (wk.a hf ho hg hC)
  · skip
    refine zaft_x (zx_catch [(0, 5, 8, 13)] (0, 5, 11, 19) [] rfl (fun z hz => by rw [List.mem_singleton] at hz; subst hz; exact Or.inr ⟨by decide, _, cl_L_13, nc_19⟩) rfl (by decide) cl_L_19 ca_19 (fun qa => ?_))
    refine zz_astore_n rfl rfl rfl ?_
    refine zz_iconst rfl ?_
    refine zz_iret rfl rfl (wk.b hf ho hg1 hg hC)
  · skip
    refine zaft_u ?_
    refine zz_goto rfl ?_
    refine zz_iconst rfl ?_
    refine zz_iret rfl rfl (wk.c hf ho hg1 hg2 hC)
theorem ct_L_move {x o : Nat} {fs : List Value} {f : Nat → Value} {S S' : SS} {G1 : Prop} {l t : Int} (hx : h x = some (zo 0 fs)) (ho : h o = some (za 2 1 f)) (hc : Ct Z m_TS_move 3 20 4000 [.ref x, zI l, zI t] h (fcP h x S G1 zIAE True zIAE none S')) : Ct Z m_L_move 4 20 4000 [.ref x, zI l, zI t] h (wk h x o S G1 True none S') := by
  refine zctH rfl (by decide) ok_L_move rfl rfl ?_
  refine zz_aload_n rfl rfl ?_
  refine zz_iload_n rfl rfl ?_
  refine zz_iload_n rfl rfl ?_
  refine zz_V rfl lk_L_24 cw_TS_move rfl hx hc rfl rfl rfl rfl ?_
  rintro _ h1 ⟨hf, ⟨hg, rfl, hC⟩ | ⟨hg1, hg, rfl, hC⟩ | ⟨hg1, hg2, rfl, hC⟩⟩
  · skip
    refine zaft_x (zx_catch [] (0, 6, 9, 13) [] rfl (fun z hz => by cases hz) rfl (by decide) cl_L_13 ca_13 (fun qa => ?_))
    refine zz_astore_n rfl rfl rfl ?_
    refine zz_iconst rfl ?_
    refine zz_iret rfl rfl (wk.a hf ho hg hC)
  · exact absurd trivial hg
  · skip
    refine zaft_u ?_
    refine zz_goto rfl ?_
    refine zz_iconst rfl ?_
    refine zz_iret rfl rfl (wk.c hf ho hg1 hg2 hC)
theorem ct_L_mode {x o : Nat} {fs : List Value} {f : Nat → Value} {S S' : SS} {G1 : Prop} {l m op v : Int} (hx : h x = some (zo 0 fs)) (ho : h o = some (za 2 1 f)) (hc : Ct Z m_TS_mode 3 20 4000 [.ref x, zI l, zI m, zI op, zI v] h (fcP h x S G1 zIAE True zIAE none S')) : Ct Z m_L_mode 4 20 4000 [.ref x, zI l, zI m, zI op, zI v] h (wk h x o S G1 True none S') := by
  refine zctH rfl (by decide) ok_L_mode rfl rfl ?_
  refine zz_aload_n rfl rfl ?_
  refine zz_iload_n rfl rfl ?_
  refine zz_iload_n rfl rfl ?_
  refine zz_iload_n rfl rfl ?_
  refine zz_iload rfl rfl ?_
  refine zz_V rfl lk_L_27 cw_TS_mode rfl hx hc rfl rfl rfl rfl ?_
  rintro _ h1 ⟨hf, ⟨hg, rfl, hC⟩ | ⟨hg1, hg, rfl, hC⟩ | ⟨hg1, hg2, rfl, hC⟩⟩
  · skip
    refine zaft_x (zx_catch [] (0, 9, 12, 13) [] rfl (fun z hz => by cases hz) rfl (by decide) cl_L_13 ca_13 (fun qa => ?_))
    refine zz_astore rfl rfl rfl ?_
    refine zz_iconst rfl ?_
    refine zz_iret rfl rfl (wk.a hf ho hg hC)
  · exact absurd trivial hg
  · skip
    refine zaft_u ?_
    refine zz_goto rfl ?_
    refine zz_iconst rfl ?_
    refine zz_iret rfl rfl (wk.c hf ho hg1 hg2 hC)
theorem ct_L_select {x o : Nat} {fs : List Value} {f : Nat → Value} {S S' : SS} {G1 : Prop} {kd x1 y1 sz vv : Int} (hx : h x = some (zo 0 fs)) (ho : h o = some (za 2 1 f)) (hc : Ct Z m_TS_select 3 20 4000 [.ref x, zI kd, zI x1, zI y1, zI sz] h (fcP h x S G1 zIAE True zIAE (some (zI vv)) S')) : Ct Z m_L_select 4 20 4000 [.ref x, zI kd, zI x1, zI y1, zI sz, .ref o] h (wk h x o S G1 True (some vv) S') := by
  refine zctH rfl (by decide) ok_L_select rfl rfl ?_
  refine zz_aload rfl rfl ?_
  refine zz_iconst rfl ?_
  refine zz_aload_n rfl rfl ?_
  refine zz_iload_n rfl rfl ?_
  refine zz_iload_n rfl rfl ?_
  refine zz_iload_n rfl rfl ?_
  refine zz_iload rfl rfl ?_
  refine zz_V rfl lk_L_31 cw_TS_select rfl hx hc rfl rfl rfl rfl ?_
  rintro _ h1 ⟨hf, ⟨hg, rfl, hC⟩ | ⟨hg1, hg, rfl, hC⟩ | ⟨hg1, hg2, rfl, hC⟩⟩
  · skip
    refine zaft_x (zx_catch [] (0, 14, 17, 13) [] rfl (fun z hz => by cases hz) rfl (by decide) cl_L_13 ca_13 (fun qa => ?_))
    refine zz_astore rfl rfl rfl ?_
    refine zz_iconst rfl ?_
    refine zz_iret rfl rfl (wk.a hf ho hg hC)
  · exact absurd trivial hg
  · skip
    refine zaft_v ?_
    refine zz_sg ?_
    refine zz_i2l rfl (zbm_rg vv) ?_
    refine zz_last rfl (hf _ _ ho rfl) (by decide) ⟨by decide, by decide⟩ ?_
    refine zz_goto rfl ?_
    refine zz_iconst rfl ?_
    refine zz_iret rfl rfl (wk.d hf ho hg1 hg2 hC)
theorem ct_L_brush {x o : Nat} {fs : List Value} {f : Nat → Value} {S S' : SS} {G1 : Prop} {d r : Int} (hx : h x = some (zo 0 fs)) (ho : h o = some (za 2 1 f)) (hc : Ct Z m_TS_brush 1 20 4000 [.ref x, zI d, zI r] h (fcP h x S G1 zIAE True zIAE none S')) : Ct Z m_L_brush 2 20 4000 [.ref x, zI d, zI r] h (wk h x o S G1 True none S') := by
  refine zctH rfl (by decide) ok_L_brush rfl rfl ?_
  refine zz_aload_n rfl rfl ?_
  refine zz_iload_n rfl rfl ?_
  refine zz_iload_n rfl rfl ?_
  refine zz_V rfl lk_L_35 cw_TS_brush rfl hx hc rfl rfl rfl rfl ?_
  rintro _ h1 ⟨hf, ⟨hg, rfl, hC⟩ | ⟨hg1, hg, rfl, hC⟩ | ⟨hg1, hg2, rfl, hC⟩⟩
  · skip
    refine zaft_x (zx_catch [] (0, 6, 9, 13) [] rfl (fun z hz => by cases hz) rfl (by decide) cl_L_13 ca_13 (fun qa => ?_))
    refine zz_astore_n rfl rfl rfl ?_
    refine zz_iconst rfl ?_
    refine zz_iret rfl rfl (wk.a hf ho hg hC)
  · exact absurd trivial hg
  · skip
    refine zaft_u ?_
    refine zz_goto rfl ?_
    refine zz_iconst rfl ?_
    refine zz_iret rfl rfl (wk.c hf ho hg1 hg2 hC)
theorem ct_L_fill {x o : Nat} {fs : List Value} {f : Nat → Value} {S S' : SS} {G1 : Prop} {l d : Int} (hx : h x = some (zo 0 fs)) (ho : h o = some (za 2 1 f)) (hc : Ct Z m_TS_fill 4 20 4000 [.ref x, zI l, zI d] h (fcP h x S G1 zIAE True zIAE none S')) : Ct Z m_L_fill 5 20 4000 [.ref x, zI l, zI d] h (wk h x o S G1 True none S') := by
  refine zctH rfl (by decide) ok_L_fill rfl rfl ?_
  refine zz_aload_n rfl rfl ?_
  refine zz_iload_n rfl rfl ?_
  refine zz_iload_n rfl rfl ?_
  refine zz_V rfl lk_L_38 cw_TS_fill rfl hx hc rfl rfl rfl rfl ?_
  rintro _ h1 ⟨hf, ⟨hg, rfl, hC⟩ | ⟨hg1, hg, rfl, hC⟩ | ⟨hg1, hg2, rfl, hC⟩⟩
  · skip
    refine zaft_x (zx_catch [] (0, 6, 9, 13) [] rfl (fun z hz => by cases hz) rfl (by decide) cl_L_13 ca_13 (fun qa => ?_))
    refine zz_astore_n rfl rfl rfl ?_
    refine zz_iconst rfl ?_
    refine zz_iret rfl rfl (wk.a hf ho hg hC)
  · exact absurd trivial hg
  · skip
    refine zaft_u ?_
    refine zz_goto rfl ?_
    refine zz_iconst rfl ?_
    refine zz_iret rfl rfl (wk.c hf ho hg1 hg2 hC)
theorem ct_L_gradient {x o : Nat} {fs : List Value} {f : Nat → Value} {S S' : SS} {G1 : Prop} {l fi la1 ax : Int} (hx : h x = some (zo 0 fs)) (ho : h o = some (za 2 1 f)) (hc : Ct Z m_TS_gradient 4 20 4000 [.ref x, zI l, zI fi, zI la1, zI ax] h (fcP h x S G1 zIAE True zIAE none S')) : Ct Z m_L_gradient 5 20 4000 [.ref x, zI l, zI fi, zI la1, zI ax] h (wk h x o S G1 True none S') := by
  refine zctH rfl (by decide) ok_L_gradient rfl rfl ?_
  refine zz_aload_n rfl rfl ?_
  refine zz_iload_n rfl rfl ?_
  refine zz_iload_n rfl rfl ?_
  refine zz_iload_n rfl rfl ?_
  refine zz_iload rfl rfl ?_
  refine zz_V rfl lk_L_41 cw_TS_gradient rfl hx hc rfl rfl rfl rfl ?_
  rintro _ h1 ⟨hf, ⟨hg, rfl, hC⟩ | ⟨hg1, hg, rfl, hC⟩ | ⟨hg1, hg2, rfl, hC⟩⟩
  · skip
    refine zaft_x (zx_catch [] (0, 9, 12, 13) [] rfl (fun z hz => by cases hz) rfl (by decide) cl_L_13 ca_13 (fun qa => ?_))
    refine zz_astore rfl rfl rfl ?_
    refine zz_iconst rfl ?_
    refine zz_iret rfl rfl (wk.a hf ho hg hC)
  · exact absurd trivial hg
  · skip
    refine zaft_u ?_
    refine zz_goto rfl ?_
    refine zz_iconst rfl ?_
    refine zz_iret rfl rfl (wk.c hf ho hg1 hg2 hC)
theorem ct_L_stroke {x o : Nat} {fs : List Value} {f : Nat → Value} {S S' : SS} {G1 : Prop} {l fr to : Int} (hx : h x = some (zo 0 fs)) (ho : h o = some (za 2 1 f)) (hc : Ct Z m_TS_stroke 4 20 4000 [.ref x, zI l, zI fr, zI to] h (fcP h x S G1 zIAE True zIAE none S')) : Ct Z m_L_stroke 5 20 4000 [.ref x, zI l, zI fr, zI to] h (wk h x o S G1 True none S') := by
  refine zctH rfl (by decide) ok_L_stroke rfl rfl ?_
  refine zz_aload_n rfl rfl ?_
  refine zz_iload_n rfl rfl ?_
  refine zz_iload_n rfl rfl ?_
  refine zz_iload_n rfl rfl ?_
  refine zz_V rfl lk_L_45 cw_TS_stroke rfl hx hc rfl rfl rfl rfl ?_
  rintro _ h1 ⟨hf, ⟨hg, rfl, hC⟩ | ⟨hg1, hg, rfl, hC⟩ | ⟨hg1, hg2, rfl, hC⟩⟩
  · skip
    refine zaft_x (zx_catch [] (0, 7, 10, 13) [] rfl (fun z hz => by cases hz) rfl (by decide) cl_L_13 ca_13 (fun qa => ?_))
    refine zz_astore rfl rfl rfl ?_
    refine zz_iconst rfl ?_
    refine zz_iret rfl rfl (wk.a hf ho hg hC)
  · exact absurd trivial hg
  · skip
    refine zaft_u ?_
    refine zz_goto rfl ?_
    refine zz_iconst rfl ?_
    refine zz_iret rfl rfl (wk.c hf ho hg1 hg2 hC)
theorem ct_L_flood {x o : Nat} {fs : List Value} {f : Nat → Value} {S S' : SS} {G1 : Prop} {l px py d tol vv : Int} (hx : h x = some (zo 0 fs)) (ho : h o = some (za 2 1 f)) (hc : Ct Z m_TS_flood 4 20 4000 [.ref x, zI l, zI px, zI py, zI d, zI tol] h (fcP h x S G1 zIAE True zIAE (some (zI vv)) S')) : Ct Z m_L_flood 5 20 4000 [.ref x, zI l, zI px, zI py, zI d, zI tol, .ref o] h (wk h x o S G1 True (some vv) S') := by
  refine zctH rfl (by decide) ok_L_flood rfl rfl ?_
  refine zz_aload rfl rfl ?_
  refine zz_iconst rfl ?_
  refine zz_aload_n rfl rfl ?_
  refine zz_iload_n rfl rfl ?_
  refine zz_iload_n rfl rfl ?_
  refine zz_iload_n rfl rfl ?_
  refine zz_iload rfl rfl ?_
  refine zz_iload rfl rfl ?_
  refine zz_V rfl lk_L_49 cw_TS_flood rfl hx hc rfl rfl rfl rfl ?_
  rintro _ h1 ⟨hf, ⟨hg, rfl, hC⟩ | ⟨hg1, hg, rfl, hC⟩ | ⟨hg1, hg2, rfl, hC⟩⟩
  · skip
    refine zaft_x (zx_catch [] (0, 16, 19, 13) [] rfl (fun z hz => by cases hz) rfl (by decide) cl_L_13 ca_13 (fun qa => ?_))
    refine zz_astore rfl rfl rfl ?_
    refine zz_iconst rfl ?_
    refine zz_iret rfl rfl (wk.a hf ho hg hC)
  · exact absurd trivial hg
  · skip
    refine zaft_v ?_
    refine zz_sg ?_
    refine zz_i2l rfl (zbm_rg vv) ?_
    refine zz_last rfl (hf _ _ ho rfl) (by decide) ⟨by decide, by decide⟩ ?_
    refine zz_goto rfl ?_
    refine zz_iconst rfl ?_
    refine zz_iret rfl rfl (wk.d hf ho hg1 hg2 hC)
theorem ct_L_copy {x o : Nat} {fs : List Value} {f : Nat → Value} {S S' : SS} {G1 : Prop} {l vv : Int} (hx : h x = some (zo 0 fs)) (ho : h o = some (za 2 1 f)) (hc : Ct Z m_TS_copy 3 20 4000 [.ref x, zI l] h (fcP h x S G1 zIAE True zIAE (some (zI vv)) S')) : Ct Z m_L_copy 4 20 4000 [.ref x, zI l, .ref o] h (wk h x o S G1 True (some vv) S') := by
  refine zctH rfl (by decide) ok_L_copy rfl rfl ?_
  refine zz_aload_n rfl rfl ?_
  refine zz_iconst rfl ?_
  refine zz_aload_n rfl rfl ?_
  refine zz_iload_n rfl rfl ?_
  refine zz_V rfl lk_L_53 cw_TS_copy rfl hx hc rfl rfl rfl rfl ?_
  rintro _ h1 ⟨hf, ⟨hg, rfl, hC⟩ | ⟨hg1, hg, rfl, hC⟩ | ⟨hg1, hg2, rfl, hC⟩⟩
  · skip
    refine zaft_x (zx_catch [] (0, 9, 12, 13) [] rfl (fun z hz => by cases hz) rfl (by decide) cl_L_13 ca_13 (fun qa => ?_))
    refine zz_astore_n rfl rfl rfl ?_
    refine zz_iconst rfl ?_
    refine zz_iret rfl rfl (wk.a hf ho hg hC)
  · exact absurd trivial hg
  · skip
    refine zaft_v ?_
    refine zz_sg ?_
    refine zz_i2l rfl (zbm_rg vv) ?_
    refine zz_last rfl (hf _ _ ho rfl) (by decide) ⟨by decide, by decide⟩ ?_
    refine zz_goto rfl ?_
    refine zz_iconst rfl ?_
    refine zz_iret rfl rfl (wk.d hf ho hg1 hg2 hC)
theorem ct_L_paste {x o : Nat} {fs : List Value} {f : Nat → Value} {S S' : SS} {G1 G2 : Prop} {l dx dy vv : Int} (hx : h x = some (zo 0 fs)) (ho : h o = some (za 2 1 f)) (hc : Ct Z m_TS_paste 4 20 4000 [.ref x, zI l, zI dx, zI dy] h (fcP h x S G1 zIAE G2 zNSE (some (zI vv)) S')) : Ct Z m_L_paste 5 20 4000 [.ref x, zI l, zI dx, zI dy, .ref o] h (wk h x o S G1 G2 (some vv) S') := by
  refine zctH rfl (by decide) ok_L_paste rfl rfl ?_
  refine zz_aload rfl rfl ?_
  refine zz_iconst rfl ?_
  refine zz_aload_n rfl rfl ?_
  refine zz_iload_n rfl rfl ?_
  refine zz_iload_n rfl rfl ?_
  refine zz_iload_n rfl rfl ?_
  refine zz_V rfl lk_L_57 cw_TS_paste rfl hx hc rfl rfl rfl rfl ?_
  rintro _ h1 ⟨hf, ⟨hg, rfl, hC⟩ | ⟨hg1, hg, rfl, hC⟩ | ⟨hg1, hg2, rfl, hC⟩⟩
  · skip
    refine zaft_x (zx_catch [] (0, 12, 15, 13) [(0, 12, 19, 61)] rfl (fun z hz => by cases hz) rfl (by decide) cl_L_13 ca_13 (fun qa => ?_))
    refine zz_astore rfl rfl rfl ?_
    refine zz_iconst rfl ?_
    refine zz_iret rfl rfl (wk.a hf ho hg hC)
  · skip
    refine zaft_x (zx_catch [(0, 12, 15, 13)] (0, 12, 19, 61) [] rfl (fun z hz => by rw [List.mem_singleton] at hz; subst hz; exact Or.inr ⟨by decide, _, cl_L_13, nc_61⟩) rfl (by decide) cl_L_61 ca_61 (fun qa => ?_))
    refine zz_astore rfl rfl rfl ?_
    refine zz_iconst rfl ?_
    refine zz_iret rfl rfl (wk.b hf ho hg1 hg hC)
  · skip
    refine zaft_v ?_
    refine zz_sg ?_
    refine zz_i2l rfl (zbm_rg vv) ?_
    refine zz_last rfl (hf _ _ ho rfl) (by decide) ⟨by decide, by decide⟩ ?_
    refine zz_goto rfl ?_
    refine zz_iconst rfl ?_
    refine zz_iret rfl rfl (wk.d hf ho hg1 hg2 hC)
theorem ct_L_mirror {x o : Nat} {fs : List Value} {f : Nat → Value} {S S' : SS} {G1 : Prop} {l ax : Int} (hx : h x = some (zo 0 fs)) (ho : h o = some (za 2 1 f)) (hc : Ct Z m_TS_mirror 4 20 4000 [.ref x, zI l, zI ax] h (fcP h x S G1 zIAE True zIAE none S')) : Ct Z m_L_mirror 5 20 4000 [.ref x, zI l, zI ax] h (wk h x o S G1 True none S') := by
  refine zctH rfl (by decide) ok_L_mirror rfl rfl ?_
  refine zz_aload_n rfl rfl ?_
  refine zz_iload_n rfl rfl ?_
  refine zz_iload_n rfl rfl ?_
  refine zz_V rfl lk_L_63 cw_TS_mirror rfl hx hc rfl rfl rfl rfl ?_
  rintro _ h1 ⟨hf, ⟨hg, rfl, hC⟩ | ⟨hg1, hg, rfl, hC⟩ | ⟨hg1, hg2, rfl, hC⟩⟩
  · skip
    refine zaft_x (zx_catch [] (0, 6, 9, 13) [] rfl (fun z hz => by cases hz) rfl (by decide) cl_L_13 ca_13 (fun qa => ?_))
    refine zz_astore_n rfl rfl rfl ?_
    refine zz_iconst rfl ?_
    refine zz_iret rfl rfl (wk.a hf ho hg hC)
  · exact absurd trivial hg
  · skip
    refine zaft_u ?_
    refine zz_goto rfl ?_
    refine zz_iconst rfl ?_
    refine zz_iret rfl rfl (wk.c hf ho hg1 hg2 hC)
theorem ct_L_shift {x o : Nat} {fs : List Value} {f : Nat → Value} {S S' : SS} {G1 : Prop} {l dx dy : Int} (hx : h x = some (zo 0 fs)) (ho : h o = some (za 2 1 f)) (hc : Ct Z m_TS_shift 4 20 4000 [.ref x, zI l, zI dx, zI dy] h (fcP h x S G1 zIAE True zIAE none S')) : Ct Z m_L_shift 5 20 4000 [.ref x, zI l, zI dx, zI dy] h (wk h x o S G1 True none S') := by
  refine zctH rfl (by decide) ok_L_shift rfl rfl ?_
  refine zz_aload_n rfl rfl ?_
  refine zz_iload_n rfl rfl ?_
  refine zz_iload_n rfl rfl ?_
  refine zz_iload_n rfl rfl ?_
  refine zz_V rfl lk_L_66 cw_TS_shift rfl hx hc rfl rfl rfl rfl ?_
  rintro _ h1 ⟨hf, ⟨hg, rfl, hC⟩ | ⟨hg1, hg, rfl, hC⟩ | ⟨hg1, hg2, rfl, hC⟩⟩
  · skip
    refine zaft_x (zx_catch [] (0, 7, 10, 13) [] rfl (fun z hz => by cases hz) rfl (by decide) cl_L_13 ca_13 (fun qa => ?_))
    refine zz_astore rfl rfl rfl ?_
    refine zz_iconst rfl ?_
    refine zz_iret rfl rfl (wk.a hf ho hg hC)
  · exact absurd trivial hg
  · skip
    refine zaft_u ?_
    refine zz_goto rfl ?_
    refine zz_iconst rfl ?_
    refine zz_iret rfl rfl (wk.c hf ho hg1 hg2 hC)
theorem ct_L_blur {x o : Nat} {fs : List Value} {f : Nat → Value} {S S' : SS} {G1 : Prop} {l r : Int} (hx : h x = some (zo 0 fs)) (ho : h o = some (za 2 1 f)) (hc : Ct Z m_TS_blur 4 20 4000 [.ref x, zI l, zI r] h (fcP h x S G1 zIAE True zIAE none S')) : Ct Z m_L_blur 5 20 4000 [.ref x, zI l, zI r] h (wk h x o S G1 True none S') := by
  refine zctH rfl (by decide) ok_L_blur rfl rfl ?_
  refine zz_aload_n rfl rfl ?_
  refine zz_iload_n rfl rfl ?_
  refine zz_iload_n rfl rfl ?_
  refine zz_V rfl lk_L_69 cw_TS_blur rfl hx hc rfl rfl rfl rfl ?_
  rintro _ h1 ⟨hf, ⟨hg, rfl, hC⟩ | ⟨hg1, hg, rfl, hC⟩ | ⟨hg1, hg2, rfl, hC⟩⟩
  · skip
    refine zaft_x (zx_catch [] (0, 6, 9, 13) [] rfl (fun z hz => by cases hz) rfl (by decide) cl_L_13 ca_13 (fun qa => ?_))
    refine zz_astore_n rfl rfl rfl ?_
    refine zz_iconst rfl ?_
    refine zz_iret rfl rfl (wk.a hf ho hg hC)
  · exact absurd trivial hg
  · skip
    refine zaft_u ?_
    refine zz_goto rfl ?_
    refine zz_iconst rfl ?_
    refine zz_iret rfl rfl (wk.c hf ho hg1 hg2 hC)
theorem ct_L_save {x o : Nat} {fs : List Value} {f : Nat → Value} {S S' : SS} {G1 : Prop} {m vv : Int} (hx : h x = some (zo 0 fs)) (ho : h o = some (za 2 1 f)) (hc : Ct Z m_TS_save 4 20 4000 [.ref x, zI m] h (fcP h x S G1 zIAE True zIAE (some (zI vv)) S')) : Ct Z m_L_save 5 20 4000 [.ref x, zI m, .ref o] h (wk h x o S G1 True (some vv) S') := by
  refine zctH rfl (by decide) ok_L_save rfl rfl ?_
  refine zz_aload_n rfl rfl ?_
  refine zz_iconst rfl ?_
  refine zz_aload_n rfl rfl ?_
  refine zz_iload_n rfl rfl ?_
  refine zz_V rfl lk_L_72 cw_TS_save rfl hx hc rfl rfl rfl rfl ?_
  rintro _ h1 ⟨hf, ⟨hg, rfl, hC⟩ | ⟨hg1, hg, rfl, hC⟩ | ⟨hg1, hg2, rfl, hC⟩⟩
  · skip
    refine zaft_x (zx_catch [] (0, 9, 12, 13) [] rfl (fun z hz => by cases hz) rfl (by decide) cl_L_13 ca_13 (fun qa => ?_))
    refine zz_astore_n rfl rfl rfl ?_
    refine zz_iconst rfl ?_
    refine zz_iret rfl rfl (wk.a hf ho hg hC)
  · exact absurd trivial hg
  · skip
    refine zaft_v ?_
    refine zz_sg ?_
    refine zz_i2l rfl (zbm_rg vv) ?_
    refine zz_last rfl (hf _ _ ho rfl) (by decide) ⟨by decide, by decide⟩ ?_
    refine zz_goto rfl ?_
    refine zz_iconst rfl ?_
    refine zz_iret rfl rfl (wk.d hf ho hg1 hg2 hC)
theorem ct_L_open {x o : Nat} {fs : List Value} {f : Nat → Value} {S S' : SS} {G1 : Prop} (hx : h x = some (zo 0 fs)) (ho : h o = some (za 2 1 f)) (hc : Ct Z m_TS_open 1 20 4000 [.ref x] h (fcP h x S G1 zNSE True zIAE none S')) : Ct Z m_L_open 2 20 4000 [.ref x] h (wk h x o S G1 True none S') := by
  refine zctH rfl (by decide) ok_L_open rfl rfl ?_
  refine zz_aload_n rfl rfl ?_
  refine zz_V rfl lk_L_75 cw_TS_open rfl hx hc rfl rfl rfl rfl ?_
  rintro _ h1 ⟨hf, ⟨hg, rfl, hC⟩ | ⟨hg1, hg, rfl, hC⟩ | ⟨hg1, hg2, rfl, hC⟩⟩
  · skip
    refine zaft_x (zx_catch [] (0, 4, 7, 61) [] rfl (fun z hz => by cases hz) rfl (by decide) cl_L_61 ca_61 (fun qa => ?_))
    refine zz_astore_n rfl rfl rfl ?_
    refine zz_iconst rfl ?_
    refine zz_iret rfl rfl (wk.a hf ho hg hC)
  · exact absurd trivial hg
  · skip
    refine zaft_u ?_
    refine zz_goto rfl ?_
    refine zz_iconst rfl ?_
    refine zz_iret rfl rfl (wk.c hf ho hg1 hg2 hC)
theorem ct_L_dot {x o : Nat} {fs : List Value} {f : Nat → Value} {S S' : SS} {G1 G2 : Prop} {l k x1 y1 vv : Int} (hx : h x = some (zo 0 fs)) (ho : h o = some (za 2 1 f)) (hc : Ct Z m_TS_dot 8 20 4000 [.ref x, zI l, zI k, zI x1, zI y1] h (fcP h x S G1 zIAE G2 zIOB (some (zI vv)) S')) : Ct Z m_L_dot 9 20 4000 [.ref x, zI l, zI k, zI x1, zI y1, .ref o] h (wk h x o S G1 G2 (some vv) S') := by
  refine zctH rfl (by decide) ok_L_dot rfl rfl ?_
  refine zz_aload rfl rfl ?_
  refine zz_iconst rfl ?_
  refine zz_aload_n rfl rfl ?_
  refine zz_iload_n rfl rfl ?_
  refine zz_iload_n rfl rfl ?_
  refine zz_iload_n rfl rfl ?_
  refine zz_iload rfl rfl ?_
  refine zz_V rfl lk_L_78 cw_TS_dot rfl hx hc rfl rfl rfl rfl ?_
  rintro _ h1 ⟨hf, ⟨hg, rfl, hC⟩ | ⟨hg1, hg, rfl, hC⟩ | ⟨hg1, hg2, rfl, hC⟩⟩
  · skip
    refine zaft_x (zx_catch [] (0, 14, 17, 13) [(0, 14, 21, 81)] rfl (fun z hz => by cases hz) rfl (by decide) cl_L_13 ca_13 (fun qa => ?_))
    refine zz_astore rfl rfl rfl ?_
    refine zz_iconst rfl ?_
    refine zz_iret rfl rfl (wk.a hf ho hg hC)
  · skip
    refine zaft_x (zx_catch [(0, 14, 17, 13)] (0, 14, 21, 81) [] rfl (fun z hz => by rw [List.mem_singleton] at hz; subst hz; exact Or.inr ⟨by decide, _, cl_L_13, nc_81⟩) rfl (by decide) cl_L_81 ca_81 (fun qa => ?_))
    refine zz_astore rfl rfl rfl ?_
    refine zz_iconst rfl ?_
    refine zz_iret rfl rfl (wk.b hf ho hg1 hg hC)
  · skip
    refine zaft_v ?_
    refine zz_sg ?_
    refine zz_i2l rfl (zbm_rg vv) ?_
    refine zz_last rfl (hf _ _ ho rfl) (by decide) ⟨by decide, by decide⟩ ?_
    refine zz_goto rfl ?_
    refine zz_iconst rfl ?_
    refine zz_iret rfl rfl (wk.d hf ho hg1 hg2 hC)
theorem ct_L_view {x o : Nat} {fs : List Value} {f : Nat → Value} {S S' : SS} {G1 G2 : Prop} {k x1 y1 vv : Int} (hx : h x = some (zo 0 fs)) (ho : h o = some (za 2 1 f)) (hc : Ct Z m_TS_view 8 20 4000 [.ref x, zI k, zI x1, zI y1] h (fcP h x S G1 zIAE G2 zIOB (some (zI vv)) S')) : Ct Z m_L_view 9 20 4000 [.ref x, zI k, zI x1, zI y1, .ref o] h (wk h x o S G1 G2 (some vv) S') := by
  refine zctH rfl (by decide) ok_L_view rfl rfl ?_
  refine zz_aload rfl rfl ?_
  refine zz_iconst rfl ?_
  refine zz_aload_n rfl rfl ?_
  refine zz_iload_n rfl rfl ?_
  refine zz_iload_n rfl rfl ?_
  refine zz_iload_n rfl rfl ?_
  refine zz_V rfl lk_L_83 cw_TS_view rfl hx hc rfl rfl rfl rfl ?_
  rintro _ h1 ⟨hf, ⟨hg, rfl, hC⟩ | ⟨hg1, hg, rfl, hC⟩ | ⟨hg1, hg2, rfl, hC⟩⟩
  · skip
    refine zaft_x (zx_catch [] (0, 12, 15, 13) [(0, 12, 19, 81)] rfl (fun z hz => by cases hz) rfl (by decide) cl_L_13 ca_13 (fun qa => ?_))
    refine zz_astore rfl rfl rfl ?_
    refine zz_iconst rfl ?_
    refine zz_iret rfl rfl (wk.a hf ho hg hC)
  · skip
    refine zaft_x (zx_catch [(0, 12, 15, 13)] (0, 12, 19, 81) [] rfl (fun z hz => by rw [List.mem_singleton] at hz; subst hz; exact Or.inr ⟨by decide, _, cl_L_13, nc_81⟩) rfl (by decide) cl_L_81 ca_81 (fun qa => ?_))
    refine zz_astore rfl rfl rfl ?_
    refine zz_iconst rfl ?_
    refine zz_iret rfl rfl (wk.b hf ho hg1 hg hC)
  · skip
    refine zaft_v ?_
    refine zz_sg ?_
    refine zz_i2l rfl (zbm_rg vv) ?_
    refine zz_last rfl (hf _ _ ho rfl) (by decide) ⟨by decide, by decide⟩ ?_
    refine zz_goto rfl ?_
    refine zz_iconst rfl ?_
    refine zz_iret rfl rfl (wk.d hf ho hg1 hg2 hC)
theorem ct_L_histogram {x o : Nat} {fs : List Value} {f : Nat → Value} {S S' : SS} {G1 : Prop} {l c v vv : Int} (hx : h x = some (zo 0 fs)) (ho : h o = some (za 2 1 f)) (hc : Ct Z m_TS_histogram 3 20 4000 [.ref x, zI l, zI c, zI v] h (fcP h x S G1 zIAE True zIAE (some (zI vv)) S')) : Ct Z m_L_histogram 4 20 4000 [.ref x, zI l, zI c, zI v, .ref o] h (wk h x o S G1 True (some vv) S') := by
  refine zctH rfl (by decide) ok_L_histogram rfl rfl ?_
  refine zz_aload rfl rfl ?_
  refine zz_iconst rfl ?_
  refine zz_aload_n rfl rfl ?_
  refine zz_iload_n rfl rfl ?_
  refine zz_iload_n rfl rfl ?_
  refine zz_iload_n rfl rfl ?_
  refine zz_V rfl lk_L_86 cw_TS_histogram rfl hx hc rfl rfl rfl rfl ?_
  rintro _ h1 ⟨hf, ⟨hg, rfl, hC⟩ | ⟨hg1, hg, rfl, hC⟩ | ⟨hg1, hg2, rfl, hC⟩⟩
  · skip
    refine zaft_x (zx_catch [] (0, 12, 15, 13) [] rfl (fun z hz => by cases hz) rfl (by decide) cl_L_13 ca_13 (fun qa => ?_))
    refine zz_astore rfl rfl rfl ?_
    refine zz_iconst rfl ?_
    refine zz_iret rfl rfl (wk.a hf ho hg hC)
  · exact absurd trivial hg
  · skip
    refine zaft_v ?_
    refine zz_sg ?_
    refine zz_i2l rfl (zbm_rg vv) ?_
    refine zz_last rfl (hf _ _ ho rfl) (by decide) ⟨by decide, by decide⟩ ?_
    refine zz_goto rfl ?_
    refine zz_iconst rfl ?_
    refine zz_iret rfl rfl (wk.d hf ho hg1 hg2 hC)
end WRP
