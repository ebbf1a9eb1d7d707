theorem zw_clone {p : Program} {l : Launch} {e : Env} {R : Room} {s : State} {m : MethodId} {args : Array Value} {below : List Frame} {meth : Method} {c : Code} {H : Heap} {locs : List Loc} {cells slots : Nat} {Q : State → Prop} {cc : ByteArray} {pc : Nat} {ls : Array Slot} {rest : List Value} {Z : ZC} {a n : Nat} {f : Nat → Int} (hexec : p.tables.exec = Jvm.exec) (hb : c.code = cc) (hml : c.maxLocals = ls.size) {own : String} {index : Nat} (hown : s.vm.findClass own = some m.cls)
    (hlink : (Cond.methodLink own index ⟨"[I", "clone", "()Ljava/lang/Object;"⟩).before args s = true) (hsame : (Cond.sameMethod "[I" "java/lang/Object" "clone" "()Ljava/lang/Object;").before args s = true)
    (hnat : (Cond.native ⟨"java/lang/Object", "clone", "()Ljava/lang/Object;"⟩).before args s = true) (hinst : (Cond.instanceMethod ⟨"java/lang/Object", "clone", "()Ljava/lang/Object;"⟩).before args s = true)
    (hsel : (Cond.selects "[I" ⟨"[I", "clone", "()Ljava/lang/Object;"⟩ ⟨"java/lang/Object", "clone", "()Ljava/lang/Object;"⟩).before args s = true) (hcl : va_Nw (.castable "[I" "java/lang/Cloneable") s)
    (hK : va_K Z.2.1 zcls (ztys Z) s) (hcell : H[a]? = some (arrV (Z.2.2.1 0) n (fun i => zI (f i))))
    (hframes : 1 ≤ R.frames) (hlocals : (rest.map fun v => v.category).sum + 14 ≤ R.locals) (hcells : cells + 1 ≤ R.cells) (hslots : slots + n ≤ R.slots) (hdg : decode cc pc = .ok (.invokevirtual index, 3))
    (kk : ∀ H1 : Heap, H1[H.size]? = some (arrV (Z.2.2.1 0) n (fun i => zI (f i))) → H1.size = H.size + 1 → (∀ q : Nat, q < H.size → H1[q]? = H[q]?) →
      W p l e R s m args below meth c H1 locs (cells + 1) (slots + n) Q (F0 m (pc + 3) ls (.ref H.size :: rest))) : W p l e R s m args below meth c H locs cells slots Q (F0 m pc ls (.ref a :: rest)) := by
  have hnm : s.vm.findClass "[I" = some (Z.2.2.1 0) := (hK.2 0 _ rfl).2
  obtain ⟨c0, t0, f1, f2, f3⟩ := Cond.castable_spec (va_Nw.use (A := args) rfl hcl)
  cases hnm.symm.trans f1
  intro T hT X
  have hcellT : T.heap[a]? = some (arrV (Z.2.2.1 0) n (fun i => zI (f i))) := by rw [hT]; exact hcell
  obtain ⟨-, kA, hkA, comp, hkind⟩ := State.isArrayOf_alike X.warmed.alike ((hK.2 0 _ rfl).1 0 (fun _ => .null))
  obtain ⟨-, kS, hkS, compS, hkindS⟩ := (hK.2 0 _ rfl).1 0 (fun _ => .null)
  obtain ⟨vm', X', st⟩ := X.cloneArray hexec hown hlink hsame hnat hinst hsel (a := a) (cell := arrV (Z.2.2.1 0) n (fun i => zI (f i))) hcellT (fun k h => by cases h) (fun h => by cases h) hnm f2 f3
    (fun i v hv => by
      have hk' : T.vm.classes[Z.2.2.1 0]? = some kA := hkA
      have hf9 : fits .int v = true := va_fit (fun _ _ => rfl) i v hv
      simpa [State.fitsSlot, State.slotType?, arrV, hk', hkind] using hf9)
    (g := F0 m pc ls (.ref a :: rest)) rfl (by rw [hml]) rfl (by rw [hb]; exact hdg) hframes (by show 2 * 0 + _ + 14 ≤ _; omega) hcells (by rw [arrV_size]; exact hslots) (hloader := Vm.clonesLoader_of_array hkS hkindS)
  rw [arrV_size] at X'
  generalize hH1 : H.push (arrV (Z.2.2.1 0) n (fun i => zI (f i))) = H1
  have z1 : H1.size = H.size + 1 := by rw [← hH1, Array.size_push]
  have e1 : H1[H.size]? = some (arrV (Z.2.2.1 0) n (fun i => zI (f i))) := by rw [← hH1, Array.getElem?_push_size]
  have o1 : ∀ q : Nat, q < H.size → H1[q]? = H[q]? := fun q hq => by rw [← hH1, Array.getElem?_push, if_neg (Nat.ne_of_lt hq)]
  obtain ⟨t, b1, b2⟩ := kk H1 e1 z1 o1 ((T.setVm vm').pushCell (arrV (Z.2.2.1 0) n (fun i => zI (f i)))) (by rw [← hH1, ← hT]; rfl) X'
  refine ⟨t, st t ?_, b2⟩
  rw [hT]
  exact b1
section ZR4
variable {Z : ZC} {F : ZF} {pc q t : Nat} {L st : List Value} {h : ZH} {mc ms : Nat} {Q : ZR → ZH → Prop}
/-- behind a call -/
def zAft (Z : ZC) (F : ZF) (pc q : Nat) (L rest : List Value) (mc ms : Nat) (Q : ZR → ZH → Prop) (r : ZR) (h : ZH) : Prop := match r with
  | .inl v => Ev Z F q L (v.toList ++ rest) h mc ms Q
  | .inr E => EvX Z F pc L rest E h mc ms Q
theorem zaft_v {rest : List Value} {v : Value} (k : Ev Z F q L (v :: rest) h mc ms Q) : zAft Z F pc q L rest mc ms Q (.inl (some v)) h := k
theorem zaft_u {rest : List Value} (k : Ev Z F q L rest h mc ms Q) : zAft Z F pc q L rest mc ms Q (.inl none) h := k
theorem zaft_x {rest : List Value} {E : String} (k : EvX Z F pc L rest E h mc ms Q) : zAft Z F pc q L rest mc ms Q (.inr E) h := k
theorem zgo {p : Program} {e : Env} {R : Room} {s : State} {m : MethodId} {args a : Array Value} {below : List Frame} {meth : Method} {c : Code} {H : Heap} {locs : List Loc} {cells slots mc' ms' : Nat} {ls : Array Slot} {rest st0 : List Value} {Qy : ZR → ZH → Prop}
    (hr9 : vx_Run p Z.1 e R s m args below meth c H locs cells slots mc' ms' (F0 m pc ls st0) rest (zQc Z Qy a) (zXC Z Qy) (fun q => Z.2.2.2 ≤ q))
    (hF : zFr Z F.1 F.2.1 p s m args meth c) (hR : zRm R F) (hl : lv_has ls (znL F.2.1) (zls 0 L)) (hS : va_S (fun q => Z.2.2.2 ≤ q) s.heap H locs) (hc : cells + (mc + mc') ≤ F.2.2.2.1) (hs : slots + (ms + ms') ≤ F.2.2.2.2)
    (k : ∀ r h', Qy r h' → zAft Z F pc (pc + 3) L rest mc ms Q r h') :
    W p Z.1 e R s m args below meth c H locs cells slots (vx_MQ below (zQc Z Q) (zXC Z Q) args s F.2.2.2.1 F.2.2.2.2 (fun q => Z.2.2.2 ≤ q)) (F0 m pc ls st0) := by
  intro T hT X
  rcases hr9 T hT X with ⟨v, st₀, t, T', L9, h0, X', hL, e1, e2, ⟨⟨r, h', hv, hq, hrep⟩, hFr⟩, st⟩ | ⟨qa, st₀, t, T', L9, E, ce, h0, X', hL, e1, e2, ⟨⟨h', hq, hrep⟩, hFr⟩, hce, hcv, hcl, st⟩
  · cases hv
    obtain ⟨k1, k2, k3⟩ := vx_keep h0 e1 hS (fun q _ h => h) (fun q h => h) hL hFr
    obtain ⟨t2, a1, b1⟩ := k (.inl v) h' hq p e R s m args below meth c T'.heap (locs ++ L9) (cells + mc') (slots + ms') ls hF hR hl (by rw [e1]; exact hrep) k3 (by omega) (by omega) T' rfl X'
    exact ⟨t2, st t2 a1, b1⟩
  · obtain ⟨k1, k2, k3⟩ := vx_keep h0 e1 hS (fun q _ h => h) (fun q h => h) hL hFr
    obtain ⟨t2, a1, b1⟩ := k (.inr E) h' hq p e R s m args below meth c T'.heap (locs ++ L9) (cells + mc') (slots + ms') ls ce qa hF hR hl (by rw [e1]; exact hrep) k3 (by omega) (by omega) (by rw [e1]; exact hce) hcv hcl T' rfl X'
    exact ⟨t2, st.trans a1, b1⟩
theorem zgood {ws : List Cond} (h : ∀ w ∈ ws, w ∈ zG) : GoodIn zG ws := fun w hw => ⟨h w hw, good_of_word (zG_good w (h w hw))⟩
theorem zpre {s : State} {H : Heap} {locs : List Loc} {av : List Value} (hW : zW Z s s.heap) (hr : zRep Z h H) (hS : va_S (fun q => Z.2.2.2 ≤ q) s.heap H locs) : PreS s H (zPc Z av h) av := by
  refine ⟨zPc_blind, fun U hU hWU => ⟨rfl, ?_, by rw [hU]; exact hr⟩⟩
  rw [hU]
  exact (hW.kept hS.1 hS.2.1).moved hWU
/-- the words of a method, as a callee -/
def zCw (M : MI) (n : Nat) : Prop := zcw M = .code (zy M) (zcc M) (znL M) (zret M) ∧ zcw M ∈ zG ∧ Cond.initialized (zy M).cls ∈ zG ∧ ((zy M).cls ≠ "java/lang/invoke/MethodHandle" ∧ (zy M).cls ≠ "java/lang/invoke/VarHandle" ∧ (parseMethodDescriptor (zy M).desc).map (fun d => d.parameters.length) = some n) ∧ znL M ≤ 21
theorem zroom {R : Room} {d' mc' ms' n : Nat} (hR : zRm R F) (hdd : Nat.blt d' F.2.2.1 = true) (hn : n ≤ 21) : (zrm d' mc' ms').frames + 1 ≤ R.frames ∧ 8 + (n + 11) + (zrm d' mc' ms').locals ≤ R.locals := by
  have h1 : d' < F.2.2.1 := zblt hdd
  obtain ⟨h2, h3, -⟩ := hR
  constructor
  · show d' + 10 + 1 ≤ R.frames
    omega
  · show 8 + (n + 11) + (140 + 40 * d') ≤ R.locals
    omega
theorem zz_S {M' : MI} {d' mc' ms' n idx : Nat} {av rest : List Value} {Qy : ZR → ZH → Prop} (hd : zT F.2.1 pc = some (.invokestatic idx, q, t)) (hk : Cond.methodLink (zy F.2.1).cls idx (zy M') ∈ zG ∧ Cond.static (zy M') ∈ zG) (hw : zCw M' n) (hc9 : Ct Z M' d' mc' ms' av h Qy) (hn : av.length = n) (hst : st = av.reverse ++ rest) (h8 : Nat.ble ((rest.map fun v => v.category).sum) 8 = true) (hdd : Nat.blt d' F.2.2.1 = true)
    (kk : ∀ r h', Qy r h' → zAft Z F pc q L rest mc ms Q r h') : Ev Z F pc L st h (mc + mc') (ms + ms') Q := by
  intro p e R s m args below meth c H locs cells slots ls hF hR hl hr hS hc hs
  obtain ⟨hx, hb, hml, hown, hts, hret, hlk, hnm, htb, hW, hEx, hok⟩ := id hF
  obtain ⟨h1, rfl⟩ := zdec hok hd 3 (fun _ _ => rfl)
  obtain ⟨w1, w2, w3, w4, w5⟩ := hw
  subst hst
  have hG : GoodIn zG (va_wsS (zy F.2.1).cls idx (zy M') (zcw M' :: zG)) := by
    refine zgood (fun w hw => ?_)
    simp only [va_wsS, List.cons_append, List.nil_append, List.mem_cons] at hw
    rcases hw with rfl | rfl | rfl | rfl | hw
    · exact hk.1
    · exact hk.2
    · exact w3
    · exact w2
    · exact hw
  have cw := va_cwS (R := R) (mc := mc') (ms := ms') n hts hG (by rw [w1]) rfl rfl w4 (zroom (mc' := mc') (ms' := ms') hR hdd w5)
  refine zgo (vx_runS ⟨hx, hb, hml, hown, hts⟩ hc9 cw (zpre hW hr hS) rfl hn hl.1 rfl (lv_room (Nat.le_of_ble_eq_true h8)) h1 ⟨?_, ?_⟩) hF hR hl hS hc hs kk
  · have := hR.2.2.1; omega
  · have := hR.2.2.2; omega
theorem zz_V {M' : MI} {d' mc' ms' n idx b ci : Nat} {As rest fs : List Value} {T0 : u_T} {N0 : Nat} {Qy : ZR → ZH → Prop} (hd : zT F.2.1 pc = some (.invokevirtual idx, q, t)) (hk : Cond.methodLink (zy F.2.1).cls idx (zy M') ∈ zG ∧ Cond.instanceMethod (zy M') ∈ zG ∧ Cond.selects (zy M').cls (zy M') (zy M') ∈ zG) (hw : zCw M' n) (hci : zcls[ci]? = some ((zy M').cls, T0, N0)) (hb9 : h b = some (zo ci fs)) (hc9 : Ct Z M' d' mc' ms' (.ref b :: As) h Qy) (hn : As.length = n) (hst : st = As.reverse ++ .ref b :: rest) (h8 : Nat.ble ((rest.map fun v => v.category).sum) 8 = true) (hdd : Nat.blt d' F.2.2.1 = true)
    (kk : ∀ r h', Qy r h' → zAft Z F pc q L rest mc ms Q r h') : Ev Z F pc L st h (mc + mc') (ms + ms') Q := by
  intro p e R s m args below meth c H locs cells slots ls hF hR hl hr hS hc hs
  obtain ⟨hx, hb, hml, hown, hts, hret, hlk, hnm, htb, hW, hEx, hok⟩ := id hF
  obtain ⟨h1, rfl⟩ := zdec hok hd 3 (fun _ _ => rfl)
  obtain ⟨w1, w2, w3, w4, w5⟩ := hw
  subst hst
  have hG : GoodIn zG (wsV (zy F.2.1).cls idx (zy M').cls (zy M') (zcw M' :: zG)) := by
    refine zgood (fun w hw => ?_)
    simp only [wsV, List.cons_append, List.nil_append, List.mem_cons] at hw
    rcases hw with rfl | rfl | rfl | rfl | rfl | hw
    · exact hk.1
    · exact hk.2.1
    · exact hk.2.2
    · exact w3
    · exact w2
    · exact hw
  have cw := cwV (R := R) (mc := mc') (ms := ms') n hts hG (by rw [w1]) rfl rfl ⟨rfl, w4⟩ (zroom (mc' := mc') (ms' := ms') hR hdd w5)
  have hp := zpre (av := .ref b :: As) hW hr hS
  obtain ⟨r9, g0, cell, g1, g2, g3, -⟩ := (hr b _ hb9).1
  have hrec : ∃ cellB : Cell, H[b]? = some cellB ∧ cellB.vm.isStatics = false ∧ s.vm.findClass (zy M').cls = some cellB.cls := ⟨cell, g1, by rw [g3]; rfl, by rw [g2]; exact (hW.1.1 ci _ hci).2.1⟩
  refine zgo (vx_runV ⟨hx, hb, hml, hown, hts⟩ hc9 cw ⟨hp.1, hrec, hp.2⟩ rfl hn hl.1 rfl (lv_room (Nat.le_of_ble_eq_true h8)) h1 ⟨?_, ?_⟩) hF hR hl hS hc hs kk
  · have := hR.2.2.1; omega
  · have := hR.2.2.2; omega
theorem zrun_of {p : Program} {l : Launch} {e : Env} {R : Room} {s : State} {m : MethodId} {args : Array Value} {below : List Frame} {meth : Method} {c : Code} {H : Heap} {locs : List Loc} {cells slots mc ms : Nat} {g : JFrame} {rest : List Value} {Qa : State → Outcome → State → Prop} {XC : String → State → State → Prop} {free : Addr → Prop} (hr : va_Run p l e R s m args below meth c H locs cells slots mc ms g rest Qa free) : vx_Run p l e R s m args below meth c H locs cells slots mc ms g rest Qa XC free := fun T hT X => Or.inl (hr T hT X)
theorem zz_N {M' : MI} {d' mc' ms' n idx b : Nat} {As rest : List Value} {Qy : ZR → ZH → Prop} (hd : zT F.2.1 pc = some (.invokespecial idx, q, t)) (hk : Cond.methodLink (zy F.2.1).cls idx (zy M') ∈ zG ∧ Cond.instanceMethod (zy M') ∈ zG ∧ (zy M').name = "<init>" ∧ zret M' = none) (hw : zCw M' n) (hno : ∀ E h', ¬ Qy (.inr E) h') (hc9 : Ct Z M' d' mc' ms' (.ref b :: As) h Qy) (hn : As.length = n) (hst : st = As.reverse ++ .ref b :: rest) (h8 : Nat.ble ((rest.map fun v => v.category).sum) 8 = true) (hdd : Nat.blt d' F.2.2.1 = true)
    (kk : ∀ r h', Qy r h' → zAft Z F pc q L rest mc ms Q r h') : Ev Z F pc L st h (mc + mc') (ms + ms') Q := by
  intro p e R s m args below meth c H locs cells slots ls hF hR hl hr hS hc hs
  obtain ⟨hx, hb, hml, hown, hts, hret, hlk, hnm, htb, hW, hEx, hok⟩ := id hF
  obtain ⟨h1, rfl⟩ := zdec hok hd 3 (fun _ _ => rfl)
  obtain ⟨w1, w2, w3, w4, w5⟩ := hw
  obtain ⟨k1, k2, k3, k4⟩ := hk
  subst hst
  have hG : GoodIn zG (zcw M' :: zG) := by
    refine zgood (fun w hw => ?_)
    rcases List.mem_cons.mp hw with rfl | hw
    · exact w2
    · exact hw
  have cb : CallB R s args (zy F.2.1).cls idx (zy M') (zcc M') (znL M') none (zcw M' :: zG) (zrm d' mc' ms') mc' ms' n := callB_of (Ts := zG) n hts hG (by rw [w1, k4]) rfl rfl (hts _ w3) (hts _ k1) w4 (zroom (mc' := mc') (ms' := ms') hR hdd w5)
  refine zgo (zrun_of (va_runI ⟨hx, hb, hml, hown, hts⟩ (hc9.met hno) ⟨cb, k3, hts _ k2⟩ (zpre (av := .ref b :: As) hW hr hS) rfl hn hl.1 rfl (lv_room (Nat.le_of_ble_eq_true h8)) h1 ⟨?_, ?_⟩)) hF hR hl hS hc hs kk
  · have := hR.2.2.1; omega
  · have := hR.2.2.2; omega
theorem zz_SN {M' : MI} {d' mc' ms' n idx : Nat} {host : String} {av rest : List Value} {Qy : ZR → ZH → Prop} (hd : zT F.2.1 pc = some (.invokestatic idx, q, t)) (hk : ((zy F.2.1).cls, idx, zy M', host) ∈ znests ∧ Cond.static (zy M') ∈ zG) (hw : zCw M' n) (hno : ∀ E h', ¬ Qy (.inr E) h') (hc9 : Ct Z M' d' mc' ms' av h Qy) (hn : av.length = n) (hst : st = av.reverse ++ rest) (h8 : Nat.ble ((rest.map fun v => v.category).sum) 8 = true) (hdd : Nat.blt d' F.2.2.1 = true)
    (kk : ∀ r h', Qy r h' → zAft Z F pc q L rest mc ms Q r h') : Ev Z F pc L st h (mc + mc') (ms + ms') Q := by
  intro p e R s m args below meth c H locs cells slots ls hF hR hl hr hS hc hs
  obtain ⟨hx, hb, hml, hown, hts, hret, hlk, hnm, htb, hW, hEx, hok⟩ := id hF
  obtain ⟨h1, rfl⟩ := zdec hok hd 3 (fun _ _ => rfl)
  obtain ⟨w1, w2, w3, w4, w5⟩ := hw
  subst hst
  have hG : GoodIn zG (zcw M' :: zG) := by
    refine zgood (fun w hw => ?_)
    rcases List.mem_cons.mp hw with rfl | hw
    · exact w2
    · exact hw
  have cn : va_CN R s args (zy F.2.1).cls idx (zy M') host (zcc M') (znL M') (zret M') (zcw M' :: zG) (zrm d' mc' ms') mc' ms' n := va_cnB (Ts := zG) n hts hG (by rw [w1]) rfl rfl (hW.2.1.2.2.1 _ hk.1) (hts _ w3) w4 (zroom (mc' := mc') (ms' := ms') hR hdd w5)
  refine zgo (zrun_of (va_runSN ⟨hx, hb, hml, hown, hts⟩ (hc9.met hno) ⟨cn, hts _ hk.2, trivial⟩ (zpre hW hr hS) rfl hn hl.1 rfl (lv_room (Nat.le_of_ble_eq_true h8)) h1 ⟨?_, ?_⟩)) hF hR hl hS hc hs kk
  · have := hR.2.2.1; omega
  · have := hR.2.2.2; omega
/-! ===== thrown, and not caught here; caught ===== -/
theorem zx_out {rest : List Value} {E : String} (hh : zhh F.2.1 = []) (hq : Q (.inr E) h) : EvX Z F pc L rest E h mc ms Q := by
  intro p e R s m args below meth c H locs cells slots ls ce qa hF hR hl hr hS hc hs hce hcv hcl
  obtain ⟨hx, hb, hml, hown, hts, hret, hlk, hnm, htb, hW, hEx, hok⟩ := id hF
  refine vx_out (fun x hx9 => ?_) hlk hce hcv hcl (fun t ht hal => ⟨⟨h, hq, by rw [ht]; exact hr⟩, hS.F ht⟩) hS.2.2 (by omega) (by omega)
  rw [htb, hh] at hx9
  cases hx9
abbrev zte (x : Nat × Nat × Nat × Nat) : ExceptionTableEntry := ⟨x.1, x.2.1, x.2.2.1, x.2.2.2⟩
theorem zx_catch {rest : List Value} {E name : String} (pre : List (Nat × Nat × Nat × Nat)) (x : Nat × Nat × Nat × Nat) (suf : List (Nat × Nat × Nat × Nat)) (hsp : zhh F.2.1 = pre ++ x :: suf)
    (hpass : ∀ z ∈ pre, covers (zte z) pc = false ∨ (z.2.2.2 ≠ 0 ∧ ∃ nm : String, Cond.classLink (zy F.2.1).cls z.2.2.2 nm ∈ zG ∧ (E, nm) ∈ znocasts)) (hx1 : covers (zte x) pc = true) (h0 : x.2.2.2 ≠ 0) (hlink : Cond.classLink (zy F.2.1).cls x.2.2.2 name ∈ zG) (hcast : (E, name) ∈ zcasts)
    (kk : ∀ qa : Nat, Ev Z F x.2.2.1 L [.ref qa] h mc ms Q) : EvX Z F pc L rest E h mc ms Q := by
  intro p e R s m args below meth c H locs cells slots ls ce qa hF hR hl hr hS hc hs hce hcv hcl
  obtain ⟨hx, hb, hml, hown, hts, hret, hlk, hnm, htb, hW, hEx, hok⟩ := id hF
  refine vx_catch (E := E) (name := name) hown (pre.map zte) (zte x) (suf.map zte) (by rw [htb, hsp]; simp [tableOf]) (fun z hz => ?_) hx1 h0 (hts _ hlink) (va_Nw.use rfl (hW.2.1.1 _ hcast)) hce hcv hcl (kk qa p e R s m args below meth c H locs cells slots ls hF hR hl hr hS hc hs)
  obtain ⟨y, hy, rfl⟩ := List.mem_map.mp hz
  rcases hpass y hy with h9 | ⟨h9, nm, h10, h11⟩
  · exact Or.inl h9
  · exact Or.inr ⟨h9, nm, hts _ h10, hW.2.1.2.1 _ h11⟩
/-! ===== returns ===== -/
theorem zz_iret {v : Int} (hd : zT F.2.1 pc = some (.ireturn, q, t)) (hr1 : zret F.2.1 = some .int) (hq : Q (.inl (some (zI v))) h) : Ev Z F pc L [zI v] h mc ms Q := by
  intro p e R s m args below meth c H locs cells slots ls hF hR hl hr hS hc hs
  obtain ⟨hx, hb, hml, hown, hts, hret, hlk, hnm, htb, hW, hEx, hok⟩ := id hF
  obtain ⟨h1, rfl⟩ := zdec hok hd 1 (fun _ _ => rfl)
  refine vx_ret (W.widen (k := F.2.2.2.1) (n := F.2.2.2.2) (by omega) (by omega) ?_)
  exact W.iret hx hb (hret.trans hr1) (fun t ht hW9 => ⟨⟨_, h, rfl, hq, by rw [ht]; exact hr⟩, hS.F ht⟩) hS.2.2 h1 hlk
theorem zz_zret {v : Int} (hd : zT F.2.1 pc = some (.ireturn, q, t)) (hr1 : zret F.2.1 = some .boolean) (hn : narrow .boolean (zI v) = zI v) (hq : Q (.inl (some (zI v))) h) : Ev Z F pc L [zI v] h mc ms Q := by
  intro p e R s m args below meth c H locs cells slots ls hF hR hl hr hS hc hs
  obtain ⟨hx, hb, hml, hown, hts, hret, hlk, hnm, htb, hW, hEx, hok⟩ := id hF
  obtain ⟨h1, rfl⟩ := zdec hok hd 1 (fun _ _ => rfl)
  refine vx_ret (W.widen (k := F.2.2.2.1) (n := F.2.2.2.2) (by omega) (by omega) ?_)
  exact W.zret hx hb (hret.trans hr1) hn (fun t ht hW9 => ⟨⟨_, h, rfl, hq, by rw [ht]; exact hr⟩, hS.F ht⟩) hS.2.2 h1 hlk
theorem zz_vret (hd : zT F.2.1 pc = some (.return_, q, t)) (hr1 : zret F.2.1 = none) (hq : Q (.inl none) h) : Ev Z F pc L [] h mc ms Q := by
  intro p e R s m args below meth c H locs cells slots ls hF hR hl hr hS hc hs
  obtain ⟨hx, hb, hml, hown, hts, hret, hlk, hnm, htb, hW, hEx, hok⟩ := id hF
  obtain ⟨h1, rfl⟩ := zdec hok hd 1 (fun _ _ => rfl)
  refine vx_ret (W.widen (k := F.2.2.2.1) (n := F.2.2.2.2) (by omega) (by omega) ?_)
  exact W.vret hx hb (hret.trans hr1) (fun t ht hW9 => ⟨⟨_, h, rfl, hq, by rw [ht]; exact hr⟩, hS.F ht⟩) hS.2.2 h1 hlk
theorem zz_aret {v : Value} {rt : FieldType} (hd : zT F.2.1 pc = some (.areturn, q, t)) (hr1 : zret F.2.1 = some rt) (hrt : (∃ n, rt = .object n) ∨ ∃ t, rt = .array t) (hv : v = .null ∨ ∃ a, v = .ref a) (hq : Q (.inl (some v)) h) : Ev Z F pc L [v] h mc ms Q := by
  intro p e R s m args below meth c H locs cells slots ls hF hR hl hr hS hc hs
  obtain ⟨hx, hb, hml, hown, hts, hret, hlk, hnm, htb, hW, hEx, hok⟩ := id hF
  obtain ⟨h1, rfl⟩ := zdec hok hd 1 (fun _ _ => rfl)
  refine vx_ret (W.widen (k := F.2.2.2.1) (n := F.2.2.2.2) (by omega) (by omega) ?_)
  exact W.aret hx hb (hret.trans hr1) hrt hv (fun t ht hW9 => ⟨⟨_, h, rfl, hq, by rw [ht]; exact hr⟩, hS.F ht⟩) hS.2.2 h1 hlk
/-! ===== throw new E() ===== -/
def zThr (own : String) (ik ic : Nat) (E : String) (names : List String) : Prop := Bundle.fit E = true ∧ (∀ n ∈ names, Bundle.fit n = true) ∧ names.length ≤ 4 ∧ Cond.classLink own ik E ∈ zG ∧ Cond.initialized E ∈ zG ∧ (∀ w ∈ vx_at0 own ic E names, w ∈ zG ∨ (∃ q ∈ zcasts, w = .castable q.1 q.2) ∨ ∃ y ∈ zdecls, w = .declares y) ∧ (∀ w ∈ Cond.classLink own ik E :: Cond.initialized E :: vx_at0 own ic E names, vx_ot w = true)
theorem zz_throw {rest : List Value} {ik ic q0 q1 q2 q3 t0 t1 t2 t3 : Nat} {E : String} {names : List String} (hth : zThr (zy F.2.1).cls ik ic E names) (d0 : zT F.2.1 pc = some (.new ik, q0, t0)) (d3 : zT F.2.1 (pc + 3) = some (.dup, q1, t1)) (d4 : zT F.2.1 (pc + 4) = some (.invokespecial ic, q2, t2)) (d7 : zT F.2.1 (pc + 7) = some (.athrow, q3, t3)) (hh : zhh F.2.1 = []) (h8 : Nat.ble ((rest.map fun v => v.category).sum) 8 = true) (hq : Q (.inr E) h) : Ev Z F pc L rest h (mc + 1) (ms + 6) Q := by
  intro p e R s m args below meth c H locs cells slots ls hF hR hl hr hS hc hs
  obtain ⟨hx, hb, hml, hown, hts, hret, hlk, hnm, htb, hW, hEx, hok⟩ := id hF
  obtain ⟨w1, w2, w3, w4, w5, w6, w7⟩ := hth
  have hat : ∀ w ∈ vx_at0 (zy F.2.1).cls ic E names, w.before args s = true := by
    intro w hw
    rcases w6 w hw with h9 | ⟨y, hy, rfl⟩ | ⟨y, hy, rfl⟩
    · exact hts w h9
    · exact va_Nw.use rfl (hW.2.1.1 _ hy)
    · exact va_Nw.use rfl (hW.2.1.2.2.2.2.2 _ hy)
  have h89 : (rest.map fun v => v.category).sum ≤ 8 := Nat.le_of_ble_eq_true h8
  refine vx_throw0 (A := fun q => Z.2.2.2 ≤ q) hx hb hW.2.2.2.2 hown w1 w2 (hts _ w4) (hts _ w5) hat w7 hW.2.2.1.1 hW.2.2.1.2 hS (by rw [hl.1]; exact hml.symm)
    (zdec hok d0 3 (fun _ _ => rfl)).1 (zdec hok d3 1 (fun _ _ => rfl)).1 (zdec hok d4 3 (fun _ _ => rfl)).1 (zdec hok d7 1 (fun _ _ => rfl)).1 (fun x hx9 => ?_) ?_ ?_ ?_ ?_ hlk ?_ hS.2.2 (by omega) (by omega)
  · rw [htb, hh] at hx9
    cases hx9
  · have := hR.1; omega
  · have := hR.2.1; omega
  · have := hR.2.2.1; omega
  · have := hR.2.2.2; omega
  · intro t hal hz hk
    refine ⟨⟨h, hq, fun a e9 ha => ⟨((hr a e9 ha).1).kept (hk a (hr a e9 ha).1.lt), (hr a e9 ha).2⟩⟩, Nat.le_trans hS.1 hz, fun a h1 h2 => ?_⟩
    rw [hk a (Nat.lt_of_lt_of_le h1 hS.1)]
    exact hS.2.1 a h1 h2
/-! ===== Object.<init>, clone, Math ===== -/
theorem zz_oinit {idx a : Nat} (hd : zT F.2.1 pc = some (.invokespecial idx, q, t)) (hlink : Cond.methodLink (zy F.2.1).cls idx Lib.objectInit ∈ zG) (h8 : Nat.ble ((st.map fun v => v.category).sum) 8 = true) (k : Ev Z F q L st h mc ms Q) : Ev Z F pc L (.ref a :: st) h mc ms Q := by
  intro p e R s m args below meth c H locs cells slots ls hF hR hl hr hS hc hs
  obtain ⟨hx, hb, hml, hown, hts, hret, hlk, hnm, htb, hW, hEx, hok⟩ := id hF
  obtain ⟨h1, rfl⟩ := zdec hok hd 3 (fun _ _ => rfl)
  have h89 : (st.map fun v => v.category).sum ≤ 8 := Nat.le_of_ble_eq_true h8
  refine W.objInit hx hb hown (hts _ hlink) (hts _ zobjA) (hts _ zobjB) rfl (by rw [hml]; exact hl.1) rfl h1 (by have := hR.1; omega) ?_ (k p e R s m args below meth c H locs cells slots ls hF hR hl hr hS hc hs)
  show 2 * 0 + _ + 12 ≤ R.locals
  have := hR.2.1
  omega

theorem zz_mmax {idx : Nat} {x y : Int} (hd : zT F.2.1 pc = some (.invokestatic idx, q, t)) (hk : Cond.methodLink (zy F.2.1).cls idx Lib.Math.max.name ∈ zG ∧ Cond.static Lib.Math.max.name ∈ zG ∧ Cond.initialized "java/lang/Math" ∈ zG ∧ Cond.code Lib.Math.max.name Lib.Math.max.code 2 (some .int) ∈ zG) (h8 : Nat.ble ((st.map fun v => v.category).sum) 8 = true) (hx : -2147483648 ≤ x ∧ x < 2147483648) (hy : -2147483648 ≤ y ∧ y < 2147483648) (k : Ev Z F q L (zI (if x < y then y else x) :: st) h mc ms Q) : Ev Z F pc L (zI y :: zI x :: st) h mc ms Q := by
  intro p e R s m args below meth c H locs cells slots ls hF hR hl hr hS hc hs
  obtain ⟨hx0, hb, hml, hown, hts, hret, hlk, hnm, htb, hW, hEx, hok⟩ := id hF
  obtain ⟨h1, rfl⟩ := zdec hok hd 3 (fun _ _ => rfl)
  have h89 : (st.map fun v => v.category).sum ≤ 8 := Nat.le_of_ble_eq_true h8
  refine va_mmax hx0 hb (by rw [hml]; exact hl.1.symm) hown (hts _ hk.1) (hts _ hk.2.1) (hts _ hk.2.2.1) (hts _ hk.2.2.2) (by have := hR.1; omega) (by have := hR.2.1; omega) (by have := hR.2.2.1; omega) (by have := hR.2.2.2; omega) h1 ?_
  have e9 := zq_max hx hy
  rw [e9]
  exact k p e R s m args below meth c H locs cells slots ls hF hR hl hr hS hc hs
theorem zz_mmin {idx : Nat} {x y : Int} (hd : zT F.2.1 pc = some (.invokestatic idx, q, t)) (hk : Cond.methodLink (zy F.2.1).cls idx Lib.Math.min.name ∈ zG ∧ Cond.static Lib.Math.min.name ∈ zG ∧ Cond.initialized "java/lang/Math" ∈ zG ∧ Cond.code Lib.Math.min.name Lib.Math.min.code 2 (some .int) ∈ zG) (h8 : Nat.ble ((st.map fun v => v.category).sum) 8 = true) (hx : -2147483648 ≤ x ∧ x < 2147483648) (hy : -2147483648 ≤ y ∧ y < 2147483648) (k : Ev Z F q L (zI (if y < x then y else x) :: st) h mc ms Q) : Ev Z F pc L (zI y :: zI x :: st) h mc ms Q := by
  intro p e R s m args below meth c H locs cells slots ls hF hR hl hr hS hc hs
  obtain ⟨hx0, hb, hml, hown, hts, hret, hlk, hnm, htb, hW, hEx, hok⟩ := id hF
  obtain ⟨h1, rfl⟩ := zdec hok hd 3 (fun _ _ => rfl)
  have h89 : (st.map fun v => v.category).sum ≤ 8 := Nat.le_of_ble_eq_true h8
  refine va_mmin hx0 hb (by rw [hml]; exact hl.1.symm) hown (hts _ hk.1) (hts _ hk.2.1) (hts _ hk.2.2.1) (hts _ hk.2.2.2) (by have := hR.1; omega) (by have := hR.2.1; omega) (by have := hR.2.2.1; omega) (by have := hR.2.2.2; omega) h1 ?_
  have e9 := zq_min hx hy
  rw [e9]
  exact k p e R s m args below meth c H locs cells slots ls hF hR hl hr hS hc hs
theorem zz_mabs {idx : Nat} {x : Int} (hd : zT F.2.1 pc = some (.invokestatic idx, q, t)) (hk : Cond.methodLink (zy F.2.1).cls idx Lib.Math.abs.name ∈ zG ∧ Cond.static Lib.Math.abs.name ∈ zG ∧ Cond.initialized "java/lang/Math" ∈ zG ∧ Cond.code Lib.Math.abs.name Lib.Math.abs.code 1 (some .int) ∈ zG) (h8 : Nat.ble ((st.map fun v => v.category).sum) 8 = true) (hx : -2147483648 ≤ x ∧ x < 2147483648) (k : Ev Z F q L (zI (if 0 ≤ x then x else -x) :: st) h mc ms Q) : Ev Z F pc L (zI x :: st) h mc ms Q := by
  intro p e R s m args below meth c H locs cells slots ls hF hR hl hr hS hc hs
  obtain ⟨hx0, hb, hml, hown, hts, hret, hlk, hnm, htb, hW, hEx, hok⟩ := id hF
  obtain ⟨h1, rfl⟩ := zdec hok hd 3 (fun _ _ => rfl)
  have h89 : (st.map fun v => v.category).sum ≤ 8 := Nat.le_of_ble_eq_true h8
  refine va_mabs hx0 hb (by rw [hml]; exact hl.1.symm) hown (hts _ hk.1) (hts _ hk.2.1) (hts _ hk.2.2.1) (hts _ hk.2.2.2) (by have := hR.1; omega) (by have := hR.2.1; omega) (by have := hR.2.2.1; omega) (by have := hR.2.2.2; omega) h1 ?_
  rw [zq_abs hx]
  exact k p e R s m args below meth c H locs cells slots ls hF hR hl hr hS hc hs
theorem zz_clone {idx a g n : Nat} {f : Nat → Int} (g' N : Nat) (hd : zT F.2.1 pc = some (.invokevirtual idx, q, t)) (hk : Cond.methodLink (zy F.2.1).cls idx ⟨"[I", "clone", "()Ljava/lang/Object;"⟩ ∈ zG ∧ Cond.sameMethod "[I" "java/lang/Object" "clone" "()Ljava/lang/Object;" ∈ zG ∧ Cond.native ⟨"java/lang/Object", "clone", "()Ljava/lang/Object;"⟩ ∈ zG ∧ Cond.instanceMethod ⟨"java/lang/Object", "clone", "()Ljava/lang/Object;"⟩ ∈ zG ∧ Cond.selects "[I" ⟨"[I", "clone", "()Ljava/lang/Object;"⟩ ⟨"java/lang/Object", "clone", "()Ljava/lang/Object;"⟩ ∈ zG ∧ ("[I", "java/lang/Cloneable") ∈ zcasts) (h8 : Nat.ble ((st.map fun v => v.category).sum) 8 = true) (ha : h a = some (zi g n f)) (hN : n ≤ N)
    (kk : ∀ a', h a' = none → Ev Z F q L (.ref a' :: st) (zset h a' (zi g' n f)) mc ms Q) : Ev Z F pc L (.ref a :: st) h (mc + 1) (ms + N) Q := by
  intro p e R s m args below meth c H locs cells slots ls hF hR hl hr hS hc hs
  obtain ⟨hx, hb, hml, hown, hts, hret, hlk, hnm, htb, hW, hEx, hok⟩ := id hF
  obtain ⟨h1, rfl⟩ := zdec hok hd 3 (fun _ _ => rfl)
  have h89 : (st.map fun v => v.category).sum ≤ 8 := Nat.le_of_ble_eq_true h8
  obtain ⟨hk1, hk2, hk3, hk4, hk5, hk6⟩ := hk
  have hbs : Z.2.2.2 ≤ H.size := Nat.le_trans hW.2.2.2.1 hS.1
  refine zw_clone (Z := Z) hx hb (by rw [hml]; exact hl.1.symm) hown (hts _ hk1) (hts _ hk2) (hts _ hk3) (hts _ hk4) (hts _ hk5) (hW.2.1.1 _ hk6) hW.1 ((hr a _ ha).1) (by have := hR.1; omega) (by have := hR.2.1; omega) (by have := hR.2.2.1; omega) (by have := hR.2.2.2; omega) h1 fun H1 e1 z1 o1 => ?_
  exact kk H.size hr.fresh p e R s m args below meth c H1 locs (cells + 1) (slots + n) ls hF hR hl (hr.push e1 hbs o1) ⟨Nat.le_trans hS.1 (by omega), fun x h1 h2 => (o1 x (Nat.lt_of_lt_of_le h1 hS.1)).trans (hS.2.1 x h1 h2), hS.2.2⟩ (by omega) (by omega)
end ZR4
