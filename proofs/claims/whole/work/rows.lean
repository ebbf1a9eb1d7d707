section
-- ===== PART A: goes FIRST, ahead of the names: the tables' words, and 'selects' of the private methods out of them =====
/-- a private method of a class that the tables say can be made, by its rows of tables_1 -/
def lw_okq (q : MethodName × Nat) : Prop := (q.1.cls ≠ "java/lang/invoke/MethodHandle" ∧ q.1.cls ≠ "java/lang/invoke/VarHandle") ∧ Cond.instantiable q.1.cls q.2 ∈ tables_1 ∧ Cond.privateMethod q.1 ∈ tables_1 ∧ Cond.instanceMethod q.1 ∈ tables_1
theorem lw_p0 : lw_okq (⟨"java/lang/Throwable", "fillInStackTrace", "(I)Ljava/lang/Throwable;"⟩, 6) := ⟨⟨by decide +kernel, by decide +kernel⟩, List.mem_of_getElem? (i := 173) (by decide +kernel), List.mem_of_getElem? (i := 171) (by decide +kernel), List.mem_of_getElem? (i := 172) (by decide +kernel)⟩
theorem lw_p1 : lw_okq (⟨"TileStudio", "presentPicture", "()LTileStudio$Picture;"⟩, 5) := ⟨⟨by decide +kernel, by decide +kernel⟩, List.mem_of_getElem? (i := 20) (by decide +kernel), List.mem_of_getElem? (i := 300) (by decide +kernel), List.mem_of_getElem? (i := 301) (by decide +kernel)⟩
theorem lw_p2 : lw_okq (⟨"TileStudio", "pictureWithLayer", "(I)LTileStudio$Picture;"⟩, 5) := ⟨⟨by decide +kernel, by decide +kernel⟩, List.mem_of_getElem? (i := 20) (by decide +kernel), List.mem_of_getElem? (i := 343) (by decide +kernel), List.mem_of_getElem? (i := 344) (by decide +kernel)⟩
theorem lw_p3 : lw_okq (⟨"TileStudio", "paintingOf", "(I)LTileStudio$Painting;"⟩, 5) := ⟨⟨by decide +kernel, by decide +kernel⟩, List.mem_of_getElem? (i := 20) (by decide +kernel), List.mem_of_getElem? (i := 415) (by decide +kernel), List.mem_of_getElem? (i := 416) (by decide +kernel)⟩
theorem lw_p4 : lw_okq (⟨"TileStudioModel", "refuse", "(Z)Z"⟩, 21) := ⟨⟨by decide +kernel, by decide +kernel⟩, List.mem_of_getElem? (i := 701) (by decide +kernel), List.mem_of_getElem? (i := 783) (by decide +kernel), List.mem_of_getElem? (i := 784) (by decide +kernel)⟩
theorem lw_p5 : lw_okq (⟨"TileStudioModel", "freshLayer", "(I)V"⟩, 21) := ⟨⟨by decide +kernel, by decide +kernel⟩, List.mem_of_getElem? (i := 701) (by decide +kernel), List.mem_of_getElem? (i := 787) (by decide +kernel), List.mem_of_getElem? (i := 788) (by decide +kernel)⟩
theorem lw_p6 : lw_okq (⟨"TileStudioModel", "step", "()V"⟩, 21) := ⟨⟨by decide +kernel, by decide +kernel⟩, List.mem_of_getElem? (i := 701) (by decide +kernel), List.mem_of_getElem? (i := 795) (by decide +kernel), List.mem_of_getElem? (i := 796) (by decide +kernel)⟩
theorem lw_p7 : lw_okq (⟨"TileStudioModel", "copyPicture", "(II)V"⟩, 21) := ⟨⟨by decide +kernel, by decide +kernel⟩, List.mem_of_getElem? (i := 701) (by decide +kernel), List.mem_of_getElem? (i := 799) (by decide +kernel), List.mem_of_getElem? (i := 800) (by decide +kernel)⟩
theorem lw_p8 : lw_okq (⟨"TileStudioModel", "copyLayerWays", "(II)V"⟩, 21) := ⟨⟨by decide +kernel, by decide +kernel⟩, List.mem_of_getElem? (i := 701) (by decide +kernel), List.mem_of_getElem? (i := 803) (by decide +kernel), List.mem_of_getElem? (i := 804) (by decide +kernel)⟩
theorem lw_p9 : lw_okq (⟨"TileStudioModel", "layerTo", "(II)V"⟩, 21) := ⟨⟨by decide +kernel, by decide +kernel⟩, List.mem_of_getElem? (i := 701) (by decide +kernel), List.mem_of_getElem? (i := 807) (by decide +kernel), List.mem_of_getElem? (i := 808) (by decide +kernel)⟩
theorem lw_p10 : lw_okq (⟨"TileStudioModel", "isLayer", "(I)Z"⟩, 21) := ⟨⟨by decide +kernel, by decide +kernel⟩, List.mem_of_getElem? (i := 701) (by decide +kernel), List.mem_of_getElem? (i := 815) (by decide +kernel), List.mem_of_getElem? (i := 816) (by decide +kernel)⟩
theorem lw_p11 : lw_okq (⟨"TileStudioModel", "h", "()I"⟩, 21) := ⟨⟨by decide +kernel, by decide +kernel⟩, List.mem_of_getElem? (i := 701) (by decide +kernel), List.mem_of_getElem? (i := 832) (by decide +kernel), List.mem_of_getElem? (i := 833) (by decide +kernel)⟩
theorem lw_p12 : lw_okq (⟨"TileStudioModel", "w", "()I"⟩, 21) := ⟨⟨by decide +kernel, by decide +kernel⟩, List.mem_of_getElem? (i := 701) (by decide +kernel), List.mem_of_getElem? (i := 836) (by decide +kernel), List.mem_of_getElem? (i := 837) (by decide +kernel)⟩
theorem lw_p13 : lw_okq (⟨"TileStudioModel", "selected", "()I"⟩, 21) := ⟨⟨by decide +kernel, by decide +kernel⟩, List.mem_of_getElem? (i := 701) (by decide +kernel), List.mem_of_getElem? (i := 844) (by decide +kernel), List.mem_of_getElem? (i := 845) (by decide +kernel)⟩
theorem lw_p14 : lw_okq (⟨"TileStudioModel", "isChosen", "(II)Z"⟩, 21) := ⟨⟨by decide +kernel, by decide +kernel⟩, List.mem_of_getElem? (i := 701) (by decide +kernel), List.mem_of_getElem? (i := 848) (by decide +kernel), List.mem_of_getElem? (i := 849) (by decide +kernel)⟩
theorem lw_p15 : lw_okq (⟨"TileStudioModel", "beginTool", "(I)V"⟩, 21) := ⟨⟨by decide +kernel, by decide +kernel⟩, List.mem_of_getElem? (i := 701) (by decide +kernel), List.mem_of_getElem? (i := 860) (by decide +kernel), List.mem_of_getElem? (i := 861) (by decide +kernel)⟩
def lw_privs_1 : List (MethodName × Nat) := [(⟨"java/lang/Throwable", "fillInStackTrace", "(I)Ljava/lang/Throwable;"⟩, 6), (⟨"TileStudio", "presentPicture", "()LTileStudio$Picture;"⟩, 5), (⟨"TileStudio", "pictureWithLayer", "(I)LTileStudio$Picture;"⟩, 5), (⟨"TileStudio", "paintingOf", "(I)LTileStudio$Painting;"⟩, 5), (⟨"TileStudioModel", "refuse", "(Z)Z"⟩, 21), (⟨"TileStudioModel", "freshLayer", "(I)V"⟩, 21), (⟨"TileStudioModel", "step", "()V"⟩, 21), (⟨"TileStudioModel", "copyPicture", "(II)V"⟩, 21), (⟨"TileStudioModel", "copyLayerWays", "(II)V"⟩, 21), (⟨"TileStudioModel", "layerTo", "(II)V"⟩, 21), (⟨"TileStudioModel", "isLayer", "(I)Z"⟩, 21), (⟨"TileStudioModel", "h", "()I"⟩, 21), (⟨"TileStudioModel", "w", "()I"⟩, 21), (⟨"TileStudioModel", "selected", "()I"⟩, 21), (⟨"TileStudioModel", "isChosen", "(II)Z"⟩, 21), (⟨"TileStudioModel", "beginTool", "(I)V"⟩, 21)]
theorem lw_r1 : ∀ q ∈ lw_privs_1, lw_okq q := List.forall_mem_cons.mpr ⟨lw_p0, List.forall_mem_cons.mpr ⟨lw_p1, List.forall_mem_cons.mpr ⟨lw_p2, List.forall_mem_cons.mpr ⟨lw_p3, List.forall_mem_cons.mpr ⟨lw_p4, List.forall_mem_cons.mpr ⟨lw_p5, List.forall_mem_cons.mpr ⟨lw_p6, List.forall_mem_cons.mpr ⟨lw_p7, List.forall_mem_cons.mpr ⟨lw_p8, List.forall_mem_cons.mpr ⟨lw_p9, List.forall_mem_cons.mpr ⟨lw_p10, List.forall_mem_cons.mpr ⟨lw_p11, List.forall_mem_cons.mpr ⟨lw_p12, List.forall_mem_cons.mpr ⟨lw_p13, List.forall_mem_cons.mpr ⟨lw_p14, List.forall_mem_cons.mpr ⟨lw_p15, fun _ h => absurd h List.not_mem_nil⟩⟩⟩⟩⟩⟩⟩⟩⟩⟩⟩⟩⟩⟩⟩⟩
theorem lw_p16 : lw_okq (⟨"TileStudioModel", "at", "(III)I"⟩, 21) := ⟨⟨by decide +kernel, by decide +kernel⟩, List.mem_of_getElem? (i := 701) (by decide +kernel), List.mem_of_getElem? (i := 864) (by decide +kernel), List.mem_of_getElem? (i := 865) (by decide +kernel)⟩
theorem lw_p17 : lw_okq (⟨"TileStudioModel", "put", "(IIII)V"⟩, 21) := ⟨⟨by decide +kernel, by decide +kernel⟩, List.mem_of_getElem? (i := 701) (by decide +kernel), List.mem_of_getElem? (i := 868) (by decide +kernel), List.mem_of_getElem? (i := 869) (by decide +kernel)⟩
theorem lw_p18 : lw_okq (⟨"TileStudioModel", "isReached", "(II)Z"⟩, 21) := ⟨⟨by decide +kernel, by decide +kernel⟩, List.mem_of_getElem? (i := 701) (by decide +kernel), List.mem_of_getElem? (i := 905) (by decide +kernel), List.mem_of_getElem? (i := 906) (by decide +kernel)⟩
theorem lw_p19 : lw_okq (⟨"TileStudioModel", "isNear", "(III)Z"⟩, 21) := ⟨⟨by decide +kernel, by decide +kernel⟩, List.mem_of_getElem? (i := 701) (by decide +kernel), List.mem_of_getElem? (i := 909) (by decide +kernel), List.mem_of_getElem? (i := 910) (by decide +kernel)⟩
theorem lw_p20 : lw_okq (⟨"TileStudioModel", "before", "(II)I"⟩, 21) := ⟨⟨by decide +kernel, by decide +kernel⟩, List.mem_of_getElem? (i := 701) (by decide +kernel), List.mem_of_getElem? (i := 929) (by decide +kernel), List.mem_of_getElem? (i := 930) (by decide +kernel)⟩
theorem lw_p21 : lw_okq (⟨"TileStudioModel", "tiles", "()I"⟩, 21) := ⟨⟨by decide +kernel, by decide +kernel⟩, List.mem_of_getElem? (i := 701) (by decide +kernel), List.mem_of_getElem? (i := 949) (by decide +kernel), List.mem_of_getElem? (i := 950) (by decide +kernel)⟩
theorem lw_p22 : lw_okq (⟨"TileStudioModel", "isPlace", "(III)Z"⟩, 21) := ⟨⟨by decide +kernel, by decide +kernel⟩, List.mem_of_getElem? (i := 701) (by decide +kernel), List.mem_of_getElem? (i := 961) (by decide +kernel), List.mem_of_getElem? (i := 962) (by decide +kernel)⟩
theorem lw_p23 : lw_okq (⟨"TileStudioModel", "climb", "(II)V"⟩, 21) := ⟨⟨by decide +kernel, by decide +kernel⟩, List.mem_of_getElem? (i := 701) (by decide +kernel), List.mem_of_getElem? (i := 968) (by decide +kernel), List.mem_of_getElem? (i := 969) (by decide +kernel)⟩
theorem lw_p24 : lw_okq (⟨"TileStudioModel", "four", "(IIII)I"⟩, 21) := ⟨⟨by decide +kernel, by decide +kernel⟩, List.mem_of_getElem? (i := 701) (by decide +kernel), List.mem_of_getElem? (i := 972) (by decide +kernel), List.mem_of_getElem? (i := 973) (by decide +kernel)⟩
def lw_privs_2 : List (MethodName × Nat) := [(⟨"TileStudioModel", "at", "(III)I"⟩, 21), (⟨"TileStudioModel", "put", "(IIII)V"⟩, 21), (⟨"TileStudioModel", "isReached", "(II)Z"⟩, 21), (⟨"TileStudioModel", "isNear", "(III)Z"⟩, 21), (⟨"TileStudioModel", "before", "(II)I"⟩, 21), (⟨"TileStudioModel", "tiles", "()I"⟩, 21), (⟨"TileStudioModel", "isPlace", "(III)Z"⟩, 21), (⟨"TileStudioModel", "climb", "(II)V"⟩, 21), (⟨"TileStudioModel", "four", "(IIII)I"⟩, 21)]
theorem lw_r2 : ∀ q ∈ lw_privs_2, lw_okq q := List.forall_mem_cons.mpr ⟨lw_p16, List.forall_mem_cons.mpr ⟨lw_p17, List.forall_mem_cons.mpr ⟨lw_p18, List.forall_mem_cons.mpr ⟨lw_p19, List.forall_mem_cons.mpr ⟨lw_p20, List.forall_mem_cons.mpr ⟨lw_p21, List.forall_mem_cons.mpr ⟨lw_p22, List.forall_mem_cons.mpr ⟨lw_p23, List.forall_mem_cons.mpr ⟨lw_p24, fun _ h => absurd h List.not_mem_nil⟩⟩⟩⟩⟩⟩⟩⟩⟩
def lw_privs : List (MethodName × Nat) := lw_privs_1 ++ (lw_privs_2)
def lw_tbl : List Cond := k2_sels lw_privs ++ tables_1
theorem lw_privs_ok : ∀ q ∈ lw_privs, lw_okq q := by
  show ∀ q ∈ lw_privs_1 ++ (lw_privs_2), lw_okq q
  exact List.forall_mem_append.mpr ⟨lw_r1, lw_r2⟩
end
section
/-! ===== BEGIN exceptions that leave a method, and their catching by the caller (launches without stack traces) ===== -/
section VXA
/-- where a method has thrown q: the class by its name, the cell, what was written, the world -/
def vx_T (XC : String → State → State → Prop) (st : State) (q : Addr) (t : State) (mc ms : Nat) (free : Addr → Prop) : Prop :=
  ∃ (E : String) (ce : Cell) (L : List Loc), XC E st t ∧ t.heap[q]? = some ce ∧ ce.vm = .none ∧ st.vm.findClass E = some ce.cls ∧ st.WarmedH t.vm ∧ st.sameButNew ({ t with vm := st.vm } : State) L mc ms ∧ ∀ z ∈ L, free z.base
def vx_Q (Qc : Array Value → State → Outcome → State → Prop) (XC : String → State → State → Prop) (mc ms : Nat) (free : Addr → Prop) : Array Value → State → Outcome → State → Prop := fun a st o t =>
  (Qc a st o t ∧ ∃ L, FrameEnd st o t L mc ms ∧ ∀ q ∈ L, free q.base) ∨ ∃ q, o = .threw q ∧ vx_T XC st q t mc ms free
/-- a callee that returns or throws -/
def vx_Met (l : Launch) (y : MethodName) (ws : List Cond) (rm : Room) (Pc : Array Value → State → Prop) (Qc : Array Value → State → Outcome → State → Prop) (XC : String → State → State → Prop) (mc ms : Nat) (free : Addr → Prop) : Prop :=
  MetFree l y (headSpec ws rm) Pc (fun _ _ _ _ _ => True) (vx_Q Qc XC mc ms free)
def vx_Post (XC : String → State → State → Prop) (mc ms : Nat) (free : Addr → Prop) : Pt → Array Value → Addr → Pt → Prop := fun A a q B =>
  ∃ (g : JFrame) (mk : MethodId) (t : State) (L : List Loc) (E : String) (ce : Cell), B.U.heap = t.heap ∧ B.U.vm = t.vm ∧ XC E (A.U.calling g mk a) t ∧ t.heap[q]? = some ce ∧ ce.vm = .none ∧ A.U.vm.findClass E = some ce.cls ∧ B.locs = A.locs ++ L ∧ (∀ z ∈ L, free z.base) ∧ B.cells = A.cells + mc ∧ B.slots = A.slots + ms
def vx_Back (l : Launch) (R : Room) (p : Program) (e : Env) (below : List Frame) (s : State) (sargs : Array Value) (y : MethodName) (len W9 : Nat)
    (Pre : Pt → Array Value → Prop) (Post : Pt → Array Value → Option Value → Pt → Prop) (PostX : Pt → Array Value → Addr → Pt → Prop) : Prop :=
  ∀ (m : MethodId) (meth : Method) (c : Code) (A : Pt) (g : JFrame) (ig : Instr) (mk : MethodId) (a : Array Value),
    Stand p l e R s m sargs below meth c A.U A.locs A.cells A.slots → g.method = m → g.locals.size = c.maxLocals → decode c.code g.pc = .ok (ig, len) →
    2 * g.monitorRoom + (g.stack.map fun v => v.category).sum ≤ W9 → A.U.methodNamed? y = some mk → Pre A a →
    (∃ (v : Option Value) (B : Pt), Stand p l e R s m sargs below meth c B.U B.locs B.cells B.slots ∧ Post A a v B ∧
      Steps p.tables e below (doInvoke e (A.U.setTop g) [] mk a).1 (B.U.setTop { g with pc := g.pc + len, stack := v.toList ++ g.stack })) ∨
    (∃ (q : Addr) (B : Pt), Stand p l e R s m sargs below meth c B.U B.locs B.cells B.slots ∧ PostX A a q B ∧
      Steps p.tables e below (doInvoke e (A.U.setTop g) [] mk a).1 ((B.U.setTop g).pushFrame (.throwing q)))
section Payer
variable {l : Launch} {R : Room} {p : Program} {e : Env} {below : List Frame} {s : State} {sargs : Array Value} {y : MethodName} {len W9 : Nat}
theorem vx_back {ws : List Cond} {rm : Room} {Pc : Array Value → State → Prop} {Qc : Array Value → State → Outcome → State → Prop} {XC : String → State → State → Prop} {mc ms : Nat} {free : Addr → Prop} {bytes : ByteArray} {maxL : Nat} {ret : Option FieldType}
    (hM : vx_Met l y ws rm Pc Qc XC mc ms free) (hblind : FrameBlind Pc) (hrc : rm.cells = mc) (hrs : rm.slots = ms)
    (hframes : rm.frames + 1 ≤ R.frames) (hlocals : W9 + (maxL + 11) + rm.locals ≤ R.locals)
    (hws : ∀ w ∈ ws, ∀ a' U, s.WarmedH U.vm → w.before a' U = true) (hcode : Cond.code y bytes maxL ret ∈ ws) (hinit : ∀ a' U, s.WarmedH U.vm → (Cond.initialized y.cls).before a' U = true) :
    vx_Back l R p e below s sargs y len W9 (PreOf R mc ms Pc) (PostOf Qc mc ms free) (vx_Post XC mc ms free) := by
  intro m meth c A g ig mk a X hg hsize hdg hW hn hp
  have h1 : (headSpec ws rm).pre.before a A.U = true := atoms_intro fun w hw => hws w hw _ _ X.warmed
  have h2 : (Cond.code y bytes maxL ret).before a A.U = true := hws _ hcode _ _ X.warmed
  have h3 : (Cond.initialized y.cls).before a A.U = true := hinit _ _ X.warmed
  have h4 : A.cells + (headSpec ws rm).room.cells ≤ R.cells := by rw [show (headSpec ws rm).room.cells = mc from hrc]; exact hp.1
  have h5 : A.slots + (headSpec ws rm).room.slots ≤ R.slots := by rw [show (headSpec ws rm).room.slots = ms from hrs]; exact hp.2.1
  have hPc : Pc a (A.U.calling g mk a) := hblind _ _ _ _ hp.2.2
  obtain ⟨U, Ls, c0, s0⟩ := A
  dsimp only [Pt.U, Pt.locs, Pt.cells, Pt.slots] at h1 h2 h3 h4 h5 X hn hPc ⊢
  obtain ⟨methY, cY, hmY, hcY, -, hlY, -, -, -, -⟩ := Cond.code_spec hn h2
  obtain ⟨kY, hkY, -⟩ := className_of_methodNamed hn
  have hinitY : kY.init = .initialized := Cond.initialized_spec (findClass_of_methodNamed hn) hkY h3
  have h : At U g.method c below := by rw [hg]; exact X.here
  have hlocals9 : W9 + (maxL + 11) + (headSpec ws rm).room.locals ≤ R.locals := hlocals
  have happ : (headSpec ws rm).appliesLoose y e.platform (U.calling g mk a) = true :=
    Spec.appliesLoose_calling (g := g) h hdg hn hkY hinitY
      (X.room_calling (g := g) (R' := (headSpec ws rm).room) hsize hmY hcY hframes (by rw [hlY]; omega) h4 h5) h1
  obtain ⟨mid, hmid⟩ := h.above
  have hfr : (U.setTop g).frames = (.java g :: mid) ++ below := by rw [State.frames_setTop' g h.top, hmid]; rfl
  obtain ⟨o, s₂, hsteps, -, hend, hq⟩ := Steps.callFree hM p X.admits X.cas X.clock (acts := []) hfr happ hPc trivial
  have hq' : vx_Q Qc XC mc ms free a (U.calling g mk a) o s₂ := hq
  rw [State.frames_setTop' g h.top] at hend
  obtain ⟨g₀, hg0⟩ := Option.isSome_iff_exists.mp h.top
  obtain ⟨r, hr⟩ := State.topJava?_eq_some.mp hg0
  have hr' : (({ U with heap := s₂.heap, slotsUsed := s₂.slotsUsed } : State).setVm s₂.vm).frames = .java g₀ :: r := hr
  rcases hq' with ⟨hqc, L, hfe, hL⟩ | ⟨q, rfl, E, ce, L, hx, hce, hcv, hcl, hW₂, hsm, hL⟩
  · obtain ⟨⟨v, rfl⟩, hW₂, e2, q2, q3, q4, q5, q6⟩ := id hfe
    have e3 : s₂ = ({ (U.calling g mk a).setFrames s₂.frames with heap := s₂.heap, slotsUsed := s₂.slotsUsed } : State).setVm s₂.vm := by
      have : s₂ = ({ s₂ with vm := (U.calling g mk a).vm } : State).setVm s₂.vm := rfl
      rw [e2] at this
      exact this
    obtain ⟨c₂, i₂, len₂, hc₂, hd₂, hf₂⟩ := hend
    have hW' : U.WarmedH s₂.vm := hW₂
    have hcc : c₂ = c := by
      have h1 : s₂.code? g.method = U.code? g.method := by
        rw [State.code?_eq, State.code?_eq, hW'.alike.method?]
      exact Option.some.inj (hc₂.symm.trans (h1.trans h.code))
    subst hcc
    have hlen : len₂ = len := by rw [hdg] at hd₂; cases hd₂; rfl
    subst hlen
    have hs₂ : s₂ = (({ U with heap := s₂.heap, slotsUsed := s₂.slotsUsed } : State).setVm s₂.vm).setTop { g with pc := g.pc + len₂, stack := v.toList ++ g.stack } := by
      refine e3.trans ?_
      rw [hf₂, State.calling_eq h.top, State.setFrames_setFrames, State.setTop_of_frames _ hr', hr]
      rfl
    have hsame : U.sameButNew ({ U with heap := s₂.heap, slotsUsed := s₂.slotsUsed } : State) L mc ms := by
      refine ⟨?_, q2, q3, q4, q5, q6⟩
      obtain ⟨t, ht, -⟩ := State.frames_cons hr
      show ({ U with heap := s₂.heap, slotsUsed := s₂.slotsUsed } : State) = { U.setFrames U.frames with heap := s₂.heap, slotsUsed := s₂.slotsUsed }
      rw [State.setFrames_self ht]
    subst hg
    refine Or.inl ⟨v, ⟨(({ U with heap := s₂.heap, slotsUsed := s₂.slotsUsed } : State).setVm s₂.vm), Ls ++ L, c0 + mc, s0 + ms⟩,
      ⟨X.admits, X.cas, X.clock, X.frames, X.room, X.hears, X.method, X.code, (X.here.setHeapUsed s₂.heap s₂.slotsUsed).setVm hW'.alike, X.tail, State.WarmedH.trans X.warmed hW', X.limits, X.bytes, X.same.trans (hsame.setVm s.vm)⟩,
      ⟨g, mk, s₂, L, rfl, rfl, hqc, rfl, hL, rfl, rfl⟩, ?_⟩
    show Steps p.tables e below _ ((({ U with heap := s₂.heap, slotsUsed := s₂.slotsUsed } : State).setVm s₂.vm).setTop { g with pc := g.pc + len₂, stack := v.toList ++ g.stack })
    rw [← hs₂]
    exact hsteps
  · obtain ⟨e2, q2, q3, q4, q5, q6⟩ := id hsm
    have e3 : s₂ = ({ (U.calling g mk a).setFrames s₂.frames with heap := s₂.heap, slotsUsed := s₂.slotsUsed } : State).setVm s₂.vm := by
      have : s₂ = ({ s₂ with vm := (U.calling g mk a).vm } : State).setVm s₂.vm := rfl
      rw [e2] at this
      exact this
    have hf₂ : s₂.frames = .throwing q :: .java g :: U.frames.tail := hend
    have hW' : U.WarmedH s₂.vm := hW₂
    have hs₂ : s₂ = ((({ U with heap := s₂.heap, slotsUsed := s₂.slotsUsed } : State).setVm s₂.vm).setTop g).pushFrame (.throwing q) := by
      refine e3.trans ?_
      rw [hf₂, State.calling_eq h.top, State.setFrames_setFrames, State.pushFrame, State.frames_setTop _ hr', State.setTop_of_frames _ hr', State.setFrames_setFrames, hr]
      rfl
    have hsame : U.sameButNew ({ U with heap := s₂.heap, slotsUsed := s₂.slotsUsed } : State) L mc ms := by
      refine ⟨?_, q2, q3, q4, q5, q6⟩
      obtain ⟨t, ht, -⟩ := State.frames_cons hr
      show ({ U with heap := s₂.heap, slotsUsed := s₂.slotsUsed } : State) = { U.setFrames U.frames with heap := s₂.heap, slotsUsed := s₂.slotsUsed }
      rw [State.setFrames_self ht]
    subst hg
    refine Or.inr ⟨q, ⟨(({ U with heap := s₂.heap, slotsUsed := s₂.slotsUsed } : State).setVm s₂.vm), Ls ++ L, c0 + mc, s0 + ms⟩,
      ⟨X.admits, X.cas, X.clock, X.frames, X.room, X.hears, X.method, X.code, (X.here.setHeapUsed s₂.heap s₂.slotsUsed).setVm hW'.alike, X.tail, State.WarmedH.trans X.warmed hW', X.limits, X.bytes, X.same.trans (hsame.setVm s.vm)⟩,
      ⟨g, mk, s₂, L, E, ce, rfl, rfl, hx, hce, hcv, hcl, rfl, hL, rfl, rfl⟩, ?_⟩
    show Steps p.tables e below _ (((({ U with heap := s₂.heap, slotsUsed := s₂.slotsUsed } : State).setVm s₂.vm).setTop g).pushFrame (.throwing q))
    rw [← hs₂]
    exact hsteps
end Payer
section Calls
variable {p : Program} {l : Launch} {e : Env} {R : Room} {s : State} {m : MethodId} {args : Array Value} {below : List Frame} {meth : Method} {c : Code} {T : State} {locs : List Loc} {cells slots : Nat}
theorem vx_callV (X : Stand p l e R s m args below meth c T locs cells slots) (hexec : p.tables.exec = Jvm.exec) {own C : String} {index : Nat} {y : MethodName} {bytes : ByteArray} {maxL : Nat} {ret : Option FieldType}
    (hown : s.vm.findClass own = some m.cls) (hlink : (Cond.methodLink own index y).before args s = true) (hinst : (Cond.instanceMethod y).before args s = true) (hsel : (Cond.selects C y y).before args s = true)
    (hcode : (Cond.code y bytes maxL ret).before args s = true) (hy : y.cls ≠ "java/lang/invoke/MethodHandle" ∧ y.cls ≠ "java/lang/invoke/VarHandle")
    {W9 : Nat} {Pre : Pt → Array Value → Prop} {Post : Pt → Array Value → Option Value → Pt → Prop} {PostX : Pt → Array Value → Addr → Pt → Prop} (hK : vx_Back l R p e below s args y 3 W9 Pre Post PostX)
    {b : Addr} {cellB : Cell} (hcell : T.heap[b]? = some cellB) (hobj : cellB.vm.isStatics = false) (hcls : s.vm.findClass C = some cellB.cls)
    {g : JFrame} (hg : g.method = m) (hsize : g.locals.size = c.maxLocals) {argsL rest : List Value} (hlen : ∀ sig, parseMethodDescriptor y.desc = some sig → argsL.length = sig.parameters.length)
    (hstack : g.stack = argsL.reverse ++ .ref b :: rest) (hW : 2 * g.monitorRoom + (rest.map fun v => v.category).sum ≤ W9) (hdg : decode c.code g.pc = .ok (.invokevirtual index, 3))
    (hpre : ∀ vm₁, s.WarmedH vm₁ → Pre ⟨T.setVm vm₁, locs, cells, slots⟩ (Value.ref b :: argsL).toArray) :
    (∃ (v : Option Value) (vm₁ : Vm) (B : Pt), s.WarmedH vm₁ ∧ Stand p l e R s m args below meth c B.U B.locs B.cells B.slots ∧ Post ⟨T.setVm vm₁, locs, cells, slots⟩ (Value.ref b :: argsL).toArray v B ∧
      ∀ target, Steps p.tables e below (B.U.setTop { g with pc := g.pc + 3, stack := v.toList ++ rest }) target → Steps p.tables e below (T.setTop g) target) ∨
    (∃ (q : Addr) (vm₁ : Vm) (B : Pt), s.WarmedH vm₁ ∧ Stand p l e R s m args below meth c B.U B.locs B.cells B.slots ∧ PostX ⟨T.setVm vm₁, locs, cells, slots⟩ (Value.ref b :: argsL).toArray q B ∧
      Steps p.tables e below (T.setTop g) ((B.U.setTop { g with stack := rest }).pushFrame (.throwing q))) := by
  obtain ⟨mk, methM, hnamed, hmethM, hstM, habM⟩ := Cond.instanceMethod_spec hinst
  obtain ⟨methM', cM, hmethM', -, -, -, -, -, -, hsigM⟩ := Cond.code_spec hnamed hcode
  cases hmethM.symm.trans hmethM'
  obtain ⟨c2, r2, m2, q1, q2, q3, q4, kP, hkP, hkPi⟩ := Cond.selects_spec hsel
  cases hcls.symm.trans q1
  cases (State.methodFound?_of_named hnamed hy).symm.trans q2
  cases hnamed.symm.trans q3
  have hselP : selectMethod e.platform s.vm cellB.cls mk = .method mk := by rw [Launch.admits_selectMethod X.admits]; exact q4
  obtain ⟨vm₁, X₁, hstep₁⟩ := X.invokevirtual hexec hown hlink hnamed hmethM hstM hkP hkPi hy (a := b) (cell := cellB) hcell
    (fun z h => by rw [h] at hobj; cases hobj) hselP hmethM habM hkP hkPi (g := g) hg (argsL := argsL) (rest := rest) (hlen _ hsigM) hstack hdg
  rcases hK m meth c ⟨T.setVm vm₁, locs, cells, slots⟩ { g with stack := rest } (.invokevirtual index) mk (Value.ref b :: argsL).toArray X₁ hg hsize hdg hW (X₁.named hnamed) (hpre vm₁ X₁.warmed) with ⟨v, B, X', hpost, hsteps⟩ | ⟨q, B, X', hpost, hsteps⟩
  · exact Or.inl ⟨v, vm₁, B, X₁.warmed, X', hpost, fun target h => hstep₁ _ fun acts => by rw [doInvoke_state]; exact hsteps.trans h⟩
  · exact Or.inr ⟨q, vm₁, B, X₁.warmed, X', hpost, hstep₁ _ fun acts => by rw [doInvoke_state]; exact hsteps⟩
theorem vx_callS (X : Stand p l e R s m args below meth c T locs cells slots) (hexec : p.tables.exec = Jvm.exec) {own : String} {index : Nat} {y : MethodName} {bytes : ByteArray} {maxL : Nat} {ret : Option FieldType}
    (hown : s.vm.findClass own = some m.cls) (hlink : (Cond.methodLink own index y).before args s = true) (hstat : (Cond.static y).before args s = true) (hinit : (Cond.initialized y.cls).before args s = true)
    (hcode : (Cond.code y bytes maxL ret).before args s = true) (hy : y.cls ≠ "java/lang/invoke/MethodHandle" ∧ y.cls ≠ "java/lang/invoke/VarHandle")
    {W9 : Nat} {Pre : Pt → Array Value → Prop} {Post : Pt → Array Value → Option Value → Pt → Prop} {PostX : Pt → Array Value → Addr → Pt → Prop} (hK : vx_Back l R p e below s args y 3 W9 Pre Post PostX)
    {g : JFrame} (hg : g.method = m) (hsize : g.locals.size = c.maxLocals) {argsL rest : List Value} (hlen : ∀ sig, parseMethodDescriptor y.desc = some sig → argsL.length = sig.parameters.length)
    (hstack : g.stack = argsL.reverse ++ rest) (hW : 2 * g.monitorRoom + (rest.map fun v => v.category).sum ≤ W9) (hdg : decode c.code g.pc = .ok (.invokestatic index, 3))
    (hpre : ∀ vm₁, s.WarmedH vm₁ → Pre ⟨T.setVm vm₁, locs, cells, slots⟩ argsL.toArray) :
    (∃ (v : Option Value) (vm₁ : Vm) (B : Pt), s.WarmedH vm₁ ∧ Stand p l e R s m args below meth c B.U B.locs B.cells B.slots ∧ Post ⟨T.setVm vm₁, locs, cells, slots⟩ argsL.toArray v B ∧
      ∀ target, Steps p.tables e below (B.U.setTop { g with pc := g.pc + 3, stack := v.toList ++ rest }) target → Steps p.tables e below (T.setTop g) target) ∨
    (∃ (q : Addr) (vm₁ : Vm) (B : Pt), s.WarmedH vm₁ ∧ Stand p l e R s m args below meth c B.U B.locs B.cells B.slots ∧ PostX ⟨T.setVm vm₁, locs, cells, slots⟩ argsL.toArray q B ∧
      Steps p.tables e below (T.setTop g) ((B.U.setTop { g with stack := rest }).pushFrame (.throwing q))) := by
  obtain ⟨mk, hnamed⟩ := Cond.code_named hcode
  obtain ⟨methM, cM, hmethM, -, -, -, -, -, -, hsigM⟩ := Cond.code_spec hnamed hcode
  have hstatic : methM.isStatic = true := Cond.static_spec hnamed hmethM hstat
  obtain ⟨kP, hkP, -⟩ := className_of_methodNamed hnamed
  have hinitP : kP.init = .initialized := Cond.initialized_spec (findClass_of_methodNamed hnamed) hkP hinit
  obtain ⟨vm₁, X₁, hstep₁⟩ := X.invokestatic hexec hown hlink hnamed hmethM hstatic hkP hinitP hy (g := g) hg (argsL := argsL) (rest := rest) (hlen _ hsigM) hstack hdg
  rcases hK m meth c ⟨T.setVm vm₁, locs, cells, slots⟩ { g with stack := rest } (.invokestatic index) mk argsL.toArray X₁ hg hsize hdg hW (X₁.named hnamed) (hpre vm₁ X₁.warmed) with ⟨v, B, X', hpost, hsteps⟩ | ⟨q, B, X', hpost, hsteps⟩
  · exact Or.inl ⟨v, vm₁, B, X₁.warmed, X', hpost, fun target h => hstep₁ _ fun acts => by rw [doInvoke_state]; exact hsteps.trans h⟩
  · exact Or.inr ⟨q, vm₁, B, X₁.warmed, X', hpost, hstep₁ _ fun acts => by rw [doInvoke_state]; exact hsteps⟩
end Calls
theorem vx_cls {s : State} {T : State} {vm₁ : Vm} {E : String} {k : ClassId} (hW : s.WarmedH vm₁) (h : (T.setVm vm₁).vm.findClass E = some k) : s.vm.findClass E = some k := by
  have h1 : vm₁.findClass E = some k := h
  rw [hW.alike.findClass] at h1
  exact h1
/-- the method's frame g, with q thrown over it -/
def vx_W (p : Program) (l : Launch) (e : Env) (R : Room) (s : State) (m : MethodId) (args : Array Value) (below : List Frame) (meth : Method) (c : Code) (H : Heap) (locs : List Loc) (cells slots : Nat) (Q : State → Prop) (g : JFrame) (q : Addr) : Prop :=
  ∀ T : State, T.heap = H → Stand p l e R s m args below meth c T locs cells slots → ∃ t, Steps p.tables e below ((T.setTop g).pushFrame (.throwing q)) t ∧ Q t
def vx_Run (p : Program) (l : Launch) (e : Env) (R : Room) (s : State) (m : MethodId) (args : Array Value) (below : List Frame) (meth : Method) (c : Code) (H : Heap) (locs : List Loc) (cells slots mc ms : Nat) (g : JFrame) (rest : List Value) (Qa : State → Outcome → State → Prop) (XC : String → State → State → Prop) (free : Addr → Prop) : Prop :=
  ∀ T : State, T.heap = H → Stand p l e R s m args below meth c T locs cells slots →
    (∃ (v : Option Value) (st₀ t T' : State) (L : List Loc), st₀.heap = H ∧ Stand p l e R s m args below meth c T' (locs ++ L) (cells + mc) (slots + ms) ∧ (∀ q ∈ L, free q.base) ∧ T'.heap = t.heap ∧ T'.vm = t.vm ∧ Qa st₀ (.returned v) t ∧
      Goes p e below T g T' { g with pc := g.pc + 3, stack := v.toList ++ rest }) ∨
    (∃ (q : Addr) (st₀ t T' : State) (L : List Loc) (E : String) (ce : Cell), st₀.heap = H ∧ Stand p l e R s m args below meth c T' (locs ++ L) (cells + mc) (slots + ms) ∧ (∀ z ∈ L, free z.base) ∧ T'.heap = t.heap ∧ T'.vm = t.vm ∧ XC E st₀ t ∧ t.heap[q]? = some ce ∧ ce.vm = .none ∧ s.vm.findClass E = some ce.cls ∧
      Steps p.tables e below (T.setTop g) ((T'.setTop { g with stack := rest }).pushFrame (.throwing q)))
def vx_X {S : Type} (px : S → Prop) (B : String → S → State → Prop) (A : Nat → Prop) : String → State → State → Prop := fun E st t => ∃ u : S, px u ∧ B E u t ∧ va_F A st t
section Runs
variable {p : Program} {l : Launch} {e : Env} {R : Room} {s : State} {m : MethodId} {args : Array Value} {below : List Frame} {meth : Method} {c : Code} {H : Heap} {locs : List Loc} {cells slots : Nat}
variable {y : MethodName} {bytes cc : ByteArray} {maxL nL mc ms n index : Nat} {ret : Option FieldType} {ws : List Cond} {rm : Room} {Pc : Array Value → State → Prop} {Qc : Array Value → State → Outcome → State → Prop} {XC : String → State → State → Prop} {free : Addr → Prop} {Ts : List Cond} {own C : String} {b : Addr} {As rest : List Value} {g : JFrame}
theorem vx_callBack (cb : CallB R s args own index y bytes maxL ret ws rm mc ms n) (hM : vx_Met l y ws rm Pc Qc XC mc ms free) (hbl : FrameBlind Pc) : vx_Back l R p e below s args y 3 8 (PreOf R mc ms Pc) (PostOf Qc mc ms free) (vx_Post XC mc ms free) := by
  obtain ⟨hrc, hrs, hfr, hlo, hws, hcw, -, hini, -⟩ := cb
  exact vx_back (bytes := bytes) (maxL := maxL) (ret := ret) hM hbl hrc hrs hfr hlo hws hcw (fun a' U hW => word_at hW (Or.inl (by first | rfl | simp [Cond.onTables, Cond.keeps, Cond.steady])) hini)
theorem vx_runV (S : CallFix p m c cc nL s args Ts own) (hM : vx_Met l y ws rm Pc Qc XC mc ms free) (cw : CallW R s args own C index y bytes maxL ret ws rm mc ms n) (hp : PreV s H C b Pc As)
    (hg : g.method = m) (hn : As.length = n) (hsize : g.locals.size = nL) (hstack : g.stack = As.reverse ++ .ref b :: rest) (hW : 2 * g.monitorRoom + (rest.map fun v => v.category).sum ≤ 8) (hdg : decode cc g.pc = .ok (.invokevirtual index, 3)) (hf : cells + mc ≤ R.cells ∧ slots + ms ≤ R.slots) :
    vx_Run p l e R s m args below meth c H locs cells slots mc ms g rest (Qc (Value.ref b :: As).toArray) XC free := by
  have hK : vx_Back l R p e below s args y 3 8 (PreOf R mc ms Pc) (PostOf Qc mc ms free) (vx_Post XC mc ms free) := vx_callBack cw.1 hM hp.1
  obtain ⟨⟨-, -, -, -, -, -, hcode, -, hy, hlen, hl⟩, hin, hse⟩ := cw
  obtain ⟨hx, hb, hml, ho, -⟩ := S
  obtain ⟨-, ⟨cellB, hcB, hoB, hclB⟩, hPc⟩ := hp
  intro T hT X
  rcases vx_callV X hx (C := C) (bytes := bytes) (maxL := maxL) (ret := ret) ho hl hin hse hcode hy hK (by rw [hT]; exact hcB) hoB hclB hg (hsize.trans hml.symm) (argsL := As) (rest := rest) (fun sig h => hn.trans (hlen sig h)) hstack hW (by rw [hb]; exact hdg)
    (fun vm₁ hW₁ => ⟨hf.1, hf.2, hPc (T.setVm vm₁) hT hW₁⟩) with ⟨v, vm₁, ⟨U', l2, c2, s2⟩, hW₁, X', ⟨g', mk, t, L, e1, e2, hq, h1, hL, h2, h3⟩, st⟩ | ⟨q, vm₁, ⟨U', l2, c2, s2⟩, hW₁, X', ⟨g', mk, t, L, E, ce, e1, e2, hq, hce, hcv, hcl, h1, hL, h2, h3⟩, st⟩
  · dsimp only [Pt.U, Pt.locs, Pt.cells, Pt.slots] at X' e1 e2 h1 h2 h3 st
    subst h1; subst h2; subst h3
    exact Or.inl ⟨v, (T.setVm vm₁).calling g' mk (Value.ref b :: As).toArray, t, U', L, hT, X', hL, e1, e2, hq, st⟩
  · dsimp only [Pt.U, Pt.locs, Pt.cells, Pt.slots] at X' e1 e2 h1 h2 h3 st hcl
    subst h1; subst h2; subst h3
    exact Or.inr ⟨q, (T.setVm vm₁).calling g' mk (Value.ref b :: As).toArray, t, U', L, E, ce, hT, X', hL, e1, e2, hq, hce, hcv, vx_cls hW₁ hcl, st⟩
theorem vx_runS (S : CallFix p m c cc nL s args Ts own) (hM : vx_Met l y ws rm Pc Qc XC mc ms free) (cw : CallB R s args own index y bytes maxL ret ws rm mc ms n ∧ (Cond.static y).before args s = true) (hp : PreS s H Pc As)
    (hg : g.method = m) (hn : As.length = n) (hsize : g.locals.size = nL) (hstack : g.stack = As.reverse ++ rest) (hW : 2 * g.monitorRoom + (rest.map fun v => v.category).sum ≤ 8) (hdg : decode cc g.pc = .ok (.invokestatic index, 3)) (hf : cells + mc ≤ R.cells ∧ slots + ms ≤ R.slots) :
    vx_Run p l e R s m args below meth c H locs cells slots mc ms g rest (Qc As.toArray) XC free := by
  have hK : vx_Back l R p e below s args y 3 8 (PreOf R mc ms Pc) (PostOf Qc mc ms free) (vx_Post XC mc ms free) := vx_callBack cw.1 hM hp.1
  obtain ⟨⟨-, -, -, -, -, -, hcode, hini, hy, hlen, hl⟩, hstt⟩ := cw
  obtain ⟨hx, hb, hml, ho, -⟩ := S
  intro T hT X
  rcases vx_callS X hx (bytes := bytes) (maxL := maxL) (ret := ret) ho hl hstt hini hcode hy hK hg (hsize.trans hml.symm) (argsL := As) (rest := rest) (fun sig h => hn.trans (hlen sig h)) hstack hW (by rw [hb]; exact hdg)
    (fun vm₁ hW₁ => ⟨hf.1, hf.2, hp.2 (T.setVm vm₁) hT hW₁⟩) with ⟨v, vm₁, ⟨U', l2, c2, s2⟩, hW₁, X', ⟨g', mk, t, L, e1, e2, hq, h1, hL, h2, h3⟩, st⟩ | ⟨q, vm₁, ⟨U', l2, c2, s2⟩, hW₁, X', ⟨g', mk, t, L, E, ce, e1, e2, hq, hce, hcv, hcl, h1, hL, h2, h3⟩, st⟩
  · dsimp only [Pt.U, Pt.locs, Pt.cells, Pt.slots] at X' e1 e2 h1 h2 h3 st
    subst h1; subst h2; subst h3
    exact Or.inl ⟨v, (T.setVm vm₁).calling g' mk As.toArray, t, U', L, hT, X', hL, e1, e2, hq, st⟩
  · dsimp only [Pt.U, Pt.locs, Pt.cells, Pt.slots] at X' e1 e2 h1 h2 h3 st hcl
    subst h1; subst h2; subst h3
    exact Or.inr ⟨q, (T.setVm vm₁).calling g' mk As.toArray, t, U', L, E, ce, hT, X', hL, e1, e2, hq, hce, hcv, vx_cls hW₁ hcl, st⟩
end Runs
section Rows
variable {p : Program} {l : Launch} {e : Env} {R : Room} {s : State} {m : MethodId} {args : Array Value} {below : List Frame} {meth : Method} {c : Code} {H : Heap} {locs : List Loc} {cells slots : Nat} {Q : State → Prop}
variable {mc ms : Nat} {free : Addr → Prop} {A0 A1 : Nat → Prop} {H0 : Heap} {a : Array Value} {pc : Nat} {ls : Array Slot} {st0 rest : List Value}
theorem vx_keep {st₀ t T' : State} {L : List Loc} (h0 : st₀.heap = H) (e1 : T'.heap = t.heap) (hS : va_S A0 H0 H locs) (hA : ∀ q, q < H.size → A1 q → A0 q) (hf : ∀ q, free q → A0 q) (hL : ∀ q ∈ L, free q.base) (hF : va_F A1 st₀ t) :
    H.size ≤ T'.heap.size ∧ (∀ q : Nat, q < H.size → ¬ A1 q → T'.heap[q]? = H[q]?) ∧ va_S A0 H0 T'.heap (locs ++ L) := by
  obtain ⟨hz, hk⟩ := hF
  rw [h0] at hz hk
  exact ⟨by rw [e1]; exact hz, fun q h1 h2 => by rw [e1]; exact hk q h1 h2,
    ⟨Nat.le_trans hS.1 (by rw [e1]; exact hz), fun q h1 h2 => by rw [e1, hk q (Nat.lt_of_lt_of_le h1 hS.1) (fun z => h2 (hA q (Nat.lt_of_lt_of_le h1 hS.1) z))]; exact hS.2.1 q h1 h2, fun q hq => by
      rcases List.mem_append.mp hq with h | h
      · exact hS.2.2 q h
      · exact hf _ (hL q h)⟩⟩
/-- caught by the row x of this method's table; the rows ahead don't take it -/
theorem vx_catch {own name : String} {E : String} {ce : Cell} {q : Addr} (hown : s.vm.findClass own = some m.cls) (pre : List ExceptionTableEntry) (x : ExceptionTableEntry) (suf : List ExceptionTableEntry) (hsplit : c.exceptionTable.toList = pre ++ x :: suf)
    (hpass : ∀ z ∈ pre, covers z pc = false ∨ (z.catchType ≠ 0 ∧ ∃ nm : String, (Cond.classLink own z.catchType nm).before args s = true ∧ va_Nc E nm s)) (hx : covers x pc = true) (h0 : x.catchType ≠ 0)
    (hlink : (Cond.classLink own x.catchType name).before args s = true) (hcast : (Cond.castable E name).before args s = true) (hcell : H[q]? = some ce) (hv : ce.vm = .none) (hcl : s.vm.findClass E = some ce.cls)
    (kk : W p l e R s m args below meth c H locs cells slots Q (F0 m x.handlerPc ls [.ref q])) : vx_W p l e R s m args below meth c H locs cells slots Q (F0 m pc ls rest) q := by
  intro T hT X
  have hpl : e.platform.magicAccessors = ({} : Platform).magicAccessors := by rw [X.admits.platform]
  obtain ⟨c3, c4, hc3, hc4, hasg⟩ := Cond.castable_spec hcast
  cases Option.some.inj (hc3.symm.trans hcl)
  obtain ⟨c5, hc5, hcl5⟩ := Cond.classLink_spec hown hlink e.platform hpl
  cases Option.some.inj (hc4.symm.trans hc5)
  obtain ⟨vm', X', st⟩ := X.thenCaughtThrough q (g := F0 m pc ls rest) rfl (Steps.refl _) (by rw [hT]; exact hcell) (by rw [hv]; rfl) (by obtain ⟨k9, h9, -⟩ := Vm.findClass_spec hcl; exact ⟨k9, h9⟩) pre x suf hsplit
    (fun z hz => by
      rcases hpass z hz with h | ⟨hz0, nm, hl1, hn1⟩
      · exact Or.inl h
      · obtain ⟨c6, hc6, hcl6⟩ := Cond.classLink_spec hown hl1 e.platform hpl
        obtain ⟨a8, b8, h1, h2, h3⟩ := hn1
        cases Option.some.inj (h1.symm.trans hcl)
        cases Option.some.inj (h2.symm.trans hc6)
        exact Or.inr ⟨hz0, _, hcl6, h3⟩) hx (Or.inr ⟨h0, c4, hcl5, hasg⟩)
  obtain ⟨t, a1, b1⟩ := kk (T.setVm vm') hT X'
  exact ⟨t, st.trans a1, b1⟩
end Rows
section Ends
variable {p : Program} {l : Launch} {e : Env} {R : Room} {s : State} {m : MethodId} {args : Array Value} {below : List Frame} {meth : Method} {c : Code} {H : Heap} {locs : List Loc} {cells slots : Nat} {Q : State → Prop}
variable {mc ms : Nat} {free : Addr → Prop} {A0 A1 : Nat → Prop} {H0 : Heap} {a : Array Value} {ls : Array Slot} {st0 rest : List Value}
variable {Qc : Array Value → State → Outcome → State → Prop} {XC : String → State → State → Prop}
/-- what a body that may throw owes at its end -/
def vx_MQ (below : List Frame) (Qc : Array Value → State → Outcome → State → Prop) (XC : String → State → State → Prop) (a : Array Value) (s : State) (mc ms : Nat) (free : Addr → Prop) : State → Prop := fun t =>
  ∃ o, t.status = .running ∧ Ended t below o ∧ vx_Q Qc XC mc ms free a s o t
theorem vx_ret {g : JFrame} {mc ms : Nat} (k : W p l e R s m args below meth c H locs cells slots (MQ below Qc args s mc ms free) g) : W p l e R s m args below meth c H locs cells slots (vx_MQ below Qc XC args s mc ms free) g := by
  intro T hT X
  obtain ⟨t, a1, o, b1, b2, b3, b4⟩ := k T hT X
  exact ⟨t, a1, o, b1, b2, Or.inl ⟨b3, b4⟩⟩
theorem vx_out {pc : Nat} {E : String} {ce : Cell} {q : Addr} {mc ms : Nat} (hout : ∀ x ∈ c.exceptionTable.toList, covers x pc = false) (hlocks : meth.locks = false) (hcell : H[q]? = some ce) (hv : ce.vm = .none) (hcl : s.vm.findClass E = some ce.cls)
    (hx : ∀ t : State, t.heap = H → s.vm.Alike t.vm → XC E s t) (hf : ∀ z ∈ locs, free z.base) (hc : cells ≤ mc) (hs : slots ≤ ms) :
    vx_W p l e R s m args below meth c H locs cells slots (vx_MQ below Qc XC args s mc ms free) (F0 m pc ls rest) q := by
  intro T hT X
  obtain ⟨st1, hrun, hend, hW, hsm⟩ := X.leaveThrown q (g := F0 m pc ls rest) rfl rfl rfl hout hlocks
  have hcell9 : (T.setFrames (.throwing q :: below)).heap[q]? = some ce := by
    show T.heap[q]? = some ce
    rw [hT]; exact hcell
  exact ⟨_, st1, .threw q, hrun, hend, Or.inr ⟨q, rfl, E, ce, locs, hx _ hT hW.alike, hcell9, hv, hcl, hW, hsm.mono hc hs, hf⟩⟩
theorem vx_frame {U : State} {k n : Nat} (h : s.sameButNew ({ U with vm := s.vm } : State) locs k n) : s.heap.size ≤ U.heap.size ∧ ∀ q : Nat, q < s.heap.size → (∀ z ∈ locs, z.base ≠ q) → U.heap[q]? = s.heap[q]? := by
  obtain ⟨-, h2, -, -, -, h6⟩ := h
  refine ⟨h2, fun q hq hz => ?_⟩
  obtain ⟨c9, e1, e2, e3, e4⟩ := h6 q _ (Array.getElem?_eq_getElem hq)
  have hs : c9.slots = (s.heap[q]).slots := Array.ext_getElem? fun i => e4 i fun hm => hz _ hm rfl
  have h9 : c9 = s.heap[q] := by
    rw [hs] at e2
    exact e2
  have e5 : U.heap[q]? = some c9 := e1
  rw [e5, h9, Array.getElem?_eq_getElem hq]
/-- the words of a throw but the four that speak of the heap -/
def vx_no (w : Cond) : Bool := decide (w ≠ .isRef (.static Bundle.tN "UNASSIGNED_STACK" Bundle.steD)) && decide (w ≠ .isRef (.static Bundle.tN "SUPPRESSED_SENTINEL" Bundle.listD)) && decide (w ≠ .laysStatic Bundle.tN "UNASSIGNED_STACK" Bundle.steD) && decide (w ≠ .laysStatic Bundle.tN "SUPPRESSED_SENTINEL" Bundle.listD)
def vx_at0 (own : String) (ic : Nat) (X : String) (names : List String) : List Cond := (Bundle.ownAtoms0 own ic X names).filter vx_no
/-- a word that the tables alone decide, or a good one -/
def vx_ot (w : Cond) : Bool := w.onTables || goodWord w
theorem vx_ot_at {args a' : Array Value} {s U : State} {w : Cond} (hW : s.WarmedH U.vm) (hvm : s.vm = U.vm) (hg : vx_ot w = true) (h : w.before args s = true) : w.before a' U = true := by
  simp only [vx_ot, Bool.or_eq_true] at hg
  rcases hg with hg | hg
  · exact va_tabs hg hvm h
  · exact word_at hW (good_of_word hg) h
theorem vx_own {args : Array Value} {s : State} {L : List Cond} (h1 : ∀ w ∈ L.filter vx_no, w.before args s = true)
    (hU : (Cond.isRef (.static Bundle.tN "UNASSIGNED_STACK" Bundle.steD)).before args s = true) (hN : (Cond.isRef (.static Bundle.tN "SUPPRESSED_SENTINEL" Bundle.listD)).before args s = true)
    (lU : (Cond.laysStatic Bundle.tN "UNASSIGNED_STACK" Bundle.steD).before args s = true) (lN : (Cond.laysStatic Bundle.tN "SUPPRESSED_SENTINEL" Bundle.listD).before args s = true) : ∀ w ∈ L, w.before args s = true := by
  intro w hw
  by_cases e1 : w = .isRef (.static Bundle.tN "UNASSIGNED_STACK" Bundle.steD)
  · rw [e1]; exact hU
  · by_cases e2 : w = .isRef (.static Bundle.tN "SUPPRESSED_SENTINEL" Bundle.listD)
    · rw [e2]; exact hN
    · by_cases e3 : w = .laysStatic Bundle.tN "UNASSIGNED_STACK" Bundle.steD
      · rw [e3]; exact lU
      · by_cases e4 : w = .laysStatic Bundle.tN "SUPPRESSED_SENTINEL" Bundle.listD
        · rw [e4]; exact lN
        · exact h1 w (List.mem_filter.mpr ⟨hw, by unfold vx_no; rw [decide_eq_true e1, decide_eq_true e2, decide_eq_true e3, decide_eq_true e4]; rfl⟩)
/-- where a static field lies, its class's statics cell in H -/
def vx_L (C n d : String) (A : Nat → Prop) (U : State) (H : Heap) : Prop := ∃ (c : ClassId) (k : Class) (i : Nat) (f : Field) (a : Nat) (cell : Cell), U.vm.findClass C = some c ∧ U.fieldFound? C n d = some (c, k, i, f) ∧ f.isStatic = true ∧ k.statics = some a ∧ H[a]? = some cell ∧ cell.vm.isStatics = true ∧ cell.cls = c ∧ f.slot < cell.slots.size ∧ k.staticTypes[f.slot]? = some f.type ∧ ¬ A a
theorem vx_L.moved {C n d : String} {A : Nat → Prop} {u U : State} {H : Heap} (hvm : u.vm.Alike U.vm) (h : vx_L C n d A u H) : vx_L C n d A U H := by
  obtain ⟨c, k, i, f, a, cell, h1, h2, h3, h4, h5, h6, h7, h8, h9, h10⟩ := h
  obtain ⟨k', hi', he⟩ := State.fieldFound?_setVm hvm h2
  exact ⟨c, k', i, f, a, cell, by rw [hvm.findClass]; exact h1, hi', h3, by rw [he]; exact h4, h5, h6, h7, h8, by rw [he]; exact h9, h10⟩
theorem vx_L.kept {C n d : String} {A : Nat → Prop} {U : State} {H H1 : Heap} (h : vx_L C n d A U H) (hq : ∀ a : Nat, a < H.size → ¬ A a → H1[a]? = H[a]?) : vx_L C n d A U H1 := by
  obtain ⟨c, k, i, f, a, cell, h1, h2, h3, h4, h5, h6, h7, h8, h9, h10⟩ := h
  exact ⟨c, k, i, f, a, cell, h1, h2, h3, h4, by rw [hq a (Array.getElem?_eq_some_iff.mp h5).1 h10]; exact h5, h6, h7, h8, h9, h10⟩
theorem vx_L.narrow {C n d : String} {A B : Nat → Prop} {U : State} {H : Heap} (h : vx_L C n d A U H) (hAB : ∀ q, B q → A q) : vx_L C n d B U H := by
  obtain ⟨c, k, i, f, a, cell, h1, h2, h3, h4, h5, h6, h7, h8, h9, h10⟩ := h
  exact ⟨c, k, i, f, a, cell, h1, h2, h3, h4, h5, h6, h7, h8, h9, fun z => h10 (hAB _ z)⟩
theorem vx_L.word {C n d : String} {A : Nat → Prop} {s : State} {args : Array Value} (h : vx_L C n d A s s.heap) : (Cond.laysStatic C n d).before args s = true := by
  obtain ⟨c, k, i, f, a, cell, h1, h2, h3, h4, h5, h6, h7, h8, h9, -⟩ := h
  show (Cond.laysStatic C n d).holds args s none s [] = true
  exact Cond.laysStatic_of h1 h2 h3 h4 h5 h6 h7 h8 h9
/-- .. and what it holds: null or some reference -/
def vx_Zq (C n d : String) (A : Nat → Prop) (U : State) (H : Heap) : Prop := va_Zq C n d A U H ∧ vx_L C n d A U H
theorem vx_Zq.moved {C n d : String} {A : Nat → Prop} {u U : State} {H : Heap} (hvm : u.vm.Alike U.vm) (h : vx_Zq C n d A u H) : vx_Zq C n d A U H := ⟨va_Zq.moved hvm h.1, vx_L.moved hvm h.2⟩
theorem vx_Zq.kept {C n d : String} {A : Nat → Prop} {U : State} {H H1 : Heap} (h : vx_Zq C n d A U H) (hq : ∀ a : Nat, a < H.size → ¬ A a → H1[a]? = H[a]?) : vx_Zq C n d A U H1 := ⟨va_Zq.kept h.1 hq, vx_L.kept h.2 hq⟩
theorem vx_Zq.narrow {C n d : String} {A B : Nat → Prop} {U : State} {H : Heap} (h : vx_Zq C n d A U H) (hAB : ∀ q, B q → A q) : vx_Zq C n d B U H := ⟨va_Zq.narrow h.1 hAB, vx_L.narrow h.2 hAB⟩
theorem vx_Zqof {args : Array Value} {s : State} {C n d : String} {A : Nat → Prop} (hl : (Cond.laysStatic C n d).before args s = true) (hini : (Cond.initialized C).before args s = true) (h : (Cond.isRef (.static C n d)).before args s = true) (hA : ∀ a : Nat, a < s.heap.size → ¬ A a) : vx_Zq C n d A s s.heap := by
  refine ⟨va_Zqof hl hini h hA, ?_⟩
  obtain ⟨c, k, i, f, a, cell, h1, h2, h3, h4, h5, h6, h7, h8, h9⟩ := Cond.laysStatic_spec hl
  exact ⟨c, k, i, f, a, cell, h1, h2, h3, h4, h5, h6, h7, h8, h9, hA a (Array.getElem?_eq_some_iff.mp h5).1⟩
theorem vx_isRef {C n d : String} {v : Value} {A : Nat → Prop} {s : State} {args : Array Value} (h : va_Z C n d v A s s.heap) (hv : v.isRef = true) : (Cond.isRef (.static C n d)).before args s = true := by
  obtain ⟨cf, kf, fi, f, a, cell, h1, h2, h3, h4, h5, h6, h7, -⟩ := h
  have he : (Term.static C n d).eval args s none [] s = some v := by
    simp [Term.eval, State.fieldNamed?, h1, h2, h4, h5, h6, h7]
  simp only [Cond.before, Cond.holds, Cond.value, he]
  cases v <;> simp_all [Value.isRef]
theorem vx_isRefq {C n d : String} {A : Nat → Prop} {s : State} {args : Array Value} (h : va_Zq C n d A s s.heap) : (Cond.isRef (.static C n d)).before args s = true := by
  rcases h with h | ⟨t, h⟩
  · exact vx_isRef h rfl
  · exact vx_isRef h rfl
/-- the same frame, seen from here: as if the method were called anew in this heap -/
theorem vx_rebase {T : State} (X : Stand p l e R s m args below meth c T locs cells slots) {R' : Room} (hf : R'.frames ≤ R.frames) (hl : R'.locals ≤ R.locals) (hc : cells + R'.cells ≤ R.cells) (hs : slots + R'.slots ≤ R.slots) :
    Stand p l e R' ((T.setVm s.vm).setFrames (.invoking m args :: below)) m args below meth c T [] 0 0 := by
  have htop : (T.setVm s.vm).topJava?.isSome := X.here.top
  have hF : ((T.setVm s.vm).setFrames (.invoking m args :: below)).frames = .invoking m args :: below := State.frames_setFrames _ (State.cur_lt_of_top htop)
  obtain ⟨g₀, hg0⟩ := Option.isSome_iff_exists.mp htop
  obtain ⟨r, hr⟩ := State.topJava?_eq_some.mp hg0
  have hl9 : e.platform.stackLimits (T.setVm s.vm).me = e.platform.stackLimits s.me := X.limits
  have hb9 : (T.setVm s.vm).me.stackBytes = s.me.stackBytes := X.bytes
  refine ⟨X.admits, X.cas, X.clock, hF, ?_, X.hears, X.method, X.code, X.here, X.tail, X.warmed, ?_, ?_, ?_⟩
  · have h := X.room
    have hU : ((T.setVm s.vm).setFrames (.invoking m args :: below)).localsInUse = s.localsInUse := by
      rw [State.localsInUse_invoking hF (meth := meth) (c := c) X.method X.code, State.localsInUse_invoking X.frames X.method X.code]
    simp only [State.hasRoom, Bool.and_eq_true, decide_eq_true_eq] at h ⊢
    obtain ⟨⟨⟨⟨h1, h2, h3, h4, h5, h6⟩, h7⟩, h8⟩, h9⟩ := h
    rw [X.frames, List.length_cons] at h2 h3
    have q1 := X.heapSize
    have q2 := X.used
    simp only [hF, hU, List.length_cons, State.stackLimits_setFrames, State.stackBytes_setFrames, hl9, hb9]
    refine ⟨⟨⟨⟨by omega, by omega, by omega, by omega, by omega, h6⟩, ?_⟩, ?_⟩, X.book⟩
    · show T.heap.size + R'.cells ≤ e.platform.maxCells
      omega
    · show T.slotsUsed + R'.slots ≤ e.platform.maxSlots
      omega
  · rw [State.stackLimits_setFrames]; rfl
  · rw [State.stackBytes_setFrames]; rfl
  · refine ⟨?_, Nat.le_refl _, Nat.le_refl _, ?_, ?_, fun a c9 h9 => ⟨c9, h9, rfl, rfl, fun _ _ => rfl⟩⟩
    · obtain ⟨t, ht, -⟩ := State.frames_cons hr
      show T.setVm s.vm = { ((T.setVm s.vm).setFrames (.invoking m args :: below)).setFrames (T.setVm s.vm).frames with heap := T.heap, slotsUsed := T.slotsUsed }
      rw [State.setFrames_setFrames, State.setFrames_self ht]
      rfl
    · show T.slotsUsed = T.slotsUsed + ((T.heap.toList.drop T.heap.size).map (·.slots.size)).sum
      rw [List.drop_eq_nil_of_le (Nat.le_of_eq Array.length_toList)]
      rfl
    · show ((T.heap.toList.drop T.heap.size).map (·.slots.size)).sum ≤ 0
      rw [List.drop_eq_nil_of_le (Nat.le_of_eq Array.length_toList)]
      exact Nat.le_refl _
/-- 'throw new E()': new; dup; invokespecial; athrow -/
theorem vx_throw0 {cc : ByteArray} {pc : Nat} (hexec : p.tables.exec = Jvm.exec) (hb : c.code = cc) (hl : l.stackTraces = false) {own cls : String} {names : List String} {ik ic mc ms : Nat} {A : Nat → Prop}
    (hown : s.vm.findClass own = some m.cls) (hcls : Bundle.fit cls = true) (hnames : ∀ n ∈ names, Bundle.fit n = true)
    (hk : (Cond.classLink own ik cls).before args s = true) (hini : (Cond.initialized cls).before args s = true) (hat : ∀ w ∈ vx_at0 own ic cls names, w.before args s = true)
    (hgood : ∀ w ∈ Cond.classLink own ik cls :: Cond.initialized cls :: vx_at0 own ic cls names, vx_ot w = true)
    (hU : vx_Zq Bundle.tN "UNASSIGNED_STACK" Bundle.steD A s s.heap) (hN : vx_Zq Bundle.tN "SUPPRESSED_SENTINEL" Bundle.listD A s s.heap) (hS : va_S A s.heap H locs) (hsize : ls.size = c.maxLocals)
    (d0 : decode cc pc = .ok (.new ik, 3)) (d3 : decode cc (pc + 3) = .ok (.dup, 1)) (d4 : decode cc (pc + 4) = .ok (.invokespecial ic, 3)) (d7 : decode cc (pc + 7) = .ok (.athrow, 1))
    (hout : ∀ x ∈ c.exceptionTable.toList, covers x (pc + 7) = false)
    (hRframes : names.length + 3 < R.frames) (hRlocals : (rest.map fun v => v.category).sum + (13 * (names.length + 1) + 42) ≤ R.locals) (hRcells : cells + 1 ≤ R.cells) (hRslots : slots + 6 ≤ R.slots) (hlocks : meth.locks = false)
    (hx : ∀ t : State, s.vm.Alike t.vm → H.size ≤ t.heap.size → (∀ q : Nat, q < H.size → t.heap[q]? = H[q]?) → XC cls s t)
    (hf : ∀ z ∈ locs, free z.base) (hc : cells + 1 ≤ mc) (hs : slots + 6 ≤ ms) :
    W p l e R s m args below meth c H locs cells slots (vx_MQ below Qc XC args s mc ms free) (F0 m pc ls rest) := by
  intro T hT X
  have htr : e.platform.stackTraces = false := (show e.platform.stackTraces = l.stackTraces by rw [X.admits.platform]).trans hl
  have Y := vx_rebase X (R' := { frames := R.frames, locals := R.locals, cells := 1, slots := 6 }) (Nat.le_refl _) (Nat.le_refl _) hRcells hRslots
  obtain ⟨s', hA⟩ : ∃ z, z = (T.setVm s.vm).setFrames (.invoking m args :: below) := ⟨_, rfl⟩
  rw [← hA] at Y
  have hvm : s'.vm = s.vm := by rw [hA]; rfl
  have hhp : s'.heap = H := by rw [hA]; exact hT
  have hW0 : s.WarmedH s'.vm := by rw [hvm]; exact State.WarmedH.refl s
  have hat' : ∀ w ∈ vx_at0 own ic cls names, w.before args s' = true := fun w hw => vx_ot_at hW0 hvm.symm (hgood w (List.mem_cons_of_mem _ (List.mem_cons_of_mem _ hw))) (hat w hw)
  have hk' : (Cond.classLink own ik cls).before args s' = true := vx_ot_at hW0 hvm.symm (hgood _ List.mem_cons_self) hk
  have hini' : (Cond.initialized cls).before args s' = true := vx_ot_at hW0 hvm.symm (hgood _ (List.mem_cons_of_mem _ List.mem_cons_self)) hini
  have hU' : vx_Zq Bundle.tN "UNASSIGNED_STACK" Bundle.steD A s' s'.heap := by rw [hhp]; exact vx_Zq.moved hW0.alike (hU.kept hS.2.1)
  have hN' : vx_Zq Bundle.tN "SUPPRESSED_SENTINEL" Bundle.listD A s' s'.heap := by rw [hhp]; exact vx_Zq.moved hW0.alike (hN.kept hS.2.1)
  have h : ∀ w ∈ Bundle.ownAtoms0 own ic cls names, w.before args s' = true := vx_own hat' (vx_isRefq hU'.1) (vx_isRefq hN'.1) hU'.2.word hN'.2.word
  have hown' : s'.vm.findClass own = some m.cls := by rw [hvm]; exact hown
  have hins : (Cond.instantiable cls 6).before args s' = true := h _ (by simp [Bundle.ownAtoms0])
  obtain ⟨vm₁, cX, kX, hfX, hkX, -, -, X₁, st1⟩ := Y.newCold hexec (own := own) (C := cls) (index := ik) (n := 6) hown' hk' hins hini'
    (g := F0 m pc ls rest) rfl (by rw [hb]; exact d0) (Nat.le_refl _) (Nat.le_refl _)
  generalize hT1 : (T.setVm vm₁).pushCell { cls := cX, slots := kX.instanceTypes.map defaultValue, vm := .none } = T1 at X₁ st1
  have hcat : (Value.ref T.heap.size).category = 1 := rfl
  have hcellA : T1.heap[T.heap.size]? = some (freshCell cX kX) := by rw [← hT1]; exact State.heap_pushCell_size _ _
  have d3' : decode c.code (pc + 3) = .ok (.dup, 1) := by rw [hb]; exact d3
  obtain ⟨U, hsteps, hrun, hend, hW, hsame, ce, hce, hO⟩ := X₁.ctorThrow0 hexec htr (own := own) (cls := cls) (names := names) (ic := ic) hown' hcls hnames h (fun x hx => nomatch hx) hfX hkX hcellA (by rw [hhp, hT]; exact Nat.le_refl _)
    (g := { method := m, pc := pc + 4, locals := ls, stack := .ref T.heap.size :: .ref T.heap.size :: rest, locked := none }) rfl hsize rfl rfl (rest := rest) rfl
    (by rw [hb]; exact d4) (by rw [hb]; exact d7) hout hRframes (by simp only [List.map_cons, List.sum_cons, hcat]; omega) hlocks
  obtain ⟨f1, f2⟩ := vx_frame hsame
  rw [hhp] at f1 f2
  have hWs : s.WarmedH U.vm := State.WarmedH.trans hW0 hW
  have hcl : s.vm.findClass cls = some ce.cls := by
    have h9 := hO.cls
    rw [hvm] at h9
    exact h9
  have hall : s.sameButNew ({ U with vm := s.vm } : State) locs mc ms := by
    subst hA
    obtain ⟨e1, e2⟩ := hsame
    rw [State.setFrames_setFrames] at e1
    have h2 : (T.setVm s.vm).sameButNew ({ U with vm := s.vm } : State) [] (0 + 1) (0 + 6) := ⟨e1, e2⟩
    have h3 := X.same.trans h2
    rw [List.append_nil] at h3
    exact h3.mono hc hs
  refine ⟨U, ?_, .threw T.heap.size, hrun, hend, Or.inr ⟨T.heap.size, rfl, cls, ce, locs, hx U hWs.alike f1 (fun q hq => f2 q hq (fun z hz => nomatch hz)), hce, hO.vm, hcl, hWs, hall, hf⟩⟩
  refine st1 _ ?_
  show Steps p.tables e below (T1.setTop { method := m, pc := pc + 3, locals := ls, stack := .ref T.heap.size :: rest, locked := none }) _
  jvm_step X₁.here [X₁.here.top, hexec, d3', Value.category]
  exact hsteps
end Ends
section Bodies
variable {l : Launch}
theorem vx_ofW {y : MethodName} {ws ws' : List Cond} {rm : Room} {Pc : Array Value → State → Prop} {Qc : Array Value → State → Outcome → State → Prop} {XC : String → State → State → Prop} {mc ms : Nat} {free : Addr → Prop} {cc : ByteArray} {maxL : Nat} {ret : Option FieldType}
    (hy : plainName y.cls = true) (hw : ws = Cond.code y cc maxL ret :: ws')
    (body : ∀ p e s m args below meth c s₁, BodyLoose p l y (headSpec ws rm) cc maxL ret e s m args below meth c s₁ → c.maxLocals = maxL → (∀ x ∈ c.exceptionTable.toList, False) → Pc args s →
      W p l e (headSpec ws rm).room s m args below meth c s.heap [] 0 0 (vx_MQ below Qc XC args s mc ms free) (entryFrame m args maxL)) : vx_Met l y ws rm Pc Qc XC mc ms free := by
  refine MetFree.of_bodyS (code := cc) (maxLocals := maxL) (ret := ret) hy ?_ ?_
  · intro args s m h hn
    obtain ⟨meth, c, h1, h2, h3, h4, h5, h6, -, -⟩ := Cond.code_spec hn (atoms_spec (ws := ws) h _ (by rw [hw]; exact List.mem_cons_self))
    exact ⟨meth, c, h1, h2, h3, h4, h5, h6⟩
  · intro p e s m args below meth c s₁ B hml hP _
    have hh0 : s₁.heap = s.heap := by rw [B.state]; rfl
    have ht : ∀ x ∈ c.exceptionTable.toList, False := by
      obtain ⟨meth9, c9, h1, h2, -, -, -, -, h7, -⟩ := Cond.code_spec B.named (atoms_spec (ws := ws) B.pre _ (by rw [hw]; exact List.mem_cons_self))
      cases Option.some.inj (h1.symm.trans B.method)
      cases Option.some.inj (h2.symm.trans (Stand.of_body B).code)
      intro x hx
      rw [Array.isEmpty_iff.mp h7] at hx
      cases hx
    obtain ⟨t, a1, o, b1, b2, b3⟩ := body p e s m args below meth c s₁ B hml ht hP s₁ hh0 (Stand.of_body B)
    exact ⟨t, o, a1, b1, b2, b3⟩
/-- the table of a body with handlers -/
theorem vx_table {p : Program} {x y : MethodName} {S : Spec} {cc bytes : ByteArray} {maxL maxL' : Nat} {ret ret' : Option FieldType} {e : Env} {s s₁ : State} {m : MethodId} {args : Array Value} {below : List Frame} {meth : Method} {c : Code} {hh : List (Nat × Nat × Nat × Nat)}
    (B : BodyLoose p l y S cc maxL ret e s m args below meth c s₁) (h : (Cond.codeWith y bytes maxL' ret' hh).before args s = true) : c.exceptionTable.toList = tableOf hh := by
  obtain ⟨m9, meth9, c9, hn9, h1, h2, -, -, h6, -⟩ := Cond.codeWith_spec h
  cases Option.some.inj (hn9.symm.trans B.named)
  cases Option.some.inj (h1.symm.trans B.method)
  cases Option.some.inj (h2.symm.trans (Stand.of_body B).code)
  rw [← h6, table_eq]
end Bodies
end VXA
/-! ===== END ===== -/
/-! ===== BEGIN a static call of a method with an exception table ===== -/
section VXS
variable {p : Program} {l : Launch} {e : Env} {R : Room} {s : State} {m : MethodId} {args : Array Value} {below : List Frame} {meth : Method} {c : Code} {T : State} {H : Heap} {locs : List Loc} {cells slots : Nat}
abbrev vx_CSW (R : Room) (s : State) (args : Array Value) (own : String) (index : Nat) (y : MethodName) (bytes : ByteArray) (maxL : Nat) (ret : Option FieldType) (hh : List (Nat × Nat × Nat × Nat)) (ws : List Cond) (rm : Room) (mc ms n : Nat) : Prop :=
  (rm.cells = mc ∧ rm.slots = ms ∧ rm.frames + 1 ≤ R.frames ∧ 8 + (maxL + 11) + rm.locals ≤ R.locals ∧ (∀ w ∈ ws, ∀ (a' : Array Value) (U : State), s.WarmedH U.vm → w.before a' U = true) ∧ Cond.codeWith y bytes maxL ret hh ∈ ws) ∧
  (Cond.codeWith y bytes maxL ret hh).before args s = true ∧ (Cond.initialized y.cls).before args s = true ∧ (y.cls ≠ "java/lang/invoke/MethodHandle" ∧ y.cls ≠ "java/lang/invoke/VarHandle") ∧
  (∀ sig, parseMethodDescriptor y.desc = some sig → n = sig.parameters.length) ∧ (Cond.methodLink own index y).before args s = true ∧ (Cond.static y).before args s = true
theorem vx_cwSW {own : String} {index maxL mc ms : Nat} {y : MethodName} {bytes : ByteArray} {ret : Option FieldType} {hh : List (Nat × Nat × Nat × Nat)} {Ts ws ws' : List Cond} {rm : Room} (n : Nat) (ht : ∀ w ∈ Ts, w.before args s = true) (hT : GoodIn Ts (va_wsS own index y ws)) (hw : ws = Cond.codeWith y bytes maxL ret hh :: ws') (hrc : rm.cells = mc) (hrs : rm.slots = ms)
    (hd : y.cls ≠ "java/lang/invoke/MethodHandle" ∧ y.cls ≠ "java/lang/invoke/VarHandle" ∧ (parseMethodDescriptor y.desc).map (fun d => d.parameters.length) = some n) (hR : rm.frames + 1 ≤ R.frames ∧ 8 + (maxL + 11) + rm.locals ≤ R.locals) :
    vx_CSW R s args own index y bytes maxL ret hh ws rm mc ms n := by
  have ok : ∀ w ∈ va_wsS own index y ws, w.before args s = true := fun w h => ht w (hT w h).1
  have hG : GoodIn Ts ws := fun w h => hT w (by unfold va_wsS; exact List.mem_append_right _ h)
  have hc : Cond.codeWith y bytes maxL ret hh ∈ ws := by rw [hw]; exact List.mem_cons_self
  refine ⟨⟨hrc, hrs, hR.1, hR.2, pay_in ht hG, hc⟩, ht _ (hG _ hc).1, ok _ (by simp [va_wsS]), ⟨hd.1, hd.2.1⟩, fun sig h => ?_, ok _ (by simp [va_wsS]), ok _ (by simp [va_wsS])⟩
  have h2 := hd.2.2
  rw [h] at h2
  exact (Option.some.inj h2).symm
theorem vx_callSW (X : Stand p l e R s m args below meth c T locs cells slots) (hexec : p.tables.exec = Jvm.exec) {own : String} {index : Nat} {y : MethodName} {bytes : ByteArray} {maxL : Nat} {ret : Option FieldType} {hh : List (Nat × Nat × Nat × Nat)}
    (hown : s.vm.findClass own = some m.cls) (hlink : (Cond.methodLink own index y).before args s = true) (hstat : (Cond.static y).before args s = true) (hinit : (Cond.initialized y.cls).before args s = true)
    (hcode : (Cond.codeWith y bytes maxL ret hh).before args s = true) (hy : y.cls ≠ "java/lang/invoke/MethodHandle" ∧ y.cls ≠ "java/lang/invoke/VarHandle")
    {W9 : Nat} {Pre : Pt → Array Value → Prop} {Post : Pt → Array Value → Option Value → Pt → Prop} (hK : Back l R p e below s args y 3 W9 Pre Post)
    {g : JFrame} (hg : g.method = m) (hsize : g.locals.size = c.maxLocals) {argsL rest : List Value} (hlen : ∀ sig, parseMethodDescriptor y.desc = some sig → argsL.length = sig.parameters.length)
    (hstack : g.stack = argsL.reverse ++ rest) (hW : 2 * g.monitorRoom + (rest.map fun v => v.category).sum ≤ W9) (hdg : decode c.code g.pc = .ok (.invokestatic index, 3))
    (hpre : ∀ vm₁, s.WarmedH vm₁ → Pre ⟨T.setVm vm₁, locs, cells, slots⟩ argsL.toArray) :
    ∃ (v : Option Value) (vm₁ : Vm) (B : Pt), s.WarmedH vm₁ ∧ Stand p l e R s m args below meth c B.U B.locs B.cells B.slots ∧ Post ⟨T.setVm vm₁, locs, cells, slots⟩ argsL.toArray v B ∧
      ∀ target, Steps p.tables e below (B.U.setTop { g with pc := g.pc + 3, stack := v.toList ++ rest }) target → Steps p.tables e below (T.setTop g) target := by
  obtain ⟨mk, methM, cM, hnamed, hmethM, -, -, -, -, -, -, hsigM⟩ := Cond.codeWith_spec hcode
  have hstatic : methM.isStatic = true := Cond.static_spec hnamed hmethM hstat
  obtain ⟨kP, hkP, -⟩ := className_of_methodNamed hnamed
  have hinitP : kP.init = .initialized := Cond.initialized_spec (findClass_of_methodNamed hnamed) hkP hinit
  obtain ⟨vm₁, X₁, hstep₁⟩ := X.invokestatic hexec hown hlink hnamed hmethM hstatic hkP hinitP hy (g := g) hg (argsL := argsL) (rest := rest) (hlen _ hsigM) hstack hdg
  obtain ⟨v, B, X', hpost, hsteps⟩ := hK m meth c ⟨T.setVm vm₁, locs, cells, slots⟩ { g with stack := rest } (.invokestatic index) mk argsL.toArray X₁ hg hsize hdg hW (X₁.named hnamed) (hpre vm₁ X₁.warmed)
  exact ⟨v, vm₁, B, X₁.warmed, X', hpost, fun target h => hstep₁ _ fun acts => by rw [doInvoke_state]; exact hsteps.trans h⟩
theorem vx_runSW {y : MethodName} {bytes cc : ByteArray} {maxL nL mc ms n index : Nat} {ret : Option FieldType} {hh : List (Nat × Nat × Nat × Nat)} {ws : List Cond} {rm : Room} {Pc : Array Value → State → Prop} {Qc : Array Value → State → Outcome → State → Prop} {free : Addr → Prop} {Ts : List Cond} {own : String} {As rest : List Value} {g : JFrame}
    (S : CallFix p m c cc nL s args Ts own) (hM : Met l y ws rm Pc Qc mc ms free) (cw : vx_CSW R s args own index y bytes maxL ret hh ws rm mc ms n) (hp : PreS s H Pc As)
    (hg : g.method = m) (hn : As.length = n) (hsize : g.locals.size = nL) (hstack : g.stack = As.reverse ++ rest) (hW : 2 * g.monitorRoom + (rest.map fun v => v.category).sum ≤ 8) (hdg : decode cc g.pc = .ok (.invokestatic index, 3)) (hf : cells + mc ≤ R.cells ∧ slots + ms ≤ R.slots) :
    va_Run p l e R s m args below meth c H locs cells slots mc ms g rest (Qc As.toArray) (free) := by
  obtain ⟨⟨hrc, hrs, hfr, hlo, hws, hcw⟩, hcode, hini, hy, hlen, hl, hstt⟩ := cw
  have hK : Back l R p e below s args y 3 8 (PreOf R mc ms Pc) (PostOf Qc mc ms free) := va_backW (hh := hh) (bytes := bytes) (maxL := maxL) (ret := ret) hM hp.1 hrc hrs hfr hlo hws hcw (fun a' U hW => word_at hW (Or.inl (by first | rfl | simp [Cond.onTables, Cond.keeps, Cond.steady])) hini)
  obtain ⟨hx, hb, hml, ho, -⟩ := S
  intro T hT X
  obtain ⟨v, vm₁, ⟨U', l2, c2, s2⟩, hW₁, X', ⟨g', mk, t, L, e1, e2, hq, h1, hL, h2, h3⟩, st⟩ := vx_callSW X hx (hh := hh) (bytes := bytes) (maxL := maxL) (ret := ret) ho hl hstt hini hcode hy hK hg (hsize.trans hml.symm) (argsL := As) (rest := rest) (fun sig h => hn.trans (hlen sig h)) hstack hW (by rw [hb]; exact hdg)
    (fun vm₁ hW₁ => ⟨hf.1, hf.2, hp.2 (T.setVm vm₁) hT hW₁⟩)
  dsimp only [Pt.U, Pt.locs, Pt.cells, Pt.slots] at X' e1 e2 h1 h2 h3 st
  subst h1; subst h2; subst h3
  exact ⟨v, (T.setVm vm₁).calling g' mk As.toArray, t, U', L, hT, X', hL, e1, e2, hq, st⟩
end VXS
theorem vx_ofWH {l : Launch} {y : MethodName} {ws ws' : List Cond} {rm : Room} {Pc : Array Value → State → Prop} {Qc : Array Value → State → Outcome → State → Prop} {XC : String → State → State → Prop} {mc ms : Nat} {free : Addr → Prop} {cc : ByteArray} {maxL : Nat} {ret : Option FieldType} {hh : List (Nat × Nat × Nat × Nat)}
    (hy : plainName y.cls = true) (hw : ws = Cond.codeWith y cc maxL ret hh :: ws')
    (body : ∀ p e s m args below meth c s₁, BodyLoose p l y (headSpec ws rm) cc maxL ret e s m args below meth c s₁ → c.maxLocals = maxL → Pc args s →
      W p l e (headSpec ws rm).room s m args below meth c s.heap [] 0 0 (vx_MQ below Qc XC args s mc ms free) (entryFrame m args maxL)) : vx_Met l y ws rm Pc Qc XC mc ms free := by
  refine MetFree.of_bodyS (code := cc) (maxLocals := maxL) (ret := ret) hy ?_ ?_
  · intro args s m h hn
    obtain ⟨m9, meth, c, hn9, h1, h2, h3, h4, -, h5, h6, -⟩ := Cond.codeWith_spec (atoms_spec (ws := ws) h _ (by rw [hw]; exact List.mem_cons_self))
    cases hn.symm.trans hn9
    exact ⟨meth, c, h1, h2, h3, h4, h5, h6⟩
  · intro p e s m args below meth c s₁ B hml hP _
    have hh0 : s₁.heap = s.heap := by rw [B.state]; rfl
    obtain ⟨t, a1, o, b1, b2, b3⟩ := body p e s m args below meth c s₁ B hml hP s₁ hh0 (Stand.of_body B)
    exact ⟨t, o, a1, b1, b2, b3⟩
end
section
def zTb0 : u_T := fun k => match k with
  | 0 => ("TileStudio", "history", "LTileStudio$History;", true)
  | 1 => ("TileStudio", "file", "LTileStudio$Picture;", false)
  | 2 => ("TileStudio", "copied", "LTileStudio$Copied;", false)
  | 3 => ("TileStudio", "brushDot", "I", false)
  | _ => ("TileStudio", "brushRadius", "I", false)
def zTy0 : Nat → FieldType := fun k => match k with
  | 0 => .object "TileStudio$History"
  | 1 => .object "TileStudio$Picture"
  | 2 => .object "TileStudio$Copied"
  | 3 => .int
  | _ => .int
def zTb1 : u_T := fun k => match k with
  | 0 => ("TileStudioModel", "code", "I", false)
  | 1 => ("TileStudioModel", "dots", "[I", true)
  | 2 => ("TileStudioModel", "chosen", "[I", true)
  | 3 => ("TileStudioModel", "modes", "[I", true)
  | 4 => ("TileStudioModel", "opacities", "[I", true)
  | 5 => ("TileStudioModel", "shown", "[Z", true)
  | 6 => ("TileStudioModel", "layers", "[I", true)
  | 7 => ("TileStudioModel", "widths", "[I", true)
  | 8 => ("TileStudioModel", "heights", "[I", true)
  | 9 => ("TileStudioModel", "hasPicture", "Z", false)
  | 10 => ("TileStudioModel", "hasFile", "Z", false)
  | 11 => ("TileStudioModel", "hasCopy", "Z", false)
  | 12 => ("TileStudioModel", "now", "I", false)
  | 13 => ("TileStudioModel", "newest", "I", false)
  | 14 => ("TileStudioModel", "brushDot", "I", false)
  | 15 => ("TileStudioModel", "brushRadius", "I", false)
  | 16 => ("TileStudioModel", "copied", "[I", true)
  | 17 => ("TileStudioModel", "copiedRow", "[I", true)
  | 18 => ("TileStudioModel", "was", "[I", true)
  | 19 => ("TileStudioModel", "reached", "[I", true)
  | _ => ("TileStudioModel", "level", "[I", true)
def zTy1 : Nat → FieldType := fun k => match k with
  | 0 => .int
  | 1 => .array .int
  | 2 => .array .int
  | 3 => .array .int
  | 4 => .array .int
  | 5 => .array .boolean
  | 6 => .array .int
  | 7 => .array .int
  | 8 => .array .int
  | 9 => .boolean
  | 10 => .boolean
  | 11 => .boolean
  | 12 => .int
  | 13 => .int
  | 14 => .int
  | 15 => .int
  | 16 => .array .int
  | 17 => .array .int
  | 18 => .array .int
  | 19 => .array .int
  | _ => .array .int
def zTb2 : u_T := fun k => match k with
  | 0 => ("TileStudio$Places", "width", "I", true)
  | _ => ("TileStudio$Places", "rows", "[I", true)
def zTy2 : Nat → FieldType := fun k => match k with
  | 0 => .int
  | _ => .array .int
def zTb3 : u_T := fun k => match k with
  | 0 => ("TileStudio$Layer", "width", "I", true)
  | 1 => ("TileStudio$Layer", "height", "I", true)
  | 2 => ("TileStudio$Layer", "dots", "[I", true)
  | 3 => ("TileStudio$Layer", "blending", "I", true)
  | 4 => ("TileStudio$Layer", "opacity", "I", true)
  | _ => ("TileStudio$Layer", "visible", "Z", true)
def zTy3 : Nat → FieldType := fun k => match k with
  | 0 => .int
  | 1 => .int
  | 2 => .array .int
  | 3 => .int
  | 4 => .int
  | _ => .boolean
def zTb4 : u_T := fun k => match k with
  | 0 => ("TileStudio$Picture", "width", "I", true)
  | 1 => ("TileStudio$Picture", "height", "I", true)
  | 2 => ("TileStudio$Picture", "layers", "[LTileStudio$Layer;", true)
  | _ => ("TileStudio$Picture", "selection", "LTileStudio$Places;", true)
def zTy4 : Nat → FieldType := fun k => match k with
  | 0 => .int
  | 1 => .int
  | 2 => .array (.object "TileStudio$Layer")
  | _ => .object "TileStudio$Places"
def zTb5 : u_T := fun k => match k with
  | 0 => ("TileStudio$Painting", "picture", "LTileStudio$Picture;", true)
  | 1 => ("TileStudio$Painting", "position", "I", true)
  | 2 => ("TileStudio$Painting", "before", "LTileStudio$Layer;", true)
  | _ => ("TileStudio$Painting", "after", "[I", true)
def zTy5 : Nat → FieldType := fun k => match k with
  | 0 => .object "TileStudio$Picture"
  | 1 => .int
  | 2 => .object "TileStudio$Layer"
  | _ => .array .int
def zTb6 : u_T := fun k => match k with
  | 0 => ("TileStudio$Copied", "layer", "LTileStudio$Layer;", true)
  | _ => ("TileStudio$Copied", "places", "LTileStudio$Places;", true)
def zTy6 : Nat → FieldType := fun k => match k with
  | 0 => .object "TileStudio$Layer"
  | _ => .object "TileStudio$Places"
def zTb7 : u_T := fun k => match k with
  | 0 => ("TileStudio$History", "pictures", "[LTileStudio$Picture;", true)
  | 1 => ("TileStudio$History", "present", "I", false)
  | _ => ("TileStudio$History", "last", "I", false)
def zTy7 : Nat → FieldType := fun k => match k with
  | 0 => .array (.object "TileStudio$Picture")
  | 1 => .int
  | _ => .int
def zcls : List vw_C := [("TileStudio", zTb0, 5), ("TileStudioModel", zTb1, 21), ("TileStudio$Places", zTb2, 2), ("TileStudio$Layer", zTb3, 6), ("TileStudio$Picture", zTb4, 4), ("TileStudio$Painting", zTb5, 4), ("TileStudio$Copied", zTb6, 2), ("TileStudio$History", zTb7, 3)]
def zcasts : List (String × String) := [("java/lang/IllegalArgumentException", "java/lang/IllegalArgumentException"), ("java/lang/IllegalStateException", "java/lang/IllegalStateException"), ("java/util/NoSuchElementException", "java/util/NoSuchElementException"), ("java/lang/IndexOutOfBoundsException", "java/lang/IndexOutOfBoundsException"), ("[I", "java/lang/Cloneable")]
def znocasts : List (String × String) := [("java/lang/IllegalStateException", "java/lang/IllegalArgumentException"), ("java/util/NoSuchElementException", "java/lang/IllegalArgumentException"), ("java/lang/IndexOutOfBoundsException", "java/lang/IllegalArgumentException")]
def zdecls : List MethodName := [⟨"java/lang/RuntimeException", "<init>", "()V"⟩, ⟨"java/lang/RuntimeException", "<init>", "(Ljava/lang/String;)V"⟩, ⟨"java/lang/Exception", "<init>", "()V"⟩, ⟨"java/lang/Exception", "<init>", "(Ljava/lang/String;)V"⟩, ⟨"java/lang/Throwable", "<init>", "()V"⟩, ⟨"java/lang/Throwable", "<init>", "(Ljava/lang/String;)V"⟩]
def znests : List (String × Nat × MethodName × String) := [("TileStudio$Layer", 35, ⟨"TileStudio", "isInBox", "(IIII)Z"⟩, "TileStudio"), ("TileStudio$Places", 21, ⟨"TileStudio", "isInBox", "(IIII)Z"⟩, "TileStudio")]
theorem zblt {a b : Nat} (h : Nat.blt a b = true) : a < b := Nat.le_of_ble_eq_true h
/-! ===== numbers ===== -/
theorem zq_toInt {x : Int} (h : -2147483648 ≤ x ∧ x < 2147483648) : (Int32.ofInt x).toInt = x := Int32.toInt_ofInt_of_le (by have := h.1; omega) (by have := h.2; omega)
theorem zq_nat {x : Int} (h : -2147483648 ≤ x ∧ x < 2147483648) : (Int32.ofInt x).toNatClampNeg = x.toNat := Int32.toNatClampNeg_ofInt_of_le (by have := h.1; omega) (by have := h.2; omega)
section ZQ
variable {x y : Int} (hx : -2147483648 ≤ x ∧ x < 2147483648) (hy : -2147483648 ≤ y ∧ y < 2147483648)
theorem zq_eq {x y : Int} (hx : -2147483648 ≤ x ∧ x < 2147483648) (hy : -2147483648 ≤ y ∧ y < 2147483648) : Int32.ofInt x = Int32.ofInt y ↔ x = y := by rw [← Int32.toInt_inj, zq_toInt hx, zq_toInt hy]
theorem zq_ne {x y : Int} (hx : -2147483648 ≤ x ∧ x < 2147483648) (hy : -2147483648 ≤ y ∧ y < 2147483648) : ¬ Int32.ofInt x = Int32.ofInt y ↔ x ≠ y := not_congr (zq_eq hx hy)
theorem zq_lt {x y : Int} (hx : -2147483648 ≤ x ∧ x < 2147483648) (hy : -2147483648 ≤ y ∧ y < 2147483648) : Int32.ofInt x < Int32.ofInt y ↔ x < y := by rw [Int32.lt_iff_toInt_lt, zq_toInt hx, zq_toInt hy]
theorem zq_gt {x y : Int} (hx : -2147483648 ≤ x ∧ x < 2147483648) (hy : -2147483648 ≤ y ∧ y < 2147483648) : Int32.ofInt y < Int32.ofInt x ↔ y < x := zq_lt hy hx
theorem zq_le {x y : Int} (hx : -2147483648 ≤ x ∧ x < 2147483648) (hy : -2147483648 ≤ y ∧ y < 2147483648) : Int32.ofInt x ≤ Int32.ofInt y ↔ x ≤ y := by rw [Int32.le_iff_toInt_le, zq_toInt hx, zq_toInt hy]
theorem zq_ge {x y : Int} (hx : -2147483648 ≤ x ∧ x < 2147483648) (hy : -2147483648 ≤ y ∧ y < 2147483648) : Int32.ofInt y ≤ Int32.ofInt x ↔ y ≤ x := zq_le hy hx
theorem zq_ne0 {y : Int} (hy : -2147483648 ≤ y ∧ y < 2147483648) (h0 : y ≠ 0) : ¬ Int32.ofInt y = 0 := fun h => h0 ((zq_eq hy (y := 0) (by decide)).mp h)
theorem zq_div {x y : Int} (hx : -2147483648 ≤ x ∧ x < 2147483648) (hy : -2147483648 ≤ y ∧ y < 2147483648) : Int32.ofInt x / Int32.ofInt y = Int32.ofInt (x.tdiv y) := by
  rw [← Int32.toInt_inj, Int32.toInt_div, zq_toInt hx, zq_toInt hy, Int32.toInt_ofInt]
theorem zq_mod {x y : Int} (hx : -2147483648 ≤ x ∧ x < 2147483648) (hy : -2147483648 ≤ y ∧ y < 2147483648) : Int32.ofInt x - Int32.ofInt x / Int32.ofInt y * Int32.ofInt y = Int32.ofInt (x.tmod y) := by
  rw [zq_div hx hy, ← Int32.ofInt_mul, ← Int32.ofInt_sub, Int.tmod_def, Int.mul_comm]
theorem zq_max {x y : Int} (hx : -2147483648 ≤ x ∧ x < 2147483648) (hy : -2147483648 ≤ y ∧ y < 2147483648) : (if Int32.ofInt x < Int32.ofInt y then Int32.ofInt y else Int32.ofInt x) = Int32.ofInt (if x < y then y else x) := by
  by_cases h : x < y
  · rw [if_pos h, if_pos ((zq_lt hx hy).mpr h)]
  · rw [if_neg h, if_neg (fun h9 => h ((zq_lt hx hy).mp h9))]
theorem zq_min {x y : Int} (hx : -2147483648 ≤ x ∧ x < 2147483648) (hy : -2147483648 ≤ y ∧ y < 2147483648) : (if Int32.ofInt y < Int32.ofInt x then Int32.ofInt y else Int32.ofInt x) = Int32.ofInt (if y < x then y else x) := by
  by_cases h : y < x
  · rw [if_pos h, if_pos ((zq_lt hy hx).mpr h)]
  · rw [if_neg h, if_neg (fun h9 => h ((zq_lt hy hx).mp h9))]
theorem zq_abs {x : Int} (hx : -2147483648 ≤ x ∧ x < 2147483648) : (if (0 : Int32) ≤ Int32.ofInt x then Int32.ofInt x else 0 - Int32.ofInt x) = Int32.ofInt (if 0 ≤ x then x else -x) := by
  have h0 : (0 : Int32) = Int32.ofInt 0 := rfl
  rw [h0]
  by_cases h : 0 ≤ x
  · rw [if_pos h, if_pos ((zq_le (by decide) hx).mpr h)]
  · rw [if_neg h, if_neg (fun h9 => h ((zq_le (by decide) hx).mp h9)), ← Int32.ofInt_sub]
    congr 1
    omega
theorem zq_i2s (x : Int) : (Int32.ofInt x).toInt16.toInt32 = Int32.ofInt (x.bmod 65536) := by
  rw [← Int32.toInt_inj, Int16.toInt_toInt32, Int32.toInt16_ofInt, Int16.toInt_ofInt, Int32.toInt_ofInt]
  show x.bmod 65536 = (x.bmod 65536).bmod 4294967296
  have h1 := Int.le_bmod (x := x) (m := 65536) (by decide)
  have h2 := Int.bmod_lt (x := x) (m := 65536) (by decide)
  rw [Int.bmod_eq_of_le (n := x.bmod 65536) (by omega) (by omega)]
theorem zq_i2l {x : Int} (hx : -2147483648 ≤ x ∧ x < 2147483648) : (Int32.ofInt x).toInt64 = Int64.ofInt x := by
  rw [← Int64.toInt_inj, Int32.toInt_toInt64, zq_toInt hx, Int64.toInt_ofInt_of_le (by omega) (by omega)]
theorem zq_lcmp {x y : Int} (hx : -9223372036854775808 ≤ x ∧ x < 9223372036854775808) (hy : -9223372036854775808 ≤ y ∧ y < 9223372036854775808) : lg_cmp (Int64.ofInt x) (Int64.ofInt y) = Int32.ofInt (if y < x then 1 else if x = y then 0 else -1) := by
  have ex : (Int64.ofInt x).toInt = x := Int64.toInt_ofInt_of_le (by omega) (by omega)
  have ey : (Int64.ofInt y).toInt = y := Int64.toInt_ofInt_of_le (by omega) (by omega)
  have h1 : (Int64.ofInt x > Int64.ofInt y) ↔ y < x := by rw [gt_iff_lt, Int64.lt_iff_toInt_lt, ex, ey]
  have h2 : Int64.ofInt x = Int64.ofInt y ↔ x = y := by rw [← Int64.toInt_inj, ex, ey]
  unfold lg_cmp
  by_cases h3 : y < x
  · rw [if_pos h3, if_pos (h1.mpr h3)]; rfl
  · rw [if_neg h3, if_neg (fun h => h3 (h1.mp h))]
    by_cases h4 : x = y
    · rw [if_pos h4, if_pos (h2.mpr h4)]; rfl
    · rw [if_neg h4, if_neg (fun h => h4 (h2.mp h))]; rfl
theorem zq_amt : ∀ n : Fin 32, ((Int32.ofInt (n.val : Int)) &&& 31).toBitVec.smod 32 = BitVec.ofNat 32 n.val := by decide +kernel
theorem zq_amtU : ∀ n : Fin 32, ((Int32.ofInt (n.val : Int)).toUInt32 &&& Int32.toUInt32 31) = UInt32.ofNat n.val := by decide +kernel
theorem zq_shl {x k : Int} (hk : 0 ≤ k ∧ k < 32) : Int32.ofInt x <<< (Int32.ofInt k &&& 31) = Int32.ofInt (x * 2 ^ k.toNat) := by
  obtain ⟨n, rfl⟩ := Int.eq_ofNat_of_zero_le hk.1
  have hn : n < 32 := by omega
  have h1 := zq_amt ⟨n, hn⟩
  apply Int32.toBitVec.inj
  rw [Int32.toBitVec_shiftLeft, h1, BitVec.shiftLeft_eq', BitVec.toNat_ofNat, Nat.mod_eq_of_lt (by omega), BitVec.shiftLeft_eq_mul_twoPow, Int32.toBitVec_ofInt, Int32.toBitVec_ofInt, BitVec.ofInt_mul, Int.toNat_natCast]
  congr 1
  have h2 : ((2 : Int) ^ n) = ((2 ^ n : Nat) : Int) := by simp
  rw [h2, BitVec.ofInt_natCast]
  apply BitVec.eq_of_toNat_eq
  rw [BitVec.toNat_twoPow, BitVec.toNat_ofNat]
theorem zq_divrg {x : Int} (hx : -2147483648 ≤ x ∧ x < 2147483648) (n : Nat) : -2147483648 ≤ x / 2 ^ n ∧ x / 2 ^ n < 2147483648 := by
  have h2 : (1 : Int) ≤ 2 ^ n := by
    have : 0 < (2 : Int) ^ n := Int.pow_pos (by decide)
    omega
  generalize (2 : Int) ^ n = d at h2
  constructor
  · rw [Int.le_ediv_iff_mul_le (by omega)]
    omega
  · apply Int.ediv_lt_of_lt_mul (by omega)
    omega
theorem zq_shr {x k : Int} (hx : -2147483648 ≤ x ∧ x < 2147483648) (hk : 0 ≤ k ∧ k < 32) : Int32.ofInt x >>> (Int32.ofInt k &&& 31) = Int32.ofInt (x / 2 ^ k.toNat) := by
  obtain ⟨n, rfl⟩ := Int.eq_ofNat_of_zero_le hk.1
  have hn : n < 32 := by omega
  have h1 := zq_amt ⟨n, hn⟩
  rw [← Int32.toInt_inj, Int.toNat_natCast, zq_toInt (zq_divrg hx n)]
  show (Int32.ofInt x >>> (Int32.ofInt (n : Int) &&& 31)).toBitVec.toInt = _
  rw [Int32.toBitVec_shiftRight, h1, BitVec.toInt_sshiftRight', BitVec.toNat_ofNat, Nat.mod_eq_of_lt (by omega), Int.shiftRight_eq_div_pow]
  have h3 : (Int32.ofInt x).toBitVec.toInt = x := zq_toInt hx
  rw [h3]
  simp
theorem zq_ushr {x k : Int} (hk : 0 ≤ k ∧ k < 32) : ((Int32.ofInt x).toUInt32 >>> ((Int32.ofInt k).toUInt32 &&& Int32.toUInt32 31)).toInt32 = Int32.ofInt ((x % 4294967296) / 2 ^ k.toNat) := by
  obtain ⟨n, rfl⟩ := Int.eq_ofNat_of_zero_le hk.1
  have hn : n < 32 := by omega
  have h1 := zq_amtU ⟨n, hn⟩
  rw [h1, Int.toNat_natCast]
  apply Int32.toBitVec.inj
  apply BitVec.eq_of_toNat_eq
  rw [UInt32.toBitVec_toInt32, UInt32.toBitVec_shiftRight, Int32.toBitVec_ofInt, Int32.toBitVec_toUInt32, Int32.toBitVec_ofInt]
  have h2 : ((UInt32.ofNat n).toBitVec % 32).toNat = n := by
    simp
    omega
  rw [BitVec.ushiftRight_eq', h2, BitVec.toNat_ushiftRight, BitVec.toNat_ofInt, BitVec.toNat_ofInt, Nat.shiftRight_eq_div_pow]
  have h3 : 0 ≤ x % 4294967296 := Int.emod_nonneg _ (by decide)
  have h4 : x % 4294967296 < 4294967296 := Int.emod_lt_of_pos _ (by decide)
  obtain ⟨y, hy⟩ := Int.eq_ofNat_of_zero_le h3
  have e1 : (x % ((2 ^ 32 : Nat) : Int)) = y := hy
  rw [e1, hy]
  have e2 : ((y : Int) / 2 ^ n) = ((y / 2 ^ n : Nat) : Int) := by simp
  rw [e2]
  have h5 : y / 2 ^ n ≤ y := Nat.div_le_self _ _
  have h6 : ((y / 2 ^ n : Nat) : Int) < 4294967296 := by
    have h7 : (y : Int) < 4294967296 := by omega
    have h8 : ((y / 2 ^ n : Nat) : Int) ≤ (y : Int) := Int.ofNat_le.mpr h5
    exact Int.lt_of_le_of_lt h8 h7
  have h9 : ((y / 2 ^ n : Nat) : Int) % ((2 ^ 32 : Nat) : Int) = ((y / 2 ^ n : Nat) : Int) := Int.emod_eq_of_lt (Int.natCast_nonneg _) h6
  rw [h9, Int.toNat_natCast, Int.toNat_natCast]
end ZQ
/-! ===== values, cells, heaps ===== -/
abbrev zI (z : Int) : Value := .int (Int32.ofInt z)
abbrev zJ (z : Int) : Value := .long (Int64.ofInt z)
abbrev zU : Value := .float 0
abbrev ZE : Type := (Nat × Nat × (Nat → Int)) ⊕ ((Nat × Nat × (Nat → Value)) ⊕ (Nat × List Value))
abbrev ZH : Type := Nat → Option ZE
abbrev ZR : Type := Option Value ⊕ String
/-- an int array; g is a mark of our own, by which the arrays are told apart -/
abbrev zi (g n : Nat) (f : Nat → Int) : ZE := .inl (g, n, f)
abbrev za (k n : Nat) (f : Nat → Value) : ZE := .inr (.inl (k, n, f))
abbrev zo (c : Nat) (fs : List Value) : ZE := .inr (.inr (c, fs))
def zset (h : ZH) (a : Nat) (e : ZE) : ZH := fun q => if q = a then some e else h q
def zup (f : Nat → Int) (i : Nat) (x : Int) : Nat → Int := fun j => if j = i then x else f j
def zuv (f : Nat → Value) (i : Nat) (x : Value) : Nat → Value := fun j => if j = i then x else f j
/-- the launch; numbers and slots of the kinds of objects, numbers of the kinds of arrays; where our cells begin -/
abbrev ZC : Type := Launch × va_G × (Nat → ClassId) × Nat
def ztys (Z : ZC) : List (ClassId × FieldType) := [(Z.2.2.1 0, .int), (Z.2.2.1 1, .boolean), (Z.2.2.1 2, .long), (Z.2.2.1 3, .object "TileStudio$Layer"), (Z.2.2.1 4, .object "TileStudio$Picture")]
def zat (Z : ZC) (a : Nat) (e : ZE) (H : Heap) : Prop := match e with
  | .inl (_, n, f) => H[a]? = some (arrV (Z.2.2.1 0) n (fun i => zI (f i)))
  | .inr (.inl (k, n, f)) => H[a]? = some (arrV (Z.2.2.1 k) n f)
  | .inr (.inr (c, fs)) => ∃ r : vw_C, zcls[c]? = some r ∧ t_OB a (Z.2.1.1 c) r.2.2 (Z.2.1.2 c) H (vp_V fs)
theorem zat.kept {Z : ZC} {a : Nat} {e : ZE} {H H1 : Heap} (h : zat Z a e H) (hq : H1[a]? = H[a]?) : zat Z a e H1 := by
  rcases e with ⟨g, n, f⟩ | ⟨k, n, f⟩ | ⟨c, fs⟩
  · exact hq.trans h
  · exact hq.trans h
  · obtain ⟨r, h1, h2⟩ := h
    exact ⟨r, h1, h2.kept hq⟩
theorem zat.lt {Z : ZC} {a : Nat} {e : ZE} {H : Heap} (h : zat Z a e H) : a < H.size := by
  rcases e with ⟨g, n, f⟩ | ⟨k, n, f⟩ | ⟨c, fs⟩
  · exact (Array.getElem?_eq_some_iff.mp h).1
  · exact (Array.getElem?_eq_some_iff.mp h).1
  · obtain ⟨r, h1, cell, h2, -⟩ := h
    exact (Array.getElem?_eq_some_iff.mp h2).1
def zRep (Z : ZC) (h : ZH) (H : Heap) : Prop := ∀ (a : Nat) (e : ZE), h a = some e → zat Z a e H ∧ Z.2.2.2 ≤ a
theorem zRep.set {Z : ZC} {h : ZH} {H H1 : Heap} {a : Nat} {e : ZE} (hr : zRep Z h H) (e1 : zat Z a e H1) (hb : Z.2.2.2 ≤ a) (oq : ∀ q : Nat, q ≠ a → H1[q]? = H[q]?) : zRep Z (zset h a e) H1 := by
  intro q x hq
  by_cases hqa : q = a
  · subst hqa
    simp only [zset, if_true] at hq
    cases hq
    exact ⟨e1, hb⟩
  · simp only [zset, if_neg hqa] at hq
    obtain ⟨h1, h2⟩ := hr q x hq
    exact ⟨h1.kept (oq q hqa), h2⟩
theorem zRep.fresh {Z : ZC} {h : ZH} {H : Heap} (hr : zRep Z h H) : h H.size = none := by
  cases hh : h H.size with
  | none => rfl
  | some e => exact absurd (hr _ _ hh).1.lt (Nat.lt_irrefl _)
theorem zRep.push {Z : ZC} {h : ZH} {H H1 : Heap} {e : ZE} (hr : zRep Z h H) (e1 : zat Z H.size e H1) (hb : Z.2.2.2 ≤ H.size) (oq : ∀ q : Nat, q < H.size → H1[q]? = H[q]?) : zRep Z (zset h H.size e) H1 := by
  intro q x hq
  by_cases hqa : q = H.size
  · subst hqa
    simp only [zset, if_true] at hq
    cases hq
    exact ⟨e1, hb⟩
  · simp only [zset, if_neg hqa] at hq
    obtain ⟨h1, h2⟩ := hr q x hq
    exact ⟨h1.kept (oq q h1.lt), h2⟩
theorem zset_same (h : ZH) (a : Nat) (e : ZE) : zset h a e a = some e := by simp [zset]
theorem zset_ne {h : ZH} {a q : Nat} {e : ZE} (hq : q ≠ a) : zset h a e q = h q := by simp [zset, hq]
theorem zset_set (h : ZH) (a : Nat) (e e' : ZE) : zset (zset h a e) a e' = zset h a e' := by
  funext q
  by_cases hq : q = a <;> simp [zset, hq]
theorem zset_id {h : ZH} {a : Nat} {e : ZE} (ha : h a = some e) : zset h a e = h := by
  funext q
  by_cases hq : q = a
  · subst hq; simp [zset, ha]
  · simp [zset, hq]
theorem zset_comm (h : ZH) {a b : Nat} (e e' : ZE) (hab : a ≠ b) : zset (zset h a e) b e' = zset (zset h b e') a e := by
  funext q
  by_cases hq : q = a
  · subst hq; simp [zset, hab]
  · by_cases hq2 : q = b
    · subst hq2; simp [zset, hq]
    · simp [zset, hq, hq2]
theorem zne {h : ZH} {a q : Nat} {e : ZE} (hq : h q = none) (ha : h a = some e) : a ≠ q := by
  intro hh
  subst hh
  rw [hq] at ha
  cases ha
/-! ===== the words; the world ===== -/
def zG : List Cond := lw_tbl.filter goodWord
theorem zG_good : ∀ w ∈ zG, goodWord w = true := fun _ h => (List.mem_filter.mp h).2
theorem zG_mem (i : Nat) {w : Cond} (h : lw_tbl[i]? = some w) (hg : goodWord w = true) : w ∈ zG := List.mem_filter.mpr ⟨List.mem_of_getElem? h, hg⟩
def zNc (U : State) : Prop := (∀ q ∈ zcasts, va_Nw (.castable q.1 q.2) U) ∧ (∀ q ∈ znocasts, va_Nc q.1 q.2 U) ∧ (∀ q ∈ znests, va_Nw (.methodLinkNest q.1 q.2.1 q.2.2.1 q.2.2.2) U) ∧ va_AO "TileStudio$Layer" U ∧ va_AO "TileStudio$Picture" U ∧ (∀ y ∈ zdecls, va_Nw (.declares y) U)
theorem zNc.moved {s U : State} (hW : s.WarmedH U.vm) (h : zNc s) : zNc U :=
  ⟨fun q hq => va_Nw.warmC hW (h.1 q hq), fun q hq => va_Nc.moved hW.alike (h.2.1 q hq), fun q hq => va_Nw.warmM hW (h.2.2.1 q hq), va_AO.moved hW.alike h.2.2.2.1, va_AO.moved hW.alike h.2.2.2.2.1, fun y hy => va_Nw.warmD hW (h.2.2.2.2.2 y hy)⟩
def zW (Z : ZC) (U : State) (H : Heap) : Prop := va_K Z.2.1 zcls (ztys Z) U ∧ zNc U ∧ (vx_Zq Bundle.tN "UNASSIGNED_STACK" Bundle.steD (fun q => Z.2.2.2 ≤ q) U H ∧ vx_Zq Bundle.tN "SUPPRESSED_SENTINEL" Bundle.listD (fun q => Z.2.2.2 ≤ q) U H) ∧ Z.2.2.2 ≤ H.size ∧ Z.1.stackTraces = false
theorem zW.moved {Z : ZC} {s U : State} {H : Heap} (hW : s.WarmedH U.vm) (h : zW Z s H) : zW Z U H :=
  ⟨va_K.moved hW.alike h.1, zNc.moved hW h.2.1, ⟨vx_Zq.moved hW.alike h.2.2.1.1, vx_Zq.moved hW.alike h.2.2.1.2⟩, h.2.2.2⟩
theorem zW.kept {Z : ZC} {U : State} {H H1 : Heap} (h : zW Z U H) (hz : H.size ≤ H1.size) (hq : ∀ a : Nat, a < H.size → ¬ Z.2.2.2 ≤ a → H1[a]? = H[a]?) : zW Z U H1 :=
  ⟨h.1, h.2.1, ⟨vx_Zq.kept h.2.2.1.1 hq, vx_Zq.kept h.2.2.1.2 hq⟩, Nat.le_trans h.2.2.2.1 hz, h.2.2.2.2⟩
/-! ===== methods: name, bytes, places, result, handlers, table (instruction, next, target) ===== -/
abbrev ZT : Type := Nat → Option (Instr × Nat × Nat)
abbrev MI : Type := MethodName × ByteArray × Nat × Option FieldType × List (Nat × Nat × Nat × Nat) × ZT
abbrev zy (M : MI) : MethodName := M.1
abbrev zcc (M : MI) : ByteArray := M.2.1
abbrev znL (M : MI) : Nat := M.2.2.1
abbrev zret (M : MI) : Option FieldType := M.2.2.2.1
abbrev zhh (M : MI) : List (Nat × Nat × Nat × Nat) := M.2.2.2.2.1
abbrev zT (M : MI) : ZT := M.2.2.2.2.2
def zlen : Instr → Nat
  | .bipush _ | .iload _ | .istore _ | .aload _ | .astore _ | .lload _ | .lstore _ | .ldc _ | .newarray _ => 2
  | .sipush _ | .getfield _ | .putfield _ | .invokevirtual _ | .invokespecial _ | .invokestatic _ | .new _ | .anewarray _ | .iinc .. | .checkcast _ | .ldc2_w _ | .ldc_w _ => 3
  | _ => 1
def zlk (pc : Nat) (i : Instr) (q t : Nat) : Bool := match i with
  | .if_icmp _ off | .ifCond _ off | .goto off | .ifnull off | .ifnonnull off => decide ((pc : Int) + off = (t : Int)) && decide (q = pc + 3)
  | .tableswitch .. | .lookupswitch .. => true
  | i => decide (q = pc + zlen i)
def zok (M : MI) : Prop := ∀ (pc : Nat) (i : Instr) (q t : Nat), zT M pc = some (i, q, t) → decode (zcc M) pc = .ok (i, q - pc) ∧ zlk pc i q t = true
def zck (M : MI) (pc : Nat) : Bool := match zT M pc with
  | none => true
  | some (i, q, t) => decide (decode (zcc M) pc = .ok (i, q - pc)) && zlk pc i q t
theorem zok_of {M : MI} (N : Nat) (hN : ∀ pc, N ≤ pc → zT M pc = none) (h : (List.range N).all (zck M) = true) : zok M := by
  intro pc i q t hd
  by_cases hp : pc < N
  · have h1 := List.all_eq_true.mp h pc (List.mem_range.mpr hp)
    simp only [zck, hd, Bool.and_eq_true, decide_eq_true_eq] at h1
    exact h1
  · rw [hN pc (Nat.not_lt.mp hp)] at hd
    cases hd
theorem zdec {M : MI} (hok : zok M) {pc : Nat} {i : Instr} {q t : Nat} (hd : zT M pc = some (i, q, t)) (n : Nat) (hz : ∀ q t, zlk pc i q t = decide (q = pc + n)) : decode (zcc M) pc = .ok (i, n) ∧ q = pc + n := by
  obtain ⟨h1, h2⟩ := hok pc i q t hd
  rw [hz] at h2
  have h3 := of_decide_eq_true h2
  subst h3
  rw [Nat.add_sub_cancel_left] at h1
  exact ⟨h1, rfl⟩
theorem zdecJ {M : MI} (hok : zok M) {pc : Nat} {i : Instr} {q t : Nat} (hd : zT M pc = some (i, q, t)) (off : Int) (hz : ∀ q t : Nat, zlk pc i q t = (decide ((pc : Int) + off = (t : Int)) && decide (q = pc + 3))) : decode (zcc M) pc = .ok (i, 3) ∧ (pc : Int) + off = (t : Int) ∧ q = pc + 3 := by
  obtain ⟨h1, h2⟩ := hok pc i q t hd
  rw [hz, Bool.and_eq_true] at h2
  have h3 := of_decide_eq_true h2.2
  have h4 := of_decide_eq_true h2.1
  subst h3
  rw [Nat.add_sub_cancel_left] at h1
  exact ⟨h1, h4, rfl⟩
/-! ===== variables: by their places; zU: not known ===== -/
def zls : Nat → List Value → List (Nat × Value)
  | _, [] => []
  | i, v :: vs => match v with
    | .float _ => zls (i + 1) vs
    | v => (i, v) :: zls (i + 1) vs
def zkn (v : Value) : Bool := match v with
  | .float _ => false
  | _ => true
theorem zls_cons (i : Nat) (v : Value) (vs : List Value) : zls i (v :: vs) = if zkn v = true then (i, v) :: zls (i + 1) vs else zls (i + 1) vs := by
  cases v <;> rfl
theorem zls_mem : ∀ (L : List Value) (i j : Nat) (w : Value), (j, w) ∈ zls i L ↔ i ≤ j ∧ L[j - i]? = some w ∧ zkn w = true := by
  intro L
  induction L with
  | nil => intro i j w; simp [zls]
  | cons v vs ih =>
    intro i j w
    rw [zls_cons]
    have hsplit : (i ≤ j ∧ (v :: vs)[j - i]? = some w) ↔ (i = j ∧ v = w) ∨ (i + 1 ≤ j ∧ vs[j - (i + 1)]? = some w) := by
      constructor
      · rintro ⟨h1, h2⟩
        by_cases hj : j = i
        · subst hj
          simp at h2
          exact Or.inl ⟨rfl, h2⟩
        · have e : j - i = (j - (i + 1)) + 1 := by omega
          rw [e, List.getElem?_cons_succ] at h2
          exact Or.inr ⟨by omega, h2⟩
      · rintro (⟨rfl, rfl⟩ | ⟨h1, h2⟩)
        · simp
        · have e : j - i = (j - (i + 1)) + 1 := by omega
          rw [e, List.getElem?_cons_succ]
          exact ⟨by omega, h2⟩
    rw [← and_assoc, hsplit]
    by_cases hk : zkn v = true
    · rw [if_pos hk, List.mem_cons, ih]
      constructor
      · rintro (h | ⟨h1, h2, h3⟩)
        · cases h
          exact ⟨Or.inl ⟨rfl, rfl⟩, hk⟩
        · exact ⟨Or.inr ⟨h1, h2⟩, h3⟩
      · rintro ⟨⟨rfl, rfl⟩ | ⟨h1, h2⟩, h3⟩
        · exact Or.inl rfl
        · exact Or.inr ⟨h1, h2, h3⟩
    · rw [if_neg hk, ih]
      constructor
      · rintro ⟨h1, h2, h3⟩
        exact ⟨Or.inr ⟨h1, h2⟩, h3⟩
      · rintro ⟨⟨rfl, rfl⟩ | ⟨h1, h2⟩, h3⟩
        · exact absurd h3 hk
        · exact ⟨h1, h2, h3⟩
/-- a variable is set; places between are filled up -/
def zsl : List Value → Nat → Value → List Value
  | [], 0, v => [v]
  | [], n + 1, v => zU :: zsl [] n v
  | _ :: t, 0, v => v :: t
  | a :: t, n + 1, v => a :: zsl t n v
theorem zsl_get : ∀ (L : List Value) (i : Nat) (v : Value) (j : Nat) (w : Value), (zsl L i v)[j]? = some w → zkn w = true → (j = i ∧ w = v) ∨ (j ≠ i ∧ L[j]? = some w) := by
  intro L i
  induction i generalizing L with
  | zero =>
    intro v j w h hk
    cases L with
    | nil =>
      cases j with
      | zero => simp [zsl] at h; exact Or.inl ⟨rfl, h.symm⟩
      | succ j => simp [zsl] at h
    | cons a t =>
      cases j with
      | zero => simp [zsl] at h; exact Or.inl ⟨rfl, h.symm⟩
      | succ j => simp [zsl] at h; exact Or.inr ⟨by omega, by simpa using h⟩
  | succ n ih =>
    intro v j w h hk
    cases L with
    | nil =>
      cases j with
      | zero => simp [zsl] at h; subst h; cases hk
      | succ j =>
        simp only [zsl, List.getElem?_cons_succ] at h
        rcases ih [] v j w h hk with ⟨rfl, rfl⟩ | ⟨_, h2⟩
        · exact Or.inl ⟨rfl, rfl⟩
        · simp at h2
    | cons a t =>
      cases j with
      | zero => simp [zsl] at h; exact Or.inr ⟨by omega, by simpa using h⟩
      | succ j =>
        simp only [zsl, List.getElem?_cons_succ] at h
        rcases ih t v j w h hk with ⟨rfl, rfl⟩ | ⟨h1, h2⟩
        · exact Or.inl ⟨rfl, rfl⟩
        · exact Or.inr ⟨by omega, by simpa using h2⟩
/-- no long lies just ahead -/
def zst (L : List Value) (i : Nat) : Bool := match i with
  | 0 => true
  | n + 1 => match L[n]? with
    | some (.long _) => false
    | some (.double _) => false
    | _ => true
theorem zst_spec {L : List Value} {i j : Nat} {w : Value} (h : zst L i = true) (hj : L[j]? = some w) (hi : j + 1 = i) : w.category = 1 := by
  subst hi
  cases w <;> simp_all [zst, Value.category]
theorem lv_mono {ls : Array Slot} {n : Nat} {l l' : List (Nat × Value)} (h : lv_has ls n l) (hs : ∀ q ∈ l', q ∈ l) : lv_has ls n l' := ⟨h.1, h.2.1, fun q hq => h.2.2 q (hs q hq)⟩
theorem zhas_at {ls : Array Slot} {n : Nat} {L : List Value} (h : lv_has ls n (zls 0 L)) {i : Nat} {v : Value} (hi : L[i]? = some v) (hk : zkn v = true) : ls[i]? = some (.val v) := h.2.2 (i, v) ((zls_mem L 0 i v).mpr ⟨Nat.zero_le _, hi, hk⟩)
theorem zhas_set {ls : Array Slot} {n : Nat} {L : List Value} {i : Nat} {v : Value} (hz : zst L i = true) (h : lv_has ls n ((i, v) :: (zls 0 L).filter (fun q => !(q.1 == i) && !(q.1 + 1 == i && q.2.category == 2)))) : lv_has ls n (zls 0 (zsl L i v)) := by
  refine lv_mono h ?_
  rintro ⟨j, w⟩ hq
  obtain ⟨-, h2, h3⟩ := (zls_mem _ _ _ _).mp hq
  rcases zsl_get L i v (j - 0) w h2 h3 with ⟨h4, rfl⟩ | ⟨h4, h5⟩
  · simp at h4; subst h4; exact List.mem_cons_self
  · refine List.mem_cons_of_mem _ (List.mem_filter.mpr ⟨(zls_mem _ _ _ _).mpr ⟨Nat.zero_le _, h5, h3⟩, ?_⟩)
    simp at h4 h5
    by_cases hj : j + 1 = i
    · have := zst_spec hz h5 hj
      simp [h4, this]
    · simp [h4, hj]
theorem zhas_set2 {ls : Array Slot} {n : Nat} {L : List Value} {i : Nat} {v : Value} (hz : zst L i = true) (h : lv_has ls n ((i, v) :: (zls 0 L).filter (fun q => !(q.1 == i) && (!(q.1 == i + 1) && !(q.1 + 1 == i && q.2.category == 2))))) : lv_has ls n (zls 0 (zsl (zsl L i v) (i + 1) zU)) := by
  refine lv_mono h ?_
  rintro ⟨j, w⟩ hq
  obtain ⟨-, h2, h3⟩ := (zls_mem _ _ _ _).mp hq
  rcases zsl_get _ (i + 1) zU (j - 0) w h2 h3 with ⟨h4, rfl⟩ | ⟨h4, h5⟩
  · cases h3
  · rcases zsl_get L i v (j - 0) w h5 h3 with ⟨h6, rfl⟩ | ⟨h6, h7⟩
    · simp at h6; subst h6; exact List.mem_cons_self
    · refine List.mem_cons_of_mem _ (List.mem_filter.mpr ⟨(zls_mem _ _ _ _).mpr ⟨Nat.zero_le _, h7, h3⟩, ?_⟩)
      simp at h4 h6 h7
      by_cases hj : j + 1 = i
      · have := zst_spec hz h7 hj
        simp [h4, h6, this]
      · simp [h4, h6, hj]
theorem zls_args : ∀ (av : List Value) (i : Nat), (∀ v ∈ av, v.category = 1) → ∀ q ∈ zls i av, q ∈ lv_args i av := by
  intro av
  induction av with
  | nil => intro i _ q hq; cases hq
  | cons v vs ih =>
    intro i h q hq
    have h1 : ¬ v.category = 2 := by rw [h v List.mem_cons_self]; decide
    rw [zls_cons] at hq
    simp only [lv_args, if_neg h1]
    split at hq
    · rcases List.mem_cons.mp hq with rfl | hq
      · exact List.mem_cons_self
      · exact List.mem_cons_of_mem _ (ih (i + 1) (fun w hw => h w (List.mem_cons_of_mem _ hw)) q hq)
    · exact List.mem_cons_of_mem _ (ih (i + 1) (fun w hw => h w (List.mem_cons_of_mem _ hw)) q hq)
theorem lg_sl_len : ∀ (av : List Value), (∀ v ∈ av, v.category = 1) → (lg_sl av).length = av.length := by
  intro av
  induction av with
  | nil => intro _; rfl
  | cons v vs ih =>
    intro h
    have h1 : ¬ v.category = 2 := by rw [h v List.mem_cons_self]; decide
    have h2 := ih (fun w hw => h w (List.mem_cons_of_mem _ hw))
    simp only [lg_sl, List.flatMap_cons, if_neg h1, List.length_append, List.length_cons, List.length_nil] at h2 ⊢
    omega
theorem zG_T (i : Nat) {w : Cond} (h : tables_1[i]? = some w) (hg : goodWord w = true) : w ∈ zG := List.mem_filter.mpr ⟨List.mem_append_right _ (List.mem_of_getElem? h), hg⟩
theorem zG_S (i : Nat) {w : Cond} (h : (k2_sels lw_privs)[i]? = some w) (hg : goodWord w = true) : w ∈ zG := List.mem_filter.mpr ⟨List.mem_append_left _ (List.mem_of_getElem? h), hg⟩
def zmk (N : Nat) (f : ZT) : ZT := fun pc => cond (Nat.blt pc N) (f pc) none
theorem zok_mk {M : MI} {N : Nat} {f : ZT} (hT : zT M = zmk N f) (h : (List.range N).all (zck M) = true) : zok M := by
  refine zok_of N (fun pc hp => ?_) h
  rw [hT]
  have h1 : Nat.blt pc N = false := by
    cases h2 : Nat.blt pc N
    · rfl
    · exact absurd (zblt h2) (Nat.not_lt.mpr hp)
  simp [zmk, h1]
end
section
/-! ===== the judgement ===== -/
abbrev ZF : Type := (State → Prop) × MI × Nat × Nat × Nat
def zFr (Z : ZC) (Ex : State → Prop) (M : MI) (p : Program) (s : State) (m : MethodId) (args : Array Value) (meth : Method) (c : Code) : Prop :=
  p.tables.exec = Jvm.exec ∧ c.code = zcc M ∧ c.maxLocals = znL M ∧ s.vm.findClass (zy M).cls = some m.cls ∧ (∀ w ∈ zG, w.before args s = true) ∧ meth.sig.returnType = zret M ∧ meth.locks = false ∧ meth.name = (zy M).name ∧ c.exceptionTable.toList = tableOf (zhh M) ∧ zW Z s s.heap ∧ Ex s ∧ zok M
def zQc (Z : ZC) (Q : ZR → ZH → Prop) : Array Value → State → Outcome → State → Prop := fun _ st oc t => (∃ (r : Option Value) (h' : ZH), oc = .returned r ∧ Q (.inl r) h' ∧ zRep Z h' t.heap) ∧ va_F (fun q => Z.2.2.2 ≤ q) st t
def zXC (Z : ZC) (Q : ZR → ZH → Prop) : String → State → State → Prop := fun E st t => (∃ h' : ZH, Q (.inr E) h' ∧ zRep Z h' t.heap) ∧ va_F (fun q => Z.2.2.2 ≤ q) st t
abbrev zRm (R : Room) (F : ZF) : Prop := F.2.2.1 + 10 ≤ R.frames ∧ 140 + 40 * F.2.2.1 ≤ R.locals ∧ F.2.2.2.1 ≤ R.cells ∧ F.2.2.2.2 ≤ R.slots
def Ev (Z : ZC) (F : ZF) (pc : Nat) (L st : List Value) (h : ZH) (mc ms : Nat) (Q : ZR → ZH → Prop) : Prop :=
  ∀ (p : Program) (e : Env) (R : Room) (s : State) (m : MethodId) (args : Array Value) (below : List Frame) (meth : Method) (c : Code) (H : Heap) (locs : List Loc) (cells slots : Nat) (ls : Array Slot),
    zFr Z F.1 F.2.1 p s m args meth c → zRm R F → lv_has ls (znL F.2.1) (zls 0 L) → zRep Z h H → va_S (fun q => Z.2.2.2 ≤ q) s.heap H locs → cells + mc ≤ F.2.2.2.1 → slots + ms ≤ F.2.2.2.2 →
    W p Z.1 e R s m args below meth c H locs cells slots (vx_MQ below (zQc Z Q) (zXC Z Q) args s F.2.2.2.1 F.2.2.2.2 (fun q => Z.2.2.2 ≤ q)) (F0 m pc ls st)
def EvX (Z : ZC) (F : ZF) (pc : Nat) (L st : List Value) (E : String) (h : ZH) (mc ms : Nat) (Q : ZR → ZH → Prop) : Prop :=
  ∀ (p : Program) (e : Env) (R : Room) (s : State) (m : MethodId) (args : Array Value) (below : List Frame) (meth : Method) (c : Code) (H : Heap) (locs : List Loc) (cells slots : Nat) (ls : Array Slot) (ce : Cell) (qa : Addr),
    zFr Z F.1 F.2.1 p s m args meth c → zRm R F → lv_has ls (znL F.2.1) (zls 0 L) → zRep Z h H → va_S (fun q => Z.2.2.2 ≤ q) s.heap H locs → cells + mc ≤ F.2.2.2.1 → slots + ms ≤ F.2.2.2.2 →
    H[qa]? = some ce → ce.vm = .none → s.vm.findClass E = some ce.cls →
    vx_W p Z.1 e R s m args below meth c H locs cells slots (vx_MQ below (zQc Z Q) (zXC Z Q) args s F.2.2.2.1 F.2.2.2.2 (fun q => Z.2.2.2 ≤ q)) (F0 m pc ls st) qa
/-! ===== contracts ===== -/
abbrev zrm (d mc ms : Nat) : Room := { frames := d + 10, cells := mc, slots := ms, locals := 140 + 40 * d }
def zcw (M : MI) : Cond := match zhh M with
  | [] => .code (zy M) (zcc M) (znL M) (zret M)
  | q :: t => .codeWith (zy M) (zcc M) (znL M) (zret M) (q :: t)
def zPc (Z : ZC) (av : List Value) (h : ZH) : Array Value → State → Prop := va_Pc av (fun U => zW Z U U.heap ∧ zRep Z h U.heap)
def Ct (Z : ZC) (M : MI) (d mc ms : Nat) (av : List Value) (h : ZH) (Q : ZR → ZH → Prop) : Prop :=
  vx_Met Z.1 (zy M) (zcw M :: zG) (zrm d mc ms) (zPc Z av h) (zQc Z Q) (zXC Z Q) mc ms (fun q => Z.2.2.2 ≤ q)
theorem zPc_blind {Z : ZC} {av : List Value} {h : ZH} : FrameBlind (zPc Z av h) := fun _ _ _ _ hp => hp
section ZR1
variable {Z : ZC}
theorem Ct.ofEv {M : MI} {d mc ms : Nat} {av : List Value} {h : ZH} {Q : ZR → ZH → Prop} (hh : zhh M = []) (hy : plainName (zy M).cls = true) (hok : zok M) (hav : ∀ v ∈ av, v.category = 1) (hlen : av.length ≤ znL M)
    (k : Ev Z (fun _ => True, M, d, mc, ms) 0 av [] h mc ms Q) : Ct Z M d mc ms av h Q := by
  have hcw : zcw M = .code (zy M) (zcc M) (znL M) (zret M) := by unfold zcw; rw [hh]
  unfold Ct
  refine vx_ofW (cc := zcc M) (maxL := znL M) (ret := zret M) (ws' := zG) hy (by rw [hcw]) ?_
  intro p e s m args below meth c s₁ B hml ht hP
  obtain ⟨rfl, hW, hr⟩ := hP
  have hts : ∀ w ∈ zG, w.before av.toArray s = true := fun w hw => atoms_spec (ws := zcw M :: zG) B.pre w (List.mem_cons_of_mem _ hw)
  have hl := lv_entry av (n := znL M) (by rw [lg_sl_len av hav]; exact hlen)
  rw [lg_entry_eq]
  refine k p e _ s m av.toArray below meth c s.heap [] 0 0 _ ⟨B.exec, B.bytes, hml, findClass_of_methodNamed B.named, hts, B.returns, B.notSynchronized, (name_of_methodNamed B.named B.method).1, ?_, hW, trivial, hok⟩ ⟨Nat.le_refl _, Nat.le_refl _, Nat.le_refl _, Nat.le_refl _⟩ (lv_mono hl (zls_args av 0 hav)) hr va_S.rf (by show 0 + mc ≤ mc; omega) (by show 0 + ms ≤ ms; omega)
  rw [hh]
  cases hE : c.exceptionTable.toList with
  | nil => rfl
  | cons x t => exact (ht x (by rw [hE]; exact List.mem_cons_self)).elim
theorem Ct.ofEvH {M : MI} {d mc ms : Nat} {av : List Value} {h : ZH} {Q : ZR → ZH → Prop} (hcw : zcw M = .codeWith (zy M) (zcc M) (znL M) (zret M) (zhh M)) (hy : plainName (zy M).cls = true) (hok : zok M) (hav : ∀ v ∈ av, v.category = 1) (hlen : av.length ≤ znL M)
    (k : Ev Z (fun _ => True, M, d, mc, ms) 0 av [] h mc ms Q) : Ct Z M d mc ms av h Q := by
  unfold Ct
  refine vx_ofWH (cc := zcc M) (maxL := znL M) (ret := zret M) (hh := zhh M) (ws' := zG) hy (by rw [hcw]) ?_
  intro p e s m args below meth c s₁ B hml hP
  obtain ⟨rfl, hW, hr⟩ := hP
  have hall := atoms_spec (ws := zcw M :: zG) B.pre
  have hts : ∀ w ∈ zG, w.before av.toArray s = true := fun w hw => hall w (List.mem_cons_of_mem _ hw)
  have htb := vx_table (x := zy M) B (by rw [← hcw]; exact hall _ List.mem_cons_self)
  have hl := lv_entry av (n := znL M) (by rw [lg_sl_len av hav]; exact hlen)
  rw [lg_entry_eq]
  exact k p e _ s m av.toArray below meth c s.heap [] 0 0 _ ⟨B.exec, B.bytes, hml, findClass_of_methodNamed B.named, hts, B.returns, B.notSynchronized, (name_of_methodNamed B.named B.method).1, htb, hW, trivial, hok⟩ ⟨Nat.le_refl _, Nat.le_refl _, Nat.le_refl _, Nat.le_refl _⟩ (lv_mono hl (zls_args av 0 hav)) hr va_S.rf (by show 0 + mc ≤ mc; omega) (by show 0 + ms ≤ ms; omega)
theorem Ct.mono {M : MI} {d mc ms : Nat} {av : List Value} {h : ZH} {Q Q' : ZR → ZH → Prop} (hc : Ct Z M d mc ms av h Q) (hq : ∀ r h', Q r h' → Q' r h') : Ct Z M d mc ms av h Q' := by
  intro p e h1 h2 h3 s m args below h4 h5 h6 h7
  obtain ⟨n, oc, k1, k2, k3, k4⟩ := hc p e h1 h2 h3 s m args below h4 h5 h6 h7
  refine ⟨n, oc, k1, k2, k3, ?_⟩
  rcases k4 with ⟨⟨⟨r, h', e1, e2, e3⟩, e4⟩, e5⟩ | ⟨q, e0, E, ce, L, ⟨⟨h', e1, e2⟩, e3⟩, e4⟩
  · exact Or.inl ⟨⟨⟨r, h', e1, hq _ _ e2, e3⟩, e4⟩, e5⟩
  · exact Or.inr ⟨q, e0, E, ce, L, ⟨⟨h', hq _ _ e1, e2⟩, e3⟩, e4⟩
theorem Ct.met {M : MI} {d mc ms : Nat} {av : List Value} {h : ZH} {Q : ZR → ZH → Prop} (hc : Ct Z M d mc ms av h Q) (hno : ∀ E h', ¬ Q (.inr E) h') : Met Z.1 (zy M) (zcw M :: zG) (zrm d mc ms) (zPc Z av h) (zQc Z Q) mc ms (fun q => Z.2.2.2 ≤ q) := by
  intro p e h1 h2 h3 s m args below h4 h5 h6 h7
  obtain ⟨n, oc, k1, k2, k3, k4⟩ := hc p e h1 h2 h3 s m args below h4 h5 h6 h7
  refine ⟨n, oc, k1, k2, k3, ?_⟩
  rcases k4 with k4 | ⟨q, e0, E, ce, L, ⟨⟨h', e1, e2⟩, e3⟩, e4⟩
  · exact k4
  · exact absurd e1 (hno _ _)
end ZR1
section ZR2
variable {Z : ZC} {F : ZF} {pc q t : Nat} {L st : List Value} {h : ZH} {mc ms : Nat} {Q : ZR → ZH → Prop}
theorem Ev.bud {mc' ms' : Nat} (h1 : mc' ≤ mc) (h2 : ms' ≤ ms) (k : Ev Z F pc L st h mc' ms' Q) : Ev Z F pc L st h mc ms Q := by
  intro p e R s m args below meth c H locs cells slots ls hF hR hl hr hS hc hs
  exact k p e R s m args below meth c H locs cells slots ls hF hR hl hr hS (by omega) (by omega)
theorem Ev.heap {h' : ZH} (e1 : h = h') (k : Ev Z F pc L st h' mc ms Q) : Ev Z F pc L st h mc ms Q := e1 ▸ k
theorem Ev.post {Q' : ZR → ZH → Prop} (hq : ∀ r h', Q r h' → Q' r h') (k : Ev Z F pc L st h mc ms Q) : Ev Z F pc L st h mc ms Q' := by
  intro p e R s m args below meth c H locs cells slots ls hF hR hl hr hS hc hs
  intro T hT X
  obtain ⟨t, a1, oc, b1, b2, b3⟩ := k p e R s m args below meth c H locs cells slots ls hF hR hl hr hS hc hs T hT X
  refine ⟨t, a1, oc, b1, b2, ?_⟩
  rcases b3 with ⟨⟨⟨r, h', e1, e2, e3⟩, e4⟩, e5⟩ | ⟨q, e0, E, ce, L, ⟨⟨h', e1, e2⟩, e3⟩, e4⟩
  · exact Or.inl ⟨⟨⟨r, h', e1, hq _ _ e2, e3⟩, e4⟩, e5⟩
  · exact Or.inr ⟨q, e0, E, ce, L, ⟨⟨h', hq _ _ e1, e2⟩, e3⟩, e4⟩
/-- fewer variables known -/
theorem Ev.loc {L' : List Value} (hs : ∀ (i : Nat) (v : Value), L'[i]? = some v → zkn v = true → L[i]? = some v) (k : Ev Z F pc L' st h mc ms Q) : Ev Z F pc L st h mc ms Q := by
  intro p e R s m args below meth c H locs cells slots ls hF hR hl hr hS hc hs'
  refine k p e R s m args below meth c H locs cells slots ls hF hR (lv_mono hl ?_) hr hS hc hs'
  rintro ⟨j, w⟩ hq
  obtain ⟨h1, h2, h3⟩ := (zls_mem _ _ _ _).mp hq
  exact (zls_mem _ _ _ _).mpr ⟨h1, hs _ _ h2 h3, h3⟩
theorem Ev.take (n : Nat) (k : Ev Z F pc (L.take n) st h mc ms Q) : Ev Z F pc L st h mc ms Q := by
  refine Ev.loc (fun i v hv _ => ?_) k
  rw [List.getElem?_take] at hv
  split at hv
  · exact hv
  · cases hv
def zmask : List Bool → List Value → List Value
  | [], _ => []
  | _, [] => []
  | b :: bs, v :: vs => (if b then v else zU) :: zmask bs vs
theorem zmask_get : ∀ (bs : List Bool) (L : List Value) (i : Nat) (v : Value), (zmask bs L)[i]? = some v → zkn v = true → L[i]? = some v := by
  intro bs
  induction bs with
  | nil => intro L i v hv; simp [zmask] at hv
  | cons b bs ih =>
    intro L i v hv hk
    cases L with
    | nil => simp [zmask] at hv
    | cons a t =>
      cases i with
      | zero =>
        simp only [zmask, List.getElem?_cons_zero, Option.some.injEq] at hv ⊢
        cases b
        · simp at hv; subst hv; cases hk
        · simpa using hv
      | succ i =>
        simp only [zmask, List.getElem?_cons_succ] at hv ⊢
        exact ih t i v hv hk
theorem Ev.mask (bs : List Bool) (k : Ev Z F pc (zmask bs L) st h mc ms Q) : Ev Z F pc L st h mc ms Q := Ev.loc (fun i v hv hk => zmask_get bs L i v hv hk) k

theorem zz_iconst {n : Int} (hd : zT F.2.1 pc = some (.iconst n, q, t)) (k : Ev Z F q L (zI n :: st) h mc ms Q) : Ev Z F pc L (st) h mc ms Q := by
  intro p e R s m args below meth c H locs cells slots ls hF hR hl hr hS hc hs
  obtain ⟨hx, hb, hml, hown, hts, hret, hlk, hnm, htb, hW, hEx, hok⟩ := id hF
  obtain ⟨h1, rfl⟩ := zdec hok hd 1 (fun _ _ => rfl)
  refine lv_iconst hx hb h1 rfl ?_
  exact k p e R s m args below meth c H locs cells slots ls hF hR hl hr hS hc hs
theorem zz_bipush {n : Int} (hd : zT F.2.1 pc = some (.bipush n, q, t)) (hv : (Int8.ofInt n).toInt32 = Int32.ofInt n) (k : Ev Z F q L (zI n :: st) h mc ms Q) : Ev Z F pc L (st) h mc ms Q := by
  intro p e R s m args below meth c H locs cells slots ls hF hR hl hr hS hc hs
  obtain ⟨hx, hb, hml, hown, hts, hret, hlk, hnm, htb, hW, hEx, hok⟩ := id hF
  obtain ⟨h1, rfl⟩ := zdec hok hd 2 (fun _ _ => rfl)
  refine lv_bipush hx hb h1 hv ?_
  exact k p e R s m args below meth c H locs cells slots ls hF hR hl hr hS hc hs
theorem zz_sipush {n : Int} (hd : zT F.2.1 pc = some (.sipush n, q, t)) (hv : (Int16.ofInt n).toInt32 = Int32.ofInt n) (k : Ev Z F q L (zI n :: st) h mc ms Q) : Ev Z F pc L (st) h mc ms Q := by
  intro p e R s m args below meth c H locs cells slots ls hF hR hl hr hS hc hs
  obtain ⟨hx, hb, hml, hown, hts, hret, hlk, hnm, htb, hW, hEx, hok⟩ := id hF
  obtain ⟨h1, rfl⟩ := zdec hok hd 3 (fun _ _ => rfl)
  refine lv_sipush hx hb h1 hv ?_
  exact k p e R s m args below meth c H locs cells slots ls hF hR hl hr hS hc hs
theorem zz_ldc {i : Nat} {n : Int} (hd : zT F.2.1 pc = some (.ldc i, q, t)) (hv : Cond.constant (zy F.2.1).cls i (Int32.ofInt n) ∈ zG) (k : Ev Z F q L (zI n :: st) h mc ms Q) : Ev Z F pc L (st) h mc ms Q := by
  intro p e R s m args below meth c H locs cells slots ls hF hR hl hr hS hc hs
  obtain ⟨hx, hb, hml, hown, hts, hret, hlk, hnm, htb, hW, hEx, hok⟩ := id hF
  obtain ⟨h1, rfl⟩ := zdec hok hd 2 (fun _ _ => rfl)
  refine lv_ldc hx hb hown (hts _ hv) h1 ?_
  exact k p e R s m args below meth c H locs cells slots ls hF hR hl hr hS hc hs
theorem zz_ldcw {i : Nat} {n : Int} (hd : zT F.2.1 pc = some (.ldc_w i, q, t)) (hv : Cond.constant (zy F.2.1).cls i (Int32.ofInt n) ∈ zG) (k : Ev Z F q L (zI n :: st) h mc ms Q) : Ev Z F pc L (st) h mc ms Q := by
  intro p e R s m args below meth c H locs cells slots ls hF hR hl hr hS hc hs
  obtain ⟨hx, hb, hml, hown, hts, hret, hlk, hnm, htb, hW, hEx, hok⟩ := id hF
  obtain ⟨h1, rfl⟩ := zdec hok hd 3 (fun _ _ => rfl)
  refine lv_ldcw hx hb hown (hts _ hv) h1 ?_
  exact k p e R s m args below meth c H locs cells slots ls hF hR hl hr hS hc hs
theorem zz_ldc2 {i : Nat} {n : Int} (hd : zT F.2.1 pc = some (.ldc2_w i, q, t)) (hv : Cond.constantLong (zy F.2.1).cls i (Int64.ofInt n) ∈ zG) (k : Ev Z F q L (zJ n :: st) h mc ms Q) : Ev Z F pc L (st) h mc ms Q := by
  intro p e R s m args below meth c H locs cells slots ls hF hR hl hr hS hc hs
  obtain ⟨hx, hb, hml, hown, hts, hret, hlk, hnm, htb, hW, hEx, hok⟩ := id hF
  obtain ⟨h1, rfl⟩ := zdec hok hd 3 (fun _ _ => rfl)
  refine lv_ldc2 hx hb hown (hts _ hv) h1 ?_
  exact k p e R s m args below meth c H locs cells slots ls hF hR hl hr hS hc hs
theorem zz_lconst {n : Fin 2} {z : Int} (hd : zT F.2.1 pc = some (.lconst n, q, t)) (hv : Int64.ofNat (n : Nat) = Int64.ofInt z) (k : Ev Z F q L (zJ z :: st) h mc ms Q) : Ev Z F pc L (st) h mc ms Q := by
  intro p e R s m args below meth c H locs cells slots ls hF hR hl hr hS hc hs
  obtain ⟨hx, hb, hml, hown, hts, hret, hlk, hnm, htb, hW, hEx, hok⟩ := id hF
  obtain ⟨h1, rfl⟩ := zdec hok hd 1 (fun _ _ => rfl)
  refine lv_lconst hx hb h1 hv ?_
  exact k p e R s m args below meth c H locs cells slots ls hF hR hl hr hS hc hs
theorem zz_null  (hd : zT F.2.1 pc = some (.aconst_null, q, t)) (k : Ev Z F q L (.null :: st) h mc ms Q) : Ev Z F pc L (st) h mc ms Q := by
  intro p e R s m args below meth c H locs cells slots ls hF hR hl hr hS hc hs
  obtain ⟨hx, hb, hml, hown, hts, hret, hlk, hnm, htb, hW, hEx, hok⟩ := id hF
  obtain ⟨h1, rfl⟩ := zdec hok hd 1 (fun _ _ => rfl)
  refine lv_null hx hb h1 ?_
  exact k p e R s m args below meth c H locs cells slots ls hF hR hl hr hS hc hs
theorem zz_iload_n {x : Int} {k0 : Fin 4} (hd : zT F.2.1 pc = some (.iload_n k0, q, t)) (hL : L[(k0 : Nat)]? = some (zI x)) (k : Ev Z F q L (zI x :: st) h mc ms Q) : Ev Z F pc L (st) h mc ms Q := by
  intro p e R s m args below meth c H locs cells slots ls hF hR hl hr hS hc hs
  obtain ⟨hx, hb, hml, hown, hts, hret, hlk, hnm, htb, hW, hEx, hok⟩ := id hF
  obtain ⟨h1, rfl⟩ := zdec hok hd 1 (fun _ _ => rfl)
  refine lv_iload_n hx hb h1 rfl (zhas_at hl hL rfl) ?_
  exact k p e R s m args below meth c H locs cells slots ls hF hR hl hr hS hc hs
theorem zz_iload {x : Int} {k0 : Nat} (hd : zT F.2.1 pc = some (.iload k0, q, t)) (hL : L[k0]? = some (zI x)) (k : Ev Z F q L (zI x :: st) h mc ms Q) : Ev Z F pc L (st) h mc ms Q := by
  intro p e R s m args below meth c H locs cells slots ls hF hR hl hr hS hc hs
  obtain ⟨hx, hb, hml, hown, hts, hret, hlk, hnm, htb, hW, hEx, hok⟩ := id hF
  obtain ⟨h1, rfl⟩ := zdec hok hd 2 (fun _ _ => rfl)
  refine lv_iload hx hb h1 (zhas_at hl hL rfl) ?_
  exact k p e R s m args below meth c H locs cells slots ls hF hR hl hr hS hc hs
theorem zz_lload_n {x : Int} {k0 : Fin 4} (hd : zT F.2.1 pc = some (.lload_n k0, q, t)) (hL : L[(k0 : Nat)]? = some (zJ x)) (k : Ev Z F q L (zJ x :: st) h mc ms Q) : Ev Z F pc L (st) h mc ms Q := by
  intro p e R s m args below meth c H locs cells slots ls hF hR hl hr hS hc hs
  obtain ⟨hx, hb, hml, hown, hts, hret, hlk, hnm, htb, hW, hEx, hok⟩ := id hF
  obtain ⟨h1, rfl⟩ := zdec hok hd 1 (fun _ _ => rfl)
  refine lv_lload_n hx hb h1 rfl (zhas_at hl hL rfl) ?_
  exact k p e R s m args below meth c H locs cells slots ls hF hR hl hr hS hc hs
theorem zz_lload {x : Int} {k0 : Nat} (hd : zT F.2.1 pc = some (.lload k0, q, t)) (hL : L[k0]? = some (zJ x)) (k : Ev Z F q L (zJ x :: st) h mc ms Q) : Ev Z F pc L (st) h mc ms Q := by
  intro p e R s m args below meth c H locs cells slots ls hF hR hl hr hS hc hs
  obtain ⟨hx, hb, hml, hown, hts, hret, hlk, hnm, htb, hW, hEx, hok⟩ := id hF
  obtain ⟨h1, rfl⟩ := zdec hok hd 2 (fun _ _ => rfl)
  refine lv_lload hx hb h1 (zhas_at hl hL rfl) ?_
  exact k p e R s m args below meth c H locs cells slots ls hF hR hl hr hS hc hs
theorem zz_aload_n {x : Nat} {k0 : Fin 4} (hd : zT F.2.1 pc = some (.aload_n k0, q, t)) (hL : L[(k0 : Nat)]? = some (.ref x)) (k : Ev Z F q L (.ref x :: st) h mc ms Q) : Ev Z F pc L (st) h mc ms Q := by
  intro p e R s m args below meth c H locs cells slots ls hF hR hl hr hS hc hs
  obtain ⟨hx, hb, hml, hown, hts, hret, hlk, hnm, htb, hW, hEx, hok⟩ := id hF
  obtain ⟨h1, rfl⟩ := zdec hok hd 1 (fun _ _ => rfl)
  refine lv_aload_n hx hb h1 rfl (zhas_at hl hL rfl) ?_
  exact k p e R s m args below meth c H locs cells slots ls hF hR hl hr hS hc hs
theorem zz_aload {x : Nat} {k0 : Nat} (hd : zT F.2.1 pc = some (.aload k0, q, t)) (hL : L[k0]? = some (.ref x)) (k : Ev Z F q L (.ref x :: st) h mc ms Q) : Ev Z F pc L (st) h mc ms Q := by
  intro p e R s m args below meth c H locs cells slots ls hF hR hl hr hS hc hs
  obtain ⟨hx, hb, hml, hown, hts, hret, hlk, hnm, htb, hW, hEx, hok⟩ := id hF
  obtain ⟨h1, rfl⟩ := zdec hok hd 2 (fun _ _ => rfl)
  refine lv_aload hx hb h1 (zhas_at hl hL rfl) ?_
  exact k p e R s m args below meth c H locs cells slots ls hF hR hl hr hS hc hs
theorem zz_aload_nN {k0 : Fin 4} (hd : zT F.2.1 pc = some (.aload_n k0, q, t)) (hL : L[(k0 : Nat)]? = some .null) (k : Ev Z F q L (.null :: st) h mc ms Q) : Ev Z F pc L (st) h mc ms Q := by
  intro p e R s m args below meth c H locs cells slots ls hF hR hl hr hS hc hs
  obtain ⟨hx, hb, hml, hown, hts, hret, hlk, hnm, htb, hW, hEx, hok⟩ := id hF
  obtain ⟨h1, rfl⟩ := zdec hok hd 1 (fun _ _ => rfl)
  refine lv_aload_nN hx hb h1 rfl (zhas_at hl hL rfl) ?_
  exact k p e R s m args below meth c H locs cells slots ls hF hR hl hr hS hc hs
theorem zz_aloadN {k0 : Nat} (hd : zT F.2.1 pc = some (.aload k0, q, t)) (hL : L[k0]? = some .null) (k : Ev Z F q L (.null :: st) h mc ms Q) : Ev Z F pc L (st) h mc ms Q := by
  intro p e R s m args below meth c H locs cells slots ls hF hR hl hr hS hc hs
  obtain ⟨hx, hb, hml, hown, hts, hret, hlk, hnm, htb, hW, hEx, hok⟩ := id hF
  obtain ⟨h1, rfl⟩ := zdec hok hd 2 (fun _ _ => rfl)
  refine lv_aloadN hx hb h1 (zhas_at hl hL rfl) ?_
  exact k p e R s m args below meth c H locs cells slots ls hF hR hl hr hS hc hs
theorem zz_istore_n {x : Int} {k0 : Fin 4} (hd : zT F.2.1 pc = some (.istore_n k0, q, t)) (hz : zst L (k0 : Nat) = true) (hn : Nat.blt ((k0 : Nat)) (znL F.2.1) = true) (k : Ev Z F q (zsl L (k0 : Nat) (zI x)) st h mc ms Q) : Ev Z F pc L (zI x :: st) h mc ms Q := by
  intro p e R s m args below meth c H locs cells slots ls hF hR hl hr hS hc hs
  obtain ⟨hx, hb, hml, hown, hts, hret, hlk, hnm, htb, hW, hEx, hok⟩ := id hF
  obtain ⟨h1, rfl⟩ := zdec hok hd 1 (fun _ _ => rfl)
  refine lv_istore_n hx hb h1 rfl hl (zblt hn) rfl (fun ls1 hl1 => ?_)
  exact k p e R s m args below meth c H locs cells slots ls1 hF hR (zhas_set hz hl1) hr hS hc hs
theorem zz_istore {x : Int} {k0 : Nat} (hd : zT F.2.1 pc = some (.istore k0, q, t)) (hz : zst L k0 = true) (hn : Nat.blt (k0) (znL F.2.1) = true) (k : Ev Z F q (zsl L k0 (zI x)) st h mc ms Q) : Ev Z F pc L (zI x :: st) h mc ms Q := by
  intro p e R s m args below meth c H locs cells slots ls hF hR hl hr hS hc hs
  obtain ⟨hx, hb, hml, hown, hts, hret, hlk, hnm, htb, hW, hEx, hok⟩ := id hF
  obtain ⟨h1, rfl⟩ := zdec hok hd 2 (fun _ _ => rfl)
  refine lv_istore hx hb h1 hl (zblt hn) rfl (fun ls1 hl1 => ?_)
  exact k p e R s m args below meth c H locs cells slots ls1 hF hR (zhas_set hz hl1) hr hS hc hs
theorem zz_lstore_n {x : Int} {k0 : Fin 4} (hd : zT F.2.1 pc = some (.lstore_n k0, q, t)) (hz : zst L (k0 : Nat) = true) (hn : Nat.blt ((k0 : Nat) + 1) (znL F.2.1) = true) (k : Ev Z F q (zsl (zsl L (k0 : Nat) (zJ x)) ((k0 : Nat) + 1) zU) st h mc ms Q) : Ev Z F pc L (zJ x :: st) h mc ms Q := by
  intro p e R s m args below meth c H locs cells slots ls hF hR hl hr hS hc hs
  obtain ⟨hx, hb, hml, hown, hts, hret, hlk, hnm, htb, hW, hEx, hok⟩ := id hF
  obtain ⟨h1, rfl⟩ := zdec hok hd 1 (fun _ _ => rfl)
  refine lv_lstore_n hx hb h1 rfl hl (zblt hn) rfl (fun ls1 hl1 => ?_)
  exact k p e R s m args below meth c H locs cells slots ls1 hF hR (zhas_set2 hz hl1) hr hS hc hs
theorem zz_lstore {x : Int} {k0 : Nat} (hd : zT F.2.1 pc = some (.lstore k0, q, t)) (hz : zst L k0 = true) (hn : Nat.blt (k0 + 1) (znL F.2.1) = true) (k : Ev Z F q (zsl (zsl L k0 (zJ x)) (k0 + 1) zU) st h mc ms Q) : Ev Z F pc L (zJ x :: st) h mc ms Q := by
  intro p e R s m args below meth c H locs cells slots ls hF hR hl hr hS hc hs
  obtain ⟨hx, hb, hml, hown, hts, hret, hlk, hnm, htb, hW, hEx, hok⟩ := id hF
  obtain ⟨h1, rfl⟩ := zdec hok hd 2 (fun _ _ => rfl)
  refine lv_lstore hx hb h1 hl (zblt hn) rfl (fun ls1 hl1 => ?_)
  exact k p e R s m args below meth c H locs cells slots ls1 hF hR (zhas_set2 hz hl1) hr hS hc hs
theorem zz_astore_n {x : Nat} {k0 : Fin 4} (hd : zT F.2.1 pc = some (.astore_n k0, q, t)) (hz : zst L (k0 : Nat) = true) (hn : Nat.blt ((k0 : Nat)) (znL F.2.1) = true) (k : Ev Z F q (zsl L (k0 : Nat) (Value.ref x)) st h mc ms Q) : Ev Z F pc L (Value.ref x :: st) h mc ms Q := by
  intro p e R s m args below meth c H locs cells slots ls hF hR hl hr hS hc hs
  obtain ⟨hx, hb, hml, hown, hts, hret, hlk, hnm, htb, hW, hEx, hok⟩ := id hF
  obtain ⟨h1, rfl⟩ := zdec hok hd 1 (fun _ _ => rfl)
  refine lv_astore_n hx hb h1 rfl hl (zblt hn) rfl (fun ls1 hl1 => ?_)
  exact k p e R s m args below meth c H locs cells slots ls1 hF hR (zhas_set hz hl1) hr hS hc hs
theorem zz_astore {x : Nat} {k0 : Nat} (hd : zT F.2.1 pc = some (.astore k0, q, t)) (hz : zst L k0 = true) (hn : Nat.blt (k0) (znL F.2.1) = true) (k : Ev Z F q (zsl L k0 (Value.ref x)) st h mc ms Q) : Ev Z F pc L (Value.ref x :: st) h mc ms Q := by
  intro p e R s m args below meth c H locs cells slots ls hF hR hl hr hS hc hs
  obtain ⟨hx, hb, hml, hown, hts, hret, hlk, hnm, htb, hW, hEx, hok⟩ := id hF
  obtain ⟨h1, rfl⟩ := zdec hok hd 2 (fun _ _ => rfl)
  refine lv_astore hx hb h1 hl (zblt hn) rfl (fun ls1 hl1 => ?_)
  exact k p e R s m args below meth c H locs cells slots ls1 hF hR (zhas_set hz hl1) hr hS hc hs
theorem zz_astore_nN {k0 : Fin 4} (hd : zT F.2.1 pc = some (.astore_n k0, q, t)) (hz : zst L (k0 : Nat) = true) (hn : Nat.blt ((k0 : Nat)) (znL F.2.1) = true) (k : Ev Z F q (zsl L (k0 : Nat) (Value.null)) st h mc ms Q) : Ev Z F pc L (Value.null :: st) h mc ms Q := by
  intro p e R s m args below meth c H locs cells slots ls hF hR hl hr hS hc hs
  obtain ⟨hx, hb, hml, hown, hts, hret, hlk, hnm, htb, hW, hEx, hok⟩ := id hF
  obtain ⟨h1, rfl⟩ := zdec hok hd 1 (fun _ _ => rfl)
  refine lv_astore_nN hx hb h1 rfl hl (zblt hn) rfl (fun ls1 hl1 => ?_)
  exact k p e R s m args below meth c H locs cells slots ls1 hF hR (zhas_set hz hl1) hr hS hc hs
theorem zz_astoreN {k0 : Nat} (hd : zT F.2.1 pc = some (.astore k0, q, t)) (hz : zst L k0 = true) (hn : Nat.blt (k0) (znL F.2.1) = true) (k : Ev Z F q (zsl L k0 (Value.null)) st h mc ms Q) : Ev Z F pc L (Value.null :: st) h mc ms Q := by
  intro p e R s m args below meth c H locs cells slots ls hF hR hl hr hS hc hs
  obtain ⟨hx, hb, hml, hown, hts, hret, hlk, hnm, htb, hW, hEx, hok⟩ := id hF
  obtain ⟨h1, rfl⟩ := zdec hok hd 2 (fun _ _ => rfl)
  refine lv_astoreN hx hb h1 hl (zblt hn) rfl (fun ls1 hl1 => ?_)
  exact k p e R s m args below meth c H locs cells slots ls1 hF hR (zhas_set hz hl1) hr hS hc hs
theorem zz_iinc {x n : Int} {k0 : Nat} (hd : zT F.2.1 pc = some (.iinc k0 n, q, t)) (hL : L[k0]? = some (zI x)) (hz : zst L k0 = true) (hn : Nat.blt k0 (znL F.2.1) = true) (k : Ev Z F q (zsl L k0 (zI (x + n))) st h mc ms Q) : Ev Z F pc L st h mc ms Q := by
  intro p e R s m args below meth c H locs cells slots ls hF hR hl hr hS hc hs
  obtain ⟨hx, hb, hml, hown, hts, hret, hlk, hnm, htb, hW, hEx, hok⟩ := id hF
  obtain ⟨h1, rfl⟩ := zdec hok hd 3 (fun _ _ => rfl)
  have hl0 : lv_has ls (znL F.2.1) ((k0, zI x) :: zls 0 L) := ⟨hl.1, hl.2.1, fun q9 hq9 => by
    rcases List.mem_cons.mp hq9 with rfl | hq9
    · exact zhas_at hl hL rfl
    · exact hl.2.2 q9 hq9⟩
  refine lv_iinc (k := 0) (lv := (k0, zI x) :: zls 0 L) (v := Int32.ofInt (x + n)) hx hb h1 hl0 rfl (Int32.ofInt_add x n).symm (zblt hn) rfl (fun ls1 hl1 => ?_)
  refine k p e R s m args below meth c H locs cells slots ls1 hF hR (zhas_set hz ?_) hr hS hc hs
  refine lv_mono hl1 (fun q9 hq9 => ?_)
  rcases List.mem_cons.mp hq9 with rfl | hq9
  · exact List.mem_cons_self
  · refine List.mem_cons_of_mem _ ?_
    rw [List.mem_filter] at hq9 ⊢
    exact ⟨List.mem_cons_of_mem _ hq9.1, hq9.2⟩
theorem zz_iadd {x y : Int} (hd : zT F.2.1 pc = some (.iadd, q, t)) (k : Ev Z F q L (zI (x + y) :: st) h mc ms Q) : Ev Z F pc L (zI y :: zI x :: st) h mc ms Q := by
  intro p e R s m args below meth c H locs cells slots ls hF hR hl hr hS hc hs
  obtain ⟨hx, hb, hml, hown, hts, hret, hlk, hnm, htb, hW, hEx, hok⟩ := id hF
  obtain ⟨h1, rfl⟩ := zdec hok hd 1 (fun _ _ => rfl)
  refine lv_iadd hx hb h1 ?_
  rw [← Int32.ofInt_add]
  exact k p e R s m args below meth c H locs cells slots ls hF hR hl hr hS hc hs
theorem zz_isub {x y : Int} (hd : zT F.2.1 pc = some (.isub, q, t)) (k : Ev Z F q L (zI (x - y) :: st) h mc ms Q) : Ev Z F pc L (zI y :: zI x :: st) h mc ms Q := by
  intro p e R s m args below meth c H locs cells slots ls hF hR hl hr hS hc hs
  obtain ⟨hx, hb, hml, hown, hts, hret, hlk, hnm, htb, hW, hEx, hok⟩ := id hF
  obtain ⟨h1, rfl⟩ := zdec hok hd 1 (fun _ _ => rfl)
  refine lv_isub hx hb h1 ?_
  rw [← Int32.ofInt_sub]
  exact k p e R s m args below meth c H locs cells slots ls hF hR hl hr hS hc hs
theorem zz_imul {x y : Int} (hd : zT F.2.1 pc = some (.imul, q, t)) (k : Ev Z F q L (zI (x * y) :: st) h mc ms Q) : Ev Z F pc L (zI y :: zI x :: st) h mc ms Q := by
  intro p e R s m args below meth c H locs cells slots ls hF hR hl hr hS hc hs
  obtain ⟨hx, hb, hml, hown, hts, hret, hlk, hnm, htb, hW, hEx, hok⟩ := id hF
  obtain ⟨h1, rfl⟩ := zdec hok hd 1 (fun _ _ => rfl)
  refine lv_imul hx hb h1 ?_
  rw [← Int32.ofInt_mul]
  exact k p e R s m args below meth c H locs cells slots ls hF hR hl hr hS hc hs
theorem zz_ladd {x y : Int} (hd : zT F.2.1 pc = some (.ladd, q, t)) (k : Ev Z F q L (zJ (x + y) :: st) h mc ms Q) : Ev Z F pc L (zJ y :: zJ x :: st) h mc ms Q := by
  intro p e R s m args below meth c H locs cells slots ls hF hR hl hr hS hc hs
  obtain ⟨hx, hb, hml, hown, hts, hret, hlk, hnm, htb, hW, hEx, hok⟩ := id hF
  obtain ⟨h1, rfl⟩ := zdec hok hd 1 (fun _ _ => rfl)
  refine lv_ladd hx hb h1 ?_
  rw [← Int64.ofInt_add]
  exact k p e R s m args below meth c H locs cells slots ls hF hR hl hr hS hc hs
theorem zz_lsub {x y : Int} (hd : zT F.2.1 pc = some (.lsub, q, t)) (k : Ev Z F q L (zJ (x - y) :: st) h mc ms Q) : Ev Z F pc L (zJ y :: zJ x :: st) h mc ms Q := by
  intro p e R s m args below meth c H locs cells slots ls hF hR hl hr hS hc hs
  obtain ⟨hx, hb, hml, hown, hts, hret, hlk, hnm, htb, hW, hEx, hok⟩ := id hF
  obtain ⟨h1, rfl⟩ := zdec hok hd 1 (fun _ _ => rfl)
  refine lv_lsub hx hb h1 ?_
  rw [← Int64.ofInt_sub]
  exact k p e R s m args below meth c H locs cells slots ls hF hR hl hr hS hc hs
theorem zz_lmul {x y : Int} (hd : zT F.2.1 pc = some (.lmul, q, t)) (k : Ev Z F q L (zJ (x * y) :: st) h mc ms Q) : Ev Z F pc L (zJ y :: zJ x :: st) h mc ms Q := by
  intro p e R s m args below meth c H locs cells slots ls hF hR hl hr hS hc hs
  obtain ⟨hx, hb, hml, hown, hts, hret, hlk, hnm, htb, hW, hEx, hok⟩ := id hF
  obtain ⟨h1, rfl⟩ := zdec hok hd 1 (fun _ _ => rfl)
  refine lv_lmul hx hb h1 ?_
  rw [← Int64.ofInt_mul]
  exact k p e R s m args below meth c H locs cells slots ls hF hR hl hr hS hc hs
theorem zz_ineg {x : Int} (hd : zT F.2.1 pc = some (.ineg, q, t)) (k : Ev Z F q L (zI (-x) :: st) h mc ms Q) : Ev Z F pc L (zI x :: st) h mc ms Q := by
  intro p e R s m args below meth c H locs cells slots ls hF hR hl hr hS hc hs
  obtain ⟨hx, hb, hml, hown, hts, hret, hlk, hnm, htb, hW, hEx, hok⟩ := id hF
  obtain ⟨h1, rfl⟩ := zdec hok hd 1 (fun _ _ => rfl)
  refine lv_ineg hx hb h1 ?_
  rw [← Int32.ofInt_neg]
  exact k p e R s m args below meth c H locs cells slots ls hF hR hl hr hS hc hs
theorem zz_idiv {x y : Int} (hd : zT F.2.1 pc = some (.idiv, q, t)) (hx : -2147483648 ≤ x ∧ x < 2147483648) (hy : -2147483648 ≤ y ∧ y < 2147483648) (h0 : y ≠ 0) (k : Ev Z F q L (zI (x.tdiv y) :: st) h mc ms Q) : Ev Z F pc L (zI y :: zI x :: st) h mc ms Q := by
  intro p e R s m args below meth c H locs cells slots ls hF hR hl hr hS hc hs
  obtain ⟨hx0, hb, hml, hown, hts, hret, hlk, hnm, htb, hW, hEx, hok⟩ := id hF
  obtain ⟨h1, rfl⟩ := zdec hok hd 1 (fun _ _ => rfl)
  refine lv_idiv hx0 hb h1 (zq_ne0 hy h0) ?_
  rw [zq_div hx hy]
  exact k p e R s m args below meth c H locs cells slots ls hF hR hl hr hS hc hs
theorem zz_irem {x y : Int} (hd : zT F.2.1 pc = some (.irem, q, t)) (hx : -2147483648 ≤ x ∧ x < 2147483648) (hy : -2147483648 ≤ y ∧ y < 2147483648) (h0 : y ≠ 0) (k : Ev Z F q L (zI (x.tmod y) :: st) h mc ms Q) : Ev Z F pc L (zI y :: zI x :: st) h mc ms Q := by
  intro p e R s m args below meth c H locs cells slots ls hF hR hl hr hS hc hs
  obtain ⟨hx0, hb, hml, hown, hts, hret, hlk, hnm, htb, hW, hEx, hok⟩ := id hF
  obtain ⟨h1, rfl⟩ := zdec hok hd 1 (fun _ _ => rfl)
  refine lv_irem hx0 hb h1 (zq_ne0 hy h0) ?_
  rw [zq_mod hx hy]
  exact k p e R s m args below meth c H locs cells slots ls hF hR hl hr hS hc hs
theorem zz_idivP {x y : Int} (hd : zT F.2.1 pc = some (.idiv, q, t)) (hx : 0 ≤ x ∧ x < 2147483648) (hy : 0 < y ∧ y < 2147483648) (k : Ev Z F q L (zI (x / y) :: st) h mc ms Q) : Ev Z F pc L (zI y :: zI x :: st) h mc ms Q := by
  intro p e R s m args below meth c H locs cells slots ls hF hR hl hr hS hc hs
  obtain ⟨hx0, hb, hml, hown, hts, hret, hlk, hnm, htb, hW, hEx, hok⟩ := id hF
  obtain ⟨h1, rfl⟩ := zdec hok hd 1 (fun _ _ => rfl)
  refine lv_idiv hx0 hb h1 (zq_ne0 ⟨by omega, by omega⟩ (by omega)) ?_
  rw [zq_div ⟨by omega, by omega⟩ ⟨by omega, by omega⟩, Int.tdiv_eq_ediv_of_nonneg hx.1]
  exact k p e R s m args below meth c H locs cells slots ls hF hR hl hr hS hc hs
theorem zz_iremP {x y : Int} (hd : zT F.2.1 pc = some (.irem, q, t)) (hx : 0 ≤ x ∧ x < 2147483648) (hy : 0 < y ∧ y < 2147483648) (k : Ev Z F q L (zI (x % y) :: st) h mc ms Q) : Ev Z F pc L (zI y :: zI x :: st) h mc ms Q := by
  intro p e R s m args below meth c H locs cells slots ls hF hR hl hr hS hc hs
  obtain ⟨hx0, hb, hml, hown, hts, hret, hlk, hnm, htb, hW, hEx, hok⟩ := id hF
  obtain ⟨h1, rfl⟩ := zdec hok hd 1 (fun _ _ => rfl)
  refine lv_irem hx0 hb h1 (zq_ne0 ⟨by omega, by omega⟩ (by omega)) ?_
  rw [zq_mod ⟨by omega, by omega⟩ ⟨by omega, by omega⟩, Int.tmod_eq_emod_of_nonneg hx.1]
  exact k p e R s m args below meth c H locs cells slots ls hF hR hl hr hS hc hs
theorem zz_ishl {x y : Int} (hd : zT F.2.1 pc = some (.ishl, q, t)) (hy : 0 ≤ y ∧ y < 32) (k : Ev Z F q L (zI (x * 2 ^ y.toNat) :: st) h mc ms Q) : Ev Z F pc L (zI y :: zI x :: st) h mc ms Q := by
  intro p e R s m args below meth c H locs cells slots ls hF hR hl hr hS hc hs
  obtain ⟨hx, hb, hml, hown, hts, hret, hlk, hnm, htb, hW, hEx, hok⟩ := id hF
  obtain ⟨h1, rfl⟩ := zdec hok hd 1 (fun _ _ => rfl)
  refine lv_ishl hx hb h1 ?_
  rw [zq_shl hy]
  exact k p e R s m args below meth c H locs cells slots ls hF hR hl hr hS hc hs
theorem zz_ishr {x y : Int} (hd : zT F.2.1 pc = some (.ishr, q, t)) (hx : -2147483648 ≤ x ∧ x < 2147483648) (hy : 0 ≤ y ∧ y < 32) (k : Ev Z F q L (zI (x / 2 ^ y.toNat) :: st) h mc ms Q) : Ev Z F pc L (zI y :: zI x :: st) h mc ms Q := by
  intro p e R s m args below meth c H locs cells slots ls hF hR hl hr hS hc hs
  obtain ⟨hx0, hb, hml, hown, hts, hret, hlk, hnm, htb, hW, hEx, hok⟩ := id hF
  obtain ⟨h1, rfl⟩ := zdec hok hd 1 (fun _ _ => rfl)
  refine lv_ishr hx0 hb h1 ?_
  rw [zq_shr hx hy]
  exact k p e R s m args below meth c H locs cells slots ls hF hR hl hr hS hc hs
theorem zz_iushr {x y : Int} (hd : zT F.2.1 pc = some (.iushr, q, t)) (hy : 0 ≤ y ∧ y < 32) (k : Ev Z F q L (zI ((x % 4294967296) / 2 ^ y.toNat) :: st) h mc ms Q) : Ev Z F pc L (zI y :: zI x :: st) h mc ms Q := by
  intro p e R s m args below meth c H locs cells slots ls hF hR hl hr hS hc hs
  obtain ⟨hx, hb, hml, hown, hts, hret, hlk, hnm, htb, hW, hEx, hok⟩ := id hF
  obtain ⟨h1, rfl⟩ := zdec hok hd 1 (fun _ _ => rfl)
  refine lv_iushr hx hb h1 (zq_ushr hy) ?_
  exact k p e R s m args below meth c H locs cells slots ls hF hR hl hr hS hc hs
theorem zz_iand {x y v : Int} (hd : zT F.2.1 pc = some (.iand, q, t)) (hv : Int32.ofInt x &&& Int32.ofInt y = Int32.ofInt v) (k : Ev Z F q L (zI v :: st) h mc ms Q) : Ev Z F pc L (zI y :: zI x :: st) h mc ms Q := by
  intro p e R s m args below meth c H locs cells slots ls hF hR hl hr hS hc hs
  obtain ⟨hx, hb, hml, hown, hts, hret, hlk, hnm, htb, hW, hEx, hok⟩ := id hF
  obtain ⟨h1, rfl⟩ := zdec hok hd 1 (fun _ _ => rfl)
  refine lv_iand hx hb h1 ?_
  rw [hv]
  exact k p e R s m args below meth c H locs cells slots ls hF hR hl hr hS hc hs
theorem zz_ior {x y v : Int} (hd : zT F.2.1 pc = some (.ior, q, t)) (hv : Int32.ofInt x ||| Int32.ofInt y = Int32.ofInt v) (k : Ev Z F q L (zI v :: st) h mc ms Q) : Ev Z F pc L (zI y :: zI x :: st) h mc ms Q := by
  intro p e R s m args below meth c H locs cells slots ls hF hR hl hr hS hc hs
  obtain ⟨hx, hb, hml, hown, hts, hret, hlk, hnm, htb, hW, hEx, hok⟩ := id hF
  obtain ⟨h1, rfl⟩ := zdec hok hd 1 (fun _ _ => rfl)
  refine lv_ior hx hb h1 ?_
  rw [hv]
  exact k p e R s m args below meth c H locs cells slots ls hF hR hl hr hS hc hs
theorem zz_ixor {x y v : Int} (hd : zT F.2.1 pc = some (.ixor, q, t)) (hv : Int32.ofInt x ^^^ Int32.ofInt y = Int32.ofInt v) (k : Ev Z F q L (zI v :: st) h mc ms Q) : Ev Z F pc L (zI y :: zI x :: st) h mc ms Q := by
  intro p e R s m args below meth c H locs cells slots ls hF hR hl hr hS hc hs
  obtain ⟨hx, hb, hml, hown, hts, hret, hlk, hnm, htb, hW, hEx, hok⟩ := id hF
  obtain ⟨h1, rfl⟩ := zdec hok hd 1 (fun _ _ => rfl)
  refine lv_ixor hx hb h1 ?_
  rw [hv]
  exact k p e R s m args below meth c H locs cells slots ls hF hR hl hr hS hc hs
theorem zz_i2s {x : Int} (hd : zT F.2.1 pc = some (.i2s, q, t)) (k : Ev Z F q L (zI (x.bmod 65536) :: st) h mc ms Q) : Ev Z F pc L (zI x :: st) h mc ms Q := by
  intro p e R s m args below meth c H locs cells slots ls hF hR hl hr hS hc hs
  obtain ⟨hx, hb, hml, hown, hts, hret, hlk, hnm, htb, hW, hEx, hok⟩ := id hF
  obtain ⟨h1, rfl⟩ := zdec hok hd 1 (fun _ _ => rfl)
  refine lv_i2s hx hb h1 (zq_i2s x) ?_
  exact k p e R s m args below meth c H locs cells slots ls hF hR hl hr hS hc hs
theorem zz_i2l {x : Int} (hd : zT F.2.1 pc = some (.i2l, q, t)) (hx : -2147483648 ≤ x ∧ x < 2147483648) (k : Ev Z F q L (zJ x :: st) h mc ms Q) : Ev Z F pc L (zI x :: st) h mc ms Q := by
  intro p e R s m args below meth c H locs cells slots ls hF hR hl hr hS hc hs
  obtain ⟨hx0, hb, hml, hown, hts, hret, hlk, hnm, htb, hW, hEx, hok⟩ := id hF
  obtain ⟨h1, rfl⟩ := zdec hok hd 1 (fun _ _ => rfl)
  refine lv_i2l hx0 hb h1 (zq_i2l hx) ?_
  exact k p e R s m args below meth c H locs cells slots ls hF hR hl hr hS hc hs
theorem zz_lcmp {x y : Int} (hd : zT F.2.1 pc = some (.lcmp, q, t)) (hx : -9223372036854775808 ≤ x ∧ x < 9223372036854775808) (hy : -9223372036854775808 ≤ y ∧ y < 9223372036854775808) (k : Ev Z F q L (zI (if y < x then 1 else if x = y then 0 else -1) :: st) h mc ms Q) : Ev Z F pc L (zJ y :: zJ x :: st) h mc ms Q := by
  intro p e R s m args below meth c H locs cells slots ls hF hR hl hr hS hc hs
  obtain ⟨hx0, hb, hml, hown, hts, hret, hlk, hnm, htb, hW, hEx, hok⟩ := id hF
  obtain ⟨h1, rfl⟩ := zdec hok hd 1 (fun _ _ => rfl)
  refine W.lcmp hx0 hb h1 ?_
  rw [zq_lcmp hx hy]
  exact k p e R s m args below meth c H locs cells slots ls hF hR hl hr hS hc hs
theorem zz_dup {v : Value} (hd : zT F.2.1 pc = some (.dup, q, t)) (hv : v.category = 1) (k : Ev Z F q L (v :: v :: st) h mc ms Q) : Ev Z F pc L (v :: st) h mc ms Q := by
  intro p e R s m args below meth c H locs cells slots ls hF hR hl hr hS hc hs
  obtain ⟨hx, hb, hml, hown, hts, hret, hlk, hnm, htb, hW, hEx, hok⟩ := id hF
  obtain ⟨h1, rfl⟩ := zdec hok hd 1 (fun _ _ => rfl)
  refine lv_dup hx hb h1 hv ?_
  exact k p e R s m args below meth c H locs cells slots ls hF hR hl hr hS hc hs
theorem zz_pop {v : Value} (hd : zT F.2.1 pc = some (.pop, q, t)) (hv : v.category = 1) (k : Ev Z F q L (st) h mc ms Q) : Ev Z F pc L (v :: st) h mc ms Q := by
  intro p e R s m args below meth c H locs cells slots ls hF hR hl hr hS hc hs
  obtain ⟨hx, hb, hml, hown, hts, hret, hlk, hnm, htb, hW, hEx, hok⟩ := id hF
  obtain ⟨h1, rfl⟩ := zdec hok hd 1 (fun _ _ => rfl)
  refine lv_pop hx hb h1 hv ?_
  exact k p e R s m args below meth c H locs cells slots ls hF hR hl hr hS hc hs
theorem zz_dup2 {v u : Value} (hd : zT F.2.1 pc = some (.dup2, q, t)) (hv : v.category = 1) (hu : u.category = 1) (k : Ev Z F q L (v :: u :: v :: u :: st) h mc ms Q) : Ev Z F pc L (v :: u :: st) h mc ms Q := by
  intro p e R s m args below meth c H locs cells slots ls hF hR hl hr hS hc hs
  obtain ⟨hx, hb, hml, hown, hts, hret, hlk, hnm, htb, hW, hEx, hok⟩ := id hF
  obtain ⟨h1, rfl⟩ := zdec hok hd 1 (fun _ _ => rfl)
  refine lv_dup2_11 hx hb h1 hv hu ?_
  exact k p e R s m args below meth c H locs cells slots ls hF hR hl hr hS hc hs
theorem zz_dup2L {v : Value} (hd : zT F.2.1 pc = some (.dup2, q, t)) (hv : v.category = 2) (k : Ev Z F q L (v :: v :: st) h mc ms Q) : Ev Z F pc L (v :: st) h mc ms Q := by
  intro p e R s m args below meth c H locs cells slots ls hF hR hl hr hS hc hs
  obtain ⟨hx, hb, hml, hown, hts, hret, hlk, hnm, htb, hW, hEx, hok⟩ := id hF
  obtain ⟨h1, rfl⟩ := zdec hok hd 1 (fun _ _ => rfl)
  refine lv_dup2_2 hx hb h1 hv ?_
  exact k p e R s m args below meth c H locs cells slots ls hF hR hl hr hS hc hs
theorem zz_dup_x1 {v u : Value} (hd : zT F.2.1 pc = some (.dup_x1, q, t)) (hv : v.category = 1) (hu : u.category = 1) (k : Ev Z F q L (v :: u :: v :: st) h mc ms Q) : Ev Z F pc L (v :: u :: st) h mc ms Q := by
  intro p e R s m args below meth c H locs cells slots ls hF hR hl hr hS hc hs
  obtain ⟨hx, hb, hml, hown, hts, hret, hlk, hnm, htb, hW, hEx, hok⟩ := id hF
  obtain ⟨h1, rfl⟩ := zdec hok hd 1 (fun _ _ => rfl)
  refine lv_dup_x1 hx hb h1 hv hu ?_
  exact k p e R s m args below meth c H locs cells slots ls hF hR hl hr hS hc hs
theorem zz_dup_x2 {v u z : Value} (hd : zT F.2.1 pc = some (.dup_x2, q, t)) (hv : v.category = 1) (hu : u.category = 1) (hz : z.category = 1) (k : Ev Z F q L (v :: u :: z :: v :: st) h mc ms Q) : Ev Z F pc L (v :: u :: z :: st) h mc ms Q := by
  intro p e R s m args below meth c H locs cells slots ls hF hR hl hr hS hc hs
  obtain ⟨hx, hb, hml, hown, hts, hret, hlk, hnm, htb, hW, hEx, hok⟩ := id hF
  obtain ⟨h1, rfl⟩ := zdec hok hd 1 (fun _ _ => rfl)
  refine lv_dup_x2 hx hb h1 hv hu hz ?_
  exact k p e R s m args below meth c H locs cells slots ls hF hR hl hr hS hc hs
theorem zz_icmp_eq {x y off : Int} (hd : zT F.2.1 pc = some (.if_icmp .eq off, q, t)) (hx : -2147483648 ≤ x ∧ x < 2147483648) (hy : -2147483648 ≤ y ∧ y < 2147483648) (kt : x = y → Ev Z F t L st h mc ms Q) (kf : ¬ (x = y) → Ev Z F q L st h mc ms Q) : Ev Z F pc L (zI y :: zI x :: st) h mc ms Q := by
  intro p e R s m args below meth c H locs cells slots ls hF hR hl hr hS hc hs
  obtain ⟨hx0, hb, hml, hown, hts, hret, hlk, hnm, htb, hW, hEx, hok⟩ := id hF
  obtain ⟨h1, h2, rfl⟩ := zdecJ hok hd off (fun _ _ => rfl)
  refine lv_icmp_eq hx0 hb h1 h2 (fun hc9 => ?_) (fun hc9 => ?_)
  · exact kt ((zq_eq hx hy).mp hc9) p e R s m args below meth c H locs cells slots ls hF hR hl hr hS hc hs
  · exact kf (fun hn9 => hc9 ((zq_eq hx hy).mpr hn9)) p e R s m args below meth c H locs cells slots ls hF hR hl hr hS hc hs
theorem zz_if_eq {x off : Int} (hd : zT F.2.1 pc = some (.ifCond .eq off, q, t)) (hx : -2147483648 ≤ x ∧ x < 2147483648) (kt : x = 0 → Ev Z F t L st h mc ms Q) (kf : ¬ (x = 0) → Ev Z F q L st h mc ms Q) : Ev Z F pc L (zI x :: st) h mc ms Q := by
  intro p e R s m args below meth c H locs cells slots ls hF hR hl hr hS hc hs
  obtain ⟨hx0, hb, hml, hown, hts, hret, hlk, hnm, htb, hW, hEx, hok⟩ := id hF
  obtain ⟨h1, h2, rfl⟩ := zdecJ hok hd off (fun _ _ => rfl)
  refine lv_if_eq hx0 hb h1 h2 (fun hc9 => ?_) (fun hc9 => ?_)
  · exact kt ((zq_eq (y := 0) hx (by decide)).mp hc9) p e R s m args below meth c H locs cells slots ls hF hR hl hr hS hc hs
  · exact kf (fun hn9 => hc9 ((zq_eq (y := 0) hx (by decide)).mpr hn9)) p e R s m args below meth c H locs cells slots ls hF hR hl hr hS hc hs
theorem zz_icmp_ne {x y off : Int} (hd : zT F.2.1 pc = some (.if_icmp .ne off, q, t)) (hx : -2147483648 ≤ x ∧ x < 2147483648) (hy : -2147483648 ≤ y ∧ y < 2147483648) (kt : x ≠ y → Ev Z F t L st h mc ms Q) (kf : x = y → Ev Z F q L st h mc ms Q) : Ev Z F pc L (zI y :: zI x :: st) h mc ms Q := by
  intro p e R s m args below meth c H locs cells slots ls hF hR hl hr hS hc hs
  obtain ⟨hx0, hb, hml, hown, hts, hret, hlk, hnm, htb, hW, hEx, hok⟩ := id hF
  obtain ⟨h1, h2, rfl⟩ := zdecJ hok hd off (fun _ _ => rfl)
  refine lv_icmp_ne hx0 hb h1 h2 (fun hc9 => ?_) (fun hc9 => ?_)
  · exact kt ((zq_ne hx hy).mp hc9) p e R s m args below meth c H locs cells slots ls hF hR hl hr hS hc hs
  · exact kf ((zq_eq hx hy).mp hc9) p e R s m args below meth c H locs cells slots ls hF hR hl hr hS hc hs
theorem zz_if_ne {x off : Int} (hd : zT F.2.1 pc = some (.ifCond .ne off, q, t)) (hx : -2147483648 ≤ x ∧ x < 2147483648) (kt : x ≠ 0 → Ev Z F t L st h mc ms Q) (kf : x = 0 → Ev Z F q L st h mc ms Q) : Ev Z F pc L (zI x :: st) h mc ms Q := by
  intro p e R s m args below meth c H locs cells slots ls hF hR hl hr hS hc hs
  obtain ⟨hx0, hb, hml, hown, hts, hret, hlk, hnm, htb, hW, hEx, hok⟩ := id hF
  obtain ⟨h1, h2, rfl⟩ := zdecJ hok hd off (fun _ _ => rfl)
  refine lv_if_ne hx0 hb h1 h2 (fun hc9 => ?_) (fun hc9 => ?_)
  · exact kt ((zq_ne (y := 0) hx (by decide)).mp hc9) p e R s m args below meth c H locs cells slots ls hF hR hl hr hS hc hs
  · exact kf ((zq_eq (y := 0) hx (by decide)).mp hc9) p e R s m args below meth c H locs cells slots ls hF hR hl hr hS hc hs
theorem zz_icmp_lt {x y off : Int} (hd : zT F.2.1 pc = some (.if_icmp .lt off, q, t)) (hx : -2147483648 ≤ x ∧ x < 2147483648) (hy : -2147483648 ≤ y ∧ y < 2147483648) (kt : x < y → Ev Z F t L st h mc ms Q) (kf : ¬ (x < y) → Ev Z F q L st h mc ms Q) : Ev Z F pc L (zI y :: zI x :: st) h mc ms Q := by
  intro p e R s m args below meth c H locs cells slots ls hF hR hl hr hS hc hs
  obtain ⟨hx0, hb, hml, hown, hts, hret, hlk, hnm, htb, hW, hEx, hok⟩ := id hF
  obtain ⟨h1, h2, rfl⟩ := zdecJ hok hd off (fun _ _ => rfl)
  refine lv_icmp_lt hx0 hb h1 h2 (fun hc9 => ?_) (fun hc9 => ?_)
  · exact kt ((zq_lt hx hy).mp hc9) p e R s m args below meth c H locs cells slots ls hF hR hl hr hS hc hs
  · exact kf (fun hn9 => hc9 ((zq_lt hx hy).mpr hn9)) p e R s m args below meth c H locs cells slots ls hF hR hl hr hS hc hs
theorem zz_if_lt {x off : Int} (hd : zT F.2.1 pc = some (.ifCond .lt off, q, t)) (hx : -2147483648 ≤ x ∧ x < 2147483648) (kt : x < 0 → Ev Z F t L st h mc ms Q) (kf : ¬ (x < 0) → Ev Z F q L st h mc ms Q) : Ev Z F pc L (zI x :: st) h mc ms Q := by
  intro p e R s m args below meth c H locs cells slots ls hF hR hl hr hS hc hs
  obtain ⟨hx0, hb, hml, hown, hts, hret, hlk, hnm, htb, hW, hEx, hok⟩ := id hF
  obtain ⟨h1, h2, rfl⟩ := zdecJ hok hd off (fun _ _ => rfl)
  refine lv_if_lt hx0 hb h1 h2 (fun hc9 => ?_) (fun hc9 => ?_)
  · exact kt ((zq_lt (y := 0) hx (by decide)).mp hc9) p e R s m args below meth c H locs cells slots ls hF hR hl hr hS hc hs
  · exact kf (fun hn9 => hc9 ((zq_lt (y := 0) hx (by decide)).mpr hn9)) p e R s m args below meth c H locs cells slots ls hF hR hl hr hS hc hs
theorem zz_icmp_ge {x y off : Int} (hd : zT F.2.1 pc = some (.if_icmp .ge off, q, t)) (hx : -2147483648 ≤ x ∧ x < 2147483648) (hy : -2147483648 ≤ y ∧ y < 2147483648) (kt : y ≤ x → Ev Z F t L st h mc ms Q) (kf : ¬ (y ≤ x) → Ev Z F q L st h mc ms Q) : Ev Z F pc L (zI y :: zI x :: st) h mc ms Q := by
  intro p e R s m args below meth c H locs cells slots ls hF hR hl hr hS hc hs
  obtain ⟨hx0, hb, hml, hown, hts, hret, hlk, hnm, htb, hW, hEx, hok⟩ := id hF
  obtain ⟨h1, h2, rfl⟩ := zdecJ hok hd off (fun _ _ => rfl)
  refine lv_icmp_ge hx0 hb h1 h2 (fun hc9 => ?_) (fun hc9 => ?_)
  · exact kt ((zq_ge hx hy).mp hc9) p e R s m args below meth c H locs cells slots ls hF hR hl hr hS hc hs
  · exact kf (fun hn9 => hc9 ((zq_ge hx hy).mpr hn9)) p e R s m args below meth c H locs cells slots ls hF hR hl hr hS hc hs
theorem zz_if_ge {x off : Int} (hd : zT F.2.1 pc = some (.ifCond .ge off, q, t)) (hx : -2147483648 ≤ x ∧ x < 2147483648) (kt : 0 ≤ x → Ev Z F t L st h mc ms Q) (kf : ¬ (0 ≤ x) → Ev Z F q L st h mc ms Q) : Ev Z F pc L (zI x :: st) h mc ms Q := by
  intro p e R s m args below meth c H locs cells slots ls hF hR hl hr hS hc hs
  obtain ⟨hx0, hb, hml, hown, hts, hret, hlk, hnm, htb, hW, hEx, hok⟩ := id hF
  obtain ⟨h1, h2, rfl⟩ := zdecJ hok hd off (fun _ _ => rfl)
  refine lv_if_ge hx0 hb h1 h2 (fun hc9 => ?_) (fun hc9 => ?_)
  · exact kt ((zq_ge (y := 0) hx (by decide)).mp hc9) p e R s m args below meth c H locs cells slots ls hF hR hl hr hS hc hs
  · exact kf (fun hn9 => hc9 ((zq_ge (y := 0) hx (by decide)).mpr hn9)) p e R s m args below meth c H locs cells slots ls hF hR hl hr hS hc hs
theorem zz_icmp_gt {x y off : Int} (hd : zT F.2.1 pc = some (.if_icmp .gt off, q, t)) (hx : -2147483648 ≤ x ∧ x < 2147483648) (hy : -2147483648 ≤ y ∧ y < 2147483648) (kt : y < x → Ev Z F t L st h mc ms Q) (kf : ¬ (y < x) → Ev Z F q L st h mc ms Q) : Ev Z F pc L (zI y :: zI x :: st) h mc ms Q := by
  intro p e R s m args below meth c H locs cells slots ls hF hR hl hr hS hc hs
  obtain ⟨hx0, hb, hml, hown, hts, hret, hlk, hnm, htb, hW, hEx, hok⟩ := id hF
  obtain ⟨h1, h2, rfl⟩ := zdecJ hok hd off (fun _ _ => rfl)
  refine lv_icmp_gt hx0 hb h1 h2 (fun hc9 => ?_) (fun hc9 => ?_)
  · exact kt ((zq_gt hx hy).mp hc9) p e R s m args below meth c H locs cells slots ls hF hR hl hr hS hc hs
  · exact kf (fun hn9 => hc9 ((zq_gt hx hy).mpr hn9)) p e R s m args below meth c H locs cells slots ls hF hR hl hr hS hc hs
theorem zz_if_gt {x off : Int} (hd : zT F.2.1 pc = some (.ifCond .gt off, q, t)) (hx : -2147483648 ≤ x ∧ x < 2147483648) (kt : 0 < x → Ev Z F t L st h mc ms Q) (kf : ¬ (0 < x) → Ev Z F q L st h mc ms Q) : Ev Z F pc L (zI x :: st) h mc ms Q := by
  intro p e R s m args below meth c H locs cells slots ls hF hR hl hr hS hc hs
  obtain ⟨hx0, hb, hml, hown, hts, hret, hlk, hnm, htb, hW, hEx, hok⟩ := id hF
  obtain ⟨h1, h2, rfl⟩ := zdecJ hok hd off (fun _ _ => rfl)
  refine lv_if_gt hx0 hb h1 h2 (fun hc9 => ?_) (fun hc9 => ?_)
  · exact kt ((zq_gt (y := 0) hx (by decide)).mp hc9) p e R s m args below meth c H locs cells slots ls hF hR hl hr hS hc hs
  · exact kf (fun hn9 => hc9 ((zq_gt (y := 0) hx (by decide)).mpr hn9)) p e R s m args below meth c H locs cells slots ls hF hR hl hr hS hc hs
theorem zz_icmp_le {x y off : Int} (hd : zT F.2.1 pc = some (.if_icmp .le off, q, t)) (hx : -2147483648 ≤ x ∧ x < 2147483648) (hy : -2147483648 ≤ y ∧ y < 2147483648) (kt : x ≤ y → Ev Z F t L st h mc ms Q) (kf : ¬ (x ≤ y) → Ev Z F q L st h mc ms Q) : Ev Z F pc L (zI y :: zI x :: st) h mc ms Q := by
  intro p e R s m args below meth c H locs cells slots ls hF hR hl hr hS hc hs
  obtain ⟨hx0, hb, hml, hown, hts, hret, hlk, hnm, htb, hW, hEx, hok⟩ := id hF
  obtain ⟨h1, h2, rfl⟩ := zdecJ hok hd off (fun _ _ => rfl)
  refine lv_icmp_le hx0 hb h1 h2 (fun hc9 => ?_) (fun hc9 => ?_)
  · exact kt ((zq_le hx hy).mp hc9) p e R s m args below meth c H locs cells slots ls hF hR hl hr hS hc hs
  · exact kf (fun hn9 => hc9 ((zq_le hx hy).mpr hn9)) p e R s m args below meth c H locs cells slots ls hF hR hl hr hS hc hs
theorem zz_if_le {x off : Int} (hd : zT F.2.1 pc = some (.ifCond .le off, q, t)) (hx : -2147483648 ≤ x ∧ x < 2147483648) (kt : x ≤ 0 → Ev Z F t L st h mc ms Q) (kf : ¬ (x ≤ 0) → Ev Z F q L st h mc ms Q) : Ev Z F pc L (zI x :: st) h mc ms Q := by
  intro p e R s m args below meth c H locs cells slots ls hF hR hl hr hS hc hs
  obtain ⟨hx0, hb, hml, hown, hts, hret, hlk, hnm, htb, hW, hEx, hok⟩ := id hF
  obtain ⟨h1, h2, rfl⟩ := zdecJ hok hd off (fun _ _ => rfl)
  refine lv_if_le hx0 hb h1 h2 (fun hc9 => ?_) (fun hc9 => ?_)
  · exact kt ((zq_le (y := 0) hx (by decide)).mp hc9) p e R s m args below meth c H locs cells slots ls hF hR hl hr hS hc hs
  · exact kf (fun hn9 => hc9 ((zq_le (y := 0) hx (by decide)).mpr hn9)) p e R s m args below meth c H locs cells slots ls hF hR hl hr hS hc hs
/-- a truth value on the stack -/
abbrev zb (P : Prop) [Decidable P] : Int := if P then 1 else 0
theorem zb_rg (P : Prop) [Decidable P] : -2147483648 ≤ zb P ∧ zb P < 2147483648 := by
  unfold zb; split <;> decide
theorem zz_ifB_eq {P : Prop} [Decidable P] {off : Int} (hd : zT F.2.1 pc = some (.ifCond .eq off, q, t)) (kt : ¬ P → Ev Z F t L st h mc ms Q) (kf : P → Ev Z F q L st h mc ms Q) : Ev Z F pc L (zI (zb P) :: st) h mc ms Q := by
  refine zz_if_eq hd (zb_rg P) (fun h9 => kt (fun hp => ?_)) (fun h9 => kf ?_)
  · rw [zb, if_pos hp] at h9; cases h9
  · by_cases hp : P
    · exact hp
    · exact absurd (if_neg hp) h9
theorem zz_ifB_ne {P : Prop} [Decidable P] {off : Int} (hd : zT F.2.1 pc = some (.ifCond .ne off, q, t)) (kt : P → Ev Z F t L st h mc ms Q) (kf : ¬ P → Ev Z F q L st h mc ms Q) : Ev Z F pc L (zI (zb P) :: st) h mc ms Q := by
  refine zz_if_ne hd (zb_rg P) (fun h9 => kt ?_) (fun h9 => kf (fun hp => ?_))
  · by_cases hp : P
    · exact hp
    · exact absurd (if_neg hp) h9
  · rw [zb, if_pos hp] at h9; cases h9
theorem zz_goto {off : Int} (hd : zT F.2.1 pc = some (.goto off, q, t)) (k : Ev Z F t L st h mc ms Q) : Ev Z F pc L st h mc ms Q := by
  intro p e R s m args below meth c H locs cells slots ls hF hR hl hr hS hc hs
  obtain ⟨hx, hb, hml, hown, hts, hret, hlk, hnm, htb, hW, hEx, hok⟩ := id hF
  obtain ⟨h1, h2, rfl⟩ := zdecJ hok hd off (fun _ _ => rfl)
  refine lv_goto hx hb h1 h2 ?_
  exact k p e R s m args below meth c H locs cells slots ls hF hR hl hr hS hc hs
theorem zz_ifnull {off : Int} {a : Nat} (hd : zT F.2.1 pc = some (.ifnull off, q, t)) (k : Ev Z F q L st h mc ms Q) : Ev Z F pc L (.ref a :: st) h mc ms Q := by
  intro p e R s m args below meth c H locs cells slots ls hF hR hl hr hS hc hs
  obtain ⟨hx, hb, hml, hown, hts, hret, hlk, hnm, htb, hW, hEx, hok⟩ := id hF
  obtain ⟨h1, h2, rfl⟩ := zdecJ hok hd off (fun _ _ => rfl)
  refine lv_ifnull hx hb h1 ?_
  exact k p e R s m args below meth c H locs cells slots ls hF hR hl hr hS hc hs
theorem zz_ifnullN {off : Int} (hd : zT F.2.1 pc = some (.ifnull off, q, t)) (k : Ev Z F t L st h mc ms Q) : Ev Z F pc L (.null :: st) h mc ms Q := by
  intro p e R s m args below meth c H locs cells slots ls hF hR hl hr hS hc hs
  obtain ⟨hx, hb, hml, hown, hts, hret, hlk, hnm, htb, hW, hEx, hok⟩ := id hF
  obtain ⟨h1, h2, rfl⟩ := zdecJ hok hd off (fun _ _ => rfl)
  refine lv_ifnullN hx hb h1 h2 ?_
  exact k p e R s m args below meth c H locs cells slots ls hF hR hl hr hS hc hs
theorem zz_ifnonnull {off : Int} {a : Nat} (hd : zT F.2.1 pc = some (.ifnonnull off, q, t)) (k : Ev Z F t L st h mc ms Q) : Ev Z F pc L (.ref a :: st) h mc ms Q := by
  intro p e R s m args below meth c H locs cells slots ls hF hR hl hr hS hc hs
  obtain ⟨hx, hb, hml, hown, hts, hret, hlk, hnm, htb, hW, hEx, hok⟩ := id hF
  obtain ⟨h1, h2, rfl⟩ := zdecJ hok hd off (fun _ _ => rfl)
  refine lv_ifnonnull hx hb h1 h2 ?_
  exact k p e R s m args below meth c H locs cells slots ls hF hR hl hr hS hc hs
theorem zz_ifnonnullN {off : Int} (hd : zT F.2.1 pc = some (.ifnonnull off, q, t)) (k : Ev Z F q L st h mc ms Q) : Ev Z F pc L (.null :: st) h mc ms Q := by
  intro p e R s m args below meth c H locs cells slots ls hF hR hl hr hS hc hs
  obtain ⟨hx, hb, hml, hown, hts, hret, hlk, hnm, htb, hW, hEx, hok⟩ := id hF
  obtain ⟨h1, h2, rfl⟩ := zdecJ hok hd off (fun _ _ => rfl)
  refine lv_ifnonnullN hx hb h1 ?_
  exact k p e R s m args below meth c H locs cells slots ls hF hR hl hr hS hc hs
theorem zz_tsw {x dflt lo hi off : Int} {offs : Array Int} {tg : Nat} (hd : zT F.2.1 pc = some (.tableswitch dflt lo hi offs, q, t)) (hx : -2147483648 ≤ x ∧ x < 2147483648) (hlo : lo ≤ x) (hhi : x ≤ hi) (ho : offs[(x - lo).toNat]? = some off) (ht : (pc : Int) + off = (tg : Int)) (k : Ev Z F tg L st h mc ms Q) : Ev Z F pc L (zI x :: st) h mc ms Q := by
  intro p e R s m args below meth c H locs cells slots ls hF hR hl hr hS hc hs
  obtain ⟨hx0, hb, hml, hown, hts, hret, hlk, hnm, htb, hW, hEx, hok⟩ := id hF
  have h1 := (hok pc _ q t hd).1
  have hz : (Int32.ofInt x).toInt = x := zq_toInt hx
  refine lv_tableIn hx0 hb h1 (by rw [hz]; omega) (by rw [hz]; omega) (by rw [hz]; exact ho) ht ?_
  exact k p e R s m args below meth c H locs cells slots ls hF hR hl hr hS hc hs
theorem zz_tswD {x dflt lo hi : Int} {offs : Array Int} {tg : Nat} (hd : zT F.2.1 pc = some (.tableswitch dflt lo hi offs, q, t)) (hx : -2147483648 ≤ x ∧ x < 2147483648) (hout : x < lo ∨ hi < x) (ht : (pc : Int) + dflt = (tg : Int)) (k : Ev Z F tg L st h mc ms Q) : Ev Z F pc L (zI x :: st) h mc ms Q := by
  intro p e R s m args below meth c H locs cells slots ls hF hR hl hr hS hc hs
  obtain ⟨hx0, hb, hml, hown, hts, hret, hlk, hnm, htb, hW, hEx, hok⟩ := id hF
  have h1 := (hok pc _ q t hd).1
  have hz : (Int32.ofInt x).toInt = x := zq_toInt hx
  refine lv_tableOut hx0 hb h1 (by rw [hz]; exact hout) ht ?_
  exact k p e R s m args below meth c H locs cells slots ls hF hR hl hr hS hc hs
theorem zz_lsw {x dflt off : Int} {ps : Array (Int × Int)} {tg : Nat} (hd : zT F.2.1 pc = some (.lookupswitch dflt ps, q, t)) (hx : -2147483648 ≤ x ∧ x < 2147483648) (hp : (ps.toList.zip (ps.toList.drop 1)).all (fun (a, next) => a.1 < next.1) = true) (ho : Op.lookupswitch.offset ps.toList dflt x = off) (ht : (pc : Int) + off = (tg : Int)) (k : Ev Z F tg L st h mc ms Q) : Ev Z F pc L (zI x :: st) h mc ms Q := by
  intro p e R s m args below meth c H locs cells slots ls hF hR hl hr hS hc hs
  obtain ⟨hx0, hb, hml, hown, hts, hret, hlk, hnm, htb, hW, hEx, hok⟩ := id hF
  have h1 := (hok pc _ q t hd).1
  have hz : (Int32.ofInt x).toInt = x := zq_toInt hx
  refine lv_lookup hx0 hb h1 hp (by rw [hz]; exact ho) ht ?_
  exact k p e R s m args below meth c H locs cells slots ls hF hR hl hr hS hc hs
end ZR2
end
section
theorem zarrI : Cond.arrayClass (newarray.typeOf .int) ∈ zG := zG_T 212 (by decide +kernel) (by decide +kernel)
theorem zarrZ : Cond.arrayClass (newarray.typeOf .boolean) ∈ zG := zG_T 770 (by decide +kernel) (by decide +kernel)
theorem zarrL : Cond.arrayClass (newarray.typeOf .long) ∈ zG := zG_T 987 (by decide +kernel) (by decide +kernel)
theorem zobjA : Cond.instanceMethod Lib.objectInit ∈ zG := zG_T 25 (by decide +kernel) (by decide +kernel)
theorem zobjB : Cond.code Lib.objectInit ⟨#[0xb1]⟩ 1 none ∈ zG := zG_T 26 (by decide +kernel) (by decide +kernel)
section ZR3
variable {Z : ZC} {F : ZF} {pc q t : Nat} {L st : List Value} {h : ZH} {mc ms : Nat} {Q : ZR → ZH → Prop}
/-! ===== fields ===== -/
/-- the field k of the kind ci, by its place in the pool of own -/
def zFL (own : String) (idx ci k : Nat) : Prop := ∃ (C : String) (T : u_T) (N : Nat), zcls[ci]? = some (C, T, N) ∧ k < N ∧ (∀ w ∈ u_ws C T N, w ∈ zG) ∧ Cond.fieldLink own idx (T k).1 (T k).2.1 (T k).2.2.1 ∈ zG
theorem zz_getf {idx ci k a : Nat} {fs : List Value} {v : Value} (hd : zT F.2.1 pc = some (.getfield idx, q, t)) (hf : zFL (zy F.2.1).cls idx ci k) (ha : h a = some (zo ci fs)) (hv : fs[k]? = some v) (kk : Ev Z F q L (v :: st) h mc ms Q) : Ev Z F pc L (.ref a :: st) h mc ms Q := by
  intro p e R s m args below meth c H locs cells slots ls hF hR hl hr hS hc hs
  obtain ⟨hx, hb, hml, hown, hts, hret, hlk, hnm, htb, hW, hEx, hok⟩ := id hF
  obtain ⟨h1, rfl⟩ := zdec hok hd 3 (fun _ _ => rfl)
  obtain ⟨C, T, N, hc1, hk, hu, hlink⟩ := hf
  obtain ⟨r, e1, cell, q1, q2, q3, q4⟩ := (hr a _ ha).1
  have hr9 : r = (C, T, N) := Option.some.inj (e1.symm.trans hc1)
  subst hr9
  obtain ⟨hSl, hfc, kC, hkC, hkind⟩ := hW.1.1 ci _ hc1
  obtain ⟨cf, kf, fi, f, hi, hsl⟩ := hSl k hk
  refine W.getf hx hb hown (hts _ hlink) hi (u_facts hfc hkC (u_lays hts hu hk) hi).1 q1 (by rw [q3]; exact fun h => by cases h) (v := v) ?_ rfl rfl h1 (kk p e R s m args below meth c H locs cells slots ls hF hR hl hr hS hc hs)
  rw [hsl, q4 k hk]
  simp [vp_V, hv]
/-- v may be put into the field k of the kind ci, here -/
def zPut (own name : String) (ci k : Nat) (v : Value) : Prop := ∃ (C : String) (T : u_T) (N : Nat) (ty0 : Nat → FieldType), zcls[ci]? = some (C, T, N) ∧ (∀ k, k < N → parseFieldDescriptor (T k).2.2.1 = some (ty0 k)) ∧ (∀ a, a < N → ∀ b, b < N → a ≠ b → (T a).2.1 ≠ (T b).2.1) ∧ narrow (ty0 k) v = v ∧ fits (ty0 k) v = true ∧ ((T k).2.2.2 = false ∨ ((T k).2.2.2 = true ∧ name = "<init>" ∧ (T k).1 = own))
theorem zz_putf {idx ci k a : Nat} {fs : List Value} {v : Value} (hd : zT F.2.1 pc = some (.putfield idx, q, t)) (hf : zFL (zy F.2.1).cls idx ci k) (ha : h a = some (zo ci fs)) (hp : zPut (zy F.2.1).cls (zy F.2.1).name ci k v) (hkl : k < fs.length) (kk : Ev Z F q L st (zset h a (zo ci (fs.set k v))) mc ms Q) : Ev Z F pc L (v :: .ref a :: st) h mc ms Q := by
  intro p e R s m args below meth c H locs cells slots ls hF hR hl hr hS hc hs
  obtain ⟨hx, hb, hml, hown, hts, hret, hlk, hnm, htb, hW, hEx, hok⟩ := id hF
  obtain ⟨h1, rfl⟩ := zdec hok hd 3 (fun _ _ => rfl)
  obtain ⟨C, T, N, hc1, hk, hu, hlink⟩ := hf
  obtain ⟨C2, T2, N2, ty0, hc2, hty, hnm2, hn, hfit, hfin⟩ := hp
  have he := Option.some.inj (hc1.symm.trans hc2)
  cases he
  obtain ⟨hat, hba⟩ := hr a _ ha
  obtain ⟨r, e1, cell, q1, q2, q3, q4⟩ := hat
  have hr9 : r = (C, T, N) := Option.some.inj (e1.symm.trans hc1)
  subst hr9
  have hap := va_apart (own := (zy F.2.1).cls) hts hu ty0 hty hnm2 hW.1 hc1
  obtain ⟨hSl, hfc, kC, hkC, hkind⟩ := hW.1.1 ci _ hc1
  obtain ⟨cf, kf, fi, f, hi, hsl⟩ := hSl k hk
  have hlay := hts _ (hu _ (u_in_lay hk))
  have hst := (u_facts hfc hkC (u_lays hts hu hk) hi).1
  have hgo : ∀ H' : Heap, H'[a]? = some (cell.setSlot f.slot v) → H'.size = H.size → (∀ q, q ≠ a → H'[q]? = H[q]?) → W p Z.1 e R s m args below meth c H' (locs ++ [⟨a, f.slot⟩]) cells slots (vx_MQ below (zQc Z Q) (zXC Z Q) args s F.2.2.2.1 F.2.2.2.2 (fun q => Z.2.2.2 ≤ q)) (F0 m (pc + 3) ls st) := by
    intro H' g1 g2 g3
    rw [hsl] at g1
    refine kk p e R s m args below meth c H' _ cells slots ls hF hR hl (hr.set ⟨_, hc1, t_OB.to (V := updV (vp_V fs) k v) ⟨_, g1, q2, q3, t_set q4 hap hk v⟩ (fun j _ => vp_updV_set hkl v j)⟩ hba g3) (hS.put g2 g3 hba) hc hs
  rcases hfin with hfin | ⟨hfin, hname, hdecl⟩
  · unfold u_lay at hlay
    rw [if_neg (by rw [hfin]; decide)] at hlay
    have h6 := u_store hfc hkC hkind hlay hi (hty k hk) hn hfit
    exact W.putK hx hb (f := f) ⟨hown, hts _ hlink, ⟨_, _, _, hi⟩, hst⟩ (by rw [q2]; exact h6) q1 q3 (by rw [hsl]; exact k2_hasslot (q4 k hk)) rfl rfl h1 hgo
  · unfold u_lay at hlay
    rw [if_pos hfin] at hlay
    have hcf : m.cls = cf := by
      obtain ⟨_, _, c', _, _, _, -, -, hf', -, -, -, hown2, -⟩ := Cond.laysFinal_spec hlay
      have e1 : c' = cf := by have := hi.symm.trans hf'; simp at this; exact this.1.symm
      rw [hdecl] at hown2
      rw [← e1]; exact Option.some.inj (hown.symm.trans hown2)
    have h6 := u_fits hfc hkC hkind (Or.inr hlay) hi (hty k hk) hn hfit
    exact W.putFinK hx hb hown (hts _ hlink) hi hst hcf (hnm.trans hname) (by rw [q2]; exact h6) q1 q3 (by rw [hsl]; exact k2_hasslot (q4 k hk)) rfl rfl h1 hgo
/-! ===== new ===== -/
def zNew (own : String) (idx ci N : Nat) (fs : List Value) : Prop := ∃ (C : String) (T : u_T) (ty : Nat → FieldType), zcls[ci]? = some (C, T, N) ∧ (∀ k, k < N → parseFieldDescriptor (T k).2.2.1 = some (ty k)) ∧ (∀ w ∈ u_ws C T N, w ∈ zG) ∧ Cond.classLink own idx C ∈ zG ∧ Cond.instantiable C N ∈ zG ∧ Cond.initialized C ∈ zG ∧ ∀ j, j < N → defaultValue (ty j) = vp_V fs j
theorem zz_new {idx ci N : Nat} {fs : List Value} (hd : zT F.2.1 pc = some (.new idx, q, t)) (hn : zNew (zy F.2.1).cls idx ci N fs) (kk : ∀ a, h a = none → Ev Z F q L (.ref a :: st) (zset h a (zo ci fs)) mc ms Q) : Ev Z F pc L st h (mc + 1) (ms + N) Q := by
  intro p e R s m args below meth c H locs cells slots ls hF hR hl hr hS hc hs
  obtain ⟨hx, hb, hml, hown, hts, hret, hlk, hnm, htb, hW, hEx, hok⟩ := id hF
  obtain ⟨h1, rfl⟩ := zdec hok hd 3 (fun _ _ => rfl)
  obtain ⟨C, T, ty, hc1, hty, hu, hcl, hinst, hini, hfs⟩ := hn
  have hKn := hW.1.1 ci _ hc1
  refine W.newcK hx hb hown (hts _ hcl) (hts _ hinst) (hts _ hini) rfl h1 (by have := hR.2.2.1; omega) (by have := hR.2.2.2; omega) hKn.2.1 rfl fun H1 kC hkC e1 z1 o1 => ?_
  have hbs : Z.2.2.2 ≤ H.size := Nat.le_trans hW.2.2.2.1 hS.1
  refine kk H.size hr.fresh p e R s m args below meth c H1 locs (cells + 1) (slots + N) ls hF hR hl (hr.push ⟨_, hc1, (u_born ty hts hu hKn hkC e1 hty).to hfs⟩ hbs o1) ⟨Nat.le_trans hS.1 (by omega), fun x h1 h2 => (o1 x (Nat.lt_of_lt_of_le h1 hS.1)).trans (hS.2.1 x h1 h2), hS.2.2⟩ (by omega) (by omega)
/-! ===== arrays ===== -/
theorem zz_newi {n : Int} (g N : Nat) (hd : zT F.2.1 pc = some (.newarray .int, q, t)) (hn : 0 ≤ n ∧ n ≤ N ∧ (N : Int) ≤ 100000) (kk : ∀ a, h a = none → Ev Z F q L (.ref a :: st) (zset h a (zi g n.toNat (fun _ => 0))) mc ms Q) : Ev Z F pc L (zI n :: st) h (mc + 1) (ms + N) Q := by
  intro p e R s m args below meth c H locs cells slots ls hF hR hl hr hS hc hs
  obtain ⟨hx, hb, hml, hown, hts, hret, hlk, hnm, htb, hW, hEx, hok⟩ := id hF
  obtain ⟨h1, rfl⟩ := zdec hok hd 2 (fun _ _ => rfl)
  have hz : (Int32.ofInt n).toInt = n := zq_toInt ⟨by omega, by omega⟩
  have hz2 : (Int32.ofInt n).toNatClampNeg = n.toNat := zq_nat ⟨by omega, by omega⟩
  refine va_newaK (N := n.toNat) hx hb (hts _ zarrI) rfl h1 rfl (by rw [Int32.lt_iff_toInt_lt, hz]; show ¬ n < 0; omega) hz2 (by show n.toNat * 4 ≤ 536870912; omega) (by have := hR.2.2.1; omega) (by have := hR.2.2.2; omega) rfl fun H1 cA e1 z1 o1 hAr hNm => ?_
  have hcA : cA = Z.2.2.1 0 := Option.some.inj (hNm.symm.trans (hW.1.2 0 _ rfl).2)
  subst hcA
  have hbs : Z.2.2.2 ≤ H.size := Nat.le_trans hW.2.2.2.1 hS.1
  exact kk H.size hr.fresh p e R s m args below meth c H1 locs (cells + 1) (slots + n.toNat) ls hF hR hl (hr.push e1 hbs o1) ⟨Nat.le_trans hS.1 (by omega), fun x h1 h2 => (o1 x (Nat.lt_of_lt_of_le h1 hS.1)).trans (hS.2.1 x h1 h2), hS.2.2⟩ (by omega) (by omega)
theorem zz_newz {n : Int} (N : Nat) (hd : zT F.2.1 pc = some (.newarray .boolean, q, t)) (hn : 0 ≤ n ∧ n ≤ N ∧ (N : Int) ≤ 100000) (kk : ∀ a, h a = none → Ev Z F q L (.ref a :: st) (zset h a (za 1 n.toNat (fun _ => zI 0))) mc ms Q) : Ev Z F pc L (zI n :: st) h (mc + 1) (ms + N) Q := by
  intro p e R s m args below meth c H locs cells slots ls hF hR hl hr hS hc hs
  obtain ⟨hx, hb, hml, hown, hts, hret, hlk, hnm, htb, hW, hEx, hok⟩ := id hF
  obtain ⟨h1, rfl⟩ := zdec hok hd 2 (fun _ _ => rfl)
  have hz : (Int32.ofInt n).toInt = n := zq_toInt ⟨by omega, by omega⟩
  have hz2 : (Int32.ofInt n).toNatClampNeg = n.toNat := zq_nat ⟨by omega, by omega⟩
  refine va_newaK (N := n.toNat) hx hb (hts _ zarrZ) rfl h1 rfl (by rw [Int32.lt_iff_toInt_lt, hz]; show ¬ n < 0; omega) hz2 (by show n.toNat * 1 ≤ 536870912; omega) (by have := hR.2.2.1; omega) (by have := hR.2.2.2; omega) rfl fun H1 cA e1 z1 o1 hAr hNm => ?_
  have hcA : cA = Z.2.2.1 1 := Option.some.inj (hNm.symm.trans (hW.1.2 1 _ rfl).2)
  subst hcA
  have hbs : Z.2.2.2 ≤ H.size := Nat.le_trans hW.2.2.2.1 hS.1
  exact kk H.size hr.fresh p e R s m args below meth c H1 locs (cells + 1) (slots + n.toNat) ls hF hR hl (hr.push e1 hbs o1) ⟨Nat.le_trans hS.1 (by omega), fun x h1 h2 => (o1 x (Nat.lt_of_lt_of_le h1 hS.1)).trans (hS.2.1 x h1 h2), hS.2.2⟩ (by omega) (by omega)
theorem zz_newl {n : Int} (N : Nat) (hd : zT F.2.1 pc = some (.newarray .long, q, t)) (hn : 0 ≤ n ∧ n ≤ N ∧ (N : Int) ≤ 100000) (kk : ∀ a, h a = none → Ev Z F q L (.ref a :: st) (zset h a (za 2 n.toNat (fun _ => zJ 0))) mc ms Q) : Ev Z F pc L (zI n :: st) h (mc + 1) (ms + N) Q := by
  intro p e R s m args below meth c H locs cells slots ls hF hR hl hr hS hc hs
  obtain ⟨hx, hb, hml, hown, hts, hret, hlk, hnm, htb, hW, hEx, hok⟩ := id hF
  obtain ⟨h1, rfl⟩ := zdec hok hd 2 (fun _ _ => rfl)
  have hz : (Int32.ofInt n).toInt = n := zq_toInt ⟨by omega, by omega⟩
  have hz2 : (Int32.ofInt n).toNatClampNeg = n.toNat := zq_nat ⟨by omega, by omega⟩
  refine va_newaK (N := n.toNat) hx hb (hts _ zarrL) rfl h1 rfl (by rw [Int32.lt_iff_toInt_lt, hz]; show ¬ n < 0; omega) hz2 (by show n.toNat * 8 ≤ 536870912; omega) (by have := hR.2.2.1; omega) (by have := hR.2.2.2; omega) rfl fun H1 cA e1 z1 o1 hAr hNm => ?_
  have hcA : cA = Z.2.2.1 2 := Option.some.inj (hNm.symm.trans (hW.1.2 2 _ rfl).2)
  subst hcA
  have hbs : Z.2.2.2 ≤ H.size := Nat.le_trans hW.2.2.2.1 hS.1
  exact kk H.size hr.fresh p e R s m args below meth c H1 locs (cells + 1) (slots + n.toNat) ls hF hR hl (hr.push e1 hbs o1) ⟨Nat.le_trans hS.1 (by omega), fun x h1 h2 => (o1 x (Nat.lt_of_lt_of_le h1 hS.1)).trans (hS.2.1 x h1 h2), hS.2.2⟩ (by omega) (by omega)
/-- the kinds of arrays of references: 3 of layers (kind 3 of the objects), 4 of pictures -/
def zAK (k : Nat) (C : String) : Prop := (k = 3 ∧ C = "TileStudio$Layer") ∨ (k = 4 ∧ C = "TileStudio$Picture")
theorem zAK.ao {k : Nat} {C : String} {s : State} (h : zAK k C) (hN : zNc s) : va_AO C s := by
  rcases h with ⟨-, rfl⟩ | ⟨-, rfl⟩
  · exact hN.2.2.2.1
  · exact hN.2.2.2.2.1
theorem zAK.ra {k : Nat} {C : String} {s : State} (h : zAK k C) (hK : va_K Z.2.1 zcls (ztys Z) s) : ArrOfT s (Z.2.2.1 k) (.object C) ∧ va_RA s (Z.2.2.1 k) (.object C) := by
  rcases h with ⟨rfl, rfl⟩ | ⟨rfl, rfl⟩
  · exact hK.2 3 _ rfl
  · exact hK.2 4 _ rfl
theorem zz_newq {idx k : Nat} {C : String} {n : Int} (N : Nat) (hd : zT F.2.1 pc = some (.anewarray idx, q, t)) (hk : zAK k C) (hcl : Cond.classLink (zy F.2.1).cls idx C ∈ zG) (hn : 0 ≤ n ∧ n ≤ N ∧ (N : Int) ≤ 100000) (kk : ∀ a, h a = none → Ev Z F q L (.ref a :: st) (zset h a (za k n.toNat (fun _ => .null))) mc ms Q) : Ev Z F pc L (zI n :: st) h (mc + 1) (ms + N) Q := by
  intro p e R s m args below meth c H locs cells slots ls hF hR hl hr hS hc hs
  obtain ⟨hx, hb, hml, hown, hts, hret, hlk, hnm, htb, hW, hEx, hok⟩ := id hF
  obtain ⟨h1, rfl⟩ := zdec hok hd 3 (fun _ _ => rfl)
  have hz : (Int32.ofInt n).toInt = n := zq_toInt ⟨by omega, by omega⟩
  have hz2 : (Int32.ofInt n).toNatClampNeg = n.toNat := zq_nat ⟨by omega, by omega⟩
  refine W.anew hx hb hown (hts _ hcl) (va_AO.use (hk.ao hW.2.1)) rfl h1 rfl (by rw [Int32.lt_iff_toInt_lt, hz]; show ¬ n < 0; omega) (by rw [hz2]; omega) (by have := hR.2.2.1; omega) (by rw [hz2]; have := hR.2.2.2; omega) fun cA kA comp f1 f2 f3 f4 => ?_
  rw [hz2]
  obtain ⟨-, -, -, -, -, -, hRA⟩ := (hk.ra hW.1)
  have hcA : cA = Z.2.2.1 k := Option.some.inj (f1.symm.trans hRA)
  subst hcA
  have hbs : Z.2.2.2 ≤ H.size := Nat.le_trans hW.2.2.2.1 hS.1
  generalize hH1 : H.push ({ cls := Z.2.2.1 k, slots := Array.replicate n.toNat .null, vm := .none } : Cell) = H1
  have z1 : H1.size = H.size + 1 := by rw [← hH1, Array.size_push]
  have e1 : H1[H.size]? = some (arrV (Z.2.2.1 k) n.toNat (fun _ => .null)) := by rw [← hH1, Array.getElem?_push_size, ← arrV_new]
  have o1 : ∀ q : Nat, q < H.size → H1[q]? = H[q]? := fun q hq => by rw [← hH1, Array.getElem?_push, if_neg (Nat.ne_of_lt hq)]
  exact kk H.size hr.fresh p e R s m args below meth c H1 locs (cells + 1) (slots + n.toNat) ls hF hR hl (hr.push e1 hbs o1) ⟨Nat.le_trans hS.1 (by omega), fun x h1 h2 => (o1 x (Nat.lt_of_lt_of_le h1 hS.1)).trans (hS.2.1 x h1 h2), hS.2.2⟩ (by omega) (by omega)
theorem zin {i : Int} {n : Nat} (hi : 0 ≤ i ∧ i < n) (hn : (n : Int) < 2147483648) : (Int32.ofInt i).toNatClampNeg = i.toNat ∧ ¬ (Int32.ofInt i < 0 ∨ n ≤ (Int32.ofInt i).toNatClampNeg) ∧ i.toNat < n := by
  have hz : (Int32.ofInt i).toInt = i := zq_toInt ⟨by omega, by omega⟩
  have hz2 : (Int32.ofInt i).toNatClampNeg = i.toNat := zq_nat ⟨by omega, by omega⟩
  refine ⟨hz2, ?_, by omega⟩
  rw [Int32.lt_iff_toInt_lt, hz, hz2]
  show ¬ (i < 0 ∨ n ≤ i.toNat)
  omega
theorem zz_alenI {a g n : Nat} {f : Nat → Int} (hd : zT F.2.1 pc = some (.arraylength, q, t)) (ha : h a = some (zi g n f)) (kk : Ev Z F q L (zI n :: st) h mc ms Q) : Ev Z F pc L (.ref a :: st) h mc ms Q := by
  intro p e R s m args below meth c H locs cells slots ls hF hR hl hr hS hc hs
  obtain ⟨hx, hb, hml, hown, hts, hret, hlk, hnm, htb, hW, hEx, hok⟩ := id hF
  obtain ⟨h1, rfl⟩ := zdec hok hd 1 (fun _ _ => rfl)
  refine W.alen (n := Int32.ofInt n) hx hb (hr a _ ha).1 ((hW.1.2 0 _ rfl).1 n _) (by rw [arrV_size]; exact Int32.ofInt_eq_ofNat.symm) rfl rfl h1 (kk p e R s m args below meth c H locs cells slots ls hF hR hl hr hS hc hs)
theorem zz_alenA {a n k : Nat} {C : String} {f : Nat → Value} (hd : zT F.2.1 pc = some (.arraylength, q, t)) (hk : zAK k C) (ha : h a = some (za k n f)) (kk : Ev Z F q L (zI n :: st) h mc ms Q) : Ev Z F pc L (.ref a :: st) h mc ms Q := by
  intro p e R s m args below meth c H locs cells slots ls hF hR hl hr hS hc hs
  obtain ⟨hx, hb, hml, hown, hts, hret, hlk, hnm, htb, hW, hEx, hok⟩ := id hF
  obtain ⟨h1, rfl⟩ := zdec hok hd 1 (fun _ _ => rfl)
  refine W.alen (n := Int32.ofInt n) hx hb (hr a _ ha).1 ((hk.ra hW.1).1 n _) (by rw [arrV_size]; exact Int32.ofInt_eq_ofNat.symm) rfl rfl h1 (kk p e R s m args below meth c H locs cells slots ls hF hR hl hr hS hc hs)
theorem zz_iald {a g n : Nat} {f : Nat → Int} {i : Int} (hd : zT F.2.1 pc = some (.iaload, q, t)) (ha : h a = some (zi g n f)) (hn : (n : Int) < 2147483648) (hi : 0 ≤ i ∧ i < n) (kk : Ev Z F q L (zI (f i.toNat) :: st) h mc ms Q) : Ev Z F pc L (zI i :: .ref a :: st) h mc ms Q := by
  intro p e R s m args below meth c H locs cells slots ls hF hR hl hr hS hc hs
  obtain ⟨hx, hb, hml, hown, hts, hret, hlk, hnm, htb, hW, hEx, hok⟩ := id hF
  obtain ⟨h1, rfl⟩ := zdec hok hd 1 (fun _ _ => rfl)
  obtain ⟨z1, z2, z3⟩ := zin hi hn
  refine W.iald (v := zI (f i.toNat)) hx hb (hr a _ ha).1 ((hW.1.2 0 _ rfl).1 n _) (fun h => by cases h) (by rw [arrV_size]; exact z2) (by rw [z1, arrV_read _ _ z3]) rfl rfl h1 (kk p e R s m args below meth c H locs cells slots ls hF hR hl hr hS hc hs)
theorem zz_iast {a g n : Nat} {f : Nat → Int} {i x : Int} (hd : zT F.2.1 pc = some (.iastore, q, t)) (ha : h a = some (zi g n f)) (hn : (n : Int) < 2147483648) (hi : 0 ≤ i ∧ i < n) (kk : Ev Z F q L st (zset h a (zi g n (zup f i.toNat x))) mc ms Q) : Ev Z F pc L (zI x :: zI i :: .ref a :: st) h mc ms Q := by
  intro p e R s m args below meth c H locs cells slots ls hF hR hl hr hS hc hs
  obtain ⟨hx, hb, hml, hown, hts, hret, hlk, hnm, htb, hW, hEx, hok⟩ := id hF
  obtain ⟨h1, rfl⟩ := zdec hok hd 1 (fun _ _ => rfl)
  obtain ⟨z1, z2, z3⟩ := zin hi hn
  obtain ⟨hat, hba⟩ := hr a _ ha
  refine W.iast hx hb hat ((hW.1.2 0 _ rfl).1 n _) (fun h => by cases h) (by rw [arrV_size]; exact z2) rfl rfl h1 fun H1 e1 z oq => ?_
  rw [z1, arrV_store] at e1
  refine kk p e R s m args below meth c H1 _ cells slots ls hF hR hl (hr.set ?_ hba oq) (hS.put z oq hba) hc hs
  show H1[a]? = some (arrV _ n _)
  rw [e1]
  congr 2
  funext j
  by_cases hj : j = i.toNat
  · subst hj; simp [updV, zup]
  · simp [updV, zup, hj]
theorem zz_zald {a n : Nat} {f : Nat → Value} {i : Int} (hd : zT F.2.1 pc = some (.baload, q, t)) (ha : h a = some (za 1 n f)) (hn : (n : Int) < 2147483648) (hi : 0 ≤ i ∧ i < n) (kk : Ev Z F q L (f i.toNat :: st) h mc ms Q) : Ev Z F pc L (zI i :: .ref a :: st) h mc ms Q := by
  intro p e R s m args below meth c H locs cells slots ls hF hR hl hr hS hc hs
  obtain ⟨hx, hb, hml, hown, hts, hret, hlk, hnm, htb, hW, hEx, hok⟩ := id hF
  obtain ⟨h1, rfl⟩ := zdec hok hd 1 (fun _ _ => rfl)
  obtain ⟨z1, z2, z3⟩ := zin hi hn
  refine W.zald (v := f i.toNat) hx hb (hr a _ ha).1 ((hW.1.2 1 _ rfl).1 n _) (fun h => by cases h) (by rw [arrV_size]; exact z2) (by rw [z1, arrV_read _ _ z3]) rfl rfl h1 (kk p e R s m args below meth c H locs cells slots ls hF hR hl hr hS hc hs)
theorem zz_zast {a n : Nat} {f : Nat → Value} {i x : Int} (hd : zT F.2.1 pc = some (.bastore, q, t)) (ha : h a = some (za 1 n f)) (hn : (n : Int) < 2147483648) (hi : 0 ≤ i ∧ i < n) (hx1 : narrow .boolean (zI x) = zI x) (kk : Ev Z F q L st (zset h a (za 1 n (zuv f i.toNat (zI x)))) mc ms Q) : Ev Z F pc L (zI x :: zI i :: .ref a :: st) h mc ms Q := by
  intro p e R s m args below meth c H locs cells slots ls hF hR hl hr hS hc hs
  obtain ⟨hx, hb, hml, hown, hts, hret, hlk, hnm, htb, hW, hEx, hok⟩ := id hF
  obtain ⟨h1, rfl⟩ := zdec hok hd 1 (fun _ _ => rfl)
  obtain ⟨z1, z2, z3⟩ := zin hi hn
  obtain ⟨hat, hba⟩ := hr a _ ha
  refine W.zast hx hb hat ((hW.1.2 1 _ rfl).1 n _) (fun h => by cases h) (by rw [arrV_size]; exact z2) rfl rfl h1 fun H1 e1 z oq => ?_
  rw [z1, hx1, arrV_store] at e1
  exact kk p e R s m args below meth c H1 _ cells slots ls hF hR hl (hr.set e1 hba oq) (hS.put z oq hba) hc hs
theorem zz_lald {a n : Nat} {f : Nat → Value} {i : Int} (hd : zT F.2.1 pc = some (.laload, q, t)) (ha : h a = some (za 2 n f)) (hn : (n : Int) < 2147483648) (hi : 0 ≤ i ∧ i < n) (kk : Ev Z F q L (f i.toNat :: st) h mc ms Q) : Ev Z F pc L (zI i :: .ref a :: st) h mc ms Q := by
  intro p e R s m args below meth c H locs cells slots ls hF hR hl hr hS hc hs
  obtain ⟨hx, hb, hml, hown, hts, hret, hlk, hnm, htb, hW, hEx, hok⟩ := id hF
  obtain ⟨h1, rfl⟩ := zdec hok hd 1 (fun _ _ => rfl)
  obtain ⟨z1, z2, z3⟩ := zin hi hn
  refine W.lald (v := f i.toNat) hx hb (hr a _ ha).1 ((hW.1.2 2 _ rfl).1 n _) (fun h => by cases h) (by rw [arrV_size]; exact z2) (by rw [z1, arrV_read _ _ z3]) rfl rfl h1 (kk p e R s m args below meth c H locs cells slots ls hF hR hl hr hS hc hs)
theorem zz_last {a n : Nat} {f : Nat → Value} {i x : Int} (hd : zT F.2.1 pc = some (.lastore, q, t)) (ha : h a = some (za 2 n f)) (hn : (n : Int) < 2147483648) (hi : 0 ≤ i ∧ i < n) (kk : Ev Z F q L st (zset h a (za 2 n (zuv f i.toNat (zJ x)))) mc ms Q) : Ev Z F pc L (zJ x :: zI i :: .ref a :: st) h mc ms Q := by
  intro p e R s m args below meth c H locs cells slots ls hF hR hl hr hS hc hs
  obtain ⟨hx, hb, hml, hown, hts, hret, hlk, hnm, htb, hW, hEx, hok⟩ := id hF
  obtain ⟨h1, rfl⟩ := zdec hok hd 1 (fun _ _ => rfl)
  obtain ⟨z1, z2, z3⟩ := zin hi hn
  obtain ⟨hat, hba⟩ := hr a _ ha
  refine W.last hx hb hat ((hW.1.2 2 _ rfl).1 n _) (fun h => by cases h) (by rw [arrV_size]; exact z2) rfl rfl h1 fun H1 e1 z oq => ?_
  rw [z1, arrV_store] at e1
  exact kk p e R s m args below meth c H1 _ cells slots ls hF hR hl (hr.set e1 hba oq) (hS.put z oq hba) hc hs
theorem zz_aald {a n k : Nat} {C : String} {f : Nat → Value} {i : Int} (hd : zT F.2.1 pc = some (.aaload, q, t)) (hk : zAK k C) (ha : h a = some (za k n f)) (hn : (n : Int) < 2147483648) (hi : 0 ≤ i ∧ i < n) (kk : Ev Z F q L (f i.toNat :: st) h mc ms Q) : Ev Z F pc L (zI i :: .ref a :: st) h mc ms Q := by
  intro p e R s m args below meth c H locs cells slots ls hF hR hl hr hS hc hs
  obtain ⟨hx, hb, hml, hown, hts, hret, hlk, hnm, htb, hW, hEx, hok⟩ := id hF
  obtain ⟨h1, rfl⟩ := zdec hok hd 1 (fun _ _ => rfl)
  obtain ⟨z1, z2, z3⟩ := zin hi hn
  refine W.aald (v := f i.toNat) (ty := .object C) hx hb (hr a _ ha).1 ((hk.ra hW.1).1 n _) rfl (fun h => by cases h) (by rw [arrV_size]; exact z2) (by rw [z1, arrV_read _ _ z3]) rfl rfl h1 (kk p e R s m args below meth c H locs cells slots ls hF hR hl hr hS hc hs)
theorem zz_aast {a n k v ci : Nat} {r : vw_C} {f : Nat → Value} {fs : List Value} {i : Int} (hd : zT F.2.1 pc = some (.aastore, q, t)) (hk : zAK k r.1) (hci : zcls[ci]? = some r) (ha : h a = some (za k n f)) (hv : h v = some (zo ci fs)) (hn : (n : Int) < 2147483648) (hi : 0 ≤ i ∧ i < n) (kk : Ev Z F q L st (zset h a (za k n (zuv f i.toNat (.ref v)))) mc ms Q) : Ev Z F pc L (.ref v :: zI i :: .ref a :: st) h mc ms Q := by
  intro p e R s m args below meth c H locs cells slots ls hF hR hl hr hS hc hs
  obtain ⟨hx, hb, hml, hown, hts, hret, hlk, hnm, htb, hW, hEx, hok⟩ := id hF
  obtain ⟨h1, rfl⟩ := zdec hok hd 1 (fun _ _ => rfl)
  obtain ⟨z1, z2, z3⟩ := zin hi hn
  obtain ⟨hat, hba⟩ := hr a _ ha
  obtain ⟨r', hr', cellV, g1, g2, g3, -⟩ := (hr v _ hv).1
  have hcls := (hW.1.1 ci r hci).2
  obtain ⟨kA, comp, k1, k2, k3, -⟩ := (hk.ra hW.1).2
  have hcomp : comp = Z.2.1.1 ci := Option.some.inj (k3.symm.trans hcls.1)
  subst hcomp
  obtain ⟨kC, hkC, -⟩ := id hcls.2
  refine W.aast hx hb hat (fun q h => by cases h) (fun h => by cases h) k1 k2 rfl hkC ⟨fun h9 => z2 (Or.inl h9), by rw [arrV_size, z1]; exact z3⟩ g1 (fun q h => by rw [g3] at h; cases h) (by rw [g2]; exact hkC) (by rw [g2]; exact va_assign hcls) rfl rfl h1 fun H1 e1 z oq => ?_
  rw [z1, arrV_store] at e1
  exact kk p e R s m args below meth c H1 _ cells slots ls hF hR hl (hr.set e1 hba oq) (hS.put z oq hba) hc hs
theorem zz_aastN {a n k : Nat} {C : String} {f : Nat → Value} {i : Int} (hd : zT F.2.1 pc = some (.aastore, q, t)) (hk : zAK k C) (ha : h a = some (za k n f)) (hn : (n : Int) < 2147483648) (hi : 0 ≤ i ∧ i < n) (kk : Ev Z F q L st (zset h a (za k n (zuv f i.toNat .null))) mc ms Q) : Ev Z F pc L (.null :: zI i :: .ref a :: st) h mc ms Q := by
  intro p e R s m args below meth c H locs cells slots ls hF hR hl hr hS hc hs
  obtain ⟨hx, hb, hml, hown, hts, hret, hlk, hnm, htb, hW, hEx, hok⟩ := id hF
  obtain ⟨h1, rfl⟩ := zdec hok hd 1 (fun _ _ => rfl)
  obtain ⟨z1, z2, z3⟩ := zin hi hn
  obtain ⟨hat, hba⟩ := hr a _ ha
  refine va_WaastN (C := C) hx hb hat ((hk.ra hW.1).1 n _) (fun h => by cases h) (by rw [arrV_size]; exact z2) rfl rfl h1 fun H1 e1 z oq => ?_
  rw [z1, arrV_store] at e1
  exact kk p e R s m args below meth c H1 _ cells slots ls hF hR hl (hr.set e1 hba oq) (hS.put z oq hba) hc hs
end ZR3
end
section
theorem zw_clone {p : Program} {l : Launch} {e : Env} {R : Room} {s : State} {m : MethodId} {args : Array Value} {below : List Frame} {meth : Method} {c : Code} {H : Heap} {locs : List Loc} {cells slots : Nat} {Q : State → Prop} {cc : ByteArray} {pc : Nat} {ls : Array Slot} {rest : List Value} {Z : ZC} {a n : Nat} {f : Nat → Int} (hexec : p.tables.exec = Jvm.exec) (hb : c.code = cc) (hml : c.maxLocals = ls.size) {own : String} {index : Nat} (hown : s.vm.findClass own = some m.cls)
    (hlink : (Cond.methodLink own index ⟨"[I", "clone", "()Ljava/lang/Object;"⟩).before args s = true) (hsame : (Cond.sameMethod "[I" "java/lang/Object" "clone" "()Ljava/lang/Object;").before args s = true)
    (hnat : (Cond.native ⟨"java/lang/Object", "clone", "()Ljava/lang/Object;"⟩).before args s = true) (hinst : (Cond.instanceMethod ⟨"java/lang/Object", "clone", "()Ljava/lang/Object;"⟩).before args s = true)
    (hsel : (Cond.selects "[I" ⟨"[I", "clone", "()Ljava/lang/Object;"⟩ ⟨"java/lang/Object", "clone", "()Ljava/lang/Object;"⟩).before args s = true) (hcl : va_Nw (.castable "[I" "java/lang/Cloneable") s)
    (hK : va_K Z.2.1 zcls (ztys Z) s) (hcell : H[a]? = some (arrV (Z.2.2.1 0) n (fun i => zI (f i))))
    (hframes : 1 ≤ R.frames) (hlocals : (rest.map fun v => v.category).sum + 14 ≤ R.locals) (hcells : cells + 1 ≤ R.cells) (hslots : slots + n ≤ R.slots) (hdg : decode cc pc = .ok (.invokevirtual index, 3))
    (kk : ∀ H1 : Heap, H1[H.size]? = some (arrV (Z.2.2.1 0) n (fun i => zI (f i))) → H1.size = H.size + 1 → (∀ q : Nat, q < H.size → H1[q]? = H[q]?) →
      W p l e R s m args below meth c H1 locs (cells + 1) (slots + n) Q (F0 m (pc + 3) ls (.ref H.size :: rest))) : W p l e R s m args below meth c H locs cells slots Q (F0 m pc ls (.ref a :: rest)) := by
  have hnm : s.vm.findClass "[I" = some (Z.2.2.1 0) := (hK.2 0 _ rfl).2
  obtain ⟨c0, t0, f1, f2, f3⟩ := Cond.castable_spec (va_Nw.use (A := args) rfl hcl)
  cases hnm.symm.trans f1
  intro T hT X
  have hcellT : T.heap[a]? = some (arrV (Z.2.2.1 0) n (fun i => zI (f i))) := by rw [hT]; exact hcell
  obtain ⟨-, kA, hkA, comp, hkind⟩ := State.isArrayOf_alike X.warmed.alike ((hK.2 0 _ rfl).1 0 (fun _ => .null))
  obtain ⟨-, kS, hkS, compS, hkindS⟩ := (hK.2 0 _ rfl).1 0 (fun _ => .null)
  obtain ⟨vm', X', st⟩ := X.cloneArray hexec hown hlink hsame hnat hinst hsel (a := a) (cell := arrV (Z.2.2.1 0) n (fun i => zI (f i))) hcellT (fun k h => by cases h) (fun h => by cases h) hnm f2 f3
    (fun i v hv => by
      have hk' : T.vm.classes[Z.2.2.1 0]? = some kA := hkA
      have hf9 : fits .int v = true := va_fit (fun _ _ => rfl) i v hv
      simpa [State.fitsSlot, State.slotType?, arrV, hk', hkind] using hf9)
    (g := F0 m pc ls (.ref a :: rest)) rfl (by rw [hml]) rfl (by rw [hb]; exact hdg) hframes (by show 2 * 0 + _ + 14 ≤ _; omega) hcells (by rw [arrV_size]; exact hslots) (hloader := Vm.clonesLoader_of_array hkS hkindS)
  rw [arrV_size] at X'
  generalize hH1 : H.push (arrV (Z.2.2.1 0) n (fun i => zI (f i))) = H1
  have z1 : H1.size = H.size + 1 := by rw [← hH1, Array.size_push]
  have e1 : H1[H.size]? = some (arrV (Z.2.2.1 0) n (fun i => zI (f i))) := by rw [← hH1, Array.getElem?_push_size]
  have o1 : ∀ q : Nat, q < H.size → H1[q]? = H[q]? := fun q hq => by rw [← hH1, Array.getElem?_push, if_neg (Nat.ne_of_lt hq)]
  obtain ⟨t, b1, b2⟩ := kk H1 e1 z1 o1 ((T.setVm vm').pushCell (arrV (Z.2.2.1 0) n (fun i => zI (f i)))) (by rw [← hH1, ← hT]; rfl) X'
  refine ⟨t, st t ?_, b2⟩
  rw [hT]
  exact b1
section ZR4
variable {Z : ZC} {F : ZF} {pc q t : Nat} {L st : List Value} {h : ZH} {mc ms : Nat} {Q : ZR → ZH → Prop}
/-- behind a call -/
def zAft (Z : ZC) (F : ZF) (pc q : Nat) (L rest : List Value) (mc ms : Nat) (Q : ZR → ZH → Prop) (r : ZR) (h : ZH) : Prop := match r with
  | .inl v => Ev Z F q L (v.toList ++ rest) h mc ms Q
  | .inr E => EvX Z F pc L rest E h mc ms Q
theorem zaft_v {rest : List Value} {v : Value} (k : Ev Z F q L (v :: rest) h mc ms Q) : zAft Z F pc q L rest mc ms Q (.inl (some v)) h := k
theorem zaft_u {rest : List Value} (k : Ev Z F q L rest h mc ms Q) : zAft Z F pc q L rest mc ms Q (.inl none) h := k
theorem zaft_x {rest : List Value} {E : String} (k : EvX Z F pc L rest E h mc ms Q) : zAft Z F pc q L rest mc ms Q (.inr E) h := k
theorem zgo {p : Program} {e : Env} {R : Room} {s : State} {m : MethodId} {args a : Array Value} {below : List Frame} {meth : Method} {c : Code} {H : Heap} {locs : List Loc} {cells slots mc' ms' : Nat} {ls : Array Slot} {rest st0 : List Value} {Qy : ZR → ZH → Prop}
    (hr9 : vx_Run p Z.1 e R s m args below meth c H locs cells slots mc' ms' (F0 m pc ls st0) rest (zQc Z Qy a) (zXC Z Qy) (fun q => Z.2.2.2 ≤ q))
    (hF : zFr Z F.1 F.2.1 p s m args meth c) (hR : zRm R F) (hl : lv_has ls (znL F.2.1) (zls 0 L)) (hS : va_S (fun q => Z.2.2.2 ≤ q) s.heap H locs) (hc : cells + (mc + mc') ≤ F.2.2.2.1) (hs : slots + (ms + ms') ≤ F.2.2.2.2)
    (k : ∀ r h', Qy r h' → zAft Z F pc (pc + 3) L rest mc ms Q r h') :
    W p Z.1 e R s m args below meth c H locs cells slots (vx_MQ below (zQc Z Q) (zXC Z Q) args s F.2.2.2.1 F.2.2.2.2 (fun q => Z.2.2.2 ≤ q)) (F0 m pc ls st0) := by
  intro T hT X
  rcases hr9 T hT X with ⟨v, st₀, t, T', L9, h0, X', hL, e1, e2, ⟨⟨r, h', hv, hq, hrep⟩, hFr⟩, st⟩ | ⟨qa, st₀, t, T', L9, E, ce, h0, X', hL, e1, e2, ⟨⟨h', hq, hrep⟩, hFr⟩, hce, hcv, hcl, st⟩
  · cases hv
    obtain ⟨k1, k2, k3⟩ := vx_keep h0 e1 hS (fun q _ h => h) (fun q h => h) hL hFr
    obtain ⟨t2, a1, b1⟩ := k (.inl v) h' hq p e R s m args below meth c T'.heap (locs ++ L9) (cells + mc') (slots + ms') ls hF hR hl (by rw [e1]; exact hrep) k3 (by omega) (by omega) T' rfl X'
    exact ⟨t2, st t2 a1, b1⟩
  · obtain ⟨k1, k2, k3⟩ := vx_keep h0 e1 hS (fun q _ h => h) (fun q h => h) hL hFr
    obtain ⟨t2, a1, b1⟩ := k (.inr E) h' hq p e R s m args below meth c T'.heap (locs ++ L9) (cells + mc') (slots + ms') ls ce qa hF hR hl (by rw [e1]; exact hrep) k3 (by omega) (by omega) (by rw [e1]; exact hce) hcv hcl T' rfl X'
    exact ⟨t2, st.trans a1, b1⟩
theorem zgood {ws : List Cond} (h : ∀ w ∈ ws, w ∈ zG) : GoodIn zG ws := fun w hw => ⟨h w hw, good_of_word (zG_good w (h w hw))⟩
theorem zpre {s : State} {H : Heap} {locs : List Loc} {av : List Value} (hW : zW Z s s.heap) (hr : zRep Z h H) (hS : va_S (fun q => Z.2.2.2 ≤ q) s.heap H locs) : PreS s H (zPc Z av h) av := by
  refine ⟨zPc_blind, fun U hU hWU => ⟨rfl, ?_, by rw [hU]; exact hr⟩⟩
  rw [hU]
  exact (hW.kept hS.1 hS.2.1).moved hWU
/-- the words of a method, as a callee -/
def zCw (M : MI) (n : Nat) : Prop := zcw M = .code (zy M) (zcc M) (znL M) (zret M) ∧ zcw M ∈ zG ∧ Cond.initialized (zy M).cls ∈ zG ∧ ((zy M).cls ≠ "java/lang/invoke/MethodHandle" ∧ (zy M).cls ≠ "java/lang/invoke/VarHandle" ∧ (parseMethodDescriptor (zy M).desc).map (fun d => d.parameters.length) = some n) ∧ znL M ≤ 21
theorem zroom {R : Room} {d' mc' ms' n : Nat} (hR : zRm R F) (hdd : Nat.blt d' F.2.2.1 = true) (hn : n ≤ 21) : (zrm d' mc' ms').frames + 1 ≤ R.frames ∧ 8 + (n + 11) + (zrm d' mc' ms').locals ≤ R.locals := by
  have h1 : d' < F.2.2.1 := zblt hdd
  obtain ⟨h2, h3, -⟩ := hR
  constructor
  · show d' + 10 + 1 ≤ R.frames
    omega
  · show 8 + (n + 11) + (140 + 40 * d') ≤ R.locals
    omega
theorem zz_S {M' : MI} {d' mc' ms' n idx : Nat} {av rest : List Value} {Qy : ZR → ZH → Prop} (hd : zT F.2.1 pc = some (.invokestatic idx, q, t)) (hk : Cond.methodLink (zy F.2.1).cls idx (zy M') ∈ zG ∧ Cond.static (zy M') ∈ zG) (hw : zCw M' n) (hc9 : Ct Z M' d' mc' ms' av h Qy) (hn : av.length = n) (hst : st = av.reverse ++ rest) (h8 : Nat.ble ((rest.map fun v => v.category).sum) 8 = true) (hdd : Nat.blt d' F.2.2.1 = true)
    (kk : ∀ r h', Qy r h' → zAft Z F pc q L rest mc ms Q r h') : Ev Z F pc L st h (mc + mc') (ms + ms') Q := by
  intro p e R s m args below meth c H locs cells slots ls hF hR hl hr hS hc hs
  obtain ⟨hx, hb, hml, hown, hts, hret, hlk, hnm, htb, hW, hEx, hok⟩ := id hF
  obtain ⟨h1, rfl⟩ := zdec hok hd 3 (fun _ _ => rfl)
  obtain ⟨w1, w2, w3, w4, w5⟩ := hw
  subst hst
  have hG : GoodIn zG (va_wsS (zy F.2.1).cls idx (zy M') (zcw M' :: zG)) := by
    refine zgood (fun w hw => ?_)
    simp only [va_wsS, List.cons_append, List.nil_append, List.mem_cons] at hw
    rcases hw with rfl | rfl | rfl | rfl | hw
    · exact hk.1
    · exact hk.2
    · exact w3
    · exact w2
    · exact hw
  have cw := va_cwS (R := R) (mc := mc') (ms := ms') n hts hG (by rw [w1]) rfl rfl w4 (zroom (mc' := mc') (ms' := ms') hR hdd w5)
  refine zgo (vx_runS ⟨hx, hb, hml, hown, hts⟩ hc9 cw (zpre hW hr hS) rfl hn hl.1 rfl (lv_room (Nat.le_of_ble_eq_true h8)) h1 ⟨?_, ?_⟩) hF hR hl hS hc hs kk
  · have := hR.2.2.1; omega
  · have := hR.2.2.2; omega
theorem zz_V {M' : MI} {d' mc' ms' n idx b ci : Nat} {As rest fs : List Value} {T0 : u_T} {N0 : Nat} {Qy : ZR → ZH → Prop} (hd : zT F.2.1 pc = some (.invokevirtual idx, q, t)) (hk : Cond.methodLink (zy F.2.1).cls idx (zy M') ∈ zG ∧ Cond.instanceMethod (zy M') ∈ zG ∧ Cond.selects (zy M').cls (zy M') (zy M') ∈ zG) (hw : zCw M' n) (hci : zcls[ci]? = some ((zy M').cls, T0, N0)) (hb9 : h b = some (zo ci fs)) (hc9 : Ct Z M' d' mc' ms' (.ref b :: As) h Qy) (hn : As.length = n) (hst : st = As.reverse ++ .ref b :: rest) (h8 : Nat.ble ((rest.map fun v => v.category).sum) 8 = true) (hdd : Nat.blt d' F.2.2.1 = true)
    (kk : ∀ r h', Qy r h' → zAft Z F pc q L rest mc ms Q r h') : Ev Z F pc L st h (mc + mc') (ms + ms') Q := by
  intro p e R s m args below meth c H locs cells slots ls hF hR hl hr hS hc hs
  obtain ⟨hx, hb, hml, hown, hts, hret, hlk, hnm, htb, hW, hEx, hok⟩ := id hF
  obtain ⟨h1, rfl⟩ := zdec hok hd 3 (fun _ _ => rfl)
  obtain ⟨w1, w2, w3, w4, w5⟩ := hw
  subst hst
  have hG : GoodIn zG (wsV (zy F.2.1).cls idx (zy M').cls (zy M') (zcw M' :: zG)) := by
    refine zgood (fun w hw => ?_)
    simp only [wsV, List.cons_append, List.nil_append, List.mem_cons] at hw
    rcases hw with rfl | rfl | rfl | rfl | rfl | hw
    · exact hk.1
    · exact hk.2.1
    · exact hk.2.2
    · exact w3
    · exact w2
    · exact hw
  have cw := cwV (R := R) (mc := mc') (ms := ms') n hts hG (by rw [w1]) rfl rfl ⟨rfl, w4⟩ (zroom (mc' := mc') (ms' := ms') hR hdd w5)
  have hp := zpre (av := .ref b :: As) hW hr hS
  obtain ⟨r9, g0, cell, g1, g2, g3, -⟩ := (hr b _ hb9).1
  have hrec : ∃ cellB : Cell, H[b]? = some cellB ∧ cellB.vm.isStatics = false ∧ s.vm.findClass (zy M').cls = some cellB.cls := ⟨cell, g1, by rw [g3]; rfl, by rw [g2]; exact (hW.1.1 ci _ hci).2.1⟩
  refine zgo (vx_runV ⟨hx, hb, hml, hown, hts⟩ hc9 cw ⟨hp.1, hrec, hp.2⟩ rfl hn hl.1 rfl (lv_room (Nat.le_of_ble_eq_true h8)) h1 ⟨?_, ?_⟩) hF hR hl hS hc hs kk
  · have := hR.2.2.1; omega
  · have := hR.2.2.2; omega
theorem zrun_of {p : Program} {l : Launch} {e : Env} {R : Room} {s : State} {m : MethodId} {args : Array Value} {below : List Frame} {meth : Method} {c : Code} {H : Heap} {locs : List Loc} {cells slots mc ms : Nat} {g : JFrame} {rest : List Value} {Qa : State → Outcome → State → Prop} {XC : String → State → State → Prop} {free : Addr → Prop} (hr : va_Run p l e R s m args below meth c H locs cells slots mc ms g rest Qa free) : vx_Run p l e R s m args below meth c H locs cells slots mc ms g rest Qa XC free := fun T hT X => Or.inl (hr T hT X)
theorem zz_N {M' : MI} {d' mc' ms' n idx b : Nat} {As rest : List Value} {Qy : ZR → ZH → Prop} (hd : zT F.2.1 pc = some (.invokespecial idx, q, t)) (hk : Cond.methodLink (zy F.2.1).cls idx (zy M') ∈ zG ∧ Cond.instanceMethod (zy M') ∈ zG ∧ (zy M').name = "<init>" ∧ zret M' = none) (hw : zCw M' n) (hno : ∀ E h', ¬ Qy (.inr E) h') (hc9 : Ct Z M' d' mc' ms' (.ref b :: As) h Qy) (hn : As.length = n) (hst : st = As.reverse ++ .ref b :: rest) (h8 : Nat.ble ((rest.map fun v => v.category).sum) 8 = true) (hdd : Nat.blt d' F.2.2.1 = true)
    (kk : ∀ r h', Qy r h' → zAft Z F pc q L rest mc ms Q r h') : Ev Z F pc L st h (mc + mc') (ms + ms') Q := by
  intro p e R s m args below meth c H locs cells slots ls hF hR hl hr hS hc hs
  obtain ⟨hx, hb, hml, hown, hts, hret, hlk, hnm, htb, hW, hEx, hok⟩ := id hF
  obtain ⟨h1, rfl⟩ := zdec hok hd 3 (fun _ _ => rfl)
  obtain ⟨w1, w2, w3, w4, w5⟩ := hw
  obtain ⟨k1, k2, k3, k4⟩ := hk
  subst hst
  have hG : GoodIn zG (zcw M' :: zG) := by
    refine zgood (fun w hw => ?_)
    rcases List.mem_cons.mp hw with rfl | hw
    · exact w2
    · exact hw
  have cb : CallB R s args (zy F.2.1).cls idx (zy M') (zcc M') (znL M') none (zcw M' :: zG) (zrm d' mc' ms') mc' ms' n := callB_of (Ts := zG) n hts hG (by rw [w1, k4]) rfl rfl (hts _ w3) (hts _ k1) w4 (zroom (mc' := mc') (ms' := ms') hR hdd w5)
  refine zgo (zrun_of (va_runI ⟨hx, hb, hml, hown, hts⟩ (hc9.met hno) ⟨cb, k3, hts _ k2⟩ (zpre (av := .ref b :: As) hW hr hS) rfl hn hl.1 rfl (lv_room (Nat.le_of_ble_eq_true h8)) h1 ⟨?_, ?_⟩)) hF hR hl hS hc hs kk
  · have := hR.2.2.1; omega
  · have := hR.2.2.2; omega
theorem zz_SN {M' : MI} {d' mc' ms' n idx : Nat} {host : String} {av rest : List Value} {Qy : ZR → ZH → Prop} (hd : zT F.2.1 pc = some (.invokestatic idx, q, t)) (hk : ((zy F.2.1).cls, idx, zy M', host) ∈ znests ∧ Cond.static (zy M') ∈ zG) (hw : zCw M' n) (hno : ∀ E h', ¬ Qy (.inr E) h') (hc9 : Ct Z M' d' mc' ms' av h Qy) (hn : av.length = n) (hst : st = av.reverse ++ rest) (h8 : Nat.ble ((rest.map fun v => v.category).sum) 8 = true) (hdd : Nat.blt d' F.2.2.1 = true)
    (kk : ∀ r h', Qy r h' → zAft Z F pc q L rest mc ms Q r h') : Ev Z F pc L st h (mc + mc') (ms + ms') Q := by
  intro p e R s m args below meth c H locs cells slots ls hF hR hl hr hS hc hs
  obtain ⟨hx, hb, hml, hown, hts, hret, hlk, hnm, htb, hW, hEx, hok⟩ := id hF
  obtain ⟨h1, rfl⟩ := zdec hok hd 3 (fun _ _ => rfl)
  obtain ⟨w1, w2, w3, w4, w5⟩ := hw
  subst hst
  have hG : GoodIn zG (zcw M' :: zG) := by
    refine zgood (fun w hw => ?_)
    rcases List.mem_cons.mp hw with rfl | hw
    · exact w2
    · exact hw
  have cn : va_CN R s args (zy F.2.1).cls idx (zy M') host (zcc M') (znL M') (zret M') (zcw M' :: zG) (zrm d' mc' ms') mc' ms' n := va_cnB (Ts := zG) n hts hG (by rw [w1]) rfl rfl (hW.2.1.2.2.1 _ hk.1) (hts _ w3) w4 (zroom (mc' := mc') (ms' := ms') hR hdd w5)
  refine zgo (zrun_of (va_runSN ⟨hx, hb, hml, hown, hts⟩ (hc9.met hno) ⟨cn, hts _ hk.2, trivial⟩ (zpre hW hr hS) rfl hn hl.1 rfl (lv_room (Nat.le_of_ble_eq_true h8)) h1 ⟨?_, ?_⟩)) hF hR hl hS hc hs kk
  · have := hR.2.2.1; omega
  · have := hR.2.2.2; omega
/-! ===== thrown, and not caught here; caught ===== -/
theorem zx_out {rest : List Value} {E : String} (hh : zhh F.2.1 = []) (hq : Q (.inr E) h) : EvX Z F pc L rest E h mc ms Q := by
  intro p e R s m args below meth c H locs cells slots ls ce qa hF hR hl hr hS hc hs hce hcv hcl
  obtain ⟨hx, hb, hml, hown, hts, hret, hlk, hnm, htb, hW, hEx, hok⟩ := id hF
  refine vx_out (fun x hx9 => ?_) hlk hce hcv hcl (fun t ht hal => ⟨⟨h, hq, by rw [ht]; exact hr⟩, hS.F ht⟩) hS.2.2 (by omega) (by omega)
  rw [htb, hh] at hx9
  cases hx9
abbrev zte (x : Nat × Nat × Nat × Nat) : ExceptionTableEntry := ⟨x.1, x.2.1, x.2.2.1, x.2.2.2⟩
theorem zx_catch {rest : List Value} {E name : String} (pre : List (Nat × Nat × Nat × Nat)) (x : Nat × Nat × Nat × Nat) (suf : List (Nat × Nat × Nat × Nat)) (hsp : zhh F.2.1 = pre ++ x :: suf)
    (hpass : ∀ z ∈ pre, covers (zte z) pc = false ∨ (z.2.2.2 ≠ 0 ∧ ∃ nm : String, Cond.classLink (zy F.2.1).cls z.2.2.2 nm ∈ zG ∧ (E, nm) ∈ znocasts)) (hx1 : covers (zte x) pc = true) (h0 : x.2.2.2 ≠ 0) (hlink : Cond.classLink (zy F.2.1).cls x.2.2.2 name ∈ zG) (hcast : (E, name) ∈ zcasts)
    (kk : ∀ qa : Nat, Ev Z F x.2.2.1 L [.ref qa] h mc ms Q) : EvX Z F pc L rest E h mc ms Q := by
  intro p e R s m args below meth c H locs cells slots ls ce qa hF hR hl hr hS hc hs hce hcv hcl
  obtain ⟨hx, hb, hml, hown, hts, hret, hlk, hnm, htb, hW, hEx, hok⟩ := id hF
  refine vx_catch (E := E) (name := name) hown (pre.map zte) (zte x) (suf.map zte) (by rw [htb, hsp]; simp [tableOf]) (fun z hz => ?_) hx1 h0 (hts _ hlink) (va_Nw.use rfl (hW.2.1.1 _ hcast)) hce hcv hcl (kk qa p e R s m args below meth c H locs cells slots ls hF hR hl hr hS hc hs)
  obtain ⟨y, hy, rfl⟩ := List.mem_map.mp hz
  rcases hpass y hy with h9 | ⟨h9, nm, h10, h11⟩
  · exact Or.inl h9
  · exact Or.inr ⟨h9, nm, hts _ h10, hW.2.1.2.1 _ h11⟩
/-! ===== returns ===== -/
theorem zz_iret {v : Int} (hd : zT F.2.1 pc = some (.ireturn, q, t)) (hr1 : zret F.2.1 = some .int) (hq : Q (.inl (some (zI v))) h) : Ev Z F pc L [zI v] h mc ms Q := by
  intro p e R s m args below meth c H locs cells slots ls hF hR hl hr hS hc hs
  obtain ⟨hx, hb, hml, hown, hts, hret, hlk, hnm, htb, hW, hEx, hok⟩ := id hF
  obtain ⟨h1, rfl⟩ := zdec hok hd 1 (fun _ _ => rfl)
  refine vx_ret (W.widen (k := F.2.2.2.1) (n := F.2.2.2.2) (by omega) (by omega) ?_)
  exact W.iret hx hb (hret.trans hr1) (fun t ht hW9 => ⟨⟨_, h, rfl, hq, by rw [ht]; exact hr⟩, hS.F ht⟩) hS.2.2 h1 hlk
theorem zz_zret {v : Int} (hd : zT F.2.1 pc = some (.ireturn, q, t)) (hr1 : zret F.2.1 = some .boolean) (hn : narrow .boolean (zI v) = zI v) (hq : Q (.inl (some (zI v))) h) : Ev Z F pc L [zI v] h mc ms Q := by
  intro p e R s m args below meth c H locs cells slots ls hF hR hl hr hS hc hs
  obtain ⟨hx, hb, hml, hown, hts, hret, hlk, hnm, htb, hW, hEx, hok⟩ := id hF
  obtain ⟨h1, rfl⟩ := zdec hok hd 1 (fun _ _ => rfl)
  refine vx_ret (W.widen (k := F.2.2.2.1) (n := F.2.2.2.2) (by omega) (by omega) ?_)
  exact W.zret hx hb (hret.trans hr1) hn (fun t ht hW9 => ⟨⟨_, h, rfl, hq, by rw [ht]; exact hr⟩, hS.F ht⟩) hS.2.2 h1 hlk
theorem zz_vret (hd : zT F.2.1 pc = some (.return_, q, t)) (hr1 : zret F.2.1 = none) (hq : Q (.inl none) h) : Ev Z F pc L [] h mc ms Q := by
  intro p e R s m args below meth c H locs cells slots ls hF hR hl hr hS hc hs
  obtain ⟨hx, hb, hml, hown, hts, hret, hlk, hnm, htb, hW, hEx, hok⟩ := id hF
  obtain ⟨h1, rfl⟩ := zdec hok hd 1 (fun _ _ => rfl)
  refine vx_ret (W.widen (k := F.2.2.2.1) (n := F.2.2.2.2) (by omega) (by omega) ?_)
  exact W.vret hx hb (hret.trans hr1) (fun t ht hW9 => ⟨⟨_, h, rfl, hq, by rw [ht]; exact hr⟩, hS.F ht⟩) hS.2.2 h1 hlk
theorem zz_aret {v : Value} {rt : FieldType} (hd : zT F.2.1 pc = some (.areturn, q, t)) (hr1 : zret F.2.1 = some rt) (hrt : (∃ n, rt = .object n) ∨ ∃ t, rt = .array t) (hv : v = .null ∨ ∃ a, v = .ref a) (hq : Q (.inl (some v)) h) : Ev Z F pc L [v] h mc ms Q := by
  intro p e R s m args below meth c H locs cells slots ls hF hR hl hr hS hc hs
  obtain ⟨hx, hb, hml, hown, hts, hret, hlk, hnm, htb, hW, hEx, hok⟩ := id hF
  obtain ⟨h1, rfl⟩ := zdec hok hd 1 (fun _ _ => rfl)
  refine vx_ret (W.widen (k := F.2.2.2.1) (n := F.2.2.2.2) (by omega) (by omega) ?_)
  exact W.aret hx hb (hret.trans hr1) hrt hv (fun t ht hW9 => ⟨⟨_, h, rfl, hq, by rw [ht]; exact hr⟩, hS.F ht⟩) hS.2.2 h1 hlk
/-! ===== throw new E() ===== -/
def zThr (own : String) (ik ic : Nat) (E : String) (names : List String) : Prop := Bundle.fit E = true ∧ (∀ n ∈ names, Bundle.fit n = true) ∧ names.length ≤ 4 ∧ Cond.classLink own ik E ∈ zG ∧ Cond.initialized E ∈ zG ∧ (∀ w ∈ vx_at0 own ic E names, w ∈ zG ∨ (∃ q ∈ zcasts, w = .castable q.1 q.2) ∨ ∃ y ∈ zdecls, w = .declares y) ∧ (∀ w ∈ Cond.classLink own ik E :: Cond.initialized E :: vx_at0 own ic E names, vx_ot w = true)
theorem zz_throw {rest : List Value} {ik ic q0 q1 q2 q3 t0 t1 t2 t3 : Nat} {E : String} {names : List String} (hth : zThr (zy F.2.1).cls ik ic E names) (d0 : zT F.2.1 pc = some (.new ik, q0, t0)) (d3 : zT F.2.1 (pc + 3) = some (.dup, q1, t1)) (d4 : zT F.2.1 (pc + 4) = some (.invokespecial ic, q2, t2)) (d7 : zT F.2.1 (pc + 7) = some (.athrow, q3, t3)) (hh : zhh F.2.1 = []) (h8 : Nat.ble ((rest.map fun v => v.category).sum) 8 = true) (hq : Q (.inr E) h) : Ev Z F pc L rest h (mc + 1) (ms + 6) Q := by
  intro p e R s m args below meth c H locs cells slots ls hF hR hl hr hS hc hs
  obtain ⟨hx, hb, hml, hown, hts, hret, hlk, hnm, htb, hW, hEx, hok⟩ := id hF
  obtain ⟨w1, w2, w3, w4, w5, w6, w7⟩ := hth
  have hat : ∀ w ∈ vx_at0 (zy F.2.1).cls ic E names, w.before args s = true := by
    intro w hw
    rcases w6 w hw with h9 | ⟨y, hy, rfl⟩ | ⟨y, hy, rfl⟩
    · exact hts w h9
    · exact va_Nw.use rfl (hW.2.1.1 _ hy)
    · exact va_Nw.use rfl (hW.2.1.2.2.2.2.2 _ hy)
  have h89 : (rest.map fun v => v.category).sum ≤ 8 := Nat.le_of_ble_eq_true h8
  refine vx_throw0 (A := fun q => Z.2.2.2 ≤ q) hx hb hW.2.2.2.2 hown w1 w2 (hts _ w4) (hts _ w5) hat w7 hW.2.2.1.1 hW.2.2.1.2 hS (by rw [hl.1]; exact hml.symm)
    (zdec hok d0 3 (fun _ _ => rfl)).1 (zdec hok d3 1 (fun _ _ => rfl)).1 (zdec hok d4 3 (fun _ _ => rfl)).1 (zdec hok d7 1 (fun _ _ => rfl)).1 (fun x hx9 => ?_) ?_ ?_ ?_ ?_ hlk ?_ hS.2.2 (by omega) (by omega)
  · rw [htb, hh] at hx9
    cases hx9
  · have := hR.1; omega
  · have := hR.2.1; omega
  · have := hR.2.2.1; omega
  · have := hR.2.2.2; omega
  · intro t hal hz hk
    refine ⟨⟨h, hq, fun a e9 ha => ⟨((hr a e9 ha).1).kept (hk a (hr a e9 ha).1.lt), (hr a e9 ha).2⟩⟩, Nat.le_trans hS.1 hz, fun a h1 h2 => ?_⟩
    rw [hk a (Nat.lt_of_lt_of_le h1 hS.1)]
    exact hS.2.1 a h1 h2
/-! ===== Object.<init>, clone, Math ===== -/
theorem zz_oinit {idx a : Nat} (hd : zT F.2.1 pc = some (.invokespecial idx, q, t)) (hlink : Cond.methodLink (zy F.2.1).cls idx Lib.objectInit ∈ zG) (h8 : Nat.ble ((st.map fun v => v.category).sum) 8 = true) (k : Ev Z F q L st h mc ms Q) : Ev Z F pc L (.ref a :: st) h mc ms Q := by
  intro p e R s m args below meth c H locs cells slots ls hF hR hl hr hS hc hs
  obtain ⟨hx, hb, hml, hown, hts, hret, hlk, hnm, htb, hW, hEx, hok⟩ := id hF
  obtain ⟨h1, rfl⟩ := zdec hok hd 3 (fun _ _ => rfl)
  have h89 : (st.map fun v => v.category).sum ≤ 8 := Nat.le_of_ble_eq_true h8
  refine W.objInit hx hb hown (hts _ hlink) (hts _ zobjA) (hts _ zobjB) rfl (by rw [hml]; exact hl.1) rfl h1 (by have := hR.1; omega) ?_ (k p e R s m args below meth c H locs cells slots ls hF hR hl hr hS hc hs)
  show 2 * 0 + _ + 12 ≤ R.locals
  have := hR.2.1
  omega

theorem zz_mmax {idx : Nat} {x y : Int} (hd : zT F.2.1 pc = some (.invokestatic idx, q, t)) (hk : Cond.methodLink (zy F.2.1).cls idx Lib.Math.max.name ∈ zG ∧ Cond.static Lib.Math.max.name ∈ zG ∧ Cond.initialized "java/lang/Math" ∈ zG ∧ Cond.code Lib.Math.max.name Lib.Math.max.code 2 (some .int) ∈ zG) (h8 : Nat.ble ((st.map fun v => v.category).sum) 8 = true) (hx : -2147483648 ≤ x ∧ x < 2147483648) (hy : -2147483648 ≤ y ∧ y < 2147483648) (k : Ev Z F q L (zI (if x < y then y else x) :: st) h mc ms Q) : Ev Z F pc L (zI y :: zI x :: st) h mc ms Q := by
  intro p e R s m args below meth c H locs cells slots ls hF hR hl hr hS hc hs
  obtain ⟨hx0, hb, hml, hown, hts, hret, hlk, hnm, htb, hW, hEx, hok⟩ := id hF
  obtain ⟨h1, rfl⟩ := zdec hok hd 3 (fun _ _ => rfl)
  have h89 : (st.map fun v => v.category).sum ≤ 8 := Nat.le_of_ble_eq_true h8
  refine va_mmax hx0 hb (by rw [hml]; exact hl.1.symm) hown (hts _ hk.1) (hts _ hk.2.1) (hts _ hk.2.2.1) (hts _ hk.2.2.2) (by have := hR.1; omega) (by have := hR.2.1; omega) (by have := hR.2.2.1; omega) (by have := hR.2.2.2; omega) h1 ?_
  have e9 := zq_max hx hy
  rw [e9]
  exact k p e R s m args below meth c H locs cells slots ls hF hR hl hr hS hc hs
theorem zz_mmin {idx : Nat} {x y : Int} (hd : zT F.2.1 pc = some (.invokestatic idx, q, t)) (hk : Cond.methodLink (zy F.2.1).cls idx Lib.Math.min.name ∈ zG ∧ Cond.static Lib.Math.min.name ∈ zG ∧ Cond.initialized "java/lang/Math" ∈ zG ∧ Cond.code Lib.Math.min.name Lib.Math.min.code 2 (some .int) ∈ zG) (h8 : Nat.ble ((st.map fun v => v.category).sum) 8 = true) (hx : -2147483648 ≤ x ∧ x < 2147483648) (hy : -2147483648 ≤ y ∧ y < 2147483648) (k : Ev Z F q L (zI (if y < x then y else x) :: st) h mc ms Q) : Ev Z F pc L (zI y :: zI x :: st) h mc ms Q := by
  intro p e R s m args below meth c H locs cells slots ls hF hR hl hr hS hc hs
  obtain ⟨hx0, hb, hml, hown, hts, hret, hlk, hnm, htb, hW, hEx, hok⟩ := id hF
  obtain ⟨h1, rfl⟩ := zdec hok hd 3 (fun _ _ => rfl)
  have h89 : (st.map fun v => v.category).sum ≤ 8 := Nat.le_of_ble_eq_true h8
  refine va_mmin hx0 hb (by rw [hml]; exact hl.1.symm) hown (hts _ hk.1) (hts _ hk.2.1) (hts _ hk.2.2.1) (hts _ hk.2.2.2) (by have := hR.1; omega) (by have := hR.2.1; omega) (by have := hR.2.2.1; omega) (by have := hR.2.2.2; omega) h1 ?_
  have e9 := zq_min hx hy
  rw [e9]
  exact k p e R s m args below meth c H locs cells slots ls hF hR hl hr hS hc hs
theorem zz_mabs {idx : Nat} {x : Int} (hd : zT F.2.1 pc = some (.invokestatic idx, q, t)) (hk : Cond.methodLink (zy F.2.1).cls idx Lib.Math.abs.name ∈ zG ∧ Cond.static Lib.Math.abs.name ∈ zG ∧ Cond.initialized "java/lang/Math" ∈ zG ∧ Cond.code Lib.Math.abs.name Lib.Math.abs.code 1 (some .int) ∈ zG) (h8 : Nat.ble ((st.map fun v => v.category).sum) 8 = true) (hx : -2147483648 ≤ x ∧ x < 2147483648) (k : Ev Z F q L (zI (if 0 ≤ x then x else -x) :: st) h mc ms Q) : Ev Z F pc L (zI x :: st) h mc ms Q := by
  intro p e R s m args below meth c H locs cells slots ls hF hR hl hr hS hc hs
  obtain ⟨hx0, hb, hml, hown, hts, hret, hlk, hnm, htb, hW, hEx, hok⟩ := id hF
  obtain ⟨h1, rfl⟩ := zdec hok hd 3 (fun _ _ => rfl)
  have h89 : (st.map fun v => v.category).sum ≤ 8 := Nat.le_of_ble_eq_true h8
  refine va_mabs hx0 hb (by rw [hml]; exact hl.1.symm) hown (hts _ hk.1) (hts _ hk.2.1) (hts _ hk.2.2.1) (hts _ hk.2.2.2) (by have := hR.1; omega) (by have := hR.2.1; omega) (by have := hR.2.2.1; omega) (by have := hR.2.2.2; omega) h1 ?_
  rw [zq_abs hx]
  exact k p e R s m args below meth c H locs cells slots ls hF hR hl hr hS hc hs
theorem zz_clone {idx a g n : Nat} {f : Nat → Int} (g' N : Nat) (hd : zT F.2.1 pc = some (.invokevirtual idx, q, t)) (hk : Cond.methodLink (zy F.2.1).cls idx ⟨"[I", "clone", "()Ljava/lang/Object;"⟩ ∈ zG ∧ Cond.sameMethod "[I" "java/lang/Object" "clone" "()Ljava/lang/Object;" ∈ zG ∧ Cond.native ⟨"java/lang/Object", "clone", "()Ljava/lang/Object;"⟩ ∈ zG ∧ Cond.instanceMethod ⟨"java/lang/Object", "clone", "()Ljava/lang/Object;"⟩ ∈ zG ∧ Cond.selects "[I" ⟨"[I", "clone", "()Ljava/lang/Object;"⟩ ⟨"java/lang/Object", "clone", "()Ljava/lang/Object;"⟩ ∈ zG ∧ ("[I", "java/lang/Cloneable") ∈ zcasts) (h8 : Nat.ble ((st.map fun v => v.category).sum) 8 = true) (ha : h a = some (zi g n f)) (hN : n ≤ N)
    (kk : ∀ a', h a' = none → Ev Z F q L (.ref a' :: st) (zset h a' (zi g' n f)) mc ms Q) : Ev Z F pc L (.ref a :: st) h (mc + 1) (ms + N) Q := by
  intro p e R s m args below meth c H locs cells slots ls hF hR hl hr hS hc hs
  obtain ⟨hx, hb, hml, hown, hts, hret, hlk, hnm, htb, hW, hEx, hok⟩ := id hF
  obtain ⟨h1, rfl⟩ := zdec hok hd 3 (fun _ _ => rfl)
  have h89 : (st.map fun v => v.category).sum ≤ 8 := Nat.le_of_ble_eq_true h8
  obtain ⟨hk1, hk2, hk3, hk4, hk5, hk6⟩ := hk
  have hbs : Z.2.2.2 ≤ H.size := Nat.le_trans hW.2.2.2.1 hS.1
  refine zw_clone (Z := Z) hx hb (by rw [hml]; exact hl.1.symm) hown (hts _ hk1) (hts _ hk2) (hts _ hk3) (hts _ hk4) (hts _ hk5) (hW.2.1.1 _ hk6) hW.1 ((hr a _ ha).1) (by have := hR.1; omega) (by have := hR.2.1; omega) (by have := hR.2.2.1; omega) (by have := hR.2.2.2; omega) h1 fun H1 e1 z1 o1 => ?_
  exact kk H.size hr.fresh p e R s m args below meth c H1 locs (cells + 1) (slots + n) ls hF hR hl (hr.push e1 hbs o1) ⟨Nat.le_trans hS.1 (by omega), fun x h1 h2 => (o1 x (Nat.lt_of_lt_of_le h1 hS.1)).trans (hS.2.1 x h1 h2), hS.2.2⟩ (by omega) (by omega)
end ZR4
end
section
def tb_TS_init : ZT := fun pc => cond (Nat.blt pc 8) (cond (Nat.blt pc 4) (cond (Nat.blt pc 1) (cond (Nat.beq pc 0) (some (.aload_n 0, 1, 0)) none) (cond (Nat.beq pc 1) (some (.invokespecial 3, 4, 0)) none)) (cond (Nat.blt pc 5) (cond (Nat.beq pc 4) (some (.aload_n 0, 5, 0)) none) (cond (Nat.beq pc 5) (some (.new 9, 8, 0)) none))) (cond (Nat.blt pc 12) (cond (Nat.blt pc 9) (cond (Nat.beq pc 8) (some (.dup, 9, 0)) none) (cond (Nat.beq pc 9) (some (.invokespecial 11, 12, 0)) none)) (cond (Nat.blt pc 15) (cond (Nat.beq pc 12) (some (.putfield 12, 15, 0)) none) (cond (Nat.beq pc 15) (some (.return_, 16, 0)) none)))
def m_TS_init : MI := (⟨"TileStudio", "<init>", "()V"⟩, prog_1_method_1_code, 1, none, [], zmk 16 tb_TS_init)
theorem ok_TS_init : zok m_TS_init := zok_mk rfl (by decide +kernel)
def tb_History_init : ZT := fun pc => cond (Nat.blt pc 5) (cond (Nat.blt pc 1) (cond (Nat.beq pc 0) (some (.aload_n 0, 1, 0)) none) (cond (Nat.blt pc 4) (cond (Nat.beq pc 1) (some (.invokespecial 3, 4, 0)) none) (cond (Nat.beq pc 4) (some (.aload_n 0, 5, 0)) none))) (cond (Nat.blt pc 10) (cond (Nat.blt pc 7) (cond (Nat.beq pc 5) (some (.bipush 7, 7, 0)) none) (cond (Nat.beq pc 7) (some (.anewarray 9, 10, 0)) none)) (cond (Nat.blt pc 13) (cond (Nat.beq pc 10) (some (.putfield 11, 13, 0)) none) (cond (Nat.beq pc 13) (some (.return_, 14, 0)) none)))
def m_History_init : MI := (⟨"TileStudio$History", "<init>", "()V"⟩, prog_4_method_1_code, 1, none, [], zmk 14 tb_History_init)
theorem ok_History_init : zok m_History_init := zok_mk rfl (by decide +kernel)
def tb_TS_undo : ZT := fun pc => cond (Nat.blt pc 4) (cond (Nat.blt pc 1) (cond (Nat.beq pc 0) (some (.aload_n 0, 1, 0)) none) (cond (Nat.beq pc 1) (some (.getfield 12, 4, 0)) none)) (cond (Nat.blt pc 7) (cond (Nat.beq pc 4) (some (.invokevirtual 201, 7, 0)) none) (cond (Nat.beq pc 7) (some (.ireturn, 8, 0)) none))
def m_TS_undo : MI := (⟨"TileStudio", "undo", "()Z"⟩, prog_1_method_18_code, 1, (Option.some Jvm.ClassFile.FieldType.boolean), [], zmk 8 tb_TS_undo)
theorem ok_TS_undo : zok m_TS_undo := zok_mk rfl (by decide +kernel)
def tb_History_goBack : ZT := fun pc => cond (Nat.blt pc 10) (cond (Nat.blt pc 7) (cond (Nat.blt pc 1) (cond (Nat.beq pc 0) (some (.aload_n 0, 1, 0)) none) (cond (Nat.blt pc 4) (cond (Nat.beq pc 1) (some (.getfield 17, 4, 0)) none) (cond (Nat.beq pc 4) (some (.ifCond .gt 5, 7, 9)) none))) (cond (Nat.blt pc 8) (cond (Nat.beq pc 7) (some (.iconst 0, 8, 0)) none) (cond (Nat.blt pc 9) (cond (Nat.beq pc 8) (some (.ireturn, 9, 0)) none) (cond (Nat.beq pc 9) (some (.aload_n 0, 10, 0)) none)))) (cond (Nat.blt pc 15) (cond (Nat.blt pc 11) (cond (Nat.beq pc 10) (some (.dup, 11, 0)) none) (cond (Nat.blt pc 14) (cond (Nat.beq pc 11) (some (.getfield 17, 14, 0)) none) (cond (Nat.beq pc 14) (some (.iconst 1, 15, 0)) none))) (cond (Nat.blt pc 19) (cond (Nat.blt pc 16) (cond (Nat.beq pc 15) (some (.isub, 16, 0)) none) (cond (Nat.beq pc 16) (some (.putfield 17, 19, 0)) none)) (cond (Nat.blt pc 20) (cond (Nat.beq pc 19) (some (.iconst 1, 20, 0)) none) (cond (Nat.beq pc 20) (some (.ireturn, 21, 0)) none))))
def m_History_goBack : MI := (⟨"TileStudio$History", "goBack", "()Z"⟩, prog_4_method_6_code, 1, (Option.some Jvm.ClassFile.FieldType.boolean), [], zmk 21 tb_History_goBack)
theorem ok_History_goBack : zok m_History_goBack := zok_mk rfl (by decide +kernel)
def tb_TS_redo : ZT := fun pc => cond (Nat.blt pc 4) (cond (Nat.blt pc 1) (cond (Nat.beq pc 0) (some (.aload_n 0, 1, 0)) none) (cond (Nat.beq pc 1) (some (.getfield 12, 4, 0)) none)) (cond (Nat.blt pc 7) (cond (Nat.beq pc 4) (some (.invokevirtual 205, 7, 0)) none) (cond (Nat.beq pc 7) (some (.ireturn, 8, 0)) none))
def m_TS_redo : MI := (⟨"TileStudio", "redo", "()Z"⟩, prog_1_method_19_code, 1, (Option.some Jvm.ClassFile.FieldType.boolean), [], zmk 8 tb_TS_redo)
theorem ok_TS_redo : zok m_TS_redo := zok_mk rfl (by decide +kernel)
def tb_History_goForth : ZT := fun pc => cond (Nat.blt pc 13) (cond (Nat.blt pc 5) (cond (Nat.blt pc 1) (cond (Nat.beq pc 0) (some (.aload_n 0, 1, 0)) none) (cond (Nat.blt pc 4) (cond (Nat.beq pc 1) (some (.getfield 17, 4, 0)) none) (cond (Nat.beq pc 4) (some (.aload_n 0, 5, 0)) none))) (cond (Nat.blt pc 11) (cond (Nat.blt pc 8) (cond (Nat.beq pc 5) (some (.getfield 21, 8, 0)) none) (cond (Nat.beq pc 8) (some (.if_icmp .lt 5, 11, 13)) none)) (cond (Nat.blt pc 12) (cond (Nat.beq pc 11) (some (.iconst 0, 12, 0)) none) (cond (Nat.beq pc 12) (some (.ireturn, 13, 0)) none)))) (cond (Nat.blt pc 19) (cond (Nat.blt pc 15) (cond (Nat.blt pc 14) (cond (Nat.beq pc 13) (some (.aload_n 0, 14, 0)) none) (cond (Nat.beq pc 14) (some (.dup, 15, 0)) none)) (cond (Nat.blt pc 18) (cond (Nat.beq pc 15) (some (.getfield 17, 18, 0)) none) (cond (Nat.beq pc 18) (some (.iconst 1, 19, 0)) none))) (cond (Nat.blt pc 23) (cond (Nat.blt pc 20) (cond (Nat.beq pc 19) (some (.iadd, 20, 0)) none) (cond (Nat.beq pc 20) (some (.putfield 17, 23, 0)) none)) (cond (Nat.blt pc 24) (cond (Nat.beq pc 23) (some (.iconst 1, 24, 0)) none) (cond (Nat.beq pc 24) (some (.ireturn, 25, 0)) none))))
def m_History_goForth : MI := (⟨"TileStudio$History", "goForth", "()Z"⟩, prog_4_method_7_code, 1, (Option.some Jvm.ClassFile.FieldType.boolean), [], zmk 25 tb_History_goForth)
theorem ok_History_goForth : zok m_History_goForth := zok_mk rfl (by decide +kernel)
def tb_TS_count : ZT := fun pc => cond (Nat.blt pc 70) (cond (Nat.blt pc 19) (cond (Nat.blt pc 9) (cond (Nat.blt pc 2) (cond (Nat.blt pc 1) (cond (Nat.beq pc 0) (some (.iload_n 1, 1, 0)) none) (cond (Nat.beq pc 1) (some (.iconst 0, 2, 0)) none)) (cond (Nat.blt pc 3) (cond (Nat.beq pc 2) (some (.iconst 5, 3, 0)) none) (cond (Nat.blt pc 6) (cond (Nat.beq pc 3) (some (.invokestatic 16, 6, 0)) none) (cond (Nat.beq pc 6) (some (.ifCond .ne 5, 9, 11)) none)))) (cond (Nat.blt pc 12) (cond (Nat.blt pc 10) (cond (Nat.beq pc 9) (some (.iconst (-1), 10, 0)) none) (cond (Nat.blt pc 11) (cond (Nat.beq pc 10) (some (.ireturn, 11, 0)) none) (cond (Nat.beq pc 11) (some (.aload_n 0, 12, 0)) none))) (cond (Nat.blt pc 15) (cond (Nat.beq pc 12) (some (.getfield 12, 15, 0)) none) (cond (Nat.blt pc 18) (cond (Nat.beq pc 15) (some (.invokevirtual 236, 18, 0)) none) (cond (Nat.beq pc 18) (some (.astore_n 2, 19, 0)) none))))) (cond (Nat.blt pc 60) (cond (Nat.blt pc 24) (cond (Nat.blt pc 20) (cond (Nat.beq pc 19) (some (.aload_n 2, 20, 0)) none) (cond (Nat.blt pc 23) (cond (Nat.beq pc 20) (some (.ifnonnull 5, 23, 25)) none) (cond (Nat.beq pc 23) (some (.iconst 0, 24, 0)) none))) (cond (Nat.blt pc 25) (cond (Nat.beq pc 24) (some (.ireturn, 25, 0)) none) (cond (Nat.blt pc 26) (cond (Nat.beq pc 25) (some (.iload_n 1, 26, 0)) none) (cond (Nat.beq pc 26) (some (.tableswitch 69 0 4 #[34, 40, 48, 56, 61], 60, 0)) none)))) (cond (Nat.blt pc 65) (cond (Nat.blt pc 61) (cond (Nat.beq pc 60) (some (.aload_n 2, 61, 0)) none) (cond (Nat.blt pc 64) (cond (Nat.beq pc 61) (some (.getfield 52, 64, 0)) none) (cond (Nat.beq pc 64) (some (.arraylength, 65, 0)) none))) (cond (Nat.blt pc 66) (cond (Nat.beq pc 65) (some (.ireturn, 66, 0)) none) (cond (Nat.blt pc 67) (cond (Nat.beq pc 66) (some (.aload_n 0, 67, 0)) none) (cond (Nat.beq pc 67) (some (.getfield 12, 70, 0)) none)))))) (cond (Nat.blt pc 91) (cond (Nat.blt pc 81) (cond (Nat.blt pc 74) (cond (Nat.blt pc 73) (cond (Nat.beq pc 70) (some (.invokevirtual 239, 73, 0)) none) (cond (Nat.beq pc 73) (some (.ireturn, 74, 0)) none)) (cond (Nat.blt pc 75) (cond (Nat.beq pc 74) (some (.aload_n 0, 75, 0)) none) (cond (Nat.blt pc 78) (cond (Nat.beq pc 75) (some (.getfield 12, 78, 0)) none) (cond (Nat.beq pc 78) (some (.invokevirtual 242, 81, 0)) none)))) (cond (Nat.blt pc 86) (cond (Nat.blt pc 82) (cond (Nat.beq pc 81) (some (.ireturn, 82, 0)) none) (cond (Nat.blt pc 83) (cond (Nat.beq pc 82) (some (.aload_n 2, 83, 0)) none) (cond (Nat.beq pc 83) (some (.invokevirtual 208, 86, 0)) none))) (cond (Nat.blt pc 87) (cond (Nat.beq pc 86) (some (.ireturn, 87, 0)) none) (cond (Nat.blt pc 88) (cond (Nat.beq pc 87) (some (.aload_n 2, 88, 0)) none) (cond (Nat.beq pc 88) (some (.getfield 97, 91, 0)) none))))) (cond (Nat.blt pc 103) (cond (Nat.blt pc 98) (cond (Nat.blt pc 94) (cond (Nat.beq pc 91) (some (.invokevirtual 109, 94, 0)) none) (cond (Nat.blt pc 95) (cond (Nat.beq pc 94) (some (.ireturn, 95, 0)) none) (cond (Nat.beq pc 95) (some (.sipush 10000, 98, 0)) none))) (cond (Nat.blt pc 99) (cond (Nat.beq pc 98) (some (.aload_n 2, 99, 0)) none) (cond (Nat.blt pc 102) (cond (Nat.beq pc 99) (some (.getfield 59, 102, 0)) none) (cond (Nat.beq pc 102) (some (.imul, 103, 0)) none)))) (cond (Nat.blt pc 109) (cond (Nat.blt pc 105) (cond (Nat.beq pc 103) (some (.bipush 100, 105, 0)) none) (cond (Nat.blt pc 106) (cond (Nat.beq pc 105) (some (.aload_n 2, 106, 0)) none) (cond (Nat.beq pc 106) (some (.getfield 63, 109, 0)) none))) (cond (Nat.blt pc 110) (cond (Nat.beq pc 109) (some (.imul, 110, 0)) none) (cond (Nat.blt pc 111) (cond (Nat.beq pc 110) (some (.iadd, 111, 0)) none) (cond (Nat.beq pc 111) (some (.ireturn, 112, 0)) none))))))
def m_TS_count : MI := (⟨"TileStudio", "count", "(I)I"⟩, prog_1_method_25_code, 3, (Option.some Jvm.ClassFile.FieldType.int), [], zmk 112 tb_TS_count)
theorem ok_TS_count : zok m_TS_count := zok_mk rfl (by decide +kernel)
def tb_TS_isWithin : ZT := fun pc => cond (Nat.blt pc 7) (cond (Nat.blt pc 2) (cond (Nat.blt pc 1) (cond (Nat.beq pc 0) (some (.iload_n 0, 1, 0)) none) (cond (Nat.beq pc 1) (some (.iload_n 1, 2, 0)) none)) (cond (Nat.blt pc 5) (cond (Nat.beq pc 2) (some (.if_icmp .lt 12, 5, 14)) none) (cond (Nat.blt pc 6) (cond (Nat.beq pc 5) (some (.iload_n 0, 6, 0)) none) (cond (Nat.beq pc 6) (some (.iload_n 2, 7, 0)) none)))) (cond (Nat.blt pc 11) (cond (Nat.blt pc 10) (cond (Nat.beq pc 7) (some (.if_icmp .gt 7, 10, 14)) none) (cond (Nat.beq pc 10) (some (.iconst 1, 11, 0)) none)) (cond (Nat.blt pc 14) (cond (Nat.beq pc 11) (some (.goto 4, 14, 15)) none) (cond (Nat.blt pc 15) (cond (Nat.beq pc 14) (some (.iconst 0, 15, 0)) none) (cond (Nat.beq pc 15) (some (.ireturn, 16, 0)) none))))
def m_TS_isWithin : MI := (⟨"TileStudio", "isWithin", "(III)Z"⟩, prog_1_method_26_code, 3, (Option.some Jvm.ClassFile.FieldType.boolean), [], zmk 16 tb_TS_isWithin)
theorem ok_TS_isWithin : zok m_TS_isWithin := zok_mk rfl (by decide +kernel)
def tb_History_present : ZT := fun pc => cond (Nat.blt pc 5) (cond (Nat.blt pc 1) (cond (Nat.beq pc 0) (some (.aload_n 0, 1, 0)) none) (cond (Nat.blt pc 4) (cond (Nat.beq pc 1) (some (.getfield 11, 4, 0)) none) (cond (Nat.beq pc 4) (some (.aload_n 0, 5, 0)) none))) (cond (Nat.blt pc 8) (cond (Nat.beq pc 5) (some (.getfield 17, 8, 0)) none) (cond (Nat.blt pc 9) (cond (Nat.beq pc 8) (some (.aaload, 9, 0)) none) (cond (Nat.beq pc 9) (some (.areturn, 10, 0)) none)))
def m_History_present : MI := (⟨"TileStudio$History", "present", "()LTileStudio$Picture;"⟩, prog_4_method_2_code, 1, (Option.some (Jvm.ClassFile.FieldType.object "TileStudio$Picture")), [], zmk 10 tb_History_present)
theorem ok_History_present : zok m_History_present := zok_mk rfl (by decide +kernel)
def tb_History_stepsBack : ZT := fun pc => cond (Nat.blt pc 1) (cond (Nat.beq pc 0) (some (.aload_n 0, 1, 0)) none) (cond (Nat.blt pc 4) (cond (Nat.beq pc 1) (some (.getfield 17, 4, 0)) none) (cond (Nat.beq pc 4) (some (.ireturn, 5, 0)) none))
def m_History_stepsBack : MI := (⟨"TileStudio$History", "stepsBack", "()I"⟩, prog_4_method_8_code, 1, (Option.some Jvm.ClassFile.FieldType.int), [], zmk 5 tb_History_stepsBack)
theorem ok_History_stepsBack : zok m_History_stepsBack := zok_mk rfl (by decide +kernel)
def tb_History_stepsForth : ZT := fun pc => cond (Nat.blt pc 5) (cond (Nat.blt pc 1) (cond (Nat.beq pc 0) (some (.aload_n 0, 1, 0)) none) (cond (Nat.blt pc 4) (cond (Nat.beq pc 1) (some (.getfield 21, 4, 0)) none) (cond (Nat.beq pc 4) (some (.aload_n 0, 5, 0)) none))) (cond (Nat.blt pc 8) (cond (Nat.beq pc 5) (some (.getfield 17, 8, 0)) none) (cond (Nat.blt pc 9) (cond (Nat.beq pc 8) (some (.isub, 9, 0)) none) (cond (Nat.beq pc 9) (some (.ireturn, 10, 0)) none)))
def m_History_stepsForth : MI := (⟨"TileStudio$History", "stepsForth", "()I"⟩, prog_4_method_9_code, 1, (Option.some Jvm.ClassFile.FieldType.int), [], zmk 10 tb_History_stepsForth)
theorem ok_History_stepsForth : zok m_History_stepsForth := zok_mk rfl (by decide +kernel)
def tb_Picture_fullTiles : ZT := fun pc => cond (Nat.blt pc 14) (cond (Nat.blt pc 5) (cond (Nat.blt pc 2) (cond (Nat.blt pc 1) (cond (Nat.beq pc 0) (some (.iconst 0, 1, 0)) none) (cond (Nat.beq pc 1) (some (.istore_n 1, 2, 0)) none)) (cond (Nat.blt pc 3) (cond (Nat.beq pc 2) (some (.iconst 0, 3, 0)) none) (cond (Nat.blt pc 4) (cond (Nat.beq pc 3) (some (.istore_n 2, 4, 0)) none) (cond (Nat.beq pc 4) (some (.iload_n 2, 5, 0)) none)))) (cond (Nat.blt pc 9) (cond (Nat.blt pc 6) (cond (Nat.beq pc 5) (some (.aload_n 0, 6, 0)) none) (cond (Nat.beq pc 6) (some (.getfield 16, 9, 0)) none)) (cond (Nat.blt pc 10) (cond (Nat.beq pc 9) (some (.arraylength, 10, 0)) none) (cond (Nat.blt pc 13) (cond (Nat.beq pc 10) (some (.if_icmp .ge 21, 13, 31)) none) (cond (Nat.beq pc 13) (some (.iload_n 1, 14, 0)) none))))) (cond (Nat.blt pc 23) (cond (Nat.blt pc 18) (cond (Nat.blt pc 15) (cond (Nat.beq pc 14) (some (.aload_n 0, 15, 0)) none) (cond (Nat.beq pc 15) (some (.getfield 16, 18, 0)) none)) (cond (Nat.blt pc 19) (cond (Nat.beq pc 18) (some (.iload_n 2, 19, 0)) none) (cond (Nat.blt pc 20) (cond (Nat.beq pc 19) (some (.aaload, 20, 0)) none) (cond (Nat.beq pc 20) (some (.invokevirtual 33, 23, 0)) none)))) (cond (Nat.blt pc 28) (cond (Nat.blt pc 24) (cond (Nat.beq pc 23) (some (.iadd, 24, 0)) none) (cond (Nat.blt pc 25) (cond (Nat.beq pc 24) (some (.istore_n 1, 25, 0)) none) (cond (Nat.beq pc 25) (some (.iinc 2 1, 28, 0)) none))) (cond (Nat.blt pc 31) (cond (Nat.beq pc 28) (some (.goto (-24), 31, 4)) none) (cond (Nat.blt pc 32) (cond (Nat.beq pc 31) (some (.iload_n 1, 32, 0)) none) (cond (Nat.beq pc 32) (some (.ireturn, 33, 0)) none)))))
def m_Picture_fullTiles : MI := (⟨"TileStudio$Picture", "fullTiles", "()I"⟩, prog_7_method_5_code, 3, (Option.some Jvm.ClassFile.FieldType.int), [], zmk 33 tb_Picture_fullTiles)
theorem ok_Picture_fullTiles : zok m_Picture_fullTiles := zok_mk rfl (by decide +kernel)
def tb_Layer_fullTiles : ZT := fun pc => cond (Nat.blt pc 32) (cond (Nat.blt pc 14) (cond (Nat.blt pc 5) (cond (Nat.blt pc 2) (cond (Nat.blt pc 1) (cond (Nat.beq pc 0) (some (.iconst 0, 1, 0)) none) (cond (Nat.beq pc 1) (some (.istore_n 1, 2, 0)) none)) (cond (Nat.blt pc 3) (cond (Nat.beq pc 2) (some (.iconst 0, 3, 0)) none) (cond (Nat.blt pc 4) (cond (Nat.beq pc 3) (some (.istore_n 2, 4, 0)) none) (cond (Nat.beq pc 4) (some (.iload_n 2, 5, 0)) none)))) (cond (Nat.blt pc 9) (cond (Nat.blt pc 6) (cond (Nat.beq pc 5) (some (.aload_n 0, 6, 0)) none) (cond (Nat.beq pc 6) (some (.getfield 15, 9, 0)) none)) (cond (Nat.blt pc 12) (cond (Nat.beq pc 9) (some (.if_icmp .ge 50, 12, 59)) none) (cond (Nat.blt pc 13) (cond (Nat.beq pc 12) (some (.iconst 0, 13, 0)) none) (cond (Nat.beq pc 13) (some (.istore_n 3, 14, 0)) none))))) (cond (Nat.blt pc 23) (cond (Nat.blt pc 16) (cond (Nat.blt pc 15) (cond (Nat.beq pc 14) (some (.iload_n 3, 15, 0)) none) (cond (Nat.beq pc 15) (some (.aload_n 0, 16, 0)) none)) (cond (Nat.blt pc 19) (cond (Nat.beq pc 16) (some (.getfield 9, 19, 0)) none) (cond (Nat.blt pc 22) (cond (Nat.beq pc 19) (some (.if_icmp .ge 34, 22, 53)) none) (cond (Nat.beq pc 22) (some (.aload_n 0, 23, 0)) none)))) (cond (Nat.blt pc 25) (cond (Nat.blt pc 24) (cond (Nat.beq pc 23) (some (.iload_n 3, 24, 0)) none) (cond (Nat.beq pc 24) (some (.iload_n 2, 25, 0)) none)) (cond (Nat.blt pc 28) (cond (Nat.beq pc 25) (some (.invokevirtual 39, 28, 0)) none) (cond (Nat.blt pc 31) (cond (Nat.beq pc 28) (some (.ifCond .eq 19, 31, 47)) none) (cond (Nat.beq pc 31) (some (.iload_n 1, 32, 0)) none)))))) (cond (Nat.blt pc 44) (cond (Nat.blt pc 38) (cond (Nat.blt pc 34) (cond (Nat.blt pc 33) (cond (Nat.beq pc 32) (some (.iconst 1, 33, 0)) none) (cond (Nat.beq pc 33) (some (.iload_n 2, 34, 0)) none)) (cond (Nat.blt pc 36) (cond (Nat.beq pc 34) (some (.bipush 8, 36, 0)) none) (cond (Nat.blt pc 37) (cond (Nat.beq pc 36) (some (.idiv, 37, 0)) none) (cond (Nat.beq pc 37) (some (.iconst 3, 38, 0)) none)))) (cond (Nat.blt pc 40) (cond (Nat.blt pc 39) (cond (Nat.beq pc 38) (some (.imul, 39, 0)) none) (cond (Nat.beq pc 39) (some (.iload_n 3, 40, 0)) none)) (cond (Nat.blt pc 42) (cond (Nat.beq pc 40) (some (.bipush 8, 42, 0)) none) (cond (Nat.blt pc 43) (cond (Nat.beq pc 42) (some (.idiv, 43, 0)) none) (cond (Nat.beq pc 43) (some (.iadd, 44, 0)) none))))) (cond (Nat.blt pc 53) (cond (Nat.blt pc 46) (cond (Nat.blt pc 45) (cond (Nat.beq pc 44) (some (.ishl, 45, 0)) none) (cond (Nat.beq pc 45) (some (.ior, 46, 0)) none)) (cond (Nat.blt pc 47) (cond (Nat.beq pc 46) (some (.istore_n 1, 47, 0)) none) (cond (Nat.blt pc 50) (cond (Nat.beq pc 47) (some (.iinc 3 1, 50, 0)) none) (cond (Nat.beq pc 50) (some (.goto (-36), 53, 14)) none)))) (cond (Nat.blt pc 59) (cond (Nat.blt pc 56) (cond (Nat.beq pc 53) (some (.iinc 2 1, 56, 0)) none) (cond (Nat.beq pc 56) (some (.goto (-52), 59, 4)) none)) (cond (Nat.blt pc 60) (cond (Nat.beq pc 59) (some (.iload_n 1, 60, 0)) none) (cond (Nat.blt pc 63) (cond (Nat.beq pc 60) (some (.invokestatic 43, 63, 0)) none) (cond (Nat.beq pc 63) (some (.ireturn, 64, 0)) none))))))
def m_Layer_fullTiles : MI := (⟨"TileStudio$Layer", "fullTiles", "()I"⟩, prog_5_method_5_code, 4, (Option.some Jvm.ClassFile.FieldType.int), [], zmk 64 tb_Layer_fullTiles)
theorem ok_Layer_fullTiles : zok m_Layer_fullTiles := zok_mk rfl (by decide +kernel)
def tb_Layer_dotAt : ZT := fun pc => cond (Nat.blt pc 20) (cond (Nat.blt pc 7) (cond (Nat.blt pc 2) (cond (Nat.blt pc 1) (cond (Nat.beq pc 0) (some (.iload_n 1, 1, 0)) none) (cond (Nat.beq pc 1) (some (.iload_n 2, 2, 0)) none)) (cond (Nat.blt pc 3) (cond (Nat.beq pc 2) (some (.aload_n 0, 3, 0)) none) (cond (Nat.blt pc 6) (cond (Nat.beq pc 3) (some (.getfield 9, 6, 0)) none) (cond (Nat.beq pc 6) (some (.aload_n 0, 7, 0)) none)))) (cond (Nat.blt pc 13) (cond (Nat.blt pc 10) (cond (Nat.beq pc 7) (some (.getfield 15, 10, 0)) none) (cond (Nat.beq pc 10) (some (.invokestatic 35, 13, 0)) none)) (cond (Nat.blt pc 16) (cond (Nat.beq pc 13) (some (.ifCond .eq 19, 16, 32)) none) (cond (Nat.blt pc 17) (cond (Nat.beq pc 16) (some (.aload_n 0, 17, 0)) none) (cond (Nat.beq pc 17) (some (.getfield 18, 20, 0)) none))))) (cond (Nat.blt pc 27) (cond (Nat.blt pc 22) (cond (Nat.blt pc 21) (cond (Nat.beq pc 20) (some (.iload_n 2, 21, 0)) none) (cond (Nat.beq pc 21) (some (.aload_n 0, 22, 0)) none)) (cond (Nat.blt pc 25) (cond (Nat.beq pc 22) (some (.getfield 9, 25, 0)) none) (cond (Nat.blt pc 26) (cond (Nat.beq pc 25) (some (.imul, 26, 0)) none) (cond (Nat.beq pc 26) (some (.iload_n 1, 27, 0)) none)))) (cond (Nat.blt pc 29) (cond (Nat.blt pc 28) (cond (Nat.beq pc 27) (some (.iadd, 28, 0)) none) (cond (Nat.beq pc 28) (some (.iaload, 29, 0)) none)) (cond (Nat.blt pc 32) (cond (Nat.beq pc 29) (some (.goto 4, 32, 33)) none) (cond (Nat.blt pc 33) (cond (Nat.beq pc 32) (some (.iconst 0, 33, 0)) none) (cond (Nat.beq pc 33) (some (.ireturn, 34, 0)) none)))))
def m_Layer_dotAt : MI := (⟨"TileStudio$Layer", "dotAt", "(II)I"⟩, prog_5_method_4_code, 3, (Option.some Jvm.ClassFile.FieldType.int), [], zmk 34 tb_Layer_dotAt)
theorem ok_Layer_dotAt : zok m_Layer_dotAt := zok_mk rfl (by decide +kernel)
def tb_TS_isInBox : ZT := fun pc => cond (Nat.blt pc 13) (cond (Nat.blt pc 5) (cond (Nat.blt pc 1) (cond (Nat.beq pc 0) (some (.iload_n 0, 1, 0)) none) (cond (Nat.blt pc 4) (cond (Nat.beq pc 1) (some (.ifCond .lt 21, 4, 22)) none) (cond (Nat.beq pc 4) (some (.iload_n 0, 5, 0)) none))) (cond (Nat.blt pc 9) (cond (Nat.blt pc 6) (cond (Nat.beq pc 5) (some (.iload_n 2, 6, 0)) none) (cond (Nat.beq pc 6) (some (.if_icmp .ge 16, 9, 22)) none)) (cond (Nat.blt pc 10) (cond (Nat.beq pc 9) (some (.iload_n 1, 10, 0)) none) (cond (Nat.beq pc 10) (some (.ifCond .lt 12, 13, 22)) none)))) (cond (Nat.blt pc 18) (cond (Nat.blt pc 14) (cond (Nat.beq pc 13) (some (.iload_n 1, 14, 0)) none) (cond (Nat.blt pc 15) (cond (Nat.beq pc 14) (some (.iload_n 3, 15, 0)) none) (cond (Nat.beq pc 15) (some (.if_icmp .ge 7, 18, 22)) none))) (cond (Nat.blt pc 22) (cond (Nat.blt pc 19) (cond (Nat.beq pc 18) (some (.iconst 1, 19, 0)) none) (cond (Nat.beq pc 19) (some (.goto 4, 22, 23)) none)) (cond (Nat.blt pc 23) (cond (Nat.beq pc 22) (some (.iconst 0, 23, 0)) none) (cond (Nat.beq pc 23) (some (.ireturn, 24, 0)) none))))
def m_TS_isInBox : MI := (⟨"TileStudio", "isInBox", "(IIII)Z"⟩, prog_1_method_38_code, 4, (Option.some Jvm.ClassFile.FieldType.boolean), [], zmk 24 tb_TS_isInBox)
theorem ok_TS_isInBox : zok m_TS_isInBox := zok_mk rfl (by decide +kernel)
def tb_Int_bitCount : ZT := fun pc => cond (Nat.blt pc 27) (cond (Nat.blt pc 14) (cond (Nat.blt pc 7) (cond (Nat.blt pc 2) (cond (Nat.blt pc 1) (cond (Nat.beq pc 0) (some (.iload_n 0, 1, 0)) none) (cond (Nat.beq pc 1) (some (.iload_n 0, 2, 0)) none)) (cond (Nat.blt pc 3) (cond (Nat.beq pc 2) (some (.iconst 1, 3, 0)) none) (cond (Nat.blt pc 4) (cond (Nat.beq pc 3) (some (.iushr, 4, 0)) none) (cond (Nat.beq pc 4) (some (.ldc_w 265, 7, 0)) none)))) (cond (Nat.blt pc 9) (cond (Nat.blt pc 8) (cond (Nat.beq pc 7) (some (.iand, 8, 0)) none) (cond (Nat.beq pc 8) (some (.isub, 9, 0)) none)) (cond (Nat.blt pc 10) (cond (Nat.beq pc 9) (some (.istore_n 0, 10, 0)) none) (cond (Nat.blt pc 11) (cond (Nat.beq pc 10) (some (.iload_n 0, 11, 0)) none) (cond (Nat.beq pc 11) (some (.ldc_w 266, 14, 0)) none))))) (cond (Nat.blt pc 21) (cond (Nat.blt pc 16) (cond (Nat.blt pc 15) (cond (Nat.beq pc 14) (some (.iand, 15, 0)) none) (cond (Nat.beq pc 15) (some (.iload_n 0, 16, 0)) none)) (cond (Nat.blt pc 17) (cond (Nat.beq pc 16) (some (.iconst 2, 17, 0)) none) (cond (Nat.blt pc 18) (cond (Nat.beq pc 17) (some (.iushr, 18, 0)) none) (cond (Nat.beq pc 18) (some (.ldc_w 266, 21, 0)) none)))) (cond (Nat.blt pc 24) (cond (Nat.blt pc 22) (cond (Nat.beq pc 21) (some (.iand, 22, 0)) none) (cond (Nat.blt pc 23) (cond (Nat.beq pc 22) (some (.iadd, 23, 0)) none) (cond (Nat.beq pc 23) (some (.istore_n 0, 24, 0)) none))) (cond (Nat.blt pc 25) (cond (Nat.beq pc 24) (some (.iload_n 0, 25, 0)) none) (cond (Nat.blt pc 26) (cond (Nat.beq pc 25) (some (.iload_n 0, 26, 0)) none) (cond (Nat.beq pc 26) (some (.iconst 4, 27, 0)) none)))))) (cond (Nat.blt pc 40) (cond (Nat.blt pc 34) (cond (Nat.blt pc 29) (cond (Nat.blt pc 28) (cond (Nat.beq pc 27) (some (.iushr, 28, 0)) none) (cond (Nat.beq pc 28) (some (.iadd, 29, 0)) none)) (cond (Nat.blt pc 32) (cond (Nat.beq pc 29) (some (.ldc_w 267, 32, 0)) none) (cond (Nat.blt pc 33) (cond (Nat.beq pc 32) (some (.iand, 33, 0)) none) (cond (Nat.beq pc 33) (some (.istore_n 0, 34, 0)) none)))) (cond (Nat.blt pc 36) (cond (Nat.blt pc 35) (cond (Nat.beq pc 34) (some (.iload_n 0, 35, 0)) none) (cond (Nat.beq pc 35) (some (.iload_n 0, 36, 0)) none)) (cond (Nat.blt pc 38) (cond (Nat.beq pc 36) (some (.bipush 8, 38, 0)) none) (cond (Nat.blt pc 39) (cond (Nat.beq pc 38) (some (.iushr, 39, 0)) none) (cond (Nat.beq pc 39) (some (.iadd, 40, 0)) none))))) (cond (Nat.blt pc 46) (cond (Nat.blt pc 42) (cond (Nat.blt pc 41) (cond (Nat.beq pc 40) (some (.istore_n 0, 41, 0)) none) (cond (Nat.beq pc 41) (some (.iload_n 0, 42, 0)) none)) (cond (Nat.blt pc 43) (cond (Nat.beq pc 42) (some (.iload_n 0, 43, 0)) none) (cond (Nat.blt pc 45) (cond (Nat.beq pc 43) (some (.bipush 16, 45, 0)) none) (cond (Nat.beq pc 45) (some (.iushr, 46, 0)) none)))) (cond (Nat.blt pc 49) (cond (Nat.blt pc 47) (cond (Nat.beq pc 46) (some (.iadd, 47, 0)) none) (cond (Nat.blt pc 48) (cond (Nat.beq pc 47) (some (.istore_n 0, 48, 0)) none) (cond (Nat.beq pc 48) (some (.iload_n 0, 49, 0)) none))) (cond (Nat.blt pc 51) (cond (Nat.beq pc 49) (some (.bipush 63, 51, 0)) none) (cond (Nat.blt pc 52) (cond (Nat.beq pc 51) (some (.iand, 52, 0)) none) (cond (Nat.beq pc 52) (some (.ireturn, 53, 0)) none))))))
def m_Int_bitCount : MI := (⟨"java/lang/Integer", "bitCount", "(I)I"⟩, prog_16_method_49_code, 1, (Option.some Jvm.ClassFile.FieldType.int), [], zmk 53 tb_Int_bitCount)
theorem ok_Int_bitCount : zok m_Int_bitCount := zok_mk rfl (by decide +kernel)
def tb_Places_size : ZT := fun pc => cond (Nat.blt pc 14) (cond (Nat.blt pc 5) (cond (Nat.blt pc 2) (cond (Nat.blt pc 1) (cond (Nat.beq pc 0) (some (.iconst 0, 1, 0)) none) (cond (Nat.beq pc 1) (some (.istore_n 1, 2, 0)) none)) (cond (Nat.blt pc 3) (cond (Nat.beq pc 2) (some (.iconst 0, 3, 0)) none) (cond (Nat.blt pc 4) (cond (Nat.beq pc 3) (some (.istore_n 2, 4, 0)) none) (cond (Nat.beq pc 4) (some (.iload_n 2, 5, 0)) none)))) (cond (Nat.blt pc 9) (cond (Nat.blt pc 6) (cond (Nat.beq pc 5) (some (.aload_n 0, 6, 0)) none) (cond (Nat.beq pc 6) (some (.getfield 13, 9, 0)) none)) (cond (Nat.blt pc 10) (cond (Nat.beq pc 9) (some (.arraylength, 10, 0)) none) (cond (Nat.blt pc 13) (cond (Nat.beq pc 10) (some (.if_icmp .ge 21, 13, 31)) none) (cond (Nat.beq pc 13) (some (.iload_n 1, 14, 0)) none))))) (cond (Nat.blt pc 23) (cond (Nat.blt pc 18) (cond (Nat.blt pc 15) (cond (Nat.beq pc 14) (some (.aload_n 0, 15, 0)) none) (cond (Nat.beq pc 15) (some (.getfield 13, 18, 0)) none)) (cond (Nat.blt pc 19) (cond (Nat.beq pc 18) (some (.iload_n 2, 19, 0)) none) (cond (Nat.blt pc 20) (cond (Nat.beq pc 19) (some (.iaload, 20, 0)) none) (cond (Nat.beq pc 20) (some (.invokestatic 27, 23, 0)) none)))) (cond (Nat.blt pc 28) (cond (Nat.blt pc 24) (cond (Nat.beq pc 23) (some (.iadd, 24, 0)) none) (cond (Nat.blt pc 25) (cond (Nat.beq pc 24) (some (.istore_n 1, 25, 0)) none) (cond (Nat.beq pc 25) (some (.iinc 2 1, 28, 0)) none))) (cond (Nat.blt pc 31) (cond (Nat.beq pc 28) (some (.goto (-24), 31, 4)) none) (cond (Nat.blt pc 32) (cond (Nat.beq pc 31) (some (.iload_n 1, 32, 0)) none) (cond (Nat.beq pc 32) (some (.ireturn, 33, 0)) none)))))
def m_Places_size : MI := (⟨"TileStudio$Places", "size", "()I"⟩, prog_8_method_6_code, 3, (Option.some Jvm.ClassFile.FieldType.int), [], zmk 33 tb_Places_size)
theorem ok_Places_size : zok m_Places_size := zok_mk rfl (by decide +kernel)
def tb_L_make : ZT := fun pc => cond (Nat.blt pc 9) (cond (Nat.blt pc 2) (cond (Nat.blt pc 1) (cond (Nat.beq pc 0) (some (.aload_n 0, 1, 0)) none) (cond (Nat.beq pc 1) (some (.iload_n 1, 2, 0)) none)) (cond (Nat.blt pc 3) (cond (Nat.beq pc 2) (some (.iload_n 2, 3, 0)) none) (cond (Nat.blt pc 6) (cond (Nat.beq pc 3) (some (.invokevirtual 7, 6, 0)) none) (cond (Nat.beq pc 6) (some (.goto 6, 9, 12)) none)))) (cond (Nat.blt pc 11) (cond (Nat.blt pc 10) (cond (Nat.beq pc 9) (some (.astore_n 3, 10, 0)) none) (cond (Nat.beq pc 10) (some (.iconst 1, 11, 0)) none)) (cond (Nat.blt pc 12) (cond (Nat.beq pc 11) (some (.ireturn, 12, 0)) none) (cond (Nat.blt pc 13) (cond (Nat.beq pc 12) (some (.iconst 0, 13, 0)) none) (cond (Nat.beq pc 13) (some (.ireturn, 14, 0)) none))))
def m_L_make : MI := (⟨"TileStudioLaw", "make", "(LTileStudio;II)I"⟩, method_3_code, 4, (Option.some Jvm.ClassFile.FieldType.int), [(0, 6, 9, 13)], zmk 14 tb_L_make)
theorem ok_L_make : zok m_L_make := zok_mk rfl (by decide +kernel)
def tb_TS_make : ZT := fun pc => cond (Nat.blt pc 41) (cond (Nat.blt pc 21) (cond (Nat.blt pc 10) (cond (Nat.blt pc 2) (cond (Nat.blt pc 1) (cond (Nat.beq pc 0) (some (.iload_n 1, 1, 0)) none) (cond (Nat.beq pc 1) (some (.iconst 1, 2, 0)) none)) (cond (Nat.blt pc 4) (cond (Nat.beq pc 2) (some (.bipush 24, 4, 0)) none) (cond (Nat.blt pc 7) (cond (Nat.beq pc 4) (some (.invokestatic 16, 7, 0)) none) (cond (Nat.beq pc 7) (some (.ifCond .eq 17, 10, 24)) none)))) (cond (Nat.blt pc 14) (cond (Nat.blt pc 11) (cond (Nat.beq pc 10) (some (.iload_n 2, 11, 0)) none) (cond (Nat.blt pc 12) (cond (Nat.beq pc 11) (some (.iconst 1, 12, 0)) none) (cond (Nat.beq pc 12) (some (.bipush 24, 14, 0)) none))) (cond (Nat.blt pc 17) (cond (Nat.beq pc 14) (some (.invokestatic 16, 17, 0)) none) (cond (Nat.blt pc 20) (cond (Nat.beq pc 17) (some (.ifCond .eq 7, 20, 24)) none) (cond (Nat.beq pc 20) (some (.iconst 1, 21, 0)) none))))) (cond (Nat.blt pc 33) (cond (Nat.blt pc 28) (cond (Nat.blt pc 24) (cond (Nat.beq pc 21) (some (.goto 4, 24, 25)) none) (cond (Nat.blt pc 25) (cond (Nat.beq pc 24) (some (.iconst 0, 25, 0)) none) (cond (Nat.beq pc 25) (some (.invokestatic 20, 28, 0)) none))) (cond (Nat.blt pc 31) (cond (Nat.beq pc 28) (some (.new 24, 31, 0)) none) (cond (Nat.blt pc 32) (cond (Nat.beq pc 31) (some (.dup, 32, 0)) none) (cond (Nat.beq pc 32) (some (.iload_n 1, 33, 0)) none)))) (cond (Nat.blt pc 38) (cond (Nat.blt pc 34) (cond (Nat.beq pc 33) (some (.iload_n 2, 34, 0)) none) (cond (Nat.blt pc 37) (cond (Nat.beq pc 34) (some (.invokespecial 26, 37, 0)) none) (cond (Nat.beq pc 37) (some (.astore_n 3, 38, 0)) none))) (cond (Nat.blt pc 39) (cond (Nat.beq pc 38) (some (.aload_n 3, 39, 0)) none) (cond (Nat.blt pc 40) (cond (Nat.beq pc 39) (some (.iconst 0, 40, 0)) none) (cond (Nat.beq pc 40) (some (.iconst 0, 41, 0)) none)))))) (cond (Nat.blt pc 58) (cond (Nat.blt pc 50) (cond (Nat.blt pc 43) (cond (Nat.blt pc 42) (cond (Nat.beq pc 41) (some (.iload_n 1, 42, 0)) none) (cond (Nat.beq pc 42) (some (.iload_n 2, 43, 0)) none)) (cond (Nat.blt pc 46) (cond (Nat.beq pc 43) (some (.invokestatic 29, 46, 0)) none) (cond (Nat.blt pc 47) (cond (Nat.beq pc 46) (some (.iconst 1, 47, 0)) none) (cond (Nat.beq pc 47) (some (.anewarray 33, 50, 0)) none)))) (cond (Nat.blt pc 53) (cond (Nat.blt pc 51) (cond (Nat.beq pc 50) (some (.dup, 51, 0)) none) (cond (Nat.blt pc 52) (cond (Nat.beq pc 51) (some (.iconst 0, 52, 0)) none) (cond (Nat.beq pc 52) (some (.iload_n 1, 53, 0)) none))) (cond (Nat.blt pc 54) (cond (Nat.beq pc 53) (some (.iload_n 2, 54, 0)) none) (cond (Nat.blt pc 57) (cond (Nat.beq pc 54) (some (.invokestatic 35, 57, 0)) none) (cond (Nat.beq pc 57) (some (.aastore, 58, 0)) none))))) (cond (Nat.blt pc 69) (cond (Nat.blt pc 64) (cond (Nat.blt pc 60) (cond (Nat.beq pc 58) (some (.astore 4, 60, 0)) none) (cond (Nat.blt pc 61) (cond (Nat.beq pc 60) (some (.aload_n 0, 61, 0)) none) (cond (Nat.beq pc 61) (some (.getfield 12, 64, 0)) none))) (cond (Nat.blt pc 67) (cond (Nat.beq pc 64) (some (.new 39, 67, 0)) none) (cond (Nat.blt pc 68) (cond (Nat.beq pc 67) (some (.dup, 68, 0)) none) (cond (Nat.beq pc 68) (some (.iload_n 1, 69, 0)) none)))) (cond (Nat.blt pc 73) (cond (Nat.blt pc 70) (cond (Nat.beq pc 69) (some (.iload_n 2, 70, 0)) none) (cond (Nat.blt pc 72) (cond (Nat.beq pc 70) (some (.aload 4, 72, 0)) none) (cond (Nat.beq pc 72) (some (.aload_n 3, 73, 0)) none))) (cond (Nat.blt pc 76) (cond (Nat.beq pc 73) (some (.invokespecial 41, 76, 0)) none) (cond (Nat.blt pc 79) (cond (Nat.beq pc 76) (some (.invokevirtual 44, 79, 0)) none) (cond (Nat.beq pc 79) (some (.return_, 80, 0)) none))))))
def m_TS_make : MI := (⟨"TileStudio", "make", "(II)V"⟩, prog_1_method_2_code, 5, none, [], zmk 80 tb_TS_make)
theorem ok_TS_make : zok m_TS_make := zok_mk rfl (by decide +kernel)
def tb_TS_require : ZT := fun pc => cond (Nat.blt pc 7) (cond (Nat.blt pc 1) (cond (Nat.beq pc 0) (some (.iload_n 0, 1, 0)) none) (cond (Nat.blt pc 4) (cond (Nat.beq pc 1) (some (.ifCond .ne 11, 4, 12)) none) (cond (Nat.beq pc 4) (some (.new 245, 7, 0)) none))) (cond (Nat.blt pc 11) (cond (Nat.blt pc 8) (cond (Nat.beq pc 7) (some (.dup, 8, 0)) none) (cond (Nat.beq pc 8) (some (.invokespecial 247, 11, 0)) none)) (cond (Nat.blt pc 12) (cond (Nat.beq pc 11) (some (.athrow, 12, 0)) none) (cond (Nat.beq pc 12) (some (.return_, 13, 0)) none)))
def m_TS_require : MI := (⟨"TileStudio", "require", "(Z)V"⟩, prog_1_method_27_code, 1, none, [], zmk 13 tb_TS_require)
theorem ok_TS_require : zok m_TS_require := zok_mk rfl (by decide +kernel)
def tb_Places_init : ZT := fun pc => cond (Nat.blt pc 9) (cond (Nat.blt pc 4) (cond (Nat.blt pc 1) (cond (Nat.beq pc 0) (some (.aload_n 0, 1, 0)) none) (cond (Nat.beq pc 1) (some (.invokespecial 1, 4, 0)) none)) (cond (Nat.blt pc 5) (cond (Nat.beq pc 4) (some (.aload_n 0, 5, 0)) none) (cond (Nat.blt pc 6) (cond (Nat.beq pc 5) (some (.iload_n 1, 6, 0)) none) (cond (Nat.beq pc 6) (some (.putfield 7, 9, 0)) none)))) (cond (Nat.blt pc 11) (cond (Nat.blt pc 10) (cond (Nat.beq pc 9) (some (.aload_n 0, 10, 0)) none) (cond (Nat.beq pc 10) (some (.iload_n 2, 11, 0)) none)) (cond (Nat.blt pc 13) (cond (Nat.beq pc 11) (some (.newarray .int, 13, 0)) none) (cond (Nat.blt pc 16) (cond (Nat.beq pc 13) (some (.putfield 13, 16, 0)) none) (cond (Nat.beq pc 16) (some (.return_, 17, 0)) none))))
def m_Places_init : MI := (⟨"TileStudio$Places", "<init>", "(II)V"⟩, prog_8_method_1_code, 3, none, [], zmk 17 tb_Places_init)
theorem ok_Places_init : zok m_Places_init := zok_mk rfl (by decide +kernel)
def tb_TS_addRectangle : ZT := fun pc => cond (Nat.blt pc 28) (cond (Nat.blt pc 13) (cond (Nat.blt pc 5) (cond (Nat.blt pc 1) (cond (Nat.beq pc 0) (some (.iconst 0, 1, 0)) none) (cond (Nat.blt pc 3) (cond (Nat.beq pc 1) (some (.istore 5, 3, 0)) none) (cond (Nat.beq pc 3) (some (.iload 5, 5, 0)) none))) (cond (Nat.blt pc 9) (cond (Nat.blt pc 6) (cond (Nat.beq pc 5) (some (.aload_n 0, 6, 0)) none) (cond (Nat.beq pc 6) (some (.invokevirtual 260, 9, 0)) none)) (cond (Nat.blt pc 12) (cond (Nat.beq pc 9) (some (.if_icmp .ge 52, 12, 61)) none) (cond (Nat.beq pc 12) (some (.iconst 0, 13, 0)) none)))) (cond (Nat.blt pc 21) (cond (Nat.blt pc 17) (cond (Nat.blt pc 15) (cond (Nat.beq pc 13) (some (.istore 6, 15, 0)) none) (cond (Nat.beq pc 15) (some (.iload 6, 17, 0)) none)) (cond (Nat.blt pc 18) (cond (Nat.beq pc 17) (some (.aload_n 0, 18, 0)) none) (cond (Nat.beq pc 18) (some (.getfield 261, 21, 0)) none))) (cond (Nat.blt pc 26) (cond (Nat.blt pc 24) (cond (Nat.beq pc 21) (some (.if_icmp .ge 34, 24, 55)) none) (cond (Nat.beq pc 24) (some (.iload 6, 26, 0)) none)) (cond (Nat.blt pc 27) (cond (Nat.beq pc 26) (some (.iload_n 1, 27, 0)) none) (cond (Nat.beq pc 27) (some (.isub, 28, 0)) none))))) (cond (Nat.blt pc 42) (cond (Nat.blt pc 33) (cond (Nat.blt pc 31) (cond (Nat.blt pc 30) (cond (Nat.beq pc 28) (some (.iload 5, 30, 0)) none) (cond (Nat.beq pc 30) (some (.iload_n 2, 31, 0)) none)) (cond (Nat.blt pc 32) (cond (Nat.beq pc 31) (some (.isub, 32, 0)) none) (cond (Nat.beq pc 32) (some (.iload_n 3, 33, 0)) none))) (cond (Nat.blt pc 38) (cond (Nat.blt pc 35) (cond (Nat.beq pc 33) (some (.iload 4, 35, 0)) none) (cond (Nat.beq pc 35) (some (.invokestatic 262, 38, 0)) none)) (cond (Nat.blt pc 41) (cond (Nat.beq pc 38) (some (.ifCond .eq 11, 41, 49)) none) (cond (Nat.beq pc 41) (some (.aload_n 0, 42, 0)) none)))) (cond (Nat.blt pc 52) (cond (Nat.blt pc 46) (cond (Nat.blt pc 44) (cond (Nat.beq pc 42) (some (.iload 6, 44, 0)) none) (cond (Nat.beq pc 44) (some (.iload 5, 46, 0)) none)) (cond (Nat.blt pc 49) (cond (Nat.beq pc 46) (some (.invokevirtual 266, 49, 0)) none) (cond (Nat.beq pc 49) (some (.iinc 6 1, 52, 0)) none))) (cond (Nat.blt pc 58) (cond (Nat.blt pc 55) (cond (Nat.beq pc 52) (some (.goto (-37), 55, 15)) none) (cond (Nat.beq pc 55) (some (.iinc 5 1, 58, 0)) none)) (cond (Nat.blt pc 61) (cond (Nat.beq pc 58) (some (.goto (-55), 61, 3)) none) (cond (Nat.beq pc 61) (some (.return_, 62, 0)) none)))))
def m_TS_addRectangle : MI := (⟨"TileStudio", "addRectangle", "(LTileStudio$Places;IIII)V"⟩, prog_1_method_36_code, 7, none, [], zmk 62 tb_TS_addRectangle)
theorem ok_TS_addRectangle : zok m_TS_addRectangle := zok_mk rfl (by decide +kernel)
def tb_Places_height : ZT := fun pc => cond (Nat.blt pc 4) (cond (Nat.blt pc 1) (cond (Nat.beq pc 0) (some (.aload_n 0, 1, 0)) none) (cond (Nat.beq pc 1) (some (.getfield 13, 4, 0)) none)) (cond (Nat.blt pc 5) (cond (Nat.beq pc 4) (some (.arraylength, 5, 0)) none) (cond (Nat.beq pc 5) (some (.ireturn, 6, 0)) none))
def m_Places_height : MI := (⟨"TileStudio$Places", "height", "()I"⟩, prog_8_method_2_code, 1, (Option.some Jvm.ClassFile.FieldType.int), [], zmk 6 tb_Places_height)
theorem ok_Places_height : zok m_Places_height := zok_mk rfl (by decide +kernel)
def tb_Places_add : ZT := fun pc => cond (Nat.blt pc 18) (cond (Nat.blt pc 7) (cond (Nat.blt pc 2) (cond (Nat.blt pc 1) (cond (Nat.beq pc 0) (some (.iload_n 1, 1, 0)) none) (cond (Nat.beq pc 1) (some (.iload_n 2, 2, 0)) none)) (cond (Nat.blt pc 3) (cond (Nat.beq pc 2) (some (.aload_n 0, 3, 0)) none) (cond (Nat.blt pc 6) (cond (Nat.beq pc 3) (some (.getfield 7, 6, 0)) none) (cond (Nat.beq pc 6) (some (.aload_n 0, 7, 0)) none)))) (cond (Nat.blt pc 11) (cond (Nat.blt pc 10) (cond (Nat.beq pc 7) (some (.getfield 13, 10, 0)) none) (cond (Nat.beq pc 10) (some (.arraylength, 11, 0)) none)) (cond (Nat.blt pc 14) (cond (Nat.beq pc 11) (some (.invokestatic 21, 14, 0)) none) (cond (Nat.blt pc 17) (cond (Nat.beq pc 14) (some (.ifCond .eq 15, 17, 29)) none) (cond (Nat.beq pc 17) (some (.aload_n 0, 18, 0)) none))))) (cond (Nat.blt pc 25) (cond (Nat.blt pc 22) (cond (Nat.blt pc 21) (cond (Nat.beq pc 18) (some (.getfield 13, 21, 0)) none) (cond (Nat.beq pc 21) (some (.iload_n 2, 22, 0)) none)) (cond (Nat.blt pc 23) (cond (Nat.beq pc 22) (some (.dup2, 23, 0)) none) (cond (Nat.blt pc 24) (cond (Nat.beq pc 23) (some (.iaload, 24, 0)) none) (cond (Nat.beq pc 24) (some (.iconst 1, 25, 0)) none)))) (cond (Nat.blt pc 27) (cond (Nat.blt pc 26) (cond (Nat.beq pc 25) (some (.iload_n 1, 26, 0)) none) (cond (Nat.beq pc 26) (some (.ishl, 27, 0)) none)) (cond (Nat.blt pc 28) (cond (Nat.beq pc 27) (some (.ior, 28, 0)) none) (cond (Nat.blt pc 29) (cond (Nat.beq pc 28) (some (.iastore, 29, 0)) none) (cond (Nat.beq pc 29) (some (.return_, 30, 0)) none)))))
def m_Places_add : MI := (⟨"TileStudio$Places", "add", "(II)V"⟩, prog_8_method_5_code, 3, none, [], zmk 30 tb_Places_add)
theorem ok_Places_add : zok m_Places_add := zok_mk rfl (by decide +kernel)
def tb_TS_clearLayer : ZT := fun pc => cond (Nat.blt pc 8) (cond (Nat.blt pc 5) (cond (Nat.blt pc 3) (cond (Nat.beq pc 0) (some (.new 33, 3, 0)) none) (cond (Nat.blt pc 4) (cond (Nat.beq pc 3) (some (.dup, 4, 0)) none) (cond (Nat.beq pc 4) (some (.iload_n 0, 5, 0)) none))) (cond (Nat.blt pc 6) (cond (Nat.beq pc 5) (some (.iload_n 1, 6, 0)) none) (cond (Nat.blt pc 7) (cond (Nat.beq pc 6) (some (.iload_n 0, 7, 0)) none) (cond (Nat.beq pc 7) (some (.iload_n 1, 8, 0)) none)))) (cond (Nat.blt pc 12) (cond (Nat.blt pc 9) (cond (Nat.beq pc 8) (some (.imul, 9, 0)) none) (cond (Nat.blt pc 11) (cond (Nat.beq pc 9) (some (.newarray .int, 11, 0)) none) (cond (Nat.beq pc 11) (some (.iconst 0, 12, 0)) none))) (cond (Nat.blt pc 16) (cond (Nat.blt pc 15) (cond (Nat.beq pc 12) (some (.sipush 255, 15, 0)) none) (cond (Nat.beq pc 15) (some (.iconst 1, 16, 0)) none)) (cond (Nat.blt pc 19) (cond (Nat.beq pc 16) (some (.invokespecial 257, 19, 0)) none) (cond (Nat.beq pc 19) (some (.areturn, 20, 0)) none))))
def m_TS_clearLayer : MI := (⟨"TileStudio", "clearLayer", "(II)LTileStudio$Layer;"⟩, prog_1_method_33_code, 2, (Option.some (Jvm.ClassFile.FieldType.object "TileStudio$Layer")), [], zmk 20 tb_TS_clearLayer)
theorem ok_TS_clearLayer : zok m_TS_clearLayer := zok_mk rfl (by decide +kernel)
def tb_Layer_init : ZT := fun pc => cond (Nat.blt pc 16) (cond (Nat.blt pc 9) (cond (Nat.blt pc 4) (cond (Nat.blt pc 1) (cond (Nat.beq pc 0) (some (.aload_n 0, 1, 0)) none) (cond (Nat.beq pc 1) (some (.invokespecial 3, 4, 0)) none)) (cond (Nat.blt pc 5) (cond (Nat.beq pc 4) (some (.aload_n 0, 5, 0)) none) (cond (Nat.blt pc 6) (cond (Nat.beq pc 5) (some (.iload_n 1, 6, 0)) none) (cond (Nat.beq pc 6) (some (.putfield 9, 9, 0)) none)))) (cond (Nat.blt pc 11) (cond (Nat.blt pc 10) (cond (Nat.beq pc 9) (some (.aload_n 0, 10, 0)) none) (cond (Nat.beq pc 10) (some (.iload_n 2, 11, 0)) none)) (cond (Nat.blt pc 14) (cond (Nat.beq pc 11) (some (.putfield 15, 14, 0)) none) (cond (Nat.blt pc 15) (cond (Nat.beq pc 14) (some (.aload_n 0, 15, 0)) none) (cond (Nat.beq pc 15) (some (.aload_n 3, 16, 0)) none))))) (cond (Nat.blt pc 26) (cond (Nat.blt pc 20) (cond (Nat.blt pc 19) (cond (Nat.beq pc 16) (some (.putfield 18, 19, 0)) none) (cond (Nat.beq pc 19) (some (.aload_n 0, 20, 0)) none)) (cond (Nat.blt pc 22) (cond (Nat.beq pc 20) (some (.iload 4, 22, 0)) none) (cond (Nat.blt pc 25) (cond (Nat.beq pc 22) (some (.putfield 22, 25, 0)) none) (cond (Nat.beq pc 25) (some (.aload_n 0, 26, 0)) none)))) (cond (Nat.blt pc 32) (cond (Nat.blt pc 28) (cond (Nat.beq pc 26) (some (.iload 5, 28, 0)) none) (cond (Nat.blt pc 31) (cond (Nat.beq pc 28) (some (.putfield 25, 31, 0)) none) (cond (Nat.beq pc 31) (some (.aload_n 0, 32, 0)) none))) (cond (Nat.blt pc 34) (cond (Nat.beq pc 32) (some (.iload 6, 34, 0)) none) (cond (Nat.blt pc 37) (cond (Nat.beq pc 34) (some (.putfield 28, 37, 0)) none) (cond (Nat.beq pc 37) (some (.return_, 38, 0)) none)))))
def m_Layer_init : MI := (⟨"TileStudio$Layer", "<init>", "(II[IIIZ)V"⟩, prog_5_method_1_code, 7, none, [], zmk 38 tb_Layer_init)
theorem ok_Layer_init : zok m_Layer_init := zok_mk rfl (by decide +kernel)
def tb_Picture_init : ZT := fun pc => cond (Nat.blt pc 11) (cond (Nat.blt pc 5) (cond (Nat.blt pc 1) (cond (Nat.beq pc 0) (some (.aload_n 0, 1, 0)) none) (cond (Nat.blt pc 4) (cond (Nat.beq pc 1) (some (.invokespecial 1, 4, 0)) none) (cond (Nat.beq pc 4) (some (.aload_n 0, 5, 0)) none))) (cond (Nat.blt pc 9) (cond (Nat.blt pc 6) (cond (Nat.beq pc 5) (some (.iload_n 1, 6, 0)) none) (cond (Nat.beq pc 6) (some (.putfield 7, 9, 0)) none)) (cond (Nat.blt pc 10) (cond (Nat.beq pc 9) (some (.aload_n 0, 10, 0)) none) (cond (Nat.beq pc 10) (some (.iload_n 2, 11, 0)) none)))) (cond (Nat.blt pc 19) (cond (Nat.blt pc 15) (cond (Nat.blt pc 14) (cond (Nat.beq pc 11) (some (.putfield 13, 14, 0)) none) (cond (Nat.beq pc 14) (some (.aload_n 0, 15, 0)) none)) (cond (Nat.blt pc 16) (cond (Nat.beq pc 15) (some (.aload_n 3, 16, 0)) none) (cond (Nat.beq pc 16) (some (.putfield 16, 19, 0)) none))) (cond (Nat.blt pc 22) (cond (Nat.blt pc 20) (cond (Nat.beq pc 19) (some (.aload_n 0, 20, 0)) none) (cond (Nat.beq pc 20) (some (.aload 4, 22, 0)) none)) (cond (Nat.blt pc 25) (cond (Nat.beq pc 22) (some (.putfield 20, 25, 0)) none) (cond (Nat.beq pc 25) (some (.return_, 26, 0)) none))))
def m_Picture_init : MI := (⟨"TileStudio$Picture", "<init>", "(II[LTileStudio$Layer;LTileStudio$Places;)V"⟩, prog_7_method_1_code, 5, none, [], zmk 26 tb_Picture_init)
theorem ok_Picture_init : zok m_Picture_init := zok_mk rfl (by decide +kernel)
def tb_History_begin : ZT := fun pc => cond (Nat.blt pc 10) (cond (Nat.blt pc 5) (cond (Nat.blt pc 1) (cond (Nat.beq pc 0) (some (.aload_n 0, 1, 0)) none) (cond (Nat.blt pc 2) (cond (Nat.beq pc 1) (some (.iconst 0, 2, 0)) none) (cond (Nat.beq pc 2) (some (.putfield 17, 5, 0)) none))) (cond (Nat.blt pc 6) (cond (Nat.beq pc 5) (some (.aload_n 0, 6, 0)) none) (cond (Nat.blt pc 7) (cond (Nat.beq pc 6) (some (.iconst 0, 7, 0)) none) (cond (Nat.beq pc 7) (some (.putfield 21, 10, 0)) none)))) (cond (Nat.blt pc 15) (cond (Nat.blt pc 11) (cond (Nat.beq pc 10) (some (.aload_n 0, 11, 0)) none) (cond (Nat.blt pc 14) (cond (Nat.beq pc 11) (some (.getfield 11, 14, 0)) none) (cond (Nat.beq pc 14) (some (.iconst 0, 15, 0)) none))) (cond (Nat.blt pc 16) (cond (Nat.beq pc 15) (some (.aload_n 1, 16, 0)) none) (cond (Nat.blt pc 17) (cond (Nat.beq pc 16) (some (.aastore, 17, 0)) none) (cond (Nat.beq pc 17) (some (.return_, 18, 0)) none))))
def m_History_begin : MI := (⟨"TileStudio$History", "begin", "(LTileStudio$Picture;)V"⟩, prog_4_method_3_code, 2, none, [], zmk 18 tb_History_begin)
theorem ok_History_begin : zok m_History_begin := zok_mk rfl (by decide +kernel)
def tb_L_layer : ZT := fun pc => cond (Nat.blt pc 10) (cond (Nat.blt pc 5) (cond (Nat.blt pc 1) (cond (Nat.beq pc 0) (some (.aload_n 0, 1, 0)) none) (cond (Nat.blt pc 2) (cond (Nat.beq pc 1) (some (.iload_n 1, 2, 0)) none) (cond (Nat.beq pc 2) (some (.invokevirtual 15, 5, 0)) none))) (cond (Nat.blt pc 8) (cond (Nat.beq pc 5) (some (.goto 9, 8, 14)) none) (cond (Nat.blt pc 9) (cond (Nat.beq pc 8) (some (.astore_n 2, 9, 0)) none) (cond (Nat.beq pc 9) (some (.iconst 1, 10, 0)) none)))) (cond (Nat.blt pc 13) (cond (Nat.blt pc 11) (cond (Nat.beq pc 10) (some (.ireturn, 11, 0)) none) (cond (Nat.blt pc 12) (cond (Nat.beq pc 11) (some (.astore_n 2, 12, 0)) none) (cond (Nat.beq pc 12) (some (.iconst 2, 13, 0)) none))) (cond (Nat.blt pc 14) (cond (Nat.beq pc 13) (some (.ireturn, 14, 0)) none) (cond (Nat.blt pc 15) (cond (Nat.beq pc 14) (some (.iconst 0, 15, 0)) none) (cond (Nat.beq pc 15) (some (.ireturn, 16, 0)) none))))
def m_L_layer : MI := (⟨"TileStudioLaw", "layer", "(LTileStudio;I)I"⟩, method_4_code, 3, (Option.some Jvm.ClassFile.FieldType.int), [(0, 5, 8, 13), (0, 5, 11, 19)], zmk 16 tb_L_layer)
theorem ok_L_layer : zok m_L_layer := zok_mk rfl (by decide +kernel)
def tb_TS_layer : ZT := fun pc => cond (Nat.blt pc 34) (cond (Nat.blt pc 15) (cond (Nat.blt pc 6) (cond (Nat.blt pc 4) (cond (Nat.blt pc 1) (cond (Nat.beq pc 0) (some (.aload_n 0, 1, 0)) none) (cond (Nat.beq pc 1) (some (.invokevirtual 48, 4, 0)) none)) (cond (Nat.blt pc 5) (cond (Nat.beq pc 4) (some (.astore_n 2, 5, 0)) none) (cond (Nat.beq pc 5) (some (.iload_n 1, 6, 0)) none))) (cond (Nat.blt pc 8) (cond (Nat.blt pc 7) (cond (Nat.beq pc 6) (some (.iconst 0, 7, 0)) none) (cond (Nat.beq pc 7) (some (.aload_n 2, 8, 0)) none)) (cond (Nat.blt pc 11) (cond (Nat.beq pc 8) (some (.getfield 52, 11, 0)) none) (cond (Nat.blt pc 12) (cond (Nat.beq pc 11) (some (.arraylength, 12, 0)) none) (cond (Nat.beq pc 12) (some (.invokestatic 16, 15, 0)) none))))) (cond (Nat.blt pc 23) (cond (Nat.blt pc 19) (cond (Nat.blt pc 18) (cond (Nat.beq pc 15) (some (.invokestatic 20, 18, 0)) none) (cond (Nat.beq pc 18) (some (.aload_n 2, 19, 0)) none)) (cond (Nat.blt pc 22) (cond (Nat.beq pc 19) (some (.getfield 52, 22, 0)) none) (cond (Nat.beq pc 22) (some (.arraylength, 23, 0)) none))) (cond (Nat.blt pc 27) (cond (Nat.blt pc 24) (cond (Nat.beq pc 23) (some (.iconst 3, 24, 0)) none) (cond (Nat.beq pc 24) (some (.if_icmp .lt 11, 27, 35)) none)) (cond (Nat.blt pc 30) (cond (Nat.beq pc 27) (some (.new 56, 30, 0)) none) (cond (Nat.blt pc 31) (cond (Nat.beq pc 30) (some (.dup, 31, 0)) none) (cond (Nat.beq pc 31) (some (.invokespecial 58, 34, 0)) none)))))) (cond (Nat.blt pc 51) (cond (Nat.blt pc 40) (cond (Nat.blt pc 36) (cond (Nat.blt pc 35) (cond (Nat.beq pc 34) (some (.athrow, 35, 0)) none) (cond (Nat.beq pc 35) (some (.aload_n 2, 36, 0)) none)) (cond (Nat.blt pc 39) (cond (Nat.beq pc 36) (some (.getfield 59, 39, 0)) none) (cond (Nat.beq pc 39) (some (.aload_n 2, 40, 0)) none))) (cond (Nat.blt pc 46) (cond (Nat.blt pc 43) (cond (Nat.beq pc 40) (some (.getfield 63, 43, 0)) none) (cond (Nat.beq pc 43) (some (.invokestatic 35, 46, 0)) none)) (cond (Nat.blt pc 47) (cond (Nat.beq pc 46) (some (.astore_n 3, 47, 0)) none) (cond (Nat.blt pc 48) (cond (Nat.beq pc 47) (some (.aload_n 0, 48, 0)) none) (cond (Nat.beq pc 48) (some (.getfield 12, 51, 0)) none))))) (cond (Nat.blt pc 57) (cond (Nat.blt pc 53) (cond (Nat.blt pc 52) (cond (Nat.beq pc 51) (some (.aload_n 2, 52, 0)) none) (cond (Nat.beq pc 52) (some (.aload_n 2, 53, 0)) none)) (cond (Nat.blt pc 56) (cond (Nat.beq pc 53) (some (.getfield 52, 56, 0)) none) (cond (Nat.beq pc 56) (some (.iload_n 1, 57, 0)) none))) (cond (Nat.blt pc 61) (cond (Nat.blt pc 58) (cond (Nat.beq pc 57) (some (.aload_n 3, 58, 0)) none) (cond (Nat.beq pc 58) (some (.invokestatic 66, 61, 0)) none)) (cond (Nat.blt pc 64) (cond (Nat.beq pc 61) (some (.invokevirtual 70, 64, 0)) none) (cond (Nat.blt pc 67) (cond (Nat.beq pc 64) (some (.invokevirtual 74, 67, 0)) none) (cond (Nat.beq pc 67) (some (.return_, 68, 0)) none))))))
def m_TS_layer : MI := (⟨"TileStudio", "layer", "(I)V"⟩, prog_1_method_3_code, 4, none, [], zmk 68 tb_TS_layer)
theorem ok_TS_layer : zok m_TS_layer := zok_mk rfl (by decide +kernel)
def tb_TS_presentPicture : ZT := fun pc => cond (Nat.blt pc 12) (cond (Nat.blt pc 7) (cond (Nat.blt pc 1) (cond (Nat.beq pc 0) (some (.aload_n 0, 1, 0)) none) (cond (Nat.blt pc 4) (cond (Nat.beq pc 1) (some (.getfield 12, 4, 0)) none) (cond (Nat.beq pc 4) (some (.invokevirtual 236, 7, 0)) none))) (cond (Nat.blt pc 8) (cond (Nat.beq pc 7) (some (.astore_n 1, 8, 0)) none) (cond (Nat.blt pc 9) (cond (Nat.beq pc 8) (some (.aload_n 1, 9, 0)) none) (cond (Nat.beq pc 9) (some (.ifnonnull 11, 12, 20)) none)))) (cond (Nat.blt pc 19) (cond (Nat.blt pc 15) (cond (Nat.beq pc 12) (some (.new 245, 15, 0)) none) (cond (Nat.blt pc 16) (cond (Nat.beq pc 15) (some (.dup, 16, 0)) none) (cond (Nat.beq pc 16) (some (.invokespecial 247, 19, 0)) none))) (cond (Nat.blt pc 20) (cond (Nat.beq pc 19) (some (.athrow, 20, 0)) none) (cond (Nat.blt pc 21) (cond (Nat.beq pc 20) (some (.aload_n 1, 21, 0)) none) (cond (Nat.beq pc 21) (some (.areturn, 22, 0)) none))))
def m_TS_presentPicture : MI := (⟨"TileStudio", "presentPicture", "()LTileStudio$Picture;"⟩, prog_1_method_30_code, 2, (Option.some (Jvm.ClassFile.FieldType.object "TileStudio$Picture")), [], zmk 22 tb_TS_presentPicture)
theorem ok_TS_presentPicture : zok m_TS_presentPicture := zok_mk rfl (by decide +kernel)
def tb_TS_inserted : ZT := fun pc => cond (Nat.blt pc 30) (cond (Nat.blt pc 13) (cond (Nat.blt pc 4) (cond (Nat.blt pc 2) (cond (Nat.blt pc 1) (cond (Nat.beq pc 0) (some (.aload_n 0, 1, 0)) none) (cond (Nat.beq pc 1) (some (.arraylength, 2, 0)) none)) (cond (Nat.blt pc 3) (cond (Nat.beq pc 2) (some (.iconst 1, 3, 0)) none) (cond (Nat.beq pc 3) (some (.iadd, 4, 0)) none))) (cond (Nat.blt pc 8) (cond (Nat.blt pc 7) (cond (Nat.beq pc 4) (some (.anewarray 33, 7, 0)) none) (cond (Nat.beq pc 7) (some (.astore_n 3, 8, 0)) none)) (cond (Nat.blt pc 9) (cond (Nat.beq pc 8) (some (.iconst 0, 9, 0)) none) (cond (Nat.blt pc 11) (cond (Nat.beq pc 9) (some (.istore 4, 11, 0)) none) (cond (Nat.beq pc 11) (some (.iload 4, 13, 0)) none))))) (cond (Nat.blt pc 21) (cond (Nat.blt pc 15) (cond (Nat.blt pc 14) (cond (Nat.beq pc 13) (some (.aload_n 3, 14, 0)) none) (cond (Nat.beq pc 14) (some (.arraylength, 15, 0)) none)) (cond (Nat.blt pc 18) (cond (Nat.beq pc 15) (some (.if_icmp .ge 46, 18, 61)) none) (cond (Nat.blt pc 20) (cond (Nat.beq pc 18) (some (.iload 4, 20, 0)) none) (cond (Nat.beq pc 20) (some (.iload_n 1, 21, 0)) none)))) (cond (Nat.blt pc 25) (cond (Nat.blt pc 24) (cond (Nat.beq pc 21) (some (.if_icmp .ge 14, 24, 35)) none) (cond (Nat.beq pc 24) (some (.aload_n 3, 25, 0)) none)) (cond (Nat.blt pc 27) (cond (Nat.beq pc 25) (some (.iload 4, 27, 0)) none) (cond (Nat.blt pc 28) (cond (Nat.beq pc 27) (some (.aload_n 0, 28, 0)) none) (cond (Nat.beq pc 28) (some (.iload 4, 30, 0)) none)))))) (cond (Nat.blt pc 48) (cond (Nat.blt pc 38) (cond (Nat.blt pc 32) (cond (Nat.blt pc 31) (cond (Nat.beq pc 30) (some (.aaload, 31, 0)) none) (cond (Nat.beq pc 31) (some (.aastore, 32, 0)) none)) (cond (Nat.blt pc 35) (cond (Nat.beq pc 32) (some (.goto 23, 35, 55)) none) (cond (Nat.blt pc 36) (cond (Nat.beq pc 35) (some (.aload_n 3, 36, 0)) none) (cond (Nat.beq pc 36) (some (.iload 4, 38, 0)) none)))) (cond (Nat.blt pc 41) (cond (Nat.blt pc 40) (cond (Nat.beq pc 38) (some (.iload 4, 40, 0)) none) (cond (Nat.beq pc 40) (some (.iload_n 1, 41, 0)) none)) (cond (Nat.blt pc 44) (cond (Nat.beq pc 41) (some (.if_icmp .ne 7, 44, 48)) none) (cond (Nat.blt pc 45) (cond (Nat.beq pc 44) (some (.aload_n 2, 45, 0)) none) (cond (Nat.beq pc 45) (some (.goto 9, 48, 54)) none))))) (cond (Nat.blt pc 54) (cond (Nat.blt pc 51) (cond (Nat.blt pc 49) (cond (Nat.beq pc 48) (some (.aload_n 0, 49, 0)) none) (cond (Nat.beq pc 49) (some (.iload 4, 51, 0)) none)) (cond (Nat.blt pc 52) (cond (Nat.beq pc 51) (some (.iconst 1, 52, 0)) none) (cond (Nat.blt pc 53) (cond (Nat.beq pc 52) (some (.isub, 53, 0)) none) (cond (Nat.beq pc 53) (some (.aaload, 54, 0)) none)))) (cond (Nat.blt pc 58) (cond (Nat.blt pc 55) (cond (Nat.beq pc 54) (some (.aastore, 55, 0)) none) (cond (Nat.beq pc 55) (some (.iinc 4 1, 58, 0)) none)) (cond (Nat.blt pc 61) (cond (Nat.beq pc 58) (some (.goto (-47), 61, 11)) none) (cond (Nat.blt pc 62) (cond (Nat.beq pc 61) (some (.aload_n 3, 62, 0)) none) (cond (Nat.beq pc 62) (some (.areturn, 63, 0)) none))))))
def m_TS_inserted : MI := (⟨"TileStudio", "inserted", "([LTileStudio$Layer;ILTileStudio$Layer;)[LTileStudio$Layer;"⟩, prog_1_method_34_code, 5, (Option.some (Jvm.ClassFile.FieldType.array (Jvm.ClassFile.FieldType.object "TileStudio$Layer"))), [], zmk 63 tb_TS_inserted)
theorem ok_TS_inserted : zok m_TS_inserted := zok_mk rfl (by decide +kernel)
def tb_Picture_withLayers : ZT := fun pc => cond (Nat.blt pc 9) (cond (Nat.blt pc 4) (cond (Nat.blt pc 3) (cond (Nat.beq pc 0) (some (.new 8, 3, 0)) none) (cond (Nat.beq pc 3) (some (.dup, 4, 0)) none)) (cond (Nat.blt pc 5) (cond (Nat.beq pc 4) (some (.aload_n 0, 5, 0)) none) (cond (Nat.blt pc 8) (cond (Nat.beq pc 5) (some (.getfield 7, 8, 0)) none) (cond (Nat.beq pc 8) (some (.aload_n 0, 9, 0)) none)))) (cond (Nat.blt pc 14) (cond (Nat.blt pc 12) (cond (Nat.beq pc 9) (some (.getfield 13, 12, 0)) none) (cond (Nat.blt pc 13) (cond (Nat.beq pc 12) (some (.aload_n 1, 13, 0)) none) (cond (Nat.beq pc 13) (some (.aload_n 0, 14, 0)) none))) (cond (Nat.blt pc 17) (cond (Nat.beq pc 14) (some (.getfield 20, 17, 0)) none) (cond (Nat.blt pc 20) (cond (Nat.beq pc 17) (some (.invokespecial 24, 20, 0)) none) (cond (Nat.beq pc 20) (some (.areturn, 21, 0)) none))))
def m_Picture_withLayers : MI := (⟨"TileStudio$Picture", "withLayers", "([LTileStudio$Layer;)LTileStudio$Picture;"⟩, prog_7_method_2_code, 2, (Option.some (Jvm.ClassFile.FieldType.object "TileStudio$Picture")), [], zmk 21 tb_Picture_withLayers)
theorem ok_Picture_withLayers : zok m_Picture_withLayers := zok_mk rfl (by decide +kernel)
def tb_History_add : ZT := fun pc => cond (Nat.blt pc 23) (cond (Nat.blt pc 13) (cond (Nat.blt pc 6) (cond (Nat.blt pc 1) (cond (Nat.beq pc 0) (some (.aload_n 0, 1, 0)) none) (cond (Nat.blt pc 4) (cond (Nat.beq pc 1) (some (.getfield 17, 4, 0)) none) (cond (Nat.beq pc 4) (some (.bipush 6, 6, 0)) none))) (cond (Nat.blt pc 9) (cond (Nat.beq pc 6) (some (.if_icmp .lt 10, 9, 16)) none) (cond (Nat.blt pc 10) (cond (Nat.beq pc 9) (some (.aload_n 0, 10, 0)) none) (cond (Nat.beq pc 10) (some (.invokevirtual 24, 13, 0)) none)))) (cond (Nat.blt pc 18) (cond (Nat.blt pc 16) (cond (Nat.beq pc 13) (some (.goto 13, 16, 26)) none) (cond (Nat.blt pc 17) (cond (Nat.beq pc 16) (some (.aload_n 0, 17, 0)) none) (cond (Nat.beq pc 17) (some (.dup, 18, 0)) none))) (cond (Nat.blt pc 21) (cond (Nat.beq pc 18) (some (.getfield 17, 21, 0)) none) (cond (Nat.blt pc 22) (cond (Nat.beq pc 21) (some (.iconst 1, 22, 0)) none) (cond (Nat.beq pc 22) (some (.iadd, 23, 0)) none))))) (cond (Nat.blt pc 35) (cond (Nat.blt pc 28) (cond (Nat.blt pc 26) (cond (Nat.beq pc 23) (some (.putfield 17, 26, 0)) none) (cond (Nat.blt pc 27) (cond (Nat.beq pc 26) (some (.aload_n 0, 27, 0)) none) (cond (Nat.beq pc 27) (some (.aload_n 0, 28, 0)) none))) (cond (Nat.blt pc 31) (cond (Nat.beq pc 28) (some (.getfield 17, 31, 0)) none) (cond (Nat.blt pc 34) (cond (Nat.beq pc 31) (some (.putfield 21, 34, 0)) none) (cond (Nat.beq pc 34) (some (.aload_n 0, 35, 0)) none)))) (cond (Nat.blt pc 42) (cond (Nat.blt pc 38) (cond (Nat.beq pc 35) (some (.getfield 11, 38, 0)) none) (cond (Nat.blt pc 39) (cond (Nat.beq pc 38) (some (.aload_n 0, 39, 0)) none) (cond (Nat.beq pc 39) (some (.getfield 17, 42, 0)) none))) (cond (Nat.blt pc 43) (cond (Nat.beq pc 42) (some (.aload_n 1, 43, 0)) none) (cond (Nat.blt pc 44) (cond (Nat.beq pc 43) (some (.aastore, 44, 0)) none) (cond (Nat.beq pc 44) (some (.return_, 45, 0)) none)))))
def m_History_add : MI := (⟨"TileStudio$History", "add", "(LTileStudio$Picture;)V"⟩, prog_4_method_4_code, 2, none, [], zmk 45 tb_History_add)
theorem ok_History_add : zok m_History_add := zok_mk rfl (by decide +kernel)
def tb_History_forgetOldest : ZT := fun pc => cond (Nat.blt pc 16) (cond (Nat.blt pc 7) (cond (Nat.blt pc 2) (cond (Nat.blt pc 1) (cond (Nat.beq pc 0) (some (.iconst 1, 1, 0)) none) (cond (Nat.beq pc 1) (some (.istore_n 1, 2, 0)) none)) (cond (Nat.blt pc 3) (cond (Nat.beq pc 2) (some (.iload_n 1, 3, 0)) none) (cond (Nat.blt pc 4) (cond (Nat.beq pc 3) (some (.aload_n 0, 4, 0)) none) (cond (Nat.beq pc 4) (some (.getfield 11, 7, 0)) none)))) (cond (Nat.blt pc 11) (cond (Nat.blt pc 8) (cond (Nat.beq pc 7) (some (.arraylength, 8, 0)) none) (cond (Nat.beq pc 8) (some (.if_icmp .ge 23, 11, 31)) none)) (cond (Nat.blt pc 12) (cond (Nat.beq pc 11) (some (.aload_n 0, 12, 0)) none) (cond (Nat.blt pc 15) (cond (Nat.beq pc 12) (some (.getfield 11, 15, 0)) none) (cond (Nat.beq pc 15) (some (.iload_n 1, 16, 0)) none))))) (cond (Nat.blt pc 23) (cond (Nat.blt pc 18) (cond (Nat.blt pc 17) (cond (Nat.beq pc 16) (some (.iconst 1, 17, 0)) none) (cond (Nat.beq pc 17) (some (.isub, 18, 0)) none)) (cond (Nat.blt pc 19) (cond (Nat.beq pc 18) (some (.aload_n 0, 19, 0)) none) (cond (Nat.blt pc 22) (cond (Nat.beq pc 19) (some (.getfield 11, 22, 0)) none) (cond (Nat.beq pc 22) (some (.iload_n 1, 23, 0)) none)))) (cond (Nat.blt pc 25) (cond (Nat.blt pc 24) (cond (Nat.beq pc 23) (some (.aaload, 24, 0)) none) (cond (Nat.beq pc 24) (some (.aastore, 25, 0)) none)) (cond (Nat.blt pc 28) (cond (Nat.beq pc 25) (some (.iinc 1 1, 28, 0)) none) (cond (Nat.blt pc 31) (cond (Nat.beq pc 28) (some (.goto (-26), 31, 2)) none) (cond (Nat.beq pc 31) (some (.return_, 32, 0)) none)))))
def m_History_forgetOldest : MI := (⟨"TileStudio$History", "forgetOldest", "()V"⟩, prog_4_method_5_code, 2, none, [], zmk 32 tb_History_forgetOldest)
theorem ok_History_forgetOldest : zok m_History_forgetOldest := zok_mk rfl (by decide +kernel)
def tb_L_drop : ZT := fun pc => cond (Nat.blt pc 10) (cond (Nat.blt pc 5) (cond (Nat.blt pc 1) (cond (Nat.beq pc 0) (some (.aload_n 0, 1, 0)) none) (cond (Nat.blt pc 2) (cond (Nat.beq pc 1) (some (.iload_n 1, 2, 0)) none) (cond (Nat.beq pc 2) (some (.invokevirtual 21, 5, 0)) none))) (cond (Nat.blt pc 8) (cond (Nat.beq pc 5) (some (.goto 9, 8, 14)) none) (cond (Nat.blt pc 9) (cond (Nat.beq pc 8) (some (.astore_n 2, 9, 0)) none) (cond (Nat.beq pc 9) (some (.iconst 1, 10, 0)) none)))) (cond (Nat.blt pc 13) (cond (Nat.blt pc 11) (cond (Nat.beq pc 10) (some (.ireturn, 11, 0)) none) (cond (Nat.blt pc 12) (cond (Nat.beq pc 11) (some (.astore_n 2, 12, 0)) none) (cond (Nat.beq pc 12) (some (.iconst 2, 13, 0)) none))) (cond (Nat.blt pc 14) (cond (Nat.beq pc 13) (some (.ireturn, 14, 0)) none) (cond (Nat.blt pc 15) (cond (Nat.beq pc 14) (some (.iconst 0, 15, 0)) none) (cond (Nat.beq pc 15) (some (.ireturn, 16, 0)) none))))
def m_L_drop : MI := (⟨"TileStudioLaw", "drop", "(LTileStudio;I)I"⟩, method_5_code, 3, (Option.some Jvm.ClassFile.FieldType.int), [(0, 5, 8, 13), (0, 5, 11, 19)], zmk 16 tb_L_drop)
theorem ok_L_drop : zok m_L_drop := zok_mk rfl (by decide +kernel)
def tb_TS_drop : ZT := fun pc => cond (Nat.blt pc 19) (cond (Nat.blt pc 7) (cond (Nat.blt pc 2) (cond (Nat.blt pc 1) (cond (Nat.beq pc 0) (some (.aload_n 0, 1, 0)) none) (cond (Nat.beq pc 1) (some (.iload_n 1, 2, 0)) none)) (cond (Nat.blt pc 5) (cond (Nat.beq pc 2) (some (.invokevirtual 77, 5, 0)) none) (cond (Nat.blt pc 6) (cond (Nat.beq pc 5) (some (.astore_n 2, 6, 0)) none) (cond (Nat.beq pc 6) (some (.aload_n 2, 7, 0)) none)))) (cond (Nat.blt pc 12) (cond (Nat.blt pc 10) (cond (Nat.beq pc 7) (some (.getfield 52, 10, 0)) none) (cond (Nat.blt pc 11) (cond (Nat.beq pc 10) (some (.arraylength, 11, 0)) none) (cond (Nat.beq pc 11) (some (.iconst 1, 12, 0)) none))) (cond (Nat.blt pc 15) (cond (Nat.beq pc 12) (some (.if_icmp .ne 11, 15, 23)) none) (cond (Nat.blt pc 18) (cond (Nat.beq pc 15) (some (.new 56, 18, 0)) none) (cond (Nat.beq pc 18) (some (.dup, 19, 0)) none))))) (cond (Nat.blt pc 29) (cond (Nat.blt pc 24) (cond (Nat.blt pc 22) (cond (Nat.beq pc 19) (some (.invokespecial 58, 22, 0)) none) (cond (Nat.blt pc 23) (cond (Nat.beq pc 22) (some (.athrow, 23, 0)) none) (cond (Nat.beq pc 23) (some (.aload_n 0, 24, 0)) none))) (cond (Nat.blt pc 27) (cond (Nat.beq pc 24) (some (.getfield 12, 27, 0)) none) (cond (Nat.blt pc 28) (cond (Nat.beq pc 27) (some (.aload_n 2, 28, 0)) none) (cond (Nat.beq pc 28) (some (.aload_n 2, 29, 0)) none)))) (cond (Nat.blt pc 36) (cond (Nat.blt pc 32) (cond (Nat.beq pc 29) (some (.getfield 52, 32, 0)) none) (cond (Nat.blt pc 33) (cond (Nat.beq pc 32) (some (.iload_n 1, 33, 0)) none) (cond (Nat.beq pc 33) (some (.invokestatic 81, 36, 0)) none))) (cond (Nat.blt pc 39) (cond (Nat.beq pc 36) (some (.invokevirtual 70, 39, 0)) none) (cond (Nat.blt pc 42) (cond (Nat.beq pc 39) (some (.invokevirtual 74, 42, 0)) none) (cond (Nat.beq pc 42) (some (.return_, 43, 0)) none)))))
def m_TS_drop : MI := (⟨"TileStudio", "drop", "(I)V"⟩, prog_1_method_4_code, 3, none, [], zmk 43 tb_TS_drop)
theorem ok_TS_drop : zok m_TS_drop := zok_mk rfl (by decide +kernel)
end
section
def tb_TS_pictureWithLayer : ZT := fun pc => cond (Nat.blt pc 11) (cond (Nat.blt pc 5) (cond (Nat.blt pc 1) (cond (Nat.beq pc 0) (some (.aload_n 0, 1, 0)) none) (cond (Nat.blt pc 4) (cond (Nat.beq pc 1) (some (.invokevirtual 48, 4, 0)) none) (cond (Nat.beq pc 4) (some (.astore_n 2, 5, 0)) none))) (cond (Nat.blt pc 7) (cond (Nat.blt pc 6) (cond (Nat.beq pc 5) (some (.iload_n 1, 6, 0)) none) (cond (Nat.beq pc 6) (some (.iconst 0, 7, 0)) none)) (cond (Nat.blt pc 8) (cond (Nat.beq pc 7) (some (.aload_n 2, 8, 0)) none) (cond (Nat.beq pc 8) (some (.getfield 52, 11, 0)) none)))) (cond (Nat.blt pc 14) (cond (Nat.blt pc 12) (cond (Nat.beq pc 11) (some (.arraylength, 12, 0)) none) (cond (Nat.blt pc 13) (cond (Nat.beq pc 12) (some (.iconst 1, 13, 0)) none) (cond (Nat.beq pc 13) (some (.isub, 14, 0)) none))) (cond (Nat.blt pc 20) (cond (Nat.blt pc 17) (cond (Nat.beq pc 14) (some (.invokestatic 16, 17, 0)) none) (cond (Nat.beq pc 17) (some (.invokestatic 20, 20, 0)) none)) (cond (Nat.blt pc 21) (cond (Nat.beq pc 20) (some (.aload_n 2, 21, 0)) none) (cond (Nat.beq pc 21) (some (.areturn, 22, 0)) none))))
def m_TS_pictureWithLayer : MI := (⟨"TileStudio", "pictureWithLayer", "(I)LTileStudio$Picture;"⟩, prog_1_method_31_code, 3, (Option.some (Jvm.ClassFile.FieldType.object "TileStudio$Picture")), [], zmk 22 tb_TS_pictureWithLayer)
theorem ok_TS_pictureWithLayer : zok m_TS_pictureWithLayer := zok_mk rfl (by decide +kernel)
def tb_TS_removed : ZT := fun pc => cond (Nat.blt pc 18) (cond (Nat.blt pc 9) (cond (Nat.blt pc 3) (cond (Nat.blt pc 1) (cond (Nat.beq pc 0) (some (.aload_n 0, 1, 0)) none) (cond (Nat.blt pc 2) (cond (Nat.beq pc 1) (some (.arraylength, 2, 0)) none) (cond (Nat.beq pc 2) (some (.iconst 1, 3, 0)) none))) (cond (Nat.blt pc 7) (cond (Nat.blt pc 4) (cond (Nat.beq pc 3) (some (.isub, 4, 0)) none) (cond (Nat.beq pc 4) (some (.anewarray 33, 7, 0)) none)) (cond (Nat.blt pc 8) (cond (Nat.beq pc 7) (some (.astore_n 2, 8, 0)) none) (cond (Nat.beq pc 8) (some (.iconst 0, 9, 0)) none)))) (cond (Nat.blt pc 12) (cond (Nat.blt pc 10) (cond (Nat.beq pc 9) (some (.istore_n 3, 10, 0)) none) (cond (Nat.blt pc 11) (cond (Nat.beq pc 10) (some (.iload_n 3, 11, 0)) none) (cond (Nat.beq pc 11) (some (.aload_n 2, 12, 0)) none))) (cond (Nat.blt pc 16) (cond (Nat.blt pc 13) (cond (Nat.beq pc 12) (some (.arraylength, 13, 0)) none) (cond (Nat.beq pc 13) (some (.if_icmp .ge 26, 16, 39)) none)) (cond (Nat.blt pc 17) (cond (Nat.beq pc 16) (some (.aload_n 2, 17, 0)) none) (cond (Nat.beq pc 17) (some (.iload_n 3, 18, 0)) none))))) (cond (Nat.blt pc 29) (cond (Nat.blt pc 21) (cond (Nat.blt pc 19) (cond (Nat.beq pc 18) (some (.aload_n 0, 19, 0)) none) (cond (Nat.blt pc 20) (cond (Nat.beq pc 19) (some (.iload_n 3, 20, 0)) none) (cond (Nat.beq pc 20) (some (.iload_n 1, 21, 0)) none))) (cond (Nat.blt pc 25) (cond (Nat.blt pc 24) (cond (Nat.beq pc 21) (some (.if_icmp .ge 7, 24, 28)) none) (cond (Nat.beq pc 24) (some (.iload_n 3, 25, 0)) none)) (cond (Nat.blt pc 28) (cond (Nat.beq pc 25) (some (.goto 6, 28, 31)) none) (cond (Nat.beq pc 28) (some (.iload_n 3, 29, 0)) none)))) (cond (Nat.blt pc 33) (cond (Nat.blt pc 31) (cond (Nat.blt pc 30) (cond (Nat.beq pc 29) (some (.iconst 1, 30, 0)) none) (cond (Nat.beq pc 30) (some (.iadd, 31, 0)) none)) (cond (Nat.blt pc 32) (cond (Nat.beq pc 31) (some (.aaload, 32, 0)) none) (cond (Nat.beq pc 32) (some (.aastore, 33, 0)) none))) (cond (Nat.blt pc 39) (cond (Nat.blt pc 36) (cond (Nat.beq pc 33) (some (.iinc 3 1, 36, 0)) none) (cond (Nat.beq pc 36) (some (.goto (-26), 39, 10)) none)) (cond (Nat.blt pc 40) (cond (Nat.beq pc 39) (some (.aload_n 2, 40, 0)) none) (cond (Nat.beq pc 40) (some (.areturn, 41, 0)) none)))))
def m_TS_removed : MI := (⟨"TileStudio", "removed", "([LTileStudio$Layer;I)[LTileStudio$Layer;"⟩, prog_1_method_35_code, 4, (Option.some (Jvm.ClassFile.FieldType.array (Jvm.ClassFile.FieldType.object "TileStudio$Layer"))), [], zmk 41 tb_TS_removed)
theorem ok_TS_removed : zok m_TS_removed := zok_mk rfl (by decide +kernel)
def tb_L_move : ZT := fun pc => cond (Nat.blt pc 9) (cond (Nat.blt pc 2) (cond (Nat.blt pc 1) (cond (Nat.beq pc 0) (some (.aload_n 0, 1, 0)) none) (cond (Nat.beq pc 1) (some (.iload_n 1, 2, 0)) none)) (cond (Nat.blt pc 3) (cond (Nat.beq pc 2) (some (.iload_n 2, 3, 0)) none) (cond (Nat.blt pc 6) (cond (Nat.beq pc 3) (some (.invokevirtual 24, 6, 0)) none) (cond (Nat.beq pc 6) (some (.goto 6, 9, 12)) none)))) (cond (Nat.blt pc 11) (cond (Nat.blt pc 10) (cond (Nat.beq pc 9) (some (.astore_n 3, 10, 0)) none) (cond (Nat.beq pc 10) (some (.iconst 1, 11, 0)) none)) (cond (Nat.blt pc 12) (cond (Nat.beq pc 11) (some (.ireturn, 12, 0)) none) (cond (Nat.blt pc 13) (cond (Nat.beq pc 12) (some (.iconst 0, 13, 0)) none) (cond (Nat.beq pc 13) (some (.ireturn, 14, 0)) none))))
def m_L_move : MI := (⟨"TileStudioLaw", "move", "(LTileStudio;II)I"⟩, method_6_code, 4, (Option.some Jvm.ClassFile.FieldType.int), [(0, 6, 9, 13)], zmk 14 tb_L_move)
theorem ok_L_move : zok m_L_move := zok_mk rfl (by decide +kernel)
def tb_TS_move : ZT := fun pc => cond (Nat.blt pc 25) (cond (Nat.blt pc 9) (cond (Nat.blt pc 5) (cond (Nat.blt pc 1) (cond (Nat.beq pc 0) (some (.aload_n 0, 1, 0)) none) (cond (Nat.blt pc 2) (cond (Nat.beq pc 1) (some (.iload_n 1, 2, 0)) none) (cond (Nat.beq pc 2) (some (.invokevirtual 77, 5, 0)) none))) (cond (Nat.blt pc 7) (cond (Nat.blt pc 6) (cond (Nat.beq pc 5) (some (.astore_n 3, 6, 0)) none) (cond (Nat.beq pc 6) (some (.iload_n 2, 7, 0)) none)) (cond (Nat.blt pc 8) (cond (Nat.beq pc 7) (some (.iconst 0, 8, 0)) none) (cond (Nat.beq pc 8) (some (.aload_n 3, 9, 0)) none)))) (cond (Nat.blt pc 15) (cond (Nat.blt pc 13) (cond (Nat.blt pc 12) (cond (Nat.beq pc 9) (some (.getfield 52, 12, 0)) none) (cond (Nat.beq pc 12) (some (.arraylength, 13, 0)) none)) (cond (Nat.blt pc 14) (cond (Nat.beq pc 13) (some (.iconst 1, 14, 0)) none) (cond (Nat.beq pc 14) (some (.isub, 15, 0)) none))) (cond (Nat.blt pc 21) (cond (Nat.blt pc 18) (cond (Nat.beq pc 15) (some (.invokestatic 16, 18, 0)) none) (cond (Nat.beq pc 18) (some (.invokestatic 20, 21, 0)) none)) (cond (Nat.blt pc 22) (cond (Nat.beq pc 21) (some (.aload_n 3, 22, 0)) none) (cond (Nat.beq pc 22) (some (.getfield 52, 25, 0)) none))))) (cond (Nat.blt pc 39) (cond (Nat.blt pc 32) (cond (Nat.blt pc 29) (cond (Nat.blt pc 26) (cond (Nat.beq pc 25) (some (.iload_n 1, 26, 0)) none) (cond (Nat.beq pc 26) (some (.invokestatic 81, 29, 0)) none)) (cond (Nat.blt pc 31) (cond (Nat.beq pc 29) (some (.astore 4, 31, 0)) none) (cond (Nat.beq pc 31) (some (.aload_n 0, 32, 0)) none))) (cond (Nat.blt pc 36) (cond (Nat.blt pc 35) (cond (Nat.beq pc 32) (some (.getfield 12, 35, 0)) none) (cond (Nat.beq pc 35) (some (.aload_n 3, 36, 0)) none)) (cond (Nat.blt pc 38) (cond (Nat.beq pc 36) (some (.aload 4, 38, 0)) none) (cond (Nat.beq pc 38) (some (.iload_n 2, 39, 0)) none)))) (cond (Nat.blt pc 45) (cond (Nat.blt pc 43) (cond (Nat.blt pc 40) (cond (Nat.beq pc 39) (some (.aload_n 3, 40, 0)) none) (cond (Nat.beq pc 40) (some (.getfield 52, 43, 0)) none)) (cond (Nat.blt pc 44) (cond (Nat.beq pc 43) (some (.iload_n 1, 44, 0)) none) (cond (Nat.beq pc 44) (some (.aaload, 45, 0)) none))) (cond (Nat.blt pc 51) (cond (Nat.blt pc 48) (cond (Nat.beq pc 45) (some (.invokestatic 66, 48, 0)) none) (cond (Nat.beq pc 48) (some (.invokevirtual 70, 51, 0)) none)) (cond (Nat.blt pc 54) (cond (Nat.beq pc 51) (some (.invokevirtual 74, 54, 0)) none) (cond (Nat.beq pc 54) (some (.return_, 55, 0)) none)))))
def m_TS_move : MI := (⟨"TileStudio", "move", "(II)V"⟩, prog_1_method_5_code, 5, none, [], zmk 55 tb_TS_move)
theorem ok_TS_move : zok m_TS_move := zok_mk rfl (by decide +kernel)
def tb_L_mode : ZT := fun pc => cond (Nat.blt pc 9) (cond (Nat.blt pc 3) (cond (Nat.blt pc 1) (cond (Nat.beq pc 0) (some (.aload_n 0, 1, 0)) none) (cond (Nat.blt pc 2) (cond (Nat.beq pc 1) (some (.iload_n 1, 2, 0)) none) (cond (Nat.beq pc 2) (some (.iload_n 2, 3, 0)) none))) (cond (Nat.blt pc 4) (cond (Nat.beq pc 3) (some (.iload_n 3, 4, 0)) none) (cond (Nat.blt pc 6) (cond (Nat.beq pc 4) (some (.iload 4, 6, 0)) none) (cond (Nat.beq pc 6) (some (.invokevirtual 27, 9, 0)) none)))) (cond (Nat.blt pc 15) (cond (Nat.blt pc 12) (cond (Nat.beq pc 9) (some (.goto 7, 12, 16)) none) (cond (Nat.blt pc 14) (cond (Nat.beq pc 12) (some (.astore 5, 14, 0)) none) (cond (Nat.beq pc 14) (some (.iconst 1, 15, 0)) none))) (cond (Nat.blt pc 16) (cond (Nat.beq pc 15) (some (.ireturn, 16, 0)) none) (cond (Nat.blt pc 17) (cond (Nat.beq pc 16) (some (.iconst 0, 17, 0)) none) (cond (Nat.beq pc 17) (some (.ireturn, 18, 0)) none))))
def m_L_mode : MI := (⟨"TileStudioLaw", "mode", "(LTileStudio;IIIZ)I"⟩, method_7_code, 6, (Option.some Jvm.ClassFile.FieldType.int), [(0, 9, 12, 13)], zmk 18 tb_L_mode)
theorem ok_L_mode : zok m_L_mode := zok_mk rfl (by decide +kernel)
def tb_TS_mode : ZT := fun pc => cond (Nat.blt pc 32) (cond (Nat.blt pc 13) (cond (Nat.blt pc 7) (cond (Nat.blt pc 2) (cond (Nat.blt pc 1) (cond (Nat.beq pc 0) (some (.aload_n 0, 1, 0)) none) (cond (Nat.beq pc 1) (some (.iload_n 1, 2, 0)) none)) (cond (Nat.blt pc 5) (cond (Nat.beq pc 2) (some (.invokevirtual 77, 5, 0)) none) (cond (Nat.beq pc 5) (some (.astore 5, 7, 0)) none))) (cond (Nat.blt pc 9) (cond (Nat.blt pc 8) (cond (Nat.beq pc 7) (some (.iload_n 2, 8, 0)) none) (cond (Nat.beq pc 8) (some (.iconst 0, 9, 0)) none)) (cond (Nat.blt pc 10) (cond (Nat.beq pc 9) (some (.iconst 5, 10, 0)) none) (cond (Nat.beq pc 10) (some (.invokestatic 16, 13, 0)) none)))) (cond (Nat.blt pc 21) (cond (Nat.blt pc 17) (cond (Nat.blt pc 16) (cond (Nat.beq pc 13) (some (.ifCond .eq 18, 16, 31)) none) (cond (Nat.beq pc 16) (some (.iload_n 3, 17, 0)) none)) (cond (Nat.blt pc 18) (cond (Nat.beq pc 17) (some (.iconst 0, 18, 0)) none) (cond (Nat.beq pc 18) (some (.sipush 255, 21, 0)) none))) (cond (Nat.blt pc 27) (cond (Nat.blt pc 24) (cond (Nat.beq pc 21) (some (.invokestatic 16, 24, 0)) none) (cond (Nat.beq pc 24) (some (.ifCond .eq 7, 27, 31)) none)) (cond (Nat.blt pc 28) (cond (Nat.beq pc 27) (some (.iconst 1, 28, 0)) none) (cond (Nat.blt pc 31) (cond (Nat.beq pc 28) (some (.goto 4, 31, 32)) none) (cond (Nat.beq pc 31) (some (.iconst 0, 32, 0)) none)))))) (cond (Nat.blt pc 49) (cond (Nat.blt pc 41) (cond (Nat.blt pc 37) (cond (Nat.blt pc 35) (cond (Nat.beq pc 32) (some (.invokestatic 20, 35, 0)) none) (cond (Nat.beq pc 35) (some (.aload 5, 37, 0)) none)) (cond (Nat.blt pc 40) (cond (Nat.beq pc 37) (some (.getfield 52, 40, 0)) none) (cond (Nat.beq pc 40) (some (.iload_n 1, 41, 0)) none))) (cond (Nat.blt pc 43) (cond (Nat.blt pc 42) (cond (Nat.beq pc 41) (some (.aaload, 42, 0)) none) (cond (Nat.beq pc 42) (some (.iload_n 2, 43, 0)) none)) (cond (Nat.blt pc 44) (cond (Nat.beq pc 43) (some (.iload_n 3, 44, 0)) none) (cond (Nat.blt pc 46) (cond (Nat.beq pc 44) (some (.iload 4, 46, 0)) none) (cond (Nat.beq pc 46) (some (.invokevirtual 85, 49, 0)) none))))) (cond (Nat.blt pc 57) (cond (Nat.blt pc 52) (cond (Nat.blt pc 51) (cond (Nat.beq pc 49) (some (.astore 6, 51, 0)) none) (cond (Nat.beq pc 51) (some (.aload_n 0, 52, 0)) none)) (cond (Nat.blt pc 55) (cond (Nat.beq pc 52) (some (.getfield 12, 55, 0)) none) (cond (Nat.beq pc 55) (some (.aload 5, 57, 0)) none))) (cond (Nat.blt pc 60) (cond (Nat.blt pc 58) (cond (Nat.beq pc 57) (some (.iload_n 1, 58, 0)) none) (cond (Nat.beq pc 58) (some (.aload 6, 60, 0)) none)) (cond (Nat.blt pc 63) (cond (Nat.beq pc 60) (some (.invokevirtual 89, 63, 0)) none) (cond (Nat.blt pc 66) (cond (Nat.beq pc 63) (some (.invokevirtual 74, 66, 0)) none) (cond (Nat.beq pc 66) (some (.return_, 67, 0)) none))))))
def m_TS_mode : MI := (⟨"TileStudio", "mode", "(IIIZ)V"⟩, prog_1_method_6_code, 7, none, [], zmk 67 tb_TS_mode)
theorem ok_TS_mode : zok m_TS_mode := zok_mk rfl (by decide +kernel)
def tb_Layer_withBlending : ZT := fun pc => cond (Nat.blt pc 12) (cond (Nat.blt pc 5) (cond (Nat.blt pc 3) (cond (Nat.beq pc 0) (some (.new 10, 3, 0)) none) (cond (Nat.blt pc 4) (cond (Nat.beq pc 3) (some (.dup, 4, 0)) none) (cond (Nat.beq pc 4) (some (.aload_n 0, 5, 0)) none))) (cond (Nat.blt pc 8) (cond (Nat.beq pc 5) (some (.getfield 9, 8, 0)) none) (cond (Nat.blt pc 9) (cond (Nat.beq pc 8) (some (.aload_n 0, 9, 0)) none) (cond (Nat.beq pc 9) (some (.getfield 15, 12, 0)) none)))) (cond (Nat.blt pc 17) (cond (Nat.blt pc 13) (cond (Nat.beq pc 12) (some (.aload_n 0, 13, 0)) none) (cond (Nat.blt pc 16) (cond (Nat.beq pc 13) (some (.getfield 18, 16, 0)) none) (cond (Nat.beq pc 16) (some (.iload_n 1, 17, 0)) none))) (cond (Nat.blt pc 19) (cond (Nat.blt pc 18) (cond (Nat.beq pc 17) (some (.iload_n 2, 18, 0)) none) (cond (Nat.beq pc 18) (some (.iload_n 3, 19, 0)) none)) (cond (Nat.blt pc 22) (cond (Nat.beq pc 19) (some (.invokespecial 32, 22, 0)) none) (cond (Nat.beq pc 22) (some (.areturn, 23, 0)) none))))
def m_Layer_withBlending : MI := (⟨"TileStudio$Layer", "withBlending", "(IIZ)LTileStudio$Layer;"⟩, prog_5_method_3_code, 4, (Option.some (Jvm.ClassFile.FieldType.object "TileStudio$Layer")), [], zmk 23 tb_Layer_withBlending)
theorem ok_Layer_withBlending : zok m_Layer_withBlending := zok_mk rfl (by decide +kernel)
def tb_Picture_withLayer : ZT := fun pc => cond (Nat.blt pc 24) (cond (Nat.blt pc 12) (cond (Nat.blt pc 5) (cond (Nat.blt pc 1) (cond (Nat.beq pc 0) (some (.aload_n 0, 1, 0)) none) (cond (Nat.blt pc 4) (cond (Nat.beq pc 1) (some (.getfield 16, 4, 0)) none) (cond (Nat.beq pc 4) (some (.arraylength, 5, 0)) none))) (cond (Nat.blt pc 9) (cond (Nat.blt pc 8) (cond (Nat.beq pc 5) (some (.anewarray 27, 8, 0)) none) (cond (Nat.beq pc 8) (some (.astore_n 3, 9, 0)) none)) (cond (Nat.blt pc 10) (cond (Nat.beq pc 9) (some (.iconst 0, 10, 0)) none) (cond (Nat.beq pc 10) (some (.istore 4, 12, 0)) none)))) (cond (Nat.blt pc 16) (cond (Nat.blt pc 14) (cond (Nat.beq pc 12) (some (.iload 4, 14, 0)) none) (cond (Nat.blt pc 15) (cond (Nat.beq pc 14) (some (.aload_n 3, 15, 0)) none) (cond (Nat.beq pc 15) (some (.arraylength, 16, 0)) none))) (cond (Nat.blt pc 20) (cond (Nat.blt pc 19) (cond (Nat.beq pc 16) (some (.if_icmp .ge 30, 19, 46)) none) (cond (Nat.beq pc 19) (some (.aload_n 3, 20, 0)) none)) (cond (Nat.blt pc 22) (cond (Nat.beq pc 20) (some (.iload 4, 22, 0)) none) (cond (Nat.beq pc 22) (some (.iload 4, 24, 0)) none))))) (cond (Nat.blt pc 38) (cond (Nat.blt pc 29) (cond (Nat.blt pc 25) (cond (Nat.beq pc 24) (some (.iload_n 1, 25, 0)) none) (cond (Nat.blt pc 28) (cond (Nat.beq pc 25) (some (.if_icmp .ne 7, 28, 32)) none) (cond (Nat.beq pc 28) (some (.aload_n 2, 29, 0)) none))) (cond (Nat.blt pc 33) (cond (Nat.blt pc 32) (cond (Nat.beq pc 29) (some (.goto 10, 32, 39)) none) (cond (Nat.beq pc 32) (some (.aload_n 0, 33, 0)) none)) (cond (Nat.blt pc 36) (cond (Nat.beq pc 33) (some (.getfield 16, 36, 0)) none) (cond (Nat.beq pc 36) (some (.iload 4, 38, 0)) none)))) (cond (Nat.blt pc 46) (cond (Nat.blt pc 40) (cond (Nat.blt pc 39) (cond (Nat.beq pc 38) (some (.aaload, 39, 0)) none) (cond (Nat.beq pc 39) (some (.aastore, 40, 0)) none)) (cond (Nat.blt pc 43) (cond (Nat.beq pc 40) (some (.iinc 4 1, 43, 0)) none) (cond (Nat.beq pc 43) (some (.goto (-31), 46, 12)) none))) (cond (Nat.blt pc 48) (cond (Nat.blt pc 47) (cond (Nat.beq pc 46) (some (.aload_n 0, 47, 0)) none) (cond (Nat.beq pc 47) (some (.aload_n 3, 48, 0)) none)) (cond (Nat.blt pc 51) (cond (Nat.beq pc 48) (some (.invokevirtual 29, 51, 0)) none) (cond (Nat.beq pc 51) (some (.areturn, 52, 0)) none)))))
def m_Picture_withLayer : MI := (⟨"TileStudio$Picture", "withLayer", "(ILTileStudio$Layer;)LTileStudio$Picture;"⟩, prog_7_method_4_code, 5, (Option.some (Jvm.ClassFile.FieldType.object "TileStudio$Picture")), [], zmk 52 tb_Picture_withLayer)
theorem ok_Picture_withLayer : zok m_Picture_withLayer := zok_mk rfl (by decide +kernel)
def tb_L_select : ZT := fun pc => cond (Nat.blt pc 12) (cond (Nat.blt pc 5) (cond (Nat.blt pc 3) (cond (Nat.blt pc 2) (cond (Nat.beq pc 0) (some (.aload 5, 2, 0)) none) (cond (Nat.beq pc 2) (some (.iconst 0, 3, 0)) none)) (cond (Nat.blt pc 4) (cond (Nat.beq pc 3) (some (.aload_n 0, 4, 0)) none) (cond (Nat.beq pc 4) (some (.iload_n 1, 5, 0)) none))) (cond (Nat.blt pc 7) (cond (Nat.blt pc 6) (cond (Nat.beq pc 5) (some (.iload_n 2, 6, 0)) none) (cond (Nat.beq pc 6) (some (.iload_n 3, 7, 0)) none)) (cond (Nat.blt pc 9) (cond (Nat.beq pc 7) (some (.iload 4, 9, 0)) none) (cond (Nat.beq pc 9) (some (.invokevirtual 31, 12, 0)) none)))) (cond (Nat.blt pc 19) (cond (Nat.blt pc 14) (cond (Nat.blt pc 13) (cond (Nat.beq pc 12) (some (.i2l, 13, 0)) none) (cond (Nat.beq pc 13) (some (.lastore, 14, 0)) none)) (cond (Nat.blt pc 17) (cond (Nat.beq pc 14) (some (.goto 7, 17, 21)) none) (cond (Nat.beq pc 17) (some (.astore 6, 19, 0)) none))) (cond (Nat.blt pc 21) (cond (Nat.blt pc 20) (cond (Nat.beq pc 19) (some (.iconst 1, 20, 0)) none) (cond (Nat.beq pc 20) (some (.ireturn, 21, 0)) none)) (cond (Nat.blt pc 22) (cond (Nat.beq pc 21) (some (.iconst 0, 22, 0)) none) (cond (Nat.beq pc 22) (some (.ireturn, 23, 0)) none))))
def m_L_select : MI := (⟨"TileStudioLaw", "select", "(LTileStudio;IIII[J)I"⟩, method_8_code, 7, (Option.some Jvm.ClassFile.FieldType.int), [(0, 14, 17, 13)], zmk 23 tb_L_select)
theorem ok_L_select : zok m_L_select := zok_mk rfl (by decide +kernel)
def tb_TS_select : ZT := fun pc => cond (Nat.blt pc 96) (cond (Nat.blt pc 39) (cond (Nat.blt pc 20) (cond (Nat.blt pc 10) (cond (Nat.blt pc 4) (cond (Nat.blt pc 1) (cond (Nat.beq pc 0) (some (.aload_n 0, 1, 0)) none) (cond (Nat.beq pc 1) (some (.invokevirtual 48, 4, 0)) none)) (cond (Nat.blt pc 6) (cond (Nat.beq pc 4) (some (.astore 5, 6, 0)) none) (cond (Nat.blt pc 8) (cond (Nat.beq pc 6) (some (.iload 4, 8, 0)) none) (cond (Nat.beq pc 8) (some (.ldc 93, 10, 0)) none)))) (cond (Nat.blt pc 15) (cond (Nat.blt pc 11) (cond (Nat.beq pc 10) (some (.iand, 11, 0)) none) (cond (Nat.blt pc 13) (cond (Nat.beq pc 11) (some (.istore 6, 13, 0)) none) (cond (Nat.beq pc 13) (some (.iload 4, 15, 0)) none))) (cond (Nat.blt pc 17) (cond (Nat.beq pc 15) (some (.bipush 16, 17, 0)) none) (cond (Nat.blt pc 18) (cond (Nat.beq pc 17) (some (.iushr, 18, 0)) none) (cond (Nat.beq pc 18) (some (.istore 7, 20, 0)) none))))) (cond (Nat.blt pc 30) (cond (Nat.blt pc 22) (cond (Nat.blt pc 21) (cond (Nat.beq pc 20) (some (.iload_n 1, 21, 0)) none) (cond (Nat.beq pc 21) (some (.iconst 0, 22, 0)) none)) (cond (Nat.blt pc 24) (cond (Nat.beq pc 22) (some (.bipush 13, 24, 0)) none) (cond (Nat.blt pc 27) (cond (Nat.beq pc 24) (some (.invokestatic 16, 27, 0)) none) (cond (Nat.beq pc 27) (some (.ifCond .eq 15, 30, 42)) none)))) (cond (Nat.blt pc 34) (cond (Nat.blt pc 31) (cond (Nat.beq pc 30) (some (.iload_n 1, 31, 0)) none) (cond (Nat.blt pc 33) (cond (Nat.beq pc 31) (some (.bipush 10, 33, 0)) none) (cond (Nat.beq pc 33) (some (.irem, 34, 0)) none))) (cond (Nat.blt pc 35) (cond (Nat.beq pc 34) (some (.iconst 3, 35, 0)) none) (cond (Nat.blt pc 38) (cond (Nat.beq pc 35) (some (.if_icmp .gt 7, 38, 42)) none) (cond (Nat.beq pc 38) (some (.iconst 1, 39, 0)) none)))))) (cond (Nat.blt pc 66) (cond (Nat.blt pc 50) (cond (Nat.blt pc 43) (cond (Nat.blt pc 42) (cond (Nat.beq pc 39) (some (.goto 4, 42, 43)) none) (cond (Nat.beq pc 42) (some (.iconst 0, 43, 0)) none)) (cond (Nat.blt pc 46) (cond (Nat.beq pc 43) (some (.invokestatic 20, 46, 0)) none) (cond (Nat.blt pc 47) (cond (Nat.beq pc 46) (some (.iload_n 2, 47, 0)) none) (cond (Nat.beq pc 47) (some (.sipush (-1000), 50, 0)) none)))) (cond (Nat.blt pc 59) (cond (Nat.blt pc 53) (cond (Nat.beq pc 50) (some (.sipush 1000, 53, 0)) none) (cond (Nat.blt pc 56) (cond (Nat.beq pc 53) (some (.invokestatic 16, 56, 0)) none) (cond (Nat.beq pc 56) (some (.ifCond .eq 20, 59, 76)) none))) (cond (Nat.blt pc 60) (cond (Nat.beq pc 59) (some (.iload_n 3, 60, 0)) none) (cond (Nat.blt pc 63) (cond (Nat.beq pc 60) (some (.sipush (-1000), 63, 0)) none) (cond (Nat.beq pc 63) (some (.sipush 1000, 66, 0)) none))))) (cond (Nat.blt pc 80) (cond (Nat.blt pc 73) (cond (Nat.blt pc 69) (cond (Nat.beq pc 66) (some (.invokestatic 16, 69, 0)) none) (cond (Nat.blt pc 72) (cond (Nat.beq pc 69) (some (.ifCond .eq 7, 72, 76)) none) (cond (Nat.beq pc 72) (some (.iconst 1, 73, 0)) none))) (cond (Nat.blt pc 76) (cond (Nat.beq pc 73) (some (.goto 4, 76, 77)) none) (cond (Nat.blt pc 77) (cond (Nat.beq pc 76) (some (.iconst 0, 77, 0)) none) (cond (Nat.beq pc 77) (some (.invokestatic 20, 80, 0)) none)))) (cond (Nat.blt pc 88) (cond (Nat.blt pc 82) (cond (Nat.beq pc 80) (some (.iload 6, 82, 0)) none) (cond (Nat.blt pc 85) (cond (Nat.beq pc 82) (some (.sipush 1000, 85, 0)) none) (cond (Nat.beq pc 85) (some (.if_icmp .gt 15, 88, 100)) none))) (cond (Nat.blt pc 90) (cond (Nat.beq pc 88) (some (.iload 7, 90, 0)) none) (cond (Nat.blt pc 93) (cond (Nat.beq pc 90) (some (.sipush 1000, 93, 0)) none) (cond (Nat.beq pc 93) (some (.if_icmp .gt 7, 96, 100)) none))))))) (cond (Nat.blt pc 143) (cond (Nat.blt pc 121) (cond (Nat.blt pc 107) (cond (Nat.blt pc 100) (cond (Nat.blt pc 97) (cond (Nat.beq pc 96) (some (.iconst 1, 97, 0)) none) (cond (Nat.beq pc 97) (some (.goto 4, 100, 101)) none)) (cond (Nat.blt pc 101) (cond (Nat.beq pc 100) (some (.iconst 0, 101, 0)) none) (cond (Nat.blt pc 104) (cond (Nat.beq pc 101) (some (.invokestatic 20, 104, 0)) none) (cond (Nat.beq pc 104) (some (.new 24, 107, 0)) none)))) (cond (Nat.blt pc 113) (cond (Nat.blt pc 108) (cond (Nat.beq pc 107) (some (.dup, 108, 0)) none) (cond (Nat.blt pc 110) (cond (Nat.beq pc 108) (some (.aload 5, 110, 0)) none) (cond (Nat.beq pc 110) (some (.getfield 59, 113, 0)) none))) (cond (Nat.blt pc 115) (cond (Nat.beq pc 113) (some (.aload 5, 115, 0)) none) (cond (Nat.blt pc 118) (cond (Nat.beq pc 115) (some (.getfield 63, 118, 0)) none) (cond (Nat.beq pc 118) (some (.invokespecial 26, 121, 0)) none))))) (cond (Nat.blt pc 131) (cond (Nat.blt pc 124) (cond (Nat.blt pc 123) (cond (Nat.beq pc 121) (some (.astore 8, 123, 0)) none) (cond (Nat.beq pc 123) (some (.iload_n 1, 124, 0)) none)) (cond (Nat.blt pc 126) (cond (Nat.beq pc 124) (some (.bipush 10, 126, 0)) none) (cond (Nat.blt pc 129) (cond (Nat.beq pc 126) (some (.if_icmp .ge 17, 129, 143)) none) (cond (Nat.beq pc 129) (some (.aload 8, 131, 0)) none)))) (cond (Nat.blt pc 135) (cond (Nat.blt pc 132) (cond (Nat.beq pc 131) (some (.iload_n 2, 132, 0)) none) (cond (Nat.blt pc 133) (cond (Nat.beq pc 132) (some (.iload_n 3, 133, 0)) none) (cond (Nat.beq pc 133) (some (.iload 6, 135, 0)) none))) (cond (Nat.blt pc 137) (cond (Nat.beq pc 135) (some (.iload 7, 137, 0)) none) (cond (Nat.blt pc 140) (cond (Nat.beq pc 137) (some (.invokestatic 29, 140, 0)) none) (cond (Nat.beq pc 140) (some (.goto 14, 143, 154)) none)))))) (cond (Nat.blt pc 164) (cond (Nat.blt pc 151) (cond (Nat.blt pc 146) (cond (Nat.blt pc 145) (cond (Nat.beq pc 143) (some (.aload 8, 145, 0)) none) (cond (Nat.beq pc 145) (some (.iload_n 2, 146, 0)) none)) (cond (Nat.blt pc 147) (cond (Nat.beq pc 146) (some (.iload_n 3, 147, 0)) none) (cond (Nat.blt pc 149) (cond (Nat.beq pc 147) (some (.iload 6, 149, 0)) none) (cond (Nat.beq pc 149) (some (.iload 7, 151, 0)) none)))) (cond (Nat.blt pc 159) (cond (Nat.blt pc 154) (cond (Nat.beq pc 151) (some (.invokestatic 94, 154, 0)) none) (cond (Nat.blt pc 156) (cond (Nat.beq pc 154) (some (.aload 5, 156, 0)) none) (cond (Nat.beq pc 156) (some (.getfield 97, 159, 0)) none))) (cond (Nat.blt pc 161) (cond (Nat.beq pc 159) (some (.aload 8, 161, 0)) none) (cond (Nat.blt pc 162) (cond (Nat.beq pc 161) (some (.iload_n 1, 162, 0)) none) (cond (Nat.beq pc 162) (some (.bipush 10, 164, 0)) none))))) (cond (Nat.blt pc 176) (cond (Nat.blt pc 170) (cond (Nat.blt pc 165) (cond (Nat.beq pc 164) (some (.irem, 165, 0)) none) (cond (Nat.blt pc 168) (cond (Nat.beq pc 165) (some (.invokestatic 101, 168, 0)) none) (cond (Nat.beq pc 168) (some (.astore 9, 170, 0)) none))) (cond (Nat.blt pc 171) (cond (Nat.beq pc 170) (some (.aload_n 0, 171, 0)) none) (cond (Nat.blt pc 174) (cond (Nat.beq pc 171) (some (.getfield 12, 174, 0)) none) (cond (Nat.beq pc 174) (some (.aload 5, 176, 0)) none)))) (cond (Nat.blt pc 184) (cond (Nat.blt pc 178) (cond (Nat.beq pc 176) (some (.aload 9, 178, 0)) none) (cond (Nat.blt pc 181) (cond (Nat.beq pc 178) (some (.invokevirtual 105, 181, 0)) none) (cond (Nat.beq pc 181) (some (.invokevirtual 74, 184, 0)) none))) (cond (Nat.blt pc 186) (cond (Nat.beq pc 184) (some (.aload 9, 186, 0)) none) (cond (Nat.blt pc 189) (cond (Nat.beq pc 186) (some (.invokevirtual 109, 189, 0)) none) (cond (Nat.beq pc 189) (some (.ireturn, 190, 0)) none)))))))
def m_TS_select : MI := (⟨"TileStudio", "select", "(IIII)I"⟩, prog_1_method_7_code, 10, (Option.some Jvm.ClassFile.FieldType.int), [], zmk 190 tb_TS_select)
theorem ok_TS_select : zok m_TS_select := zok_mk rfl (by decide +kernel)
def tb_TS_addEllipse : ZT := fun pc => cond (Nat.blt pc 35) (cond (Nat.blt pc 18) (cond (Nat.blt pc 9) (cond (Nat.blt pc 3) (cond (Nat.blt pc 1) (cond (Nat.beq pc 0) (some (.iconst 0, 1, 0)) none) (cond (Nat.beq pc 1) (some (.istore 5, 3, 0)) none)) (cond (Nat.blt pc 5) (cond (Nat.beq pc 3) (some (.iload 5, 5, 0)) none) (cond (Nat.blt pc 6) (cond (Nat.beq pc 5) (some (.aload_n 0, 6, 0)) none) (cond (Nat.beq pc 6) (some (.invokevirtual 260, 9, 0)) none)))) (cond (Nat.blt pc 13) (cond (Nat.blt pc 12) (cond (Nat.beq pc 9) (some (.if_icmp .ge 69, 12, 78)) none) (cond (Nat.beq pc 12) (some (.iconst 0, 13, 0)) none)) (cond (Nat.blt pc 15) (cond (Nat.beq pc 13) (some (.istore 6, 15, 0)) none) (cond (Nat.blt pc 17) (cond (Nat.beq pc 15) (some (.iload 6, 17, 0)) none) (cond (Nat.beq pc 17) (some (.aload_n 0, 18, 0)) none))))) (cond (Nat.blt pc 28) (cond (Nat.blt pc 24) (cond (Nat.blt pc 21) (cond (Nat.beq pc 18) (some (.getfield 261, 21, 0)) none) (cond (Nat.beq pc 21) (some (.if_icmp .ge 51, 24, 72)) none)) (cond (Nat.blt pc 26) (cond (Nat.beq pc 24) (some (.iload 6, 26, 0)) none) (cond (Nat.blt pc 27) (cond (Nat.beq pc 26) (some (.iload_n 1, 27, 0)) none) (cond (Nat.beq pc 27) (some (.isub, 28, 0)) none)))) (cond (Nat.blt pc 31) (cond (Nat.blt pc 30) (cond (Nat.beq pc 28) (some (.iload 5, 30, 0)) none) (cond (Nat.beq pc 30) (some (.iload_n 2, 31, 0)) none)) (cond (Nat.blt pc 32) (cond (Nat.beq pc 31) (some (.isub, 32, 0)) none) (cond (Nat.blt pc 33) (cond (Nat.beq pc 32) (some (.iload_n 3, 33, 0)) none) (cond (Nat.beq pc 33) (some (.iload 4, 35, 0)) none)))))) (cond (Nat.blt pc 52) (cond (Nat.blt pc 45) (cond (Nat.blt pc 41) (cond (Nat.blt pc 38) (cond (Nat.beq pc 35) (some (.invokestatic 262, 38, 0)) none) (cond (Nat.beq pc 38) (some (.ifCond .eq 28, 41, 66)) none)) (cond (Nat.blt pc 43) (cond (Nat.beq pc 41) (some (.iload 6, 43, 0)) none) (cond (Nat.blt pc 44) (cond (Nat.beq pc 43) (some (.iload_n 1, 44, 0)) none) (cond (Nat.beq pc 44) (some (.isub, 45, 0)) none)))) (cond (Nat.blt pc 48) (cond (Nat.blt pc 47) (cond (Nat.beq pc 45) (some (.iload 5, 47, 0)) none) (cond (Nat.beq pc 47) (some (.iload_n 2, 48, 0)) none)) (cond (Nat.blt pc 49) (cond (Nat.beq pc 48) (some (.isub, 49, 0)) none) (cond (Nat.blt pc 50) (cond (Nat.beq pc 49) (some (.iload_n 3, 50, 0)) none) (cond (Nat.beq pc 50) (some (.iload 4, 52, 0)) none))))) (cond (Nat.blt pc 63) (cond (Nat.blt pc 58) (cond (Nat.blt pc 55) (cond (Nat.beq pc 52) (some (.invokestatic 268, 55, 0)) none) (cond (Nat.beq pc 55) (some (.ifCond .eq 11, 58, 66)) none)) (cond (Nat.blt pc 59) (cond (Nat.beq pc 58) (some (.aload_n 0, 59, 0)) none) (cond (Nat.blt pc 61) (cond (Nat.beq pc 59) (some (.iload 6, 61, 0)) none) (cond (Nat.beq pc 61) (some (.iload 5, 63, 0)) none)))) (cond (Nat.blt pc 72) (cond (Nat.blt pc 66) (cond (Nat.beq pc 63) (some (.invokevirtual 266, 66, 0)) none) (cond (Nat.blt pc 69) (cond (Nat.beq pc 66) (some (.iinc 6 1, 69, 0)) none) (cond (Nat.beq pc 69) (some (.goto (-54), 72, 15)) none))) (cond (Nat.blt pc 75) (cond (Nat.beq pc 72) (some (.iinc 5 1, 75, 0)) none) (cond (Nat.blt pc 78) (cond (Nat.beq pc 75) (some (.goto (-72), 78, 3)) none) (cond (Nat.beq pc 78) (some (.return_, 79, 0)) none))))))
def m_TS_addEllipse : MI := (⟨"TileStudio", "addEllipse", "(LTileStudio$Places;IIII)V"⟩, prog_1_method_37_code, 7, none, [], zmk 79 tb_TS_addEllipse)
theorem ok_TS_addEllipse : zok m_TS_addEllipse := zok_mk rfl (by decide +kernel)
def tb_TS_isInEllipse : ZT := fun pc => cond (Nat.blt pc 43) (cond (Nat.blt pc 21) (cond (Nat.blt pc 10) (cond (Nat.blt pc 6) (cond (Nat.blt pc 4) (cond (Nat.blt pc 3) (cond (Nat.beq pc 0) (some (.ldc2_w 271, 3, 0)) none) (cond (Nat.beq pc 3) (some (.iload_n 0, 4, 0)) none)) (cond (Nat.blt pc 5) (cond (Nat.beq pc 4) (some (.i2l, 5, 0)) none) (cond (Nat.beq pc 5) (some (.lmul, 6, 0)) none))) (cond (Nat.blt pc 8) (cond (Nat.blt pc 7) (cond (Nat.beq pc 6) (some (.lconst 1, 7, 0)) none) (cond (Nat.beq pc 7) (some (.ladd, 8, 0)) none)) (cond (Nat.blt pc 9) (cond (Nat.beq pc 8) (some (.iload_n 2, 9, 0)) none) (cond (Nat.beq pc 9) (some (.i2l, 10, 0)) none)))) (cond (Nat.blt pc 16) (cond (Nat.blt pc 14) (cond (Nat.blt pc 11) (cond (Nat.beq pc 10) (some (.lsub, 11, 0)) none) (cond (Nat.beq pc 11) (some (.ldc2_w 271, 14, 0)) none)) (cond (Nat.blt pc 15) (cond (Nat.beq pc 14) (some (.iload_n 0, 15, 0)) none) (cond (Nat.beq pc 15) (some (.i2l, 16, 0)) none))) (cond (Nat.blt pc 18) (cond (Nat.blt pc 17) (cond (Nat.beq pc 16) (some (.lmul, 17, 0)) none) (cond (Nat.beq pc 17) (some (.lconst 1, 18, 0)) none)) (cond (Nat.blt pc 19) (cond (Nat.beq pc 18) (some (.ladd, 19, 0)) none) (cond (Nat.blt pc 20) (cond (Nat.beq pc 19) (some (.iload_n 2, 20, 0)) none) (cond (Nat.beq pc 20) (some (.i2l, 21, 0)) none)))))) (cond (Nat.blt pc 32) (cond (Nat.blt pc 28) (cond (Nat.blt pc 23) (cond (Nat.blt pc 22) (cond (Nat.beq pc 21) (some (.lsub, 22, 0)) none) (cond (Nat.beq pc 22) (some (.lmul, 23, 0)) none)) (cond (Nat.blt pc 25) (cond (Nat.beq pc 23) (some (.lstore 4, 25, 0)) none) (cond (Nat.beq pc 25) (some (.ldc2_w 271, 28, 0)) none))) (cond (Nat.blt pc 30) (cond (Nat.blt pc 29) (cond (Nat.beq pc 28) (some (.iload_n 1, 29, 0)) none) (cond (Nat.beq pc 29) (some (.i2l, 30, 0)) none)) (cond (Nat.blt pc 31) (cond (Nat.beq pc 30) (some (.lmul, 31, 0)) none) (cond (Nat.beq pc 31) (some (.lconst 1, 32, 0)) none)))) (cond (Nat.blt pc 36) (cond (Nat.blt pc 34) (cond (Nat.blt pc 33) (cond (Nat.beq pc 32) (some (.ladd, 33, 0)) none) (cond (Nat.beq pc 33) (some (.iload_n 3, 34, 0)) none)) (cond (Nat.blt pc 35) (cond (Nat.beq pc 34) (some (.i2l, 35, 0)) none) (cond (Nat.beq pc 35) (some (.lsub, 36, 0)) none))) (cond (Nat.blt pc 40) (cond (Nat.blt pc 39) (cond (Nat.beq pc 36) (some (.ldc2_w 271, 39, 0)) none) (cond (Nat.beq pc 39) (some (.iload_n 1, 40, 0)) none)) (cond (Nat.blt pc 41) (cond (Nat.beq pc 40) (some (.i2l, 41, 0)) none) (cond (Nat.blt pc 42) (cond (Nat.beq pc 41) (some (.lmul, 42, 0)) none) (cond (Nat.beq pc 42) (some (.lconst 1, 43, 0)) none))))))) (cond (Nat.blt pc 62) (cond (Nat.blt pc 52) (cond (Nat.blt pc 47) (cond (Nat.blt pc 45) (cond (Nat.blt pc 44) (cond (Nat.beq pc 43) (some (.ladd, 44, 0)) none) (cond (Nat.beq pc 44) (some (.iload_n 3, 45, 0)) none)) (cond (Nat.blt pc 46) (cond (Nat.beq pc 45) (some (.i2l, 46, 0)) none) (cond (Nat.beq pc 46) (some (.lsub, 47, 0)) none))) (cond (Nat.blt pc 50) (cond (Nat.blt pc 48) (cond (Nat.beq pc 47) (some (.lmul, 48, 0)) none) (cond (Nat.beq pc 48) (some (.lstore 6, 50, 0)) none)) (cond (Nat.blt pc 51) (cond (Nat.beq pc 50) (some (.iload_n 2, 51, 0)) none) (cond (Nat.beq pc 51) (some (.i2l, 52, 0)) none)))) (cond (Nat.blt pc 57) (cond (Nat.blt pc 54) (cond (Nat.blt pc 53) (cond (Nat.beq pc 52) (some (.iload_n 2, 53, 0)) none) (cond (Nat.beq pc 53) (some (.i2l, 54, 0)) none)) (cond (Nat.blt pc 55) (cond (Nat.beq pc 54) (some (.lmul, 55, 0)) none) (cond (Nat.beq pc 55) (some (.lstore 8, 57, 0)) none))) (cond (Nat.blt pc 59) (cond (Nat.blt pc 58) (cond (Nat.beq pc 57) (some (.iload_n 3, 58, 0)) none) (cond (Nat.beq pc 58) (some (.i2l, 59, 0)) none)) (cond (Nat.blt pc 60) (cond (Nat.beq pc 59) (some (.iload_n 3, 60, 0)) none) (cond (Nat.blt pc 61) (cond (Nat.beq pc 60) (some (.i2l, 61, 0)) none) (cond (Nat.beq pc 61) (some (.lmul, 62, 0)) none)))))) (cond (Nat.blt pc 75) (cond (Nat.blt pc 69) (cond (Nat.blt pc 66) (cond (Nat.blt pc 64) (cond (Nat.beq pc 62) (some (.lstore 10, 64, 0)) none) (cond (Nat.beq pc 64) (some (.lload 4, 66, 0)) none)) (cond (Nat.blt pc 68) (cond (Nat.beq pc 66) (some (.lload 10, 68, 0)) none) (cond (Nat.beq pc 68) (some (.lmul, 69, 0)) none))) (cond (Nat.blt pc 73) (cond (Nat.blt pc 71) (cond (Nat.beq pc 69) (some (.lload 6, 71, 0)) none) (cond (Nat.beq pc 71) (some (.lload 8, 73, 0)) none)) (cond (Nat.blt pc 74) (cond (Nat.beq pc 73) (some (.lmul, 74, 0)) none) (cond (Nat.beq pc 74) (some (.ladd, 75, 0)) none)))) (cond (Nat.blt pc 81) (cond (Nat.blt pc 79) (cond (Nat.blt pc 77) (cond (Nat.beq pc 75) (some (.lload 8, 77, 0)) none) (cond (Nat.beq pc 77) (some (.lload 10, 79, 0)) none)) (cond (Nat.blt pc 80) (cond (Nat.beq pc 79) (some (.lmul, 80, 0)) none) (cond (Nat.beq pc 80) (some (.lcmp, 81, 0)) none))) (cond (Nat.blt pc 85) (cond (Nat.blt pc 84) (cond (Nat.beq pc 81) (some (.ifCond .gt 7, 84, 88)) none) (cond (Nat.beq pc 84) (some (.iconst 1, 85, 0)) none)) (cond (Nat.blt pc 88) (cond (Nat.beq pc 85) (some (.goto 4, 88, 89)) none) (cond (Nat.blt pc 89) (cond (Nat.beq pc 88) (some (.iconst 0, 89, 0)) none) (cond (Nat.beq pc 89) (some (.ireturn, 90, 0)) none)))))))
def m_TS_isInEllipse : MI := (⟨"TileStudio", "isInEllipse", "(IIII)Z"⟩, prog_1_method_39_code, 12, (Option.some Jvm.ClassFile.FieldType.boolean), [], zmk 90 tb_TS_isInEllipse)
theorem ok_TS_isInEllipse : zok m_TS_isInEllipse := zok_mk rfl (by decide +kernel)
def tb_TS_joined : ZT := fun pc => cond (Nat.blt pc 37) (cond (Nat.blt pc 17) (cond (Nat.blt pc 8) (cond (Nat.blt pc 4) (cond (Nat.blt pc 3) (cond (Nat.beq pc 0) (some (.new 24, 3, 0)) none) (cond (Nat.beq pc 3) (some (.dup, 4, 0)) none)) (cond (Nat.blt pc 5) (cond (Nat.beq pc 4) (some (.aload_n 0, 5, 0)) none) (cond (Nat.beq pc 5) (some (.getfield 261, 8, 0)) none))) (cond (Nat.blt pc 12) (cond (Nat.blt pc 9) (cond (Nat.beq pc 8) (some (.aload_n 0, 9, 0)) none) (cond (Nat.beq pc 9) (some (.invokevirtual 260, 12, 0)) none)) (cond (Nat.blt pc 15) (cond (Nat.beq pc 12) (some (.invokespecial 26, 15, 0)) none) (cond (Nat.blt pc 16) (cond (Nat.beq pc 15) (some (.astore_n 3, 16, 0)) none) (cond (Nat.beq pc 16) (some (.iconst 0, 17, 0)) none))))) (cond (Nat.blt pc 25) (cond (Nat.blt pc 21) (cond (Nat.blt pc 19) (cond (Nat.beq pc 17) (some (.istore 4, 19, 0)) none) (cond (Nat.beq pc 19) (some (.iload 4, 21, 0)) none)) (cond (Nat.blt pc 22) (cond (Nat.beq pc 21) (some (.aload_n 0, 22, 0)) none) (cond (Nat.beq pc 22) (some (.invokevirtual 260, 25, 0)) none))) (cond (Nat.blt pc 30) (cond (Nat.blt pc 28) (cond (Nat.beq pc 25) (some (.if_icmp .ge 43, 28, 68)) none) (cond (Nat.beq pc 28) (some (.iload 4, 30, 0)) none)) (cond (Nat.blt pc 31) (cond (Nat.beq pc 30) (some (.aload_n 1, 31, 0)) none) (cond (Nat.blt pc 34) (cond (Nat.beq pc 31) (some (.invokevirtual 260, 34, 0)) none) (cond (Nat.beq pc 34) (some (.if_icmp .ge 34, 37, 68)) none)))))) (cond (Nat.blt pc 54) (cond (Nat.blt pc 44) (cond (Nat.blt pc 41) (cond (Nat.blt pc 38) (cond (Nat.beq pc 37) (some (.aload_n 3, 38, 0)) none) (cond (Nat.beq pc 38) (some (.getfield 273, 41, 0)) none)) (cond (Nat.blt pc 43) (cond (Nat.beq pc 41) (some (.iload 4, 43, 0)) none) (cond (Nat.beq pc 43) (some (.aload_n 0, 44, 0)) none))) (cond (Nat.blt pc 49) (cond (Nat.blt pc 47) (cond (Nat.beq pc 44) (some (.getfield 273, 47, 0)) none) (cond (Nat.beq pc 47) (some (.iload 4, 49, 0)) none)) (cond (Nat.blt pc 50) (cond (Nat.beq pc 49) (some (.iaload, 50, 0)) none) (cond (Nat.blt pc 51) (cond (Nat.beq pc 50) (some (.aload_n 1, 51, 0)) none) (cond (Nat.beq pc 51) (some (.getfield 273, 54, 0)) none))))) (cond (Nat.blt pc 61) (cond (Nat.blt pc 57) (cond (Nat.blt pc 56) (cond (Nat.beq pc 54) (some (.iload 4, 56, 0)) none) (cond (Nat.beq pc 56) (some (.iaload, 57, 0)) none)) (cond (Nat.blt pc 58) (cond (Nat.beq pc 57) (some (.iload_n 2, 58, 0)) none) (cond (Nat.beq pc 58) (some (.invokestatic 277, 61, 0)) none))) (cond (Nat.blt pc 65) (cond (Nat.blt pc 62) (cond (Nat.beq pc 61) (some (.iastore, 62, 0)) none) (cond (Nat.beq pc 62) (some (.iinc 4 1, 65, 0)) none)) (cond (Nat.blt pc 68) (cond (Nat.beq pc 65) (some (.goto (-46), 68, 19)) none) (cond (Nat.blt pc 69) (cond (Nat.beq pc 68) (some (.aload_n 3, 69, 0)) none) (cond (Nat.beq pc 69) (some (.areturn, 70, 0)) none))))))
def m_TS_joined : MI := (⟨"TileStudio", "joined", "(LTileStudio$Places;LTileStudio$Places;I)LTileStudio$Places;"⟩, prog_1_method_40_code, 5, (Option.some (Jvm.ClassFile.FieldType.object "TileStudio$Places")), [], zmk 70 tb_TS_joined)
theorem ok_TS_joined : zok m_TS_joined := zok_mk rfl (by decide +kernel)
def tb_TS_joinedRow : ZT := fun pc => cond (Nat.blt pc 35) (cond (Nat.blt pc 30) (cond (Nat.blt pc 28) (cond (Nat.blt pc 1) (cond (Nat.beq pc 0) (some (.iload_n 2, 1, 0)) none) (cond (Nat.beq pc 1) (some (.tableswitch 39 0 2 #[27, 29, 33], 28, 0)) none)) (cond (Nat.blt pc 29) (cond (Nat.beq pc 28) (some (.iload_n 1, 29, 0)) none) (cond (Nat.beq pc 29) (some (.ireturn, 30, 0)) none))) (cond (Nat.blt pc 32) (cond (Nat.blt pc 31) (cond (Nat.beq pc 30) (some (.iload_n 0, 31, 0)) none) (cond (Nat.beq pc 31) (some (.iload_n 1, 32, 0)) none)) (cond (Nat.blt pc 33) (cond (Nat.beq pc 32) (some (.ior, 33, 0)) none) (cond (Nat.blt pc 34) (cond (Nat.beq pc 33) (some (.ireturn, 34, 0)) none) (cond (Nat.beq pc 34) (some (.iload_n 0, 35, 0)) none))))) (cond (Nat.blt pc 39) (cond (Nat.blt pc 37) (cond (Nat.blt pc 36) (cond (Nat.beq pc 35) (some (.iload_n 1, 36, 0)) none) (cond (Nat.beq pc 36) (some (.iconst (-1), 37, 0)) none)) (cond (Nat.blt pc 38) (cond (Nat.beq pc 37) (some (.ixor, 38, 0)) none) (cond (Nat.beq pc 38) (some (.iand, 39, 0)) none))) (cond (Nat.blt pc 41) (cond (Nat.blt pc 40) (cond (Nat.beq pc 39) (some (.ireturn, 40, 0)) none) (cond (Nat.beq pc 40) (some (.iload_n 0, 41, 0)) none)) (cond (Nat.blt pc 42) (cond (Nat.beq pc 41) (some (.iload_n 1, 42, 0)) none) (cond (Nat.blt pc 43) (cond (Nat.beq pc 42) (some (.iand, 43, 0)) none) (cond (Nat.beq pc 43) (some (.ireturn, 44, 0)) none)))))
def m_TS_joinedRow : MI := (⟨"TileStudio", "joinedRow", "(III)I"⟩, prog_1_method_41_code, 3, (Option.some Jvm.ClassFile.FieldType.int), [], zmk 44 tb_TS_joinedRow)
theorem ok_TS_joinedRow : zok m_TS_joinedRow := zok_mk rfl (by decide +kernel)
def tb_Picture_withSelection : ZT := fun pc => cond (Nat.blt pc 9) (cond (Nat.blt pc 4) (cond (Nat.blt pc 3) (cond (Nat.beq pc 0) (some (.new 8, 3, 0)) none) (cond (Nat.beq pc 3) (some (.dup, 4, 0)) none)) (cond (Nat.blt pc 5) (cond (Nat.beq pc 4) (some (.aload_n 0, 5, 0)) none) (cond (Nat.blt pc 8) (cond (Nat.beq pc 5) (some (.getfield 7, 8, 0)) none) (cond (Nat.beq pc 8) (some (.aload_n 0, 9, 0)) none)))) (cond (Nat.blt pc 16) (cond (Nat.blt pc 12) (cond (Nat.beq pc 9) (some (.getfield 13, 12, 0)) none) (cond (Nat.blt pc 13) (cond (Nat.beq pc 12) (some (.aload_n 0, 13, 0)) none) (cond (Nat.beq pc 13) (some (.getfield 16, 16, 0)) none))) (cond (Nat.blt pc 17) (cond (Nat.beq pc 16) (some (.aload_n 1, 17, 0)) none) (cond (Nat.blt pc 20) (cond (Nat.beq pc 17) (some (.invokespecial 24, 20, 0)) none) (cond (Nat.beq pc 20) (some (.areturn, 21, 0)) none))))
def m_Picture_withSelection : MI := (⟨"TileStudio$Picture", "withSelection", "(LTileStudio$Places;)LTileStudio$Picture;"⟩, prog_7_method_3_code, 2, (Option.some (Jvm.ClassFile.FieldType.object "TileStudio$Picture")), [], zmk 21 tb_Picture_withSelection)
theorem ok_Picture_withSelection : zok m_Picture_withSelection := zok_mk rfl (by decide +kernel)
def tb_L_brush : ZT := fun pc => cond (Nat.blt pc 9) (cond (Nat.blt pc 2) (cond (Nat.blt pc 1) (cond (Nat.beq pc 0) (some (.aload_n 0, 1, 0)) none) (cond (Nat.beq pc 1) (some (.iload_n 1, 2, 0)) none)) (cond (Nat.blt pc 3) (cond (Nat.beq pc 2) (some (.iload_n 2, 3, 0)) none) (cond (Nat.blt pc 6) (cond (Nat.beq pc 3) (some (.invokevirtual 35, 6, 0)) none) (cond (Nat.beq pc 6) (some (.goto 6, 9, 12)) none)))) (cond (Nat.blt pc 11) (cond (Nat.blt pc 10) (cond (Nat.beq pc 9) (some (.astore_n 3, 10, 0)) none) (cond (Nat.beq pc 10) (some (.iconst 1, 11, 0)) none)) (cond (Nat.blt pc 12) (cond (Nat.beq pc 11) (some (.ireturn, 12, 0)) none) (cond (Nat.blt pc 13) (cond (Nat.beq pc 12) (some (.iconst 0, 13, 0)) none) (cond (Nat.beq pc 13) (some (.ireturn, 14, 0)) none))))
def m_L_brush : MI := (⟨"TileStudioLaw", "brush", "(LTileStudio;II)I"⟩, method_9_code, 4, (Option.some Jvm.ClassFile.FieldType.int), [(0, 6, 9, 13)], zmk 14 tb_L_brush)
theorem ok_L_brush : zok m_L_brush := zok_mk rfl (by decide +kernel)
def tb_TS_brush : ZT := fun pc => cond (Nat.blt pc 11) (cond (Nat.blt pc 4) (cond (Nat.blt pc 1) (cond (Nat.beq pc 0) (some (.iload_n 2, 1, 0)) none) (cond (Nat.blt pc 2) (cond (Nat.beq pc 1) (some (.iconst 0, 2, 0)) none) (cond (Nat.beq pc 2) (some (.bipush 7, 4, 0)) none))) (cond (Nat.blt pc 7) (cond (Nat.beq pc 4) (some (.invokestatic 16, 7, 0)) none) (cond (Nat.blt pc 10) (cond (Nat.beq pc 7) (some (.invokestatic 20, 10, 0)) none) (cond (Nat.beq pc 10) (some (.aload_n 0, 11, 0)) none)))) (cond (Nat.blt pc 16) (cond (Nat.blt pc 12) (cond (Nat.beq pc 11) (some (.iload_n 1, 12, 0)) none) (cond (Nat.blt pc 15) (cond (Nat.beq pc 12) (some (.putfield 113, 15, 0)) none) (cond (Nat.beq pc 15) (some (.aload_n 0, 16, 0)) none))) (cond (Nat.blt pc 17) (cond (Nat.beq pc 16) (some (.iload_n 2, 17, 0)) none) (cond (Nat.blt pc 20) (cond (Nat.beq pc 17) (some (.putfield 116, 20, 0)) none) (cond (Nat.beq pc 20) (some (.return_, 21, 0)) none))))
def m_TS_brush : MI := (⟨"TileStudio", "brush", "(II)V"⟩, prog_1_method_8_code, 3, none, [], zmk 21 tb_TS_brush)
theorem ok_TS_brush : zok m_TS_brush := zok_mk rfl (by decide +kernel)
def tb_L_fill : ZT := fun pc => cond (Nat.blt pc 9) (cond (Nat.blt pc 2) (cond (Nat.blt pc 1) (cond (Nat.beq pc 0) (some (.aload_n 0, 1, 0)) none) (cond (Nat.beq pc 1) (some (.iload_n 1, 2, 0)) none)) (cond (Nat.blt pc 3) (cond (Nat.beq pc 2) (some (.iload_n 2, 3, 0)) none) (cond (Nat.blt pc 6) (cond (Nat.beq pc 3) (some (.invokevirtual 38, 6, 0)) none) (cond (Nat.beq pc 6) (some (.goto 6, 9, 12)) none)))) (cond (Nat.blt pc 11) (cond (Nat.blt pc 10) (cond (Nat.beq pc 9) (some (.astore_n 3, 10, 0)) none) (cond (Nat.beq pc 10) (some (.iconst 1, 11, 0)) none)) (cond (Nat.blt pc 12) (cond (Nat.beq pc 11) (some (.ireturn, 12, 0)) none) (cond (Nat.blt pc 13) (cond (Nat.beq pc 12) (some (.iconst 0, 13, 0)) none) (cond (Nat.beq pc 13) (some (.ireturn, 14, 0)) none))))
def m_L_fill : MI := (⟨"TileStudioLaw", "fill", "(LTileStudio;II)I"⟩, method_10_code, 4, (Option.some Jvm.ClassFile.FieldType.int), [(0, 6, 9, 13)], zmk 14 tb_L_fill)
theorem ok_L_fill : zok m_L_fill := zok_mk rfl (by decide +kernel)
def tb_TS_fill : ZT := fun pc => cond (Nat.blt pc 27) (cond (Nat.blt pc 11) (cond (Nat.blt pc 5) (cond (Nat.blt pc 1) (cond (Nat.beq pc 0) (some (.aload_n 0, 1, 0)) none) (cond (Nat.blt pc 2) (cond (Nat.beq pc 1) (some (.iload_n 1, 2, 0)) none) (cond (Nat.beq pc 2) (some (.invokevirtual 119, 5, 0)) none))) (cond (Nat.blt pc 7) (cond (Nat.blt pc 6) (cond (Nat.beq pc 5) (some (.astore_n 3, 6, 0)) none) (cond (Nat.beq pc 6) (some (.iconst 0, 7, 0)) none)) (cond (Nat.blt pc 9) (cond (Nat.beq pc 7) (some (.istore 4, 9, 0)) none) (cond (Nat.beq pc 9) (some (.iload 4, 11, 0)) none)))) (cond (Nat.blt pc 19) (cond (Nat.blt pc 15) (cond (Nat.blt pc 12) (cond (Nat.beq pc 11) (some (.aload_n 3, 12, 0)) none) (cond (Nat.beq pc 12) (some (.invokevirtual 123, 15, 0)) none)) (cond (Nat.blt pc 18) (cond (Nat.beq pc 15) (some (.if_icmp .ge 36, 18, 51)) none) (cond (Nat.beq pc 18) (some (.iconst 0, 19, 0)) none))) (cond (Nat.blt pc 23) (cond (Nat.blt pc 21) (cond (Nat.beq pc 19) (some (.istore 5, 21, 0)) none) (cond (Nat.beq pc 21) (some (.iload 5, 23, 0)) none)) (cond (Nat.blt pc 24) (cond (Nat.beq pc 23) (some (.aload_n 3, 24, 0)) none) (cond (Nat.beq pc 24) (some (.invokevirtual 127, 27, 0)) none))))) (cond (Nat.blt pc 45) (cond (Nat.blt pc 35) (cond (Nat.blt pc 31) (cond (Nat.blt pc 30) (cond (Nat.beq pc 27) (some (.if_icmp .ge 18, 30, 45)) none) (cond (Nat.beq pc 30) (some (.aload_n 3, 31, 0)) none)) (cond (Nat.blt pc 33) (cond (Nat.beq pc 31) (some (.iload 5, 33, 0)) none) (cond (Nat.beq pc 33) (some (.iload 4, 35, 0)) none))) (cond (Nat.blt pc 39) (cond (Nat.blt pc 36) (cond (Nat.beq pc 35) (some (.iload_n 2, 36, 0)) none) (cond (Nat.beq pc 36) (some (.invokevirtual 129, 39, 0)) none)) (cond (Nat.blt pc 42) (cond (Nat.beq pc 39) (some (.iinc 5 1, 42, 0)) none) (cond (Nat.beq pc 42) (some (.goto (-21), 45, 21)) none)))) (cond (Nat.blt pc 55) (cond (Nat.blt pc 51) (cond (Nat.blt pc 48) (cond (Nat.beq pc 45) (some (.iinc 4 1, 48, 0)) none) (cond (Nat.beq pc 48) (some (.goto (-39), 51, 9)) none)) (cond (Nat.blt pc 52) (cond (Nat.beq pc 51) (some (.aload_n 0, 52, 0)) none) (cond (Nat.beq pc 52) (some (.getfield 12, 55, 0)) none))) (cond (Nat.blt pc 59) (cond (Nat.blt pc 56) (cond (Nat.beq pc 55) (some (.aload_n 3, 56, 0)) none) (cond (Nat.beq pc 56) (some (.invokevirtual 133, 59, 0)) none)) (cond (Nat.blt pc 62) (cond (Nat.beq pc 59) (some (.invokevirtual 74, 62, 0)) none) (cond (Nat.beq pc 62) (some (.return_, 63, 0)) none)))))
def m_TS_fill : MI := (⟨"TileStudio", "fill", "(II)V"⟩, prog_1_method_9_code, 6, none, [], zmk 63 tb_TS_fill)
theorem ok_TS_fill : zok m_TS_fill := zok_mk rfl (by decide +kernel)
def tb_TS_paintingOf : ZT := fun pc => cond (Nat.blt pc 6) (cond (Nat.blt pc 4) (cond (Nat.blt pc 3) (cond (Nat.beq pc 0) (some (.new 124, 3, 0)) none) (cond (Nat.beq pc 3) (some (.dup, 4, 0)) none)) (cond (Nat.blt pc 5) (cond (Nat.beq pc 4) (some (.aload_n 0, 5, 0)) none) (cond (Nat.beq pc 5) (some (.iload_n 1, 6, 0)) none))) (cond (Nat.blt pc 10) (cond (Nat.blt pc 9) (cond (Nat.beq pc 6) (some (.invokevirtual 77, 9, 0)) none) (cond (Nat.beq pc 9) (some (.iload_n 1, 10, 0)) none)) (cond (Nat.blt pc 13) (cond (Nat.beq pc 10) (some (.invokespecial 254, 13, 0)) none) (cond (Nat.beq pc 13) (some (.areturn, 14, 0)) none)))
def m_TS_paintingOf : MI := (⟨"TileStudio", "paintingOf", "(I)LTileStudio$Painting;"⟩, prog_1_method_32_code, 2, (Option.some (Jvm.ClassFile.FieldType.object "TileStudio$Painting")), [], zmk 14 tb_TS_paintingOf)
theorem ok_TS_paintingOf : zok m_TS_paintingOf := zok_mk rfl (by decide +kernel)
def tb_Painting_init : ZT := fun pc => cond (Nat.blt pc 19) (cond (Nat.blt pc 9) (cond (Nat.blt pc 4) (cond (Nat.blt pc 1) (cond (Nat.beq pc 0) (some (.aload_n 0, 1, 0)) none) (cond (Nat.beq pc 1) (some (.invokespecial 1, 4, 0)) none)) (cond (Nat.blt pc 5) (cond (Nat.beq pc 4) (some (.aload_n 0, 5, 0)) none) (cond (Nat.blt pc 6) (cond (Nat.beq pc 5) (some (.aload_n 1, 6, 0)) none) (cond (Nat.beq pc 6) (some (.putfield 7, 9, 0)) none)))) (cond (Nat.blt pc 14) (cond (Nat.blt pc 10) (cond (Nat.beq pc 9) (some (.aload_n 0, 10, 0)) none) (cond (Nat.blt pc 11) (cond (Nat.beq pc 10) (some (.iload_n 2, 11, 0)) none) (cond (Nat.beq pc 11) (some (.putfield 13, 14, 0)) none))) (cond (Nat.blt pc 15) (cond (Nat.beq pc 14) (some (.aload_n 0, 15, 0)) none) (cond (Nat.blt pc 16) (cond (Nat.beq pc 15) (some (.aload_n 1, 16, 0)) none) (cond (Nat.beq pc 16) (some (.getfield 17, 19, 0)) none))))) (cond (Nat.blt pc 26) (cond (Nat.blt pc 21) (cond (Nat.blt pc 20) (cond (Nat.beq pc 19) (some (.iload_n 2, 20, 0)) none) (cond (Nat.beq pc 20) (some (.aaload, 21, 0)) none)) (cond (Nat.blt pc 24) (cond (Nat.beq pc 21) (some (.putfield 23, 24, 0)) none) (cond (Nat.blt pc 25) (cond (Nat.beq pc 24) (some (.aload_n 0, 25, 0)) none) (cond (Nat.beq pc 25) (some (.aload_n 0, 26, 0)) none)))) (cond (Nat.blt pc 35) (cond (Nat.blt pc 29) (cond (Nat.beq pc 26) (some (.getfield 23, 29, 0)) none) (cond (Nat.blt pc 32) (cond (Nat.beq pc 29) (some (.getfield 27, 32, 0)) none) (cond (Nat.beq pc 32) (some (.invokevirtual 33, 35, 0)) none))) (cond (Nat.blt pc 38) (cond (Nat.beq pc 35) (some (.checkcast 34, 38, 0)) none) (cond (Nat.blt pc 41) (cond (Nat.beq pc 38) (some (.putfield 38, 41, 0)) none) (cond (Nat.beq pc 41) (some (.return_, 42, 0)) none)))))
def m_Painting_init : MI := (⟨"TileStudio$Painting", "<init>", "(LTileStudio$Picture;I)V"⟩, prog_6_method_1_code, 3, none, [], zmk 42 tb_Painting_init)
theorem ok_Painting_init : zok m_Painting_init := zok_mk rfl (by decide +kernel)
def tb_Painting_height : ZT := fun pc => cond (Nat.blt pc 4) (cond (Nat.blt pc 1) (cond (Nat.beq pc 0) (some (.aload_n 0, 1, 0)) none) (cond (Nat.beq pc 1) (some (.getfield 7, 4, 0)) none)) (cond (Nat.blt pc 7) (cond (Nat.beq pc 4) (some (.getfield 44, 7, 0)) none) (cond (Nat.beq pc 7) (some (.ireturn, 8, 0)) none))
def m_Painting_height : MI := (⟨"TileStudio$Painting", "height", "()I"⟩, prog_6_method_3_code, 1, (Option.some Jvm.ClassFile.FieldType.int), [], zmk 8 tb_Painting_height)
theorem ok_Painting_height : zok m_Painting_height := zok_mk rfl (by decide +kernel)
def tb_Painting_width : ZT := fun pc => cond (Nat.blt pc 4) (cond (Nat.blt pc 1) (cond (Nat.beq pc 0) (some (.aload_n 0, 1, 0)) none) (cond (Nat.beq pc 1) (some (.getfield 7, 4, 0)) none)) (cond (Nat.blt pc 7) (cond (Nat.beq pc 4) (some (.getfield 41, 7, 0)) none) (cond (Nat.beq pc 7) (some (.ireturn, 8, 0)) none))
def m_Painting_width : MI := (⟨"TileStudio$Painting", "width", "()I"⟩, prog_6_method_2_code, 1, (Option.some Jvm.ClassFile.FieldType.int), [], zmk 8 tb_Painting_width)
theorem ok_Painting_width : zok m_Painting_width := zok_mk rfl (by decide +kernel)
def tb_Painting_put : ZT := fun pc => cond (Nat.blt pc 14) (cond (Nat.blt pc 6) (cond (Nat.blt pc 2) (cond (Nat.blt pc 1) (cond (Nat.beq pc 0) (some (.aload_n 0, 1, 0)) none) (cond (Nat.beq pc 1) (some (.iload_n 1, 2, 0)) none)) (cond (Nat.blt pc 3) (cond (Nat.beq pc 2) (some (.iload_n 2, 3, 0)) none) (cond (Nat.beq pc 3) (some (.invokevirtual 57, 6, 0)) none))) (cond (Nat.blt pc 10) (cond (Nat.blt pc 9) (cond (Nat.beq pc 6) (some (.ifCond .eq 20, 9, 26)) none) (cond (Nat.beq pc 9) (some (.aload_n 0, 10, 0)) none)) (cond (Nat.blt pc 13) (cond (Nat.beq pc 10) (some (.getfield 38, 13, 0)) none) (cond (Nat.beq pc 13) (some (.iload_n 2, 14, 0)) none)))) (cond (Nat.blt pc 22) (cond (Nat.blt pc 18) (cond (Nat.blt pc 15) (cond (Nat.beq pc 14) (some (.aload_n 0, 15, 0)) none) (cond (Nat.beq pc 15) (some (.getfield 23, 18, 0)) none)) (cond (Nat.blt pc 21) (cond (Nat.beq pc 18) (some (.getfield 60, 21, 0)) none) (cond (Nat.beq pc 21) (some (.imul, 22, 0)) none))) (cond (Nat.blt pc 24) (cond (Nat.blt pc 23) (cond (Nat.beq pc 22) (some (.iload_n 1, 23, 0)) none) (cond (Nat.beq pc 23) (some (.iadd, 24, 0)) none)) (cond (Nat.blt pc 25) (cond (Nat.beq pc 24) (some (.iload_n 3, 25, 0)) none) (cond (Nat.blt pc 26) (cond (Nat.beq pc 25) (some (.iastore, 26, 0)) none) (cond (Nat.beq pc 26) (some (.return_, 27, 0)) none)))))
def m_Painting_put : MI := (⟨"TileStudio$Painting", "put", "(III)V"⟩, prog_6_method_5_code, 4, none, [], zmk 27 tb_Painting_put)
theorem ok_Painting_put : zok m_Painting_put := zok_mk rfl (by decide +kernel)
def tb_Painting_takes : ZT := fun pc => cond (Nat.blt pc 7) (cond (Nat.blt pc 1) (cond (Nat.beq pc 0) (some (.aload_n 0, 1, 0)) none) (cond (Nat.blt pc 4) (cond (Nat.beq pc 1) (some (.getfield 7, 4, 0)) none) (cond (Nat.beq pc 4) (some (.getfield 47, 7, 0)) none))) (cond (Nat.blt pc 9) (cond (Nat.blt pc 8) (cond (Nat.beq pc 7) (some (.iload_n 1, 8, 0)) none) (cond (Nat.beq pc 8) (some (.iload_n 2, 9, 0)) none)) (cond (Nat.blt pc 12) (cond (Nat.beq pc 9) (some (.invokevirtual 51, 12, 0)) none) (cond (Nat.beq pc 12) (some (.ireturn, 13, 0)) none)))
def m_Painting_takes : MI := (⟨"TileStudio$Painting", "takes", "(II)Z"⟩, prog_6_method_4_code, 3, (Option.some Jvm.ClassFile.FieldType.boolean), [], zmk 13 tb_Painting_takes)
theorem ok_Painting_takes : zok m_Painting_takes := zok_mk rfl (by decide +kernel)
def tb_Places_has : ZT := fun pc => cond (Nat.blt pc 17) (cond (Nat.blt pc 6) (cond (Nat.blt pc 4) (cond (Nat.blt pc 1) (cond (Nat.beq pc 0) (some (.iload_n 1, 1, 0)) none) (cond (Nat.beq pc 1) (some (.ifCond .lt 27, 4, 28)) none)) (cond (Nat.blt pc 5) (cond (Nat.beq pc 4) (some (.iload_n 1, 5, 0)) none) (cond (Nat.beq pc 5) (some (.aload_n 0, 6, 0)) none))) (cond (Nat.blt pc 12) (cond (Nat.blt pc 9) (cond (Nat.beq pc 6) (some (.getfield 7, 9, 0)) none) (cond (Nat.beq pc 9) (some (.if_icmp .ge 19, 12, 28)) none)) (cond (Nat.blt pc 13) (cond (Nat.beq pc 12) (some (.aload_n 0, 13, 0)) none) (cond (Nat.blt pc 14) (cond (Nat.beq pc 13) (some (.iload_n 2, 14, 0)) none) (cond (Nat.beq pc 14) (some (.invokevirtual 17, 17, 0)) none))))) (cond (Nat.blt pc 21) (cond (Nat.blt pc 19) (cond (Nat.blt pc 18) (cond (Nat.beq pc 17) (some (.iload_n 1, 18, 0)) none) (cond (Nat.beq pc 18) (some (.ishr, 19, 0)) none)) (cond (Nat.blt pc 20) (cond (Nat.beq pc 19) (some (.iconst 1, 20, 0)) none) (cond (Nat.beq pc 20) (some (.iand, 21, 0)) none))) (cond (Nat.blt pc 25) (cond (Nat.blt pc 24) (cond (Nat.beq pc 21) (some (.ifCond .eq 7, 24, 28)) none) (cond (Nat.beq pc 24) (some (.iconst 1, 25, 0)) none)) (cond (Nat.blt pc 28) (cond (Nat.beq pc 25) (some (.goto 4, 28, 29)) none) (cond (Nat.blt pc 29) (cond (Nat.beq pc 28) (some (.iconst 0, 29, 0)) none) (cond (Nat.beq pc 29) (some (.ireturn, 30, 0)) none)))))
def m_Places_has : MI := (⟨"TileStudio$Places", "has", "(II)Z"⟩, prog_8_method_4_code, 3, (Option.some Jvm.ClassFile.FieldType.boolean), [], zmk 30 tb_Places_has)
theorem ok_Places_has : zok m_Places_has := zok_mk rfl (by decide +kernel)
def tb_Places_rowAt : ZT := fun pc => cond (Nat.blt pc 13) (cond (Nat.blt pc 5) (cond (Nat.blt pc 1) (cond (Nat.beq pc 0) (some (.iload_n 1, 1, 0)) none) (cond (Nat.blt pc 4) (cond (Nat.beq pc 1) (some (.ifCond .lt 21, 4, 22)) none) (cond (Nat.beq pc 4) (some (.iload_n 1, 5, 0)) none))) (cond (Nat.blt pc 9) (cond (Nat.blt pc 6) (cond (Nat.beq pc 5) (some (.aload_n 0, 6, 0)) none) (cond (Nat.beq pc 6) (some (.getfield 13, 9, 0)) none)) (cond (Nat.blt pc 10) (cond (Nat.beq pc 9) (some (.arraylength, 10, 0)) none) (cond (Nat.beq pc 10) (some (.if_icmp .ge 12, 13, 22)) none)))) (cond (Nat.blt pc 18) (cond (Nat.blt pc 14) (cond (Nat.beq pc 13) (some (.aload_n 0, 14, 0)) none) (cond (Nat.blt pc 17) (cond (Nat.beq pc 14) (some (.getfield 13, 17, 0)) none) (cond (Nat.beq pc 17) (some (.iload_n 1, 18, 0)) none))) (cond (Nat.blt pc 22) (cond (Nat.blt pc 19) (cond (Nat.beq pc 18) (some (.iaload, 19, 0)) none) (cond (Nat.beq pc 19) (some (.goto 4, 22, 23)) none)) (cond (Nat.blt pc 23) (cond (Nat.beq pc 22) (some (.iconst 0, 23, 0)) none) (cond (Nat.beq pc 23) (some (.ireturn, 24, 0)) none))))
def m_Places_rowAt : MI := (⟨"TileStudio$Places", "rowAt", "(I)I"⟩, prog_8_method_3_code, 2, (Option.some Jvm.ClassFile.FieldType.int), [], zmk 24 tb_Places_rowAt)
theorem ok_Places_rowAt : zok m_Places_rowAt := zok_mk rfl (by decide +kernel)
def tb_Painting_result : ZT := fun pc => cond (Nat.blt pc 9) (cond (Nat.blt pc 4) (cond (Nat.blt pc 1) (cond (Nat.beq pc 0) (some (.aload_n 0, 1, 0)) none) (cond (Nat.beq pc 1) (some (.getfield 7, 4, 0)) none)) (cond (Nat.blt pc 5) (cond (Nat.beq pc 4) (some (.aload_n 0, 5, 0)) none) (cond (Nat.blt pc 8) (cond (Nat.beq pc 5) (some (.getfield 13, 8, 0)) none) (cond (Nat.beq pc 8) (some (.aload_n 0, 9, 0)) none)))) (cond (Nat.blt pc 16) (cond (Nat.blt pc 12) (cond (Nat.beq pc 9) (some (.getfield 23, 12, 0)) none) (cond (Nat.blt pc 13) (cond (Nat.beq pc 12) (some (.aload_n 0, 13, 0)) none) (cond (Nat.beq pc 13) (some (.getfield 38, 16, 0)) none))) (cond (Nat.blt pc 19) (cond (Nat.beq pc 16) (some (.invokevirtual 61, 19, 0)) none) (cond (Nat.blt pc 22) (cond (Nat.beq pc 19) (some (.invokevirtual 65, 22, 0)) none) (cond (Nat.beq pc 22) (some (.areturn, 23, 0)) none))))
def m_Painting_result : MI := (⟨"TileStudio$Painting", "result", "()LTileStudio$Picture;"⟩, prog_6_method_6_code, 1, (Option.some (Jvm.ClassFile.FieldType.object "TileStudio$Picture")), [], zmk 23 tb_Painting_result)
theorem ok_Painting_result : zok m_Painting_result := zok_mk rfl (by decide +kernel)
def tb_Layer_withDots : ZT := fun pc => cond (Nat.blt pc 13) (cond (Nat.blt pc 5) (cond (Nat.blt pc 3) (cond (Nat.beq pc 0) (some (.new 10, 3, 0)) none) (cond (Nat.blt pc 4) (cond (Nat.beq pc 3) (some (.dup, 4, 0)) none) (cond (Nat.beq pc 4) (some (.aload_n 0, 5, 0)) none))) (cond (Nat.blt pc 9) (cond (Nat.blt pc 8) (cond (Nat.beq pc 5) (some (.getfield 9, 8, 0)) none) (cond (Nat.beq pc 8) (some (.aload_n 0, 9, 0)) none)) (cond (Nat.blt pc 12) (cond (Nat.beq pc 9) (some (.getfield 15, 12, 0)) none) (cond (Nat.beq pc 12) (some (.aload_n 1, 13, 0)) none)))) (cond (Nat.blt pc 21) (cond (Nat.blt pc 17) (cond (Nat.blt pc 14) (cond (Nat.beq pc 13) (some (.aload_n 0, 14, 0)) none) (cond (Nat.beq pc 14) (some (.getfield 22, 17, 0)) none)) (cond (Nat.blt pc 18) (cond (Nat.beq pc 17) (some (.aload_n 0, 18, 0)) none) (cond (Nat.beq pc 18) (some (.getfield 25, 21, 0)) none))) (cond (Nat.blt pc 25) (cond (Nat.blt pc 22) (cond (Nat.beq pc 21) (some (.aload_n 0, 22, 0)) none) (cond (Nat.beq pc 22) (some (.getfield 28, 25, 0)) none)) (cond (Nat.blt pc 28) (cond (Nat.beq pc 25) (some (.invokespecial 32, 28, 0)) none) (cond (Nat.beq pc 28) (some (.areturn, 29, 0)) none))))
def m_Layer_withDots : MI := (⟨"TileStudio$Layer", "withDots", "([I)LTileStudio$Layer;"⟩, prog_5_method_2_code, 2, (Option.some (Jvm.ClassFile.FieldType.object "TileStudio$Layer")), [], zmk 29 tb_Layer_withDots)
theorem ok_Layer_withDots : zok m_Layer_withDots := zok_mk rfl (by decide +kernel)
def tb_L_gradient : ZT := fun pc => cond (Nat.blt pc 9) (cond (Nat.blt pc 3) (cond (Nat.blt pc 1) (cond (Nat.beq pc 0) (some (.aload_n 0, 1, 0)) none) (cond (Nat.blt pc 2) (cond (Nat.beq pc 1) (some (.iload_n 1, 2, 0)) none) (cond (Nat.beq pc 2) (some (.iload_n 2, 3, 0)) none))) (cond (Nat.blt pc 4) (cond (Nat.beq pc 3) (some (.iload_n 3, 4, 0)) none) (cond (Nat.blt pc 6) (cond (Nat.beq pc 4) (some (.iload 4, 6, 0)) none) (cond (Nat.beq pc 6) (some (.invokevirtual 41, 9, 0)) none)))) (cond (Nat.blt pc 15) (cond (Nat.blt pc 12) (cond (Nat.beq pc 9) (some (.goto 7, 12, 16)) none) (cond (Nat.blt pc 14) (cond (Nat.beq pc 12) (some (.astore 5, 14, 0)) none) (cond (Nat.beq pc 14) (some (.iconst 1, 15, 0)) none))) (cond (Nat.blt pc 16) (cond (Nat.beq pc 15) (some (.ireturn, 16, 0)) none) (cond (Nat.blt pc 17) (cond (Nat.beq pc 16) (some (.iconst 0, 17, 0)) none) (cond (Nat.beq pc 17) (some (.ireturn, 18, 0)) none))))
def m_L_gradient : MI := (⟨"TileStudioLaw", "gradient", "(LTileStudio;IIII)I"⟩, method_11_code, 6, (Option.some Jvm.ClassFile.FieldType.int), [(0, 9, 12, 13)], zmk 18 tb_L_gradient)
theorem ok_L_gradient : zok m_L_gradient := zok_mk rfl (by decide +kernel)
def tb_TS_gradient : ZT := fun pc => cond (Nat.blt pc 55) (cond (Nat.blt pc 27) (cond (Nat.blt pc 10) (cond (Nat.blt pc 5) (cond (Nat.blt pc 1) (cond (Nat.beq pc 0) (some (.aload_n 0, 1, 0)) none) (cond (Nat.blt pc 2) (cond (Nat.beq pc 1) (some (.iload_n 1, 2, 0)) none) (cond (Nat.beq pc 2) (some (.invokevirtual 119, 5, 0)) none))) (cond (Nat.blt pc 7) (cond (Nat.beq pc 5) (some (.astore 5, 7, 0)) none) (cond (Nat.blt pc 9) (cond (Nat.beq pc 7) (some (.iload 4, 9, 0)) none) (cond (Nat.beq pc 9) (some (.iconst 0, 10, 0)) none)))) (cond (Nat.blt pc 17) (cond (Nat.blt pc 11) (cond (Nat.beq pc 10) (some (.iconst 1, 11, 0)) none) (cond (Nat.blt pc 14) (cond (Nat.beq pc 11) (some (.invokestatic 16, 14, 0)) none) (cond (Nat.beq pc 14) (some (.invokestatic 20, 17, 0)) none))) (cond (Nat.blt pc 22) (cond (Nat.blt pc 19) (cond (Nat.beq pc 17) (some (.iload 4, 19, 0)) none) (cond (Nat.beq pc 19) (some (.ifCond .ne 11, 22, 30)) none)) (cond (Nat.blt pc 24) (cond (Nat.beq pc 22) (some (.aload 5, 24, 0)) none) (cond (Nat.beq pc 24) (some (.invokevirtual 127, 27, 0)) none))))) (cond (Nat.blt pc 40) (cond (Nat.blt pc 35) (cond (Nat.blt pc 30) (cond (Nat.beq pc 27) (some (.goto 8, 30, 35)) none) (cond (Nat.blt pc 32) (cond (Nat.beq pc 30) (some (.aload 5, 32, 0)) none) (cond (Nat.beq pc 32) (some (.invokevirtual 123, 35, 0)) none))) (cond (Nat.blt pc 37) (cond (Nat.blt pc 36) (cond (Nat.beq pc 35) (some (.iconst 1, 36, 0)) none) (cond (Nat.beq pc 36) (some (.isub, 37, 0)) none)) (cond (Nat.blt pc 39) (cond (Nat.beq pc 37) (some (.istore 6, 39, 0)) none) (cond (Nat.beq pc 39) (some (.iconst 0, 40, 0)) none)))) (cond (Nat.blt pc 46) (cond (Nat.blt pc 42) (cond (Nat.beq pc 40) (some (.istore 7, 42, 0)) none) (cond (Nat.blt pc 44) (cond (Nat.beq pc 42) (some (.iload 7, 44, 0)) none) (cond (Nat.beq pc 44) (some (.aload 5, 46, 0)) none))) (cond (Nat.blt pc 52) (cond (Nat.blt pc 49) (cond (Nat.beq pc 46) (some (.invokevirtual 123, 49, 0)) none) (cond (Nat.beq pc 49) (some (.if_icmp .ge 56, 52, 105)) none)) (cond (Nat.blt pc 53) (cond (Nat.beq pc 52) (some (.iconst 0, 53, 0)) none) (cond (Nat.beq pc 53) (some (.istore 8, 55, 0)) none)))))) (cond (Nat.blt pc 83) (cond (Nat.blt pc 69) (cond (Nat.blt pc 62) (cond (Nat.blt pc 57) (cond (Nat.beq pc 55) (some (.iload 8, 57, 0)) none) (cond (Nat.blt pc 59) (cond (Nat.beq pc 57) (some (.aload 5, 59, 0)) none) (cond (Nat.beq pc 59) (some (.invokevirtual 127, 62, 0)) none))) (cond (Nat.blt pc 65) (cond (Nat.beq pc 62) (some (.if_icmp .ge 37, 65, 99)) none) (cond (Nat.blt pc 67) (cond (Nat.beq pc 65) (some (.aload 5, 67, 0)) none) (cond (Nat.beq pc 67) (some (.iload 8, 69, 0)) none)))) (cond (Nat.blt pc 73) (cond (Nat.blt pc 71) (cond (Nat.beq pc 69) (some (.iload 7, 71, 0)) none) (cond (Nat.blt pc 72) (cond (Nat.beq pc 71) (some (.iload_n 2, 72, 0)) none) (cond (Nat.beq pc 72) (some (.iload_n 3, 73, 0)) none))) (cond (Nat.blt pc 78) (cond (Nat.blt pc 75) (cond (Nat.beq pc 73) (some (.iload 4, 75, 0)) none) (cond (Nat.beq pc 75) (some (.ifCond .ne 8, 78, 83)) none)) (cond (Nat.blt pc 80) (cond (Nat.beq pc 78) (some (.iload 8, 80, 0)) none) (cond (Nat.beq pc 80) (some (.goto 5, 83, 85)) none))))) (cond (Nat.blt pc 102) (cond (Nat.blt pc 90) (cond (Nat.blt pc 85) (cond (Nat.beq pc 83) (some (.iload 7, 85, 0)) none) (cond (Nat.blt pc 87) (cond (Nat.beq pc 85) (some (.iload 6, 87, 0)) none) (cond (Nat.beq pc 87) (some (.invokestatic 136, 90, 0)) none))) (cond (Nat.blt pc 96) (cond (Nat.blt pc 93) (cond (Nat.beq pc 90) (some (.invokevirtual 129, 93, 0)) none) (cond (Nat.beq pc 93) (some (.iinc 8 1, 96, 0)) none)) (cond (Nat.blt pc 99) (cond (Nat.beq pc 96) (some (.goto (-41), 99, 55)) none) (cond (Nat.beq pc 99) (some (.iinc 7 1, 102, 0)) none)))) (cond (Nat.blt pc 109) (cond (Nat.blt pc 105) (cond (Nat.beq pc 102) (some (.goto (-60), 105, 42)) none) (cond (Nat.blt pc 106) (cond (Nat.beq pc 105) (some (.aload_n 0, 106, 0)) none) (cond (Nat.beq pc 106) (some (.getfield 12, 109, 0)) none))) (cond (Nat.blt pc 114) (cond (Nat.blt pc 111) (cond (Nat.beq pc 109) (some (.aload 5, 111, 0)) none) (cond (Nat.beq pc 111) (some (.invokevirtual 133, 114, 0)) none)) (cond (Nat.blt pc 117) (cond (Nat.beq pc 114) (some (.invokevirtual 74, 117, 0)) none) (cond (Nat.beq pc 117) (some (.return_, 118, 0)) none))))))
def m_TS_gradient : MI := (⟨"TileStudio", "gradient", "(IIII)V"⟩, prog_1_method_10_code, 9, none, [], zmk 118 tb_TS_gradient)
theorem ok_TS_gradient : zok m_TS_gradient := zok_mk rfl (by decide +kernel)
end
section
def tb_Dots_between : ZT := fun pc => cond (Nat.blt pc 31) (cond (Nat.blt pc 15) (cond (Nat.blt pc 7) (cond (Nat.blt pc 4) (cond (Nat.blt pc 1) (cond (Nat.beq pc 0) (some (.iload_n 3, 1, 0)) none) (cond (Nat.beq pc 1) (some (.ifCond .ne 5, 4, 6)) none)) (cond (Nat.blt pc 5) (cond (Nat.beq pc 4) (some (.iload_n 0, 5, 0)) none) (cond (Nat.blt pc 6) (cond (Nat.beq pc 5) (some (.ireturn, 6, 0)) none) (cond (Nat.beq pc 6) (some (.iconst 0, 7, 0)) none)))) (cond (Nat.blt pc 10) (cond (Nat.blt pc 9) (cond (Nat.beq pc 7) (some (.istore 4, 9, 0)) none) (cond (Nat.beq pc 9) (some (.iconst 0, 10, 0)) none)) (cond (Nat.blt pc 12) (cond (Nat.beq pc 10) (some (.istore 5, 12, 0)) none) (cond (Nat.blt pc 14) (cond (Nat.beq pc 12) (some (.iload 5, 14, 0)) none) (cond (Nat.beq pc 14) (some (.iconst 4, 15, 0)) none))))) (cond (Nat.blt pc 25) (cond (Nat.blt pc 19) (cond (Nat.blt pc 18) (cond (Nat.beq pc 15) (some (.if_icmp .ge 48, 18, 63)) none) (cond (Nat.beq pc 18) (some (.iload_n 0, 19, 0)) none)) (cond (Nat.blt pc 21) (cond (Nat.beq pc 19) (some (.iload 5, 21, 0)) none) (cond (Nat.blt pc 24) (cond (Nat.beq pc 21) (some (.invokestatic 9, 24, 0)) none) (cond (Nat.beq pc 24) (some (.iload_n 3, 25, 0)) none)))) (cond (Nat.blt pc 27) (cond (Nat.blt pc 26) (cond (Nat.beq pc 25) (some (.iload_n 2, 26, 0)) none) (cond (Nat.beq pc 26) (some (.isub, 27, 0)) none)) (cond (Nat.blt pc 28) (cond (Nat.beq pc 27) (some (.imul, 28, 0)) none) (cond (Nat.blt pc 29) (cond (Nat.beq pc 28) (some (.iload_n 1, 29, 0)) none) (cond (Nat.beq pc 29) (some (.iload 5, 31, 0)) none)))))) (cond (Nat.blt pc 46) (cond (Nat.blt pc 39) (cond (Nat.blt pc 35) (cond (Nat.blt pc 34) (cond (Nat.beq pc 31) (some (.invokestatic 9, 34, 0)) none) (cond (Nat.beq pc 34) (some (.iload_n 2, 35, 0)) none)) (cond (Nat.blt pc 36) (cond (Nat.beq pc 35) (some (.imul, 36, 0)) none) (cond (Nat.blt pc 37) (cond (Nat.beq pc 36) (some (.iadd, 37, 0)) none) (cond (Nat.beq pc 37) (some (.istore 6, 39, 0)) none)))) (cond (Nat.blt pc 43) (cond (Nat.blt pc 41) (cond (Nat.beq pc 39) (some (.iload 4, 41, 0)) none) (cond (Nat.beq pc 41) (some (.iload 6, 43, 0)) none)) (cond (Nat.blt pc 44) (cond (Nat.beq pc 43) (some (.iload_n 3, 44, 0)) none) (cond (Nat.blt pc 45) (cond (Nat.beq pc 44) (some (.iconst 2, 45, 0)) none) (cond (Nat.beq pc 45) (some (.idiv, 46, 0)) none))))) (cond (Nat.blt pc 54) (cond (Nat.blt pc 48) (cond (Nat.blt pc 47) (cond (Nat.beq pc 46) (some (.iadd, 47, 0)) none) (cond (Nat.beq pc 47) (some (.iload_n 3, 48, 0)) none)) (cond (Nat.blt pc 49) (cond (Nat.beq pc 48) (some (.idiv, 49, 0)) none) (cond (Nat.blt pc 51) (cond (Nat.beq pc 49) (some (.iload 5, 51, 0)) none) (cond (Nat.beq pc 51) (some (.invokestatic 21, 54, 0)) none)))) (cond (Nat.blt pc 60) (cond (Nat.blt pc 55) (cond (Nat.beq pc 54) (some (.ior, 55, 0)) none) (cond (Nat.blt pc 57) (cond (Nat.beq pc 55) (some (.istore 4, 57, 0)) none) (cond (Nat.beq pc 57) (some (.iinc 5 1, 60, 0)) none))) (cond (Nat.blt pc 63) (cond (Nat.beq pc 60) (some (.goto (-48), 63, 12)) none) (cond (Nat.blt pc 65) (cond (Nat.beq pc 63) (some (.iload 4, 65, 0)) none) (cond (Nat.beq pc 65) (some (.ireturn, 66, 0)) none))))))
def m_Dots_between : MI := (⟨"TileStudio$Dots", "between", "(IIII)I"⟩, prog_3_method_6_code, 7, (Option.some Jvm.ClassFile.FieldType.int), [], zmk 66 tb_Dots_between)
theorem ok_Dots_between : zok m_Dots_between := zok_mk rfl (by decide +kernel)
def tb_Dots_byteOf : ZT := fun pc => cond (Nat.blt pc 7) (cond (Nat.blt pc 3) (cond (Nat.blt pc 1) (cond (Nat.beq pc 0) (some (.iload_n 0, 1, 0)) none) (cond (Nat.beq pc 1) (some (.bipush 24, 3, 0)) none)) (cond (Nat.blt pc 5) (cond (Nat.beq pc 3) (some (.bipush 8, 5, 0)) none) (cond (Nat.blt pc 6) (cond (Nat.beq pc 5) (some (.iload_n 1, 6, 0)) none) (cond (Nat.beq pc 6) (some (.imul, 7, 0)) none)))) (cond (Nat.blt pc 9) (cond (Nat.blt pc 8) (cond (Nat.beq pc 7) (some (.isub, 8, 0)) none) (cond (Nat.beq pc 8) (some (.iushr, 9, 0)) none)) (cond (Nat.blt pc 12) (cond (Nat.beq pc 9) (some (.sipush 255, 12, 0)) none) (cond (Nat.blt pc 13) (cond (Nat.beq pc 12) (some (.iand, 13, 0)) none) (cond (Nat.beq pc 13) (some (.ireturn, 14, 0)) none))))
def m_Dots_byteOf : MI := (⟨"TileStudio$Dots", "byteOf", "(II)I"⟩, prog_3_method_2_code, 2, (Option.some Jvm.ClassFile.FieldType.int), [], zmk 14 tb_Dots_byteOf)
theorem ok_Dots_byteOf : zok m_Dots_byteOf := zok_mk rfl (by decide +kernel)
def tb_Dots_placed : ZT := fun pc => cond (Nat.blt pc 6) (cond (Nat.blt pc 3) (cond (Nat.blt pc 1) (cond (Nat.beq pc 0) (some (.iload_n 0, 1, 0)) none) (cond (Nat.beq pc 1) (some (.bipush 24, 3, 0)) none)) (cond (Nat.blt pc 5) (cond (Nat.beq pc 3) (some (.bipush 8, 5, 0)) none) (cond (Nat.beq pc 5) (some (.iload_n 1, 6, 0)) none))) (cond (Nat.blt pc 8) (cond (Nat.blt pc 7) (cond (Nat.beq pc 6) (some (.imul, 7, 0)) none) (cond (Nat.beq pc 7) (some (.isub, 8, 0)) none)) (cond (Nat.blt pc 9) (cond (Nat.beq pc 8) (some (.ishl, 9, 0)) none) (cond (Nat.beq pc 9) (some (.ireturn, 10, 0)) none)))
def m_Dots_placed : MI := (⟨"TileStudio$Dots", "placed", "(II)I"⟩, prog_3_method_3_code, 2, (Option.some Jvm.ClassFile.FieldType.int), [], zmk 10 tb_Dots_placed)
theorem ok_Dots_placed : zok m_Dots_placed := zok_mk rfl (by decide +kernel)
def tb_L_stroke : ZT := fun pc => cond (Nat.blt pc 7) (cond (Nat.blt pc 2) (cond (Nat.blt pc 1) (cond (Nat.beq pc 0) (some (.aload_n 0, 1, 0)) none) (cond (Nat.beq pc 1) (some (.iload_n 1, 2, 0)) none)) (cond (Nat.blt pc 3) (cond (Nat.beq pc 2) (some (.iload_n 2, 3, 0)) none) (cond (Nat.blt pc 4) (cond (Nat.beq pc 3) (some (.iload_n 3, 4, 0)) none) (cond (Nat.beq pc 4) (some (.invokevirtual 45, 7, 0)) none)))) (cond (Nat.blt pc 13) (cond (Nat.blt pc 10) (cond (Nat.beq pc 7) (some (.goto 7, 10, 14)) none) (cond (Nat.blt pc 12) (cond (Nat.beq pc 10) (some (.astore 4, 12, 0)) none) (cond (Nat.beq pc 12) (some (.iconst 1, 13, 0)) none))) (cond (Nat.blt pc 14) (cond (Nat.beq pc 13) (some (.ireturn, 14, 0)) none) (cond (Nat.blt pc 15) (cond (Nat.beq pc 14) (some (.iconst 0, 15, 0)) none) (cond (Nat.beq pc 15) (some (.ireturn, 16, 0)) none))))
def m_L_stroke : MI := (⟨"TileStudioLaw", "stroke", "(LTileStudio;III)I"⟩, method_12_code, 5, (Option.some Jvm.ClassFile.FieldType.int), [(0, 7, 10, 13)], zmk 16 tb_L_stroke)
theorem ok_L_stroke : zok m_L_stroke := zok_mk rfl (by decide +kernel)
def tb_TS_stroke : ZT := fun pc => cond (Nat.blt pc 68) (cond (Nat.blt pc 29) (cond (Nat.blt pc 13) (cond (Nat.blt pc 7) (cond (Nat.blt pc 2) (cond (Nat.blt pc 1) (cond (Nat.beq pc 0) (some (.aload_n 0, 1, 0)) none) (cond (Nat.beq pc 1) (some (.iload_n 1, 2, 0)) none)) (cond (Nat.blt pc 5) (cond (Nat.beq pc 2) (some (.invokevirtual 119, 5, 0)) none) (cond (Nat.beq pc 5) (some (.astore 4, 7, 0)) none))) (cond (Nat.blt pc 9) (cond (Nat.blt pc 8) (cond (Nat.beq pc 7) (some (.iload_n 2, 8, 0)) none) (cond (Nat.beq pc 8) (some (.i2s, 9, 0)) none)) (cond (Nat.blt pc 10) (cond (Nat.beq pc 9) (some (.iload_n 2, 10, 0)) none) (cond (Nat.blt pc 12) (cond (Nat.beq pc 10) (some (.bipush 16, 12, 0)) none) (cond (Nat.beq pc 12) (some (.ishr, 13, 0)) none))))) (cond (Nat.blt pc 19) (cond (Nat.blt pc 17) (cond (Nat.blt pc 16) (cond (Nat.beq pc 13) (some (.invokestatic 142, 16, 0)) none) (cond (Nat.beq pc 16) (some (.iload_n 3, 17, 0)) none)) (cond (Nat.blt pc 18) (cond (Nat.beq pc 17) (some (.i2s, 18, 0)) none) (cond (Nat.beq pc 18) (some (.iload_n 3, 19, 0)) none))) (cond (Nat.blt pc 22) (cond (Nat.blt pc 21) (cond (Nat.beq pc 19) (some (.bipush 16, 21, 0)) none) (cond (Nat.beq pc 21) (some (.ishr, 22, 0)) none)) (cond (Nat.blt pc 25) (cond (Nat.beq pc 22) (some (.invokestatic 142, 25, 0)) none) (cond (Nat.blt pc 28) (cond (Nat.beq pc 25) (some (.new 24, 28, 0)) none) (cond (Nat.beq pc 28) (some (.dup, 29, 0)) none)))))) (cond (Nat.blt pc 48) (cond (Nat.blt pc 39) (cond (Nat.blt pc 34) (cond (Nat.blt pc 31) (cond (Nat.beq pc 29) (some (.aload 4, 31, 0)) none) (cond (Nat.beq pc 31) (some (.invokevirtual 127, 34, 0)) none)) (cond (Nat.blt pc 36) (cond (Nat.beq pc 34) (some (.aload 4, 36, 0)) none) (cond (Nat.beq pc 36) (some (.invokevirtual 123, 39, 0)) none))) (cond (Nat.blt pc 44) (cond (Nat.blt pc 42) (cond (Nat.beq pc 39) (some (.invokespecial 26, 42, 0)) none) (cond (Nat.beq pc 42) (some (.astore 5, 44, 0)) none)) (cond (Nat.blt pc 46) (cond (Nat.beq pc 44) (some (.aload 5, 46, 0)) none) (cond (Nat.blt pc 47) (cond (Nat.beq pc 46) (some (.iload_n 2, 47, 0)) none) (cond (Nat.beq pc 47) (some (.iload_n 3, 48, 0)) none))))) (cond (Nat.blt pc 56) (cond (Nat.blt pc 52) (cond (Nat.blt pc 49) (cond (Nat.beq pc 48) (some (.aload_n 0, 49, 0)) none) (cond (Nat.beq pc 49) (some (.getfield 116, 52, 0)) none)) (cond (Nat.blt pc 55) (cond (Nat.beq pc 52) (some (.invokestatic 145, 55, 0)) none) (cond (Nat.beq pc 55) (some (.iconst 0, 56, 0)) none))) (cond (Nat.blt pc 60) (cond (Nat.blt pc 58) (cond (Nat.beq pc 56) (some (.istore 6, 58, 0)) none) (cond (Nat.beq pc 58) (some (.iload 6, 60, 0)) none)) (cond (Nat.blt pc 62) (cond (Nat.beq pc 60) (some (.aload 4, 62, 0)) none) (cond (Nat.blt pc 65) (cond (Nat.beq pc 62) (some (.invokevirtual 123, 65, 0)) none) (cond (Nat.beq pc 65) (some (.if_icmp .ge 76, 68, 141)) none))))))) (cond (Nat.blt pc 109) (cond (Nat.blt pc 87) (cond (Nat.blt pc 75) (cond (Nat.blt pc 71) (cond (Nat.blt pc 69) (cond (Nat.beq pc 68) (some (.iconst 0, 69, 0)) none) (cond (Nat.beq pc 69) (some (.istore 7, 71, 0)) none)) (cond (Nat.blt pc 73) (cond (Nat.beq pc 71) (some (.iload 7, 73, 0)) none) (cond (Nat.beq pc 73) (some (.aload 4, 75, 0)) none))) (cond (Nat.blt pc 81) (cond (Nat.blt pc 78) (cond (Nat.beq pc 75) (some (.invokevirtual 127, 78, 0)) none) (cond (Nat.beq pc 78) (some (.if_icmp .ge 57, 81, 135)) none)) (cond (Nat.blt pc 83) (cond (Nat.beq pc 81) (some (.aload 5, 83, 0)) none) (cond (Nat.blt pc 85) (cond (Nat.beq pc 83) (some (.iload 7, 85, 0)) none) (cond (Nat.beq pc 85) (some (.iload 6, 87, 0)) none))))) (cond (Nat.blt pc 98) (cond (Nat.blt pc 93) (cond (Nat.blt pc 90) (cond (Nat.beq pc 87) (some (.invokevirtual 149, 90, 0)) none) (cond (Nat.beq pc 90) (some (.ifCond .eq 39, 93, 129)) none)) (cond (Nat.blt pc 95) (cond (Nat.beq pc 93) (some (.aload 4, 95, 0)) none) (cond (Nat.beq pc 95) (some (.getfield 153, 98, 0)) none))) (cond (Nat.blt pc 102) (cond (Nat.blt pc 100) (cond (Nat.beq pc 98) (some (.iload 7, 100, 0)) none) (cond (Nat.beq pc 100) (some (.iload 6, 102, 0)) none)) (cond (Nat.blt pc 105) (cond (Nat.beq pc 102) (some (.invokevirtual 157, 105, 0)) none) (cond (Nat.blt pc 107) (cond (Nat.beq pc 105) (some (.istore 8, 107, 0)) none) (cond (Nat.beq pc 107) (some (.aload 4, 109, 0)) none)))))) (cond (Nat.blt pc 129) (cond (Nat.blt pc 117) (cond (Nat.blt pc 113) (cond (Nat.blt pc 111) (cond (Nat.beq pc 109) (some (.iload 7, 111, 0)) none) (cond (Nat.beq pc 111) (some (.iload 6, 113, 0)) none)) (cond (Nat.blt pc 114) (cond (Nat.beq pc 113) (some (.aload_n 0, 114, 0)) none) (cond (Nat.beq pc 114) (some (.getfield 113, 117, 0)) none))) (cond (Nat.blt pc 120) (cond (Nat.blt pc 119) (cond (Nat.beq pc 117) (some (.iload 8, 119, 0)) none) (cond (Nat.beq pc 119) (some (.iconst 0, 120, 0)) none)) (cond (Nat.blt pc 123) (cond (Nat.beq pc 120) (some (.sipush 255, 123, 0)) none) (cond (Nat.blt pc 126) (cond (Nat.beq pc 123) (some (.invokestatic 161, 126, 0)) none) (cond (Nat.beq pc 126) (some (.invokevirtual 129, 129, 0)) none))))) (cond (Nat.blt pc 142) (cond (Nat.blt pc 135) (cond (Nat.blt pc 132) (cond (Nat.beq pc 129) (some (.iinc 7 1, 132, 0)) none) (cond (Nat.beq pc 132) (some (.goto (-61), 135, 71)) none)) (cond (Nat.blt pc 138) (cond (Nat.beq pc 135) (some (.iinc 6 1, 138, 0)) none) (cond (Nat.blt pc 141) (cond (Nat.beq pc 138) (some (.goto (-80), 141, 58)) none) (cond (Nat.beq pc 141) (some (.aload_n 0, 142, 0)) none)))) (cond (Nat.blt pc 147) (cond (Nat.blt pc 145) (cond (Nat.beq pc 142) (some (.getfield 12, 145, 0)) none) (cond (Nat.beq pc 145) (some (.aload 4, 147, 0)) none)) (cond (Nat.blt pc 150) (cond (Nat.beq pc 147) (some (.invokevirtual 133, 150, 0)) none) (cond (Nat.blt pc 153) (cond (Nat.beq pc 150) (some (.invokevirtual 74, 153, 0)) none) (cond (Nat.beq pc 153) (some (.return_, 154, 0)) none)))))))
def m_TS_stroke : MI := (⟨"TileStudio", "stroke", "(III)V"⟩, prog_1_method_11_code, 9, none, [], zmk 154 tb_TS_stroke)
theorem ok_TS_stroke : zok m_TS_stroke := zok_mk rfl (by decide +kernel)
def tb_TS_requireShift : ZT := fun pc => cond (Nat.blt pc 14) (cond (Nat.blt pc 5) (cond (Nat.blt pc 1) (cond (Nat.beq pc 0) (some (.iload_n 0, 1, 0)) none) (cond (Nat.blt pc 3) (cond (Nat.beq pc 1) (some (.bipush (-100), 3, 0)) none) (cond (Nat.beq pc 3) (some (.bipush 100, 5, 0)) none))) (cond (Nat.blt pc 11) (cond (Nat.blt pc 8) (cond (Nat.beq pc 5) (some (.invokestatic 16, 8, 0)) none) (cond (Nat.beq pc 8) (some (.ifCond .eq 18, 11, 26)) none)) (cond (Nat.blt pc 12) (cond (Nat.beq pc 11) (some (.iload_n 1, 12, 0)) none) (cond (Nat.beq pc 12) (some (.bipush (-100), 14, 0)) none)))) (cond (Nat.blt pc 23) (cond (Nat.blt pc 19) (cond (Nat.blt pc 16) (cond (Nat.beq pc 14) (some (.bipush 100, 16, 0)) none) (cond (Nat.beq pc 16) (some (.invokestatic 16, 19, 0)) none)) (cond (Nat.blt pc 22) (cond (Nat.beq pc 19) (some (.ifCond .eq 7, 22, 26)) none) (cond (Nat.beq pc 22) (some (.iconst 1, 23, 0)) none))) (cond (Nat.blt pc 27) (cond (Nat.blt pc 26) (cond (Nat.beq pc 23) (some (.goto 4, 26, 27)) none) (cond (Nat.beq pc 26) (some (.iconst 0, 27, 0)) none)) (cond (Nat.blt pc 30) (cond (Nat.beq pc 27) (some (.invokestatic 20, 30, 0)) none) (cond (Nat.beq pc 30) (some (.return_, 31, 0)) none))))
def m_TS_requireShift : MI := (⟨"TileStudio", "requireShift", "(II)V"⟩, prog_1_method_28_code, 2, none, [], zmk 31 tb_TS_requireShift)
theorem ok_TS_requireShift : zok m_TS_requireShift := zok_mk rfl (by decide +kernel)
def tb_TS_addLine : ZT := fun pc => cond (Nat.blt pc 39) (cond (Nat.blt pc 15) (cond (Nat.blt pc 7) (cond (Nat.blt pc 2) (cond (Nat.blt pc 1) (cond (Nat.beq pc 0) (some (.iload_n 1, 1, 0)) none) (cond (Nat.beq pc 1) (some (.i2s, 2, 0)) none)) (cond (Nat.blt pc 4) (cond (Nat.beq pc 2) (some (.istore 4, 4, 0)) none) (cond (Nat.blt pc 5) (cond (Nat.beq pc 4) (some (.iload_n 1, 5, 0)) none) (cond (Nat.beq pc 5) (some (.bipush 16, 7, 0)) none)))) (cond (Nat.blt pc 11) (cond (Nat.blt pc 8) (cond (Nat.beq pc 7) (some (.ishr, 8, 0)) none) (cond (Nat.blt pc 10) (cond (Nat.beq pc 8) (some (.istore 5, 10, 0)) none) (cond (Nat.beq pc 10) (some (.iload_n 2, 11, 0)) none))) (cond (Nat.blt pc 12) (cond (Nat.beq pc 11) (some (.i2s, 12, 0)) none) (cond (Nat.blt pc 14) (cond (Nat.beq pc 12) (some (.iload 4, 14, 0)) none) (cond (Nat.beq pc 14) (some (.isub, 15, 0)) none))))) (cond (Nat.blt pc 24) (cond (Nat.blt pc 20) (cond (Nat.blt pc 17) (cond (Nat.beq pc 15) (some (.istore 6, 17, 0)) none) (cond (Nat.blt pc 18) (cond (Nat.beq pc 17) (some (.iload_n 2, 18, 0)) none) (cond (Nat.beq pc 18) (some (.bipush 16, 20, 0)) none))) (cond (Nat.blt pc 21) (cond (Nat.beq pc 20) (some (.ishr, 21, 0)) none) (cond (Nat.blt pc 23) (cond (Nat.beq pc 21) (some (.iload 5, 23, 0)) none) (cond (Nat.beq pc 23) (some (.isub, 24, 0)) none)))) (cond (Nat.blt pc 31) (cond (Nat.blt pc 26) (cond (Nat.beq pc 24) (some (.istore 7, 26, 0)) none) (cond (Nat.blt pc 28) (cond (Nat.beq pc 26) (some (.iload 6, 28, 0)) none) (cond (Nat.beq pc 28) (some (.invokestatic 281, 31, 0)) none))) (cond (Nat.blt pc 33) (cond (Nat.beq pc 31) (some (.iload 7, 33, 0)) none) (cond (Nat.blt pc 36) (cond (Nat.beq pc 33) (some (.invokestatic 281, 36, 0)) none) (cond (Nat.beq pc 36) (some (.invokestatic 287, 39, 0)) none)))))) (cond (Nat.blt pc 63) (cond (Nat.blt pc 51) (cond (Nat.blt pc 44) (cond (Nat.blt pc 41) (cond (Nat.beq pc 39) (some (.istore 8, 41, 0)) none) (cond (Nat.blt pc 42) (cond (Nat.beq pc 41) (some (.iconst 0, 42, 0)) none) (cond (Nat.beq pc 42) (some (.istore 9, 44, 0)) none))) (cond (Nat.blt pc 46) (cond (Nat.beq pc 44) (some (.iload 9, 46, 0)) none) (cond (Nat.blt pc 48) (cond (Nat.beq pc 46) (some (.iload 8, 48, 0)) none) (cond (Nat.beq pc 48) (some (.if_icmp .gt 38, 51, 86)) none)))) (cond (Nat.blt pc 56) (cond (Nat.blt pc 52) (cond (Nat.beq pc 51) (some (.aload_n 0, 52, 0)) none) (cond (Nat.blt pc 54) (cond (Nat.beq pc 52) (some (.iload 4, 54, 0)) none) (cond (Nat.beq pc 54) (some (.iload 6, 56, 0)) none))) (cond (Nat.blt pc 58) (cond (Nat.beq pc 56) (some (.iload 9, 58, 0)) none) (cond (Nat.blt pc 60) (cond (Nat.beq pc 58) (some (.iload 8, 60, 0)) none) (cond (Nat.beq pc 60) (some (.invokestatic 290, 63, 0)) none))))) (cond (Nat.blt pc 75) (cond (Nat.blt pc 68) (cond (Nat.blt pc 64) (cond (Nat.beq pc 63) (some (.iadd, 64, 0)) none) (cond (Nat.blt pc 66) (cond (Nat.beq pc 64) (some (.iload 5, 66, 0)) none) (cond (Nat.beq pc 66) (some (.iload 7, 68, 0)) none))) (cond (Nat.blt pc 70) (cond (Nat.beq pc 68) (some (.iload 9, 70, 0)) none) (cond (Nat.blt pc 72) (cond (Nat.beq pc 70) (some (.iload 8, 72, 0)) none) (cond (Nat.beq pc 72) (some (.invokestatic 290, 75, 0)) none)))) (cond (Nat.blt pc 80) (cond (Nat.blt pc 76) (cond (Nat.beq pc 75) (some (.iadd, 76, 0)) none) (cond (Nat.blt pc 77) (cond (Nat.beq pc 76) (some (.iload_n 3, 77, 0)) none) (cond (Nat.beq pc 77) (some (.invokestatic 293, 80, 0)) none))) (cond (Nat.blt pc 83) (cond (Nat.beq pc 80) (some (.iinc 9 1, 83, 0)) none) (cond (Nat.blt pc 86) (cond (Nat.beq pc 83) (some (.goto (-39), 86, 44)) none) (cond (Nat.beq pc 86) (some (.return_, 87, 0)) none))))))
def m_TS_addLine : MI := (⟨"TileStudio", "addLine", "(LTileStudio$Places;III)V"⟩, prog_1_method_42_code, 10, none, [], zmk 87 tb_TS_addLine)
theorem ok_TS_addLine : zok m_TS_addLine := zok_mk rfl (by decide +kernel)
def tb_TS_partOf : ZT := fun pc => cond (Nat.blt pc 12) (cond (Nat.blt pc 8) (cond (Nat.blt pc 4) (cond (Nat.blt pc 1) (cond (Nat.beq pc 0) (some (.iload_n 2, 1, 0)) none) (cond (Nat.beq pc 1) (some (.ifCond .ne 7, 4, 8)) none)) (cond (Nat.blt pc 5) (cond (Nat.beq pc 4) (some (.iconst 0, 5, 0)) none) (cond (Nat.beq pc 5) (some (.goto 16, 8, 21)) none))) (cond (Nat.blt pc 10) (cond (Nat.blt pc 9) (cond (Nat.beq pc 8) (some (.iconst 2, 9, 0)) none) (cond (Nat.beq pc 9) (some (.iload_n 1, 10, 0)) none)) (cond (Nat.blt pc 11) (cond (Nat.beq pc 10) (some (.imul, 11, 0)) none) (cond (Nat.beq pc 11) (some (.iload_n 0, 12, 0)) none)))) (cond (Nat.blt pc 16) (cond (Nat.blt pc 14) (cond (Nat.blt pc 13) (cond (Nat.beq pc 12) (some (.imul, 13, 0)) none) (cond (Nat.beq pc 13) (some (.iload_n 2, 14, 0)) none)) (cond (Nat.blt pc 15) (cond (Nat.beq pc 14) (some (.iadd, 15, 0)) none) (cond (Nat.beq pc 15) (some (.iconst 2, 16, 0)) none))) (cond (Nat.blt pc 18) (cond (Nat.blt pc 17) (cond (Nat.beq pc 16) (some (.iload_n 2, 17, 0)) none) (cond (Nat.beq pc 17) (some (.imul, 18, 0)) none)) (cond (Nat.blt pc 21) (cond (Nat.beq pc 18) (some (.invokestatic 296, 21, 0)) none) (cond (Nat.beq pc 21) (some (.ireturn, 22, 0)) none))))
def m_TS_partOf : MI := (⟨"TileStudio", "partOf", "(III)I"⟩, prog_1_method_43_code, 3, (Option.some Jvm.ClassFile.FieldType.int), [], zmk 22 tb_TS_partOf)
theorem ok_TS_partOf : zok m_TS_partOf := zok_mk rfl (by decide +kernel)
def tb_Math_floorDiv : ZT := fun pc => cond (Nat.blt pc 11) (cond (Nat.blt pc 4) (cond (Nat.blt pc 2) (cond (Nat.blt pc 1) (cond (Nat.beq pc 0) (some (.iload_n 0, 1, 0)) none) (cond (Nat.beq pc 1) (some (.iload_n 1, 2, 0)) none)) (cond (Nat.blt pc 3) (cond (Nat.beq pc 2) (some (.idiv, 3, 0)) none) (cond (Nat.beq pc 3) (some (.istore_n 2, 4, 0)) none))) (cond (Nat.blt pc 6) (cond (Nat.blt pc 5) (cond (Nat.beq pc 4) (some (.iload_n 0, 5, 0)) none) (cond (Nat.beq pc 5) (some (.iload_n 1, 6, 0)) none)) (cond (Nat.blt pc 7) (cond (Nat.beq pc 6) (some (.ixor, 7, 0)) none) (cond (Nat.blt pc 10) (cond (Nat.beq pc 7) (some (.ifCond .ge 14, 10, 21)) none) (cond (Nat.beq pc 10) (some (.iload_n 2, 11, 0)) none))))) (cond (Nat.blt pc 18) (cond (Nat.blt pc 13) (cond (Nat.blt pc 12) (cond (Nat.beq pc 11) (some (.iload_n 1, 12, 0)) none) (cond (Nat.beq pc 12) (some (.imul, 13, 0)) none)) (cond (Nat.blt pc 14) (cond (Nat.beq pc 13) (some (.iload_n 0, 14, 0)) none) (cond (Nat.blt pc 17) (cond (Nat.beq pc 14) (some (.if_icmp .eq 7, 17, 21)) none) (cond (Nat.beq pc 17) (some (.iload_n 2, 18, 0)) none)))) (cond (Nat.blt pc 20) (cond (Nat.blt pc 19) (cond (Nat.beq pc 18) (some (.iconst 1, 19, 0)) none) (cond (Nat.beq pc 19) (some (.isub, 20, 0)) none)) (cond (Nat.blt pc 21) (cond (Nat.beq pc 20) (some (.ireturn, 21, 0)) none) (cond (Nat.blt pc 22) (cond (Nat.beq pc 21) (some (.iload_n 2, 22, 0)) none) (cond (Nat.beq pc 22) (some (.ireturn, 23, 0)) none)))))
def m_Math_floorDiv : MI := (⟨"java/lang/Math", "floorDiv", "(II)I"⟩, prog_17_method_47_code, 3, (Option.some Jvm.ClassFile.FieldType.int), [], zmk 23 tb_Math_floorDiv)
theorem ok_Math_floorDiv : zok m_Math_floorDiv := zok_mk rfl (by decide +kernel)
def tb_TS_addDisc : ZT := fun pc => cond (Nat.blt pc 30) (cond (Nat.blt pc 14) (cond (Nat.blt pc 6) (cond (Nat.blt pc 2) (cond (Nat.blt pc 1) (cond (Nat.beq pc 0) (some (.iload_n 3, 1, 0)) none) (cond (Nat.beq pc 1) (some (.ineg, 2, 0)) none)) (cond (Nat.blt pc 4) (cond (Nat.beq pc 2) (some (.istore 4, 4, 0)) none) (cond (Nat.beq pc 4) (some (.iload 4, 6, 0)) none))) (cond (Nat.blt pc 10) (cond (Nat.blt pc 7) (cond (Nat.beq pc 6) (some (.iload_n 3, 7, 0)) none) (cond (Nat.beq pc 7) (some (.if_icmp .gt 54, 10, 61)) none)) (cond (Nat.blt pc 11) (cond (Nat.beq pc 10) (some (.iload_n 3, 11, 0)) none) (cond (Nat.blt pc 12) (cond (Nat.beq pc 11) (some (.ineg, 12, 0)) none) (cond (Nat.beq pc 12) (some (.istore 5, 14, 0)) none))))) (cond (Nat.blt pc 22) (cond (Nat.blt pc 17) (cond (Nat.blt pc 16) (cond (Nat.beq pc 14) (some (.iload 5, 16, 0)) none) (cond (Nat.beq pc 16) (some (.iload_n 3, 17, 0)) none)) (cond (Nat.blt pc 20) (cond (Nat.beq pc 17) (some (.if_icmp .gt 38, 20, 55)) none) (cond (Nat.beq pc 20) (some (.iload 5, 22, 0)) none))) (cond (Nat.blt pc 25) (cond (Nat.blt pc 24) (cond (Nat.beq pc 22) (some (.iload 5, 24, 0)) none) (cond (Nat.beq pc 24) (some (.imul, 25, 0)) none)) (cond (Nat.blt pc 27) (cond (Nat.beq pc 25) (some (.iload 4, 27, 0)) none) (cond (Nat.blt pc 29) (cond (Nat.beq pc 27) (some (.iload 4, 29, 0)) none) (cond (Nat.beq pc 29) (some (.imul, 30, 0)) none)))))) (cond (Nat.blt pc 42) (cond (Nat.blt pc 34) (cond (Nat.blt pc 32) (cond (Nat.blt pc 31) (cond (Nat.beq pc 30) (some (.iadd, 31, 0)) none) (cond (Nat.beq pc 31) (some (.iload_n 3, 32, 0)) none)) (cond (Nat.blt pc 33) (cond (Nat.beq pc 32) (some (.iload_n 3, 33, 0)) none) (cond (Nat.beq pc 33) (some (.imul, 34, 0)) none))) (cond (Nat.blt pc 38) (cond (Nat.blt pc 37) (cond (Nat.beq pc 34) (some (.if_icmp .gt 15, 37, 49)) none) (cond (Nat.beq pc 37) (some (.aload_n 0, 38, 0)) none)) (cond (Nat.blt pc 39) (cond (Nat.beq pc 38) (some (.iload_n 1, 39, 0)) none) (cond (Nat.blt pc 41) (cond (Nat.beq pc 39) (some (.iload 5, 41, 0)) none) (cond (Nat.beq pc 41) (some (.iadd, 42, 0)) none))))) (cond (Nat.blt pc 49) (cond (Nat.blt pc 45) (cond (Nat.blt pc 43) (cond (Nat.beq pc 42) (some (.iload_n 2, 43, 0)) none) (cond (Nat.beq pc 43) (some (.iload 4, 45, 0)) none)) (cond (Nat.blt pc 46) (cond (Nat.beq pc 45) (some (.iadd, 46, 0)) none) (cond (Nat.beq pc 46) (some (.invokevirtual 266, 49, 0)) none))) (cond (Nat.blt pc 55) (cond (Nat.blt pc 52) (cond (Nat.beq pc 49) (some (.iinc 5 1, 52, 0)) none) (cond (Nat.beq pc 52) (some (.goto (-38), 55, 14)) none)) (cond (Nat.blt pc 58) (cond (Nat.beq pc 55) (some (.iinc 4 1, 58, 0)) none) (cond (Nat.blt pc 61) (cond (Nat.beq pc 58) (some (.goto (-54), 61, 4)) none) (cond (Nat.beq pc 61) (some (.return_, 62, 0)) none))))))
def m_TS_addDisc : MI := (⟨"TileStudio", "addDisc", "(LTileStudio$Places;III)V"⟩, prog_1_method_44_code, 6, none, [], zmk 62 tb_TS_addDisc)
theorem ok_TS_addDisc : zok m_TS_addDisc := zok_mk rfl (by decide +kernel)
def tb_Dots_blended : ZT := fun pc => cond (Nat.blt pc 80) (cond (Nat.blt pc 38) (cond (Nat.blt pc 17) (cond (Nat.blt pc 7) (cond (Nat.blt pc 2) (cond (Nat.blt pc 1) (cond (Nat.beq pc 0) (some (.iload_n 0, 1, 0)) none) (cond (Nat.beq pc 1) (some (.iconst 3, 2, 0)) none)) (cond (Nat.blt pc 5) (cond (Nat.beq pc 2) (some (.invokestatic 9, 5, 0)) none) (cond (Nat.blt pc 6) (cond (Nat.beq pc 5) (some (.iload_n 3, 6, 0)) none) (cond (Nat.beq pc 6) (some (.imul, 7, 0)) none)))) (cond (Nat.blt pc 12) (cond (Nat.blt pc 10) (cond (Nat.beq pc 7) (some (.invokestatic 27, 10, 0)) none) (cond (Nat.beq pc 10) (some (.istore 4, 12, 0)) none)) (cond (Nat.blt pc 13) (cond (Nat.beq pc 12) (some (.iload_n 1, 13, 0)) none) (cond (Nat.blt pc 14) (cond (Nat.beq pc 13) (some (.iconst 3, 14, 0)) none) (cond (Nat.beq pc 14) (some (.invokestatic 9, 17, 0)) none))))) (cond (Nat.blt pc 27) (cond (Nat.blt pc 22) (cond (Nat.blt pc 19) (cond (Nat.beq pc 17) (some (.istore 5, 19, 0)) none) (cond (Nat.beq pc 19) (some (.sipush 255, 22, 0)) none)) (cond (Nat.blt pc 24) (cond (Nat.beq pc 22) (some (.iload 4, 24, 0)) none) (cond (Nat.blt pc 25) (cond (Nat.beq pc 24) (some (.imul, 25, 0)) none) (cond (Nat.beq pc 25) (some (.istore 6, 27, 0)) none)))) (cond (Nat.blt pc 34) (cond (Nat.blt pc 29) (cond (Nat.beq pc 27) (some (.iload 5, 29, 0)) none) (cond (Nat.blt pc 32) (cond (Nat.beq pc 29) (some (.sipush 255, 32, 0)) none) (cond (Nat.beq pc 32) (some (.iload 4, 34, 0)) none))) (cond (Nat.blt pc 35) (cond (Nat.beq pc 34) (some (.isub, 35, 0)) none) (cond (Nat.blt pc 36) (cond (Nat.beq pc 35) (some (.imul, 36, 0)) none) (cond (Nat.beq pc 36) (some (.istore 7, 38, 0)) none)))))) (cond (Nat.blt pc 58) (cond (Nat.blt pc 47) (cond (Nat.blt pc 42) (cond (Nat.blt pc 40) (cond (Nat.beq pc 38) (some (.iload 6, 40, 0)) none) (cond (Nat.beq pc 40) (some (.iload 7, 42, 0)) none)) (cond (Nat.blt pc 43) (cond (Nat.beq pc 42) (some (.iadd, 43, 0)) none) (cond (Nat.blt pc 45) (cond (Nat.beq pc 43) (some (.istore 8, 45, 0)) none) (cond (Nat.beq pc 45) (some (.iload 8, 47, 0)) none)))) (cond (Nat.blt pc 52) (cond (Nat.blt pc 50) (cond (Nat.beq pc 47) (some (.ifCond .ne 5, 50, 52)) none) (cond (Nat.blt pc 51) (cond (Nat.beq pc 50) (some (.iconst 0, 51, 0)) none) (cond (Nat.beq pc 51) (some (.ireturn, 52, 0)) none))) (cond (Nat.blt pc 54) (cond (Nat.beq pc 52) (some (.iload 8, 54, 0)) none) (cond (Nat.blt pc 57) (cond (Nat.beq pc 54) (some (.invokestatic 27, 57, 0)) none) (cond (Nat.beq pc 57) (some (.iconst 3, 58, 0)) none))))) (cond (Nat.blt pc 68) (cond (Nat.blt pc 63) (cond (Nat.blt pc 61) (cond (Nat.beq pc 58) (some (.invokestatic 21, 61, 0)) none) (cond (Nat.beq pc 61) (some (.istore 9, 63, 0)) none)) (cond (Nat.blt pc 64) (cond (Nat.beq pc 63) (some (.iconst 0, 64, 0)) none) (cond (Nat.blt pc 66) (cond (Nat.beq pc 64) (some (.istore 10, 66, 0)) none) (cond (Nat.beq pc 66) (some (.iload 10, 68, 0)) none)))) (cond (Nat.blt pc 73) (cond (Nat.blt pc 69) (cond (Nat.beq pc 68) (some (.iconst 3, 69, 0)) none) (cond (Nat.blt pc 72) (cond (Nat.beq pc 69) (some (.if_icmp .ge 88, 72, 157)) none) (cond (Nat.beq pc 72) (some (.iload_n 0, 73, 0)) none))) (cond (Nat.blt pc 75) (cond (Nat.beq pc 73) (some (.iload 10, 75, 0)) none) (cond (Nat.blt pc 78) (cond (Nat.beq pc 75) (some (.invokestatic 9, 78, 0)) none) (cond (Nat.beq pc 78) (some (.istore 11, 80, 0)) none))))))) (cond (Nat.blt pc 122) (cond (Nat.blt pc 102) (cond (Nat.blt pc 90) (cond (Nat.blt pc 83) (cond (Nat.blt pc 81) (cond (Nat.beq pc 80) (some (.iload_n 1, 81, 0)) none) (cond (Nat.beq pc 81) (some (.iload 10, 83, 0)) none)) (cond (Nat.blt pc 86) (cond (Nat.beq pc 83) (some (.invokestatic 9, 86, 0)) none) (cond (Nat.blt pc 88) (cond (Nat.beq pc 86) (some (.istore 12, 88, 0)) none) (cond (Nat.beq pc 88) (some (.iload 11, 90, 0)) none)))) (cond (Nat.blt pc 96) (cond (Nat.blt pc 92) (cond (Nat.beq pc 90) (some (.iload 12, 92, 0)) none) (cond (Nat.blt pc 93) (cond (Nat.beq pc 92) (some (.iload_n 2, 93, 0)) none) (cond (Nat.beq pc 93) (some (.invokestatic 30, 96, 0)) none))) (cond (Nat.blt pc 98) (cond (Nat.beq pc 96) (some (.istore 13, 98, 0)) none) (cond (Nat.blt pc 100) (cond (Nat.beq pc 98) (some (.iload 5, 100, 0)) none) (cond (Nat.beq pc 100) (some (.iload 13, 102, 0)) none))))) (cond (Nat.blt pc 111) (cond (Nat.blt pc 106) (cond (Nat.blt pc 103) (cond (Nat.beq pc 102) (some (.imul, 103, 0)) none) (cond (Nat.beq pc 103) (some (.sipush 255, 106, 0)) none)) (cond (Nat.blt pc 108) (cond (Nat.beq pc 106) (some (.iload 5, 108, 0)) none) (cond (Nat.blt pc 109) (cond (Nat.beq pc 108) (some (.isub, 109, 0)) none) (cond (Nat.beq pc 109) (some (.iload 11, 111, 0)) none)))) (cond (Nat.blt pc 116) (cond (Nat.blt pc 112) (cond (Nat.beq pc 111) (some (.imul, 112, 0)) none) (cond (Nat.blt pc 113) (cond (Nat.beq pc 112) (some (.iadd, 113, 0)) none) (cond (Nat.beq pc 113) (some (.invokestatic 27, 116, 0)) none))) (cond (Nat.blt pc 118) (cond (Nat.beq pc 116) (some (.istore 14, 118, 0)) none) (cond (Nat.blt pc 120) (cond (Nat.beq pc 118) (some (.iload 6, 120, 0)) none) (cond (Nat.beq pc 120) (some (.iload 14, 122, 0)) none)))))) (cond (Nat.blt pc 139) (cond (Nat.blt pc 129) (cond (Nat.blt pc 125) (cond (Nat.blt pc 123) (cond (Nat.beq pc 122) (some (.imul, 123, 0)) none) (cond (Nat.beq pc 123) (some (.iload 7, 125, 0)) none)) (cond (Nat.blt pc 127) (cond (Nat.beq pc 125) (some (.iload 12, 127, 0)) none) (cond (Nat.blt pc 128) (cond (Nat.beq pc 127) (some (.imul, 128, 0)) none) (cond (Nat.beq pc 128) (some (.iadd, 129, 0)) none)))) (cond (Nat.blt pc 135) (cond (Nat.blt pc 131) (cond (Nat.beq pc 129) (some (.istore 15, 131, 0)) none) (cond (Nat.blt pc 133) (cond (Nat.beq pc 131) (some (.iload 9, 133, 0)) none) (cond (Nat.beq pc 133) (some (.iload 15, 135, 0)) none))) (cond (Nat.blt pc 137) (cond (Nat.beq pc 135) (some (.iload 8, 137, 0)) none) (cond (Nat.blt pc 138) (cond (Nat.beq pc 137) (some (.iconst 2, 138, 0)) none) (cond (Nat.beq pc 138) (some (.idiv, 139, 0)) none))))) (cond (Nat.blt pc 148) (cond (Nat.blt pc 142) (cond (Nat.blt pc 140) (cond (Nat.beq pc 139) (some (.iadd, 140, 0)) none) (cond (Nat.beq pc 140) (some (.iload 8, 142, 0)) none)) (cond (Nat.blt pc 143) (cond (Nat.beq pc 142) (some (.idiv, 143, 0)) none) (cond (Nat.blt pc 145) (cond (Nat.beq pc 143) (some (.iload 10, 145, 0)) none) (cond (Nat.beq pc 145) (some (.invokestatic 21, 148, 0)) none)))) (cond (Nat.blt pc 154) (cond (Nat.blt pc 149) (cond (Nat.beq pc 148) (some (.ior, 149, 0)) none) (cond (Nat.blt pc 151) (cond (Nat.beq pc 149) (some (.istore 9, 151, 0)) none) (cond (Nat.beq pc 151) (some (.iinc 10 1, 154, 0)) none))) (cond (Nat.blt pc 157) (cond (Nat.beq pc 154) (some (.goto (-88), 157, 66)) none) (cond (Nat.blt pc 159) (cond (Nat.beq pc 157) (some (.iload 9, 159, 0)) none) (cond (Nat.beq pc 159) (some (.ireturn, 160, 0)) none)))))))
def m_Dots_blended : MI := (⟨"TileStudio$Dots", "blended", "(IIII)I"⟩, prog_3_method_9_code, 16, (Option.some Jvm.ClassFile.FieldType.int), [], zmk 160 tb_Dots_blended)
theorem ok_Dots_blended : zok m_Dots_blended := zok_mk rfl (by decide +kernel)
def tb_Dots_div : ZT := fun pc => cond (Nat.blt pc 4) (cond (Nat.blt pc 1) (cond (Nat.beq pc 0) (some (.iload_n 0, 1, 0)) none) (cond (Nat.blt pc 3) (cond (Nat.beq pc 1) (some (.bipush 127, 3, 0)) none) (cond (Nat.beq pc 3) (some (.iadd, 4, 0)) none))) (cond (Nat.blt pc 7) (cond (Nat.beq pc 4) (some (.sipush 255, 7, 0)) none) (cond (Nat.blt pc 8) (cond (Nat.beq pc 7) (some (.idiv, 8, 0)) none) (cond (Nat.beq pc 8) (some (.ireturn, 9, 0)) none)))
def m_Dots_div : MI := (⟨"TileStudio$Dots", "div", "(I)I"⟩, prog_3_method_4_code, 1, (Option.some Jvm.ClassFile.FieldType.int), [], zmk 9 tb_Dots_div)
theorem ok_Dots_div : zok m_Dots_div := zok_mk rfl (by decide +kernel)
def tb_Dots_mixed : ZT := fun pc => cond (Nat.blt pc 54) (cond (Nat.blt pc 44) (cond (Nat.blt pc 38) (cond (Nat.blt pc 36) (cond (Nat.blt pc 1) (cond (Nat.beq pc 0) (some (.iload_n 2, 1, 0)) none) (cond (Nat.beq pc 1) (some (.tableswitch 75 1 5 #[35, 42, 53, 59, 65], 36, 0)) none)) (cond (Nat.blt pc 37) (cond (Nat.beq pc 36) (some (.iload_n 0, 37, 0)) none) (cond (Nat.beq pc 37) (some (.iload_n 1, 38, 0)) none))) (cond (Nat.blt pc 42) (cond (Nat.blt pc 39) (cond (Nat.beq pc 38) (some (.imul, 39, 0)) none) (cond (Nat.beq pc 39) (some (.invokestatic 27, 42, 0)) none)) (cond (Nat.blt pc 43) (cond (Nat.beq pc 42) (some (.ireturn, 43, 0)) none) (cond (Nat.beq pc 43) (some (.iload_n 0, 44, 0)) none)))) (cond (Nat.blt pc 48) (cond (Nat.blt pc 46) (cond (Nat.blt pc 45) (cond (Nat.beq pc 44) (some (.iload_n 1, 45, 0)) none) (cond (Nat.beq pc 45) (some (.iadd, 46, 0)) none)) (cond (Nat.blt pc 47) (cond (Nat.beq pc 46) (some (.iload_n 0, 47, 0)) none) (cond (Nat.beq pc 47) (some (.iload_n 1, 48, 0)) none))) (cond (Nat.blt pc 52) (cond (Nat.blt pc 49) (cond (Nat.beq pc 48) (some (.imul, 49, 0)) none) (cond (Nat.beq pc 49) (some (.invokestatic 27, 52, 0)) none)) (cond (Nat.blt pc 53) (cond (Nat.beq pc 52) (some (.isub, 53, 0)) none) (cond (Nat.beq pc 53) (some (.ireturn, 54, 0)) none))))) (cond (Nat.blt pc 66) (cond (Nat.blt pc 60) (cond (Nat.blt pc 56) (cond (Nat.blt pc 55) (cond (Nat.beq pc 54) (some (.iload_n 0, 55, 0)) none) (cond (Nat.beq pc 55) (some (.iload_n 1, 56, 0)) none)) (cond (Nat.blt pc 59) (cond (Nat.beq pc 56) (some (.invokestatic 34, 59, 0)) none) (cond (Nat.beq pc 59) (some (.ireturn, 60, 0)) none))) (cond (Nat.blt pc 62) (cond (Nat.blt pc 61) (cond (Nat.beq pc 60) (some (.iload_n 0, 61, 0)) none) (cond (Nat.beq pc 61) (some (.iload_n 1, 62, 0)) none)) (cond (Nat.blt pc 65) (cond (Nat.beq pc 62) (some (.invokestatic 37, 65, 0)) none) (cond (Nat.beq pc 65) (some (.ireturn, 66, 0)) none)))) (cond (Nat.blt pc 72) (cond (Nat.blt pc 70) (cond (Nat.blt pc 69) (cond (Nat.beq pc 66) (some (.sipush 255, 69, 0)) none) (cond (Nat.beq pc 69) (some (.iload_n 0, 70, 0)) none)) (cond (Nat.blt pc 71) (cond (Nat.beq pc 70) (some (.iload_n 1, 71, 0)) none) (cond (Nat.beq pc 71) (some (.iadd, 72, 0)) none))) (cond (Nat.blt pc 76) (cond (Nat.blt pc 75) (cond (Nat.beq pc 72) (some (.invokestatic 34, 75, 0)) none) (cond (Nat.beq pc 75) (some (.ireturn, 76, 0)) none)) (cond (Nat.blt pc 77) (cond (Nat.beq pc 76) (some (.iload_n 0, 77, 0)) none) (cond (Nat.beq pc 77) (some (.ireturn, 78, 0)) none)))))
def m_Dots_mixed : MI := (⟨"TileStudio$Dots", "mixed", "(III)I"⟩, prog_3_method_10_code, 3, (Option.some Jvm.ClassFile.FieldType.int), [], zmk 78 tb_Dots_mixed)
theorem ok_Dots_mixed : zok m_Dots_mixed := zok_mk rfl (by decide +kernel)
def tb_L_flood : ZT := fun pc => cond (Nat.blt pc 11) (cond (Nat.blt pc 5) (cond (Nat.blt pc 3) (cond (Nat.blt pc 2) (cond (Nat.beq pc 0) (some (.aload 6, 2, 0)) none) (cond (Nat.beq pc 2) (some (.iconst 0, 3, 0)) none)) (cond (Nat.blt pc 4) (cond (Nat.beq pc 3) (some (.aload_n 0, 4, 0)) none) (cond (Nat.beq pc 4) (some (.iload_n 1, 5, 0)) none))) (cond (Nat.blt pc 7) (cond (Nat.blt pc 6) (cond (Nat.beq pc 5) (some (.iload_n 2, 6, 0)) none) (cond (Nat.beq pc 6) (some (.iload_n 3, 7, 0)) none)) (cond (Nat.blt pc 9) (cond (Nat.beq pc 7) (some (.iload 4, 9, 0)) none) (cond (Nat.beq pc 9) (some (.iload 5, 11, 0)) none)))) (cond (Nat.blt pc 19) (cond (Nat.blt pc 15) (cond (Nat.blt pc 14) (cond (Nat.beq pc 11) (some (.invokevirtual 49, 14, 0)) none) (cond (Nat.beq pc 14) (some (.i2l, 15, 0)) none)) (cond (Nat.blt pc 16) (cond (Nat.beq pc 15) (some (.lastore, 16, 0)) none) (cond (Nat.beq pc 16) (some (.goto 7, 19, 23)) none))) (cond (Nat.blt pc 22) (cond (Nat.blt pc 21) (cond (Nat.beq pc 19) (some (.astore 7, 21, 0)) none) (cond (Nat.beq pc 21) (some (.iconst 1, 22, 0)) none)) (cond (Nat.blt pc 23) (cond (Nat.beq pc 22) (some (.ireturn, 23, 0)) none) (cond (Nat.blt pc 24) (cond (Nat.beq pc 23) (some (.iconst 0, 24, 0)) none) (cond (Nat.beq pc 24) (some (.ireturn, 25, 0)) none)))))
def m_L_flood : MI := (⟨"TileStudioLaw", "flood", "(LTileStudio;IIIII[J)I"⟩, method_13_code, 8, (Option.some Jvm.ClassFile.FieldType.int), [(0, 16, 19, 13)], zmk 25 tb_L_flood)
theorem ok_L_flood : zok m_L_flood := zok_mk rfl (by decide +kernel)
def tb_TS_flood : ZT := fun pc => cond (Nat.blt pc 73) (cond (Nat.blt pc 34) (cond (Nat.blt pc 15) (cond (Nat.blt pc 7) (cond (Nat.blt pc 2) (cond (Nat.blt pc 1) (cond (Nat.beq pc 0) (some (.aload_n 0, 1, 0)) none) (cond (Nat.beq pc 1) (some (.iload_n 1, 2, 0)) none)) (cond (Nat.blt pc 5) (cond (Nat.beq pc 2) (some (.invokevirtual 119, 5, 0)) none) (cond (Nat.beq pc 5) (some (.astore 6, 7, 0)) none))) (cond (Nat.blt pc 9) (cond (Nat.blt pc 8) (cond (Nat.beq pc 7) (some (.iload_n 2, 8, 0)) none) (cond (Nat.beq pc 8) (some (.iconst 0, 9, 0)) none)) (cond (Nat.blt pc 11) (cond (Nat.beq pc 9) (some (.aload 6, 11, 0)) none) (cond (Nat.blt pc 14) (cond (Nat.beq pc 11) (some (.invokevirtual 127, 14, 0)) none) (cond (Nat.beq pc 14) (some (.iconst 1, 15, 0)) none))))) (cond (Nat.blt pc 24) (cond (Nat.blt pc 19) (cond (Nat.blt pc 16) (cond (Nat.beq pc 15) (some (.isub, 16, 0)) none) (cond (Nat.beq pc 16) (some (.invokestatic 16, 19, 0)) none)) (cond (Nat.blt pc 22) (cond (Nat.beq pc 19) (some (.ifCond .eq 22, 22, 41)) none) (cond (Nat.blt pc 23) (cond (Nat.beq pc 22) (some (.iload_n 3, 23, 0)) none) (cond (Nat.beq pc 23) (some (.iconst 0, 24, 0)) none)))) (cond (Nat.blt pc 29) (cond (Nat.blt pc 26) (cond (Nat.beq pc 24) (some (.aload 6, 26, 0)) none) (cond (Nat.beq pc 26) (some (.invokevirtual 123, 29, 0)) none)) (cond (Nat.blt pc 30) (cond (Nat.beq pc 29) (some (.iconst 1, 30, 0)) none) (cond (Nat.blt pc 31) (cond (Nat.beq pc 30) (some (.isub, 31, 0)) none) (cond (Nat.beq pc 31) (some (.invokestatic 16, 34, 0)) none)))))) (cond (Nat.blt pc 54) (cond (Nat.blt pc 42) (cond (Nat.blt pc 38) (cond (Nat.blt pc 37) (cond (Nat.beq pc 34) (some (.ifCond .eq 7, 37, 41)) none) (cond (Nat.beq pc 37) (some (.iconst 1, 38, 0)) none)) (cond (Nat.blt pc 41) (cond (Nat.beq pc 38) (some (.goto 4, 41, 42)) none) (cond (Nat.beq pc 41) (some (.iconst 0, 42, 0)) none))) (cond (Nat.blt pc 47) (cond (Nat.blt pc 45) (cond (Nat.beq pc 42) (some (.invokestatic 20, 45, 0)) none) (cond (Nat.beq pc 45) (some (.iload 5, 47, 0)) none)) (cond (Nat.blt pc 48) (cond (Nat.beq pc 47) (some (.iconst 0, 48, 0)) none) (cond (Nat.blt pc 51) (cond (Nat.beq pc 48) (some (.sipush 255, 51, 0)) none) (cond (Nat.beq pc 51) (some (.invokestatic 16, 54, 0)) none))))) (cond (Nat.blt pc 64) (cond (Nat.blt pc 59) (cond (Nat.blt pc 57) (cond (Nat.beq pc 54) (some (.invokestatic 20, 57, 0)) none) (cond (Nat.beq pc 57) (some (.aload 6, 59, 0)) none)) (cond (Nat.blt pc 62) (cond (Nat.beq pc 59) (some (.getfield 153, 62, 0)) none) (cond (Nat.blt pc 63) (cond (Nat.beq pc 62) (some (.iload_n 2, 63, 0)) none) (cond (Nat.beq pc 63) (some (.iload_n 3, 64, 0)) none)))) (cond (Nat.blt pc 69) (cond (Nat.blt pc 67) (cond (Nat.beq pc 64) (some (.invokevirtual 157, 67, 0)) none) (cond (Nat.beq pc 67) (some (.istore 7, 69, 0)) none)) (cond (Nat.blt pc 70) (cond (Nat.beq pc 69) (some (.iload_n 2, 70, 0)) none) (cond (Nat.blt pc 71) (cond (Nat.beq pc 70) (some (.iload_n 3, 71, 0)) none) (cond (Nat.beq pc 71) (some (.aload 6, 73, 0)) none))))))) (cond (Nat.blt pc 115) (cond (Nat.blt pc 92) (cond (Nat.blt pc 83) (cond (Nat.blt pc 77) (cond (Nat.blt pc 75) (cond (Nat.beq pc 73) (some (.iload 7, 75, 0)) none) (cond (Nat.beq pc 75) (some (.iload 5, 77, 0)) none)) (cond (Nat.blt pc 80) (cond (Nat.beq pc 77) (some (.invokestatic 164, 80, 0)) none) (cond (Nat.beq pc 80) (some (.invokestatic 168, 83, 0)) none))) (cond (Nat.blt pc 86) (cond (Nat.blt pc 85) (cond (Nat.beq pc 83) (some (.astore 8, 85, 0)) none) (cond (Nat.beq pc 85) (some (.iconst 0, 86, 0)) none)) (cond (Nat.blt pc 88) (cond (Nat.beq pc 86) (some (.istore 9, 88, 0)) none) (cond (Nat.blt pc 90) (cond (Nat.beq pc 88) (some (.iload 9, 90, 0)) none) (cond (Nat.beq pc 90) (some (.aload 6, 92, 0)) none))))) (cond (Nat.blt pc 103) (cond (Nat.blt pc 98) (cond (Nat.blt pc 95) (cond (Nat.beq pc 92) (some (.invokevirtual 123, 95, 0)) none) (cond (Nat.beq pc 95) (some (.if_icmp .ge 51, 98, 146)) none)) (cond (Nat.blt pc 99) (cond (Nat.beq pc 98) (some (.iconst 0, 99, 0)) none) (cond (Nat.blt pc 101) (cond (Nat.beq pc 99) (some (.istore 10, 101, 0)) none) (cond (Nat.beq pc 101) (some (.iload 10, 103, 0)) none)))) (cond (Nat.blt pc 108) (cond (Nat.blt pc 105) (cond (Nat.beq pc 103) (some (.aload 6, 105, 0)) none) (cond (Nat.beq pc 105) (some (.invokevirtual 127, 108, 0)) none)) (cond (Nat.blt pc 111) (cond (Nat.beq pc 108) (some (.if_icmp .ge 32, 111, 140)) none) (cond (Nat.blt pc 113) (cond (Nat.beq pc 111) (some (.aload 8, 113, 0)) none) (cond (Nat.beq pc 113) (some (.iload 10, 115, 0)) none)))))) (cond (Nat.blt pc 140) (cond (Nat.blt pc 127) (cond (Nat.blt pc 120) (cond (Nat.blt pc 117) (cond (Nat.beq pc 115) (some (.iload 9, 117, 0)) none) (cond (Nat.beq pc 117) (some (.invokevirtual 149, 120, 0)) none)) (cond (Nat.blt pc 123) (cond (Nat.beq pc 120) (some (.ifCond .eq 14, 123, 134)) none) (cond (Nat.blt pc 125) (cond (Nat.beq pc 123) (some (.aload 6, 125, 0)) none) (cond (Nat.beq pc 125) (some (.iload 10, 127, 0)) none)))) (cond (Nat.blt pc 131) (cond (Nat.blt pc 129) (cond (Nat.beq pc 127) (some (.iload 9, 129, 0)) none) (cond (Nat.beq pc 129) (some (.iload 4, 131, 0)) none)) (cond (Nat.blt pc 134) (cond (Nat.beq pc 131) (some (.invokevirtual 129, 134, 0)) none) (cond (Nat.blt pc 137) (cond (Nat.beq pc 134) (some (.iinc 10 1, 137, 0)) none) (cond (Nat.beq pc 137) (some (.goto (-36), 140, 101)) none))))) (cond (Nat.blt pc 152) (cond (Nat.blt pc 146) (cond (Nat.blt pc 143) (cond (Nat.beq pc 140) (some (.iinc 9 1, 143, 0)) none) (cond (Nat.beq pc 143) (some (.goto (-55), 146, 88)) none)) (cond (Nat.blt pc 147) (cond (Nat.beq pc 146) (some (.aload_n 0, 147, 0)) none) (cond (Nat.blt pc 150) (cond (Nat.beq pc 147) (some (.getfield 12, 150, 0)) none) (cond (Nat.beq pc 150) (some (.aload 6, 152, 0)) none)))) (cond (Nat.blt pc 158) (cond (Nat.blt pc 155) (cond (Nat.beq pc 152) (some (.invokevirtual 133, 155, 0)) none) (cond (Nat.beq pc 155) (some (.invokevirtual 74, 158, 0)) none)) (cond (Nat.blt pc 160) (cond (Nat.beq pc 158) (some (.aload 8, 160, 0)) none) (cond (Nat.blt pc 163) (cond (Nat.beq pc 160) (some (.invokevirtual 109, 163, 0)) none) (cond (Nat.beq pc 163) (some (.ireturn, 164, 0)) none)))))))
def m_TS_flood : MI := (⟨"TileStudio", "flood", "(IIIII)I"⟩, prog_1_method_12_code, 11, (Option.some Jvm.ClassFile.FieldType.int), [], zmk 164 tb_TS_flood)
theorem ok_TS_flood : zok m_TS_flood := zok_mk rfl (by decide +kernel)
def tb_TS_alikePlaces : ZT := fun pc => cond (Nat.blt pc 43) (cond (Nat.blt pc 21) (cond (Nat.blt pc 9) (cond (Nat.blt pc 4) (cond (Nat.blt pc 3) (cond (Nat.beq pc 0) (some (.new 24, 3, 0)) none) (cond (Nat.beq pc 3) (some (.dup, 4, 0)) none)) (cond (Nat.blt pc 5) (cond (Nat.beq pc 4) (some (.aload_n 0, 5, 0)) none) (cond (Nat.blt pc 8) (cond (Nat.beq pc 5) (some (.invokevirtual 127, 8, 0)) none) (cond (Nat.beq pc 8) (some (.aload_n 0, 9, 0)) none)))) (cond (Nat.blt pc 16) (cond (Nat.blt pc 12) (cond (Nat.beq pc 9) (some (.invokevirtual 123, 12, 0)) none) (cond (Nat.blt pc 15) (cond (Nat.beq pc 12) (some (.invokespecial 26, 15, 0)) none) (cond (Nat.beq pc 15) (some (.astore_n 3, 16, 0)) none))) (cond (Nat.blt pc 17) (cond (Nat.beq pc 16) (some (.iconst 0, 17, 0)) none) (cond (Nat.blt pc 19) (cond (Nat.beq pc 17) (some (.istore 4, 19, 0)) none) (cond (Nat.beq pc 19) (some (.iload 4, 21, 0)) none))))) (cond (Nat.blt pc 31) (cond (Nat.blt pc 25) (cond (Nat.blt pc 22) (cond (Nat.beq pc 21) (some (.aload_n 0, 22, 0)) none) (cond (Nat.beq pc 22) (some (.invokevirtual 123, 25, 0)) none)) (cond (Nat.blt pc 28) (cond (Nat.beq pc 25) (some (.if_icmp .ge 65, 28, 90)) none) (cond (Nat.blt pc 29) (cond (Nat.beq pc 28) (some (.iconst 0, 29, 0)) none) (cond (Nat.beq pc 29) (some (.istore 5, 31, 0)) none)))) (cond (Nat.blt pc 37) (cond (Nat.blt pc 33) (cond (Nat.beq pc 31) (some (.iload 5, 33, 0)) none) (cond (Nat.blt pc 34) (cond (Nat.beq pc 33) (some (.aload_n 0, 34, 0)) none) (cond (Nat.beq pc 34) (some (.invokevirtual 127, 37, 0)) none))) (cond (Nat.blt pc 40) (cond (Nat.beq pc 37) (some (.if_icmp .ge 47, 40, 84)) none) (cond (Nat.blt pc 41) (cond (Nat.beq pc 40) (some (.aload_n 0, 41, 0)) none) (cond (Nat.beq pc 41) (some (.iload 5, 43, 0)) none)))))) (cond (Nat.blt pc 67) (cond (Nat.blt pc 55) (cond (Nat.blt pc 48) (cond (Nat.blt pc 45) (cond (Nat.beq pc 43) (some (.iload 4, 45, 0)) none) (cond (Nat.beq pc 45) (some (.invokevirtual 184, 48, 0)) none)) (cond (Nat.blt pc 51) (cond (Nat.beq pc 48) (some (.ifCond .eq 30, 51, 78)) none) (cond (Nat.blt pc 52) (cond (Nat.beq pc 51) (some (.aload_n 0, 52, 0)) none) (cond (Nat.beq pc 52) (some (.getfield 153, 55, 0)) none)))) (cond (Nat.blt pc 62) (cond (Nat.blt pc 57) (cond (Nat.beq pc 55) (some (.iload 5, 57, 0)) none) (cond (Nat.blt pc 59) (cond (Nat.beq pc 57) (some (.iload 4, 59, 0)) none) (cond (Nat.beq pc 59) (some (.invokevirtual 157, 62, 0)) none))) (cond (Nat.blt pc 63) (cond (Nat.beq pc 62) (some (.iload_n 1, 63, 0)) none) (cond (Nat.blt pc 64) (cond (Nat.beq pc 63) (some (.iload_n 2, 64, 0)) none) (cond (Nat.beq pc 64) (some (.invokestatic 299, 67, 0)) none))))) (cond (Nat.blt pc 78) (cond (Nat.blt pc 71) (cond (Nat.blt pc 70) (cond (Nat.beq pc 67) (some (.ifCond .eq 11, 70, 78)) none) (cond (Nat.beq pc 70) (some (.aload_n 3, 71, 0)) none)) (cond (Nat.blt pc 73) (cond (Nat.beq pc 71) (some (.iload 5, 73, 0)) none) (cond (Nat.blt pc 75) (cond (Nat.beq pc 73) (some (.iload 4, 75, 0)) none) (cond (Nat.beq pc 75) (some (.invokevirtual 266, 78, 0)) none)))) (cond (Nat.blt pc 87) (cond (Nat.blt pc 81) (cond (Nat.beq pc 78) (some (.iinc 5 1, 81, 0)) none) (cond (Nat.blt pc 84) (cond (Nat.beq pc 81) (some (.goto (-50), 84, 31)) none) (cond (Nat.beq pc 84) (some (.iinc 4 1, 87, 0)) none))) (cond (Nat.blt pc 90) (cond (Nat.beq pc 87) (some (.goto (-68), 90, 19)) none) (cond (Nat.blt pc 91) (cond (Nat.beq pc 90) (some (.aload_n 3, 91, 0)) none) (cond (Nat.beq pc 91) (some (.areturn, 92, 0)) none))))))
def m_TS_alikePlaces : MI := (⟨"TileStudio", "alikePlaces", "(LTileStudio$Painting;II)LTileStudio$Places;"⟩, prog_1_method_45_code, 6, (Option.some (Jvm.ClassFile.FieldType.object "TileStudio$Places")), [], zmk 92 tb_TS_alikePlaces)
theorem ok_TS_alikePlaces : zok m_TS_alikePlaces := zok_mk rfl (by decide +kernel)
def tb_Dots_areAlike : ZT := fun pc => cond (Nat.blt pc 14) (cond (Nat.blt pc 7) (cond (Nat.blt pc 2) (cond (Nat.blt pc 1) (cond (Nat.beq pc 0) (some (.iconst 0, 1, 0)) none) (cond (Nat.beq pc 1) (some (.istore_n 3, 2, 0)) none)) (cond (Nat.blt pc 3) (cond (Nat.beq pc 2) (some (.iload_n 3, 3, 0)) none) (cond (Nat.blt pc 4) (cond (Nat.beq pc 3) (some (.iconst 4, 4, 0)) none) (cond (Nat.beq pc 4) (some (.if_icmp .ge 29, 7, 33)) none)))) (cond (Nat.blt pc 9) (cond (Nat.blt pc 8) (cond (Nat.beq pc 7) (some (.iload_n 0, 8, 0)) none) (cond (Nat.beq pc 8) (some (.iload_n 3, 9, 0)) none)) (cond (Nat.blt pc 12) (cond (Nat.beq pc 9) (some (.invokestatic 9, 12, 0)) none) (cond (Nat.blt pc 13) (cond (Nat.beq pc 12) (some (.iload_n 1, 13, 0)) none) (cond (Nat.beq pc 13) (some (.iload_n 3, 14, 0)) none))))) (cond (Nat.blt pc 25) (cond (Nat.blt pc 18) (cond (Nat.blt pc 17) (cond (Nat.beq pc 14) (some (.invokestatic 9, 17, 0)) none) (cond (Nat.beq pc 17) (some (.isub, 18, 0)) none)) (cond (Nat.blt pc 21) (cond (Nat.beq pc 18) (some (.invokestatic 15, 21, 0)) none) (cond (Nat.blt pc 22) (cond (Nat.beq pc 21) (some (.iload_n 2, 22, 0)) none) (cond (Nat.beq pc 22) (some (.if_icmp .le 5, 25, 27)) none)))) (cond (Nat.blt pc 30) (cond (Nat.blt pc 26) (cond (Nat.beq pc 25) (some (.iconst 0, 26, 0)) none) (cond (Nat.blt pc 27) (cond (Nat.beq pc 26) (some (.ireturn, 27, 0)) none) (cond (Nat.beq pc 27) (some (.iinc 3 1, 30, 0)) none))) (cond (Nat.blt pc 33) (cond (Nat.beq pc 30) (some (.goto (-28), 33, 2)) none) (cond (Nat.blt pc 34) (cond (Nat.beq pc 33) (some (.iconst 1, 34, 0)) none) (cond (Nat.beq pc 34) (some (.ireturn, 35, 0)) none)))))
def m_Dots_areAlike : MI := (⟨"TileStudio$Dots", "areAlike", "(III)Z"⟩, prog_3_method_5_code, 4, (Option.some Jvm.ClassFile.FieldType.boolean), [], zmk 35 tb_Dots_areAlike)
theorem ok_Dots_areAlike : zok m_Dots_areAlike := zok_mk rfl (by decide +kernel)
def tb_TS_reachedFrom : ZT := fun pc => cond (Nat.blt pc 36) (cond (Nat.blt pc 18) (cond (Nat.blt pc 9) (cond (Nat.blt pc 4) (cond (Nat.blt pc 3) (cond (Nat.beq pc 0) (some (.new 24, 3, 0)) none) (cond (Nat.beq pc 3) (some (.dup, 4, 0)) none)) (cond (Nat.blt pc 5) (cond (Nat.beq pc 4) (some (.aload_n 2, 5, 0)) none) (cond (Nat.blt pc 8) (cond (Nat.beq pc 5) (some (.getfield 261, 8, 0)) none) (cond (Nat.beq pc 8) (some (.aload_n 2, 9, 0)) none)))) (cond (Nat.blt pc 15) (cond (Nat.blt pc 12) (cond (Nat.beq pc 9) (some (.invokevirtual 260, 12, 0)) none) (cond (Nat.beq pc 12) (some (.invokespecial 26, 15, 0)) none)) (cond (Nat.blt pc 16) (cond (Nat.beq pc 15) (some (.astore_n 3, 16, 0)) none) (cond (Nat.blt pc 17) (cond (Nat.beq pc 16) (some (.aload_n 2, 17, 0)) none) (cond (Nat.beq pc 17) (some (.iload_n 0, 18, 0)) none))))) (cond (Nat.blt pc 29) (cond (Nat.blt pc 22) (cond (Nat.blt pc 19) (cond (Nat.beq pc 18) (some (.iload_n 1, 19, 0)) none) (cond (Nat.beq pc 19) (some (.invokevirtual 149, 22, 0)) none)) (cond (Nat.blt pc 24) (cond (Nat.beq pc 22) (some (.istore 4, 24, 0)) none) (cond (Nat.blt pc 26) (cond (Nat.beq pc 24) (some (.iload 4, 26, 0)) none) (cond (Nat.beq pc 26) (some (.ifCond .eq 9, 29, 35)) none)))) (cond (Nat.blt pc 31) (cond (Nat.blt pc 30) (cond (Nat.beq pc 29) (some (.aload_n 3, 30, 0)) none) (cond (Nat.beq pc 30) (some (.iload_n 0, 31, 0)) none)) (cond (Nat.blt pc 32) (cond (Nat.beq pc 31) (some (.iload_n 1, 32, 0)) none) (cond (Nat.blt pc 35) (cond (Nat.beq pc 32) (some (.invokevirtual 266, 35, 0)) none) (cond (Nat.beq pc 35) (some (.aload_n 2, 36, 0)) none)))))) (cond (Nat.blt pc 56) (cond (Nat.blt pc 46) (cond (Nat.blt pc 40) (cond (Nat.blt pc 39) (cond (Nat.beq pc 36) (some (.getfield 261, 39, 0)) none) (cond (Nat.beq pc 39) (some (.aload_n 2, 40, 0)) none)) (cond (Nat.blt pc 43) (cond (Nat.beq pc 40) (some (.invokevirtual 260, 43, 0)) none) (cond (Nat.blt pc 44) (cond (Nat.beq pc 43) (some (.imul, 44, 0)) none) (cond (Nat.beq pc 44) (some (.istore 5, 46, 0)) none)))) (cond (Nat.blt pc 49) (cond (Nat.blt pc 47) (cond (Nat.beq pc 46) (some (.iconst 0, 47, 0)) none) (cond (Nat.beq pc 47) (some (.istore 6, 49, 0)) none)) (cond (Nat.blt pc 51) (cond (Nat.beq pc 49) (some (.iload 6, 51, 0)) none) (cond (Nat.blt pc 53) (cond (Nat.beq pc 51) (some (.iload 5, 53, 0)) none) (cond (Nat.beq pc 53) (some (.if_icmp .ge 21, 56, 74)) none))))) (cond (Nat.blt pc 66) (cond (Nat.blt pc 61) (cond (Nat.blt pc 58) (cond (Nat.beq pc 56) (some (.iload 4, 58, 0)) none) (cond (Nat.beq pc 58) (some (.ifCond .eq 16, 61, 74)) none)) (cond (Nat.blt pc 62) (cond (Nat.beq pc 61) (some (.aload_n 3, 62, 0)) none) (cond (Nat.blt pc 63) (cond (Nat.beq pc 62) (some (.aload_n 2, 63, 0)) none) (cond (Nat.beq pc 63) (some (.invokestatic 302, 66, 0)) none)))) (cond (Nat.blt pc 71) (cond (Nat.blt pc 68) (cond (Nat.beq pc 66) (some (.istore 4, 68, 0)) none) (cond (Nat.beq pc 68) (some (.iinc 6 1, 71, 0)) none)) (cond (Nat.blt pc 74) (cond (Nat.beq pc 71) (some (.goto (-22), 74, 49)) none) (cond (Nat.blt pc 75) (cond (Nat.beq pc 74) (some (.aload_n 3, 75, 0)) none) (cond (Nat.beq pc 75) (some (.areturn, 76, 0)) none))))))
def m_TS_reachedFrom : MI := (⟨"TileStudio", "reachedFrom", "(IILTileStudio$Places;)LTileStudio$Places;"⟩, prog_1_method_46_code, 7, (Option.some (Jvm.ClassFile.FieldType.object "TileStudio$Places")), [], zmk 76 tb_TS_reachedFrom)
theorem ok_TS_reachedFrom : zok m_TS_reachedFrom := zok_mk rfl (by decide +kernel)
def tb_TS_spread : ZT := fun pc => cond (Nat.blt pc 42) (cond (Nat.blt pc 24) (cond (Nat.blt pc 9) (cond (Nat.blt pc 3) (cond (Nat.blt pc 1) (cond (Nat.beq pc 0) (some (.iconst 0, 1, 0)) none) (cond (Nat.blt pc 2) (cond (Nat.beq pc 1) (some (.istore_n 2, 2, 0)) none) (cond (Nat.beq pc 2) (some (.iconst 0, 3, 0)) none))) (cond (Nat.blt pc 5) (cond (Nat.blt pc 4) (cond (Nat.beq pc 3) (some (.istore_n 3, 4, 0)) none) (cond (Nat.beq pc 4) (some (.iload_n 3, 5, 0)) none)) (cond (Nat.blt pc 6) (cond (Nat.beq pc 5) (some (.aload_n 1, 6, 0)) none) (cond (Nat.beq pc 6) (some (.invokevirtual 260, 9, 0)) none)))) (cond (Nat.blt pc 17) (cond (Nat.blt pc 13) (cond (Nat.blt pc 12) (cond (Nat.beq pc 9) (some (.if_icmp .ge 83, 12, 92)) none) (cond (Nat.beq pc 12) (some (.aload_n 0, 13, 0)) none)) (cond (Nat.blt pc 16) (cond (Nat.beq pc 13) (some (.getfield 273, 16, 0)) none) (cond (Nat.beq pc 16) (some (.iload_n 3, 17, 0)) none))) (cond (Nat.blt pc 20) (cond (Nat.blt pc 18) (cond (Nat.beq pc 17) (some (.iaload, 18, 0)) none) (cond (Nat.beq pc 18) (some (.istore 4, 20, 0)) none)) (cond (Nat.blt pc 22) (cond (Nat.beq pc 20) (some (.iload 4, 22, 0)) none) (cond (Nat.beq pc 22) (some (.iload 4, 24, 0)) none))))) (cond (Nat.blt pc 32) (cond (Nat.blt pc 27) (cond (Nat.blt pc 25) (cond (Nat.beq pc 24) (some (.iconst 1, 25, 0)) none) (cond (Nat.blt pc 26) (cond (Nat.beq pc 25) (some (.ishl, 26, 0)) none) (cond (Nat.beq pc 26) (some (.ior, 27, 0)) none))) (cond (Nat.blt pc 30) (cond (Nat.blt pc 29) (cond (Nat.beq pc 27) (some (.iload 4, 29, 0)) none) (cond (Nat.beq pc 29) (some (.iconst 1, 30, 0)) none)) (cond (Nat.blt pc 31) (cond (Nat.beq pc 30) (some (.ishr, 31, 0)) none) (cond (Nat.beq pc 31) (some (.ior, 32, 0)) none)))) (cond (Nat.blt pc 36) (cond (Nat.blt pc 34) (cond (Nat.blt pc 33) (cond (Nat.beq pc 32) (some (.aload_n 0, 33, 0)) none) (cond (Nat.beq pc 33) (some (.iload_n 3, 34, 0)) none)) (cond (Nat.blt pc 35) (cond (Nat.beq pc 34) (some (.iconst 1, 35, 0)) none) (cond (Nat.beq pc 35) (some (.isub, 36, 0)) none))) (cond (Nat.blt pc 40) (cond (Nat.blt pc 39) (cond (Nat.beq pc 36) (some (.invokevirtual 306, 39, 0)) none) (cond (Nat.beq pc 39) (some (.ior, 40, 0)) none)) (cond (Nat.blt pc 41) (cond (Nat.beq pc 40) (some (.aload_n 0, 41, 0)) none) (cond (Nat.beq pc 41) (some (.iload_n 3, 42, 0)) none)))))) (cond (Nat.blt pc 65) (cond (Nat.blt pc 54) (cond (Nat.blt pc 47) (cond (Nat.blt pc 43) (cond (Nat.beq pc 42) (some (.iconst 1, 43, 0)) none) (cond (Nat.blt pc 44) (cond (Nat.beq pc 43) (some (.iadd, 44, 0)) none) (cond (Nat.beq pc 44) (some (.invokevirtual 306, 47, 0)) none))) (cond (Nat.blt pc 50) (cond (Nat.blt pc 48) (cond (Nat.beq pc 47) (some (.ior, 48, 0)) none) (cond (Nat.beq pc 48) (some (.istore 5, 50, 0)) none)) (cond (Nat.blt pc 51) (cond (Nat.beq pc 50) (some (.aload_n 0, 51, 0)) none) (cond (Nat.beq pc 51) (some (.getfield 273, 54, 0)) none)))) (cond (Nat.blt pc 61) (cond (Nat.blt pc 57) (cond (Nat.blt pc 55) (cond (Nat.beq pc 54) (some (.iload_n 3, 55, 0)) none) (cond (Nat.beq pc 55) (some (.iload 5, 57, 0)) none)) (cond (Nat.blt pc 58) (cond (Nat.beq pc 57) (some (.aload_n 1, 58, 0)) none) (cond (Nat.beq pc 58) (some (.getfield 273, 61, 0)) none))) (cond (Nat.blt pc 63) (cond (Nat.blt pc 62) (cond (Nat.beq pc 61) (some (.iload_n 3, 62, 0)) none) (cond (Nat.beq pc 62) (some (.iaload, 63, 0)) none)) (cond (Nat.blt pc 64) (cond (Nat.beq pc 63) (some (.iand, 64, 0)) none) (cond (Nat.beq pc 64) (some (.iastore, 65, 0)) none))))) (cond (Nat.blt pc 80) (cond (Nat.blt pc 73) (cond (Nat.blt pc 69) (cond (Nat.blt pc 66) (cond (Nat.beq pc 65) (some (.iload_n 2, 66, 0)) none) (cond (Nat.beq pc 66) (some (.ifCond .ne 14, 69, 80)) none)) (cond (Nat.blt pc 70) (cond (Nat.beq pc 69) (some (.aload_n 0, 70, 0)) none) (cond (Nat.beq pc 70) (some (.getfield 273, 73, 0)) none))) (cond (Nat.blt pc 75) (cond (Nat.blt pc 74) (cond (Nat.beq pc 73) (some (.iload_n 3, 74, 0)) none) (cond (Nat.beq pc 74) (some (.iaload, 75, 0)) none)) (cond (Nat.blt pc 77) (cond (Nat.beq pc 75) (some (.iload 4, 77, 0)) none) (cond (Nat.beq pc 77) (some (.if_icmp .eq 7, 80, 84)) none)))) (cond (Nat.blt pc 86) (cond (Nat.blt pc 84) (cond (Nat.blt pc 81) (cond (Nat.beq pc 80) (some (.iconst 1, 81, 0)) none) (cond (Nat.beq pc 81) (some (.goto 4, 84, 85)) none)) (cond (Nat.blt pc 85) (cond (Nat.beq pc 84) (some (.iconst 0, 85, 0)) none) (cond (Nat.beq pc 85) (some (.istore_n 2, 86, 0)) none))) (cond (Nat.blt pc 92) (cond (Nat.blt pc 89) (cond (Nat.beq pc 86) (some (.iinc 3 1, 89, 0)) none) (cond (Nat.beq pc 89) (some (.goto (-85), 92, 4)) none)) (cond (Nat.blt pc 93) (cond (Nat.beq pc 92) (some (.iload_n 2, 93, 0)) none) (cond (Nat.beq pc 93) (some (.ireturn, 94, 0)) none))))))
def m_TS_spread : MI := (⟨"TileStudio", "spread", "(LTileStudio$Places;LTileStudio$Places;)Z"⟩, prog_1_method_47_code, 6, (Option.some Jvm.ClassFile.FieldType.boolean), [], zmk 94 tb_TS_spread)
theorem ok_TS_spread : zok m_TS_spread := zok_mk rfl (by decide +kernel)
def tb_L_copy : ZT := fun pc => cond (Nat.blt pc 8) (cond (Nat.blt pc 3) (cond (Nat.blt pc 1) (cond (Nat.beq pc 0) (some (.aload_n 2, 1, 0)) none) (cond (Nat.blt pc 2) (cond (Nat.beq pc 1) (some (.iconst 0, 2, 0)) none) (cond (Nat.beq pc 2) (some (.aload_n 0, 3, 0)) none))) (cond (Nat.blt pc 4) (cond (Nat.beq pc 3) (some (.iload_n 1, 4, 0)) none) (cond (Nat.blt pc 7) (cond (Nat.beq pc 4) (some (.invokevirtual 53, 7, 0)) none) (cond (Nat.beq pc 7) (some (.i2l, 8, 0)) none)))) (cond (Nat.blt pc 13) (cond (Nat.blt pc 9) (cond (Nat.beq pc 8) (some (.lastore, 9, 0)) none) (cond (Nat.blt pc 12) (cond (Nat.beq pc 9) (some (.goto 6, 12, 15)) none) (cond (Nat.beq pc 12) (some (.astore_n 3, 13, 0)) none))) (cond (Nat.blt pc 15) (cond (Nat.blt pc 14) (cond (Nat.beq pc 13) (some (.iconst 1, 14, 0)) none) (cond (Nat.beq pc 14) (some (.ireturn, 15, 0)) none)) (cond (Nat.blt pc 16) (cond (Nat.beq pc 15) (some (.iconst 0, 16, 0)) none) (cond (Nat.beq pc 16) (some (.ireturn, 17, 0)) none))))
def m_L_copy : MI := (⟨"TileStudioLaw", "copy", "(LTileStudio;I[J)I"⟩, method_14_code, 4, (Option.some Jvm.ClassFile.FieldType.int), [(0, 9, 12, 13)], zmk 17 tb_L_copy)
theorem ok_L_copy : zok m_L_copy := zok_mk rfl (by decide +kernel)
def tb_TS_copy : ZT := fun pc => cond (Nat.blt pc 15) (cond (Nat.blt pc 6) (cond (Nat.blt pc 2) (cond (Nat.blt pc 1) (cond (Nat.beq pc 0) (some (.aload_n 0, 1, 0)) none) (cond (Nat.beq pc 1) (some (.iload_n 1, 2, 0)) none)) (cond (Nat.blt pc 5) (cond (Nat.beq pc 2) (some (.invokevirtual 77, 5, 0)) none) (cond (Nat.beq pc 5) (some (.astore_n 2, 6, 0)) none))) (cond (Nat.blt pc 10) (cond (Nat.blt pc 7) (cond (Nat.beq pc 6) (some (.aload_n 0, 7, 0)) none) (cond (Nat.beq pc 7) (some (.new 172, 10, 0)) none)) (cond (Nat.blt pc 11) (cond (Nat.beq pc 10) (some (.dup, 11, 0)) none) (cond (Nat.blt pc 12) (cond (Nat.beq pc 11) (some (.aload_n 2, 12, 0)) none) (cond (Nat.beq pc 12) (some (.getfield 52, 15, 0)) none))))) (cond (Nat.blt pc 24) (cond (Nat.blt pc 17) (cond (Nat.blt pc 16) (cond (Nat.beq pc 15) (some (.iload_n 1, 16, 0)) none) (cond (Nat.beq pc 16) (some (.aaload, 17, 0)) none)) (cond (Nat.blt pc 18) (cond (Nat.beq pc 17) (some (.aload_n 2, 18, 0)) none) (cond (Nat.blt pc 21) (cond (Nat.beq pc 18) (some (.getfield 97, 21, 0)) none) (cond (Nat.beq pc 21) (some (.invokespecial 174, 24, 0)) none)))) (cond (Nat.blt pc 28) (cond (Nat.blt pc 27) (cond (Nat.beq pc 24) (some (.putfield 177, 27, 0)) none) (cond (Nat.beq pc 27) (some (.aload_n 2, 28, 0)) none)) (cond (Nat.blt pc 31) (cond (Nat.beq pc 28) (some (.getfield 97, 31, 0)) none) (cond (Nat.blt pc 34) (cond (Nat.beq pc 31) (some (.invokevirtual 109, 34, 0)) none) (cond (Nat.beq pc 34) (some (.ireturn, 35, 0)) none)))))
def m_TS_copy : MI := (⟨"TileStudio", "copy", "(I)I"⟩, prog_1_method_13_code, 3, (Option.some Jvm.ClassFile.FieldType.int), [], zmk 35 tb_TS_copy)
theorem ok_TS_copy : zok m_TS_copy := zok_mk rfl (by decide +kernel)
def tb_Copied_init : ZT := fun pc => cond (Nat.blt pc 6) (cond (Nat.blt pc 4) (cond (Nat.blt pc 1) (cond (Nat.beq pc 0) (some (.aload_n 0, 1, 0)) none) (cond (Nat.beq pc 1) (some (.invokespecial 1, 4, 0)) none)) (cond (Nat.blt pc 5) (cond (Nat.beq pc 4) (some (.aload_n 0, 5, 0)) none) (cond (Nat.beq pc 5) (some (.aload_n 1, 6, 0)) none))) (cond (Nat.blt pc 10) (cond (Nat.blt pc 9) (cond (Nat.beq pc 6) (some (.putfield 7, 9, 0)) none) (cond (Nat.beq pc 9) (some (.aload_n 0, 10, 0)) none)) (cond (Nat.blt pc 11) (cond (Nat.beq pc 10) (some (.aload_n 2, 11, 0)) none) (cond (Nat.blt pc 14) (cond (Nat.beq pc 11) (some (.putfield 13, 14, 0)) none) (cond (Nat.beq pc 14) (some (.return_, 15, 0)) none))))
def m_Copied_init : MI := (⟨"TileStudio$Copied", "<init>", "(LTileStudio$Layer;LTileStudio$Places;)V"⟩, prog_2_method_1_code, 3, none, [], zmk 15 tb_Copied_init)
theorem ok_Copied_init : zok m_Copied_init := zok_mk rfl (by decide +kernel)
end
section
def tb_L_paste : ZT := fun pc => cond (Nat.blt pc 12) (cond (Nat.blt pc 5) (cond (Nat.blt pc 3) (cond (Nat.blt pc 2) (cond (Nat.beq pc 0) (some (.aload 4, 2, 0)) none) (cond (Nat.beq pc 2) (some (.iconst 0, 3, 0)) none)) (cond (Nat.blt pc 4) (cond (Nat.beq pc 3) (some (.aload_n 0, 4, 0)) none) (cond (Nat.beq pc 4) (some (.iload_n 1, 5, 0)) none))) (cond (Nat.blt pc 7) (cond (Nat.blt pc 6) (cond (Nat.beq pc 5) (some (.iload_n 2, 6, 0)) none) (cond (Nat.beq pc 6) (some (.iload_n 3, 7, 0)) none)) (cond (Nat.blt pc 10) (cond (Nat.beq pc 7) (some (.invokevirtual 57, 10, 0)) none) (cond (Nat.blt pc 11) (cond (Nat.beq pc 10) (some (.i2l, 11, 0)) none) (cond (Nat.beq pc 11) (some (.lastore, 12, 0)) none))))) (cond (Nat.blt pc 19) (cond (Nat.blt pc 17) (cond (Nat.blt pc 15) (cond (Nat.beq pc 12) (some (.goto 11, 15, 23)) none) (cond (Nat.beq pc 15) (some (.astore 5, 17, 0)) none)) (cond (Nat.blt pc 18) (cond (Nat.beq pc 17) (some (.iconst 1, 18, 0)) none) (cond (Nat.beq pc 18) (some (.ireturn, 19, 0)) none))) (cond (Nat.blt pc 22) (cond (Nat.blt pc 21) (cond (Nat.beq pc 19) (some (.astore 5, 21, 0)) none) (cond (Nat.beq pc 21) (some (.iconst 2, 22, 0)) none)) (cond (Nat.blt pc 23) (cond (Nat.beq pc 22) (some (.ireturn, 23, 0)) none) (cond (Nat.blt pc 24) (cond (Nat.beq pc 23) (some (.iconst 0, 24, 0)) none) (cond (Nat.beq pc 24) (some (.ireturn, 25, 0)) none)))))
def m_L_paste : MI := (⟨"TileStudioLaw", "paste", "(LTileStudio;III[J)I"⟩, method_15_code, 6, (Option.some Jvm.ClassFile.FieldType.int), [(0, 12, 15, 13), (0, 12, 19, 61)], zmk 25 tb_L_paste)
theorem ok_L_paste : zok m_L_paste := zok_mk rfl (by decide +kernel)
def tb_TS_paste : ZT := fun pc => cond (Nat.blt pc 72) (cond (Nat.blt pc 31) (cond (Nat.blt pc 13) (cond (Nat.blt pc 7) (cond (Nat.blt pc 2) (cond (Nat.blt pc 1) (cond (Nat.beq pc 0) (some (.aload_n 0, 1, 0)) none) (cond (Nat.beq pc 1) (some (.iload_n 1, 2, 0)) none)) (cond (Nat.blt pc 5) (cond (Nat.beq pc 2) (some (.invokevirtual 119, 5, 0)) none) (cond (Nat.beq pc 5) (some (.astore 4, 7, 0)) none))) (cond (Nat.blt pc 9) (cond (Nat.blt pc 8) (cond (Nat.beq pc 7) (some (.iload_n 2, 8, 0)) none) (cond (Nat.beq pc 8) (some (.iload_n 3, 9, 0)) none)) (cond (Nat.blt pc 12) (cond (Nat.beq pc 9) (some (.invokestatic 142, 12, 0)) none) (cond (Nat.beq pc 12) (some (.aload_n 0, 13, 0)) none)))) (cond (Nat.blt pc 23) (cond (Nat.blt pc 19) (cond (Nat.blt pc 16) (cond (Nat.beq pc 13) (some (.getfield 177, 16, 0)) none) (cond (Nat.beq pc 16) (some (.ifnonnull 11, 19, 27)) none)) (cond (Nat.blt pc 22) (cond (Nat.beq pc 19) (some (.new 181, 22, 0)) none) (cond (Nat.beq pc 22) (some (.dup, 23, 0)) none))) (cond (Nat.blt pc 27) (cond (Nat.blt pc 26) (cond (Nat.beq pc 23) (some (.invokespecial 183, 26, 0)) none) (cond (Nat.beq pc 26) (some (.athrow, 27, 0)) none)) (cond (Nat.blt pc 28) (cond (Nat.beq pc 27) (some (.iconst 0, 28, 0)) none) (cond (Nat.blt pc 30) (cond (Nat.beq pc 28) (some (.istore 5, 30, 0)) none) (cond (Nat.beq pc 30) (some (.iconst 0, 31, 0)) none)))))) (cond (Nat.blt pc 50) (cond (Nat.blt pc 40) (cond (Nat.blt pc 35) (cond (Nat.blt pc 33) (cond (Nat.beq pc 31) (some (.istore 6, 33, 0)) none) (cond (Nat.beq pc 33) (some (.iload 6, 35, 0)) none)) (cond (Nat.blt pc 37) (cond (Nat.beq pc 35) (some (.aload 4, 37, 0)) none) (cond (Nat.beq pc 37) (some (.invokevirtual 123, 40, 0)) none))) (cond (Nat.blt pc 44) (cond (Nat.blt pc 43) (cond (Nat.beq pc 40) (some (.if_icmp .ge 91, 43, 131)) none) (cond (Nat.beq pc 43) (some (.iconst 0, 44, 0)) none)) (cond (Nat.blt pc 46) (cond (Nat.beq pc 44) (some (.istore 7, 46, 0)) none) (cond (Nat.blt pc 48) (cond (Nat.beq pc 46) (some (.iload 7, 48, 0)) none) (cond (Nat.beq pc 48) (some (.aload 4, 50, 0)) none))))) (cond (Nat.blt pc 60) (cond (Nat.blt pc 56) (cond (Nat.blt pc 53) (cond (Nat.beq pc 50) (some (.invokevirtual 127, 53, 0)) none) (cond (Nat.beq pc 53) (some (.if_icmp .ge 72, 56, 125)) none)) (cond (Nat.blt pc 58) (cond (Nat.beq pc 56) (some (.aload 4, 58, 0)) none) (cond (Nat.beq pc 58) (some (.iload 7, 60, 0)) none))) (cond (Nat.blt pc 65) (cond (Nat.blt pc 62) (cond (Nat.beq pc 60) (some (.iload 6, 62, 0)) none) (cond (Nat.beq pc 62) (some (.invokevirtual 184, 65, 0)) none)) (cond (Nat.blt pc 68) (cond (Nat.beq pc 65) (some (.ifCond .eq 54, 68, 119)) none) (cond (Nat.blt pc 69) (cond (Nat.beq pc 68) (some (.aload_n 0, 69, 0)) none) (cond (Nat.beq pc 69) (some (.getfield 177, 72, 0)) none))))))) (cond (Nat.blt pc 105) (cond (Nat.blt pc 86) (cond (Nat.blt pc 79) (cond (Nat.blt pc 77) (cond (Nat.blt pc 75) (cond (Nat.beq pc 72) (some (.getfield 187, 75, 0)) none) (cond (Nat.beq pc 75) (some (.iload 7, 77, 0)) none)) (cond (Nat.blt pc 78) (cond (Nat.beq pc 77) (some (.iload_n 2, 78, 0)) none) (cond (Nat.beq pc 78) (some (.isub, 79, 0)) none))) (cond (Nat.blt pc 82) (cond (Nat.blt pc 81) (cond (Nat.beq pc 79) (some (.iload 6, 81, 0)) none) (cond (Nat.beq pc 81) (some (.iload_n 3, 82, 0)) none)) (cond (Nat.blt pc 83) (cond (Nat.beq pc 82) (some (.isub, 83, 0)) none) (cond (Nat.beq pc 83) (some (.invokevirtual 149, 86, 0)) none)))) (cond (Nat.blt pc 95) (cond (Nat.blt pc 91) (cond (Nat.blt pc 89) (cond (Nat.beq pc 86) (some (.ifCond .eq 33, 89, 119)) none) (cond (Nat.beq pc 89) (some (.aload 4, 91, 0)) none)) (cond (Nat.blt pc 93) (cond (Nat.beq pc 91) (some (.iload 7, 93, 0)) none) (cond (Nat.beq pc 93) (some (.iload 6, 95, 0)) none))) (cond (Nat.blt pc 99) (cond (Nat.blt pc 96) (cond (Nat.beq pc 95) (some (.aload_n 0, 96, 0)) none) (cond (Nat.beq pc 96) (some (.getfield 177, 99, 0)) none)) (cond (Nat.blt pc 102) (cond (Nat.beq pc 99) (some (.getfield 190, 102, 0)) none) (cond (Nat.blt pc 104) (cond (Nat.beq pc 102) (some (.iload 7, 104, 0)) none) (cond (Nat.beq pc 104) (some (.iload_n 2, 105, 0)) none)))))) (cond (Nat.blt pc 125) (cond (Nat.blt pc 110) (cond (Nat.blt pc 108) (cond (Nat.blt pc 106) (cond (Nat.beq pc 105) (some (.isub, 106, 0)) none) (cond (Nat.beq pc 106) (some (.iload 6, 108, 0)) none)) (cond (Nat.blt pc 109) (cond (Nat.beq pc 108) (some (.iload_n 3, 109, 0)) none) (cond (Nat.beq pc 109) (some (.isub, 110, 0)) none))) (cond (Nat.blt pc 116) (cond (Nat.blt pc 113) (cond (Nat.beq pc 110) (some (.invokevirtual 157, 113, 0)) none) (cond (Nat.beq pc 113) (some (.invokevirtual 129, 116, 0)) none)) (cond (Nat.blt pc 119) (cond (Nat.beq pc 116) (some (.iinc 5 1, 119, 0)) none) (cond (Nat.blt pc 122) (cond (Nat.beq pc 119) (some (.iinc 7 1, 122, 0)) none) (cond (Nat.beq pc 122) (some (.goto (-76), 125, 46)) none))))) (cond (Nat.blt pc 135) (cond (Nat.blt pc 131) (cond (Nat.blt pc 128) (cond (Nat.beq pc 125) (some (.iinc 6 1, 128, 0)) none) (cond (Nat.beq pc 128) (some (.goto (-95), 131, 33)) none)) (cond (Nat.blt pc 132) (cond (Nat.beq pc 131) (some (.aload_n 0, 132, 0)) none) (cond (Nat.beq pc 132) (some (.getfield 12, 135, 0)) none))) (cond (Nat.blt pc 140) (cond (Nat.blt pc 137) (cond (Nat.beq pc 135) (some (.aload 4, 137, 0)) none) (cond (Nat.beq pc 137) (some (.invokevirtual 133, 140, 0)) none)) (cond (Nat.blt pc 143) (cond (Nat.beq pc 140) (some (.invokevirtual 74, 143, 0)) none) (cond (Nat.blt pc 145) (cond (Nat.beq pc 143) (some (.iload 5, 145, 0)) none) (cond (Nat.beq pc 145) (some (.ireturn, 146, 0)) none)))))))
def m_TS_paste : MI := (⟨"TileStudio", "paste", "(III)I"⟩, prog_1_method_14_code, 8, (Option.some Jvm.ClassFile.FieldType.int), [], zmk 146 tb_TS_paste)
theorem ok_TS_paste : zok m_TS_paste := zok_mk rfl (by decide +kernel)
def tb_L_mirror : ZT := fun pc => cond (Nat.blt pc 9) (cond (Nat.blt pc 2) (cond (Nat.blt pc 1) (cond (Nat.beq pc 0) (some (.aload_n 0, 1, 0)) none) (cond (Nat.beq pc 1) (some (.iload_n 1, 2, 0)) none)) (cond (Nat.blt pc 3) (cond (Nat.beq pc 2) (some (.iload_n 2, 3, 0)) none) (cond (Nat.blt pc 6) (cond (Nat.beq pc 3) (some (.invokevirtual 63, 6, 0)) none) (cond (Nat.beq pc 6) (some (.goto 6, 9, 12)) none)))) (cond (Nat.blt pc 11) (cond (Nat.blt pc 10) (cond (Nat.beq pc 9) (some (.astore_n 3, 10, 0)) none) (cond (Nat.beq pc 10) (some (.iconst 1, 11, 0)) none)) (cond (Nat.blt pc 12) (cond (Nat.beq pc 11) (some (.ireturn, 12, 0)) none) (cond (Nat.blt pc 13) (cond (Nat.beq pc 12) (some (.iconst 0, 13, 0)) none) (cond (Nat.beq pc 13) (some (.ireturn, 14, 0)) none))))
def m_L_mirror : MI := (⟨"TileStudioLaw", "mirror", "(LTileStudio;II)I"⟩, method_16_code, 4, (Option.some Jvm.ClassFile.FieldType.int), [(0, 6, 9, 13)], zmk 14 tb_L_mirror)
theorem ok_L_mirror : zok m_L_mirror := zok_mk rfl (by decide +kernel)
def tb_TS_mirror : ZT := fun pc => cond (Nat.blt pc 57) (cond (Nat.blt pc 27) (cond (Nat.blt pc 9) (cond (Nat.blt pc 5) (cond (Nat.blt pc 1) (cond (Nat.beq pc 0) (some (.aload_n 0, 1, 0)) none) (cond (Nat.blt pc 2) (cond (Nat.beq pc 1) (some (.iload_n 1, 2, 0)) none) (cond (Nat.beq pc 2) (some (.invokevirtual 119, 5, 0)) none))) (cond (Nat.blt pc 7) (cond (Nat.blt pc 6) (cond (Nat.beq pc 5) (some (.astore_n 3, 6, 0)) none) (cond (Nat.beq pc 6) (some (.iload_n 2, 7, 0)) none)) (cond (Nat.blt pc 8) (cond (Nat.beq pc 7) (some (.iconst 0, 8, 0)) none) (cond (Nat.beq pc 8) (some (.iconst 1, 9, 0)) none)))) (cond (Nat.blt pc 18) (cond (Nat.blt pc 15) (cond (Nat.blt pc 12) (cond (Nat.beq pc 9) (some (.invokestatic 16, 12, 0)) none) (cond (Nat.beq pc 12) (some (.invokestatic 20, 15, 0)) none)) (cond (Nat.blt pc 16) (cond (Nat.beq pc 15) (some (.iconst 0, 16, 0)) none) (cond (Nat.beq pc 16) (some (.istore 4, 18, 0)) none))) (cond (Nat.blt pc 21) (cond (Nat.blt pc 20) (cond (Nat.beq pc 18) (some (.iload 4, 20, 0)) none) (cond (Nat.beq pc 20) (some (.aload_n 3, 21, 0)) none)) (cond (Nat.blt pc 24) (cond (Nat.beq pc 21) (some (.invokevirtual 123, 24, 0)) none) (cond (Nat.beq pc 24) (some (.if_icmp .ge 87, 27, 111)) none))))) (cond (Nat.blt pc 43) (cond (Nat.blt pc 33) (cond (Nat.blt pc 30) (cond (Nat.blt pc 28) (cond (Nat.beq pc 27) (some (.iconst 0, 28, 0)) none) (cond (Nat.beq pc 28) (some (.istore 5, 30, 0)) none)) (cond (Nat.blt pc 32) (cond (Nat.beq pc 30) (some (.iload 5, 32, 0)) none) (cond (Nat.beq pc 32) (some (.aload_n 3, 33, 0)) none))) (cond (Nat.blt pc 39) (cond (Nat.blt pc 36) (cond (Nat.beq pc 33) (some (.invokevirtual 127, 36, 0)) none) (cond (Nat.beq pc 36) (some (.if_icmp .ge 69, 39, 105)) none)) (cond (Nat.blt pc 40) (cond (Nat.beq pc 39) (some (.iload_n 2, 40, 0)) none) (cond (Nat.beq pc 40) (some (.ifCond .ne 15, 43, 55)) none)))) (cond (Nat.blt pc 49) (cond (Nat.blt pc 47) (cond (Nat.blt pc 44) (cond (Nat.beq pc 43) (some (.aload_n 3, 44, 0)) none) (cond (Nat.beq pc 44) (some (.invokevirtual 127, 47, 0)) none)) (cond (Nat.blt pc 48) (cond (Nat.beq pc 47) (some (.iconst 1, 48, 0)) none) (cond (Nat.beq pc 48) (some (.isub, 49, 0)) none))) (cond (Nat.blt pc 52) (cond (Nat.blt pc 51) (cond (Nat.beq pc 49) (some (.iload 5, 51, 0)) none) (cond (Nat.beq pc 51) (some (.isub, 52, 0)) none)) (cond (Nat.blt pc 55) (cond (Nat.beq pc 52) (some (.goto 5, 55, 57)) none) (cond (Nat.beq pc 55) (some (.iload 5, 57, 0)) none)))))) (cond (Nat.blt pc 85) (cond (Nat.blt pc 70) (cond (Nat.blt pc 64) (cond (Nat.blt pc 60) (cond (Nat.blt pc 59) (cond (Nat.beq pc 57) (some (.istore 6, 59, 0)) none) (cond (Nat.beq pc 59) (some (.iload_n 2, 60, 0)) none)) (cond (Nat.blt pc 61) (cond (Nat.beq pc 60) (some (.iconst 1, 61, 0)) none) (cond (Nat.beq pc 61) (some (.if_icmp .ne 15, 64, 76)) none))) (cond (Nat.blt pc 68) (cond (Nat.blt pc 65) (cond (Nat.beq pc 64) (some (.aload_n 3, 65, 0)) none) (cond (Nat.beq pc 65) (some (.invokevirtual 123, 68, 0)) none)) (cond (Nat.blt pc 69) (cond (Nat.beq pc 68) (some (.iconst 1, 69, 0)) none) (cond (Nat.beq pc 69) (some (.isub, 70, 0)) none)))) (cond (Nat.blt pc 78) (cond (Nat.blt pc 73) (cond (Nat.blt pc 72) (cond (Nat.beq pc 70) (some (.iload 4, 72, 0)) none) (cond (Nat.beq pc 72) (some (.isub, 73, 0)) none)) (cond (Nat.blt pc 76) (cond (Nat.beq pc 73) (some (.goto 5, 76, 78)) none) (cond (Nat.beq pc 76) (some (.iload 4, 78, 0)) none))) (cond (Nat.blt pc 81) (cond (Nat.blt pc 80) (cond (Nat.beq pc 78) (some (.istore 7, 80, 0)) none) (cond (Nat.beq pc 80) (some (.aload_n 3, 81, 0)) none)) (cond (Nat.blt pc 83) (cond (Nat.beq pc 81) (some (.iload 5, 83, 0)) none) (cond (Nat.beq pc 83) (some (.iload 4, 85, 0)) none))))) (cond (Nat.blt pc 105) (cond (Nat.blt pc 93) (cond (Nat.blt pc 89) (cond (Nat.blt pc 86) (cond (Nat.beq pc 85) (some (.aload_n 3, 86, 0)) none) (cond (Nat.beq pc 86) (some (.getfield 153, 89, 0)) none)) (cond (Nat.blt pc 91) (cond (Nat.beq pc 89) (some (.iload 6, 91, 0)) none) (cond (Nat.beq pc 91) (some (.iload 7, 93, 0)) none))) (cond (Nat.blt pc 99) (cond (Nat.blt pc 96) (cond (Nat.beq pc 93) (some (.invokevirtual 157, 96, 0)) none) (cond (Nat.beq pc 96) (some (.invokevirtual 129, 99, 0)) none)) (cond (Nat.blt pc 102) (cond (Nat.beq pc 99) (some (.iinc 5 1, 102, 0)) none) (cond (Nat.beq pc 102) (some (.goto (-72), 105, 30)) none)))) (cond (Nat.blt pc 115) (cond (Nat.blt pc 111) (cond (Nat.blt pc 108) (cond (Nat.beq pc 105) (some (.iinc 4 1, 108, 0)) none) (cond (Nat.beq pc 108) (some (.goto (-90), 111, 18)) none)) (cond (Nat.blt pc 112) (cond (Nat.beq pc 111) (some (.aload_n 0, 112, 0)) none) (cond (Nat.beq pc 112) (some (.getfield 12, 115, 0)) none))) (cond (Nat.blt pc 119) (cond (Nat.blt pc 116) (cond (Nat.beq pc 115) (some (.aload_n 3, 116, 0)) none) (cond (Nat.beq pc 116) (some (.invokevirtual 133, 119, 0)) none)) (cond (Nat.blt pc 122) (cond (Nat.beq pc 119) (some (.invokevirtual 74, 122, 0)) none) (cond (Nat.beq pc 122) (some (.return_, 123, 0)) none))))))
def m_TS_mirror : MI := (⟨"TileStudio", "mirror", "(II)V"⟩, prog_1_method_15_code, 8, none, [], zmk 123 tb_TS_mirror)
theorem ok_TS_mirror : zok m_TS_mirror := zok_mk rfl (by decide +kernel)
def tb_L_shift : ZT := fun pc => cond (Nat.blt pc 7) (cond (Nat.blt pc 2) (cond (Nat.blt pc 1) (cond (Nat.beq pc 0) (some (.aload_n 0, 1, 0)) none) (cond (Nat.beq pc 1) (some (.iload_n 1, 2, 0)) none)) (cond (Nat.blt pc 3) (cond (Nat.beq pc 2) (some (.iload_n 2, 3, 0)) none) (cond (Nat.blt pc 4) (cond (Nat.beq pc 3) (some (.iload_n 3, 4, 0)) none) (cond (Nat.beq pc 4) (some (.invokevirtual 66, 7, 0)) none)))) (cond (Nat.blt pc 13) (cond (Nat.blt pc 10) (cond (Nat.beq pc 7) (some (.goto 7, 10, 14)) none) (cond (Nat.blt pc 12) (cond (Nat.beq pc 10) (some (.astore 4, 12, 0)) none) (cond (Nat.beq pc 12) (some (.iconst 1, 13, 0)) none))) (cond (Nat.blt pc 14) (cond (Nat.beq pc 13) (some (.ireturn, 14, 0)) none) (cond (Nat.blt pc 15) (cond (Nat.beq pc 14) (some (.iconst 0, 15, 0)) none) (cond (Nat.beq pc 15) (some (.ireturn, 16, 0)) none))))
def m_L_shift : MI := (⟨"TileStudioLaw", "shift", "(LTileStudio;III)I"⟩, method_17_code, 5, (Option.some Jvm.ClassFile.FieldType.int), [(0, 7, 10, 13)], zmk 16 tb_L_shift)
theorem ok_L_shift : zok m_L_shift := zok_mk rfl (by decide +kernel)
def tb_TS_shift : ZT := fun pc => cond (Nat.blt pc 42) (cond (Nat.blt pc 17) (cond (Nat.blt pc 8) (cond (Nat.blt pc 2) (cond (Nat.blt pc 1) (cond (Nat.beq pc 0) (some (.aload_n 0, 1, 0)) none) (cond (Nat.beq pc 1) (some (.iload_n 1, 2, 0)) none)) (cond (Nat.blt pc 5) (cond (Nat.beq pc 2) (some (.invokevirtual 119, 5, 0)) none) (cond (Nat.blt pc 7) (cond (Nat.beq pc 5) (some (.astore 4, 7, 0)) none) (cond (Nat.beq pc 7) (some (.iload_n 2, 8, 0)) none)))) (cond (Nat.blt pc 12) (cond (Nat.blt pc 9) (cond (Nat.beq pc 8) (some (.iload_n 3, 9, 0)) none) (cond (Nat.beq pc 9) (some (.invokestatic 142, 12, 0)) none)) (cond (Nat.blt pc 13) (cond (Nat.beq pc 12) (some (.iconst 0, 13, 0)) none) (cond (Nat.blt pc 15) (cond (Nat.beq pc 13) (some (.istore 5, 15, 0)) none) (cond (Nat.beq pc 15) (some (.iload 5, 17, 0)) none))))) (cond (Nat.blt pc 28) (cond (Nat.blt pc 22) (cond (Nat.blt pc 19) (cond (Nat.beq pc 17) (some (.aload 4, 19, 0)) none) (cond (Nat.beq pc 19) (some (.invokevirtual 123, 22, 0)) none)) (cond (Nat.blt pc 25) (cond (Nat.beq pc 22) (some (.if_icmp .ge 53, 25, 75)) none) (cond (Nat.blt pc 26) (cond (Nat.beq pc 25) (some (.iconst 0, 26, 0)) none) (cond (Nat.beq pc 26) (some (.istore 6, 28, 0)) none)))) (cond (Nat.blt pc 35) (cond (Nat.blt pc 30) (cond (Nat.beq pc 28) (some (.iload 6, 30, 0)) none) (cond (Nat.blt pc 32) (cond (Nat.beq pc 30) (some (.aload 4, 32, 0)) none) (cond (Nat.beq pc 32) (some (.invokevirtual 127, 35, 0)) none))) (cond (Nat.blt pc 38) (cond (Nat.beq pc 35) (some (.if_icmp .ge 34, 38, 69)) none) (cond (Nat.blt pc 40) (cond (Nat.beq pc 38) (some (.aload 4, 40, 0)) none) (cond (Nat.beq pc 40) (some (.iload 6, 42, 0)) none)))))) (cond (Nat.blt pc 60) (cond (Nat.blt pc 52) (cond (Nat.blt pc 46) (cond (Nat.blt pc 44) (cond (Nat.beq pc 42) (some (.iload 5, 44, 0)) none) (cond (Nat.beq pc 44) (some (.aload 4, 46, 0)) none)) (cond (Nat.blt pc 49) (cond (Nat.beq pc 46) (some (.getfield 153, 49, 0)) none) (cond (Nat.blt pc 51) (cond (Nat.beq pc 49) (some (.iload 6, 51, 0)) none) (cond (Nat.beq pc 51) (some (.iload_n 2, 52, 0)) none)))) (cond (Nat.blt pc 55) (cond (Nat.blt pc 53) (cond (Nat.beq pc 52) (some (.isub, 53, 0)) none) (cond (Nat.beq pc 53) (some (.iload 5, 55, 0)) none)) (cond (Nat.blt pc 56) (cond (Nat.beq pc 55) (some (.iload_n 3, 56, 0)) none) (cond (Nat.blt pc 57) (cond (Nat.beq pc 56) (some (.isub, 57, 0)) none) (cond (Nat.beq pc 57) (some (.invokevirtual 157, 60, 0)) none))))) (cond (Nat.blt pc 75) (cond (Nat.blt pc 66) (cond (Nat.blt pc 63) (cond (Nat.beq pc 60) (some (.invokevirtual 129, 63, 0)) none) (cond (Nat.beq pc 63) (some (.iinc 6 1, 66, 0)) none)) (cond (Nat.blt pc 69) (cond (Nat.beq pc 66) (some (.goto (-38), 69, 28)) none) (cond (Nat.blt pc 72) (cond (Nat.beq pc 69) (some (.iinc 5 1, 72, 0)) none) (cond (Nat.beq pc 72) (some (.goto (-57), 75, 15)) none)))) (cond (Nat.blt pc 81) (cond (Nat.blt pc 76) (cond (Nat.beq pc 75) (some (.aload_n 0, 76, 0)) none) (cond (Nat.blt pc 79) (cond (Nat.beq pc 76) (some (.getfield 12, 79, 0)) none) (cond (Nat.beq pc 79) (some (.aload 4, 81, 0)) none))) (cond (Nat.blt pc 84) (cond (Nat.beq pc 81) (some (.invokevirtual 133, 84, 0)) none) (cond (Nat.blt pc 87) (cond (Nat.beq pc 84) (some (.invokevirtual 74, 87, 0)) none) (cond (Nat.beq pc 87) (some (.return_, 88, 0)) none))))))
def m_TS_shift : MI := (⟨"TileStudio", "shift", "(III)V"⟩, prog_1_method_16_code, 7, none, [], zmk 88 tb_TS_shift)
theorem ok_TS_shift : zok m_TS_shift := zok_mk rfl (by decide +kernel)
def tb_L_blur : ZT := fun pc => cond (Nat.blt pc 9) (cond (Nat.blt pc 2) (cond (Nat.blt pc 1) (cond (Nat.beq pc 0) (some (.aload_n 0, 1, 0)) none) (cond (Nat.beq pc 1) (some (.iload_n 1, 2, 0)) none)) (cond (Nat.blt pc 3) (cond (Nat.beq pc 2) (some (.iload_n 2, 3, 0)) none) (cond (Nat.blt pc 6) (cond (Nat.beq pc 3) (some (.invokevirtual 69, 6, 0)) none) (cond (Nat.beq pc 6) (some (.goto 6, 9, 12)) none)))) (cond (Nat.blt pc 11) (cond (Nat.blt pc 10) (cond (Nat.beq pc 9) (some (.astore_n 3, 10, 0)) none) (cond (Nat.beq pc 10) (some (.iconst 1, 11, 0)) none)) (cond (Nat.blt pc 12) (cond (Nat.beq pc 11) (some (.ireturn, 12, 0)) none) (cond (Nat.blt pc 13) (cond (Nat.beq pc 12) (some (.iconst 0, 13, 0)) none) (cond (Nat.beq pc 13) (some (.ireturn, 14, 0)) none))))
def m_L_blur : MI := (⟨"TileStudioLaw", "blur", "(LTileStudio;II)I"⟩, method_18_code, 4, (Option.some Jvm.ClassFile.FieldType.int), [(0, 6, 9, 13)], zmk 14 tb_L_blur)
theorem ok_L_blur : zok m_L_blur := zok_mk rfl (by decide +kernel)
def tb_TS_blur : ZT := fun pc => cond (Nat.blt pc 44) (cond (Nat.blt pc 20) (cond (Nat.blt pc 8) (cond (Nat.blt pc 5) (cond (Nat.blt pc 1) (cond (Nat.beq pc 0) (some (.aload_n 0, 1, 0)) none) (cond (Nat.blt pc 2) (cond (Nat.beq pc 1) (some (.iload_n 1, 2, 0)) none) (cond (Nat.beq pc 2) (some (.invokevirtual 119, 5, 0)) none))) (cond (Nat.blt pc 6) (cond (Nat.beq pc 5) (some (.astore_n 3, 6, 0)) none) (cond (Nat.blt pc 7) (cond (Nat.beq pc 6) (some (.iload_n 2, 7, 0)) none) (cond (Nat.beq pc 7) (some (.iconst 1, 8, 0)) none)))) (cond (Nat.blt pc 15) (cond (Nat.blt pc 9) (cond (Nat.beq pc 8) (some (.iconst 4, 9, 0)) none) (cond (Nat.blt pc 12) (cond (Nat.beq pc 9) (some (.invokestatic 16, 12, 0)) none) (cond (Nat.beq pc 12) (some (.invokestatic 20, 15, 0)) none))) (cond (Nat.blt pc 16) (cond (Nat.beq pc 15) (some (.iconst 4, 16, 0)) none) (cond (Nat.blt pc 17) (cond (Nat.beq pc 16) (some (.aload_n 3, 17, 0)) none) (cond (Nat.beq pc 17) (some (.invokevirtual 127, 20, 0)) none))))) (cond (Nat.blt pc 30) (cond (Nat.blt pc 25) (cond (Nat.blt pc 21) (cond (Nat.beq pc 20) (some (.imul, 21, 0)) none) (cond (Nat.blt pc 23) (cond (Nat.beq pc 21) (some (.newarray .int, 23, 0)) none) (cond (Nat.beq pc 23) (some (.astore 4, 25, 0)) none))) (cond (Nat.blt pc 26) (cond (Nat.beq pc 25) (some (.iconst 0, 26, 0)) none) (cond (Nat.blt pc 28) (cond (Nat.beq pc 26) (some (.istore 5, 28, 0)) none) (cond (Nat.beq pc 28) (some (.iload 5, 30, 0)) none)))) (cond (Nat.blt pc 37) (cond (Nat.blt pc 31) (cond (Nat.beq pc 30) (some (.aload_n 3, 31, 0)) none) (cond (Nat.blt pc 34) (cond (Nat.beq pc 31) (some (.invokevirtual 123, 34, 0)) none) (cond (Nat.beq pc 34) (some (.if_icmp .ge 55, 37, 89)) none))) (cond (Nat.blt pc 41) (cond (Nat.blt pc 38) (cond (Nat.beq pc 37) (some (.aload_n 3, 38, 0)) none) (cond (Nat.beq pc 38) (some (.getfield 153, 41, 0)) none)) (cond (Nat.blt pc 43) (cond (Nat.beq pc 41) (some (.iload 5, 43, 0)) none) (cond (Nat.beq pc 43) (some (.iload_n 2, 44, 0)) none)))))) (cond (Nat.blt pc 70) (cond (Nat.blt pc 55) (cond (Nat.blt pc 50) (cond (Nat.blt pc 46) (cond (Nat.beq pc 44) (some (.aload 4, 46, 0)) none) (cond (Nat.blt pc 49) (cond (Nat.beq pc 46) (some (.invokestatic 193, 49, 0)) none) (cond (Nat.beq pc 49) (some (.iconst 0, 50, 0)) none))) (cond (Nat.blt pc 52) (cond (Nat.beq pc 50) (some (.istore 6, 52, 0)) none) (cond (Nat.blt pc 54) (cond (Nat.beq pc 52) (some (.iload 6, 54, 0)) none) (cond (Nat.beq pc 54) (some (.aload_n 3, 55, 0)) none)))) (cond (Nat.blt pc 62) (cond (Nat.blt pc 58) (cond (Nat.beq pc 55) (some (.invokevirtual 127, 58, 0)) none) (cond (Nat.blt pc 61) (cond (Nat.beq pc 58) (some (.if_icmp .ge 25, 61, 83)) none) (cond (Nat.beq pc 61) (some (.aload_n 3, 62, 0)) none))) (cond (Nat.blt pc 66) (cond (Nat.blt pc 64) (cond (Nat.beq pc 62) (some (.iload 6, 64, 0)) none) (cond (Nat.beq pc 64) (some (.iload 5, 66, 0)) none)) (cond (Nat.blt pc 68) (cond (Nat.beq pc 66) (some (.aload 4, 68, 0)) none) (cond (Nat.beq pc 68) (some (.iload 6, 70, 0)) none))))) (cond (Nat.blt pc 86) (cond (Nat.blt pc 77) (cond (Nat.blt pc 71) (cond (Nat.beq pc 70) (some (.iload_n 2, 71, 0)) none) (cond (Nat.blt pc 74) (cond (Nat.beq pc 71) (some (.invokestatic 197, 74, 0)) none) (cond (Nat.beq pc 74) (some (.invokevirtual 129, 77, 0)) none))) (cond (Nat.blt pc 80) (cond (Nat.beq pc 77) (some (.iinc 6 1, 80, 0)) none) (cond (Nat.blt pc 83) (cond (Nat.beq pc 80) (some (.goto (-28), 83, 52)) none) (cond (Nat.beq pc 83) (some (.iinc 5 1, 86, 0)) none)))) (cond (Nat.blt pc 93) (cond (Nat.blt pc 89) (cond (Nat.beq pc 86) (some (.goto (-58), 89, 28)) none) (cond (Nat.blt pc 90) (cond (Nat.beq pc 89) (some (.aload_n 0, 90, 0)) none) (cond (Nat.beq pc 90) (some (.getfield 12, 93, 0)) none))) (cond (Nat.blt pc 97) (cond (Nat.blt pc 94) (cond (Nat.beq pc 93) (some (.aload_n 3, 94, 0)) none) (cond (Nat.beq pc 94) (some (.invokevirtual 133, 97, 0)) none)) (cond (Nat.blt pc 100) (cond (Nat.beq pc 97) (some (.invokevirtual 74, 100, 0)) none) (cond (Nat.beq pc 100) (some (.return_, 101, 0)) none))))))
def m_TS_blur : MI := (⟨"TileStudio", "blur", "(II)V"⟩, prog_1_method_17_code, 7, none, [], zmk 101 tb_TS_blur)
theorem ok_TS_blur : zok m_TS_blur := zok_mk rfl (by decide +kernel)
def tb_TS_sumColumns : ZT := fun pc => cond (Nat.blt pc 29) (cond (Nat.blt pc 14) (cond (Nat.blt pc 6) (cond (Nat.blt pc 3) (cond (Nat.blt pc 1) (cond (Nat.beq pc 0) (some (.iconst 0, 1, 0)) none) (cond (Nat.beq pc 1) (some (.istore 4, 3, 0)) none)) (cond (Nat.blt pc 5) (cond (Nat.beq pc 3) (some (.iload 4, 5, 0)) none) (cond (Nat.beq pc 5) (some (.aload_n 3, 6, 0)) none))) (cond (Nat.blt pc 10) (cond (Nat.blt pc 7) (cond (Nat.beq pc 6) (some (.arraylength, 7, 0)) none) (cond (Nat.beq pc 7) (some (.if_icmp .ge 59, 10, 66)) none)) (cond (Nat.blt pc 11) (cond (Nat.beq pc 10) (some (.iconst 0, 11, 0)) none) (cond (Nat.blt pc 13) (cond (Nat.beq pc 11) (some (.istore 5, 13, 0)) none) (cond (Nat.beq pc 13) (some (.iload_n 1, 14, 0)) none))))) (cond (Nat.blt pc 21) (cond (Nat.blt pc 16) (cond (Nat.blt pc 15) (cond (Nat.beq pc 14) (some (.iload_n 2, 15, 0)) none) (cond (Nat.beq pc 15) (some (.isub, 16, 0)) none)) (cond (Nat.blt pc 18) (cond (Nat.beq pc 16) (some (.istore 6, 18, 0)) none) (cond (Nat.blt pc 20) (cond (Nat.beq pc 18) (some (.iload 6, 20, 0)) none) (cond (Nat.beq pc 20) (some (.iload_n 1, 21, 0)) none)))) (cond (Nat.blt pc 23) (cond (Nat.blt pc 22) (cond (Nat.beq pc 21) (some (.iload_n 2, 22, 0)) none) (cond (Nat.beq pc 22) (some (.iadd, 23, 0)) none)) (cond (Nat.blt pc 26) (cond (Nat.beq pc 23) (some (.if_icmp .gt 31, 26, 54)) none) (cond (Nat.blt pc 28) (cond (Nat.beq pc 26) (some (.iload 5, 28, 0)) none) (cond (Nat.beq pc 28) (some (.aload_n 0, 29, 0)) none)))))) (cond (Nat.blt pc 46) (cond (Nat.blt pc 38) (cond (Nat.blt pc 32) (cond (Nat.blt pc 31) (cond (Nat.beq pc 29) (some (.iload 4, 31, 0)) none) (cond (Nat.beq pc 31) (some (.iconst 4, 32, 0)) none)) (cond (Nat.blt pc 33) (cond (Nat.beq pc 32) (some (.idiv, 33, 0)) none) (cond (Nat.blt pc 35) (cond (Nat.beq pc 33) (some (.iload 6, 35, 0)) none) (cond (Nat.beq pc 35) (some (.invokevirtual 157, 38, 0)) none)))) (cond (Nat.blt pc 41) (cond (Nat.blt pc 40) (cond (Nat.beq pc 38) (some (.iload 4, 40, 0)) none) (cond (Nat.beq pc 40) (some (.iconst 4, 41, 0)) none)) (cond (Nat.blt pc 42) (cond (Nat.beq pc 41) (some (.irem, 42, 0)) none) (cond (Nat.blt pc 45) (cond (Nat.beq pc 42) (some (.invokestatic 233, 45, 0)) none) (cond (Nat.beq pc 45) (some (.iadd, 46, 0)) none))))) (cond (Nat.blt pc 57) (cond (Nat.blt pc 51) (cond (Nat.blt pc 48) (cond (Nat.beq pc 46) (some (.istore 5, 48, 0)) none) (cond (Nat.beq pc 48) (some (.iinc 6 1, 51, 0)) none)) (cond (Nat.blt pc 54) (cond (Nat.beq pc 51) (some (.goto (-33), 54, 18)) none) (cond (Nat.blt pc 55) (cond (Nat.beq pc 54) (some (.aload_n 3, 55, 0)) none) (cond (Nat.beq pc 55) (some (.iload 4, 57, 0)) none)))) (cond (Nat.blt pc 60) (cond (Nat.blt pc 59) (cond (Nat.beq pc 57) (some (.iload 5, 59, 0)) none) (cond (Nat.beq pc 59) (some (.iastore, 60, 0)) none)) (cond (Nat.blt pc 63) (cond (Nat.beq pc 60) (some (.iinc 4 1, 63, 0)) none) (cond (Nat.blt pc 66) (cond (Nat.beq pc 63) (some (.goto (-60), 66, 3)) none) (cond (Nat.beq pc 66) (some (.return_, 67, 0)) none))))))
def m_TS_sumColumns : MI := (⟨"TileStudio", "sumColumns", "(LTileStudio$Layer;II[I)V"⟩, prog_1_method_48_code, 7, none, [], zmk 67 tb_TS_sumColumns)
theorem ok_TS_sumColumns : zok m_TS_sumColumns := zok_mk rfl (by decide +kernel)
def tb_TS_blurredDot : ZT := fun pc => cond (Nat.blt pc 44) (cond (Nat.blt pc 22) (cond (Nat.blt pc 10) (cond (Nat.blt pc 4) (cond (Nat.blt pc 2) (cond (Nat.blt pc 1) (cond (Nat.beq pc 0) (some (.iconst 0, 1, 0)) none) (cond (Nat.beq pc 1) (some (.iload_n 1, 2, 0)) none)) (cond (Nat.blt pc 3) (cond (Nat.beq pc 2) (some (.iload_n 2, 3, 0)) none) (cond (Nat.beq pc 3) (some (.isub, 4, 0)) none))) (cond (Nat.blt pc 8) (cond (Nat.blt pc 7) (cond (Nat.beq pc 4) (some (.invokestatic 287, 7, 0)) none) (cond (Nat.beq pc 7) (some (.istore_n 3, 8, 0)) none)) (cond (Nat.blt pc 9) (cond (Nat.beq pc 8) (some (.aload_n 0, 9, 0)) none) (cond (Nat.beq pc 9) (some (.arraylength, 10, 0)) none)))) (cond (Nat.blt pc 14) (cond (Nat.blt pc 12) (cond (Nat.blt pc 11) (cond (Nat.beq pc 10) (some (.iconst 4, 11, 0)) none) (cond (Nat.beq pc 11) (some (.idiv, 12, 0)) none)) (cond (Nat.blt pc 13) (cond (Nat.beq pc 12) (some (.iconst 1, 13, 0)) none) (cond (Nat.beq pc 13) (some (.isub, 14, 0)) none))) (cond (Nat.blt pc 16) (cond (Nat.blt pc 15) (cond (Nat.beq pc 14) (some (.iload_n 1, 15, 0)) none) (cond (Nat.beq pc 15) (some (.iload_n 2, 16, 0)) none)) (cond (Nat.blt pc 17) (cond (Nat.beq pc 16) (some (.iadd, 17, 0)) none) (cond (Nat.blt pc 20) (cond (Nat.beq pc 17) (some (.invokestatic 309, 20, 0)) none) (cond (Nat.beq pc 20) (some (.istore 4, 22, 0)) none)))))) (cond (Nat.blt pc 31) (cond (Nat.blt pc 26) (cond (Nat.blt pc 24) (cond (Nat.blt pc 23) (cond (Nat.beq pc 22) (some (.iconst 2, 23, 0)) none) (cond (Nat.beq pc 23) (some (.iload_n 2, 24, 0)) none)) (cond (Nat.blt pc 25) (cond (Nat.beq pc 24) (some (.imul, 25, 0)) none) (cond (Nat.beq pc 25) (some (.iconst 1, 26, 0)) none))) (cond (Nat.blt pc 28) (cond (Nat.blt pc 27) (cond (Nat.beq pc 26) (some (.iadd, 27, 0)) none) (cond (Nat.beq pc 27) (some (.iconst 2, 28, 0)) none)) (cond (Nat.blt pc 29) (cond (Nat.beq pc 28) (some (.iload_n 2, 29, 0)) none) (cond (Nat.blt pc 30) (cond (Nat.beq pc 29) (some (.imul, 30, 0)) none) (cond (Nat.beq pc 30) (some (.iconst 1, 31, 0)) none))))) (cond (Nat.blt pc 36) (cond (Nat.blt pc 33) (cond (Nat.blt pc 32) (cond (Nat.beq pc 31) (some (.iadd, 32, 0)) none) (cond (Nat.beq pc 32) (some (.imul, 33, 0)) none)) (cond (Nat.blt pc 35) (cond (Nat.beq pc 33) (some (.istore 5, 35, 0)) none) (cond (Nat.beq pc 35) (some (.iconst 0, 36, 0)) none))) (cond (Nat.blt pc 39) (cond (Nat.blt pc 38) (cond (Nat.beq pc 36) (some (.istore 6, 38, 0)) none) (cond (Nat.beq pc 38) (some (.iconst 0, 39, 0)) none)) (cond (Nat.blt pc 41) (cond (Nat.beq pc 39) (some (.istore 7, 41, 0)) none) (cond (Nat.blt pc 43) (cond (Nat.beq pc 41) (some (.iload 7, 43, 0)) none) (cond (Nat.beq pc 43) (some (.iconst 4, 44, 0)) none))))))) (cond (Nat.blt pc 74) (cond (Nat.blt pc 62) (cond (Nat.blt pc 51) (cond (Nat.blt pc 48) (cond (Nat.blt pc 47) (cond (Nat.beq pc 44) (some (.if_icmp .ge 62, 47, 106)) none) (cond (Nat.beq pc 47) (some (.iconst 0, 48, 0)) none)) (cond (Nat.blt pc 50) (cond (Nat.beq pc 48) (some (.istore 8, 50, 0)) none) (cond (Nat.beq pc 50) (some (.iload_n 3, 51, 0)) none))) (cond (Nat.blt pc 55) (cond (Nat.blt pc 53) (cond (Nat.beq pc 51) (some (.istore 9, 53, 0)) none) (cond (Nat.beq pc 53) (some (.iload 9, 55, 0)) none)) (cond (Nat.blt pc 57) (cond (Nat.beq pc 55) (some (.iload 4, 57, 0)) none) (cond (Nat.blt pc 60) (cond (Nat.beq pc 57) (some (.if_icmp .gt 23, 60, 80)) none) (cond (Nat.beq pc 60) (some (.iload 8, 62, 0)) none))))) (cond (Nat.blt pc 67) (cond (Nat.blt pc 64) (cond (Nat.blt pc 63) (cond (Nat.beq pc 62) (some (.aload_n 0, 63, 0)) none) (cond (Nat.beq pc 63) (some (.iconst 4, 64, 0)) none)) (cond (Nat.blt pc 66) (cond (Nat.beq pc 64) (some (.iload 9, 66, 0)) none) (cond (Nat.beq pc 66) (some (.imul, 67, 0)) none))) (cond (Nat.blt pc 70) (cond (Nat.blt pc 69) (cond (Nat.beq pc 67) (some (.iload 7, 69, 0)) none) (cond (Nat.beq pc 69) (some (.iadd, 70, 0)) none)) (cond (Nat.blt pc 71) (cond (Nat.beq pc 70) (some (.iaload, 71, 0)) none) (cond (Nat.blt pc 72) (cond (Nat.beq pc 71) (some (.iadd, 72, 0)) none) (cond (Nat.beq pc 72) (some (.istore 8, 74, 0)) none)))))) (cond (Nat.blt pc 91) (cond (Nat.blt pc 84) (cond (Nat.blt pc 80) (cond (Nat.blt pc 77) (cond (Nat.beq pc 74) (some (.iinc 9 1, 77, 0)) none) (cond (Nat.beq pc 77) (some (.goto (-24), 80, 53)) none)) (cond (Nat.blt pc 82) (cond (Nat.beq pc 80) (some (.iload 6, 82, 0)) none) (cond (Nat.beq pc 82) (some (.iload 8, 84, 0)) none))) (cond (Nat.blt pc 87) (cond (Nat.blt pc 86) (cond (Nat.beq pc 84) (some (.iload 5, 86, 0)) none) (cond (Nat.beq pc 86) (some (.iconst 2, 87, 0)) none)) (cond (Nat.blt pc 88) (cond (Nat.beq pc 87) (some (.idiv, 88, 0)) none) (cond (Nat.blt pc 89) (cond (Nat.beq pc 88) (some (.iadd, 89, 0)) none) (cond (Nat.beq pc 89) (some (.iload 5, 91, 0)) none))))) (cond (Nat.blt pc 98) (cond (Nat.blt pc 94) (cond (Nat.blt pc 92) (cond (Nat.beq pc 91) (some (.idiv, 92, 0)) none) (cond (Nat.beq pc 92) (some (.iload 7, 94, 0)) none)) (cond (Nat.blt pc 97) (cond (Nat.beq pc 94) (some (.invokestatic 312, 97, 0)) none) (cond (Nat.beq pc 97) (some (.ior, 98, 0)) none))) (cond (Nat.blt pc 103) (cond (Nat.blt pc 100) (cond (Nat.beq pc 98) (some (.istore 6, 100, 0)) none) (cond (Nat.beq pc 100) (some (.iinc 7 1, 103, 0)) none)) (cond (Nat.blt pc 106) (cond (Nat.beq pc 103) (some (.goto (-62), 106, 41)) none) (cond (Nat.blt pc 108) (cond (Nat.beq pc 106) (some (.iload 6, 108, 0)) none) (cond (Nat.beq pc 108) (some (.ireturn, 109, 0)) none)))))))
def m_TS_blurredDot : MI := (⟨"TileStudio", "blurredDot", "([III)I"⟩, prog_1_method_49_code, 10, (Option.some Jvm.ClassFile.FieldType.int), [], zmk 109 tb_TS_blurredDot)
theorem ok_TS_blurredDot : zok m_TS_blurredDot := zok_mk rfl (by decide +kernel)
def tb_L_save : ZT := fun pc => cond (Nat.blt pc 8) (cond (Nat.blt pc 3) (cond (Nat.blt pc 1) (cond (Nat.beq pc 0) (some (.aload_n 2, 1, 0)) none) (cond (Nat.blt pc 2) (cond (Nat.beq pc 1) (some (.iconst 0, 2, 0)) none) (cond (Nat.beq pc 2) (some (.aload_n 0, 3, 0)) none))) (cond (Nat.blt pc 4) (cond (Nat.beq pc 3) (some (.iload_n 1, 4, 0)) none) (cond (Nat.blt pc 7) (cond (Nat.beq pc 4) (some (.invokevirtual 72, 7, 0)) none) (cond (Nat.beq pc 7) (some (.i2l, 8, 0)) none)))) (cond (Nat.blt pc 13) (cond (Nat.blt pc 9) (cond (Nat.beq pc 8) (some (.lastore, 9, 0)) none) (cond (Nat.blt pc 12) (cond (Nat.beq pc 9) (some (.goto 6, 12, 15)) none) (cond (Nat.beq pc 12) (some (.astore_n 3, 13, 0)) none))) (cond (Nat.blt pc 15) (cond (Nat.blt pc 14) (cond (Nat.beq pc 13) (some (.iconst 1, 14, 0)) none) (cond (Nat.beq pc 14) (some (.ireturn, 15, 0)) none)) (cond (Nat.blt pc 16) (cond (Nat.beq pc 15) (some (.iconst 0, 16, 0)) none) (cond (Nat.beq pc 16) (some (.ireturn, 17, 0)) none))))
def m_L_save : MI := (⟨"TileStudioLaw", "save", "(LTileStudio;I[J)I"⟩, method_19_code, 4, (Option.some Jvm.ClassFile.FieldType.int), [(0, 9, 12, 13)], zmk 17 tb_L_save)
theorem ok_L_save : zok m_L_save := zok_mk rfl (by decide +kernel)
def tb_TS_save : ZT := fun pc => cond (Nat.blt pc 16) (cond (Nat.blt pc 9) (cond (Nat.blt pc 4) (cond (Nat.blt pc 1) (cond (Nat.beq pc 0) (some (.aload_n 0, 1, 0)) none) (cond (Nat.beq pc 1) (some (.invokevirtual 48, 4, 0)) none)) (cond (Nat.blt pc 5) (cond (Nat.beq pc 4) (some (.astore_n 2, 5, 0)) none) (cond (Nat.blt pc 6) (cond (Nat.beq pc 5) (some (.aload_n 2, 6, 0)) none) (cond (Nat.beq pc 6) (some (.invokevirtual 208, 9, 0)) none)))) (cond (Nat.blt pc 11) (cond (Nat.blt pc 10) (cond (Nat.beq pc 9) (some (.iconst 1, 10, 0)) none) (cond (Nat.beq pc 10) (some (.iadd, 11, 0)) none)) (cond (Nat.blt pc 12) (cond (Nat.beq pc 11) (some (.istore_n 3, 12, 0)) none) (cond (Nat.blt pc 13) (cond (Nat.beq pc 12) (some (.iload_n 1, 13, 0)) none) (cond (Nat.beq pc 13) (some (.ifCond .lt 10, 16, 23)) none))))) (cond (Nat.blt pc 23) (cond (Nat.blt pc 18) (cond (Nat.blt pc 17) (cond (Nat.beq pc 16) (some (.iload_n 1, 17, 0)) none) (cond (Nat.beq pc 17) (some (.iload_n 3, 18, 0)) none)) (cond (Nat.blt pc 21) (cond (Nat.beq pc 18) (some (.if_icmp .ge 5, 21, 23)) none) (cond (Nat.blt pc 22) (cond (Nat.beq pc 21) (some (.iload_n 1, 22, 0)) none) (cond (Nat.beq pc 22) (some (.ireturn, 23, 0)) none)))) (cond (Nat.blt pc 25) (cond (Nat.blt pc 24) (cond (Nat.beq pc 23) (some (.aload_n 0, 24, 0)) none) (cond (Nat.beq pc 24) (some (.aload_n 2, 25, 0)) none)) (cond (Nat.blt pc 28) (cond (Nat.beq pc 25) (some (.putfield 211, 28, 0)) none) (cond (Nat.blt pc 29) (cond (Nat.beq pc 28) (some (.iload_n 3, 29, 0)) none) (cond (Nat.beq pc 29) (some (.ireturn, 30, 0)) none)))))
def m_TS_save : MI := (⟨"TileStudio", "save", "(I)I"⟩, prog_1_method_20_code, 4, (Option.some Jvm.ClassFile.FieldType.int), [], zmk 30 tb_TS_save)
theorem ok_TS_save : zok m_TS_save := zok_mk rfl (by decide +kernel)
def tb_L_open : ZT := fun pc => cond (Nat.blt pc 8) (cond (Nat.blt pc 4) (cond (Nat.blt pc 1) (cond (Nat.beq pc 0) (some (.aload_n 0, 1, 0)) none) (cond (Nat.beq pc 1) (some (.invokevirtual 75, 4, 0)) none)) (cond (Nat.blt pc 7) (cond (Nat.beq pc 4) (some (.goto 6, 7, 10)) none) (cond (Nat.beq pc 7) (some (.astore_n 1, 8, 0)) none))) (cond (Nat.blt pc 10) (cond (Nat.blt pc 9) (cond (Nat.beq pc 8) (some (.iconst 1, 9, 0)) none) (cond (Nat.beq pc 9) (some (.ireturn, 10, 0)) none)) (cond (Nat.blt pc 11) (cond (Nat.beq pc 10) (some (.iconst 0, 11, 0)) none) (cond (Nat.beq pc 11) (some (.ireturn, 12, 0)) none)))
def m_L_open : MI := (⟨"TileStudioLaw", "open", "(LTileStudio;)I"⟩, method_20_code, 2, (Option.some Jvm.ClassFile.FieldType.int), [(0, 4, 7, 61)], zmk 12 tb_L_open)
theorem ok_L_open : zok m_L_open := zok_mk rfl (by decide +kernel)
def tb_TS_open : ZT := fun pc => cond (Nat.blt pc 14) (cond (Nat.blt pc 7) (cond (Nat.blt pc 1) (cond (Nat.beq pc 0) (some (.aload_n 0, 1, 0)) none) (cond (Nat.blt pc 4) (cond (Nat.beq pc 1) (some (.getfield 211, 4, 0)) none) (cond (Nat.beq pc 4) (some (.ifnonnull 11, 7, 15)) none))) (cond (Nat.blt pc 10) (cond (Nat.beq pc 7) (some (.new 181, 10, 0)) none) (cond (Nat.blt pc 11) (cond (Nat.beq pc 10) (some (.dup, 11, 0)) none) (cond (Nat.beq pc 11) (some (.invokespecial 183, 14, 0)) none)))) (cond (Nat.blt pc 19) (cond (Nat.blt pc 15) (cond (Nat.beq pc 14) (some (.athrow, 15, 0)) none) (cond (Nat.blt pc 16) (cond (Nat.beq pc 15) (some (.aload_n 0, 16, 0)) none) (cond (Nat.beq pc 16) (some (.getfield 12, 19, 0)) none))) (cond (Nat.blt pc 23) (cond (Nat.blt pc 20) (cond (Nat.beq pc 19) (some (.aload_n 0, 20, 0)) none) (cond (Nat.beq pc 20) (some (.getfield 211, 23, 0)) none)) (cond (Nat.blt pc 26) (cond (Nat.beq pc 23) (some (.invokevirtual 44, 26, 0)) none) (cond (Nat.beq pc 26) (some (.return_, 27, 0)) none))))
def m_TS_open : MI := (⟨"TileStudio", "open", "()V"⟩, prog_1_method_21_code, 1, none, [], zmk 27 tb_TS_open)
theorem ok_TS_open : zok m_TS_open := zok_mk rfl (by decide +kernel)
def tb_L_dot : ZT := fun pc => cond (Nat.blt pc 13) (cond (Nat.blt pc 5) (cond (Nat.blt pc 3) (cond (Nat.blt pc 2) (cond (Nat.beq pc 0) (some (.aload 5, 2, 0)) none) (cond (Nat.beq pc 2) (some (.iconst 0, 3, 0)) none)) (cond (Nat.blt pc 4) (cond (Nat.beq pc 3) (some (.aload_n 0, 4, 0)) none) (cond (Nat.beq pc 4) (some (.iload_n 1, 5, 0)) none))) (cond (Nat.blt pc 7) (cond (Nat.blt pc 6) (cond (Nat.beq pc 5) (some (.iload_n 2, 6, 0)) none) (cond (Nat.beq pc 6) (some (.iload_n 3, 7, 0)) none)) (cond (Nat.blt pc 9) (cond (Nat.beq pc 7) (some (.iload 4, 9, 0)) none) (cond (Nat.blt pc 12) (cond (Nat.beq pc 9) (some (.invokevirtual 78, 12, 0)) none) (cond (Nat.beq pc 12) (some (.i2l, 13, 0)) none))))) (cond (Nat.blt pc 21) (cond (Nat.blt pc 17) (cond (Nat.blt pc 14) (cond (Nat.beq pc 13) (some (.lastore, 14, 0)) none) (cond (Nat.beq pc 14) (some (.goto 11, 17, 25)) none)) (cond (Nat.blt pc 19) (cond (Nat.beq pc 17) (some (.astore 6, 19, 0)) none) (cond (Nat.blt pc 20) (cond (Nat.beq pc 19) (some (.iconst 1, 20, 0)) none) (cond (Nat.beq pc 20) (some (.ireturn, 21, 0)) none)))) (cond (Nat.blt pc 24) (cond (Nat.blt pc 23) (cond (Nat.beq pc 21) (some (.astore 6, 23, 0)) none) (cond (Nat.beq pc 23) (some (.iconst 2, 24, 0)) none)) (cond (Nat.blt pc 25) (cond (Nat.beq pc 24) (some (.ireturn, 25, 0)) none) (cond (Nat.blt pc 26) (cond (Nat.beq pc 25) (some (.iconst 0, 26, 0)) none) (cond (Nat.beq pc 26) (some (.ireturn, 27, 0)) none)))))
def m_L_dot : MI := (⟨"TileStudioLaw", "dot", "(LTileStudio;IIII[J)I"⟩, method_21_code, 7, (Option.some Jvm.ClassFile.FieldType.int), [(0, 14, 17, 13), (0, 14, 21, 81)], zmk 27 tb_L_dot)
theorem ok_L_dot : zok m_L_dot := zok_mk rfl (by decide +kernel)
def tb_TS_dot : ZT := fun pc => cond (Nat.blt pc 19) (cond (Nat.blt pc 8) (cond (Nat.blt pc 2) (cond (Nat.blt pc 1) (cond (Nat.beq pc 0) (some (.aload_n 0, 1, 0)) none) (cond (Nat.beq pc 1) (some (.iload_n 1, 2, 0)) none)) (cond (Nat.blt pc 5) (cond (Nat.beq pc 2) (some (.invokevirtual 77, 5, 0)) none) (cond (Nat.blt pc 7) (cond (Nat.beq pc 5) (some (.astore 5, 7, 0)) none) (cond (Nat.beq pc 7) (some (.iload_n 2, 8, 0)) none)))) (cond (Nat.blt pc 13) (cond (Nat.blt pc 9) (cond (Nat.beq pc 8) (some (.iconst 0, 9, 0)) none) (cond (Nat.blt pc 10) (cond (Nat.beq pc 9) (some (.iconst 3, 10, 0)) none) (cond (Nat.beq pc 10) (some (.invokestatic 16, 13, 0)) none))) (cond (Nat.blt pc 16) (cond (Nat.beq pc 13) (some (.invokestatic 20, 16, 0)) none) (cond (Nat.blt pc 18) (cond (Nat.beq pc 16) (some (.aload 5, 18, 0)) none) (cond (Nat.beq pc 18) (some (.iload_n 2, 19, 0)) none))))) (cond (Nat.blt pc 31) (cond (Nat.blt pc 25) (cond (Nat.blt pc 20) (cond (Nat.beq pc 19) (some (.iload_n 3, 20, 0)) none) (cond (Nat.blt pc 22) (cond (Nat.beq pc 20) (some (.iload 4, 22, 0)) none) (cond (Nat.beq pc 22) (some (.invokestatic 215, 25, 0)) none))) (cond (Nat.blt pc 27) (cond (Nat.beq pc 25) (some (.aload 5, 27, 0)) none) (cond (Nat.blt pc 30) (cond (Nat.beq pc 27) (some (.getfield 52, 30, 0)) none) (cond (Nat.beq pc 30) (some (.iload_n 1, 31, 0)) none)))) (cond (Nat.blt pc 34) (cond (Nat.blt pc 32) (cond (Nat.beq pc 31) (some (.aaload, 32, 0)) none) (cond (Nat.blt pc 33) (cond (Nat.beq pc 32) (some (.iload_n 2, 33, 0)) none) (cond (Nat.beq pc 33) (some (.iload_n 3, 34, 0)) none))) (cond (Nat.blt pc 36) (cond (Nat.beq pc 34) (some (.iload 4, 36, 0)) none) (cond (Nat.blt pc 39) (cond (Nat.beq pc 36) (some (.invokestatic 219, 39, 0)) none) (cond (Nat.beq pc 39) (some (.ireturn, 40, 0)) none)))))
def m_TS_dot : MI := (⟨"TileStudio", "dot", "(IIII)I"⟩, prog_1_method_22_code, 6, (Option.some Jvm.ClassFile.FieldType.int), [], zmk 40 tb_TS_dot)
theorem ok_TS_dot : zok m_TS_dot := zok_mk rfl (by decide +kernel)
def tb_TS_requirePlace : ZT := fun pc => cond (Nat.blt pc 20) (cond (Nat.blt pc 10) (cond (Nat.blt pc 3) (cond (Nat.blt pc 1) (cond (Nat.beq pc 0) (some (.iload_n 2, 1, 0)) none) (cond (Nat.blt pc 2) (cond (Nat.beq pc 1) (some (.iconst 0, 2, 0)) none) (cond (Nat.beq pc 2) (some (.aload_n 0, 3, 0)) none))) (cond (Nat.blt pc 6) (cond (Nat.beq pc 3) (some (.getfield 59, 6, 0)) none) (cond (Nat.blt pc 7) (cond (Nat.beq pc 6) (some (.iload_n 1, 7, 0)) none) (cond (Nat.beq pc 7) (some (.invokestatic 248, 10, 0)) none)))) (cond (Nat.blt pc 15) (cond (Nat.blt pc 11) (cond (Nat.beq pc 10) (some (.iconst 1, 11, 0)) none) (cond (Nat.blt pc 12) (cond (Nat.beq pc 11) (some (.isub, 12, 0)) none) (cond (Nat.beq pc 12) (some (.invokestatic 16, 15, 0)) none))) (cond (Nat.blt pc 18) (cond (Nat.beq pc 15) (some (.ifCond .eq 21, 18, 36)) none) (cond (Nat.blt pc 19) (cond (Nat.beq pc 18) (some (.iload_n 3, 19, 0)) none) (cond (Nat.beq pc 19) (some (.iconst 0, 20, 0)) none))))) (cond (Nat.blt pc 30) (cond (Nat.blt pc 25) (cond (Nat.blt pc 21) (cond (Nat.beq pc 20) (some (.aload_n 0, 21, 0)) none) (cond (Nat.blt pc 24) (cond (Nat.beq pc 21) (some (.getfield 63, 24, 0)) none) (cond (Nat.beq pc 24) (some (.iload_n 1, 25, 0)) none))) (cond (Nat.blt pc 28) (cond (Nat.beq pc 25) (some (.invokestatic 248, 28, 0)) none) (cond (Nat.blt pc 29) (cond (Nat.beq pc 28) (some (.iconst 1, 29, 0)) none) (cond (Nat.beq pc 29) (some (.isub, 30, 0)) none)))) (cond (Nat.blt pc 39) (cond (Nat.blt pc 33) (cond (Nat.beq pc 30) (some (.invokestatic 16, 33, 0)) none) (cond (Nat.blt pc 36) (cond (Nat.beq pc 33) (some (.ifCond .ne 11, 36, 44)) none) (cond (Nat.beq pc 36) (some (.new 251, 39, 0)) none))) (cond (Nat.blt pc 43) (cond (Nat.blt pc 40) (cond (Nat.beq pc 39) (some (.dup, 40, 0)) none) (cond (Nat.beq pc 40) (some (.invokespecial 253, 43, 0)) none)) (cond (Nat.blt pc 44) (cond (Nat.beq pc 43) (some (.athrow, 44, 0)) none) (cond (Nat.beq pc 44) (some (.return_, 45, 0)) none)))))
def m_TS_requirePlace : MI := (⟨"TileStudio", "requirePlace", "(LTileStudio$Picture;III)V"⟩, prog_1_method_29_code, 4, none, [], zmk 45 tb_TS_requirePlace)
theorem ok_TS_requirePlace : zok m_TS_requirePlace := zok_mk rfl (by decide +kernel)
def tb_TS_sideAtLevel : ZT := fun pc => cond (Nat.blt pc 5) (cond (Nat.blt pc 2) (cond (Nat.blt pc 1) (cond (Nat.beq pc 0) (some (.iload_n 0, 1, 0)) none) (cond (Nat.beq pc 1) (some (.iconst 1, 2, 0)) none)) (cond (Nat.blt pc 3) (cond (Nat.beq pc 2) (some (.iload_n 1, 3, 0)) none) (cond (Nat.blt pc 4) (cond (Nat.beq pc 3) (some (.ishl, 4, 0)) none) (cond (Nat.beq pc 4) (some (.iadd, 5, 0)) none)))) (cond (Nat.blt pc 7) (cond (Nat.blt pc 6) (cond (Nat.beq pc 5) (some (.iconst 1, 6, 0)) none) (cond (Nat.beq pc 6) (some (.isub, 7, 0)) none)) (cond (Nat.blt pc 8) (cond (Nat.beq pc 7) (some (.iload_n 1, 8, 0)) none) (cond (Nat.blt pc 9) (cond (Nat.beq pc 8) (some (.ishr, 9, 0)) none) (cond (Nat.beq pc 9) (some (.ireturn, 10, 0)) none))))
def m_TS_sideAtLevel : MI := (⟨"TileStudio", "sideAtLevel", "(II)I"⟩, prog_1_method_50_code, 2, (Option.some Jvm.ClassFile.FieldType.int), [], zmk 10 tb_TS_sideAtLevel)
theorem ok_TS_sideAtLevel : zok m_TS_sideAtLevel := zok_mk rfl (by decide +kernel)
def tb_TS_dotAtLevel : ZT := fun pc => cond (Nat.blt pc 40) (cond (Nat.blt pc 22) (cond (Nat.blt pc 12) (cond (Nat.blt pc 6) (cond (Nat.blt pc 4) (cond (Nat.blt pc 1) (cond (Nat.beq pc 0) (some (.iload_n 1, 1, 0)) none) (cond (Nat.beq pc 1) (some (.ifCond .le 8, 4, 9)) none)) (cond (Nat.blt pc 5) (cond (Nat.beq pc 4) (some (.iload_n 1, 5, 0)) none) (cond (Nat.beq pc 5) (some (.iconst 3, 6, 0)) none))) (cond (Nat.blt pc 10) (cond (Nat.blt pc 9) (cond (Nat.beq pc 6) (some (.if_icmp .le 10, 9, 16)) none) (cond (Nat.beq pc 9) (some (.aload_n 0, 10, 0)) none)) (cond (Nat.blt pc 11) (cond (Nat.beq pc 10) (some (.iload_n 2, 11, 0)) none) (cond (Nat.beq pc 11) (some (.iload_n 3, 12, 0)) none)))) (cond (Nat.blt pc 18) (cond (Nat.blt pc 16) (cond (Nat.blt pc 15) (cond (Nat.beq pc 12) (some (.invokevirtual 157, 15, 0)) none) (cond (Nat.beq pc 15) (some (.ireturn, 16, 0)) none)) (cond (Nat.blt pc 17) (cond (Nat.beq pc 16) (some (.aload_n 0, 17, 0)) none) (cond (Nat.beq pc 17) (some (.iload_n 1, 18, 0)) none))) (cond (Nat.blt pc 20) (cond (Nat.blt pc 19) (cond (Nat.beq pc 18) (some (.iconst 1, 19, 0)) none) (cond (Nat.beq pc 19) (some (.isub, 20, 0)) none)) (cond (Nat.blt pc 21) (cond (Nat.beq pc 20) (some (.iconst 2, 21, 0)) none) (cond (Nat.beq pc 21) (some (.iload_n 2, 22, 0)) none))))) (cond (Nat.blt pc 32) (cond (Nat.blt pc 26) (cond (Nat.blt pc 24) (cond (Nat.blt pc 23) (cond (Nat.beq pc 22) (some (.imul, 23, 0)) none) (cond (Nat.beq pc 23) (some (.iconst 2, 24, 0)) none)) (cond (Nat.blt pc 25) (cond (Nat.beq pc 24) (some (.iload_n 3, 25, 0)) none) (cond (Nat.beq pc 25) (some (.imul, 26, 0)) none))) (cond (Nat.blt pc 30) (cond (Nat.blt pc 29) (cond (Nat.beq pc 26) (some (.invokestatic 219, 29, 0)) none) (cond (Nat.beq pc 29) (some (.aload_n 0, 30, 0)) none)) (cond (Nat.blt pc 31) (cond (Nat.beq pc 30) (some (.iload_n 1, 31, 0)) none) (cond (Nat.beq pc 31) (some (.iconst 1, 32, 0)) none)))) (cond (Nat.blt pc 36) (cond (Nat.blt pc 34) (cond (Nat.blt pc 33) (cond (Nat.beq pc 32) (some (.isub, 33, 0)) none) (cond (Nat.beq pc 33) (some (.iconst 2, 34, 0)) none)) (cond (Nat.blt pc 35) (cond (Nat.beq pc 34) (some (.iload_n 2, 35, 0)) none) (cond (Nat.beq pc 35) (some (.imul, 36, 0)) none))) (cond (Nat.blt pc 38) (cond (Nat.blt pc 37) (cond (Nat.beq pc 36) (some (.iconst 1, 37, 0)) none) (cond (Nat.beq pc 37) (some (.iadd, 38, 0)) none)) (cond (Nat.blt pc 39) (cond (Nat.beq pc 38) (some (.iconst 2, 39, 0)) none) (cond (Nat.beq pc 39) (some (.iload_n 3, 40, 0)) none)))))) (cond (Nat.blt pc 60) (cond (Nat.blt pc 50) (cond (Nat.blt pc 46) (cond (Nat.blt pc 44) (cond (Nat.blt pc 41) (cond (Nat.beq pc 40) (some (.imul, 41, 0)) none) (cond (Nat.beq pc 41) (some (.invokestatic 219, 44, 0)) none)) (cond (Nat.blt pc 45) (cond (Nat.beq pc 44) (some (.aload_n 0, 45, 0)) none) (cond (Nat.beq pc 45) (some (.iload_n 1, 46, 0)) none))) (cond (Nat.blt pc 48) (cond (Nat.blt pc 47) (cond (Nat.beq pc 46) (some (.iconst 1, 47, 0)) none) (cond (Nat.beq pc 47) (some (.isub, 48, 0)) none)) (cond (Nat.blt pc 49) (cond (Nat.beq pc 48) (some (.iconst 2, 49, 0)) none) (cond (Nat.beq pc 49) (some (.iload_n 2, 50, 0)) none)))) (cond (Nat.blt pc 54) (cond (Nat.blt pc 52) (cond (Nat.blt pc 51) (cond (Nat.beq pc 50) (some (.imul, 51, 0)) none) (cond (Nat.beq pc 51) (some (.iconst 2, 52, 0)) none)) (cond (Nat.blt pc 53) (cond (Nat.beq pc 52) (some (.iload_n 3, 53, 0)) none) (cond (Nat.beq pc 53) (some (.imul, 54, 0)) none))) (cond (Nat.blt pc 56) (cond (Nat.blt pc 55) (cond (Nat.beq pc 54) (some (.iconst 1, 55, 0)) none) (cond (Nat.beq pc 55) (some (.iadd, 56, 0)) none)) (cond (Nat.blt pc 59) (cond (Nat.beq pc 56) (some (.invokestatic 219, 59, 0)) none) (cond (Nat.beq pc 59) (some (.aload_n 0, 60, 0)) none))))) (cond (Nat.blt pc 68) (cond (Nat.blt pc 64) (cond (Nat.blt pc 62) (cond (Nat.blt pc 61) (cond (Nat.beq pc 60) (some (.iload_n 1, 61, 0)) none) (cond (Nat.beq pc 61) (some (.iconst 1, 62, 0)) none)) (cond (Nat.blt pc 63) (cond (Nat.beq pc 62) (some (.isub, 63, 0)) none) (cond (Nat.beq pc 63) (some (.iconst 2, 64, 0)) none))) (cond (Nat.blt pc 66) (cond (Nat.blt pc 65) (cond (Nat.beq pc 64) (some (.iload_n 2, 65, 0)) none) (cond (Nat.beq pc 65) (some (.imul, 66, 0)) none)) (cond (Nat.blt pc 67) (cond (Nat.beq pc 66) (some (.iconst 1, 67, 0)) none) (cond (Nat.beq pc 67) (some (.iadd, 68, 0)) none)))) (cond (Nat.blt pc 72) (cond (Nat.blt pc 70) (cond (Nat.blt pc 69) (cond (Nat.beq pc 68) (some (.iconst 2, 69, 0)) none) (cond (Nat.beq pc 69) (some (.iload_n 3, 70, 0)) none)) (cond (Nat.blt pc 71) (cond (Nat.beq pc 70) (some (.imul, 71, 0)) none) (cond (Nat.beq pc 71) (some (.iconst 1, 72, 0)) none))) (cond (Nat.blt pc 76) (cond (Nat.blt pc 73) (cond (Nat.beq pc 72) (some (.iadd, 73, 0)) none) (cond (Nat.beq pc 73) (some (.invokestatic 219, 76, 0)) none)) (cond (Nat.blt pc 79) (cond (Nat.beq pc 76) (some (.invokestatic 315, 79, 0)) none) (cond (Nat.beq pc 79) (some (.ireturn, 80, 0)) none))))))
def m_TS_dotAtLevel : MI := (⟨"TileStudio", "dotAtLevel", "(LTileStudio$Layer;III)I"⟩, prog_1_method_51_code, 4, (Option.some Jvm.ClassFile.FieldType.int), [], zmk 80 tb_TS_dotAtLevel)
theorem ok_TS_dotAtLevel : zok m_TS_dotAtLevel := zok_mk rfl (by decide +kernel)
def tb_Dots_merged : ZT := fun pc => cond (Nat.blt pc 50) (cond (Nat.blt pc 25) (cond (Nat.blt pc 12) (cond (Nat.blt pc 6) (cond (Nat.blt pc 2) (cond (Nat.blt pc 1) (cond (Nat.beq pc 0) (some (.iload_n 0, 1, 0)) none) (cond (Nat.beq pc 1) (some (.iconst 3, 2, 0)) none)) (cond (Nat.blt pc 5) (cond (Nat.beq pc 2) (some (.invokestatic 9, 5, 0)) none) (cond (Nat.beq pc 5) (some (.iload_n 1, 6, 0)) none))) (cond (Nat.blt pc 10) (cond (Nat.blt pc 7) (cond (Nat.beq pc 6) (some (.iconst 3, 7, 0)) none) (cond (Nat.beq pc 7) (some (.invokestatic 9, 10, 0)) none)) (cond (Nat.blt pc 11) (cond (Nat.beq pc 10) (some (.iadd, 11, 0)) none) (cond (Nat.beq pc 11) (some (.iload_n 2, 12, 0)) none)))) (cond (Nat.blt pc 18) (cond (Nat.blt pc 16) (cond (Nat.blt pc 13) (cond (Nat.beq pc 12) (some (.iconst 3, 13, 0)) none) (cond (Nat.beq pc 13) (some (.invokestatic 9, 16, 0)) none)) (cond (Nat.blt pc 17) (cond (Nat.beq pc 16) (some (.iadd, 17, 0)) none) (cond (Nat.beq pc 17) (some (.iload_n 3, 18, 0)) none))) (cond (Nat.blt pc 22) (cond (Nat.blt pc 19) (cond (Nat.beq pc 18) (some (.iconst 3, 19, 0)) none) (cond (Nat.beq pc 19) (some (.invokestatic 9, 22, 0)) none)) (cond (Nat.blt pc 23) (cond (Nat.beq pc 22) (some (.iadd, 23, 0)) none) (cond (Nat.beq pc 23) (some (.istore 4, 25, 0)) none))))) (cond (Nat.blt pc 37) (cond (Nat.blt pc 32) (cond (Nat.blt pc 30) (cond (Nat.blt pc 27) (cond (Nat.beq pc 25) (some (.iload 4, 27, 0)) none) (cond (Nat.beq pc 27) (some (.ifCond .ne 5, 30, 32)) none)) (cond (Nat.blt pc 31) (cond (Nat.beq pc 30) (some (.iconst 0, 31, 0)) none) (cond (Nat.beq pc 31) (some (.ireturn, 32, 0)) none))) (cond (Nat.blt pc 35) (cond (Nat.blt pc 34) (cond (Nat.beq pc 32) (some (.iload 4, 34, 0)) none) (cond (Nat.beq pc 34) (some (.iconst 2, 35, 0)) none)) (cond (Nat.blt pc 36) (cond (Nat.beq pc 35) (some (.iadd, 36, 0)) none) (cond (Nat.beq pc 36) (some (.iconst 4, 37, 0)) none)))) (cond (Nat.blt pc 44) (cond (Nat.blt pc 39) (cond (Nat.blt pc 38) (cond (Nat.beq pc 37) (some (.idiv, 38, 0)) none) (cond (Nat.beq pc 38) (some (.iconst 3, 39, 0)) none)) (cond (Nat.blt pc 42) (cond (Nat.beq pc 39) (some (.invokestatic 21, 42, 0)) none) (cond (Nat.beq pc 42) (some (.istore 5, 44, 0)) none))) (cond (Nat.blt pc 47) (cond (Nat.blt pc 45) (cond (Nat.beq pc 44) (some (.iconst 0, 45, 0)) none) (cond (Nat.beq pc 45) (some (.istore 6, 47, 0)) none)) (cond (Nat.blt pc 49) (cond (Nat.beq pc 47) (some (.iload 6, 49, 0)) none) (cond (Nat.beq pc 49) (some (.iconst 3, 50, 0)) none)))))) (cond (Nat.blt pc 80) (cond (Nat.blt pc 66) (cond (Nat.blt pc 59) (cond (Nat.blt pc 54) (cond (Nat.blt pc 53) (cond (Nat.beq pc 50) (some (.if_icmp .ge 58, 53, 108)) none) (cond (Nat.beq pc 53) (some (.iload_n 0, 54, 0)) none)) (cond (Nat.blt pc 56) (cond (Nat.beq pc 54) (some (.iload 6, 56, 0)) none) (cond (Nat.beq pc 56) (some (.invokestatic 24, 59, 0)) none))) (cond (Nat.blt pc 62) (cond (Nat.blt pc 60) (cond (Nat.beq pc 59) (some (.iload_n 1, 60, 0)) none) (cond (Nat.beq pc 60) (some (.iload 6, 62, 0)) none)) (cond (Nat.blt pc 65) (cond (Nat.beq pc 62) (some (.invokestatic 24, 65, 0)) none) (cond (Nat.beq pc 65) (some (.iadd, 66, 0)) none)))) (cond (Nat.blt pc 73) (cond (Nat.blt pc 69) (cond (Nat.blt pc 67) (cond (Nat.beq pc 66) (some (.iload_n 2, 67, 0)) none) (cond (Nat.beq pc 67) (some (.iload 6, 69, 0)) none)) (cond (Nat.blt pc 72) (cond (Nat.beq pc 69) (some (.invokestatic 24, 72, 0)) none) (cond (Nat.beq pc 72) (some (.iadd, 73, 0)) none))) (cond (Nat.blt pc 76) (cond (Nat.blt pc 74) (cond (Nat.beq pc 73) (some (.iload_n 3, 74, 0)) none) (cond (Nat.beq pc 74) (some (.iload 6, 76, 0)) none)) (cond (Nat.blt pc 79) (cond (Nat.beq pc 76) (some (.invokestatic 24, 79, 0)) none) (cond (Nat.beq pc 79) (some (.iadd, 80, 0)) none))))) (cond (Nat.blt pc 93) (cond (Nat.blt pc 88) (cond (Nat.blt pc 84) (cond (Nat.blt pc 82) (cond (Nat.beq pc 80) (some (.istore 7, 82, 0)) none) (cond (Nat.beq pc 82) (some (.iload 5, 84, 0)) none)) (cond (Nat.blt pc 86) (cond (Nat.beq pc 84) (some (.iload 7, 86, 0)) none) (cond (Nat.beq pc 86) (some (.iload 4, 88, 0)) none))) (cond (Nat.blt pc 90) (cond (Nat.blt pc 89) (cond (Nat.beq pc 88) (some (.iconst 2, 89, 0)) none) (cond (Nat.beq pc 89) (some (.idiv, 90, 0)) none)) (cond (Nat.blt pc 91) (cond (Nat.beq pc 90) (some (.iadd, 91, 0)) none) (cond (Nat.beq pc 91) (some (.iload 4, 93, 0)) none)))) (cond (Nat.blt pc 100) (cond (Nat.blt pc 96) (cond (Nat.blt pc 94) (cond (Nat.beq pc 93) (some (.idiv, 94, 0)) none) (cond (Nat.beq pc 94) (some (.iload 6, 96, 0)) none)) (cond (Nat.blt pc 99) (cond (Nat.beq pc 96) (some (.invokestatic 21, 99, 0)) none) (cond (Nat.beq pc 99) (some (.ior, 100, 0)) none))) (cond (Nat.blt pc 105) (cond (Nat.blt pc 102) (cond (Nat.beq pc 100) (some (.istore 5, 102, 0)) none) (cond (Nat.beq pc 102) (some (.iinc 6 1, 105, 0)) none)) (cond (Nat.blt pc 108) (cond (Nat.beq pc 105) (some (.goto (-58), 108, 47)) none) (cond (Nat.blt pc 110) (cond (Nat.beq pc 108) (some (.iload 5, 110, 0)) none) (cond (Nat.beq pc 110) (some (.ireturn, 111, 0)) none)))))))
def m_Dots_merged : MI := (⟨"TileStudio$Dots", "merged", "(IIII)I"⟩, prog_3_method_7_code, 8, (Option.some Jvm.ClassFile.FieldType.int), [], zmk 111 tb_Dots_merged)
theorem ok_Dots_merged : zok m_Dots_merged := zok_mk rfl (by decide +kernel)
def tb_Dots_covered : ZT := fun pc => cond (Nat.blt pc 6) (cond (Nat.blt pc 2) (cond (Nat.blt pc 1) (cond (Nat.beq pc 0) (some (.iload_n 0, 1, 0)) none) (cond (Nat.beq pc 1) (some (.iconst 3, 2, 0)) none)) (cond (Nat.blt pc 5) (cond (Nat.beq pc 2) (some (.invokestatic 9, 5, 0)) none) (cond (Nat.beq pc 5) (some (.iload_n 0, 6, 0)) none))) (cond (Nat.blt pc 10) (cond (Nat.blt pc 7) (cond (Nat.beq pc 6) (some (.iload_n 1, 7, 0)) none) (cond (Nat.beq pc 7) (some (.invokestatic 9, 10, 0)) none)) (cond (Nat.blt pc 11) (cond (Nat.beq pc 10) (some (.imul, 11, 0)) none) (cond (Nat.beq pc 11) (some (.ireturn, 12, 0)) none)))
def m_Dots_covered : MI := (⟨"TileStudio$Dots", "covered", "(II)I"⟩, prog_3_method_8_code, 2, (Option.some Jvm.ClassFile.FieldType.int), [], zmk 12 tb_Dots_covered)
theorem ok_Dots_covered : zok m_Dots_covered := zok_mk rfl (by decide +kernel)
def tb_L_view : ZT := fun pc => cond (Nat.blt pc 12) (cond (Nat.blt pc 5) (cond (Nat.blt pc 3) (cond (Nat.blt pc 2) (cond (Nat.beq pc 0) (some (.aload 4, 2, 0)) none) (cond (Nat.beq pc 2) (some (.iconst 0, 3, 0)) none)) (cond (Nat.blt pc 4) (cond (Nat.beq pc 3) (some (.aload_n 0, 4, 0)) none) (cond (Nat.beq pc 4) (some (.iload_n 1, 5, 0)) none))) (cond (Nat.blt pc 7) (cond (Nat.blt pc 6) (cond (Nat.beq pc 5) (some (.iload_n 2, 6, 0)) none) (cond (Nat.beq pc 6) (some (.iload_n 3, 7, 0)) none)) (cond (Nat.blt pc 10) (cond (Nat.beq pc 7) (some (.invokevirtual 83, 10, 0)) none) (cond (Nat.blt pc 11) (cond (Nat.beq pc 10) (some (.i2l, 11, 0)) none) (cond (Nat.beq pc 11) (some (.lastore, 12, 0)) none))))) (cond (Nat.blt pc 19) (cond (Nat.blt pc 17) (cond (Nat.blt pc 15) (cond (Nat.beq pc 12) (some (.goto 11, 15, 23)) none) (cond (Nat.beq pc 15) (some (.astore 5, 17, 0)) none)) (cond (Nat.blt pc 18) (cond (Nat.beq pc 17) (some (.iconst 1, 18, 0)) none) (cond (Nat.beq pc 18) (some (.ireturn, 19, 0)) none))) (cond (Nat.blt pc 22) (cond (Nat.blt pc 21) (cond (Nat.beq pc 19) (some (.astore 5, 21, 0)) none) (cond (Nat.beq pc 21) (some (.iconst 2, 22, 0)) none)) (cond (Nat.blt pc 23) (cond (Nat.beq pc 22) (some (.ireturn, 23, 0)) none) (cond (Nat.blt pc 24) (cond (Nat.beq pc 23) (some (.iconst 0, 24, 0)) none) (cond (Nat.beq pc 24) (some (.ireturn, 25, 0)) none)))))
def m_L_view : MI := (⟨"TileStudioLaw", "view", "(LTileStudio;III[J)I"⟩, method_22_code, 6, (Option.some Jvm.ClassFile.FieldType.int), [(0, 12, 15, 13), (0, 12, 19, 81)], zmk 25 tb_L_view)
theorem ok_L_view : zok m_L_view := zok_mk rfl (by decide +kernel)
def tb_TS_view : ZT := fun pc => cond (Nat.blt pc 45) (cond (Nat.blt pc 20) (cond (Nat.blt pc 9) (cond (Nat.blt pc 6) (cond (Nat.blt pc 1) (cond (Nat.beq pc 0) (some (.aload_n 0, 1, 0)) none) (cond (Nat.blt pc 4) (cond (Nat.beq pc 1) (some (.invokevirtual 48, 4, 0)) none) (cond (Nat.beq pc 4) (some (.astore 4, 6, 0)) none))) (cond (Nat.blt pc 7) (cond (Nat.beq pc 6) (some (.iload_n 1, 7, 0)) none) (cond (Nat.blt pc 8) (cond (Nat.beq pc 7) (some (.iconst 0, 8, 0)) none) (cond (Nat.beq pc 8) (some (.iconst 3, 9, 0)) none)))) (cond (Nat.blt pc 17) (cond (Nat.blt pc 12) (cond (Nat.beq pc 9) (some (.invokestatic 16, 12, 0)) none) (cond (Nat.blt pc 15) (cond (Nat.beq pc 12) (some (.invokestatic 20, 15, 0)) none) (cond (Nat.beq pc 15) (some (.aload 4, 17, 0)) none))) (cond (Nat.blt pc 18) (cond (Nat.beq pc 17) (some (.iload_n 1, 18, 0)) none) (cond (Nat.blt pc 19) (cond (Nat.beq pc 18) (some (.iload_n 2, 19, 0)) none) (cond (Nat.beq pc 19) (some (.iload_n 3, 20, 0)) none))))) (cond (Nat.blt pc 31) (cond (Nat.blt pc 26) (cond (Nat.blt pc 23) (cond (Nat.beq pc 20) (some (.invokestatic 215, 23, 0)) none) (cond (Nat.blt pc 24) (cond (Nat.beq pc 23) (some (.iconst 0, 24, 0)) none) (cond (Nat.beq pc 24) (some (.istore 5, 26, 0)) none))) (cond (Nat.blt pc 27) (cond (Nat.beq pc 26) (some (.iconst 0, 27, 0)) none) (cond (Nat.blt pc 29) (cond (Nat.beq pc 27) (some (.istore 6, 29, 0)) none) (cond (Nat.beq pc 29) (some (.iload 6, 31, 0)) none)))) (cond (Nat.blt pc 37) (cond (Nat.blt pc 33) (cond (Nat.beq pc 31) (some (.aload 4, 33, 0)) none) (cond (Nat.blt pc 36) (cond (Nat.beq pc 33) (some (.getfield 52, 36, 0)) none) (cond (Nat.beq pc 36) (some (.arraylength, 37, 0)) none))) (cond (Nat.blt pc 40) (cond (Nat.beq pc 37) (some (.if_icmp .ge 56, 40, 93)) none) (cond (Nat.blt pc 42) (cond (Nat.beq pc 40) (some (.aload 4, 42, 0)) none) (cond (Nat.beq pc 42) (some (.getfield 52, 45, 0)) none)))))) (cond (Nat.blt pc 68) (cond (Nat.blt pc 58) (cond (Nat.blt pc 50) (cond (Nat.blt pc 47) (cond (Nat.beq pc 45) (some (.iload 6, 47, 0)) none) (cond (Nat.blt pc 48) (cond (Nat.beq pc 47) (some (.aaload, 48, 0)) none) (cond (Nat.beq pc 48) (some (.astore 7, 50, 0)) none))) (cond (Nat.blt pc 52) (cond (Nat.beq pc 50) (some (.aload 7, 52, 0)) none) (cond (Nat.blt pc 55) (cond (Nat.beq pc 52) (some (.getfield 223, 55, 0)) none) (cond (Nat.beq pc 55) (some (.ifCond .eq 32, 58, 87)) none)))) (cond (Nat.blt pc 62) (cond (Nat.blt pc 60) (cond (Nat.beq pc 58) (some (.aload 7, 60, 0)) none) (cond (Nat.blt pc 61) (cond (Nat.beq pc 60) (some (.iload_n 1, 61, 0)) none) (cond (Nat.beq pc 61) (some (.iload_n 2, 62, 0)) none))) (cond (Nat.blt pc 63) (cond (Nat.beq pc 62) (some (.iload_n 3, 63, 0)) none) (cond (Nat.blt pc 66) (cond (Nat.beq pc 63) (some (.invokestatic 219, 66, 0)) none) (cond (Nat.beq pc 66) (some (.istore 8, 68, 0)) none))))) (cond (Nat.blt pc 82) (cond (Nat.blt pc 74) (cond (Nat.blt pc 70) (cond (Nat.beq pc 68) (some (.iload 8, 70, 0)) none) (cond (Nat.blt pc 72) (cond (Nat.beq pc 70) (some (.iload 5, 72, 0)) none) (cond (Nat.beq pc 72) (some (.aload 7, 74, 0)) none))) (cond (Nat.blt pc 77) (cond (Nat.beq pc 74) (some (.getfield 227, 77, 0)) none) (cond (Nat.blt pc 79) (cond (Nat.beq pc 77) (some (.aload 7, 79, 0)) none) (cond (Nat.beq pc 79) (some (.getfield 230, 82, 0)) none)))) (cond (Nat.blt pc 90) (cond (Nat.blt pc 85) (cond (Nat.beq pc 82) (some (.invokestatic 161, 85, 0)) none) (cond (Nat.blt pc 87) (cond (Nat.beq pc 85) (some (.istore 5, 87, 0)) none) (cond (Nat.beq pc 87) (some (.iinc 6 1, 90, 0)) none))) (cond (Nat.blt pc 93) (cond (Nat.beq pc 90) (some (.goto (-61), 93, 29)) none) (cond (Nat.blt pc 95) (cond (Nat.beq pc 93) (some (.iload 5, 95, 0)) none) (cond (Nat.beq pc 95) (some (.ireturn, 96, 0)) none))))))
def m_TS_view : MI := (⟨"TileStudio", "view", "(III)I"⟩, prog_1_method_23_code, 9, (Option.some Jvm.ClassFile.FieldType.int), [], zmk 96 tb_TS_view)
theorem ok_TS_view : zok m_TS_view := zok_mk rfl (by decide +kernel)
end
section
def tb_L_histogram : ZT := fun pc => cond (Nat.blt pc 10) (cond (Nat.blt pc 4) (cond (Nat.blt pc 2) (cond (Nat.beq pc 0) (some (.aload 4, 2, 0)) none) (cond (Nat.blt pc 3) (cond (Nat.beq pc 2) (some (.iconst 0, 3, 0)) none) (cond (Nat.beq pc 3) (some (.aload_n 0, 4, 0)) none))) (cond (Nat.blt pc 6) (cond (Nat.blt pc 5) (cond (Nat.beq pc 4) (some (.iload_n 1, 5, 0)) none) (cond (Nat.beq pc 5) (some (.iload_n 2, 6, 0)) none)) (cond (Nat.blt pc 7) (cond (Nat.beq pc 6) (some (.iload_n 3, 7, 0)) none) (cond (Nat.beq pc 7) (some (.invokevirtual 86, 10, 0)) none)))) (cond (Nat.blt pc 17) (cond (Nat.blt pc 12) (cond (Nat.blt pc 11) (cond (Nat.beq pc 10) (some (.i2l, 11, 0)) none) (cond (Nat.beq pc 11) (some (.lastore, 12, 0)) none)) (cond (Nat.blt pc 15) (cond (Nat.beq pc 12) (some (.goto 7, 15, 19)) none) (cond (Nat.beq pc 15) (some (.astore 5, 17, 0)) none))) (cond (Nat.blt pc 19) (cond (Nat.blt pc 18) (cond (Nat.beq pc 17) (some (.iconst 1, 18, 0)) none) (cond (Nat.beq pc 18) (some (.ireturn, 19, 0)) none)) (cond (Nat.blt pc 20) (cond (Nat.beq pc 19) (some (.iconst 0, 20, 0)) none) (cond (Nat.beq pc 20) (some (.ireturn, 21, 0)) none))))
def m_L_histogram : MI := (⟨"TileStudioLaw", "histogram", "(LTileStudio;III[J)I"⟩, method_23_code, 6, (Option.some Jvm.ClassFile.FieldType.int), [(0, 12, 15, 13)], zmk 21 tb_L_histogram)
theorem ok_L_histogram : zok m_L_histogram := zok_mk rfl (by decide +kernel)
def tb_TS_histogram : ZT := fun pc => cond (Nat.blt pc 47) (cond (Nat.blt pc 20) (cond (Nat.blt pc 9) (cond (Nat.blt pc 5) (cond (Nat.blt pc 1) (cond (Nat.beq pc 0) (some (.aload_n 0, 1, 0)) none) (cond (Nat.blt pc 2) (cond (Nat.beq pc 1) (some (.iload_n 1, 2, 0)) none) (cond (Nat.beq pc 2) (some (.invokevirtual 77, 5, 0)) none))) (cond (Nat.blt pc 7) (cond (Nat.beq pc 5) (some (.astore 4, 7, 0)) none) (cond (Nat.blt pc 8) (cond (Nat.beq pc 7) (some (.iload_n 2, 8, 0)) none) (cond (Nat.beq pc 8) (some (.iconst 0, 9, 0)) none)))) (cond (Nat.blt pc 16) (cond (Nat.blt pc 10) (cond (Nat.beq pc 9) (some (.iconst 3, 10, 0)) none) (cond (Nat.blt pc 13) (cond (Nat.beq pc 10) (some (.invokestatic 16, 13, 0)) none) (cond (Nat.beq pc 13) (some (.invokestatic 20, 16, 0)) none))) (cond (Nat.blt pc 17) (cond (Nat.beq pc 16) (some (.iconst 0, 17, 0)) none) (cond (Nat.blt pc 19) (cond (Nat.beq pc 17) (some (.istore 5, 19, 0)) none) (cond (Nat.beq pc 19) (some (.iconst 0, 20, 0)) none))))) (cond (Nat.blt pc 33) (cond (Nat.blt pc 26) (cond (Nat.blt pc 22) (cond (Nat.beq pc 20) (some (.istore 6, 22, 0)) none) (cond (Nat.blt pc 24) (cond (Nat.beq pc 22) (some (.iload 6, 24, 0)) none) (cond (Nat.beq pc 24) (some (.aload 4, 26, 0)) none))) (cond (Nat.blt pc 29) (cond (Nat.beq pc 26) (some (.getfield 63, 29, 0)) none) (cond (Nat.blt pc 32) (cond (Nat.beq pc 29) (some (.if_icmp .ge 72, 32, 101)) none) (cond (Nat.beq pc 32) (some (.iconst 0, 33, 0)) none)))) (cond (Nat.blt pc 39) (cond (Nat.blt pc 35) (cond (Nat.beq pc 33) (some (.istore 7, 35, 0)) none) (cond (Nat.blt pc 37) (cond (Nat.beq pc 35) (some (.iload 7, 37, 0)) none) (cond (Nat.beq pc 37) (some (.aload 4, 39, 0)) none))) (cond (Nat.blt pc 42) (cond (Nat.beq pc 39) (some (.getfield 59, 42, 0)) none) (cond (Nat.blt pc 45) (cond (Nat.beq pc 42) (some (.if_icmp .ge 53, 45, 95)) none) (cond (Nat.beq pc 45) (some (.aload 4, 47, 0)) none)))))) (cond (Nat.blt pc 73) (cond (Nat.blt pc 59) (cond (Nat.blt pc 52) (cond (Nat.blt pc 50) (cond (Nat.beq pc 47) (some (.getfield 52, 50, 0)) none) (cond (Nat.blt pc 51) (cond (Nat.beq pc 50) (some (.iload_n 1, 51, 0)) none) (cond (Nat.beq pc 51) (some (.aaload, 52, 0)) none))) (cond (Nat.blt pc 54) (cond (Nat.beq pc 52) (some (.iload 7, 54, 0)) none) (cond (Nat.blt pc 56) (cond (Nat.beq pc 54) (some (.iload 6, 56, 0)) none) (cond (Nat.beq pc 56) (some (.invokevirtual 157, 59, 0)) none)))) (cond (Nat.blt pc 66) (cond (Nat.blt pc 61) (cond (Nat.beq pc 59) (some (.istore 8, 61, 0)) none) (cond (Nat.blt pc 63) (cond (Nat.beq pc 61) (some (.aload 4, 63, 0)) none) (cond (Nat.beq pc 63) (some (.getfield 97, 66, 0)) none))) (cond (Nat.blt pc 68) (cond (Nat.beq pc 66) (some (.iload 7, 68, 0)) none) (cond (Nat.blt pc 70) (cond (Nat.beq pc 68) (some (.iload 6, 70, 0)) none) (cond (Nat.beq pc 70) (some (.invokevirtual 149, 73, 0)) none))))) (cond (Nat.blt pc 86) (cond (Nat.blt pc 79) (cond (Nat.blt pc 76) (cond (Nat.beq pc 73) (some (.ifCond .eq 16, 76, 89)) none) (cond (Nat.blt pc 78) (cond (Nat.beq pc 76) (some (.iload 8, 78, 0)) none) (cond (Nat.beq pc 78) (some (.iload_n 2, 79, 0)) none))) (cond (Nat.blt pc 82) (cond (Nat.beq pc 79) (some (.invokestatic 233, 82, 0)) none) (cond (Nat.blt pc 83) (cond (Nat.beq pc 82) (some (.iload_n 3, 83, 0)) none) (cond (Nat.beq pc 83) (some (.if_icmp .ne 6, 86, 89)) none)))) (cond (Nat.blt pc 95) (cond (Nat.blt pc 89) (cond (Nat.beq pc 86) (some (.iinc 5 1, 89, 0)) none) (cond (Nat.blt pc 92) (cond (Nat.beq pc 89) (some (.iinc 7 1, 92, 0)) none) (cond (Nat.beq pc 92) (some (.goto (-57), 95, 35)) none))) (cond (Nat.blt pc 101) (cond (Nat.blt pc 98) (cond (Nat.beq pc 95) (some (.iinc 6 1, 98, 0)) none) (cond (Nat.beq pc 98) (some (.goto (-76), 101, 22)) none)) (cond (Nat.blt pc 103) (cond (Nat.beq pc 101) (some (.iload 5, 103, 0)) none) (cond (Nat.beq pc 103) (some (.ireturn, 104, 0)) none))))))
def m_TS_histogram : MI := (⟨"TileStudio", "histogram", "(III)I"⟩, prog_1_method_24_code, 9, (Option.some Jvm.ClassFile.FieldType.int), [], zmk 104 tb_TS_histogram)
theorem ok_TS_histogram : zok m_TS_histogram := zok_mk rfl (by decide +kernel)
def tb_M_init : ZT := fun pc => cond (Nat.blt pc 55) (cond (Nat.blt pc 27) (cond (Nat.blt pc 13) (cond (Nat.blt pc 5) (cond (Nat.blt pc 1) (cond (Nat.beq pc 0) (some (.aload_n 0, 1, 0)) none) (cond (Nat.blt pc 4) (cond (Nat.beq pc 1) (some (.invokespecial 1, 4, 0)) none) (cond (Nat.beq pc 4) (some (.aload_n 0, 5, 0)) none))) (cond (Nat.blt pc 8) (cond (Nat.beq pc 5) (some (.sipush 13824, 8, 0)) none) (cond (Nat.blt pc 10) (cond (Nat.beq pc 8) (some (.newarray .int, 10, 0)) none) (cond (Nat.beq pc 10) (some (.putfield 7, 13, 0)) none)))) (cond (Nat.blt pc 19) (cond (Nat.blt pc 14) (cond (Nat.beq pc 13) (some (.aload_n 0, 14, 0)) none) (cond (Nat.blt pc 17) (cond (Nat.beq pc 14) (some (.sipush 192, 17, 0)) none) (cond (Nat.beq pc 17) (some (.newarray .int, 19, 0)) none))) (cond (Nat.blt pc 23) (cond (Nat.blt pc 22) (cond (Nat.beq pc 19) (some (.putfield 13, 22, 0)) none) (cond (Nat.beq pc 22) (some (.aload_n 0, 23, 0)) none)) (cond (Nat.blt pc 25) (cond (Nat.beq pc 23) (some (.bipush 24, 25, 0)) none) (cond (Nat.beq pc 25) (some (.newarray .int, 27, 0)) none))))) (cond (Nat.blt pc 41) (cond (Nat.blt pc 33) (cond (Nat.blt pc 30) (cond (Nat.beq pc 27) (some (.putfield 16, 30, 0)) none) (cond (Nat.blt pc 31) (cond (Nat.beq pc 30) (some (.aload_n 0, 31, 0)) none) (cond (Nat.beq pc 31) (some (.bipush 24, 33, 0)) none))) (cond (Nat.blt pc 38) (cond (Nat.blt pc 35) (cond (Nat.beq pc 33) (some (.newarray .int, 35, 0)) none) (cond (Nat.beq pc 35) (some (.putfield 19, 38, 0)) none)) (cond (Nat.blt pc 39) (cond (Nat.beq pc 38) (some (.aload_n 0, 39, 0)) none) (cond (Nat.beq pc 39) (some (.bipush 24, 41, 0)) none)))) (cond (Nat.blt pc 47) (cond (Nat.blt pc 43) (cond (Nat.beq pc 41) (some (.newarray .boolean, 43, 0)) none) (cond (Nat.blt pc 46) (cond (Nat.beq pc 43) (some (.putfield 22, 46, 0)) none) (cond (Nat.beq pc 46) (some (.aload_n 0, 47, 0)) none))) (cond (Nat.blt pc 51) (cond (Nat.blt pc 49) (cond (Nat.beq pc 47) (some (.bipush 8, 49, 0)) none) (cond (Nat.beq pc 49) (some (.newarray .int, 51, 0)) none)) (cond (Nat.blt pc 54) (cond (Nat.beq pc 51) (some (.putfield 26, 54, 0)) none) (cond (Nat.beq pc 54) (some (.aload_n 0, 55, 0)) none)))))) (cond (Nat.blt pc 84) (cond (Nat.blt pc 70) (cond (Nat.blt pc 62) (cond (Nat.blt pc 57) (cond (Nat.beq pc 55) (some (.bipush 8, 57, 0)) none) (cond (Nat.blt pc 59) (cond (Nat.beq pc 57) (some (.newarray .int, 59, 0)) none) (cond (Nat.beq pc 59) (some (.putfield 29, 62, 0)) none))) (cond (Nat.blt pc 65) (cond (Nat.blt pc 63) (cond (Nat.beq pc 62) (some (.aload_n 0, 63, 0)) none) (cond (Nat.beq pc 63) (some (.bipush 8, 65, 0)) none)) (cond (Nat.blt pc 67) (cond (Nat.beq pc 65) (some (.newarray .int, 67, 0)) none) (cond (Nat.beq pc 67) (some (.putfield 32, 70, 0)) none)))) (cond (Nat.blt pc 76) (cond (Nat.blt pc 71) (cond (Nat.beq pc 70) (some (.aload_n 0, 71, 0)) none) (cond (Nat.blt pc 74) (cond (Nat.beq pc 71) (some (.sipush 576, 74, 0)) none) (cond (Nat.beq pc 74) (some (.newarray .int, 76, 0)) none))) (cond (Nat.blt pc 80) (cond (Nat.blt pc 79) (cond (Nat.beq pc 76) (some (.putfield 35, 79, 0)) none) (cond (Nat.beq pc 79) (some (.aload_n 0, 80, 0)) none)) (cond (Nat.blt pc 82) (cond (Nat.beq pc 80) (some (.bipush 24, 82, 0)) none) (cond (Nat.beq pc 82) (some (.newarray .int, 84, 0)) none))))) (cond (Nat.blt pc 99) (cond (Nat.blt pc 91) (cond (Nat.blt pc 87) (cond (Nat.beq pc 84) (some (.putfield 38, 87, 0)) none) (cond (Nat.blt pc 88) (cond (Nat.beq pc 87) (some (.aload_n 0, 88, 0)) none) (cond (Nat.beq pc 88) (some (.sipush 576, 91, 0)) none))) (cond (Nat.blt pc 96) (cond (Nat.blt pc 93) (cond (Nat.beq pc 91) (some (.newarray .int, 93, 0)) none) (cond (Nat.beq pc 93) (some (.putfield 41, 96, 0)) none)) (cond (Nat.blt pc 97) (cond (Nat.beq pc 96) (some (.aload_n 0, 97, 0)) none) (cond (Nat.beq pc 97) (some (.bipush 24, 99, 0)) none)))) (cond (Nat.blt pc 105) (cond (Nat.blt pc 101) (cond (Nat.beq pc 99) (some (.newarray .int, 101, 0)) none) (cond (Nat.blt pc 104) (cond (Nat.beq pc 101) (some (.putfield 44, 104, 0)) none) (cond (Nat.beq pc 104) (some (.aload_n 0, 105, 0)) none))) (cond (Nat.blt pc 110) (cond (Nat.blt pc 108) (cond (Nat.beq pc 105) (some (.sipush 576, 108, 0)) none) (cond (Nat.beq pc 108) (some (.newarray .int, 110, 0)) none)) (cond (Nat.blt pc 113) (cond (Nat.beq pc 110) (some (.putfield 47, 113, 0)) none) (cond (Nat.beq pc 113) (some (.return_, 114, 0)) none))))))
def m_M_init : MI := (⟨"TileStudioModel", "<init>", "()V"⟩, prog_10_method_1_code, 1, none, [], zmk 114 tb_M_init)
theorem ok_M_init : zok m_M_init := zok_mk rfl (by decide +kernel)
def tb_M_thrown : ZT := fun pc => cond (Nat.blt pc 1) (cond (Nat.beq pc 0) (some (.aload_n 0, 1, 0)) none) (cond (Nat.blt pc 4) (cond (Nat.beq pc 1) (some (.getfield 50, 4, 0)) none) (cond (Nat.beq pc 4) (some (.ireturn, 5, 0)) none))
def m_M_thrown : MI := (⟨"TileStudioModel", "thrown", "()I"⟩, prog_10_method_2_code, 1, (Option.some Jvm.ClassFile.FieldType.int), [], zmk 5 tb_M_thrown)
theorem ok_M_thrown : zok m_M_thrown := zok_mk rfl (by decide +kernel)
def tb_M_make : ZT := fun pc => cond (Nat.blt pc 59) (cond (Nat.blt pc 32) (cond (Nat.blt pc 13) (cond (Nat.blt pc 5) (cond (Nat.blt pc 2) (cond (Nat.blt pc 1) (cond (Nat.beq pc 0) (some (.aload_n 0, 1, 0)) none) (cond (Nat.beq pc 1) (some (.iload_n 1, 2, 0)) none)) (cond (Nat.blt pc 3) (cond (Nat.beq pc 2) (some (.iconst 1, 3, 0)) none) (cond (Nat.beq pc 3) (some (.bipush 24, 5, 0)) none))) (cond (Nat.blt pc 11) (cond (Nat.blt pc 8) (cond (Nat.beq pc 5) (some (.invokestatic 71, 8, 0)) none) (cond (Nat.beq pc 8) (some (.ifCond .eq 13, 11, 21)) none)) (cond (Nat.blt pc 12) (cond (Nat.beq pc 11) (some (.iload_n 2, 12, 0)) none) (cond (Nat.beq pc 12) (some (.iconst 1, 13, 0)) none)))) (cond (Nat.blt pc 22) (cond (Nat.blt pc 18) (cond (Nat.blt pc 15) (cond (Nat.beq pc 13) (some (.bipush 24, 15, 0)) none) (cond (Nat.beq pc 15) (some (.invokestatic 71, 18, 0)) none)) (cond (Nat.blt pc 21) (cond (Nat.beq pc 18) (some (.ifCond .ne 7, 21, 25)) none) (cond (Nat.beq pc 21) (some (.iconst 1, 22, 0)) none))) (cond (Nat.blt pc 26) (cond (Nat.blt pc 25) (cond (Nat.beq pc 22) (some (.goto 4, 25, 26)) none) (cond (Nat.beq pc 25) (some (.iconst 0, 26, 0)) none)) (cond (Nat.blt pc 29) (cond (Nat.beq pc 26) (some (.invokevirtual 75, 29, 0)) none) (cond (Nat.beq pc 29) (some (.ifCond .eq 4, 32, 33)) none))))) (cond (Nat.blt pc 44) (cond (Nat.blt pc 38) (cond (Nat.blt pc 34) (cond (Nat.blt pc 33) (cond (Nat.beq pc 32) (some (.return_, 33, 0)) none) (cond (Nat.beq pc 33) (some (.aload_n 0, 34, 0)) none)) (cond (Nat.blt pc 35) (cond (Nat.beq pc 34) (some (.iconst 0, 35, 0)) none) (cond (Nat.beq pc 35) (some (.putfield 58, 38, 0)) none))) (cond (Nat.blt pc 40) (cond (Nat.blt pc 39) (cond (Nat.beq pc 38) (some (.aload_n 0, 39, 0)) none) (cond (Nat.beq pc 39) (some (.iconst 0, 40, 0)) none)) (cond (Nat.blt pc 43) (cond (Nat.beq pc 40) (some (.putfield 64, 43, 0)) none) (cond (Nat.beq pc 43) (some (.aload_n 0, 44, 0)) none)))) (cond (Nat.blt pc 52) (cond (Nat.blt pc 48) (cond (Nat.blt pc 45) (cond (Nat.beq pc 44) (some (.iconst 1, 45, 0)) none) (cond (Nat.beq pc 45) (some (.putfield 67, 48, 0)) none)) (cond (Nat.blt pc 49) (cond (Nat.beq pc 48) (some (.aload_n 0, 49, 0)) none) (cond (Nat.beq pc 49) (some (.getfield 26, 52, 0)) none))) (cond (Nat.blt pc 54) (cond (Nat.blt pc 53) (cond (Nat.beq pc 52) (some (.iconst 0, 53, 0)) none) (cond (Nat.beq pc 53) (some (.iconst 1, 54, 0)) none)) (cond (Nat.blt pc 55) (cond (Nat.beq pc 54) (some (.iastore, 55, 0)) none) (cond (Nat.blt pc 56) (cond (Nat.beq pc 55) (some (.aload_n 0, 56, 0)) none) (cond (Nat.beq pc 56) (some (.getfield 29, 59, 0)) none))))))) (cond (Nat.blt pc 82) (cond (Nat.blt pc 69) (cond (Nat.blt pc 63) (cond (Nat.blt pc 61) (cond (Nat.blt pc 60) (cond (Nat.beq pc 59) (some (.iconst 0, 60, 0)) none) (cond (Nat.beq pc 60) (some (.iload_n 1, 61, 0)) none)) (cond (Nat.blt pc 62) (cond (Nat.beq pc 61) (some (.iastore, 62, 0)) none) (cond (Nat.beq pc 62) (some (.aload_n 0, 63, 0)) none))) (cond (Nat.blt pc 67) (cond (Nat.blt pc 66) (cond (Nat.beq pc 63) (some (.getfield 32, 66, 0)) none) (cond (Nat.beq pc 66) (some (.iconst 0, 67, 0)) none)) (cond (Nat.blt pc 68) (cond (Nat.beq pc 67) (some (.iload_n 2, 68, 0)) none) (cond (Nat.beq pc 68) (some (.iastore, 69, 0)) none)))) (cond (Nat.blt pc 75) (cond (Nat.blt pc 71) (cond (Nat.blt pc 70) (cond (Nat.beq pc 69) (some (.aload_n 0, 70, 0)) none) (cond (Nat.beq pc 70) (some (.iconst 0, 71, 0)) none)) (cond (Nat.blt pc 74) (cond (Nat.beq pc 71) (some (.invokevirtual 79, 74, 0)) none) (cond (Nat.beq pc 74) (some (.iconst 0, 75, 0)) none))) (cond (Nat.blt pc 77) (cond (Nat.blt pc 76) (cond (Nat.beq pc 75) (some (.istore_n 3, 76, 0)) none) (cond (Nat.beq pc 76) (some (.iload_n 3, 77, 0)) none)) (cond (Nat.blt pc 79) (cond (Nat.beq pc 77) (some (.bipush 24, 79, 0)) none) (cond (Nat.beq pc 79) (some (.if_icmp .ge 29, 82, 108)) none))))) (cond (Nat.blt pc 94) (cond (Nat.blt pc 88) (cond (Nat.blt pc 86) (cond (Nat.blt pc 83) (cond (Nat.beq pc 82) (some (.aload_n 0, 83, 0)) none) (cond (Nat.beq pc 83) (some (.getfield 13, 86, 0)) none)) (cond (Nat.blt pc 87) (cond (Nat.beq pc 86) (some (.iload_n 3, 87, 0)) none) (cond (Nat.beq pc 87) (some (.iload_n 3, 88, 0)) none))) (cond (Nat.blt pc 92) (cond (Nat.blt pc 89) (cond (Nat.beq pc 88) (some (.iload_n 2, 89, 0)) none) (cond (Nat.beq pc 89) (some (.if_icmp .ge 11, 92, 100)) none)) (cond (Nat.blt pc 93) (cond (Nat.beq pc 92) (some (.iconst 1, 93, 0)) none) (cond (Nat.beq pc 93) (some (.iload_n 1, 94, 0)) none)))) (cond (Nat.blt pc 100) (cond (Nat.blt pc 96) (cond (Nat.blt pc 95) (cond (Nat.beq pc 94) (some (.ishl, 95, 0)) none) (cond (Nat.beq pc 95) (some (.iconst 1, 96, 0)) none)) (cond (Nat.blt pc 97) (cond (Nat.beq pc 96) (some (.isub, 97, 0)) none) (cond (Nat.beq pc 97) (some (.goto 4, 100, 101)) none))) (cond (Nat.blt pc 102) (cond (Nat.blt pc 101) (cond (Nat.beq pc 100) (some (.iconst 0, 101, 0)) none) (cond (Nat.beq pc 101) (some (.iastore, 102, 0)) none)) (cond (Nat.blt pc 105) (cond (Nat.beq pc 102) (some (.iinc 3 1, 105, 0)) none) (cond (Nat.blt pc 108) (cond (Nat.beq pc 105) (some (.goto (-29), 108, 76)) none) (cond (Nat.beq pc 108) (some (.return_, 109, 0)) none)))))))
def m_M_make : MI := (⟨"TileStudioModel", "make", "(II)V"⟩, prog_10_method_15_code, 4, none, [], zmk 109 tb_M_make)
theorem ok_M_make : zok m_M_make := zok_mk rfl (by decide +kernel)
def tb_M_in : ZT := fun pc => cond (Nat.blt pc 7) (cond (Nat.blt pc 2) (cond (Nat.blt pc 1) (cond (Nat.beq pc 0) (some (.iload_n 0, 1, 0)) none) (cond (Nat.beq pc 1) (some (.iload_n 1, 2, 0)) none)) (cond (Nat.blt pc 5) (cond (Nat.beq pc 2) (some (.if_icmp .lt 12, 5, 14)) none) (cond (Nat.blt pc 6) (cond (Nat.beq pc 5) (some (.iload_n 0, 6, 0)) none) (cond (Nat.beq pc 6) (some (.iload_n 2, 7, 0)) none)))) (cond (Nat.blt pc 11) (cond (Nat.blt pc 10) (cond (Nat.beq pc 7) (some (.if_icmp .gt 7, 10, 14)) none) (cond (Nat.beq pc 10) (some (.iconst 1, 11, 0)) none)) (cond (Nat.blt pc 14) (cond (Nat.beq pc 11) (some (.goto 4, 14, 15)) none) (cond (Nat.blt pc 15) (cond (Nat.beq pc 14) (some (.iconst 0, 15, 0)) none) (cond (Nat.beq pc 15) (some (.ireturn, 16, 0)) none))))
def m_M_in : MI := (⟨"TileStudioModel", "in", "(III)Z"⟩, prog_10_method_8_code, 3, (Option.some Jvm.ClassFile.FieldType.boolean), [], zmk 16 tb_M_in)
theorem ok_M_in : zok m_M_in := zok_mk rfl (by decide +kernel)
def tb_M_refuse : ZT := fun pc => cond (Nat.blt pc 6) (cond (Nat.blt pc 2) (cond (Nat.blt pc 1) (cond (Nat.beq pc 0) (some (.aload_n 0, 1, 0)) none) (cond (Nat.beq pc 1) (some (.iload_n 1, 2, 0)) none)) (cond (Nat.blt pc 5) (cond (Nat.beq pc 2) (some (.ifCond .eq 7, 5, 9)) none) (cond (Nat.beq pc 5) (some (.iconst 1, 6, 0)) none))) (cond (Nat.blt pc 10) (cond (Nat.blt pc 9) (cond (Nat.beq pc 6) (some (.goto 4, 9, 10)) none) (cond (Nat.beq pc 9) (some (.iconst 0, 10, 0)) none)) (cond (Nat.blt pc 13) (cond (Nat.beq pc 10) (some (.putfield 50, 13, 0)) none) (cond (Nat.blt pc 14) (cond (Nat.beq pc 13) (some (.iload_n 1, 14, 0)) none) (cond (Nat.beq pc 14) (some (.ireturn, 15, 0)) none))))
def m_M_refuse : MI := (⟨"TileStudioModel", "refuse", "(Z)Z"⟩, prog_10_method_12_code, 2, (Option.some Jvm.ClassFile.FieldType.boolean), [], zmk 15 tb_M_refuse)
theorem ok_M_refuse : zok m_M_refuse := zok_mk rfl (by decide +kernel)
def tb_M_freshLayer : ZT := fun pc => cond (Nat.blt pc 46) (cond (Nat.blt pc 25) (cond (Nat.blt pc 10) (cond (Nat.blt pc 3) (cond (Nat.blt pc 1) (cond (Nat.beq pc 0) (some (.iconst 0, 1, 0)) none) (cond (Nat.blt pc 2) (cond (Nat.beq pc 1) (some (.istore_n 2, 2, 0)) none) (cond (Nat.beq pc 2) (some (.iload_n 2, 3, 0)) none))) (cond (Nat.blt pc 6) (cond (Nat.beq pc 3) (some (.sipush 576, 6, 0)) none) (cond (Nat.blt pc 9) (cond (Nat.beq pc 6) (some (.if_icmp .ge 31, 9, 37)) none) (cond (Nat.beq pc 9) (some (.aload_n 0, 10, 0)) none)))) (cond (Nat.blt pc 17) (cond (Nat.blt pc 13) (cond (Nat.beq pc 10) (some (.getfield 7, 13, 0)) none) (cond (Nat.blt pc 16) (cond (Nat.beq pc 13) (some (.sipush 1728, 16, 0)) none) (cond (Nat.beq pc 16) (some (.aload_n 0, 17, 0)) none))) (cond (Nat.blt pc 21) (cond (Nat.blt pc 20) (cond (Nat.beq pc 17) (some (.getfield 58, 20, 0)) none) (cond (Nat.beq pc 20) (some (.imul, 21, 0)) none)) (cond (Nat.blt pc 24) (cond (Nat.beq pc 21) (some (.sipush 576, 24, 0)) none) (cond (Nat.beq pc 24) (some (.iload_n 1, 25, 0)) none))))) (cond (Nat.blt pc 31) (cond (Nat.blt pc 28) (cond (Nat.blt pc 26) (cond (Nat.beq pc 25) (some (.imul, 26, 0)) none) (cond (Nat.blt pc 27) (cond (Nat.beq pc 26) (some (.iadd, 27, 0)) none) (cond (Nat.beq pc 27) (some (.iload_n 2, 28, 0)) none))) (cond (Nat.blt pc 29) (cond (Nat.beq pc 28) (some (.iadd, 29, 0)) none) (cond (Nat.blt pc 30) (cond (Nat.beq pc 29) (some (.iconst 0, 30, 0)) none) (cond (Nat.beq pc 30) (some (.iastore, 31, 0)) none)))) (cond (Nat.blt pc 38) (cond (Nat.blt pc 34) (cond (Nat.beq pc 31) (some (.iinc 2 1, 34, 0)) none) (cond (Nat.blt pc 37) (cond (Nat.beq pc 34) (some (.goto (-32), 37, 2)) none) (cond (Nat.beq pc 37) (some (.aload_n 0, 38, 0)) none))) (cond (Nat.blt pc 42) (cond (Nat.blt pc 41) (cond (Nat.beq pc 38) (some (.getfield 16, 41, 0)) none) (cond (Nat.beq pc 41) (some (.iconst 3, 42, 0)) none)) (cond (Nat.blt pc 43) (cond (Nat.beq pc 42) (some (.aload_n 0, 43, 0)) none) (cond (Nat.beq pc 43) (some (.getfield 58, 46, 0)) none)))))) (cond (Nat.blt pc 63) (cond (Nat.blt pc 52) (cond (Nat.blt pc 49) (cond (Nat.blt pc 47) (cond (Nat.beq pc 46) (some (.imul, 47, 0)) none) (cond (Nat.blt pc 48) (cond (Nat.beq pc 47) (some (.iload_n 1, 48, 0)) none) (cond (Nat.beq pc 48) (some (.iadd, 49, 0)) none))) (cond (Nat.blt pc 50) (cond (Nat.beq pc 49) (some (.iconst 0, 50, 0)) none) (cond (Nat.blt pc 51) (cond (Nat.beq pc 50) (some (.iastore, 51, 0)) none) (cond (Nat.beq pc 51) (some (.aload_n 0, 52, 0)) none)))) (cond (Nat.blt pc 57) (cond (Nat.blt pc 55) (cond (Nat.beq pc 52) (some (.getfield 19, 55, 0)) none) (cond (Nat.blt pc 56) (cond (Nat.beq pc 55) (some (.iconst 3, 56, 0)) none) (cond (Nat.beq pc 56) (some (.aload_n 0, 57, 0)) none))) (cond (Nat.blt pc 61) (cond (Nat.blt pc 60) (cond (Nat.beq pc 57) (some (.getfield 58, 60, 0)) none) (cond (Nat.beq pc 60) (some (.imul, 61, 0)) none)) (cond (Nat.blt pc 62) (cond (Nat.beq pc 61) (some (.iload_n 1, 62, 0)) none) (cond (Nat.beq pc 62) (some (.iadd, 63, 0)) none))))) (cond (Nat.blt pc 73) (cond (Nat.blt pc 68) (cond (Nat.blt pc 66) (cond (Nat.beq pc 63) (some (.sipush 255, 66, 0)) none) (cond (Nat.blt pc 67) (cond (Nat.beq pc 66) (some (.iastore, 67, 0)) none) (cond (Nat.beq pc 67) (some (.aload_n 0, 68, 0)) none))) (cond (Nat.blt pc 71) (cond (Nat.beq pc 68) (some (.getfield 22, 71, 0)) none) (cond (Nat.blt pc 72) (cond (Nat.beq pc 71) (some (.iconst 3, 72, 0)) none) (cond (Nat.beq pc 72) (some (.aload_n 0, 73, 0)) none)))) (cond (Nat.blt pc 78) (cond (Nat.blt pc 76) (cond (Nat.beq pc 73) (some (.getfield 58, 76, 0)) none) (cond (Nat.blt pc 77) (cond (Nat.beq pc 76) (some (.imul, 77, 0)) none) (cond (Nat.beq pc 77) (some (.iload_n 1, 78, 0)) none))) (cond (Nat.blt pc 80) (cond (Nat.blt pc 79) (cond (Nat.beq pc 78) (some (.iadd, 79, 0)) none) (cond (Nat.beq pc 79) (some (.iconst 1, 80, 0)) none)) (cond (Nat.blt pc 81) (cond (Nat.beq pc 80) (some (.bastore, 81, 0)) none) (cond (Nat.beq pc 81) (some (.return_, 82, 0)) none))))))
def m_M_freshLayer : MI := (⟨"TileStudioModel", "freshLayer", "(I)V"⟩, prog_10_method_13_code, 3, none, [], zmk 82 tb_M_freshLayer)
theorem ok_M_freshLayer : zok m_M_freshLayer := zok_mk rfl (by decide +kernel)
def tb_M_layer : ZT := fun pc => cond (Nat.blt pc 59) (cond (Nat.blt pc 29) (cond (Nat.blt pc 11) (cond (Nat.blt pc 5) (cond (Nat.blt pc 1) (cond (Nat.beq pc 0) (some (.aload_n 0, 1, 0)) none) (cond (Nat.blt pc 2) (cond (Nat.beq pc 1) (some (.aload_n 0, 2, 0)) none) (cond (Nat.beq pc 2) (some (.getfield 67, 5, 0)) none))) (cond (Nat.blt pc 9) (cond (Nat.blt pc 8) (cond (Nat.beq pc 5) (some (.ifCond .eq 20, 8, 25)) none) (cond (Nat.beq pc 8) (some (.iload_n 1, 9, 0)) none)) (cond (Nat.blt pc 10) (cond (Nat.beq pc 9) (some (.iconst 0, 10, 0)) none) (cond (Nat.beq pc 10) (some (.aload_n 0, 11, 0)) none)))) (cond (Nat.blt pc 19) (cond (Nat.blt pc 15) (cond (Nat.blt pc 14) (cond (Nat.beq pc 11) (some (.getfield 26, 14, 0)) none) (cond (Nat.beq pc 14) (some (.aload_n 0, 15, 0)) none)) (cond (Nat.blt pc 18) (cond (Nat.beq pc 15) (some (.getfield 58, 18, 0)) none) (cond (Nat.beq pc 18) (some (.iaload, 19, 0)) none))) (cond (Nat.blt pc 25) (cond (Nat.blt pc 22) (cond (Nat.beq pc 19) (some (.invokestatic 71, 22, 0)) none) (cond (Nat.beq pc 22) (some (.ifCond .ne 7, 25, 29)) none)) (cond (Nat.blt pc 26) (cond (Nat.beq pc 25) (some (.iconst 1, 26, 0)) none) (cond (Nat.beq pc 26) (some (.goto 21, 29, 47)) none))))) (cond (Nat.blt pc 43) (cond (Nat.blt pc 37) (cond (Nat.blt pc 33) (cond (Nat.blt pc 30) (cond (Nat.beq pc 29) (some (.aload_n 0, 30, 0)) none) (cond (Nat.beq pc 30) (some (.getfield 26, 33, 0)) none)) (cond (Nat.blt pc 34) (cond (Nat.beq pc 33) (some (.aload_n 0, 34, 0)) none) (cond (Nat.beq pc 34) (some (.getfield 58, 37, 0)) none))) (cond (Nat.blt pc 39) (cond (Nat.blt pc 38) (cond (Nat.beq pc 37) (some (.iaload, 38, 0)) none) (cond (Nat.beq pc 38) (some (.iconst 3, 39, 0)) none)) (cond (Nat.blt pc 42) (cond (Nat.beq pc 39) (some (.if_icmp .ne 7, 42, 46)) none) (cond (Nat.beq pc 42) (some (.iconst 2, 43, 0)) none)))) (cond (Nat.blt pc 51) (cond (Nat.blt pc 47) (cond (Nat.blt pc 46) (cond (Nat.beq pc 43) (some (.goto 4, 46, 47)) none) (cond (Nat.beq pc 46) (some (.iconst 0, 47, 0)) none)) (cond (Nat.blt pc 50) (cond (Nat.beq pc 47) (some (.putfield 50, 50, 0)) none) (cond (Nat.beq pc 50) (some (.aload_n 0, 51, 0)) none))) (cond (Nat.blt pc 57) (cond (Nat.blt pc 54) (cond (Nat.beq pc 51) (some (.getfield 50, 54, 0)) none) (cond (Nat.beq pc 54) (some (.ifCond .le 4, 57, 58)) none)) (cond (Nat.blt pc 58) (cond (Nat.beq pc 57) (some (.return_, 58, 0)) none) (cond (Nat.beq pc 58) (some (.aload_n 0, 59, 0)) none)))))) (cond (Nat.blt pc 82) (cond (Nat.blt pc 72) (cond (Nat.blt pc 66) (cond (Nat.blt pc 62) (cond (Nat.beq pc 59) (some (.invokevirtual 83, 62, 0)) none) (cond (Nat.blt pc 63) (cond (Nat.beq pc 62) (some (.aload_n 0, 63, 0)) none) (cond (Nat.beq pc 63) (some (.getfield 26, 66, 0)) none))) (cond (Nat.blt pc 70) (cond (Nat.blt pc 67) (cond (Nat.beq pc 66) (some (.aload_n 0, 67, 0)) none) (cond (Nat.beq pc 67) (some (.getfield 58, 70, 0)) none)) (cond (Nat.blt pc 71) (cond (Nat.beq pc 70) (some (.iaload, 71, 0)) none) (cond (Nat.beq pc 71) (some (.istore_n 2, 72, 0)) none)))) (cond (Nat.blt pc 78) (cond (Nat.blt pc 74) (cond (Nat.blt pc 73) (cond (Nat.beq pc 72) (some (.iload_n 2, 73, 0)) none) (cond (Nat.beq pc 73) (some (.iload_n 1, 74, 0)) none)) (cond (Nat.blt pc 77) (cond (Nat.beq pc 74) (some (.if_icmp .le 17, 77, 91)) none) (cond (Nat.beq pc 77) (some (.aload_n 0, 78, 0)) none))) (cond (Nat.blt pc 80) (cond (Nat.blt pc 79) (cond (Nat.beq pc 78) (some (.iload_n 2, 79, 0)) none) (cond (Nat.beq pc 79) (some (.iload_n 2, 80, 0)) none)) (cond (Nat.blt pc 81) (cond (Nat.beq pc 80) (some (.iconst 1, 81, 0)) none) (cond (Nat.beq pc 81) (some (.isub, 82, 0)) none))))) (cond (Nat.blt pc 100) (cond (Nat.blt pc 92) (cond (Nat.blt pc 88) (cond (Nat.blt pc 85) (cond (Nat.beq pc 82) (some (.invokevirtual 86, 85, 0)) none) (cond (Nat.beq pc 85) (some (.iinc 2 (-1), 88, 0)) none)) (cond (Nat.blt pc 91) (cond (Nat.beq pc 88) (some (.goto (-16), 91, 72)) none) (cond (Nat.beq pc 91) (some (.aload_n 0, 92, 0)) none))) (cond (Nat.blt pc 96) (cond (Nat.blt pc 93) (cond (Nat.beq pc 92) (some (.iload_n 1, 93, 0)) none) (cond (Nat.beq pc 93) (some (.invokevirtual 79, 96, 0)) none)) (cond (Nat.blt pc 97) (cond (Nat.beq pc 96) (some (.aload_n 0, 97, 0)) none) (cond (Nat.beq pc 97) (some (.getfield 26, 100, 0)) none)))) (cond (Nat.blt pc 106) (cond (Nat.blt pc 104) (cond (Nat.blt pc 101) (cond (Nat.beq pc 100) (some (.aload_n 0, 101, 0)) none) (cond (Nat.beq pc 101) (some (.getfield 58, 104, 0)) none)) (cond (Nat.blt pc 105) (cond (Nat.beq pc 104) (some (.dup2, 105, 0)) none) (cond (Nat.beq pc 105) (some (.iaload, 106, 0)) none))) (cond (Nat.blt pc 108) (cond (Nat.blt pc 107) (cond (Nat.beq pc 106) (some (.iconst 1, 107, 0)) none) (cond (Nat.beq pc 107) (some (.iadd, 108, 0)) none)) (cond (Nat.blt pc 109) (cond (Nat.beq pc 108) (some (.iastore, 109, 0)) none) (cond (Nat.beq pc 109) (some (.return_, 110, 0)) none))))))
def m_M_layer : MI := (⟨"TileStudioModel", "layer", "(I)V"⟩, prog_10_method_16_code, 3, none, [], zmk 110 tb_M_layer)
theorem ok_M_layer : zok m_M_layer := zok_mk rfl (by decide +kernel)
def tb_M_step : ZT := fun pc => cond (Nat.blt pc 37) (cond (Nat.blt pc 18) (cond (Nat.blt pc 10) (cond (Nat.blt pc 4) (cond (Nat.blt pc 1) (cond (Nat.beq pc 0) (some (.aload_n 0, 1, 0)) none) (cond (Nat.beq pc 1) (some (.getfield 58, 4, 0)) none)) (cond (Nat.blt pc 6) (cond (Nat.beq pc 4) (some (.bipush 6, 6, 0)) none) (cond (Nat.blt pc 9) (cond (Nat.beq pc 6) (some (.if_icmp .ne 35, 9, 41)) none) (cond (Nat.beq pc 9) (some (.iconst 0, 10, 0)) none)))) (cond (Nat.blt pc 12) (cond (Nat.blt pc 11) (cond (Nat.beq pc 10) (some (.istore_n 1, 11, 0)) none) (cond (Nat.beq pc 11) (some (.iload_n 1, 12, 0)) none)) (cond (Nat.blt pc 14) (cond (Nat.beq pc 12) (some (.bipush 6, 14, 0)) none) (cond (Nat.blt pc 17) (cond (Nat.beq pc 14) (some (.if_icmp .ge 17, 17, 31)) none) (cond (Nat.beq pc 17) (some (.aload_n 0, 18, 0)) none))))) (cond (Nat.blt pc 25) (cond (Nat.blt pc 20) (cond (Nat.blt pc 19) (cond (Nat.beq pc 18) (some (.iload_n 1, 19, 0)) none) (cond (Nat.beq pc 19) (some (.iload_n 1, 20, 0)) none)) (cond (Nat.blt pc 21) (cond (Nat.beq pc 20) (some (.iconst 1, 21, 0)) none) (cond (Nat.blt pc 22) (cond (Nat.beq pc 21) (some (.iadd, 22, 0)) none) (cond (Nat.beq pc 22) (some (.invokevirtual 61, 25, 0)) none)))) (cond (Nat.blt pc 32) (cond (Nat.blt pc 28) (cond (Nat.beq pc 25) (some (.iinc 1 1, 28, 0)) none) (cond (Nat.blt pc 31) (cond (Nat.beq pc 28) (some (.goto (-17), 31, 11)) none) (cond (Nat.beq pc 31) (some (.aload_n 0, 32, 0)) none))) (cond (Nat.blt pc 33) (cond (Nat.beq pc 32) (some (.dup, 33, 0)) none) (cond (Nat.blt pc 36) (cond (Nat.beq pc 33) (some (.getfield 58, 36, 0)) none) (cond (Nat.beq pc 36) (some (.iconst 1, 37, 0)) none)))))) (cond (Nat.blt pc 55) (cond (Nat.blt pc 46) (cond (Nat.blt pc 41) (cond (Nat.blt pc 38) (cond (Nat.beq pc 37) (some (.isub, 38, 0)) none) (cond (Nat.beq pc 38) (some (.putfield 58, 41, 0)) none)) (cond (Nat.blt pc 42) (cond (Nat.beq pc 41) (some (.aload_n 0, 42, 0)) none) (cond (Nat.blt pc 43) (cond (Nat.beq pc 42) (some (.aload_n 0, 43, 0)) none) (cond (Nat.beq pc 43) (some (.getfield 58, 46, 0)) none)))) (cond (Nat.blt pc 48) (cond (Nat.blt pc 47) (cond (Nat.beq pc 46) (some (.iconst 1, 47, 0)) none) (cond (Nat.beq pc 47) (some (.iadd, 48, 0)) none)) (cond (Nat.blt pc 49) (cond (Nat.beq pc 48) (some (.aload_n 0, 49, 0)) none) (cond (Nat.blt pc 52) (cond (Nat.beq pc 49) (some (.getfield 58, 52, 0)) none) (cond (Nat.beq pc 52) (some (.invokevirtual 61, 55, 0)) none))))) (cond (Nat.blt pc 62) (cond (Nat.blt pc 57) (cond (Nat.blt pc 56) (cond (Nat.beq pc 55) (some (.aload_n 0, 56, 0)) none) (cond (Nat.beq pc 56) (some (.dup, 57, 0)) none)) (cond (Nat.blt pc 60) (cond (Nat.beq pc 57) (some (.getfield 58, 60, 0)) none) (cond (Nat.blt pc 61) (cond (Nat.beq pc 60) (some (.iconst 1, 61, 0)) none) (cond (Nat.beq pc 61) (some (.iadd, 62, 0)) none)))) (cond (Nat.blt pc 67) (cond (Nat.blt pc 65) (cond (Nat.beq pc 62) (some (.putfield 58, 65, 0)) none) (cond (Nat.blt pc 66) (cond (Nat.beq pc 65) (some (.aload_n 0, 66, 0)) none) (cond (Nat.beq pc 66) (some (.aload_n 0, 67, 0)) none))) (cond (Nat.blt pc 70) (cond (Nat.beq pc 67) (some (.getfield 58, 70, 0)) none) (cond (Nat.blt pc 73) (cond (Nat.beq pc 70) (some (.putfield 64, 73, 0)) none) (cond (Nat.beq pc 73) (some (.return_, 74, 0)) none))))))
def m_M_step : MI := (⟨"TileStudioModel", "step", "()V"⟩, prog_10_method_5_code, 2, none, [], zmk 74 tb_M_step)
theorem ok_M_step : zok m_M_step := zok_mk rfl (by decide +kernel)
def tb_M_copyPicture : ZT := fun pc => cond (Nat.blt pc 72) (cond (Nat.blt pc 36) (cond (Nat.blt pc 19) (cond (Nat.blt pc 9) (cond (Nat.blt pc 2) (cond (Nat.blt pc 1) (cond (Nat.beq pc 0) (some (.iconst 0, 1, 0)) none) (cond (Nat.beq pc 1) (some (.istore_n 3, 2, 0)) none)) (cond (Nat.blt pc 3) (cond (Nat.beq pc 2) (some (.iload_n 3, 3, 0)) none) (cond (Nat.blt pc 6) (cond (Nat.beq pc 3) (some (.sipush 1728, 6, 0)) none) (cond (Nat.beq pc 6) (some (.if_icmp .ge 33, 9, 39)) none)))) (cond (Nat.blt pc 16) (cond (Nat.blt pc 10) (cond (Nat.beq pc 9) (some (.aload_n 0, 10, 0)) none) (cond (Nat.blt pc 13) (cond (Nat.beq pc 10) (some (.getfield 7, 13, 0)) none) (cond (Nat.beq pc 13) (some (.sipush 1728, 16, 0)) none))) (cond (Nat.blt pc 17) (cond (Nat.beq pc 16) (some (.iload_n 1, 17, 0)) none) (cond (Nat.blt pc 18) (cond (Nat.beq pc 17) (some (.imul, 18, 0)) none) (cond (Nat.beq pc 18) (some (.iload_n 3, 19, 0)) none))))) (cond (Nat.blt pc 28) (cond (Nat.blt pc 21) (cond (Nat.blt pc 20) (cond (Nat.beq pc 19) (some (.iadd, 20, 0)) none) (cond (Nat.beq pc 20) (some (.aload_n 0, 21, 0)) none)) (cond (Nat.blt pc 24) (cond (Nat.beq pc 21) (some (.getfield 7, 24, 0)) none) (cond (Nat.blt pc 27) (cond (Nat.beq pc 24) (some (.sipush 1728, 27, 0)) none) (cond (Nat.beq pc 27) (some (.iload_n 2, 28, 0)) none)))) (cond (Nat.blt pc 31) (cond (Nat.blt pc 29) (cond (Nat.beq pc 28) (some (.imul, 29, 0)) none) (cond (Nat.blt pc 30) (cond (Nat.beq pc 29) (some (.iload_n 3, 30, 0)) none) (cond (Nat.beq pc 30) (some (.iadd, 31, 0)) none))) (cond (Nat.blt pc 32) (cond (Nat.beq pc 31) (some (.iaload, 32, 0)) none) (cond (Nat.blt pc 33) (cond (Nat.beq pc 32) (some (.iastore, 33, 0)) none) (cond (Nat.beq pc 33) (some (.iinc 3 1, 36, 0)) none)))))) (cond (Nat.blt pc 55) (cond (Nat.blt pc 44) (cond (Nat.blt pc 40) (cond (Nat.blt pc 39) (cond (Nat.beq pc 36) (some (.goto (-34), 39, 2)) none) (cond (Nat.beq pc 39) (some (.iconst 0, 40, 0)) none)) (cond (Nat.blt pc 41) (cond (Nat.beq pc 40) (some (.istore_n 3, 41, 0)) none) (cond (Nat.blt pc 42) (cond (Nat.beq pc 41) (some (.iload_n 3, 42, 0)) none) (cond (Nat.beq pc 42) (some (.bipush 24, 44, 0)) none)))) (cond (Nat.blt pc 51) (cond (Nat.blt pc 47) (cond (Nat.beq pc 44) (some (.if_icmp .ge 31, 47, 75)) none) (cond (Nat.blt pc 48) (cond (Nat.beq pc 47) (some (.aload_n 0, 48, 0)) none) (cond (Nat.beq pc 48) (some (.getfield 13, 51, 0)) none))) (cond (Nat.blt pc 53) (cond (Nat.beq pc 51) (some (.bipush 24, 53, 0)) none) (cond (Nat.blt pc 54) (cond (Nat.beq pc 53) (some (.iload_n 1, 54, 0)) none) (cond (Nat.beq pc 54) (some (.imul, 55, 0)) none))))) (cond (Nat.blt pc 64) (cond (Nat.blt pc 58) (cond (Nat.blt pc 56) (cond (Nat.beq pc 55) (some (.iload_n 3, 56, 0)) none) (cond (Nat.blt pc 57) (cond (Nat.beq pc 56) (some (.iadd, 57, 0)) none) (cond (Nat.beq pc 57) (some (.aload_n 0, 58, 0)) none))) (cond (Nat.blt pc 61) (cond (Nat.beq pc 58) (some (.getfield 13, 61, 0)) none) (cond (Nat.blt pc 63) (cond (Nat.beq pc 61) (some (.bipush 24, 63, 0)) none) (cond (Nat.beq pc 63) (some (.iload_n 2, 64, 0)) none)))) (cond (Nat.blt pc 67) (cond (Nat.blt pc 65) (cond (Nat.beq pc 64) (some (.imul, 65, 0)) none) (cond (Nat.blt pc 66) (cond (Nat.beq pc 65) (some (.iload_n 3, 66, 0)) none) (cond (Nat.beq pc 66) (some (.iadd, 67, 0)) none))) (cond (Nat.blt pc 68) (cond (Nat.beq pc 67) (some (.iaload, 68, 0)) none) (cond (Nat.blt pc 69) (cond (Nat.beq pc 68) (some (.iastore, 69, 0)) none) (cond (Nat.beq pc 69) (some (.iinc 3 1, 72, 0)) none))))))) (cond (Nat.blt pc 106) (cond (Nat.blt pc 87) (cond (Nat.blt pc 79) (cond (Nat.blt pc 76) (cond (Nat.blt pc 75) (cond (Nat.beq pc 72) (some (.goto (-31), 75, 41)) none) (cond (Nat.beq pc 75) (some (.iconst 0, 76, 0)) none)) (cond (Nat.blt pc 77) (cond (Nat.beq pc 76) (some (.istore_n 3, 77, 0)) none) (cond (Nat.blt pc 78) (cond (Nat.beq pc 77) (some (.iload_n 3, 78, 0)) none) (cond (Nat.beq pc 78) (some (.iconst 3, 79, 0)) none)))) (cond (Nat.blt pc 84) (cond (Nat.blt pc 82) (cond (Nat.beq pc 79) (some (.if_icmp .ge 23, 82, 102)) none) (cond (Nat.blt pc 83) (cond (Nat.beq pc 82) (some (.aload_n 0, 83, 0)) none) (cond (Nat.beq pc 83) (some (.iconst 3, 84, 0)) none))) (cond (Nat.blt pc 85) (cond (Nat.beq pc 84) (some (.iload_n 1, 85, 0)) none) (cond (Nat.blt pc 86) (cond (Nat.beq pc 85) (some (.imul, 86, 0)) none) (cond (Nat.beq pc 86) (some (.iload_n 3, 87, 0)) none))))) (cond (Nat.blt pc 92) (cond (Nat.blt pc 89) (cond (Nat.blt pc 88) (cond (Nat.beq pc 87) (some (.iadd, 88, 0)) none) (cond (Nat.beq pc 88) (some (.iconst 3, 89, 0)) none)) (cond (Nat.blt pc 90) (cond (Nat.beq pc 89) (some (.iload_n 2, 90, 0)) none) (cond (Nat.blt pc 91) (cond (Nat.beq pc 90) (some (.imul, 91, 0)) none) (cond (Nat.beq pc 91) (some (.iload_n 3, 92, 0)) none)))) (cond (Nat.blt pc 99) (cond (Nat.blt pc 93) (cond (Nat.beq pc 92) (some (.iadd, 93, 0)) none) (cond (Nat.blt pc 96) (cond (Nat.beq pc 93) (some (.invokevirtual 54, 96, 0)) none) (cond (Nat.beq pc 96) (some (.iinc 3 1, 99, 0)) none))) (cond (Nat.blt pc 102) (cond (Nat.beq pc 99) (some (.goto (-22), 102, 77)) none) (cond (Nat.blt pc 103) (cond (Nat.beq pc 102) (some (.aload_n 0, 103, 0)) none) (cond (Nat.beq pc 103) (some (.getfield 26, 106, 0)) none)))))) (cond (Nat.blt pc 123) (cond (Nat.blt pc 113) (cond (Nat.blt pc 108) (cond (Nat.blt pc 107) (cond (Nat.beq pc 106) (some (.iload_n 1, 107, 0)) none) (cond (Nat.beq pc 107) (some (.aload_n 0, 108, 0)) none)) (cond (Nat.blt pc 111) (cond (Nat.beq pc 108) (some (.getfield 26, 111, 0)) none) (cond (Nat.blt pc 112) (cond (Nat.beq pc 111) (some (.iload_n 2, 112, 0)) none) (cond (Nat.beq pc 112) (some (.iaload, 113, 0)) none)))) (cond (Nat.blt pc 118) (cond (Nat.blt pc 114) (cond (Nat.beq pc 113) (some (.iastore, 114, 0)) none) (cond (Nat.blt pc 115) (cond (Nat.beq pc 114) (some (.aload_n 0, 115, 0)) none) (cond (Nat.beq pc 115) (some (.getfield 29, 118, 0)) none))) (cond (Nat.blt pc 119) (cond (Nat.beq pc 118) (some (.iload_n 1, 119, 0)) none) (cond (Nat.blt pc 120) (cond (Nat.beq pc 119) (some (.aload_n 0, 120, 0)) none) (cond (Nat.beq pc 120) (some (.getfield 29, 123, 0)) none))))) (cond (Nat.blt pc 131) (cond (Nat.blt pc 126) (cond (Nat.blt pc 124) (cond (Nat.beq pc 123) (some (.iload_n 2, 124, 0)) none) (cond (Nat.blt pc 125) (cond (Nat.beq pc 124) (some (.iaload, 125, 0)) none) (cond (Nat.beq pc 125) (some (.iastore, 126, 0)) none))) (cond (Nat.blt pc 127) (cond (Nat.beq pc 126) (some (.aload_n 0, 127, 0)) none) (cond (Nat.blt pc 130) (cond (Nat.beq pc 127) (some (.getfield 32, 130, 0)) none) (cond (Nat.beq pc 130) (some (.iload_n 1, 131, 0)) none)))) (cond (Nat.blt pc 136) (cond (Nat.blt pc 132) (cond (Nat.beq pc 131) (some (.aload_n 0, 132, 0)) none) (cond (Nat.blt pc 135) (cond (Nat.beq pc 132) (some (.getfield 32, 135, 0)) none) (cond (Nat.beq pc 135) (some (.iload_n 2, 136, 0)) none))) (cond (Nat.blt pc 137) (cond (Nat.beq pc 136) (some (.iaload, 137, 0)) none) (cond (Nat.blt pc 138) (cond (Nat.beq pc 137) (some (.iastore, 138, 0)) none) (cond (Nat.beq pc 138) (some (.return_, 139, 0)) none)))))))
def m_M_copyPicture : MI := (⟨"TileStudioModel", "copyPicture", "(II)V"⟩, prog_10_method_3_code, 4, none, [], zmk 139 tb_M_copyPicture)
theorem ok_M_copyPicture : zok m_M_copyPicture := zok_mk rfl (by decide +kernel)
def tb_M_copyLayerWays : ZT := fun pc => cond (Nat.blt pc 18) (cond (Nat.blt pc 10) (cond (Nat.blt pc 5) (cond (Nat.blt pc 1) (cond (Nat.beq pc 0) (some (.aload_n 0, 1, 0)) none) (cond (Nat.blt pc 4) (cond (Nat.beq pc 1) (some (.getfield 16, 4, 0)) none) (cond (Nat.beq pc 4) (some (.iload_n 1, 5, 0)) none))) (cond (Nat.blt pc 6) (cond (Nat.beq pc 5) (some (.aload_n 0, 6, 0)) none) (cond (Nat.blt pc 9) (cond (Nat.beq pc 6) (some (.getfield 16, 9, 0)) none) (cond (Nat.beq pc 9) (some (.iload_n 2, 10, 0)) none)))) (cond (Nat.blt pc 13) (cond (Nat.blt pc 11) (cond (Nat.beq pc 10) (some (.iaload, 11, 0)) none) (cond (Nat.blt pc 12) (cond (Nat.beq pc 11) (some (.iastore, 12, 0)) none) (cond (Nat.beq pc 12) (some (.aload_n 0, 13, 0)) none))) (cond (Nat.blt pc 16) (cond (Nat.beq pc 13) (some (.getfield 19, 16, 0)) none) (cond (Nat.blt pc 17) (cond (Nat.beq pc 16) (some (.iload_n 1, 17, 0)) none) (cond (Nat.beq pc 17) (some (.aload_n 0, 18, 0)) none))))) (cond (Nat.blt pc 28) (cond (Nat.blt pc 23) (cond (Nat.blt pc 21) (cond (Nat.beq pc 18) (some (.getfield 19, 21, 0)) none) (cond (Nat.blt pc 22) (cond (Nat.beq pc 21) (some (.iload_n 2, 22, 0)) none) (cond (Nat.beq pc 22) (some (.iaload, 23, 0)) none))) (cond (Nat.blt pc 24) (cond (Nat.beq pc 23) (some (.iastore, 24, 0)) none) (cond (Nat.blt pc 25) (cond (Nat.beq pc 24) (some (.aload_n 0, 25, 0)) none) (cond (Nat.beq pc 25) (some (.getfield 22, 28, 0)) none)))) (cond (Nat.blt pc 33) (cond (Nat.blt pc 29) (cond (Nat.beq pc 28) (some (.iload_n 1, 29, 0)) none) (cond (Nat.blt pc 30) (cond (Nat.beq pc 29) (some (.aload_n 0, 30, 0)) none) (cond (Nat.beq pc 30) (some (.getfield 22, 33, 0)) none))) (cond (Nat.blt pc 35) (cond (Nat.blt pc 34) (cond (Nat.beq pc 33) (some (.iload_n 2, 34, 0)) none) (cond (Nat.beq pc 34) (some (.baload, 35, 0)) none)) (cond (Nat.blt pc 36) (cond (Nat.beq pc 35) (some (.bastore, 36, 0)) none) (cond (Nat.beq pc 36) (some (.return_, 37, 0)) none)))))
def m_M_copyLayerWays : MI := (⟨"TileStudioModel", "copyLayerWays", "(II)V"⟩, prog_10_method_4_code, 3, none, [], zmk 37 tb_M_copyLayerWays)
theorem ok_M_copyLayerWays : zok m_M_copyLayerWays := zok_mk rfl (by decide +kernel)
def tb_M_layerTo : ZT := fun pc => cond (Nat.blt pc 44) (cond (Nat.blt pc 24) (cond (Nat.blt pc 10) (cond (Nat.blt pc 3) (cond (Nat.blt pc 1) (cond (Nat.beq pc 0) (some (.iconst 0, 1, 0)) none) (cond (Nat.blt pc 2) (cond (Nat.beq pc 1) (some (.istore_n 3, 2, 0)) none) (cond (Nat.beq pc 2) (some (.iload_n 3, 3, 0)) none))) (cond (Nat.blt pc 6) (cond (Nat.beq pc 3) (some (.sipush 576, 6, 0)) none) (cond (Nat.blt pc 9) (cond (Nat.beq pc 6) (some (.if_icmp .ge 51, 9, 57)) none) (cond (Nat.beq pc 9) (some (.aload_n 0, 10, 0)) none)))) (cond (Nat.blt pc 17) (cond (Nat.blt pc 13) (cond (Nat.beq pc 10) (some (.getfield 7, 13, 0)) none) (cond (Nat.blt pc 16) (cond (Nat.beq pc 13) (some (.sipush 1728, 16, 0)) none) (cond (Nat.beq pc 16) (some (.aload_n 0, 17, 0)) none))) (cond (Nat.blt pc 20) (cond (Nat.beq pc 17) (some (.getfield 58, 20, 0)) none) (cond (Nat.blt pc 21) (cond (Nat.beq pc 20) (some (.imul, 21, 0)) none) (cond (Nat.beq pc 21) (some (.sipush 576, 24, 0)) none))))) (cond (Nat.blt pc 30) (cond (Nat.blt pc 27) (cond (Nat.blt pc 25) (cond (Nat.beq pc 24) (some (.iload_n 1, 25, 0)) none) (cond (Nat.blt pc 26) (cond (Nat.beq pc 25) (some (.imul, 26, 0)) none) (cond (Nat.beq pc 26) (some (.iadd, 27, 0)) none))) (cond (Nat.blt pc 28) (cond (Nat.beq pc 27) (some (.iload_n 3, 28, 0)) none) (cond (Nat.blt pc 29) (cond (Nat.beq pc 28) (some (.iadd, 29, 0)) none) (cond (Nat.beq pc 29) (some (.aload_n 0, 30, 0)) none)))) (cond (Nat.blt pc 37) (cond (Nat.blt pc 33) (cond (Nat.beq pc 30) (some (.getfield 7, 33, 0)) none) (cond (Nat.blt pc 36) (cond (Nat.beq pc 33) (some (.sipush 1728, 36, 0)) none) (cond (Nat.beq pc 36) (some (.aload_n 0, 37, 0)) none))) (cond (Nat.blt pc 40) (cond (Nat.beq pc 37) (some (.getfield 58, 40, 0)) none) (cond (Nat.blt pc 41) (cond (Nat.beq pc 40) (some (.imul, 41, 0)) none) (cond (Nat.beq pc 41) (some (.sipush 576, 44, 0)) none)))))) (cond (Nat.blt pc 60) (cond (Nat.blt pc 50) (cond (Nat.blt pc 47) (cond (Nat.blt pc 45) (cond (Nat.beq pc 44) (some (.iload_n 2, 45, 0)) none) (cond (Nat.blt pc 46) (cond (Nat.beq pc 45) (some (.imul, 46, 0)) none) (cond (Nat.beq pc 46) (some (.iadd, 47, 0)) none))) (cond (Nat.blt pc 48) (cond (Nat.beq pc 47) (some (.iload_n 3, 48, 0)) none) (cond (Nat.blt pc 49) (cond (Nat.beq pc 48) (some (.iadd, 49, 0)) none) (cond (Nat.beq pc 49) (some (.iaload, 50, 0)) none)))) (cond (Nat.blt pc 57) (cond (Nat.blt pc 51) (cond (Nat.beq pc 50) (some (.iastore, 51, 0)) none) (cond (Nat.blt pc 54) (cond (Nat.beq pc 51) (some (.iinc 3 1, 54, 0)) none) (cond (Nat.beq pc 54) (some (.goto (-52), 57, 2)) none))) (cond (Nat.blt pc 58) (cond (Nat.beq pc 57) (some (.aload_n 0, 58, 0)) none) (cond (Nat.blt pc 59) (cond (Nat.beq pc 58) (some (.iconst 3, 59, 0)) none) (cond (Nat.beq pc 59) (some (.aload_n 0, 60, 0)) none))))) (cond (Nat.blt pc 68) (cond (Nat.blt pc 65) (cond (Nat.blt pc 63) (cond (Nat.beq pc 60) (some (.getfield 58, 63, 0)) none) (cond (Nat.blt pc 64) (cond (Nat.beq pc 63) (some (.imul, 64, 0)) none) (cond (Nat.beq pc 64) (some (.iload_n 1, 65, 0)) none))) (cond (Nat.blt pc 66) (cond (Nat.beq pc 65) (some (.iadd, 66, 0)) none) (cond (Nat.blt pc 67) (cond (Nat.beq pc 66) (some (.iconst 3, 67, 0)) none) (cond (Nat.beq pc 67) (some (.aload_n 0, 68, 0)) none)))) (cond (Nat.blt pc 73) (cond (Nat.blt pc 71) (cond (Nat.beq pc 68) (some (.getfield 58, 71, 0)) none) (cond (Nat.blt pc 72) (cond (Nat.beq pc 71) (some (.imul, 72, 0)) none) (cond (Nat.beq pc 72) (some (.iload_n 2, 73, 0)) none))) (cond (Nat.blt pc 74) (cond (Nat.beq pc 73) (some (.iadd, 74, 0)) none) (cond (Nat.blt pc 77) (cond (Nat.beq pc 74) (some (.invokevirtual 54, 77, 0)) none) (cond (Nat.beq pc 77) (some (.return_, 78, 0)) none))))))
def m_M_layerTo : MI := (⟨"TileStudioModel", "layerTo", "(II)V"⟩, prog_10_method_14_code, 4, none, [], zmk 78 tb_M_layerTo)
theorem ok_M_layerTo : zok m_M_layerTo := zok_mk rfl (by decide +kernel)
def tb_M_drop : ZT := fun pc => cond (Nat.blt pc 47) (cond (Nat.blt pc 22) (cond (Nat.blt pc 10) (cond (Nat.blt pc 3) (cond (Nat.blt pc 1) (cond (Nat.beq pc 0) (some (.aload_n 0, 1, 0)) none) (cond (Nat.blt pc 2) (cond (Nat.beq pc 1) (some (.aload_n 0, 2, 0)) none) (cond (Nat.beq pc 2) (some (.iload_n 1, 3, 0)) none))) (cond (Nat.blt pc 6) (cond (Nat.beq pc 3) (some (.invokevirtual 89, 6, 0)) none) (cond (Nat.blt pc 9) (cond (Nat.beq pc 6) (some (.ifCond .ne 7, 9, 13)) none) (cond (Nat.beq pc 9) (some (.iconst 1, 10, 0)) none)))) (cond (Nat.blt pc 17) (cond (Nat.blt pc 13) (cond (Nat.beq pc 10) (some (.goto 21, 13, 31)) none) (cond (Nat.blt pc 14) (cond (Nat.beq pc 13) (some (.aload_n 0, 14, 0)) none) (cond (Nat.beq pc 14) (some (.getfield 26, 17, 0)) none))) (cond (Nat.blt pc 18) (cond (Nat.beq pc 17) (some (.aload_n 0, 18, 0)) none) (cond (Nat.blt pc 21) (cond (Nat.beq pc 18) (some (.getfield 58, 21, 0)) none) (cond (Nat.beq pc 21) (some (.iaload, 22, 0)) none))))) (cond (Nat.blt pc 34) (cond (Nat.blt pc 27) (cond (Nat.blt pc 23) (cond (Nat.beq pc 22) (some (.iconst 1, 23, 0)) none) (cond (Nat.blt pc 26) (cond (Nat.beq pc 23) (some (.if_icmp .ne 7, 26, 30)) none) (cond (Nat.beq pc 26) (some (.iconst 2, 27, 0)) none))) (cond (Nat.blt pc 30) (cond (Nat.beq pc 27) (some (.goto 4, 30, 31)) none) (cond (Nat.blt pc 31) (cond (Nat.beq pc 30) (some (.iconst 0, 31, 0)) none) (cond (Nat.beq pc 31) (some (.putfield 50, 34, 0)) none)))) (cond (Nat.blt pc 41) (cond (Nat.blt pc 35) (cond (Nat.beq pc 34) (some (.aload_n 0, 35, 0)) none) (cond (Nat.blt pc 38) (cond (Nat.beq pc 35) (some (.getfield 50, 38, 0)) none) (cond (Nat.beq pc 38) (some (.ifCond .le 4, 41, 42)) none))) (cond (Nat.blt pc 43) (cond (Nat.blt pc 42) (cond (Nat.beq pc 41) (some (.return_, 42, 0)) none) (cond (Nat.beq pc 42) (some (.aload_n 0, 43, 0)) none)) (cond (Nat.blt pc 46) (cond (Nat.beq pc 43) (some (.invokevirtual 83, 46, 0)) none) (cond (Nat.beq pc 46) (some (.aload_n 0, 47, 0)) none)))))) (cond (Nat.blt pc 66) (cond (Nat.blt pc 57) (cond (Nat.blt pc 54) (cond (Nat.blt pc 50) (cond (Nat.beq pc 47) (some (.getfield 26, 50, 0)) none) (cond (Nat.blt pc 51) (cond (Nat.beq pc 50) (some (.aload_n 0, 51, 0)) none) (cond (Nat.beq pc 51) (some (.getfield 58, 54, 0)) none))) (cond (Nat.blt pc 55) (cond (Nat.beq pc 54) (some (.dup2, 55, 0)) none) (cond (Nat.blt pc 56) (cond (Nat.beq pc 55) (some (.iaload, 56, 0)) none) (cond (Nat.beq pc 56) (some (.iconst 1, 57, 0)) none)))) (cond (Nat.blt pc 60) (cond (Nat.blt pc 58) (cond (Nat.beq pc 57) (some (.isub, 58, 0)) none) (cond (Nat.blt pc 59) (cond (Nat.beq pc 58) (some (.iastore, 59, 0)) none) (cond (Nat.beq pc 59) (some (.iload_n 1, 60, 0)) none))) (cond (Nat.blt pc 62) (cond (Nat.blt pc 61) (cond (Nat.beq pc 60) (some (.istore_n 2, 61, 0)) none) (cond (Nat.beq pc 61) (some (.iload_n 2, 62, 0)) none)) (cond (Nat.blt pc 63) (cond (Nat.beq pc 62) (some (.aload_n 0, 63, 0)) none) (cond (Nat.beq pc 63) (some (.getfield 26, 66, 0)) none))))) (cond (Nat.blt pc 76) (cond (Nat.blt pc 71) (cond (Nat.blt pc 67) (cond (Nat.beq pc 66) (some (.aload_n 0, 67, 0)) none) (cond (Nat.blt pc 70) (cond (Nat.beq pc 67) (some (.getfield 58, 70, 0)) none) (cond (Nat.beq pc 70) (some (.iaload, 71, 0)) none))) (cond (Nat.blt pc 74) (cond (Nat.beq pc 71) (some (.if_icmp .ge 17, 74, 88)) none) (cond (Nat.blt pc 75) (cond (Nat.beq pc 74) (some (.aload_n 0, 75, 0)) none) (cond (Nat.beq pc 75) (some (.iload_n 2, 76, 0)) none)))) (cond (Nat.blt pc 79) (cond (Nat.blt pc 77) (cond (Nat.beq pc 76) (some (.iload_n 2, 77, 0)) none) (cond (Nat.blt pc 78) (cond (Nat.beq pc 77) (some (.iconst 1, 78, 0)) none) (cond (Nat.beq pc 78) (some (.iadd, 79, 0)) none))) (cond (Nat.blt pc 85) (cond (Nat.blt pc 82) (cond (Nat.beq pc 79) (some (.invokevirtual 86, 82, 0)) none) (cond (Nat.beq pc 82) (some (.iinc 2 1, 85, 0)) none)) (cond (Nat.blt pc 88) (cond (Nat.beq pc 85) (some (.goto (-24), 88, 61)) none) (cond (Nat.beq pc 88) (some (.return_, 89, 0)) none))))))
def m_M_drop : MI := (⟨"TileStudioModel", "drop", "(I)V"⟩, prog_10_method_17_code, 3, none, [], zmk 89 tb_M_drop)
theorem ok_M_drop : zok m_M_drop := zok_mk rfl (by decide +kernel)
def tb_M_isLayer : ZT := fun pc => cond (Nat.blt pc 17) (cond (Nat.blt pc 8) (cond (Nat.blt pc 4) (cond (Nat.blt pc 1) (cond (Nat.beq pc 0) (some (.aload_n 0, 1, 0)) none) (cond (Nat.beq pc 1) (some (.getfield 67, 4, 0)) none)) (cond (Nat.blt pc 7) (cond (Nat.beq pc 4) (some (.ifCond .eq 26, 7, 30)) none) (cond (Nat.beq pc 7) (some (.iload_n 1, 8, 0)) none))) (cond (Nat.blt pc 10) (cond (Nat.blt pc 9) (cond (Nat.beq pc 8) (some (.iconst 0, 9, 0)) none) (cond (Nat.beq pc 9) (some (.aload_n 0, 10, 0)) none)) (cond (Nat.blt pc 13) (cond (Nat.beq pc 10) (some (.getfield 26, 13, 0)) none) (cond (Nat.blt pc 14) (cond (Nat.beq pc 13) (some (.aload_n 0, 14, 0)) none) (cond (Nat.beq pc 14) (some (.getfield 58, 17, 0)) none))))) (cond (Nat.blt pc 23) (cond (Nat.blt pc 19) (cond (Nat.blt pc 18) (cond (Nat.beq pc 17) (some (.iaload, 18, 0)) none) (cond (Nat.beq pc 18) (some (.iconst 1, 19, 0)) none)) (cond (Nat.blt pc 20) (cond (Nat.beq pc 19) (some (.isub, 20, 0)) none) (cond (Nat.beq pc 20) (some (.invokestatic 71, 23, 0)) none))) (cond (Nat.blt pc 27) (cond (Nat.blt pc 26) (cond (Nat.beq pc 23) (some (.ifCond .eq 7, 26, 30)) none) (cond (Nat.beq pc 26) (some (.iconst 1, 27, 0)) none)) (cond (Nat.blt pc 30) (cond (Nat.beq pc 27) (some (.goto 4, 30, 31)) none) (cond (Nat.blt pc 31) (cond (Nat.beq pc 30) (some (.iconst 0, 31, 0)) none) (cond (Nat.beq pc 31) (some (.ireturn, 32, 0)) none)))))
def m_M_isLayer : MI := (⟨"TileStudioModel", "isLayer", "(I)Z"⟩, prog_10_method_9_code, 2, (Option.some Jvm.ClassFile.FieldType.boolean), [], zmk 32 tb_M_isLayer)
theorem ok_M_isLayer : zok m_M_isLayer := zok_mk rfl (by decide +kernel)
def tb_M_move : ZT := fun pc => cond (Nat.blt pc 97) (cond (Nat.blt pc 45) (cond (Nat.blt pc 22) (cond (Nat.blt pc 10) (cond (Nat.blt pc 3) (cond (Nat.blt pc 1) (cond (Nat.beq pc 0) (some (.aload_n 0, 1, 0)) none) (cond (Nat.blt pc 2) (cond (Nat.beq pc 1) (some (.aload_n 0, 2, 0)) none) (cond (Nat.beq pc 2) (some (.iload_n 1, 3, 0)) none))) (cond (Nat.blt pc 6) (cond (Nat.beq pc 3) (some (.invokevirtual 89, 6, 0)) none) (cond (Nat.blt pc 9) (cond (Nat.beq pc 6) (some (.ifCond .eq 11, 9, 17)) none) (cond (Nat.beq pc 9) (some (.aload_n 0, 10, 0)) none)))) (cond (Nat.blt pc 17) (cond (Nat.blt pc 11) (cond (Nat.beq pc 10) (some (.iload_n 2, 11, 0)) none) (cond (Nat.blt pc 14) (cond (Nat.beq pc 11) (some (.invokevirtual 89, 14, 0)) none) (cond (Nat.beq pc 14) (some (.ifCond .ne 7, 17, 21)) none))) (cond (Nat.blt pc 18) (cond (Nat.beq pc 17) (some (.iconst 1, 18, 0)) none) (cond (Nat.blt pc 21) (cond (Nat.beq pc 18) (some (.goto 4, 21, 22)) none) (cond (Nat.beq pc 21) (some (.iconst 0, 22, 0)) none))))) (cond (Nat.blt pc 34) (cond (Nat.blt pc 29) (cond (Nat.blt pc 25) (cond (Nat.beq pc 22) (some (.invokevirtual 75, 25, 0)) none) (cond (Nat.blt pc 28) (cond (Nat.beq pc 25) (some (.ifCond .eq 4, 28, 29)) none) (cond (Nat.beq pc 28) (some (.return_, 29, 0)) none))) (cond (Nat.blt pc 30) (cond (Nat.beq pc 29) (some (.aload_n 0, 30, 0)) none) (cond (Nat.blt pc 33) (cond (Nat.beq pc 30) (some (.invokevirtual 83, 33, 0)) none) (cond (Nat.beq pc 33) (some (.aload_n 0, 34, 0)) none)))) (cond (Nat.blt pc 39) (cond (Nat.blt pc 37) (cond (Nat.beq pc 34) (some (.getfield 58, 37, 0)) none) (cond (Nat.blt pc 38) (cond (Nat.beq pc 37) (some (.iconst 1, 38, 0)) none) (cond (Nat.beq pc 38) (some (.isub, 39, 0)) none))) (cond (Nat.blt pc 41) (cond (Nat.blt pc 40) (cond (Nat.beq pc 39) (some (.istore_n 3, 40, 0)) none) (cond (Nat.beq pc 40) (some (.iconst 0, 41, 0)) none)) (cond (Nat.blt pc 43) (cond (Nat.beq pc 41) (some (.istore 4, 43, 0)) none) (cond (Nat.beq pc 43) (some (.iload 4, 45, 0)) none)))))) (cond (Nat.blt pc 71) (cond (Nat.blt pc 57) (cond (Nat.blt pc 50) (cond (Nat.blt pc 46) (cond (Nat.beq pc 45) (some (.aload_n 0, 46, 0)) none) (cond (Nat.blt pc 49) (cond (Nat.beq pc 46) (some (.getfield 26, 49, 0)) none) (cond (Nat.beq pc 49) (some (.aload_n 0, 50, 0)) none))) (cond (Nat.blt pc 53) (cond (Nat.beq pc 50) (some (.getfield 58, 53, 0)) none) (cond (Nat.blt pc 54) (cond (Nat.beq pc 53) (some (.iaload, 54, 0)) none) (cond (Nat.beq pc 54) (some (.if_icmp .ge 132, 57, 186)) none)))) (cond (Nat.blt pc 63) (cond (Nat.blt pc 59) (cond (Nat.beq pc 57) (some (.iload 4, 59, 0)) none) (cond (Nat.blt pc 60) (cond (Nat.beq pc 59) (some (.iload_n 2, 60, 0)) none) (cond (Nat.beq pc 60) (some (.if_icmp .ge 8, 63, 68)) none))) (cond (Nat.blt pc 68) (cond (Nat.blt pc 65) (cond (Nat.beq pc 63) (some (.iload 4, 65, 0)) none) (cond (Nat.beq pc 65) (some (.goto 7, 68, 72)) none)) (cond (Nat.blt pc 70) (cond (Nat.beq pc 68) (some (.iload 4, 70, 0)) none) (cond (Nat.beq pc 70) (some (.iconst 1, 71, 0)) none))))) (cond (Nat.blt pc 81) (cond (Nat.blt pc 76) (cond (Nat.blt pc 72) (cond (Nat.beq pc 71) (some (.isub, 72, 0)) none) (cond (Nat.blt pc 74) (cond (Nat.beq pc 72) (some (.istore 5, 74, 0)) none) (cond (Nat.beq pc 74) (some (.iload 4, 76, 0)) none))) (cond (Nat.blt pc 77) (cond (Nat.beq pc 76) (some (.iload_n 2, 77, 0)) none) (cond (Nat.blt pc 80) (cond (Nat.beq pc 77) (some (.if_icmp .ne 7, 80, 84)) none) (cond (Nat.beq pc 80) (some (.iload_n 1, 81, 0)) none)))) (cond (Nat.blt pc 87) (cond (Nat.blt pc 84) (cond (Nat.beq pc 81) (some (.goto 18, 84, 99)) none) (cond (Nat.blt pc 86) (cond (Nat.beq pc 84) (some (.iload 5, 86, 0)) none) (cond (Nat.beq pc 86) (some (.iload_n 1, 87, 0)) none))) (cond (Nat.blt pc 92) (cond (Nat.blt pc 90) (cond (Nat.beq pc 87) (some (.if_icmp .ge 8, 90, 95)) none) (cond (Nat.beq pc 90) (some (.iload 5, 92, 0)) none)) (cond (Nat.blt pc 95) (cond (Nat.beq pc 92) (some (.goto 7, 95, 99)) none) (cond (Nat.beq pc 95) (some (.iload 5, 97, 0)) none))))))) (cond (Nat.blt pc 143) (cond (Nat.blt pc 120) (cond (Nat.blt pc 106) (cond (Nat.blt pc 101) (cond (Nat.blt pc 98) (cond (Nat.beq pc 97) (some (.iconst 1, 98, 0)) none) (cond (Nat.blt pc 99) (cond (Nat.beq pc 98) (some (.iadd, 99, 0)) none) (cond (Nat.beq pc 99) (some (.istore 6, 101, 0)) none))) (cond (Nat.blt pc 102) (cond (Nat.beq pc 101) (some (.iconst 0, 102, 0)) none) (cond (Nat.blt pc 104) (cond (Nat.beq pc 102) (some (.istore 7, 104, 0)) none) (cond (Nat.beq pc 104) (some (.iload 7, 106, 0)) none)))) (cond (Nat.blt pc 113) (cond (Nat.blt pc 109) (cond (Nat.beq pc 106) (some (.sipush 576, 109, 0)) none) (cond (Nat.blt pc 112) (cond (Nat.beq pc 109) (some (.if_icmp .ge 52, 112, 161)) none) (cond (Nat.beq pc 112) (some (.aload_n 0, 113, 0)) none))) (cond (Nat.blt pc 116) (cond (Nat.beq pc 113) (some (.getfield 7, 116, 0)) none) (cond (Nat.blt pc 119) (cond (Nat.beq pc 116) (some (.sipush 1728, 119, 0)) none) (cond (Nat.beq pc 119) (some (.aload_n 0, 120, 0)) none))))) (cond (Nat.blt pc 131) (cond (Nat.blt pc 127) (cond (Nat.blt pc 123) (cond (Nat.beq pc 120) (some (.getfield 58, 123, 0)) none) (cond (Nat.blt pc 124) (cond (Nat.beq pc 123) (some (.imul, 124, 0)) none) (cond (Nat.beq pc 124) (some (.sipush 576, 127, 0)) none))) (cond (Nat.blt pc 129) (cond (Nat.beq pc 127) (some (.iload 4, 129, 0)) none) (cond (Nat.blt pc 130) (cond (Nat.beq pc 129) (some (.imul, 130, 0)) none) (cond (Nat.beq pc 130) (some (.iadd, 131, 0)) none)))) (cond (Nat.blt pc 135) (cond (Nat.blt pc 133) (cond (Nat.beq pc 131) (some (.iload 7, 133, 0)) none) (cond (Nat.blt pc 134) (cond (Nat.beq pc 133) (some (.iadd, 134, 0)) none) (cond (Nat.beq pc 134) (some (.aload_n 0, 135, 0)) none))) (cond (Nat.blt pc 141) (cond (Nat.blt pc 138) (cond (Nat.beq pc 135) (some (.getfield 7, 138, 0)) none) (cond (Nat.beq pc 138) (some (.sipush 1728, 141, 0)) none)) (cond (Nat.blt pc 142) (cond (Nat.beq pc 141) (some (.iload_n 3, 142, 0)) none) (cond (Nat.beq pc 142) (some (.imul, 143, 0)) none)))))) (cond (Nat.blt pc 164) (cond (Nat.blt pc 153) (cond (Nat.blt pc 149) (cond (Nat.blt pc 146) (cond (Nat.beq pc 143) (some (.sipush 576, 146, 0)) none) (cond (Nat.blt pc 148) (cond (Nat.beq pc 146) (some (.iload 6, 148, 0)) none) (cond (Nat.beq pc 148) (some (.imul, 149, 0)) none))) (cond (Nat.blt pc 150) (cond (Nat.beq pc 149) (some (.iadd, 150, 0)) none) (cond (Nat.blt pc 152) (cond (Nat.beq pc 150) (some (.iload 7, 152, 0)) none) (cond (Nat.beq pc 152) (some (.iadd, 153, 0)) none)))) (cond (Nat.blt pc 158) (cond (Nat.blt pc 154) (cond (Nat.beq pc 153) (some (.iaload, 154, 0)) none) (cond (Nat.blt pc 155) (cond (Nat.beq pc 154) (some (.iastore, 155, 0)) none) (cond (Nat.beq pc 155) (some (.iinc 7 1, 158, 0)) none))) (cond (Nat.blt pc 162) (cond (Nat.blt pc 161) (cond (Nat.beq pc 158) (some (.goto (-54), 161, 104)) none) (cond (Nat.beq pc 161) (some (.aload_n 0, 162, 0)) none)) (cond (Nat.blt pc 163) (cond (Nat.beq pc 162) (some (.iconst 3, 163, 0)) none) (cond (Nat.beq pc 163) (some (.aload_n 0, 164, 0)) none))))) (cond (Nat.blt pc 173) (cond (Nat.blt pc 170) (cond (Nat.blt pc 167) (cond (Nat.beq pc 164) (some (.getfield 58, 167, 0)) none) (cond (Nat.blt pc 168) (cond (Nat.beq pc 167) (some (.imul, 168, 0)) none) (cond (Nat.beq pc 168) (some (.iload 4, 170, 0)) none))) (cond (Nat.blt pc 171) (cond (Nat.beq pc 170) (some (.iadd, 171, 0)) none) (cond (Nat.blt pc 172) (cond (Nat.beq pc 171) (some (.iconst 3, 172, 0)) none) (cond (Nat.beq pc 172) (some (.iload_n 3, 173, 0)) none)))) (cond (Nat.blt pc 177) (cond (Nat.blt pc 174) (cond (Nat.beq pc 173) (some (.imul, 174, 0)) none) (cond (Nat.blt pc 176) (cond (Nat.beq pc 174) (some (.iload 6, 176, 0)) none) (cond (Nat.beq pc 176) (some (.iadd, 177, 0)) none))) (cond (Nat.blt pc 183) (cond (Nat.blt pc 180) (cond (Nat.beq pc 177) (some (.invokevirtual 54, 180, 0)) none) (cond (Nat.beq pc 180) (some (.iinc 4 1, 183, 0)) none)) (cond (Nat.blt pc 186) (cond (Nat.beq pc 183) (some (.goto (-140), 186, 43)) none) (cond (Nat.beq pc 186) (some (.return_, 187, 0)) none)))))))
def m_M_move : MI := (⟨"TileStudioModel", "move", "(II)V"⟩, prog_10_method_18_code, 8, none, [], zmk 187 tb_M_move)
theorem ok_M_move : zok m_M_move := zok_mk rfl (by decide +kernel)
def tb_M_mode : ZT := fun pc => cond (Nat.blt pc 51) (cond (Nat.blt pc 23) (cond (Nat.blt pc 10) (cond (Nat.blt pc 3) (cond (Nat.blt pc 1) (cond (Nat.beq pc 0) (some (.aload_n 0, 1, 0)) none) (cond (Nat.blt pc 2) (cond (Nat.beq pc 1) (some (.aload_n 0, 2, 0)) none) (cond (Nat.beq pc 2) (some (.iload_n 1, 3, 0)) none))) (cond (Nat.blt pc 6) (cond (Nat.beq pc 3) (some (.invokevirtual 89, 6, 0)) none) (cond (Nat.blt pc 9) (cond (Nat.beq pc 6) (some (.ifCond .eq 23, 9, 29)) none) (cond (Nat.beq pc 9) (some (.iload_n 2, 10, 0)) none)))) (cond (Nat.blt pc 15) (cond (Nat.blt pc 11) (cond (Nat.beq pc 10) (some (.iconst 0, 11, 0)) none) (cond (Nat.blt pc 12) (cond (Nat.beq pc 11) (some (.iconst 5, 12, 0)) none) (cond (Nat.beq pc 12) (some (.invokestatic 71, 15, 0)) none))) (cond (Nat.blt pc 19) (cond (Nat.blt pc 18) (cond (Nat.beq pc 15) (some (.ifCond .eq 14, 18, 29)) none) (cond (Nat.beq pc 18) (some (.iload_n 3, 19, 0)) none)) (cond (Nat.blt pc 20) (cond (Nat.beq pc 19) (some (.iconst 0, 20, 0)) none) (cond (Nat.beq pc 20) (some (.sipush 255, 23, 0)) none))))) (cond (Nat.blt pc 40) (cond (Nat.blt pc 30) (cond (Nat.blt pc 26) (cond (Nat.beq pc 23) (some (.invokestatic 71, 26, 0)) none) (cond (Nat.blt pc 29) (cond (Nat.beq pc 26) (some (.ifCond .ne 7, 29, 33)) none) (cond (Nat.beq pc 29) (some (.iconst 1, 30, 0)) none))) (cond (Nat.blt pc 34) (cond (Nat.blt pc 33) (cond (Nat.beq pc 30) (some (.goto 4, 33, 34)) none) (cond (Nat.beq pc 33) (some (.iconst 0, 34, 0)) none)) (cond (Nat.blt pc 37) (cond (Nat.beq pc 34) (some (.invokevirtual 75, 37, 0)) none) (cond (Nat.beq pc 37) (some (.ifCond .eq 4, 40, 41)) none)))) (cond (Nat.blt pc 45) (cond (Nat.blt pc 41) (cond (Nat.beq pc 40) (some (.return_, 41, 0)) none) (cond (Nat.blt pc 42) (cond (Nat.beq pc 41) (some (.aload_n 0, 42, 0)) none) (cond (Nat.beq pc 42) (some (.invokevirtual 83, 45, 0)) none))) (cond (Nat.blt pc 49) (cond (Nat.blt pc 46) (cond (Nat.beq pc 45) (some (.aload_n 0, 46, 0)) none) (cond (Nat.beq pc 46) (some (.getfield 16, 49, 0)) none)) (cond (Nat.blt pc 50) (cond (Nat.beq pc 49) (some (.iconst 3, 50, 0)) none) (cond (Nat.beq pc 50) (some (.aload_n 0, 51, 0)) none)))))) (cond (Nat.blt pc 70) (cond (Nat.blt pc 59) (cond (Nat.blt pc 56) (cond (Nat.blt pc 54) (cond (Nat.beq pc 51) (some (.getfield 58, 54, 0)) none) (cond (Nat.blt pc 55) (cond (Nat.beq pc 54) (some (.imul, 55, 0)) none) (cond (Nat.beq pc 55) (some (.iload_n 1, 56, 0)) none))) (cond (Nat.blt pc 57) (cond (Nat.beq pc 56) (some (.iadd, 57, 0)) none) (cond (Nat.blt pc 58) (cond (Nat.beq pc 57) (some (.iload_n 2, 58, 0)) none) (cond (Nat.beq pc 58) (some (.iastore, 59, 0)) none)))) (cond (Nat.blt pc 64) (cond (Nat.blt pc 60) (cond (Nat.beq pc 59) (some (.aload_n 0, 60, 0)) none) (cond (Nat.blt pc 63) (cond (Nat.beq pc 60) (some (.getfield 19, 63, 0)) none) (cond (Nat.beq pc 63) (some (.iconst 3, 64, 0)) none))) (cond (Nat.blt pc 68) (cond (Nat.blt pc 65) (cond (Nat.beq pc 64) (some (.aload_n 0, 65, 0)) none) (cond (Nat.beq pc 65) (some (.getfield 58, 68, 0)) none)) (cond (Nat.blt pc 69) (cond (Nat.beq pc 68) (some (.imul, 69, 0)) none) (cond (Nat.beq pc 69) (some (.iload_n 1, 70, 0)) none))))) (cond (Nat.blt pc 79) (cond (Nat.blt pc 73) (cond (Nat.blt pc 71) (cond (Nat.beq pc 70) (some (.iadd, 71, 0)) none) (cond (Nat.blt pc 72) (cond (Nat.beq pc 71) (some (.iload_n 3, 72, 0)) none) (cond (Nat.beq pc 72) (some (.iastore, 73, 0)) none))) (cond (Nat.blt pc 77) (cond (Nat.blt pc 74) (cond (Nat.beq pc 73) (some (.aload_n 0, 74, 0)) none) (cond (Nat.beq pc 74) (some (.getfield 22, 77, 0)) none)) (cond (Nat.blt pc 78) (cond (Nat.beq pc 77) (some (.iconst 3, 78, 0)) none) (cond (Nat.beq pc 78) (some (.aload_n 0, 79, 0)) none)))) (cond (Nat.blt pc 84) (cond (Nat.blt pc 82) (cond (Nat.beq pc 79) (some (.getfield 58, 82, 0)) none) (cond (Nat.blt pc 83) (cond (Nat.beq pc 82) (some (.imul, 83, 0)) none) (cond (Nat.beq pc 83) (some (.iload_n 1, 84, 0)) none))) (cond (Nat.blt pc 87) (cond (Nat.blt pc 85) (cond (Nat.beq pc 84) (some (.iadd, 85, 0)) none) (cond (Nat.beq pc 85) (some (.iload 4, 87, 0)) none)) (cond (Nat.blt pc 88) (cond (Nat.beq pc 87) (some (.bastore, 88, 0)) none) (cond (Nat.beq pc 88) (some (.return_, 89, 0)) none))))))
def m_M_mode : MI := (⟨"TileStudioModel", "mode", "(IIIZ)V"⟩, prog_10_method_19_code, 5, none, [], zmk 89 tb_M_mode)
theorem ok_M_mode : zok m_M_mode := zok_mk rfl (by decide +kernel)
end
section
def tb_M_select : ZT := fun pc => cond (Nat.blt pc 145) (cond (Nat.blt pc 77) (cond (Nat.blt pc 31) (cond (Nat.blt pc 14) (cond (Nat.blt pc 7) (cond (Nat.blt pc 4) (cond (Nat.blt pc 2) (cond (Nat.beq pc 0) (some (.iload 4, 2, 0)) none) (cond (Nat.beq pc 2) (some (.ldc 95, 4, 0)) none)) (cond (Nat.blt pc 5) (cond (Nat.beq pc 4) (some (.iand, 5, 0)) none) (cond (Nat.beq pc 5) (some (.istore 5, 7, 0)) none))) (cond (Nat.blt pc 11) (cond (Nat.blt pc 9) (cond (Nat.beq pc 7) (some (.iload 4, 9, 0)) none) (cond (Nat.beq pc 9) (some (.bipush 16, 11, 0)) none)) (cond (Nat.blt pc 12) (cond (Nat.beq pc 11) (some (.iushr, 12, 0)) none) (cond (Nat.beq pc 12) (some (.istore 6, 14, 0)) none)))) (cond (Nat.blt pc 22) (cond (Nat.blt pc 18) (cond (Nat.blt pc 15) (cond (Nat.beq pc 14) (some (.aload_n 0, 15, 0)) none) (cond (Nat.beq pc 15) (some (.getfield 67, 18, 0)) none)) (cond (Nat.blt pc 21) (cond (Nat.beq pc 18) (some (.ifCond .eq 69, 21, 87)) none) (cond (Nat.beq pc 21) (some (.iload_n 1, 22, 0)) none))) (cond (Nat.blt pc 24) (cond (Nat.blt pc 23) (cond (Nat.beq pc 22) (some (.iconst 0, 23, 0)) none) (cond (Nat.beq pc 23) (some (.iconst 3, 24, 0)) none)) (cond (Nat.blt pc 27) (cond (Nat.beq pc 24) (some (.invokestatic 71, 27, 0)) none) (cond (Nat.blt pc 30) (cond (Nat.beq pc 27) (some (.ifCond .ne 14, 30, 41)) none) (cond (Nat.beq pc 30) (some (.iload_n 1, 31, 0)) none)))))) (cond (Nat.blt pc 54) (cond (Nat.blt pc 41) (cond (Nat.blt pc 35) (cond (Nat.blt pc 33) (cond (Nat.beq pc 31) (some (.bipush 10, 33, 0)) none) (cond (Nat.beq pc 33) (some (.bipush 13, 35, 0)) none)) (cond (Nat.blt pc 38) (cond (Nat.beq pc 35) (some (.invokestatic 71, 38, 0)) none) (cond (Nat.beq pc 38) (some (.ifCond .eq 49, 41, 87)) none))) (cond (Nat.blt pc 45) (cond (Nat.blt pc 42) (cond (Nat.beq pc 41) (some (.iload_n 2, 42, 0)) none) (cond (Nat.beq pc 42) (some (.sipush (-1000), 45, 0)) none)) (cond (Nat.blt pc 48) (cond (Nat.beq pc 45) (some (.sipush 1000, 48, 0)) none) (cond (Nat.blt pc 51) (cond (Nat.beq pc 48) (some (.invokestatic 71, 51, 0)) none) (cond (Nat.beq pc 51) (some (.ifCond .eq 36, 54, 87)) none))))) (cond (Nat.blt pc 64) (cond (Nat.blt pc 58) (cond (Nat.blt pc 55) (cond (Nat.beq pc 54) (some (.iload_n 3, 55, 0)) none) (cond (Nat.beq pc 55) (some (.sipush (-1000), 58, 0)) none)) (cond (Nat.blt pc 61) (cond (Nat.beq pc 58) (some (.sipush 1000, 61, 0)) none) (cond (Nat.beq pc 61) (some (.invokestatic 71, 64, 0)) none))) (cond (Nat.blt pc 69) (cond (Nat.blt pc 67) (cond (Nat.beq pc 64) (some (.ifCond .eq 23, 67, 87)) none) (cond (Nat.beq pc 67) (some (.iload 5, 69, 0)) none)) (cond (Nat.blt pc 72) (cond (Nat.beq pc 69) (some (.sipush 1000, 72, 0)) none) (cond (Nat.blt pc 75) (cond (Nat.beq pc 72) (some (.if_icmp .gt 15, 75, 87)) none) (cond (Nat.beq pc 75) (some (.iload 6, 77, 0)) none))))))) (cond (Nat.blt pc 110) (cond (Nat.blt pc 93) (cond (Nat.blt pc 87) (cond (Nat.blt pc 83) (cond (Nat.blt pc 80) (cond (Nat.beq pc 77) (some (.sipush 1000, 80, 0)) none) (cond (Nat.beq pc 80) (some (.if_icmp .gt 7, 83, 87)) none)) (cond (Nat.blt pc 84) (cond (Nat.beq pc 83) (some (.iconst 1, 84, 0)) none) (cond (Nat.beq pc 84) (some (.goto 4, 87, 88)) none))) (cond (Nat.blt pc 90) (cond (Nat.blt pc 88) (cond (Nat.beq pc 87) (some (.iconst 0, 88, 0)) none) (cond (Nat.beq pc 88) (some (.istore 7, 90, 0)) none)) (cond (Nat.blt pc 91) (cond (Nat.beq pc 90) (some (.aload_n 0, 91, 0)) none) (cond (Nat.beq pc 91) (some (.iload 7, 93, 0)) none)))) (cond (Nat.blt pc 101) (cond (Nat.blt pc 97) (cond (Nat.blt pc 96) (cond (Nat.beq pc 93) (some (.ifCond .ne 7, 96, 100)) none) (cond (Nat.beq pc 96) (some (.iconst 1, 97, 0)) none)) (cond (Nat.blt pc 100) (cond (Nat.beq pc 97) (some (.goto 4, 100, 101)) none) (cond (Nat.beq pc 100) (some (.iconst 0, 101, 0)) none))) (cond (Nat.blt pc 107) (cond (Nat.blt pc 104) (cond (Nat.beq pc 101) (some (.invokevirtual 75, 104, 0)) none) (cond (Nat.beq pc 104) (some (.ifCond .eq 5, 107, 109)) none)) (cond (Nat.blt pc 108) (cond (Nat.beq pc 107) (some (.iconst 0, 108, 0)) none) (cond (Nat.blt pc 109) (cond (Nat.beq pc 108) (some (.ireturn, 109, 0)) none) (cond (Nat.beq pc 109) (some (.aload_n 0, 110, 0)) none)))))) (cond (Nat.blt pc 128) (cond (Nat.blt pc 118) (cond (Nat.blt pc 114) (cond (Nat.blt pc 113) (cond (Nat.beq pc 110) (some (.invokevirtual 83, 113, 0)) none) (cond (Nat.beq pc 113) (some (.iconst 0, 114, 0)) none)) (cond (Nat.blt pc 116) (cond (Nat.beq pc 114) (some (.istore 8, 116, 0)) none) (cond (Nat.beq pc 116) (some (.iload 8, 118, 0)) none))) (cond (Nat.blt pc 122) (cond (Nat.blt pc 119) (cond (Nat.beq pc 118) (some (.aload_n 0, 119, 0)) none) (cond (Nat.beq pc 119) (some (.invokevirtual 96, 122, 0)) none)) (cond (Nat.blt pc 125) (cond (Nat.beq pc 122) (some (.if_icmp .ge 148, 125, 270)) none) (cond (Nat.blt pc 126) (cond (Nat.beq pc 125) (some (.iconst 0, 126, 0)) none) (cond (Nat.beq pc 126) (some (.istore 9, 128, 0)) none))))) (cond (Nat.blt pc 134) (cond (Nat.blt pc 131) (cond (Nat.blt pc 129) (cond (Nat.beq pc 128) (some (.iconst 0, 129, 0)) none) (cond (Nat.beq pc 129) (some (.istore 10, 131, 0)) none)) (cond (Nat.blt pc 133) (cond (Nat.beq pc 131) (some (.iload 10, 133, 0)) none) (cond (Nat.beq pc 133) (some (.aload_n 0, 134, 0)) none))) (cond (Nat.blt pc 140) (cond (Nat.blt pc 137) (cond (Nat.beq pc 134) (some (.invokevirtual 100, 137, 0)) none) (cond (Nat.beq pc 137) (some (.if_icmp .ge 44, 140, 181)) none)) (cond (Nat.blt pc 142) (cond (Nat.beq pc 140) (some (.iload 9, 142, 0)) none) (cond (Nat.blt pc 143) (cond (Nat.beq pc 142) (some (.iload_n 1, 143, 0)) none) (cond (Nat.beq pc 143) (some (.bipush 10, 145, 0)) none)))))))) (cond (Nat.blt pc 205) (cond (Nat.blt pc 173) (cond (Nat.blt pc 156) (cond (Nat.blt pc 150) (cond (Nat.blt pc 148) (cond (Nat.blt pc 146) (cond (Nat.beq pc 145) (some (.idiv, 146, 0)) none) (cond (Nat.beq pc 146) (some (.iload 10, 148, 0)) none)) (cond (Nat.blt pc 149) (cond (Nat.beq pc 148) (some (.iload_n 2, 149, 0)) none) (cond (Nat.beq pc 149) (some (.isub, 150, 0)) none))) (cond (Nat.blt pc 153) (cond (Nat.blt pc 152) (cond (Nat.beq pc 150) (some (.iload 8, 152, 0)) none) (cond (Nat.beq pc 152) (some (.iload_n 3, 153, 0)) none)) (cond (Nat.blt pc 154) (cond (Nat.beq pc 153) (some (.isub, 154, 0)) none) (cond (Nat.beq pc 154) (some (.iload 5, 156, 0)) none)))) (cond (Nat.blt pc 165) (cond (Nat.blt pc 161) (cond (Nat.blt pc 158) (cond (Nat.beq pc 156) (some (.iload 6, 158, 0)) none) (cond (Nat.beq pc 158) (some (.invokestatic 103, 161, 0)) none)) (cond (Nat.blt pc 164) (cond (Nat.beq pc 161) (some (.ifCond .eq 10, 164, 171)) none) (cond (Nat.beq pc 164) (some (.iconst 1, 165, 0)) none))) (cond (Nat.blt pc 168) (cond (Nat.blt pc 167) (cond (Nat.beq pc 165) (some (.iload 10, 167, 0)) none) (cond (Nat.beq pc 167) (some (.ishl, 168, 0)) none)) (cond (Nat.blt pc 171) (cond (Nat.beq pc 168) (some (.goto 4, 171, 172)) none) (cond (Nat.blt pc 172) (cond (Nat.beq pc 171) (some (.iconst 0, 172, 0)) none) (cond (Nat.beq pc 172) (some (.ior, 173, 0)) none)))))) (cond (Nat.blt pc 192) (cond (Nat.blt pc 182) (cond (Nat.blt pc 178) (cond (Nat.blt pc 175) (cond (Nat.beq pc 173) (some (.istore 9, 175, 0)) none) (cond (Nat.beq pc 175) (some (.iinc 10 1, 178, 0)) none)) (cond (Nat.blt pc 181) (cond (Nat.beq pc 178) (some (.goto (-47), 181, 131)) none) (cond (Nat.beq pc 181) (some (.aload_n 0, 182, 0)) none))) (cond (Nat.blt pc 187) (cond (Nat.blt pc 185) (cond (Nat.beq pc 182) (some (.getfield 13, 185, 0)) none) (cond (Nat.beq pc 185) (some (.bipush 24, 187, 0)) none)) (cond (Nat.blt pc 188) (cond (Nat.beq pc 187) (some (.aload_n 0, 188, 0)) none) (cond (Nat.blt pc 191) (cond (Nat.beq pc 188) (some (.getfield 58, 191, 0)) none) (cond (Nat.beq pc 191) (some (.imul, 192, 0)) none))))) (cond (Nat.blt pc 198) (cond (Nat.blt pc 195) (cond (Nat.blt pc 194) (cond (Nat.beq pc 192) (some (.iload 8, 194, 0)) none) (cond (Nat.beq pc 194) (some (.iadd, 195, 0)) none)) (cond (Nat.blt pc 196) (cond (Nat.beq pc 195) (some (.iaload, 196, 0)) none) (cond (Nat.beq pc 196) (some (.istore 10, 198, 0)) none))) (cond (Nat.blt pc 201) (cond (Nat.blt pc 199) (cond (Nat.beq pc 198) (some (.iload_n 1, 199, 0)) none) (cond (Nat.beq pc 199) (some (.bipush 10, 201, 0)) none)) (cond (Nat.blt pc 202) (cond (Nat.beq pc 201) (some (.irem, 202, 0)) none) (cond (Nat.blt pc 204) (cond (Nat.beq pc 202) (some (.istore 11, 204, 0)) none) (cond (Nat.beq pc 204) (some (.aload_n 0, 205, 0)) none))))))) (cond (Nat.blt pc 242) (cond (Nat.blt pc 223) (cond (Nat.blt pc 214) (cond (Nat.blt pc 210) (cond (Nat.blt pc 208) (cond (Nat.beq pc 205) (some (.getfield 13, 208, 0)) none) (cond (Nat.beq pc 208) (some (.bipush 24, 210, 0)) none)) (cond (Nat.blt pc 211) (cond (Nat.beq pc 210) (some (.aload_n 0, 211, 0)) none) (cond (Nat.beq pc 211) (some (.getfield 58, 214, 0)) none))) (cond (Nat.blt pc 217) (cond (Nat.blt pc 215) (cond (Nat.beq pc 214) (some (.imul, 215, 0)) none) (cond (Nat.beq pc 215) (some (.iload 8, 217, 0)) none)) (cond (Nat.blt pc 218) (cond (Nat.beq pc 217) (some (.iadd, 218, 0)) none) (cond (Nat.blt pc 220) (cond (Nat.beq pc 218) (some (.iload 11, 220, 0)) none) (cond (Nat.beq pc 220) (some (.ifCond .ne 8, 223, 228)) none))))) (cond (Nat.blt pc 231) (cond (Nat.blt pc 228) (cond (Nat.blt pc 225) (cond (Nat.beq pc 223) (some (.iload 9, 225, 0)) none) (cond (Nat.beq pc 225) (some (.goto 38, 228, 263)) none)) (cond (Nat.blt pc 230) (cond (Nat.beq pc 228) (some (.iload 11, 230, 0)) none) (cond (Nat.beq pc 230) (some (.iconst 1, 231, 0)) none))) (cond (Nat.blt pc 236) (cond (Nat.blt pc 234) (cond (Nat.beq pc 231) (some (.if_icmp .ne 11, 234, 242)) none) (cond (Nat.beq pc 234) (some (.iload 10, 236, 0)) none)) (cond (Nat.blt pc 238) (cond (Nat.beq pc 236) (some (.iload 9, 238, 0)) none) (cond (Nat.blt pc 239) (cond (Nat.beq pc 238) (some (.ior, 239, 0)) none) (cond (Nat.beq pc 239) (some (.goto 24, 242, 263)) none)))))) (cond (Nat.blt pc 258) (cond (Nat.blt pc 250) (cond (Nat.blt pc 245) (cond (Nat.blt pc 244) (cond (Nat.beq pc 242) (some (.iload 11, 244, 0)) none) (cond (Nat.beq pc 244) (some (.iconst 2, 245, 0)) none)) (cond (Nat.blt pc 248) (cond (Nat.beq pc 245) (some (.if_icmp .ne 13, 248, 258)) none) (cond (Nat.beq pc 248) (some (.iload 10, 250, 0)) none))) (cond (Nat.blt pc 253) (cond (Nat.blt pc 252) (cond (Nat.beq pc 250) (some (.iload 9, 252, 0)) none) (cond (Nat.beq pc 252) (some (.iconst (-1), 253, 0)) none)) (cond (Nat.blt pc 254) (cond (Nat.beq pc 253) (some (.ixor, 254, 0)) none) (cond (Nat.blt pc 255) (cond (Nat.beq pc 254) (some (.iand, 255, 0)) none) (cond (Nat.beq pc 255) (some (.goto 8, 258, 263)) none))))) (cond (Nat.blt pc 264) (cond (Nat.blt pc 262) (cond (Nat.blt pc 260) (cond (Nat.beq pc 258) (some (.iload 10, 260, 0)) none) (cond (Nat.beq pc 260) (some (.iload 9, 262, 0)) none)) (cond (Nat.blt pc 263) (cond (Nat.beq pc 262) (some (.iand, 263, 0)) none) (cond (Nat.beq pc 263) (some (.iastore, 264, 0)) none))) (cond (Nat.blt pc 270) (cond (Nat.blt pc 267) (cond (Nat.beq pc 264) (some (.iinc 8 1, 267, 0)) none) (cond (Nat.beq pc 267) (some (.goto (-151), 270, 116)) none)) (cond (Nat.blt pc 271) (cond (Nat.beq pc 270) (some (.aload_n 0, 271, 0)) none) (cond (Nat.blt pc 274) (cond (Nat.beq pc 271) (some (.invokevirtual 107, 274, 0)) none) (cond (Nat.beq pc 274) (some (.ireturn, 275, 0)) none))))))))
def m_M_select : MI := (⟨"TileStudioModel", "select", "(IIII)I"⟩, prog_10_method_21_code, 12, (Option.some Jvm.ClassFile.FieldType.int), [], zmk 275 tb_M_select)
theorem ok_M_select : zok m_M_select := zok_mk rfl (by decide +kernel)
def tb_M_h : ZT := fun pc => cond (Nat.blt pc 5) (cond (Nat.blt pc 1) (cond (Nat.beq pc 0) (some (.aload_n 0, 1, 0)) none) (cond (Nat.blt pc 4) (cond (Nat.beq pc 1) (some (.getfield 32, 4, 0)) none) (cond (Nat.beq pc 4) (some (.aload_n 0, 5, 0)) none))) (cond (Nat.blt pc 8) (cond (Nat.beq pc 5) (some (.getfield 58, 8, 0)) none) (cond (Nat.blt pc 9) (cond (Nat.beq pc 8) (some (.iaload, 9, 0)) none) (cond (Nat.beq pc 9) (some (.ireturn, 10, 0)) none)))
def m_M_h : MI := (⟨"TileStudioModel", "h", "()I"⟩, prog_10_method_7_code, 1, (Option.some Jvm.ClassFile.FieldType.int), [], zmk 10 tb_M_h)
theorem ok_M_h : zok m_M_h := zok_mk rfl (by decide +kernel)
def tb_M_w : ZT := fun pc => cond (Nat.blt pc 5) (cond (Nat.blt pc 1) (cond (Nat.beq pc 0) (some (.aload_n 0, 1, 0)) none) (cond (Nat.blt pc 4) (cond (Nat.beq pc 1) (some (.getfield 29, 4, 0)) none) (cond (Nat.beq pc 4) (some (.aload_n 0, 5, 0)) none))) (cond (Nat.blt pc 8) (cond (Nat.beq pc 5) (some (.getfield 58, 8, 0)) none) (cond (Nat.blt pc 9) (cond (Nat.beq pc 8) (some (.iaload, 9, 0)) none) (cond (Nat.beq pc 9) (some (.ireturn, 10, 0)) none)))
def m_M_w : MI := (⟨"TileStudioModel", "w", "()I"⟩, prog_10_method_6_code, 1, (Option.some Jvm.ClassFile.FieldType.int), [], zmk 10 tb_M_w)
theorem ok_M_w : zok m_M_w := zok_mk rfl (by decide +kernel)
def tb_M_isInShape : ZT := fun pc => cond (Nat.blt pc 49) (cond (Nat.blt pc 27) (cond (Nat.blt pc 14) (cond (Nat.blt pc 6) (cond (Nat.blt pc 4) (cond (Nat.blt pc 1) (cond (Nat.beq pc 0) (some (.iload_n 1, 1, 0)) none) (cond (Nat.beq pc 1) (some (.ifCond .lt 18, 4, 19)) none)) (cond (Nat.blt pc 5) (cond (Nat.beq pc 4) (some (.iload_n 1, 5, 0)) none) (cond (Nat.beq pc 5) (some (.iload_n 3, 6, 0)) none))) (cond (Nat.blt pc 10) (cond (Nat.blt pc 9) (cond (Nat.beq pc 6) (some (.if_icmp .ge 13, 9, 19)) none) (cond (Nat.beq pc 9) (some (.iload_n 2, 10, 0)) none)) (cond (Nat.blt pc 13) (cond (Nat.beq pc 10) (some (.ifCond .lt 9, 13, 19)) none) (cond (Nat.beq pc 13) (some (.iload_n 2, 14, 0)) none)))) (cond (Nat.blt pc 21) (cond (Nat.blt pc 19) (cond (Nat.blt pc 16) (cond (Nat.beq pc 14) (some (.iload 4, 16, 0)) none) (cond (Nat.beq pc 16) (some (.if_icmp .lt 5, 19, 21)) none)) (cond (Nat.blt pc 20) (cond (Nat.beq pc 19) (some (.iconst 0, 20, 0)) none) (cond (Nat.beq pc 20) (some (.ireturn, 21, 0)) none))) (cond (Nat.blt pc 25) (cond (Nat.blt pc 24) (cond (Nat.beq pc 21) (some (.ldc2_w 93, 24, 0)) none) (cond (Nat.beq pc 24) (some (.iload_n 1, 25, 0)) none)) (cond (Nat.blt pc 26) (cond (Nat.beq pc 25) (some (.i2l, 26, 0)) none) (cond (Nat.beq pc 26) (some (.lmul, 27, 0)) none))))) (cond (Nat.blt pc 38) (cond (Nat.blt pc 31) (cond (Nat.blt pc 29) (cond (Nat.blt pc 28) (cond (Nat.beq pc 27) (some (.lconst 1, 28, 0)) none) (cond (Nat.beq pc 28) (some (.ladd, 29, 0)) none)) (cond (Nat.blt pc 30) (cond (Nat.beq pc 29) (some (.iload_n 3, 30, 0)) none) (cond (Nat.beq pc 30) (some (.i2l, 31, 0)) none))) (cond (Nat.blt pc 34) (cond (Nat.blt pc 32) (cond (Nat.beq pc 31) (some (.lsub, 32, 0)) none) (cond (Nat.beq pc 32) (some (.lstore 5, 34, 0)) none)) (cond (Nat.blt pc 37) (cond (Nat.beq pc 34) (some (.ldc2_w 93, 37, 0)) none) (cond (Nat.beq pc 37) (some (.iload_n 2, 38, 0)) none)))) (cond (Nat.blt pc 42) (cond (Nat.blt pc 40) (cond (Nat.blt pc 39) (cond (Nat.beq pc 38) (some (.i2l, 39, 0)) none) (cond (Nat.beq pc 39) (some (.lmul, 40, 0)) none)) (cond (Nat.blt pc 41) (cond (Nat.beq pc 40) (some (.lconst 1, 41, 0)) none) (cond (Nat.beq pc 41) (some (.ladd, 42, 0)) none))) (cond (Nat.blt pc 45) (cond (Nat.blt pc 44) (cond (Nat.beq pc 42) (some (.iload 4, 44, 0)) none) (cond (Nat.beq pc 44) (some (.i2l, 45, 0)) none)) (cond (Nat.blt pc 46) (cond (Nat.beq pc 45) (some (.lsub, 46, 0)) none) (cond (Nat.blt pc 48) (cond (Nat.beq pc 46) (some (.lstore 7, 48, 0)) none) (cond (Nat.beq pc 48) (some (.iload_n 3, 49, 0)) none))))))) (cond (Nat.blt pc 73) (cond (Nat.blt pc 60) (cond (Nat.blt pc 53) (cond (Nat.blt pc 51) (cond (Nat.blt pc 50) (cond (Nat.beq pc 49) (some (.i2l, 50, 0)) none) (cond (Nat.beq pc 50) (some (.iload_n 3, 51, 0)) none)) (cond (Nat.blt pc 52) (cond (Nat.beq pc 51) (some (.i2l, 52, 0)) none) (cond (Nat.beq pc 52) (some (.lmul, 53, 0)) none))) (cond (Nat.blt pc 57) (cond (Nat.blt pc 55) (cond (Nat.beq pc 53) (some (.lstore 9, 55, 0)) none) (cond (Nat.beq pc 55) (some (.iload 4, 57, 0)) none)) (cond (Nat.blt pc 58) (cond (Nat.beq pc 57) (some (.i2l, 58, 0)) none) (cond (Nat.beq pc 58) (some (.iload 4, 60, 0)) none)))) (cond (Nat.blt pc 65) (cond (Nat.blt pc 62) (cond (Nat.blt pc 61) (cond (Nat.beq pc 60) (some (.i2l, 61, 0)) none) (cond (Nat.beq pc 61) (some (.lmul, 62, 0)) none)) (cond (Nat.blt pc 64) (cond (Nat.beq pc 62) (some (.lstore 11, 64, 0)) none) (cond (Nat.beq pc 64) (some (.iload_n 0, 65, 0)) none))) (cond (Nat.blt pc 70) (cond (Nat.blt pc 68) (cond (Nat.beq pc 65) (some (.ifCond .eq 29, 68, 94)) none) (cond (Nat.beq pc 68) (some (.lload 5, 70, 0)) none)) (cond (Nat.blt pc 72) (cond (Nat.beq pc 70) (some (.lload 5, 72, 0)) none) (cond (Nat.beq pc 72) (some (.lmul, 73, 0)) none))))) (cond (Nat.blt pc 85) (cond (Nat.blt pc 80) (cond (Nat.blt pc 76) (cond (Nat.blt pc 75) (cond (Nat.beq pc 73) (some (.lload 11, 75, 0)) none) (cond (Nat.beq pc 75) (some (.lmul, 76, 0)) none)) (cond (Nat.blt pc 78) (cond (Nat.beq pc 76) (some (.lload 7, 78, 0)) none) (cond (Nat.beq pc 78) (some (.lload 7, 80, 0)) none))) (cond (Nat.blt pc 83) (cond (Nat.blt pc 81) (cond (Nat.beq pc 80) (some (.lmul, 81, 0)) none) (cond (Nat.beq pc 81) (some (.lload 9, 83, 0)) none)) (cond (Nat.blt pc 84) (cond (Nat.beq pc 83) (some (.lmul, 84, 0)) none) (cond (Nat.beq pc 84) (some (.ladd, 85, 0)) none)))) (cond (Nat.blt pc 91) (cond (Nat.blt pc 89) (cond (Nat.blt pc 87) (cond (Nat.beq pc 85) (some (.lload 9, 87, 0)) none) (cond (Nat.beq pc 87) (some (.lload 11, 89, 0)) none)) (cond (Nat.blt pc 90) (cond (Nat.beq pc 89) (some (.lmul, 90, 0)) none) (cond (Nat.beq pc 90) (some (.lcmp, 91, 0)) none))) (cond (Nat.blt pc 95) (cond (Nat.blt pc 94) (cond (Nat.beq pc 91) (some (.ifCond .gt 7, 94, 98)) none) (cond (Nat.beq pc 94) (some (.iconst 1, 95, 0)) none)) (cond (Nat.blt pc 98) (cond (Nat.beq pc 95) (some (.goto 4, 98, 99)) none) (cond (Nat.blt pc 99) (cond (Nat.beq pc 98) (some (.iconst 0, 99, 0)) none) (cond (Nat.beq pc 99) (some (.ireturn, 100, 0)) none)))))))
def m_M_isInShape : MI := (⟨"TileStudioModel", "isInShape", "(IIIII)Z"⟩, prog_10_method_20_code, 13, (Option.some Jvm.ClassFile.FieldType.boolean), [], zmk 100 tb_M_isInShape)
theorem ok_M_isInShape : zok m_M_isInShape := zok_mk rfl (by decide +kernel)
def tb_M_selected : ZT := fun pc => cond (Nat.blt pc 23) (cond (Nat.blt pc 9) (cond (Nat.blt pc 3) (cond (Nat.blt pc 1) (cond (Nat.beq pc 0) (some (.iconst 0, 1, 0)) none) (cond (Nat.blt pc 2) (cond (Nat.beq pc 1) (some (.istore_n 1, 2, 0)) none) (cond (Nat.beq pc 2) (some (.iconst 0, 3, 0)) none))) (cond (Nat.blt pc 5) (cond (Nat.blt pc 4) (cond (Nat.beq pc 3) (some (.istore_n 2, 4, 0)) none) (cond (Nat.beq pc 4) (some (.iload_n 2, 5, 0)) none)) (cond (Nat.blt pc 6) (cond (Nat.beq pc 5) (some (.aload_n 0, 6, 0)) none) (cond (Nat.beq pc 6) (some (.invokevirtual 96, 9, 0)) none)))) (cond (Nat.blt pc 15) (cond (Nat.blt pc 13) (cond (Nat.blt pc 12) (cond (Nat.beq pc 9) (some (.if_icmp .ge 42, 12, 51)) none) (cond (Nat.beq pc 12) (some (.iconst 0, 13, 0)) none)) (cond (Nat.blt pc 14) (cond (Nat.beq pc 13) (some (.istore_n 3, 14, 0)) none) (cond (Nat.beq pc 14) (some (.iload_n 3, 15, 0)) none))) (cond (Nat.blt pc 19) (cond (Nat.blt pc 16) (cond (Nat.beq pc 15) (some (.aload_n 0, 16, 0)) none) (cond (Nat.beq pc 16) (some (.invokevirtual 100, 19, 0)) none)) (cond (Nat.blt pc 22) (cond (Nat.beq pc 19) (some (.if_icmp .ge 26, 22, 45)) none) (cond (Nat.beq pc 22) (some (.iload_n 1, 23, 0)) none))))) (cond (Nat.blt pc 37) (cond (Nat.blt pc 29) (cond (Nat.blt pc 25) (cond (Nat.blt pc 24) (cond (Nat.beq pc 23) (some (.aload_n 0, 24, 0)) none) (cond (Nat.beq pc 24) (some (.iload_n 3, 25, 0)) none)) (cond (Nat.blt pc 26) (cond (Nat.beq pc 25) (some (.iload_n 2, 26, 0)) none) (cond (Nat.beq pc 26) (some (.invokevirtual 110, 29, 0)) none))) (cond (Nat.blt pc 33) (cond (Nat.blt pc 32) (cond (Nat.beq pc 29) (some (.ifCond .eq 7, 32, 36)) none) (cond (Nat.beq pc 32) (some (.iconst 1, 33, 0)) none)) (cond (Nat.blt pc 36) (cond (Nat.beq pc 33) (some (.goto 4, 36, 37)) none) (cond (Nat.beq pc 36) (some (.iconst 0, 37, 0)) none)))) (cond (Nat.blt pc 45) (cond (Nat.blt pc 39) (cond (Nat.blt pc 38) (cond (Nat.beq pc 37) (some (.iadd, 38, 0)) none) (cond (Nat.beq pc 38) (some (.istore_n 1, 39, 0)) none)) (cond (Nat.blt pc 42) (cond (Nat.beq pc 39) (some (.iinc 3 1, 42, 0)) none) (cond (Nat.beq pc 42) (some (.goto (-28), 45, 14)) none))) (cond (Nat.blt pc 51) (cond (Nat.blt pc 48) (cond (Nat.beq pc 45) (some (.iinc 2 1, 48, 0)) none) (cond (Nat.beq pc 48) (some (.goto (-44), 51, 4)) none)) (cond (Nat.blt pc 52) (cond (Nat.beq pc 51) (some (.iload_n 1, 52, 0)) none) (cond (Nat.beq pc 52) (some (.ireturn, 53, 0)) none)))))
def m_M_selected : MI := (⟨"TileStudioModel", "selected", "()I"⟩, prog_10_method_22_code, 4, (Option.some Jvm.ClassFile.FieldType.int), [], zmk 53 tb_M_selected)
theorem ok_M_selected : zok m_M_selected := zok_mk rfl (by decide +kernel)
def tb_M_isChosen : ZT := fun pc => cond (Nat.blt pc 14) (cond (Nat.blt pc 7) (cond (Nat.blt pc 4) (cond (Nat.blt pc 1) (cond (Nat.beq pc 0) (some (.aload_n 0, 1, 0)) none) (cond (Nat.beq pc 1) (some (.getfield 13, 4, 0)) none)) (cond (Nat.blt pc 6) (cond (Nat.beq pc 4) (some (.bipush 24, 6, 0)) none) (cond (Nat.beq pc 6) (some (.aload_n 0, 7, 0)) none))) (cond (Nat.blt pc 11) (cond (Nat.blt pc 10) (cond (Nat.beq pc 7) (some (.getfield 58, 10, 0)) none) (cond (Nat.beq pc 10) (some (.imul, 11, 0)) none)) (cond (Nat.blt pc 12) (cond (Nat.beq pc 11) (some (.iload_n 2, 12, 0)) none) (cond (Nat.blt pc 13) (cond (Nat.beq pc 12) (some (.iadd, 13, 0)) none) (cond (Nat.beq pc 13) (some (.iaload, 14, 0)) none))))) (cond (Nat.blt pc 19) (cond (Nat.blt pc 16) (cond (Nat.blt pc 15) (cond (Nat.beq pc 14) (some (.iload_n 1, 15, 0)) none) (cond (Nat.beq pc 15) (some (.ishr, 16, 0)) none)) (cond (Nat.blt pc 17) (cond (Nat.beq pc 16) (some (.iconst 1, 17, 0)) none) (cond (Nat.blt pc 18) (cond (Nat.beq pc 17) (some (.iand, 18, 0)) none) (cond (Nat.beq pc 18) (some (.iconst 1, 19, 0)) none)))) (cond (Nat.blt pc 23) (cond (Nat.blt pc 22) (cond (Nat.beq pc 19) (some (.if_icmp .ne 7, 22, 26)) none) (cond (Nat.beq pc 22) (some (.iconst 1, 23, 0)) none)) (cond (Nat.blt pc 26) (cond (Nat.beq pc 23) (some (.goto 4, 26, 27)) none) (cond (Nat.blt pc 27) (cond (Nat.beq pc 26) (some (.iconst 0, 27, 0)) none) (cond (Nat.beq pc 27) (some (.ireturn, 28, 0)) none)))))
def m_M_isChosen : MI := (⟨"TileStudioModel", "isChosen", "(II)Z"⟩, prog_10_method_11_code, 3, (Option.some Jvm.ClassFile.FieldType.boolean), [], zmk 28 tb_M_isChosen)
theorem ok_M_isChosen : zok m_M_isChosen := zok_mk rfl (by decide +kernel)
def tb_M_brush : ZT := fun pc => cond (Nat.blt pc 16) (cond (Nat.blt pc 5) (cond (Nat.blt pc 2) (cond (Nat.blt pc 1) (cond (Nat.beq pc 0) (some (.aload_n 0, 1, 0)) none) (cond (Nat.beq pc 1) (some (.iload_n 2, 2, 0)) none)) (cond (Nat.blt pc 3) (cond (Nat.beq pc 2) (some (.iconst 0, 3, 0)) none) (cond (Nat.beq pc 3) (some (.bipush 7, 5, 0)) none))) (cond (Nat.blt pc 11) (cond (Nat.blt pc 8) (cond (Nat.beq pc 5) (some (.invokestatic 71, 8, 0)) none) (cond (Nat.beq pc 8) (some (.ifCond .ne 7, 11, 15)) none)) (cond (Nat.blt pc 12) (cond (Nat.beq pc 11) (some (.iconst 1, 12, 0)) none) (cond (Nat.blt pc 15) (cond (Nat.beq pc 12) (some (.goto 4, 15, 16)) none) (cond (Nat.beq pc 15) (some (.iconst 0, 16, 0)) none))))) (cond (Nat.blt pc 25) (cond (Nat.blt pc 22) (cond (Nat.blt pc 19) (cond (Nat.beq pc 16) (some (.invokevirtual 75, 19, 0)) none) (cond (Nat.beq pc 19) (some (.ifCond .eq 4, 22, 23)) none)) (cond (Nat.blt pc 23) (cond (Nat.beq pc 22) (some (.return_, 23, 0)) none) (cond (Nat.blt pc 24) (cond (Nat.beq pc 23) (some (.aload_n 0, 24, 0)) none) (cond (Nat.beq pc 24) (some (.iload_n 1, 25, 0)) none)))) (cond (Nat.blt pc 29) (cond (Nat.blt pc 28) (cond (Nat.beq pc 25) (some (.putfield 126, 28, 0)) none) (cond (Nat.beq pc 28) (some (.aload_n 0, 29, 0)) none)) (cond (Nat.blt pc 30) (cond (Nat.beq pc 29) (some (.iload_n 2, 30, 0)) none) (cond (Nat.blt pc 33) (cond (Nat.beq pc 30) (some (.putfield 129, 33, 0)) none) (cond (Nat.beq pc 33) (some (.return_, 34, 0)) none)))))
def m_M_brush : MI := (⟨"TileStudioModel", "brush", "(II)V"⟩, prog_10_method_27_code, 3, none, [], zmk 34 tb_M_brush)
theorem ok_M_brush : zok m_M_brush := zok_mk rfl (by decide +kernel)
def tb_M_fill : ZT := fun pc => cond (Nat.blt pc 30) (cond (Nat.blt pc 17) (cond (Nat.blt pc 6) (cond (Nat.blt pc 2) (cond (Nat.blt pc 1) (cond (Nat.beq pc 0) (some (.aload_n 0, 1, 0)) none) (cond (Nat.beq pc 1) (some (.aload_n 0, 2, 0)) none)) (cond (Nat.blt pc 3) (cond (Nat.beq pc 2) (some (.iload_n 1, 3, 0)) none) (cond (Nat.beq pc 3) (some (.invokevirtual 89, 6, 0)) none))) (cond (Nat.blt pc 10) (cond (Nat.blt pc 9) (cond (Nat.beq pc 6) (some (.ifCond .ne 7, 9, 13)) none) (cond (Nat.beq pc 9) (some (.iconst 1, 10, 0)) none)) (cond (Nat.blt pc 13) (cond (Nat.beq pc 10) (some (.goto 4, 13, 14)) none) (cond (Nat.blt pc 14) (cond (Nat.beq pc 13) (some (.iconst 0, 14, 0)) none) (cond (Nat.beq pc 14) (some (.invokevirtual 75, 17, 0)) none))))) (cond (Nat.blt pc 23) (cond (Nat.blt pc 21) (cond (Nat.blt pc 20) (cond (Nat.beq pc 17) (some (.ifCond .eq 4, 20, 21)) none) (cond (Nat.beq pc 20) (some (.return_, 21, 0)) none)) (cond (Nat.blt pc 22) (cond (Nat.beq pc 21) (some (.aload_n 0, 22, 0)) none) (cond (Nat.beq pc 22) (some (.iload_n 1, 23, 0)) none))) (cond (Nat.blt pc 27) (cond (Nat.blt pc 26) (cond (Nat.beq pc 23) (some (.invokevirtual 135, 26, 0)) none) (cond (Nat.beq pc 26) (some (.iconst 0, 27, 0)) none)) (cond (Nat.blt pc 28) (cond (Nat.beq pc 27) (some (.istore_n 3, 28, 0)) none) (cond (Nat.blt pc 29) (cond (Nat.beq pc 28) (some (.iload_n 3, 29, 0)) none) (cond (Nat.beq pc 29) (some (.aload_n 0, 30, 0)) none)))))) (cond (Nat.blt pc 49) (cond (Nat.blt pc 39) (cond (Nat.blt pc 36) (cond (Nat.blt pc 33) (cond (Nat.beq pc 30) (some (.invokevirtual 96, 33, 0)) none) (cond (Nat.beq pc 33) (some (.if_icmp .ge 36, 36, 69)) none)) (cond (Nat.blt pc 37) (cond (Nat.beq pc 36) (some (.iconst 0, 37, 0)) none) (cond (Nat.beq pc 37) (some (.istore 4, 39, 0)) none))) (cond (Nat.blt pc 42) (cond (Nat.blt pc 41) (cond (Nat.beq pc 39) (some (.iload 4, 41, 0)) none) (cond (Nat.beq pc 41) (some (.aload_n 0, 42, 0)) none)) (cond (Nat.blt pc 45) (cond (Nat.beq pc 42) (some (.invokevirtual 100, 45, 0)) none) (cond (Nat.blt pc 48) (cond (Nat.beq pc 45) (some (.if_icmp .ge 18, 48, 63)) none) (cond (Nat.beq pc 48) (some (.aload_n 0, 49, 0)) none))))) (cond (Nat.blt pc 57) (cond (Nat.blt pc 52) (cond (Nat.blt pc 50) (cond (Nat.beq pc 49) (some (.iload_n 1, 50, 0)) none) (cond (Nat.beq pc 50) (some (.iload 4, 52, 0)) none)) (cond (Nat.blt pc 53) (cond (Nat.beq pc 52) (some (.iload_n 3, 53, 0)) none) (cond (Nat.blt pc 54) (cond (Nat.beq pc 53) (some (.iload_n 2, 54, 0)) none) (cond (Nat.beq pc 54) (some (.invokevirtual 138, 57, 0)) none)))) (cond (Nat.blt pc 63) (cond (Nat.blt pc 60) (cond (Nat.beq pc 57) (some (.iinc 4 1, 60, 0)) none) (cond (Nat.beq pc 60) (some (.goto (-21), 63, 39)) none)) (cond (Nat.blt pc 66) (cond (Nat.beq pc 63) (some (.iinc 3 1, 66, 0)) none) (cond (Nat.blt pc 69) (cond (Nat.beq pc 66) (some (.goto (-38), 69, 28)) none) (cond (Nat.beq pc 69) (some (.return_, 70, 0)) none))))))
def m_M_fill : MI := (⟨"TileStudioModel", "fill", "(II)V"⟩, prog_10_method_30_code, 5, none, [], zmk 70 tb_M_fill)
theorem ok_M_fill : zok m_M_fill := zok_mk rfl (by decide +kernel)
def tb_M_beginTool : ZT := fun pc => cond (Nat.blt pc 30) (cond (Nat.blt pc 14) (cond (Nat.blt pc 6) (cond (Nat.blt pc 4) (cond (Nat.blt pc 1) (cond (Nat.beq pc 0) (some (.aload_n 0, 1, 0)) none) (cond (Nat.beq pc 1) (some (.invokevirtual 83, 4, 0)) none)) (cond (Nat.blt pc 5) (cond (Nat.beq pc 4) (some (.iconst 0, 5, 0)) none) (cond (Nat.beq pc 5) (some (.istore_n 2, 6, 0)) none))) (cond (Nat.blt pc 8) (cond (Nat.blt pc 7) (cond (Nat.beq pc 6) (some (.iload_n 2, 7, 0)) none) (cond (Nat.beq pc 7) (some (.aload_n 0, 8, 0)) none)) (cond (Nat.blt pc 11) (cond (Nat.beq pc 8) (some (.invokevirtual 96, 11, 0)) none) (cond (Nat.beq pc 11) (some (.if_icmp .ge 48, 14, 59)) none)))) (cond (Nat.blt pc 18) (cond (Nat.blt pc 16) (cond (Nat.blt pc 15) (cond (Nat.beq pc 14) (some (.iconst 0, 15, 0)) none) (cond (Nat.beq pc 15) (some (.istore_n 3, 16, 0)) none)) (cond (Nat.blt pc 17) (cond (Nat.beq pc 16) (some (.iload_n 3, 17, 0)) none) (cond (Nat.beq pc 17) (some (.aload_n 0, 18, 0)) none))) (cond (Nat.blt pc 24) (cond (Nat.blt pc 21) (cond (Nat.beq pc 18) (some (.invokevirtual 100, 21, 0)) none) (cond (Nat.beq pc 21) (some (.if_icmp .ge 32, 24, 53)) none)) (cond (Nat.blt pc 25) (cond (Nat.beq pc 24) (some (.aload_n 0, 25, 0)) none) (cond (Nat.blt pc 28) (cond (Nat.beq pc 25) (some (.getfield 41, 28, 0)) none) (cond (Nat.beq pc 28) (some (.bipush 24, 30, 0)) none)))))) (cond (Nat.blt pc 41) (cond (Nat.blt pc 34) (cond (Nat.blt pc 32) (cond (Nat.blt pc 31) (cond (Nat.beq pc 30) (some (.iload_n 2, 31, 0)) none) (cond (Nat.beq pc 31) (some (.imul, 32, 0)) none)) (cond (Nat.blt pc 33) (cond (Nat.beq pc 32) (some (.iload_n 3, 33, 0)) none) (cond (Nat.beq pc 33) (some (.iadd, 34, 0)) none))) (cond (Nat.blt pc 38) (cond (Nat.blt pc 35) (cond (Nat.beq pc 34) (some (.aload_n 0, 35, 0)) none) (cond (Nat.beq pc 35) (some (.getfield 7, 38, 0)) none)) (cond (Nat.blt pc 39) (cond (Nat.beq pc 38) (some (.aload_n 0, 39, 0)) none) (cond (Nat.blt pc 40) (cond (Nat.beq pc 39) (some (.iload_n 1, 40, 0)) none) (cond (Nat.beq pc 40) (some (.iload_n 3, 41, 0)) none))))) (cond (Nat.blt pc 47) (cond (Nat.blt pc 45) (cond (Nat.blt pc 42) (cond (Nat.beq pc 41) (some (.iload_n 2, 42, 0)) none) (cond (Nat.beq pc 42) (some (.invokevirtual 132, 45, 0)) none)) (cond (Nat.blt pc 46) (cond (Nat.beq pc 45) (some (.iaload, 46, 0)) none) (cond (Nat.beq pc 46) (some (.iastore, 47, 0)) none))) (cond (Nat.blt pc 53) (cond (Nat.blt pc 50) (cond (Nat.beq pc 47) (some (.iinc 3 1, 50, 0)) none) (cond (Nat.beq pc 50) (some (.goto (-34), 53, 16)) none)) (cond (Nat.blt pc 56) (cond (Nat.beq pc 53) (some (.iinc 2 1, 56, 0)) none) (cond (Nat.blt pc 59) (cond (Nat.beq pc 56) (some (.goto (-50), 59, 6)) none) (cond (Nat.beq pc 59) (some (.return_, 60, 0)) none))))))
def m_M_beginTool : MI := (⟨"TileStudioModel", "beginTool", "(I)V"⟩, prog_10_method_28_code, 4, none, [], zmk 60 tb_M_beginTool)
theorem ok_M_beginTool : zok m_M_beginTool := zok_mk rfl (by decide +kernel)
def tb_M_at : ZT := fun pc => cond (Nat.blt pc 13) (cond (Nat.blt pc 7) (cond (Nat.blt pc 3) (cond (Nat.beq pc 0) (some (.sipush 1728, 3, 0)) none) (cond (Nat.blt pc 4) (cond (Nat.beq pc 3) (some (.aload_n 0, 4, 0)) none) (cond (Nat.beq pc 4) (some (.getfield 58, 7, 0)) none))) (cond (Nat.blt pc 11) (cond (Nat.blt pc 8) (cond (Nat.beq pc 7) (some (.imul, 8, 0)) none) (cond (Nat.beq pc 8) (some (.sipush 576, 11, 0)) none)) (cond (Nat.blt pc 12) (cond (Nat.beq pc 11) (some (.iload_n 1, 12, 0)) none) (cond (Nat.beq pc 12) (some (.imul, 13, 0)) none)))) (cond (Nat.blt pc 18) (cond (Nat.blt pc 16) (cond (Nat.blt pc 14) (cond (Nat.beq pc 13) (some (.iadd, 14, 0)) none) (cond (Nat.beq pc 14) (some (.bipush 24, 16, 0)) none)) (cond (Nat.blt pc 17) (cond (Nat.beq pc 16) (some (.iload_n 3, 17, 0)) none) (cond (Nat.beq pc 17) (some (.imul, 18, 0)) none))) (cond (Nat.blt pc 20) (cond (Nat.blt pc 19) (cond (Nat.beq pc 18) (some (.iadd, 19, 0)) none) (cond (Nat.beq pc 19) (some (.iload_n 2, 20, 0)) none)) (cond (Nat.blt pc 21) (cond (Nat.beq pc 20) (some (.iadd, 21, 0)) none) (cond (Nat.beq pc 21) (some (.ireturn, 22, 0)) none))))
def m_M_at : MI := (⟨"TileStudioModel", "at", "(III)I"⟩, prog_10_method_10_code, 4, (Option.some Jvm.ClassFile.FieldType.int), [], zmk 22 tb_M_at)
theorem ok_M_at : zok m_M_at := zok_mk rfl (by decide +kernel)
def tb_M_put : ZT := fun pc => cond (Nat.blt pc 13) (cond (Nat.blt pc 3) (cond (Nat.blt pc 1) (cond (Nat.beq pc 0) (some (.aload_n 0, 1, 0)) none) (cond (Nat.blt pc 2) (cond (Nat.beq pc 1) (some (.iload_n 2, 2, 0)) none) (cond (Nat.beq pc 2) (some (.iload_n 3, 3, 0)) none))) (cond (Nat.blt pc 9) (cond (Nat.blt pc 6) (cond (Nat.beq pc 3) (some (.invokevirtual 110, 6, 0)) none) (cond (Nat.beq pc 6) (some (.ifCond .eq 17, 9, 23)) none)) (cond (Nat.blt pc 10) (cond (Nat.beq pc 9) (some (.aload_n 0, 10, 0)) none) (cond (Nat.beq pc 10) (some (.getfield 7, 13, 0)) none)))) (cond (Nat.blt pc 17) (cond (Nat.blt pc 15) (cond (Nat.blt pc 14) (cond (Nat.beq pc 13) (some (.aload_n 0, 14, 0)) none) (cond (Nat.beq pc 14) (some (.iload_n 1, 15, 0)) none)) (cond (Nat.blt pc 16) (cond (Nat.beq pc 15) (some (.iload_n 2, 16, 0)) none) (cond (Nat.beq pc 16) (some (.iload_n 3, 17, 0)) none))) (cond (Nat.blt pc 22) (cond (Nat.blt pc 20) (cond (Nat.beq pc 17) (some (.invokevirtual 132, 20, 0)) none) (cond (Nat.beq pc 20) (some (.iload 4, 22, 0)) none)) (cond (Nat.blt pc 23) (cond (Nat.beq pc 22) (some (.iastore, 23, 0)) none) (cond (Nat.beq pc 23) (some (.return_, 24, 0)) none))))
def m_M_put : MI := (⟨"TileStudioModel", "put", "(IIII)V"⟩, prog_10_method_29_code, 5, none, [], zmk 24 tb_M_put)
theorem ok_M_put : zok m_M_put := zok_mk rfl (by decide +kernel)
def tb_M_gradient : ZT := fun pc => cond (Nat.blt pc 100) (cond (Nat.blt pc 49) (cond (Nat.blt pc 23) (cond (Nat.blt pc 11) (cond (Nat.blt pc 3) (cond (Nat.blt pc 1) (cond (Nat.beq pc 0) (some (.aload_n 0, 1, 0)) none) (cond (Nat.blt pc 2) (cond (Nat.beq pc 1) (some (.aload_n 0, 2, 0)) none) (cond (Nat.beq pc 2) (some (.iload_n 1, 3, 0)) none))) (cond (Nat.blt pc 6) (cond (Nat.beq pc 3) (some (.invokevirtual 89, 6, 0)) none) (cond (Nat.blt pc 9) (cond (Nat.beq pc 6) (some (.ifCond .eq 13, 9, 19)) none) (cond (Nat.beq pc 9) (some (.iload 4, 11, 0)) none)))) (cond (Nat.blt pc 16) (cond (Nat.blt pc 12) (cond (Nat.beq pc 11) (some (.iconst 0, 12, 0)) none) (cond (Nat.blt pc 13) (cond (Nat.beq pc 12) (some (.iconst 1, 13, 0)) none) (cond (Nat.beq pc 13) (some (.invokestatic 71, 16, 0)) none))) (cond (Nat.blt pc 19) (cond (Nat.beq pc 16) (some (.ifCond .ne 7, 19, 23)) none) (cond (Nat.blt pc 20) (cond (Nat.beq pc 19) (some (.iconst 1, 20, 0)) none) (cond (Nat.beq pc 20) (some (.goto 4, 23, 24)) none))))) (cond (Nat.blt pc 33) (cond (Nat.blt pc 30) (cond (Nat.blt pc 24) (cond (Nat.beq pc 23) (some (.iconst 0, 24, 0)) none) (cond (Nat.blt pc 27) (cond (Nat.beq pc 24) (some (.invokevirtual 75, 27, 0)) none) (cond (Nat.beq pc 27) (some (.ifCond .eq 4, 30, 31)) none))) (cond (Nat.blt pc 31) (cond (Nat.beq pc 30) (some (.return_, 31, 0)) none) (cond (Nat.blt pc 32) (cond (Nat.beq pc 31) (some (.aload_n 0, 32, 0)) none) (cond (Nat.beq pc 32) (some (.iload_n 1, 33, 0)) none)))) (cond (Nat.blt pc 41) (cond (Nat.blt pc 36) (cond (Nat.beq pc 33) (some (.invokevirtual 135, 36, 0)) none) (cond (Nat.blt pc 38) (cond (Nat.beq pc 36) (some (.iload 4, 38, 0)) none) (cond (Nat.beq pc 38) (some (.ifCond .ne 10, 41, 48)) none))) (cond (Nat.blt pc 45) (cond (Nat.blt pc 42) (cond (Nat.beq pc 41) (some (.aload_n 0, 42, 0)) none) (cond (Nat.beq pc 42) (some (.invokevirtual 100, 45, 0)) none)) (cond (Nat.blt pc 48) (cond (Nat.beq pc 45) (some (.goto 7, 48, 52)) none) (cond (Nat.beq pc 48) (some (.aload_n 0, 49, 0)) none)))))) (cond (Nat.blt pc 73) (cond (Nat.blt pc 59) (cond (Nat.blt pc 54) (cond (Nat.blt pc 52) (cond (Nat.beq pc 49) (some (.invokevirtual 96, 52, 0)) none) (cond (Nat.blt pc 53) (cond (Nat.beq pc 52) (some (.iconst 1, 53, 0)) none) (cond (Nat.beq pc 53) (some (.isub, 54, 0)) none))) (cond (Nat.blt pc 56) (cond (Nat.beq pc 54) (some (.istore 5, 56, 0)) none) (cond (Nat.blt pc 57) (cond (Nat.beq pc 56) (some (.iconst 0, 57, 0)) none) (cond (Nat.beq pc 57) (some (.istore 6, 59, 0)) none)))) (cond (Nat.blt pc 65) (cond (Nat.blt pc 61) (cond (Nat.beq pc 59) (some (.iload 6, 61, 0)) none) (cond (Nat.blt pc 62) (cond (Nat.beq pc 61) (some (.aload_n 0, 62, 0)) none) (cond (Nat.beq pc 62) (some (.invokevirtual 96, 65, 0)) none))) (cond (Nat.blt pc 69) (cond (Nat.blt pc 68) (cond (Nat.beq pc 65) (some (.if_icmp .ge 132, 68, 197)) none) (cond (Nat.beq pc 68) (some (.iconst 0, 69, 0)) none)) (cond (Nat.blt pc 71) (cond (Nat.beq pc 69) (some (.istore 7, 71, 0)) none) (cond (Nat.beq pc 71) (some (.iload 7, 73, 0)) none))))) (cond (Nat.blt pc 87) (cond (Nat.blt pc 80) (cond (Nat.blt pc 74) (cond (Nat.beq pc 73) (some (.aload_n 0, 74, 0)) none) (cond (Nat.blt pc 77) (cond (Nat.beq pc 74) (some (.invokevirtual 100, 77, 0)) none) (cond (Nat.beq pc 77) (some (.if_icmp .ge 114, 80, 191)) none))) (cond (Nat.blt pc 82) (cond (Nat.beq pc 80) (some (.iload 4, 82, 0)) none) (cond (Nat.blt pc 85) (cond (Nat.beq pc 82) (some (.ifCond .ne 8, 85, 90)) none) (cond (Nat.beq pc 85) (some (.iload 7, 87, 0)) none)))) (cond (Nat.blt pc 94) (cond (Nat.blt pc 90) (cond (Nat.beq pc 87) (some (.goto 5, 90, 92)) none) (cond (Nat.blt pc 92) (cond (Nat.beq pc 90) (some (.iload 6, 92, 0)) none) (cond (Nat.beq pc 92) (some (.istore 8, 94, 0)) none))) (cond (Nat.blt pc 97) (cond (Nat.blt pc 95) (cond (Nat.beq pc 94) (some (.iconst 0, 95, 0)) none) (cond (Nat.beq pc 95) (some (.istore 9, 97, 0)) none)) (cond (Nat.blt pc 98) (cond (Nat.beq pc 97) (some (.iconst 0, 98, 0)) none) (cond (Nat.beq pc 98) (some (.istore 10, 100, 0)) none))))))) (cond (Nat.blt pc 147) (cond (Nat.blt pc 128) (cond (Nat.blt pc 112) (cond (Nat.blt pc 106) (cond (Nat.blt pc 102) (cond (Nat.beq pc 100) (some (.iload 10, 102, 0)) none) (cond (Nat.blt pc 103) (cond (Nat.beq pc 102) (some (.iconst 4, 103, 0)) none) (cond (Nat.beq pc 103) (some (.if_icmp .ge 71, 106, 174)) none))) (cond (Nat.blt pc 108) (cond (Nat.beq pc 106) (some (.iload 5, 108, 0)) none) (cond (Nat.blt pc 111) (cond (Nat.beq pc 108) (some (.ifCond .ne 12, 111, 120)) none) (cond (Nat.beq pc 111) (some (.iload_n 2, 112, 0)) none)))) (cond (Nat.blt pc 120) (cond (Nat.blt pc 114) (cond (Nat.beq pc 112) (some (.iload 10, 114, 0)) none) (cond (Nat.blt pc 117) (cond (Nat.beq pc 114) (some (.invokestatic 118, 117, 0)) none) (cond (Nat.beq pc 117) (some (.goto 33, 120, 150)) none))) (cond (Nat.blt pc 123) (cond (Nat.blt pc 121) (cond (Nat.beq pc 120) (some (.iload_n 2, 121, 0)) none) (cond (Nat.beq pc 121) (some (.iload 10, 123, 0)) none)) (cond (Nat.blt pc 126) (cond (Nat.beq pc 123) (some (.invokestatic 118, 126, 0)) none) (cond (Nat.beq pc 126) (some (.iload 5, 128, 0)) none))))) (cond (Nat.blt pc 138) (cond (Nat.blt pc 132) (cond (Nat.blt pc 130) (cond (Nat.beq pc 128) (some (.iload 8, 130, 0)) none) (cond (Nat.blt pc 131) (cond (Nat.beq pc 130) (some (.isub, 131, 0)) none) (cond (Nat.beq pc 131) (some (.imul, 132, 0)) none))) (cond (Nat.blt pc 133) (cond (Nat.beq pc 132) (some (.iload_n 3, 133, 0)) none) (cond (Nat.blt pc 135) (cond (Nat.beq pc 133) (some (.iload 10, 135, 0)) none) (cond (Nat.beq pc 135) (some (.invokestatic 118, 138, 0)) none)))) (cond (Nat.blt pc 142) (cond (Nat.blt pc 140) (cond (Nat.beq pc 138) (some (.iload 8, 140, 0)) none) (cond (Nat.blt pc 141) (cond (Nat.beq pc 140) (some (.imul, 141, 0)) none) (cond (Nat.beq pc 141) (some (.iadd, 142, 0)) none))) (cond (Nat.blt pc 145) (cond (Nat.blt pc 144) (cond (Nat.beq pc 142) (some (.iload 5, 144, 0)) none) (cond (Nat.beq pc 144) (some (.iconst 2, 145, 0)) none)) (cond (Nat.blt pc 146) (cond (Nat.beq pc 145) (some (.idiv, 146, 0)) none) (cond (Nat.beq pc 146) (some (.iadd, 147, 0)) none)))))) (cond (Nat.blt pc 168) (cond (Nat.blt pc 158) (cond (Nat.blt pc 152) (cond (Nat.blt pc 149) (cond (Nat.beq pc 147) (some (.iload 5, 149, 0)) none) (cond (Nat.blt pc 150) (cond (Nat.beq pc 149) (some (.idiv, 150, 0)) none) (cond (Nat.beq pc 150) (some (.istore 11, 152, 0)) none))) (cond (Nat.blt pc 154) (cond (Nat.beq pc 152) (some (.iload 9, 154, 0)) none) (cond (Nat.blt pc 156) (cond (Nat.beq pc 154) (some (.iload 11, 156, 0)) none) (cond (Nat.beq pc 156) (some (.bipush 24, 158, 0)) none)))) (cond (Nat.blt pc 163) (cond (Nat.blt pc 160) (cond (Nat.beq pc 158) (some (.bipush 8, 160, 0)) none) (cond (Nat.blt pc 162) (cond (Nat.beq pc 160) (some (.iload 10, 162, 0)) none) (cond (Nat.beq pc 162) (some (.imul, 163, 0)) none))) (cond (Nat.blt pc 165) (cond (Nat.blt pc 164) (cond (Nat.beq pc 163) (some (.isub, 164, 0)) none) (cond (Nat.beq pc 164) (some (.ishl, 165, 0)) none)) (cond (Nat.blt pc 166) (cond (Nat.beq pc 165) (some (.ior, 166, 0)) none) (cond (Nat.beq pc 166) (some (.istore 9, 168, 0)) none))))) (cond (Nat.blt pc 180) (cond (Nat.blt pc 175) (cond (Nat.blt pc 171) (cond (Nat.beq pc 168) (some (.iinc 10 1, 171, 0)) none) (cond (Nat.blt pc 174) (cond (Nat.beq pc 171) (some (.goto (-71), 174, 100)) none) (cond (Nat.beq pc 174) (some (.aload_n 0, 175, 0)) none))) (cond (Nat.blt pc 176) (cond (Nat.beq pc 175) (some (.iload_n 1, 176, 0)) none) (cond (Nat.blt pc 178) (cond (Nat.beq pc 176) (some (.iload 7, 178, 0)) none) (cond (Nat.beq pc 178) (some (.iload 6, 180, 0)) none)))) (cond (Nat.blt pc 188) (cond (Nat.blt pc 182) (cond (Nat.beq pc 180) (some (.iload 9, 182, 0)) none) (cond (Nat.blt pc 185) (cond (Nat.beq pc 182) (some (.invokevirtual 138, 185, 0)) none) (cond (Nat.beq pc 185) (some (.iinc 7 1, 188, 0)) none))) (cond (Nat.blt pc 194) (cond (Nat.blt pc 191) (cond (Nat.beq pc 188) (some (.goto (-117), 191, 71)) none) (cond (Nat.beq pc 191) (some (.iinc 6 1, 194, 0)) none)) (cond (Nat.blt pc 197) (cond (Nat.beq pc 194) (some (.goto (-135), 197, 59)) none) (cond (Nat.beq pc 197) (some (.return_, 198, 0)) none)))))))
def m_M_gradient : MI := (⟨"TileStudioModel", "gradient", "(IIII)V"⟩, prog_10_method_31_code, 12, none, [], zmk 198 tb_M_gradient)
theorem ok_M_gradient : zok m_M_gradient := zok_mk rfl (by decide +kernel)
def tb_M_part : ZT := fun pc => cond (Nat.blt pc 7) (cond (Nat.blt pc 3) (cond (Nat.blt pc 1) (cond (Nat.beq pc 0) (some (.iload_n 0, 1, 0)) none) (cond (Nat.beq pc 1) (some (.bipush 24, 3, 0)) none)) (cond (Nat.blt pc 5) (cond (Nat.beq pc 3) (some (.bipush 8, 5, 0)) none) (cond (Nat.blt pc 6) (cond (Nat.beq pc 5) (some (.iload_n 1, 6, 0)) none) (cond (Nat.beq pc 6) (some (.imul, 7, 0)) none)))) (cond (Nat.blt pc 9) (cond (Nat.blt pc 8) (cond (Nat.beq pc 7) (some (.isub, 8, 0)) none) (cond (Nat.beq pc 8) (some (.ishr, 9, 0)) none)) (cond (Nat.blt pc 12) (cond (Nat.beq pc 9) (some (.sipush 255, 12, 0)) none) (cond (Nat.blt pc 13) (cond (Nat.beq pc 12) (some (.iand, 13, 0)) none) (cond (Nat.beq pc 13) (some (.ireturn, 14, 0)) none))))
def m_M_part : MI := (⟨"TileStudioModel", "part", "(II)I"⟩, prog_10_method_23_code, 2, (Option.some Jvm.ClassFile.FieldType.int), [], zmk 14 tb_M_part)
theorem ok_M_part : zok m_M_part := zok_mk rfl (by decide +kernel)
def tb_M_stroke : ZT := fun pc => cond (Nat.blt pc 184) (cond (Nat.blt pc 92) (cond (Nat.blt pc 39) (cond (Nat.blt pc 19) (cond (Nat.blt pc 9) (cond (Nat.blt pc 4) (cond (Nat.blt pc 1) (cond (Nat.beq pc 0) (some (.iload_n 2, 1, 0)) none) (cond (Nat.beq pc 1) (some (.invokestatic 142, 4, 0)) none)) (cond (Nat.blt pc 6) (cond (Nat.beq pc 4) (some (.istore 4, 6, 0)) none) (cond (Nat.blt pc 7) (cond (Nat.beq pc 6) (some (.iload_n 2, 7, 0)) none) (cond (Nat.beq pc 7) (some (.bipush 16, 9, 0)) none)))) (cond (Nat.blt pc 13) (cond (Nat.blt pc 10) (cond (Nat.beq pc 9) (some (.ishr, 10, 0)) none) (cond (Nat.blt pc 12) (cond (Nat.beq pc 10) (some (.istore 5, 12, 0)) none) (cond (Nat.beq pc 12) (some (.iload_n 3, 13, 0)) none))) (cond (Nat.blt pc 16) (cond (Nat.beq pc 13) (some (.invokestatic 142, 16, 0)) none) (cond (Nat.blt pc 18) (cond (Nat.beq pc 16) (some (.istore 6, 18, 0)) none) (cond (Nat.beq pc 18) (some (.iload_n 3, 19, 0)) none))))) (cond (Nat.blt pc 26) (cond (Nat.blt pc 22) (cond (Nat.blt pc 21) (cond (Nat.beq pc 19) (some (.bipush 16, 21, 0)) none) (cond (Nat.beq pc 21) (some (.ishr, 22, 0)) none)) (cond (Nat.blt pc 24) (cond (Nat.beq pc 22) (some (.istore 7, 24, 0)) none) (cond (Nat.blt pc 25) (cond (Nat.beq pc 24) (some (.aload_n 0, 25, 0)) none) (cond (Nat.beq pc 25) (some (.aload_n 0, 26, 0)) none)))) (cond (Nat.blt pc 33) (cond (Nat.blt pc 27) (cond (Nat.beq pc 26) (some (.iload_n 1, 27, 0)) none) (cond (Nat.blt pc 30) (cond (Nat.beq pc 27) (some (.invokevirtual 89, 30, 0)) none) (cond (Nat.beq pc 30) (some (.ifCond .eq 51, 33, 81)) none))) (cond (Nat.blt pc 35) (cond (Nat.beq pc 33) (some (.iload 4, 35, 0)) none) (cond (Nat.blt pc 37) (cond (Nat.beq pc 35) (some (.bipush (-100), 37, 0)) none) (cond (Nat.beq pc 37) (some (.bipush 100, 39, 0)) none)))))) (cond (Nat.blt pc 66) (cond (Nat.blt pc 51) (cond (Nat.blt pc 45) (cond (Nat.blt pc 42) (cond (Nat.beq pc 39) (some (.invokestatic 71, 42, 0)) none) (cond (Nat.beq pc 42) (some (.ifCond .eq 39, 45, 81)) none)) (cond (Nat.blt pc 47) (cond (Nat.beq pc 45) (some (.iload 5, 47, 0)) none) (cond (Nat.blt pc 49) (cond (Nat.beq pc 47) (some (.bipush (-100), 49, 0)) none) (cond (Nat.beq pc 49) (some (.bipush 100, 51, 0)) none)))) (cond (Nat.blt pc 59) (cond (Nat.blt pc 54) (cond (Nat.beq pc 51) (some (.invokestatic 71, 54, 0)) none) (cond (Nat.blt pc 57) (cond (Nat.beq pc 54) (some (.ifCond .eq 27, 57, 81)) none) (cond (Nat.beq pc 57) (some (.iload 6, 59, 0)) none))) (cond (Nat.blt pc 61) (cond (Nat.beq pc 59) (some (.bipush (-100), 61, 0)) none) (cond (Nat.blt pc 63) (cond (Nat.beq pc 61) (some (.bipush 100, 63, 0)) none) (cond (Nat.beq pc 63) (some (.invokestatic 71, 66, 0)) none))))) (cond (Nat.blt pc 78) (cond (Nat.blt pc 71) (cond (Nat.blt pc 69) (cond (Nat.beq pc 66) (some (.ifCond .eq 15, 69, 81)) none) (cond (Nat.beq pc 69) (some (.iload 7, 71, 0)) none)) (cond (Nat.blt pc 73) (cond (Nat.beq pc 71) (some (.bipush (-100), 73, 0)) none) (cond (Nat.blt pc 75) (cond (Nat.beq pc 73) (some (.bipush 100, 75, 0)) none) (cond (Nat.beq pc 75) (some (.invokestatic 71, 78, 0)) none)))) (cond (Nat.blt pc 85) (cond (Nat.blt pc 81) (cond (Nat.beq pc 78) (some (.ifCond .ne 7, 81, 85)) none) (cond (Nat.blt pc 82) (cond (Nat.beq pc 81) (some (.iconst 1, 82, 0)) none) (cond (Nat.beq pc 82) (some (.goto 4, 85, 86)) none))) (cond (Nat.blt pc 86) (cond (Nat.beq pc 85) (some (.iconst 0, 86, 0)) none) (cond (Nat.blt pc 89) (cond (Nat.beq pc 86) (some (.invokevirtual 75, 89, 0)) none) (cond (Nat.beq pc 89) (some (.ifCond .eq 4, 92, 93)) none))))))) (cond (Nat.blt pc 139) (cond (Nat.blt pc 115) (cond (Nat.blt pc 100) (cond (Nat.blt pc 94) (cond (Nat.blt pc 93) (cond (Nat.beq pc 92) (some (.return_, 93, 0)) none) (cond (Nat.beq pc 93) (some (.aload_n 0, 94, 0)) none)) (cond (Nat.blt pc 95) (cond (Nat.beq pc 94) (some (.iload_n 1, 95, 0)) none) (cond (Nat.blt pc 98) (cond (Nat.beq pc 95) (some (.invokevirtual 135, 98, 0)) none) (cond (Nat.beq pc 98) (some (.iload 4, 100, 0)) none)))) (cond (Nat.blt pc 107) (cond (Nat.blt pc 102) (cond (Nat.beq pc 100) (some (.iload 6, 102, 0)) none) (cond (Nat.blt pc 105) (cond (Nat.beq pc 102) (some (.invokestatic 145, 105, 0)) none) (cond (Nat.beq pc 105) (some (.iload 5, 107, 0)) none))) (cond (Nat.blt pc 109) (cond (Nat.beq pc 107) (some (.iload 7, 109, 0)) none) (cond (Nat.blt pc 112) (cond (Nat.beq pc 109) (some (.invokestatic 145, 112, 0)) none) (cond (Nat.beq pc 112) (some (.if_icmp .le 13, 115, 125)) none))))) (cond (Nat.blt pc 127) (cond (Nat.blt pc 119) (cond (Nat.blt pc 117) (cond (Nat.beq pc 115) (some (.iload 4, 117, 0)) none) (cond (Nat.beq pc 117) (some (.iload 6, 119, 0)) none)) (cond (Nat.blt pc 122) (cond (Nat.beq pc 119) (some (.invokestatic 145, 122, 0)) none) (cond (Nat.blt pc 125) (cond (Nat.beq pc 122) (some (.goto 10, 125, 132)) none) (cond (Nat.beq pc 125) (some (.iload 5, 127, 0)) none)))) (cond (Nat.blt pc 134) (cond (Nat.blt pc 129) (cond (Nat.beq pc 127) (some (.iload 7, 129, 0)) none) (cond (Nat.blt pc 132) (cond (Nat.beq pc 129) (some (.invokestatic 145, 132, 0)) none) (cond (Nat.beq pc 132) (some (.istore 8, 134, 0)) none))) (cond (Nat.blt pc 135) (cond (Nat.beq pc 134) (some (.iconst 0, 135, 0)) none) (cond (Nat.blt pc 137) (cond (Nat.beq pc 135) (some (.istore 9, 137, 0)) none) (cond (Nat.beq pc 137) (some (.iload 9, 139, 0)) none)))))) (cond (Nat.blt pc 161) (cond (Nat.blt pc 149) (cond (Nat.blt pc 143) (cond (Nat.blt pc 140) (cond (Nat.beq pc 139) (some (.aload_n 0, 140, 0)) none) (cond (Nat.beq pc 140) (some (.invokevirtual 96, 143, 0)) none)) (cond (Nat.blt pc 146) (cond (Nat.beq pc 143) (some (.if_icmp .ge 201, 146, 344)) none) (cond (Nat.blt pc 147) (cond (Nat.beq pc 146) (some (.iconst 0, 147, 0)) none) (cond (Nat.beq pc 147) (some (.istore 10, 149, 0)) none)))) (cond (Nat.blt pc 155) (cond (Nat.blt pc 151) (cond (Nat.beq pc 149) (some (.iload 10, 151, 0)) none) (cond (Nat.blt pc 152) (cond (Nat.beq pc 151) (some (.aload_n 0, 152, 0)) none) (cond (Nat.beq pc 152) (some (.invokevirtual 100, 155, 0)) none))) (cond (Nat.blt pc 158) (cond (Nat.beq pc 155) (some (.if_icmp .ge 183, 158, 338)) none) (cond (Nat.blt pc 159) (cond (Nat.beq pc 158) (some (.iconst 0, 159, 0)) none) (cond (Nat.beq pc 159) (some (.istore 11, 161, 0)) none))))) (cond (Nat.blt pc 171) (cond (Nat.blt pc 164) (cond (Nat.blt pc 162) (cond (Nat.beq pc 161) (some (.iconst 0, 162, 0)) none) (cond (Nat.beq pc 162) (some (.istore 12, 164, 0)) none)) (cond (Nat.blt pc 166) (cond (Nat.beq pc 164) (some (.iload 12, 166, 0)) none) (cond (Nat.blt pc 168) (cond (Nat.beq pc 166) (some (.iload 8, 168, 0)) none) (cond (Nat.beq pc 168) (some (.if_icmp .gt 126, 171, 294)) none)))) (cond (Nat.blt pc 178) (cond (Nat.blt pc 173) (cond (Nat.beq pc 171) (some (.iload 8, 173, 0)) none) (cond (Nat.blt pc 176) (cond (Nat.beq pc 173) (some (.ifCond .ne 8, 176, 181)) none) (cond (Nat.beq pc 176) (some (.iload 4, 178, 0)) none))) (cond (Nat.blt pc 181) (cond (Nat.beq pc 178) (some (.goto 26, 181, 204)) none) (cond (Nat.blt pc 183) (cond (Nat.beq pc 181) (some (.iload 4, 183, 0)) none) (cond (Nat.beq pc 183) (some (.iconst 2, 184, 0)) none)))))))) (cond (Nat.blt pc 259) (cond (Nat.blt pc 222) (cond (Nat.blt pc 200) (cond (Nat.blt pc 192) (cond (Nat.blt pc 187) (cond (Nat.blt pc 186) (cond (Nat.beq pc 184) (some (.iload 12, 186, 0)) none) (cond (Nat.beq pc 186) (some (.imul, 187, 0)) none)) (cond (Nat.blt pc 189) (cond (Nat.beq pc 187) (some (.iload 6, 189, 0)) none) (cond (Nat.blt pc 191) (cond (Nat.beq pc 189) (some (.iload 4, 191, 0)) none) (cond (Nat.beq pc 191) (some (.isub, 192, 0)) none)))) (cond (Nat.blt pc 196) (cond (Nat.blt pc 193) (cond (Nat.beq pc 192) (some (.imul, 193, 0)) none) (cond (Nat.blt pc 195) (cond (Nat.beq pc 193) (some (.iload 8, 195, 0)) none) (cond (Nat.beq pc 195) (some (.iadd, 196, 0)) none))) (cond (Nat.blt pc 197) (cond (Nat.beq pc 196) (some (.iconst 2, 197, 0)) none) (cond (Nat.blt pc 199) (cond (Nat.beq pc 197) (some (.iload 8, 199, 0)) none) (cond (Nat.beq pc 199) (some (.imul, 200, 0)) none))))) (cond (Nat.blt pc 211) (cond (Nat.blt pc 204) (cond (Nat.blt pc 203) (cond (Nat.beq pc 200) (some (.invokestatic 148, 203, 0)) none) (cond (Nat.beq pc 203) (some (.iadd, 204, 0)) none)) (cond (Nat.blt pc 206) (cond (Nat.beq pc 204) (some (.istore 13, 206, 0)) none) (cond (Nat.blt pc 208) (cond (Nat.beq pc 206) (some (.iload 8, 208, 0)) none) (cond (Nat.beq pc 208) (some (.ifCond .ne 8, 211, 216)) none)))) (cond (Nat.blt pc 218) (cond (Nat.blt pc 213) (cond (Nat.beq pc 211) (some (.iload 5, 213, 0)) none) (cond (Nat.blt pc 216) (cond (Nat.beq pc 213) (some (.goto 26, 216, 239)) none) (cond (Nat.beq pc 216) (some (.iload 5, 218, 0)) none))) (cond (Nat.blt pc 219) (cond (Nat.beq pc 218) (some (.iconst 2, 219, 0)) none) (cond (Nat.blt pc 221) (cond (Nat.beq pc 219) (some (.iload 12, 221, 0)) none) (cond (Nat.beq pc 221) (some (.imul, 222, 0)) none)))))) (cond (Nat.blt pc 239) (cond (Nat.blt pc 230) (cond (Nat.blt pc 226) (cond (Nat.blt pc 224) (cond (Nat.beq pc 222) (some (.iload 7, 224, 0)) none) (cond (Nat.beq pc 224) (some (.iload 5, 226, 0)) none)) (cond (Nat.blt pc 227) (cond (Nat.beq pc 226) (some (.isub, 227, 0)) none) (cond (Nat.blt pc 228) (cond (Nat.beq pc 227) (some (.imul, 228, 0)) none) (cond (Nat.beq pc 228) (some (.iload 8, 230, 0)) none)))) (cond (Nat.blt pc 234) (cond (Nat.blt pc 231) (cond (Nat.beq pc 230) (some (.iadd, 231, 0)) none) (cond (Nat.blt pc 232) (cond (Nat.beq pc 231) (some (.iconst 2, 232, 0)) none) (cond (Nat.beq pc 232) (some (.iload 8, 234, 0)) none))) (cond (Nat.blt pc 235) (cond (Nat.beq pc 234) (some (.imul, 235, 0)) none) (cond (Nat.blt pc 238) (cond (Nat.beq pc 235) (some (.invokestatic 148, 238, 0)) none) (cond (Nat.beq pc 238) (some (.iadd, 239, 0)) none))))) (cond (Nat.blt pc 250) (cond (Nat.blt pc 243) (cond (Nat.blt pc 241) (cond (Nat.beq pc 239) (some (.istore 14, 241, 0)) none) (cond (Nat.beq pc 241) (some (.iload 11, 243, 0)) none)) (cond (Nat.blt pc 246) (cond (Nat.beq pc 243) (some (.ifCond .ne 38, 246, 281)) none) (cond (Nat.blt pc 248) (cond (Nat.beq pc 246) (some (.iload 13, 248, 0)) none) (cond (Nat.beq pc 248) (some (.iload 10, 250, 0)) none)))) (cond (Nat.blt pc 255) (cond (Nat.blt pc 251) (cond (Nat.beq pc 250) (some (.isub, 251, 0)) none) (cond (Nat.blt pc 253) (cond (Nat.beq pc 251) (some (.iload 13, 253, 0)) none) (cond (Nat.beq pc 253) (some (.iload 10, 255, 0)) none))) (cond (Nat.blt pc 256) (cond (Nat.beq pc 255) (some (.isub, 256, 0)) none) (cond (Nat.blt pc 257) (cond (Nat.beq pc 256) (some (.imul, 257, 0)) none) (cond (Nat.beq pc 257) (some (.iload 14, 259, 0)) none))))))) (cond (Nat.blt pc 300) (cond (Nat.blt pc 277) (cond (Nat.blt pc 267) (cond (Nat.blt pc 262) (cond (Nat.blt pc 261) (cond (Nat.beq pc 259) (some (.iload 9, 261, 0)) none) (cond (Nat.beq pc 261) (some (.isub, 262, 0)) none)) (cond (Nat.blt pc 264) (cond (Nat.beq pc 262) (some (.iload 14, 264, 0)) none) (cond (Nat.blt pc 266) (cond (Nat.beq pc 264) (some (.iload 9, 266, 0)) none) (cond (Nat.beq pc 266) (some (.isub, 267, 0)) none)))) (cond (Nat.blt pc 270) (cond (Nat.blt pc 268) (cond (Nat.beq pc 267) (some (.imul, 268, 0)) none) (cond (Nat.blt pc 269) (cond (Nat.beq pc 268) (some (.iadd, 269, 0)) none) (cond (Nat.beq pc 269) (some (.aload_n 0, 270, 0)) none))) (cond (Nat.blt pc 273) (cond (Nat.beq pc 270) (some (.getfield 129, 273, 0)) none) (cond (Nat.blt pc 274) (cond (Nat.beq pc 273) (some (.aload_n 0, 274, 0)) none) (cond (Nat.beq pc 274) (some (.getfield 129, 277, 0)) none))))) (cond (Nat.blt pc 286) (cond (Nat.blt pc 281) (cond (Nat.blt pc 278) (cond (Nat.beq pc 277) (some (.imul, 278, 0)) none) (cond (Nat.beq pc 278) (some (.if_icmp .gt 7, 281, 285)) none)) (cond (Nat.blt pc 282) (cond (Nat.beq pc 281) (some (.iconst 1, 282, 0)) none) (cond (Nat.blt pc 285) (cond (Nat.beq pc 282) (some (.goto 4, 285, 286)) none) (cond (Nat.beq pc 285) (some (.iconst 0, 286, 0)) none)))) (cond (Nat.blt pc 294) (cond (Nat.blt pc 288) (cond (Nat.beq pc 286) (some (.istore 11, 288, 0)) none) (cond (Nat.blt pc 291) (cond (Nat.beq pc 288) (some (.iinc 12 1, 291, 0)) none) (cond (Nat.beq pc 291) (some (.goto (-127), 294, 164)) none))) (cond (Nat.blt pc 296) (cond (Nat.beq pc 294) (some (.iload 11, 296, 0)) none) (cond (Nat.blt pc 299) (cond (Nat.beq pc 296) (some (.ifCond .eq 36, 299, 332)) none) (cond (Nat.beq pc 299) (some (.aload_n 0, 300, 0)) none)))))) (cond (Nat.blt pc 318) (cond (Nat.blt pc 309) (cond (Nat.blt pc 303) (cond (Nat.blt pc 301) (cond (Nat.beq pc 300) (some (.iload_n 1, 301, 0)) none) (cond (Nat.beq pc 301) (some (.iload 10, 303, 0)) none)) (cond (Nat.blt pc 305) (cond (Nat.beq pc 303) (some (.iload 9, 305, 0)) none) (cond (Nat.blt pc 306) (cond (Nat.beq pc 305) (some (.aload_n 0, 306, 0)) none) (cond (Nat.beq pc 306) (some (.getfield 41, 309, 0)) none)))) (cond (Nat.blt pc 314) (cond (Nat.blt pc 311) (cond (Nat.beq pc 309) (some (.bipush 24, 311, 0)) none) (cond (Nat.blt pc 313) (cond (Nat.beq pc 311) (some (.iload 9, 313, 0)) none) (cond (Nat.beq pc 313) (some (.imul, 314, 0)) none))) (cond (Nat.blt pc 316) (cond (Nat.beq pc 314) (some (.iload 10, 316, 0)) none) (cond (Nat.blt pc 317) (cond (Nat.beq pc 316) (some (.iadd, 317, 0)) none) (cond (Nat.beq pc 317) (some (.iaload, 318, 0)) none))))) (cond (Nat.blt pc 329) (cond (Nat.blt pc 322) (cond (Nat.blt pc 319) (cond (Nat.beq pc 318) (some (.aload_n 0, 319, 0)) none) (cond (Nat.beq pc 319) (some (.getfield 126, 322, 0)) none)) (cond (Nat.blt pc 323) (cond (Nat.beq pc 322) (some (.iconst 0, 323, 0)) none) (cond (Nat.blt pc 326) (cond (Nat.beq pc 323) (some (.sipush 255, 326, 0)) none) (cond (Nat.beq pc 326) (some (.invokestatic 151, 329, 0)) none)))) (cond (Nat.blt pc 338) (cond (Nat.blt pc 332) (cond (Nat.beq pc 329) (some (.invokevirtual 138, 332, 0)) none) (cond (Nat.blt pc 335) (cond (Nat.beq pc 332) (some (.iinc 10 1, 335, 0)) none) (cond (Nat.beq pc 335) (some (.goto (-186), 338, 149)) none))) (cond (Nat.blt pc 341) (cond (Nat.beq pc 338) (some (.iinc 9 1, 341, 0)) none) (cond (Nat.blt pc 344) (cond (Nat.beq pc 341) (some (.goto (-204), 344, 137)) none) (cond (Nat.beq pc 344) (some (.return_, 345, 0)) none))))))))
def m_M_stroke : MI := (⟨"TileStudioModel", "stroke", "(III)V"⟩, prog_10_method_35_code, 15, none, [], zmk 345 tb_M_stroke)
theorem ok_M_stroke : zok m_M_stroke := zok_mk rfl (by decide +kernel)
def tb_M_low : ZT := fun pc => cond (Nat.blt pc 1) (cond (Nat.beq pc 0) (some (.iload_n 0, 1, 0)) none) (cond (Nat.blt pc 2) (cond (Nat.beq pc 1) (some (.i2s, 2, 0)) none) (cond (Nat.beq pc 2) (some (.ireturn, 3, 0)) none))
def m_M_low : MI := (⟨"TileStudioModel", "low", "(I)I"⟩, prog_10_method_32_code, 1, (Option.some Jvm.ClassFile.FieldType.int), [], zmk 3 tb_M_low)
theorem ok_M_low : zok m_M_low := zok_mk rfl (by decide +kernel)
def tb_M_distance : ZT := fun pc => cond (Nat.blt pc 7) (cond (Nat.blt pc 2) (cond (Nat.blt pc 1) (cond (Nat.beq pc 0) (some (.iload_n 0, 1, 0)) none) (cond (Nat.beq pc 1) (some (.iload_n 1, 2, 0)) none)) (cond (Nat.blt pc 5) (cond (Nat.beq pc 2) (some (.if_icmp .le 9, 5, 11)) none) (cond (Nat.blt pc 6) (cond (Nat.beq pc 5) (some (.iload_n 0, 6, 0)) none) (cond (Nat.beq pc 6) (some (.iload_n 1, 7, 0)) none)))) (cond (Nat.blt pc 12) (cond (Nat.blt pc 8) (cond (Nat.beq pc 7) (some (.isub, 8, 0)) none) (cond (Nat.blt pc 11) (cond (Nat.beq pc 8) (some (.goto 6, 11, 14)) none) (cond (Nat.beq pc 11) (some (.iload_n 1, 12, 0)) none))) (cond (Nat.blt pc 13) (cond (Nat.beq pc 12) (some (.iload_n 0, 13, 0)) none) (cond (Nat.blt pc 14) (cond (Nat.beq pc 13) (some (.isub, 14, 0)) none) (cond (Nat.beq pc 14) (some (.ireturn, 15, 0)) none))))
def m_M_distance : MI := (⟨"TileStudioModel", "distance", "(II)I"⟩, prog_10_method_34_code, 2, (Option.some Jvm.ClassFile.FieldType.int), [], zmk 15 tb_M_distance)
theorem ok_M_distance : zok m_M_distance := zok_mk rfl (by decide +kernel)
def tb_M_down : ZT := fun pc => cond (Nat.blt pc 9) (cond (Nat.blt pc 3) (cond (Nat.blt pc 1) (cond (Nat.beq pc 0) (some (.iload_n 0, 1, 0)) none) (cond (Nat.blt pc 2) (cond (Nat.beq pc 1) (some (.iload_n 1, 2, 0)) none) (cond (Nat.beq pc 2) (some (.irem, 3, 0)) none))) (cond (Nat.blt pc 7) (cond (Nat.blt pc 6) (cond (Nat.beq pc 3) (some (.ifCond .ge 11, 6, 14)) none) (cond (Nat.beq pc 6) (some (.iload_n 0, 7, 0)) none)) (cond (Nat.blt pc 8) (cond (Nat.beq pc 7) (some (.iload_n 1, 8, 0)) none) (cond (Nat.beq pc 8) (some (.idiv, 9, 0)) none)))) (cond (Nat.blt pc 14) (cond (Nat.blt pc 10) (cond (Nat.beq pc 9) (some (.iconst 1, 10, 0)) none) (cond (Nat.blt pc 11) (cond (Nat.beq pc 10) (some (.isub, 11, 0)) none) (cond (Nat.beq pc 11) (some (.goto 6, 14, 17)) none))) (cond (Nat.blt pc 16) (cond (Nat.blt pc 15) (cond (Nat.beq pc 14) (some (.iload_n 0, 15, 0)) none) (cond (Nat.beq pc 15) (some (.iload_n 1, 16, 0)) none)) (cond (Nat.blt pc 17) (cond (Nat.beq pc 16) (some (.idiv, 17, 0)) none) (cond (Nat.beq pc 17) (some (.ireturn, 18, 0)) none))))
def m_M_down : MI := (⟨"TileStudioModel", "down", "(II)I"⟩, prog_10_method_33_code, 2, (Option.some Jvm.ClassFile.FieldType.int), [], zmk 18 tb_M_down)
theorem ok_M_down : zok m_M_down := zok_mk rfl (by decide +kernel)
def tb_M_blend : ZT := fun pc => cond (Nat.blt pc 81) (cond (Nat.blt pc 39) (cond (Nat.blt pc 19) (cond (Nat.blt pc 7) (cond (Nat.blt pc 4) (cond (Nat.blt pc 1) (cond (Nat.beq pc 0) (some (.iload_n 1, 1, 0)) none) (cond (Nat.beq pc 1) (some (.sipush 255, 4, 0)) none)) (cond (Nat.blt pc 5) (cond (Nat.beq pc 4) (some (.iand, 5, 0)) none) (cond (Nat.blt pc 6) (cond (Nat.beq pc 5) (some (.iload_n 3, 6, 0)) none) (cond (Nat.beq pc 6) (some (.imul, 7, 0)) none)))) (cond (Nat.blt pc 13) (cond (Nat.blt pc 10) (cond (Nat.beq pc 7) (some (.invokestatic 114, 10, 0)) none) (cond (Nat.blt pc 12) (cond (Nat.beq pc 10) (some (.istore 4, 12, 0)) none) (cond (Nat.beq pc 12) (some (.iload_n 0, 13, 0)) none))) (cond (Nat.blt pc 16) (cond (Nat.beq pc 13) (some (.sipush 255, 16, 0)) none) (cond (Nat.blt pc 17) (cond (Nat.beq pc 16) (some (.iand, 17, 0)) none) (cond (Nat.beq pc 17) (some (.istore 5, 19, 0)) none))))) (cond (Nat.blt pc 30) (cond (Nat.blt pc 24) (cond (Nat.blt pc 22) (cond (Nat.beq pc 19) (some (.sipush 255, 22, 0)) none) (cond (Nat.beq pc 22) (some (.iload 4, 24, 0)) none)) (cond (Nat.blt pc 25) (cond (Nat.beq pc 24) (some (.imul, 25, 0)) none) (cond (Nat.blt pc 27) (cond (Nat.beq pc 25) (some (.iload 5, 27, 0)) none) (cond (Nat.beq pc 27) (some (.sipush 255, 30, 0)) none)))) (cond (Nat.blt pc 34) (cond (Nat.blt pc 32) (cond (Nat.beq pc 30) (some (.iload 4, 32, 0)) none) (cond (Nat.blt pc 33) (cond (Nat.beq pc 32) (some (.isub, 33, 0)) none) (cond (Nat.beq pc 33) (some (.imul, 34, 0)) none))) (cond (Nat.blt pc 35) (cond (Nat.beq pc 34) (some (.iadd, 35, 0)) none) (cond (Nat.blt pc 37) (cond (Nat.beq pc 35) (some (.istore 6, 37, 0)) none) (cond (Nat.beq pc 37) (some (.iload 6, 39, 0)) none)))))) (cond (Nat.blt pc 59) (cond (Nat.blt pc 49) (cond (Nat.blt pc 44) (cond (Nat.blt pc 42) (cond (Nat.beq pc 39) (some (.invokestatic 114, 42, 0)) none) (cond (Nat.beq pc 42) (some (.istore 7, 44, 0)) none)) (cond (Nat.blt pc 45) (cond (Nat.beq pc 44) (some (.iconst 0, 45, 0)) none) (cond (Nat.blt pc 47) (cond (Nat.beq pc 45) (some (.istore 8, 47, 0)) none) (cond (Nat.beq pc 47) (some (.iload 8, 49, 0)) none)))) (cond (Nat.blt pc 55) (cond (Nat.blt pc 50) (cond (Nat.beq pc 49) (some (.iconst 3, 50, 0)) none) (cond (Nat.blt pc 53) (cond (Nat.beq pc 50) (some (.if_icmp .ge 108, 53, 158)) none) (cond (Nat.beq pc 53) (some (.iload 5, 55, 0)) none))) (cond (Nat.blt pc 56) (cond (Nat.beq pc 55) (some (.iload_n 2, 56, 0)) none) (cond (Nat.blt pc 57) (cond (Nat.beq pc 56) (some (.iload_n 1, 57, 0)) none) (cond (Nat.beq pc 57) (some (.iload 8, 59, 0)) none))))) (cond (Nat.blt pc 71) (cond (Nat.blt pc 63) (cond (Nat.blt pc 62) (cond (Nat.beq pc 59) (some (.invokestatic 118, 62, 0)) none) (cond (Nat.beq pc 62) (some (.iload_n 0, 63, 0)) none)) (cond (Nat.blt pc 65) (cond (Nat.beq pc 63) (some (.iload 8, 65, 0)) none) (cond (Nat.blt pc 68) (cond (Nat.beq pc 65) (some (.invokestatic 118, 68, 0)) none) (cond (Nat.beq pc 68) (some (.invokestatic 122, 71, 0)) none)))) (cond (Nat.blt pc 77) (cond (Nat.blt pc 72) (cond (Nat.beq pc 71) (some (.imul, 72, 0)) none) (cond (Nat.blt pc 75) (cond (Nat.beq pc 72) (some (.sipush 255, 75, 0)) none) (cond (Nat.beq pc 75) (some (.iload 5, 77, 0)) none))) (cond (Nat.blt pc 78) (cond (Nat.beq pc 77) (some (.isub, 78, 0)) none) (cond (Nat.blt pc 79) (cond (Nat.beq pc 78) (some (.iload_n 1, 79, 0)) none) (cond (Nat.beq pc 79) (some (.iload 8, 81, 0)) none))))))) (cond (Nat.blt pc 124) (cond (Nat.blt pc 105) (cond (Nat.blt pc 91) (cond (Nat.blt pc 85) (cond (Nat.blt pc 84) (cond (Nat.beq pc 81) (some (.invokestatic 118, 84, 0)) none) (cond (Nat.beq pc 84) (some (.imul, 85, 0)) none)) (cond (Nat.blt pc 86) (cond (Nat.beq pc 85) (some (.iadd, 86, 0)) none) (cond (Nat.blt pc 89) (cond (Nat.beq pc 86) (some (.invokestatic 114, 89, 0)) none) (cond (Nat.beq pc 89) (some (.istore 9, 91, 0)) none)))) (cond (Nat.blt pc 97) (cond (Nat.blt pc 93) (cond (Nat.beq pc 91) (some (.iload 6, 93, 0)) none) (cond (Nat.blt pc 96) (cond (Nat.beq pc 93) (some (.ifCond .ne 7, 96, 100)) none) (cond (Nat.beq pc 96) (some (.iconst 0, 97, 0)) none))) (cond (Nat.blt pc 100) (cond (Nat.beq pc 97) (some (.goto 37, 100, 134)) none) (cond (Nat.blt pc 103) (cond (Nat.beq pc 100) (some (.sipush 255, 103, 0)) none) (cond (Nat.beq pc 103) (some (.iload 4, 105, 0)) none))))) (cond (Nat.blt pc 114) (cond (Nat.blt pc 108) (cond (Nat.blt pc 106) (cond (Nat.beq pc 105) (some (.imul, 106, 0)) none) (cond (Nat.beq pc 106) (some (.iload 9, 108, 0)) none)) (cond (Nat.blt pc 109) (cond (Nat.beq pc 108) (some (.imul, 109, 0)) none) (cond (Nat.blt pc 111) (cond (Nat.beq pc 109) (some (.iload 5, 111, 0)) none) (cond (Nat.beq pc 111) (some (.sipush 255, 114, 0)) none)))) (cond (Nat.blt pc 118) (cond (Nat.blt pc 116) (cond (Nat.beq pc 114) (some (.iload 4, 116, 0)) none) (cond (Nat.blt pc 117) (cond (Nat.beq pc 116) (some (.isub, 117, 0)) none) (cond (Nat.beq pc 117) (some (.imul, 118, 0)) none))) (cond (Nat.blt pc 119) (cond (Nat.beq pc 118) (some (.iload_n 0, 119, 0)) none) (cond (Nat.blt pc 121) (cond (Nat.beq pc 119) (some (.iload 8, 121, 0)) none) (cond (Nat.beq pc 121) (some (.invokestatic 118, 124, 0)) none)))))) (cond (Nat.blt pc 140) (cond (Nat.blt pc 130) (cond (Nat.blt pc 126) (cond (Nat.blt pc 125) (cond (Nat.beq pc 124) (some (.imul, 125, 0)) none) (cond (Nat.beq pc 125) (some (.iadd, 126, 0)) none)) (cond (Nat.blt pc 128) (cond (Nat.beq pc 126) (some (.iload 6, 128, 0)) none) (cond (Nat.blt pc 129) (cond (Nat.beq pc 128) (some (.iconst 2, 129, 0)) none) (cond (Nat.beq pc 129) (some (.idiv, 130, 0)) none)))) (cond (Nat.blt pc 134) (cond (Nat.blt pc 131) (cond (Nat.beq pc 130) (some (.iadd, 131, 0)) none) (cond (Nat.blt pc 133) (cond (Nat.beq pc 131) (some (.iload 6, 133, 0)) none) (cond (Nat.beq pc 133) (some (.idiv, 134, 0)) none))) (cond (Nat.blt pc 136) (cond (Nat.beq pc 134) (some (.istore 10, 136, 0)) none) (cond (Nat.blt pc 138) (cond (Nat.beq pc 136) (some (.iload 7, 138, 0)) none) (cond (Nat.beq pc 138) (some (.iload 10, 140, 0)) none))))) (cond (Nat.blt pc 149) (cond (Nat.blt pc 146) (cond (Nat.blt pc 142) (cond (Nat.beq pc 140) (some (.bipush 24, 142, 0)) none) (cond (Nat.blt pc 144) (cond (Nat.beq pc 142) (some (.bipush 8, 144, 0)) none) (cond (Nat.beq pc 144) (some (.iload 8, 146, 0)) none))) (cond (Nat.blt pc 147) (cond (Nat.beq pc 146) (some (.imul, 147, 0)) none) (cond (Nat.blt pc 148) (cond (Nat.beq pc 147) (some (.isub, 148, 0)) none) (cond (Nat.beq pc 148) (some (.ishl, 149, 0)) none)))) (cond (Nat.blt pc 155) (cond (Nat.blt pc 150) (cond (Nat.beq pc 149) (some (.ior, 150, 0)) none) (cond (Nat.blt pc 152) (cond (Nat.beq pc 150) (some (.istore 7, 152, 0)) none) (cond (Nat.beq pc 152) (some (.iinc 8 1, 155, 0)) none))) (cond (Nat.blt pc 158) (cond (Nat.beq pc 155) (some (.goto (-108), 158, 47)) none) (cond (Nat.blt pc 160) (cond (Nat.beq pc 158) (some (.iload 7, 160, 0)) none) (cond (Nat.beq pc 160) (some (.ireturn, 161, 0)) none)))))))
def m_M_blend : MI := (⟨"TileStudioModel", "blend", "(IIII)I"⟩, prog_10_method_26_code, 11, (Option.some Jvm.ClassFile.FieldType.int), [], zmk 161 tb_M_blend)
theorem ok_M_blend : zok m_M_blend := zok_mk rfl (by decide +kernel)
end
section
def tb_M_div : ZT := fun pc => cond (Nat.blt pc 4) (cond (Nat.blt pc 1) (cond (Nat.beq pc 0) (some (.iload_n 0, 1, 0)) none) (cond (Nat.blt pc 3) (cond (Nat.beq pc 1) (some (.bipush 127, 3, 0)) none) (cond (Nat.beq pc 3) (some (.iadd, 4, 0)) none))) (cond (Nat.blt pc 7) (cond (Nat.beq pc 4) (some (.sipush 255, 7, 0)) none) (cond (Nat.blt pc 8) (cond (Nat.beq pc 7) (some (.idiv, 8, 0)) none) (cond (Nat.beq pc 8) (some (.ireturn, 9, 0)) none)))
def m_M_div : MI := (⟨"TileStudioModel", "div", "(I)I"⟩, prog_10_method_24_code, 1, (Option.some Jvm.ClassFile.FieldType.int), [], zmk 9 tb_M_div)
theorem ok_M_div : zok m_M_div := zok_mk rfl (by decide +kernel)
def tb_M_mixed : ZT := fun pc => cond (Nat.blt pc 39) (cond (Nat.blt pc 19) (cond (Nat.blt pc 8) (cond (Nat.blt pc 5) (cond (Nat.blt pc 1) (cond (Nat.beq pc 0) (some (.iload_n 0, 1, 0)) none) (cond (Nat.blt pc 4) (cond (Nat.beq pc 1) (some (.ifCond .ne 5, 4, 6)) none) (cond (Nat.beq pc 4) (some (.iload_n 1, 5, 0)) none))) (cond (Nat.blt pc 6) (cond (Nat.beq pc 5) (some (.ireturn, 6, 0)) none) (cond (Nat.blt pc 7) (cond (Nat.beq pc 6) (some (.iload_n 0, 7, 0)) none) (cond (Nat.beq pc 7) (some (.iconst 1, 8, 0)) none)))) (cond (Nat.blt pc 13) (cond (Nat.blt pc 11) (cond (Nat.beq pc 8) (some (.if_icmp .ne 10, 11, 18)) none) (cond (Nat.blt pc 12) (cond (Nat.beq pc 11) (some (.iload_n 1, 12, 0)) none) (cond (Nat.beq pc 12) (some (.iload_n 2, 13, 0)) none))) (cond (Nat.blt pc 17) (cond (Nat.blt pc 14) (cond (Nat.beq pc 13) (some (.imul, 14, 0)) none) (cond (Nat.beq pc 14) (some (.invokestatic 114, 17, 0)) none)) (cond (Nat.blt pc 18) (cond (Nat.beq pc 17) (some (.ireturn, 18, 0)) none) (cond (Nat.beq pc 18) (some (.iload_n 0, 19, 0)) none))))) (cond (Nat.blt pc 28) (cond (Nat.blt pc 24) (cond (Nat.blt pc 20) (cond (Nat.beq pc 19) (some (.iconst 2, 20, 0)) none) (cond (Nat.blt pc 23) (cond (Nat.beq pc 20) (some (.if_icmp .ne 14, 23, 34)) none) (cond (Nat.beq pc 23) (some (.iload_n 1, 24, 0)) none))) (cond (Nat.blt pc 26) (cond (Nat.blt pc 25) (cond (Nat.beq pc 24) (some (.iload_n 2, 25, 0)) none) (cond (Nat.beq pc 25) (some (.iadd, 26, 0)) none)) (cond (Nat.blt pc 27) (cond (Nat.beq pc 26) (some (.iload_n 1, 27, 0)) none) (cond (Nat.beq pc 27) (some (.iload_n 2, 28, 0)) none)))) (cond (Nat.blt pc 33) (cond (Nat.blt pc 29) (cond (Nat.beq pc 28) (some (.imul, 29, 0)) none) (cond (Nat.blt pc 32) (cond (Nat.beq pc 29) (some (.invokestatic 114, 32, 0)) none) (cond (Nat.beq pc 32) (some (.isub, 33, 0)) none))) (cond (Nat.blt pc 35) (cond (Nat.blt pc 34) (cond (Nat.beq pc 33) (some (.ireturn, 34, 0)) none) (cond (Nat.beq pc 34) (some (.iload_n 0, 35, 0)) none)) (cond (Nat.blt pc 36) (cond (Nat.beq pc 35) (some (.iconst 3, 36, 0)) none) (cond (Nat.beq pc 36) (some (.if_icmp .ne 14, 39, 50)) none)))))) (cond (Nat.blt pc 61) (cond (Nat.blt pc 50) (cond (Nat.blt pc 44) (cond (Nat.blt pc 40) (cond (Nat.beq pc 39) (some (.iload_n 1, 40, 0)) none) (cond (Nat.blt pc 41) (cond (Nat.beq pc 40) (some (.iload_n 2, 41, 0)) none) (cond (Nat.beq pc 41) (some (.if_icmp .ge 7, 44, 48)) none))) (cond (Nat.blt pc 48) (cond (Nat.blt pc 45) (cond (Nat.beq pc 44) (some (.iload_n 1, 45, 0)) none) (cond (Nat.beq pc 45) (some (.goto 4, 48, 49)) none)) (cond (Nat.blt pc 49) (cond (Nat.beq pc 48) (some (.iload_n 2, 49, 0)) none) (cond (Nat.beq pc 49) (some (.ireturn, 50, 0)) none)))) (cond (Nat.blt pc 55) (cond (Nat.blt pc 51) (cond (Nat.beq pc 50) (some (.iload_n 0, 51, 0)) none) (cond (Nat.blt pc 52) (cond (Nat.beq pc 51) (some (.iconst 4, 52, 0)) none) (cond (Nat.beq pc 52) (some (.if_icmp .ne 14, 55, 66)) none))) (cond (Nat.blt pc 57) (cond (Nat.blt pc 56) (cond (Nat.beq pc 55) (some (.iload_n 1, 56, 0)) none) (cond (Nat.beq pc 56) (some (.iload_n 2, 57, 0)) none)) (cond (Nat.blt pc 60) (cond (Nat.beq pc 57) (some (.if_icmp .le 7, 60, 64)) none) (cond (Nat.beq pc 60) (some (.iload_n 1, 61, 0)) none))))) (cond (Nat.blt pc 72) (cond (Nat.blt pc 66) (cond (Nat.blt pc 64) (cond (Nat.beq pc 61) (some (.goto 4, 64, 65)) none) (cond (Nat.blt pc 65) (cond (Nat.beq pc 64) (some (.iload_n 2, 65, 0)) none) (cond (Nat.beq pc 65) (some (.ireturn, 66, 0)) none))) (cond (Nat.blt pc 68) (cond (Nat.blt pc 67) (cond (Nat.beq pc 66) (some (.iload_n 1, 67, 0)) none) (cond (Nat.beq pc 67) (some (.iload_n 2, 68, 0)) none)) (cond (Nat.blt pc 69) (cond (Nat.beq pc 68) (some (.iadd, 69, 0)) none) (cond (Nat.beq pc 69) (some (.sipush 255, 72, 0)) none)))) (cond (Nat.blt pc 81) (cond (Nat.blt pc 75) (cond (Nat.beq pc 72) (some (.if_icmp .le 9, 75, 81)) none) (cond (Nat.blt pc 78) (cond (Nat.beq pc 75) (some (.sipush 255, 78, 0)) none) (cond (Nat.beq pc 78) (some (.goto 6, 81, 84)) none))) (cond (Nat.blt pc 83) (cond (Nat.blt pc 82) (cond (Nat.beq pc 81) (some (.iload_n 1, 82, 0)) none) (cond (Nat.beq pc 82) (some (.iload_n 2, 83, 0)) none)) (cond (Nat.blt pc 84) (cond (Nat.beq pc 83) (some (.iadd, 84, 0)) none) (cond (Nat.beq pc 84) (some (.ireturn, 85, 0)) none))))))
def m_M_mixed : MI := (⟨"TileStudioModel", "mixed", "(III)I"⟩, prog_10_method_25_code, 3, (Option.some Jvm.ClassFile.FieldType.int), [], zmk 85 tb_M_mixed)
theorem ok_M_mixed : zok m_M_mixed := zok_mk rfl (by decide +kernel)
def tb_M_flood : ZT := fun pc => cond (Nat.blt pc 185) (cond (Nat.blt pc 96) (cond (Nat.blt pc 48) (cond (Nat.blt pc 22) (cond (Nat.blt pc 10) (cond (Nat.blt pc 5) (cond (Nat.blt pc 1) (cond (Nat.beq pc 0) (some (.aload_n 0, 1, 0)) none) (cond (Nat.blt pc 2) (cond (Nat.beq pc 1) (some (.iload_n 1, 2, 0)) none) (cond (Nat.beq pc 2) (some (.invokevirtual 89, 5, 0)) none))) (cond (Nat.blt pc 8) (cond (Nat.beq pc 5) (some (.ifCond .eq 47, 8, 52)) none) (cond (Nat.blt pc 9) (cond (Nat.beq pc 8) (some (.iload_n 2, 9, 0)) none) (cond (Nat.beq pc 9) (some (.iconst 0, 10, 0)) none)))) (cond (Nat.blt pc 15) (cond (Nat.blt pc 11) (cond (Nat.beq pc 10) (some (.aload_n 0, 11, 0)) none) (cond (Nat.blt pc 14) (cond (Nat.beq pc 11) (some (.invokevirtual 100, 14, 0)) none) (cond (Nat.beq pc 14) (some (.iconst 1, 15, 0)) none))) (cond (Nat.blt pc 16) (cond (Nat.beq pc 15) (some (.isub, 16, 0)) none) (cond (Nat.blt pc 19) (cond (Nat.beq pc 16) (some (.invokestatic 71, 19, 0)) none) (cond (Nat.beq pc 19) (some (.ifCond .eq 33, 22, 52)) none))))) (cond (Nat.blt pc 30) (cond (Nat.blt pc 25) (cond (Nat.blt pc 23) (cond (Nat.beq pc 22) (some (.iload_n 3, 23, 0)) none) (cond (Nat.blt pc 24) (cond (Nat.beq pc 23) (some (.iconst 0, 24, 0)) none) (cond (Nat.beq pc 24) (some (.aload_n 0, 25, 0)) none))) (cond (Nat.blt pc 28) (cond (Nat.beq pc 25) (some (.invokevirtual 96, 28, 0)) none) (cond (Nat.blt pc 29) (cond (Nat.beq pc 28) (some (.iconst 1, 29, 0)) none) (cond (Nat.beq pc 29) (some (.isub, 30, 0)) none)))) (cond (Nat.blt pc 38) (cond (Nat.blt pc 33) (cond (Nat.beq pc 30) (some (.invokestatic 71, 33, 0)) none) (cond (Nat.blt pc 36) (cond (Nat.beq pc 33) (some (.ifCond .eq 19, 36, 52)) none) (cond (Nat.beq pc 36) (some (.iload 5, 38, 0)) none))) (cond (Nat.blt pc 42) (cond (Nat.blt pc 39) (cond (Nat.beq pc 38) (some (.iconst 0, 39, 0)) none) (cond (Nat.beq pc 39) (some (.sipush 255, 42, 0)) none)) (cond (Nat.blt pc 45) (cond (Nat.beq pc 42) (some (.invokestatic 71, 45, 0)) none) (cond (Nat.beq pc 45) (some (.ifCond .eq 7, 48, 52)) none)))))) (cond (Nat.blt pc 73) (cond (Nat.blt pc 58) (cond (Nat.blt pc 53) (cond (Nat.blt pc 49) (cond (Nat.beq pc 48) (some (.iconst 1, 49, 0)) none) (cond (Nat.blt pc 52) (cond (Nat.beq pc 49) (some (.goto 4, 52, 53)) none) (cond (Nat.beq pc 52) (some (.iconst 0, 53, 0)) none))) (cond (Nat.blt pc 55) (cond (Nat.beq pc 53) (some (.istore 6, 55, 0)) none) (cond (Nat.blt pc 56) (cond (Nat.beq pc 55) (some (.aload_n 0, 56, 0)) none) (cond (Nat.beq pc 56) (some (.iload 6, 58, 0)) none)))) (cond (Nat.blt pc 65) (cond (Nat.blt pc 61) (cond (Nat.beq pc 58) (some (.ifCond .ne 7, 61, 65)) none) (cond (Nat.blt pc 62) (cond (Nat.beq pc 61) (some (.iconst 1, 62, 0)) none) (cond (Nat.beq pc 62) (some (.goto 4, 65, 66)) none))) (cond (Nat.blt pc 69) (cond (Nat.blt pc 66) (cond (Nat.beq pc 65) (some (.iconst 0, 66, 0)) none) (cond (Nat.beq pc 66) (some (.invokevirtual 75, 69, 0)) none)) (cond (Nat.blt pc 72) (cond (Nat.beq pc 69) (some (.ifCond .eq 5, 72, 74)) none) (cond (Nat.beq pc 72) (some (.iconst 0, 73, 0)) none))))) (cond (Nat.blt pc 82) (cond (Nat.blt pc 76) (cond (Nat.blt pc 74) (cond (Nat.beq pc 73) (some (.ireturn, 74, 0)) none) (cond (Nat.blt pc 75) (cond (Nat.beq pc 74) (some (.aload_n 0, 75, 0)) none) (cond (Nat.beq pc 75) (some (.iload_n 1, 76, 0)) none))) (cond (Nat.blt pc 79) (cond (Nat.beq pc 76) (some (.invokevirtual 135, 79, 0)) none) (cond (Nat.blt pc 80) (cond (Nat.beq pc 79) (some (.iconst 0, 80, 0)) none) (cond (Nat.beq pc 80) (some (.istore 7, 82, 0)) none)))) (cond (Nat.blt pc 89) (cond (Nat.blt pc 84) (cond (Nat.beq pc 82) (some (.iload 7, 84, 0)) none) (cond (Nat.blt pc 86) (cond (Nat.beq pc 84) (some (.bipush 24, 86, 0)) none) (cond (Nat.beq pc 86) (some (.if_icmp .ge 17, 89, 103)) none))) (cond (Nat.blt pc 93) (cond (Nat.blt pc 90) (cond (Nat.beq pc 89) (some (.aload_n 0, 90, 0)) none) (cond (Nat.beq pc 90) (some (.getfield 44, 93, 0)) none)) (cond (Nat.blt pc 95) (cond (Nat.beq pc 93) (some (.iload 7, 95, 0)) none) (cond (Nat.beq pc 95) (some (.iconst 0, 96, 0)) none))))))) (cond (Nat.blt pc 136) (cond (Nat.blt pc 120) (cond (Nat.blt pc 106) (cond (Nat.blt pc 103) (cond (Nat.blt pc 97) (cond (Nat.beq pc 96) (some (.iastore, 97, 0)) none) (cond (Nat.blt pc 100) (cond (Nat.beq pc 97) (some (.iinc 7 1, 100, 0)) none) (cond (Nat.beq pc 100) (some (.goto (-18), 103, 82)) none))) (cond (Nat.blt pc 104) (cond (Nat.beq pc 103) (some (.aload_n 0, 104, 0)) none) (cond (Nat.blt pc 105) (cond (Nat.beq pc 104) (some (.iload_n 2, 105, 0)) none) (cond (Nat.beq pc 105) (some (.iload_n 3, 106, 0)) none)))) (cond (Nat.blt pc 113) (cond (Nat.blt pc 109) (cond (Nat.beq pc 106) (some (.invokevirtual 110, 109, 0)) none) (cond (Nat.blt pc 112) (cond (Nat.beq pc 109) (some (.ifCond .ne 5, 112, 114)) none) (cond (Nat.beq pc 112) (some (.iconst 0, 113, 0)) none))) (cond (Nat.blt pc 115) (cond (Nat.blt pc 114) (cond (Nat.beq pc 113) (some (.ireturn, 114, 0)) none) (cond (Nat.beq pc 114) (some (.aload_n 0, 115, 0)) none)) (cond (Nat.blt pc 118) (cond (Nat.beq pc 115) (some (.getfield 41, 118, 0)) none) (cond (Nat.beq pc 118) (some (.bipush 24, 120, 0)) none))))) (cond (Nat.blt pc 127) (cond (Nat.blt pc 123) (cond (Nat.blt pc 121) (cond (Nat.beq pc 120) (some (.iload_n 3, 121, 0)) none) (cond (Nat.blt pc 122) (cond (Nat.beq pc 121) (some (.imul, 122, 0)) none) (cond (Nat.beq pc 122) (some (.iload_n 2, 123, 0)) none))) (cond (Nat.blt pc 124) (cond (Nat.beq pc 123) (some (.iadd, 124, 0)) none) (cond (Nat.blt pc 125) (cond (Nat.beq pc 124) (some (.iaload, 125, 0)) none) (cond (Nat.beq pc 125) (some (.istore 7, 127, 0)) none)))) (cond (Nat.blt pc 132) (cond (Nat.blt pc 128) (cond (Nat.beq pc 127) (some (.aload_n 0, 128, 0)) none) (cond (Nat.blt pc 131) (cond (Nat.beq pc 128) (some (.getfield 44, 131, 0)) none) (cond (Nat.beq pc 131) (some (.iload_n 3, 132, 0)) none))) (cond (Nat.blt pc 134) (cond (Nat.blt pc 133) (cond (Nat.beq pc 132) (some (.iconst 1, 133, 0)) none) (cond (Nat.beq pc 133) (some (.iload_n 2, 134, 0)) none)) (cond (Nat.blt pc 135) (cond (Nat.beq pc 134) (some (.ishl, 135, 0)) none) (cond (Nat.beq pc 135) (some (.iastore, 136, 0)) none)))))) (cond (Nat.blt pc 160) (cond (Nat.blt pc 147) (cond (Nat.blt pc 140) (cond (Nat.blt pc 137) (cond (Nat.beq pc 136) (some (.iconst 1, 137, 0)) none) (cond (Nat.blt pc 139) (cond (Nat.beq pc 137) (some (.istore 8, 139, 0)) none) (cond (Nat.beq pc 139) (some (.iconst 1, 140, 0)) none))) (cond (Nat.blt pc 142) (cond (Nat.beq pc 140) (some (.istore 9, 142, 0)) none) (cond (Nat.blt pc 144) (cond (Nat.beq pc 142) (some (.iload 9, 144, 0)) none) (cond (Nat.beq pc 144) (some (.ifCond .eq 190, 147, 334)) none)))) (cond (Nat.blt pc 152) (cond (Nat.blt pc 149) (cond (Nat.beq pc 147) (some (.iload 8, 149, 0)) none) (cond (Nat.blt pc 151) (cond (Nat.beq pc 149) (some (.istore 10, 151, 0)) none) (cond (Nat.beq pc 151) (some (.iconst 0, 152, 0)) none))) (cond (Nat.blt pc 156) (cond (Nat.blt pc 154) (cond (Nat.beq pc 152) (some (.istore 11, 154, 0)) none) (cond (Nat.beq pc 154) (some (.iload 11, 156, 0)) none)) (cond (Nat.blt pc 157) (cond (Nat.beq pc 156) (some (.aload_n 0, 157, 0)) none) (cond (Nat.beq pc 157) (some (.invokevirtual 96, 160, 0)) none))))) (cond (Nat.blt pc 172) (cond (Nat.blt pc 166) (cond (Nat.blt pc 163) (cond (Nat.beq pc 160) (some (.if_icmp .ge 157, 163, 317)) none) (cond (Nat.blt pc 164) (cond (Nat.beq pc 163) (some (.iconst 0, 164, 0)) none) (cond (Nat.beq pc 164) (some (.istore 12, 166, 0)) none))) (cond (Nat.blt pc 168) (cond (Nat.beq pc 166) (some (.iload 12, 168, 0)) none) (cond (Nat.blt pc 169) (cond (Nat.beq pc 168) (some (.aload_n 0, 169, 0)) none) (cond (Nat.beq pc 169) (some (.invokevirtual 100, 172, 0)) none)))) (cond (Nat.blt pc 178) (cond (Nat.blt pc 175) (cond (Nat.beq pc 172) (some (.if_icmp .ge 139, 175, 311)) none) (cond (Nat.blt pc 176) (cond (Nat.beq pc 175) (some (.aload_n 0, 176, 0)) none) (cond (Nat.beq pc 176) (some (.iload 12, 178, 0)) none))) (cond (Nat.blt pc 180) (cond (Nat.blt pc 179) (cond (Nat.beq pc 178) (some (.iconst 1, 179, 0)) none) (cond (Nat.beq pc 179) (some (.isub, 180, 0)) none)) (cond (Nat.blt pc 182) (cond (Nat.beq pc 180) (some (.iload 11, 182, 0)) none) (cond (Nat.beq pc 182) (some (.invokevirtual 155, 185, 0)) none)))))))) (cond (Nat.blt pc 288) (cond (Nat.blt pc 234) (cond (Nat.blt pc 208) (cond (Nat.blt pc 195) (cond (Nat.blt pc 191) (cond (Nat.blt pc 188) (cond (Nat.beq pc 185) (some (.ifCond .ne 42, 188, 227)) none) (cond (Nat.blt pc 189) (cond (Nat.beq pc 188) (some (.aload_n 0, 189, 0)) none) (cond (Nat.beq pc 189) (some (.iload 12, 191, 0)) none))) (cond (Nat.blt pc 192) (cond (Nat.beq pc 191) (some (.iconst 1, 192, 0)) none) (cond (Nat.blt pc 193) (cond (Nat.beq pc 192) (some (.iadd, 193, 0)) none) (cond (Nat.beq pc 193) (some (.iload 11, 195, 0)) none)))) (cond (Nat.blt pc 202) (cond (Nat.blt pc 198) (cond (Nat.beq pc 195) (some (.invokevirtual 155, 198, 0)) none) (cond (Nat.blt pc 201) (cond (Nat.beq pc 198) (some (.ifCond .ne 29, 201, 227)) none) (cond (Nat.beq pc 201) (some (.aload_n 0, 202, 0)) none))) (cond (Nat.blt pc 206) (cond (Nat.blt pc 204) (cond (Nat.beq pc 202) (some (.iload 12, 204, 0)) none) (cond (Nat.beq pc 204) (some (.iload 11, 206, 0)) none)) (cond (Nat.blt pc 207) (cond (Nat.beq pc 206) (some (.iconst 1, 207, 0)) none) (cond (Nat.beq pc 207) (some (.isub, 208, 0)) none))))) (cond (Nat.blt pc 220) (cond (Nat.blt pc 215) (cond (Nat.blt pc 211) (cond (Nat.beq pc 208) (some (.invokevirtual 155, 211, 0)) none) (cond (Nat.blt pc 214) (cond (Nat.beq pc 211) (some (.ifCond .ne 16, 214, 227)) none) (cond (Nat.beq pc 214) (some (.aload_n 0, 215, 0)) none))) (cond (Nat.blt pc 217) (cond (Nat.beq pc 215) (some (.iload 12, 217, 0)) none) (cond (Nat.blt pc 219) (cond (Nat.beq pc 217) (some (.iload 11, 219, 0)) none) (cond (Nat.beq pc 219) (some (.iconst 1, 220, 0)) none)))) (cond (Nat.blt pc 227) (cond (Nat.blt pc 221) (cond (Nat.beq pc 220) (some (.iadd, 221, 0)) none) (cond (Nat.blt pc 224) (cond (Nat.beq pc 221) (some (.invokevirtual 155, 224, 0)) none) (cond (Nat.beq pc 224) (some (.ifCond .eq 7, 227, 231)) none))) (cond (Nat.blt pc 231) (cond (Nat.blt pc 228) (cond (Nat.beq pc 227) (some (.iconst 1, 228, 0)) none) (cond (Nat.beq pc 228) (some (.goto 4, 231, 232)) none)) (cond (Nat.blt pc 232) (cond (Nat.beq pc 231) (some (.iconst 0, 232, 0)) none) (cond (Nat.beq pc 232) (some (.istore 13, 234, 0)) none)))))) (cond (Nat.blt pc 262) (cond (Nat.blt pc 247) (cond (Nat.blt pc 240) (cond (Nat.blt pc 236) (cond (Nat.beq pc 234) (some (.iload 13, 236, 0)) none) (cond (Nat.blt pc 239) (cond (Nat.beq pc 236) (some (.ifCond .eq 69, 239, 305)) none) (cond (Nat.beq pc 239) (some (.aload_n 0, 240, 0)) none))) (cond (Nat.blt pc 242) (cond (Nat.beq pc 240) (some (.iload 12, 242, 0)) none) (cond (Nat.blt pc 244) (cond (Nat.beq pc 242) (some (.iload 11, 244, 0)) none) (cond (Nat.beq pc 244) (some (.invokevirtual 155, 247, 0)) none)))) (cond (Nat.blt pc 253) (cond (Nat.blt pc 250) (cond (Nat.beq pc 247) (some (.ifCond .ne 58, 250, 305)) none) (cond (Nat.blt pc 251) (cond (Nat.beq pc 250) (some (.aload_n 0, 251, 0)) none) (cond (Nat.beq pc 251) (some (.iload 12, 253, 0)) none))) (cond (Nat.blt pc 258) (cond (Nat.blt pc 255) (cond (Nat.beq pc 253) (some (.iload 11, 255, 0)) none) (cond (Nat.beq pc 255) (some (.invokevirtual 110, 258, 0)) none)) (cond (Nat.blt pc 261) (cond (Nat.beq pc 258) (some (.ifCond .eq 47, 261, 305)) none) (cond (Nat.beq pc 261) (some (.aload_n 0, 262, 0)) none))))) (cond (Nat.blt pc 273) (cond (Nat.blt pc 268) (cond (Nat.blt pc 263) (cond (Nat.beq pc 262) (some (.aload_n 0, 263, 0)) none) (cond (Nat.blt pc 266) (cond (Nat.beq pc 263) (some (.getfield 41, 266, 0)) none) (cond (Nat.beq pc 266) (some (.bipush 24, 268, 0)) none))) (cond (Nat.blt pc 270) (cond (Nat.beq pc 268) (some (.iload 11, 270, 0)) none) (cond (Nat.blt pc 271) (cond (Nat.beq pc 270) (some (.imul, 271, 0)) none) (cond (Nat.beq pc 271) (some (.iload 12, 273, 0)) none)))) (cond (Nat.blt pc 277) (cond (Nat.blt pc 274) (cond (Nat.beq pc 273) (some (.iadd, 274, 0)) none) (cond (Nat.blt pc 275) (cond (Nat.beq pc 274) (some (.iaload, 275, 0)) none) (cond (Nat.beq pc 275) (some (.iload 7, 277, 0)) none))) (cond (Nat.blt pc 282) (cond (Nat.blt pc 279) (cond (Nat.beq pc 277) (some (.iload 5, 279, 0)) none) (cond (Nat.beq pc 279) (some (.invokevirtual 158, 282, 0)) none)) (cond (Nat.blt pc 285) (cond (Nat.beq pc 282) (some (.ifCond .ne 6, 285, 288)) none) (cond (Nat.beq pc 285) (some (.goto 20, 288, 305)) none))))))) (cond (Nat.blt pc 339) (cond (Nat.blt pc 311) (cond (Nat.blt pc 297) (cond (Nat.blt pc 294) (cond (Nat.blt pc 289) (cond (Nat.beq pc 288) (some (.aload_n 0, 289, 0)) none) (cond (Nat.blt pc 292) (cond (Nat.beq pc 289) (some (.getfield 44, 292, 0)) none) (cond (Nat.beq pc 292) (some (.iload 11, 294, 0)) none))) (cond (Nat.blt pc 295) (cond (Nat.beq pc 294) (some (.dup2, 295, 0)) none) (cond (Nat.blt pc 296) (cond (Nat.beq pc 295) (some (.iaload, 296, 0)) none) (cond (Nat.beq pc 296) (some (.iconst 1, 297, 0)) none)))) (cond (Nat.blt pc 301) (cond (Nat.blt pc 299) (cond (Nat.beq pc 297) (some (.iload 12, 299, 0)) none) (cond (Nat.blt pc 300) (cond (Nat.beq pc 299) (some (.ishl, 300, 0)) none) (cond (Nat.beq pc 300) (some (.ior, 301, 0)) none))) (cond (Nat.blt pc 305) (cond (Nat.blt pc 302) (cond (Nat.beq pc 301) (some (.iastore, 302, 0)) none) (cond (Nat.beq pc 302) (some (.iinc 8 1, 305, 0)) none)) (cond (Nat.blt pc 308) (cond (Nat.beq pc 305) (some (.iinc 12 1, 308, 0)) none) (cond (Nat.beq pc 308) (some (.goto (-142), 311, 166)) none))))) (cond (Nat.blt pc 325) (cond (Nat.blt pc 319) (cond (Nat.blt pc 314) (cond (Nat.beq pc 311) (some (.iinc 11 1, 314, 0)) none) (cond (Nat.blt pc 317) (cond (Nat.beq pc 314) (some (.goto (-160), 317, 154)) none) (cond (Nat.beq pc 317) (some (.iload 8, 319, 0)) none))) (cond (Nat.blt pc 321) (cond (Nat.beq pc 319) (some (.iload 10, 321, 0)) none) (cond (Nat.blt pc 324) (cond (Nat.beq pc 321) (some (.if_icmp .le 7, 324, 328)) none) (cond (Nat.beq pc 324) (some (.iconst 1, 325, 0)) none)))) (cond (Nat.blt pc 331) (cond (Nat.blt pc 328) (cond (Nat.beq pc 325) (some (.goto 4, 328, 329)) none) (cond (Nat.blt pc 329) (cond (Nat.beq pc 328) (some (.iconst 0, 329, 0)) none) (cond (Nat.beq pc 329) (some (.istore 9, 331, 0)) none))) (cond (Nat.blt pc 335) (cond (Nat.blt pc 334) (cond (Nat.beq pc 331) (some (.goto (-189), 334, 142)) none) (cond (Nat.beq pc 334) (some (.iconst 0, 335, 0)) none)) (cond (Nat.blt pc 337) (cond (Nat.beq pc 335) (some (.istore 10, 337, 0)) none) (cond (Nat.beq pc 337) (some (.iload 10, 339, 0)) none)))))) (cond (Nat.blt pc 366) (cond (Nat.blt pc 351) (cond (Nat.blt pc 346) (cond (Nat.blt pc 340) (cond (Nat.beq pc 339) (some (.aload_n 0, 340, 0)) none) (cond (Nat.blt pc 343) (cond (Nat.beq pc 340) (some (.invokevirtual 96, 343, 0)) none) (cond (Nat.beq pc 343) (some (.if_icmp .ge 49, 346, 392)) none))) (cond (Nat.blt pc 347) (cond (Nat.beq pc 346) (some (.iconst 0, 347, 0)) none) (cond (Nat.blt pc 349) (cond (Nat.beq pc 347) (some (.istore 11, 349, 0)) none) (cond (Nat.beq pc 349) (some (.iload 11, 351, 0)) none)))) (cond (Nat.blt pc 358) (cond (Nat.blt pc 352) (cond (Nat.beq pc 351) (some (.aload_n 0, 352, 0)) none) (cond (Nat.blt pc 355) (cond (Nat.beq pc 352) (some (.invokevirtual 100, 355, 0)) none) (cond (Nat.beq pc 355) (some (.if_icmp .ge 31, 358, 386)) none))) (cond (Nat.blt pc 361) (cond (Nat.blt pc 359) (cond (Nat.beq pc 358) (some (.aload_n 0, 359, 0)) none) (cond (Nat.beq pc 359) (some (.iload 11, 361, 0)) none)) (cond (Nat.blt pc 363) (cond (Nat.beq pc 361) (some (.iload 10, 363, 0)) none) (cond (Nat.beq pc 363) (some (.invokevirtual 155, 366, 0)) none))))) (cond (Nat.blt pc 377) (cond (Nat.blt pc 371) (cond (Nat.blt pc 369) (cond (Nat.beq pc 366) (some (.ifCond .eq 14, 369, 380)) none) (cond (Nat.blt pc 370) (cond (Nat.beq pc 369) (some (.aload_n 0, 370, 0)) none) (cond (Nat.beq pc 370) (some (.iload_n 1, 371, 0)) none))) (cond (Nat.blt pc 373) (cond (Nat.beq pc 371) (some (.iload 11, 373, 0)) none) (cond (Nat.blt pc 375) (cond (Nat.beq pc 373) (some (.iload 10, 375, 0)) none) (cond (Nat.beq pc 375) (some (.iload 4, 377, 0)) none)))) (cond (Nat.blt pc 386) (cond (Nat.blt pc 380) (cond (Nat.beq pc 377) (some (.invokevirtual 138, 380, 0)) none) (cond (Nat.blt pc 383) (cond (Nat.beq pc 380) (some (.iinc 11 1, 383, 0)) none) (cond (Nat.beq pc 383) (some (.goto (-34), 386, 349)) none))) (cond (Nat.blt pc 392) (cond (Nat.blt pc 389) (cond (Nat.beq pc 386) (some (.iinc 10 1, 389, 0)) none) (cond (Nat.beq pc 389) (some (.goto (-52), 392, 337)) none)) (cond (Nat.blt pc 394) (cond (Nat.beq pc 392) (some (.iload 8, 394, 0)) none) (cond (Nat.beq pc 394) (some (.ireturn, 395, 0)) none))))))))
def m_M_flood : MI := (⟨"TileStudioModel", "flood", "(IIIII)I"⟩, prog_10_method_38_code, 14, (Option.some Jvm.ClassFile.FieldType.int), [], zmk 395 tb_M_flood)
theorem ok_M_flood : zok m_M_flood := zok_mk rfl (by decide +kernel)
def tb_M_isReached : ZT := fun pc => cond (Nat.blt pc 25) (cond (Nat.blt pc 12) (cond (Nat.blt pc 5) (cond (Nat.blt pc 1) (cond (Nat.beq pc 0) (some (.iload_n 1, 1, 0)) none) (cond (Nat.blt pc 4) (cond (Nat.beq pc 1) (some (.ifCond .lt 41, 4, 42)) none) (cond (Nat.beq pc 4) (some (.iload_n 1, 5, 0)) none))) (cond (Nat.blt pc 6) (cond (Nat.beq pc 5) (some (.aload_n 0, 6, 0)) none) (cond (Nat.blt pc 9) (cond (Nat.beq pc 6) (some (.invokevirtual 100, 9, 0)) none) (cond (Nat.beq pc 9) (some (.if_icmp .ge 33, 12, 42)) none)))) (cond (Nat.blt pc 17) (cond (Nat.blt pc 13) (cond (Nat.beq pc 12) (some (.iload_n 2, 13, 0)) none) (cond (Nat.blt pc 16) (cond (Nat.beq pc 13) (some (.ifCond .lt 29, 16, 42)) none) (cond (Nat.beq pc 16) (some (.iload_n 2, 17, 0)) none))) (cond (Nat.blt pc 21) (cond (Nat.blt pc 18) (cond (Nat.beq pc 17) (some (.aload_n 0, 18, 0)) none) (cond (Nat.beq pc 18) (some (.invokevirtual 96, 21, 0)) none)) (cond (Nat.blt pc 24) (cond (Nat.beq pc 21) (some (.if_icmp .ge 21, 24, 42)) none) (cond (Nat.beq pc 24) (some (.aload_n 0, 25, 0)) none))))) (cond (Nat.blt pc 33) (cond (Nat.blt pc 30) (cond (Nat.blt pc 28) (cond (Nat.beq pc 25) (some (.getfield 44, 28, 0)) none) (cond (Nat.blt pc 29) (cond (Nat.beq pc 28) (some (.iload_n 2, 29, 0)) none) (cond (Nat.beq pc 29) (some (.iaload, 30, 0)) none))) (cond (Nat.blt pc 31) (cond (Nat.beq pc 30) (some (.iload_n 1, 31, 0)) none) (cond (Nat.blt pc 32) (cond (Nat.beq pc 31) (some (.ishr, 32, 0)) none) (cond (Nat.beq pc 32) (some (.iconst 1, 33, 0)) none)))) (cond (Nat.blt pc 38) (cond (Nat.blt pc 34) (cond (Nat.beq pc 33) (some (.iand, 34, 0)) none) (cond (Nat.blt pc 35) (cond (Nat.beq pc 34) (some (.iconst 1, 35, 0)) none) (cond (Nat.beq pc 35) (some (.if_icmp .ne 7, 38, 42)) none))) (cond (Nat.blt pc 42) (cond (Nat.blt pc 39) (cond (Nat.beq pc 38) (some (.iconst 1, 39, 0)) none) (cond (Nat.beq pc 39) (some (.goto 4, 42, 43)) none)) (cond (Nat.blt pc 43) (cond (Nat.beq pc 42) (some (.iconst 0, 43, 0)) none) (cond (Nat.beq pc 43) (some (.ireturn, 44, 0)) none)))))
def m_M_isReached : MI := (⟨"TileStudioModel", "isReached", "(II)Z"⟩, prog_10_method_37_code, 3, (Option.some Jvm.ClassFile.FieldType.boolean), [], zmk 44 tb_M_isReached)
theorem ok_M_isReached : zok m_M_isReached := zok_mk rfl (by decide +kernel)
def tb_M_isNear : ZT := fun pc => cond (Nat.blt pc 24) (cond (Nat.blt pc 9) (cond (Nat.blt pc 4) (cond (Nat.blt pc 1) (cond (Nat.beq pc 0) (some (.iconst 1, 1, 0)) none) (cond (Nat.blt pc 3) (cond (Nat.beq pc 1) (some (.istore 4, 3, 0)) none) (cond (Nat.beq pc 3) (some (.iconst 0, 4, 0)) none))) (cond (Nat.blt pc 6) (cond (Nat.beq pc 4) (some (.istore 5, 6, 0)) none) (cond (Nat.blt pc 8) (cond (Nat.beq pc 6) (some (.iload 5, 8, 0)) none) (cond (Nat.beq pc 8) (some (.iconst 4, 9, 0)) none)))) (cond (Nat.blt pc 17) (cond (Nat.blt pc 12) (cond (Nat.beq pc 9) (some (.if_icmp .ge 40, 12, 49)) none) (cond (Nat.blt pc 14) (cond (Nat.beq pc 12) (some (.iload 4, 14, 0)) none) (cond (Nat.beq pc 14) (some (.ifCond .eq 26, 17, 40)) none))) (cond (Nat.blt pc 20) (cond (Nat.blt pc 18) (cond (Nat.beq pc 17) (some (.iload_n 1, 18, 0)) none) (cond (Nat.beq pc 18) (some (.iload 5, 20, 0)) none)) (cond (Nat.blt pc 23) (cond (Nat.beq pc 20) (some (.invokestatic 118, 23, 0)) none) (cond (Nat.beq pc 23) (some (.iload_n 2, 24, 0)) none))))) (cond (Nat.blt pc 37) (cond (Nat.blt pc 32) (cond (Nat.blt pc 26) (cond (Nat.beq pc 24) (some (.iload 5, 26, 0)) none) (cond (Nat.blt pc 29) (cond (Nat.beq pc 26) (some (.invokestatic 118, 29, 0)) none) (cond (Nat.beq pc 29) (some (.invokestatic 145, 32, 0)) none))) (cond (Nat.blt pc 33) (cond (Nat.beq pc 32) (some (.iload_n 3, 33, 0)) none) (cond (Nat.blt pc 36) (cond (Nat.beq pc 33) (some (.if_icmp .gt 7, 36, 40)) none) (cond (Nat.beq pc 36) (some (.iconst 1, 37, 0)) none)))) (cond (Nat.blt pc 43) (cond (Nat.blt pc 40) (cond (Nat.beq pc 37) (some (.goto 4, 40, 41)) none) (cond (Nat.blt pc 41) (cond (Nat.beq pc 40) (some (.iconst 0, 41, 0)) none) (cond (Nat.beq pc 41) (some (.istore 4, 43, 0)) none))) (cond (Nat.blt pc 49) (cond (Nat.blt pc 46) (cond (Nat.beq pc 43) (some (.iinc 5 1, 46, 0)) none) (cond (Nat.beq pc 46) (some (.goto (-40), 49, 6)) none)) (cond (Nat.blt pc 51) (cond (Nat.beq pc 49) (some (.iload 4, 51, 0)) none) (cond (Nat.beq pc 51) (some (.ireturn, 52, 0)) none)))))
def m_M_isNear : MI := (⟨"TileStudioModel", "isNear", "(III)Z"⟩, prog_10_method_36_code, 6, (Option.some Jvm.ClassFile.FieldType.boolean), [], zmk 52 tb_M_isNear)
theorem ok_M_isNear : zok m_M_isNear := zok_mk rfl (by decide +kernel)
def tb_M_copy : ZT := fun pc => cond (Nat.blt pc 66) (cond (Nat.blt pc 32) (cond (Nat.blt pc 17) (cond (Nat.blt pc 6) (cond (Nat.blt pc 2) (cond (Nat.blt pc 1) (cond (Nat.beq pc 0) (some (.aload_n 0, 1, 0)) none) (cond (Nat.beq pc 1) (some (.aload_n 0, 2, 0)) none)) (cond (Nat.blt pc 3) (cond (Nat.beq pc 2) (some (.iload_n 1, 3, 0)) none) (cond (Nat.beq pc 3) (some (.invokevirtual 89, 6, 0)) none))) (cond (Nat.blt pc 10) (cond (Nat.blt pc 9) (cond (Nat.beq pc 6) (some (.ifCond .ne 7, 9, 13)) none) (cond (Nat.beq pc 9) (some (.iconst 1, 10, 0)) none)) (cond (Nat.blt pc 13) (cond (Nat.beq pc 10) (some (.goto 4, 13, 14)) none) (cond (Nat.blt pc 14) (cond (Nat.beq pc 13) (some (.iconst 0, 14, 0)) none) (cond (Nat.beq pc 14) (some (.invokevirtual 75, 17, 0)) none))))) (cond (Nat.blt pc 24) (cond (Nat.blt pc 21) (cond (Nat.blt pc 20) (cond (Nat.beq pc 17) (some (.ifCond .eq 5, 20, 22)) none) (cond (Nat.beq pc 20) (some (.iconst 0, 21, 0)) none)) (cond (Nat.blt pc 22) (cond (Nat.beq pc 21) (some (.ireturn, 22, 0)) none) (cond (Nat.blt pc 23) (cond (Nat.beq pc 22) (some (.aload_n 0, 23, 0)) none) (cond (Nat.beq pc 23) (some (.iconst 1, 24, 0)) none)))) (cond (Nat.blt pc 28) (cond (Nat.blt pc 27) (cond (Nat.beq pc 24) (some (.putfield 161, 27, 0)) none) (cond (Nat.beq pc 27) (some (.iconst 0, 28, 0)) none)) (cond (Nat.blt pc 29) (cond (Nat.beq pc 28) (some (.istore_n 2, 29, 0)) none) (cond (Nat.blt pc 30) (cond (Nat.beq pc 29) (some (.iload_n 2, 30, 0)) none) (cond (Nat.beq pc 30) (some (.bipush 24, 32, 0)) none)))))) (cond (Nat.blt pc 49) (cond (Nat.blt pc 40) (cond (Nat.blt pc 36) (cond (Nat.blt pc 35) (cond (Nat.beq pc 32) (some (.if_icmp .ge 41, 35, 73)) none) (cond (Nat.beq pc 35) (some (.aload_n 0, 36, 0)) none)) (cond (Nat.blt pc 39) (cond (Nat.beq pc 36) (some (.getfield 38, 39, 0)) none) (cond (Nat.beq pc 39) (some (.iload_n 2, 40, 0)) none))) (cond (Nat.blt pc 42) (cond (Nat.blt pc 41) (cond (Nat.beq pc 40) (some (.iload_n 2, 41, 0)) none) (cond (Nat.beq pc 41) (some (.aload_n 0, 42, 0)) none)) (cond (Nat.blt pc 45) (cond (Nat.beq pc 42) (some (.invokevirtual 96, 45, 0)) none) (cond (Nat.blt pc 48) (cond (Nat.beq pc 45) (some (.if_icmp .ge 20, 48, 65)) none) (cond (Nat.beq pc 48) (some (.aload_n 0, 49, 0)) none))))) (cond (Nat.blt pc 59) (cond (Nat.blt pc 54) (cond (Nat.blt pc 52) (cond (Nat.beq pc 49) (some (.getfield 13, 52, 0)) none) (cond (Nat.beq pc 52) (some (.bipush 24, 54, 0)) none)) (cond (Nat.blt pc 55) (cond (Nat.beq pc 54) (some (.aload_n 0, 55, 0)) none) (cond (Nat.blt pc 58) (cond (Nat.beq pc 55) (some (.getfield 58, 58, 0)) none) (cond (Nat.beq pc 58) (some (.imul, 59, 0)) none)))) (cond (Nat.blt pc 61) (cond (Nat.blt pc 60) (cond (Nat.beq pc 59) (some (.iload_n 2, 60, 0)) none) (cond (Nat.beq pc 60) (some (.iadd, 61, 0)) none)) (cond (Nat.blt pc 62) (cond (Nat.beq pc 61) (some (.iaload, 62, 0)) none) (cond (Nat.blt pc 65) (cond (Nat.beq pc 62) (some (.goto 4, 65, 66)) none) (cond (Nat.beq pc 65) (some (.iconst 0, 66, 0)) none))))))) (cond (Nat.blt pc 100) (cond (Nat.blt pc 83) (cond (Nat.blt pc 74) (cond (Nat.blt pc 70) (cond (Nat.blt pc 67) (cond (Nat.beq pc 66) (some (.iastore, 67, 0)) none) (cond (Nat.beq pc 67) (some (.iinc 2 1, 70, 0)) none)) (cond (Nat.blt pc 73) (cond (Nat.beq pc 70) (some (.goto (-41), 73, 29)) none) (cond (Nat.beq pc 73) (some (.iconst 0, 74, 0)) none))) (cond (Nat.blt pc 76) (cond (Nat.blt pc 75) (cond (Nat.beq pc 74) (some (.istore_n 2, 75, 0)) none) (cond (Nat.beq pc 75) (some (.iload_n 2, 76, 0)) none)) (cond (Nat.blt pc 77) (cond (Nat.beq pc 76) (some (.aload_n 0, 77, 0)) none) (cond (Nat.blt pc 80) (cond (Nat.beq pc 77) (some (.invokevirtual 96, 80, 0)) none) (cond (Nat.beq pc 80) (some (.if_icmp .ge 48, 83, 128)) none))))) (cond (Nat.blt pc 90) (cond (Nat.blt pc 85) (cond (Nat.blt pc 84) (cond (Nat.beq pc 83) (some (.iconst 0, 84, 0)) none) (cond (Nat.beq pc 84) (some (.istore_n 3, 85, 0)) none)) (cond (Nat.blt pc 86) (cond (Nat.beq pc 85) (some (.iload_n 3, 86, 0)) none) (cond (Nat.blt pc 87) (cond (Nat.beq pc 86) (some (.aload_n 0, 87, 0)) none) (cond (Nat.beq pc 87) (some (.invokevirtual 100, 90, 0)) none)))) (cond (Nat.blt pc 94) (cond (Nat.blt pc 93) (cond (Nat.beq pc 90) (some (.if_icmp .ge 32, 93, 122)) none) (cond (Nat.beq pc 93) (some (.aload_n 0, 94, 0)) none)) (cond (Nat.blt pc 97) (cond (Nat.beq pc 94) (some (.getfield 35, 97, 0)) none) (cond (Nat.blt pc 99) (cond (Nat.beq pc 97) (some (.bipush 24, 99, 0)) none) (cond (Nat.beq pc 99) (some (.iload_n 2, 100, 0)) none)))))) (cond (Nat.blt pc 111) (cond (Nat.blt pc 104) (cond (Nat.blt pc 102) (cond (Nat.blt pc 101) (cond (Nat.beq pc 100) (some (.imul, 101, 0)) none) (cond (Nat.beq pc 101) (some (.iload_n 3, 102, 0)) none)) (cond (Nat.blt pc 103) (cond (Nat.beq pc 102) (some (.iadd, 103, 0)) none) (cond (Nat.beq pc 103) (some (.aload_n 0, 104, 0)) none))) (cond (Nat.blt pc 108) (cond (Nat.blt pc 107) (cond (Nat.beq pc 104) (some (.getfield 7, 107, 0)) none) (cond (Nat.beq pc 107) (some (.aload_n 0, 108, 0)) none)) (cond (Nat.blt pc 109) (cond (Nat.beq pc 108) (some (.iload_n 1, 109, 0)) none) (cond (Nat.blt pc 110) (cond (Nat.beq pc 109) (some (.iload_n 3, 110, 0)) none) (cond (Nat.beq pc 110) (some (.iload_n 2, 111, 0)) none))))) (cond (Nat.blt pc 122) (cond (Nat.blt pc 115) (cond (Nat.blt pc 114) (cond (Nat.beq pc 111) (some (.invokevirtual 132, 114, 0)) none) (cond (Nat.beq pc 114) (some (.iaload, 115, 0)) none)) (cond (Nat.blt pc 116) (cond (Nat.beq pc 115) (some (.iastore, 116, 0)) none) (cond (Nat.blt pc 119) (cond (Nat.beq pc 116) (some (.iinc 3 1, 119, 0)) none) (cond (Nat.beq pc 119) (some (.goto (-34), 122, 85)) none)))) (cond (Nat.blt pc 128) (cond (Nat.blt pc 125) (cond (Nat.beq pc 122) (some (.iinc 2 1, 125, 0)) none) (cond (Nat.beq pc 125) (some (.goto (-50), 128, 75)) none)) (cond (Nat.blt pc 129) (cond (Nat.beq pc 128) (some (.aload_n 0, 129, 0)) none) (cond (Nat.blt pc 132) (cond (Nat.beq pc 129) (some (.invokevirtual 107, 132, 0)) none) (cond (Nat.beq pc 132) (some (.ireturn, 133, 0)) none)))))))
def m_M_copy : MI := (⟨"TileStudioModel", "copy", "(I)I"⟩, prog_10_method_39_code, 4, (Option.some Jvm.ClassFile.FieldType.int), [], zmk 133 tb_M_copy)
theorem ok_M_copy : zok m_M_copy := zok_mk rfl (by decide +kernel)
def tb_M_paste : ZT := fun pc => cond (Nat.blt pc 98) (cond (Nat.blt pc 51) (cond (Nat.blt pc 23) (cond (Nat.blt pc 10) (cond (Nat.blt pc 3) (cond (Nat.blt pc 1) (cond (Nat.beq pc 0) (some (.aload_n 0, 1, 0)) none) (cond (Nat.blt pc 2) (cond (Nat.beq pc 1) (some (.aload_n 0, 2, 0)) none) (cond (Nat.beq pc 2) (some (.iload_n 1, 3, 0)) none))) (cond (Nat.blt pc 6) (cond (Nat.beq pc 3) (some (.invokevirtual 89, 6, 0)) none) (cond (Nat.blt pc 9) (cond (Nat.beq pc 6) (some (.ifCond .eq 25, 9, 31)) none) (cond (Nat.beq pc 9) (some (.iload_n 2, 10, 0)) none)))) (cond (Nat.blt pc 17) (cond (Nat.blt pc 12) (cond (Nat.beq pc 10) (some (.bipush (-100), 12, 0)) none) (cond (Nat.blt pc 14) (cond (Nat.beq pc 12) (some (.bipush 100, 14, 0)) none) (cond (Nat.beq pc 14) (some (.invokestatic 71, 17, 0)) none))) (cond (Nat.blt pc 20) (cond (Nat.beq pc 17) (some (.ifCond .eq 14, 20, 31)) none) (cond (Nat.blt pc 21) (cond (Nat.beq pc 20) (some (.iload_n 3, 21, 0)) none) (cond (Nat.beq pc 21) (some (.bipush (-100), 23, 0)) none))))) (cond (Nat.blt pc 36) (cond (Nat.blt pc 31) (cond (Nat.blt pc 25) (cond (Nat.beq pc 23) (some (.bipush 100, 25, 0)) none) (cond (Nat.blt pc 28) (cond (Nat.beq pc 25) (some (.invokestatic 71, 28, 0)) none) (cond (Nat.beq pc 28) (some (.ifCond .ne 7, 31, 35)) none))) (cond (Nat.blt pc 32) (cond (Nat.beq pc 31) (some (.iconst 1, 32, 0)) none) (cond (Nat.blt pc 35) (cond (Nat.beq pc 32) (some (.goto 15, 35, 47)) none) (cond (Nat.beq pc 35) (some (.aload_n 0, 36, 0)) none)))) (cond (Nat.blt pc 43) (cond (Nat.blt pc 39) (cond (Nat.beq pc 36) (some (.getfield 161, 39, 0)) none) (cond (Nat.blt pc 42) (cond (Nat.beq pc 39) (some (.ifCond .ne 7, 42, 46)) none) (cond (Nat.beq pc 42) (some (.iconst 2, 43, 0)) none))) (cond (Nat.blt pc 47) (cond (Nat.blt pc 46) (cond (Nat.beq pc 43) (some (.goto 4, 46, 47)) none) (cond (Nat.beq pc 46) (some (.iconst 0, 47, 0)) none)) (cond (Nat.blt pc 50) (cond (Nat.beq pc 47) (some (.putfield 50, 50, 0)) none) (cond (Nat.beq pc 50) (some (.aload_n 0, 51, 0)) none)))))) (cond (Nat.blt pc 72) (cond (Nat.blt pc 63) (cond (Nat.blt pc 58) (cond (Nat.blt pc 54) (cond (Nat.beq pc 51) (some (.getfield 50, 54, 0)) none) (cond (Nat.blt pc 57) (cond (Nat.beq pc 54) (some (.ifCond .le 5, 57, 59)) none) (cond (Nat.beq pc 57) (some (.iconst 0, 58, 0)) none))) (cond (Nat.blt pc 59) (cond (Nat.beq pc 58) (some (.ireturn, 59, 0)) none) (cond (Nat.blt pc 60) (cond (Nat.beq pc 59) (some (.aload_n 0, 60, 0)) none) (cond (Nat.beq pc 60) (some (.invokevirtual 83, 63, 0)) none)))) (cond (Nat.blt pc 67) (cond (Nat.blt pc 64) (cond (Nat.beq pc 63) (some (.iconst 0, 64, 0)) none) (cond (Nat.blt pc 66) (cond (Nat.beq pc 64) (some (.istore 4, 66, 0)) none) (cond (Nat.beq pc 66) (some (.iconst 0, 67, 0)) none))) (cond (Nat.blt pc 69) (cond (Nat.beq pc 67) (some (.istore 5, 69, 0)) none) (cond (Nat.blt pc 71) (cond (Nat.beq pc 69) (some (.iload 5, 71, 0)) none) (cond (Nat.beq pc 71) (some (.aload_n 0, 72, 0)) none))))) (cond (Nat.blt pc 84) (cond (Nat.blt pc 79) (cond (Nat.blt pc 75) (cond (Nat.beq pc 72) (some (.invokevirtual 96, 75, 0)) none) (cond (Nat.blt pc 78) (cond (Nat.beq pc 75) (some (.if_icmp .ge 122, 78, 197)) none) (cond (Nat.beq pc 78) (some (.iconst 0, 79, 0)) none))) (cond (Nat.blt pc 81) (cond (Nat.beq pc 79) (some (.istore 6, 81, 0)) none) (cond (Nat.blt pc 83) (cond (Nat.beq pc 81) (some (.iload 6, 83, 0)) none) (cond (Nat.beq pc 83) (some (.aload_n 0, 84, 0)) none)))) (cond (Nat.blt pc 92) (cond (Nat.blt pc 87) (cond (Nat.beq pc 84) (some (.invokevirtual 100, 87, 0)) none) (cond (Nat.blt pc 90) (cond (Nat.beq pc 87) (some (.if_icmp .ge 104, 90, 191)) none) (cond (Nat.beq pc 90) (some (.iload 6, 92, 0)) none))) (cond (Nat.blt pc 94) (cond (Nat.blt pc 93) (cond (Nat.beq pc 92) (some (.iload_n 2, 93, 0)) none) (cond (Nat.beq pc 93) (some (.isub, 94, 0)) none)) (cond (Nat.blt pc 96) (cond (Nat.beq pc 94) (some (.istore 7, 96, 0)) none) (cond (Nat.beq pc 96) (some (.iload 5, 98, 0)) none))))))) (cond (Nat.blt pc 146) (cond (Nat.blt pc 123) (cond (Nat.blt pc 109) (cond (Nat.blt pc 102) (cond (Nat.blt pc 99) (cond (Nat.beq pc 98) (some (.iload_n 3, 99, 0)) none) (cond (Nat.blt pc 100) (cond (Nat.beq pc 99) (some (.isub, 100, 0)) none) (cond (Nat.beq pc 100) (some (.istore 8, 102, 0)) none))) (cond (Nat.blt pc 104) (cond (Nat.beq pc 102) (some (.iload 7, 104, 0)) none) (cond (Nat.blt pc 107) (cond (Nat.beq pc 104) (some (.ifCond .lt 81, 107, 185)) none) (cond (Nat.beq pc 107) (some (.iload 7, 109, 0)) none)))) (cond (Nat.blt pc 116) (cond (Nat.blt pc 111) (cond (Nat.beq pc 109) (some (.bipush 24, 111, 0)) none) (cond (Nat.blt pc 114) (cond (Nat.beq pc 111) (some (.if_icmp .ge 74, 114, 185)) none) (cond (Nat.beq pc 114) (some (.iload 8, 116, 0)) none))) (cond (Nat.blt pc 119) (cond (Nat.beq pc 116) (some (.ifCond .lt 69, 119, 185)) none) (cond (Nat.blt pc 121) (cond (Nat.beq pc 119) (some (.iload 8, 121, 0)) none) (cond (Nat.beq pc 121) (some (.bipush 24, 123, 0)) none))))) (cond (Nat.blt pc 135) (cond (Nat.blt pc 130) (cond (Nat.blt pc 126) (cond (Nat.beq pc 123) (some (.if_icmp .ge 62, 126, 185)) none) (cond (Nat.blt pc 127) (cond (Nat.beq pc 126) (some (.aload_n 0, 127, 0)) none) (cond (Nat.beq pc 127) (some (.getfield 38, 130, 0)) none))) (cond (Nat.blt pc 132) (cond (Nat.beq pc 130) (some (.iload 8, 132, 0)) none) (cond (Nat.blt pc 133) (cond (Nat.beq pc 132) (some (.iaload, 133, 0)) none) (cond (Nat.beq pc 133) (some (.iload 7, 135, 0)) none)))) (cond (Nat.blt pc 138) (cond (Nat.blt pc 136) (cond (Nat.beq pc 135) (some (.ishr, 136, 0)) none) (cond (Nat.blt pc 137) (cond (Nat.beq pc 136) (some (.iconst 1, 137, 0)) none) (cond (Nat.beq pc 137) (some (.iand, 138, 0)) none))) (cond (Nat.blt pc 142) (cond (Nat.blt pc 141) (cond (Nat.beq pc 138) (some (.ifCond .eq 47, 141, 185)) none) (cond (Nat.beq pc 141) (some (.aload_n 0, 142, 0)) none)) (cond (Nat.blt pc 144) (cond (Nat.beq pc 142) (some (.iload 6, 144, 0)) none) (cond (Nat.beq pc 144) (some (.iload 5, 146, 0)) none)))))) (cond (Nat.blt pc 174) (cond (Nat.blt pc 160) (cond (Nat.blt pc 155) (cond (Nat.blt pc 149) (cond (Nat.beq pc 146) (some (.invokevirtual 110, 149, 0)) none) (cond (Nat.blt pc 152) (cond (Nat.beq pc 149) (some (.ifCond .ne 6, 152, 155)) none) (cond (Nat.beq pc 152) (some (.goto 33, 155, 185)) none))) (cond (Nat.blt pc 156) (cond (Nat.beq pc 155) (some (.aload_n 0, 156, 0)) none) (cond (Nat.blt pc 159) (cond (Nat.beq pc 156) (some (.getfield 7, 159, 0)) none) (cond (Nat.beq pc 159) (some (.aload_n 0, 160, 0)) none)))) (cond (Nat.blt pc 165) (cond (Nat.blt pc 161) (cond (Nat.beq pc 160) (some (.iload_n 1, 161, 0)) none) (cond (Nat.blt pc 163) (cond (Nat.beq pc 161) (some (.iload 6, 163, 0)) none) (cond (Nat.beq pc 163) (some (.iload 5, 165, 0)) none))) (cond (Nat.blt pc 169) (cond (Nat.blt pc 168) (cond (Nat.beq pc 165) (some (.invokevirtual 132, 168, 0)) none) (cond (Nat.beq pc 168) (some (.aload_n 0, 169, 0)) none)) (cond (Nat.blt pc 172) (cond (Nat.beq pc 169) (some (.getfield 35, 172, 0)) none) (cond (Nat.beq pc 172) (some (.bipush 24, 174, 0)) none))))) (cond (Nat.blt pc 182) (cond (Nat.blt pc 179) (cond (Nat.blt pc 176) (cond (Nat.beq pc 174) (some (.iload 8, 176, 0)) none) (cond (Nat.blt pc 177) (cond (Nat.beq pc 176) (some (.imul, 177, 0)) none) (cond (Nat.beq pc 177) (some (.iload 7, 179, 0)) none))) (cond (Nat.blt pc 180) (cond (Nat.beq pc 179) (some (.iadd, 180, 0)) none) (cond (Nat.blt pc 181) (cond (Nat.beq pc 180) (some (.iaload, 181, 0)) none) (cond (Nat.beq pc 181) (some (.iastore, 182, 0)) none)))) (cond (Nat.blt pc 191) (cond (Nat.blt pc 185) (cond (Nat.beq pc 182) (some (.iinc 4 1, 185, 0)) none) (cond (Nat.blt pc 188) (cond (Nat.beq pc 185) (some (.iinc 6 1, 188, 0)) none) (cond (Nat.beq pc 188) (some (.goto (-107), 191, 81)) none))) (cond (Nat.blt pc 197) (cond (Nat.blt pc 194) (cond (Nat.beq pc 191) (some (.iinc 5 1, 194, 0)) none) (cond (Nat.beq pc 194) (some (.goto (-125), 197, 69)) none)) (cond (Nat.blt pc 199) (cond (Nat.beq pc 197) (some (.iload 4, 199, 0)) none) (cond (Nat.beq pc 199) (some (.ireturn, 200, 0)) none)))))))
def m_M_paste : MI := (⟨"TileStudioModel", "paste", "(III)I"⟩, prog_10_method_40_code, 9, (Option.some Jvm.ClassFile.FieldType.int), [], zmk 200 tb_M_paste)
theorem ok_M_paste : zok m_M_paste := zok_mk rfl (by decide +kernel)
def tb_M_mirror : ZT := fun pc => cond (Nat.blt pc 62) (cond (Nat.blt pc 31) (cond (Nat.blt pc 12) (cond (Nat.blt pc 6) (cond (Nat.blt pc 2) (cond (Nat.blt pc 1) (cond (Nat.beq pc 0) (some (.aload_n 0, 1, 0)) none) (cond (Nat.beq pc 1) (some (.aload_n 0, 2, 0)) none)) (cond (Nat.blt pc 3) (cond (Nat.beq pc 2) (some (.iload_n 1, 3, 0)) none) (cond (Nat.beq pc 3) (some (.invokevirtual 89, 6, 0)) none))) (cond (Nat.blt pc 10) (cond (Nat.blt pc 9) (cond (Nat.beq pc 6) (some (.ifCond .eq 12, 9, 18)) none) (cond (Nat.beq pc 9) (some (.iload_n 2, 10, 0)) none)) (cond (Nat.blt pc 11) (cond (Nat.beq pc 10) (some (.iconst 0, 11, 0)) none) (cond (Nat.beq pc 11) (some (.iconst 1, 12, 0)) none)))) (cond (Nat.blt pc 22) (cond (Nat.blt pc 18) (cond (Nat.blt pc 15) (cond (Nat.beq pc 12) (some (.invokestatic 71, 15, 0)) none) (cond (Nat.beq pc 15) (some (.ifCond .ne 7, 18, 22)) none)) (cond (Nat.blt pc 19) (cond (Nat.beq pc 18) (some (.iconst 1, 19, 0)) none) (cond (Nat.beq pc 19) (some (.goto 4, 22, 23)) none))) (cond (Nat.blt pc 26) (cond (Nat.blt pc 23) (cond (Nat.beq pc 22) (some (.iconst 0, 23, 0)) none) (cond (Nat.beq pc 23) (some (.invokevirtual 75, 26, 0)) none)) (cond (Nat.blt pc 29) (cond (Nat.beq pc 26) (some (.ifCond .eq 4, 29, 30)) none) (cond (Nat.blt pc 30) (cond (Nat.beq pc 29) (some (.return_, 30, 0)) none) (cond (Nat.beq pc 30) (some (.aload_n 0, 31, 0)) none)))))) (cond (Nat.blt pc 46) (cond (Nat.blt pc 37) (cond (Nat.blt pc 35) (cond (Nat.blt pc 32) (cond (Nat.beq pc 31) (some (.iload_n 1, 32, 0)) none) (cond (Nat.beq pc 32) (some (.invokevirtual 135, 35, 0)) none)) (cond (Nat.blt pc 36) (cond (Nat.beq pc 35) (some (.iconst 0, 36, 0)) none) (cond (Nat.beq pc 36) (some (.istore_n 3, 37, 0)) none))) (cond (Nat.blt pc 39) (cond (Nat.blt pc 38) (cond (Nat.beq pc 37) (some (.iload_n 3, 38, 0)) none) (cond (Nat.beq pc 38) (some (.aload_n 0, 39, 0)) none)) (cond (Nat.blt pc 42) (cond (Nat.beq pc 39) (some (.invokevirtual 96, 42, 0)) none) (cond (Nat.blt pc 45) (cond (Nat.beq pc 42) (some (.if_icmp .ge 80, 45, 122)) none) (cond (Nat.beq pc 45) (some (.iconst 0, 46, 0)) none))))) (cond (Nat.blt pc 54) (cond (Nat.blt pc 50) (cond (Nat.blt pc 48) (cond (Nat.beq pc 46) (some (.istore 4, 48, 0)) none) (cond (Nat.beq pc 48) (some (.iload 4, 50, 0)) none)) (cond (Nat.blt pc 51) (cond (Nat.beq pc 50) (some (.aload_n 0, 51, 0)) none) (cond (Nat.beq pc 51) (some (.invokevirtual 100, 54, 0)) none))) (cond (Nat.blt pc 58) (cond (Nat.blt pc 57) (cond (Nat.beq pc 54) (some (.if_icmp .ge 62, 57, 116)) none) (cond (Nat.beq pc 57) (some (.aload_n 0, 58, 0)) none)) (cond (Nat.blt pc 59) (cond (Nat.beq pc 58) (some (.iload_n 1, 59, 0)) none) (cond (Nat.blt pc 61) (cond (Nat.beq pc 59) (some (.iload 4, 61, 0)) none) (cond (Nat.beq pc 61) (some (.iload_n 3, 62, 0)) none))))))) (cond (Nat.blt pc 89) (cond (Nat.blt pc 75) (cond (Nat.blt pc 70) (cond (Nat.blt pc 66) (cond (Nat.blt pc 63) (cond (Nat.beq pc 62) (some (.iload_n 2, 63, 0)) none) (cond (Nat.beq pc 63) (some (.ifCond .ne 25, 66, 88)) none)) (cond (Nat.blt pc 67) (cond (Nat.beq pc 66) (some (.aload_n 0, 67, 0)) none) (cond (Nat.beq pc 67) (some (.getfield 41, 70, 0)) none))) (cond (Nat.blt pc 73) (cond (Nat.blt pc 72) (cond (Nat.beq pc 70) (some (.bipush 24, 72, 0)) none) (cond (Nat.beq pc 72) (some (.iload_n 3, 73, 0)) none)) (cond (Nat.blt pc 74) (cond (Nat.beq pc 73) (some (.imul, 74, 0)) none) (cond (Nat.beq pc 74) (some (.aload_n 0, 75, 0)) none)))) (cond (Nat.blt pc 81) (cond (Nat.blt pc 79) (cond (Nat.blt pc 78) (cond (Nat.beq pc 75) (some (.invokevirtual 100, 78, 0)) none) (cond (Nat.beq pc 78) (some (.iadd, 79, 0)) none)) (cond (Nat.blt pc 80) (cond (Nat.beq pc 79) (some (.iconst 1, 80, 0)) none) (cond (Nat.beq pc 80) (some (.isub, 81, 0)) none))) (cond (Nat.blt pc 84) (cond (Nat.blt pc 83) (cond (Nat.beq pc 81) (some (.iload 4, 83, 0)) none) (cond (Nat.beq pc 83) (some (.isub, 84, 0)) none)) (cond (Nat.blt pc 85) (cond (Nat.beq pc 84) (some (.iaload, 85, 0)) none) (cond (Nat.blt pc 88) (cond (Nat.beq pc 85) (some (.goto 22, 88, 107)) none) (cond (Nat.beq pc 88) (some (.aload_n 0, 89, 0)) none)))))) (cond (Nat.blt pc 103) (cond (Nat.blt pc 98) (cond (Nat.blt pc 94) (cond (Nat.blt pc 92) (cond (Nat.beq pc 89) (some (.getfield 41, 92, 0)) none) (cond (Nat.beq pc 92) (some (.bipush 24, 94, 0)) none)) (cond (Nat.blt pc 95) (cond (Nat.beq pc 94) (some (.aload_n 0, 95, 0)) none) (cond (Nat.beq pc 95) (some (.invokevirtual 96, 98, 0)) none))) (cond (Nat.blt pc 100) (cond (Nat.blt pc 99) (cond (Nat.beq pc 98) (some (.iconst 1, 99, 0)) none) (cond (Nat.beq pc 99) (some (.isub, 100, 0)) none)) (cond (Nat.blt pc 101) (cond (Nat.beq pc 100) (some (.iload_n 3, 101, 0)) none) (cond (Nat.blt pc 102) (cond (Nat.beq pc 101) (some (.isub, 102, 0)) none) (cond (Nat.beq pc 102) (some (.imul, 103, 0)) none))))) (cond (Nat.blt pc 110) (cond (Nat.blt pc 106) (cond (Nat.blt pc 105) (cond (Nat.beq pc 103) (some (.iload 4, 105, 0)) none) (cond (Nat.beq pc 105) (some (.iadd, 106, 0)) none)) (cond (Nat.blt pc 107) (cond (Nat.beq pc 106) (some (.iaload, 107, 0)) none) (cond (Nat.beq pc 107) (some (.invokevirtual 138, 110, 0)) none))) (cond (Nat.blt pc 116) (cond (Nat.blt pc 113) (cond (Nat.beq pc 110) (some (.iinc 4 1, 113, 0)) none) (cond (Nat.beq pc 113) (some (.goto (-65), 116, 48)) none)) (cond (Nat.blt pc 119) (cond (Nat.beq pc 116) (some (.iinc 3 1, 119, 0)) none) (cond (Nat.blt pc 122) (cond (Nat.beq pc 119) (some (.goto (-82), 122, 37)) none) (cond (Nat.beq pc 122) (some (.return_, 123, 0)) none)))))))
def m_M_mirror : MI := (⟨"TileStudioModel", "mirror", "(II)V"⟩, prog_10_method_41_code, 5, none, [], zmk 123 tb_M_mirror)
theorem ok_M_mirror : zok m_M_mirror := zok_mk rfl (by decide +kernel)
def tb_M_shift : ZT := fun pc => cond (Nat.blt pc 53) (cond (Nat.blt pc 25) (cond (Nat.blt pc 10) (cond (Nat.blt pc 3) (cond (Nat.blt pc 1) (cond (Nat.beq pc 0) (some (.aload_n 0, 1, 0)) none) (cond (Nat.blt pc 2) (cond (Nat.beq pc 1) (some (.aload_n 0, 2, 0)) none) (cond (Nat.beq pc 2) (some (.iload_n 1, 3, 0)) none))) (cond (Nat.blt pc 6) (cond (Nat.beq pc 3) (some (.invokevirtual 89, 6, 0)) none) (cond (Nat.blt pc 9) (cond (Nat.beq pc 6) (some (.ifCond .eq 25, 9, 31)) none) (cond (Nat.beq pc 9) (some (.iload_n 2, 10, 0)) none)))) (cond (Nat.blt pc 17) (cond (Nat.blt pc 12) (cond (Nat.beq pc 10) (some (.bipush (-100), 12, 0)) none) (cond (Nat.blt pc 14) (cond (Nat.beq pc 12) (some (.bipush 100, 14, 0)) none) (cond (Nat.beq pc 14) (some (.invokestatic 71, 17, 0)) none))) (cond (Nat.blt pc 21) (cond (Nat.blt pc 20) (cond (Nat.beq pc 17) (some (.ifCond .eq 14, 20, 31)) none) (cond (Nat.beq pc 20) (some (.iload_n 3, 21, 0)) none)) (cond (Nat.blt pc 23) (cond (Nat.beq pc 21) (some (.bipush (-100), 23, 0)) none) (cond (Nat.beq pc 23) (some (.bipush 100, 25, 0)) none))))) (cond (Nat.blt pc 42) (cond (Nat.blt pc 32) (cond (Nat.blt pc 28) (cond (Nat.beq pc 25) (some (.invokestatic 71, 28, 0)) none) (cond (Nat.blt pc 31) (cond (Nat.beq pc 28) (some (.ifCond .ne 7, 31, 35)) none) (cond (Nat.beq pc 31) (some (.iconst 1, 32, 0)) none))) (cond (Nat.blt pc 36) (cond (Nat.blt pc 35) (cond (Nat.beq pc 32) (some (.goto 4, 35, 36)) none) (cond (Nat.beq pc 35) (some (.iconst 0, 36, 0)) none)) (cond (Nat.blt pc 39) (cond (Nat.beq pc 36) (some (.invokevirtual 75, 39, 0)) none) (cond (Nat.beq pc 39) (some (.ifCond .eq 4, 42, 43)) none)))) (cond (Nat.blt pc 45) (cond (Nat.blt pc 43) (cond (Nat.beq pc 42) (some (.return_, 43, 0)) none) (cond (Nat.blt pc 44) (cond (Nat.beq pc 43) (some (.aload_n 0, 44, 0)) none) (cond (Nat.beq pc 44) (some (.iload_n 1, 45, 0)) none))) (cond (Nat.blt pc 49) (cond (Nat.blt pc 48) (cond (Nat.beq pc 45) (some (.invokevirtual 135, 48, 0)) none) (cond (Nat.beq pc 48) (some (.iconst 0, 49, 0)) none)) (cond (Nat.blt pc 51) (cond (Nat.beq pc 49) (some (.istore 4, 51, 0)) none) (cond (Nat.beq pc 51) (some (.iload 4, 53, 0)) none)))))) (cond (Nat.blt pc 78) (cond (Nat.blt pc 65) (cond (Nat.blt pc 60) (cond (Nat.blt pc 54) (cond (Nat.beq pc 53) (some (.aload_n 0, 54, 0)) none) (cond (Nat.blt pc 57) (cond (Nat.beq pc 54) (some (.invokevirtual 96, 57, 0)) none) (cond (Nat.beq pc 57) (some (.if_icmp .ge 48, 60, 105)) none))) (cond (Nat.blt pc 61) (cond (Nat.beq pc 60) (some (.iconst 0, 61, 0)) none) (cond (Nat.blt pc 63) (cond (Nat.beq pc 61) (some (.istore 5, 63, 0)) none) (cond (Nat.beq pc 63) (some (.iload 5, 65, 0)) none)))) (cond (Nat.blt pc 72) (cond (Nat.blt pc 66) (cond (Nat.beq pc 65) (some (.aload_n 0, 66, 0)) none) (cond (Nat.blt pc 69) (cond (Nat.beq pc 66) (some (.invokevirtual 100, 69, 0)) none) (cond (Nat.beq pc 69) (some (.if_icmp .ge 30, 72, 99)) none))) (cond (Nat.blt pc 74) (cond (Nat.blt pc 73) (cond (Nat.beq pc 72) (some (.aload_n 0, 73, 0)) none) (cond (Nat.beq pc 73) (some (.iload_n 1, 74, 0)) none)) (cond (Nat.blt pc 76) (cond (Nat.beq pc 74) (some (.iload 5, 76, 0)) none) (cond (Nat.beq pc 76) (some (.iload 4, 78, 0)) none))))) (cond (Nat.blt pc 87) (cond (Nat.blt pc 82) (cond (Nat.blt pc 79) (cond (Nat.beq pc 78) (some (.aload_n 0, 79, 0)) none) (cond (Nat.blt pc 81) (cond (Nat.beq pc 79) (some (.iload 5, 81, 0)) none) (cond (Nat.beq pc 81) (some (.iload_n 2, 82, 0)) none))) (cond (Nat.blt pc 85) (cond (Nat.blt pc 83) (cond (Nat.beq pc 82) (some (.isub, 83, 0)) none) (cond (Nat.beq pc 83) (some (.iload 4, 85, 0)) none)) (cond (Nat.blt pc 86) (cond (Nat.beq pc 85) (some (.iload_n 3, 86, 0)) none) (cond (Nat.beq pc 86) (some (.isub, 87, 0)) none)))) (cond (Nat.blt pc 96) (cond (Nat.blt pc 90) (cond (Nat.beq pc 87) (some (.invokevirtual 164, 90, 0)) none) (cond (Nat.blt pc 93) (cond (Nat.beq pc 90) (some (.invokevirtual 138, 93, 0)) none) (cond (Nat.beq pc 93) (some (.iinc 5 1, 96, 0)) none))) (cond (Nat.blt pc 102) (cond (Nat.blt pc 99) (cond (Nat.beq pc 96) (some (.goto (-33), 99, 63)) none) (cond (Nat.beq pc 99) (some (.iinc 4 1, 102, 0)) none)) (cond (Nat.blt pc 105) (cond (Nat.beq pc 102) (some (.goto (-51), 105, 51)) none) (cond (Nat.beq pc 105) (some (.return_, 106, 0)) none))))))
def m_M_shift : MI := (⟨"TileStudioModel", "shift", "(III)V"⟩, prog_10_method_43_code, 6, none, [], zmk 106 tb_M_shift)
theorem ok_M_shift : zok m_M_shift := zok_mk rfl (by decide +kernel)
def tb_M_before : ZT := fun pc => cond (Nat.blt pc 21) (cond (Nat.blt pc 9) (cond (Nat.blt pc 4) (cond (Nat.blt pc 1) (cond (Nat.beq pc 0) (some (.iload_n 1, 1, 0)) none) (cond (Nat.beq pc 1) (some (.ifCond .lt 23, 4, 24)) none)) (cond (Nat.blt pc 5) (cond (Nat.beq pc 4) (some (.iload_n 1, 5, 0)) none) (cond (Nat.blt pc 6) (cond (Nat.beq pc 5) (some (.aload_n 0, 6, 0)) none) (cond (Nat.beq pc 6) (some (.invokevirtual 100, 9, 0)) none)))) (cond (Nat.blt pc 16) (cond (Nat.blt pc 12) (cond (Nat.beq pc 9) (some (.if_icmp .ge 15, 12, 24)) none) (cond (Nat.blt pc 13) (cond (Nat.beq pc 12) (some (.iload_n 2, 13, 0)) none) (cond (Nat.beq pc 13) (some (.ifCond .lt 11, 16, 24)) none))) (cond (Nat.blt pc 17) (cond (Nat.beq pc 16) (some (.iload_n 2, 17, 0)) none) (cond (Nat.blt pc 18) (cond (Nat.beq pc 17) (some (.aload_n 0, 18, 0)) none) (cond (Nat.beq pc 18) (some (.invokevirtual 96, 21, 0)) none))))) (cond (Nat.blt pc 34) (cond (Nat.blt pc 28) (cond (Nat.blt pc 24) (cond (Nat.beq pc 21) (some (.if_icmp .lt 7, 24, 28)) none) (cond (Nat.blt pc 25) (cond (Nat.beq pc 24) (some (.iconst 0, 25, 0)) none) (cond (Nat.beq pc 25) (some (.goto 14, 28, 39)) none))) (cond (Nat.blt pc 29) (cond (Nat.beq pc 28) (some (.aload_n 0, 29, 0)) none) (cond (Nat.blt pc 32) (cond (Nat.beq pc 29) (some (.getfield 41, 32, 0)) none) (cond (Nat.beq pc 32) (some (.bipush 24, 34, 0)) none)))) (cond (Nat.blt pc 37) (cond (Nat.blt pc 35) (cond (Nat.beq pc 34) (some (.iload_n 2, 35, 0)) none) (cond (Nat.blt pc 36) (cond (Nat.beq pc 35) (some (.imul, 36, 0)) none) (cond (Nat.beq pc 36) (some (.iload_n 1, 37, 0)) none))) (cond (Nat.blt pc 38) (cond (Nat.beq pc 37) (some (.iadd, 38, 0)) none) (cond (Nat.blt pc 39) (cond (Nat.beq pc 38) (some (.iaload, 39, 0)) none) (cond (Nat.beq pc 39) (some (.ireturn, 40, 0)) none)))))
def m_M_before : MI := (⟨"TileStudioModel", "before", "(II)I"⟩, prog_10_method_42_code, 3, (Option.some Jvm.ClassFile.FieldType.int), [], zmk 40 tb_M_before)
theorem ok_M_before : zok m_M_before := zok_mk rfl (by decide +kernel)
def tb_M_blur : ZT := fun pc => cond (Nat.blt pc 90) (cond (Nat.blt pc 43) (cond (Nat.blt pc 23) (cond (Nat.blt pc 10) (cond (Nat.blt pc 3) (cond (Nat.blt pc 1) (cond (Nat.beq pc 0) (some (.aload_n 0, 1, 0)) none) (cond (Nat.blt pc 2) (cond (Nat.beq pc 1) (some (.aload_n 0, 2, 0)) none) (cond (Nat.beq pc 2) (some (.iload_n 1, 3, 0)) none))) (cond (Nat.blt pc 6) (cond (Nat.beq pc 3) (some (.invokevirtual 89, 6, 0)) none) (cond (Nat.blt pc 9) (cond (Nat.beq pc 6) (some (.ifCond .eq 12, 9, 18)) none) (cond (Nat.beq pc 9) (some (.iload_n 2, 10, 0)) none)))) (cond (Nat.blt pc 15) (cond (Nat.blt pc 11) (cond (Nat.beq pc 10) (some (.iconst 1, 11, 0)) none) (cond (Nat.blt pc 12) (cond (Nat.beq pc 11) (some (.iconst 4, 12, 0)) none) (cond (Nat.beq pc 12) (some (.invokestatic 71, 15, 0)) none))) (cond (Nat.blt pc 19) (cond (Nat.blt pc 18) (cond (Nat.beq pc 15) (some (.ifCond .ne 7, 18, 22)) none) (cond (Nat.beq pc 18) (some (.iconst 1, 19, 0)) none)) (cond (Nat.blt pc 22) (cond (Nat.beq pc 19) (some (.goto 4, 22, 23)) none) (cond (Nat.beq pc 22) (some (.iconst 0, 23, 0)) none))))) (cond (Nat.blt pc 36) (cond (Nat.blt pc 30) (cond (Nat.blt pc 26) (cond (Nat.beq pc 23) (some (.invokevirtual 75, 26, 0)) none) (cond (Nat.blt pc 29) (cond (Nat.beq pc 26) (some (.ifCond .eq 4, 29, 30)) none) (cond (Nat.beq pc 29) (some (.return_, 30, 0)) none))) (cond (Nat.blt pc 32) (cond (Nat.blt pc 31) (cond (Nat.beq pc 30) (some (.aload_n 0, 31, 0)) none) (cond (Nat.beq pc 31) (some (.iload_n 1, 32, 0)) none)) (cond (Nat.blt pc 35) (cond (Nat.beq pc 32) (some (.invokevirtual 135, 35, 0)) none) (cond (Nat.beq pc 35) (some (.iconst 2, 36, 0)) none)))) (cond (Nat.blt pc 39) (cond (Nat.blt pc 37) (cond (Nat.beq pc 36) (some (.iload_n 2, 37, 0)) none) (cond (Nat.blt pc 38) (cond (Nat.beq pc 37) (some (.imul, 38, 0)) none) (cond (Nat.beq pc 38) (some (.iconst 1, 39, 0)) none))) (cond (Nat.blt pc 41) (cond (Nat.blt pc 40) (cond (Nat.beq pc 39) (some (.iadd, 40, 0)) none) (cond (Nat.beq pc 40) (some (.iconst 2, 41, 0)) none)) (cond (Nat.blt pc 42) (cond (Nat.beq pc 41) (some (.iload_n 2, 42, 0)) none) (cond (Nat.beq pc 42) (some (.imul, 43, 0)) none)))))) (cond (Nat.blt pc 65) (cond (Nat.blt pc 52) (cond (Nat.blt pc 46) (cond (Nat.blt pc 44) (cond (Nat.beq pc 43) (some (.iconst 1, 44, 0)) none) (cond (Nat.blt pc 45) (cond (Nat.beq pc 44) (some (.iadd, 45, 0)) none) (cond (Nat.beq pc 45) (some (.imul, 46, 0)) none))) (cond (Nat.blt pc 48) (cond (Nat.blt pc 47) (cond (Nat.beq pc 46) (some (.istore_n 3, 47, 0)) none) (cond (Nat.beq pc 47) (some (.iconst 0, 48, 0)) none)) (cond (Nat.blt pc 50) (cond (Nat.beq pc 48) (some (.istore 4, 50, 0)) none) (cond (Nat.beq pc 50) (some (.iload 4, 52, 0)) none)))) (cond (Nat.blt pc 59) (cond (Nat.blt pc 53) (cond (Nat.beq pc 52) (some (.aload_n 0, 53, 0)) none) (cond (Nat.blt pc 56) (cond (Nat.beq pc 53) (some (.invokevirtual 96, 56, 0)) none) (cond (Nat.beq pc 56) (some (.if_icmp .ge 137, 59, 193)) none))) (cond (Nat.blt pc 62) (cond (Nat.blt pc 60) (cond (Nat.beq pc 59) (some (.iconst 0, 60, 0)) none) (cond (Nat.beq pc 60) (some (.istore 5, 62, 0)) none)) (cond (Nat.blt pc 64) (cond (Nat.beq pc 62) (some (.iload 5, 64, 0)) none) (cond (Nat.beq pc 64) (some (.aload_n 0, 65, 0)) none))))) (cond (Nat.blt pc 79) (cond (Nat.blt pc 72) (cond (Nat.blt pc 68) (cond (Nat.beq pc 65) (some (.invokevirtual 100, 68, 0)) none) (cond (Nat.blt pc 71) (cond (Nat.beq pc 68) (some (.if_icmp .ge 119, 71, 187)) none) (cond (Nat.beq pc 71) (some (.iconst 0, 72, 0)) none))) (cond (Nat.blt pc 75) (cond (Nat.blt pc 74) (cond (Nat.beq pc 72) (some (.istore 6, 74, 0)) none) (cond (Nat.beq pc 74) (some (.iconst 0, 75, 0)) none)) (cond (Nat.blt pc 77) (cond (Nat.beq pc 75) (some (.istore 7, 77, 0)) none) (cond (Nat.beq pc 77) (some (.iload 7, 79, 0)) none)))) (cond (Nat.blt pc 84) (cond (Nat.blt pc 80) (cond (Nat.beq pc 79) (some (.iconst 4, 80, 0)) none) (cond (Nat.blt pc 83) (cond (Nat.beq pc 80) (some (.if_icmp .ge 90, 83, 170)) none) (cond (Nat.beq pc 83) (some (.iconst 0, 84, 0)) none))) (cond (Nat.blt pc 87) (cond (Nat.blt pc 86) (cond (Nat.beq pc 84) (some (.istore 8, 86, 0)) none) (cond (Nat.beq pc 86) (some (.iload_n 2, 87, 0)) none)) (cond (Nat.blt pc 88) (cond (Nat.beq pc 87) (some (.ineg, 88, 0)) none) (cond (Nat.beq pc 88) (some (.istore 9, 90, 0)) none))))))) (cond (Nat.blt pc 144) (cond (Nat.blt pc 113) (cond (Nat.blt pc 100) (cond (Nat.blt pc 96) (cond (Nat.blt pc 92) (cond (Nat.beq pc 90) (some (.iload 9, 92, 0)) none) (cond (Nat.blt pc 93) (cond (Nat.beq pc 92) (some (.iload_n 2, 93, 0)) none) (cond (Nat.beq pc 93) (some (.if_icmp .gt 49, 96, 142)) none))) (cond (Nat.blt pc 97) (cond (Nat.beq pc 96) (some (.iload_n 2, 97, 0)) none) (cond (Nat.blt pc 98) (cond (Nat.beq pc 97) (some (.ineg, 98, 0)) none) (cond (Nat.beq pc 98) (some (.istore 10, 100, 0)) none)))) (cond (Nat.blt pc 106) (cond (Nat.blt pc 102) (cond (Nat.beq pc 100) (some (.iload 10, 102, 0)) none) (cond (Nat.blt pc 103) (cond (Nat.beq pc 102) (some (.iload_n 2, 103, 0)) none) (cond (Nat.beq pc 103) (some (.if_icmp .gt 33, 106, 136)) none))) (cond (Nat.blt pc 109) (cond (Nat.blt pc 108) (cond (Nat.beq pc 106) (some (.iload 8, 108, 0)) none) (cond (Nat.beq pc 108) (some (.aload_n 0, 109, 0)) none)) (cond (Nat.blt pc 111) (cond (Nat.beq pc 109) (some (.iload 5, 111, 0)) none) (cond (Nat.beq pc 111) (some (.iload 10, 113, 0)) none))))) (cond (Nat.blt pc 127) (cond (Nat.blt pc 118) (cond (Nat.blt pc 114) (cond (Nat.beq pc 113) (some (.iadd, 114, 0)) none) (cond (Nat.blt pc 116) (cond (Nat.beq pc 114) (some (.iload 4, 116, 0)) none) (cond (Nat.beq pc 116) (some (.iload 9, 118, 0)) none))) (cond (Nat.blt pc 122) (cond (Nat.blt pc 119) (cond (Nat.beq pc 118) (some (.iadd, 119, 0)) none) (cond (Nat.beq pc 119) (some (.invokevirtual 164, 122, 0)) none)) (cond (Nat.blt pc 124) (cond (Nat.beq pc 122) (some (.iload 7, 124, 0)) none) (cond (Nat.beq pc 124) (some (.invokestatic 118, 127, 0)) none)))) (cond (Nat.blt pc 133) (cond (Nat.blt pc 128) (cond (Nat.beq pc 127) (some (.iadd, 128, 0)) none) (cond (Nat.blt pc 130) (cond (Nat.beq pc 128) (some (.istore 8, 130, 0)) none) (cond (Nat.beq pc 130) (some (.iinc 10 1, 133, 0)) none))) (cond (Nat.blt pc 139) (cond (Nat.blt pc 136) (cond (Nat.beq pc 133) (some (.goto (-33), 136, 100)) none) (cond (Nat.beq pc 136) (some (.iinc 9 1, 139, 0)) none)) (cond (Nat.blt pc 142) (cond (Nat.beq pc 139) (some (.goto (-49), 142, 90)) none) (cond (Nat.beq pc 142) (some (.iload 6, 144, 0)) none)))))) (cond (Nat.blt pc 162) (cond (Nat.blt pc 152) (cond (Nat.blt pc 148) (cond (Nat.blt pc 146) (cond (Nat.beq pc 144) (some (.iload 8, 146, 0)) none) (cond (Nat.blt pc 147) (cond (Nat.beq pc 146) (some (.iload_n 3, 147, 0)) none) (cond (Nat.beq pc 147) (some (.iconst 2, 148, 0)) none))) (cond (Nat.blt pc 150) (cond (Nat.blt pc 149) (cond (Nat.beq pc 148) (some (.idiv, 149, 0)) none) (cond (Nat.beq pc 149) (some (.iadd, 150, 0)) none)) (cond (Nat.blt pc 151) (cond (Nat.beq pc 150) (some (.iload_n 3, 151, 0)) none) (cond (Nat.beq pc 151) (some (.idiv, 152, 0)) none)))) (cond (Nat.blt pc 158) (cond (Nat.blt pc 154) (cond (Nat.beq pc 152) (some (.bipush 24, 154, 0)) none) (cond (Nat.blt pc 156) (cond (Nat.beq pc 154) (some (.bipush 8, 156, 0)) none) (cond (Nat.beq pc 156) (some (.iload 7, 158, 0)) none))) (cond (Nat.blt pc 160) (cond (Nat.blt pc 159) (cond (Nat.beq pc 158) (some (.imul, 159, 0)) none) (cond (Nat.beq pc 159) (some (.isub, 160, 0)) none)) (cond (Nat.blt pc 161) (cond (Nat.beq pc 160) (some (.ishl, 161, 0)) none) (cond (Nat.beq pc 161) (some (.ior, 162, 0)) none))))) (cond (Nat.blt pc 176) (cond (Nat.blt pc 170) (cond (Nat.blt pc 164) (cond (Nat.beq pc 162) (some (.istore 6, 164, 0)) none) (cond (Nat.blt pc 167) (cond (Nat.beq pc 164) (some (.iinc 7 1, 167, 0)) none) (cond (Nat.beq pc 167) (some (.goto (-90), 170, 77)) none))) (cond (Nat.blt pc 172) (cond (Nat.blt pc 171) (cond (Nat.beq pc 170) (some (.aload_n 0, 171, 0)) none) (cond (Nat.beq pc 171) (some (.iload_n 1, 172, 0)) none)) (cond (Nat.blt pc 174) (cond (Nat.beq pc 172) (some (.iload 5, 174, 0)) none) (cond (Nat.beq pc 174) (some (.iload 4, 176, 0)) none)))) (cond (Nat.blt pc 184) (cond (Nat.blt pc 178) (cond (Nat.beq pc 176) (some (.iload 6, 178, 0)) none) (cond (Nat.blt pc 181) (cond (Nat.beq pc 178) (some (.invokevirtual 138, 181, 0)) none) (cond (Nat.beq pc 181) (some (.iinc 5 1, 184, 0)) none))) (cond (Nat.blt pc 190) (cond (Nat.blt pc 187) (cond (Nat.beq pc 184) (some (.goto (-122), 187, 62)) none) (cond (Nat.beq pc 187) (some (.iinc 4 1, 190, 0)) none)) (cond (Nat.blt pc 193) (cond (Nat.beq pc 190) (some (.goto (-140), 193, 50)) none) (cond (Nat.beq pc 193) (some (.return_, 194, 0)) none)))))))
def m_M_blur : MI := (⟨"TileStudioModel", "blur", "(II)V"⟩, prog_10_method_44_code, 11, none, [], zmk 194 tb_M_blur)
theorem ok_M_blur : zok m_M_blur := zok_mk rfl (by decide +kernel)
end
section
def tb_M_undo : ZT := fun pc => cond (Nat.blt pc 19) (cond (Nat.blt pc 6) (cond (Nat.blt pc 2) (cond (Nat.blt pc 1) (cond (Nat.beq pc 0) (some (.aload_n 0, 1, 0)) none) (cond (Nat.beq pc 1) (some (.iconst 0, 2, 0)) none)) (cond (Nat.blt pc 5) (cond (Nat.beq pc 2) (some (.putfield 50, 5, 0)) none) (cond (Nat.beq pc 5) (some (.aload_n 0, 6, 0)) none))) (cond (Nat.blt pc 12) (cond (Nat.blt pc 9) (cond (Nat.beq pc 6) (some (.getfield 67, 9, 0)) none) (cond (Nat.beq pc 9) (some (.ifCond .eq 10, 12, 19)) none)) (cond (Nat.blt pc 13) (cond (Nat.beq pc 12) (some (.aload_n 0, 13, 0)) none) (cond (Nat.blt pc 16) (cond (Nat.beq pc 13) (some (.getfield 58, 16, 0)) none) (cond (Nat.beq pc 16) (some (.ifCond .ne 5, 19, 21)) none))))) (cond (Nat.blt pc 26) (cond (Nat.blt pc 21) (cond (Nat.blt pc 20) (cond (Nat.beq pc 19) (some (.iconst 0, 20, 0)) none) (cond (Nat.beq pc 20) (some (.ireturn, 21, 0)) none)) (cond (Nat.blt pc 22) (cond (Nat.beq pc 21) (some (.aload_n 0, 22, 0)) none) (cond (Nat.blt pc 23) (cond (Nat.beq pc 22) (some (.dup, 23, 0)) none) (cond (Nat.beq pc 23) (some (.getfield 58, 26, 0)) none)))) (cond (Nat.blt pc 28) (cond (Nat.blt pc 27) (cond (Nat.beq pc 26) (some (.iconst 1, 27, 0)) none) (cond (Nat.beq pc 27) (some (.isub, 28, 0)) none)) (cond (Nat.blt pc 31) (cond (Nat.beq pc 28) (some (.putfield 58, 31, 0)) none) (cond (Nat.blt pc 32) (cond (Nat.beq pc 31) (some (.iconst 1, 32, 0)) none) (cond (Nat.beq pc 32) (some (.ireturn, 33, 0)) none)))))
def m_M_undo : MI := (⟨"TileStudioModel", "undo", "()Z"⟩, prog_10_method_45_code, 1, (Option.some Jvm.ClassFile.FieldType.boolean), [], zmk 33 tb_M_undo)
theorem ok_M_undo : zok m_M_undo := zok_mk rfl (by decide +kernel)
def tb_M_redo : ZT := fun pc => cond (Nat.blt pc 20) (cond (Nat.blt pc 9) (cond (Nat.blt pc 2) (cond (Nat.blt pc 1) (cond (Nat.beq pc 0) (some (.aload_n 0, 1, 0)) none) (cond (Nat.beq pc 1) (some (.iconst 0, 2, 0)) none)) (cond (Nat.blt pc 5) (cond (Nat.beq pc 2) (some (.putfield 50, 5, 0)) none) (cond (Nat.blt pc 6) (cond (Nat.beq pc 5) (some (.aload_n 0, 6, 0)) none) (cond (Nat.beq pc 6) (some (.getfield 67, 9, 0)) none)))) (cond (Nat.blt pc 13) (cond (Nat.blt pc 12) (cond (Nat.beq pc 9) (some (.ifCond .eq 14, 12, 23)) none) (cond (Nat.beq pc 12) (some (.aload_n 0, 13, 0)) none)) (cond (Nat.blt pc 16) (cond (Nat.beq pc 13) (some (.getfield 58, 16, 0)) none) (cond (Nat.blt pc 17) (cond (Nat.beq pc 16) (some (.aload_n 0, 17, 0)) none) (cond (Nat.beq pc 17) (some (.getfield 64, 20, 0)) none))))) (cond (Nat.blt pc 27) (cond (Nat.blt pc 24) (cond (Nat.blt pc 23) (cond (Nat.beq pc 20) (some (.if_icmp .ne 5, 23, 25)) none) (cond (Nat.beq pc 23) (some (.iconst 0, 24, 0)) none)) (cond (Nat.blt pc 25) (cond (Nat.beq pc 24) (some (.ireturn, 25, 0)) none) (cond (Nat.blt pc 26) (cond (Nat.beq pc 25) (some (.aload_n 0, 26, 0)) none) (cond (Nat.beq pc 26) (some (.dup, 27, 0)) none)))) (cond (Nat.blt pc 32) (cond (Nat.blt pc 30) (cond (Nat.beq pc 27) (some (.getfield 58, 30, 0)) none) (cond (Nat.blt pc 31) (cond (Nat.beq pc 30) (some (.iconst 1, 31, 0)) none) (cond (Nat.beq pc 31) (some (.iadd, 32, 0)) none))) (cond (Nat.blt pc 35) (cond (Nat.beq pc 32) (some (.putfield 58, 35, 0)) none) (cond (Nat.blt pc 36) (cond (Nat.beq pc 35) (some (.iconst 1, 36, 0)) none) (cond (Nat.beq pc 36) (some (.ireturn, 37, 0)) none)))))
def m_M_redo : MI := (⟨"TileStudioModel", "redo", "()Z"⟩, prog_10_method_46_code, 1, (Option.some Jvm.ClassFile.FieldType.boolean), [], zmk 37 tb_M_redo)
theorem ok_M_redo : zok m_M_redo := zok_mk rfl (by decide +kernel)
def tb_M_save : ZT := fun pc => cond (Nat.blt pc 28) (cond (Nat.blt pc 16) (cond (Nat.blt pc 8) (cond (Nat.blt pc 2) (cond (Nat.blt pc 1) (cond (Nat.beq pc 0) (some (.aload_n 0, 1, 0)) none) (cond (Nat.beq pc 1) (some (.aload_n 0, 2, 0)) none)) (cond (Nat.blt pc 5) (cond (Nat.beq pc 2) (some (.getfield 67, 5, 0)) none) (cond (Nat.beq pc 5) (some (.ifCond .ne 7, 8, 12)) none))) (cond (Nat.blt pc 12) (cond (Nat.blt pc 9) (cond (Nat.beq pc 8) (some (.iconst 1, 9, 0)) none) (cond (Nat.beq pc 9) (some (.goto 4, 12, 13)) none)) (cond (Nat.blt pc 13) (cond (Nat.beq pc 12) (some (.iconst 0, 13, 0)) none) (cond (Nat.beq pc 13) (some (.invokevirtual 75, 16, 0)) none)))) (cond (Nat.blt pc 22) (cond (Nat.blt pc 20) (cond (Nat.blt pc 19) (cond (Nat.beq pc 16) (some (.ifCond .eq 5, 19, 21)) none) (cond (Nat.beq pc 19) (some (.iconst 0, 20, 0)) none)) (cond (Nat.blt pc 21) (cond (Nat.beq pc 20) (some (.ireturn, 21, 0)) none) (cond (Nat.beq pc 21) (some (.aload_n 0, 22, 0)) none))) (cond (Nat.blt pc 26) (cond (Nat.blt pc 25) (cond (Nat.beq pc 22) (some (.invokevirtual 167, 25, 0)) none) (cond (Nat.beq pc 25) (some (.iconst 1, 26, 0)) none)) (cond (Nat.blt pc 27) (cond (Nat.beq pc 26) (some (.iadd, 27, 0)) none) (cond (Nat.beq pc 27) (some (.istore_n 2, 28, 0)) none))))) (cond (Nat.blt pc 40) (cond (Nat.blt pc 34) (cond (Nat.blt pc 32) (cond (Nat.blt pc 29) (cond (Nat.beq pc 28) (some (.iload_n 1, 29, 0)) none) (cond (Nat.beq pc 29) (some (.ifCond .lt 10, 32, 39)) none)) (cond (Nat.blt pc 33) (cond (Nat.beq pc 32) (some (.iload_n 1, 33, 0)) none) (cond (Nat.beq pc 33) (some (.iload_n 2, 34, 0)) none))) (cond (Nat.blt pc 38) (cond (Nat.blt pc 37) (cond (Nat.beq pc 34) (some (.if_icmp .ge 5, 37, 39)) none) (cond (Nat.beq pc 37) (some (.iload_n 1, 38, 0)) none)) (cond (Nat.blt pc 39) (cond (Nat.beq pc 38) (some (.ireturn, 39, 0)) none) (cond (Nat.beq pc 39) (some (.aload_n 0, 40, 0)) none)))) (cond (Nat.blt pc 49) (cond (Nat.blt pc 43) (cond (Nat.blt pc 42) (cond (Nat.beq pc 40) (some (.bipush 7, 42, 0)) none) (cond (Nat.beq pc 42) (some (.aload_n 0, 43, 0)) none)) (cond (Nat.blt pc 46) (cond (Nat.beq pc 43) (some (.getfield 58, 46, 0)) none) (cond (Nat.beq pc 46) (some (.invokevirtual 61, 49, 0)) none))) (cond (Nat.blt pc 51) (cond (Nat.blt pc 50) (cond (Nat.beq pc 49) (some (.aload_n 0, 50, 0)) none) (cond (Nat.beq pc 50) (some (.iconst 1, 51, 0)) none)) (cond (Nat.blt pc 54) (cond (Nat.beq pc 51) (some (.putfield 170, 54, 0)) none) (cond (Nat.blt pc 55) (cond (Nat.beq pc 54) (some (.iload_n 2, 55, 0)) none) (cond (Nat.beq pc 55) (some (.ireturn, 56, 0)) none))))))
def m_M_save : MI := (⟨"TileStudioModel", "save", "(I)I"⟩, prog_10_method_48_code, 3, (Option.some Jvm.ClassFile.FieldType.int), [], zmk 56 tb_M_save)
theorem ok_M_save : zok m_M_save := zok_mk rfl (by decide +kernel)
def tb_M_tiles : ZT := fun pc => cond (Nat.blt pc 69) (cond (Nat.blt pc 33) (cond (Nat.blt pc 17) (cond (Nat.blt pc 5) (cond (Nat.blt pc 2) (cond (Nat.blt pc 1) (cond (Nat.beq pc 0) (some (.iconst 0, 1, 0)) none) (cond (Nat.beq pc 1) (some (.istore_n 1, 2, 0)) none)) (cond (Nat.blt pc 3) (cond (Nat.beq pc 2) (some (.iconst 0, 3, 0)) none) (cond (Nat.blt pc 4) (cond (Nat.beq pc 3) (some (.istore_n 2, 4, 0)) none) (cond (Nat.beq pc 4) (some (.iload_n 2, 5, 0)) none)))) (cond (Nat.blt pc 10) (cond (Nat.blt pc 6) (cond (Nat.beq pc 5) (some (.aload_n 0, 6, 0)) none) (cond (Nat.blt pc 9) (cond (Nat.beq pc 6) (some (.getfield 26, 9, 0)) none) (cond (Nat.beq pc 9) (some (.aload_n 0, 10, 0)) none))) (cond (Nat.blt pc 13) (cond (Nat.beq pc 10) (some (.getfield 58, 13, 0)) none) (cond (Nat.blt pc 14) (cond (Nat.beq pc 13) (some (.iaload, 14, 0)) none) (cond (Nat.beq pc 14) (some (.if_icmp .ge 142, 17, 156)) none))))) (cond (Nat.blt pc 25) (cond (Nat.blt pc 19) (cond (Nat.blt pc 18) (cond (Nat.beq pc 17) (some (.iconst 0, 18, 0)) none) (cond (Nat.beq pc 18) (some (.istore_n 3, 19, 0)) none)) (cond (Nat.blt pc 20) (cond (Nat.beq pc 19) (some (.iload_n 3, 20, 0)) none) (cond (Nat.blt pc 22) (cond (Nat.beq pc 20) (some (.bipush 9, 22, 0)) none) (cond (Nat.beq pc 22) (some (.if_icmp .ge 128, 25, 150)) none)))) (cond (Nat.blt pc 29) (cond (Nat.blt pc 26) (cond (Nat.beq pc 25) (some (.iconst 0, 26, 0)) none) (cond (Nat.blt pc 28) (cond (Nat.beq pc 26) (some (.istore 4, 28, 0)) none) (cond (Nat.beq pc 28) (some (.iload_n 3, 29, 0)) none))) (cond (Nat.blt pc 30) (cond (Nat.beq pc 29) (some (.iconst 3, 30, 0)) none) (cond (Nat.blt pc 31) (cond (Nat.beq pc 30) (some (.idiv, 31, 0)) none) (cond (Nat.beq pc 31) (some (.bipush 8, 33, 0)) none)))))) (cond (Nat.blt pc 50) (cond (Nat.blt pc 40) (cond (Nat.blt pc 36) (cond (Nat.blt pc 34) (cond (Nat.beq pc 33) (some (.imul, 34, 0)) none) (cond (Nat.beq pc 34) (some (.istore 5, 36, 0)) none)) (cond (Nat.blt pc 38) (cond (Nat.beq pc 36) (some (.iload 5, 38, 0)) none) (cond (Nat.blt pc 39) (cond (Nat.beq pc 38) (some (.iload_n 3, 39, 0)) none) (cond (Nat.beq pc 39) (some (.iconst 3, 40, 0)) none)))) (cond (Nat.blt pc 44) (cond (Nat.blt pc 41) (cond (Nat.beq pc 40) (some (.idiv, 41, 0)) none) (cond (Nat.blt pc 43) (cond (Nat.beq pc 41) (some (.bipush 8, 43, 0)) none) (cond (Nat.beq pc 43) (some (.imul, 44, 0)) none))) (cond (Nat.blt pc 46) (cond (Nat.beq pc 44) (some (.bipush 8, 46, 0)) none) (cond (Nat.blt pc 47) (cond (Nat.beq pc 46) (some (.iadd, 47, 0)) none) (cond (Nat.beq pc 47) (some (.if_icmp .ge 84, 50, 131)) none))))) (cond (Nat.blt pc 60) (cond (Nat.blt pc 53) (cond (Nat.blt pc 52) (cond (Nat.beq pc 50) (some (.iload 5, 52, 0)) none) (cond (Nat.beq pc 52) (some (.aload_n 0, 53, 0)) none)) (cond (Nat.blt pc 56) (cond (Nat.beq pc 53) (some (.invokevirtual 96, 56, 0)) none) (cond (Nat.blt pc 59) (cond (Nat.beq pc 56) (some (.if_icmp .ge 75, 59, 131)) none) (cond (Nat.beq pc 59) (some (.iload_n 3, 60, 0)) none)))) (cond (Nat.blt pc 64) (cond (Nat.blt pc 61) (cond (Nat.beq pc 60) (some (.iconst 3, 61, 0)) none) (cond (Nat.blt pc 62) (cond (Nat.beq pc 61) (some (.irem, 62, 0)) none) (cond (Nat.beq pc 62) (some (.bipush 8, 64, 0)) none))) (cond (Nat.blt pc 65) (cond (Nat.beq pc 64) (some (.imul, 65, 0)) none) (cond (Nat.blt pc 67) (cond (Nat.beq pc 65) (some (.istore 6, 67, 0)) none) (cond (Nat.beq pc 67) (some (.iload 6, 69, 0)) none))))))) (cond (Nat.blt pc 109) (cond (Nat.blt pc 87) (cond (Nat.blt pc 75) (cond (Nat.blt pc 71) (cond (Nat.blt pc 70) (cond (Nat.beq pc 69) (some (.iload_n 3, 70, 0)) none) (cond (Nat.beq pc 70) (some (.iconst 3, 71, 0)) none)) (cond (Nat.blt pc 72) (cond (Nat.beq pc 71) (some (.irem, 72, 0)) none) (cond (Nat.blt pc 74) (cond (Nat.beq pc 72) (some (.bipush 8, 74, 0)) none) (cond (Nat.beq pc 74) (some (.imul, 75, 0)) none)))) (cond (Nat.blt pc 81) (cond (Nat.blt pc 77) (cond (Nat.beq pc 75) (some (.bipush 8, 77, 0)) none) (cond (Nat.blt pc 78) (cond (Nat.beq pc 77) (some (.iadd, 78, 0)) none) (cond (Nat.beq pc 78) (some (.if_icmp .ge 47, 81, 125)) none))) (cond (Nat.blt pc 83) (cond (Nat.beq pc 81) (some (.iload 6, 83, 0)) none) (cond (Nat.blt pc 84) (cond (Nat.beq pc 83) (some (.aload_n 0, 84, 0)) none) (cond (Nat.beq pc 84) (some (.invokevirtual 100, 87, 0)) none))))) (cond (Nat.blt pc 99) (cond (Nat.blt pc 92) (cond (Nat.blt pc 90) (cond (Nat.beq pc 87) (some (.if_icmp .ge 38, 90, 125)) none) (cond (Nat.beq pc 90) (some (.iload 4, 92, 0)) none)) (cond (Nat.blt pc 95) (cond (Nat.beq pc 92) (some (.ifCond .ne 20, 95, 112)) none) (cond (Nat.blt pc 96) (cond (Nat.beq pc 95) (some (.aload_n 0, 96, 0)) none) (cond (Nat.beq pc 96) (some (.getfield 7, 99, 0)) none)))) (cond (Nat.blt pc 103) (cond (Nat.blt pc 100) (cond (Nat.beq pc 99) (some (.aload_n 0, 100, 0)) none) (cond (Nat.blt pc 101) (cond (Nat.beq pc 100) (some (.iload_n 2, 101, 0)) none) (cond (Nat.beq pc 101) (some (.iload 6, 103, 0)) none))) (cond (Nat.blt pc 105) (cond (Nat.beq pc 103) (some (.iload 5, 105, 0)) none) (cond (Nat.blt pc 108) (cond (Nat.beq pc 105) (some (.invokevirtual 132, 108, 0)) none) (cond (Nat.beq pc 108) (some (.iaload, 109, 0)) none)))))) (cond (Nat.blt pc 134) (cond (Nat.blt pc 119) (cond (Nat.blt pc 113) (cond (Nat.blt pc 112) (cond (Nat.beq pc 109) (some (.ifCond .eq 7, 112, 116)) none) (cond (Nat.beq pc 112) (some (.iconst 1, 113, 0)) none)) (cond (Nat.blt pc 116) (cond (Nat.beq pc 113) (some (.goto 4, 116, 117)) none) (cond (Nat.blt pc 117) (cond (Nat.beq pc 116) (some (.iconst 0, 117, 0)) none) (cond (Nat.beq pc 117) (some (.istore 4, 119, 0)) none)))) (cond (Nat.blt pc 128) (cond (Nat.blt pc 122) (cond (Nat.beq pc 119) (some (.iinc 6 1, 122, 0)) none) (cond (Nat.blt pc 125) (cond (Nat.beq pc 122) (some (.goto (-55), 125, 67)) none) (cond (Nat.beq pc 125) (some (.iinc 5 1, 128, 0)) none))) (cond (Nat.blt pc 131) (cond (Nat.beq pc 128) (some (.goto (-92), 131, 36)) none) (cond (Nat.blt pc 132) (cond (Nat.beq pc 131) (some (.iload_n 1, 132, 0)) none) (cond (Nat.beq pc 132) (some (.iload 4, 134, 0)) none))))) (cond (Nat.blt pc 144) (cond (Nat.blt pc 141) (cond (Nat.blt pc 137) (cond (Nat.beq pc 134) (some (.ifCond .eq 7, 137, 141)) none) (cond (Nat.blt pc 138) (cond (Nat.beq pc 137) (some (.iconst 1, 138, 0)) none) (cond (Nat.beq pc 138) (some (.goto 4, 141, 142)) none))) (cond (Nat.blt pc 142) (cond (Nat.beq pc 141) (some (.iconst 0, 142, 0)) none) (cond (Nat.blt pc 143) (cond (Nat.beq pc 142) (some (.iadd, 143, 0)) none) (cond (Nat.beq pc 143) (some (.istore_n 1, 144, 0)) none)))) (cond (Nat.blt pc 153) (cond (Nat.blt pc 147) (cond (Nat.beq pc 144) (some (.iinc 3 1, 147, 0)) none) (cond (Nat.blt pc 150) (cond (Nat.beq pc 147) (some (.goto (-128), 150, 19)) none) (cond (Nat.beq pc 150) (some (.iinc 2 1, 153, 0)) none))) (cond (Nat.blt pc 156) (cond (Nat.beq pc 153) (some (.goto (-149), 156, 4)) none) (cond (Nat.blt pc 157) (cond (Nat.beq pc 156) (some (.iload_n 1, 157, 0)) none) (cond (Nat.beq pc 157) (some (.ireturn, 158, 0)) none)))))))
def m_M_tiles : MI := (⟨"TileStudioModel", "tiles", "()I"⟩, prog_10_method_47_code, 7, (Option.some Jvm.ClassFile.FieldType.int), [], zmk 158 tb_M_tiles)
theorem ok_M_tiles : zok m_M_tiles := zok_mk rfl (by decide +kernel)
def tb_M_open : ZT := fun pc => cond (Nat.blt pc 25) (cond (Nat.blt pc 12) (cond (Nat.blt pc 5) (cond (Nat.blt pc 1) (cond (Nat.beq pc 0) (some (.aload_n 0, 1, 0)) none) (cond (Nat.blt pc 2) (cond (Nat.beq pc 1) (some (.aload_n 0, 2, 0)) none) (cond (Nat.beq pc 2) (some (.getfield 170, 5, 0)) none))) (cond (Nat.blt pc 8) (cond (Nat.beq pc 5) (some (.ifCond .eq 7, 8, 12)) none) (cond (Nat.blt pc 9) (cond (Nat.beq pc 8) (some (.iconst 0, 9, 0)) none) (cond (Nat.beq pc 9) (some (.goto 4, 12, 13)) none)))) (cond (Nat.blt pc 17) (cond (Nat.blt pc 13) (cond (Nat.beq pc 12) (some (.iconst 1, 13, 0)) none) (cond (Nat.blt pc 16) (cond (Nat.beq pc 13) (some (.putfield 50, 16, 0)) none) (cond (Nat.beq pc 16) (some (.aload_n 0, 17, 0)) none))) (cond (Nat.blt pc 23) (cond (Nat.blt pc 20) (cond (Nat.beq pc 17) (some (.getfield 50, 20, 0)) none) (cond (Nat.beq pc 20) (some (.ifCond .le 4, 23, 24)) none)) (cond (Nat.blt pc 24) (cond (Nat.beq pc 23) (some (.return_, 24, 0)) none) (cond (Nat.beq pc 24) (some (.aload_n 0, 25, 0)) none))))) (cond (Nat.blt pc 35) (cond (Nat.blt pc 30) (cond (Nat.blt pc 26) (cond (Nat.beq pc 25) (some (.iconst 0, 26, 0)) none) (cond (Nat.blt pc 29) (cond (Nat.beq pc 26) (some (.putfield 58, 29, 0)) none) (cond (Nat.beq pc 29) (some (.aload_n 0, 30, 0)) none))) (cond (Nat.blt pc 31) (cond (Nat.beq pc 30) (some (.iconst 0, 31, 0)) none) (cond (Nat.blt pc 34) (cond (Nat.beq pc 31) (some (.putfield 64, 34, 0)) none) (cond (Nat.beq pc 34) (some (.aload_n 0, 35, 0)) none)))) (cond (Nat.blt pc 40) (cond (Nat.blt pc 36) (cond (Nat.beq pc 35) (some (.iconst 1, 36, 0)) none) (cond (Nat.blt pc 39) (cond (Nat.beq pc 36) (some (.putfield 67, 39, 0)) none) (cond (Nat.beq pc 39) (some (.aload_n 0, 40, 0)) none))) (cond (Nat.blt pc 43) (cond (Nat.blt pc 41) (cond (Nat.beq pc 40) (some (.iconst 0, 41, 0)) none) (cond (Nat.beq pc 41) (some (.bipush 7, 43, 0)) none)) (cond (Nat.blt pc 46) (cond (Nat.beq pc 43) (some (.invokevirtual 61, 46, 0)) none) (cond (Nat.beq pc 46) (some (.return_, 47, 0)) none)))))
def m_M_open : MI := (⟨"TileStudioModel", "open", "()V"⟩, prog_10_method_49_code, 1, none, [], zmk 47 tb_M_open)
theorem ok_M_open : zok m_M_open := zok_mk rfl (by decide +kernel)
def tb_M_dot : ZT := fun pc => cond (Nat.blt pc 37) (cond (Nat.blt pc 18) (cond (Nat.blt pc 9) (cond (Nat.blt pc 2) (cond (Nat.blt pc 1) (cond (Nat.beq pc 0) (some (.aload_n 0, 1, 0)) none) (cond (Nat.beq pc 1) (some (.aload_n 0, 2, 0)) none)) (cond (Nat.blt pc 3) (cond (Nat.beq pc 2) (some (.iload_n 1, 3, 0)) none) (cond (Nat.blt pc 6) (cond (Nat.beq pc 3) (some (.invokevirtual 89, 6, 0)) none) (cond (Nat.beq pc 6) (some (.ifCond .eq 12, 9, 18)) none)))) (cond (Nat.blt pc 11) (cond (Nat.blt pc 10) (cond (Nat.beq pc 9) (some (.iload_n 2, 10, 0)) none) (cond (Nat.beq pc 10) (some (.iconst 0, 11, 0)) none)) (cond (Nat.blt pc 12) (cond (Nat.beq pc 11) (some (.iconst 3, 12, 0)) none) (cond (Nat.blt pc 15) (cond (Nat.beq pc 12) (some (.invokestatic 71, 15, 0)) none) (cond (Nat.beq pc 15) (some (.ifCond .ne 7, 18, 22)) none))))) (cond (Nat.blt pc 25) (cond (Nat.blt pc 22) (cond (Nat.blt pc 19) (cond (Nat.beq pc 18) (some (.iconst 1, 19, 0)) none) (cond (Nat.beq pc 19) (some (.goto 19, 22, 38)) none)) (cond (Nat.blt pc 23) (cond (Nat.beq pc 22) (some (.aload_n 0, 23, 0)) none) (cond (Nat.blt pc 24) (cond (Nat.beq pc 23) (some (.iload_n 2, 24, 0)) none) (cond (Nat.beq pc 24) (some (.iload_n 3, 25, 0)) none)))) (cond (Nat.blt pc 30) (cond (Nat.blt pc 27) (cond (Nat.beq pc 25) (some (.iload 4, 27, 0)) none) (cond (Nat.beq pc 27) (some (.invokevirtual 179, 30, 0)) none)) (cond (Nat.blt pc 33) (cond (Nat.beq pc 30) (some (.ifCond .ne 7, 33, 37)) none) (cond (Nat.blt pc 34) (cond (Nat.beq pc 33) (some (.iconst 2, 34, 0)) none) (cond (Nat.beq pc 34) (some (.goto 4, 37, 38)) none)))))) (cond (Nat.blt pc 53) (cond (Nat.blt pc 48) (cond (Nat.blt pc 41) (cond (Nat.blt pc 38) (cond (Nat.beq pc 37) (some (.iconst 0, 38, 0)) none) (cond (Nat.beq pc 38) (some (.putfield 50, 41, 0)) none)) (cond (Nat.blt pc 42) (cond (Nat.beq pc 41) (some (.aload_n 0, 42, 0)) none) (cond (Nat.blt pc 45) (cond (Nat.beq pc 42) (some (.getfield 50, 45, 0)) none) (cond (Nat.beq pc 45) (some (.ifCond .le 5, 48, 50)) none)))) (cond (Nat.blt pc 50) (cond (Nat.blt pc 49) (cond (Nat.beq pc 48) (some (.iconst 0, 49, 0)) none) (cond (Nat.beq pc 49) (some (.ireturn, 50, 0)) none)) (cond (Nat.blt pc 51) (cond (Nat.beq pc 50) (some (.aload_n 0, 51, 0)) none) (cond (Nat.blt pc 52) (cond (Nat.beq pc 51) (some (.iload_n 1, 52, 0)) none) (cond (Nat.beq pc 52) (some (.iload_n 2, 53, 0)) none))))) (cond (Nat.blt pc 64) (cond (Nat.blt pc 57) (cond (Nat.blt pc 56) (cond (Nat.beq pc 53) (some (.invokevirtual 182, 56, 0)) none) (cond (Nat.beq pc 56) (some (.aload_n 0, 57, 0)) none)) (cond (Nat.blt pc 60) (cond (Nat.beq pc 57) (some (.getfield 47, 60, 0)) none) (cond (Nat.blt pc 62) (cond (Nat.beq pc 60) (some (.bipush 24, 62, 0)) none) (cond (Nat.beq pc 62) (some (.iload 4, 64, 0)) none)))) (cond (Nat.blt pc 66) (cond (Nat.blt pc 65) (cond (Nat.beq pc 64) (some (.imul, 65, 0)) none) (cond (Nat.beq pc 65) (some (.iload_n 3, 66, 0)) none)) (cond (Nat.blt pc 67) (cond (Nat.beq pc 66) (some (.iadd, 67, 0)) none) (cond (Nat.blt pc 68) (cond (Nat.beq pc 67) (some (.iaload, 68, 0)) none) (cond (Nat.beq pc 68) (some (.ireturn, 69, 0)) none))))))
def m_M_dot : MI := (⟨"TileStudioModel", "dot", "(IIII)I"⟩, prog_10_method_54_code, 5, (Option.some Jvm.ClassFile.FieldType.int), [], zmk 69 tb_M_dot)
theorem ok_M_dot : zok m_M_dot := zok_mk rfl (by decide +kernel)
def tb_M_isPlace : ZT := fun pc => cond (Nat.blt pc 20) (cond (Nat.blt pc 9) (cond (Nat.blt pc 4) (cond (Nat.blt pc 1) (cond (Nat.beq pc 0) (some (.iload_n 2, 1, 0)) none) (cond (Nat.beq pc 1) (some (.ifCond .lt 35, 4, 36)) none)) (cond (Nat.blt pc 5) (cond (Nat.beq pc 4) (some (.iload_n 2, 5, 0)) none) (cond (Nat.blt pc 6) (cond (Nat.beq pc 5) (some (.aload_n 0, 6, 0)) none) (cond (Nat.beq pc 6) (some (.invokevirtual 100, 9, 0)) none)))) (cond (Nat.blt pc 13) (cond (Nat.blt pc 10) (cond (Nat.beq pc 9) (some (.iload_n 1, 10, 0)) none) (cond (Nat.beq pc 10) (some (.invokestatic 173, 13, 0)) none)) (cond (Nat.blt pc 16) (cond (Nat.beq pc 13) (some (.if_icmp .ge 23, 16, 36)) none) (cond (Nat.blt pc 17) (cond (Nat.beq pc 16) (some (.iload_n 3, 17, 0)) none) (cond (Nat.beq pc 17) (some (.ifCond .lt 19, 20, 36)) none))))) (cond (Nat.blt pc 29) (cond (Nat.blt pc 22) (cond (Nat.blt pc 21) (cond (Nat.beq pc 20) (some (.iload_n 3, 21, 0)) none) (cond (Nat.beq pc 21) (some (.aload_n 0, 22, 0)) none)) (cond (Nat.blt pc 25) (cond (Nat.beq pc 22) (some (.invokevirtual 96, 25, 0)) none) (cond (Nat.blt pc 26) (cond (Nat.beq pc 25) (some (.iload_n 1, 26, 0)) none) (cond (Nat.beq pc 26) (some (.invokestatic 173, 29, 0)) none)))) (cond (Nat.blt pc 33) (cond (Nat.blt pc 32) (cond (Nat.beq pc 29) (some (.if_icmp .ge 7, 32, 36)) none) (cond (Nat.beq pc 32) (some (.iconst 1, 33, 0)) none)) (cond (Nat.blt pc 36) (cond (Nat.beq pc 33) (some (.goto 4, 36, 37)) none) (cond (Nat.blt pc 37) (cond (Nat.beq pc 36) (some (.iconst 0, 37, 0)) none) (cond (Nat.beq pc 37) (some (.ireturn, 38, 0)) none)))))
def m_M_isPlace : MI := (⟨"TileStudioModel", "isPlace", "(III)Z"⟩, prog_10_method_53_code, 4, (Option.some Jvm.ClassFile.FieldType.boolean), [], zmk 38 tb_M_isPlace)
theorem ok_M_isPlace : zok m_M_isPlace := zok_mk rfl (by decide +kernel)
def tb_M_half : ZT := fun pc => cond (Nat.blt pc 10) (cond (Nat.blt pc 4) (cond (Nat.blt pc 2) (cond (Nat.blt pc 1) (cond (Nat.beq pc 0) (some (.iload_n 0, 1, 0)) none) (cond (Nat.beq pc 1) (some (.istore_n 2, 2, 0)) none)) (cond (Nat.blt pc 3) (cond (Nat.beq pc 2) (some (.iconst 0, 3, 0)) none) (cond (Nat.beq pc 3) (some (.istore_n 3, 4, 0)) none))) (cond (Nat.blt pc 6) (cond (Nat.blt pc 5) (cond (Nat.beq pc 4) (some (.iload_n 3, 5, 0)) none) (cond (Nat.beq pc 5) (some (.iload_n 1, 6, 0)) none)) (cond (Nat.blt pc 9) (cond (Nat.beq pc 6) (some (.if_icmp .ge 15, 9, 21)) none) (cond (Nat.beq pc 9) (some (.iload_n 2, 10, 0)) none)))) (cond (Nat.blt pc 14) (cond (Nat.blt pc 12) (cond (Nat.blt pc 11) (cond (Nat.beq pc 10) (some (.iconst 1, 11, 0)) none) (cond (Nat.beq pc 11) (some (.iadd, 12, 0)) none)) (cond (Nat.blt pc 13) (cond (Nat.beq pc 12) (some (.iconst 2, 13, 0)) none) (cond (Nat.beq pc 13) (some (.idiv, 14, 0)) none))) (cond (Nat.blt pc 18) (cond (Nat.blt pc 15) (cond (Nat.beq pc 14) (some (.istore_n 2, 15, 0)) none) (cond (Nat.beq pc 15) (some (.iinc 3 1, 18, 0)) none)) (cond (Nat.blt pc 21) (cond (Nat.beq pc 18) (some (.goto (-14), 21, 4)) none) (cond (Nat.blt pc 22) (cond (Nat.beq pc 21) (some (.iload_n 2, 22, 0)) none) (cond (Nat.beq pc 22) (some (.ireturn, 23, 0)) none)))))
def m_M_half : MI := (⟨"TileStudioModel", "half", "(II)I"⟩, prog_10_method_50_code, 4, (Option.some Jvm.ClassFile.FieldType.int), [], zmk 23 tb_M_half)
theorem ok_M_half : zok m_M_half := zok_mk rfl (by decide +kernel)
def tb_M_climb : ZT := fun pc => cond (Nat.blt pc 77) (cond (Nat.blt pc 37) (cond (Nat.blt pc 16) (cond (Nat.blt pc 7) (cond (Nat.blt pc 2) (cond (Nat.blt pc 1) (cond (Nat.beq pc 0) (some (.iconst 0, 1, 0)) none) (cond (Nat.beq pc 1) (some (.istore_n 3, 2, 0)) none)) (cond (Nat.blt pc 3) (cond (Nat.beq pc 2) (some (.iload_n 3, 3, 0)) none) (cond (Nat.blt pc 4) (cond (Nat.beq pc 3) (some (.aload_n 0, 4, 0)) none) (cond (Nat.beq pc 4) (some (.invokevirtual 96, 7, 0)) none)))) (cond (Nat.blt pc 11) (cond (Nat.blt pc 10) (cond (Nat.beq pc 7) (some (.if_icmp .ge 52, 10, 59)) none) (cond (Nat.beq pc 10) (some (.iconst 0, 11, 0)) none)) (cond (Nat.blt pc 13) (cond (Nat.beq pc 11) (some (.istore 4, 13, 0)) none) (cond (Nat.blt pc 15) (cond (Nat.beq pc 13) (some (.iload 4, 15, 0)) none) (cond (Nat.beq pc 15) (some (.aload_n 0, 16, 0)) none))))) (cond (Nat.blt pc 28) (cond (Nat.blt pc 22) (cond (Nat.blt pc 19) (cond (Nat.beq pc 16) (some (.invokevirtual 100, 19, 0)) none) (cond (Nat.beq pc 19) (some (.if_icmp .ge 34, 22, 53)) none)) (cond (Nat.blt pc 23) (cond (Nat.beq pc 22) (some (.aload_n 0, 23, 0)) none) (cond (Nat.blt pc 26) (cond (Nat.beq pc 23) (some (.getfield 47, 26, 0)) none) (cond (Nat.beq pc 26) (some (.bipush 24, 28, 0)) none)))) (cond (Nat.blt pc 32) (cond (Nat.blt pc 29) (cond (Nat.beq pc 28) (some (.iload_n 3, 29, 0)) none) (cond (Nat.blt pc 30) (cond (Nat.beq pc 29) (some (.imul, 30, 0)) none) (cond (Nat.beq pc 30) (some (.iload 4, 32, 0)) none))) (cond (Nat.blt pc 33) (cond (Nat.beq pc 32) (some (.iadd, 33, 0)) none) (cond (Nat.blt pc 34) (cond (Nat.beq pc 33) (some (.aload_n 0, 34, 0)) none) (cond (Nat.beq pc 34) (some (.getfield 7, 37, 0)) none)))))) (cond (Nat.blt pc 59) (cond (Nat.blt pc 45) (cond (Nat.blt pc 39) (cond (Nat.blt pc 38) (cond (Nat.beq pc 37) (some (.aload_n 0, 38, 0)) none) (cond (Nat.beq pc 38) (some (.iload_n 1, 39, 0)) none)) (cond (Nat.blt pc 41) (cond (Nat.beq pc 39) (some (.iload 4, 41, 0)) none) (cond (Nat.blt pc 42) (cond (Nat.beq pc 41) (some (.iload_n 3, 42, 0)) none) (cond (Nat.beq pc 42) (some (.invokevirtual 132, 45, 0)) none)))) (cond (Nat.blt pc 50) (cond (Nat.blt pc 46) (cond (Nat.beq pc 45) (some (.iaload, 46, 0)) none) (cond (Nat.blt pc 47) (cond (Nat.beq pc 46) (some (.iastore, 47, 0)) none) (cond (Nat.beq pc 47) (some (.iinc 4 1, 50, 0)) none))) (cond (Nat.blt pc 53) (cond (Nat.beq pc 50) (some (.goto (-37), 53, 13)) none) (cond (Nat.blt pc 56) (cond (Nat.beq pc 53) (some (.iinc 3 1, 56, 0)) none) (cond (Nat.beq pc 56) (some (.goto (-54), 59, 2)) none))))) (cond (Nat.blt pc 66) (cond (Nat.blt pc 61) (cond (Nat.blt pc 60) (cond (Nat.beq pc 59) (some (.iconst 0, 60, 0)) none) (cond (Nat.beq pc 60) (some (.istore_n 3, 61, 0)) none)) (cond (Nat.blt pc 62) (cond (Nat.beq pc 61) (some (.iload_n 3, 62, 0)) none) (cond (Nat.blt pc 63) (cond (Nat.beq pc 62) (some (.iload_n 2, 63, 0)) none) (cond (Nat.beq pc 63) (some (.if_icmp .ge 98, 66, 161)) none)))) (cond (Nat.blt pc 71) (cond (Nat.blt pc 67) (cond (Nat.beq pc 66) (some (.aload_n 0, 67, 0)) none) (cond (Nat.blt pc 70) (cond (Nat.beq pc 67) (some (.invokevirtual 100, 70, 0)) none) (cond (Nat.beq pc 70) (some (.iload_n 3, 71, 0)) none))) (cond (Nat.blt pc 74) (cond (Nat.beq pc 71) (some (.invokestatic 173, 74, 0)) none) (cond (Nat.blt pc 76) (cond (Nat.beq pc 74) (some (.istore 4, 76, 0)) none) (cond (Nat.beq pc 76) (some (.aload_n 0, 77, 0)) none))))))) (cond (Nat.blt pc 120) (cond (Nat.blt pc 97) (cond (Nat.blt pc 87) (cond (Nat.blt pc 81) (cond (Nat.blt pc 80) (cond (Nat.beq pc 77) (some (.invokevirtual 96, 80, 0)) none) (cond (Nat.beq pc 80) (some (.iload_n 3, 81, 0)) none)) (cond (Nat.blt pc 84) (cond (Nat.beq pc 81) (some (.invokestatic 173, 84, 0)) none) (cond (Nat.blt pc 86) (cond (Nat.beq pc 84) (some (.istore 5, 86, 0)) none) (cond (Nat.beq pc 86) (some (.iconst 0, 87, 0)) none)))) (cond (Nat.blt pc 91) (cond (Nat.blt pc 89) (cond (Nat.beq pc 87) (some (.istore 6, 89, 0)) none) (cond (Nat.beq pc 89) (some (.iload 6, 91, 0)) none)) (cond (Nat.blt pc 93) (cond (Nat.beq pc 91) (some (.iload 5, 93, 0)) none) (cond (Nat.blt pc 94) (cond (Nat.beq pc 93) (some (.iconst 1, 94, 0)) none) (cond (Nat.beq pc 94) (some (.invokestatic 173, 97, 0)) none))))) (cond (Nat.blt pc 107) (cond (Nat.blt pc 101) (cond (Nat.blt pc 100) (cond (Nat.beq pc 97) (some (.if_icmp .ge 58, 100, 155)) none) (cond (Nat.beq pc 100) (some (.iconst 0, 101, 0)) none)) (cond (Nat.blt pc 103) (cond (Nat.beq pc 101) (some (.istore 7, 103, 0)) none) (cond (Nat.blt pc 105) (cond (Nat.beq pc 103) (some (.iload 7, 105, 0)) none) (cond (Nat.beq pc 105) (some (.iload 4, 107, 0)) none)))) (cond (Nat.blt pc 114) (cond (Nat.blt pc 108) (cond (Nat.beq pc 107) (some (.iconst 1, 108, 0)) none) (cond (Nat.blt pc 111) (cond (Nat.beq pc 108) (some (.invokestatic 173, 111, 0)) none) (cond (Nat.beq pc 111) (some (.if_icmp .ge 38, 114, 149)) none))) (cond (Nat.blt pc 115) (cond (Nat.beq pc 114) (some (.aload_n 0, 115, 0)) none) (cond (Nat.blt pc 118) (cond (Nat.beq pc 115) (some (.getfield 47, 118, 0)) none) (cond (Nat.beq pc 118) (some (.bipush 24, 120, 0)) none)))))) (cond (Nat.blt pc 135) (cond (Nat.blt pc 127) (cond (Nat.blt pc 123) (cond (Nat.blt pc 122) (cond (Nat.beq pc 120) (some (.iload 6, 122, 0)) none) (cond (Nat.beq pc 122) (some (.imul, 123, 0)) none)) (cond (Nat.blt pc 125) (cond (Nat.beq pc 123) (some (.iload 7, 125, 0)) none) (cond (Nat.blt pc 126) (cond (Nat.beq pc 125) (some (.iadd, 126, 0)) none) (cond (Nat.beq pc 126) (some (.aload_n 0, 127, 0)) none)))) (cond (Nat.blt pc 131) (cond (Nat.blt pc 128) (cond (Nat.beq pc 127) (some (.iconst 2, 128, 0)) none) (cond (Nat.blt pc 130) (cond (Nat.beq pc 128) (some (.iload 7, 130, 0)) none) (cond (Nat.beq pc 130) (some (.imul, 131, 0)) none))) (cond (Nat.blt pc 132) (cond (Nat.beq pc 131) (some (.iconst 2, 132, 0)) none) (cond (Nat.blt pc 134) (cond (Nat.beq pc 132) (some (.iload 6, 134, 0)) none) (cond (Nat.beq pc 134) (some (.imul, 135, 0)) none))))) (cond (Nat.blt pc 146) (cond (Nat.blt pc 139) (cond (Nat.blt pc 137) (cond (Nat.beq pc 135) (some (.iload 4, 137, 0)) none) (cond (Nat.beq pc 137) (some (.iload 5, 139, 0)) none)) (cond (Nat.blt pc 142) (cond (Nat.beq pc 139) (some (.invokevirtual 176, 142, 0)) none) (cond (Nat.blt pc 143) (cond (Nat.beq pc 142) (some (.iastore, 143, 0)) none) (cond (Nat.beq pc 143) (some (.iinc 7 1, 146, 0)) none)))) (cond (Nat.blt pc 155) (cond (Nat.blt pc 149) (cond (Nat.beq pc 146) (some (.goto (-43), 149, 103)) none) (cond (Nat.blt pc 152) (cond (Nat.beq pc 149) (some (.iinc 6 1, 152, 0)) none) (cond (Nat.beq pc 152) (some (.goto (-63), 155, 89)) none))) (cond (Nat.blt pc 158) (cond (Nat.beq pc 155) (some (.iinc 3 1, 158, 0)) none) (cond (Nat.blt pc 161) (cond (Nat.beq pc 158) (some (.goto (-97), 161, 61)) none) (cond (Nat.beq pc 161) (some (.return_, 162, 0)) none)))))))
def m_M_climb : MI := (⟨"TileStudioModel", "climb", "(II)V"⟩, prog_10_method_51_code, 8, none, [], zmk 162 tb_M_climb)
theorem ok_M_climb : zok m_M_climb := zok_mk rfl (by decide +kernel)
def tb_M_four : ZT := fun pc => cond (Nat.blt pc 97) (cond (Nat.blt pc 43) (cond (Nat.blt pc 22) (cond (Nat.blt pc 10) (cond (Nat.blt pc 4) (cond (Nat.blt pc 1) (cond (Nat.beq pc 0) (some (.iconst 0, 1, 0)) none) (cond (Nat.blt pc 3) (cond (Nat.beq pc 1) (some (.istore 5, 3, 0)) none) (cond (Nat.beq pc 3) (some (.iconst 0, 4, 0)) none))) (cond (Nat.blt pc 7) (cond (Nat.blt pc 6) (cond (Nat.beq pc 4) (some (.istore 6, 6, 0)) none) (cond (Nat.beq pc 6) (some (.iconst 0, 7, 0)) none)) (cond (Nat.blt pc 9) (cond (Nat.beq pc 7) (some (.istore 7, 9, 0)) none) (cond (Nat.beq pc 9) (some (.iconst 0, 10, 0)) none)))) (cond (Nat.blt pc 15) (cond (Nat.blt pc 12) (cond (Nat.beq pc 10) (some (.istore 8, 12, 0)) none) (cond (Nat.blt pc 13) (cond (Nat.beq pc 12) (some (.iconst 0, 13, 0)) none) (cond (Nat.beq pc 13) (some (.istore 9, 15, 0)) none))) (cond (Nat.blt pc 18) (cond (Nat.blt pc 17) (cond (Nat.beq pc 15) (some (.iload 9, 17, 0)) none) (cond (Nat.beq pc 17) (some (.iconst 4, 18, 0)) none)) (cond (Nat.blt pc 21) (cond (Nat.beq pc 18) (some (.if_icmp .ge 113, 21, 131)) none) (cond (Nat.beq pc 21) (some (.iload_n 1, 22, 0)) none))))) (cond (Nat.blt pc 32) (cond (Nat.blt pc 26) (cond (Nat.blt pc 24) (cond (Nat.beq pc 22) (some (.iload 9, 24, 0)) none) (cond (Nat.blt pc 25) (cond (Nat.beq pc 24) (some (.iconst 2, 25, 0)) none) (cond (Nat.beq pc 25) (some (.irem, 26, 0)) none))) (cond (Nat.blt pc 29) (cond (Nat.blt pc 27) (cond (Nat.beq pc 26) (some (.iadd, 27, 0)) none) (cond (Nat.beq pc 27) (some (.istore 10, 29, 0)) none)) (cond (Nat.blt pc 30) (cond (Nat.beq pc 29) (some (.iload_n 2, 30, 0)) none) (cond (Nat.beq pc 30) (some (.iload 9, 32, 0)) none)))) (cond (Nat.blt pc 35) (cond (Nat.blt pc 33) (cond (Nat.beq pc 32) (some (.iconst 2, 33, 0)) none) (cond (Nat.blt pc 34) (cond (Nat.beq pc 33) (some (.idiv, 34, 0)) none) (cond (Nat.beq pc 34) (some (.iadd, 35, 0)) none))) (cond (Nat.blt pc 39) (cond (Nat.blt pc 37) (cond (Nat.beq pc 35) (some (.istore 11, 37, 0)) none) (cond (Nat.beq pc 37) (some (.iload 10, 39, 0)) none)) (cond (Nat.blt pc 40) (cond (Nat.beq pc 39) (some (.iload_n 3, 40, 0)) none) (cond (Nat.beq pc 40) (some (.if_icmp .ge 85, 43, 125)) none)))))) (cond (Nat.blt pc 70) (cond (Nat.blt pc 59) (cond (Nat.blt pc 50) (cond (Nat.blt pc 45) (cond (Nat.beq pc 43) (some (.iload 11, 45, 0)) none) (cond (Nat.blt pc 47) (cond (Nat.beq pc 45) (some (.iload 4, 47, 0)) none) (cond (Nat.beq pc 47) (some (.if_icmp .lt 6, 50, 53)) none))) (cond (Nat.blt pc 54) (cond (Nat.blt pc 53) (cond (Nat.beq pc 50) (some (.goto 75, 53, 125)) none) (cond (Nat.beq pc 53) (some (.aload_n 0, 54, 0)) none)) (cond (Nat.blt pc 57) (cond (Nat.beq pc 54) (some (.getfield 47, 57, 0)) none) (cond (Nat.beq pc 57) (some (.bipush 24, 59, 0)) none)))) (cond (Nat.blt pc 64) (cond (Nat.blt pc 61) (cond (Nat.beq pc 59) (some (.iload 11, 61, 0)) none) (cond (Nat.blt pc 62) (cond (Nat.beq pc 61) (some (.imul, 62, 0)) none) (cond (Nat.beq pc 62) (some (.iload 10, 64, 0)) none))) (cond (Nat.blt pc 66) (cond (Nat.blt pc 65) (cond (Nat.beq pc 64) (some (.iadd, 65, 0)) none) (cond (Nat.beq pc 65) (some (.iaload, 66, 0)) none)) (cond (Nat.blt pc 68) (cond (Nat.beq pc 66) (some (.istore 12, 68, 0)) none) (cond (Nat.beq pc 68) (some (.iload 12, 70, 0)) none))))) (cond (Nat.blt pc 83) (cond (Nat.blt pc 76) (cond (Nat.blt pc 73) (cond (Nat.beq pc 70) (some (.sipush 255, 73, 0)) none) (cond (Nat.blt pc 74) (cond (Nat.beq pc 73) (some (.iand, 74, 0)) none) (cond (Nat.beq pc 74) (some (.istore 13, 76, 0)) none))) (cond (Nat.blt pc 80) (cond (Nat.blt pc 78) (cond (Nat.beq pc 76) (some (.iload 5, 78, 0)) none) (cond (Nat.beq pc 78) (some (.iload 13, 80, 0)) none)) (cond (Nat.blt pc 81) (cond (Nat.beq pc 80) (some (.iadd, 81, 0)) none) (cond (Nat.beq pc 81) (some (.istore 5, 83, 0)) none)))) (cond (Nat.blt pc 90) (cond (Nat.blt pc 87) (cond (Nat.blt pc 85) (cond (Nat.beq pc 83) (some (.iload 6, 85, 0)) none) (cond (Nat.beq pc 85) (some (.iload 13, 87, 0)) none)) (cond (Nat.blt pc 89) (cond (Nat.beq pc 87) (some (.iload 12, 89, 0)) none) (cond (Nat.beq pc 89) (some (.iconst 0, 90, 0)) none))) (cond (Nat.blt pc 94) (cond (Nat.blt pc 93) (cond (Nat.beq pc 90) (some (.invokestatic 118, 93, 0)) none) (cond (Nat.beq pc 93) (some (.imul, 94, 0)) none)) (cond (Nat.blt pc 95) (cond (Nat.beq pc 94) (some (.iadd, 95, 0)) none) (cond (Nat.beq pc 95) (some (.istore 6, 97, 0)) none))))))) (cond (Nat.blt pc 148) (cond (Nat.blt pc 122) (cond (Nat.blt pc 109) (cond (Nat.blt pc 103) (cond (Nat.blt pc 99) (cond (Nat.beq pc 97) (some (.iload 7, 99, 0)) none) (cond (Nat.blt pc 101) (cond (Nat.beq pc 99) (some (.iload 13, 101, 0)) none) (cond (Nat.beq pc 101) (some (.iload 12, 103, 0)) none))) (cond (Nat.blt pc 107) (cond (Nat.blt pc 104) (cond (Nat.beq pc 103) (some (.iconst 1, 104, 0)) none) (cond (Nat.beq pc 104) (some (.invokestatic 118, 107, 0)) none)) (cond (Nat.blt pc 108) (cond (Nat.beq pc 107) (some (.imul, 108, 0)) none) (cond (Nat.beq pc 108) (some (.iadd, 109, 0)) none)))) (cond (Nat.blt pc 115) (cond (Nat.blt pc 111) (cond (Nat.beq pc 109) (some (.istore 7, 111, 0)) none) (cond (Nat.blt pc 113) (cond (Nat.beq pc 111) (some (.iload 8, 113, 0)) none) (cond (Nat.beq pc 113) (some (.iload 13, 115, 0)) none))) (cond (Nat.blt pc 118) (cond (Nat.blt pc 117) (cond (Nat.beq pc 115) (some (.iload 12, 117, 0)) none) (cond (Nat.beq pc 117) (some (.iconst 2, 118, 0)) none)) (cond (Nat.blt pc 121) (cond (Nat.beq pc 118) (some (.invokestatic 118, 121, 0)) none) (cond (Nat.beq pc 121) (some (.imul, 122, 0)) none))))) (cond (Nat.blt pc 137) (cond (Nat.blt pc 128) (cond (Nat.blt pc 123) (cond (Nat.beq pc 122) (some (.iadd, 123, 0)) none) (cond (Nat.blt pc 125) (cond (Nat.beq pc 123) (some (.istore 8, 125, 0)) none) (cond (Nat.beq pc 125) (some (.iinc 9 1, 128, 0)) none))) (cond (Nat.blt pc 133) (cond (Nat.blt pc 131) (cond (Nat.beq pc 128) (some (.goto (-113), 131, 15)) none) (cond (Nat.beq pc 131) (some (.iload 5, 133, 0)) none)) (cond (Nat.blt pc 136) (cond (Nat.beq pc 133) (some (.ifCond .ne 5, 136, 138)) none) (cond (Nat.beq pc 136) (some (.iconst 0, 137, 0)) none)))) (cond (Nat.blt pc 143) (cond (Nat.blt pc 140) (cond (Nat.blt pc 138) (cond (Nat.beq pc 137) (some (.ireturn, 138, 0)) none) (cond (Nat.beq pc 138) (some (.iload 6, 140, 0)) none)) (cond (Nat.blt pc 142) (cond (Nat.beq pc 140) (some (.iload 5, 142, 0)) none) (cond (Nat.beq pc 142) (some (.iconst 2, 143, 0)) none))) (cond (Nat.blt pc 145) (cond (Nat.blt pc 144) (cond (Nat.beq pc 143) (some (.idiv, 144, 0)) none) (cond (Nat.beq pc 144) (some (.iadd, 145, 0)) none)) (cond (Nat.blt pc 147) (cond (Nat.beq pc 145) (some (.iload 5, 147, 0)) none) (cond (Nat.beq pc 147) (some (.idiv, 148, 0)) none)))))) (cond (Nat.blt pc 169) (cond (Nat.blt pc 158) (cond (Nat.blt pc 153) (cond (Nat.blt pc 150) (cond (Nat.beq pc 148) (some (.bipush 24, 150, 0)) none) (cond (Nat.blt pc 151) (cond (Nat.beq pc 150) (some (.ishl, 151, 0)) none) (cond (Nat.beq pc 151) (some (.iload 7, 153, 0)) none))) (cond (Nat.blt pc 156) (cond (Nat.blt pc 155) (cond (Nat.beq pc 153) (some (.iload 5, 155, 0)) none) (cond (Nat.beq pc 155) (some (.iconst 2, 156, 0)) none)) (cond (Nat.blt pc 157) (cond (Nat.beq pc 156) (some (.idiv, 157, 0)) none) (cond (Nat.beq pc 157) (some (.iadd, 158, 0)) none)))) (cond (Nat.blt pc 163) (cond (Nat.blt pc 160) (cond (Nat.beq pc 158) (some (.iload 5, 160, 0)) none) (cond (Nat.blt pc 161) (cond (Nat.beq pc 160) (some (.idiv, 161, 0)) none) (cond (Nat.beq pc 161) (some (.bipush 16, 163, 0)) none))) (cond (Nat.blt pc 165) (cond (Nat.blt pc 164) (cond (Nat.beq pc 163) (some (.ishl, 164, 0)) none) (cond (Nat.beq pc 164) (some (.ior, 165, 0)) none)) (cond (Nat.blt pc 167) (cond (Nat.beq pc 165) (some (.iload 8, 167, 0)) none) (cond (Nat.beq pc 167) (some (.iload 5, 169, 0)) none))))) (cond (Nat.blt pc 178) (cond (Nat.blt pc 172) (cond (Nat.blt pc 170) (cond (Nat.beq pc 169) (some (.iconst 2, 170, 0)) none) (cond (Nat.blt pc 171) (cond (Nat.beq pc 170) (some (.idiv, 171, 0)) none) (cond (Nat.beq pc 171) (some (.iadd, 172, 0)) none))) (cond (Nat.blt pc 175) (cond (Nat.blt pc 174) (cond (Nat.beq pc 172) (some (.iload 5, 174, 0)) none) (cond (Nat.beq pc 174) (some (.idiv, 175, 0)) none)) (cond (Nat.blt pc 177) (cond (Nat.beq pc 175) (some (.bipush 8, 177, 0)) none) (cond (Nat.beq pc 177) (some (.ishl, 178, 0)) none)))) (cond (Nat.blt pc 183) (cond (Nat.blt pc 181) (cond (Nat.blt pc 179) (cond (Nat.beq pc 178) (some (.ior, 179, 0)) none) (cond (Nat.beq pc 179) (some (.iload 5, 181, 0)) none)) (cond (Nat.blt pc 182) (cond (Nat.beq pc 181) (some (.iconst 2, 182, 0)) none) (cond (Nat.beq pc 182) (some (.iadd, 183, 0)) none))) (cond (Nat.blt pc 185) (cond (Nat.blt pc 184) (cond (Nat.beq pc 183) (some (.iconst 4, 184, 0)) none) (cond (Nat.beq pc 184) (some (.idiv, 185, 0)) none)) (cond (Nat.blt pc 186) (cond (Nat.beq pc 185) (some (.ior, 186, 0)) none) (cond (Nat.beq pc 186) (some (.ireturn, 187, 0)) none)))))))
def m_M_four : MI := (⟨"TileStudioModel", "four", "(IIII)I"⟩, prog_10_method_52_code, 14, (Option.some Jvm.ClassFile.FieldType.int), [], zmk 187 tb_M_four)
theorem ok_M_four : zok m_M_four := zok_mk rfl (by decide +kernel)
def tb_M_view : ZT := fun pc => cond (Nat.blt pc 77) (cond (Nat.blt pc 39) (cond (Nat.blt pc 18) (cond (Nat.blt pc 9) (cond (Nat.blt pc 2) (cond (Nat.blt pc 1) (cond (Nat.beq pc 0) (some (.aload_n 0, 1, 0)) none) (cond (Nat.beq pc 1) (some (.aload_n 0, 2, 0)) none)) (cond (Nat.blt pc 5) (cond (Nat.beq pc 2) (some (.getfield 67, 5, 0)) none) (cond (Nat.blt pc 8) (cond (Nat.beq pc 5) (some (.ifCond .eq 12, 8, 17)) none) (cond (Nat.beq pc 8) (some (.iload_n 1, 9, 0)) none)))) (cond (Nat.blt pc 11) (cond (Nat.blt pc 10) (cond (Nat.beq pc 9) (some (.iconst 0, 10, 0)) none) (cond (Nat.beq pc 10) (some (.iconst 3, 11, 0)) none)) (cond (Nat.blt pc 14) (cond (Nat.beq pc 11) (some (.invokestatic 71, 14, 0)) none) (cond (Nat.blt pc 17) (cond (Nat.beq pc 14) (some (.ifCond .ne 7, 17, 21)) none) (cond (Nat.beq pc 17) (some (.iconst 1, 18, 0)) none))))) (cond (Nat.blt pc 25) (cond (Nat.blt pc 22) (cond (Nat.blt pc 21) (cond (Nat.beq pc 18) (some (.goto 18, 21, 36)) none) (cond (Nat.beq pc 21) (some (.aload_n 0, 22, 0)) none)) (cond (Nat.blt pc 23) (cond (Nat.beq pc 22) (some (.iload_n 1, 23, 0)) none) (cond (Nat.blt pc 24) (cond (Nat.beq pc 23) (some (.iload_n 2, 24, 0)) none) (cond (Nat.beq pc 24) (some (.iload_n 3, 25, 0)) none)))) (cond (Nat.blt pc 32) (cond (Nat.blt pc 28) (cond (Nat.beq pc 25) (some (.invokevirtual 179, 28, 0)) none) (cond (Nat.blt pc 31) (cond (Nat.beq pc 28) (some (.ifCond .ne 7, 31, 35)) none) (cond (Nat.beq pc 31) (some (.iconst 2, 32, 0)) none))) (cond (Nat.blt pc 35) (cond (Nat.beq pc 32) (some (.goto 4, 35, 36)) none) (cond (Nat.blt pc 36) (cond (Nat.beq pc 35) (some (.iconst 0, 36, 0)) none) (cond (Nat.beq pc 36) (some (.putfield 50, 39, 0)) none)))))) (cond (Nat.blt pc 56) (cond (Nat.blt pc 48) (cond (Nat.blt pc 43) (cond (Nat.blt pc 40) (cond (Nat.beq pc 39) (some (.aload_n 0, 40, 0)) none) (cond (Nat.beq pc 40) (some (.getfield 50, 43, 0)) none)) (cond (Nat.blt pc 46) (cond (Nat.beq pc 43) (some (.ifCond .le 5, 46, 48)) none) (cond (Nat.blt pc 47) (cond (Nat.beq pc 46) (some (.iconst 0, 47, 0)) none) (cond (Nat.beq pc 47) (some (.ireturn, 48, 0)) none)))) (cond (Nat.blt pc 51) (cond (Nat.blt pc 49) (cond (Nat.beq pc 48) (some (.iconst 0, 49, 0)) none) (cond (Nat.beq pc 49) (some (.istore 4, 51, 0)) none)) (cond (Nat.blt pc 52) (cond (Nat.beq pc 51) (some (.iconst 0, 52, 0)) none) (cond (Nat.blt pc 54) (cond (Nat.beq pc 52) (some (.istore 5, 54, 0)) none) (cond (Nat.beq pc 54) (some (.iload 5, 56, 0)) none))))) (cond (Nat.blt pc 65) (cond (Nat.blt pc 60) (cond (Nat.blt pc 57) (cond (Nat.beq pc 56) (some (.aload_n 0, 57, 0)) none) (cond (Nat.beq pc 57) (some (.getfield 26, 60, 0)) none)) (cond (Nat.blt pc 61) (cond (Nat.beq pc 60) (some (.aload_n 0, 61, 0)) none) (cond (Nat.blt pc 64) (cond (Nat.beq pc 61) (some (.getfield 58, 64, 0)) none) (cond (Nat.beq pc 64) (some (.iaload, 65, 0)) none)))) (cond (Nat.blt pc 72) (cond (Nat.blt pc 68) (cond (Nat.beq pc 65) (some (.if_icmp .ge 82, 68, 147)) none) (cond (Nat.blt pc 69) (cond (Nat.beq pc 68) (some (.aload_n 0, 69, 0)) none) (cond (Nat.beq pc 69) (some (.getfield 22, 72, 0)) none))) (cond (Nat.blt pc 73) (cond (Nat.beq pc 72) (some (.iconst 3, 73, 0)) none) (cond (Nat.blt pc 74) (cond (Nat.beq pc 73) (some (.aload_n 0, 74, 0)) none) (cond (Nat.beq pc 74) (some (.getfield 58, 77, 0)) none))))))) (cond (Nat.blt pc 112) (cond (Nat.blt pc 95) (cond (Nat.blt pc 85) (cond (Nat.blt pc 80) (cond (Nat.blt pc 78) (cond (Nat.beq pc 77) (some (.imul, 78, 0)) none) (cond (Nat.beq pc 78) (some (.iload 5, 80, 0)) none)) (cond (Nat.blt pc 81) (cond (Nat.beq pc 80) (some (.iadd, 81, 0)) none) (cond (Nat.blt pc 82) (cond (Nat.beq pc 81) (some (.baload, 82, 0)) none) (cond (Nat.beq pc 82) (some (.ifCond .ne 6, 85, 88)) none)))) (cond (Nat.blt pc 89) (cond (Nat.blt pc 88) (cond (Nat.beq pc 85) (some (.goto 56, 88, 141)) none) (cond (Nat.beq pc 88) (some (.aload_n 0, 89, 0)) none)) (cond (Nat.blt pc 91) (cond (Nat.beq pc 89) (some (.iload 5, 91, 0)) none) (cond (Nat.blt pc 92) (cond (Nat.beq pc 91) (some (.iload_n 1, 92, 0)) none) (cond (Nat.beq pc 92) (some (.invokevirtual 182, 95, 0)) none))))) (cond (Nat.blt pc 104) (cond (Nat.blt pc 98) (cond (Nat.blt pc 97) (cond (Nat.beq pc 95) (some (.iload 4, 97, 0)) none) (cond (Nat.beq pc 97) (some (.aload_n 0, 98, 0)) none)) (cond (Nat.blt pc 101) (cond (Nat.beq pc 98) (some (.getfield 47, 101, 0)) none) (cond (Nat.blt pc 103) (cond (Nat.beq pc 101) (some (.bipush 24, 103, 0)) none) (cond (Nat.beq pc 103) (some (.iload_n 3, 104, 0)) none)))) (cond (Nat.blt pc 107) (cond (Nat.blt pc 105) (cond (Nat.beq pc 104) (some (.imul, 105, 0)) none) (cond (Nat.blt pc 106) (cond (Nat.beq pc 105) (some (.iload_n 2, 106, 0)) none) (cond (Nat.beq pc 106) (some (.iadd, 107, 0)) none))) (cond (Nat.blt pc 108) (cond (Nat.beq pc 107) (some (.iaload, 108, 0)) none) (cond (Nat.blt pc 109) (cond (Nat.beq pc 108) (some (.aload_n 0, 109, 0)) none) (cond (Nat.beq pc 109) (some (.getfield 16, 112, 0)) none)))))) (cond (Nat.blt pc 128) (cond (Nat.blt pc 120) (cond (Nat.blt pc 114) (cond (Nat.blt pc 113) (cond (Nat.beq pc 112) (some (.iconst 3, 113, 0)) none) (cond (Nat.beq pc 113) (some (.aload_n 0, 114, 0)) none)) (cond (Nat.blt pc 117) (cond (Nat.beq pc 114) (some (.getfield 58, 117, 0)) none) (cond (Nat.blt pc 118) (cond (Nat.beq pc 117) (some (.imul, 118, 0)) none) (cond (Nat.beq pc 118) (some (.iload 5, 120, 0)) none)))) (cond (Nat.blt pc 123) (cond (Nat.blt pc 121) (cond (Nat.beq pc 120) (some (.iadd, 121, 0)) none) (cond (Nat.blt pc 122) (cond (Nat.beq pc 121) (some (.iaload, 122, 0)) none) (cond (Nat.beq pc 122) (some (.aload_n 0, 123, 0)) none))) (cond (Nat.blt pc 126) (cond (Nat.beq pc 123) (some (.getfield 19, 126, 0)) none) (cond (Nat.blt pc 127) (cond (Nat.beq pc 126) (some (.iconst 3, 127, 0)) none) (cond (Nat.beq pc 127) (some (.aload_n 0, 128, 0)) none))))) (cond (Nat.blt pc 136) (cond (Nat.blt pc 132) (cond (Nat.blt pc 131) (cond (Nat.beq pc 128) (some (.getfield 58, 131, 0)) none) (cond (Nat.beq pc 131) (some (.imul, 132, 0)) none)) (cond (Nat.blt pc 134) (cond (Nat.beq pc 132) (some (.iload 5, 134, 0)) none) (cond (Nat.blt pc 135) (cond (Nat.beq pc 134) (some (.iadd, 135, 0)) none) (cond (Nat.beq pc 135) (some (.iaload, 136, 0)) none)))) (cond (Nat.blt pc 144) (cond (Nat.blt pc 139) (cond (Nat.beq pc 136) (some (.invokestatic 151, 139, 0)) none) (cond (Nat.blt pc 141) (cond (Nat.beq pc 139) (some (.istore 4, 141, 0)) none) (cond (Nat.beq pc 141) (some (.iinc 5 1, 144, 0)) none))) (cond (Nat.blt pc 147) (cond (Nat.beq pc 144) (some (.goto (-90), 147, 54)) none) (cond (Nat.blt pc 149) (cond (Nat.beq pc 147) (some (.iload 4, 149, 0)) none) (cond (Nat.beq pc 149) (some (.ireturn, 150, 0)) none)))))))
def m_M_view : MI := (⟨"TileStudioModel", "view", "(III)I"⟩, prog_10_method_55_code, 6, (Option.some Jvm.ClassFile.FieldType.int), [], zmk 150 tb_M_view)
theorem ok_M_view : zok m_M_view := zok_mk rfl (by decide +kernel)
def tb_M_histogram : ZT := fun pc => cond (Nat.blt pc 55) (cond (Nat.blt pc 29) (cond (Nat.blt pc 11) (cond (Nat.blt pc 3) (cond (Nat.blt pc 1) (cond (Nat.beq pc 0) (some (.aload_n 0, 1, 0)) none) (cond (Nat.blt pc 2) (cond (Nat.beq pc 1) (some (.aload_n 0, 2, 0)) none) (cond (Nat.beq pc 2) (some (.iload_n 1, 3, 0)) none))) (cond (Nat.blt pc 9) (cond (Nat.blt pc 6) (cond (Nat.beq pc 3) (some (.invokevirtual 89, 6, 0)) none) (cond (Nat.beq pc 6) (some (.ifCond .eq 12, 9, 18)) none)) (cond (Nat.blt pc 10) (cond (Nat.beq pc 9) (some (.iload_n 2, 10, 0)) none) (cond (Nat.beq pc 10) (some (.iconst 0, 11, 0)) none)))) (cond (Nat.blt pc 19) (cond (Nat.blt pc 15) (cond (Nat.blt pc 12) (cond (Nat.beq pc 11) (some (.iconst 3, 12, 0)) none) (cond (Nat.beq pc 12) (some (.invokestatic 71, 15, 0)) none)) (cond (Nat.blt pc 18) (cond (Nat.beq pc 15) (some (.ifCond .ne 7, 18, 22)) none) (cond (Nat.beq pc 18) (some (.iconst 1, 19, 0)) none))) (cond (Nat.blt pc 23) (cond (Nat.blt pc 22) (cond (Nat.beq pc 19) (some (.goto 4, 22, 23)) none) (cond (Nat.beq pc 22) (some (.iconst 0, 23, 0)) none)) (cond (Nat.blt pc 26) (cond (Nat.beq pc 23) (some (.invokevirtual 75, 26, 0)) none) (cond (Nat.beq pc 26) (some (.ifCond .eq 5, 29, 31)) none))))) (cond (Nat.blt pc 39) (cond (Nat.blt pc 32) (cond (Nat.blt pc 30) (cond (Nat.beq pc 29) (some (.iconst 0, 30, 0)) none) (cond (Nat.blt pc 31) (cond (Nat.beq pc 30) (some (.ireturn, 31, 0)) none) (cond (Nat.beq pc 31) (some (.iconst 0, 32, 0)) none))) (cond (Nat.blt pc 35) (cond (Nat.blt pc 34) (cond (Nat.beq pc 32) (some (.istore 4, 34, 0)) none) (cond (Nat.beq pc 34) (some (.iconst 0, 35, 0)) none)) (cond (Nat.blt pc 37) (cond (Nat.beq pc 35) (some (.istore 5, 37, 0)) none) (cond (Nat.beq pc 37) (some (.iload 5, 39, 0)) none)))) (cond (Nat.blt pc 47) (cond (Nat.blt pc 43) (cond (Nat.blt pc 40) (cond (Nat.beq pc 39) (some (.aload_n 0, 40, 0)) none) (cond (Nat.beq pc 40) (some (.invokevirtual 96, 43, 0)) none)) (cond (Nat.blt pc 46) (cond (Nat.beq pc 43) (some (.if_icmp .ge 70, 46, 113)) none) (cond (Nat.beq pc 46) (some (.iconst 0, 47, 0)) none))) (cond (Nat.blt pc 51) (cond (Nat.blt pc 49) (cond (Nat.beq pc 47) (some (.istore 6, 49, 0)) none) (cond (Nat.beq pc 49) (some (.iload 6, 51, 0)) none)) (cond (Nat.blt pc 52) (cond (Nat.beq pc 51) (some (.aload_n 0, 52, 0)) none) (cond (Nat.beq pc 52) (some (.invokevirtual 100, 55, 0)) none)))))) (cond (Nat.blt pc 85) (cond (Nat.blt pc 71) (cond (Nat.blt pc 61) (cond (Nat.blt pc 58) (cond (Nat.beq pc 55) (some (.if_icmp .ge 52, 58, 107)) none) (cond (Nat.blt pc 60) (cond (Nat.beq pc 58) (some (.iload 4, 60, 0)) none) (cond (Nat.beq pc 60) (some (.aload_n 0, 61, 0)) none))) (cond (Nat.blt pc 65) (cond (Nat.blt pc 63) (cond (Nat.beq pc 61) (some (.iload 6, 63, 0)) none) (cond (Nat.beq pc 63) (some (.iload 5, 65, 0)) none)) (cond (Nat.blt pc 68) (cond (Nat.beq pc 65) (some (.invokevirtual 110, 68, 0)) none) (cond (Nat.beq pc 68) (some (.ifCond .eq 29, 71, 97)) none)))) (cond (Nat.blt pc 77) (cond (Nat.blt pc 75) (cond (Nat.blt pc 72) (cond (Nat.beq pc 71) (some (.aload_n 0, 72, 0)) none) (cond (Nat.beq pc 72) (some (.getfield 7, 75, 0)) none)) (cond (Nat.blt pc 76) (cond (Nat.beq pc 75) (some (.aload_n 0, 76, 0)) none) (cond (Nat.beq pc 76) (some (.iload_n 1, 77, 0)) none))) (cond (Nat.blt pc 81) (cond (Nat.blt pc 79) (cond (Nat.beq pc 77) (some (.iload 6, 79, 0)) none) (cond (Nat.beq pc 79) (some (.iload 5, 81, 0)) none)) (cond (Nat.blt pc 84) (cond (Nat.beq pc 81) (some (.invokevirtual 132, 84, 0)) none) (cond (Nat.beq pc 84) (some (.iaload, 85, 0)) none))))) (cond (Nat.blt pc 98) (cond (Nat.blt pc 90) (cond (Nat.blt pc 86) (cond (Nat.beq pc 85) (some (.iload_n 2, 86, 0)) none) (cond (Nat.blt pc 89) (cond (Nat.beq pc 86) (some (.invokestatic 118, 89, 0)) none) (cond (Nat.beq pc 89) (some (.iload_n 3, 90, 0)) none))) (cond (Nat.blt pc 94) (cond (Nat.blt pc 93) (cond (Nat.beq pc 90) (some (.if_icmp .ne 7, 93, 97)) none) (cond (Nat.beq pc 93) (some (.iconst 1, 94, 0)) none)) (cond (Nat.blt pc 97) (cond (Nat.beq pc 94) (some (.goto 4, 97, 98)) none) (cond (Nat.beq pc 97) (some (.iconst 0, 98, 0)) none)))) (cond (Nat.blt pc 107) (cond (Nat.blt pc 101) (cond (Nat.blt pc 99) (cond (Nat.beq pc 98) (some (.iadd, 99, 0)) none) (cond (Nat.beq pc 99) (some (.istore 4, 101, 0)) none)) (cond (Nat.blt pc 104) (cond (Nat.beq pc 101) (some (.iinc 6 1, 104, 0)) none) (cond (Nat.beq pc 104) (some (.goto (-55), 107, 49)) none))) (cond (Nat.blt pc 113) (cond (Nat.blt pc 110) (cond (Nat.beq pc 107) (some (.iinc 5 1, 110, 0)) none) (cond (Nat.beq pc 110) (some (.goto (-73), 113, 37)) none)) (cond (Nat.blt pc 115) (cond (Nat.beq pc 113) (some (.iload 4, 115, 0)) none) (cond (Nat.beq pc 115) (some (.ireturn, 116, 0)) none))))))
def m_M_histogram : MI := (⟨"TileStudioModel", "histogram", "(III)I"⟩, prog_10_method_56_code, 7, (Option.some Jvm.ClassFile.FieldType.int), [], zmk 116 tb_M_histogram)
theorem ok_M_histogram : zok m_M_histogram := zok_mk rfl (by decide +kernel)
def tb_M_count : ZT := fun pc => cond (Nat.blt pc 50) (cond (Nat.blt pc 25) (cond (Nat.blt pc 11) (cond (Nat.blt pc 5) (cond (Nat.blt pc 1) (cond (Nat.beq pc 0) (some (.aload_n 0, 1, 0)) none) (cond (Nat.blt pc 2) (cond (Nat.beq pc 1) (some (.iconst 0, 2, 0)) none) (cond (Nat.beq pc 2) (some (.putfield 50, 5, 0)) none))) (cond (Nat.blt pc 7) (cond (Nat.blt pc 6) (cond (Nat.beq pc 5) (some (.iload_n 1, 6, 0)) none) (cond (Nat.beq pc 6) (some (.iconst 0, 7, 0)) none)) (cond (Nat.blt pc 8) (cond (Nat.beq pc 7) (some (.iconst 5, 8, 0)) none) (cond (Nat.beq pc 8) (some (.invokestatic 71, 11, 0)) none)))) (cond (Nat.blt pc 17) (cond (Nat.blt pc 15) (cond (Nat.blt pc 14) (cond (Nat.beq pc 11) (some (.ifCond .ne 5, 14, 16)) none) (cond (Nat.beq pc 14) (some (.iconst (-1), 15, 0)) none)) (cond (Nat.blt pc 16) (cond (Nat.beq pc 15) (some (.ireturn, 16, 0)) none) (cond (Nat.beq pc 16) (some (.aload_n 0, 17, 0)) none))) (cond (Nat.blt pc 23) (cond (Nat.blt pc 20) (cond (Nat.beq pc 17) (some (.getfield 67, 20, 0)) none) (cond (Nat.beq pc 20) (some (.ifCond .ne 5, 23, 25)) none)) (cond (Nat.blt pc 24) (cond (Nat.beq pc 23) (some (.iconst 0, 24, 0)) none) (cond (Nat.beq pc 24) (some (.ireturn, 25, 0)) none))))) (cond (Nat.blt pc 38) (cond (Nat.blt pc 30) (cond (Nat.blt pc 26) (cond (Nat.beq pc 25) (some (.iload_n 1, 26, 0)) none) (cond (Nat.blt pc 29) (cond (Nat.beq pc 26) (some (.ifCond .ne 13, 29, 39)) none) (cond (Nat.beq pc 29) (some (.aload_n 0, 30, 0)) none))) (cond (Nat.blt pc 34) (cond (Nat.blt pc 33) (cond (Nat.beq pc 30) (some (.getfield 26, 33, 0)) none) (cond (Nat.beq pc 33) (some (.aload_n 0, 34, 0)) none)) (cond (Nat.blt pc 37) (cond (Nat.beq pc 34) (some (.getfield 58, 37, 0)) none) (cond (Nat.beq pc 37) (some (.iaload, 38, 0)) none)))) (cond (Nat.blt pc 44) (cond (Nat.blt pc 40) (cond (Nat.blt pc 39) (cond (Nat.beq pc 38) (some (.ireturn, 39, 0)) none) (cond (Nat.beq pc 39) (some (.iload_n 1, 40, 0)) none)) (cond (Nat.blt pc 41) (cond (Nat.beq pc 40) (some (.iconst 1, 41, 0)) none) (cond (Nat.beq pc 41) (some (.if_icmp .ne 8, 44, 49)) none))) (cond (Nat.blt pc 48) (cond (Nat.blt pc 45) (cond (Nat.beq pc 44) (some (.aload_n 0, 45, 0)) none) (cond (Nat.beq pc 45) (some (.getfield 58, 48, 0)) none)) (cond (Nat.blt pc 49) (cond (Nat.beq pc 48) (some (.ireturn, 49, 0)) none) (cond (Nat.beq pc 49) (some (.iload_n 1, 50, 0)) none)))))) (cond (Nat.blt pc 77) (cond (Nat.blt pc 63) (cond (Nat.blt pc 55) (cond (Nat.blt pc 51) (cond (Nat.beq pc 50) (some (.iconst 2, 51, 0)) none) (cond (Nat.blt pc 54) (cond (Nat.beq pc 51) (some (.if_icmp .ne 13, 54, 64)) none) (cond (Nat.beq pc 54) (some (.aload_n 0, 55, 0)) none))) (cond (Nat.blt pc 59) (cond (Nat.blt pc 58) (cond (Nat.beq pc 55) (some (.getfield 64, 58, 0)) none) (cond (Nat.beq pc 58) (some (.aload_n 0, 59, 0)) none)) (cond (Nat.blt pc 62) (cond (Nat.beq pc 59) (some (.getfield 58, 62, 0)) none) (cond (Nat.beq pc 62) (some (.isub, 63, 0)) none)))) (cond (Nat.blt pc 69) (cond (Nat.blt pc 65) (cond (Nat.blt pc 64) (cond (Nat.beq pc 63) (some (.ireturn, 64, 0)) none) (cond (Nat.beq pc 64) (some (.iload_n 1, 65, 0)) none)) (cond (Nat.blt pc 66) (cond (Nat.beq pc 65) (some (.iconst 3, 66, 0)) none) (cond (Nat.beq pc 66) (some (.if_icmp .ne 10, 69, 76)) none))) (cond (Nat.blt pc 73) (cond (Nat.blt pc 70) (cond (Nat.beq pc 69) (some (.aload_n 0, 70, 0)) none) (cond (Nat.beq pc 70) (some (.invokevirtual 167, 73, 0)) none)) (cond (Nat.blt pc 76) (cond (Nat.beq pc 73) (some (.goto 31, 76, 104)) none) (cond (Nat.beq pc 76) (some (.iload_n 1, 77, 0)) none))))) (cond (Nat.blt pc 92) (cond (Nat.blt pc 82) (cond (Nat.blt pc 78) (cond (Nat.beq pc 77) (some (.iconst 4, 78, 0)) none) (cond (Nat.blt pc 81) (cond (Nat.beq pc 78) (some (.if_icmp .ne 10, 81, 88)) none) (cond (Nat.beq pc 81) (some (.aload_n 0, 82, 0)) none))) (cond (Nat.blt pc 88) (cond (Nat.blt pc 85) (cond (Nat.beq pc 82) (some (.invokevirtual 107, 85, 0)) none) (cond (Nat.beq pc 85) (some (.goto 19, 88, 104)) none)) (cond (Nat.blt pc 91) (cond (Nat.beq pc 88) (some (.sipush 10000, 91, 0)) none) (cond (Nat.beq pc 91) (some (.aload_n 0, 92, 0)) none)))) (cond (Nat.blt pc 99) (cond (Nat.blt pc 96) (cond (Nat.blt pc 95) (cond (Nat.beq pc 92) (some (.invokevirtual 100, 95, 0)) none) (cond (Nat.beq pc 95) (some (.imul, 96, 0)) none)) (cond (Nat.blt pc 98) (cond (Nat.beq pc 96) (some (.bipush 100, 98, 0)) none) (cond (Nat.beq pc 98) (some (.aload_n 0, 99, 0)) none))) (cond (Nat.blt pc 103) (cond (Nat.blt pc 102) (cond (Nat.beq pc 99) (some (.invokevirtual 96, 102, 0)) none) (cond (Nat.beq pc 102) (some (.imul, 103, 0)) none)) (cond (Nat.blt pc 104) (cond (Nat.beq pc 103) (some (.iadd, 104, 0)) none) (cond (Nat.beq pc 104) (some (.ireturn, 105, 0)) none))))))
def m_M_count : MI := (⟨"TileStudioModel", "count", "(I)I"⟩, prog_10_method_57_code, 2, (Option.some Jvm.ClassFile.FieldType.int), [], zmk 105 tb_M_count)
theorem ok_M_count : zok m_M_count := zok_mk rfl (by decide +kernel)
end
section
theorem zu0 : ∀ w ∈ u_ws "TileStudio" zTb0 5, w ∈ zG := by
  intro w hw
  simp only [u_ws, List.range, List.range.loop, List.map_cons, List.map_nil, List.mem_cons, List.not_mem_nil, or_false] at hw
  rcases hw with rfl | rfl | rfl | rfl | rfl
  · exact zG_T 50 (by decide +kernel) (by decide +kernel)
  · exact zG_T 52 (by decide +kernel) (by decide +kernel)
  · exact zG_T 54 (by decide +kernel) (by decide +kernel)
  · exact zG_T 56 (by decide +kernel) (by decide +kernel)
  · exact zG_T 58 (by decide +kernel) (by decide +kernel)
theorem zty0 : ∀ k, k < 5 → parseFieldDescriptor (zTb0 k).2.2.1 = some (zTy0 k) := by decide +kernel
theorem znm0 : ∀ a, a < 5 → ∀ b, b < 5 → a ≠ b → (zTb0 a).2.1 ≠ (zTb0 b).2.1 := by decide +kernel
theorem zu1 : ∀ w ∈ u_ws "TileStudioModel" zTb1 21, w ∈ zG := by
  intro w hw
  simp only [u_ws, List.range, List.range.loop, List.map_cons, List.map_nil, List.mem_cons, List.not_mem_nil, or_false] at hw
  rcases hw with rfl | rfl | rfl | rfl | rfl | rfl | rfl | rfl | rfl | rfl | rfl | rfl | rfl | rfl | rfl | rfl | rfl | rfl | rfl | rfl | rfl
  · exact zG_T 727 (by decide +kernel) (by decide +kernel)
  · exact zG_T 729 (by decide +kernel) (by decide +kernel)
  · exact zG_T 731 (by decide +kernel) (by decide +kernel)
  · exact zG_T 733 (by decide +kernel) (by decide +kernel)
  · exact zG_T 735 (by decide +kernel) (by decide +kernel)
  · exact zG_T 737 (by decide +kernel) (by decide +kernel)
  · exact zG_T 739 (by decide +kernel) (by decide +kernel)
  · exact zG_T 741 (by decide +kernel) (by decide +kernel)
  · exact zG_T 743 (by decide +kernel) (by decide +kernel)
  · exact zG_T 745 (by decide +kernel) (by decide +kernel)
  · exact zG_T 747 (by decide +kernel) (by decide +kernel)
  · exact zG_T 749 (by decide +kernel) (by decide +kernel)
  · exact zG_T 751 (by decide +kernel) (by decide +kernel)
  · exact zG_T 753 (by decide +kernel) (by decide +kernel)
  · exact zG_T 755 (by decide +kernel) (by decide +kernel)
  · exact zG_T 757 (by decide +kernel) (by decide +kernel)
  · exact zG_T 759 (by decide +kernel) (by decide +kernel)
  · exact zG_T 761 (by decide +kernel) (by decide +kernel)
  · exact zG_T 763 (by decide +kernel) (by decide +kernel)
  · exact zG_T 765 (by decide +kernel) (by decide +kernel)
  · exact zG_T 767 (by decide +kernel) (by decide +kernel)
theorem zty1 : ∀ k, k < 21 → parseFieldDescriptor (zTb1 k).2.2.1 = some (zTy1 k) := by decide +kernel
theorem znm1 : ∀ a, a < 21 → ∀ b, b < 21 → a ≠ b → (zTb1 a).2.1 ≠ (zTb1 b).2.1 := by decide +kernel
theorem zu2 : ∀ w ∈ u_ws "TileStudio$Places" zTb2 2, w ∈ zG := by
  intro w hw
  simp only [u_ws, List.range, List.range.loop, List.map_cons, List.map_nil, List.mem_cons, List.not_mem_nil, or_false] at hw
  rcases hw with rfl | rfl
  · exact zG_T 207 (by decide +kernel) (by decide +kernel)
  · exact zG_T 209 (by decide +kernel) (by decide +kernel)
theorem zty2 : ∀ k, k < 2 → parseFieldDescriptor (zTb2 k).2.2.1 = some (zTy2 k) := by decide +kernel
theorem znm2 : ∀ a, a < 2 → ∀ b, b < 2 → a ≠ b → (zTb2 a).2.1 ≠ (zTb2 b).2.1 := by decide +kernel
theorem zu3 : ∀ w ∈ u_ws "TileStudio$Layer" zTb3 6, w ∈ zG := by
  intro w hw
  simp only [u_ws, List.range, List.range.loop, List.map_cons, List.map_nil, List.mem_cons, List.not_mem_nil, or_false] at hw
  rcases hw with rfl | rfl | rfl | rfl | rfl | rfl
  · exact zG_T 247 (by decide +kernel) (by decide +kernel)
  · exact zG_T 249 (by decide +kernel) (by decide +kernel)
  · exact zG_T 251 (by decide +kernel) (by decide +kernel)
  · exact zG_T 253 (by decide +kernel) (by decide +kernel)
  · exact zG_T 255 (by decide +kernel) (by decide +kernel)
  · exact zG_T 257 (by decide +kernel) (by decide +kernel)
theorem zty3 : ∀ k, k < 6 → parseFieldDescriptor (zTb3 k).2.2.1 = some (zTy3 k) := by decide +kernel
theorem znm3 : ∀ a, a < 6 → ∀ b, b < 6 → a ≠ b → (zTb3 a).2.1 ≠ (zTb3 b).2.1 := by decide +kernel
theorem zu4 : ∀ w ∈ u_ws "TileStudio$Picture" zTb4 4, w ∈ zG := by
  intro w hw
  simp only [u_ws, List.range, List.range.loop, List.map_cons, List.map_nil, List.mem_cons, List.not_mem_nil, or_false] at hw
  rcases hw with rfl | rfl | rfl | rfl
  · exact zG_T 278 (by decide +kernel) (by decide +kernel)
  · exact zG_T 280 (by decide +kernel) (by decide +kernel)
  · exact zG_T 282 (by decide +kernel) (by decide +kernel)
  · exact zG_T 284 (by decide +kernel) (by decide +kernel)
theorem zty4 : ∀ k, k < 4 → parseFieldDescriptor (zTb4 k).2.2.1 = some (zTy4 k) := by decide +kernel
theorem znm4 : ∀ a, a < 4 → ∀ b, b < 4 → a ≠ b → (zTb4 a).2.1 ≠ (zTb4 b).2.1 := by decide +kernel
theorem zu5 : ∀ w ∈ u_ws "TileStudio$Painting" zTb5 4, w ∈ zG := by
  intro w hw
  simp only [u_ws, List.range, List.range.loop, List.map_cons, List.map_nil, List.mem_cons, List.not_mem_nil, or_false] at hw
  rcases hw with rfl | rfl | rfl | rfl
  · exact zG_T 436 (by decide +kernel) (by decide +kernel)
  · exact zG_T 438 (by decide +kernel) (by decide +kernel)
  · exact zG_T 440 (by decide +kernel) (by decide +kernel)
  · exact zG_T 442 (by decide +kernel) (by decide +kernel)
theorem zty5 : ∀ k, k < 4 → parseFieldDescriptor (zTb5 k).2.2.1 = some (zTy5 k) := by decide +kernel
theorem znm5 : ∀ a, a < 4 → ∀ b, b < 4 → a ≠ b → (zTb5 a).2.1 ≠ (zTb5 b).2.1 := by decide +kernel
theorem zu6 : ∀ w ∈ u_ws "TileStudio$Copied" zTb6 2, w ∈ zG := by
  intro w hw
  simp only [u_ws, List.range, List.range.loop, List.map_cons, List.map_nil, List.mem_cons, List.not_mem_nil, or_false] at hw
  rcases hw with rfl | rfl
  · exact zG_T 576 (by decide +kernel) (by decide +kernel)
  · exact zG_T 578 (by decide +kernel) (by decide +kernel)
theorem zty6 : ∀ k, k < 2 → parseFieldDescriptor (zTb6 k).2.2.1 = some (zTy6 k) := by decide +kernel
theorem znm6 : ∀ a, a < 2 → ∀ b, b < 2 → a ≠ b → (zTb6 a).2.1 ≠ (zTb6 b).2.1 := by decide +kernel
theorem zu7 : ∀ w ∈ u_ws "TileStudio$History" zTb7 3, w ∈ zG := by
  intro w hw
  simp only [u_ws, List.range, List.range.loop, List.map_cons, List.map_nil, List.mem_cons, List.not_mem_nil, or_false] at hw
  rcases hw with rfl | rfl | rfl
  · exact zG_T 38 (by decide +kernel) (by decide +kernel)
  · exact zG_T 40 (by decide +kernel) (by decide +kernel)
  · exact zG_T 42 (by decide +kernel) (by decide +kernel)
theorem zty7 : ∀ k, k < 3 → parseFieldDescriptor (zTb7 k).2.2.1 = some (zTy7 k) := by decide +kernel
theorem znm7 : ∀ a, a < 3 → ∀ b, b < 3 → a ≠ b → (zTb7 a).2.1 ≠ (zTb7 b).2.1 := by decide +kernel
theorem fl_TS_12 : zFL "TileStudio" 12 0 0 := ⟨_, _, _, rfl, by decide, zu0, zG_T 45 (by decide +kernel) (by decide +kernel)⟩
theorem fl_TS_52 : zFL "TileStudio" 52 4 2 := ⟨_, _, _, rfl, by decide, zu4, zG_T 274 (by decide +kernel) (by decide +kernel)⟩
theorem fl_TS_59 : zFL "TileStudio" 59 4 0 := ⟨_, _, _, rfl, by decide, zu4, zG_T 268 (by decide +kernel) (by decide +kernel)⟩
theorem fl_TS_63 : zFL "TileStudio" 63 4 1 := ⟨_, _, _, rfl, by decide, zu4, zG_T 271 (by decide +kernel) (by decide +kernel)⟩
theorem fl_TS_97 : zFL "TileStudio" 97 4 3 := ⟨_, _, _, rfl, by decide, zu4, zG_T 277 (by decide +kernel) (by decide +kernel)⟩
theorem fl_TS_113 : zFL "TileStudio" 113 0 3 := ⟨_, _, _, rfl, by decide, zu0, zG_T 48 (by decide +kernel) (by decide +kernel)⟩
theorem fl_TS_116 : zFL "TileStudio" 116 0 4 := ⟨_, _, _, rfl, by decide, zu0, zG_T 49 (by decide +kernel) (by decide +kernel)⟩
theorem fl_TS_153 : zFL "TileStudio" 153 5 2 := ⟨_, _, _, rfl, by decide, zu5, zG_T 434 (by decide +kernel) (by decide +kernel)⟩
theorem fl_TS_177 : zFL "TileStudio" 177 0 2 := ⟨_, _, _, rfl, by decide, zu0, zG_T 47 (by decide +kernel) (by decide +kernel)⟩
theorem fl_TS_187 : zFL "TileStudio" 187 6 1 := ⟨_, _, _, rfl, by decide, zu6, zG_T 575 (by decide +kernel) (by decide +kernel)⟩
theorem fl_TS_190 : zFL "TileStudio" 190 6 0 := ⟨_, _, _, rfl, by decide, zu6, zG_T 573 (by decide +kernel) (by decide +kernel)⟩
theorem fl_TS_211 : zFL "TileStudio" 211 0 1 := ⟨_, _, _, rfl, by decide, zu0, zG_T 46 (by decide +kernel) (by decide +kernel)⟩
theorem fl_TS_223 : zFL "TileStudio" 223 3 5 := ⟨_, _, _, rfl, by decide, zu3, zG_T 246 (by decide +kernel) (by decide +kernel)⟩
theorem fl_TS_227 : zFL "TileStudio" 227 3 3 := ⟨_, _, _, rfl, by decide, zu3, zG_T 242 (by decide +kernel) (by decide +kernel)⟩
theorem fl_TS_230 : zFL "TileStudio" 230 3 4 := ⟨_, _, _, rfl, by decide, zu3, zG_T 244 (by decide +kernel) (by decide +kernel)⟩
theorem fl_TS_261 : zFL "TileStudio" 261 2 0 := ⟨_, _, _, rfl, by decide, zu2, zG_T 204 (by decide +kernel) (by decide +kernel)⟩
theorem fl_TS_273 : zFL "TileStudio" 273 2 1 := ⟨_, _, _, rfl, by decide, zu2, zG_T 206 (by decide +kernel) (by decide +kernel)⟩
theorem fl_Copied_7 : zFL "TileStudio$Copied" 7 6 0 := ⟨_, _, _, rfl, by decide, zu6, zG_T 572 (by decide +kernel) (by decide +kernel)⟩
theorem fl_Copied_13 : zFL "TileStudio$Copied" 13 6 1 := ⟨_, _, _, rfl, by decide, zu6, zG_T 574 (by decide +kernel) (by decide +kernel)⟩
theorem fl_History_11 : zFL "TileStudio$History" 11 7 0 := ⟨_, _, _, rfl, by decide, zu7, zG_T 35 (by decide +kernel) (by decide +kernel)⟩
theorem fl_History_17 : zFL "TileStudio$History" 17 7 1 := ⟨_, _, _, rfl, by decide, zu7, zG_T 36 (by decide +kernel) (by decide +kernel)⟩
theorem fl_History_21 : zFL "TileStudio$History" 21 7 2 := ⟨_, _, _, rfl, by decide, zu7, zG_T 37 (by decide +kernel) (by decide +kernel)⟩
theorem fl_Layer_9 : zFL "TileStudio$Layer" 9 3 0 := ⟨_, _, _, rfl, by decide, zu3, zG_T 236 (by decide +kernel) (by decide +kernel)⟩
theorem fl_Layer_15 : zFL "TileStudio$Layer" 15 3 1 := ⟨_, _, _, rfl, by decide, zu3, zG_T 238 (by decide +kernel) (by decide +kernel)⟩
theorem fl_Layer_18 : zFL "TileStudio$Layer" 18 3 2 := ⟨_, _, _, rfl, by decide, zu3, zG_T 239 (by decide +kernel) (by decide +kernel)⟩
theorem fl_Layer_22 : zFL "TileStudio$Layer" 22 3 3 := ⟨_, _, _, rfl, by decide, zu3, zG_T 241 (by decide +kernel) (by decide +kernel)⟩
theorem fl_Layer_25 : zFL "TileStudio$Layer" 25 3 4 := ⟨_, _, _, rfl, by decide, zu3, zG_T 243 (by decide +kernel) (by decide +kernel)⟩
theorem fl_Layer_28 : zFL "TileStudio$Layer" 28 3 5 := ⟨_, _, _, rfl, by decide, zu3, zG_T 245 (by decide +kernel) (by decide +kernel)⟩
theorem fl_Painting_7 : zFL "TileStudio$Painting" 7 5 0 := ⟨_, _, _, rfl, by decide, zu5, zG_T 431 (by decide +kernel) (by decide +kernel)⟩
theorem fl_Painting_13 : zFL "TileStudio$Painting" 13 5 1 := ⟨_, _, _, rfl, by decide, zu5, zG_T 432 (by decide +kernel) (by decide +kernel)⟩
theorem fl_Painting_17 : zFL "TileStudio$Painting" 17 4 2 := ⟨_, _, _, rfl, by decide, zu4, zG_T 273 (by decide +kernel) (by decide +kernel)⟩
theorem fl_Painting_23 : zFL "TileStudio$Painting" 23 5 2 := ⟨_, _, _, rfl, by decide, zu5, zG_T 433 (by decide +kernel) (by decide +kernel)⟩
theorem fl_Painting_27 : zFL "TileStudio$Painting" 27 3 2 := ⟨_, _, _, rfl, by decide, zu3, zG_T 240 (by decide +kernel) (by decide +kernel)⟩
theorem fl_Painting_38 : zFL "TileStudio$Painting" 38 5 3 := ⟨_, _, _, rfl, by decide, zu5, zG_T 435 (by decide +kernel) (by decide +kernel)⟩
theorem fl_Painting_41 : zFL "TileStudio$Painting" 41 4 0 := ⟨_, _, _, rfl, by decide, zu4, zG_T 267 (by decide +kernel) (by decide +kernel)⟩
theorem fl_Painting_44 : zFL "TileStudio$Painting" 44 4 1 := ⟨_, _, _, rfl, by decide, zu4, zG_T 270 (by decide +kernel) (by decide +kernel)⟩
theorem fl_Painting_47 : zFL "TileStudio$Painting" 47 4 3 := ⟨_, _, _, rfl, by decide, zu4, zG_T 276 (by decide +kernel) (by decide +kernel)⟩
theorem fl_Painting_60 : zFL "TileStudio$Painting" 60 3 0 := ⟨_, _, _, rfl, by decide, zu3, zG_T 237 (by decide +kernel) (by decide +kernel)⟩
theorem fl_Picture_7 : zFL "TileStudio$Picture" 7 4 0 := ⟨_, _, _, rfl, by decide, zu4, zG_T 266 (by decide +kernel) (by decide +kernel)⟩
theorem fl_Picture_13 : zFL "TileStudio$Picture" 13 4 1 := ⟨_, _, _, rfl, by decide, zu4, zG_T 269 (by decide +kernel) (by decide +kernel)⟩
theorem fl_Picture_16 : zFL "TileStudio$Picture" 16 4 2 := ⟨_, _, _, rfl, by decide, zu4, zG_T 272 (by decide +kernel) (by decide +kernel)⟩
theorem fl_Picture_20 : zFL "TileStudio$Picture" 20 4 3 := ⟨_, _, _, rfl, by decide, zu4, zG_T 275 (by decide +kernel) (by decide +kernel)⟩
theorem fl_Places_7 : zFL "TileStudio$Places" 7 2 0 := ⟨_, _, _, rfl, by decide, zu2, zG_T 203 (by decide +kernel) (by decide +kernel)⟩
theorem fl_Places_13 : zFL "TileStudio$Places" 13 2 1 := ⟨_, _, _, rfl, by decide, zu2, zG_T 205 (by decide +kernel) (by decide +kernel)⟩
theorem fl_M_7 : zFL "TileStudioModel" 7 1 1 := ⟨_, _, _, rfl, by decide, zu1, zG_T 707 (by decide +kernel) (by decide +kernel)⟩
theorem fl_M_13 : zFL "TileStudioModel" 13 1 2 := ⟨_, _, _, rfl, by decide, zu1, zG_T 708 (by decide +kernel) (by decide +kernel)⟩
theorem fl_M_16 : zFL "TileStudioModel" 16 1 3 := ⟨_, _, _, rfl, by decide, zu1, zG_T 709 (by decide +kernel) (by decide +kernel)⟩
theorem fl_M_19 : zFL "TileStudioModel" 19 1 4 := ⟨_, _, _, rfl, by decide, zu1, zG_T 710 (by decide +kernel) (by decide +kernel)⟩
theorem fl_M_22 : zFL "TileStudioModel" 22 1 5 := ⟨_, _, _, rfl, by decide, zu1, zG_T 711 (by decide +kernel) (by decide +kernel)⟩
theorem fl_M_26 : zFL "TileStudioModel" 26 1 6 := ⟨_, _, _, rfl, by decide, zu1, zG_T 712 (by decide +kernel) (by decide +kernel)⟩
theorem fl_M_29 : zFL "TileStudioModel" 29 1 7 := ⟨_, _, _, rfl, by decide, zu1, zG_T 713 (by decide +kernel) (by decide +kernel)⟩
theorem fl_M_32 : zFL "TileStudioModel" 32 1 8 := ⟨_, _, _, rfl, by decide, zu1, zG_T 714 (by decide +kernel) (by decide +kernel)⟩
theorem fl_M_35 : zFL "TileStudioModel" 35 1 16 := ⟨_, _, _, rfl, by decide, zu1, zG_T 722 (by decide +kernel) (by decide +kernel)⟩
theorem fl_M_38 : zFL "TileStudioModel" 38 1 17 := ⟨_, _, _, rfl, by decide, zu1, zG_T 723 (by decide +kernel) (by decide +kernel)⟩
theorem fl_M_41 : zFL "TileStudioModel" 41 1 18 := ⟨_, _, _, rfl, by decide, zu1, zG_T 724 (by decide +kernel) (by decide +kernel)⟩
theorem fl_M_44 : zFL "TileStudioModel" 44 1 19 := ⟨_, _, _, rfl, by decide, zu1, zG_T 725 (by decide +kernel) (by decide +kernel)⟩
theorem fl_M_47 : zFL "TileStudioModel" 47 1 20 := ⟨_, _, _, rfl, by decide, zu1, zG_T 726 (by decide +kernel) (by decide +kernel)⟩
theorem fl_M_50 : zFL "TileStudioModel" 50 1 0 := ⟨_, _, _, rfl, by decide, zu1, zG_T 706 (by decide +kernel) (by decide +kernel)⟩
theorem fl_M_58 : zFL "TileStudioModel" 58 1 12 := ⟨_, _, _, rfl, by decide, zu1, zG_T 718 (by decide +kernel) (by decide +kernel)⟩
theorem fl_M_64 : zFL "TileStudioModel" 64 1 13 := ⟨_, _, _, rfl, by decide, zu1, zG_T 719 (by decide +kernel) (by decide +kernel)⟩
theorem fl_M_67 : zFL "TileStudioModel" 67 1 9 := ⟨_, _, _, rfl, by decide, zu1, zG_T 715 (by decide +kernel) (by decide +kernel)⟩
theorem fl_M_126 : zFL "TileStudioModel" 126 1 14 := ⟨_, _, _, rfl, by decide, zu1, zG_T 720 (by decide +kernel) (by decide +kernel)⟩
theorem fl_M_129 : zFL "TileStudioModel" 129 1 15 := ⟨_, _, _, rfl, by decide, zu1, zG_T 721 (by decide +kernel) (by decide +kernel)⟩
theorem fl_M_161 : zFL "TileStudioModel" 161 1 11 := ⟨_, _, _, rfl, by decide, zu1, zG_T 717 (by decide +kernel) (by decide +kernel)⟩
theorem fl_M_170 : zFL "TileStudioModel" 170 1 10 := ⟨_, _, _, rfl, by decide, zu1, zG_T 716 (by decide +kernel) (by decide +kernel)⟩
theorem pt_0_0 {v : Value} (hn : narrow (zTy0 0) v = v) (hf : fits (zTy0 0) v = true) : zPut "TileStudio" "<init>" 0 0 v := ⟨_, _, _, zTy0, rfl, zty0, znm0, hn, hf, Or.inr ⟨rfl, rfl, rfl⟩⟩
theorem pt_0_1 {own name : String} {v : Value} (hn : narrow (zTy0 1) v = v) (hf : fits (zTy0 1) v = true) : zPut own name 0 1 v := ⟨_, _, _, zTy0, rfl, zty0, znm0, hn, hf, Or.inl rfl⟩
theorem pt_0_2 {own name : String} {v : Value} (hn : narrow (zTy0 2) v = v) (hf : fits (zTy0 2) v = true) : zPut own name 0 2 v := ⟨_, _, _, zTy0, rfl, zty0, znm0, hn, hf, Or.inl rfl⟩
theorem pt_0_3 {own name : String} {v : Value} (hn : narrow (zTy0 3) v = v) (hf : fits (zTy0 3) v = true) : zPut own name 0 3 v := ⟨_, _, _, zTy0, rfl, zty0, znm0, hn, hf, Or.inl rfl⟩
theorem pt_0_4 {own name : String} {v : Value} (hn : narrow (zTy0 4) v = v) (hf : fits (zTy0 4) v = true) : zPut own name 0 4 v := ⟨_, _, _, zTy0, rfl, zty0, znm0, hn, hf, Or.inl rfl⟩
theorem pt_1_0 {own name : String} {v : Value} (hn : narrow (zTy1 0) v = v) (hf : fits (zTy1 0) v = true) : zPut own name 1 0 v := ⟨_, _, _, zTy1, rfl, zty1, znm1, hn, hf, Or.inl rfl⟩
theorem pt_1_1 {v : Value} (hn : narrow (zTy1 1) v = v) (hf : fits (zTy1 1) v = true) : zPut "TileStudioModel" "<init>" 1 1 v := ⟨_, _, _, zTy1, rfl, zty1, znm1, hn, hf, Or.inr ⟨rfl, rfl, rfl⟩⟩
theorem pt_1_2 {v : Value} (hn : narrow (zTy1 2) v = v) (hf : fits (zTy1 2) v = true) : zPut "TileStudioModel" "<init>" 1 2 v := ⟨_, _, _, zTy1, rfl, zty1, znm1, hn, hf, Or.inr ⟨rfl, rfl, rfl⟩⟩
theorem pt_1_3 {v : Value} (hn : narrow (zTy1 3) v = v) (hf : fits (zTy1 3) v = true) : zPut "TileStudioModel" "<init>" 1 3 v := ⟨_, _, _, zTy1, rfl, zty1, znm1, hn, hf, Or.inr ⟨rfl, rfl, rfl⟩⟩
theorem pt_1_4 {v : Value} (hn : narrow (zTy1 4) v = v) (hf : fits (zTy1 4) v = true) : zPut "TileStudioModel" "<init>" 1 4 v := ⟨_, _, _, zTy1, rfl, zty1, znm1, hn, hf, Or.inr ⟨rfl, rfl, rfl⟩⟩
theorem pt_1_5 {v : Value} (hn : narrow (zTy1 5) v = v) (hf : fits (zTy1 5) v = true) : zPut "TileStudioModel" "<init>" 1 5 v := ⟨_, _, _, zTy1, rfl, zty1, znm1, hn, hf, Or.inr ⟨rfl, rfl, rfl⟩⟩
theorem pt_1_6 {v : Value} (hn : narrow (zTy1 6) v = v) (hf : fits (zTy1 6) v = true) : zPut "TileStudioModel" "<init>" 1 6 v := ⟨_, _, _, zTy1, rfl, zty1, znm1, hn, hf, Or.inr ⟨rfl, rfl, rfl⟩⟩
theorem pt_1_7 {v : Value} (hn : narrow (zTy1 7) v = v) (hf : fits (zTy1 7) v = true) : zPut "TileStudioModel" "<init>" 1 7 v := ⟨_, _, _, zTy1, rfl, zty1, znm1, hn, hf, Or.inr ⟨rfl, rfl, rfl⟩⟩
theorem pt_1_8 {v : Value} (hn : narrow (zTy1 8) v = v) (hf : fits (zTy1 8) v = true) : zPut "TileStudioModel" "<init>" 1 8 v := ⟨_, _, _, zTy1, rfl, zty1, znm1, hn, hf, Or.inr ⟨rfl, rfl, rfl⟩⟩
theorem pt_1_9 {own name : String} {v : Value} (hn : narrow (zTy1 9) v = v) (hf : fits (zTy1 9) v = true) : zPut own name 1 9 v := ⟨_, _, _, zTy1, rfl, zty1, znm1, hn, hf, Or.inl rfl⟩
theorem pt_1_10 {own name : String} {v : Value} (hn : narrow (zTy1 10) v = v) (hf : fits (zTy1 10) v = true) : zPut own name 1 10 v := ⟨_, _, _, zTy1, rfl, zty1, znm1, hn, hf, Or.inl rfl⟩
theorem pt_1_11 {own name : String} {v : Value} (hn : narrow (zTy1 11) v = v) (hf : fits (zTy1 11) v = true) : zPut own name 1 11 v := ⟨_, _, _, zTy1, rfl, zty1, znm1, hn, hf, Or.inl rfl⟩
theorem pt_1_12 {own name : String} {v : Value} (hn : narrow (zTy1 12) v = v) (hf : fits (zTy1 12) v = true) : zPut own name 1 12 v := ⟨_, _, _, zTy1, rfl, zty1, znm1, hn, hf, Or.inl rfl⟩
theorem pt_1_13 {own name : String} {v : Value} (hn : narrow (zTy1 13) v = v) (hf : fits (zTy1 13) v = true) : zPut own name 1 13 v := ⟨_, _, _, zTy1, rfl, zty1, znm1, hn, hf, Or.inl rfl⟩
theorem pt_1_14 {own name : String} {v : Value} (hn : narrow (zTy1 14) v = v) (hf : fits (zTy1 14) v = true) : zPut own name 1 14 v := ⟨_, _, _, zTy1, rfl, zty1, znm1, hn, hf, Or.inl rfl⟩
theorem pt_1_15 {own name : String} {v : Value} (hn : narrow (zTy1 15) v = v) (hf : fits (zTy1 15) v = true) : zPut own name 1 15 v := ⟨_, _, _, zTy1, rfl, zty1, znm1, hn, hf, Or.inl rfl⟩
theorem pt_1_16 {v : Value} (hn : narrow (zTy1 16) v = v) (hf : fits (zTy1 16) v = true) : zPut "TileStudioModel" "<init>" 1 16 v := ⟨_, _, _, zTy1, rfl, zty1, znm1, hn, hf, Or.inr ⟨rfl, rfl, rfl⟩⟩
theorem pt_1_17 {v : Value} (hn : narrow (zTy1 17) v = v) (hf : fits (zTy1 17) v = true) : zPut "TileStudioModel" "<init>" 1 17 v := ⟨_, _, _, zTy1, rfl, zty1, znm1, hn, hf, Or.inr ⟨rfl, rfl, rfl⟩⟩
theorem pt_1_18 {v : Value} (hn : narrow (zTy1 18) v = v) (hf : fits (zTy1 18) v = true) : zPut "TileStudioModel" "<init>" 1 18 v := ⟨_, _, _, zTy1, rfl, zty1, znm1, hn, hf, Or.inr ⟨rfl, rfl, rfl⟩⟩
theorem pt_1_19 {v : Value} (hn : narrow (zTy1 19) v = v) (hf : fits (zTy1 19) v = true) : zPut "TileStudioModel" "<init>" 1 19 v := ⟨_, _, _, zTy1, rfl, zty1, znm1, hn, hf, Or.inr ⟨rfl, rfl, rfl⟩⟩
theorem pt_1_20 {v : Value} (hn : narrow (zTy1 20) v = v) (hf : fits (zTy1 20) v = true) : zPut "TileStudioModel" "<init>" 1 20 v := ⟨_, _, _, zTy1, rfl, zty1, znm1, hn, hf, Or.inr ⟨rfl, rfl, rfl⟩⟩
theorem pt_2_0 {v : Value} (hn : narrow (zTy2 0) v = v) (hf : fits (zTy2 0) v = true) : zPut "TileStudio$Places" "<init>" 2 0 v := ⟨_, _, _, zTy2, rfl, zty2, znm2, hn, hf, Or.inr ⟨rfl, rfl, rfl⟩⟩
theorem pt_2_1 {v : Value} (hn : narrow (zTy2 1) v = v) (hf : fits (zTy2 1) v = true) : zPut "TileStudio$Places" "<init>" 2 1 v := ⟨_, _, _, zTy2, rfl, zty2, znm2, hn, hf, Or.inr ⟨rfl, rfl, rfl⟩⟩
theorem pt_3_0 {v : Value} (hn : narrow (zTy3 0) v = v) (hf : fits (zTy3 0) v = true) : zPut "TileStudio$Layer" "<init>" 3 0 v := ⟨_, _, _, zTy3, rfl, zty3, znm3, hn, hf, Or.inr ⟨rfl, rfl, rfl⟩⟩
theorem pt_3_1 {v : Value} (hn : narrow (zTy3 1) v = v) (hf : fits (zTy3 1) v = true) : zPut "TileStudio$Layer" "<init>" 3 1 v := ⟨_, _, _, zTy3, rfl, zty3, znm3, hn, hf, Or.inr ⟨rfl, rfl, rfl⟩⟩
theorem pt_3_2 {v : Value} (hn : narrow (zTy3 2) v = v) (hf : fits (zTy3 2) v = true) : zPut "TileStudio$Layer" "<init>" 3 2 v := ⟨_, _, _, zTy3, rfl, zty3, znm3, hn, hf, Or.inr ⟨rfl, rfl, rfl⟩⟩
theorem pt_3_3 {v : Value} (hn : narrow (zTy3 3) v = v) (hf : fits (zTy3 3) v = true) : zPut "TileStudio$Layer" "<init>" 3 3 v := ⟨_, _, _, zTy3, rfl, zty3, znm3, hn, hf, Or.inr ⟨rfl, rfl, rfl⟩⟩
theorem pt_3_4 {v : Value} (hn : narrow (zTy3 4) v = v) (hf : fits (zTy3 4) v = true) : zPut "TileStudio$Layer" "<init>" 3 4 v := ⟨_, _, _, zTy3, rfl, zty3, znm3, hn, hf, Or.inr ⟨rfl, rfl, rfl⟩⟩
theorem pt_3_5 {v : Value} (hn : narrow (zTy3 5) v = v) (hf : fits (zTy3 5) v = true) : zPut "TileStudio$Layer" "<init>" 3 5 v := ⟨_, _, _, zTy3, rfl, zty3, znm3, hn, hf, Or.inr ⟨rfl, rfl, rfl⟩⟩
theorem pt_4_0 {v : Value} (hn : narrow (zTy4 0) v = v) (hf : fits (zTy4 0) v = true) : zPut "TileStudio$Picture" "<init>" 4 0 v := ⟨_, _, _, zTy4, rfl, zty4, znm4, hn, hf, Or.inr ⟨rfl, rfl, rfl⟩⟩
theorem pt_4_1 {v : Value} (hn : narrow (zTy4 1) v = v) (hf : fits (zTy4 1) v = true) : zPut "TileStudio$Picture" "<init>" 4 1 v := ⟨_, _, _, zTy4, rfl, zty4, znm4, hn, hf, Or.inr ⟨rfl, rfl, rfl⟩⟩
theorem pt_4_2 {v : Value} (hn : narrow (zTy4 2) v = v) (hf : fits (zTy4 2) v = true) : zPut "TileStudio$Picture" "<init>" 4 2 v := ⟨_, _, _, zTy4, rfl, zty4, znm4, hn, hf, Or.inr ⟨rfl, rfl, rfl⟩⟩
theorem pt_4_3 {v : Value} (hn : narrow (zTy4 3) v = v) (hf : fits (zTy4 3) v = true) : zPut "TileStudio$Picture" "<init>" 4 3 v := ⟨_, _, _, zTy4, rfl, zty4, znm4, hn, hf, Or.inr ⟨rfl, rfl, rfl⟩⟩
theorem pt_5_0 {v : Value} (hn : narrow (zTy5 0) v = v) (hf : fits (zTy5 0) v = true) : zPut "TileStudio$Painting" "<init>" 5 0 v := ⟨_, _, _, zTy5, rfl, zty5, znm5, hn, hf, Or.inr ⟨rfl, rfl, rfl⟩⟩
theorem pt_5_1 {v : Value} (hn : narrow (zTy5 1) v = v) (hf : fits (zTy5 1) v = true) : zPut "TileStudio$Painting" "<init>" 5 1 v := ⟨_, _, _, zTy5, rfl, zty5, znm5, hn, hf, Or.inr ⟨rfl, rfl, rfl⟩⟩
theorem pt_5_2 {v : Value} (hn : narrow (zTy5 2) v = v) (hf : fits (zTy5 2) v = true) : zPut "TileStudio$Painting" "<init>" 5 2 v := ⟨_, _, _, zTy5, rfl, zty5, znm5, hn, hf, Or.inr ⟨rfl, rfl, rfl⟩⟩
theorem pt_5_3 {v : Value} (hn : narrow (zTy5 3) v = v) (hf : fits (zTy5 3) v = true) : zPut "TileStudio$Painting" "<init>" 5 3 v := ⟨_, _, _, zTy5, rfl, zty5, znm5, hn, hf, Or.inr ⟨rfl, rfl, rfl⟩⟩
theorem pt_6_0 {v : Value} (hn : narrow (zTy6 0) v = v) (hf : fits (zTy6 0) v = true) : zPut "TileStudio$Copied" "<init>" 6 0 v := ⟨_, _, _, zTy6, rfl, zty6, znm6, hn, hf, Or.inr ⟨rfl, rfl, rfl⟩⟩
theorem pt_6_1 {v : Value} (hn : narrow (zTy6 1) v = v) (hf : fits (zTy6 1) v = true) : zPut "TileStudio$Copied" "<init>" 6 1 v := ⟨_, _, _, zTy6, rfl, zty6, znm6, hn, hf, Or.inr ⟨rfl, rfl, rfl⟩⟩
theorem pt_7_0 {v : Value} (hn : narrow (zTy7 0) v = v) (hf : fits (zTy7 0) v = true) : zPut "TileStudio$History" "<init>" 7 0 v := ⟨_, _, _, zTy7, rfl, zty7, znm7, hn, hf, Or.inr ⟨rfl, rfl, rfl⟩⟩
theorem pt_7_1 {own name : String} {v : Value} (hn : narrow (zTy7 1) v = v) (hf : fits (zTy7 1) v = true) : zPut own name 7 1 v := ⟨_, _, _, zTy7, rfl, zty7, znm7, hn, hf, Or.inl rfl⟩
theorem pt_7_2 {own name : String} {v : Value} (hn : narrow (zTy7 2) v = v) (hf : fits (zTy7 2) v = true) : zPut own name 7 2 v := ⟨_, _, _, zTy7, rfl, zty7, znm7, hn, hf, Or.inl rfl⟩
theorem nw_TS_9 : zNew "TileStudio" 9 7 3 [.null, zI 0, zI 0] := ⟨_, _, zTy7, rfl, zty7, zu7, zG_T 27 (by decide +kernel) (by decide +kernel), zG_T 28 (by decide +kernel) (by decide +kernel), zG_T 2 (by decide +kernel) (by decide +kernel), by decide +kernel⟩
theorem nw_TS_24 : zNew "TileStudio" 24 2 2 [zI 0, .null] := ⟨_, _, zTy2, rfl, zty2, zu2, zG_T 197 (by decide +kernel) (by decide +kernel), zG_T 198 (by decide +kernel) (by decide +kernel), zG_T 8 (by decide +kernel) (by decide +kernel), by decide +kernel⟩
theorem nw_TS_33 : zNew "TileStudio" 33 3 6 [zI 0, zI 0, .null, zI 0, zI 0, zI 0] := ⟨_, _, zTy3, rfl, zty3, zu3, zG_T 226 (by decide +kernel) (by decide +kernel), zG_T 231 (by decide +kernel) (by decide +kernel), zG_T 9 (by decide +kernel) (by decide +kernel), by decide +kernel⟩
theorem nw_TS_39 : zNew "TileStudio" 39 4 4 [zI 0, zI 0, .null, .null] := ⟨_, _, zTy4, rfl, zty4, zu4, zG_T 260 (by decide +kernel) (by decide +kernel), zG_T 261 (by decide +kernel) (by decide +kernel), zG_T 10 (by decide +kernel) (by decide +kernel), by decide +kernel⟩
theorem nw_TS_124 : zNew "TileStudio" 124 5 4 [.null, zI 0, .null, .null] := ⟨_, _, zTy5, rfl, zty5, zu5, zG_T 418 (by decide +kernel) (by decide +kernel), zG_T 419 (by decide +kernel) (by decide +kernel), zG_T 13 (by decide +kernel) (by decide +kernel), by decide +kernel⟩
theorem nw_TS_172 : zNew "TileStudio" 172 6 2 [.null, .null] := ⟨_, _, zTy6, rfl, zty6, zu6, zG_T 566 (by decide +kernel) (by decide +kernel), zG_T 567 (by decide +kernel) (by decide +kernel), zG_T 16 (by decide +kernel) (by decide +kernel), by decide +kernel⟩
theorem nw_Layer_10 : zNew "TileStudio$Layer" 10 3 6 [zI 0, zI 0, .null, zI 0, zI 0, zI 0] := ⟨_, _, zTy3, rfl, zty3, zu3, zG_T 367 (by decide +kernel) (by decide +kernel), zG_T 231 (by decide +kernel) (by decide +kernel), zG_T 9 (by decide +kernel) (by decide +kernel), by decide +kernel⟩
theorem nw_Picture_8 : zNew "TileStudio$Picture" 8 4 4 [zI 0, zI 0, .null, .null] := ⟨_, _, zTy4, rfl, zty4, zu4, zG_T 325 (by decide +kernel) (by decide +kernel), zG_T 261 (by decide +kernel) (by decide +kernel), zG_T 10 (by decide +kernel) (by decide +kernel), by decide +kernel⟩
theorem nw_L_8 : zNew "TileStudioLaw" 8 0 5 [.null, .null, .null, zI 0, zI 0] := ⟨_, _, zTy0, rfl, zty0, zu0, zG_T 19 (by decide +kernel) (by decide +kernel), zG_T 20 (by decide +kernel) (by decide +kernel), zG_T 1 (by decide +kernel) (by decide +kernel), by decide +kernel⟩
theorem nw_L_90 : zNew "TileStudioLaw" 90 1 21 [zI 0, .null, .null, .null, .null, .null, .null, .null, .null, zI 0, zI 0, zI 0, zI 0, zI 0, zI 0, zI 0, .null, .null, .null, .null, .null] := ⟨_, _, zTy1, rfl, zty1, zu1, zG_T 700 (by decide +kernel) (by decide +kernel), zG_T 701 (by decide +kernel) (by decide +kernel), zG_T 3 (by decide +kernel) (by decide +kernel), by decide +kernel⟩
theorem cl_TS_33 : Cond.classLink "TileStudio" 33 "TileStudio$Layer" ∈ zG := zG_T 226 (by decide +kernel) (by decide +kernel)
theorem cl_History_9 : Cond.classLink "TileStudio$History" 9 "TileStudio$Picture" ∈ zG := zG_T 33 (by decide +kernel) (by decide +kernel)
theorem cl_Picture_27 : Cond.classLink "TileStudio$Picture" 27 "TileStudio$Layer" ∈ zG := zG_T 373 (by decide +kernel) (by decide +kernel)
theorem cs_TS_93 : Cond.constant "TileStudio" 93 (Int32.ofInt 65535) ∈ zG := zG_T 382 (by decide +kernel) (by decide +kernel)
theorem cs_TS_271 : Cond.constantLong "TileStudio" 271 (Int64.ofInt 2) ∈ zG := zG_T 389 (by decide +kernel) (by decide +kernel)
theorem cs_M_93 : Cond.constantLong "TileStudioModel" 93 (Int64.ofInt 2) ∈ zG := zG_T 842 (by decide +kernel) (by decide +kernel)
theorem cs_M_95 : Cond.constant "TileStudioModel" 95 (Int32.ofInt 65535) ∈ zG := zG_T 830 (by decide +kernel) (by decide +kernel)
theorem cs_Int_265 : Cond.constant "java/lang/Integer" 265 (Int32.ofInt 1431655765) ∈ zG := zG_T 114 (by decide +kernel) (by decide +kernel)
theorem cs_Int_266 : Cond.constant "java/lang/Integer" 266 (Int32.ofInt 858993459) ∈ zG := zG_T 115 (by decide +kernel) (by decide +kernel)
theorem cs_Int_267 : Cond.constant "java/lang/Integer" 267 (Int32.ofInt 252645135) ∈ zG := zG_T 116 (by decide +kernel) (by decide +kernel)
theorem ob_TS_3 : Cond.methodLink "TileStudio" 3 Lib.objectInit ∈ zG := zG_T 24 (by decide +kernel) (by decide +kernel)
theorem lk_TS_11 : Cond.methodLink "TileStudio" 11 (zy m_History_init) ∈ zG ∧ Cond.instanceMethod (zy m_History_init) ∈ zG ∧ (zy m_History_init).name = "<init>" ∧ zret m_History_init = none := ⟨zG_T 29 (by decide +kernel) (by decide +kernel), zG_T 30 (by decide +kernel) (by decide +kernel), rfl, rfl⟩
theorem lk_TS_16 : Cond.methodLink "TileStudio" 16 (zy m_TS_isWithin) ∈ zG ∧ Cond.static (zy m_TS_isWithin) ∈ zG := ⟨zG_T 81 (by decide +kernel) (by decide +kernel), zG_T 82 (by decide +kernel) (by decide +kernel)⟩
theorem lk_TS_20 : Cond.methodLink "TileStudio" 20 (zy m_TS_require) ∈ zG ∧ Cond.static (zy m_TS_require) ∈ zG := ⟨zG_T 130 (by decide +kernel) (by decide +kernel), zG_T 131 (by decide +kernel) (by decide +kernel)⟩
theorem lk_TS_26 : Cond.methodLink "TileStudio" 26 (zy m_Places_init) ∈ zG ∧ Cond.instanceMethod (zy m_Places_init) ∈ zG ∧ (zy m_Places_init).name = "<init>" ∧ zret m_Places_init = none := ⟨zG_T 199 (by decide +kernel) (by decide +kernel), zG_T 200 (by decide +kernel) (by decide +kernel), rfl, rfl⟩
theorem lk_TS_29 : Cond.methodLink "TileStudio" 29 (zy m_TS_addRectangle) ∈ zG ∧ Cond.static (zy m_TS_addRectangle) ∈ zG := ⟨zG_T 213 (by decide +kernel) (by decide +kernel), zG_T 214 (by decide +kernel) (by decide +kernel)⟩
theorem lk_TS_35 : Cond.methodLink "TileStudio" 35 (zy m_TS_clearLayer) ∈ zG ∧ Cond.static (zy m_TS_clearLayer) ∈ zG := ⟨zG_T 228 (by decide +kernel) (by decide +kernel), zG_T 229 (by decide +kernel) (by decide +kernel)⟩
theorem lk_TS_41 : Cond.methodLink "TileStudio" 41 (zy m_Picture_init) ∈ zG ∧ Cond.instanceMethod (zy m_Picture_init) ∈ zG ∧ (zy m_Picture_init).name = "<init>" ∧ zret m_Picture_init = none := ⟨zG_T 262 (by decide +kernel) (by decide +kernel), zG_T 263 (by decide +kernel) (by decide +kernel), rfl, rfl⟩
theorem lk_TS_44 : Cond.methodLink "TileStudio" 44 (zy m_History_begin) ∈ zG ∧ Cond.instanceMethod (zy m_History_begin) ∈ zG ∧ Cond.selects (zy m_History_begin).cls (zy m_History_begin) (zy m_History_begin) ∈ zG := ⟨zG_T 287 (by decide +kernel) (by decide +kernel), zG_T 288 (by decide +kernel) (by decide +kernel), zG_T 289 (by decide +kernel) (by decide +kernel)⟩
theorem lk_TS_48 : Cond.methodLink "TileStudio" 48 (zy m_TS_presentPicture) ∈ zG ∧ Cond.instanceMethod (zy m_TS_presentPicture) ∈ zG ∧ Cond.selects (zy m_TS_presentPicture).cls (zy m_TS_presentPicture) (zy m_TS_presentPicture) ∈ zG := ⟨zG_T 299 (by decide +kernel) (by decide +kernel), zG_T 301 (by decide +kernel) (by decide +kernel), zG_S 1 (by decide +kernel) (by decide +kernel)⟩
-- ('TileStudio', 58) invokespecial: ('java/lang/IllegalStateException', '<init>', '()V')
theorem lk_TS_66 : Cond.methodLink "TileStudio" 66 (zy m_TS_inserted) ∈ zG ∧ Cond.static (zy m_TS_inserted) ∈ zG := ⟨zG_T 318 (by decide +kernel) (by decide +kernel), zG_T 319 (by decide +kernel) (by decide +kernel)⟩
theorem lk_TS_70 : Cond.methodLink "TileStudio" 70 (zy m_Picture_withLayers) ∈ zG ∧ Cond.instanceMethod (zy m_Picture_withLayers) ∈ zG ∧ Cond.selects (zy m_Picture_withLayers).cls (zy m_Picture_withLayers) (zy m_Picture_withLayers) ∈ zG := ⟨zG_T 321 (by decide +kernel) (by decide +kernel), zG_T 322 (by decide +kernel) (by decide +kernel), zG_T 323 (by decide +kernel) (by decide +kernel)⟩
theorem lk_TS_74 : Cond.methodLink "TileStudio" 74 (zy m_History_add) ∈ zG ∧ Cond.instanceMethod (zy m_History_add) ∈ zG ∧ Cond.selects (zy m_History_add).cls (zy m_History_add) (zy m_History_add) ∈ zG := ⟨zG_T 327 (by decide +kernel) (by decide +kernel), zG_T 328 (by decide +kernel) (by decide +kernel), zG_T 329 (by decide +kernel) (by decide +kernel)⟩
theorem lk_TS_77 : Cond.methodLink "TileStudio" 77 (zy m_TS_pictureWithLayer) ∈ zG ∧ Cond.instanceMethod (zy m_TS_pictureWithLayer) ∈ zG ∧ Cond.selects (zy m_TS_pictureWithLayer).cls (zy m_TS_pictureWithLayer) (zy m_TS_pictureWithLayer) ∈ zG := ⟨zG_T 342 (by decide +kernel) (by decide +kernel), zG_T 344 (by decide +kernel) (by decide +kernel), zG_S 2 (by decide +kernel) (by decide +kernel)⟩
theorem lk_TS_81 : Cond.methodLink "TileStudio" 81 (zy m_TS_removed) ∈ zG ∧ Cond.static (zy m_TS_removed) ∈ zG := ⟨zG_T 346 (by decide +kernel) (by decide +kernel), zG_T 347 (by decide +kernel) (by decide +kernel)⟩
theorem lk_TS_85 : Cond.methodLink "TileStudio" 85 (zy m_Layer_withBlending) ∈ zG ∧ Cond.instanceMethod (zy m_Layer_withBlending) ∈ zG ∧ Cond.selects (zy m_Layer_withBlending).cls (zy m_Layer_withBlending) (zy m_Layer_withBlending) ∈ zG := ⟨zG_T 363 (by decide +kernel) (by decide +kernel), zG_T 364 (by decide +kernel) (by decide +kernel), zG_T 365 (by decide +kernel) (by decide +kernel)⟩
theorem lk_TS_89 : Cond.methodLink "TileStudio" 89 (zy m_Picture_withLayer) ∈ zG ∧ Cond.instanceMethod (zy m_Picture_withLayer) ∈ zG ∧ Cond.selects (zy m_Picture_withLayer).cls (zy m_Picture_withLayer) (zy m_Picture_withLayer) ∈ zG := ⟨zG_T 369 (by decide +kernel) (by decide +kernel), zG_T 370 (by decide +kernel) (by decide +kernel), zG_T 371 (by decide +kernel) (by decide +kernel)⟩
theorem lk_TS_94 : Cond.methodLink "TileStudio" 94 (zy m_TS_addEllipse) ∈ zG ∧ Cond.static (zy m_TS_addEllipse) ∈ zG := ⟨zG_T 383 (by decide +kernel) (by decide +kernel), zG_T 384 (by decide +kernel) (by decide +kernel)⟩
theorem lk_TS_101 : Cond.methodLink "TileStudio" 101 (zy m_TS_joined) ∈ zG ∧ Cond.static (zy m_TS_joined) ∈ zG := ⟨zG_T 390 (by decide +kernel) (by decide +kernel), zG_T 391 (by decide +kernel) (by decide +kernel)⟩
theorem lk_TS_105 : Cond.methodLink "TileStudio" 105 (zy m_Picture_withSelection) ∈ zG ∧ Cond.instanceMethod (zy m_Picture_withSelection) ∈ zG ∧ Cond.selects (zy m_Picture_withSelection).cls (zy m_Picture_withSelection) (zy m_Picture_withSelection) ∈ zG := ⟨zG_T 396 (by decide +kernel) (by decide +kernel), zG_T 397 (by decide +kernel) (by decide +kernel), zG_T 398 (by decide +kernel) (by decide +kernel)⟩
end
section
theorem lk_TS_109 : Cond.methodLink "TileStudio" 109 (zy m_Places_size) ∈ zG ∧ Cond.instanceMethod (zy m_Places_size) ∈ zG ∧ Cond.selects (zy m_Places_size).cls (zy m_Places_size) (zy m_Places_size) ∈ zG := ⟨zG_T 117 (by decide +kernel) (by decide +kernel), zG_T 118 (by decide +kernel) (by decide +kernel), zG_T 119 (by decide +kernel) (by decide +kernel)⟩
theorem lk_TS_119 : Cond.methodLink "TileStudio" 119 (zy m_TS_paintingOf) ∈ zG ∧ Cond.instanceMethod (zy m_TS_paintingOf) ∈ zG ∧ Cond.selects (zy m_TS_paintingOf).cls (zy m_TS_paintingOf) (zy m_TS_paintingOf) ∈ zG := ⟨zG_T 414 (by decide +kernel) (by decide +kernel), zG_T 416 (by decide +kernel) (by decide +kernel), zG_S 3 (by decide +kernel) (by decide +kernel)⟩
theorem lk_TS_123 : Cond.methodLink "TileStudio" 123 (zy m_Painting_height) ∈ zG ∧ Cond.instanceMethod (zy m_Painting_height) ∈ zG ∧ Cond.selects (zy m_Painting_height).cls (zy m_Painting_height) (zy m_Painting_height) ∈ zG := ⟨zG_T 445 (by decide +kernel) (by decide +kernel), zG_T 446 (by decide +kernel) (by decide +kernel), zG_T 447 (by decide +kernel) (by decide +kernel)⟩
theorem lk_TS_127 : Cond.methodLink "TileStudio" 127 (zy m_Painting_width) ∈ zG ∧ Cond.instanceMethod (zy m_Painting_width) ∈ zG ∧ Cond.selects (zy m_Painting_width).cls (zy m_Painting_width) (zy m_Painting_width) ∈ zG := ⟨zG_T 449 (by decide +kernel) (by decide +kernel), zG_T 450 (by decide +kernel) (by decide +kernel), zG_T 451 (by decide +kernel) (by decide +kernel)⟩
theorem lk_TS_129 : Cond.methodLink "TileStudio" 129 (zy m_Painting_put) ∈ zG ∧ Cond.instanceMethod (zy m_Painting_put) ∈ zG ∧ Cond.selects (zy m_Painting_put).cls (zy m_Painting_put) (zy m_Painting_put) ∈ zG := ⟨zG_T 453 (by decide +kernel) (by decide +kernel), zG_T 454 (by decide +kernel) (by decide +kernel), zG_T 455 (by decide +kernel) (by decide +kernel)⟩
theorem lk_TS_133 : Cond.methodLink "TileStudio" 133 (zy m_Painting_result) ∈ zG ∧ Cond.instanceMethod (zy m_Painting_result) ∈ zG ∧ Cond.selects (zy m_Painting_result).cls (zy m_Painting_result) (zy m_Painting_result) ∈ zG := ⟨zG_T 469 (by decide +kernel) (by decide +kernel), zG_T 470 (by decide +kernel) (by decide +kernel), zG_T 471 (by decide +kernel) (by decide +kernel)⟩
theorem lk_TS_136 : Cond.methodLink "TileStudio" 136 (zy m_Dots_between) ∈ zG ∧ Cond.static (zy m_Dots_between) ∈ zG := ⟨zG_T 485 (by decide +kernel) (by decide +kernel), zG_T 486 (by decide +kernel) (by decide +kernel)⟩
theorem lk_TS_142 : Cond.methodLink "TileStudio" 142 (zy m_TS_requireShift) ∈ zG ∧ Cond.static (zy m_TS_requireShift) ∈ zG := ⟨zG_T 501 (by decide +kernel) (by decide +kernel), zG_T 502 (by decide +kernel) (by decide +kernel)⟩
theorem lk_TS_145 : Cond.methodLink "TileStudio" 145 (zy m_TS_addLine) ∈ zG ∧ Cond.static (zy m_TS_addLine) ∈ zG := ⟨zG_T 504 (by decide +kernel) (by decide +kernel), zG_T 505 (by decide +kernel) (by decide +kernel)⟩
theorem lk_TS_149 : Cond.methodLink "TileStudio" 149 (zy m_Places_has) ∈ zG ∧ Cond.instanceMethod (zy m_Places_has) ∈ zG ∧ Cond.selects (zy m_Places_has).cls (zy m_Places_has) (zy m_Places_has) ∈ zG := ⟨zG_T 522 (by decide +kernel) (by decide +kernel), zG_T 462 (by decide +kernel) (by decide +kernel), zG_T 463 (by decide +kernel) (by decide +kernel)⟩
theorem lk_TS_157 : Cond.methodLink "TileStudio" 157 (zy m_Layer_dotAt) ∈ zG ∧ Cond.instanceMethod (zy m_Layer_dotAt) ∈ zG ∧ Cond.selects (zy m_Layer_dotAt).cls (zy m_Layer_dotAt) (zy m_Layer_dotAt) ∈ zG := ⟨zG_T 523 (by decide +kernel) (by decide +kernel), zG_T 105 (by decide +kernel) (by decide +kernel), zG_T 106 (by decide +kernel) (by decide +kernel)⟩
theorem lk_TS_161 : Cond.methodLink "TileStudio" 161 (zy m_Dots_blended) ∈ zG ∧ Cond.static (zy m_Dots_blended) ∈ zG := ⟨zG_T 524 (by decide +kernel) (by decide +kernel), zG_T 525 (by decide +kernel) (by decide +kernel)⟩
theorem lk_TS_164 : Cond.methodLink "TileStudio" 164 (zy m_TS_alikePlaces) ∈ zG ∧ Cond.static (zy m_TS_alikePlaces) ∈ zG := ⟨zG_T 544 (by decide +kernel) (by decide +kernel), zG_T 545 (by decide +kernel) (by decide +kernel)⟩
theorem lk_TS_168 : Cond.methodLink "TileStudio" 168 (zy m_TS_reachedFrom) ∈ zG ∧ Cond.static (zy m_TS_reachedFrom) ∈ zG := ⟨zG_T 552 (by decide +kernel) (by decide +kernel), zG_T 553 (by decide +kernel) (by decide +kernel)⟩
theorem lk_TS_174 : Cond.methodLink "TileStudio" 174 (zy m_Copied_init) ∈ zG ∧ Cond.instanceMethod (zy m_Copied_init) ∈ zG ∧ (zy m_Copied_init).name = "<init>" ∧ zret m_Copied_init = none := ⟨zG_T 568 (by decide +kernel) (by decide +kernel), zG_T 569 (by decide +kernel) (by decide +kernel), rfl, rfl⟩
-- ('TileStudio', 183) invokespecial: ('java/util/NoSuchElementException', '<init>', '()V')
theorem lk_TS_184 : Cond.methodLink "TileStudio" 184 (zy m_Painting_takes) ∈ zG ∧ Cond.instanceMethod (zy m_Painting_takes) ∈ zG ∧ Cond.selects (zy m_Painting_takes).cls (zy m_Painting_takes) (zy m_Painting_takes) ∈ zG := ⟨zG_T 547 (by decide +kernel) (by decide +kernel), zG_T 458 (by decide +kernel) (by decide +kernel), zG_T 459 (by decide +kernel) (by decide +kernel)⟩
theorem lk_TS_193 : Cond.methodLink "TileStudio" 193 (zy m_TS_sumColumns) ∈ zG ∧ Cond.static (zy m_TS_sumColumns) ∈ zG := ⟨zG_T 625 (by decide +kernel) (by decide +kernel), zG_T 626 (by decide +kernel) (by decide +kernel)⟩
theorem lk_TS_197 : Cond.methodLink "TileStudio" 197 (zy m_TS_blurredDot) ∈ zG ∧ Cond.static (zy m_TS_blurredDot) ∈ zG := ⟨zG_T 629 (by decide +kernel) (by decide +kernel), zG_T 630 (by decide +kernel) (by decide +kernel)⟩
theorem lk_TS_201 : Cond.methodLink "TileStudio" 201 (zy m_History_goBack) ∈ zG ∧ Cond.instanceMethod (zy m_History_goBack) ∈ zG ∧ Cond.selects (zy m_History_goBack).cls (zy m_History_goBack) (zy m_History_goBack) ∈ zG := ⟨zG_T 65 (by decide +kernel) (by decide +kernel), zG_T 66 (by decide +kernel) (by decide +kernel), zG_T 67 (by decide +kernel) (by decide +kernel)⟩
theorem lk_TS_205 : Cond.methodLink "TileStudio" 205 (zy m_History_goForth) ∈ zG ∧ Cond.instanceMethod (zy m_History_goForth) ∈ zG ∧ Cond.selects (zy m_History_goForth).cls (zy m_History_goForth) (zy m_History_goForth) ∈ zG := ⟨zG_T 73 (by decide +kernel) (by decide +kernel), zG_T 74 (by decide +kernel) (by decide +kernel), zG_T 75 (by decide +kernel) (by decide +kernel)⟩
theorem lk_TS_208 : Cond.methodLink "TileStudio" 208 (zy m_Picture_fullTiles) ∈ zG ∧ Cond.instanceMethod (zy m_Picture_fullTiles) ∈ zG ∧ Cond.selects (zy m_Picture_fullTiles).cls (zy m_Picture_fullTiles) (zy m_Picture_fullTiles) ∈ zG := ⟨zG_T 96 (by decide +kernel) (by decide +kernel), zG_T 97 (by decide +kernel) (by decide +kernel), zG_T 98 (by decide +kernel) (by decide +kernel)⟩
theorem lk_TS_215 : Cond.methodLink "TileStudio" 215 (zy m_TS_requirePlace) ∈ zG ∧ Cond.static (zy m_TS_requirePlace) ∈ zG := ⟨zG_T 656 (by decide +kernel) (by decide +kernel), zG_T 657 (by decide +kernel) (by decide +kernel)⟩
theorem lk_TS_219 : Cond.methodLink "TileStudio" 219 (zy m_TS_dotAtLevel) ∈ zG ∧ Cond.static (zy m_TS_dotAtLevel) ∈ zG := ⟨zG_T 677 (by decide +kernel) (by decide +kernel), zG_T 678 (by decide +kernel) (by decide +kernel)⟩
theorem lk_TS_233 : Cond.methodLink "TileStudio" 233 (zy m_Dots_byteOf) ∈ zG ∧ Cond.static (zy m_Dots_byteOf) ∈ zG := ⟨zG_T 628 (by decide +kernel) (by decide +kernel), zG_T 489 (by decide +kernel) (by decide +kernel)⟩
theorem lk_TS_236 : Cond.methodLink "TileStudio" 236 (zy m_History_present) ∈ zG ∧ Cond.instanceMethod (zy m_History_present) ∈ zG ∧ Cond.selects (zy m_History_present).cls (zy m_History_present) (zy m_History_present) ∈ zG := ⟨zG_T 84 (by decide +kernel) (by decide +kernel), zG_T 85 (by decide +kernel) (by decide +kernel), zG_T 86 (by decide +kernel) (by decide +kernel)⟩
theorem lk_TS_239 : Cond.methodLink "TileStudio" 239 (zy m_History_stepsBack) ∈ zG ∧ Cond.instanceMethod (zy m_History_stepsBack) ∈ zG ∧ Cond.selects (zy m_History_stepsBack).cls (zy m_History_stepsBack) (zy m_History_stepsBack) ∈ zG := ⟨zG_T 88 (by decide +kernel) (by decide +kernel), zG_T 89 (by decide +kernel) (by decide +kernel), zG_T 90 (by decide +kernel) (by decide +kernel)⟩
theorem lk_TS_242 : Cond.methodLink "TileStudio" 242 (zy m_History_stepsForth) ∈ zG ∧ Cond.instanceMethod (zy m_History_stepsForth) ∈ zG ∧ Cond.selects (zy m_History_stepsForth).cls (zy m_History_stepsForth) (zy m_History_stepsForth) ∈ zG := ⟨zG_T 92 (by decide +kernel) (by decide +kernel), zG_T 93 (by decide +kernel) (by decide +kernel), zG_T 94 (by decide +kernel) (by decide +kernel)⟩
-- ('TileStudio', 247) invokespecial: ('java/lang/IllegalArgumentException', '<init>', '()V')
theorem lk_TS_248 : Cond.methodLink "TileStudio" 248 (zy m_TS_sideAtLevel) ∈ zG ∧ Cond.static (zy m_TS_sideAtLevel) ∈ zG := ⟨zG_T 659 (by decide +kernel) (by decide +kernel), zG_T 660 (by decide +kernel) (by decide +kernel)⟩
-- ('TileStudio', 253) invokespecial: ('java/lang/IndexOutOfBoundsException', '<init>', '()V')
theorem lk_TS_254 : Cond.methodLink "TileStudio" 254 (zy m_Painting_init) ∈ zG ∧ Cond.instanceMethod (zy m_Painting_init) ∈ zG ∧ (zy m_Painting_init).name = "<init>" ∧ zret m_Painting_init = none := ⟨zG_T 420 (by decide +kernel) (by decide +kernel), zG_T 421 (by decide +kernel) (by decide +kernel), rfl, rfl⟩
theorem lk_TS_257 : Cond.methodLink "TileStudio" 257 (zy m_Layer_init) ∈ zG ∧ Cond.instanceMethod (zy m_Layer_init) ∈ zG ∧ (zy m_Layer_init).name = "<init>" ∧ zret m_Layer_init = none := ⟨zG_T 232 (by decide +kernel) (by decide +kernel), zG_T 233 (by decide +kernel) (by decide +kernel), rfl, rfl⟩
theorem lk_TS_260 : Cond.methodLink "TileStudio" 260 (zy m_Places_height) ∈ zG ∧ Cond.instanceMethod (zy m_Places_height) ∈ zG ∧ Cond.selects (zy m_Places_height).cls (zy m_Places_height) (zy m_Places_height) ∈ zG := ⟨zG_T 216 (by decide +kernel) (by decide +kernel), zG_T 217 (by decide +kernel) (by decide +kernel), zG_T 218 (by decide +kernel) (by decide +kernel)⟩
theorem lk_TS_262 : Cond.methodLink "TileStudio" 262 (zy m_TS_isInBox) ∈ zG ∧ Cond.static (zy m_TS_isInBox) ∈ zG := ⟨zG_T 220 (by decide +kernel) (by decide +kernel), zG_T 109 (by decide +kernel) (by decide +kernel)⟩
theorem lk_TS_266 : Cond.methodLink "TileStudio" 266 (zy m_Places_add) ∈ zG ∧ Cond.instanceMethod (zy m_Places_add) ∈ zG ∧ Cond.selects (zy m_Places_add).cls (zy m_Places_add) (zy m_Places_add) ∈ zG := ⟨zG_T 221 (by decide +kernel) (by decide +kernel), zG_T 222 (by decide +kernel) (by decide +kernel), zG_T 223 (by decide +kernel) (by decide +kernel)⟩
theorem lk_TS_268 : Cond.methodLink "TileStudio" 268 (zy m_TS_isInEllipse) ∈ zG ∧ Cond.static (zy m_TS_isInEllipse) ∈ zG := ⟨zG_T 386 (by decide +kernel) (by decide +kernel), zG_T 387 (by decide +kernel) (by decide +kernel)⟩
theorem lk_TS_277 : Cond.methodLink "TileStudio" 277 (zy m_TS_joinedRow) ∈ zG ∧ Cond.static (zy m_TS_joinedRow) ∈ zG := ⟨zG_T 393 (by decide +kernel) (by decide +kernel), zG_T 394 (by decide +kernel) (by decide +kernel)⟩
theorem mt_TS_281 : Cond.methodLink "TileStudio" 281 Lib.Math.abs.name ∈ zG ∧ Cond.static Lib.Math.abs.name ∈ zG ∧ Cond.initialized "java/lang/Math" ∈ zG ∧ Cond.code Lib.Math.abs.name Lib.Math.abs.code 1 (some .int) ∈ zG := ⟨zG_T 507 (by decide +kernel) (by decide +kernel), zG_T 508 (by decide +kernel) (by decide +kernel), zG_T 15 (by decide +kernel) (by decide +kernel), zG_T 509 (by decide +kernel) (by decide +kernel)⟩
theorem mt_TS_287 : Cond.methodLink "TileStudio" 287 Lib.Math.max.name ∈ zG ∧ Cond.static Lib.Math.max.name ∈ zG ∧ Cond.initialized "java/lang/Math" ∈ zG ∧ Cond.code Lib.Math.max.name Lib.Math.max.code 2 (some .int) ∈ zG := ⟨zG_T 510 (by decide +kernel) (by decide +kernel), zG_T 511 (by decide +kernel) (by decide +kernel), zG_T 15 (by decide +kernel) (by decide +kernel), zG_T 512 (by decide +kernel) (by decide +kernel)⟩
theorem lk_TS_290 : Cond.methodLink "TileStudio" 290 (zy m_TS_partOf) ∈ zG ∧ Cond.static (zy m_TS_partOf) ∈ zG := ⟨zG_T 513 (by decide +kernel) (by decide +kernel), zG_T 514 (by decide +kernel) (by decide +kernel)⟩
theorem lk_TS_293 : Cond.methodLink "TileStudio" 293 (zy m_TS_addDisc) ∈ zG ∧ Cond.static (zy m_TS_addDisc) ∈ zG := ⟨zG_T 519 (by decide +kernel) (by decide +kernel), zG_T 520 (by decide +kernel) (by decide +kernel)⟩
theorem lk_TS_296 : Cond.methodLink "TileStudio" 296 (zy m_Math_floorDiv) ∈ zG ∧ Cond.static (zy m_Math_floorDiv) ∈ zG := ⟨zG_T 516 (by decide +kernel) (by decide +kernel), zG_T 517 (by decide +kernel) (by decide +kernel)⟩
theorem lk_TS_299 : Cond.methodLink "TileStudio" 299 (zy m_Dots_areAlike) ∈ zG ∧ Cond.static (zy m_Dots_areAlike) ∈ zG := ⟨zG_T 548 (by decide +kernel) (by decide +kernel), zG_T 549 (by decide +kernel) (by decide +kernel)⟩
theorem lk_TS_302 : Cond.methodLink "TileStudio" 302 (zy m_TS_spread) ∈ zG ∧ Cond.static (zy m_TS_spread) ∈ zG := ⟨zG_T 555 (by decide +kernel) (by decide +kernel), zG_T 556 (by decide +kernel) (by decide +kernel)⟩
theorem lk_TS_306 : Cond.methodLink "TileStudio" 306 (zy m_Places_rowAt) ∈ zG ∧ Cond.instanceMethod (zy m_Places_rowAt) ∈ zG ∧ Cond.selects (zy m_Places_rowAt).cls (zy m_Places_rowAt) (zy m_Places_rowAt) ∈ zG := ⟨zG_T 558 (by decide +kernel) (by decide +kernel), zG_T 466 (by decide +kernel) (by decide +kernel), zG_T 467 (by decide +kernel) (by decide +kernel)⟩
theorem mt_TS_309 : Cond.methodLink "TileStudio" 309 Lib.Math.min.name ∈ zG ∧ Cond.static Lib.Math.min.name ∈ zG ∧ Cond.initialized "java/lang/Math" ∈ zG ∧ Cond.code Lib.Math.min.name Lib.Math.min.code 2 (some .int) ∈ zG := ⟨zG_T 632 (by decide +kernel) (by decide +kernel), zG_T 534 (by decide +kernel) (by decide +kernel), zG_T 15 (by decide +kernel) (by decide +kernel), zG_T 535 (by decide +kernel) (by decide +kernel)⟩
theorem lk_TS_312 : Cond.methodLink "TileStudio" 312 (zy m_Dots_placed) ∈ zG ∧ Cond.static (zy m_Dots_placed) ∈ zG := ⟨zG_T 633 (by decide +kernel) (by decide +kernel), zG_T 492 (by decide +kernel) (by decide +kernel)⟩
theorem lk_TS_315 : Cond.methodLink "TileStudio" 315 (zy m_Dots_merged) ∈ zG ∧ Cond.static (zy m_Dots_merged) ∈ zG := ⟨zG_T 680 (by decide +kernel) (by decide +kernel), zG_T 681 (by decide +kernel) (by decide +kernel)⟩
theorem ob_Copied_1 : Cond.methodLink "TileStudio$Copied" 1 Lib.objectInit ∈ zG := zG_T 571 (by decide +kernel) (by decide +kernel)
theorem lk_Dots_9 : Cond.methodLink "TileStudio$Dots" 9 (zy m_Dots_byteOf) ∈ zG ∧ Cond.static (zy m_Dots_byteOf) ∈ zG := ⟨zG_T 488 (by decide +kernel) (by decide +kernel), zG_T 489 (by decide +kernel) (by decide +kernel)⟩
theorem mt_Dots_15 : Cond.methodLink "TileStudio$Dots" 15 Lib.Math.abs.name ∈ zG ∧ Cond.static Lib.Math.abs.name ∈ zG ∧ Cond.initialized "java/lang/Math" ∈ zG ∧ Cond.code Lib.Math.abs.name Lib.Math.abs.code 1 (some .int) ∈ zG := ⟨zG_T 551 (by decide +kernel) (by decide +kernel), zG_T 508 (by decide +kernel) (by decide +kernel), zG_T 15 (by decide +kernel) (by decide +kernel), zG_T 509 (by decide +kernel) (by decide +kernel)⟩
theorem lk_Dots_21 : Cond.methodLink "TileStudio$Dots" 21 (zy m_Dots_placed) ∈ zG ∧ Cond.static (zy m_Dots_placed) ∈ zG := ⟨zG_T 491 (by decide +kernel) (by decide +kernel), zG_T 492 (by decide +kernel) (by decide +kernel)⟩
theorem lk_Dots_24 : Cond.methodLink "TileStudio$Dots" 24 (zy m_Dots_covered) ∈ zG ∧ Cond.static (zy m_Dots_covered) ∈ zG := ⟨zG_T 683 (by decide +kernel) (by decide +kernel), zG_T 684 (by decide +kernel) (by decide +kernel)⟩
theorem lk_Dots_27 : Cond.methodLink "TileStudio$Dots" 27 (zy m_Dots_div) ∈ zG ∧ Cond.static (zy m_Dots_div) ∈ zG := ⟨zG_T 527 (by decide +kernel) (by decide +kernel), zG_T 528 (by decide +kernel) (by decide +kernel)⟩
theorem lk_Dots_30 : Cond.methodLink "TileStudio$Dots" 30 (zy m_Dots_mixed) ∈ zG ∧ Cond.static (zy m_Dots_mixed) ∈ zG := ⟨zG_T 530 (by decide +kernel) (by decide +kernel), zG_T 531 (by decide +kernel) (by decide +kernel)⟩
theorem mt_Dots_34 : Cond.methodLink "TileStudio$Dots" 34 Lib.Math.min.name ∈ zG ∧ Cond.static Lib.Math.min.name ∈ zG ∧ Cond.initialized "java/lang/Math" ∈ zG ∧ Cond.code Lib.Math.min.name Lib.Math.min.code 2 (some .int) ∈ zG := ⟨zG_T 533 (by decide +kernel) (by decide +kernel), zG_T 534 (by decide +kernel) (by decide +kernel), zG_T 15 (by decide +kernel) (by decide +kernel), zG_T 535 (by decide +kernel) (by decide +kernel)⟩
theorem mt_Dots_37 : Cond.methodLink "TileStudio$Dots" 37 Lib.Math.max.name ∈ zG ∧ Cond.static Lib.Math.max.name ∈ zG ∧ Cond.initialized "java/lang/Math" ∈ zG ∧ Cond.code Lib.Math.max.name Lib.Math.max.code 2 (some .int) ∈ zG := ⟨zG_T 536 (by decide +kernel) (by decide +kernel), zG_T 511 (by decide +kernel) (by decide +kernel), zG_T 15 (by decide +kernel) (by decide +kernel), zG_T 512 (by decide +kernel) (by decide +kernel)⟩
theorem ob_History_3 : Cond.methodLink "TileStudio$History" 3 Lib.objectInit ∈ zG := zG_T 32 (by decide +kernel) (by decide +kernel)
theorem lk_History_24 : Cond.methodLink "TileStudio$History" 24 (zy m_History_forgetOldest) ∈ zG ∧ Cond.instanceMethod (zy m_History_forgetOldest) ∈ zG ∧ Cond.selects (zy m_History_forgetOldest).cls (zy m_History_forgetOldest) (zy m_History_forgetOldest) ∈ zG := ⟨zG_T 331 (by decide +kernel) (by decide +kernel), zG_T 332 (by decide +kernel) (by decide +kernel), zG_T 333 (by decide +kernel) (by decide +kernel)⟩
theorem ob_Layer_3 : Cond.methodLink "TileStudio$Layer" 3 Lib.objectInit ∈ zG := zG_T 235 (by decide +kernel) (by decide +kernel)
theorem lk_Layer_32 : Cond.methodLink "TileStudio$Layer" 32 (zy m_Layer_init) ∈ zG ∧ Cond.instanceMethod (zy m_Layer_init) ∈ zG ∧ (zy m_Layer_init).name = "<init>" ∧ zret m_Layer_init = none := ⟨zG_T 368 (by decide +kernel) (by decide +kernel), zG_T 233 (by decide +kernel) (by decide +kernel), rfl, rfl⟩
theorem lk_Layer_35 : ("TileStudio$Layer", 35, zy m_TS_isInBox, "TileStudio") ∈ znests ∧ Cond.static (zy m_TS_isInBox) ∈ zG := ⟨by decide +kernel, zG_T 109 (by decide +kernel) (by decide +kernel)⟩
theorem lk_Layer_39 : Cond.methodLink "TileStudio$Layer" 39 (zy m_Layer_dotAt) ∈ zG ∧ Cond.instanceMethod (zy m_Layer_dotAt) ∈ zG ∧ Cond.selects (zy m_Layer_dotAt).cls (zy m_Layer_dotAt) (zy m_Layer_dotAt) ∈ zG := ⟨zG_T 104 (by decide +kernel) (by decide +kernel), zG_T 105 (by decide +kernel) (by decide +kernel), zG_T 106 (by decide +kernel) (by decide +kernel)⟩
theorem lk_Layer_43 : Cond.methodLink "TileStudio$Layer" 43 (zy m_Int_bitCount) ∈ zG ∧ Cond.static (zy m_Int_bitCount) ∈ zG := ⟨zG_T 111 (by decide +kernel) (by decide +kernel), zG_T 112 (by decide +kernel) (by decide +kernel)⟩
theorem ob_Painting_1 : Cond.methodLink "TileStudio$Painting" 1 Lib.objectInit ∈ zG := zG_T 423 (by decide +kernel) (by decide +kernel)
-- ('TileStudio$Painting', 33) invokevirtual: ('[I', 'clone', '()Ljava/lang/Object;')
theorem lk_Painting_51 : Cond.methodLink "TileStudio$Painting" 51 (zy m_Places_has) ∈ zG ∧ Cond.instanceMethod (zy m_Places_has) ∈ zG ∧ Cond.selects (zy m_Places_has).cls (zy m_Places_has) (zy m_Places_has) ∈ zG := ⟨zG_T 461 (by decide +kernel) (by decide +kernel), zG_T 462 (by decide +kernel) (by decide +kernel), zG_T 463 (by decide +kernel) (by decide +kernel)⟩
theorem lk_Painting_57 : Cond.methodLink "TileStudio$Painting" 57 (zy m_Painting_takes) ∈ zG ∧ Cond.instanceMethod (zy m_Painting_takes) ∈ zG ∧ Cond.selects (zy m_Painting_takes).cls (zy m_Painting_takes) (zy m_Painting_takes) ∈ zG := ⟨zG_T 457 (by decide +kernel) (by decide +kernel), zG_T 458 (by decide +kernel) (by decide +kernel), zG_T 459 (by decide +kernel) (by decide +kernel)⟩
theorem lk_Painting_61 : Cond.methodLink "TileStudio$Painting" 61 (zy m_Layer_withDots) ∈ zG ∧ Cond.instanceMethod (zy m_Layer_withDots) ∈ zG ∧ Cond.selects (zy m_Layer_withDots).cls (zy m_Layer_withDots) (zy m_Layer_withDots) ∈ zG := ⟨zG_T 473 (by decide +kernel) (by decide +kernel), zG_T 474 (by decide +kernel) (by decide +kernel), zG_T 475 (by decide +kernel) (by decide +kernel)⟩
theorem lk_Painting_65 : Cond.methodLink "TileStudio$Painting" 65 (zy m_Picture_withLayer) ∈ zG ∧ Cond.instanceMethod (zy m_Picture_withLayer) ∈ zG ∧ Cond.selects (zy m_Picture_withLayer).cls (zy m_Picture_withLayer) (zy m_Picture_withLayer) ∈ zG := ⟨zG_T 477 (by decide +kernel) (by decide +kernel), zG_T 370 (by decide +kernel) (by decide +kernel), zG_T 371 (by decide +kernel) (by decide +kernel)⟩
theorem ob_Picture_1 : Cond.methodLink "TileStudio$Picture" 1 Lib.objectInit ∈ zG := zG_T 265 (by decide +kernel) (by decide +kernel)
theorem lk_Picture_24 : Cond.methodLink "TileStudio$Picture" 24 (zy m_Picture_init) ∈ zG ∧ Cond.instanceMethod (zy m_Picture_init) ∈ zG ∧ (zy m_Picture_init).name = "<init>" ∧ zret m_Picture_init = none := ⟨zG_T 326 (by decide +kernel) (by decide +kernel), zG_T 263 (by decide +kernel) (by decide +kernel), rfl, rfl⟩
theorem lk_Picture_29 : Cond.methodLink "TileStudio$Picture" 29 (zy m_Picture_withLayers) ∈ zG ∧ Cond.instanceMethod (zy m_Picture_withLayers) ∈ zG ∧ Cond.selects (zy m_Picture_withLayers).cls (zy m_Picture_withLayers) (zy m_Picture_withLayers) ∈ zG := ⟨zG_T 374 (by decide +kernel) (by decide +kernel), zG_T 322 (by decide +kernel) (by decide +kernel), zG_T 323 (by decide +kernel) (by decide +kernel)⟩
theorem lk_Picture_33 : Cond.methodLink "TileStudio$Picture" 33 (zy m_Layer_fullTiles) ∈ zG ∧ Cond.instanceMethod (zy m_Layer_fullTiles) ∈ zG ∧ Cond.selects (zy m_Layer_fullTiles).cls (zy m_Layer_fullTiles) (zy m_Layer_fullTiles) ∈ zG := ⟨zG_T 100 (by decide +kernel) (by decide +kernel), zG_T 101 (by decide +kernel) (by decide +kernel), zG_T 102 (by decide +kernel) (by decide +kernel)⟩
theorem ob_Places_1 : Cond.methodLink "TileStudio$Places" 1 Lib.objectInit ∈ zG := zG_T 202 (by decide +kernel) (by decide +kernel)
theorem lk_Places_17 : Cond.methodLink "TileStudio$Places" 17 (zy m_Places_rowAt) ∈ zG ∧ Cond.instanceMethod (zy m_Places_rowAt) ∈ zG ∧ Cond.selects (zy m_Places_rowAt).cls (zy m_Places_rowAt) (zy m_Places_rowAt) ∈ zG := ⟨zG_T 465 (by decide +kernel) (by decide +kernel), zG_T 466 (by decide +kernel) (by decide +kernel), zG_T 467 (by decide +kernel) (by decide +kernel)⟩
theorem lk_Places_21 : ("TileStudio$Places", 21, zy m_TS_isInBox, "TileStudio") ∈ znests ∧ Cond.static (zy m_TS_isInBox) ∈ zG := ⟨by decide +kernel, zG_T 109 (by decide +kernel) (by decide +kernel)⟩
theorem lk_Places_27 : Cond.methodLink "TileStudio$Places" 27 (zy m_Int_bitCount) ∈ zG ∧ Cond.static (zy m_Int_bitCount) ∈ zG := ⟨zG_T 121 (by decide +kernel) (by decide +kernel), zG_T 112 (by decide +kernel) (by decide +kernel)⟩
theorem lk_L_7 : Cond.methodLink "TileStudioLaw" 7 (zy m_TS_make) ∈ zG ∧ Cond.instanceMethod (zy m_TS_make) ∈ zG ∧ Cond.selects (zy m_TS_make).cls (zy m_TS_make) (zy m_TS_make) ∈ zG := ⟨zG_T 126 (by decide +kernel) (by decide +kernel), zG_T 127 (by decide +kernel) (by decide +kernel), zG_T 128 (by decide +kernel) (by decide +kernel)⟩
theorem lk_L_15 : Cond.methodLink "TileStudioLaw" 15 (zy m_TS_layer) ∈ zG ∧ Cond.instanceMethod (zy m_TS_layer) ∈ zG ∧ Cond.selects (zy m_TS_layer).cls (zy m_TS_layer) (zy m_TS_layer) ∈ zG := ⟨zG_T 295 (by decide +kernel) (by decide +kernel), zG_T 296 (by decide +kernel) (by decide +kernel), zG_T 297 (by decide +kernel) (by decide +kernel)⟩
theorem lk_L_21 : Cond.methodLink "TileStudioLaw" 21 (zy m_TS_drop) ∈ zG ∧ Cond.instanceMethod (zy m_TS_drop) ∈ zG ∧ Cond.selects (zy m_TS_drop).cls (zy m_TS_drop) (zy m_TS_drop) ∈ zG := ⟨zG_T 338 (by decide +kernel) (by decide +kernel), zG_T 339 (by decide +kernel) (by decide +kernel), zG_T 340 (by decide +kernel) (by decide +kernel)⟩
theorem lk_L_24 : Cond.methodLink "TileStudioLaw" 24 (zy m_TS_move) ∈ zG ∧ Cond.instanceMethod (zy m_TS_move) ∈ zG ∧ Cond.selects (zy m_TS_move).cls (zy m_TS_move) (zy m_TS_move) ∈ zG := ⟨zG_T 352 (by decide +kernel) (by decide +kernel), zG_T 353 (by decide +kernel) (by decide +kernel), zG_T 354 (by decide +kernel) (by decide +kernel)⟩
theorem lk_L_27 : Cond.methodLink "TileStudioLaw" 27 (zy m_TS_mode) ∈ zG ∧ Cond.instanceMethod (zy m_TS_mode) ∈ zG ∧ Cond.selects (zy m_TS_mode).cls (zy m_TS_mode) (zy m_TS_mode) ∈ zG := ⟨zG_T 359 (by decide +kernel) (by decide +kernel), zG_T 360 (by decide +kernel) (by decide +kernel), zG_T 361 (by decide +kernel) (by decide +kernel)⟩
theorem lk_L_31 : Cond.methodLink "TileStudioLaw" 31 (zy m_TS_select) ∈ zG ∧ Cond.instanceMethod (zy m_TS_select) ∈ zG ∧ Cond.selects (zy m_TS_select).cls (zy m_TS_select) (zy m_TS_select) ∈ zG := ⟨zG_T 378 (by decide +kernel) (by decide +kernel), zG_T 379 (by decide +kernel) (by decide +kernel), zG_T 380 (by decide +kernel) (by decide +kernel)⟩
theorem lk_L_35 : Cond.methodLink "TileStudioLaw" 35 (zy m_TS_brush) ∈ zG ∧ Cond.instanceMethod (zy m_TS_brush) ∈ zG ∧ Cond.selects (zy m_TS_brush).cls (zy m_TS_brush) (zy m_TS_brush) ∈ zG := ⟨zG_T 403 (by decide +kernel) (by decide +kernel), zG_T 404 (by decide +kernel) (by decide +kernel), zG_T 405 (by decide +kernel) (by decide +kernel)⟩
theorem lk_L_38 : Cond.methodLink "TileStudioLaw" 38 (zy m_TS_fill) ∈ zG ∧ Cond.instanceMethod (zy m_TS_fill) ∈ zG ∧ Cond.selects (zy m_TS_fill).cls (zy m_TS_fill) (zy m_TS_fill) ∈ zG := ⟨zG_T 410 (by decide +kernel) (by decide +kernel), zG_T 411 (by decide +kernel) (by decide +kernel), zG_T 412 (by decide +kernel) (by decide +kernel)⟩
theorem lk_L_41 : Cond.methodLink "TileStudioLaw" 41 (zy m_TS_gradient) ∈ zG ∧ Cond.instanceMethod (zy m_TS_gradient) ∈ zG ∧ Cond.selects (zy m_TS_gradient).cls (zy m_TS_gradient) (zy m_TS_gradient) ∈ zG := ⟨zG_T 481 (by decide +kernel) (by decide +kernel), zG_T 482 (by decide +kernel) (by decide +kernel), zG_T 483 (by decide +kernel) (by decide +kernel)⟩
theorem lk_L_45 : Cond.methodLink "TileStudioLaw" 45 (zy m_TS_stroke) ∈ zG ∧ Cond.instanceMethod (zy m_TS_stroke) ∈ zG ∧ Cond.selects (zy m_TS_stroke).cls (zy m_TS_stroke) (zy m_TS_stroke) ∈ zG := ⟨zG_T 497 (by decide +kernel) (by decide +kernel), zG_T 498 (by decide +kernel) (by decide +kernel), zG_T 499 (by decide +kernel) (by decide +kernel)⟩
theorem lk_L_49 : Cond.methodLink "TileStudioLaw" 49 (zy m_TS_flood) ∈ zG ∧ Cond.instanceMethod (zy m_TS_flood) ∈ zG ∧ Cond.selects (zy m_TS_flood).cls (zy m_TS_flood) (zy m_TS_flood) ∈ zG := ⟨zG_T 540 (by decide +kernel) (by decide +kernel), zG_T 541 (by decide +kernel) (by decide +kernel), zG_T 542 (by decide +kernel) (by decide +kernel)⟩
theorem lk_L_53 : Cond.methodLink "TileStudioLaw" 53 (zy m_TS_copy) ∈ zG ∧ Cond.instanceMethod (zy m_TS_copy) ∈ zG ∧ Cond.selects (zy m_TS_copy).cls (zy m_TS_copy) (zy m_TS_copy) ∈ zG := ⟨zG_T 562 (by decide +kernel) (by decide +kernel), zG_T 563 (by decide +kernel) (by decide +kernel), zG_T 564 (by decide +kernel) (by decide +kernel)⟩
theorem lk_L_57 : Cond.methodLink "TileStudioLaw" 57 (zy m_TS_paste) ∈ zG ∧ Cond.instanceMethod (zy m_TS_paste) ∈ zG ∧ Cond.selects (zy m_TS_paste).cls (zy m_TS_paste) (zy m_TS_paste) ∈ zG := ⟨zG_T 585 (by decide +kernel) (by decide +kernel), zG_T 586 (by decide +kernel) (by decide +kernel), zG_T 587 (by decide +kernel) (by decide +kernel)⟩
theorem lk_L_63 : Cond.methodLink "TileStudioLaw" 63 (zy m_TS_mirror) ∈ zG ∧ Cond.instanceMethod (zy m_TS_mirror) ∈ zG ∧ Cond.selects (zy m_TS_mirror).cls (zy m_TS_mirror) (zy m_TS_mirror) ∈ zG := ⟨zG_T 607 (by decide +kernel) (by decide +kernel), zG_T 608 (by decide +kernel) (by decide +kernel), zG_T 609 (by decide +kernel) (by decide +kernel)⟩
theorem lk_L_66 : Cond.methodLink "TileStudioLaw" 66 (zy m_TS_shift) ∈ zG ∧ Cond.instanceMethod (zy m_TS_shift) ∈ zG ∧ Cond.selects (zy m_TS_shift).cls (zy m_TS_shift) (zy m_TS_shift) ∈ zG := ⟨zG_T 614 (by decide +kernel) (by decide +kernel), zG_T 615 (by decide +kernel) (by decide +kernel), zG_T 616 (by decide +kernel) (by decide +kernel)⟩
theorem lk_L_69 : Cond.methodLink "TileStudioLaw" 69 (zy m_TS_blur) ∈ zG ∧ Cond.instanceMethod (zy m_TS_blur) ∈ zG ∧ Cond.selects (zy m_TS_blur).cls (zy m_TS_blur) (zy m_TS_blur) ∈ zG := ⟨zG_T 621 (by decide +kernel) (by decide +kernel), zG_T 622 (by decide +kernel) (by decide +kernel), zG_T 623 (by decide +kernel) (by decide +kernel)⟩
theorem lk_L_72 : Cond.methodLink "TileStudioLaw" 72 (zy m_TS_save) ∈ zG ∧ Cond.instanceMethod (zy m_TS_save) ∈ zG ∧ Cond.selects (zy m_TS_save).cls (zy m_TS_save) (zy m_TS_save) ∈ zG := ⟨zG_T 637 (by decide +kernel) (by decide +kernel), zG_T 638 (by decide +kernel) (by decide +kernel), zG_T 639 (by decide +kernel) (by decide +kernel)⟩
theorem lk_L_75 : Cond.methodLink "TileStudioLaw" 75 (zy m_TS_open) ∈ zG ∧ Cond.instanceMethod (zy m_TS_open) ∈ zG ∧ Cond.selects (zy m_TS_open).cls (zy m_TS_open) (zy m_TS_open) ∈ zG := ⟨zG_T 644 (by decide +kernel) (by decide +kernel), zG_T 645 (by decide +kernel) (by decide +kernel), zG_T 646 (by decide +kernel) (by decide +kernel)⟩
theorem lk_L_78 : Cond.methodLink "TileStudioLaw" 78 (zy m_TS_dot) ∈ zG ∧ Cond.instanceMethod (zy m_TS_dot) ∈ zG ∧ Cond.selects (zy m_TS_dot).cls (zy m_TS_dot) (zy m_TS_dot) ∈ zG := ⟨zG_T 652 (by decide +kernel) (by decide +kernel), zG_T 653 (by decide +kernel) (by decide +kernel), zG_T 654 (by decide +kernel) (by decide +kernel)⟩
theorem lk_L_83 : Cond.methodLink "TileStudioLaw" 83 (zy m_TS_view) ∈ zG ∧ Cond.instanceMethod (zy m_TS_view) ∈ zG ∧ Cond.selects (zy m_TS_view).cls (zy m_TS_view) (zy m_TS_view) ∈ zG := ⟨zG_T 689 (by decide +kernel) (by decide +kernel), zG_T 690 (by decide +kernel) (by decide +kernel), zG_T 691 (by decide +kernel) (by decide +kernel)⟩
theorem lk_L_86 : Cond.methodLink "TileStudioLaw" 86 (zy m_TS_histogram) ∈ zG ∧ Cond.instanceMethod (zy m_TS_histogram) ∈ zG ∧ Cond.selects (zy m_TS_histogram).cls (zy m_TS_histogram) (zy m_TS_histogram) ∈ zG := ⟨zG_T 696 (by decide +kernel) (by decide +kernel), zG_T 697 (by decide +kernel) (by decide +kernel), zG_T 698 (by decide +kernel) (by decide +kernel)⟩
theorem lk_L_89 : Cond.methodLink "TileStudioLaw" 89 (zy m_TS_init) ∈ zG ∧ Cond.instanceMethod (zy m_TS_init) ∈ zG ∧ (zy m_TS_init).name = "<init>" ∧ zret m_TS_init = none := ⟨zG_T 21 (by decide +kernel) (by decide +kernel), zG_T 22 (by decide +kernel) (by decide +kernel), rfl, rfl⟩
theorem lk_L_92 : Cond.methodLink "TileStudioLaw" 92 (zy m_M_init) ∈ zG ∧ Cond.instanceMethod (zy m_M_init) ∈ zG ∧ (zy m_M_init).name = "<init>" ∧ zret m_M_init = none := ⟨zG_T 702 (by decide +kernel) (by decide +kernel), zG_T 703 (by decide +kernel) (by decide +kernel), rfl, rfl⟩
theorem lk_L_93 : Cond.methodLink "TileStudioLaw" 93 (zy m_L_make) ∈ zG ∧ Cond.static (zy m_L_make) ∈ zG := ⟨zG_T 122 (by decide +kernel) (by decide +kernel), zG_T 123 (by decide +kernel) (by decide +kernel)⟩
theorem lk_L_98 : Cond.methodLink "TileStudioLaw" 98 (zy m_M_make) ∈ zG ∧ Cond.instanceMethod (zy m_M_make) ∈ zG ∧ Cond.selects (zy m_M_make).cls (zy m_M_make) (zy m_M_make) ∈ zG := ⟨zG_T 775 (by decide +kernel) (by decide +kernel), zG_T 776 (by decide +kernel) (by decide +kernel), zG_T 777 (by decide +kernel) (by decide +kernel)⟩
theorem lk_L_99 : Cond.methodLink "TileStudioLaw" 99 (zy m_M_thrown) ∈ zG ∧ Cond.instanceMethod (zy m_M_thrown) ∈ zG ∧ Cond.selects (zy m_M_thrown).cls (zy m_M_thrown) (zy m_M_thrown) ∈ zG := ⟨zG_T 771 (by decide +kernel) (by decide +kernel), zG_T 772 (by decide +kernel) (by decide +kernel), zG_T 773 (by decide +kernel) (by decide +kernel)⟩
theorem lk_L_103 : Cond.methodLink "TileStudioLaw" 103 (zy m_L_layer) ∈ zG ∧ Cond.static (zy m_L_layer) ∈ zG := ⟨zG_T 291 (by decide +kernel) (by decide +kernel), zG_T 292 (by decide +kernel) (by decide +kernel)⟩
theorem lk_L_106 : Cond.methodLink "TileStudioLaw" 106 (zy m_M_layer) ∈ zG ∧ Cond.instanceMethod (zy m_M_layer) ∈ zG ∧ Cond.selects (zy m_M_layer).cls (zy m_M_layer) (zy m_M_layer) ∈ zG := ⟨zG_T 790 (by decide +kernel) (by decide +kernel), zG_T 791 (by decide +kernel) (by decide +kernel), zG_T 792 (by decide +kernel) (by decide +kernel)⟩
theorem lk_L_107 : Cond.methodLink "TileStudioLaw" 107 (zy m_L_drop) ∈ zG ∧ Cond.static (zy m_L_drop) ∈ zG := ⟨zG_T 335 (by decide +kernel) (by decide +kernel), zG_T 336 (by decide +kernel) (by decide +kernel)⟩
theorem lk_L_109 : Cond.methodLink "TileStudioLaw" 109 (zy m_M_drop) ∈ zG ∧ Cond.instanceMethod (zy m_M_drop) ∈ zG ∧ Cond.selects (zy m_M_drop).cls (zy m_M_drop) (zy m_M_drop) ∈ zG := ⟨zG_T 810 (by decide +kernel) (by decide +kernel), zG_T 811 (by decide +kernel) (by decide +kernel), zG_T 812 (by decide +kernel) (by decide +kernel)⟩
theorem lk_L_110 : Cond.methodLink "TileStudioLaw" 110 (zy m_L_move) ∈ zG ∧ Cond.static (zy m_L_move) ∈ zG := ⟨zG_T 349 (by decide +kernel) (by decide +kernel), zG_T 350 (by decide +kernel) (by decide +kernel)⟩
theorem lk_L_112 : Cond.methodLink "TileStudioLaw" 112 (zy m_M_move) ∈ zG ∧ Cond.instanceMethod (zy m_M_move) ∈ zG ∧ Cond.selects (zy m_M_move).cls (zy m_M_move) (zy m_M_move) ∈ zG := ⟨zG_T 818 (by decide +kernel) (by decide +kernel), zG_T 819 (by decide +kernel) (by decide +kernel), zG_T 820 (by decide +kernel) (by decide +kernel)⟩
theorem lk_L_113 : Cond.methodLink "TileStudioLaw" 113 (zy m_L_mode) ∈ zG ∧ Cond.static (zy m_L_mode) ∈ zG := ⟨zG_T 356 (by decide +kernel) (by decide +kernel), zG_T 357 (by decide +kernel) (by decide +kernel)⟩
theorem lk_L_116 : Cond.methodLink "TileStudioLaw" 116 (zy m_M_mode) ∈ zG ∧ Cond.instanceMethod (zy m_M_mode) ∈ zG ∧ Cond.selects (zy m_M_mode).cls (zy m_M_mode) (zy m_M_mode) ∈ zG := ⟨zG_T 822 (by decide +kernel) (by decide +kernel), zG_T 823 (by decide +kernel) (by decide +kernel), zG_T 824 (by decide +kernel) (by decide +kernel)⟩
theorem lk_L_117 : Cond.methodLink "TileStudioLaw" 117 (zy m_L_select) ∈ zG ∧ Cond.static (zy m_L_select) ∈ zG := ⟨zG_T 375 (by decide +kernel) (by decide +kernel), zG_T 376 (by decide +kernel) (by decide +kernel)⟩
theorem lk_L_120 : Cond.methodLink "TileStudioLaw" 120 (zy m_M_select) ∈ zG ∧ Cond.instanceMethod (zy m_M_select) ∈ zG ∧ Cond.selects (zy m_M_select).cls (zy m_M_select) (zy m_M_select) ∈ zG := ⟨zG_T 826 (by decide +kernel) (by decide +kernel), zG_T 827 (by decide +kernel) (by decide +kernel), zG_T 828 (by decide +kernel) (by decide +kernel)⟩
theorem lk_L_121 : Cond.methodLink "TileStudioLaw" 121 (zy m_L_brush) ∈ zG ∧ Cond.static (zy m_L_brush) ∈ zG := ⟨zG_T 400 (by decide +kernel) (by decide +kernel), zG_T 401 (by decide +kernel) (by decide +kernel)⟩
theorem lk_L_123 : Cond.methodLink "TileStudioLaw" 123 (zy m_M_brush) ∈ zG ∧ Cond.instanceMethod (zy m_M_brush) ∈ zG ∧ Cond.selects (zy m_M_brush).cls (zy m_M_brush) (zy m_M_brush) ∈ zG := ⟨zG_T 851 (by decide +kernel) (by decide +kernel), zG_T 852 (by decide +kernel) (by decide +kernel), zG_T 853 (by decide +kernel) (by decide +kernel)⟩
theorem lk_L_124 : Cond.methodLink "TileStudioLaw" 124 (zy m_L_fill) ∈ zG ∧ Cond.static (zy m_L_fill) ∈ zG := ⟨zG_T 407 (by decide +kernel) (by decide +kernel), zG_T 408 (by decide +kernel) (by decide +kernel)⟩
theorem lk_L_126 : Cond.methodLink "TileStudioLaw" 126 (zy m_M_fill) ∈ zG ∧ Cond.instanceMethod (zy m_M_fill) ∈ zG ∧ Cond.selects (zy m_M_fill).cls (zy m_M_fill) (zy m_M_fill) ∈ zG := ⟨zG_T 855 (by decide +kernel) (by decide +kernel), zG_T 856 (by decide +kernel) (by decide +kernel), zG_T 857 (by decide +kernel) (by decide +kernel)⟩
theorem lk_L_127 : Cond.methodLink "TileStudioLaw" 127 (zy m_L_gradient) ∈ zG ∧ Cond.static (zy m_L_gradient) ∈ zG := ⟨zG_T 478 (by decide +kernel) (by decide +kernel), zG_T 479 (by decide +kernel) (by decide +kernel)⟩
theorem lk_L_130 : Cond.methodLink "TileStudioLaw" 130 (zy m_M_gradient) ∈ zG ∧ Cond.instanceMethod (zy m_M_gradient) ∈ zG ∧ Cond.selects (zy m_M_gradient).cls (zy m_M_gradient) (zy m_M_gradient) ∈ zG := ⟨zG_T 871 (by decide +kernel) (by decide +kernel), zG_T 872 (by decide +kernel) (by decide +kernel), zG_T 873 (by decide +kernel) (by decide +kernel)⟩
theorem lk_L_131 : Cond.methodLink "TileStudioLaw" 131 (zy m_L_stroke) ∈ zG ∧ Cond.static (zy m_L_stroke) ∈ zG := ⟨zG_T 494 (by decide +kernel) (by decide +kernel), zG_T 495 (by decide +kernel) (by decide +kernel)⟩
theorem lk_L_134 : Cond.methodLink "TileStudioLaw" 134 (zy m_M_stroke) ∈ zG ∧ Cond.instanceMethod (zy m_M_stroke) ∈ zG ∧ Cond.selects (zy m_M_stroke).cls (zy m_M_stroke) (zy m_M_stroke) ∈ zG := ⟨zG_T 878 (by decide +kernel) (by decide +kernel), zG_T 879 (by decide +kernel) (by decide +kernel), zG_T 880 (by decide +kernel) (by decide +kernel)⟩
theorem lk_L_135 : Cond.methodLink "TileStudioLaw" 135 (zy m_L_flood) ∈ zG ∧ Cond.static (zy m_L_flood) ∈ zG := ⟨zG_T 537 (by decide +kernel) (by decide +kernel), zG_T 538 (by decide +kernel) (by decide +kernel)⟩
theorem lk_L_138 : Cond.methodLink "TileStudioLaw" 138 (zy m_M_flood) ∈ zG ∧ Cond.instanceMethod (zy m_M_flood) ∈ zG ∧ Cond.selects (zy m_M_flood).cls (zy m_M_flood) (zy m_M_flood) ∈ zG := ⟨zG_T 900 (by decide +kernel) (by decide +kernel), zG_T 901 (by decide +kernel) (by decide +kernel), zG_T 902 (by decide +kernel) (by decide +kernel)⟩
theorem lk_L_139 : Cond.methodLink "TileStudioLaw" 139 (zy m_L_copy) ∈ zG ∧ Cond.static (zy m_L_copy) ∈ zG := ⟨zG_T 559 (by decide +kernel) (by decide +kernel), zG_T 560 (by decide +kernel) (by decide +kernel)⟩
theorem lk_L_142 : Cond.methodLink "TileStudioLaw" 142 (zy m_M_copy) ∈ zG ∧ Cond.instanceMethod (zy m_M_copy) ∈ zG ∧ Cond.selects (zy m_M_copy).cls (zy m_M_copy) (zy m_M_copy) ∈ zG := ⟨zG_T 912 (by decide +kernel) (by decide +kernel), zG_T 913 (by decide +kernel) (by decide +kernel), zG_T 914 (by decide +kernel) (by decide +kernel)⟩
theorem lk_L_143 : Cond.methodLink "TileStudioLaw" 143 (zy m_L_paste) ∈ zG ∧ Cond.static (zy m_L_paste) ∈ zG := ⟨zG_T 581 (by decide +kernel) (by decide +kernel), zG_T 582 (by decide +kernel) (by decide +kernel)⟩
theorem lk_L_146 : Cond.methodLink "TileStudioLaw" 146 (zy m_M_paste) ∈ zG ∧ Cond.instanceMethod (zy m_M_paste) ∈ zG ∧ Cond.selects (zy m_M_paste).cls (zy m_M_paste) (zy m_M_paste) ∈ zG := ⟨zG_T 916 (by decide +kernel) (by decide +kernel), zG_T 917 (by decide +kernel) (by decide +kernel), zG_T 918 (by decide +kernel) (by decide +kernel)⟩
theorem lk_L_147 : Cond.methodLink "TileStudioLaw" 147 (zy m_L_mirror) ∈ zG ∧ Cond.static (zy m_L_mirror) ∈ zG := ⟨zG_T 604 (by decide +kernel) (by decide +kernel), zG_T 605 (by decide +kernel) (by decide +kernel)⟩
theorem lk_L_149 : Cond.methodLink "TileStudioLaw" 149 (zy m_M_mirror) ∈ zG ∧ Cond.instanceMethod (zy m_M_mirror) ∈ zG ∧ Cond.selects (zy m_M_mirror).cls (zy m_M_mirror) (zy m_M_mirror) ∈ zG := ⟨zG_T 920 (by decide +kernel) (by decide +kernel), zG_T 921 (by decide +kernel) (by decide +kernel), zG_T 922 (by decide +kernel) (by decide +kernel)⟩
theorem lk_L_150 : Cond.methodLink "TileStudioLaw" 150 (zy m_L_shift) ∈ zG ∧ Cond.static (zy m_L_shift) ∈ zG := ⟨zG_T 611 (by decide +kernel) (by decide +kernel), zG_T 612 (by decide +kernel) (by decide +kernel)⟩
theorem lk_L_152 : Cond.methodLink "TileStudioLaw" 152 (zy m_M_shift) ∈ zG ∧ Cond.instanceMethod (zy m_M_shift) ∈ zG ∧ Cond.selects (zy m_M_shift).cls (zy m_M_shift) (zy m_M_shift) ∈ zG := ⟨zG_T 924 (by decide +kernel) (by decide +kernel), zG_T 925 (by decide +kernel) (by decide +kernel), zG_T 926 (by decide +kernel) (by decide +kernel)⟩
theorem lk_L_153 : Cond.methodLink "TileStudioLaw" 153 (zy m_L_blur) ∈ zG ∧ Cond.static (zy m_L_blur) ∈ zG := ⟨zG_T 618 (by decide +kernel) (by decide +kernel), zG_T 619 (by decide +kernel) (by decide +kernel)⟩
theorem lk_L_155 : Cond.methodLink "TileStudioLaw" 155 (zy m_M_blur) ∈ zG ∧ Cond.instanceMethod (zy m_M_blur) ∈ zG ∧ Cond.selects (zy m_M_blur).cls (zy m_M_blur) (zy m_M_blur) ∈ zG := ⟨zG_T 932 (by decide +kernel) (by decide +kernel), zG_T 933 (by decide +kernel) (by decide +kernel), zG_T 934 (by decide +kernel) (by decide +kernel)⟩
theorem lk_L_156 : Cond.methodLink "TileStudioLaw" 156 (zy m_TS_undo) ∈ zG ∧ Cond.instanceMethod (zy m_TS_undo) ∈ zG ∧ Cond.selects (zy m_TS_undo).cls (zy m_TS_undo) (zy m_TS_undo) ∈ zG := ⟨zG_T 61 (by decide +kernel) (by decide +kernel), zG_T 62 (by decide +kernel) (by decide +kernel), zG_T 63 (by decide +kernel) (by decide +kernel)⟩
theorem lk_L_160 : Cond.methodLink "TileStudioLaw" 160 (zy m_M_undo) ∈ zG ∧ Cond.instanceMethod (zy m_M_undo) ∈ zG ∧ Cond.selects (zy m_M_undo).cls (zy m_M_undo) (zy m_M_undo) ∈ zG := ⟨zG_T 936 (by decide +kernel) (by decide +kernel), zG_T 937 (by decide +kernel) (by decide +kernel), zG_T 938 (by decide +kernel) (by decide +kernel)⟩
theorem lk_L_161 : Cond.methodLink "TileStudioLaw" 161 (zy m_TS_redo) ∈ zG ∧ Cond.instanceMethod (zy m_TS_redo) ∈ zG ∧ Cond.selects (zy m_TS_redo).cls (zy m_TS_redo) (zy m_TS_redo) ∈ zG := ⟨zG_T 69 (by decide +kernel) (by decide +kernel), zG_T 70 (by decide +kernel) (by decide +kernel), zG_T 71 (by decide +kernel) (by decide +kernel)⟩
theorem lk_L_164 : Cond.methodLink "TileStudioLaw" 164 (zy m_M_redo) ∈ zG ∧ Cond.instanceMethod (zy m_M_redo) ∈ zG ∧ Cond.selects (zy m_M_redo).cls (zy m_M_redo) (zy m_M_redo) ∈ zG := ⟨zG_T 940 (by decide +kernel) (by decide +kernel), zG_T 941 (by decide +kernel) (by decide +kernel), zG_T 942 (by decide +kernel) (by decide +kernel)⟩
theorem lk_L_165 : Cond.methodLink "TileStudioLaw" 165 (zy m_L_save) ∈ zG ∧ Cond.static (zy m_L_save) ∈ zG := ⟨zG_T 634 (by decide +kernel) (by decide +kernel), zG_T 635 (by decide +kernel) (by decide +kernel)⟩
theorem lk_L_167 : Cond.methodLink "TileStudioLaw" 167 (zy m_M_save) ∈ zG ∧ Cond.instanceMethod (zy m_M_save) ∈ zG ∧ Cond.selects (zy m_M_save).cls (zy m_M_save) (zy m_M_save) ∈ zG := ⟨zG_T 944 (by decide +kernel) (by decide +kernel), zG_T 945 (by decide +kernel) (by decide +kernel), zG_T 946 (by decide +kernel) (by decide +kernel)⟩
theorem lk_L_168 : Cond.methodLink "TileStudioLaw" 168 (zy m_L_open) ∈ zG ∧ Cond.static (zy m_L_open) ∈ zG := ⟨zG_T 641 (by decide +kernel) (by decide +kernel), zG_T 642 (by decide +kernel) (by decide +kernel)⟩
theorem lk_L_171 : Cond.methodLink "TileStudioLaw" 171 (zy m_M_open) ∈ zG ∧ Cond.instanceMethod (zy m_M_open) ∈ zG ∧ Cond.selects (zy m_M_open).cls (zy m_M_open) (zy m_M_open) ∈ zG := ⟨zG_T 952 (by decide +kernel) (by decide +kernel), zG_T 953 (by decide +kernel) (by decide +kernel), zG_T 954 (by decide +kernel) (by decide +kernel)⟩
theorem lk_L_172 : Cond.methodLink "TileStudioLaw" 172 (zy m_L_dot) ∈ zG ∧ Cond.static (zy m_L_dot) ∈ zG := ⟨zG_T 648 (by decide +kernel) (by decide +kernel), zG_T 649 (by decide +kernel) (by decide +kernel)⟩
theorem lk_L_174 : Cond.methodLink "TileStudioLaw" 174 (zy m_M_dot) ∈ zG ∧ Cond.instanceMethod (zy m_M_dot) ∈ zG ∧ Cond.selects (zy m_M_dot).cls (zy m_M_dot) (zy m_M_dot) ∈ zG := ⟨zG_T 956 (by decide +kernel) (by decide +kernel), zG_T 957 (by decide +kernel) (by decide +kernel), zG_T 958 (by decide +kernel) (by decide +kernel)⟩
theorem lk_L_175 : Cond.methodLink "TileStudioLaw" 175 (zy m_L_view) ∈ zG ∧ Cond.static (zy m_L_view) ∈ zG := ⟨zG_T 686 (by decide +kernel) (by decide +kernel), zG_T 687 (by decide +kernel) (by decide +kernel)⟩
theorem lk_L_177 : Cond.methodLink "TileStudioLaw" 177 (zy m_M_view) ∈ zG ∧ Cond.instanceMethod (zy m_M_view) ∈ zG ∧ Cond.selects (zy m_M_view).cls (zy m_M_view) (zy m_M_view) ∈ zG := ⟨zG_T 975 (by decide +kernel) (by decide +kernel), zG_T 976 (by decide +kernel) (by decide +kernel), zG_T 977 (by decide +kernel) (by decide +kernel)⟩
theorem lk_L_178 : Cond.methodLink "TileStudioLaw" 178 (zy m_L_histogram) ∈ zG ∧ Cond.static (zy m_L_histogram) ∈ zG := ⟨zG_T 693 (by decide +kernel) (by decide +kernel), zG_T 694 (by decide +kernel) (by decide +kernel)⟩
theorem lk_L_180 : Cond.methodLink "TileStudioLaw" 180 (zy m_M_histogram) ∈ zG ∧ Cond.instanceMethod (zy m_M_histogram) ∈ zG ∧ Cond.selects (zy m_M_histogram).cls (zy m_M_histogram) (zy m_M_histogram) ∈ zG := ⟨zG_T 979 (by decide +kernel) (by decide +kernel), zG_T 980 (by decide +kernel) (by decide +kernel), zG_T 981 (by decide +kernel) (by decide +kernel)⟩
theorem lk_L_181 : Cond.methodLink "TileStudioLaw" 181 (zy m_TS_count) ∈ zG ∧ Cond.instanceMethod (zy m_TS_count) ∈ zG ∧ Cond.selects (zy m_TS_count).cls (zy m_TS_count) (zy m_TS_count) ∈ zG := ⟨zG_T 77 (by decide +kernel) (by decide +kernel), zG_T 78 (by decide +kernel) (by decide +kernel), zG_T 79 (by decide +kernel) (by decide +kernel)⟩
theorem lk_L_184 : Cond.methodLink "TileStudioLaw" 184 (zy m_M_count) ∈ zG ∧ Cond.instanceMethod (zy m_M_count) ∈ zG ∧ Cond.selects (zy m_M_count).cls (zy m_M_count) (zy m_M_count) ∈ zG := ⟨zG_T 983 (by decide +kernel) (by decide +kernel), zG_T 984 (by decide +kernel) (by decide +kernel), zG_T 985 (by decide +kernel) (by decide +kernel)⟩
theorem ob_M_1 : Cond.methodLink "TileStudioModel" 1 Lib.objectInit ∈ zG := zG_T 705 (by decide +kernel) (by decide +kernel)
theorem lk_M_54 : Cond.methodLink "TileStudioModel" 54 (zy m_M_copyLayerWays) ∈ zG ∧ Cond.instanceMethod (zy m_M_copyLayerWays) ∈ zG ∧ Cond.selects (zy m_M_copyLayerWays).cls (zy m_M_copyLayerWays) (zy m_M_copyLayerWays) ∈ zG := ⟨zG_T 802 (by decide +kernel) (by decide +kernel), zG_T 804 (by decide +kernel) (by decide +kernel), zG_S 8 (by decide +kernel) (by decide +kernel)⟩
theorem lk_M_61 : Cond.methodLink "TileStudioModel" 61 (zy m_M_copyPicture) ∈ zG ∧ Cond.instanceMethod (zy m_M_copyPicture) ∈ zG ∧ Cond.selects (zy m_M_copyPicture).cls (zy m_M_copyPicture) (zy m_M_copyPicture) ∈ zG := ⟨zG_T 798 (by decide +kernel) (by decide +kernel), zG_T 800 (by decide +kernel) (by decide +kernel), zG_S 7 (by decide +kernel) (by decide +kernel)⟩
theorem lk_M_71 : Cond.methodLink "TileStudioModel" 71 (zy m_M_in) ∈ zG ∧ Cond.static (zy m_M_in) ∈ zG := ⟨zG_T 779 (by decide +kernel) (by decide +kernel), zG_T 780 (by decide +kernel) (by decide +kernel)⟩
theorem lk_M_75 : Cond.methodLink "TileStudioModel" 75 (zy m_M_refuse) ∈ zG ∧ Cond.instanceMethod (zy m_M_refuse) ∈ zG ∧ Cond.selects (zy m_M_refuse).cls (zy m_M_refuse) (zy m_M_refuse) ∈ zG := ⟨zG_T 782 (by decide +kernel) (by decide +kernel), zG_T 784 (by decide +kernel) (by decide +kernel), zG_S 4 (by decide +kernel) (by decide +kernel)⟩
theorem lk_M_79 : Cond.methodLink "TileStudioModel" 79 (zy m_M_freshLayer) ∈ zG ∧ Cond.instanceMethod (zy m_M_freshLayer) ∈ zG ∧ Cond.selects (zy m_M_freshLayer).cls (zy m_M_freshLayer) (zy m_M_freshLayer) ∈ zG := ⟨zG_T 786 (by decide +kernel) (by decide +kernel), zG_T 788 (by decide +kernel) (by decide +kernel), zG_S 5 (by decide +kernel) (by decide +kernel)⟩
theorem lk_M_83 : Cond.methodLink "TileStudioModel" 83 (zy m_M_step) ∈ zG ∧ Cond.instanceMethod (zy m_M_step) ∈ zG ∧ Cond.selects (zy m_M_step).cls (zy m_M_step) (zy m_M_step) ∈ zG := ⟨zG_T 794 (by decide +kernel) (by decide +kernel), zG_T 796 (by decide +kernel) (by decide +kernel), zG_S 6 (by decide +kernel) (by decide +kernel)⟩
theorem lk_M_86 : Cond.methodLink "TileStudioModel" 86 (zy m_M_layerTo) ∈ zG ∧ Cond.instanceMethod (zy m_M_layerTo) ∈ zG ∧ Cond.selects (zy m_M_layerTo).cls (zy m_M_layerTo) (zy m_M_layerTo) ∈ zG := ⟨zG_T 806 (by decide +kernel) (by decide +kernel), zG_T 808 (by decide +kernel) (by decide +kernel), zG_S 9 (by decide +kernel) (by decide +kernel)⟩
theorem lk_M_89 : Cond.methodLink "TileStudioModel" 89 (zy m_M_isLayer) ∈ zG ∧ Cond.instanceMethod (zy m_M_isLayer) ∈ zG ∧ Cond.selects (zy m_M_isLayer).cls (zy m_M_isLayer) (zy m_M_isLayer) ∈ zG := ⟨zG_T 814 (by decide +kernel) (by decide +kernel), zG_T 816 (by decide +kernel) (by decide +kernel), zG_S 10 (by decide +kernel) (by decide +kernel)⟩
theorem lk_M_96 : Cond.methodLink "TileStudioModel" 96 (zy m_M_h) ∈ zG ∧ Cond.instanceMethod (zy m_M_h) ∈ zG ∧ Cond.selects (zy m_M_h).cls (zy m_M_h) (zy m_M_h) ∈ zG := ⟨zG_T 831 (by decide +kernel) (by decide +kernel), zG_T 833 (by decide +kernel) (by decide +kernel), zG_S 11 (by decide +kernel) (by decide +kernel)⟩
theorem lk_M_100 : Cond.methodLink "TileStudioModel" 100 (zy m_M_w) ∈ zG ∧ Cond.instanceMethod (zy m_M_w) ∈ zG ∧ Cond.selects (zy m_M_w).cls (zy m_M_w) (zy m_M_w) ∈ zG := ⟨zG_T 835 (by decide +kernel) (by decide +kernel), zG_T 837 (by decide +kernel) (by decide +kernel), zG_S 12 (by decide +kernel) (by decide +kernel)⟩
theorem lk_M_103 : Cond.methodLink "TileStudioModel" 103 (zy m_M_isInShape) ∈ zG ∧ Cond.static (zy m_M_isInShape) ∈ zG := ⟨zG_T 839 (by decide +kernel) (by decide +kernel), zG_T 840 (by decide +kernel) (by decide +kernel)⟩
theorem lk_M_107 : Cond.methodLink "TileStudioModel" 107 (zy m_M_selected) ∈ zG ∧ Cond.instanceMethod (zy m_M_selected) ∈ zG ∧ Cond.selects (zy m_M_selected).cls (zy m_M_selected) (zy m_M_selected) ∈ zG := ⟨zG_T 843 (by decide +kernel) (by decide +kernel), zG_T 845 (by decide +kernel) (by decide +kernel), zG_S 13 (by decide +kernel) (by decide +kernel)⟩
theorem lk_M_110 : Cond.methodLink "TileStudioModel" 110 (zy m_M_isChosen) ∈ zG ∧ Cond.instanceMethod (zy m_M_isChosen) ∈ zG ∧ Cond.selects (zy m_M_isChosen).cls (zy m_M_isChosen) (zy m_M_isChosen) ∈ zG := ⟨zG_T 847 (by decide +kernel) (by decide +kernel), zG_T 849 (by decide +kernel) (by decide +kernel), zG_S 14 (by decide +kernel) (by decide +kernel)⟩
theorem lk_M_114 : Cond.methodLink "TileStudioModel" 114 (zy m_M_div) ∈ zG ∧ Cond.static (zy m_M_div) ∈ zG := ⟨zG_T 894 (by decide +kernel) (by decide +kernel), zG_T 895 (by decide +kernel) (by decide +kernel)⟩
theorem lk_M_118 : Cond.methodLink "TileStudioModel" 118 (zy m_M_part) ∈ zG ∧ Cond.static (zy m_M_part) ∈ zG := ⟨zG_T 875 (by decide +kernel) (by decide +kernel), zG_T 876 (by decide +kernel) (by decide +kernel)⟩
theorem lk_M_122 : Cond.methodLink "TileStudioModel" 122 (zy m_M_mixed) ∈ zG ∧ Cond.static (zy m_M_mixed) ∈ zG := ⟨zG_T 897 (by decide +kernel) (by decide +kernel), zG_T 898 (by decide +kernel) (by decide +kernel)⟩
theorem lk_M_132 : Cond.methodLink "TileStudioModel" 132 (zy m_M_at) ∈ zG ∧ Cond.instanceMethod (zy m_M_at) ∈ zG ∧ Cond.selects (zy m_M_at).cls (zy m_M_at) (zy m_M_at) ∈ zG := ⟨zG_T 863 (by decide +kernel) (by decide +kernel), zG_T 865 (by decide +kernel) (by decide +kernel), zG_S 16 (by decide +kernel) (by decide +kernel)⟩
theorem lk_M_135 : Cond.methodLink "TileStudioModel" 135 (zy m_M_beginTool) ∈ zG ∧ Cond.instanceMethod (zy m_M_beginTool) ∈ zG ∧ Cond.selects (zy m_M_beginTool).cls (zy m_M_beginTool) (zy m_M_beginTool) ∈ zG := ⟨zG_T 859 (by decide +kernel) (by decide +kernel), zG_T 861 (by decide +kernel) (by decide +kernel), zG_S 15 (by decide +kernel) (by decide +kernel)⟩
theorem lk_M_138 : Cond.methodLink "TileStudioModel" 138 (zy m_M_put) ∈ zG ∧ Cond.instanceMethod (zy m_M_put) ∈ zG ∧ Cond.selects (zy m_M_put).cls (zy m_M_put) (zy m_M_put) ∈ zG := ⟨zG_T 867 (by decide +kernel) (by decide +kernel), zG_T 869 (by decide +kernel) (by decide +kernel), zG_S 17 (by decide +kernel) (by decide +kernel)⟩
theorem lk_M_142 : Cond.methodLink "TileStudioModel" 142 (zy m_M_low) ∈ zG ∧ Cond.static (zy m_M_low) ∈ zG := ⟨zG_T 882 (by decide +kernel) (by decide +kernel), zG_T 883 (by decide +kernel) (by decide +kernel)⟩
theorem lk_M_145 : Cond.methodLink "TileStudioModel" 145 (zy m_M_distance) ∈ zG ∧ Cond.static (zy m_M_distance) ∈ zG := ⟨zG_T 885 (by decide +kernel) (by decide +kernel), zG_T 886 (by decide +kernel) (by decide +kernel)⟩
theorem lk_M_148 : Cond.methodLink "TileStudioModel" 148 (zy m_M_down) ∈ zG ∧ Cond.static (zy m_M_down) ∈ zG := ⟨zG_T 888 (by decide +kernel) (by decide +kernel), zG_T 889 (by decide +kernel) (by decide +kernel)⟩
theorem lk_M_151 : Cond.methodLink "TileStudioModel" 151 (zy m_M_blend) ∈ zG ∧ Cond.static (zy m_M_blend) ∈ zG := ⟨zG_T 891 (by decide +kernel) (by decide +kernel), zG_T 892 (by decide +kernel) (by decide +kernel)⟩
theorem lk_M_155 : Cond.methodLink "TileStudioModel" 155 (zy m_M_isReached) ∈ zG ∧ Cond.instanceMethod (zy m_M_isReached) ∈ zG ∧ Cond.selects (zy m_M_isReached).cls (zy m_M_isReached) (zy m_M_isReached) ∈ zG := ⟨zG_T 904 (by decide +kernel) (by decide +kernel), zG_T 906 (by decide +kernel) (by decide +kernel), zG_S 18 (by decide +kernel) (by decide +kernel)⟩
theorem lk_M_158 : Cond.methodLink "TileStudioModel" 158 (zy m_M_isNear) ∈ zG ∧ Cond.instanceMethod (zy m_M_isNear) ∈ zG ∧ Cond.selects (zy m_M_isNear).cls (zy m_M_isNear) (zy m_M_isNear) ∈ zG := ⟨zG_T 908 (by decide +kernel) (by decide +kernel), zG_T 910 (by decide +kernel) (by decide +kernel), zG_S 19 (by decide +kernel) (by decide +kernel)⟩
end
section
theorem lk_M_164 : Cond.methodLink "TileStudioModel" 164 (zy m_M_before) ∈ zG ∧ Cond.instanceMethod (zy m_M_before) ∈ zG ∧ Cond.selects (zy m_M_before).cls (zy m_M_before) (zy m_M_before) ∈ zG := ⟨zG_T 928 (by decide +kernel) (by decide +kernel), zG_T 930 (by decide +kernel) (by decide +kernel), zG_S 20 (by decide +kernel) (by decide +kernel)⟩
theorem lk_M_167 : Cond.methodLink "TileStudioModel" 167 (zy m_M_tiles) ∈ zG ∧ Cond.instanceMethod (zy m_M_tiles) ∈ zG ∧ Cond.selects (zy m_M_tiles).cls (zy m_M_tiles) (zy m_M_tiles) ∈ zG := ⟨zG_T 948 (by decide +kernel) (by decide +kernel), zG_T 950 (by decide +kernel) (by decide +kernel), zG_S 21 (by decide +kernel) (by decide +kernel)⟩
theorem lk_M_173 : Cond.methodLink "TileStudioModel" 173 (zy m_M_half) ∈ zG ∧ Cond.static (zy m_M_half) ∈ zG := ⟨zG_T 964 (by decide +kernel) (by decide +kernel), zG_T 965 (by decide +kernel) (by decide +kernel)⟩
theorem lk_M_176 : Cond.methodLink "TileStudioModel" 176 (zy m_M_four) ∈ zG ∧ Cond.instanceMethod (zy m_M_four) ∈ zG ∧ Cond.selects (zy m_M_four).cls (zy m_M_four) (zy m_M_four) ∈ zG := ⟨zG_T 971 (by decide +kernel) (by decide +kernel), zG_T 973 (by decide +kernel) (by decide +kernel), zG_S 24 (by decide +kernel) (by decide +kernel)⟩
theorem lk_M_179 : Cond.methodLink "TileStudioModel" 179 (zy m_M_isPlace) ∈ zG ∧ Cond.instanceMethod (zy m_M_isPlace) ∈ zG ∧ Cond.selects (zy m_M_isPlace).cls (zy m_M_isPlace) (zy m_M_isPlace) ∈ zG := ⟨zG_T 960 (by decide +kernel) (by decide +kernel), zG_T 962 (by decide +kernel) (by decide +kernel), zG_S 22 (by decide +kernel) (by decide +kernel)⟩
theorem lk_M_182 : Cond.methodLink "TileStudioModel" 182 (zy m_M_climb) ∈ zG ∧ Cond.instanceMethod (zy m_M_climb) ∈ zG ∧ Cond.selects (zy m_M_climb).cls (zy m_M_climb) (zy m_M_climb) ∈ zG := ⟨zG_T 967 (by decide +kernel) (by decide +kernel), zG_T 969 (by decide +kernel) (by decide +kernel), zG_S 23 (by decide +kernel) (by decide +kernel)⟩
theorem cw_Copied_init : zCw m_Copied_init 2 := ⟨rfl, zG_T 570 (by decide +kernel) (by decide +kernel), zG_T 16 (by decide +kernel) (by decide +kernel), by decide +kernel, by decide⟩
theorem cw_Dots_areAlike : zCw m_Dots_areAlike 3 := ⟨rfl, zG_T 550 (by decide +kernel) (by decide +kernel), zG_T 14 (by decide +kernel) (by decide +kernel), by decide +kernel, by decide⟩
theorem cw_Dots_between : zCw m_Dots_between 4 := ⟨rfl, zG_T 487 (by decide +kernel) (by decide +kernel), zG_T 14 (by decide +kernel) (by decide +kernel), by decide +kernel, by decide⟩
theorem cw_Dots_blended : zCw m_Dots_blended 4 := ⟨rfl, zG_T 526 (by decide +kernel) (by decide +kernel), zG_T 14 (by decide +kernel) (by decide +kernel), by decide +kernel, by decide⟩
theorem cw_Dots_byteOf : zCw m_Dots_byteOf 2 := ⟨rfl, zG_T 490 (by decide +kernel) (by decide +kernel), zG_T 14 (by decide +kernel) (by decide +kernel), by decide +kernel, by decide⟩
theorem cw_Dots_covered : zCw m_Dots_covered 2 := ⟨rfl, zG_T 685 (by decide +kernel) (by decide +kernel), zG_T 14 (by decide +kernel) (by decide +kernel), by decide +kernel, by decide⟩
theorem cw_Dots_div : zCw m_Dots_div 1 := ⟨rfl, zG_T 529 (by decide +kernel) (by decide +kernel), zG_T 14 (by decide +kernel) (by decide +kernel), by decide +kernel, by decide⟩
theorem cw_Dots_merged : zCw m_Dots_merged 4 := ⟨rfl, zG_T 682 (by decide +kernel) (by decide +kernel), zG_T 14 (by decide +kernel) (by decide +kernel), by decide +kernel, by decide⟩
theorem cw_Dots_mixed : zCw m_Dots_mixed 3 := ⟨rfl, zG_T 532 (by decide +kernel) (by decide +kernel), zG_T 14 (by decide +kernel) (by decide +kernel), by decide +kernel, by decide⟩
theorem cw_Dots_placed : zCw m_Dots_placed 2 := ⟨rfl, zG_T 493 (by decide +kernel) (by decide +kernel), zG_T 14 (by decide +kernel) (by decide +kernel), by decide +kernel, by decide⟩
theorem cw_History_add : zCw m_History_add 1 := ⟨rfl, zG_T 330 (by decide +kernel) (by decide +kernel), zG_T 2 (by decide +kernel) (by decide +kernel), by decide +kernel, by decide⟩
theorem cw_History_begin : zCw m_History_begin 1 := ⟨rfl, zG_T 290 (by decide +kernel) (by decide +kernel), zG_T 2 (by decide +kernel) (by decide +kernel), by decide +kernel, by decide⟩
theorem cw_History_forgetOldest : zCw m_History_forgetOldest 0 := ⟨rfl, zG_T 334 (by decide +kernel) (by decide +kernel), zG_T 2 (by decide +kernel) (by decide +kernel), by decide +kernel, by decide⟩
theorem cw_History_goBack : zCw m_History_goBack 0 := ⟨rfl, zG_T 68 (by decide +kernel) (by decide +kernel), zG_T 2 (by decide +kernel) (by decide +kernel), by decide +kernel, by decide⟩
theorem cw_History_goForth : zCw m_History_goForth 0 := ⟨rfl, zG_T 76 (by decide +kernel) (by decide +kernel), zG_T 2 (by decide +kernel) (by decide +kernel), by decide +kernel, by decide⟩
theorem cw_History_init : zCw m_History_init 0 := ⟨rfl, zG_T 31 (by decide +kernel) (by decide +kernel), zG_T 2 (by decide +kernel) (by decide +kernel), by decide +kernel, by decide⟩
theorem cw_History_present : zCw m_History_present 0 := ⟨rfl, zG_T 87 (by decide +kernel) (by decide +kernel), zG_T 2 (by decide +kernel) (by decide +kernel), by decide +kernel, by decide⟩
theorem cw_History_stepsBack : zCw m_History_stepsBack 0 := ⟨rfl, zG_T 91 (by decide +kernel) (by decide +kernel), zG_T 2 (by decide +kernel) (by decide +kernel), by decide +kernel, by decide⟩
theorem cw_History_stepsForth : zCw m_History_stepsForth 0 := ⟨rfl, zG_T 95 (by decide +kernel) (by decide +kernel), zG_T 2 (by decide +kernel) (by decide +kernel), by decide +kernel, by decide⟩
theorem cw_Int_bitCount : zCw m_Int_bitCount 1 := ⟨rfl, zG_T 113 (by decide +kernel) (by decide +kernel), zG_T 12 (by decide +kernel) (by decide +kernel), by decide +kernel, by decide⟩
theorem cw_L_blur : zcw m_L_blur = .codeWith (zy m_L_blur) (zcc m_L_blur) (znL m_L_blur) (zret m_L_blur) (zhh m_L_blur) ∧ zcw m_L_blur ∈ zG ∧ Cond.initialized (zy m_L_blur).cls ∈ zG ∧ ((zy m_L_blur).cls ≠ "java/lang/invoke/MethodHandle" ∧ (zy m_L_blur).cls ≠ "java/lang/invoke/VarHandle" ∧ (parseMethodDescriptor (zy m_L_blur).desc).map (fun d => d.parameters.length) = some 3) ∧ znL m_L_blur ≤ 21 := ⟨rfl, zG_T 620 (by decide +kernel) (by decide +kernel), zG_T 0 (by decide +kernel) (by decide +kernel), by decide +kernel, by decide⟩
theorem cw_L_brush : zcw m_L_brush = .codeWith (zy m_L_brush) (zcc m_L_brush) (znL m_L_brush) (zret m_L_brush) (zhh m_L_brush) ∧ zcw m_L_brush ∈ zG ∧ Cond.initialized (zy m_L_brush).cls ∈ zG ∧ ((zy m_L_brush).cls ≠ "java/lang/invoke/MethodHandle" ∧ (zy m_L_brush).cls ≠ "java/lang/invoke/VarHandle" ∧ (parseMethodDescriptor (zy m_L_brush).desc).map (fun d => d.parameters.length) = some 3) ∧ znL m_L_brush ≤ 21 := ⟨rfl, zG_T 402 (by decide +kernel) (by decide +kernel), zG_T 0 (by decide +kernel) (by decide +kernel), by decide +kernel, by decide⟩
theorem cw_L_copy : zcw m_L_copy = .codeWith (zy m_L_copy) (zcc m_L_copy) (znL m_L_copy) (zret m_L_copy) (zhh m_L_copy) ∧ zcw m_L_copy ∈ zG ∧ Cond.initialized (zy m_L_copy).cls ∈ zG ∧ ((zy m_L_copy).cls ≠ "java/lang/invoke/MethodHandle" ∧ (zy m_L_copy).cls ≠ "java/lang/invoke/VarHandle" ∧ (parseMethodDescriptor (zy m_L_copy).desc).map (fun d => d.parameters.length) = some 3) ∧ znL m_L_copy ≤ 21 := ⟨rfl, zG_T 561 (by decide +kernel) (by decide +kernel), zG_T 0 (by decide +kernel) (by decide +kernel), by decide +kernel, by decide⟩
theorem cw_L_dot : zcw m_L_dot = .codeWith (zy m_L_dot) (zcc m_L_dot) (znL m_L_dot) (zret m_L_dot) (zhh m_L_dot) ∧ zcw m_L_dot ∈ zG ∧ Cond.initialized (zy m_L_dot).cls ∈ zG ∧ ((zy m_L_dot).cls ≠ "java/lang/invoke/MethodHandle" ∧ (zy m_L_dot).cls ≠ "java/lang/invoke/VarHandle" ∧ (parseMethodDescriptor (zy m_L_dot).desc).map (fun d => d.parameters.length) = some 6) ∧ znL m_L_dot ≤ 21 := ⟨rfl, zG_T 650 (by decide +kernel) (by decide +kernel), zG_T 0 (by decide +kernel) (by decide +kernel), by decide +kernel, by decide⟩
theorem cw_L_drop : zcw m_L_drop = .codeWith (zy m_L_drop) (zcc m_L_drop) (znL m_L_drop) (zret m_L_drop) (zhh m_L_drop) ∧ zcw m_L_drop ∈ zG ∧ Cond.initialized (zy m_L_drop).cls ∈ zG ∧ ((zy m_L_drop).cls ≠ "java/lang/invoke/MethodHandle" ∧ (zy m_L_drop).cls ≠ "java/lang/invoke/VarHandle" ∧ (parseMethodDescriptor (zy m_L_drop).desc).map (fun d => d.parameters.length) = some 2) ∧ znL m_L_drop ≤ 21 := ⟨rfl, zG_T 337 (by decide +kernel) (by decide +kernel), zG_T 0 (by decide +kernel) (by decide +kernel), by decide +kernel, by decide⟩
theorem cw_L_fill : zcw m_L_fill = .codeWith (zy m_L_fill) (zcc m_L_fill) (znL m_L_fill) (zret m_L_fill) (zhh m_L_fill) ∧ zcw m_L_fill ∈ zG ∧ Cond.initialized (zy m_L_fill).cls ∈ zG ∧ ((zy m_L_fill).cls ≠ "java/lang/invoke/MethodHandle" ∧ (zy m_L_fill).cls ≠ "java/lang/invoke/VarHandle" ∧ (parseMethodDescriptor (zy m_L_fill).desc).map (fun d => d.parameters.length) = some 3) ∧ znL m_L_fill ≤ 21 := ⟨rfl, zG_T 409 (by decide +kernel) (by decide +kernel), zG_T 0 (by decide +kernel) (by decide +kernel), by decide +kernel, by decide⟩
theorem cw_L_flood : zcw m_L_flood = .codeWith (zy m_L_flood) (zcc m_L_flood) (znL m_L_flood) (zret m_L_flood) (zhh m_L_flood) ∧ zcw m_L_flood ∈ zG ∧ Cond.initialized (zy m_L_flood).cls ∈ zG ∧ ((zy m_L_flood).cls ≠ "java/lang/invoke/MethodHandle" ∧ (zy m_L_flood).cls ≠ "java/lang/invoke/VarHandle" ∧ (parseMethodDescriptor (zy m_L_flood).desc).map (fun d => d.parameters.length) = some 7) ∧ znL m_L_flood ≤ 21 := ⟨rfl, zG_T 539 (by decide +kernel) (by decide +kernel), zG_T 0 (by decide +kernel) (by decide +kernel), by decide +kernel, by decide⟩
theorem cw_L_gradient : zcw m_L_gradient = .codeWith (zy m_L_gradient) (zcc m_L_gradient) (znL m_L_gradient) (zret m_L_gradient) (zhh m_L_gradient) ∧ zcw m_L_gradient ∈ zG ∧ Cond.initialized (zy m_L_gradient).cls ∈ zG ∧ ((zy m_L_gradient).cls ≠ "java/lang/invoke/MethodHandle" ∧ (zy m_L_gradient).cls ≠ "java/lang/invoke/VarHandle" ∧ (parseMethodDescriptor (zy m_L_gradient).desc).map (fun d => d.parameters.length) = some 5) ∧ znL m_L_gradient ≤ 21 := ⟨rfl, zG_T 480 (by decide +kernel) (by decide +kernel), zG_T 0 (by decide +kernel) (by decide +kernel), by decide +kernel, by decide⟩
theorem cw_L_histogram : zcw m_L_histogram = .codeWith (zy m_L_histogram) (zcc m_L_histogram) (znL m_L_histogram) (zret m_L_histogram) (zhh m_L_histogram) ∧ zcw m_L_histogram ∈ zG ∧ Cond.initialized (zy m_L_histogram).cls ∈ zG ∧ ((zy m_L_histogram).cls ≠ "java/lang/invoke/MethodHandle" ∧ (zy m_L_histogram).cls ≠ "java/lang/invoke/VarHandle" ∧ (parseMethodDescriptor (zy m_L_histogram).desc).map (fun d => d.parameters.length) = some 5) ∧ znL m_L_histogram ≤ 21 := ⟨rfl, zG_T 695 (by decide +kernel) (by decide +kernel), zG_T 0 (by decide +kernel) (by decide +kernel), by decide +kernel, by decide⟩
theorem cw_L_layer : zcw m_L_layer = .codeWith (zy m_L_layer) (zcc m_L_layer) (znL m_L_layer) (zret m_L_layer) (zhh m_L_layer) ∧ zcw m_L_layer ∈ zG ∧ Cond.initialized (zy m_L_layer).cls ∈ zG ∧ ((zy m_L_layer).cls ≠ "java/lang/invoke/MethodHandle" ∧ (zy m_L_layer).cls ≠ "java/lang/invoke/VarHandle" ∧ (parseMethodDescriptor (zy m_L_layer).desc).map (fun d => d.parameters.length) = some 2) ∧ znL m_L_layer ≤ 21 := ⟨rfl, zG_T 293 (by decide +kernel) (by decide +kernel), zG_T 0 (by decide +kernel) (by decide +kernel), by decide +kernel, by decide⟩
theorem cw_L_make : zcw m_L_make = .codeWith (zy m_L_make) (zcc m_L_make) (znL m_L_make) (zret m_L_make) (zhh m_L_make) ∧ zcw m_L_make ∈ zG ∧ Cond.initialized (zy m_L_make).cls ∈ zG ∧ ((zy m_L_make).cls ≠ "java/lang/invoke/MethodHandle" ∧ (zy m_L_make).cls ≠ "java/lang/invoke/VarHandle" ∧ (parseMethodDescriptor (zy m_L_make).desc).map (fun d => d.parameters.length) = some 3) ∧ znL m_L_make ≤ 21 := ⟨rfl, zG_T 124 (by decide +kernel) (by decide +kernel), zG_T 0 (by decide +kernel) (by decide +kernel), by decide +kernel, by decide⟩
theorem cw_L_mirror : zcw m_L_mirror = .codeWith (zy m_L_mirror) (zcc m_L_mirror) (znL m_L_mirror) (zret m_L_mirror) (zhh m_L_mirror) ∧ zcw m_L_mirror ∈ zG ∧ Cond.initialized (zy m_L_mirror).cls ∈ zG ∧ ((zy m_L_mirror).cls ≠ "java/lang/invoke/MethodHandle" ∧ (zy m_L_mirror).cls ≠ "java/lang/invoke/VarHandle" ∧ (parseMethodDescriptor (zy m_L_mirror).desc).map (fun d => d.parameters.length) = some 3) ∧ znL m_L_mirror ≤ 21 := ⟨rfl, zG_T 606 (by decide +kernel) (by decide +kernel), zG_T 0 (by decide +kernel) (by decide +kernel), by decide +kernel, by decide⟩
theorem cw_L_mode : zcw m_L_mode = .codeWith (zy m_L_mode) (zcc m_L_mode) (znL m_L_mode) (zret m_L_mode) (zhh m_L_mode) ∧ zcw m_L_mode ∈ zG ∧ Cond.initialized (zy m_L_mode).cls ∈ zG ∧ ((zy m_L_mode).cls ≠ "java/lang/invoke/MethodHandle" ∧ (zy m_L_mode).cls ≠ "java/lang/invoke/VarHandle" ∧ (parseMethodDescriptor (zy m_L_mode).desc).map (fun d => d.parameters.length) = some 5) ∧ znL m_L_mode ≤ 21 := ⟨rfl, zG_T 358 (by decide +kernel) (by decide +kernel), zG_T 0 (by decide +kernel) (by decide +kernel), by decide +kernel, by decide⟩
theorem cw_L_move : zcw m_L_move = .codeWith (zy m_L_move) (zcc m_L_move) (znL m_L_move) (zret m_L_move) (zhh m_L_move) ∧ zcw m_L_move ∈ zG ∧ Cond.initialized (zy m_L_move).cls ∈ zG ∧ ((zy m_L_move).cls ≠ "java/lang/invoke/MethodHandle" ∧ (zy m_L_move).cls ≠ "java/lang/invoke/VarHandle" ∧ (parseMethodDescriptor (zy m_L_move).desc).map (fun d => d.parameters.length) = some 3) ∧ znL m_L_move ≤ 21 := ⟨rfl, zG_T 351 (by decide +kernel) (by decide +kernel), zG_T 0 (by decide +kernel) (by decide +kernel), by decide +kernel, by decide⟩
theorem cw_L_open : zcw m_L_open = .codeWith (zy m_L_open) (zcc m_L_open) (znL m_L_open) (zret m_L_open) (zhh m_L_open) ∧ zcw m_L_open ∈ zG ∧ Cond.initialized (zy m_L_open).cls ∈ zG ∧ ((zy m_L_open).cls ≠ "java/lang/invoke/MethodHandle" ∧ (zy m_L_open).cls ≠ "java/lang/invoke/VarHandle" ∧ (parseMethodDescriptor (zy m_L_open).desc).map (fun d => d.parameters.length) = some 1) ∧ znL m_L_open ≤ 21 := ⟨rfl, zG_T 643 (by decide +kernel) (by decide +kernel), zG_T 0 (by decide +kernel) (by decide +kernel), by decide +kernel, by decide⟩
theorem cw_L_paste : zcw m_L_paste = .codeWith (zy m_L_paste) (zcc m_L_paste) (znL m_L_paste) (zret m_L_paste) (zhh m_L_paste) ∧ zcw m_L_paste ∈ zG ∧ Cond.initialized (zy m_L_paste).cls ∈ zG ∧ ((zy m_L_paste).cls ≠ "java/lang/invoke/MethodHandle" ∧ (zy m_L_paste).cls ≠ "java/lang/invoke/VarHandle" ∧ (parseMethodDescriptor (zy m_L_paste).desc).map (fun d => d.parameters.length) = some 5) ∧ znL m_L_paste ≤ 21 := ⟨rfl, zG_T 583 (by decide +kernel) (by decide +kernel), zG_T 0 (by decide +kernel) (by decide +kernel), by decide +kernel, by decide⟩
theorem cw_L_save : zcw m_L_save = .codeWith (zy m_L_save) (zcc m_L_save) (znL m_L_save) (zret m_L_save) (zhh m_L_save) ∧ zcw m_L_save ∈ zG ∧ Cond.initialized (zy m_L_save).cls ∈ zG ∧ ((zy m_L_save).cls ≠ "java/lang/invoke/MethodHandle" ∧ (zy m_L_save).cls ≠ "java/lang/invoke/VarHandle" ∧ (parseMethodDescriptor (zy m_L_save).desc).map (fun d => d.parameters.length) = some 3) ∧ znL m_L_save ≤ 21 := ⟨rfl, zG_T 636 (by decide +kernel) (by decide +kernel), zG_T 0 (by decide +kernel) (by decide +kernel), by decide +kernel, by decide⟩
theorem cw_L_select : zcw m_L_select = .codeWith (zy m_L_select) (zcc m_L_select) (znL m_L_select) (zret m_L_select) (zhh m_L_select) ∧ zcw m_L_select ∈ zG ∧ Cond.initialized (zy m_L_select).cls ∈ zG ∧ ((zy m_L_select).cls ≠ "java/lang/invoke/MethodHandle" ∧ (zy m_L_select).cls ≠ "java/lang/invoke/VarHandle" ∧ (parseMethodDescriptor (zy m_L_select).desc).map (fun d => d.parameters.length) = some 6) ∧ znL m_L_select ≤ 21 := ⟨rfl, zG_T 377 (by decide +kernel) (by decide +kernel), zG_T 0 (by decide +kernel) (by decide +kernel), by decide +kernel, by decide⟩
theorem cw_L_shift : zcw m_L_shift = .codeWith (zy m_L_shift) (zcc m_L_shift) (znL m_L_shift) (zret m_L_shift) (zhh m_L_shift) ∧ zcw m_L_shift ∈ zG ∧ Cond.initialized (zy m_L_shift).cls ∈ zG ∧ ((zy m_L_shift).cls ≠ "java/lang/invoke/MethodHandle" ∧ (zy m_L_shift).cls ≠ "java/lang/invoke/VarHandle" ∧ (parseMethodDescriptor (zy m_L_shift).desc).map (fun d => d.parameters.length) = some 4) ∧ znL m_L_shift ≤ 21 := ⟨rfl, zG_T 613 (by decide +kernel) (by decide +kernel), zG_T 0 (by decide +kernel) (by decide +kernel), by decide +kernel, by decide⟩
theorem cw_L_stroke : zcw m_L_stroke = .codeWith (zy m_L_stroke) (zcc m_L_stroke) (znL m_L_stroke) (zret m_L_stroke) (zhh m_L_stroke) ∧ zcw m_L_stroke ∈ zG ∧ Cond.initialized (zy m_L_stroke).cls ∈ zG ∧ ((zy m_L_stroke).cls ≠ "java/lang/invoke/MethodHandle" ∧ (zy m_L_stroke).cls ≠ "java/lang/invoke/VarHandle" ∧ (parseMethodDescriptor (zy m_L_stroke).desc).map (fun d => d.parameters.length) = some 4) ∧ znL m_L_stroke ≤ 21 := ⟨rfl, zG_T 496 (by decide +kernel) (by decide +kernel), zG_T 0 (by decide +kernel) (by decide +kernel), by decide +kernel, by decide⟩
theorem cw_L_view : zcw m_L_view = .codeWith (zy m_L_view) (zcc m_L_view) (znL m_L_view) (zret m_L_view) (zhh m_L_view) ∧ zcw m_L_view ∈ zG ∧ Cond.initialized (zy m_L_view).cls ∈ zG ∧ ((zy m_L_view).cls ≠ "java/lang/invoke/MethodHandle" ∧ (zy m_L_view).cls ≠ "java/lang/invoke/VarHandle" ∧ (parseMethodDescriptor (zy m_L_view).desc).map (fun d => d.parameters.length) = some 5) ∧ znL m_L_view ≤ 21 := ⟨rfl, zG_T 688 (by decide +kernel) (by decide +kernel), zG_T 0 (by decide +kernel) (by decide +kernel), by decide +kernel, by decide⟩
theorem cw_Layer_dotAt : zCw m_Layer_dotAt 2 := ⟨rfl, zG_T 107 (by decide +kernel) (by decide +kernel), zG_T 9 (by decide +kernel) (by decide +kernel), by decide +kernel, by decide⟩
theorem cw_Layer_fullTiles : zCw m_Layer_fullTiles 0 := ⟨rfl, zG_T 103 (by decide +kernel) (by decide +kernel), zG_T 9 (by decide +kernel) (by decide +kernel), by decide +kernel, by decide⟩
theorem cw_Layer_init : zCw m_Layer_init 6 := ⟨rfl, zG_T 234 (by decide +kernel) (by decide +kernel), zG_T 9 (by decide +kernel) (by decide +kernel), by decide +kernel, by decide⟩
theorem cw_Layer_withBlending : zCw m_Layer_withBlending 3 := ⟨rfl, zG_T 366 (by decide +kernel) (by decide +kernel), zG_T 9 (by decide +kernel) (by decide +kernel), by decide +kernel, by decide⟩
theorem cw_Layer_withDots : zCw m_Layer_withDots 1 := ⟨rfl, zG_T 476 (by decide +kernel) (by decide +kernel), zG_T 9 (by decide +kernel) (by decide +kernel), by decide +kernel, by decide⟩
theorem cw_M_at : zCw m_M_at 3 := ⟨rfl, zG_T 866 (by decide +kernel) (by decide +kernel), zG_T 3 (by decide +kernel) (by decide +kernel), by decide +kernel, by decide⟩
theorem cw_M_before : zCw m_M_before 2 := ⟨rfl, zG_T 931 (by decide +kernel) (by decide +kernel), zG_T 3 (by decide +kernel) (by decide +kernel), by decide +kernel, by decide⟩
theorem cw_M_beginTool : zCw m_M_beginTool 1 := ⟨rfl, zG_T 862 (by decide +kernel) (by decide +kernel), zG_T 3 (by decide +kernel) (by decide +kernel), by decide +kernel, by decide⟩
theorem cw_M_blend : zCw m_M_blend 4 := ⟨rfl, zG_T 893 (by decide +kernel) (by decide +kernel), zG_T 3 (by decide +kernel) (by decide +kernel), by decide +kernel, by decide⟩
theorem cw_M_blur : zCw m_M_blur 2 := ⟨rfl, zG_T 935 (by decide +kernel) (by decide +kernel), zG_T 3 (by decide +kernel) (by decide +kernel), by decide +kernel, by decide⟩
theorem cw_M_brush : zCw m_M_brush 2 := ⟨rfl, zG_T 854 (by decide +kernel) (by decide +kernel), zG_T 3 (by decide +kernel) (by decide +kernel), by decide +kernel, by decide⟩
theorem cw_M_climb : zCw m_M_climb 2 := ⟨rfl, zG_T 970 (by decide +kernel) (by decide +kernel), zG_T 3 (by decide +kernel) (by decide +kernel), by decide +kernel, by decide⟩
theorem cw_M_copy : zCw m_M_copy 1 := ⟨rfl, zG_T 915 (by decide +kernel) (by decide +kernel), zG_T 3 (by decide +kernel) (by decide +kernel), by decide +kernel, by decide⟩
theorem cw_M_copyLayerWays : zCw m_M_copyLayerWays 2 := ⟨rfl, zG_T 805 (by decide +kernel) (by decide +kernel), zG_T 3 (by decide +kernel) (by decide +kernel), by decide +kernel, by decide⟩
theorem cw_M_copyPicture : zCw m_M_copyPicture 2 := ⟨rfl, zG_T 801 (by decide +kernel) (by decide +kernel), zG_T 3 (by decide +kernel) (by decide +kernel), by decide +kernel, by decide⟩
theorem cw_M_count : zCw m_M_count 1 := ⟨rfl, zG_T 986 (by decide +kernel) (by decide +kernel), zG_T 3 (by decide +kernel) (by decide +kernel), by decide +kernel, by decide⟩
theorem cw_M_distance : zCw m_M_distance 2 := ⟨rfl, zG_T 887 (by decide +kernel) (by decide +kernel), zG_T 3 (by decide +kernel) (by decide +kernel), by decide +kernel, by decide⟩
theorem cw_M_div : zCw m_M_div 1 := ⟨rfl, zG_T 896 (by decide +kernel) (by decide +kernel), zG_T 3 (by decide +kernel) (by decide +kernel), by decide +kernel, by decide⟩
theorem cw_M_dot : zCw m_M_dot 4 := ⟨rfl, zG_T 959 (by decide +kernel) (by decide +kernel), zG_T 3 (by decide +kernel) (by decide +kernel), by decide +kernel, by decide⟩
theorem cw_M_down : zCw m_M_down 2 := ⟨rfl, zG_T 890 (by decide +kernel) (by decide +kernel), zG_T 3 (by decide +kernel) (by decide +kernel), by decide +kernel, by decide⟩
theorem cw_M_drop : zCw m_M_drop 1 := ⟨rfl, zG_T 813 (by decide +kernel) (by decide +kernel), zG_T 3 (by decide +kernel) (by decide +kernel), by decide +kernel, by decide⟩
theorem cw_M_fill : zCw m_M_fill 2 := ⟨rfl, zG_T 858 (by decide +kernel) (by decide +kernel), zG_T 3 (by decide +kernel) (by decide +kernel), by decide +kernel, by decide⟩
theorem cw_M_flood : zCw m_M_flood 5 := ⟨rfl, zG_T 903 (by decide +kernel) (by decide +kernel), zG_T 3 (by decide +kernel) (by decide +kernel), by decide +kernel, by decide⟩
theorem cw_M_four : zCw m_M_four 4 := ⟨rfl, zG_T 974 (by decide +kernel) (by decide +kernel), zG_T 3 (by decide +kernel) (by decide +kernel), by decide +kernel, by decide⟩
theorem cw_M_freshLayer : zCw m_M_freshLayer 1 := ⟨rfl, zG_T 789 (by decide +kernel) (by decide +kernel), zG_T 3 (by decide +kernel) (by decide +kernel), by decide +kernel, by decide⟩
theorem cw_M_gradient : zCw m_M_gradient 4 := ⟨rfl, zG_T 874 (by decide +kernel) (by decide +kernel), zG_T 3 (by decide +kernel) (by decide +kernel), by decide +kernel, by decide⟩
theorem cw_M_h : zCw m_M_h 0 := ⟨rfl, zG_T 834 (by decide +kernel) (by decide +kernel), zG_T 3 (by decide +kernel) (by decide +kernel), by decide +kernel, by decide⟩
theorem cw_M_half : zCw m_M_half 2 := ⟨rfl, zG_T 966 (by decide +kernel) (by decide +kernel), zG_T 3 (by decide +kernel) (by decide +kernel), by decide +kernel, by decide⟩
theorem cw_M_histogram : zCw m_M_histogram 3 := ⟨rfl, zG_T 982 (by decide +kernel) (by decide +kernel), zG_T 3 (by decide +kernel) (by decide +kernel), by decide +kernel, by decide⟩
theorem cw_M_in : zCw m_M_in 3 := ⟨rfl, zG_T 781 (by decide +kernel) (by decide +kernel), zG_T 3 (by decide +kernel) (by decide +kernel), by decide +kernel, by decide⟩
theorem cw_M_init : zCw m_M_init 0 := ⟨rfl, zG_T 704 (by decide +kernel) (by decide +kernel), zG_T 3 (by decide +kernel) (by decide +kernel), by decide +kernel, by decide⟩
theorem cw_M_isChosen : zCw m_M_isChosen 2 := ⟨rfl, zG_T 850 (by decide +kernel) (by decide +kernel), zG_T 3 (by decide +kernel) (by decide +kernel), by decide +kernel, by decide⟩
theorem cw_M_isInShape : zCw m_M_isInShape 5 := ⟨rfl, zG_T 841 (by decide +kernel) (by decide +kernel), zG_T 3 (by decide +kernel) (by decide +kernel), by decide +kernel, by decide⟩
theorem cw_M_isLayer : zCw m_M_isLayer 1 := ⟨rfl, zG_T 817 (by decide +kernel) (by decide +kernel), zG_T 3 (by decide +kernel) (by decide +kernel), by decide +kernel, by decide⟩
theorem cw_M_isNear : zCw m_M_isNear 3 := ⟨rfl, zG_T 911 (by decide +kernel) (by decide +kernel), zG_T 3 (by decide +kernel) (by decide +kernel), by decide +kernel, by decide⟩
theorem cw_M_isPlace : zCw m_M_isPlace 3 := ⟨rfl, zG_T 963 (by decide +kernel) (by decide +kernel), zG_T 3 (by decide +kernel) (by decide +kernel), by decide +kernel, by decide⟩
theorem cw_M_isReached : zCw m_M_isReached 2 := ⟨rfl, zG_T 907 (by decide +kernel) (by decide +kernel), zG_T 3 (by decide +kernel) (by decide +kernel), by decide +kernel, by decide⟩
theorem cw_M_layer : zCw m_M_layer 1 := ⟨rfl, zG_T 793 (by decide +kernel) (by decide +kernel), zG_T 3 (by decide +kernel) (by decide +kernel), by decide +kernel, by decide⟩
theorem cw_M_layerTo : zCw m_M_layerTo 2 := ⟨rfl, zG_T 809 (by decide +kernel) (by decide +kernel), zG_T 3 (by decide +kernel) (by decide +kernel), by decide +kernel, by decide⟩
theorem cw_M_low : zCw m_M_low 1 := ⟨rfl, zG_T 884 (by decide +kernel) (by decide +kernel), zG_T 3 (by decide +kernel) (by decide +kernel), by decide +kernel, by decide⟩
theorem cw_M_make : zCw m_M_make 2 := ⟨rfl, zG_T 778 (by decide +kernel) (by decide +kernel), zG_T 3 (by decide +kernel) (by decide +kernel), by decide +kernel, by decide⟩
theorem cw_M_mirror : zCw m_M_mirror 2 := ⟨rfl, zG_T 923 (by decide +kernel) (by decide +kernel), zG_T 3 (by decide +kernel) (by decide +kernel), by decide +kernel, by decide⟩
theorem cw_M_mixed : zCw m_M_mixed 3 := ⟨rfl, zG_T 899 (by decide +kernel) (by decide +kernel), zG_T 3 (by decide +kernel) (by decide +kernel), by decide +kernel, by decide⟩
theorem cw_M_mode : zCw m_M_mode 4 := ⟨rfl, zG_T 825 (by decide +kernel) (by decide +kernel), zG_T 3 (by decide +kernel) (by decide +kernel), by decide +kernel, by decide⟩
theorem cw_M_move : zCw m_M_move 2 := ⟨rfl, zG_T 821 (by decide +kernel) (by decide +kernel), zG_T 3 (by decide +kernel) (by decide +kernel), by decide +kernel, by decide⟩
theorem cw_M_open : zCw m_M_open 0 := ⟨rfl, zG_T 955 (by decide +kernel) (by decide +kernel), zG_T 3 (by decide +kernel) (by decide +kernel), by decide +kernel, by decide⟩
theorem cw_M_part : zCw m_M_part 2 := ⟨rfl, zG_T 877 (by decide +kernel) (by decide +kernel), zG_T 3 (by decide +kernel) (by decide +kernel), by decide +kernel, by decide⟩
theorem cw_M_paste : zCw m_M_paste 3 := ⟨rfl, zG_T 919 (by decide +kernel) (by decide +kernel), zG_T 3 (by decide +kernel) (by decide +kernel), by decide +kernel, by decide⟩
theorem cw_M_put : zCw m_M_put 4 := ⟨rfl, zG_T 870 (by decide +kernel) (by decide +kernel), zG_T 3 (by decide +kernel) (by decide +kernel), by decide +kernel, by decide⟩
theorem cw_M_redo : zCw m_M_redo 0 := ⟨rfl, zG_T 943 (by decide +kernel) (by decide +kernel), zG_T 3 (by decide +kernel) (by decide +kernel), by decide +kernel, by decide⟩
theorem cw_M_refuse : zCw m_M_refuse 1 := ⟨rfl, zG_T 785 (by decide +kernel) (by decide +kernel), zG_T 3 (by decide +kernel) (by decide +kernel), by decide +kernel, by decide⟩
theorem cw_M_save : zCw m_M_save 1 := ⟨rfl, zG_T 947 (by decide +kernel) (by decide +kernel), zG_T 3 (by decide +kernel) (by decide +kernel), by decide +kernel, by decide⟩
theorem cw_M_select : zCw m_M_select 4 := ⟨rfl, zG_T 829 (by decide +kernel) (by decide +kernel), zG_T 3 (by decide +kernel) (by decide +kernel), by decide +kernel, by decide⟩
theorem cw_M_selected : zCw m_M_selected 0 := ⟨rfl, zG_T 846 (by decide +kernel) (by decide +kernel), zG_T 3 (by decide +kernel) (by decide +kernel), by decide +kernel, by decide⟩
theorem cw_M_shift : zCw m_M_shift 3 := ⟨rfl, zG_T 927 (by decide +kernel) (by decide +kernel), zG_T 3 (by decide +kernel) (by decide +kernel), by decide +kernel, by decide⟩
theorem cw_M_step : zCw m_M_step 0 := ⟨rfl, zG_T 797 (by decide +kernel) (by decide +kernel), zG_T 3 (by decide +kernel) (by decide +kernel), by decide +kernel, by decide⟩
theorem cw_M_stroke : zCw m_M_stroke 3 := ⟨rfl, zG_T 881 (by decide +kernel) (by decide +kernel), zG_T 3 (by decide +kernel) (by decide +kernel), by decide +kernel, by decide⟩
theorem cw_M_thrown : zCw m_M_thrown 0 := ⟨rfl, zG_T 774 (by decide +kernel) (by decide +kernel), zG_T 3 (by decide +kernel) (by decide +kernel), by decide +kernel, by decide⟩
theorem cw_M_tiles : zCw m_M_tiles 0 := ⟨rfl, zG_T 951 (by decide +kernel) (by decide +kernel), zG_T 3 (by decide +kernel) (by decide +kernel), by decide +kernel, by decide⟩
theorem cw_M_undo : zCw m_M_undo 0 := ⟨rfl, zG_T 939 (by decide +kernel) (by decide +kernel), zG_T 3 (by decide +kernel) (by decide +kernel), by decide +kernel, by decide⟩
theorem cw_M_view : zCw m_M_view 3 := ⟨rfl, zG_T 978 (by decide +kernel) (by decide +kernel), zG_T 3 (by decide +kernel) (by decide +kernel), by decide +kernel, by decide⟩
theorem cw_M_w : zCw m_M_w 0 := ⟨rfl, zG_T 838 (by decide +kernel) (by decide +kernel), zG_T 3 (by decide +kernel) (by decide +kernel), by decide +kernel, by decide⟩
theorem cw_Math_floorDiv : zCw m_Math_floorDiv 2 := ⟨rfl, zG_T 518 (by decide +kernel) (by decide +kernel), zG_T 15 (by decide +kernel) (by decide +kernel), by decide +kernel, by decide⟩
theorem cw_Painting_height : zCw m_Painting_height 0 := ⟨rfl, zG_T 448 (by decide +kernel) (by decide +kernel), zG_T 13 (by decide +kernel) (by decide +kernel), by decide +kernel, by decide⟩
theorem cw_Painting_init : zCw m_Painting_init 2 := ⟨rfl, zG_T 422 (by decide +kernel) (by decide +kernel), zG_T 13 (by decide +kernel) (by decide +kernel), by decide +kernel, by decide⟩
theorem cw_Painting_put : zCw m_Painting_put 3 := ⟨rfl, zG_T 456 (by decide +kernel) (by decide +kernel), zG_T 13 (by decide +kernel) (by decide +kernel), by decide +kernel, by decide⟩
theorem cw_Painting_result : zCw m_Painting_result 0 := ⟨rfl, zG_T 472 (by decide +kernel) (by decide +kernel), zG_T 13 (by decide +kernel) (by decide +kernel), by decide +kernel, by decide⟩
theorem cw_Painting_takes : zCw m_Painting_takes 2 := ⟨rfl, zG_T 460 (by decide +kernel) (by decide +kernel), zG_T 13 (by decide +kernel) (by decide +kernel), by decide +kernel, by decide⟩
theorem cw_Painting_width : zCw m_Painting_width 0 := ⟨rfl, zG_T 452 (by decide +kernel) (by decide +kernel), zG_T 13 (by decide +kernel) (by decide +kernel), by decide +kernel, by decide⟩
theorem cw_Picture_fullTiles : zCw m_Picture_fullTiles 0 := ⟨rfl, zG_T 99 (by decide +kernel) (by decide +kernel), zG_T 10 (by decide +kernel) (by decide +kernel), by decide +kernel, by decide⟩
theorem cw_Picture_init : zCw m_Picture_init 4 := ⟨rfl, zG_T 264 (by decide +kernel) (by decide +kernel), zG_T 10 (by decide +kernel) (by decide +kernel), by decide +kernel, by decide⟩
theorem cw_Picture_withLayer : zCw m_Picture_withLayer 2 := ⟨rfl, zG_T 372 (by decide +kernel) (by decide +kernel), zG_T 10 (by decide +kernel) (by decide +kernel), by decide +kernel, by decide⟩
theorem cw_Picture_withLayers : zCw m_Picture_withLayers 1 := ⟨rfl, zG_T 324 (by decide +kernel) (by decide +kernel), zG_T 10 (by decide +kernel) (by decide +kernel), by decide +kernel, by decide⟩
theorem cw_Picture_withSelection : zCw m_Picture_withSelection 1 := ⟨rfl, zG_T 399 (by decide +kernel) (by decide +kernel), zG_T 10 (by decide +kernel) (by decide +kernel), by decide +kernel, by decide⟩
theorem cw_Places_add : zCw m_Places_add 2 := ⟨rfl, zG_T 224 (by decide +kernel) (by decide +kernel), zG_T 8 (by decide +kernel) (by decide +kernel), by decide +kernel, by decide⟩
theorem cw_Places_has : zCw m_Places_has 2 := ⟨rfl, zG_T 464 (by decide +kernel) (by decide +kernel), zG_T 8 (by decide +kernel) (by decide +kernel), by decide +kernel, by decide⟩
theorem cw_Places_height : zCw m_Places_height 0 := ⟨rfl, zG_T 219 (by decide +kernel) (by decide +kernel), zG_T 8 (by decide +kernel) (by decide +kernel), by decide +kernel, by decide⟩
theorem cw_Places_init : zCw m_Places_init 2 := ⟨rfl, zG_T 201 (by decide +kernel) (by decide +kernel), zG_T 8 (by decide +kernel) (by decide +kernel), by decide +kernel, by decide⟩
theorem cw_Places_rowAt : zCw m_Places_rowAt 1 := ⟨rfl, zG_T 468 (by decide +kernel) (by decide +kernel), zG_T 8 (by decide +kernel) (by decide +kernel), by decide +kernel, by decide⟩
theorem cw_Places_size : zCw m_Places_size 0 := ⟨rfl, zG_T 120 (by decide +kernel) (by decide +kernel), zG_T 8 (by decide +kernel) (by decide +kernel), by decide +kernel, by decide⟩
theorem cw_TS_addDisc : zCw m_TS_addDisc 4 := ⟨rfl, zG_T 521 (by decide +kernel) (by decide +kernel), zG_T 1 (by decide +kernel) (by decide +kernel), by decide +kernel, by decide⟩
theorem cw_TS_addEllipse : zCw m_TS_addEllipse 5 := ⟨rfl, zG_T 385 (by decide +kernel) (by decide +kernel), zG_T 1 (by decide +kernel) (by decide +kernel), by decide +kernel, by decide⟩
theorem cw_TS_addLine : zCw m_TS_addLine 4 := ⟨rfl, zG_T 506 (by decide +kernel) (by decide +kernel), zG_T 1 (by decide +kernel) (by decide +kernel), by decide +kernel, by decide⟩
theorem cw_TS_addRectangle : zCw m_TS_addRectangle 5 := ⟨rfl, zG_T 215 (by decide +kernel) (by decide +kernel), zG_T 1 (by decide +kernel) (by decide +kernel), by decide +kernel, by decide⟩
theorem cw_TS_alikePlaces : zCw m_TS_alikePlaces 3 := ⟨rfl, zG_T 546 (by decide +kernel) (by decide +kernel), zG_T 1 (by decide +kernel) (by decide +kernel), by decide +kernel, by decide⟩
theorem cw_TS_blur : zCw m_TS_blur 2 := ⟨rfl, zG_T 624 (by decide +kernel) (by decide +kernel), zG_T 1 (by decide +kernel) (by decide +kernel), by decide +kernel, by decide⟩
theorem cw_TS_blurredDot : zCw m_TS_blurredDot 3 := ⟨rfl, zG_T 631 (by decide +kernel) (by decide +kernel), zG_T 1 (by decide +kernel) (by decide +kernel), by decide +kernel, by decide⟩
theorem cw_TS_brush : zCw m_TS_brush 2 := ⟨rfl, zG_T 406 (by decide +kernel) (by decide +kernel), zG_T 1 (by decide +kernel) (by decide +kernel), by decide +kernel, by decide⟩
theorem cw_TS_clearLayer : zCw m_TS_clearLayer 2 := ⟨rfl, zG_T 230 (by decide +kernel) (by decide +kernel), zG_T 1 (by decide +kernel) (by decide +kernel), by decide +kernel, by decide⟩
theorem cw_TS_copy : zCw m_TS_copy 1 := ⟨rfl, zG_T 565 (by decide +kernel) (by decide +kernel), zG_T 1 (by decide +kernel) (by decide +kernel), by decide +kernel, by decide⟩
theorem cw_TS_count : zCw m_TS_count 1 := ⟨rfl, zG_T 80 (by decide +kernel) (by decide +kernel), zG_T 1 (by decide +kernel) (by decide +kernel), by decide +kernel, by decide⟩
theorem cw_TS_dot : zCw m_TS_dot 4 := ⟨rfl, zG_T 655 (by decide +kernel) (by decide +kernel), zG_T 1 (by decide +kernel) (by decide +kernel), by decide +kernel, by decide⟩
theorem cw_TS_dotAtLevel : zCw m_TS_dotAtLevel 4 := ⟨rfl, zG_T 679 (by decide +kernel) (by decide +kernel), zG_T 1 (by decide +kernel) (by decide +kernel), by decide +kernel, by decide⟩
theorem cw_TS_drop : zCw m_TS_drop 1 := ⟨rfl, zG_T 341 (by decide +kernel) (by decide +kernel), zG_T 1 (by decide +kernel) (by decide +kernel), by decide +kernel, by decide⟩
theorem cw_TS_fill : zCw m_TS_fill 2 := ⟨rfl, zG_T 413 (by decide +kernel) (by decide +kernel), zG_T 1 (by decide +kernel) (by decide +kernel), by decide +kernel, by decide⟩
theorem cw_TS_flood : zCw m_TS_flood 5 := ⟨rfl, zG_T 543 (by decide +kernel) (by decide +kernel), zG_T 1 (by decide +kernel) (by decide +kernel), by decide +kernel, by decide⟩
theorem cw_TS_gradient : zCw m_TS_gradient 4 := ⟨rfl, zG_T 484 (by decide +kernel) (by decide +kernel), zG_T 1 (by decide +kernel) (by decide +kernel), by decide +kernel, by decide⟩
theorem cw_TS_histogram : zCw m_TS_histogram 3 := ⟨rfl, zG_T 699 (by decide +kernel) (by decide +kernel), zG_T 1 (by decide +kernel) (by decide +kernel), by decide +kernel, by decide⟩
theorem cw_TS_init : zCw m_TS_init 0 := ⟨rfl, zG_T 23 (by decide +kernel) (by decide +kernel), zG_T 1 (by decide +kernel) (by decide +kernel), by decide +kernel, by decide⟩
theorem cw_TS_inserted : zCw m_TS_inserted 3 := ⟨rfl, zG_T 320 (by decide +kernel) (by decide +kernel), zG_T 1 (by decide +kernel) (by decide +kernel), by decide +kernel, by decide⟩
theorem cw_TS_isInBox : zCw m_TS_isInBox 4 := ⟨rfl, zG_T 110 (by decide +kernel) (by decide +kernel), zG_T 1 (by decide +kernel) (by decide +kernel), by decide +kernel, by decide⟩
theorem cw_TS_isInEllipse : zCw m_TS_isInEllipse 4 := ⟨rfl, zG_T 388 (by decide +kernel) (by decide +kernel), zG_T 1 (by decide +kernel) (by decide +kernel), by decide +kernel, by decide⟩
theorem cw_TS_isWithin : zCw m_TS_isWithin 3 := ⟨rfl, zG_T 83 (by decide +kernel) (by decide +kernel), zG_T 1 (by decide +kernel) (by decide +kernel), by decide +kernel, by decide⟩
theorem cw_TS_joined : zCw m_TS_joined 3 := ⟨rfl, zG_T 392 (by decide +kernel) (by decide +kernel), zG_T 1 (by decide +kernel) (by decide +kernel), by decide +kernel, by decide⟩
theorem cw_TS_joinedRow : zCw m_TS_joinedRow 3 := ⟨rfl, zG_T 395 (by decide +kernel) (by decide +kernel), zG_T 1 (by decide +kernel) (by decide +kernel), by decide +kernel, by decide⟩
theorem cw_TS_layer : zCw m_TS_layer 1 := ⟨rfl, zG_T 298 (by decide +kernel) (by decide +kernel), zG_T 1 (by decide +kernel) (by decide +kernel), by decide +kernel, by decide⟩
theorem cw_TS_make : zCw m_TS_make 2 := ⟨rfl, zG_T 129 (by decide +kernel) (by decide +kernel), zG_T 1 (by decide +kernel) (by decide +kernel), by decide +kernel, by decide⟩
theorem cw_TS_mirror : zCw m_TS_mirror 2 := ⟨rfl, zG_T 610 (by decide +kernel) (by decide +kernel), zG_T 1 (by decide +kernel) (by decide +kernel), by decide +kernel, by decide⟩
theorem cw_TS_mode : zCw m_TS_mode 4 := ⟨rfl, zG_T 362 (by decide +kernel) (by decide +kernel), zG_T 1 (by decide +kernel) (by decide +kernel), by decide +kernel, by decide⟩
theorem cw_TS_move : zCw m_TS_move 2 := ⟨rfl, zG_T 355 (by decide +kernel) (by decide +kernel), zG_T 1 (by decide +kernel) (by decide +kernel), by decide +kernel, by decide⟩
theorem cw_TS_open : zCw m_TS_open 0 := ⟨rfl, zG_T 647 (by decide +kernel) (by decide +kernel), zG_T 1 (by decide +kernel) (by decide +kernel), by decide +kernel, by decide⟩
theorem cw_TS_paintingOf : zCw m_TS_paintingOf 1 := ⟨rfl, zG_T 417 (by decide +kernel) (by decide +kernel), zG_T 1 (by decide +kernel) (by decide +kernel), by decide +kernel, by decide⟩
theorem cw_TS_partOf : zCw m_TS_partOf 3 := ⟨rfl, zG_T 515 (by decide +kernel) (by decide +kernel), zG_T 1 (by decide +kernel) (by decide +kernel), by decide +kernel, by decide⟩
theorem cw_TS_paste : zCw m_TS_paste 3 := ⟨rfl, zG_T 588 (by decide +kernel) (by decide +kernel), zG_T 1 (by decide +kernel) (by decide +kernel), by decide +kernel, by decide⟩
theorem cw_TS_pictureWithLayer : zCw m_TS_pictureWithLayer 1 := ⟨rfl, zG_T 345 (by decide +kernel) (by decide +kernel), zG_T 1 (by decide +kernel) (by decide +kernel), by decide +kernel, by decide⟩
theorem cw_TS_presentPicture : zCw m_TS_presentPicture 0 := ⟨rfl, zG_T 302 (by decide +kernel) (by decide +kernel), zG_T 1 (by decide +kernel) (by decide +kernel), by decide +kernel, by decide⟩
theorem cw_TS_reachedFrom : zCw m_TS_reachedFrom 3 := ⟨rfl, zG_T 554 (by decide +kernel) (by decide +kernel), zG_T 1 (by decide +kernel) (by decide +kernel), by decide +kernel, by decide⟩
theorem cw_TS_redo : zCw m_TS_redo 0 := ⟨rfl, zG_T 72 (by decide +kernel) (by decide +kernel), zG_T 1 (by decide +kernel) (by decide +kernel), by decide +kernel, by decide⟩
theorem cw_TS_removed : zCw m_TS_removed 2 := ⟨rfl, zG_T 348 (by decide +kernel) (by decide +kernel), zG_T 1 (by decide +kernel) (by decide +kernel), by decide +kernel, by decide⟩
theorem cw_TS_require : zCw m_TS_require 1 := ⟨rfl, zG_T 132 (by decide +kernel) (by decide +kernel), zG_T 1 (by decide +kernel) (by decide +kernel), by decide +kernel, by decide⟩
theorem cw_TS_requirePlace : zCw m_TS_requirePlace 4 := ⟨rfl, zG_T 658 (by decide +kernel) (by decide +kernel), zG_T 1 (by decide +kernel) (by decide +kernel), by decide +kernel, by decide⟩
theorem cw_TS_requireShift : zCw m_TS_requireShift 2 := ⟨rfl, zG_T 503 (by decide +kernel) (by decide +kernel), zG_T 1 (by decide +kernel) (by decide +kernel), by decide +kernel, by decide⟩
theorem cw_TS_save : zCw m_TS_save 1 := ⟨rfl, zG_T 640 (by decide +kernel) (by decide +kernel), zG_T 1 (by decide +kernel) (by decide +kernel), by decide +kernel, by decide⟩
theorem cw_TS_select : zCw m_TS_select 4 := ⟨rfl, zG_T 381 (by decide +kernel) (by decide +kernel), zG_T 1 (by decide +kernel) (by decide +kernel), by decide +kernel, by decide⟩
theorem cw_TS_shift : zCw m_TS_shift 3 := ⟨rfl, zG_T 617 (by decide +kernel) (by decide +kernel), zG_T 1 (by decide +kernel) (by decide +kernel), by decide +kernel, by decide⟩
theorem cw_TS_sideAtLevel : zCw m_TS_sideAtLevel 2 := ⟨rfl, zG_T 661 (by decide +kernel) (by decide +kernel), zG_T 1 (by decide +kernel) (by decide +kernel), by decide +kernel, by decide⟩
theorem cw_TS_spread : zCw m_TS_spread 2 := ⟨rfl, zG_T 557 (by decide +kernel) (by decide +kernel), zG_T 1 (by decide +kernel) (by decide +kernel), by decide +kernel, by decide⟩
theorem cw_TS_stroke : zCw m_TS_stroke 3 := ⟨rfl, zG_T 500 (by decide +kernel) (by decide +kernel), zG_T 1 (by decide +kernel) (by decide +kernel), by decide +kernel, by decide⟩
theorem cw_TS_sumColumns : zCw m_TS_sumColumns 4 := ⟨rfl, zG_T 627 (by decide +kernel) (by decide +kernel), zG_T 1 (by decide +kernel) (by decide +kernel), by decide +kernel, by decide⟩
theorem cw_TS_undo : zCw m_TS_undo 0 := ⟨rfl, zG_T 64 (by decide +kernel) (by decide +kernel), zG_T 1 (by decide +kernel) (by decide +kernel), by decide +kernel, by decide⟩
theorem cw_TS_view : zCw m_TS_view 3 := ⟨rfl, zG_T 692 (by decide +kernel) (by decide +kernel), zG_T 1 (by decide +kernel) (by decide +kernel), by decide +kernel, by decide⟩
end
section
theorem zthr_of {ws : List Cond} (h : ws.all (fun w => (decide (w ∈ tables_1) && goodWord w) || decide (w ∈ k2_sels lw_privs) && goodWord w || zcasts.any (fun q => decide (w = .castable q.1 q.2)) || zdecls.any (fun y => decide (w = .declares y))) = true) : ∀ w ∈ ws, w ∈ zG ∨ (∃ q ∈ zcasts, w = .castable q.1 q.2) ∨ ∃ y ∈ zdecls, w = .declares y := by
  intro w hw
  have h1 := List.all_eq_true.mp h w hw
  simp only [Bool.or_eq_true, Bool.and_eq_true, decide_eq_true_eq, List.any_eq_true] at h1
  rcases h1 with ((⟨h2, h3⟩ | ⟨h2, h3⟩) | h2) | h2
  · exact Or.inl (List.mem_filter.mpr ⟨List.mem_append_right _ h2, h3⟩)
  · exact Or.inl (List.mem_filter.mpr ⟨List.mem_append_left _ h2, h3⟩)
  · exact Or.inr (Or.inl h2)
  · exact Or.inr (Or.inr h2)
theorem th_TS_56 : zThr "TileStudio" 56 58 "java/lang/IllegalStateException" ["java/lang/RuntimeException", "java/lang/Exception"] := ⟨by decide +kernel, by decide +kernel, by decide, zG_T 303 (by decide +kernel) (by decide +kernel), zG_T 11 (by decide +kernel) (by decide +kernel), zthr_of (by decide +kernel), by decide +kernel⟩
theorem th_TS_181 : zThr "TileStudio" 181 183 "java/util/NoSuchElementException" ["java/lang/RuntimeException", "java/lang/Exception"] := ⟨by decide +kernel, by decide +kernel, by decide, zG_T 589 (by decide +kernel) (by decide +kernel), zG_T 17 (by decide +kernel) (by decide +kernel), zthr_of (by decide +kernel), by decide +kernel⟩
theorem th_TS_245 : zThr "TileStudio" 245 247 "java/lang/IllegalArgumentException" ["java/lang/RuntimeException", "java/lang/Exception"] := ⟨by decide +kernel, by decide +kernel, by decide, zG_T 133 (by decide +kernel) (by decide +kernel), zG_T 7 (by decide +kernel) (by decide +kernel), zthr_of (by decide +kernel), by decide +kernel⟩
theorem th_TS_251 : zThr "TileStudio" 251 253 "java/lang/IndexOutOfBoundsException" ["java/lang/RuntimeException", "java/lang/Exception"] := ⟨by decide +kernel, by decide +kernel, by decide, zG_T 662 (by decide +kernel) (by decide +kernel), zG_T 18 (by decide +kernel) (by decide +kernel), zthr_of (by decide +kernel), by decide +kernel⟩
end
section
/-! ===== bits of numbers ===== -/
theorem zq_or (n m : Nat) : Int32.ofInt (n : Int) ||| Int32.ofInt (m : Int) = Int32.ofInt ((n ||| m : Nat) : Int) := by
  apply Int32.toBitVec.inj
  rw [Int32.toBitVec_or, Int32.toBitVec_ofInt, Int32.toBitVec_ofInt, Int32.toBitVec_ofInt, BitVec.ofInt_natCast, BitVec.ofInt_natCast, BitVec.ofInt_natCast]
  apply BitVec.eq_of_toNat_eq
  rw [BitVec.toNat_or, BitVec.toNat_ofNat, BitVec.toNat_ofNat, BitVec.toNat_ofNat, Nat.or_mod_two_pow]
theorem zq_and (n m : Nat) : Int32.ofInt (n : Int) &&& Int32.ofInt (m : Int) = Int32.ofInt ((n &&& m : Nat) : Int) := by
  apply Int32.toBitVec.inj
  rw [Int32.toBitVec_and, Int32.toBitVec_ofInt, Int32.toBitVec_ofInt, Int32.toBitVec_ofInt, BitVec.ofInt_natCast, BitVec.ofInt_natCast, BitVec.ofInt_natCast]
  apply BitVec.eq_of_toNat_eq
  rw [BitVec.toNat_and, BitVec.toNat_ofNat, BitVec.toNat_ofNat, BitVec.toNat_ofNat, Nat.and_mod_two_pow]
/-- the same number, from 0 on -/
theorem zq_emod (x : Int) : Int32.ofInt x = Int32.ofInt (x % 4294967296) := by
  rw [← Int32.toInt_inj, Int32.toInt_ofInt, Int32.toInt_ofInt]
  exact (Int.emod_bmod x 4294967296).symm
theorem zq_bmod (x : Int) : Int32.ofInt x = Int32.ofInt (x.bmod 4294967296) := by
  rw [← Int32.toInt_inj, Int32.toInt_ofInt, Int32.toInt_ofInt]
  show x.bmod 4294967296 = (x.bmod 4294967296).bmod 4294967296
  rw [Int.bmod_bmod]
theorem zq_mask (k : Nat) (hk : k ≤ 32) (x : Int) : Int32.ofInt x &&& Int32.ofInt ((2 ^ k - 1 : Nat) : Int) = Int32.ofInt (x % ((2 ^ k : Nat) : Int)) := by
  have h3 : 0 ≤ x % 4294967296 := Int.emod_nonneg _ (by decide)
  obtain ⟨y, hy⟩ := Int.eq_ofNat_of_zero_le h3
  rw [zq_emod x, hy, zq_and, Nat.and_two_pow_sub_one_eq_mod]
  have h4 : x % ((2 ^ k : Nat) : Int) = (x % 4294967296) % ((2 ^ k : Nat) : Int) := by
    rw [Int.emod_emod_of_dvd]
    have h5 : (2 ^ 32 : Nat) = 2 ^ k * 2 ^ (32 - k) := by rw [← Nat.pow_add]; congr 1; omega
    refine ⟨((2 ^ (32 - k) : Nat) : Int), ?_⟩
    have h6 : (4294967296 : Int) = ((2 ^ 32 : Nat) : Int) := by decide
    rw [h6, h5, Int.natCast_mul]
  rw [h4, hy, Int.natCast_emod]
theorem zq_m255 (x : Int) : Int32.ofInt x &&& Int32.ofInt 255 = Int32.ofInt (x % 256) := zq_mask 8 (by decide) x
theorem zq_m65535 (x : Int) : Int32.ofInt x &&& Int32.ofInt 65535 = Int32.ofInt (x % 65536) := zq_mask 16 (by decide) x
theorem zq_m31 (x : Int) : Int32.ofInt x &&& Int32.ofInt 31 = Int32.ofInt (x % 32) := zq_mask 5 (by decide) x
theorem zq_m1 (x : Int) : Int32.ofInt x &&& Int32.ofInt 1 = Int32.ofInt (x % 2) := zq_mask 1 (by decide) x
/-! ===== dots and their bytes ===== -/
def zby (d c : Int) : Int := d / 2 ^ (24 - 8 * c).toNat % 256
theorem zby_rg (d c : Int) : 0 ≤ zby d c ∧ zby d c ≤ 255 := by
  unfold zby
  omega
theorem zby_0 (d : Int) : zby d 0 = d / 16777216 % 256 := rfl
theorem zby_1 (d : Int) : zby d 1 = d / 65536 % 256 := rfl
theorem zby_2 (d : Int) : zby d 2 = d / 256 % 256 := rfl
theorem zby_3 (d : Int) : zby d 3 = d % 256 := by
  show d / 1 % 256 = _
  omega
def zdot (a b c d : Int) : Int := (a * 16777216 + b * 65536 + c * 256 + d).bmod 4294967296
theorem zdot_rg (a b c d : Int) : -2147483648 ≤ zdot a b c d ∧ zdot a b c d < 2147483648 := by
  have h1 := Int.le_bmod (x := a * 16777216 + b * 65536 + c * 256 + d) (m := 4294967296) (by decide)
  have h2 := Int.bmod_lt (x := a * 16777216 + b * 65536 + c * 256 + d) (m := 4294967296) (by decide)
  unfold zdot
  omega
theorem zdot_bmod (a b c d : Int) : Int32.ofInt (a * 16777216 + b * 65536 + c * 256 + d) = Int32.ofInt (zdot a b c d) := zq_bmod _
theorem zbm_cases (x : Int) : ∃ k : Int, x.bmod 4294967296 = x - 4294967296 * k := by
  have h1 := Int.bmod_eq_emod (x := x) (m := 4294967296)
  have h2 := Int.emod_add_mul_ediv x 4294967296
  rw [h1]
  split
  · exact ⟨x / 4294967296 + 1, by omega⟩
  · exact ⟨x / 4294967296, by omega⟩
theorem zby_dot {a b c d : Int} (ha : 0 ≤ a ∧ a ≤ 255) (hb : 0 ≤ b ∧ b ≤ 255) (hc : 0 ≤ c ∧ c ≤ 255) (hd : 0 ≤ d ∧ d ≤ 255) : zby (zdot a b c d) 0 = a ∧ zby (zdot a b c d) 1 = b ∧ zby (zdot a b c d) 2 = c ∧ zby (zdot a b c d) 3 = d := by
  obtain ⟨k, hk⟩ := zbm_cases (a * 16777216 + b * 65536 + c * 256 + d)
  have e : zdot a b c d = a * 16777216 + b * 65536 + c * 256 + d - 4294967296 * k := hk
  rw [zby_0, zby_1, zby_2, zby_3, e]
  omega
theorem zdot_by {d : Int} (hd : -2147483648 ≤ d ∧ d < 2147483648) : zdot (zby d 0) (zby d 1) (zby d 2) (zby d 3) = d := by
  have h0 := zdot_rg (zby d 0) (zby d 1) (zby d 2) (zby d 3)
  obtain ⟨k, hk⟩ := zbm_cases (zby d 0 * 16777216 + zby d 1 * 65536 + zby d 2 * 256 + zby d 3)
  have e : zdot (zby d 0) (zby d 1) (zby d 2) (zby d 3) = zby d 0 * 16777216 + zby d 1 * 65536 + zby d 2 * 256 + zby d 3 - 4294967296 * k := hk
  rw [e] at h0 ⊢
  rw [zby_0, zby_1, zby_2, zby_3] at h0 ⊢
  omega
theorem zby_u {d c : Int} (hc : 0 ≤ c ∧ c ≤ 3) : d % 4294967296 / 2 ^ (24 - 8 * c).toNat % 256 = zby d c := by
  have h : c = 0 ∨ c = 1 ∨ c = 2 ∨ c = 3 := by omega
  rcases h with rfl | rfl | rfl | rfl
  · show d % 4294967296 / 16777216 % 256 = d / 16777216 % 256
    omega
  · show d % 4294967296 / 65536 % 256 = d / 65536 % 256
    omega
  · show d % 4294967296 / 256 % 256 = d / 256 % 256
    omega
  · show d % 4294967296 / 1 % 256 = d / 1 % 256
    omega
/-! ===== more rows over the judgement ===== -/
abbrev zP (v : Value) (h : ZH) : ZR → ZH → Prop := fun r h' => r = .inl (some v) ∧ h' = h
abbrev zV (h1 : ZH) : ZR → ZH → Prop := fun r h' => r = .inl none ∧ h' = h1
section ZX1
variable {Z : ZC} {F : ZF} {pc q t : Nat} {L st : List Value} {h : ZH} {mc ms : Nat} {Q : ZR → ZH → Prop}
theorem zct {M : MI} {d mc ms : Nat} {av : List Value} {h : ZH} {Q : ZR → ZH → Prop} (hh : zhh M = []) (hy : plainName (zy M).cls = true) (hok : zok M) (hav : (av.all fun v => Nat.beq v.category 1) = true) (hlen : Nat.ble av.length (znL M) = true)
    (k : Ev Z (fun _ => True, M, d, mc, ms) 0 av [] h mc ms Q) : Ct Z M d mc ms av h Q :=
  Ct.ofEv hh hy hok (fun v hv => Nat.eq_of_beq_eq_true (List.all_eq_true.mp hav v hv)) (Nat.le_of_ble_eq_true hlen) k
theorem zctH {M : MI} {d mc ms : Nat} {av : List Value} {h : ZH} {Q : ZR → ZH → Prop} (hcw : zcw M = .codeWith (zy M) (zcc M) (znL M) (zret M) (zhh M)) (hy : plainName (zy M).cls = true) (hok : zok M) (hav : (av.all fun v => Nat.beq v.category 1) = true) (hlen : Nat.ble av.length (znL M) = true)
    (k : Ev Z (fun _ => True, M, d, mc, ms) 0 av [] h mc ms Q) : Ct Z M d mc ms av h Q :=
  Ct.ofEvH hcw hy hok (fun v hv => Nat.eq_of_beq_eq_true (List.all_eq_true.mp hav v hv)) (Nat.le_of_ble_eq_true hlen) k
/-- the top of the stack gets a name -/
theorem zz_nm {e : Int} (k : ∀ x, x = e → Ev Z F pc L (zI x :: st) h mc ms Q) : Ev Z F pc L (zI e :: st) h mc ms Q := k e rfl
theorem zz_eq {e x : Int} (he : e = x) (k : Ev Z F pc L (zI x :: st) h mc ms Q) : Ev Z F pc L (zI e :: st) h mc ms Q := he ▸ k
theorem zz_sg {e : Int} (k : Ev Z F pc L (zI (e.bmod 4294967296) :: st) h mc ms Q) : Ev Z F pc L (zI e :: st) h mc ms Q := by
  have h1 : zI e = zI (e.bmod 4294967296) := by
    show Value.int (Int32.ofInt e) = Value.int (Int32.ofInt (e.bmod 4294967296))
    congr 1
    exact zq_bmod e
  rw [h1]
  exact k
theorem zz_Sp {M' : MI} {d' n idx : Nat} {av rest : List Value} {v : Value} (hd : zT F.2.1 pc = some (.invokestatic idx, q, t)) (hk : Cond.methodLink (zy F.2.1).cls idx (zy M') ∈ zG ∧ Cond.static (zy M') ∈ zG) (hw : zCw M' n) (hc9 : Ct Z M' d' 0 0 av h (zP v h)) (hn : av.length = n) (hst : st = av.reverse ++ rest) (h8 : Nat.ble ((rest.map fun v => v.category).sum) 8 = true) (hdd : Nat.blt d' F.2.2.1 = true)
    (k : Ev Z F q L (v :: rest) h mc ms Q) : Ev Z F pc L st h mc ms Q :=
  zz_S (mc' := 0) (ms' := 0) hd hk hw hc9 hn hst h8 hdd (by rintro _ _ ⟨rfl, rfl⟩; exact k)
theorem zz_SNp {M' : MI} {d' n idx : Nat} {host : String} {av rest : List Value} {v : Value} (hd : zT F.2.1 pc = some (.invokestatic idx, q, t)) (hk : ((zy F.2.1).cls, idx, zy M', host) ∈ znests ∧ Cond.static (zy M') ∈ zG) (hw : zCw M' n) (hc9 : Ct Z M' d' 0 0 av h (zP v h)) (hn : av.length = n) (hst : st = av.reverse ++ rest) (h8 : Nat.ble ((rest.map fun v => v.category).sum) 8 = true) (hdd : Nat.blt d' F.2.2.1 = true)
    (k : Ev Z F q L (v :: rest) h mc ms Q) : Ev Z F pc L st h mc ms Q :=
  zz_SN (mc' := 0) (ms' := 0) hd hk hw (fun E h' h9 => by cases h9.1) hc9 hn hst h8 hdd (by rintro _ _ ⟨rfl, rfl⟩; exact k)
theorem zz_Vp {M' : MI} {d' n idx b ci : Nat} {As rest fs : List Value} {T0 : u_T} {N0 : Nat} {v : Value} (hd : zT F.2.1 pc = some (.invokevirtual idx, q, t)) (hk : Cond.methodLink (zy F.2.1).cls idx (zy M') ∈ zG ∧ Cond.instanceMethod (zy M') ∈ zG ∧ Cond.selects (zy M').cls (zy M') (zy M') ∈ zG) (hw : zCw M' n) (hci : zcls[ci]? = some ((zy M').cls, T0, N0)) (hb9 : h b = some (zo ci fs)) (hc9 : Ct Z M' d' 0 0 (.ref b :: As) h (zP v h)) (hn : As.length = n) (hst : st = As.reverse ++ .ref b :: rest) (h8 : Nat.ble ((rest.map fun v => v.category).sum) 8 = true) (hdd : Nat.blt d' F.2.2.1 = true)
    (k : Ev Z F q L (v :: rest) h mc ms Q) : Ev Z F pc L st h mc ms Q :=
  zz_V (mc' := 0) (ms' := 0) hd hk hw hci hb9 hc9 hn hst h8 hdd (by rintro _ _ ⟨rfl, rfl⟩; exact k)
/-- calls of what answers nothing, and leaves one heap -/
theorem zz_Su {M' : MI} {d' mc' ms' n idx : Nat} {av rest : List Value} {h1 : ZH} (hd : zT F.2.1 pc = some (.invokestatic idx, q, t)) (hk : Cond.methodLink (zy F.2.1).cls idx (zy M') ∈ zG ∧ Cond.static (zy M') ∈ zG) (hw : zCw M' n) (hc9 : Ct Z M' d' mc' ms' av h (zV h1)) (hn : av.length = n) (hst : st = av.reverse ++ rest) (h8 : Nat.ble ((rest.map fun v => v.category).sum) 8 = true) (hdd : Nat.blt d' F.2.2.1 = true)
    (k : Ev Z F q L rest h1 mc ms Q) : Ev Z F pc L st h (mc + mc') (ms + ms') Q :=
  zz_S hd hk hw hc9 hn hst h8 hdd (by rintro _ _ ⟨rfl, rfl⟩; exact k)
theorem zz_Vu {M' : MI} {d' mc' ms' n idx b ci : Nat} {As rest fs : List Value} {T0 : u_T} {N0 : Nat} {h1 : ZH} (hd : zT F.2.1 pc = some (.invokevirtual idx, q, t)) (hk : Cond.methodLink (zy F.2.1).cls idx (zy M') ∈ zG ∧ Cond.instanceMethod (zy M') ∈ zG ∧ Cond.selects (zy M').cls (zy M') (zy M') ∈ zG) (hw : zCw M' n) (hci : zcls[ci]? = some ((zy M').cls, T0, N0)) (hb9 : h b = some (zo ci fs)) (hc9 : Ct Z M' d' mc' ms' (.ref b :: As) h (zV h1)) (hn : As.length = n) (hst : st = As.reverse ++ .ref b :: rest) (h8 : Nat.ble ((rest.map fun v => v.category).sum) 8 = true) (hdd : Nat.blt d' F.2.2.1 = true)
    (k : Ev Z F q L rest h1 mc ms Q) : Ev Z F pc L st h (mc + mc') (ms + ms') Q :=
  zz_V hd hk hw hci hb9 hc9 hn hst h8 hdd (by rintro _ _ ⟨rfl, rfl⟩; exact k)
theorem zz_Nu {M' : MI} {d' mc' ms' n idx b : Nat} {As rest : List Value} {h1 : ZH} (hd : zT F.2.1 pc = some (.invokespecial idx, q, t)) (hk : Cond.methodLink (zy F.2.1).cls idx (zy M') ∈ zG ∧ Cond.instanceMethod (zy M') ∈ zG ∧ (zy M').name = "<init>" ∧ zret M' = none) (hw : zCw M' n) (hc9 : Ct Z M' d' mc' ms' (.ref b :: As) h (zV h1)) (hn : As.length = n) (hst : st = As.reverse ++ .ref b :: rest) (h8 : Nat.ble ((rest.map fun v => v.category).sum) 8 = true) (hdd : Nat.blt d' F.2.2.1 = true)
    (k : Ev Z F q L rest h1 mc ms Q) : Ev Z F pc L st h (mc + mc') (ms + ms') Q :=
  zz_N hd hk hw (fun E h' h9 => by cases h9.1) hc9 hn hst h8 hdd (by rintro _ _ ⟨rfl, rfl⟩; exact k)
end ZX1
end
section
/-! ===== numbers of dots ===== -/
theorem zmulb {a b A B : Int} (ha : 0 ≤ a ∧ a ≤ A) (hb : 0 ≤ b ∧ b ≤ B) : 0 ≤ a * b ∧ a * b ≤ A * B :=
  ⟨Int.mul_nonneg ha.1 hb.1, Int.mul_le_mul ha.2 hb.2 hb.1 (Int.le_trans ha.1 ha.2)⟩
theorem zor_split (k q r q' r' : Nat) (hr : r < 2 ^ k) (hr' : r' < 2 ^ k) : (2 ^ k * q + r) ||| (2 ^ k * q' + r') = 2 ^ k * (q ||| q') + (r ||| r') := by
  apply Nat.eq_of_testBit_eq
  intro i
  have h3 : r ||| r' < 2 ^ k := Nat.or_lt_two_pow hr hr'
  rw [Nat.testBit_or, Nat.testBit_two_pow_mul_add _ hr, Nat.testBit_two_pow_mul_add _ hr', Nat.testBit_two_pow_mul_add _ h3]
  split <;> simp [Nat.testBit_or]
theorem zand_split (k q r q' r' : Nat) (hr : r < 2 ^ k) (hr' : r' < 2 ^ k) : (2 ^ k * q + r) &&& (2 ^ k * q' + r') = 2 ^ k * (q &&& q') + (r &&& r') := by
  apply Nat.eq_of_testBit_eq
  intro i
  have h3 : r &&& r' < 2 ^ k := Nat.and_lt_two_pow _ hr'
  rw [Nat.testBit_and, Nat.testBit_two_pow_mul_add _ hr, Nat.testBit_two_pow_mul_add _ hr', Nat.testBit_two_pow_mul_add _ h3]
  split <;> simp [Nat.testBit_and]
def zpq (a b c d : Int) : Int := a * 16777216 + b * 65536 + c * 256 + d
theorem zpk_or {a b c d a' b' c' d' : Nat} (hb : b < 256) (hc : c < 256) (hd : d < 256) (hb' : b' < 256) (hc' : c' < 256) (hd' : d' < 256) : (16777216 * a + (65536 * b + (256 * c + d))) ||| (16777216 * a' + (65536 * b' + (256 * c' + d'))) = 16777216 * (a ||| a') + (65536 * (b ||| b') + (256 * (c ||| c') + (d ||| d'))) := by
  have h1 := zor_split 24 a (65536 * b + (256 * c + d)) a' (65536 * b' + (256 * c' + d')) (by omega) (by omega)
  have h2 := zor_split 16 b (256 * c + d) b' (256 * c' + d') (by omega) (by omega)
  have h3 := zor_split 8 c d c' d' (by omega) (by omega)
  have e1 : (2 ^ 24 : Nat) = 16777216 := by decide
  have e2 : (2 ^ 16 : Nat) = 65536 := by decide
  have e3 : (2 ^ 8 : Nat) = 256 := by decide
  rw [e1] at h1
  rw [e2] at h2
  rw [e3] at h3
  rw [h1, h2, h3]
theorem zor_pq {a b c d a' b' c' d' : Int} (ha : 0 ≤ a ∧ a ≤ 255) (hb : 0 ≤ b ∧ b ≤ 255) (hc : 0 ≤ c ∧ c ≤ 255) (hd : 0 ≤ d ∧ d ≤ 255) (ha' : 0 ≤ a' ∧ a' ≤ 255) (hb' : 0 ≤ b' ∧ b' ≤ 255) (hc' : 0 ≤ c' ∧ c' ≤ 255) (hd' : 0 ≤ d' ∧ d' ≤ 255)
    (h1 : a = 0 ∨ a' = 0) (h2 : b = 0 ∨ b' = 0) (h3 : c = 0 ∨ c' = 0) (h4 : d = 0 ∨ d' = 0) : Int32.ofInt (zpq a b c d) ||| Int32.ofInt (zpq a' b' c' d') = Int32.ofInt (zpq (a + a') (b + b') (c + c') (d + d')) := by
  obtain ⟨a, rfl⟩ := Int.eq_ofNat_of_zero_le ha.1
  obtain ⟨b, rfl⟩ := Int.eq_ofNat_of_zero_le hb.1
  obtain ⟨c, rfl⟩ := Int.eq_ofNat_of_zero_le hc.1
  obtain ⟨d, rfl⟩ := Int.eq_ofNat_of_zero_le hd.1
  obtain ⟨a', rfl⟩ := Int.eq_ofNat_of_zero_le ha'.1
  obtain ⟨b', rfl⟩ := Int.eq_ofNat_of_zero_le hb'.1
  obtain ⟨c', rfl⟩ := Int.eq_ofNat_of_zero_le hc'.1
  obtain ⟨d', rfl⟩ := Int.eq_ofNat_of_zero_le hd'.1
  have e1 : zpq a b c d = ((16777216 * a + (65536 * b + (256 * c + d)) : Nat) : Int) := by unfold zpq; omega
  have e2 : zpq a' b' c' d' = ((16777216 * a' + (65536 * b' + (256 * c' + d')) : Nat) : Int) := by unfold zpq; omega
  rw [e1, e2, zq_or, zpk_or (by omega) (by omega) (by omega) (by omega) (by omega) (by omega)]
  congr 1
  have z : ∀ x y : Nat, ((x : Int) = 0 ∨ (y : Int) = 0) → ((x ||| y : Nat) : Int) = (x : Int) + y := by
    intro x y h
    rcases h with h | h
    · have : x = 0 := by omega
      subst this
      simp
    · have : y = 0 := by omega
      subst this
      simp
  have z1 := z _ _ h1
  have z2 := z _ _ h2
  have z3 := z _ _ h3
  have z4 := z _ _ h4
  unfold zpq
  omega
theorem zpq_0 (a : Int) : a * 2 ^ (24 - 8 * (0 : Int)).toNat = zpq a 0 0 0 := by show a * 16777216 = _; unfold zpq; omega
theorem zpq_1 (a : Int) : a * 2 ^ (24 - 8 * (1 : Int)).toNat = zpq 0 a 0 0 := by show a * 65536 = _; unfold zpq; omega
theorem zpq_2 (a : Int) : a * 2 ^ (24 - 8 * (2 : Int)).toNat = zpq 0 0 a 0 := by show a * 256 = _; unfold zpq; omega
theorem zpq_3 (a : Int) : a * 2 ^ (24 - 8 * (3 : Int)).toNat = zpq 0 0 0 a := by show a * 1 = _; unfold zpq; omega
theorem zo_a {a b c d : Int} (ha : 0 ≤ a ∧ a ≤ 255) (hb : 0 ≤ b ∧ b ≤ 255) (hc : 0 ≤ c ∧ c ≤ 255) (hd : 0 ≤ d ∧ d ≤ 255) : Int32.ofInt (zpq 0 b c d) ||| Int32.ofInt (a * 2 ^ (24 - 8 * (0 : Int)).toNat) = Int32.ofInt (zpq a b c d) := by
  rw [zpq_0, zor_pq (by decide) hb hc hd ha (by decide) (by decide) (by decide) (Or.inl rfl) (Or.inr rfl) (Or.inr rfl) (Or.inr rfl)]
  simp
theorem zo_b {a b c d : Int} (ha : 0 ≤ a ∧ a ≤ 255) (hb : 0 ≤ b ∧ b ≤ 255) (hc : 0 ≤ c ∧ c ≤ 255) (hd : 0 ≤ d ∧ d ≤ 255) : Int32.ofInt (zpq a 0 c d) ||| Int32.ofInt (b * 2 ^ (24 - 8 * (1 : Int)).toNat) = Int32.ofInt (zpq a b c d) := by
  rw [zpq_1, zor_pq ha (by decide) hc hd (by decide) hb (by decide) (by decide) (Or.inr rfl) (Or.inl rfl) (Or.inr rfl) (Or.inr rfl)]
  simp
theorem zo_c {a b c d : Int} (ha : 0 ≤ a ∧ a ≤ 255) (hb : 0 ≤ b ∧ b ≤ 255) (hc : 0 ≤ c ∧ c ≤ 255) (hd : 0 ≤ d ∧ d ≤ 255) : Int32.ofInt (zpq a b 0 d) ||| Int32.ofInt (c * 2 ^ (24 - 8 * (2 : Int)).toNat) = Int32.ofInt (zpq a b c d) := by
  rw [zpq_2, zor_pq ha hb (by decide) hd (by decide) (by decide) hc (by decide) (Or.inr rfl) (Or.inr rfl) (Or.inl rfl) (Or.inr rfl)]
  simp
theorem zo_d {a b c d : Int} (ha : 0 ≤ a ∧ a ≤ 255) (hb : 0 ≤ b ∧ b ≤ 255) (hc : 0 ≤ c ∧ c ≤ 255) (hd : 0 ≤ d ∧ d ≤ 255) : Int32.ofInt (zpq a b c 0) ||| Int32.ofInt (d * 2 ^ (24 - 8 * (3 : Int)).toNat) = Int32.ofInt (zpq a b c d) := by
  rw [zpq_3, zor_pq ha hb hc (by decide) (by decide) (by decide) (by decide) hd (Or.inr rfl) (Or.inr rfl) (Or.inr rfl) (Or.inl rfl)]
  simp
theorem zpq_dot (a b c d : Int) : zI (zpq a b c d) = zI (zdot a b c d) := congrArg Value.int (zdot_bmod a b c d)
def zdv (v : Int) : Int := (v + 127) / 255
def zmx (mode s b : Int) : Int := if mode = 1 then zdv (s * b) else if mode = 2 then s + b - zdv (s * b) else if mode = 3 then (if b < s then b else s) else if mode = 4 then (if s < b then b else s) else if mode = 5 then (if s + b < 255 then s + b else 255) else s
theorem zdv_rg {v : Int} (h : 0 ≤ v ∧ v ≤ 65025) : 0 ≤ zdv v ∧ zdv v ≤ 255 := by unfold zdv; omega
theorem zmx_rg {m s b : Int} (hs : 0 ≤ s ∧ s ≤ 255) (hb : 0 ≤ b ∧ b ≤ 255) : 0 ≤ zmx m s b ∧ zmx m s b ≤ 255 := by
  have h1 := zmulb hs hb
  have h2 : (255 : Int) * 255 = 65025 := by decide
  rw [h2] at h1
  have h3 := zdv_rg h1
  have h4 : s * b ≤ 255 * b := Int.mul_le_mul_of_nonneg_right hs.2 hb.1
  have h5 : s * b ≤ s * 255 := Int.mul_le_mul_of_nonneg_left hb.2 hs.1
  have h6 : zdv (s * b) ≤ s ∧ zdv (s * b) ≤ b ∧ s + b - 255 ≤ zdv (s * b) := by
    have h7 : 0 ≤ (255 - s) * (255 - b) := Int.mul_nonneg (by omega) (by omega)
    have h8 : (255 - s) * (255 - b) = 65025 - 255 * s - 255 * b + s * b := by
      rw [Int.sub_mul, Int.mul_sub, Int.mul_sub]
      omega
    unfold zdv
    omega
  unfold zmx
  split
  · exact h3
  · split
    · omega
    · split
      · split <;> omega
      · split
        · split <;> omega
        · split
          · split <;> omega
          · omega
def zab (x : Int) : Int := if 0 ≤ x then x else -x
abbrev zak (p q t : Int) : Prop := zab (zby p 0 - zby q 0) ≤ t ∧ zab (zby p 1 - zby q 1) ≤ t ∧ zab (zby p 2 - zby q 2) ≤ t ∧ zab (zby p 3 - zby q 3) ≤ t
/-- a byte between two -/
def zgc (f l k n c : Int) : Int := (zby f c * (n - k) + zby l c * k + n / 2) / n
def zbt (f l k n : Int) : Int := if n = 0 then f else zdot (zgc f l k n 0) (zgc f l k n 1) (zgc f l k n 2) (zgc f l k n 3)
theorem zdiv_le {a b c : Int} (hb : 0 < b) (ha : 0 ≤ a) (h : a < (c + 1) * b) : 0 ≤ a / b ∧ a / b ≤ c := by
  refine ⟨Int.ediv_nonneg ha (by omega), ?_⟩
  have := Int.ediv_lt_of_lt_mul hb h
  omega
theorem zgc_rg {f l k n : Int} (c : Int) (hk : 0 ≤ k ∧ k ≤ n) (hn : 0 < n ∧ n ≤ 1000) : 0 ≤ zgc f l k n c ∧ zgc f l k n c ≤ 255 ∧ 0 ≤ zby f c * (n - k) + zby l c * k + n / 2 ∧ zby f c * (n - k) + zby l c * k + n / 2 ≤ 300000 := by
  have h1 := zmulb (zby_rg f c) (b := n - k) (B := n - k) ⟨by omega, by omega⟩
  have h2 := zmulb (zby_rg l c) (b := k) (B := k) ⟨by omega, by omega⟩
  have h3 : zby f c * (n - k) + zby l c * k + n / 2 < (255 + 1) * n := by omega
  obtain ⟨h4, h5⟩ := zdiv_le (c := 255) hn.1 (by omega) h3
  exact ⟨h4, h5, by omega, by omega⟩
/-- four dots to one -/
def zmc (a b c d : Int) : Int := zby a 3 + zby b 3 + zby c 3 + zby d 3
def zms (a b c d k : Int) : Int := zby a 3 * zby a k + zby b 3 * zby b k + zby c 3 * zby c k + zby d 3 * zby d k
def zmg (a b c d : Int) : Int := if zmc a b c d = 0 then 0 else zdot ((zms a b c d 0 + zmc a b c d / 2) / zmc a b c d) ((zms a b c d 1 + zmc a b c d / 2) / zmc a b c d) ((zms a b c d 2 + zmc a b c d / 2) / zmc a b c d) ((zmc a b c d + 2) / 4)
theorem zmg_rg {a b c d : Int} (k : Int) (h0 : zmc a b c d ≠ 0) : (0 < zmc a b c d ∧ zmc a b c d ≤ 1020) ∧ (0 ≤ zms a b c d k + zmc a b c d / 2 ∧ zms a b c d k + zmc a b c d / 2 ≤ 300000) ∧ (0 ≤ (zms a b c d k + zmc a b c d / 2) / zmc a b c d ∧ (zms a b c d k + zmc a b c d / 2) / zmc a b c d ≤ 255) := by
  have a3 := zby_rg a 3
  have b3 := zby_rg b 3
  have c3 := zby_rg c 3
  have d3 := zby_rg d 3
  have h1 := zmulb (A := zby a 3) ⟨a3.1, Int.le_refl _⟩ (zby_rg a k)
  have h2 := zmulb (A := zby b 3) ⟨b3.1, Int.le_refl _⟩ (zby_rg b k)
  have h3 := zmulb (A := zby c 3) ⟨c3.1, Int.le_refl _⟩ (zby_rg c k)
  have h4 := zmulb (A := zby d 3) ⟨d3.1, Int.le_refl _⟩ (zby_rg d k)
  have hm : zms a b c d k = zby a 3 * zby a k + zby b 3 * zby b k + zby c 3 * zby c k + zby d 3 * zby d k := rfl
  have hc : zmc a b c d = zby a 3 + zby b 3 + zby c 3 + zby d 3 := rfl
  have h5 : zms a b c d k + zmc a b c d / 2 < (255 + 1) * zmc a b c d := by omega
  have h6 := zdiv_le (c := 255) (by omega) (by omega) h5
  exact ⟨⟨by omega, by omega⟩, ⟨by omega, by omega⟩, h6⟩
/-- blending: S onto B -/
def zbs (S op : Int) : Int := zdv (zby S 3 * op)
def zbu (S B op : Int) : Int := zby B 3 * (255 - zbs S op)
def zbw (S B op : Int) : Int := 255 * zbs S op + zbu S B op
def zbx (S B m k : Int) : Int := zdv (zby B 3 * zmx m (zby S k) (zby B k) + (255 - zby B 3) * zby S k)
def zbn (S B m op k : Int) : Int := 255 * zbs S op * zbx S B m k + zbu S B op * zby B k
def zbk (S B m op k : Int) : Int := (zbn S B m op k + zbw S B op / 2) / zbw S B op
def zbl (S B m op : Int) : Int := if zbw S B op = 0 then 0 else zdot (zbk S B m op 0) (zbk S B m op 1) (zbk S B m op 2) (zdv (zbw S B op))
theorem zbs_rg (S : Int) {op : Int} (ho : 0 ≤ op ∧ op ≤ 255) : 0 ≤ zbs S op ∧ zbs S op ≤ 255 ∧ 0 ≤ zby S 3 * op ∧ zby S 3 * op ≤ 65025 := by
  have h1 := zmulb (zby_rg S 3) ho
  have h2 : (255 : Int) * 255 = 65025 := by decide
  rw [h2] at h1
  exact ⟨(zdv_rg h1).1, (zdv_rg h1).2, h1.1, h1.2⟩
theorem zbu_rg (S B : Int) {op : Int} (ho : 0 ≤ op ∧ op ≤ 255) : 0 ≤ zbu S B op ∧ zbu S B op + 255 * zbs S op ≤ 65025 := by
  have h1 := zbs_rg S ho
  have h2 := zmulb (zby_rg B 3) (b := 255 - zbs S op) (B := 255 - zbs S op) ⟨by omega, by omega⟩
  unfold zbu
  omega
theorem zbx_rg (S B m k : Int) : 0 ≤ zbx S B m k ∧ zbx S B m k ≤ 255 ∧ 0 ≤ zby B 3 * zmx m (zby S k) (zby B k) + (255 - zby B 3) * zby S k ∧ zby B 3 * zmx m (zby S k) (zby B k) + (255 - zby B 3) * zby S k ≤ 65025 := by
  have b3 := zby_rg B 3
  have h1 := zmulb (A := zby B 3) ⟨b3.1, Int.le_refl _⟩ (zmx_rg (m := m) (zby_rg S k) (zby_rg B k))
  have h2 := zmulb (a := 255 - zby B 3) (A := 255 - zby B 3) ⟨by omega, by omega⟩ (zby_rg S k)
  have h3 : 0 ≤ zby B 3 * zmx m (zby S k) (zby B k) + (255 - zby B 3) * zby S k ∧ zby B 3 * zmx m (zby S k) (zby B k) + (255 - zby B 3) * zby S k ≤ 65025 := by omega
  exact ⟨(zdv_rg h3).1, (zdv_rg h3).2, h3.1, h3.2⟩
theorem zbk_rg (S B m k : Int) {op : Int} (ho : 0 ≤ op ∧ op ≤ 255) (h0 : zbw S B op ≠ 0) : (0 < zbw S B op ∧ zbw S B op ≤ 65025) ∧ (0 ≤ zbn S B m op k ∧ zbn S B m op k + zbw S B op / 2 ≤ 20000000) ∧ (0 ≤ zbk S B m op k ∧ zbk S B m op k ≤ 255) := by
  have h1 := zbs_rg S ho
  have h2 := zbu_rg S B ho
  have h3 := zbx_rg S B m k
  have h4 := zmulb (a := 255 * zbs S op) (A := 255 * zbs S op) ⟨by omega, by omega⟩ ⟨h3.1, h3.2.1⟩
  have h5 := zmulb (a := zbu S B op) (A := zbu S B op) ⟨by omega, by omega⟩ (zby_rg B k)
  have hw : zbw S B op = 255 * zbs S op + zbu S B op := rfl
  have hn : zbn S B m op k = 255 * zbs S op * zbx S B m k + zbu S B op * zby B k := rfl
  have h6 : zbn S B m op k + zbw S B op / 2 < (255 + 1) * zbw S B op := by omega
  have h7 := zdiv_le (c := 255) (by omega) (by omega) h6
  exact ⟨⟨by omega, by omega⟩, ⟨by omega, by omega⟩, h7⟩
section ZB
variable {h : ZH} {P : Prop}
theorem zret_t [Decidable P] (hp : P) : zP (zI (zb P)) h (.inl (some (zI 1))) h := by
  rw [zb, if_pos hp]; exact ⟨rfl, rfl⟩
theorem zret_f [Decidable P] (hp : ¬ P) : zP (zI (zb P)) h (.inl (some (zI 0))) h := by
  rw [zb, if_neg hp]; exact ⟨rfl, rfl⟩
theorem zret_e {a b : Int} (he : a = b) : zP (zI b) h (.inl (some (zI a))) h := by subst he; exact ⟨rfl, rfl⟩
theorem zret_q {a b : Int} (he : zI a = zI b) : zP (zI b) h (.inl (some (zI a))) h := by rw [he]; exact ⟨rfl, rfl⟩
end ZB
theorem zz_iincK {Z : ZC} {F : ZF} {pc q t : Nat} {L st : List Value} {h : ZH} {mc ms : Nat} {Q : ZR → ZH → Prop} {x n : Int} {k0 : Nat} (y : Int) (hd : zT F.2.1 pc = some (.iinc k0 n, q, t)) (hL : L[k0]? = some (zI x)) (hz : zst L k0 = true) (hn : Nat.blt k0 (znL F.2.1) = true) (hy : x + n = y) (k : Ev Z F q (zsl L k0 (zI y)) st h mc ms Q) : Ev Z F pc L st h mc ms Q := by
  subst hy
  exact zz_iinc hd hL hz hn k
end
section
section DT
variable {Z : ZC} {h : ZH}
theorem ct_byteOf {d c : Int} (hc : 0 ≤ c ∧ c ≤ 3) : Ct Z m_Dots_byteOf 0 0 0 [zI d, zI c] h (zP (zI (zby d c)) h) := by
  refine zct rfl (by decide) ok_Dots_byteOf rfl rfl ?_
  refine zz_iload_n rfl rfl ?_
  refine zz_bipush rfl (by decide) ?_
  refine zz_bipush rfl (by decide) ?_
  refine zz_iload_n rfl rfl ?_
  refine zz_imul rfl ?_
  refine zz_isub rfl ?_
  refine zz_iushr rfl (by omega) ?_
  refine zz_sipush rfl (by decide) ?_
  refine zz_iand rfl (zq_m255 _) ?_
  refine zz_iret rfl rfl (zret_e (zby_u hc))
theorem ct_placed {v c : Int} (hc : 0 ≤ c ∧ c ≤ 3) : Ct Z m_Dots_placed 0 0 0 [zI v, zI c] h (zP (zI (v * 2 ^ (24 - 8 * c).toNat)) h) := by
  refine zct rfl (by decide) ok_Dots_placed rfl rfl ?_
  refine zz_iload_n rfl rfl ?_
  refine zz_bipush rfl (by decide) ?_
  refine zz_bipush rfl (by decide) ?_
  refine zz_iload_n rfl rfl ?_
  refine zz_imul rfl ?_
  refine zz_isub rfl ?_
  refine zz_ishl rfl (by omega) ?_
  refine zz_iret rfl rfl ⟨rfl, rfl⟩
theorem ct_div {v : Int} (hv : 0 ≤ v ∧ v ≤ 100000) : Ct Z m_Dots_div 0 0 0 [zI v] h (zP (zI (zdv v)) h) := by
  refine zct rfl (by decide) ok_Dots_div rfl rfl ?_
  refine zz_iload_n rfl rfl ?_
  refine zz_bipush rfl (by decide) ?_
  refine zz_iadd rfl ?_
  refine zz_sipush rfl (by decide) ?_
  refine zz_idivP rfl (by omega) (by omega) ?_
  refine zz_iret rfl rfl ⟨rfl, rfl⟩
theorem ct_covered {d c : Int} (hc : 0 ≤ c ∧ c ≤ 3) : Ct Z m_Dots_covered 1 0 0 [zI d, zI c] h (zP (zI (zby d 3 * zby d c)) h) := by
  refine zct rfl (by decide) ok_Dots_covered rfl rfl ?_
  refine zz_iload_n rfl rfl ?_
  refine zz_iconst rfl ?_
  refine zz_Sp rfl lk_Dots_9 cw_Dots_byteOf (ct_byteOf (by omega)) rfl rfl rfl rfl ?_
  refine zz_iload_n rfl rfl ?_
  refine zz_iload_n rfl rfl ?_
  refine zz_Sp rfl lk_Dots_9 cw_Dots_byteOf (ct_byteOf (by omega)) rfl rfl rfl rfl ?_
  refine zz_imul rfl ?_
  refine zz_iret rfl rfl ⟨rfl, rfl⟩
theorem ct_mixed {s b m : Int} (hs : 0 ≤ s ∧ s ≤ 255) (hb : 0 ≤ b ∧ b ≤ 255) (hm : 0 ≤ m ∧ m ≤ 5) : Ct Z m_Dots_mixed 1 0 0 [zI s, zI b, zI m] h (zP (zI (zmx m s b)) h) := by
  have hsb := zmulb hs hb
  have hc : m = 0 ∨ m = 1 ∨ m = 2 ∨ m = 3 ∨ m = 4 ∨ m = 5 := by omega
  rcases hc with rfl | rfl | rfl | rfl | rfl | rfl
  · refine zct rfl (by decide) ok_Dots_mixed rfl rfl ?_
    refine zz_iload_n rfl rfl ?_
    refine zz_tswD (tg := 76) rfl (by decide) (by decide) rfl ?_
    refine zz_iload_n rfl rfl ?_
    refine zz_iret rfl rfl (zret_e (by simp [zmx]))
  · refine zct rfl (by decide) ok_Dots_mixed rfl rfl ?_
    refine zz_iload_n rfl rfl ?_
    refine zz_tsw (tg := 36) rfl (by decide) (by decide) (by decide) rfl rfl ?_
    refine zz_iload_n rfl rfl ?_
    refine zz_iload_n rfl rfl ?_
    refine zz_imul rfl ?_
    refine zz_Sp rfl lk_Dots_27 cw_Dots_div (ct_div (by omega)) rfl rfl rfl rfl ?_
    refine zz_iret rfl rfl (zret_e (by simp [zmx]))
  · refine zct rfl (by decide) ok_Dots_mixed rfl rfl ?_
    refine zz_iload_n rfl rfl ?_
    refine zz_tsw (tg := 43) rfl (by decide) (by decide) (by decide) rfl rfl ?_
    refine zz_iload_n rfl rfl ?_
    refine zz_iload_n rfl rfl ?_
    refine zz_iadd rfl ?_
    refine zz_iload_n rfl rfl ?_
    refine zz_iload_n rfl rfl ?_
    refine zz_imul rfl ?_
    refine zz_Sp rfl lk_Dots_27 cw_Dots_div (ct_div (by omega)) rfl rfl rfl rfl ?_
    refine zz_isub rfl ?_
    refine zz_iret rfl rfl (zret_e (by simp [zmx]))
  · refine zct rfl (by decide) ok_Dots_mixed rfl rfl ?_
    refine zz_iload_n rfl rfl ?_
    refine zz_tsw (tg := 54) rfl (by decide) (by decide) (by decide) rfl rfl ?_
    refine zz_iload_n rfl rfl ?_
    refine zz_iload_n rfl rfl ?_
    refine zz_mmin rfl mt_Dots_34 rfl (by omega) (by omega) ?_
    refine zz_iret rfl rfl (zret_e (by simp [zmx]))
  · refine zct rfl (by decide) ok_Dots_mixed rfl rfl ?_
    refine zz_iload_n rfl rfl ?_
    refine zz_tsw (tg := 60) rfl (by decide) (by decide) (by decide) rfl rfl ?_
    refine zz_iload_n rfl rfl ?_
    refine zz_iload_n rfl rfl ?_
    refine zz_mmax rfl mt_Dots_37 rfl (by omega) (by omega) ?_
    refine zz_iret rfl rfl (zret_e (by simp [zmx]))
  · refine zct rfl (by decide) ok_Dots_mixed rfl rfl ?_
    refine zz_iload_n rfl rfl ?_
    refine zz_tsw (tg := 66) rfl (by decide) (by decide) (by decide) rfl rfl ?_
    refine zz_sipush rfl (by decide) ?_
    refine zz_iload_n rfl rfl ?_
    refine zz_iload_n rfl rfl ?_
    refine zz_iadd rfl ?_
    refine zz_mmin rfl mt_Dots_34 rfl (by omega) (by omega) ?_
    refine zz_iret rfl rfl (zret_e (by simp [zmx]))
theorem zab_rg (p q k : Int) : 0 ≤ zab (zby p k - zby q k) ∧ zab (zby p k - zby q k) ≤ 255 := by
  have h1 := zby_rg p k
  have h2 := zby_rg q k
  unfold zab
  split <;> omega
theorem ct_areAlike {p q t : Int} (ht : 0 ≤ t ∧ t ≤ 255) : Ct Z m_Dots_areAlike 1 0 0 [zI p, zI q, zI t] h (zP (zI (zb (zak p q t))) h) := by
  refine zct rfl (by decide) ok_Dots_areAlike rfl rfl ?_
  refine zz_iconst rfl ?_
  refine zz_istore_n rfl rfl rfl ?_
  refine zz_iload_n rfl rfl ?_
  refine zz_iconst rfl ?_
  refine zz_icmp_ge rfl (by omega) (by omega) (fun hb4 => absurd hb4 (by first | decide | omega)) (fun hb4 => ?_)
  refine zz_iload_n rfl rfl ?_
  refine zz_iload_n rfl rfl ?_
  refine zz_Sp rfl lk_Dots_9 cw_Dots_byteOf (ct_byteOf (by omega)) rfl rfl rfl rfl ?_
  refine zz_iload_n rfl rfl ?_
  refine zz_iload_n rfl rfl ?_
  refine zz_Sp rfl lk_Dots_9 cw_Dots_byteOf (ct_byteOf (by omega)) rfl rfl rfl rfl ?_
  refine zz_isub rfl ?_
  refine zz_mabs rfl mt_Dots_15 rfl (by have := zby_rg p 0; have := zby_rg p 1; have := zby_rg p 2; have := zby_rg p 3; have := zby_rg q 0; have := zby_rg q 1; have := zby_rg q 2; have := zby_rg q 3; omega) ?_
  refine zz_eq (show _ = zab (zby p 0 - zby q 0) from rfl) ?_
  have ha0 := zab_rg p q 0
  refine zz_iload_n rfl rfl ?_
  have hk0 : True := trivial
  refine zz_icmp_le rfl (by omega) (by omega) (fun hb22 => ?_) (fun hb22 => ?_)
  · skip
    have hq0 := hb22
    refine zz_iincK 1 rfl rfl rfl rfl (by decide) ?_
    refine zz_goto rfl ?_
    refine zz_iload_n rfl rfl ?_
    refine zz_iconst rfl ?_
    refine zz_icmp_ge rfl (by omega) (by omega) (fun hb4 => absurd hb4 (by first | decide | omega)) (fun hb4 => ?_)
    refine zz_iload_n rfl rfl ?_
    refine zz_iload_n rfl rfl ?_
    refine zz_Sp rfl lk_Dots_9 cw_Dots_byteOf (ct_byteOf (by omega)) rfl rfl rfl rfl ?_
    refine zz_iload_n rfl rfl ?_
    refine zz_iload_n rfl rfl ?_
    refine zz_Sp rfl lk_Dots_9 cw_Dots_byteOf (ct_byteOf (by omega)) rfl rfl rfl rfl ?_
    refine zz_isub rfl ?_
    refine zz_mabs rfl mt_Dots_15 rfl (by have := zby_rg p 0; have := zby_rg p 1; have := zby_rg p 2; have := zby_rg p 3; have := zby_rg q 0; have := zby_rg q 1; have := zby_rg q 2; have := zby_rg q 3; omega) ?_
    refine zz_eq (show _ = zab (zby p 1 - zby q 1) from rfl) ?_
    have ha1 := zab_rg p q 1
    refine zz_iload_n rfl rfl ?_
    have hk1 : True := trivial
    refine zz_icmp_le rfl (by omega) (by omega) (fun hb22 => ?_) (fun hb22 => ?_)
    · skip
      have hq1 := hb22
      refine zz_iincK 2 rfl rfl rfl rfl (by decide) ?_
      refine zz_goto rfl ?_
      refine zz_iload_n rfl rfl ?_
      refine zz_iconst rfl ?_
      refine zz_icmp_ge rfl (by omega) (by omega) (fun hb4 => absurd hb4 (by first | decide | omega)) (fun hb4 => ?_)
      refine zz_iload_n rfl rfl ?_
      refine zz_iload_n rfl rfl ?_
      refine zz_Sp rfl lk_Dots_9 cw_Dots_byteOf (ct_byteOf (by omega)) rfl rfl rfl rfl ?_
      refine zz_iload_n rfl rfl ?_
      refine zz_iload_n rfl rfl ?_
      refine zz_Sp rfl lk_Dots_9 cw_Dots_byteOf (ct_byteOf (by omega)) rfl rfl rfl rfl ?_
      refine zz_isub rfl ?_
      refine zz_mabs rfl mt_Dots_15 rfl (by have := zby_rg p 0; have := zby_rg p 1; have := zby_rg p 2; have := zby_rg p 3; have := zby_rg q 0; have := zby_rg q 1; have := zby_rg q 2; have := zby_rg q 3; omega) ?_
      refine zz_eq (show _ = zab (zby p 2 - zby q 2) from rfl) ?_
      have ha2 := zab_rg p q 2
      refine zz_iload_n rfl rfl ?_
      have hk2 : True := trivial
      refine zz_icmp_le rfl (by omega) (by omega) (fun hb22 => ?_) (fun hb22 => ?_)
      · skip
        have hq2 := hb22
        refine zz_iincK 3 rfl rfl rfl rfl (by decide) ?_
        refine zz_goto rfl ?_
        refine zz_iload_n rfl rfl ?_
        refine zz_iconst rfl ?_
        refine zz_icmp_ge rfl (by omega) (by omega) (fun hb4 => absurd hb4 (by first | decide | omega)) (fun hb4 => ?_)
        refine zz_iload_n rfl rfl ?_
        refine zz_iload_n rfl rfl ?_
        refine zz_Sp rfl lk_Dots_9 cw_Dots_byteOf (ct_byteOf (by omega)) rfl rfl rfl rfl ?_
        refine zz_iload_n rfl rfl ?_
        refine zz_iload_n rfl rfl ?_
        refine zz_Sp rfl lk_Dots_9 cw_Dots_byteOf (ct_byteOf (by omega)) rfl rfl rfl rfl ?_
        refine zz_isub rfl ?_
        refine zz_mabs rfl mt_Dots_15 rfl (by have := zby_rg p 0; have := zby_rg p 1; have := zby_rg p 2; have := zby_rg p 3; have := zby_rg q 0; have := zby_rg q 1; have := zby_rg q 2; have := zby_rg q 3; omega) ?_
        refine zz_eq (show _ = zab (zby p 3 - zby q 3) from rfl) ?_
        have ha3 := zab_rg p q 3
        refine zz_iload_n rfl rfl ?_
        have hk3 : True := trivial
        refine zz_icmp_le rfl (by omega) (by omega) (fun hb22 => ?_) (fun hb22 => ?_)
        · skip
          have hq3 := hb22
          refine zz_iincK 4 rfl rfl rfl rfl (by decide) ?_
          refine zz_goto rfl ?_
          refine zz_iload_n rfl rfl ?_
          refine zz_iconst rfl ?_
          refine zz_icmp_ge rfl (by omega) (by omega) (fun hb4 => ?_) (fun hb4 => absurd hb4 (by first | decide | omega))
          refine zz_iconst rfl ?_
          refine zz_zret rfl rfl rfl (zret_t ⟨hq0, hq1, hq2, hq3⟩)
        · skip
          refine zz_iconst rfl ?_
          exact zz_zret rfl rfl rfl (zret_f (fun h9 => hb22 h9.2.2.2))
      · skip
        refine zz_iconst rfl ?_
        exact zz_zret rfl rfl rfl (zret_f (fun h9 => hb22 h9.2.2.1))
    · skip
      refine zz_iconst rfl ?_
      exact zz_zret rfl rfl rfl (zret_f (fun h9 => hb22 h9.2.1))
  · skip
    refine zz_iconst rfl ?_
    exact zz_zret rfl rfl rfl (zret_f (fun h9 => hb22 h9.1))
theorem ct_between {f l k n : Int} (hk : 0 ≤ k ∧ k ≤ n) (hn : n ≤ 1000) : Ct Z m_Dots_between 1 0 0 [zI f, zI l, zI k, zI n] h (zP (zI (zbt f l k n)) h) := by
  refine zct rfl (by decide) ok_Dots_between rfl rfl ?_
  refine zz_iload_n rfl rfl ?_
  refine zz_if_ne rfl (by omega) (fun hb1 => ?_) (fun hb1 => ?_)
  · skip
    refine zz_iconst rfl ?_
    refine zz_eq (show (0 : Int) = zpq 0 0 0 0 from by decide) ?_
    have hn0 : 0 < n := by omega
    refine zz_istore rfl rfl rfl ?_
    refine zz_iconst rfl ?_
    refine zz_istore rfl rfl rfl ?_
    refine zz_iload rfl rfl ?_
    refine zz_iconst rfl ?_
    refine zz_icmp_ge rfl (by omega) (by omega) (fun hb15 => absurd hb15 (by first | decide | omega)) (fun hb15 => ?_)
    refine zz_iload_n rfl rfl ?_
    refine zz_iload rfl rfl ?_
    refine zz_Sp rfl lk_Dots_9 cw_Dots_byteOf (ct_byteOf (by omega)) rfl rfl rfl rfl ?_
    refine zz_iload_n rfl rfl ?_
    refine zz_iload_n rfl rfl ?_
    refine zz_isub rfl ?_
    refine zz_imul rfl ?_
    refine zz_iload_n rfl rfl ?_
    refine zz_iload rfl rfl ?_
    refine zz_Sp rfl lk_Dots_9 cw_Dots_byteOf (ct_byteOf (by omega)) rfl rfl rfl rfl ?_
    refine zz_iload_n rfl rfl ?_
    refine zz_imul rfl ?_
    refine zz_iadd rfl ?_
    refine zz_istore rfl rfl rfl ?_
    have g0 := zgc_rg (f := f) (l := l) (k := k) (n := n) 0 hk ⟨hn0, by omega⟩
    refine zz_iload rfl rfl ?_
    refine zz_iload rfl rfl ?_
    refine zz_iload_n rfl rfl ?_
    refine zz_iconst rfl ?_
    refine zz_idivP rfl (by omega) (by omega) ?_
    refine zz_iadd rfl ?_
    refine zz_iload_n rfl rfl ?_
    refine zz_idivP rfl (by omega) (by omega) ?_
    refine zz_iload rfl rfl ?_
    refine zz_Sp rfl lk_Dots_21 cw_Dots_placed (ct_placed (by omega)) rfl rfl rfl rfl ?_
    refine zz_ior rfl (zo_a ⟨g0.1, g0.2.1⟩ (by decide) (by decide) (by decide)) ?_
    refine zz_istore rfl rfl rfl ?_
    refine zz_iincK 1 rfl rfl rfl rfl (by decide) ?_
    refine zz_goto rfl ?_
    refine zz_iload rfl rfl ?_
    refine zz_iconst rfl ?_
    refine zz_icmp_ge rfl (by omega) (by omega) (fun hb15 => absurd hb15 (by first | decide | omega)) (fun hb15 => ?_)
    refine zz_iload_n rfl rfl ?_
    refine zz_iload rfl rfl ?_
    refine zz_Sp rfl lk_Dots_9 cw_Dots_byteOf (ct_byteOf (by omega)) rfl rfl rfl rfl ?_
    refine zz_iload_n rfl rfl ?_
    refine zz_iload_n rfl rfl ?_
    refine zz_isub rfl ?_
    refine zz_imul rfl ?_
    refine zz_iload_n rfl rfl ?_
    refine zz_iload rfl rfl ?_
    refine zz_Sp rfl lk_Dots_9 cw_Dots_byteOf (ct_byteOf (by omega)) rfl rfl rfl rfl ?_
    refine zz_iload_n rfl rfl ?_
    refine zz_imul rfl ?_
    refine zz_iadd rfl ?_
    refine zz_istore rfl rfl rfl ?_
    have g1 := zgc_rg (f := f) (l := l) (k := k) (n := n) 1 hk ⟨hn0, by omega⟩
    refine zz_iload rfl rfl ?_
    refine zz_iload rfl rfl ?_
    refine zz_iload_n rfl rfl ?_
    refine zz_iconst rfl ?_
    refine zz_idivP rfl (by omega) (by omega) ?_
    refine zz_iadd rfl ?_
    refine zz_iload_n rfl rfl ?_
    refine zz_idivP rfl (by omega) (by omega) ?_
    refine zz_iload rfl rfl ?_
    refine zz_Sp rfl lk_Dots_21 cw_Dots_placed (ct_placed (by omega)) rfl rfl rfl rfl ?_
    refine zz_ior rfl (zo_b ⟨g0.1, g0.2.1⟩ ⟨g1.1, g1.2.1⟩ (by decide) (by decide)) ?_
    refine zz_istore rfl rfl rfl ?_
    refine zz_iincK 2 rfl rfl rfl rfl (by decide) ?_
    refine zz_goto rfl ?_
    refine zz_iload rfl rfl ?_
    refine zz_iconst rfl ?_
    refine zz_icmp_ge rfl (by omega) (by omega) (fun hb15 => absurd hb15 (by first | decide | omega)) (fun hb15 => ?_)
    refine zz_iload_n rfl rfl ?_
    refine zz_iload rfl rfl ?_
    refine zz_Sp rfl lk_Dots_9 cw_Dots_byteOf (ct_byteOf (by omega)) rfl rfl rfl rfl ?_
    refine zz_iload_n rfl rfl ?_
    refine zz_iload_n rfl rfl ?_
    refine zz_isub rfl ?_
    refine zz_imul rfl ?_
    refine zz_iload_n rfl rfl ?_
    refine zz_iload rfl rfl ?_
    refine zz_Sp rfl lk_Dots_9 cw_Dots_byteOf (ct_byteOf (by omega)) rfl rfl rfl rfl ?_
    refine zz_iload_n rfl rfl ?_
    refine zz_imul rfl ?_
    refine zz_iadd rfl ?_
    refine zz_istore rfl rfl rfl ?_
    have g2 := zgc_rg (f := f) (l := l) (k := k) (n := n) 2 hk ⟨hn0, by omega⟩
    refine zz_iload rfl rfl ?_
    refine zz_iload rfl rfl ?_
    refine zz_iload_n rfl rfl ?_
    refine zz_iconst rfl ?_
    refine zz_idivP rfl (by omega) (by omega) ?_
    refine zz_iadd rfl ?_
    refine zz_iload_n rfl rfl ?_
    refine zz_idivP rfl (by omega) (by omega) ?_
    refine zz_iload rfl rfl ?_
    refine zz_Sp rfl lk_Dots_21 cw_Dots_placed (ct_placed (by omega)) rfl rfl rfl rfl ?_
    refine zz_ior rfl (zo_c ⟨g0.1, g0.2.1⟩ ⟨g1.1, g1.2.1⟩ ⟨g2.1, g2.2.1⟩ (by decide)) ?_
    refine zz_istore rfl rfl rfl ?_
    refine zz_iincK 3 rfl rfl rfl rfl (by decide) ?_
    refine zz_goto rfl ?_
    refine zz_iload rfl rfl ?_
    refine zz_iconst rfl ?_
    refine zz_icmp_ge rfl (by omega) (by omega) (fun hb15 => absurd hb15 (by first | decide | omega)) (fun hb15 => ?_)
    refine zz_iload_n rfl rfl ?_
    refine zz_iload rfl rfl ?_
    refine zz_Sp rfl lk_Dots_9 cw_Dots_byteOf (ct_byteOf (by omega)) rfl rfl rfl rfl ?_
    refine zz_iload_n rfl rfl ?_
    refine zz_iload_n rfl rfl ?_
    refine zz_isub rfl ?_
    refine zz_imul rfl ?_
    refine zz_iload_n rfl rfl ?_
    refine zz_iload rfl rfl ?_
    refine zz_Sp rfl lk_Dots_9 cw_Dots_byteOf (ct_byteOf (by omega)) rfl rfl rfl rfl ?_
    refine zz_iload_n rfl rfl ?_
    refine zz_imul rfl ?_
    refine zz_iadd rfl ?_
    refine zz_istore rfl rfl rfl ?_
    have g3 := zgc_rg (f := f) (l := l) (k := k) (n := n) 3 hk ⟨hn0, by omega⟩
    refine zz_iload rfl rfl ?_
    refine zz_iload rfl rfl ?_
    refine zz_iload_n rfl rfl ?_
    refine zz_iconst rfl ?_
    refine zz_idivP rfl (by omega) (by omega) ?_
    refine zz_iadd rfl ?_
    refine zz_iload_n rfl rfl ?_
    refine zz_idivP rfl (by omega) (by omega) ?_
    refine zz_iload rfl rfl ?_
    refine zz_Sp rfl lk_Dots_21 cw_Dots_placed (ct_placed (by omega)) rfl rfl rfl rfl ?_
    refine zz_ior rfl (zo_d ⟨g0.1, g0.2.1⟩ ⟨g1.1, g1.2.1⟩ ⟨g2.1, g2.2.1⟩ ⟨g3.1, g3.2.1⟩) ?_
    refine zz_istore rfl rfl rfl ?_
    refine zz_iincK 4 rfl rfl rfl rfl (by decide) ?_
    refine zz_goto rfl ?_
    refine zz_iload rfl rfl ?_
    refine zz_iconst rfl ?_
    refine zz_icmp_ge rfl (by omega) (by omega) (fun hb15 => ?_) (fun hb15 => absurd hb15 (by first | decide | omega))
    refine zz_iload rfl rfl ?_
    refine zz_iret rfl rfl (zret_q (by rw [zpq_dot]; unfold zbt; rw [if_neg hb1]; rfl))
  · skip
    refine zz_iload_n rfl rfl ?_
    refine zz_iret rfl rfl (zret_e (by unfold zbt; rw [if_pos hb1]))
theorem zmc_rg (a b c d : Int) : 0 ≤ zmc a b c d ∧ zmc a b c d ≤ 1020 := by
  have := zby_rg a 3
  have := zby_rg b 3
  have := zby_rg c 3
  have := zby_rg d 3
  unfold zmc
  omega
theorem ct_merged {a b c d : Int} : Ct Z m_Dots_merged 2 0 0 [zI a, zI b, zI c, zI d] h (zP (zI (zmg a b c d)) h) := by
  refine zct rfl (by decide) ok_Dots_merged rfl rfl ?_
  refine zz_iload_n rfl rfl ?_
  refine zz_iconst rfl ?_
  refine zz_Sp rfl lk_Dots_9 cw_Dots_byteOf (ct_byteOf (by omega)) rfl rfl rfl rfl ?_
  refine zz_iload_n rfl rfl ?_
  refine zz_iconst rfl ?_
  refine zz_Sp rfl lk_Dots_9 cw_Dots_byteOf (ct_byteOf (by omega)) rfl rfl rfl rfl ?_
  refine zz_iadd rfl ?_
  refine zz_iload_n rfl rfl ?_
  refine zz_iconst rfl ?_
  refine zz_Sp rfl lk_Dots_9 cw_Dots_byteOf (ct_byteOf (by omega)) rfl rfl rfl rfl ?_
  refine zz_iadd rfl ?_
  refine zz_iload_n rfl rfl ?_
  refine zz_iconst rfl ?_
  refine zz_Sp rfl lk_Dots_9 cw_Dots_byteOf (ct_byteOf (by omega)) rfl rfl rfl rfl ?_
  refine zz_iadd rfl ?_
  refine zz_eq (show _ = zmc a b c d from rfl) ?_
  have hc0 := zmc_rg a b c d
  refine zz_istore rfl rfl rfl ?_
  refine zz_iload rfl rfl ?_
  refine zz_if_ne rfl (by omega) (fun hb27 => ?_) (fun hb27 => ?_)
  · skip
    refine zz_iload rfl rfl ?_
    refine zz_iconst rfl ?_
    refine zz_iadd rfl ?_
    refine zz_iconst rfl ?_
    refine zz_idivP rfl (by omega) (by omega) ?_
    refine zz_iconst rfl ?_
    refine zz_Sp rfl lk_Dots_21 cw_Dots_placed (ct_placed (by omega)) rfl rfl rfl rfl ?_
    refine zz_eq (zpq_3 _) ?_
    refine zz_istore rfl rfl rfl ?_
    refine zz_iconst rfl ?_
    refine zz_istore rfl rfl rfl ?_
    refine zz_iload rfl rfl ?_
    refine zz_iconst rfl ?_
    refine zz_icmp_ge rfl (by omega) (by omega) (fun hb50 => absurd hb50 (by first | decide | omega)) (fun hb50 => ?_)
    refine zz_iload_n rfl rfl ?_
    refine zz_iload rfl rfl ?_
    refine zz_Sp rfl lk_Dots_24 cw_Dots_covered (ct_covered (by omega)) rfl rfl rfl rfl ?_
    refine zz_iload_n rfl rfl ?_
    refine zz_iload rfl rfl ?_
    refine zz_Sp rfl lk_Dots_24 cw_Dots_covered (ct_covered (by omega)) rfl rfl rfl rfl ?_
    refine zz_iadd rfl ?_
    refine zz_iload_n rfl rfl ?_
    refine zz_iload rfl rfl ?_
    refine zz_Sp rfl lk_Dots_24 cw_Dots_covered (ct_covered (by omega)) rfl rfl rfl rfl ?_
    refine zz_iadd rfl ?_
    refine zz_iload_n rfl rfl ?_
    refine zz_iload rfl rfl ?_
    refine zz_Sp rfl lk_Dots_24 cw_Dots_covered (ct_covered (by omega)) rfl rfl rfl rfl ?_
    refine zz_iadd rfl ?_
    refine zz_eq (show _ = zms a b c d 0 from rfl) ?_
    have g0 := zmg_rg (a := a) (b := b) (c := c) (d := d) 0 hb27
    refine zz_istore rfl rfl rfl ?_
    refine zz_iload rfl rfl ?_
    refine zz_iload rfl rfl ?_
    refine zz_iload rfl rfl ?_
    refine zz_iconst rfl ?_
    refine zz_idivP rfl (by omega) (by omega) ?_
    refine zz_iadd rfl ?_
    refine zz_iload rfl rfl ?_
    refine zz_idivP rfl (by omega) (by omega) ?_
    refine zz_iload rfl rfl ?_
    refine zz_Sp rfl lk_Dots_21 cw_Dots_placed (ct_placed (by omega)) rfl rfl rfl rfl ?_
    refine zz_ior rfl (zo_a g0.2.2 (by decide) (by decide) ⟨by omega, by omega⟩) ?_
    refine zz_istore rfl rfl rfl ?_
    refine zz_iincK 1 rfl rfl rfl rfl (by decide) ?_
    refine zz_goto rfl ?_
    refine zz_iload rfl rfl ?_
    refine zz_iconst rfl ?_
    refine zz_icmp_ge rfl (by omega) (by omega) (fun hb50 => absurd hb50 (by first | decide | omega)) (fun hb50 => ?_)
    refine zz_iload_n rfl rfl ?_
    refine zz_iload rfl rfl ?_
    refine zz_Sp rfl lk_Dots_24 cw_Dots_covered (ct_covered (by omega)) rfl rfl rfl rfl ?_
    refine zz_iload_n rfl rfl ?_
    refine zz_iload rfl rfl ?_
    refine zz_Sp rfl lk_Dots_24 cw_Dots_covered (ct_covered (by omega)) rfl rfl rfl rfl ?_
    refine zz_iadd rfl ?_
    refine zz_iload_n rfl rfl ?_
    refine zz_iload rfl rfl ?_
    refine zz_Sp rfl lk_Dots_24 cw_Dots_covered (ct_covered (by omega)) rfl rfl rfl rfl ?_
    refine zz_iadd rfl ?_
    refine zz_iload_n rfl rfl ?_
    refine zz_iload rfl rfl ?_
    refine zz_Sp rfl lk_Dots_24 cw_Dots_covered (ct_covered (by omega)) rfl rfl rfl rfl ?_
    refine zz_iadd rfl ?_
    refine zz_eq (show _ = zms a b c d 1 from rfl) ?_
    have g1 := zmg_rg (a := a) (b := b) (c := c) (d := d) 1 hb27
    refine zz_istore rfl rfl rfl ?_
    refine zz_iload rfl rfl ?_
    refine zz_iload rfl rfl ?_
    refine zz_iload rfl rfl ?_
    refine zz_iconst rfl ?_
    refine zz_idivP rfl (by omega) (by omega) ?_
    refine zz_iadd rfl ?_
    refine zz_iload rfl rfl ?_
    refine zz_idivP rfl (by omega) (by omega) ?_
    refine zz_iload rfl rfl ?_
    refine zz_Sp rfl lk_Dots_21 cw_Dots_placed (ct_placed (by omega)) rfl rfl rfl rfl ?_
    refine zz_ior rfl (zo_b g0.2.2 g1.2.2 (by decide) ⟨by omega, by omega⟩) ?_
    refine zz_istore rfl rfl rfl ?_
    refine zz_iincK 2 rfl rfl rfl rfl (by decide) ?_
    refine zz_goto rfl ?_
    refine zz_iload rfl rfl ?_
    refine zz_iconst rfl ?_
    refine zz_icmp_ge rfl (by omega) (by omega) (fun hb50 => absurd hb50 (by first | decide | omega)) (fun hb50 => ?_)
    refine zz_iload_n rfl rfl ?_
    refine zz_iload rfl rfl ?_
    refine zz_Sp rfl lk_Dots_24 cw_Dots_covered (ct_covered (by omega)) rfl rfl rfl rfl ?_
    refine zz_iload_n rfl rfl ?_
    refine zz_iload rfl rfl ?_
    refine zz_Sp rfl lk_Dots_24 cw_Dots_covered (ct_covered (by omega)) rfl rfl rfl rfl ?_
    refine zz_iadd rfl ?_
    refine zz_iload_n rfl rfl ?_
    refine zz_iload rfl rfl ?_
    refine zz_Sp rfl lk_Dots_24 cw_Dots_covered (ct_covered (by omega)) rfl rfl rfl rfl ?_
    refine zz_iadd rfl ?_
    refine zz_iload_n rfl rfl ?_
    refine zz_iload rfl rfl ?_
    refine zz_Sp rfl lk_Dots_24 cw_Dots_covered (ct_covered (by omega)) rfl rfl rfl rfl ?_
    refine zz_iadd rfl ?_
    refine zz_eq (show _ = zms a b c d 2 from rfl) ?_
    have g2 := zmg_rg (a := a) (b := b) (c := c) (d := d) 2 hb27
    refine zz_istore rfl rfl rfl ?_
    refine zz_iload rfl rfl ?_
    refine zz_iload rfl rfl ?_
    refine zz_iload rfl rfl ?_
    refine zz_iconst rfl ?_
    refine zz_idivP rfl (by omega) (by omega) ?_
    refine zz_iadd rfl ?_
    refine zz_iload rfl rfl ?_
    refine zz_idivP rfl (by omega) (by omega) ?_
    refine zz_iload rfl rfl ?_
    refine zz_Sp rfl lk_Dots_21 cw_Dots_placed (ct_placed (by omega)) rfl rfl rfl rfl ?_
    refine zz_ior rfl (zo_c g0.2.2 g1.2.2 g2.2.2 ⟨by omega, by omega⟩) ?_
    refine zz_istore rfl rfl rfl ?_
    refine zz_iincK 3 rfl rfl rfl rfl (by decide) ?_
    refine zz_goto rfl ?_
    refine zz_iload rfl rfl ?_
    refine zz_iconst rfl ?_
    refine zz_icmp_ge rfl (by omega) (by omega) (fun hb50 => ?_) (fun hb50 => absurd hb50 (by first | decide | omega))
    refine zz_iload rfl rfl ?_
    refine zz_iret rfl rfl (zret_q (by rw [zpq_dot]; unfold zmg; rw [if_neg hb27]))
  · skip
    refine zz_iconst rfl ?_
    refine zz_iret rfl rfl (zret_e (by unfold zmg; rw [if_pos hb27]))
theorem ct_blended {S B m op : Int} (hm : 0 ≤ m ∧ m ≤ 5) (ho : 0 ≤ op ∧ op ≤ 255) : Ct Z m_Dots_blended 2 0 0 [zI S, zI B, zI m, zI op] h (zP (zI (zbl S B m op)) h) := by
  have h1 := zbs_rg S ho
  have h2 := zbu_rg S B ho
  refine zct rfl (by decide) ok_Dots_blended rfl rfl ?_
  refine zz_iload_n rfl rfl ?_
  refine zz_iconst rfl ?_
  refine zz_Sp rfl lk_Dots_9 cw_Dots_byteOf (ct_byteOf (by omega)) rfl rfl rfl rfl ?_
  refine zz_iload_n rfl rfl ?_
  refine zz_imul rfl ?_
  refine zz_Sp rfl lk_Dots_27 cw_Dots_div (ct_div (by omega)) rfl rfl rfl rfl ?_
  refine zz_eq (show _ = zbs S op from rfl) ?_
  refine zz_istore rfl rfl rfl ?_
  refine zz_iload_n rfl rfl ?_
  refine zz_iconst rfl ?_
  refine zz_Sp rfl lk_Dots_9 cw_Dots_byteOf (ct_byteOf (by omega)) rfl rfl rfl rfl ?_
  refine zz_istore rfl rfl rfl ?_
  refine zz_sipush rfl (by decide) ?_
  refine zz_iload rfl rfl ?_
  refine zz_imul rfl ?_
  refine zz_istore rfl rfl rfl ?_
  refine zz_iload rfl rfl ?_
  refine zz_sipush rfl (by decide) ?_
  refine zz_iload rfl rfl ?_
  refine zz_isub rfl ?_
  refine zz_imul rfl ?_
  refine zz_eq (show _ = zbu S B op from rfl) ?_
  refine zz_istore rfl rfl rfl ?_
  refine zz_iload rfl rfl ?_
  refine zz_iload rfl rfl ?_
  refine zz_iadd rfl ?_
  refine zz_eq (show _ = zbw S B op from rfl) ?_
  have hw0 : 0 ≤ zbw S B op ∧ zbw S B op ≤ 65025 := by unfold zbw; omega
  refine zz_istore rfl rfl rfl ?_
  refine zz_iload rfl rfl ?_
  refine zz_if_ne rfl (by omega) (fun hb47 => ?_) (fun hb47 => ?_)
  · skip
    refine zz_iload rfl rfl ?_
    refine zz_Sp rfl lk_Dots_27 cw_Dots_div (ct_div (by omega)) rfl rfl rfl rfl ?_
    refine zz_iconst rfl ?_
    refine zz_Sp rfl lk_Dots_21 cw_Dots_placed (ct_placed (by omega)) rfl rfl rfl rfl ?_
    refine zz_eq (zpq_3 _) ?_
    have gd := zdv_rg hw0
    refine zz_istore rfl rfl rfl ?_
    refine zz_iconst rfl ?_
    refine zz_istore rfl rfl rfl ?_
    refine zz_iload rfl rfl ?_
    refine zz_iconst rfl ?_
    refine zz_icmp_ge rfl (by omega) (by omega) (fun hb69 => absurd hb69 (by first | decide | omega)) (fun hb69 => ?_)
    refine zz_iload_n rfl rfl ?_
    refine zz_iload rfl rfl ?_
    refine zz_Sp rfl lk_Dots_9 cw_Dots_byteOf (ct_byteOf (by omega)) rfl rfl rfl rfl ?_
    refine zz_istore rfl rfl rfl ?_
    refine zz_iload_n rfl rfl ?_
    refine zz_iload rfl rfl ?_
    refine zz_Sp rfl lk_Dots_9 cw_Dots_byteOf (ct_byteOf (by omega)) rfl rfl rfl rfl ?_
    refine zz_istore rfl rfl rfl ?_
    refine zz_iload rfl rfl ?_
    refine zz_iload rfl rfl ?_
    refine zz_iload_n rfl rfl ?_
    refine zz_Sp rfl lk_Dots_30 cw_Dots_mixed (ct_mixed (zby_rg _ _) (zby_rg _ _) hm) rfl rfl rfl rfl ?_
    refine zz_istore rfl rfl rfl ?_
    refine zz_iload rfl rfl ?_
    refine zz_iload rfl rfl ?_
    refine zz_imul rfl ?_
    refine zz_sipush rfl (by decide) ?_
    refine zz_iload rfl rfl ?_
    refine zz_isub rfl ?_
    refine zz_iload rfl rfl ?_
    refine zz_imul rfl ?_
    refine zz_iadd rfl ?_
    refine zz_Sp rfl lk_Dots_27 cw_Dots_div (ct_div ⟨(zbx_rg S B m 0).2.2.1, by have := (zbx_rg S B m 0).2.2.2; omega⟩) rfl rfl rfl rfl ?_
    refine zz_eq (show _ = zbx S B m 0 from rfl) ?_
    refine zz_istore rfl rfl rfl ?_
    refine zz_iload rfl rfl ?_
    refine zz_iload rfl rfl ?_
    refine zz_imul rfl ?_
    refine zz_iload rfl rfl ?_
    refine zz_iload rfl rfl ?_
    refine zz_imul rfl ?_
    refine zz_iadd rfl ?_
    refine zz_eq (show _ = zbn S B m op 0 from rfl) ?_
    have g0 := zbk_rg S B m 0 ho hb47
    refine zz_istore rfl rfl rfl ?_
    refine zz_iload rfl rfl ?_
    refine zz_iload rfl rfl ?_
    refine zz_iload rfl rfl ?_
    refine zz_iconst rfl ?_
    refine zz_idivP rfl (by omega) (by omega) ?_
    refine zz_iadd rfl ?_
    refine zz_iload rfl rfl ?_
    refine zz_idivP rfl (by omega) (by omega) ?_
    refine zz_iload rfl rfl ?_
    refine zz_Sp rfl lk_Dots_21 cw_Dots_placed (ct_placed (by omega)) rfl rfl rfl rfl ?_
    refine zz_ior rfl (zo_a g0.2.2 (by decide) (by decide) gd) ?_
    refine zz_istore rfl rfl rfl ?_
    refine zz_iincK 1 rfl rfl rfl rfl (by decide) ?_
    refine zz_goto rfl ?_
    refine zz_iload rfl rfl ?_
    refine zz_iconst rfl ?_
    refine zz_icmp_ge rfl (by omega) (by omega) (fun hb69 => absurd hb69 (by first | decide | omega)) (fun hb69 => ?_)
    refine zz_iload_n rfl rfl ?_
    refine zz_iload rfl rfl ?_
    refine zz_Sp rfl lk_Dots_9 cw_Dots_byteOf (ct_byteOf (by omega)) rfl rfl rfl rfl ?_
    refine zz_istore rfl rfl rfl ?_
    refine zz_iload_n rfl rfl ?_
    refine zz_iload rfl rfl ?_
    refine zz_Sp rfl lk_Dots_9 cw_Dots_byteOf (ct_byteOf (by omega)) rfl rfl rfl rfl ?_
    refine zz_istore rfl rfl rfl ?_
    refine zz_iload rfl rfl ?_
    refine zz_iload rfl rfl ?_
    refine zz_iload_n rfl rfl ?_
    refine zz_Sp rfl lk_Dots_30 cw_Dots_mixed (ct_mixed (zby_rg _ _) (zby_rg _ _) hm) rfl rfl rfl rfl ?_
    refine zz_istore rfl rfl rfl ?_
    refine zz_iload rfl rfl ?_
    refine zz_iload rfl rfl ?_
    refine zz_imul rfl ?_
    refine zz_sipush rfl (by decide) ?_
    refine zz_iload rfl rfl ?_
    refine zz_isub rfl ?_
    refine zz_iload rfl rfl ?_
    refine zz_imul rfl ?_
    refine zz_iadd rfl ?_
    refine zz_Sp rfl lk_Dots_27 cw_Dots_div (ct_div ⟨(zbx_rg S B m 1).2.2.1, by have := (zbx_rg S B m 1).2.2.2; omega⟩) rfl rfl rfl rfl ?_
    refine zz_eq (show _ = zbx S B m 1 from rfl) ?_
    refine zz_istore rfl rfl rfl ?_
    refine zz_iload rfl rfl ?_
    refine zz_iload rfl rfl ?_
    refine zz_imul rfl ?_
    refine zz_iload rfl rfl ?_
    refine zz_iload rfl rfl ?_
    refine zz_imul rfl ?_
    refine zz_iadd rfl ?_
    refine zz_eq (show _ = zbn S B m op 1 from rfl) ?_
    have g1 := zbk_rg S B m 1 ho hb47
    refine zz_istore rfl rfl rfl ?_
    refine zz_iload rfl rfl ?_
    refine zz_iload rfl rfl ?_
    refine zz_iload rfl rfl ?_
    refine zz_iconst rfl ?_
    refine zz_idivP rfl (by omega) (by omega) ?_
    refine zz_iadd rfl ?_
    refine zz_iload rfl rfl ?_
    refine zz_idivP rfl (by omega) (by omega) ?_
    refine zz_iload rfl rfl ?_
    refine zz_Sp rfl lk_Dots_21 cw_Dots_placed (ct_placed (by omega)) rfl rfl rfl rfl ?_
    refine zz_ior rfl (zo_b g0.2.2 g1.2.2 (by decide) gd) ?_
    refine zz_istore rfl rfl rfl ?_
    refine zz_iincK 2 rfl rfl rfl rfl (by decide) ?_
    refine zz_goto rfl ?_
    refine zz_iload rfl rfl ?_
    refine zz_iconst rfl ?_
    refine zz_icmp_ge rfl (by omega) (by omega) (fun hb69 => absurd hb69 (by first | decide | omega)) (fun hb69 => ?_)
    refine zz_iload_n rfl rfl ?_
    refine zz_iload rfl rfl ?_
    refine zz_Sp rfl lk_Dots_9 cw_Dots_byteOf (ct_byteOf (by omega)) rfl rfl rfl rfl ?_
    refine zz_istore rfl rfl rfl ?_
    refine zz_iload_n rfl rfl ?_
    refine zz_iload rfl rfl ?_
    refine zz_Sp rfl lk_Dots_9 cw_Dots_byteOf (ct_byteOf (by omega)) rfl rfl rfl rfl ?_
    refine zz_istore rfl rfl rfl ?_
    refine zz_iload rfl rfl ?_
    refine zz_iload rfl rfl ?_
    refine zz_iload_n rfl rfl ?_
    refine zz_Sp rfl lk_Dots_30 cw_Dots_mixed (ct_mixed (zby_rg _ _) (zby_rg _ _) hm) rfl rfl rfl rfl ?_
    refine zz_istore rfl rfl rfl ?_
    refine zz_iload rfl rfl ?_
    refine zz_iload rfl rfl ?_
    refine zz_imul rfl ?_
    refine zz_sipush rfl (by decide) ?_
    refine zz_iload rfl rfl ?_
    refine zz_isub rfl ?_
    refine zz_iload rfl rfl ?_
    refine zz_imul rfl ?_
    refine zz_iadd rfl ?_
    refine zz_Sp rfl lk_Dots_27 cw_Dots_div (ct_div ⟨(zbx_rg S B m 2).2.2.1, by have := (zbx_rg S B m 2).2.2.2; omega⟩) rfl rfl rfl rfl ?_
    refine zz_eq (show _ = zbx S B m 2 from rfl) ?_
    refine zz_istore rfl rfl rfl ?_
    refine zz_iload rfl rfl ?_
    refine zz_iload rfl rfl ?_
    refine zz_imul rfl ?_
    refine zz_iload rfl rfl ?_
    refine zz_iload rfl rfl ?_
    refine zz_imul rfl ?_
    refine zz_iadd rfl ?_
    refine zz_eq (show _ = zbn S B m op 2 from rfl) ?_
    have g2 := zbk_rg S B m 2 ho hb47
    refine zz_istore rfl rfl rfl ?_
    refine zz_iload rfl rfl ?_
    refine zz_iload rfl rfl ?_
    refine zz_iload rfl rfl ?_
    refine zz_iconst rfl ?_
    refine zz_idivP rfl (by omega) (by omega) ?_
    refine zz_iadd rfl ?_
    refine zz_iload rfl rfl ?_
    refine zz_idivP rfl (by omega) (by omega) ?_
    refine zz_iload rfl rfl ?_
    refine zz_Sp rfl lk_Dots_21 cw_Dots_placed (ct_placed (by omega)) rfl rfl rfl rfl ?_
    refine zz_ior rfl (zo_c g0.2.2 g1.2.2 g2.2.2 gd) ?_
    refine zz_istore rfl rfl rfl ?_
    refine zz_iincK 3 rfl rfl rfl rfl (by decide) ?_
    refine zz_goto rfl ?_
    refine zz_iload rfl rfl ?_
    refine zz_iconst rfl ?_
    refine zz_icmp_ge rfl (by omega) (by omega) (fun hb69 => ?_) (fun hb69 => absurd hb69 (by first | decide | omega))
    refine zz_iload rfl rfl ?_
    refine zz_iret rfl rfl (zret_q (by rw [zpq_dot]; unfold zbl; rw [if_neg hb47]; rfl))
  · skip
    refine zz_iconst rfl ?_
    refine zz_iret rfl rfl (zret_e (by unfold zbl; rw [if_pos hb47]))
end DT
end
section
/-! ===== more rows; rows of bits; heaps that grow ===== -/
abbrev zrg (v : Int) : Prop := -2147483648 ≤ v ∧ v < 2147483648
abbrev zIAE : String := "java/lang/IllegalArgumentException"
abbrev zISE : String := "java/lang/IllegalStateException"
abbrev zNSE : String := "java/util/NoSuchElementException"
abbrev zIOB : String := "java/lang/IndexOutOfBoundsException"
abbrev zRq (P : Prop) (E : String) (h : ZH) : ZR → ZH → Prop := fun r h' => h' = h ∧ ((P ∧ r = .inl none) ∨ (¬ P ∧ r = .inr E))
section ZX2
variable {Z : ZC} {F : ZF} {pc q t : Nat} {L st : List Value} {h : ZH} {mc ms : Nat} {Q : ZR → ZH → Prop}
theorem zz_Srq {M' : MI} {d' mc' ms' n idx : Nat} {av rest : List Value} {P : Prop} {E : String} (hd : zT F.2.1 pc = some (.invokestatic idx, q, t)) (hk : Cond.methodLink (zy F.2.1).cls idx (zy M') ∈ zG ∧ Cond.static (zy M') ∈ zG) (hw : zCw M' n) (hc9 : Ct Z M' d' mc' ms' av h (zRq P E h)) (hn : av.length = n) (hst : st = av.reverse ++ rest) (h8 : Nat.ble ((rest.map fun v => v.category).sum) 8 = true) (hdd : Nat.blt d' F.2.2.1 = true) (hh : zhh F.2.1 = [])
    (kf : ¬ P → Q (.inr E) h) (kt : P → Ev Z F q L rest h mc ms Q) : Ev Z F pc L st h (mc + mc') (ms + ms') Q := by
  refine zz_S hd hk hw hc9 hn hst h8 hdd ?_
  rintro r h' ⟨rfl, ⟨hp, rfl⟩ | ⟨hp, rfl⟩⟩
  · exact kt hp
  · exact zx_out hh (kf hp)
end ZX2
def zext (h h' : ZH) : Prop := ∀ q e, h q = some e → h' q = some e
theorem zext.rf {h : ZH} : zext h h := fun _ _ h => h
theorem zext.tr {h h1 h2 : ZH} (a : zext h h1) (b : zext h1 h2) : zext h h2 := fun q e hq => b q e (a q e hq)
theorem zext.mk {h : ZH} {a : Nat} {e : ZE} (ha : h a = none) : zext h (zset h a e) := fun q x hq => by
  rw [zset_ne (zne ha hq)]; exact hq
theorem zext.set {h h1 : ZH} {a : Nat} {e : ZE} (b : zext h h1) (ha : h a = none) : zext h (zset h1 a e) := fun q x hq => by
  rw [zset_ne (zne ha hq)]; exact b q x hq
theorem zext.fr {h h1 : ZH} (b : zext h h1) {a : Nat} (ha : h1 a = none) : h a = none := by
  cases hh : h a with
  | none => rfl
  | some e => rw [b a e hh] at ha; cases ha
def zcn (R : Nat → Nat) : Nat → Int := fun i => (R i : Int)
def zun (R : Nat → Nat) (i v : Nat) : Nat → Nat := fun j => if j = i then v else R j
theorem zup_cn (R : Nat → Nat) (i v : Nat) : zup (zcn R) i (v : Int) = zcn (zun R i v) := by
  funext j
  by_cases hj : j = i <;> simp [zup, zcn, zun, hj]
/-- the row y of places; none beyond -/
def zrw (R : Nat → Nat) (ht : Nat) (y : Int) : Nat := if 0 ≤ y ∧ y < (ht : Int) then R y.toNat else 0
abbrev zhp (R : Nat → Nat) (w ht : Nat) (x y : Int) : Prop := 0 ≤ x ∧ x < (w : Int) ∧ (zrw R ht y : Int) / 2 ^ x.toNat % 2 ≠ 0
abbrev zbox (x y w h : Int) : Prop := 0 ≤ x ∧ x < w ∧ 0 ≤ y ∧ y < h
abbrev isPl (h : ZH) (a ra w ht : Nat) (R : Nat → Nat) : Prop := h a = some (zo 2 [zI w, .ref ra]) ∧ h ra = some (zi 0 ht (zcn R))
abbrev isLy (h : ZH) (a da w ht : Nat) (f : Nat → Int) (md op vs : Int) : Prop := h a = some (zo 3 [zI w, zI ht, .ref da, zI md, zI op, zI vs]) ∧ h da = some (zi 0 (w * ht) f)
def zhv (side k : Int) : Int := (side + 2 ^ k.toNat - 1) / 2 ^ k.toNat
theorem zpw_rg {k : Int} (hk : 0 ≤ k ∧ k ≤ 3) : 1 ≤ (2 : Int) ^ k.toNat ∧ (2 : Int) ^ k.toNat ≤ 8 := by
  have h : k = 0 ∨ k = 1 ∨ k = 2 ∨ k = 3 := by omega
  rcases h with rfl | rfl | rfl | rfl <;> decide
def zldt (f : Nat → Int) (w ht : Nat) (x y : Int) : Int := if zbox x y w ht then f (y * w + x).toNat else 0
theorem zidx {x y : Int} {w ht : Nat} (h : zbox x y w ht) : 0 ≤ y * w + x ∧ y * w + x < ((w * ht : Nat) : Int) := by
  obtain ⟨h1, h2, h3, h4⟩ := h
  have h5 : 0 ≤ y * (w : Int) := Int.mul_nonneg h3 (by omega)
  have h6 : (y + 1) * (w : Int) ≤ (ht : Int) * w := Int.mul_le_mul_of_nonneg_right (by omega) (by omega)
  rw [Int.add_mul] at h6
  have h7 : ((w * ht : Nat) : Int) = (ht : Int) * w := by rw [Nat.mul_comm]; simp
  omega
end
section
section HP
variable {Z : ZC} {h : ZH}
theorem ct_isWithin {v a b : Int} (hv : zrg v) (ha : zrg a) (hb : zrg b) : Ct Z m_TS_isWithin 0 0 0 [zI v, zI a, zI b] h (zP (zI (zb (a ≤ v ∧ v ≤ b))) h) := by
  refine zct rfl (by decide) ok_TS_isWithin rfl rfl ?_
  refine zz_iload_n rfl rfl ?_
  refine zz_iload_n rfl rfl ?_
  refine zz_icmp_lt rfl (by omega) (by omega) (fun hb2 => ?_) (fun hb2 => ?_)
  · skip
    refine zz_iconst rfl ?_
    refine zz_zret rfl rfl rfl (zret_f (fun h9 => by omega))
  · skip
    refine zz_iload_n rfl rfl ?_
    refine zz_iload_n rfl rfl ?_
    refine zz_icmp_gt rfl (by omega) (by omega) (fun hb7 => ?_) (fun hb7 => ?_)
    · skip
      refine zz_iconst rfl ?_
      refine zz_zret rfl rfl rfl (zret_f (fun h9 => by omega))
    · skip
      refine zz_iconst rfl ?_
      refine zz_goto rfl ?_
      refine zz_zret rfl rfl rfl (zret_t ⟨by omega, by omega⟩)
theorem ct_isInBox {x y w e : Int} (hx : zrg x) (hy : zrg y) (hw : zrg w) (he : zrg e) : Ct Z m_TS_isInBox 0 0 0 [zI x, zI y, zI w, zI e] h (zP (zI (zb (zbox x y w e))) h) := by
  refine zct rfl (by decide) ok_TS_isInBox rfl rfl ?_
  refine zz_iload_n rfl rfl ?_
  refine zz_if_lt rfl (by omega) (fun hb1 => ?_) (fun hb1 => ?_)
  · skip
    refine zz_iconst rfl ?_
    refine zz_zret rfl rfl rfl (zret_f (fun h9 => by omega))
  · skip
    refine zz_iload_n rfl rfl ?_
    refine zz_iload_n rfl rfl ?_
    refine zz_icmp_ge rfl (by omega) (by omega) (fun hb6 => ?_) (fun hb6 => ?_)
    · skip
      refine zz_iconst rfl ?_
      refine zz_zret rfl rfl rfl (zret_f (fun h9 => by omega))
    · skip
      refine zz_iload_n rfl rfl ?_
      refine zz_if_lt rfl (by omega) (fun hb10 => ?_) (fun hb10 => ?_)
      · skip
        refine zz_iconst rfl ?_
        refine zz_zret rfl rfl rfl (zret_f (fun h9 => by omega))
      · skip
        refine zz_iload_n rfl rfl ?_
        refine zz_iload_n rfl rfl ?_
        refine zz_icmp_ge rfl (by omega) (by omega) (fun hb15 => ?_) (fun hb15 => ?_)
        · skip
          refine zz_iconst rfl ?_
          refine zz_zret rfl rfl rfl (zret_f (fun h9 => by omega))
        · skip
          refine zz_iconst rfl ?_
          refine zz_goto rfl ?_
          refine zz_zret rfl rfl rfl (zret_t ⟨by omega, by omega, by omega, by omega⟩)
theorem ct_require1  : Ct Z m_TS_require 0 1 6 [zI 1] h (zV h) := by
  refine zct rfl (by decide) ok_TS_require rfl rfl ?_
  refine zz_iload_n rfl rfl ?_
  refine zz_if_ne rfl (by omega) (fun hb1 => ?_) (fun hb1 => absurd hb1 (by first | decide | omega))
  refine zz_vret rfl rfl ⟨rfl, rfl⟩
theorem ct_require0  : Ct Z m_TS_require 0 1 6 [zI 0] h (fun r h' => r = .inr zIAE ∧ h' = h) := by
  refine zct rfl (by decide) ok_TS_require rfl rfl ?_
  refine zz_iload_n rfl rfl ?_
  refine zz_if_ne rfl (by omega) (fun hb1 => absurd hb1 (by first | decide | omega)) (fun hb1 => ?_)
  refine zz_throw th_TS_245 rfl rfl rfl rfl rfl rfl ⟨rfl, rfl⟩
theorem ct_require {P : Prop} [Decidable P] : Ct Z m_TS_require 0 1 6 [zI (zb P)] h (zRq P zIAE h) := by
  refine zct rfl (by decide) ok_TS_require rfl rfl ?_
  refine zz_iload_n rfl rfl ?_
  refine zz_ifB_ne rfl (fun hb1 => ?_) (fun hb1 => ?_)
  · skip
    refine zz_vret rfl rfl ⟨rfl, Or.inl ⟨hb1, rfl⟩⟩
  · skip
    refine zz_throw th_TS_245 rfl rfl rfl rfl rfl rfl ⟨rfl, Or.inr ⟨hb1, rfl⟩⟩
theorem ct_requireShift {x y : Int} (hx : zrg x) (hy : zrg y) : Ct Z m_TS_requireShift 1 1 6 [zI x, zI y] h (zRq ((-100 ≤ x ∧ x ≤ 100) ∧ -100 ≤ y ∧ y ≤ 100) zIAE h) := by
  refine zct rfl (by decide) ok_TS_requireShift rfl rfl ?_
  refine zz_iload_n rfl rfl ?_
  refine zz_bipush rfl (by decide) ?_
  refine zz_bipush rfl (by decide) ?_
  refine zz_Sp rfl lk_TS_16 cw_TS_isWithin (ct_isWithin hx (by decide) (by decide)) rfl rfl rfl rfl ?_
  refine zz_ifB_eq rfl (fun hb8 => ?_) (fun hb8 => ?_)
  · skip
    refine zz_iconst rfl ?_
    refine zz_S rfl lk_TS_20 cw_TS_require ct_require0 rfl rfl rfl rfl ?_
    rintro _ _ ⟨rfl, rfl⟩
    exact zx_out rfl ⟨rfl, Or.inr ⟨fun h9 => by omega, rfl⟩⟩
  · skip
    refine zz_iload_n rfl rfl ?_
    refine zz_bipush rfl (by decide) ?_
    refine zz_bipush rfl (by decide) ?_
    refine zz_Sp rfl lk_TS_16 cw_TS_isWithin (ct_isWithin hy (by decide) (by decide)) rfl rfl rfl rfl ?_
    refine zz_ifB_eq rfl (fun hb19 => ?_) (fun hb19 => ?_)
    · skip
      refine zz_iconst rfl ?_
      refine zz_S rfl lk_TS_20 cw_TS_require ct_require0 rfl rfl rfl rfl ?_
      rintro _ _ ⟨rfl, rfl⟩
      exact zx_out rfl ⟨rfl, Or.inr ⟨fun h9 => by omega, rfl⟩⟩
    · skip
      refine zz_iconst rfl ?_
      refine zz_goto rfl ?_
      refine zz_Su rfl lk_TS_20 cw_TS_require ct_require1 rfl rfl rfl rfl ?_
      refine zz_vret rfl rfl ⟨rfl, Or.inl ⟨⟨hb8, hb19⟩, rfl⟩⟩
theorem ct_sideAtLevel {n k : Int} (hn : 0 ≤ n ∧ n ≤ 1000) (hk : 0 ≤ k ∧ k ≤ 3) : Ct Z m_TS_sideAtLevel 0 0 0 [zI n, zI k] h (zP (zI (zhv n k)) h) := by
  have hp := zpw_rg hk
  refine zct rfl (by decide) ok_TS_sideAtLevel rfl rfl ?_
  refine zz_iload_n rfl rfl ?_
  refine zz_iconst rfl ?_
  refine zz_iload_n rfl rfl ?_
  refine zz_ishl rfl (by omega) ?_
  refine zz_iadd rfl ?_
  refine zz_iconst rfl ?_
  refine zz_isub rfl ?_
  refine zz_iload_n rfl rfl ?_
  refine zz_ishr rfl (by omega) (by omega) ?_
  refine zz_iret rfl rfl (zret_e (by unfold zhv; rw [Int.one_mul]))
theorem ct_Places_height {a ra w ht : Nat} {R : Nat → Nat} (hp : isPl h a ra w ht R) : Ct Z m_Places_height 0 0 0 [.ref a] h (zP (zI ht) h) := by
  refine zct rfl (by decide) ok_Places_height rfl rfl ?_
  refine zz_aload_n rfl rfl ?_
  refine zz_getf rfl fl_Places_13 hp.1 rfl ?_
  refine zz_alenI rfl hp.2 ?_
  refine zz_iret rfl rfl ⟨rfl, rfl⟩
theorem ct_rowAt {a ra w ht : Nat} {R : Nat → Nat} {y : Int} (hp : isPl h a ra w ht R) (hy : zrg y) (hh : ht ≤ 24) : Ct Z m_Places_rowAt 0 0 0 [.ref a, zI y] h (zP (zI (zrw R ht y)) h) := by
  refine zct rfl (by decide) ok_Places_rowAt rfl rfl ?_
  refine zz_iload_n rfl rfl ?_
  refine zz_if_lt rfl (by omega) (fun hb1 => ?_) (fun hb1 => ?_)
  · skip
    refine zz_iconst rfl ?_
    refine zz_iret rfl rfl (zret_e (by unfold zrw; rw [if_neg (by omega)]; rfl))
  · skip
    refine zz_iload_n rfl rfl ?_
    refine zz_aload_n rfl rfl ?_
    refine zz_getf rfl fl_Places_13 hp.1 rfl ?_
    refine zz_alenI rfl hp.2 ?_
    refine zz_icmp_ge rfl (by omega) (by omega) (fun hb10 => ?_) (fun hb10 => ?_)
    · skip
      refine zz_iconst rfl ?_
      refine zz_iret rfl rfl (zret_e (by unfold zrw; rw [if_neg (by omega)]; rfl))
    · skip
      refine zz_aload_n rfl rfl ?_
      refine zz_getf rfl fl_Places_13 hp.1 rfl ?_
      refine zz_iload_n rfl rfl ?_
      refine zz_iald rfl hp.2 (by omega) (by omega) ?_
      refine zz_goto rfl ?_
      refine zz_iret rfl rfl (zret_e (by unfold zrw; rw [if_pos (by omega)]; rfl))
theorem ct_has {a ra w ht : Nat} {R : Nat → Nat} {x y : Int} (hp : isPl h a ra w ht R) (hx : zrg x) (hy : zrg y) (hh : ht ≤ 24) (hw : w ≤ 24) (hR : ∀ j, R j < 16777216) : Ct Z m_Places_has 1 0 0 [.ref a, zI x, zI y] h (zP (zI (zb (zhp R w ht x y))) h) := by
  refine zct rfl (by decide) ok_Places_has rfl rfl ?_
  refine zz_iload_n rfl rfl ?_
  refine zz_if_lt rfl (by omega) (fun hb1 => ?_) (fun hb1 => ?_)
  · skip
    refine zz_iconst rfl ?_
    refine zz_zret rfl rfl rfl (zret_f (fun h9 => by omega))
  · skip
    refine zz_iload_n rfl rfl ?_
    refine zz_aload_n rfl rfl ?_
    refine zz_getf rfl fl_Places_7 hp.1 rfl ?_
    refine zz_icmp_ge rfl (by omega) (by omega) (fun hb9 => ?_) (fun hb9 => ?_)
    · skip
      refine zz_iconst rfl ?_
      refine zz_zret rfl rfl rfl (zret_f (fun h9 => by omega))
    · skip
      refine zz_aload_n rfl rfl ?_
      refine zz_iload_n rfl rfl ?_
      refine zz_Vp rfl lk_Places_17 cw_Places_rowAt rfl hp.1 (ct_rowAt hp hy hh) rfl rfl rfl rfl ?_
      have hq : zrw R ht y < 16777216 := by unfold zrw; split; exact hR _; decide
      refine zz_iload_n rfl rfl ?_
      refine zz_ishr rfl (by omega) (by omega) ?_
      refine zz_iconst rfl ?_
      refine zz_iand rfl (zq_m1 _) ?_
      refine zz_if_eq rfl (by omega) (fun hb21 => ?_) (fun hb21 => ?_)
      · skip
        refine zz_iconst rfl ?_
        refine zz_zret rfl rfl rfl (zret_f (fun h9 => h9.2.2 hb21))
      · skip
        refine zz_iconst rfl ?_
        refine zz_goto rfl ?_
        refine zz_zret rfl rfl rfl (zret_t ⟨by omega, by omega, hb21⟩)
theorem ct_add {a ra w ht : Nat} {R : Nat → Nat} {x y : Int} (hp : isPl h a ra w ht R) (hx : zrg x) (hy : zrg y) (hh : ht ≤ 24) (hw : w ≤ 24) : Ct Z m_Places_add 1 0 0 [.ref a, zI x, zI y] h (zV (if zbox x y w ht then zset h ra (zi 0 ht (zcn (zun R y.toNat (R y.toNat ||| 2 ^ x.toNat)))) else h)) := by
  refine zct rfl (by decide) ok_Places_add rfl rfl ?_
  refine zz_iload_n rfl rfl ?_
  refine zz_iload_n rfl rfl ?_
  refine zz_aload_n rfl rfl ?_
  refine zz_getf rfl fl_Places_7 hp.1 rfl ?_
  refine zz_aload_n rfl rfl ?_
  refine zz_getf rfl fl_Places_13 hp.1 rfl ?_
  refine zz_alenI rfl hp.2 ?_
  refine zz_SNp rfl lk_Places_21 cw_TS_isInBox (ct_isInBox hx hy ⟨by omega, by omega⟩ ⟨by omega, by omega⟩) rfl rfl rfl rfl ?_
  refine zz_ifB_eq rfl (fun hb14 => ?_) (fun hb14 => ?_)
  · skip
    refine zz_vret rfl rfl ⟨rfl, by rw [if_neg hb14]⟩
  · skip
    refine zz_aload_n rfl rfl ?_
    refine zz_getf rfl fl_Places_13 hp.1 rfl ?_
    refine zz_iload_n rfl rfl ?_
    refine zz_dup2 rfl rfl rfl ?_
    refine zz_iald rfl hp.2 (by omega) (by omega) ?_
    refine zz_iconst rfl ?_
    refine zz_iload_n rfl rfl ?_
    refine zz_ishl rfl (by omega) ?_
    refine zz_ior rfl (show _ = Int32.ofInt ((R y.toNat ||| 2 ^ x.toNat : Nat) : Int) from by rw [← zq_or]; congr 2; rw [Int.one_mul]; simp) ?_
    refine zz_iast rfl hp.2 (by omega) (by omega) ?_
    refine zz_vret rfl rfl ⟨rfl, by rw [if_pos hb14, zup_cn]⟩
theorem ct_dotAt {a da w ht : Nat} {f : Nat → Int} {md op vs x y : Int} (hp : isLy h a da w ht f md op vs) (hx : zrg x) (hy : zrg y) (hh : ht ≤ 24) (hw : w ≤ 24) : Ct Z m_Layer_dotAt 1 0 0 [.ref a, zI x, zI y] h (zP (zI (zldt f w ht x y)) h) := by
  refine zct rfl (by decide) ok_Layer_dotAt rfl rfl ?_
  refine zz_iload_n rfl rfl ?_
  refine zz_iload_n rfl rfl ?_
  refine zz_aload_n rfl rfl ?_
  refine zz_getf rfl fl_Layer_9 hp.1 rfl ?_
  refine zz_aload_n rfl rfl ?_
  refine zz_getf rfl fl_Layer_15 hp.1 rfl ?_
  refine zz_SNp rfl lk_Layer_35 cw_TS_isInBox (ct_isInBox hx hy ⟨by omega, by omega⟩ ⟨by omega, by omega⟩) rfl rfl rfl rfl ?_
  refine zz_ifB_eq rfl (fun hb13 => ?_) (fun hb13 => ?_)
  · skip
    refine zz_iconst rfl ?_
    refine zz_iret rfl rfl (zret_e (by unfold zldt; rw [if_neg hb13]))
  · skip
    refine zz_aload_n rfl rfl ?_
    refine zz_getf rfl fl_Layer_18 hp.1 rfl ?_
    refine zz_iload_n rfl rfl ?_
    refine zz_aload_n rfl rfl ?_
    refine zz_getf rfl fl_Layer_9 hp.1 rfl ?_
    refine zz_imul rfl ?_
    refine zz_iload_n rfl rfl ?_
    refine zz_iadd rfl ?_
    refine zz_iald rfl hp.2 (by have := Nat.mul_le_mul hw hh; omega) (zidx hb13) ?_
    refine zz_goto rfl ?_
    refine zz_iret rfl rfl (zret_e (by unfold zldt; rw [if_pos hb13]))
end HP
end
section
/-! ===== heaps, arrays that are filled up ===== -/
section ZX3
variable {Z : ZC} {F : ZF} {pc q t : Nat} {L st : List Value} {h : ZH} {mc ms : Nat} {Q : ZR → ZH → Prop}
theorem zz_tv {v v' : Value} (he : v = v') (k : Ev Z F pc L (v' :: st) h mc ms Q) : Ev Z F pc L (v :: st) h mc ms Q := he ▸ k
end ZX3
theorem zget {h : ZH} {a q : Nat} {e e' : ZE} (hq : h q = none) (ha : h a = some e) : zset h q e' a = some e := by rw [zset_ne (zne hq ha)]; exact ha
theorem zset_mid (h : ZH) {a b : Nat} (e f e' : ZE) (hab : a ≠ b) : zset (zset (zset h a e) b f) a e' = zset (zset h b f) a e' := by
  rw [zset_comm h e f hab, zset_set]
theorem zset_none {h : ZH} {a b : Nat} {e : ZE} (hb : zset h a e b = none) : h b = none ∧ b ≠ a := by
  by_cases hq : b = a
  · subst hq; rw [zset_same] at hb; cases hb
  · rw [zset_ne hq] at hb; exact ⟨hb, hq⟩
theorem zset_nn {h : ZH} {a b : Nat} {e : ZE} (hb : h b = none) (hq : b ≠ a) : zset h a e b = none := by rw [zset_ne hq]; exact hb
def zfil (n : Nat) (t : Nat → Value) : Nat → Value := fun i => if i < n then t i else .null
theorem zfil_0 (t : Nat → Value) : (fun _ => Value.null) = zfil 0 t := by funext i; simp [zfil]
theorem zfil_up {t : Nat → Value} {k : Int} {v : Value} (hk : 0 ≤ k) (hv : v = t k.toNat) : zuv (zfil k.toNat t) k.toNat v = zfil (k + 1).toNat t := by
  subst hv
  funext i
  have e : (k + 1).toNat = k.toNat + 1 := by omega
  rw [e]
  by_cases hi : i = k.toNat
  · subst hi; simp [zuv, zfil]
  · by_cases h2 : i < k.toNat
    · have h3 : i < k.toNat + 1 := by omega
      simp [zuv, zfil, hi, h2, h3]
    · have h3 : ¬ i < k.toNat + 1 := by omega
      simp [zuv, zfil, hi, h2, h3]
/-- n layers, all of them objects -/
abbrev isLa (h : ZH) (la n : Nat) (lf : Nat → Value) : Prop := h la = some (za 3 n lf) ∧ ∀ i, i < n → ∃ b fs, lf i = .ref b ∧ h b = some (zo 3 fs)
theorem zkne {h : ZH} {a b : Nat} {e f : ZE} (ha : h a = some e) (hb : h b = some f) (hef : e ≠ f) : a ≠ b := by
  intro hab
  subst hab
  rw [ha] at hb
  exact hef (Option.some.inj hb)
theorem zkao {k n : Nat} {f : Nat → Value} {c : Nat} {fs : List Value} : za k n f ≠ zo c fs := fun h => by cases h
theorem zkoa {k n : Nat} {f : Nat → Value} {c : Nat} {fs : List Value} : zo c fs ≠ za k n f := fun h => by cases h
theorem zkio {g n : Nat} {f : Nat → Int} {c : Nat} {fs : List Value} : zi g n f ≠ zo c fs := fun h => by cases h
theorem zkoi {g n : Nat} {f : Nat → Int} {c : Nat} {fs : List Value} : zo c fs ≠ zi g n f := fun h => by cases h
theorem zkai {k n g m : Nat} {f : Nat → Value} {f' : Nat → Int} : za k n f ≠ zi g m f' := fun h => by cases h
theorem zkia {k n g m : Nat} {f : Nat → Value} {f' : Nat → Int} : zi g m f' ≠ za k n f := fun h => by cases h
theorem zkoo {c c' : Nat} {fs fs' : List Value} (hc : c ≠ c') : zo c fs ≠ zo c' fs' := fun h => by cases h; exact hc rfl
theorem zkaa {k k' n n' : Nat} {f f' : Nat → Value} (hc : k ≠ k') : za k n f ≠ za k' n' f' := fun h => by cases h; exact hc rfl
/-- another cell, of another kind -/
theorem zoth {h : ZH} {a b : Nat} {e f g : ZE} (ha : h a = some e) (hb : h b = some f) (hef : e ≠ f) : zset h a g b = some f := by
  rw [zset_ne (zkne hb ha hef.symm)]; exact hb
theorem cl_Painting_34 : Cond.classLink "TileStudio$Painting" 34 "[I" ∈ zG := zG_T 430 (by decide +kernel) (by decide +kernel)
theorem zz_castA {Z : ZC} {F : ZF} {pc q t : Nat} {L st : List Value} {h : ZH} {mc ms : Nat} {Q : ZR → ZH → Prop} {idx a g n : Nat} {f : Nat → Int} (hd : zT F.2.1 pc = some (.checkcast idx, q, t)) (hlink : Cond.classLink (zy F.2.1).cls idx "[I" ∈ zG) (ha : h a = some (zi g n f)) (k : Ev Z F q L (.ref a :: st) h mc ms Q) : Ev Z F pc L (.ref a :: st) h mc ms Q := by
  intro p e R s m args below meth c H locs cells slots ls hF hR hl hr hS hc hs
  obtain ⟨hx, hb, hml, hown, hts, hret, hlk, hnm, htb, hW, hEx, hok⟩ := id hF
  obtain ⟨h1, rfl⟩ := zdec hok hd 3 (fun _ _ => rfl)
  have hP : va_P Z.2.1 zcls [(a, .inl (Z.2.2.1 0, n, .inl (fun i => Int32.ofInt (f i))))] H := by
    intro k q hq
    have hz : k < 1 := (List.getElem?_eq_some_iff.mp hq).1
    rw [show k = 0 by omega] at hq
    cases hq
    exact (hr a _ ha).1
  exact va_castA hx hb hown (hts _ hlink) hP 0 rfl (hW.1.2 0 _ rfl).2 h1 (k p e R s m args below meth c H locs cells slots ls hF hR hl hr hS hc hs)
abbrev isHi (h : ZH) (hi pa : Nat) (pr la : Int) (pf : Nat → Value) : Prop := h hi = some (zo 7 [.ref pa, zI pr, zI la]) ∧ h pa = some (za 4 7 pf)
def zsh (pf : Nat → Value) (k : Int) : Nat → Value := fun i => if (i : Int) + 1 < k then pf (i + 1) else pf i
theorem zsh_1 (pf : Nat → Value) : pf = zsh pf 1 := by
  funext i
  unfold zsh
  rw [if_neg (by omega)]
theorem zsh_up {pf : Nat → Value} {k : Int} (hk : 1 ≤ k) {v : Value} (hv : v = pf k.toNat) : zuv (zsh pf k) (k - 1).toNat v = zsh pf (k + 1) := by
  subst hv
  funext i
  unfold zuv zsh
  by_cases hi : i = (k - 1).toNat
  · rw [if_pos hi, if_pos (by omega)]
    congr 1
    omega
  · rw [if_neg hi]
    by_cases h2 : (i : Int) + 1 < k
    · rw [if_pos h2, if_pos (by omega)]
    · rw [if_neg h2, if_neg (by omega)]
/-- a tool at work -/
abbrev isPt (h : ZH) (p pc la sa ra bf da af w ht : Nat) (pos : Int) (R : Nat → Nat) (f g : Nat → Int) (md op vs : Int) : Prop :=
  h p = some (zo 5 [.ref pc, zI pos, .ref bf, .ref af]) ∧ h pc = some (zo 4 [zI w, zI ht, .ref la, .ref sa]) ∧ isPl h sa ra w ht R ∧ isLy h bf da w ht f md op vs ∧ h af = some (zi 0 (w * ht) g) ∧ af ≠ ra ∧ af ≠ da
theorem isPt.up {h : ZH} {p pc la sa ra bf da af w ht : Nat} {pos : Int} {R : Nat → Nat} {f g : Nat → Int} {md op vs : Int} (hp : isPt h p pc la sa ra bf da af w ht pos R f g md op vs) (g' : Nat → Int) : isPt (zset h af (zi 0 (w * ht) g')) p pc la sa ra bf da af w ht pos R f g' md op vs := by
  obtain ⟨h1, h2, ⟨h3, h4⟩, ⟨h5, h6⟩, h7, h8, h9⟩ := hp
  refine ⟨zoth h7 h1 zkio, zoth h7 h2 zkio, ⟨zoth h7 h3 zkio, ?_⟩, ⟨zoth h7 h5 zkio, ?_⟩, zset_same _ _ _, h8, h9⟩
  · rw [zset_ne h8.symm]; exact h4
  · rw [zset_ne h9.symm]; exact h6
end
section
section OB
variable {Z : ZC} {h : ZH}
theorem ct_Places_init {a w ht : Nat} (ha : h a = some (zo 2 [zI 0, .null])) (hh : ht ≤ 24) : Ct Z m_Places_init 0 1 24 [.ref a, zI w, zI ht] h (fun r h' => r = .inl none ∧ ∃ ra, h ra = none ∧ h' = zset (zset h ra (zi 0 ht (zcn (fun _ => 0)))) a (zo 2 [zI w, .ref ra])) := by
  refine zct rfl (by decide) ok_Places_init rfl rfl ?_
  refine zz_aload_n rfl rfl ?_
  refine zz_oinit rfl ob_Places_1 rfl ?_
  refine zz_aload_n rfl rfl ?_
  refine zz_iload_n rfl rfl ?_
  refine zz_putf rfl fl_Places_7 ha (pt_2_0 rfl rfl) (zblt rfl) ?_
  refine zz_aload_n rfl rfl ?_
  refine zz_iload_n rfl rfl ?_
  refine zz_newi 0 24 rfl (by omega) (fun a11 ha11 => ?_)
  obtain ⟨hr1, hr2⟩ := zset_none ha11
  rw [Int.toNat_natCast]
  refine zz_putf rfl fl_Places_13 (show _ = some (zo 2 [zI w, .null]) from by rw [zset_ne hr2.symm, zset_same]; rfl) (pt_2_1 rfl rfl) (zblt rfl) ?_
  refine zz_vret rfl rfl ⟨rfl, a11, hr1, by rw [zset_mid h _ _ _ hr2.symm]; rfl⟩
theorem ct_Layer_init {a da : Nat} {w e md op vs : Int} (ha : h a = some (zo 3 [zI 0, zI 0, .null, zI 0, zI 0, zI 0])) (hv : vs = 0 ∨ vs = 1) : Ct Z m_Layer_init 0 0 0 [.ref a, zI w, zI e, .ref da, zI md, zI op, zI vs] h (zV (zset h a (zo 3 [zI w, zI e, .ref da, zI md, zI op, zI vs]))) := by
  refine zct rfl (by decide) ok_Layer_init rfl rfl ?_
  refine zz_aload_n rfl rfl ?_
  refine zz_oinit rfl ob_Layer_3 rfl ?_
  refine zz_aload_n rfl rfl ?_
  refine zz_iload_n rfl rfl ?_
  refine zz_putf rfl fl_Layer_9 ha (pt_3_0 rfl rfl) (zblt rfl) ?_
  refine zz_aload_n rfl rfl ?_
  refine zz_iload_n rfl rfl ?_
  refine zz_putf rfl fl_Layer_15 (zset_same _ _ _) (pt_3_1 rfl rfl) (zblt rfl) ?_
  refine zz_aload_n rfl rfl ?_
  refine zz_aload_n rfl rfl ?_
  refine zz_putf rfl fl_Layer_18 (zset_same _ _ _) (pt_3_2 rfl rfl) (zblt rfl) ?_
  refine zz_aload_n rfl rfl ?_
  refine zz_iload rfl rfl ?_
  refine zz_putf rfl fl_Layer_22 (zset_same _ _ _) (pt_3_3 rfl rfl) (zblt rfl) ?_
  refine zz_aload_n rfl rfl ?_
  refine zz_iload rfl rfl ?_
  refine zz_putf rfl fl_Layer_25 (zset_same _ _ _) (pt_3_4 rfl rfl) (zblt rfl) ?_
  refine zz_aload_n rfl rfl ?_
  refine zz_iload rfl rfl ?_
  refine zz_putf rfl fl_Layer_28 (zset_same _ _ _) (pt_3_5 (by rcases hv with rfl | rfl <;> rfl) (by rcases hv with rfl | rfl <;> rfl)) (zblt rfl) ?_
  refine zz_vret rfl rfl ⟨rfl, by simp only [zset_set]; rfl⟩
theorem ct_withDots {a da na w ht : Nat} {f : Nat → Int} {md op vs : Int} (hp : isLy h a da w ht f md op vs) (hv : vs = 0 ∨ vs = 1) : Ct Z m_Layer_withDots 1 1 6 [.ref a, .ref na] h (fun r h' => ∃ b, h b = none ∧ r = .inl (some (.ref b)) ∧ h' = zset h b (zo 3 [zI w, zI ht, .ref na, zI md, zI op, zI vs])) := by
  refine zct rfl (by decide) ok_Layer_withDots rfl rfl ?_
  refine zz_new (N := 6) rfl nw_Layer_10 (fun a0 ha0 => ?_)
  refine zz_dup rfl rfl ?_
  refine zz_aload_n rfl rfl ?_
  refine zz_getf rfl fl_Layer_9 (zget ha0 hp.1) rfl ?_
  refine zz_aload_n rfl rfl ?_
  refine zz_getf rfl fl_Layer_15 (zget ha0 hp.1) rfl ?_
  refine zz_aload_n rfl rfl ?_
  refine zz_aload_n rfl rfl ?_
  refine zz_getf rfl fl_Layer_22 (zget ha0 hp.1) rfl ?_
  refine zz_aload_n rfl rfl ?_
  refine zz_getf rfl fl_Layer_25 (zget ha0 hp.1) rfl ?_
  refine zz_aload_n rfl rfl ?_
  refine zz_getf rfl fl_Layer_28 (zget ha0 hp.1) rfl ?_
  refine zz_Nu rfl lk_Layer_32 cw_Layer_init (ct_Layer_init (zset_same _ _ _) hv) rfl rfl rfl rfl ?_
  refine Ev.heap (zset_set _ _ _ _) ?_
  refine zz_aret rfl rfl (Or.inl ⟨_, rfl⟩) (Or.inr ⟨_, rfl⟩) ⟨a0, ha0, rfl, rfl⟩
theorem ct_withBlending {a da w ht : Nat} {f : Nat → Int} {md op vs md1 op1 vs1 : Int} (hp : isLy h a da w ht f md op vs) (hv : vs1 = 0 ∨ vs1 = 1) : Ct Z m_Layer_withBlending 1 1 6 [.ref a, zI md1, zI op1, zI vs1] h (fun r h' => ∃ b, h b = none ∧ r = .inl (some (.ref b)) ∧ h' = zset h b (zo 3 [zI w, zI ht, .ref da, zI md1, zI op1, zI vs1])) := by
  refine zct rfl (by decide) ok_Layer_withBlending rfl rfl ?_
  refine zz_new (N := 6) rfl nw_Layer_10 (fun a0 ha0 => ?_)
  refine zz_dup rfl rfl ?_
  refine zz_aload_n rfl rfl ?_
  refine zz_getf rfl fl_Layer_9 (zget ha0 hp.1) rfl ?_
  refine zz_aload_n rfl rfl ?_
  refine zz_getf rfl fl_Layer_15 (zget ha0 hp.1) rfl ?_
  refine zz_aload_n rfl rfl ?_
  refine zz_getf rfl fl_Layer_18 (zget ha0 hp.1) rfl ?_
  refine zz_iload_n rfl rfl ?_
  refine zz_iload_n rfl rfl ?_
  refine zz_iload_n rfl rfl ?_
  refine zz_Nu rfl lk_Layer_32 cw_Layer_init (ct_Layer_init (zset_same _ _ _) hv) rfl rfl rfl rfl ?_
  refine Ev.heap (zset_set _ _ _ _) ?_
  refine zz_aret rfl rfl (Or.inl ⟨_, rfl⟩) (Or.inr ⟨_, rfl⟩) ⟨a0, ha0, rfl, rfl⟩
theorem ct_clearLayer {w ht : Nat} (hw : w ≤ 24) (hh : ht ≤ 24) : Ct Z m_TS_clearLayer 1 2 582 [zI w, zI ht] h (fun r h' => ∃ a da, h a = none ∧ h da = none ∧ da ≠ a ∧ r = .inl (some (.ref a)) ∧ h' = zset (zset h da (zi 0 (w * ht) (fun _ => 0))) a (zo 3 [zI w, zI ht, .ref da, zI 0, zI 255, zI 1])) := by
  refine zct rfl (by decide) ok_TS_clearLayer rfl rfl ?_
  refine zz_new (N := 6) rfl nw_TS_33 (fun a0 ha0 => ?_)
  refine zz_dup rfl rfl ?_
  refine zz_iload_n rfl rfl ?_
  refine zz_iload_n rfl rfl ?_
  refine zz_iload_n rfl rfl ?_
  refine zz_iload_n rfl rfl ?_
  refine zz_imul rfl ?_
  refine zz_eq (Int.natCast_mul w ht).symm ?_
  have hwh := Nat.mul_le_mul hw hh
  refine zz_newi 0 576 rfl (by omega) (fun a9 ha9 => ?_)
  obtain ⟨hr1, hr2⟩ := zset_none ha9
  rw [Int.toNat_natCast]
  refine zz_iconst rfl ?_
  refine zz_sipush rfl (by decide) ?_
  refine zz_iconst rfl ?_
  refine zz_Nu rfl lk_TS_257 cw_Layer_init (ct_Layer_init (show _ = some (zo 3 [zI 0, zI 0, .null, zI 0, zI 0, zI 0]) from by rw [zset_ne hr2.symm, zset_same]) (Or.inr rfl)) rfl rfl rfl rfl ?_
  refine Ev.heap (zset_mid h _ _ _ hr2.symm) ?_
  refine zz_aret rfl rfl (Or.inl ⟨_, rfl⟩) (Or.inr ⟨_, rfl⟩) ⟨a0, a9, ha0, hr1, hr2, rfl, rfl⟩
theorem ct_Picture_init {a la sa : Nat} {w e : Int} (ha : h a = some (zo 4 [zI 0, zI 0, .null, .null])) : Ct Z m_Picture_init 0 0 0 [.ref a, zI w, zI e, .ref la, .ref sa] h (zV (zset h a (zo 4 [zI w, zI e, .ref la, .ref sa]))) := by
  refine zct rfl (by decide) ok_Picture_init rfl rfl ?_
  refine zz_aload_n rfl rfl ?_
  refine zz_oinit rfl ob_Picture_1 rfl ?_
  refine zz_aload_n rfl rfl ?_
  refine zz_iload_n rfl rfl ?_
  refine zz_putf rfl fl_Picture_7 ha (pt_4_0 rfl rfl) (zblt rfl) ?_
  refine zz_aload_n rfl rfl ?_
  refine zz_iload_n rfl rfl ?_
  refine zz_putf rfl fl_Picture_13 (zset_same _ _ _) (pt_4_1 rfl rfl) (zblt rfl) ?_
  refine zz_aload_n rfl rfl ?_
  refine zz_aload_n rfl rfl ?_
  refine zz_putf rfl fl_Picture_16 (zset_same _ _ _) (pt_4_2 rfl rfl) (zblt rfl) ?_
  refine zz_aload_n rfl rfl ?_
  refine zz_aload rfl rfl ?_
  refine zz_putf rfl fl_Picture_20 (zset_same _ _ _) (pt_4_3 rfl rfl) (zblt rfl) ?_
  refine zz_vret rfl rfl ⟨rfl, by simp only [zset_set]; rfl⟩
theorem ct_withLayers {a la sa na w ht : Nat} (hp : h a = some (zo 4 [zI w, zI ht, .ref la, .ref sa])) : Ct Z m_Picture_withLayers 1 1 4 [.ref a, .ref na] h (fun r h' => ∃ b, h b = none ∧ r = .inl (some (.ref b)) ∧ h' = zset h b (zo 4 [zI w, zI ht, .ref na, .ref sa])) := by
  refine zct rfl (by decide) ok_Picture_withLayers rfl rfl ?_
  refine zz_new (N := 4) rfl nw_Picture_8 (fun a0 ha0 => ?_)
  refine zz_dup rfl rfl ?_
  refine zz_aload_n rfl rfl ?_
  refine zz_getf rfl fl_Picture_7 (zget ha0 hp) rfl ?_
  refine zz_aload_n rfl rfl ?_
  refine zz_getf rfl fl_Picture_13 (zget ha0 hp) rfl ?_
  refine zz_aload_n rfl rfl ?_
  refine zz_aload_n rfl rfl ?_
  refine zz_getf rfl fl_Picture_20 (zget ha0 hp) rfl ?_
  refine zz_Nu rfl lk_Picture_24 cw_Picture_init (ct_Picture_init (zset_same _ _ _)) rfl rfl rfl rfl ?_
  refine Ev.heap (zset_set _ _ _ _) ?_
  refine zz_aret rfl rfl (Or.inl ⟨_, rfl⟩) (Or.inr ⟨_, rfl⟩) ⟨a0, ha0, rfl, rfl⟩
theorem ct_withSelection {a la sa na w ht : Nat} (hp : h a = some (zo 4 [zI w, zI ht, .ref la, .ref sa])) : Ct Z m_Picture_withSelection 1 1 4 [.ref a, .ref na] h (fun r h' => ∃ b, h b = none ∧ r = .inl (some (.ref b)) ∧ h' = zset h b (zo 4 [zI w, zI ht, .ref la, .ref na])) := by
  refine zct rfl (by decide) ok_Picture_withSelection rfl rfl ?_
  refine zz_new (N := 4) rfl nw_Picture_8 (fun a0 ha0 => ?_)
  refine zz_dup rfl rfl ?_
  refine zz_aload_n rfl rfl ?_
  refine zz_getf rfl fl_Picture_7 (zget ha0 hp) rfl ?_
  refine zz_aload_n rfl rfl ?_
  refine zz_getf rfl fl_Picture_13 (zget ha0 hp) rfl ?_
  refine zz_aload_n rfl rfl ?_
  refine zz_getf rfl fl_Picture_16 (zget ha0 hp) rfl ?_
  refine zz_aload_n rfl rfl ?_
  refine zz_Nu rfl lk_Picture_24 cw_Picture_init (ct_Picture_init (zset_same _ _ _)) rfl rfl rfl rfl ?_
  refine Ev.heap (zset_set _ _ _ _) ?_
  refine zz_aret rfl rfl (Or.inl ⟨_, rfl⟩) (Or.inr ⟨_, rfl⟩) ⟨a0, ha0, rfl, rfl⟩
theorem lp_withLayer {a la sa na ch n : Nat} {w ht pos : Int} {lf : Nat → Value} {cf : List Value} {MC MS mc ms : Nat} {Q : ZR → ZH → Prop} (hp : h a = some (zo 4 [zI w, zI ht, .ref la, .ref sa])) (hl : isLa h la n lf) (hn : n ≤ 3) (hc : h ch = some (zo 3 cf)) (hpos : zrg pos) (hna : h na = none) (kx : Ev Z (fun _ => True, m_Picture_withLayer, 2, MC, MS) 46 [.ref a, zI pos, .ref ch, .ref na, zI n] [] (zset h na (za 3 n (zfil n (fun i => if (i : Int) = pos then .ref ch else lf i)))) mc ms Q) : ∀ (m : Nat) (k : Int), 0 ≤ k → k + m = n → Ev Z (fun _ => True, m_Picture_withLayer, 2, MC, MS) 12 [.ref a, zI pos, .ref ch, .ref na, zI k] [] (zset h na (za 3 n (zfil k.toNat (fun i => if (i : Int) = pos then .ref ch else lf i)))) mc ms Q := by
  intro m
  induction m with
  | zero =>
    intro k hk0 hkn
    refine zz_iload rfl rfl ?_
    refine zz_aload_n rfl rfl ?_
    refine zz_alenA rfl (Or.inl ⟨rfl, rfl⟩) (zset_same _ _ _) ?_
    refine zz_icmp_ge rfl (by omega) (by omega) (fun hb16 => ?_) (fun hb16 => absurd hb16 (by omega))
    obtain rfl : k = (n : Int) := by omega
    exact kx
  | succ m ih =>
    intro k hk0 hkn
    refine zz_iload rfl rfl ?_
    refine zz_aload_n rfl rfl ?_
    refine zz_alenA rfl (Or.inl ⟨rfl, rfl⟩) (zset_same _ _ _) ?_
    refine zz_icmp_ge rfl (by omega) (by omega) (fun hb16 => absurd hb16 (by omega)) (fun hb16 => ?_)
    refine zz_aload_n rfl rfl ?_
    refine zz_iload rfl rfl ?_
    refine zz_iload rfl rfl ?_
    refine zz_iload_n rfl rfl ?_
    refine zz_icmp_ne rfl (by omega) (by omega) (fun hb25 => ?_) (fun hb25 => ?_)
    · skip
      refine zz_aload_n rfl rfl ?_
      refine zz_getf rfl fl_Picture_16 (zget hna hp) rfl ?_
      refine zz_iload rfl rfl ?_
      refine zz_aald rfl (Or.inl ⟨rfl, rfl⟩) (zget hna hl.1) (by omega) (by omega) ?_
      obtain ⟨b0, f0, hb0, hg0⟩ := hl.2 k.toNat (by omega)
      refine zz_tv hb0 ?_
      refine zz_aast rfl (Or.inl ⟨rfl, rfl⟩) rfl (zset_same _ _ _) (zget hna hg0) (by omega) (by omega) ?_
      have hz9 := (show (Value.ref b0) = (fun i : Nat => if (i : Int) = pos then Value.ref ch else lf i) k.toNat from by show _ = if ((k.toNat : Nat) : Int) = pos then _ else _; rw [if_neg (by omega)]; exact hb0.symm)
      refine zz_iinc rfl rfl rfl rfl ?_
      refine zz_goto rfl ?_
      refine Ev.heap (show _ = zset h na (za 3 n (zfil (k + 1).toNat (fun i => if (i : Int) = pos then .ref ch else lf i))) from by rw [zset_set, zfil_up hk0 hz9]) ?_
      exact ih (k + 1) (by omega) (by omega)
    · skip
      refine zz_aload_n rfl rfl ?_
      refine zz_goto rfl ?_
      refine zz_aast rfl (Or.inl ⟨rfl, rfl⟩) rfl (zset_same _ _ _) (zget hna hc) (by omega) (by omega) ?_
      have hz9 := (show (Value.ref ch) = (fun i : Nat => if (i : Int) = pos then Value.ref ch else lf i) k.toNat from by show _ = if ((k.toNat : Nat) : Int) = pos then _ else _; rw [if_pos (by omega)])
      refine zz_iinc rfl rfl rfl rfl ?_
      refine zz_goto rfl ?_
      refine Ev.heap (show _ = zset h na (za 3 n (zfil (k + 1).toNat (fun i => if (i : Int) = pos then .ref ch else lf i))) from by rw [zset_set, zfil_up hk0 hz9]) ?_
      exact ih (k + 1) (by omega) (by omega)
theorem ct_withLayer {a la sa ch n w ht : Nat} {pos : Int} {lf : Nat → Value} {cf : List Value} (hp : h a = some (zo 4 [zI w, zI ht, .ref la, .ref sa])) (hl : isLa h la n lf) (hn : n ≤ 3) (hc : h ch = some (zo 3 cf)) (hpos : zrg pos) : Ct Z m_Picture_withLayer 2 2 7 [.ref a, zI pos, .ref ch] h (fun r h' => ∃ na b, h na = none ∧ h b = none ∧ b ≠ na ∧ r = .inl (some (.ref b)) ∧ h' = zset (zset h na (za 3 n (zfil n (fun i => if (i : Int) = pos then .ref ch else lf i)))) b (zo 4 [zI w, zI ht, .ref na, .ref sa])) := by
  refine zct rfl (by decide) ok_Picture_withLayer rfl rfl ?_
  refine zz_aload_n rfl rfl ?_
  refine zz_getf rfl fl_Picture_16 hp rfl ?_
  refine zz_alenA rfl (Or.inl ⟨rfl, rfl⟩) hl.1 ?_
  refine zz_newq 3 rfl (Or.inl ⟨rfl, rfl⟩) cl_Picture_27 (by omega) (fun na hna => ?_)
  rw [Int.toNat_natCast, zfil_0 (fun i : Nat => if (i : Int) = pos then Value.ref ch else lf i)]
  refine zz_astore_n rfl rfl rfl ?_
  refine zz_iconst rfl ?_
  refine zz_istore rfl rfl rfl ?_
  refine lp_withLayer hp hl hn hc hpos hna ?_ n 0 (by omega) (by omega)
  refine zz_aload_n rfl rfl ?_
  refine zz_aload_n rfl rfl ?_
  refine zz_V rfl lk_Picture_29 cw_Picture_withLayers rfl (zget hna hp) (ct_withLayers (zget hna hp)) rfl rfl rfl rfl ?_
  rintro _ _ ⟨b, hb1, rfl, rfl⟩
  obtain ⟨hb2, hb3⟩ := zset_none hb1
  refine zaft_v ?_
  refine zz_aret rfl rfl (Or.inl ⟨_, rfl⟩) (Or.inr ⟨_, rfl⟩) ⟨na, b, hna, hb2, hb3, rfl, rfl⟩
end OB
end
section
section HI
variable {Z : ZC} {h : ZH}
theorem ct_History_init {a : Nat} (ha : h a = some (zo 7 [.null, zI 0, zI 0])) : Ct Z m_History_init 0 1 7 [.ref a] h (fun r h' => r = .inl none ∧ ∃ pa, h pa = none ∧ h' = zset (zset h pa (za 4 7 (fun _ => .null))) a (zo 7 [.ref pa, zI 0, zI 0])) := by
  refine zct rfl (by decide) ok_History_init rfl rfl ?_
  refine zz_aload_n rfl rfl ?_
  refine zz_oinit rfl ob_History_3 rfl ?_
  refine zz_aload_n rfl rfl ?_
  refine zz_bipush rfl (by decide) ?_
  refine zz_newq 7 rfl (Or.inr ⟨rfl, rfl⟩) cl_History_9 (by omega) (fun a7 ha7 => ?_)
  refine zz_putf rfl fl_History_11 (zget ha7 ha) (pt_7_0 rfl rfl) (zblt rfl) ?_
  refine zz_vret rfl rfl ⟨rfl, a7, ha7, rfl⟩
theorem ct_TS_init {x : Nat} (hx : h x = some (zo 0 [.null, .null, .null, zI 0, zI 0])) : Ct Z m_TS_init 1 2 10 [.ref x] h (fun r h' => r = .inl none ∧ ∃ hi pa, h hi = none ∧ h pa = none ∧ hi ≠ pa ∧ h' = zset (zset (zset h pa (za 4 7 (fun _ => .null))) hi (zo 7 [.ref pa, zI 0, zI 0])) x (zo 0 [.ref hi, .null, .null, zI 0, zI 0])) := by
  refine zct rfl (by decide) ok_TS_init rfl rfl ?_
  refine zz_aload_n rfl rfl ?_
  refine zz_oinit rfl ob_TS_3 rfl ?_
  refine zz_aload_n rfl rfl ?_
  refine zz_new (N := 3) rfl nw_TS_9 (fun hi hhi => ?_)
  refine zz_dup rfl rfl ?_
  refine zz_N rfl lk_TS_11 cw_History_init (fun E h9 h8 => by cases h8.1) (ct_History_init (zset_same _ _ _)) rfl rfl rfl rfl ?_
  rintro _ _ ⟨rfl, pa, hpa, rfl⟩
  obtain ⟨hp1, hp2⟩ := zset_none hpa
  refine zaft_u ?_
  refine Ev.heap (zset_mid h _ _ _ hp2.symm) ?_
  refine zz_putf rfl fl_TS_12 (show _ = some (zo 0 [.null, .null, .null, zI 0, zI 0]) from by rw [zset_ne (zne hhi hx), zset_ne (zne hp1 hx)]; exact hx) (pt_0_0 rfl rfl) (zblt rfl) ?_
  refine zz_vret rfl rfl ⟨rfl, hi, pa, hhi, hp1, hp2.symm, rfl⟩
theorem ct_present {hi pa : Nat} {pr la : Int} {pf : Nat → Value} (hH : isHi h hi pa pr la pf) (hpr : 0 ≤ pr ∧ pr ≤ 6) (hv : pf pr.toNat = .null ∨ ∃ a, pf pr.toNat = .ref a) : Ct Z m_History_present 0 0 0 [.ref hi] h (zP (pf pr.toNat) h) := by
  refine zct rfl (by decide) ok_History_present rfl rfl ?_
  refine zz_aload_n rfl rfl ?_
  refine zz_getf rfl fl_History_11 hH.1 rfl ?_
  refine zz_aload_n rfl rfl ?_
  refine zz_getf rfl fl_History_17 hH.1 rfl ?_
  refine zz_aald rfl (Or.inr ⟨rfl, rfl⟩) hH.2 (by omega) (by omega) ?_
  refine zz_aret rfl rfl (Or.inl ⟨_, rfl⟩) (hv) ⟨rfl, rfl⟩
theorem ct_stepsBack {hi pa : Nat} {pr la : Int} {pf : Nat → Value} (hH : isHi h hi pa pr la pf) (hpr : 0 ≤ pr ∧ pr ≤ 6) : Ct Z m_History_stepsBack 0 0 0 [.ref hi] h (zP (zI pr) h) := by
  refine zct rfl (by decide) ok_History_stepsBack rfl rfl ?_
  refine zz_aload_n rfl rfl ?_
  refine zz_getf rfl fl_History_17 hH.1 rfl ?_
  refine zz_iret rfl rfl ⟨rfl, rfl⟩
theorem ct_stepsForth {hi pa : Nat} {pr la : Int} {pf : Nat → Value} (hH : isHi h hi pa pr la pf) (hpr : 0 ≤ pr ∧ pr ≤ 6) : Ct Z m_History_stepsForth 0 0 0 [.ref hi] h (zP (zI (la - pr)) h) := by
  refine zct rfl (by decide) ok_History_stepsForth rfl rfl ?_
  refine zz_aload_n rfl rfl ?_
  refine zz_getf rfl fl_History_21 hH.1 rfl ?_
  refine zz_aload_n rfl rfl ?_
  refine zz_getf rfl fl_History_17 hH.1 rfl ?_
  refine zz_isub rfl ?_
  refine zz_iret rfl rfl ⟨rfl, rfl⟩
theorem ct_goBack {hi pa : Nat} {pr la : Int} {pf : Nat → Value} (hH : isHi h hi pa pr la pf) (hpr : 0 ≤ pr ∧ pr ≤ 6) : Ct Z m_History_goBack 0 0 0 [.ref hi] h (fun r h' => ((0 < pr ∧ r = .inl (some (zI 1)) ∧ h' = zset h hi (zo 7 [.ref pa, zI (pr - 1), zI la])) ∨ (¬ 0 < pr ∧ r = .inl (some (zI 0)) ∧ h' = h))) := by
  refine zct rfl (by decide) ok_History_goBack rfl rfl ?_
  refine zz_aload_n rfl rfl ?_
  refine zz_getf rfl fl_History_17 hH.1 rfl ?_
  refine zz_if_gt rfl (by omega) (fun hb4 => ?_) (fun hb4 => ?_)
  · skip
    refine zz_aload_n rfl rfl ?_
    refine zz_dup rfl rfl ?_
    refine zz_getf rfl fl_History_17 hH.1 rfl ?_
    refine zz_iconst rfl ?_
    refine zz_isub rfl ?_
    refine zz_putf rfl fl_History_17 hH.1 (pt_7_1 rfl rfl) (zblt rfl) ?_
    refine zz_iconst rfl ?_
    refine zz_zret rfl rfl rfl (Or.inl ⟨hb4, rfl, rfl⟩)
  · skip
    refine zz_iconst rfl ?_
    refine zz_zret rfl rfl rfl (Or.inr ⟨hb4, rfl, rfl⟩)
theorem ct_goForth {hi pa : Nat} {pr la : Int} {pf : Nat → Value} (hH : isHi h hi pa pr la pf) (hpr : 0 ≤ pr ∧ pr ≤ 6) (hla : pr ≤ la ∧ la ≤ 6) : Ct Z m_History_goForth 0 0 0 [.ref hi] h (fun r h' => ((pr < la ∧ r = .inl (some (zI 1)) ∧ h' = zset h hi (zo 7 [.ref pa, zI (pr + 1), zI la])) ∨ (¬ pr < la ∧ r = .inl (some (zI 0)) ∧ h' = h))) := by
  refine zct rfl (by decide) ok_History_goForth rfl rfl ?_
  refine zz_aload_n rfl rfl ?_
  refine zz_getf rfl fl_History_17 hH.1 rfl ?_
  refine zz_aload_n rfl rfl ?_
  refine zz_getf rfl fl_History_21 hH.1 rfl ?_
  refine zz_icmp_lt rfl (by omega) (by omega) (fun hb8 => ?_) (fun hb8 => ?_)
  · skip
    refine zz_aload_n rfl rfl ?_
    refine zz_dup rfl rfl ?_
    refine zz_getf rfl fl_History_17 hH.1 rfl ?_
    refine zz_iconst rfl ?_
    refine zz_iadd rfl ?_
    refine zz_putf rfl fl_History_17 hH.1 (pt_7_1 rfl rfl) (zblt rfl) ?_
    refine zz_iconst rfl ?_
    refine zz_zret rfl rfl rfl (Or.inl ⟨hb8, rfl, rfl⟩)
  · skip
    refine zz_iconst rfl ?_
    refine zz_zret rfl rfl rfl (Or.inr ⟨hb8, rfl, rfl⟩)
theorem ct_begin {hi pa a : Nat} {pr la : Int} {pf : Nat → Value} {fs : List Value} (hH : isHi h hi pa pr la pf) (ha : h a = some (zo 4 fs)) : Ct Z m_History_begin 0 0 0 [.ref hi, .ref a] h (zV (zset (zset h hi (zo 7 [.ref pa, zI 0, zI 0])) pa (za 4 7 (zuv pf 0 (.ref a))))) := by
  refine zct rfl (by decide) ok_History_begin rfl rfl ?_
  refine zz_aload_n rfl rfl ?_
  refine zz_iconst rfl ?_
  refine zz_putf rfl fl_History_17 hH.1 (pt_7_1 rfl rfl) (zblt rfl) ?_
  refine zz_aload_n rfl rfl ?_
  refine zz_iconst rfl ?_
  refine zz_putf rfl fl_History_21 (zset_same _ _ _) (pt_7_2 rfl rfl) (zblt rfl) ?_
  refine Ev.heap (show _ = zset h hi (zo 7 [.ref pa, zI 0, zI 0]) from by rw [zset_set]; rfl) ?_
  refine zz_aload_n rfl rfl ?_
  refine zz_getf rfl fl_History_11 (zset_same _ _ _) rfl ?_
  refine zz_iconst rfl ?_
  refine zz_aload_n rfl rfl ?_
  refine zz_aast rfl (Or.inr ⟨rfl, rfl⟩) rfl (show _ = some (za 4 7 pf) from by rw [zset_ne (zkne hH.2 hH.1 zkao)]; exact hH.2) (show _ = some (zo 4 fs) from by rw [zset_ne (zkne ha hH.1 (zkoo (by decide)))]; exact ha) (by omega) (by omega) ?_
  refine zz_vret rfl rfl ⟨rfl, rfl⟩
theorem lp_forget {hi pa : Nat} {pr la : Int} {pf : Nat → Value} {MC MS mc ms : Nat} {Q : ZR → ZH → Prop} (hH : isHi h hi pa pr la pf) (hall : ∀ i, i < 7 → ∃ b fs, pf i = .ref b ∧ h b = some (zo 4 fs)) (kx : Ev Z (fun _ => True, m_History_forgetOldest, 0, MC, MS) 31 [.ref hi, zI 7] [] (zset h pa (za 4 7 (zsh pf 7))) mc ms Q) : ∀ (m : Nat) (k : Int), 1 ≤ k → k + m = 7 → Ev Z (fun _ => True, m_History_forgetOldest, 0, MC, MS) 2 [.ref hi, zI k] [] (zset h pa (za 4 7 (zsh pf k))) mc ms Q := by
  intro m
  induction m with
  | zero =>
    intro k hk0 hkn
    refine zz_iload_n rfl rfl ?_
    refine zz_aload_n rfl rfl ?_
    refine zz_getf rfl fl_History_11 (zoth hH.2 hH.1 zkao) rfl ?_
    refine zz_alenA rfl (Or.inr ⟨rfl, rfl⟩) (zset_same _ _ _) ?_
    refine zz_icmp_ge rfl (by omega) (by omega) (fun hb8 => ?_) (fun hb8 => absurd hb8 (by omega))
    obtain rfl : k = 7 := by omega
    exact kx
  | succ m ih =>
    intro k hk0 hkn
    refine zz_iload_n rfl rfl ?_
    refine zz_aload_n rfl rfl ?_
    refine zz_getf rfl fl_History_11 (zoth hH.2 hH.1 zkao) rfl ?_
    refine zz_alenA rfl (Or.inr ⟨rfl, rfl⟩) (zset_same _ _ _) ?_
    refine zz_icmp_ge rfl (by omega) (by omega) (fun hb8 => absurd hb8 (by omega)) (fun hb8 => ?_)
    refine zz_aload_n rfl rfl ?_
    refine zz_getf rfl fl_History_11 (zoth hH.2 hH.1 zkao) rfl ?_
    refine zz_iload_n rfl rfl ?_
    refine zz_iconst rfl ?_
    refine zz_isub rfl ?_
    refine zz_aload_n rfl rfl ?_
    refine zz_getf rfl fl_History_11 (zoth hH.2 hH.1 zkao) rfl ?_
    refine zz_iload_n rfl rfl ?_
    refine zz_aald rfl (Or.inr ⟨rfl, rfl⟩) (zset_same _ _ _) (by omega) (by omega) ?_
    obtain ⟨b0, f0, hb0, hg0⟩ := hall k.toNat (by omega)
    refine zz_tv (show zsh pf k k.toNat = .ref b0 from by unfold zsh; rw [if_neg (by omega)]; exact hb0) ?_
    refine zz_aast rfl (Or.inr ⟨rfl, rfl⟩) rfl (zset_same _ _ _) (zoth hH.2 hg0 zkao) (by omega) (by omega) ?_
    refine zz_iinc rfl rfl rfl rfl ?_
    refine zz_goto rfl ?_
    refine Ev.heap (show _ = zset h pa (za 4 7 (zsh pf (k + 1))) from by rw [zset_set, zsh_up hk0 hb0.symm]) ?_
    exact ih (k + 1) (by omega) (by omega)
theorem ct_forgetOldest {hi pa : Nat} {pr la : Int} {pf : Nat → Value} (hH : isHi h hi pa pr la pf) (hall : ∀ i, i < 7 → ∃ b fs, pf i = .ref b ∧ h b = some (zo 4 fs)) : Ct Z m_History_forgetOldest 0 0 0 [.ref hi] h (zV (zset h pa (za 4 7 (zsh pf 7)))) := by
  refine zct rfl (by decide) ok_History_forgetOldest rfl rfl ?_
  refine zz_iconst rfl ?_
  refine zz_istore_n rfl rfl rfl ?_
  refine Ev.heap (show h = zset h pa (za 4 7 (zsh pf 1)) from by rw [← zsh_1, zset_id hH.2]) ?_
  refine lp_forget hH hall ?_ 6 1 (by decide) (by decide)
  refine zz_vret rfl rfl ⟨rfl, rfl⟩
theorem ct_add_lt {hi pa a : Nat} {pr la : Int} {pf : Nat → Value} {fs : List Value} (hH : isHi h hi pa pr la pf) (hpr : 0 ≤ pr ∧ pr < 6) (ha : h a = some (zo 4 fs)) : Ct Z m_History_add 1 0 0 [.ref hi, .ref a] h (zV (zset (zset h hi (zo 7 [.ref pa, zI (pr + 1), zI (pr + 1)])) pa (za 4 7 (zuv pf (pr + 1).toNat (.ref a))))) := by
  refine zct rfl (by decide) ok_History_add rfl rfl ?_
  refine zz_aload_n rfl rfl ?_
  refine zz_getf rfl fl_History_17 hH.1 rfl ?_
  refine zz_bipush rfl (by decide) ?_
  refine zz_icmp_lt rfl (by omega) (by omega) (fun hb6 => ?_) (fun hb6 => absurd hb6 (by omega))
  refine zz_aload_n rfl rfl ?_
  refine zz_dup rfl rfl ?_
  refine zz_getf rfl fl_History_17 hH.1 rfl ?_
  refine zz_iconst rfl ?_
  refine zz_iadd rfl ?_
  refine zz_putf rfl fl_History_17 hH.1 (pt_7_1 rfl rfl) (zblt rfl) ?_
  refine zz_aload_n rfl rfl ?_
  refine zz_aload_n rfl rfl ?_
  refine zz_getf rfl fl_History_17 (zset_same _ _ _) rfl ?_
  refine zz_putf rfl fl_History_21 (zset_same _ _ _) (pt_7_2 rfl rfl) (zblt rfl) ?_
  refine Ev.heap (show _ = zset h hi (zo 7 [.ref pa, zI (pr + 1), zI (pr + 1)]) from by rw [zset_set]; rfl) ?_
  refine zz_aload_n rfl rfl ?_
  refine zz_getf rfl fl_History_11 (zset_same _ _ _) rfl ?_
  refine zz_aload_n rfl rfl ?_
  refine zz_getf rfl fl_History_17 (zset_same _ _ _) rfl ?_
  refine zz_aload_n rfl rfl ?_
  refine zz_aast rfl (Or.inr ⟨rfl, rfl⟩) rfl (show _ = some (za 4 7 pf) from by rw [zset_ne (zkne hH.2 hH.1 zkao)]; exact hH.2) (show _ = some (zo 4 fs) from by rw [zset_ne (zkne ha hH.1 (zkoo (by decide)))]; exact ha) (by omega) (by omega) ?_
  refine zz_vret rfl rfl ⟨rfl, rfl⟩
theorem ct_add_ge {hi pa a : Nat} {pr la : Int} {pf : Nat → Value} {fs : List Value} (hH : isHi h hi pa pr la pf) (hpr : pr = 6) (hall : ∀ i, i < 7 → ∃ b fs, pf i = .ref b ∧ h b = some (zo 4 fs)) (ha : h a = some (zo 4 fs)) : Ct Z m_History_add 1 0 0 [.ref hi, .ref a] h (zV (zset (zset h hi (zo 7 [.ref pa, zI 6, zI 6])) pa (za 4 7 (zuv (zsh pf 7) 6 (.ref a))))) := by
  refine zct rfl (by decide) ok_History_add rfl rfl ?_
  refine zz_aload_n rfl rfl ?_
  refine zz_getf rfl fl_History_17 hH.1 rfl ?_
  refine zz_bipush rfl (by decide) ?_
  refine zz_icmp_lt rfl (by omega) (by omega) (fun hb6 => absurd hb6 (by omega)) (fun hb6 => ?_)
  refine zz_aload_n rfl rfl ?_
  refine zz_Vu rfl lk_History_24 cw_History_forgetOldest rfl hH.1 (ct_forgetOldest hH hall) rfl rfl rfl rfl ?_
  subst hpr
  have hG : zset h pa (za 4 7 (zsh pf 7)) hi = some (zo 7 [.ref pa, zI 6, zI la]) := zoth hH.2 hH.1 zkao
  refine zz_goto rfl ?_
  refine zz_aload_n rfl rfl ?_
  refine zz_aload_n rfl rfl ?_
  refine zz_getf rfl fl_History_17 hG rfl ?_
  refine zz_putf rfl fl_History_21 hG (pt_7_2 rfl rfl) (zblt rfl) ?_
  refine zz_aload_n rfl rfl ?_
  refine zz_getf rfl fl_History_11 (zset_same _ _ _) rfl ?_
  refine zz_aload_n rfl rfl ?_
  refine zz_getf rfl fl_History_17 (zset_same _ _ _) rfl ?_
  refine zz_aload_n rfl rfl ?_
  refine zz_aast rfl (Or.inr ⟨rfl, rfl⟩) rfl (show _ = some (za 4 7 (zsh pf 7)) from by rw [zset_ne (zkne hH.2 hH.1 zkao), zset_same]) (show _ = some (zo 4 fs) from by rw [zset_ne (zkne ha hH.1 (zkoo (by decide))), zset_ne (zkne ha hH.2 zkoa)]; exact ha) (by omega) (by omega) ?_
  refine zz_vret rfl rfl ⟨rfl, by rw [zset_mid h _ _ _ (zkne hH.2 hH.1 zkao)]; rfl⟩
theorem lp_removed {la na n : Nat} {pos : Int} {lf : Nat → Value} (hl : isLa h la (n + 1) lf) (hn : n ≤ 3) (hpos : zrg pos) (hna : h na = none) {MC MS mc ms : Nat} {Q : ZR → ZH → Prop} (kx : Ev Z (fun _ => True, m_TS_removed, 0, MC, MS) 39 [.ref la, zI pos, .ref na, zI n] [] (zset h na (za 3 n (zfil n (fun i : Nat => if (i : Int) < pos then lf i else lf (i + 1))))) mc ms Q) : ∀ (m : Nat) (k : Int), 0 ≤ k → k + m = (n : Nat) → Ev Z (fun _ => True, m_TS_removed, 0, MC, MS) 10 [.ref la, zI pos, .ref na, zI k] [] (zset h na (za 3 n (zfil k.toNat (fun i : Nat => if (i : Int) < pos then lf i else lf (i + 1))))) mc ms Q := by
  intro m
  induction m with
  | zero =>
    intro k hk0 hkn
    refine zz_iload_n rfl rfl ?_
    refine zz_aload_n rfl rfl ?_
    refine zz_alenA rfl (Or.inl ⟨rfl, rfl⟩) (zset_same _ _ _) ?_
    refine zz_icmp_ge rfl (by omega) (by omega) (fun hb13 => ?_) (fun hb13 => absurd hb13 (by omega))
    obtain rfl : k = ((n : Nat) : Int) := by omega
    exact kx
  | succ m ih =>
    intro k hk0 hkn
    refine zz_iload_n rfl rfl ?_
    refine zz_aload_n rfl rfl ?_
    refine zz_alenA rfl (Or.inl ⟨rfl, rfl⟩) (zset_same _ _ _) ?_
    refine zz_icmp_ge rfl (by omega) (by omega) (fun hb13 => absurd hb13 (by omega)) (fun hb13 => ?_)
    refine zz_aload_n rfl rfl ?_
    refine zz_iload_n rfl rfl ?_
    refine zz_aload_n rfl rfl ?_
    refine zz_iload_n rfl rfl ?_
    refine zz_iload_n rfl rfl ?_
    refine zz_icmp_ge rfl (by omega) (by omega) (fun hb21 => ?_) (fun hb21 => ?_)
    · skip
      refine zz_iload_n rfl rfl ?_
      refine zz_iconst rfl ?_
      refine zz_iadd rfl ?_
      refine zz_aald rfl (Or.inl ⟨rfl, rfl⟩) (zget hna hl.1) (by omega) (by omega) ?_
      obtain ⟨b0, f0, hb0, hg0⟩ := hl.2 (k + 1).toNat (by omega)
      refine zz_tv hb0 ?_
      refine zz_aast rfl (Or.inl ⟨rfl, rfl⟩) rfl (zset_same _ _ _) (zget hna hg0) (by omega) (by omega) ?_
      have hz9 : Value.ref b0 = (fun i : Nat => if (i : Int) < pos then lf i else lf (i + 1)) k.toNat := by
        show _ = if ((k.toNat : Nat) : Int) < pos then _ else _
        rw [if_neg (by omega)]
        rw [← hb0]
        congr 1
        omega
      refine zz_iinc rfl rfl rfl rfl ?_
      refine zz_goto rfl ?_
      refine Ev.heap (show _ = zset h na (za 3 n (zfil (k + 1).toNat (fun i : Nat => if (i : Int) < pos then lf i else lf (i + 1)))) from by rw [zset_set, zfil_up hk0 hz9]) ?_
      exact ih (k + 1) (by omega) (by omega)
    · skip
      refine zz_iload_n rfl rfl ?_
      refine zz_goto rfl ?_
      refine zz_aald rfl (Or.inl ⟨rfl, rfl⟩) (zget hna hl.1) (by omega) (by omega) ?_
      obtain ⟨b0, f0, hb0, hg0⟩ := hl.2 k.toNat (by omega)
      refine zz_tv hb0 ?_
      refine zz_aast rfl (Or.inl ⟨rfl, rfl⟩) rfl (zset_same _ _ _) (zget hna hg0) (by omega) (by omega) ?_
      have hz9 : Value.ref b0 = (fun i : Nat => if (i : Int) < pos then lf i else lf (i + 1)) k.toNat := by
        show _ = if ((k.toNat : Nat) : Int) < pos then _ else _
        rw [if_pos (by omega)]
        rw [← hb0]
      refine zz_iinc rfl rfl rfl rfl ?_
      refine zz_goto rfl ?_
      refine Ev.heap (show _ = zset h na (za 3 n (zfil (k + 1).toNat (fun i : Nat => if (i : Int) < pos then lf i else lf (i + 1)))) from by rw [zset_set, zfil_up hk0 hz9]) ?_
      exact ih (k + 1) (by omega) (by omega)
theorem ct_removed {la n : Nat} {pos : Int} {lf : Nat → Value} (hl : isLa h la (n + 1) lf) (hn : n ≤ 3) (hpos : zrg pos) : Ct Z m_TS_removed 0 1 3 [.ref la, zI pos] h (fun r h' => ∃ na, h na = none ∧ r = .inl (some (.ref na)) ∧ h' = zset h na (za 3 n (zfil n (fun i : Nat => if (i : Int) < pos then lf i else lf (i + 1))))) := by
  refine zct rfl (by decide) ok_TS_removed rfl rfl ?_
  refine zz_aload_n rfl rfl ?_
  refine zz_alenA rfl (Or.inl ⟨rfl, rfl⟩) hl.1 ?_
  refine zz_iconst rfl ?_
  refine zz_isub rfl ?_
  refine zz_eq (show ((n + 1 : Nat) : Int) - 1 = (n : Int) from by omega) ?_
  refine zz_newq 3 rfl (Or.inl ⟨rfl, rfl⟩) cl_TS_33 (by omega) (fun na hna => ?_)
  rw [Int.toNat_natCast, zfil_0 (fun i : Nat => if (i : Int) < pos then lf i else lf (i + 1))]
  refine zz_astore_n rfl rfl rfl ?_
  refine zz_iconst rfl ?_
  refine zz_istore_n rfl rfl rfl ?_
  refine lp_removed hl hn hpos hna ?_ n 0 (by omega) (by omega)
  refine zz_aload_n rfl rfl ?_
  refine zz_aret rfl rfl (Or.inr ⟨_, rfl⟩) (Or.inr ⟨_, rfl⟩) ⟨na, hna, rfl, rfl⟩
theorem lp_inserted {la na ad n : Nat} {pos : Int} {lf : Nat → Value} {cf : List Value} (hl : isLa h la n lf) (hn : n ≤ 3) (hpos : 0 ≤ pos ∧ pos ≤ n) (hna : h na = none) (hc : h ad = some (zo 3 cf)) {MC MS mc ms : Nat} {Q : ZR → ZH → Prop} (kx : Ev Z (fun _ => True, m_TS_inserted, 0, MC, MS) 61 [.ref la, zI pos, .ref ad, .ref na, zI ((n + 1 : Nat) : Int)] [] (zset h na (za 3 (n + 1) (zfil (n + 1) (fun i : Nat => if (i : Int) < pos then lf i else if (i : Int) = pos then .ref ad else lf (i - 1))))) mc ms Q) : ∀ (m : Nat) (k : Int), 0 ≤ k → k + m = ((n + 1) : Nat) → Ev Z (fun _ => True, m_TS_inserted, 0, MC, MS) 11 [.ref la, zI pos, .ref ad, .ref na, zI k] [] (zset h na (za 3 (n + 1) (zfil k.toNat (fun i : Nat => if (i : Int) < pos then lf i else if (i : Int) = pos then .ref ad else lf (i - 1))))) mc ms Q := by
  intro m
  induction m with
  | zero =>
    intro k hk0 hkn
    refine zz_iload rfl rfl ?_
    refine zz_aload_n rfl rfl ?_
    refine zz_alenA rfl (Or.inl ⟨rfl, rfl⟩) (zset_same _ _ _) ?_
    refine zz_icmp_ge rfl (by omega) (by omega) (fun hb15 => ?_) (fun hb15 => absurd hb15 (by omega))
    obtain rfl : k = (((n + 1) : Nat) : Int) := by omega
    exact kx
  | succ m ih =>
    intro k hk0 hkn
    refine zz_iload rfl rfl ?_
    refine zz_aload_n rfl rfl ?_
    refine zz_alenA rfl (Or.inl ⟨rfl, rfl⟩) (zset_same _ _ _) ?_
    refine zz_icmp_ge rfl (by omega) (by omega) (fun hb15 => absurd hb15 (by omega)) (fun hb15 => ?_)
    refine zz_iload rfl rfl ?_
    refine zz_iload_n rfl rfl ?_
    refine zz_icmp_ge rfl (by omega) (by omega) (fun hb21 => ?_) (fun hb21 => ?_)
    · skip
      refine zz_aload_n rfl rfl ?_
      refine zz_iload rfl rfl ?_
      refine zz_iload rfl rfl ?_
      refine zz_iload_n rfl rfl ?_
      refine zz_icmp_ne rfl (by omega) (by omega) (fun hb41 => ?_) (fun hb41 => ?_)
      · skip
        refine zz_aload_n rfl rfl ?_
        refine zz_iload rfl rfl ?_
        refine zz_iconst rfl ?_
        refine zz_isub rfl ?_
        refine zz_aald rfl (Or.inl ⟨rfl, rfl⟩) (zget hna hl.1) (by omega) (by omega) ?_
        obtain ⟨b0, f0, hb0, hg0⟩ := hl.2 (k - 1).toNat (by omega)
        refine zz_tv hb0 ?_
        refine zz_aast rfl (Or.inl ⟨rfl, rfl⟩) rfl (zset_same _ _ _) (zget hna hg0) (by omega) (by omega) ?_
        have hz9 : Value.ref b0 = (fun i : Nat => if (i : Int) < pos then lf i else if (i : Int) = pos then .ref ad else lf (i - 1)) k.toNat := by
          show _ = if ((k.toNat : Nat) : Int) < pos then _ else if ((k.toNat : Nat) : Int) = pos then _ else _
          rw [if_neg (by omega), if_neg (by omega), ← hb0]
          congr 1
          omega
        refine zz_iinc rfl rfl rfl rfl ?_
        refine zz_goto rfl ?_
        refine Ev.heap (show _ = zset h na (za 3 (n + 1) (zfil (k + 1).toNat (fun i : Nat => if (i : Int) < pos then lf i else if (i : Int) = pos then .ref ad else lf (i - 1)))) from by rw [zset_set, zfil_up hk0 hz9]) ?_
        exact ih (k + 1) (by omega) (by omega)
      · skip
        refine zz_aload_n rfl rfl ?_
        refine zz_goto rfl ?_
        refine zz_aast rfl (Or.inl ⟨rfl, rfl⟩) rfl (zset_same _ _ _) (zget hna hc) (by omega) (by omega) ?_
        have hz9 : Value.ref ad = (fun i : Nat => if (i : Int) < pos then lf i else if (i : Int) = pos then .ref ad else lf (i - 1)) k.toNat := by
          show _ = if ((k.toNat : Nat) : Int) < pos then _ else if ((k.toNat : Nat) : Int) = pos then _ else _
          rw [if_neg (by omega), if_pos (by omega)]
        refine zz_iinc rfl rfl rfl rfl ?_
        refine zz_goto rfl ?_
        refine Ev.heap (show _ = zset h na (za 3 (n + 1) (zfil (k + 1).toNat (fun i : Nat => if (i : Int) < pos then lf i else if (i : Int) = pos then .ref ad else lf (i - 1)))) from by rw [zset_set, zfil_up hk0 hz9]) ?_
        exact ih (k + 1) (by omega) (by omega)
    · skip
      refine zz_aload_n rfl rfl ?_
      refine zz_iload rfl rfl ?_
      refine zz_aload_n rfl rfl ?_
      refine zz_iload rfl rfl ?_
      refine zz_aald rfl (Or.inl ⟨rfl, rfl⟩) (zget hna hl.1) (by omega) (by omega) ?_
      obtain ⟨b0, f0, hb0, hg0⟩ := hl.2 k.toNat (by omega)
      refine zz_tv hb0 ?_
      refine zz_aast rfl (Or.inl ⟨rfl, rfl⟩) rfl (zset_same _ _ _) (zget hna hg0) (by omega) (by omega) ?_
      refine zz_goto rfl ?_
      have hz9 : Value.ref b0 = (fun i : Nat => if (i : Int) < pos then lf i else if (i : Int) = pos then .ref ad else lf (i - 1)) k.toNat := by
        show _ = if ((k.toNat : Nat) : Int) < pos then _ else _
        rw [if_pos (by omega)]
        rw [← hb0]
      refine zz_iinc rfl rfl rfl rfl ?_
      refine zz_goto rfl ?_
      refine Ev.heap (show _ = zset h na (za 3 (n + 1) (zfil (k + 1).toNat (fun i : Nat => if (i : Int) < pos then lf i else if (i : Int) = pos then .ref ad else lf (i - 1)))) from by rw [zset_set, zfil_up hk0 hz9]) ?_
      exact ih (k + 1) (by omega) (by omega)
theorem ct_inserted {la ad n : Nat} {pos : Int} {lf : Nat → Value} {cf : List Value} (hl : isLa h la n lf) (hn : n ≤ 3) (hpos : 0 ≤ pos ∧ pos ≤ n) (hc : h ad = some (zo 3 cf)) : Ct Z m_TS_inserted 0 1 4 [.ref la, zI pos, .ref ad] h (fun r h' => ∃ na, h na = none ∧ r = .inl (some (.ref na)) ∧ h' = zset h na (za 3 (n + 1) (zfil (n + 1) (fun i : Nat => if (i : Int) < pos then lf i else if (i : Int) = pos then .ref ad else lf (i - 1))))) := by
  refine zct rfl (by decide) ok_TS_inserted rfl rfl ?_
  refine zz_aload_n rfl rfl ?_
  refine zz_alenA rfl (Or.inl ⟨rfl, rfl⟩) hl.1 ?_
  refine zz_iconst rfl ?_
  refine zz_iadd rfl ?_
  refine zz_eq (show (n : Int) + 1 = ((n + 1 : Nat) : Int) from by omega) ?_
  refine zz_newq 4 rfl (Or.inl ⟨rfl, rfl⟩) cl_TS_33 (by omega) (fun na hna => ?_)
  rw [Int.toNat_natCast, zfil_0 (fun i : Nat => if (i : Int) < pos then lf i else if (i : Int) = pos then .ref ad else lf (i - 1))]
  refine zz_astore_n rfl rfl rfl ?_
  refine zz_iconst rfl ?_
  refine zz_istore rfl rfl rfl ?_
  refine lp_inserted hl hn hpos hna hc ?_ (n + 1) 0 (by omega) (by omega)
  refine zz_aload_n rfl rfl ?_
  refine zz_aret rfl rfl (Or.inr ⟨_, rfl⟩) (Or.inr ⟨_, rfl⟩) ⟨na, hna, rfl, rfl⟩
end HI
end
section
/-! ===== dots put one by one ===== -/
theorem znb (P : Prop) [Decidable P] : narrow .boolean (zI (zb P)) = zI (zb P) := by unfold zb; split <;> rfl
theorem zfb (P : Prop) [Decidable P] : zb P = 0 ∨ zb P = 1 := by unfold zb; split; exact Or.inr rfl; exact Or.inl rfl
def zpt (f : Nat → Int) (w : Nat) (R : Nat → Nat) (g : Nat → Nat → Int) (k : Nat) : Nat → Int := fun i => if i < k ∧ (R (i / w) : Int) / 2 ^ (i % w) % 2 ≠ 0 then g (i % w) (i / w) else f i
theorem zpt_0 (f : Nat → Int) (w : Nat) (R : Nat → Nat) (g : Nat → Nat → Int) : zpt f w R g 0 = f := by funext i; simp [zpt]
theorem zxy {w x y : Nat} (hx : x < w) : (y * w + x) / w = y ∧ (y * w + x) % w = x := by
  have hw : 0 < w := by omega
  constructor
  · rw [Nat.add_comm, Nat.add_mul_div_right _ _ hw, Nat.div_eq_of_lt hx, Nat.zero_add]
  · rw [Nat.add_comm, Nat.add_mul_mod_self_right, Nat.mod_eq_of_lt hx]
section ZPT
variable {f : Nat → Int} {w ht : Nat} {R : Nat → Nat} {g : Nat → Nat → Int} {x y v : Int}
theorem zkn2 (hb : zbox x y w ht) : (y * w + x).toNat = y.toNat * w + x.toNat ∧ (y * w + (x + 1)).toNat = y.toNat * w + x.toNat + 1 ∧ x.toNat < w ∧ (zhp R w ht x y ↔ (R y.toNat : Int) / 2 ^ x.toNat % 2 ≠ 0) := by
  obtain ⟨h1, h2, h3, h4⟩ := id hb
  obtain ⟨x, rfl⟩ := Int.eq_ofNat_of_zero_le h1
  obtain ⟨y, rfl⟩ := Int.eq_ofNat_of_zero_le h3
  have e1 : ((y : Int) * (w : Int) + (x : Int)) = ((y * w + x : Nat) : Int) := by simp
  have e2 : ((y : Int) * (w : Int) + ((x : Int) + 1)) = ((y * w + x + 1 : Nat) : Int) := by simp; omega
  refine ⟨by rw [e1]; rfl, by rw [e2]; rfl, by omega, ?_⟩
  have e3 : zrw R ht (y : Int) = R (y : Int).toNat := by unfold zrw; rw [if_pos ⟨h3, h4⟩]
  unfold zhp
  rw [e3]
  exact ⟨fun h => h.2.2, fun h => ⟨h1, h2, h⟩⟩
theorem zpt_t (hb : zbox x y w ht) (hs : zhp R w ht x y) (hv : v = g x.toNat y.toNat) : zup (zpt f w R g (y * w + x).toNat) (y * w + x).toNat v = zpt f w R g (y * w + (x + 1)).toNat := by
  obtain ⟨e1, e2, e3, e4⟩ := zkn2 (R := R) hb
  rw [e1, e2]
  obtain ⟨d1, d2⟩ := zxy (y := y.toNat) e3
  subst hv
  funext i
  unfold zup zpt
  by_cases hi : i = y.toNat * w + x.toNat
  · rw [if_pos hi, if_pos]
    · rw [hi, d1, d2]
    · rw [hi, d1, d2]
      exact ⟨by omega, e4.mp hs⟩
  · rw [if_neg hi]
    by_cases h2 : i < y.toNat * w + x.toNat
    · have h3 : i < y.toNat * w + x.toNat + 1 := by omega
      simp only [h2, h3]
    · have h3 : ¬ i < y.toNat * w + x.toNat + 1 := by omega
      simp only [h2, h3, false_and, if_false]
theorem zpt_f (hb : zbox x y w ht) (hs : ¬ zhp R w ht x y) : zpt f w R g (y * w + x).toNat = zpt f w R g (y * w + (x + 1)).toNat := by
  obtain ⟨e1, e2, e3, e4⟩ := zkn2 (R := R) hb
  rw [e1, e2]
  obtain ⟨d1, d2⟩ := zxy (y := y.toNat) e3
  funext i
  unfold zpt
  by_cases hi : i = y.toNat * w + x.toNat
  · subst hi
    rw [if_neg (by omega), if_neg]
    rw [d1, d2]
    exact fun h => hs (e4.mpr h.2)
  · by_cases h2 : i < y.toNat * w + x.toNat
    · have h3 : i < y.toNat * w + x.toNat + 1 := by omega
      simp only [h2, h3]
    · have h3 : ¬ i < y.toNat * w + x.toNat + 1 := by omega
      simp only [h2, h3, false_and, if_false]
theorem zpt_s (hb : zbox x y w ht) (hg : g x.toNat y.toNat = f (y * w + x).toNat) : zpt f w R g (y * w + x).toNat = zpt f w R g (y * w + (x + 1)).toNat := by
  obtain ⟨e1, e2, e3, e4⟩ := zkn2 (R := R) hb
  rw [e1] at hg ⊢
  rw [e2]
  obtain ⟨d1, d2⟩ := zxy (y := y.toNat) e3
  funext i
  unfold zpt
  by_cases hi : i = y.toNat * w + x.toNat
  · subst hi
    rw [if_neg (by omega), d1, d2]
    split
    · exact hg.symm
    · rfl
  · by_cases h2 : i < y.toNat * w + x.toNat
    · have h3 : i < y.toNat * w + x.toNat + 1 := by omega
      simp only [h2, h3]
    · have h3 : ¬ i < y.toNat * w + x.toNat + 1 := by omega
      simp only [h2, h3, false_and, if_false]
theorem zput_eq {h0 : ZH} {af : Nat} (hb : zbox x y w ht) (hv : v = g x.toNat y.toNat) : (if zhp R w ht x y then zset (zset h0 af (zi 0 (w * ht) (zpt f w R g (y * w + x).toNat))) af (zi 0 (w * ht) (zup (zpt f w R g (y * w + x).toNat) (y * w + x).toNat v)) else zset h0 af (zi 0 (w * ht) (zpt f w R g (y * w + x).toNat))) = zset h0 af (zi 0 (w * ht) (zpt f w R g (y * w + (x + 1)).toNat)) := by
  split
  · next hs => rw [zset_set, zpt_t hb hs hv]
  · next hs => rw [zpt_f hb hs]
theorem zrow_end {h0 : ZH} {af : Nat} (y : Int) : zset h0 af (zi 0 (w * ht) (zpt f w R g (y * w + w).toNat)) = zset h0 af (zi 0 (w * ht) (zpt f w R g ((y + 1) * w + 0).toNat)) := by
  congr 4
  rw [Int.add_mul]
  omega
end ZPT
theorem ck_clone : Cond.methodLink "TileStudio$Painting" 33 ⟨"[I", "clone", "()Ljava/lang/Object;"⟩ ∈ zG ∧ Cond.sameMethod "[I" "java/lang/Object" "clone" "()Ljava/lang/Object;" ∈ zG ∧ Cond.native ⟨"java/lang/Object", "clone", "()Ljava/lang/Object;"⟩ ∈ zG ∧ Cond.instanceMethod ⟨"java/lang/Object", "clone", "()Ljava/lang/Object;"⟩ ∈ zG ∧ Cond.selects "[I" ⟨"[I", "clone", "()Ljava/lang/Object;"⟩ ⟨"java/lang/Object", "clone", "()Ljava/lang/Object;"⟩ ∈ zG ∧ ("[I", "java/lang/Cloneable") ∈ zcasts :=
  ⟨zG_T 424 (by decide +kernel) (by decide +kernel), zG_T 425 (by decide +kernel) (by decide +kernel), zG_T 426 (by decide +kernel) (by decide +kernel), zG_T 427 (by decide +kernel) (by decide +kernel), zG_T 428 (by decide +kernel) (by decide +kernel), by decide +kernel⟩
end
section
section PT
variable {Z : ZC} {h : ZH}
theorem ct_Painting_init {p pc la sa n b da w ht : Nat} {pos : Int} {lf : Nat → Value} {f : Nat → Int} {md op vs : Int} (hp : h p = some (zo 5 [.null, zI 0, .null, .null])) (hc : h pc = some (zo 4 [zI w, zI ht, .ref la, .ref sa])) (hl : h la = some (za 3 n lf)) (hn : n ≤ 3) (hpos : 0 ≤ pos ∧ pos < n) (hb : lf pos.toNat = .ref b) (hy : isLy h b da w ht f md op vs) (hw : w ≤ 24) (hh : ht ≤ 24) : Ct Z m_Painting_init 0 1 576 [.ref p, .ref pc, zI pos] h (fun r h' => r = .inl none ∧ ∃ af, h af = none ∧ h' = zset (zset h af (zi 0 (w * ht) f)) p (zo 5 [.ref pc, zI pos, .ref b, .ref af])) := by
  refine zct rfl (by decide) ok_Painting_init rfl rfl ?_
  refine zz_aload_n rfl rfl ?_
  refine zz_oinit rfl ob_Painting_1 rfl ?_
  refine zz_aload_n rfl rfl ?_
  refine zz_aload_n rfl rfl ?_
  refine zz_putf rfl fl_Painting_7 hp (pt_5_0 rfl rfl) (zblt rfl) ?_
  refine zz_aload_n rfl rfl ?_
  refine zz_iload_n rfl rfl ?_
  refine zz_putf rfl fl_Painting_13 (zset_same _ _ _) (pt_5_1 rfl rfl) (zblt rfl) ?_
  refine Ev.heap (zset_set _ _ _ _) ?_
  refine zz_aload_n rfl rfl ?_
  refine zz_aload_n rfl rfl ?_
  refine zz_getf rfl fl_Painting_17 (zoth hp hc (zkoo (by decide))) rfl ?_
  refine zz_iload_n rfl rfl ?_
  refine zz_aald rfl (Or.inl ⟨rfl, rfl⟩) (zoth hp hl zkoa) (by omega) (by omega) ?_
  refine zz_tv hb ?_
  refine zz_putf rfl fl_Painting_23 (zset_same _ _ _) (pt_5_2 rfl rfl) (zblt rfl) ?_
  refine Ev.heap (zset_set _ _ _ _) ?_
  refine zz_aload_n rfl rfl ?_
  refine zz_aload_n rfl rfl ?_
  refine zz_getf rfl fl_Painting_23 (zset_same _ _ _) rfl ?_
  refine zz_getf rfl fl_Painting_27 (zoth hp hy.1 (zkoo (by decide))) rfl ?_
  refine zz_clone 0 576 rfl ck_clone rfl (zoth hp hy.2 zkoi) (Nat.mul_le_mul hw hh) (fun af haf => ?_)
  refine zz_castA rfl cl_Painting_34 (zset_same _ _ _) ?_
  refine zz_putf rfl fl_Painting_38 (zget haf (zset_same _ _ _)) (pt_5_3 rfl rfl) (zblt rfl) ?_
  refine zz_vret rfl rfl ⟨rfl, af, (zset_none haf).1, by rw [zset_mid h _ _ _ (zset_none haf).2.symm]; rfl⟩
theorem ct_Pw {p pc la sa ra bf da af w ht : Nat} {pos : Int} {R : Nat → Nat} {f g : Nat → Int} {md op vs : Int} (hp : isPt h p pc la sa ra bf da af w ht pos R f g md op vs) : Ct Z m_Painting_width 0 0 0 [.ref p] h (zP (zI w) h) := by
  refine zct rfl (by decide) ok_Painting_width rfl rfl ?_
  refine zz_aload_n rfl rfl ?_
  refine zz_getf rfl fl_Painting_7 hp.1 rfl ?_
  refine zz_getf rfl fl_Painting_41 hp.2.1 rfl ?_
  refine zz_iret rfl rfl ⟨rfl, rfl⟩
theorem ct_Ph {p pc la sa ra bf da af w ht : Nat} {pos : Int} {R : Nat → Nat} {f g : Nat → Int} {md op vs : Int} (hp : isPt h p pc la sa ra bf da af w ht pos R f g md op vs) : Ct Z m_Painting_height 0 0 0 [.ref p] h (zP (zI ht) h) := by
  refine zct rfl (by decide) ok_Painting_height rfl rfl ?_
  refine zz_aload_n rfl rfl ?_
  refine zz_getf rfl fl_Painting_7 hp.1 rfl ?_
  refine zz_getf rfl fl_Painting_44 hp.2.1 rfl ?_
  refine zz_iret rfl rfl ⟨rfl, rfl⟩
theorem ct_takes {p pc la sa ra bf da af w ht : Nat} {pos : Int} {R : Nat → Nat} {f g : Nat → Int} {md op vs : Int} (hp : isPt h p pc la sa ra bf da af w ht pos R f g md op vs) (hh : ht ≤ 24) (hw : w ≤ 24) (hR : ∀ j, R j < 16777216) {x y : Int} (hx : zrg x) (hy : zrg y) : Ct Z m_Painting_takes 2 0 0 [.ref p, zI x, zI y] h (zP (zI (zb (zhp R w ht x y))) h) := by
  refine zct rfl (by decide) ok_Painting_takes rfl rfl ?_
  refine zz_aload_n rfl rfl ?_
  refine zz_getf rfl fl_Painting_7 hp.1 rfl ?_
  refine zz_getf rfl fl_Painting_47 hp.2.1 rfl ?_
  refine zz_iload_n rfl rfl ?_
  refine zz_iload_n rfl rfl ?_
  refine zz_Vp rfl lk_Painting_51 cw_Places_has rfl hp.2.2.1.1 (ct_has hp.2.2.1 hx hy hh hw hR) rfl rfl rfl rfl ?_
  refine zz_zret rfl rfl (znb _) ⟨rfl, rfl⟩
theorem ct_put {p pc la sa ra bf da af w ht : Nat} {pos : Int} {R : Nat → Nat} {f g : Nat → Int} {md op vs : Int} (hp : isPt h p pc la sa ra bf da af w ht pos R f g md op vs) (hh : ht ≤ 24) (hw : w ≤ 24) (hR : ∀ j, R j < 16777216) {x y d : Int} (hb : zbox x y w ht) : Ct Z m_Painting_put 3 0 0 [.ref p, zI x, zI y, zI d] h (zV (if zhp R w ht x y then zset h af (zi 0 (w * ht) (zup g (y * w + x).toNat d)) else h)) := by
  obtain ⟨hb1, hb2, hb3, hb4⟩ := id hb
  refine zct rfl (by decide) ok_Painting_put rfl rfl ?_
  refine zz_aload_n rfl rfl ?_
  refine zz_iload_n rfl rfl ?_
  refine zz_iload_n rfl rfl ?_
  refine zz_Vp rfl lk_Painting_57 cw_Painting_takes rfl hp.1 (ct_takes hp hh hw hR ⟨by omega, by omega⟩ ⟨by omega, by omega⟩) rfl rfl rfl rfl ?_
  refine zz_ifB_eq rfl (fun hb6 => ?_) (fun hb6 => ?_)
  · skip
    refine zz_vret rfl rfl ⟨rfl, by rw [if_neg hb6]⟩
  · skip
    refine zz_aload_n rfl rfl ?_
    refine zz_getf rfl fl_Painting_38 hp.1 rfl ?_
    refine zz_iload_n rfl rfl ?_
    refine zz_aload_n rfl rfl ?_
    refine zz_getf rfl fl_Painting_23 hp.1 rfl ?_
    refine zz_getf rfl fl_Painting_60 hp.2.2.2.1.1 rfl ?_
    refine zz_imul rfl ?_
    refine zz_iload_n rfl rfl ?_
    refine zz_iadd rfl ?_
    refine zz_iload_n rfl rfl ?_
    refine zz_iast rfl hp.2.2.2.2.1 (by have := Nat.mul_le_mul hw hh; omega) (zidx hb) ?_
    refine zz_vret rfl rfl ⟨rfl, by rw [if_pos hb6]⟩
theorem ct_result {p pc la sa ra bf da af w ht : Nat} {pos : Int} {R : Nat → Nat} {f g : Nat → Int} {md op vs : Int} (hp : isPt h p pc la sa ra bf da af w ht pos R f g md op vs) {n : Nat} {lf : Nat → Value} (hl : isLa h la n lf) (hn : n ≤ 3) (hpos : zrg pos) (hv : vs = 0 ∨ vs = 1) : Ct Z m_Painting_result 3 3 13 [.ref p] h (fun r h' => ∃ b1 na b2, h b1 = none ∧ h na = none ∧ h b2 = none ∧ na ≠ b1 ∧ b2 ≠ b1 ∧ b2 ≠ na ∧ r = .inl (some (.ref b2)) ∧ h' = zset (zset (zset h b1 (zo 3 [zI w, zI ht, .ref af, zI md, zI op, zI vs])) na (za 3 n (zfil n (fun i => if (i : Int) = pos then .ref b1 else lf i)))) b2 (zo 4 [zI w, zI ht, .ref na, .ref sa])) := by
  refine zct rfl (by decide) ok_Painting_result rfl rfl ?_
  refine zz_aload_n rfl rfl ?_
  refine zz_getf rfl fl_Painting_7 hp.1 rfl ?_
  refine zz_aload_n rfl rfl ?_
  refine zz_getf rfl fl_Painting_13 hp.1 rfl ?_
  refine zz_aload_n rfl rfl ?_
  refine zz_getf rfl fl_Painting_23 hp.1 rfl ?_
  refine zz_aload_n rfl rfl ?_
  refine zz_getf rfl fl_Painting_38 hp.1 rfl ?_
  refine zz_V rfl lk_Painting_61 cw_Layer_withDots rfl hp.2.2.2.1.1 (ct_withDots hp.2.2.2.1 hv) rfl rfl rfl rfl ?_
  rintro _ _ ⟨b1, hb1, rfl, rfl⟩
  refine zaft_v ?_
  refine zz_V rfl lk_Painting_65 cw_Picture_withLayer rfl (zget hb1 hp.2.1) (ct_withLayer (zget hb1 hp.2.1) ⟨zget hb1 hl.1, fun i hi => by obtain ⟨b, fs, e1, e2⟩ := hl.2 i hi; exact ⟨b, fs, e1, zget hb1 e2⟩⟩ hn (zset_same _ _ _) hpos) rfl rfl rfl rfl ?_
  rintro _ _ ⟨na, b2, h1, h2, h3, rfl, rfl⟩
  obtain ⟨h4, h5⟩ := zset_none h1
  obtain ⟨h6, h7⟩ := zset_none h2
  refine zaft_v ?_
  refine zz_aret rfl rfl (Or.inl ⟨_, rfl⟩) (Or.inr ⟨_, rfl⟩) ⟨b1, na, b2, hb1, h4, h6, h5, h7, h3, rfl, rfl⟩
theorem ct_Copied_init {a ly pl : Nat} (ha : h a = some (zo 6 [.null, .null])) : Ct Z m_Copied_init 0 0 0 [.ref a, .ref ly, .ref pl] h (zV (zset h a (zo 6 [.ref ly, .ref pl]))) := by
  refine zct rfl (by decide) ok_Copied_init rfl rfl ?_
  refine zz_aload_n rfl rfl ?_
  refine zz_oinit rfl ob_Copied_1 rfl ?_
  refine zz_aload_n rfl rfl ?_
  refine zz_aload_n rfl rfl ?_
  refine zz_putf rfl fl_Copied_7 ha (pt_6_0 rfl rfl) (zblt rfl) ?_
  refine zz_aload_n rfl rfl ?_
  refine zz_aload_n rfl rfl ?_
  refine zz_putf rfl fl_Copied_13 (zset_same _ _ _) (pt_6_1 rfl rfl) (zblt rfl) ?_
  refine zz_vret rfl rfl ⟨rfl, by rw [zset_set]; rfl⟩
end PT
end
section
section TL
variable {Z : ZC} {h : ZH}
theorem zstart {af w ht : Nat} {f : Nat → Int} (R : Nat → Nat) (G : Nat → Nat → Int) (haf : h af = some (zi 0 (w * ht) f)) : h = zset h af (zi 0 (w * ht) (zpt f w R G ((0 : Int) * w + 0).toNat)) := by
  have e : ((0 : Int) * w + 0).toNat = 0 := by omega
  rw [e, zpt_0, zset_id haf]
theorem tl_fill_i {p pc la sa ra bf da af w ht : Nat} {pos : Int} {R : Nat → Nat} {f : Nat → Int} {md op vs : Int} (hp : isPt h p pc la sa ra bf da af w ht pos R f f md op vs) (hh : ht ≤ 24) (hw : w ≤ 24) (hR : ∀ j, R j < 16777216) {x0 : Nat} {l d : Int} {MC MS mc ms : Nat} {Q : ZR → ZH → Prop} {y : Int} (hy : 0 ≤ y ∧ y < ht) (kx : Ev Z (fun _ => True, m_TS_fill, 4, MC, MS) 45 [.ref x0, zI l, zI d, .ref p, zI y, zI w] [] (zset h af (zi 0 (w * ht) (zpt f w R (fun _ _ => d) (y * w + w).toNat))) mc ms Q) : ∀ (m : Nat) (x : Int), 0 ≤ x → x + m = w → Ev Z (fun _ => True, m_TS_fill, 4, MC, MS) 21 [.ref x0, zI l, zI d, .ref p, zI y, zI x] [] (zset h af (zi 0 (w * ht) (zpt f w R (fun _ _ => d) (y * w + x).toNat))) mc ms Q := by
  intro m
  induction m with
  | zero =>
    intro x hx0 hxn
    refine zz_iload rfl rfl ?_
    refine zz_aload_n rfl rfl ?_
    refine zz_Vp rfl lk_TS_127 cw_Painting_width rfl (hp.up _).1 (ct_Pw (hp.up _)) rfl rfl rfl rfl ?_
    refine zz_icmp_ge rfl (by omega) (by omega) (fun hb27 => ?_) (fun hb27 => absurd hb27 (by omega))
    obtain rfl : x = (w : Int) := by omega
    exact kx
  | succ m ih =>
    intro x hx0 hxn
    refine zz_iload rfl rfl ?_
    refine zz_aload_n rfl rfl ?_
    refine zz_Vp rfl lk_TS_127 cw_Painting_width rfl (hp.up _).1 (ct_Pw (hp.up _)) rfl rfl rfl rfl ?_
    refine zz_icmp_ge rfl (by omega) (by omega) (fun hb27 => absurd hb27 (by omega)) (fun hb27 => ?_)
    have hbx : zbox x y w ht := ⟨by omega, by omega, by omega, by omega⟩
    refine zz_aload_n rfl rfl ?_
    refine zz_iload rfl rfl ?_
    refine zz_iload rfl rfl ?_
    refine zz_iload_n rfl rfl ?_
    refine zz_Vu rfl lk_TS_129 cw_Painting_put rfl (hp.up _).1 (ct_put (hp.up _) hh hw hR hbx) rfl rfl rfl rfl ?_
    refine Ev.heap (zput_eq hbx rfl) ?_
    refine zz_iinc rfl rfl rfl rfl ?_
    refine zz_goto rfl ?_
    exact ih (x + 1) (by omega) (by omega)
theorem tl_fill_o {p pc la sa ra bf da af w ht : Nat} {pos : Int} {R : Nat → Nat} {f : Nat → Int} {md op vs : Int} (hp : isPt h p pc la sa ra bf da af w ht pos R f f md op vs) (hh : ht ≤ 24) (hw : w ≤ 24) (hR : ∀ j, R j < 16777216) {x0 : Nat} {l d : Int} {MC MS mc ms : Nat} {Q : ZR → ZH → Prop} (kx : Ev Z (fun _ => True, m_TS_fill, 4, MC, MS) 51 [.ref x0, zI l, zI d, .ref p, zI ht] [] (zset h af (zi 0 (w * ht) (zpt f w R (fun _ _ => d) ((ht : Int) * w + 0).toNat))) mc ms Q) : ∀ (m : Nat) (y : Int), 0 ≤ y → y + m = ht → Ev Z (fun _ => True, m_TS_fill, 4, MC, MS) 9 [.ref x0, zI l, zI d, .ref p, zI y] [] (zset h af (zi 0 (w * ht) (zpt f w R (fun _ _ => d) (y * w + 0).toNat))) mc ms Q := by
  intro m
  induction m with
  | zero =>
    intro y hy0 hyn
    refine zz_iload rfl rfl ?_
    refine zz_aload_n rfl rfl ?_
    refine zz_Vp rfl lk_TS_123 cw_Painting_height rfl (hp.up _).1 (ct_Ph (hp.up _)) rfl rfl rfl rfl ?_
    refine zz_icmp_ge rfl (by omega) (by omega) (fun hb15 => ?_) (fun hb15 => absurd hb15 (by omega))
    obtain rfl : y = (ht : Int) := by omega
    exact kx
  | succ m ih =>
    intro y hy0 hyn
    refine zz_iload rfl rfl ?_
    refine zz_aload_n rfl rfl ?_
    refine zz_Vp rfl lk_TS_123 cw_Painting_height rfl (hp.up _).1 (ct_Ph (hp.up _)) rfl rfl rfl rfl ?_
    refine zz_icmp_ge rfl (by omega) (by omega) (fun hb15 => absurd hb15 (by omega)) (fun hb15 => ?_)
    refine zz_iconst rfl ?_
    refine zz_istore rfl rfl rfl ?_
    refine tl_fill_i hp hh hw hR  ⟨hy0, by omega⟩ ?_ w 0 (by omega) (by omega)
    refine zz_iinc rfl rfl rfl rfl ?_
    refine zz_goto rfl ?_
    refine Ev.take 5 ?_
    refine Ev.heap (zrow_end y) ?_
    exact ih (y + 1) (by omega) (by omega)
theorem tl_grad_i {p pc la sa ra bf da af w ht : Nat} {pos : Int} {R : Nat → Nat} {f : Nat → Int} {md op vs : Int} (hp : isPt h p pc la sa ra bf da af w ht pos R f f md op vs) (hh : ht ≤ 24) (hw : w ≤ 24) (hR : ∀ j, R j < 16777216) {x0 : Nat} {l fi la1 ax e : Int} (hax : 0 ≤ ax ∧ ax ≤ 1) (he0 : ax = 0 → e = w - 1) (he1 : ax ≠ 0 → e = ht - 1) {MC MS mc ms : Nat} {Q : ZR → ZH → Prop} {y : Int} (hy : 0 ≤ y ∧ y < ht) (kx : Ev Z (fun _ => True, m_TS_gradient, 4, MC, MS) 99 [.ref x0, zI l, zI fi, zI la1, zI ax, .ref p, zI e, zI y, zI w] [] (zset h af (zi 0 (w * ht) (zpt f w R (fun x y => zbt fi la1 (if ax = 0 then (x : Int) else (y : Int)) e) (y * w + w).toNat))) mc ms Q) : ∀ (m : Nat) (x : Int), 0 ≤ x → x + m = w → Ev Z (fun _ => True, m_TS_gradient, 4, MC, MS) 55 [.ref x0, zI l, zI fi, zI la1, zI ax, .ref p, zI e, zI y, zI x] [] (zset h af (zi 0 (w * ht) (zpt f w R (fun x y => zbt fi la1 (if ax = 0 then (x : Int) else (y : Int)) e) (y * w + x).toNat))) mc ms Q := by
  intro m
  induction m with
  | zero =>
    intro x hx0 hxn
    refine zz_iload rfl rfl ?_
    refine zz_aload rfl rfl ?_
    refine zz_Vp rfl lk_TS_127 cw_Painting_width rfl (hp.up _).1 (ct_Pw (hp.up _)) rfl rfl rfl rfl ?_
    refine zz_icmp_ge rfl (by omega) (by omega) (fun hb62 => ?_) (fun hb62 => absurd hb62 (by omega))
    obtain rfl : x = (w : Int) := by omega
    exact kx
  | succ m ih =>
    intro x hx0 hxn
    refine zz_iload rfl rfl ?_
    refine zz_aload rfl rfl ?_
    refine zz_Vp rfl lk_TS_127 cw_Painting_width rfl (hp.up _).1 (ct_Pw (hp.up _)) rfl rfl rfl rfl ?_
    refine zz_icmp_ge rfl (by omega) (by omega) (fun hb62 => absurd hb62 (by omega)) (fun hb62 => ?_)
    have hbx : zbox x y w ht := ⟨by omega, by omega, by omega, by omega⟩
    refine zz_aload rfl rfl ?_
    refine zz_iload rfl rfl ?_
    refine zz_iload rfl rfl ?_
    refine zz_iload_n rfl rfl ?_
    refine zz_iload_n rfl rfl ?_
    refine zz_iload rfl rfl ?_
    refine zz_if_ne rfl (by omega) (fun hb75 => ?_) (fun hb75 => ?_)
    · skip
      refine zz_iload rfl rfl ?_
      refine zz_iload rfl rfl ?_
      refine zz_Sp rfl lk_TS_136 cw_Dots_between (ct_between ⟨by omega, by have := he1 hb75; omega⟩ (by have := he1 hb75; omega)) rfl rfl rfl rfl ?_
      refine zz_Vu rfl lk_TS_129 cw_Painting_put rfl (hp.up _).1 (ct_put (hp.up _) hh hw hR hbx) rfl rfl rfl rfl ?_
      refine Ev.heap (zput_eq hbx (show _ = zbt fi la1 (if ax = 0 then ((x.toNat : Nat) : Int) else ((y.toNat : Nat) : Int)) e from by rw [if_neg hb75, Int.toNat_of_nonneg hbx.2.2.1])) ?_
      refine zz_iinc rfl rfl rfl rfl ?_
      refine zz_goto rfl ?_
      exact ih (x + 1) (by omega) (by omega)
    · skip
      refine zz_iload rfl rfl ?_
      refine zz_goto rfl ?_
      refine zz_iload rfl rfl ?_
      refine zz_Sp rfl lk_TS_136 cw_Dots_between (ct_between ⟨by omega, by have := he0 hb75; omega⟩ (by have := he0 hb75; omega)) rfl rfl rfl rfl ?_
      refine zz_Vu rfl lk_TS_129 cw_Painting_put rfl (hp.up _).1 (ct_put (hp.up _) hh hw hR hbx) rfl rfl rfl rfl ?_
      refine Ev.heap (zput_eq hbx (show _ = zbt fi la1 (if ax = 0 then ((x.toNat : Nat) : Int) else ((y.toNat : Nat) : Int)) e from by rw [if_pos hb75, Int.toNat_of_nonneg hbx.1])) ?_
      refine zz_iinc rfl rfl rfl rfl ?_
      refine zz_goto rfl ?_
      exact ih (x + 1) (by omega) (by omega)
theorem tl_grad_o {p pc la sa ra bf da af w ht : Nat} {pos : Int} {R : Nat → Nat} {f : Nat → Int} {md op vs : Int} (hp : isPt h p pc la sa ra bf da af w ht pos R f f md op vs) (hh : ht ≤ 24) (hw : w ≤ 24) (hR : ∀ j, R j < 16777216) {x0 : Nat} {l fi la1 ax e : Int} (hax : 0 ≤ ax ∧ ax ≤ 1) (he0 : ax = 0 → e = w - 1) (he1 : ax ≠ 0 → e = ht - 1) {MC MS mc ms : Nat} {Q : ZR → ZH → Prop} (kx : Ev Z (fun _ => True, m_TS_gradient, 4, MC, MS) 105 [.ref x0, zI l, zI fi, zI la1, zI ax, .ref p, zI e, zI ht] [] (zset h af (zi 0 (w * ht) (zpt f w R (fun x y => zbt fi la1 (if ax = 0 then (x : Int) else (y : Int)) e) ((ht : Int) * w + 0).toNat))) mc ms Q) : ∀ (m : Nat) (y : Int), 0 ≤ y → y + m = ht → Ev Z (fun _ => True, m_TS_gradient, 4, MC, MS) 42 [.ref x0, zI l, zI fi, zI la1, zI ax, .ref p, zI e, zI y] [] (zset h af (zi 0 (w * ht) (zpt f w R (fun x y => zbt fi la1 (if ax = 0 then (x : Int) else (y : Int)) e) (y * w + 0).toNat))) mc ms Q := by
  intro m
  induction m with
  | zero =>
    intro y hy0 hyn
    refine zz_iload rfl rfl ?_
    refine zz_aload rfl rfl ?_
    refine zz_Vp rfl lk_TS_123 cw_Painting_height rfl (hp.up _).1 (ct_Ph (hp.up _)) rfl rfl rfl rfl ?_
    refine zz_icmp_ge rfl (by omega) (by omega) (fun hb49 => ?_) (fun hb49 => absurd hb49 (by omega))
    obtain rfl : y = (ht : Int) := by omega
    exact kx
  | succ m ih =>
    intro y hy0 hyn
    refine zz_iload rfl rfl ?_
    refine zz_aload rfl rfl ?_
    refine zz_Vp rfl lk_TS_123 cw_Painting_height rfl (hp.up _).1 (ct_Ph (hp.up _)) rfl rfl rfl rfl ?_
    refine zz_icmp_ge rfl (by omega) (by omega) (fun hb49 => absurd hb49 (by omega)) (fun hb49 => ?_)
    refine zz_iconst rfl ?_
    refine zz_istore rfl rfl rfl ?_
    refine tl_grad_i hp hh hw hR hax he0 he1 ⟨hy0, by omega⟩ ?_ w 0 (by omega) (by omega)
    refine zz_iinc rfl rfl rfl rfl ?_
    refine zz_goto rfl ?_
    refine Ev.take 8 ?_
    refine Ev.heap (zrow_end y) ?_
    exact ih (y + 1) (by omega) (by omega)
theorem tl_mirr_i {p pc la sa ra bf da af w ht : Nat} {pos : Int} {R : Nat → Nat} {f : Nat → Int} {md op vs : Int} (hp : isPt h p pc la sa ra bf da af w ht pos R f f md op vs) (hh : ht ≤ 24) (hw : w ≤ 24) (hR : ∀ j, R j < 16777216) {x0 : Nat} {l ax : Int} (hax : 0 ≤ ax ∧ ax ≤ 1) {MC MS mc ms : Nat} {Q : ZR → ZH → Prop} {y : Int} (hy : 0 ≤ y ∧ y < ht) (kx : Ev Z (fun _ => True, m_TS_mirror, 4, MC, MS) 105 [.ref x0, zI l, zI ax, .ref p, zI y, zI w] [] (zset h af (zi 0 (w * ht) (zpt f w R (fun x y => zldt f w ht (if ax = 0 then (w : Int) - 1 - (x : Int) else (x : Int)) (if ax = 1 then (ht : Int) - 1 - (y : Int) else (y : Int))) (y * w + w).toNat))) mc ms Q) : ∀ (m : Nat) (x : Int), 0 ≤ x → x + m = w → Ev Z (fun _ => True, m_TS_mirror, 4, MC, MS) 30 [.ref x0, zI l, zI ax, .ref p, zI y, zI x] [] (zset h af (zi 0 (w * ht) (zpt f w R (fun x y => zldt f w ht (if ax = 0 then (w : Int) - 1 - (x : Int) else (x : Int)) (if ax = 1 then (ht : Int) - 1 - (y : Int) else (y : Int))) (y * w + x).toNat))) mc ms Q := by
  intro m
  induction m with
  | zero =>
    intro x hx0 hxn
    refine zz_iload rfl rfl ?_
    refine zz_aload_n rfl rfl ?_
    refine zz_Vp rfl lk_TS_127 cw_Painting_width rfl (hp.up _).1 (ct_Pw (hp.up _)) rfl rfl rfl rfl ?_
    refine zz_icmp_ge rfl (by omega) (by omega) (fun hb36 => ?_) (fun hb36 => absurd hb36 (by omega))
    obtain rfl : x = (w : Int) := by omega
    exact kx
  | succ m ih =>
    intro x hx0 hxn
    refine zz_iload rfl rfl ?_
    refine zz_aload_n rfl rfl ?_
    refine zz_Vp rfl lk_TS_127 cw_Painting_width rfl (hp.up _).1 (ct_Pw (hp.up _)) rfl rfl rfl rfl ?_
    refine zz_icmp_ge rfl (by omega) (by omega) (fun hb36 => absurd hb36 (by omega)) (fun hb36 => ?_)
    have hbx : zbox x y w ht := ⟨by omega, by omega, by omega, by omega⟩
    refine zz_iload_n rfl rfl ?_
    refine zz_if_ne rfl (by omega) (fun hb40 => ?_) (fun hb40 => ?_)
    · skip
      refine zz_iload rfl rfl ?_
      refine zz_istore rfl rfl rfl ?_
      refine zz_iload_n rfl rfl ?_
      refine zz_iconst rfl ?_
      refine zz_icmp_ne rfl (by omega) (by omega) (fun hb61 => ?_) (fun hb61 => ?_)
      · skip
        refine zz_iload rfl rfl ?_
        refine zz_istore rfl rfl rfl ?_
        refine zz_aload_n rfl rfl ?_
        refine zz_iload rfl rfl ?_
        refine zz_iload rfl rfl ?_
        refine zz_aload_n rfl rfl ?_
        refine zz_getf rfl fl_TS_153 (hp.up _).1 rfl ?_
        refine zz_iload rfl rfl ?_
        refine zz_iload rfl rfl ?_
        refine zz_Vp rfl lk_TS_157 cw_Layer_dotAt rfl (hp.up _).2.2.2.1.1 (ct_dotAt (hp.up _).2.2.2.1 ⟨by omega, by omega⟩ ⟨by omega, by omega⟩ hh hw) rfl rfl rfl rfl ?_
        refine zz_Vu rfl lk_TS_129 cw_Painting_put rfl (hp.up _).1 (ct_put (hp.up _) hh hw hR hbx) rfl rfl rfl rfl ?_
        refine Ev.heap (zput_eq hbx (show _ = zldt f w ht (if ax = 0 then (w : Int) - 1 - ((x.toNat : Nat) : Int) else ((x.toNat : Nat) : Int)) (if ax = 1 then (ht : Int) - 1 - ((y.toNat : Nat) : Int) else ((y.toNat : Nat) : Int)) from by rw [if_neg hb40, if_neg hb61, Int.toNat_of_nonneg hbx.1, Int.toNat_of_nonneg hbx.2.2.1])) ?_
        refine zz_iinc rfl rfl rfl rfl ?_
        refine zz_goto rfl ?_
        refine Ev.take 6 ?_
        exact ih (x + 1) (by omega) (by omega)
      · skip
        refine zz_aload_n rfl rfl ?_
        refine zz_Vp rfl lk_TS_123 cw_Painting_height rfl (hp.up _).1 (ct_Ph (hp.up _)) rfl rfl rfl rfl ?_
        refine zz_iconst rfl ?_
        refine zz_isub rfl ?_
        refine zz_iload rfl rfl ?_
        refine zz_isub rfl ?_
        refine zz_goto rfl ?_
        refine zz_istore rfl rfl rfl ?_
        refine zz_aload_n rfl rfl ?_
        refine zz_iload rfl rfl ?_
        refine zz_iload rfl rfl ?_
        refine zz_aload_n rfl rfl ?_
        refine zz_getf rfl fl_TS_153 (hp.up _).1 rfl ?_
        refine zz_iload rfl rfl ?_
        refine zz_iload rfl rfl ?_
        refine zz_Vp rfl lk_TS_157 cw_Layer_dotAt rfl (hp.up _).2.2.2.1.1 (ct_dotAt (hp.up _).2.2.2.1 ⟨by omega, by omega⟩ ⟨by omega, by omega⟩ hh hw) rfl rfl rfl rfl ?_
        refine zz_Vu rfl lk_TS_129 cw_Painting_put rfl (hp.up _).1 (ct_put (hp.up _) hh hw hR hbx) rfl rfl rfl rfl ?_
        refine Ev.heap (zput_eq hbx (show _ = zldt f w ht (if ax = 0 then (w : Int) - 1 - ((x.toNat : Nat) : Int) else ((x.toNat : Nat) : Int)) (if ax = 1 then (ht : Int) - 1 - ((y.toNat : Nat) : Int) else ((y.toNat : Nat) : Int)) from by rw [if_neg hb40, if_pos hb61, Int.toNat_of_nonneg hbx.1, Int.toNat_of_nonneg hbx.2.2.1])) ?_
        refine zz_iinc rfl rfl rfl rfl ?_
        refine zz_goto rfl ?_
        refine Ev.take 6 ?_
        exact ih (x + 1) (by omega) (by omega)
    · skip
      refine zz_aload_n rfl rfl ?_
      refine zz_Vp rfl lk_TS_127 cw_Painting_width rfl (hp.up _).1 (ct_Pw (hp.up _)) rfl rfl rfl rfl ?_
      refine zz_iconst rfl ?_
      refine zz_isub rfl ?_
      refine zz_iload rfl rfl ?_
      refine zz_isub rfl ?_
      refine zz_goto rfl ?_
      refine zz_istore rfl rfl rfl ?_
      refine zz_iload_n rfl rfl ?_
      refine zz_iconst rfl ?_
      refine zz_icmp_ne rfl (by omega) (by omega) (fun hb61 => ?_) (fun hb61 => ?_)
      · skip
        refine zz_iload rfl rfl ?_
        refine zz_istore rfl rfl rfl ?_
        refine zz_aload_n rfl rfl ?_
        refine zz_iload rfl rfl ?_
        refine zz_iload rfl rfl ?_
        refine zz_aload_n rfl rfl ?_
        refine zz_getf rfl fl_TS_153 (hp.up _).1 rfl ?_
        refine zz_iload rfl rfl ?_
        refine zz_iload rfl rfl ?_
        refine zz_Vp rfl lk_TS_157 cw_Layer_dotAt rfl (hp.up _).2.2.2.1.1 (ct_dotAt (hp.up _).2.2.2.1 ⟨by omega, by omega⟩ ⟨by omega, by omega⟩ hh hw) rfl rfl rfl rfl ?_
        refine zz_Vu rfl lk_TS_129 cw_Painting_put rfl (hp.up _).1 (ct_put (hp.up _) hh hw hR hbx) rfl rfl rfl rfl ?_
        refine Ev.heap (zput_eq hbx (show _ = zldt f w ht (if ax = 0 then (w : Int) - 1 - ((x.toNat : Nat) : Int) else ((x.toNat : Nat) : Int)) (if ax = 1 then (ht : Int) - 1 - ((y.toNat : Nat) : Int) else ((y.toNat : Nat) : Int)) from by rw [if_pos hb40, if_neg hb61, Int.toNat_of_nonneg hbx.1, Int.toNat_of_nonneg hbx.2.2.1])) ?_
        refine zz_iinc rfl rfl rfl rfl ?_
        refine zz_goto rfl ?_
        refine Ev.take 6 ?_
        exact ih (x + 1) (by omega) (by omega)
      · skip
        refine zz_aload_n rfl rfl ?_
        refine zz_Vp rfl lk_TS_123 cw_Painting_height rfl (hp.up _).1 (ct_Ph (hp.up _)) rfl rfl rfl rfl ?_
        refine zz_iconst rfl ?_
        refine zz_isub rfl ?_
        refine zz_iload rfl rfl ?_
        refine zz_isub rfl ?_
        refine zz_goto rfl ?_
        refine zz_istore rfl rfl rfl ?_
        refine zz_aload_n rfl rfl ?_
        refine zz_iload rfl rfl ?_
        refine zz_iload rfl rfl ?_
        refine zz_aload_n rfl rfl ?_
        refine zz_getf rfl fl_TS_153 (hp.up _).1 rfl ?_
        refine zz_iload rfl rfl ?_
        refine zz_iload rfl rfl ?_
        refine zz_Vp rfl lk_TS_157 cw_Layer_dotAt rfl (hp.up _).2.2.2.1.1 (ct_dotAt (hp.up _).2.2.2.1 ⟨by omega, by omega⟩ ⟨by omega, by omega⟩ hh hw) rfl rfl rfl rfl ?_
        refine zz_Vu rfl lk_TS_129 cw_Painting_put rfl (hp.up _).1 (ct_put (hp.up _) hh hw hR hbx) rfl rfl rfl rfl ?_
        refine Ev.heap (zput_eq hbx (show _ = zldt f w ht (if ax = 0 then (w : Int) - 1 - ((x.toNat : Nat) : Int) else ((x.toNat : Nat) : Int)) (if ax = 1 then (ht : Int) - 1 - ((y.toNat : Nat) : Int) else ((y.toNat : Nat) : Int)) from by rw [if_pos hb40, if_pos hb61, Int.toNat_of_nonneg hbx.1, Int.toNat_of_nonneg hbx.2.2.1])) ?_
        refine zz_iinc rfl rfl rfl rfl ?_
        refine zz_goto rfl ?_
        refine Ev.take 6 ?_
        exact ih (x + 1) (by omega) (by omega)
theorem tl_mirr_o {p pc la sa ra bf da af w ht : Nat} {pos : Int} {R : Nat → Nat} {f : Nat → Int} {md op vs : Int} (hp : isPt h p pc la sa ra bf da af w ht pos R f f md op vs) (hh : ht ≤ 24) (hw : w ≤ 24) (hR : ∀ j, R j < 16777216) {x0 : Nat} {l ax : Int} (hax : 0 ≤ ax ∧ ax ≤ 1) {MC MS mc ms : Nat} {Q : ZR → ZH → Prop} (kx : Ev Z (fun _ => True, m_TS_mirror, 4, MC, MS) 111 [.ref x0, zI l, zI ax, .ref p, zI ht] [] (zset h af (zi 0 (w * ht) (zpt f w R (fun x y => zldt f w ht (if ax = 0 then (w : Int) - 1 - (x : Int) else (x : Int)) (if ax = 1 then (ht : Int) - 1 - (y : Int) else (y : Int))) ((ht : Int) * w + 0).toNat))) mc ms Q) : ∀ (m : Nat) (y : Int), 0 ≤ y → y + m = ht → Ev Z (fun _ => True, m_TS_mirror, 4, MC, MS) 18 [.ref x0, zI l, zI ax, .ref p, zI y] [] (zset h af (zi 0 (w * ht) (zpt f w R (fun x y => zldt f w ht (if ax = 0 then (w : Int) - 1 - (x : Int) else (x : Int)) (if ax = 1 then (ht : Int) - 1 - (y : Int) else (y : Int))) (y * w + 0).toNat))) mc ms Q := by
  intro m
  induction m with
  | zero =>
    intro y hy0 hyn
    refine zz_iload rfl rfl ?_
    refine zz_aload_n rfl rfl ?_
    refine zz_Vp rfl lk_TS_123 cw_Painting_height rfl (hp.up _).1 (ct_Ph (hp.up _)) rfl rfl rfl rfl ?_
    refine zz_icmp_ge rfl (by omega) (by omega) (fun hb24 => ?_) (fun hb24 => absurd hb24 (by omega))
    obtain rfl : y = (ht : Int) := by omega
    exact kx
  | succ m ih =>
    intro y hy0 hyn
    refine zz_iload rfl rfl ?_
    refine zz_aload_n rfl rfl ?_
    refine zz_Vp rfl lk_TS_123 cw_Painting_height rfl (hp.up _).1 (ct_Ph (hp.up _)) rfl rfl rfl rfl ?_
    refine zz_icmp_ge rfl (by omega) (by omega) (fun hb24 => absurd hb24 (by omega)) (fun hb24 => ?_)
    refine zz_iconst rfl ?_
    refine zz_istore rfl rfl rfl ?_
    refine tl_mirr_i hp hh hw hR hax ⟨hy0, by omega⟩ ?_ w 0 (by omega) (by omega)
    refine zz_iinc rfl rfl rfl rfl ?_
    refine zz_goto rfl ?_
    refine Ev.take 5 ?_
    refine Ev.heap (zrow_end y) ?_
    exact ih (y + 1) (by omega) (by omega)
theorem tl_shift_i {p pc la sa ra bf da af w ht : Nat} {pos : Int} {R : Nat → Nat} {f : Nat → Int} {md op vs : Int} (hp : isPt h p pc la sa ra bf da af w ht pos R f f md op vs) (hh : ht ≤ 24) (hw : w ≤ 24) (hR : ∀ j, R j < 16777216) {x0 : Nat} {l dx dy : Int} (hdx : -100 ≤ dx ∧ dx ≤ 100) (hdy : -100 ≤ dy ∧ dy ≤ 100) {MC MS mc ms : Nat} {Q : ZR → ZH → Prop} {y : Int} (hy : 0 ≤ y ∧ y < ht) (kx : Ev Z (fun _ => True, m_TS_shift, 4, MC, MS) 69 [.ref x0, zI l, zI dx, zI dy, .ref p, zI y, zI w] [] (zset h af (zi 0 (w * ht) (zpt f w R (fun x y => zldt f w ht ((x : Int) - dx) ((y : Int) - dy)) (y * w + w).toNat))) mc ms Q) : ∀ (m : Nat) (x : Int), 0 ≤ x → x + m = w → Ev Z (fun _ => True, m_TS_shift, 4, MC, MS) 28 [.ref x0, zI l, zI dx, zI dy, .ref p, zI y, zI x] [] (zset h af (zi 0 (w * ht) (zpt f w R (fun x y => zldt f w ht ((x : Int) - dx) ((y : Int) - dy)) (y * w + x).toNat))) mc ms Q := by
  intro m
  induction m with
  | zero =>
    intro x hx0 hxn
    refine zz_iload rfl rfl ?_
    refine zz_aload rfl rfl ?_
    refine zz_Vp rfl lk_TS_127 cw_Painting_width rfl (hp.up _).1 (ct_Pw (hp.up _)) rfl rfl rfl rfl ?_
    refine zz_icmp_ge rfl (by omega) (by omega) (fun hb35 => ?_) (fun hb35 => absurd hb35 (by omega))
    obtain rfl : x = (w : Int) := by omega
    exact kx
  | succ m ih =>
    intro x hx0 hxn
    refine zz_iload rfl rfl ?_
    refine zz_aload rfl rfl ?_
    refine zz_Vp rfl lk_TS_127 cw_Painting_width rfl (hp.up _).1 (ct_Pw (hp.up _)) rfl rfl rfl rfl ?_
    refine zz_icmp_ge rfl (by omega) (by omega) (fun hb35 => absurd hb35 (by omega)) (fun hb35 => ?_)
    have hbx : zbox x y w ht := ⟨by omega, by omega, by omega, by omega⟩
    refine zz_aload rfl rfl ?_
    refine zz_iload rfl rfl ?_
    refine zz_iload rfl rfl ?_
    refine zz_aload rfl rfl ?_
    refine zz_getf rfl fl_TS_153 (hp.up _).1 rfl ?_
    refine zz_iload rfl rfl ?_
    refine zz_iload_n rfl rfl ?_
    refine zz_isub rfl ?_
    refine zz_iload rfl rfl ?_
    refine zz_iload_n rfl rfl ?_
    refine zz_isub rfl ?_
    refine zz_Vp rfl lk_TS_157 cw_Layer_dotAt rfl (hp.up _).2.2.2.1.1 (ct_dotAt (hp.up _).2.2.2.1 ⟨by omega, by omega⟩ ⟨by omega, by omega⟩ hh hw) rfl rfl rfl rfl ?_
    refine zz_Vu rfl lk_TS_129 cw_Painting_put rfl (hp.up _).1 (ct_put (hp.up _) hh hw hR hbx) rfl rfl rfl rfl ?_
    refine Ev.heap (zput_eq hbx (show _ = zldt f w ht (((x.toNat : Nat) : Int) - dx) (((y.toNat : Nat) : Int) - dy) from by rw [Int.toNat_of_nonneg hbx.1, Int.toNat_of_nonneg hbx.2.2.1])) ?_
    refine zz_iinc rfl rfl rfl rfl ?_
    refine zz_goto rfl ?_
    exact ih (x + 1) (by omega) (by omega)
theorem tl_shift_o {p pc la sa ra bf da af w ht : Nat} {pos : Int} {R : Nat → Nat} {f : Nat → Int} {md op vs : Int} (hp : isPt h p pc la sa ra bf da af w ht pos R f f md op vs) (hh : ht ≤ 24) (hw : w ≤ 24) (hR : ∀ j, R j < 16777216) {x0 : Nat} {l dx dy : Int} (hdx : -100 ≤ dx ∧ dx ≤ 100) (hdy : -100 ≤ dy ∧ dy ≤ 100) {MC MS mc ms : Nat} {Q : ZR → ZH → Prop} (kx : Ev Z (fun _ => True, m_TS_shift, 4, MC, MS) 75 [.ref x0, zI l, zI dx, zI dy, .ref p, zI ht] [] (zset h af (zi 0 (w * ht) (zpt f w R (fun x y => zldt f w ht ((x : Int) - dx) ((y : Int) - dy)) ((ht : Int) * w + 0).toNat))) mc ms Q) : ∀ (m : Nat) (y : Int), 0 ≤ y → y + m = ht → Ev Z (fun _ => True, m_TS_shift, 4, MC, MS) 15 [.ref x0, zI l, zI dx, zI dy, .ref p, zI y] [] (zset h af (zi 0 (w * ht) (zpt f w R (fun x y => zldt f w ht ((x : Int) - dx) ((y : Int) - dy)) (y * w + 0).toNat))) mc ms Q := by
  intro m
  induction m with
  | zero =>
    intro y hy0 hyn
    refine zz_iload rfl rfl ?_
    refine zz_aload rfl rfl ?_
    refine zz_Vp rfl lk_TS_123 cw_Painting_height rfl (hp.up _).1 (ct_Ph (hp.up _)) rfl rfl rfl rfl ?_
    refine zz_icmp_ge rfl (by omega) (by omega) (fun hb22 => ?_) (fun hb22 => absurd hb22 (by omega))
    obtain rfl : y = (ht : Int) := by omega
    exact kx
  | succ m ih =>
    intro y hy0 hyn
    refine zz_iload rfl rfl ?_
    refine zz_aload rfl rfl ?_
    refine zz_Vp rfl lk_TS_123 cw_Painting_height rfl (hp.up _).1 (ct_Ph (hp.up _)) rfl rfl rfl rfl ?_
    refine zz_icmp_ge rfl (by omega) (by omega) (fun hb22 => absurd hb22 (by omega)) (fun hb22 => ?_)
    refine zz_iconst rfl ?_
    refine zz_istore rfl rfl rfl ?_
    refine tl_shift_i hp hh hw hR hdx hdy ⟨hy0, by omega⟩ ?_ w 0 (by omega) (by omega)
    refine zz_iinc rfl rfl rfl rfl ?_
    refine zz_goto rfl ?_
    refine Ev.take 6 ?_
    refine Ev.heap (zrow_end y) ?_
    exact ih (y + 1) (by omega) (by omega)
end TL
end
section
/-! ===== numbers of shapes, lines, counts ===== -/
theorem zsq {a B : Int} (h : -B ≤ a ∧ a ≤ B) : 0 ≤ a * a ∧ a * a ≤ B * B := by
  rcases Int.le_total 0 a with h0 | h0
  · exact zmulb ⟨h0, h.2⟩ ⟨h0, h.2⟩
  · have h1 := zmulb (a := -a) (b := -a) (A := B) (B := B) ⟨by omega, by omega⟩ ⟨by omega, by omega⟩
    rw [Int.neg_mul_neg] at h1
    exact h1
theorem zmula {a b A B : Int} (ha : 0 ≤ a ∧ a ≤ A) (hb : -B ≤ b ∧ b ≤ B) : -(A * B) ≤ a * b ∧ a * b ≤ A * B := by
  rcases Int.le_total 0 b with h0 | h0
  · have h1 := zmulb ha ⟨h0, hb.2⟩
    omega
  · have h1 := zmulb ha (b := -b) (B := B) ⟨by omega, by omega⟩
    rw [Int.mul_neg] at h1
    omega
abbrev zel (x y w e : Int) : Prop := (2 * x + 1 - w) * (2 * x + 1 - w) * (e * e) + (2 * y + 1 - e) * (2 * y + 1 - e) * (w * w) ≤ w * w * (e * e)
theorem zel_rg {x y w e : Int} (hx : 0 ≤ x ∧ x < w) (hy : 0 ≤ y ∧ y < e) (hw : w ≤ 1000) (he : e ≤ 1000) :
    (0 ≤ (2 * x + 1 - w) * (2 * x + 1 - w) * (e * e) + (2 * y + 1 - e) * (2 * y + 1 - e) * (w * w) ∧ (2 * x + 1 - w) * (2 * x + 1 - w) * (e * e) + (2 * y + 1 - e) * (2 * y + 1 - e) * (w * w) ≤ 2000000000000) ∧ (0 ≤ w * w * (e * e) ∧ w * w * (e * e) ≤ 1000000000000) := by
  have h1 := zsq (a := 2 * x + 1 - w) (B := 1000) ⟨by omega, by omega⟩
  have h2 := zsq (a := 2 * y + 1 - e) (B := 1000) ⟨by omega, by omega⟩
  have h3 := zsq (a := w) (B := 1000) ⟨by omega, by omega⟩
  have h4 := zsq (a := e) (B := 1000) ⟨by omega, by omega⟩
  have e1 : (1000 : Int) * 1000 = 1000000 := by decide
  rw [e1] at h1 h2 h3 h4
  have h5 := zmulb h1 h4
  have h6 := zmulb h2 h3
  have h7 := zmulb h3 h4
  omega
/-- the rows of two selections -/
def zjr (A B : Nat) (how : Int) : Nat := if how = 0 then B else if how = 1 then A ||| B else if how = 2 then A ^^^ (A &&& B) else A &&& B
theorem zq_not (x : Int) : Int32.ofInt x ^^^ Int32.ofInt (-1) = Int32.ofInt (-1 - x) := by
  have h1 : Int32.ofInt (-1) = -1 := rfl
  have h2 : Int32.ofInt x ^^^ (-1) = ~~~ (Int32.ofInt x) := by
    apply Int32.toBitVec.inj
    rw [Int32.toBitVec_xor, Int32.toBitVec_not]
    show (Int32.ofInt x).toBitVec ^^^ BitVec.allOnes 32 = _
    rw [BitVec.xor_allOnes]
  rw [h1, h2, Int32.not_eq_neg_add, Int32.ofInt_sub]
  have h3 : Int32.ofInt (-1) = (-1 : Int32) := rfl
  rw [h3]
  apply Int32.toBitVec.inj
  simp only [Int32.toBitVec_sub, Int32.toBitVec_neg]
  rw [BitVec.sub_eq_add_neg, BitVec.sub_eq_add_neg, BitVec.add_comm]
theorem zq_andnot (A B : Nat) : Int32.ofInt (A : Int) &&& Int32.ofInt (-1 - (B : Int)) = Int32.ofInt ((A ^^^ (A &&& B) : Nat) : Int) := by
  rw [← zq_not]
  apply Int32.toBitVec.inj
  rw [Int32.toBitVec_and, Int32.toBitVec_xor, Int32.toBitVec_ofInt, Int32.toBitVec_ofInt, Int32.toBitVec_ofInt, Int32.toBitVec_ofInt, BitVec.ofInt_natCast, BitVec.ofInt_natCast, BitVec.ofInt_natCast]
  apply BitVec.eq_of_getLsbD_eq
  intro i hi
  rw [BitVec.getLsbD_and, BitVec.getLsbD_xor, BitVec.getLsbD_ofNat, BitVec.getLsbD_ofNat, BitVec.getLsbD_ofNat, Nat.testBit_xor, Nat.testBit_and]
  have h1 : (BitVec.ofInt 32 (-1)).getLsbD i = true := by
    show (BitVec.allOnes 32).getLsbD i = true
    rw [BitVec.getLsbD_allOnes]
    simp [hi]
  rw [h1]
  simp only [hi, decide_true, Bool.true_and]
  cases A.testBit i <;> cases B.testBit i <;> rfl
theorem zjr_lt {A B : Nat} (how : Int) {n : Nat} (hA : A < 2 ^ n) (hB : B < 2 ^ n) : zjr A B how < 2 ^ n := by
  unfold zjr
  split
  · exact hB
  · split
    · exact Nat.or_lt_two_pow hA hB
    · split
      · exact Nat.xor_lt_two_pow hA (Nat.and_lt_two_pow _ hB)
      · exact Nat.and_lt_two_pow _ hB
/-- the sign of an exclusive or -/
theorem zq_xsg {x y : Int} (hx : zrg x) (hy : 0 < y ∧ y < 2147483648) : ∃ v : Int, Int32.ofInt x ^^^ Int32.ofInt y = Int32.ofInt v ∧ zrg v ∧ (0 ≤ v ↔ 0 ≤ x) := by
  have hv := Int32.le_toInt (Int32.ofInt x ^^^ Int32.ofInt y)
  have hv2 := Int32.toInt_lt (Int32.ofInt x ^^^ Int32.ofInt y)
  refine ⟨(Int32.ofInt x ^^^ Int32.ofInt y).toInt, (Int32.ofInt_toInt _).symm, ⟨by omega, by omega⟩, ?_⟩
  have k : ∀ z : Int32, 0 ≤ z.toInt ↔ z.toBitVec.msb = false := by
    intro z
    have h1 : z.toInt = z.toBitVec.toInt := rfl
    rw [h1]
    cases hm : z.toBitVec.msb
    · exact ⟨fun _ => rfl, fun _ => BitVec.toInt_nonneg_of_msb_false hm⟩
    · have := BitVec.toInt_neg_of_msb_true hm
      simp only [Bool.true_eq_false, iff_false]
      omega
  rw [k]
  have h2 := k (Int32.ofInt x)
  have h3 := k (Int32.ofInt y)
  rw [zq_toInt hx] at h2
  rw [zq_toInt ⟨by omega, hy.2⟩] at h3
  rw [h2, Int32.toBitVec_xor, BitVec.msb_xor, h3.mp (by omega), Bool.xor_false]
def zpa (way step last : Int) : Int := if last = 0 then 0 else (2 * step * way + last) / (2 * last)
theorem ztd {x y : Int} (hy : 0 < y) : (x < 0 → x.tdiv y * y = x → x / y = x.tdiv y) ∧ (x < 0 → x.tdiv y * y ≠ x → x / y = x.tdiv y - 1) := by
  have h1 := Int.mul_tdiv_add_tmod x y
  have h2 : x < 0 → -y < x.tmod y ∧ x.tmod y ≤ 0 := by
    intro hx
    have e : x.tmod y = -((-x).tmod y) := by rw [Int.neg_tmod, Int.neg_neg]
    rw [e, Int.tmod_eq_emod_of_nonneg (by omega)]
    have h3 := Int.emod_nonneg (-x) (by omega : y ≠ 0)
    have h4 := Int.emod_lt_of_pos (-x) hy
    omega
  constructor
  · intro hx he
    apply Int.le_antisymm
    · have := Int.ediv_lt_of_lt_mul (a := x) (b := x.tdiv y + 1) (c := y) hy (by rw [Int.add_mul]; omega)
      omega
    · rw [Int.le_ediv_iff_mul_le hy]; omega
  · intro hx he
    obtain ⟨h3, h4⟩ := h2 hx
    have e1 : y * x.tdiv y = x.tdiv y * y := Int.mul_comm _ _
    apply Int.le_antisymm
    · have := Int.ediv_lt_of_lt_mul (a := x) (b := x.tdiv y) (c := y) hy (by omega)
      omega
    · rw [Int.le_ediv_iff_mul_le hy, Int.sub_mul]; omega
end
section
/-! ===== a method of the JDK that no entry runs instead ===== -/
theorem vx_ofWF {l : Launch} {y : MethodName} {ws ws' : List Cond} {rm : Room} {Pc : Array Value → State → Prop} {Qc : Array Value → State → Outcome → State → Prop} {XC : String → State → State → Prop} {mc ms : Nat} {free : Addr → Prop} {cc : ByteArray} {maxL : Nat} {ret : Option FieldType}
    (hy : plainFor y = true) (hw : ws = Cond.code y cc maxL ret :: ws')
    (body : ∀ p e s m args below meth c s₁, BodyLoose p l y (headSpec ws rm) cc maxL ret e s m args below meth c s₁ → c.maxLocals = maxL → (∀ x ∈ c.exceptionTable.toList, False) → Pc args s →
      W p l e (headSpec ws rm).room s m args below meth c s.heap [] 0 0 (vx_MQ below Qc XC args s mc ms free) (entryFrame m args maxL)) : vx_Met l y ws rm Pc Qc XC mc ms free := by
  refine MetFree.of_bodySF (code := cc) (maxLocals := maxL) (ret := ret) hy ?_ ?_
  · intro args s m h hn
    obtain ⟨meth, c, h1, h2, h3, h4, h5, h6, -, -⟩ := Cond.code_spec hn (atoms_spec (ws := ws) h _ (by rw [hw]; exact List.mem_cons_self))
    exact ⟨meth, c, h1, h2, h3, h4, h5, h6⟩
  · intro p e s m args below meth c s₁ B hml hP _
    have hh0 : s₁.heap = s.heap := by rw [B.state]; rfl
    have ht : ∀ x ∈ c.exceptionTable.toList, False := by
      obtain ⟨meth9, c9, h1, h2, -, -, -, -, h7, -⟩ := Cond.code_spec B.named (atoms_spec (ws := ws) B.pre _ (by rw [hw]; exact List.mem_cons_self))
      cases Option.some.inj (h1.symm.trans B.method)
      cases Option.some.inj (h2.symm.trans (Stand.of_body B).code)
      intro x hx
      rw [Array.isEmpty_iff.mp h7] at hx
      cases hx
    obtain ⟨t, a1, o, b1, b2, b3⟩ := body p e s m args below meth c s₁ B hml ht hP s₁ hh0 (Stand.of_body B)
    exact ⟨t, o, a1, b1, b2, b3⟩
theorem zctF {Z : ZC} {M : MI} {d mc ms : Nat} {av : List Value} {h : ZH} {Q : ZR → ZH → Prop} (hh : zhh M = []) (hy : plainFor (zy M) = true) (hok : zok M) (hav0 : (av.all fun v => Nat.beq v.category 1) = true) (hlen0 : Nat.ble av.length (znL M) = true)
    (k : Ev Z (fun _ => True, M, d, mc, ms) 0 av [] h mc ms Q) : Ct Z M d mc ms av h Q := by
  have hav : ∀ v ∈ av, v.category = 1 := fun v hv => Nat.eq_of_beq_eq_true (List.all_eq_true.mp hav0 v hv)
  have hlen : av.length ≤ znL M := Nat.le_of_ble_eq_true hlen0
  have hcw : zcw M = .code (zy M) (zcc M) (znL M) (zret M) := by unfold zcw; rw [hh]
  unfold Ct
  refine vx_ofWF (cc := zcc M) (maxL := znL M) (ret := zret M) (ws' := zG) hy (by rw [hcw]) ?_
  intro p e s m args below meth c s₁ B hml ht hP
  obtain ⟨rfl, hW, hr⟩ := hP
  have hts : ∀ w ∈ zG, w.before av.toArray s = true := fun w hw => atoms_spec (ws := zcw M :: zG) B.pre w (List.mem_cons_of_mem _ hw)
  have hl := lv_entry av (n := znL M) (by rw [lg_sl_len av hav]; exact hlen)
  rw [lg_entry_eq]
  refine k p e _ s m av.toArray below meth c s.heap [] 0 0 _ ⟨B.exec, B.bytes, hml, findClass_of_methodNamed B.named, hts, B.returns, B.notSynchronized, (name_of_methodNamed B.named B.method).1, ?_, hW, trivial, hok⟩ ⟨Nat.le_refl _, Nat.le_refl _, Nat.le_refl _, Nat.le_refl _⟩ (lv_mono hl (zls_args av 0 hav)) hr va_S.rf (by show 0 + mc ≤ mc; omega) (by show 0 + ms ≤ ms; omega)
  rw [hh]
  cases hE : c.exceptionTable.toList with
  | nil => rfl
  | cons x t => exact (ht x (by rw [hE]; exact List.mem_cons_self)).elim
theorem zlcg {a b : Int} : (0 < (if b < a then (1 : Int) else if a = b then 0 else -1)) ↔ b < a := by
  by_cases h : b < a
  · simp [h]
  · rw [if_neg h]
    by_cases h2 : a = b
    · rw [if_pos h2]; omega
    · rw [if_neg h2]; omega
end
section
section NU
variable {Z : ZC} {h : ZH}
theorem ct_isInEllipse {x y w e : Int} (hx : 0 ≤ x ∧ x < w) (hy : 0 ≤ y ∧ y < e) (hw : w ≤ 1000) (he : e ≤ 1000) : Ct Z m_TS_isInEllipse 0 0 0 [zI x, zI y, zI w, zI e] h (zP (zI (zb (zel x y w e))) h) := by
  have hr := zel_rg hx hy hw he
  refine zct rfl (by decide) ok_TS_isInEllipse rfl rfl ?_
  refine zz_ldc2 rfl cs_TS_271 ?_
  refine zz_iload_n rfl rfl ?_
  refine zz_i2l rfl (by omega) ?_
  refine zz_lmul rfl ?_
  refine zz_lconst (z := 1) rfl (by decide) ?_
  refine zz_ladd rfl ?_
  refine zz_iload_n rfl rfl ?_
  refine zz_i2l rfl (by omega) ?_
  refine zz_lsub rfl ?_
  refine zz_ldc2 rfl cs_TS_271 ?_
  refine zz_iload_n rfl rfl ?_
  refine zz_i2l rfl (by omega) ?_
  refine zz_lmul rfl ?_
  refine zz_lconst (z := 1) rfl (by decide) ?_
  refine zz_ladd rfl ?_
  refine zz_iload_n rfl rfl ?_
  refine zz_i2l rfl (by omega) ?_
  refine zz_lsub rfl ?_
  refine zz_lmul rfl ?_
  refine zz_lstore rfl rfl rfl ?_
  refine zz_ldc2 rfl cs_TS_271 ?_
  refine zz_iload_n rfl rfl ?_
  refine zz_i2l rfl (by omega) ?_
  refine zz_lmul rfl ?_
  refine zz_lconst (z := 1) rfl (by decide) ?_
  refine zz_ladd rfl ?_
  refine zz_iload_n rfl rfl ?_
  refine zz_i2l rfl (by omega) ?_
  refine zz_lsub rfl ?_
  refine zz_ldc2 rfl cs_TS_271 ?_
  refine zz_iload_n rfl rfl ?_
  refine zz_i2l rfl (by omega) ?_
  refine zz_lmul rfl ?_
  refine zz_lconst (z := 1) rfl (by decide) ?_
  refine zz_ladd rfl ?_
  refine zz_iload_n rfl rfl ?_
  refine zz_i2l rfl (by omega) ?_
  refine zz_lsub rfl ?_
  refine zz_lmul rfl ?_
  refine zz_lstore rfl rfl rfl ?_
  refine zz_iload_n rfl rfl ?_
  refine zz_i2l rfl (by omega) ?_
  refine zz_iload_n rfl rfl ?_
  refine zz_i2l rfl (by omega) ?_
  refine zz_lmul rfl ?_
  refine zz_lstore rfl rfl rfl ?_
  refine zz_iload_n rfl rfl ?_
  refine zz_i2l rfl (by omega) ?_
  refine zz_iload_n rfl rfl ?_
  refine zz_i2l rfl (by omega) ?_
  refine zz_lmul rfl ?_
  refine zz_lstore rfl rfl rfl ?_
  refine zz_lload rfl rfl ?_
  refine zz_lload rfl rfl ?_
  refine zz_lmul rfl ?_
  refine zz_lload rfl rfl ?_
  refine zz_lload rfl rfl ?_
  refine zz_lmul rfl ?_
  refine zz_ladd rfl ?_
  refine zz_lload rfl rfl ?_
  refine zz_lload rfl rfl ?_
  refine zz_lmul rfl ?_
  refine zz_lcmp rfl (by omega) (by omega) ?_
  refine zz_if_gt rfl (by split; decide; split <;> decide) (fun hb81 => ?_) (fun hb81 => ?_)
  · skip
    refine zz_iconst rfl ?_
    refine zz_zret rfl rfl rfl (zret_f (fun h9 => absurd (zlcg.mp hb81) (by omega)))
  · skip
    refine zz_iconst rfl ?_
    refine zz_goto rfl ?_
    refine zz_zret rfl rfl rfl (zret_t (Int.not_lt.mp (fun h9 => hb81 (zlcg.mpr h9))))
theorem ct_joinedRow {A B : Nat} {k : Int} (hk : 0 ≤ k ∧ k ≤ 3) : Ct Z m_TS_joinedRow 0 0 0 [zI A, zI B, zI k] h (zP (zI (zjr A B k)) h) := by
  have hc : k = 0 ∨ k = 1 ∨ k = 2 ∨ k = 3 := by omega
  rcases hc with rfl | rfl | rfl | rfl
  · refine zct rfl (by decide) ok_TS_joinedRow rfl rfl ?_
    refine zz_iload_n rfl rfl ?_
    refine zz_tsw (tg := 28) rfl (by decide) (by decide) (by decide) rfl rfl ?_
    refine zz_iload_n rfl rfl ?_
    refine zz_iret rfl rfl (zret_e rfl)
  · refine zct rfl (by decide) ok_TS_joinedRow rfl rfl ?_
    refine zz_iload_n rfl rfl ?_
    refine zz_tsw (tg := 30) rfl (by decide) (by decide) (by decide) rfl rfl ?_
    refine zz_iload_n rfl rfl ?_
    refine zz_iload_n rfl rfl ?_
    refine zz_ior rfl (zq_or A B) ?_
    refine zz_iret rfl rfl (zret_e rfl)
  · refine zct rfl (by decide) ok_TS_joinedRow rfl rfl ?_
    refine zz_iload_n rfl rfl ?_
    refine zz_tsw (tg := 34) rfl (by decide) (by decide) (by decide) rfl rfl ?_
    refine zz_iload_n rfl rfl ?_
    refine zz_iload_n rfl rfl ?_
    refine zz_iconst rfl ?_
    refine zz_ixor rfl (zq_not _) ?_
    refine zz_iand rfl (zq_andnot A B) ?_
    refine zz_iret rfl rfl (zret_e rfl)
  · refine zct rfl (by decide) ok_TS_joinedRow rfl rfl ?_
    refine zz_iload_n rfl rfl ?_
    refine zz_tswD (tg := 40) rfl (by decide) (by decide) rfl ?_
    refine zz_iload_n rfl rfl ?_
    refine zz_iload_n rfl rfl ?_
    refine zz_iand rfl (zq_and A B) ?_
    refine zz_iret rfl rfl (zret_e rfl)
theorem ztm {x y : Int} (hx : zrg x) (hx0 : x < 0) (hy : 0 < y ∧ y < 2147483648) : zrg (x.tdiv y * y) := by
  have h1 := Int.mul_tdiv_add_tmod x y
  have e1 : y * x.tdiv y = x.tdiv y * y := Int.mul_comm _ _
  have e : x.tmod y = -((-x).tmod y) := by rw [Int.neg_tmod, Int.neg_neg]
  rw [e, Int.tmod_eq_emod_of_nonneg (by omega)] at h1
  have h3 := Int.emod_nonneg (-x) (by omega : y ≠ 0)
  have h5 : 0 ≤ (-x) / y := Int.ediv_nonneg (by omega) (by omega)
  have h6 := Int.emod_add_mul_ediv (-x) y
  have h7 : 0 ≤ y * ((-x) / y) := Int.mul_nonneg (by omega) h5
  have h4 : (-x) % y ≤ -x := by omega
  constructor <;> omega
theorem ct_floorDiv {x y : Int} (hx : zrg x) (hy : 0 < y ∧ y < 2147483648) : Ct Z m_Math_floorDiv 0 0 0 [zI x, zI y] h (zP (zI (x / y)) h) := by
  refine zctF rfl (by decide +kernel) ok_Math_floorDiv rfl rfl ?_
  refine zz_iload_n rfl rfl ?_
  refine zz_iload_n rfl rfl ?_
  refine zz_idiv rfl hx ⟨by omega, by omega⟩ (by omega) ?_
  refine zz_istore_n rfl rfl rfl ?_
  refine zz_iload_n rfl rfl ?_
  refine zz_iload_n rfl rfl ?_
  obtain ⟨v, hv1, hv2, hv3⟩ := zq_xsg hx hy
  refine zz_ixor rfl hv1 ?_
  refine zz_if_ge rfl hv2 (fun hb7 => ?_) (fun hb7 => ?_)
  · skip
    refine zz_iload_n rfl rfl ?_
    refine zz_iret rfl rfl (zret_e (Int.tdiv_eq_ediv_of_nonneg (hv3.mp hb7)))
  · skip
    refine zz_iload_n rfl rfl ?_
    refine zz_iload_n rfl rfl ?_
    refine zz_imul rfl ?_
    refine zz_iload_n rfl rfl ?_
    have hx0 : x < 0 := by omega
    have ht := ztd (x := x) hy.1
    refine zz_icmp_eq rfl (ztm hx hx0 hy) hx (fun hb14 => ?_) (fun hb14 => ?_)
    · skip
      refine zz_iload_n rfl rfl ?_
      refine zz_iret rfl rfl (zret_e (ht.1 hx0 hb14).symm)
    · skip
      refine zz_iload_n rfl rfl ?_
      refine zz_iconst rfl ?_
      refine zz_isub rfl ?_
      refine zz_iret rfl rfl (zret_e (ht.2 hx0 hb14).symm)
theorem ct_partOf {a s l : Int} (ha : -200 ≤ a ∧ a ≤ 200) (hs : 0 ≤ s ∧ s ≤ l) (hl : l ≤ 200) : Ct Z m_TS_partOf 1 0 0 [zI a, zI s, zI l] h (zP (zI (zpa a s l)) h) := by
  have hm := zmula (a := 2 * s) (b := a) (A := 400) (B := 200) ⟨by omega, by omega⟩ ha
  refine zct rfl (by decide) ok_TS_partOf rfl rfl ?_
  refine zz_iload_n rfl rfl ?_
  refine zz_if_ne rfl (by omega) (fun hb1 => ?_) (fun hb1 => ?_)
  · skip
    refine zz_iconst rfl ?_
    refine zz_iload_n rfl rfl ?_
    refine zz_imul rfl ?_
    refine zz_iload_n rfl rfl ?_
    refine zz_imul rfl ?_
    refine zz_iload_n rfl rfl ?_
    refine zz_iadd rfl ?_
    refine zz_iconst rfl ?_
    refine zz_iload_n rfl rfl ?_
    refine zz_imul rfl ?_
    refine zz_Sp rfl lk_TS_296 cw_Math_floorDiv (ct_floorDiv ⟨by omega, by omega⟩ ⟨by omega, by omega⟩) rfl rfl rfl rfl ?_
    refine zz_iret rfl rfl (zret_e (by unfold zpa; rw [if_neg hb1]))
  · skip
    refine zz_iconst rfl ?_
    refine zz_goto rfl ?_
    refine zz_iret rfl rfl (zret_e (by unfold zpa; rw [if_pos hb1]))
end NU
end
