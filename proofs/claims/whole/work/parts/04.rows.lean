/-! ===== the judgement ===== -/
abbrev ZF : Type := (State → Prop) × MI × Nat × Nat × Nat
def zFr (Z : ZC) (Ex : State → Prop) (M : MI) (p : Program) (s : State) (m : MethodId) (args : Array Value) (meth : Method) (c : Code) : Prop :=
  p.tables.exec = Jvm.exec ∧ c.code = zcc M ∧ c.maxLocals = znL M ∧ s.vm.findClass (zy M).cls = some m.cls ∧ (∀ w ∈ zG, w.before args s = true) ∧ meth.sig.returnType = zret M ∧ meth.locks = false ∧ meth.name = (zy M).name ∧ c.exceptionTable.toList = tableOf (zhh M) ∧ zW Z s s.heap ∧ Ex s ∧ zok M
def zQc (Z : ZC) (Q : ZR → ZH → Prop) : Array Value → State → Outcome → State → Prop := fun _ st oc t => (∃ (r : Option Value) (h' : ZH), oc = .returned r ∧ Q (.inl r) h' ∧ zRep Z h' t.heap) ∧ va_F (fun q => Z.2.2.2 ≤ q) st t
def zXC (Z : ZC) (Q : ZR → ZH → Prop) : String → State → State → Prop := fun E st t => (∃ h' : ZH, Q (.inr E) h' ∧ zRep Z h' t.heap) ∧ va_F (fun q => Z.2.2.2 ≤ q) st t
abbrev zRm (R : Room) (F : ZF) : Prop := F.2.2.1 + 10 ≤ R.frames ∧ 140 + 40 * F.2.2.1 ≤ R.locals ∧ F.2.2.2.1 ≤ R.cells ∧ F.2.2.2.2 ≤ R.slots
def Ev (Z : ZC) (F : ZF) (pc : Nat) (L st : List Value) (h : ZH) (mc ms : Nat) (Q : ZR → ZH → Prop) : Prop :=
  ∀ (p : Program) (e : Env) (R : Room) (s : State) (m : MethodId) (args : Array Value) (below : List Frame) (meth : Method) (c : Code) (H : Heap) (locs : List Loc) (cells slots : Nat) (ls : Array Slot),
    zFr Z F.1 F.2.1 p s m args meth c → zRm R F → lv_has ls (znL F.2.1) (zls 0 L) → zRep Z h H → va_S (fun q => Z.2.2.2 ≤ q) s.heap H locs → cells + mc ≤ F.2.2.2.1 → slots + ms ≤ F.2.2.2.2 →
    W p Z.1 e R s m args below meth c H locs cells slots (vx_MQ below (zQc Z Q) (zXC Z Q) args s F.2.2.2.1 F.2.2.2.2 (fun q => Z.2.2.2 ≤ q)) (F0 m pc ls st)
def EvX (Z : ZC) (F : ZF) (pc : Nat) (L st : List Value) (E : String) (h : ZH) (mc ms : Nat) (Q : ZR → ZH → Prop) : Prop :=
  ∀ (p : Program) (e : Env) (R : Room) (s : State) (m : MethodId) (args : Array Value) (below : List Frame) (meth : Method) (c : Code) (H : Heap) (locs : List Loc) (cells slots : Nat) (ls : Array Slot) (ce : Cell) (qa : Addr),
    zFr Z F.1 F.2.1 p s m args meth c → zRm R F → lv_has ls (znL F.2.1) (zls 0 L) → zRep Z h H → va_S (fun q => Z.2.2.2 ≤ q) s.heap H locs → cells + mc ≤ F.2.2.2.1 → slots + ms ≤ F.2.2.2.2 →
    H[qa]? = some ce → ce.vm = .none → s.vm.findClass E = some ce.cls →
    vx_W p Z.1 e R s m args below meth c H locs cells slots (vx_MQ below (zQc Z Q) (zXC Z Q) args s F.2.2.2.1 F.2.2.2.2 (fun q => Z.2.2.2 ≤ q)) (F0 m pc ls st) qa
/-! ===== contracts ===== -/
abbrev zrm (d mc ms : Nat) : Room := { frames := d + 10, cells := mc, slots := ms, locals := 140 + 40 * d }
def zcw (M : MI) : Cond := match zhh M with
  | [] => .code (zy M) (zcc M) (znL M) (zret M)
  | q :: t => .codeWith (zy M) (zcc M) (znL M) (zret M) (q :: t)
def zPc (Z : ZC) (av : List Value) (h : ZH) : Array Value → State → Prop := va_Pc av (fun U => zW Z U U.heap ∧ zRep Z h U.heap)
def Ct (Z : ZC) (M : MI) (d mc ms : Nat) (av : List Value) (h : ZH) (Q : ZR → ZH → Prop) : Prop :=
  vx_Met Z.1 (zy M) (zcw M :: zG) (zrm d mc ms) (zPc Z av h) (zQc Z Q) (zXC Z Q) mc ms (fun q => Z.2.2.2 ≤ q)
theorem zPc_blind {Z : ZC} {av : List Value} {h : ZH} : FrameBlind (zPc Z av h) := fun _ _ _ _ hp => hp
section ZR1
variable {Z : ZC}
theorem Ct.ofEv {M : MI} {d mc ms : Nat} {av : List Value} {h : ZH} {Q : ZR → ZH → Prop} (hh : zhh M = []) (hy : plainName (zy M).cls = true) (hok : zok M) (hav : ∀ v ∈ av, v.category = 1) (hlen : av.length ≤ znL M)
    (k : Ev Z (fun _ => True, M, d, mc, ms) 0 av [] h mc ms Q) : Ct Z M d mc ms av h Q := by
  have hcw : zcw M = .code (zy M) (zcc M) (znL M) (zret M) := by unfold zcw; rw [hh]
  unfold Ct
  refine vx_ofW (cc := zcc M) (maxL := znL M) (ret := zret M) (ws' := zG) hy (by rw [hcw]) ?_
  intro p e s m args below meth c s₁ B hml ht hP
  obtain ⟨rfl, hW, hr⟩ := hP
  have hts : ∀ w ∈ zG, w.before av.toArray s = true := fun w hw => atoms_spec (ws := zcw M :: zG) B.pre w (List.mem_cons_of_mem _ hw)
  have hl := lv_entry av (n := znL M) (by rw [lg_sl_len av hav]; exact hlen)
  rw [lg_entry_eq]
  refine k p e _ s m av.toArray below meth c s.heap [] 0 0 _ ⟨B.exec, B.bytes, hml, findClass_of_methodNamed B.named, hts, B.returns, B.notSynchronized, (name_of_methodNamed B.named B.method).1, ?_, hW, trivial, hok⟩ ⟨Nat.le_refl _, Nat.le_refl _, Nat.le_refl _, Nat.le_refl _⟩ (lv_mono hl (zls_args av 0 hav)) hr va_S.rf (by show 0 + mc ≤ mc; omega) (by show 0 + ms ≤ ms; omega)
  rw [hh]
  cases hE : c.exceptionTable.toList with
  | nil => rfl
  | cons x t => exact (ht x (by rw [hE]; exact List.mem_cons_self)).elim
theorem Ct.ofEvH {M : MI} {d mc ms : Nat} {av : List Value} {h : ZH} {Q : ZR → ZH → Prop} (hcw : zcw M = .codeWith (zy M) (zcc M) (znL M) (zret M) (zhh M)) (hy : plainName (zy M).cls = true) (hok : zok M) (hav : ∀ v ∈ av, v.category = 1) (hlen : av.length ≤ znL M)
    (k : Ev Z (fun _ => True, M, d, mc, ms) 0 av [] h mc ms Q) : Ct Z M d mc ms av h Q := by
  unfold Ct
  refine vx_ofWH (cc := zcc M) (maxL := znL M) (ret := zret M) (hh := zhh M) (ws' := zG) hy (by rw [hcw]) ?_
  intro p e s m args below meth c s₁ B hml hP
  obtain ⟨rfl, hW, hr⟩ := hP
  have hall := atoms_spec (ws := zcw M :: zG) B.pre
  have hts : ∀ w ∈ zG, w.before av.toArray s = true := fun w hw => hall w (List.mem_cons_of_mem _ hw)
  have htb := vx_table (x := zy M) B (by rw [← hcw]; exact hall _ List.mem_cons_self)
  have hl := lv_entry av (n := znL M) (by rw [lg_sl_len av hav]; exact hlen)
  rw [lg_entry_eq]
  exact k p e _ s m av.toArray below meth c s.heap [] 0 0 _ ⟨B.exec, B.bytes, hml, findClass_of_methodNamed B.named, hts, B.returns, B.notSynchronized, (name_of_methodNamed B.named B.method).1, htb, hW, trivial, hok⟩ ⟨Nat.le_refl _, Nat.le_refl _, Nat.le_refl _, Nat.le_refl _⟩ (lv_mono hl (zls_args av 0 hav)) hr va_S.rf (by show 0 + mc ≤ mc; omega) (by show 0 + ms ≤ ms; omega)
theorem Ct.mono {M : MI} {d mc ms : Nat} {av : List Value} {h : ZH} {Q Q' : ZR → ZH → Prop} (hc : Ct Z M d mc ms av h Q) (hq : ∀ r h', Q r h' → Q' r h') : Ct Z M d mc ms av h Q' := by
  intro p e h1 h2 h3 s m args below h4 h5 h6 h7
  obtain ⟨n, oc, k1, k2, k3, k4⟩ := hc p e h1 h2 h3 s m args below h4 h5 h6 h7
  refine ⟨n, oc, k1, k2, k3, ?_⟩
  rcases k4 with ⟨⟨⟨r, h', e1, e2, e3⟩, e4⟩, e5⟩ | ⟨q, e0, E, ce, L, ⟨⟨h', e1, e2⟩, e3⟩, e4⟩
  · exact Or.inl ⟨⟨⟨r, h', e1, hq _ _ e2, e3⟩, e4⟩, e5⟩
  · exact Or.inr ⟨q, e0, E, ce, L, ⟨⟨h', hq _ _ e1, e2⟩, e3⟩, e4⟩
theorem Ct.met {M : MI} {d mc ms : Nat} {av : List Value} {h : ZH} {Q : ZR → ZH → Prop} (hc : Ct Z M d mc ms av h Q) (hno : ∀ E h', ¬ Q (.inr E) h') : Met Z.1 (zy M) (zcw M :: zG) (zrm d mc ms) (zPc Z av h) (zQc Z Q) mc ms (fun q => Z.2.2.2 ≤ q) := by
  intro p e h1 h2 h3 s m args below h4 h5 h6 h7
  obtain ⟨n, oc, k1, k2, k3, k4⟩ := hc p e h1 h2 h3 s m args below h4 h5 h6 h7
  refine ⟨n, oc, k1, k2, k3, ?_⟩
  rcases k4 with k4 | ⟨q, e0, E, ce, L, ⟨⟨h', e1, e2⟩, e3⟩, e4⟩
  · exact k4
  · exact absurd e1 (hno _ _)
end ZR1
section ZR2
variable {Z : ZC} {F : ZF} {pc q t : Nat} {L st : List Value} {h : ZH} {mc ms : Nat} {Q : ZR → ZH → Prop}
theorem Ev.bud {mc' ms' : Nat} (h1 : mc' ≤ mc) (h2 : ms' ≤ ms) (k : Ev Z F pc L st h mc' ms' Q) : Ev Z F pc L st h mc ms Q := by
  intro p e R s m args below meth c H locs cells slots ls hF hR hl hr hS hc hs
  exact k p e R s m args below meth c H locs cells slots ls hF hR hl hr hS (by omega) (by omega)
theorem Ev.heap {h' : ZH} (e1 : h = h') (k : Ev Z F pc L st h' mc ms Q) : Ev Z F pc L st h mc ms Q := e1 ▸ k
theorem Ev.post {Q' : ZR → ZH → Prop} (hq : ∀ r h', Q r h' → Q' r h') (k : Ev Z F pc L st h mc ms Q) : Ev Z F pc L st h mc ms Q' := by
  intro p e R s m args below meth c H locs cells slots ls hF hR hl hr hS hc hs
  intro T hT X
  obtain ⟨t, a1, oc, b1, b2, b3⟩ := k p e R s m args below meth c H locs cells slots ls hF hR hl hr hS hc hs T hT X
  refine ⟨t, a1, oc, b1, b2, ?_⟩
  rcases b3 with ⟨⟨⟨r, h', e1, e2, e3⟩, e4⟩, e5⟩ | ⟨q, e0, E, ce, L, ⟨⟨h', e1, e2⟩, e3⟩, e4⟩
  · exact Or.inl ⟨⟨⟨r, h', e1, hq _ _ e2, e3⟩, e4⟩, e5⟩
  · exact Or.inr ⟨q, e0, E, ce, L, ⟨⟨h', hq _ _ e1, e2⟩, e3⟩, e4⟩
/-- fewer variables known -/
theorem Ev.loc {L' : List Value} (hs : ∀ (i : Nat) (v : Value), L'[i]? = some v → zkn v = true → L[i]? = some v) (k : Ev Z F pc L' st h mc ms Q) : Ev Z F pc L st h mc ms Q := by
  intro p e R s m args below meth c H locs cells slots ls hF hR hl hr hS hc hs'
  refine k p e R s m args below meth c H locs cells slots ls hF hR (lv_mono hl ?_) hr hS hc hs'
  rintro ⟨j, w⟩ hq
  obtain ⟨h1, h2, h3⟩ := (zls_mem _ _ _ _).mp hq
  exact (zls_mem _ _ _ _).mpr ⟨h1, hs _ _ h2 h3, h3⟩
theorem Ev.take (n : Nat) (k : Ev Z F pc (L.take n) st h mc ms Q) : Ev Z F pc L st h mc ms Q := by
  refine Ev.loc (fun i v hv _ => ?_) k
  rw [List.getElem?_take] at hv
  split at hv
  · exact hv
  · cases hv
def zmask : List Bool → List Value → List Value
  | [], _ => []
  | _, [] => []
  | b :: bs, v :: vs => (if b then v else zU) :: zmask bs vs
theorem zmask_get : ∀ (bs : List Bool) (L : List Value) (i : Nat) (v : Value), (zmask bs L)[i]? = some v → zkn v = true → L[i]? = some v := by
  intro bs
  induction bs with
  | nil => intro L i v hv; simp [zmask] at hv
  | cons b bs ih =>
    intro L i v hv hk
    cases L with
    | nil => simp [zmask] at hv
    | cons a t =>
      cases i with
      | zero =>
        simp only [zmask, List.getElem?_cons_zero, Option.some.injEq] at hv ⊢
        cases b
        · simp at hv; subst hv; cases hk
        · simpa using hv
      | succ i =>
        simp only [zmask, List.getElem?_cons_succ] at hv ⊢
        exact ih t i v hv hk
theorem Ev.mask (bs : List Bool) (k : Ev Z F pc (zmask bs L) st h mc ms Q) : Ev Z F pc L st h mc ms Q := Ev.loc (fun i v hv hk => zmask_get bs L i v hv hk) k

theorem zz_iconst {n : Int} (hd : zT F.2.1 pc = some (.iconst n, q, t)) (k : Ev Z F q L (zI n :: st) h mc ms Q) : Ev Z F pc L (st) h mc ms Q := by
  intro p e R s m args below meth c H locs cells slots ls hF hR hl hr hS hc hs
  obtain ⟨hx, hb, hml, hown, hts, hret, hlk, hnm, htb, hW, hEx, hok⟩ := id hF
  obtain ⟨h1, rfl⟩ := zdec hok hd 1 (fun _ _ => rfl)
  refine lv_iconst hx hb h1 rfl ?_
  exact k p e R s m args below meth c H locs cells slots ls hF hR hl hr hS hc hs
theorem zz_bipush {n : Int} (hd : zT F.2.1 pc = some (.bipush n, q, t)) (hv : (Int8.ofInt n).toInt32 = Int32.ofInt n) (k : Ev Z F q L (zI n :: st) h mc ms Q) : Ev Z F pc L (st) h mc ms Q := by
  intro p e R s m args below meth c H locs cells slots ls hF hR hl hr hS hc hs
  obtain ⟨hx, hb, hml, hown, hts, hret, hlk, hnm, htb, hW, hEx, hok⟩ := id hF
  obtain ⟨h1, rfl⟩ := zdec hok hd 2 (fun _ _ => rfl)
  refine lv_bipush hx hb h1 hv ?_
  exact k p e R s m args below meth c H locs cells slots ls hF hR hl hr hS hc hs
theorem zz_sipush {n : Int} (hd : zT F.2.1 pc = some (.sipush n, q, t)) (hv : (Int16.ofInt n).toInt32 = Int32.ofInt n) (k : Ev Z F q L (zI n :: st) h mc ms Q) : Ev Z F pc L (st) h mc ms Q := by
  intro p e R s m args below meth c H locs cells slots ls hF hR hl hr hS hc hs
  obtain ⟨hx, hb, hml, hown, hts, hret, hlk, hnm, htb, hW, hEx, hok⟩ := id hF
  obtain ⟨h1, rfl⟩ := zdec hok hd 3 (fun _ _ => rfl)
  refine lv_sipush hx hb h1 hv ?_
  exact k p e R s m args below meth c H locs cells slots ls hF hR hl hr hS hc hs
theorem zz_ldc {i : Nat} {n : Int} (hd : zT F.2.1 pc = some (.ldc i, q, t)) (hv : Cond.constant (zy F.2.1).cls i (Int32.ofInt n) ∈ zG) (k : Ev Z F q L (zI n :: st) h mc ms Q) : Ev Z F pc L (st) h mc ms Q := by
  intro p e R s m args below meth c H locs cells slots ls hF hR hl hr hS hc hs
  obtain ⟨hx, hb, hml, hown, hts, hret, hlk, hnm, htb, hW, hEx, hok⟩ := id hF
  obtain ⟨h1, rfl⟩ := zdec hok hd 2 (fun _ _ => rfl)
  refine lv_ldc hx hb hown (hts _ hv) h1 ?_
  exact k p e R s m args below meth c H locs cells slots ls hF hR hl hr hS hc hs
theorem zz_ldcw {i : Nat} {n : Int} (hd : zT F.2.1 pc = some (.ldc_w i, q, t)) (hv : Cond.constant (zy F.2.1).cls i (Int32.ofInt n) ∈ zG) (k : Ev Z F q L (zI n :: st) h mc ms Q) : Ev Z F pc L (st) h mc ms Q := by
  intro p e R s m args below meth c H locs cells slots ls hF hR hl hr hS hc hs
  obtain ⟨hx, hb, hml, hown, hts, hret, hlk, hnm, htb, hW, hEx, hok⟩ := id hF
  obtain ⟨h1, rfl⟩ := zdec hok hd 3 (fun _ _ => rfl)
  refine lv_ldcw hx hb hown (hts _ hv) h1 ?_
  exact k p e R s m args below meth c H locs cells slots ls hF hR hl hr hS hc hs
theorem zz_ldc2 {i : Nat} {n : Int} (hd : zT F.2.1 pc = some (.ldc2_w i, q, t)) (hv : Cond.constantLong (zy F.2.1).cls i (Int64.ofInt n) ∈ zG) (k : Ev Z F q L (zJ n :: st) h mc ms Q) : Ev Z F pc L (st) h mc ms Q := by
  intro p e R s m args below meth c H locs cells slots ls hF hR hl hr hS hc hs
  obtain ⟨hx, hb, hml, hown, hts, hret, hlk, hnm, htb, hW, hEx, hok⟩ := id hF
  obtain ⟨h1, rfl⟩ := zdec hok hd 3 (fun _ _ => rfl)
  refine lv_ldc2 hx hb hown (hts _ hv) h1 ?_
  exact k p e R s m args below meth c H locs cells slots ls hF hR hl hr hS hc hs
theorem zz_lconst {n : Fin 2} {z : Int} (hd : zT F.2.1 pc = some (.lconst n, q, t)) (hv : Int64.ofNat (n : Nat) = Int64.ofInt z) (k : Ev Z F q L (zJ z :: st) h mc ms Q) : Ev Z F pc L (st) h mc ms Q := by
  intro p e R s m args below meth c H locs cells slots ls hF hR hl hr hS hc hs
  obtain ⟨hx, hb, hml, hown, hts, hret, hlk, hnm, htb, hW, hEx, hok⟩ := id hF
  obtain ⟨h1, rfl⟩ := zdec hok hd 1 (fun _ _ => rfl)
  refine lv_lconst hx hb h1 hv ?_
  exact k p e R s m args below meth c H locs cells slots ls hF hR hl hr hS hc hs
theorem zz_null  (hd : zT F.2.1 pc = some (.aconst_null, q, t)) (k : Ev Z F q L (.null :: st) h mc ms Q) : Ev Z F pc L (st) h mc ms Q := by
  intro p e R s m args below meth c H locs cells slots ls hF hR hl hr hS hc hs
  obtain ⟨hx, hb, hml, hown, hts, hret, hlk, hnm, htb, hW, hEx, hok⟩ := id hF
  obtain ⟨h1, rfl⟩ := zdec hok hd 1 (fun _ _ => rfl)
  refine lv_null hx hb h1 ?_
  exact k p e R s m args below meth c H locs cells slots ls hF hR hl hr hS hc hs
theorem zz_iload_n {x : Int} {k0 : Fin 4} (hd : zT F.2.1 pc = some (.iload_n k0, q, t)) (hL : L[(k0 : Nat)]? = some (zI x)) (k : Ev Z F q L (zI x :: st) h mc ms Q) : Ev Z F pc L (st) h mc ms Q := by
  intro p e R s m args below meth c H locs cells slots ls hF hR hl hr hS hc hs
  obtain ⟨hx, hb, hml, hown, hts, hret, hlk, hnm, htb, hW, hEx, hok⟩ := id hF
  obtain ⟨h1, rfl⟩ := zdec hok hd 1 (fun _ _ => rfl)
  refine lv_iload_n hx hb h1 rfl (zhas_at hl hL rfl) ?_
  exact k p e R s m args below meth c H locs cells slots ls hF hR hl hr hS hc hs
theorem zz_iload {x : Int} {k0 : Nat} (hd : zT F.2.1 pc = some (.iload k0, q, t)) (hL : L[k0]? = some (zI x)) (k : Ev Z F q L (zI x :: st) h mc ms Q) : Ev Z F pc L (st) h mc ms Q := by
  intro p e R s m args below meth c H locs cells slots ls hF hR hl hr hS hc hs
  obtain ⟨hx, hb, hml, hown, hts, hret, hlk, hnm, htb, hW, hEx, hok⟩ := id hF
  obtain ⟨h1, rfl⟩ := zdec hok hd 2 (fun _ _ => rfl)
  refine lv_iload hx hb h1 (zhas_at hl hL rfl) ?_
  exact k p e R s m args below meth c H locs cells slots ls hF hR hl hr hS hc hs
theorem zz_lload_n {x : Int} {k0 : Fin 4} (hd : zT F.2.1 pc = some (.lload_n k0, q, t)) (hL : L[(k0 : Nat)]? = some (zJ x)) (k : Ev Z F q L (zJ x :: st) h mc ms Q) : Ev Z F pc L (st) h mc ms Q := by
  intro p e R s m args below meth c H locs cells slots ls hF hR hl hr hS hc hs
  obtain ⟨hx, hb, hml, hown, hts, hret, hlk, hnm, htb, hW, hEx, hok⟩ := id hF
  obtain ⟨h1, rfl⟩ := zdec hok hd 1 (fun _ _ => rfl)
  refine lv_lload_n hx hb h1 rfl (zhas_at hl hL rfl) ?_
  exact k p e R s m args below meth c H locs cells slots ls hF hR hl hr hS hc hs
theorem zz_lload {x : Int} {k0 : Nat} (hd : zT F.2.1 pc = some (.lload k0, q, t)) (hL : L[k0]? = some (zJ x)) (k : Ev Z F q L (zJ x :: st) h mc ms Q) : Ev Z F pc L (st) h mc ms Q := by
  intro p e R s m args below meth c H locs cells slots ls hF hR hl hr hS hc hs
  obtain ⟨hx, hb, hml, hown, hts, hret, hlk, hnm, htb, hW, hEx, hok⟩ := id hF
  obtain ⟨h1, rfl⟩ := zdec hok hd 2 (fun _ _ => rfl)
  refine lv_lload hx hb h1 (zhas_at hl hL rfl) ?_
  exact k p e R s m args below meth c H locs cells slots ls hF hR hl hr hS hc hs
theorem zz_aload_n {x : Nat} {k0 : Fin 4} (hd : zT F.2.1 pc = some (.aload_n k0, q, t)) (hL : L[(k0 : Nat)]? = some (.ref x)) (k : Ev Z F q L (.ref x :: st) h mc ms Q) : Ev Z F pc L (st) h mc ms Q := by
  intro p e R s m args below meth c H locs cells slots ls hF hR hl hr hS hc hs
  obtain ⟨hx, hb, hml, hown, hts, hret, hlk, hnm, htb, hW, hEx, hok⟩ := id hF
  obtain ⟨h1, rfl⟩ := zdec hok hd 1 (fun _ _ => rfl)
  refine lv_aload_n hx hb h1 rfl (zhas_at hl hL rfl) ?_
  exact k p e R s m args below meth c H locs cells slots ls hF hR hl hr hS hc hs
theorem zz_aload {x : Nat} {k0 : Nat} (hd : zT F.2.1 pc = some (.aload k0, q, t)) (hL : L[k0]? = some (.ref x)) (k : Ev Z F q L (.ref x :: st) h mc ms Q) : Ev Z F pc L (st) h mc ms Q := by
  intro p e R s m args below meth c H locs cells slots ls hF hR hl hr hS hc hs
  obtain ⟨hx, hb, hml, hown, hts, hret, hlk, hnm, htb, hW, hEx, hok⟩ := id hF
  obtain ⟨h1, rfl⟩ := zdec hok hd 2 (fun _ _ => rfl)
  refine lv_aload hx hb h1 (zhas_at hl hL rfl) ?_
  exact k p e R s m args below meth c H locs cells slots ls hF hR hl hr hS hc hs
theorem zz_aload_nN {k0 : Fin 4} (hd : zT F.2.1 pc = some (.aload_n k0, q, t)) (hL : L[(k0 : Nat)]? = some .null) (k : Ev Z F q L (.null :: st) h mc ms Q) : Ev Z F pc L (st) h mc ms Q := by
  intro p e R s m args below meth c H locs cells slots ls hF hR hl hr hS hc hs
  obtain ⟨hx, hb, hml, hown, hts, hret, hlk, hnm, htb, hW, hEx, hok⟩ := id hF
  obtain ⟨h1, rfl⟩ := zdec hok hd 1 (fun _ _ => rfl)
  refine lv_aload_nN hx hb h1 rfl (zhas_at hl hL rfl) ?_
  exact k p e R s m args below meth c H locs cells slots ls hF hR hl hr hS hc hs
theorem zz_aloadN {k0 : Nat} (hd : zT F.2.1 pc = some (.aload k0, q, t)) (hL : L[k0]? = some .null) (k : Ev Z F q L (.null :: st) h mc ms Q) : Ev Z F pc L (st) h mc ms Q := by
  intro p e R s m args below meth c H locs cells slots ls hF hR hl hr hS hc hs
  obtain ⟨hx, hb, hml, hown, hts, hret, hlk, hnm, htb, hW, hEx, hok⟩ := id hF
  obtain ⟨h1, rfl⟩ := zdec hok hd 2 (fun _ _ => rfl)
  refine lv_aloadN hx hb h1 (zhas_at hl hL rfl) ?_
  exact k p e R s m args below meth c H locs cells slots ls hF hR hl hr hS hc hs
theorem zz_istore_n {x : Int} {k0 : Fin 4} (hd : zT F.2.1 pc = some (.istore_n k0, q, t)) (hz : zst L (k0 : Nat) = true) (hn : Nat.blt ((k0 : Nat)) (znL F.2.1) = true) (k : Ev Z F q (zsl L (k0 : Nat) (zI x)) st h mc ms Q) : Ev Z F pc L (zI x :: st) h mc ms Q := by
  intro p e R s m args below meth c H locs cells slots ls hF hR hl hr hS hc hs
  obtain ⟨hx, hb, hml, hown, hts, hret, hlk, hnm, htb, hW, hEx, hok⟩ := id hF
  obtain ⟨h1, rfl⟩ := zdec hok hd 1 (fun _ _ => rfl)
  refine lv_istore_n hx hb h1 rfl hl (zblt hn) rfl (fun ls1 hl1 => ?_)
  exact k p e R s m args below meth c H locs cells slots ls1 hF hR (zhas_set hz hl1) hr hS hc hs
theorem zz_istore {x : Int} {k0 : Nat} (hd : zT F.2.1 pc = some (.istore k0, q, t)) (hz : zst L k0 = true) (hn : Nat.blt (k0) (znL F.2.1) = true) (k : Ev Z F q (zsl L k0 (zI x)) st h mc ms Q) : Ev Z F pc L (zI x :: st) h mc ms Q := by
  intro p e R s m args below meth c H locs cells slots ls hF hR hl hr hS hc hs
  obtain ⟨hx, hb, hml, hown, hts, hret, hlk, hnm, htb, hW, hEx, hok⟩ := id hF
  obtain ⟨h1, rfl⟩ := zdec hok hd 2 (fun _ _ => rfl)
  refine lv_istore hx hb h1 hl (zblt hn) rfl (fun ls1 hl1 => ?_)
  exact k p e R s m args below meth c H locs cells slots ls1 hF hR (zhas_set hz hl1) hr hS hc hs
theorem zz_lstore_n {x : Int} {k0 : Fin 4} (hd : zT F.2.1 pc = some (.lstore_n k0, q, t)) (hz : zst L (k0 : Nat) = true) (hn : Nat.blt ((k0 : Nat) + 1) (znL F.2.1) = true) (k : Ev Z F q (zsl (zsl L (k0 : Nat) (zJ x)) ((k0 : Nat) + 1) zU) st h mc ms Q) : Ev Z F pc L (zJ x :: st) h mc ms Q := by
  intro p e R s m args below meth c H locs cells slots ls hF hR hl hr hS hc hs
  obtain ⟨hx, hb, hml, hown, hts, hret, hlk, hnm, htb, hW, hEx, hok⟩ := id hF
  obtain ⟨h1, rfl⟩ := zdec hok hd 1 (fun _ _ => rfl)
  refine lv_lstore_n hx hb h1 rfl hl (zblt hn) rfl (fun ls1 hl1 => ?_)
  exact k p e R s m args below meth c H locs cells slots ls1 hF hR (zhas_set2 hz hl1) hr hS hc hs
theorem zz_lstore {x : Int} {k0 : Nat} (hd : zT F.2.1 pc = some (.lstore k0, q, t)) (hz : zst L k0 = true) (hn : Nat.blt (k0 + 1) (znL F.2.1) = true) (k : Ev Z F q (zsl (zsl L k0 (zJ x)) (k0 + 1) zU) st h mc ms Q) : Ev Z F pc L (zJ x :: st) h mc ms Q := by
  intro p e R s m args below meth c H locs cells slots ls hF hR hl hr hS hc hs
  obtain ⟨hx, hb, hml, hown, hts, hret, hlk, hnm, htb, hW, hEx, hok⟩ := id hF
  obtain ⟨h1, rfl⟩ := zdec hok hd 2 (fun _ _ => rfl)
  refine lv_lstore hx hb h1 hl (zblt hn) rfl (fun ls1 hl1 => ?_)
  exact k p e R s m args below meth c H locs cells slots ls1 hF hR (zhas_set2 hz hl1) hr hS hc hs
theorem zz_astore_n {x : Nat} {k0 : Fin 4} (hd : zT F.2.1 pc = some (.astore_n k0, q, t)) (hz : zst L (k0 : Nat) = true) (hn : Nat.blt ((k0 : Nat)) (znL F.2.1) = true) (k : Ev Z F q (zsl L (k0 : Nat) (Value.ref x)) st h mc ms Q) : Ev Z F pc L (Value.ref x :: st) h mc ms Q := by
  intro p e R s m args below meth c H locs cells slots ls hF hR hl hr hS hc hs
  obtain ⟨hx, hb, hml, hown, hts, hret, hlk, hnm, htb, hW, hEx, hok⟩ := id hF
  obtain ⟨h1, rfl⟩ := zdec hok hd 1 (fun _ _ => rfl)
  refine lv_astore_n hx hb h1 rfl hl (zblt hn) rfl (fun ls1 hl1 => ?_)
  exact k p e R s m args below meth c H locs cells slots ls1 hF hR (zhas_set hz hl1) hr hS hc hs
theorem zz_astore {x : Nat} {k0 : Nat} (hd : zT F.2.1 pc = some (.astore k0, q, t)) (hz : zst L k0 = true) (hn : Nat.blt (k0) (znL F.2.1) = true) (k : Ev Z F q (zsl L k0 (Value.ref x)) st h mc ms Q) : Ev Z F pc L (Value.ref x :: st) h mc ms Q := by
  intro p e R s m args below meth c H locs cells slots ls hF hR hl hr hS hc hs
  obtain ⟨hx, hb, hml, hown, hts, hret, hlk, hnm, htb, hW, hEx, hok⟩ := id hF
  obtain ⟨h1, rfl⟩ := zdec hok hd 2 (fun _ _ => rfl)
  refine lv_astore hx hb h1 hl (zblt hn) rfl (fun ls1 hl1 => ?_)
  exact k p e R s m args below meth c H locs cells slots ls1 hF hR (zhas_set hz hl1) hr hS hc hs
theorem zz_astore_nN {k0 : Fin 4} (hd : zT F.2.1 pc = some (.astore_n k0, q, t)) (hz : zst L (k0 : Nat) = true) (hn : Nat.blt ((k0 : Nat)) (znL F.2.1) = true) (k : Ev Z F q (zsl L (k0 : Nat) (Value.null)) st h mc ms Q) : Ev Z F pc L (Value.null :: st) h mc ms Q := by
  intro p e R s m args below meth c H locs cells slots ls hF hR hl hr hS hc hs
  obtain ⟨hx, hb, hml, hown, hts, hret, hlk, hnm, htb, hW, hEx, hok⟩ := id hF
  obtain ⟨h1, rfl⟩ := zdec hok hd 1 (fun _ _ => rfl)
  refine lv_astore_nN hx hb h1 rfl hl (zblt hn) rfl (fun ls1 hl1 => ?_)
  exact k p e R s m args below meth c H locs cells slots ls1 hF hR (zhas_set hz hl1) hr hS hc hs
theorem zz_astoreN {k0 : Nat} (hd : zT F.2.1 pc = some (.astore k0, q, t)) (hz : zst L k0 = true) (hn : Nat.blt (k0) (znL F.2.1) = true) (k : Ev Z F q (zsl L k0 (Value.null)) st h mc ms Q) : Ev Z F pc L (Value.null :: st) h mc ms Q := by
  intro p e R s m args below meth c H locs cells slots ls hF hR hl hr hS hc hs
  obtain ⟨hx, hb, hml, hown, hts, hret, hlk, hnm, htb, hW, hEx, hok⟩ := id hF
  obtain ⟨h1, rfl⟩ := zdec hok hd 2 (fun _ _ => rfl)
  refine lv_astoreN hx hb h1 hl (zblt hn) rfl (fun ls1 hl1 => ?_)
  exact k p e R s m args below meth c H locs cells slots ls1 hF hR (zhas_set hz hl1) hr hS hc hs
theorem zz_iinc {x n : Int} {k0 : Nat} (hd : zT F.2.1 pc = some (.iinc k0 n, q, t)) (hL : L[k0]? = some (zI x)) (hz : zst L k0 = true) (hn : Nat.blt k0 (znL F.2.1) = true) (k : Ev Z F q (zsl L k0 (zI (x + n))) st h mc ms Q) : Ev Z F pc L st h mc ms Q := by
  intro p e R s m args below meth c H locs cells slots ls hF hR hl hr hS hc hs
  obtain ⟨hx, hb, hml, hown, hts, hret, hlk, hnm, htb, hW, hEx, hok⟩ := id hF
  obtain ⟨h1, rfl⟩ := zdec hok hd 3 (fun _ _ => rfl)
  have hl0 : lv_has ls (znL F.2.1) ((k0, zI x) :: zls 0 L) := ⟨hl.1, hl.2.1, fun q9 hq9 => by
    rcases List.mem_cons.mp hq9 with rfl | hq9
    · exact zhas_at hl hL rfl
    · exact hl.2.2 q9 hq9⟩
  refine lv_iinc (k := 0) (lv := (k0, zI x) :: zls 0 L) (v := Int32.ofInt (x + n)) hx hb h1 hl0 rfl (Int32.ofInt_add x n).symm (zblt hn) rfl (fun ls1 hl1 => ?_)
  refine k p e R s m args below meth c H locs cells slots ls1 hF hR (zhas_set hz ?_) hr hS hc hs
  refine lv_mono hl1 (fun q9 hq9 => ?_)
  rcases List.mem_cons.mp hq9 with rfl | hq9
  · exact List.mem_cons_self
  · refine List.mem_cons_of_mem _ ?_
    rw [List.mem_filter] at hq9 ⊢
    exact ⟨List.mem_cons_of_mem _ hq9.1, hq9.2⟩
theorem zz_iadd {x y : Int} (hd : zT F.2.1 pc = some (.iadd, q, t)) (k : Ev Z F q L (zI (x + y) :: st) h mc ms Q) : Ev Z F pc L (zI y :: zI x :: st) h mc ms Q := by
  intro p e R s m args below meth c H locs cells slots ls hF hR hl hr hS hc hs
  obtain ⟨hx, hb, hml, hown, hts, hret, hlk, hnm, htb, hW, hEx, hok⟩ := id hF
  obtain ⟨h1, rfl⟩ := zdec hok hd 1 (fun _ _ => rfl)
  refine lv_iadd hx hb h1 ?_
  rw [← Int32.ofInt_add]
  exact k p e R s m args below meth c H locs cells slots ls hF hR hl hr hS hc hs
theorem zz_isub {x y : Int} (hd : zT F.2.1 pc = some (.isub, q, t)) (k : Ev Z F q L (zI (x - y) :: st) h mc ms Q) : Ev Z F pc L (zI y :: zI x :: st) h mc ms Q := by
  intro p e R s m args below meth c H locs cells slots ls hF hR hl hr hS hc hs
  obtain ⟨hx, hb, hml, hown, hts, hret, hlk, hnm, htb, hW, hEx, hok⟩ := id hF
  obtain ⟨h1, rfl⟩ := zdec hok hd 1 (fun _ _ => rfl)
  refine lv_isub hx hb h1 ?_
  rw [← Int32.ofInt_sub]
  exact k p e R s m args below meth c H locs cells slots ls hF hR hl hr hS hc hs
theorem zz_imul {x y : Int} (hd : zT F.2.1 pc = some (.imul, q, t)) (k : Ev Z F q L (zI (x * y) :: st) h mc ms Q) : Ev Z F pc L (zI y :: zI x :: st) h mc ms Q := by
  intro p e R s m args below meth c H locs cells slots ls hF hR hl hr hS hc hs
  obtain ⟨hx, hb, hml, hown, hts, hret, hlk, hnm, htb, hW, hEx, hok⟩ := id hF
  obtain ⟨h1, rfl⟩ := zdec hok hd 1 (fun _ _ => rfl)
  refine lv_imul hx hb h1 ?_
  rw [← Int32.ofInt_mul]
  exact k p e R s m args below meth c H locs cells slots ls hF hR hl hr hS hc hs
theorem zz_ladd {x y : Int} (hd : zT F.2.1 pc = some (.ladd, q, t)) (k : Ev Z F q L (zJ (x + y) :: st) h mc ms Q) : Ev Z F pc L (zJ y :: zJ x :: st) h mc ms Q := by
  intro p e R s m args below meth c H locs cells slots ls hF hR hl hr hS hc hs
  obtain ⟨hx, hb, hml, hown, hts, hret, hlk, hnm, htb, hW, hEx, hok⟩ := id hF
  obtain ⟨h1, rfl⟩ := zdec hok hd 1 (fun _ _ => rfl)
  refine lv_ladd hx hb h1 ?_
  rw [← Int64.ofInt_add]
  exact k p e R s m args below meth c H locs cells slots ls hF hR hl hr hS hc hs
theorem zz_lsub {x y : Int} (hd : zT F.2.1 pc = some (.lsub, q, t)) (k : Ev Z F q L (zJ (x - y) :: st) h mc ms Q) : Ev Z F pc L (zJ y :: zJ x :: st) h mc ms Q := by
  intro p e R s m args below meth c H locs cells slots ls hF hR hl hr hS hc hs
  obtain ⟨hx, hb, hml, hown, hts, hret, hlk, hnm, htb, hW, hEx, hok⟩ := id hF
  obtain ⟨h1, rfl⟩ := zdec hok hd 1 (fun _ _ => rfl)
  refine lv_lsub hx hb h1 ?_
  rw [← Int64.ofInt_sub]
  exact k p e R s m args below meth c H locs cells slots ls hF hR hl hr hS hc hs
theorem zz_lmul {x y : Int} (hd : zT F.2.1 pc = some (.lmul, q, t)) (k : Ev Z F q L (zJ (x * y) :: st) h mc ms Q) : Ev Z F pc L (zJ y :: zJ x :: st) h mc ms Q := by
  intro p e R s m args below meth c H locs cells slots ls hF hR hl hr hS hc hs
  obtain ⟨hx, hb, hml, hown, hts, hret, hlk, hnm, htb, hW, hEx, hok⟩ := id hF
  obtain ⟨h1, rfl⟩ := zdec hok hd 1 (fun _ _ => rfl)
  refine lv_lmul hx hb h1 ?_
  rw [← Int64.ofInt_mul]
  exact k p e R s m args below meth c H locs cells slots ls hF hR hl hr hS hc hs
theorem zz_ineg {x : Int} (hd : zT F.2.1 pc = some (.ineg, q, t)) (k : Ev Z F q L (zI (-x) :: st) h mc ms Q) : Ev Z F pc L (zI x :: st) h mc ms Q := by
  intro p e R s m args below meth c H locs cells slots ls hF hR hl hr hS hc hs
  obtain ⟨hx, hb, hml, hown, hts, hret, hlk, hnm, htb, hW, hEx, hok⟩ := id hF
  obtain ⟨h1, rfl⟩ := zdec hok hd 1 (fun _ _ => rfl)
  refine lv_ineg hx hb h1 ?_
  rw [← Int32.ofInt_neg]
  exact k p e R s m args below meth c H locs cells slots ls hF hR hl hr hS hc hs
theorem zz_idiv {x y : Int} (hd : zT F.2.1 pc = some (.idiv, q, t)) (hx : -2147483648 ≤ x ∧ x < 2147483648) (hy : -2147483648 ≤ y ∧ y < 2147483648) (h0 : y ≠ 0) (k : Ev Z F q L (zI (x.tdiv y) :: st) h mc ms Q) : Ev Z F pc L (zI y :: zI x :: st) h mc ms Q := by
  intro p e R s m args below meth c H locs cells slots ls hF hR hl hr hS hc hs
  obtain ⟨hx0, hb, hml, hown, hts, hret, hlk, hnm, htb, hW, hEx, hok⟩ := id hF
  obtain ⟨h1, rfl⟩ := zdec hok hd 1 (fun _ _ => rfl)
  refine lv_idiv hx0 hb h1 (zq_ne0 hy h0) ?_
  rw [zq_div hx hy]
  exact k p e R s m args below meth c H locs cells slots ls hF hR hl hr hS hc hs
theorem zz_irem {x y : Int} (hd : zT F.2.1 pc = some (.irem, q, t)) (hx : -2147483648 ≤ x ∧ x < 2147483648) (hy : -2147483648 ≤ y ∧ y < 2147483648) (h0 : y ≠ 0) (k : Ev Z F q L (zI (x.tmod y) :: st) h mc ms Q) : Ev Z F pc L (zI y :: zI x :: st) h mc ms Q := by
  intro p e R s m args below meth c H locs cells slots ls hF hR hl hr hS hc hs
  obtain ⟨hx0, hb, hml, hown, hts, hret, hlk, hnm, htb, hW, hEx, hok⟩ := id hF
  obtain ⟨h1, rfl⟩ := zdec hok hd 1 (fun _ _ => rfl)
  refine lv_irem hx0 hb h1 (zq_ne0 hy h0) ?_
  rw [zq_mod hx hy]
  exact k p e R s m args below meth c H locs cells slots ls hF hR hl hr hS hc hs
theorem zz_idivP {x y : Int} (hd : zT F.2.1 pc = some (.idiv, q, t)) (hx : 0 ≤ x ∧ x < 2147483648) (hy : 0 < y ∧ y < 2147483648) (k : Ev Z F q L (zI (x / y) :: st) h mc ms Q) : Ev Z F pc L (zI y :: zI x :: st) h mc ms Q := by
  intro p e R s m args below meth c H locs cells slots ls hF hR hl hr hS hc hs
  obtain ⟨hx0, hb, hml, hown, hts, hret, hlk, hnm, htb, hW, hEx, hok⟩ := id hF
  obtain ⟨h1, rfl⟩ := zdec hok hd 1 (fun _ _ => rfl)
  refine lv_idiv hx0 hb h1 (zq_ne0 ⟨by omega, by omega⟩ (by omega)) ?_
  rw [zq_div ⟨by omega, by omega⟩ ⟨by omega, by omega⟩, Int.tdiv_eq_ediv_of_nonneg hx.1]
  exact k p e R s m args below meth c H locs cells slots ls hF hR hl hr hS hc hs
theorem zz_iremP {x y : Int} (hd : zT F.2.1 pc = some (.irem, q, t)) (hx : 0 ≤ x ∧ x < 2147483648) (hy : 0 < y ∧ y < 2147483648) (k : Ev Z F q L (zI (x % y) :: st) h mc ms Q) : Ev Z F pc L (zI y :: zI x :: st) h mc ms Q := by
  intro p e R s m args below meth c H locs cells slots ls hF hR hl hr hS hc hs
  obtain ⟨hx0, hb, hml, hown, hts, hret, hlk, hnm, htb, hW, hEx, hok⟩ := id hF
  obtain ⟨h1, rfl⟩ := zdec hok hd 1 (fun _ _ => rfl)
  refine lv_irem hx0 hb h1 (zq_ne0 ⟨by omega, by omega⟩ (by omega)) ?_
  rw [zq_mod ⟨by omega, by omega⟩ ⟨by omega, by omega⟩, Int.tmod_eq_emod_of_nonneg hx.1]
  exact k p e R s m args below meth c H locs cells slots ls hF hR hl hr hS hc hs
theorem zz_ishl {x y : Int} (hd : zT F.2.1 pc = some (.ishl, q, t)) (hy : 0 ≤ y ∧ y < 32) (k : Ev Z F q L (zI (x * 2 ^ y.toNat) :: st) h mc ms Q) : Ev Z F pc L (zI y :: zI x :: st) h mc ms Q := by
  intro p e R s m args below meth c H locs cells slots ls hF hR hl hr hS hc hs
  obtain ⟨hx, hb, hml, hown, hts, hret, hlk, hnm, htb, hW, hEx, hok⟩ := id hF
  obtain ⟨h1, rfl⟩ := zdec hok hd 1 (fun _ _ => rfl)
  refine lv_ishl hx hb h1 ?_
  rw [zq_shl hy]
  exact k p e R s m args below meth c H locs cells slots ls hF hR hl hr hS hc hs
theorem zz_ishr {x y : Int} (hd : zT F.2.1 pc = some (.ishr, q, t)) (hx : -2147483648 ≤ x ∧ x < 2147483648) (hy : 0 ≤ y ∧ y < 32) (k : Ev Z F q L (zI (x / 2 ^ y.toNat) :: st) h mc ms Q) : Ev Z F pc L (zI y :: zI x :: st) h mc ms Q := by
  intro p e R s m args below meth c H locs cells slots ls hF hR hl hr hS hc hs
  obtain ⟨hx0, hb, hml, hown, hts, hret, hlk, hnm, htb, hW, hEx, hok⟩ := id hF
  obtain ⟨h1, rfl⟩ := zdec hok hd 1 (fun _ _ => rfl)
  refine lv_ishr hx0 hb h1 ?_
  rw [zq_shr hx hy]
  exact k p e R s m args below meth c H locs cells slots ls hF hR hl hr hS hc hs
theorem zz_iushr {x y : Int} (hd : zT F.2.1 pc = some (.iushr, q, t)) (hy : 0 ≤ y ∧ y < 32) (k : Ev Z F q L (zI ((x % 4294967296) / 2 ^ y.toNat) :: st) h mc ms Q) : Ev Z F pc L (zI y :: zI x :: st) h mc ms Q := by
  intro p e R s m args below meth c H locs cells slots ls hF hR hl hr hS hc hs
  obtain ⟨hx, hb, hml, hown, hts, hret, hlk, hnm, htb, hW, hEx, hok⟩ := id hF
  obtain ⟨h1, rfl⟩ := zdec hok hd 1 (fun _ _ => rfl)
  refine lv_iushr hx hb h1 (zq_ushr hy) ?_
  exact k p e R s m args below meth c H locs cells slots ls hF hR hl hr hS hc hs
theorem zz_iand {x y v : Int} (hd : zT F.2.1 pc = some (.iand, q, t)) (hv : Int32.ofInt x &&& Int32.ofInt y = Int32.ofInt v) (k : Ev Z F q L (zI v :: st) h mc ms Q) : Ev Z F pc L (zI y :: zI x :: st) h mc ms Q := by
  intro p e R s m args below meth c H locs cells slots ls hF hR hl hr hS hc hs
  obtain ⟨hx, hb, hml, hown, hts, hret, hlk, hnm, htb, hW, hEx, hok⟩ := id hF
  obtain ⟨h1, rfl⟩ := zdec hok hd 1 (fun _ _ => rfl)
  refine lv_iand hx hb h1 ?_
  rw [hv]
  exact k p e R s m args below meth c H locs cells slots ls hF hR hl hr hS hc hs
theorem zz_ior {x y v : Int} (hd : zT F.2.1 pc = some (.ior, q, t)) (hv : Int32.ofInt x ||| Int32.ofInt y = Int32.ofInt v) (k : Ev Z F q L (zI v :: st) h mc ms Q) : Ev Z F pc L (zI y :: zI x :: st) h mc ms Q := by
  intro p e R s m args below meth c H locs cells slots ls hF hR hl hr hS hc hs
  obtain ⟨hx, hb, hml, hown, hts, hret, hlk, hnm, htb, hW, hEx, hok⟩ := id hF
  obtain ⟨h1, rfl⟩ := zdec hok hd 1 (fun _ _ => rfl)
  refine lv_ior hx hb h1 ?_
  rw [hv]
  exact k p e R s m args below meth c H locs cells slots ls hF hR hl hr hS hc hs
theorem zz_ixor {x y v : Int} (hd : zT F.2.1 pc = some (.ixor, q, t)) (hv : Int32.ofInt x ^^^ Int32.ofInt y = Int32.ofInt v) (k : Ev Z F q L (zI v :: st) h mc ms Q) : Ev Z F pc L (zI y :: zI x :: st) h mc ms Q := by
  intro p e R s m args below meth c H locs cells slots ls hF hR hl hr hS hc hs
  obtain ⟨hx, hb, hml, hown, hts, hret, hlk, hnm, htb, hW, hEx, hok⟩ := id hF
  obtain ⟨h1, rfl⟩ := zdec hok hd 1 (fun _ _ => rfl)
  refine lv_ixor hx hb h1 ?_
  rw [hv]
  exact k p e R s m args below meth c H locs cells slots ls hF hR hl hr hS hc hs
theorem zz_i2s {x : Int} (hd : zT F.2.1 pc = some (.i2s, q, t)) (k : Ev Z F q L (zI (x.bmod 65536) :: st) h mc ms Q) : Ev Z F pc L (zI x :: st) h mc ms Q := by
  intro p e R s m args below meth c H locs cells slots ls hF hR hl hr hS hc hs
  obtain ⟨hx, hb, hml, hown, hts, hret, hlk, hnm, htb, hW, hEx, hok⟩ := id hF
  obtain ⟨h1, rfl⟩ := zdec hok hd 1 (fun _ _ => rfl)
  refine lv_i2s hx hb h1 (zq_i2s x) ?_
  exact k p e R s m args below meth c H locs cells slots ls hF hR hl hr hS hc hs
theorem zz_i2l {x : Int} (hd : zT F.2.1 pc = some (.i2l, q, t)) (hx : -2147483648 ≤ x ∧ x < 2147483648) (k : Ev Z F q L (zJ x :: st) h mc ms Q) : Ev Z F pc L (zI x :: st) h mc ms Q := by
  intro p e R s m args below meth c H locs cells slots ls hF hR hl hr hS hc hs
  obtain ⟨hx0, hb, hml, hown, hts, hret, hlk, hnm, htb, hW, hEx, hok⟩ := id hF
  obtain ⟨h1, rfl⟩ := zdec hok hd 1 (fun _ _ => rfl)
  refine lv_i2l hx0 hb h1 (zq_i2l hx) ?_
  exact k p e R s m args below meth c H locs cells slots ls hF hR hl hr hS hc hs
theorem zz_lcmp {x y : Int} (hd : zT F.2.1 pc = some (.lcmp, q, t)) (hx : -9223372036854775808 ≤ x ∧ x < 9223372036854775808) (hy : -9223372036854775808 ≤ y ∧ y < 9223372036854775808) (k : Ev Z F q L (zI (if y < x then 1 else if x = y then 0 else -1) :: st) h mc ms Q) : Ev Z F pc L (zJ y :: zJ x :: st) h mc ms Q := by
  intro p e R s m args below meth c H locs cells slots ls hF hR hl hr hS hc hs
  obtain ⟨hx0, hb, hml, hown, hts, hret, hlk, hnm, htb, hW, hEx, hok⟩ := id hF
  obtain ⟨h1, rfl⟩ := zdec hok hd 1 (fun _ _ => rfl)
  refine W.lcmp hx0 hb h1 ?_
  rw [zq_lcmp hx hy]
  exact k p e R s m args below meth c H locs cells slots ls hF hR hl hr hS hc hs
theorem zz_dup {v : Value} (hd : zT F.2.1 pc = some (.dup, q, t)) (hv : v.category = 1) (k : Ev Z F q L (v :: v :: st) h mc ms Q) : Ev Z F pc L (v :: st) h mc ms Q := by
  intro p e R s m args below meth c H locs cells slots ls hF hR hl hr hS hc hs
  obtain ⟨hx, hb, hml, hown, hts, hret, hlk, hnm, htb, hW, hEx, hok⟩ := id hF
  obtain ⟨h1, rfl⟩ := zdec hok hd 1 (fun _ _ => rfl)
  refine lv_dup hx hb h1 hv ?_
  exact k p e R s m args below meth c H locs cells slots ls hF hR hl hr hS hc hs
theorem zz_pop {v : Value} (hd : zT F.2.1 pc = some (.pop, q, t)) (hv : v.category = 1) (k : Ev Z F q L (st) h mc ms Q) : Ev Z F pc L (v :: st) h mc ms Q := by
  intro p e R s m args below meth c H locs cells slots ls hF hR hl hr hS hc hs
  obtain ⟨hx, hb, hml, hown, hts, hret, hlk, hnm, htb, hW, hEx, hok⟩ := id hF
  obtain ⟨h1, rfl⟩ := zdec hok hd 1 (fun _ _ => rfl)
  refine lv_pop hx hb h1 hv ?_
  exact k p e R s m args below meth c H locs cells slots ls hF hR hl hr hS hc hs
theorem zz_dup2 {v u : Value} (hd : zT F.2.1 pc = some (.dup2, q, t)) (hv : v.category = 1) (hu : u.category = 1) (k : Ev Z F q L (v :: u :: v :: u :: st) h mc ms Q) : Ev Z F pc L (v :: u :: st) h mc ms Q := by
  intro p e R s m args below meth c H locs cells slots ls hF hR hl hr hS hc hs
  obtain ⟨hx, hb, hml, hown, hts, hret, hlk, hnm, htb, hW, hEx, hok⟩ := id hF
  obtain ⟨h1, rfl⟩ := zdec hok hd 1 (fun _ _ => rfl)
  refine lv_dup2_11 hx hb h1 hv hu ?_
  exact k p e R s m args below meth c H locs cells slots ls hF hR hl hr hS hc hs
theorem zz_dup2L {v : Value} (hd : zT F.2.1 pc = some (.dup2, q, t)) (hv : v.category = 2) (k : Ev Z F q L (v :: v :: st) h mc ms Q) : Ev Z F pc L (v :: st) h mc ms Q := by
  intro p e R s m args below meth c H locs cells slots ls hF hR hl hr hS hc hs
  obtain ⟨hx, hb, hml, hown, hts, hret, hlk, hnm, htb, hW, hEx, hok⟩ := id hF
  obtain ⟨h1, rfl⟩ := zdec hok hd 1 (fun _ _ => rfl)
  refine lv_dup2_2 hx hb h1 hv ?_
  exact k p e R s m args below meth c H locs cells slots ls hF hR hl hr hS hc hs
theorem zz_dup_x1 {v u : Value} (hd : zT F.2.1 pc = some (.dup_x1, q, t)) (hv : v.category = 1) (hu : u.category = 1) (k : Ev Z F q L (v :: u :: v :: st) h mc ms Q) : Ev Z F pc L (v :: u :: st) h mc ms Q := by
  intro p e R s m args below meth c H locs cells slots ls hF hR hl hr hS hc hs
  obtain ⟨hx, hb, hml, hown, hts, hret, hlk, hnm, htb, hW, hEx, hok⟩ := id hF
  obtain ⟨h1, rfl⟩ := zdec hok hd 1 (fun _ _ => rfl)
  refine lv_dup_x1 hx hb h1 hv hu ?_
  exact k p e R s m args below meth c H locs cells slots ls hF hR hl hr hS hc hs
theorem zz_dup_x2 {v u z : Value} (hd : zT F.2.1 pc = some (.dup_x2, q, t)) (hv : v.category = 1) (hu : u.category = 1) (hz : z.category = 1) (k : Ev Z F q L (v :: u :: z :: v :: st) h mc ms Q) : Ev Z F pc L (v :: u :: z :: st) h mc ms Q := by
  intro p e R s m args below meth c H locs cells slots ls hF hR hl hr hS hc hs
  obtain ⟨hx, hb, hml, hown, hts, hret, hlk, hnm, htb, hW, hEx, hok⟩ := id hF
  obtain ⟨h1, rfl⟩ := zdec hok hd 1 (fun _ _ => rfl)
  refine lv_dup_x2 hx hb h1 hv hu hz ?_
  exact k p e R s m args below meth c H locs cells slots ls hF hR hl hr hS hc hs
theorem zz_icmp_eq {x y off : Int} (hd : zT F.2.1 pc = some (.if_icmp .eq off, q, t)) (hx : -2147483648 ≤ x ∧ x < 2147483648) (hy : -2147483648 ≤ y ∧ y < 2147483648) (kt : x = y → Ev Z F t L st h mc ms Q) (kf : ¬ (x = y) → Ev Z F q L st h mc ms Q) : Ev Z F pc L (zI y :: zI x :: st) h mc ms Q := by
  intro p e R s m args below meth c H locs cells slots ls hF hR hl hr hS hc hs
  obtain ⟨hx0, hb, hml, hown, hts, hret, hlk, hnm, htb, hW, hEx, hok⟩ := id hF
  obtain ⟨h1, h2, rfl⟩ := zdecJ hok hd off (fun _ _ => rfl)
  refine lv_icmp_eq hx0 hb h1 h2 (fun hc9 => ?_) (fun hc9 => ?_)
  · exact kt ((zq_eq hx hy).mp hc9) p e R s m args below meth c H locs cells slots ls hF hR hl hr hS hc hs
  · exact kf (fun hn9 => hc9 ((zq_eq hx hy).mpr hn9)) p e R s m args below meth c H locs cells slots ls hF hR hl hr hS hc hs
theorem zz_if_eq {x off : Int} (hd : zT F.2.1 pc = some (.ifCond .eq off, q, t)) (hx : -2147483648 ≤ x ∧ x < 2147483648) (kt : x = 0 → Ev Z F t L st h mc ms Q) (kf : ¬ (x = 0) → Ev Z F q L st h mc ms Q) : Ev Z F pc L (zI x :: st) h mc ms Q := by
  intro p e R s m args below meth c H locs cells slots ls hF hR hl hr hS hc hs
  obtain ⟨hx0, hb, hml, hown, hts, hret, hlk, hnm, htb, hW, hEx, hok⟩ := id hF
  obtain ⟨h1, h2, rfl⟩ := zdecJ hok hd off (fun _ _ => rfl)
  refine lv_if_eq hx0 hb h1 h2 (fun hc9 => ?_) (fun hc9 => ?_)
  · exact kt ((zq_eq (y := 0) hx (by decide)).mp hc9) p e R s m args below meth c H locs cells slots ls hF hR hl hr hS hc hs
  · exact kf (fun hn9 => hc9 ((zq_eq (y := 0) hx (by decide)).mpr hn9)) p e R s m args below meth c H locs cells slots ls hF hR hl hr hS hc hs
theorem zz_icmp_ne {x y off : Int} (hd : zT F.2.1 pc = some (.if_icmp .ne off, q, t)) (hx : -2147483648 ≤ x ∧ x < 2147483648) (hy : -2147483648 ≤ y ∧ y < 2147483648) (kt : x ≠ y → Ev Z F t L st h mc ms Q) (kf : x = y → Ev Z F q L st h mc ms Q) : Ev Z F pc L (zI y :: zI x :: st) h mc ms Q := by
  intro p e R s m args below meth c H locs cells slots ls hF hR hl hr hS hc hs
  obtain ⟨hx0, hb, hml, hown, hts, hret, hlk, hnm, htb, hW, hEx, hok⟩ := id hF
  obtain ⟨h1, h2, rfl⟩ := zdecJ hok hd off (fun _ _ => rfl)
  refine lv_icmp_ne hx0 hb h1 h2 (fun hc9 => ?_) (fun hc9 => ?_)
  · exact kt ((zq_ne hx hy).mp hc9) p e R s m args below meth c H locs cells slots ls hF hR hl hr hS hc hs
  · exact kf ((zq_eq hx hy).mp hc9) p e R s m args below meth c H locs cells slots ls hF hR hl hr hS hc hs
theorem zz_if_ne {x off : Int} (hd : zT F.2.1 pc = some (.ifCond .ne off, q, t)) (hx : -2147483648 ≤ x ∧ x < 2147483648) (kt : x ≠ 0 → Ev Z F t L st h mc ms Q) (kf : x = 0 → Ev Z F q L st h mc ms Q) : Ev Z F pc L (zI x :: st) h mc ms Q := by
  intro p e R s m args below meth c H locs cells slots ls hF hR hl hr hS hc hs
  obtain ⟨hx0, hb, hml, hown, hts, hret, hlk, hnm, htb, hW, hEx, hok⟩ := id hF
  obtain ⟨h1, h2, rfl⟩ := zdecJ hok hd off (fun _ _ => rfl)
  refine lv_if_ne hx0 hb h1 h2 (fun hc9 => ?_) (fun hc9 => ?_)
  · exact kt ((zq_ne (y := 0) hx (by decide)).mp hc9) p e R s m args below meth c H locs cells slots ls hF hR hl hr hS hc hs
  · exact kf ((zq_eq (y := 0) hx (by decide)).mp hc9) p e R s m args below meth c H locs cells slots ls hF hR hl hr hS hc hs
theorem zz_icmp_lt {x y off : Int} (hd : zT F.2.1 pc = some (.if_icmp .lt off, q, t)) (hx : -2147483648 ≤ x ∧ x < 2147483648) (hy : -2147483648 ≤ y ∧ y < 2147483648) (kt : x < y → Ev Z F t L st h mc ms Q) (kf : ¬ (x < y) → Ev Z F q L st h mc ms Q) : Ev Z F pc L (zI y :: zI x :: st) h mc ms Q := by
  intro p e R s m args below meth c H locs cells slots ls hF hR hl hr hS hc hs
  obtain ⟨hx0, hb, hml, hown, hts, hret, hlk, hnm, htb, hW, hEx, hok⟩ := id hF
  obtain ⟨h1, h2, rfl⟩ := zdecJ hok hd off (fun _ _ => rfl)
  refine lv_icmp_lt hx0 hb h1 h2 (fun hc9 => ?_) (fun hc9 => ?_)
  · exact kt ((zq_lt hx hy).mp hc9) p e R s m args below meth c H locs cells slots ls hF hR hl hr hS hc hs
  · exact kf (fun hn9 => hc9 ((zq_lt hx hy).mpr hn9)) p e R s m args below meth c H locs cells slots ls hF hR hl hr hS hc hs
theorem zz_if_lt {x off : Int} (hd : zT F.2.1 pc = some (.ifCond .lt off, q, t)) (hx : -2147483648 ≤ x ∧ x < 2147483648) (kt : x < 0 → Ev Z F t L st h mc ms Q) (kf : ¬ (x < 0) → Ev Z F q L st h mc ms Q) : Ev Z F pc L (zI x :: st) h mc ms Q := by
  intro p e R s m args below meth c H locs cells slots ls hF hR hl hr hS hc hs
  obtain ⟨hx0, hb, hml, hown, hts, hret, hlk, hnm, htb, hW, hEx, hok⟩ := id hF
  obtain ⟨h1, h2, rfl⟩ := zdecJ hok hd off (fun _ _ => rfl)
  refine lv_if_lt hx0 hb h1 h2 (fun hc9 => ?_) (fun hc9 => ?_)
  · exact kt ((zq_lt (y := 0) hx (by decide)).mp hc9) p e R s m args below meth c H locs cells slots ls hF hR hl hr hS hc hs
  · exact kf (fun hn9 => hc9 ((zq_lt (y := 0) hx (by decide)).mpr hn9)) p e R s m args below meth c H locs cells slots ls hF hR hl hr hS hc hs
theorem zz_icmp_ge {x y off : Int} (hd : zT F.2.1 pc = some (.if_icmp .ge off, q, t)) (hx : -2147483648 ≤ x ∧ x < 2147483648) (hy : -2147483648 ≤ y ∧ y < 2147483648) (kt : y ≤ x → Ev Z F t L st h mc ms Q) (kf : ¬ (y ≤ x) → Ev Z F q L st h mc ms Q) : Ev Z F pc L (zI y :: zI x :: st) h mc ms Q := by
  intro p e R s m args below meth c H locs cells slots ls hF hR hl hr hS hc hs
  obtain ⟨hx0, hb, hml, hown, hts, hret, hlk, hnm, htb, hW, hEx, hok⟩ := id hF
  obtain ⟨h1, h2, rfl⟩ := zdecJ hok hd off (fun _ _ => rfl)
  refine lv_icmp_ge hx0 hb h1 h2 (fun hc9 => ?_) (fun hc9 => ?_)
  · exact kt ((zq_ge hx hy).mp hc9) p e R s m args below meth c H locs cells slots ls hF hR hl hr hS hc hs
  · exact kf (fun hn9 => hc9 ((zq_ge hx hy).mpr hn9)) p e R s m args below meth c H locs cells slots ls hF hR hl hr hS hc hs
theorem zz_if_ge {x off : Int} (hd : zT F.2.1 pc = some (.ifCond .ge off, q, t)) (hx : -2147483648 ≤ x ∧ x < 2147483648) (kt : 0 ≤ x → Ev Z F t L st h mc ms Q) (kf : ¬ (0 ≤ x) → Ev Z F q L st h mc ms Q) : Ev Z F pc L (zI x :: st) h mc ms Q := by
  intro p e R s m args below meth c H locs cells slots ls hF hR hl hr hS hc hs
  obtain ⟨hx0, hb, hml, hown, hts, hret, hlk, hnm, htb, hW, hEx, hok⟩ := id hF
  obtain ⟨h1, h2, rfl⟩ := zdecJ hok hd off (fun _ _ => rfl)
  refine lv_if_ge hx0 hb h1 h2 (fun hc9 => ?_) (fun hc9 => ?_)
  · exact kt ((zq_ge (y := 0) hx (by decide)).mp hc9) p e R s m args below meth c H locs cells slots ls hF hR hl hr hS hc hs
  · exact kf (fun hn9 => hc9 ((zq_ge (y := 0) hx (by decide)).mpr hn9)) p e R s m args below meth c H locs cells slots ls hF hR hl hr hS hc hs
theorem zz_icmp_gt {x y off : Int} (hd : zT F.2.1 pc = some (.if_icmp .gt off, q, t)) (hx : -2147483648 ≤ x ∧ x < 2147483648) (hy : -2147483648 ≤ y ∧ y < 2147483648) (kt : y < x → Ev Z F t L st h mc ms Q) (kf : ¬ (y < x) → Ev Z F q L st h mc ms Q) : Ev Z F pc L (zI y :: zI x :: st) h mc ms Q := by
  intro p e R s m args below meth c H locs cells slots ls hF hR hl hr hS hc hs
  obtain ⟨hx0, hb, hml, hown, hts, hret, hlk, hnm, htb, hW, hEx, hok⟩ := id hF
  obtain ⟨h1, h2, rfl⟩ := zdecJ hok hd off (fun _ _ => rfl)
  refine lv_icmp_gt hx0 hb h1 h2 (fun hc9 => ?_) (fun hc9 => ?_)
  · exact kt ((zq_gt hx hy).mp hc9) p e R s m args below meth c H locs cells slots ls hF hR hl hr hS hc hs
  · exact kf (fun hn9 => hc9 ((zq_gt hx hy).mpr hn9)) p e R s m args below meth c H locs cells slots ls hF hR hl hr hS hc hs
theorem zz_if_gt {x off : Int} (hd : zT F.2.1 pc = some (.ifCond .gt off, q, t)) (hx : -2147483648 ≤ x ∧ x < 2147483648) (kt : 0 < x → Ev Z F t L st h mc ms Q) (kf : ¬ (0 < x) → Ev Z F q L st h mc ms Q) : Ev Z F pc L (zI x :: st) h mc ms Q := by
  intro p e R s m args below meth c H locs cells slots ls hF hR hl hr hS hc hs
  obtain ⟨hx0, hb, hml, hown, hts, hret, hlk, hnm, htb, hW, hEx, hok⟩ := id hF
  obtain ⟨h1, h2, rfl⟩ := zdecJ hok hd off (fun _ _ => rfl)
  refine lv_if_gt hx0 hb h1 h2 (fun hc9 => ?_) (fun hc9 => ?_)
  · exact kt ((zq_gt (y := 0) hx (by decide)).mp hc9) p e R s m args below meth c H locs cells slots ls hF hR hl hr hS hc hs
  · exact kf (fun hn9 => hc9 ((zq_gt (y := 0) hx (by decide)).mpr hn9)) p e R s m args below meth c H locs cells slots ls hF hR hl hr hS hc hs
theorem zz_icmp_le {x y off : Int} (hd : zT F.2.1 pc = some (.if_icmp .le off, q, t)) (hx : -2147483648 ≤ x ∧ x < 2147483648) (hy : -2147483648 ≤ y ∧ y < 2147483648) (kt : x ≤ y → Ev Z F t L st h mc ms Q) (kf : ¬ (x ≤ y) → Ev Z F q L st h mc ms Q) : Ev Z F pc L (zI y :: zI x :: st) h mc ms Q := by
  intro p e R s m args below meth c H locs cells slots ls hF hR hl hr hS hc hs
  obtain ⟨hx0, hb, hml, hown, hts, hret, hlk, hnm, htb, hW, hEx, hok⟩ := id hF
  obtain ⟨h1, h2, rfl⟩ := zdecJ hok hd off (fun _ _ => rfl)
  refine lv_icmp_le hx0 hb h1 h2 (fun hc9 => ?_) (fun hc9 => ?_)
  · exact kt ((zq_le hx hy).mp hc9) p e R s m args below meth c H locs cells slots ls hF hR hl hr hS hc hs
  · exact kf (fun hn9 => hc9 ((zq_le hx hy).mpr hn9)) p e R s m args below meth c H locs cells slots ls hF hR hl hr hS hc hs
theorem zz_if_le {x off : Int} (hd : zT F.2.1 pc = some (.ifCond .le off, q, t)) (hx : -2147483648 ≤ x ∧ x < 2147483648) (kt : x ≤ 0 → Ev Z F t L st h mc ms Q) (kf : ¬ (x ≤ 0) → Ev Z F q L st h mc ms Q) : Ev Z F pc L (zI x :: st) h mc ms Q := by
  intro p e R s m args below meth c H locs cells slots ls hF hR hl hr hS hc hs
  obtain ⟨hx0, hb, hml, hown, hts, hret, hlk, hnm, htb, hW, hEx, hok⟩ := id hF
  obtain ⟨h1, h2, rfl⟩ := zdecJ hok hd off (fun _ _ => rfl)
  refine lv_if_le hx0 hb h1 h2 (fun hc9 => ?_) (fun hc9 => ?_)
  · exact kt ((zq_le (y := 0) hx (by decide)).mp hc9) p e R s m args below meth c H locs cells slots ls hF hR hl hr hS hc hs
  · exact kf (fun hn9 => hc9 ((zq_le (y := 0) hx (by decide)).mpr hn9)) p e R s m args below meth c H locs cells slots ls hF hR hl hr hS hc hs
/-- a truth value on the stack -/
abbrev zb (P : Prop) [Decidable P] : Int := if P then 1 else 0
theorem zb_rg (P : Prop) [Decidable P] : -2147483648 ≤ zb P ∧ zb P < 2147483648 := by
  unfold zb; split <;> decide
theorem zz_ifB_eq {P : Prop} [Decidable P] {off : Int} (hd : zT F.2.1 pc = some (.ifCond .eq off, q, t)) (kt : ¬ P → Ev Z F t L st h mc ms Q) (kf : P → Ev Z F q L st h mc ms Q) : Ev Z F pc L (zI (zb P) :: st) h mc ms Q := by
  refine zz_if_eq hd (zb_rg P) (fun h9 => kt (fun hp => ?_)) (fun h9 => kf ?_)
  · rw [zb, if_pos hp] at h9; cases h9
  · by_cases hp : P
    · exact hp
    · exact absurd (if_neg hp) h9
theorem zz_ifB_ne {P : Prop} [Decidable P] {off : Int} (hd : zT F.2.1 pc = some (.ifCond .ne off, q, t)) (kt : P → Ev Z F t L st h mc ms Q) (kf : ¬ P → Ev Z F q L st h mc ms Q) : Ev Z F pc L (zI (zb P) :: st) h mc ms Q := by
  refine zz_if_ne hd (zb_rg P) (fun h9 => kt ?_) (fun h9 => kf (fun hp => ?_))
  · by_cases hp : P
    · exact hp
    · exact absurd (if_neg hp) h9
  · rw [zb, if_pos hp] at h9; cases h9
theorem zz_goto {off : Int} (hd : zT F.2.1 pc = some (.goto off, q, t)) (k : Ev Z F t L st h mc ms Q) : Ev Z F pc L st h mc ms Q := by
  intro p e R s m args below meth c H locs cells slots ls hF hR hl hr hS hc hs
  obtain ⟨hx, hb, hml, hown, hts, hret, hlk, hnm, htb, hW, hEx, hok⟩ := id hF
  obtain ⟨h1, h2, rfl⟩ := zdecJ hok hd off (fun _ _ => rfl)
  refine lv_goto hx hb h1 h2 ?_
  exact k p e R s m args below meth c H locs cells slots ls hF hR hl hr hS hc hs
theorem zz_ifnull {off : Int} {a : Nat} (hd : zT F.2.1 pc = some (.ifnull off, q, t)) (k : Ev Z F q L st h mc ms Q) : Ev Z F pc L (.ref a :: st) h mc ms Q := by
  intro p e R s m args below meth c H locs cells slots ls hF hR hl hr hS hc hs
  obtain ⟨hx, hb, hml, hown, hts, hret, hlk, hnm, htb, hW, hEx, hok⟩ := id hF
  obtain ⟨h1, h2, rfl⟩ := zdecJ hok hd off (fun _ _ => rfl)
  refine lv_ifnull hx hb h1 ?_
  exact k p e R s m args below meth c H locs cells slots ls hF hR hl hr hS hc hs
theorem zz_ifnullN {off : Int} (hd : zT F.2.1 pc = some (.ifnull off, q, t)) (k : Ev Z F t L st h mc ms Q) : Ev Z F pc L (.null :: st) h mc ms Q := by
  intro p e R s m args below meth c H locs cells slots ls hF hR hl hr hS hc hs
  obtain ⟨hx, hb, hml, hown, hts, hret, hlk, hnm, htb, hW, hEx, hok⟩ := id hF
  obtain ⟨h1, h2, rfl⟩ := zdecJ hok hd off (fun _ _ => rfl)
  refine lv_ifnullN hx hb h1 h2 ?_
  exact k p e R s m args below meth c H locs cells slots ls hF hR hl hr hS hc hs
theorem zz_ifnonnull {off : Int} {a : Nat} (hd : zT F.2.1 pc = some (.ifnonnull off, q, t)) (k : Ev Z F t L st h mc ms Q) : Ev Z F pc L (.ref a :: st) h mc ms Q := by
  intro p e R s m args below meth c H locs cells slots ls hF hR hl hr hS hc hs
  obtain ⟨hx, hb, hml, hown, hts, hret, hlk, hnm, htb, hW, hEx, hok⟩ := id hF
  obtain ⟨h1, h2, rfl⟩ := zdecJ hok hd off (fun _ _ => rfl)
  refine lv_ifnonnull hx hb h1 h2 ?_
  exact k p e R s m args below meth c H locs cells slots ls hF hR hl hr hS hc hs
theorem zz_ifnonnullN {off : Int} (hd : zT F.2.1 pc = some (.ifnonnull off, q, t)) (k : Ev Z F q L st h mc ms Q) : Ev Z F pc L (.null :: st) h mc ms Q := by
  intro p e R s m args below meth c H locs cells slots ls hF hR hl hr hS hc hs
  obtain ⟨hx, hb, hml, hown, hts, hret, hlk, hnm, htb, hW, hEx, hok⟩ := id hF
  obtain ⟨h1, h2, rfl⟩ := zdecJ hok hd off (fun _ _ => rfl)
  refine lv_ifnonnullN hx hb h1 ?_
  exact k p e R s m args below meth c H locs cells slots ls hF hR hl hr hS hc hs
theorem zz_tsw {x dflt lo hi off : Int} {offs : Array Int} {tg : Nat} (hd : zT F.2.1 pc = some (.tableswitch dflt lo hi offs, q, t)) (hx : -2147483648 ≤ x ∧ x < 2147483648) (hlo : lo ≤ x) (hhi : x ≤ hi) (ho : offs[(x - lo).toNat]? = some off) (ht : (pc : Int) + off = (tg : Int)) (k : Ev Z F tg L st h mc ms Q) : Ev Z F pc L (zI x :: st) h mc ms Q := by
  intro p e R s m args below meth c H locs cells slots ls hF hR hl hr hS hc hs
  obtain ⟨hx0, hb, hml, hown, hts, hret, hlk, hnm, htb, hW, hEx, hok⟩ := id hF
  have h1 := (hok pc _ q t hd).1
  have hz : (Int32.ofInt x).toInt = x := zq_toInt hx
  refine lv_tableIn hx0 hb h1 (by rw [hz]; omega) (by rw [hz]; omega) (by rw [hz]; exact ho) ht ?_
  exact k p e R s m args below meth c H locs cells slots ls hF hR hl hr hS hc hs
theorem zz_tswD {x dflt lo hi : Int} {offs : Array Int} {tg : Nat} (hd : zT F.2.1 pc = some (.tableswitch dflt lo hi offs, q, t)) (hx : -2147483648 ≤ x ∧ x < 2147483648) (hout : x < lo ∨ hi < x) (ht : (pc : Int) + dflt = (tg : Int)) (k : Ev Z F tg L st h mc ms Q) : Ev Z F pc L (zI x :: st) h mc ms Q := by
  intro p e R s m args below meth c H locs cells slots ls hF hR hl hr hS hc hs
  obtain ⟨hx0, hb, hml, hown, hts, hret, hlk, hnm, htb, hW, hEx, hok⟩ := id hF
  have h1 := (hok pc _ q t hd).1
  have hz : (Int32.ofInt x).toInt = x := zq_toInt hx
  refine lv_tableOut hx0 hb h1 (by rw [hz]; exact hout) ht ?_
  exact k p e R s m args below meth c H locs cells slots ls hF hR hl hr hS hc hs
theorem zz_lsw {x dflt off : Int} {ps : Array (Int × Int)} {tg : Nat} (hd : zT F.2.1 pc = some (.lookupswitch dflt ps, q, t)) (hx : -2147483648 ≤ x ∧ x < 2147483648) (hp : (ps.toList.zip (ps.toList.drop 1)).all (fun (a, next) => a.1 < next.1) = true) (ho : Op.lookupswitch.offset ps.toList dflt x = off) (ht : (pc : Int) + off = (tg : Int)) (k : Ev Z F tg L st h mc ms Q) : Ev Z F pc L (zI x :: st) h mc ms Q := by
  intro p e R s m args below meth c H locs cells slots ls hF hR hl hr hS hc hs
  obtain ⟨hx0, hb, hml, hown, hts, hret, hlk, hnm, htb, hW, hEx, hok⟩ := id hF
  have h1 := (hok pc _ q t hd).1
  have hz : (Int32.ofInt x).toInt = x := zq_toInt hx
  refine lv_lookup hx0 hb h1 hp (by rw [hz]; exact ho) ht ?_
  exact k p e R s m args below meth c H locs cells slots ls hF hR hl hr hS hc hs
end ZR2
