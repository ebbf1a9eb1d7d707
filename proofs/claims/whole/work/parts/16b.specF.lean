/-! ===== a method of the JDK that no entry runs instead ===== -/
theorem vx_ofWF {l : Launch} {y : MethodName} {ws ws' : List Cond} {rm : Room} {Pc : Array Value → State → Prop} {Qc : Array Value → State → Outcome → State → Prop} {XC : String → State → State → Prop} {mc ms : Nat} {free : Addr → Prop} {cc : ByteArray} {maxL : Nat} {ret : Option FieldType}
    (hy : plainFor y = true) (hw : ws = Cond.code y cc maxL ret :: ws')
    (body : ∀ p e s m args below meth c s₁, BodyLoose p l y (headSpec ws rm) cc maxL ret e s m args below meth c s₁ → c.maxLocals = maxL → (∀ x ∈ c.exceptionTable.toList, False) → Pc args s →
      W p l e (headSpec ws rm).room s m args below meth c s.heap [] 0 0 (vx_MQ below Qc XC args s mc ms free) (entryFrame m args maxL)) : vx_Met l y ws rm Pc Qc XC mc ms free := by
  refine MetFree.of_bodySF (code := cc) (maxLocals := maxL) (ret := ret) hy ?_ ?_
  · intro args s m h hn
    obtain ⟨meth, c, h1, h2, h3, h4, h5, h6, -, -⟩ := Cond.code_spec hn (atoms_spec (ws := ws) h _ (by rw [hw]; exact List.mem_cons_self))
    exact ⟨meth, c, h1, h2, h3, h4, h5, h6⟩
  · intro p e s m args below meth c s₁ B hml hP _
    have hh0 : s₁.heap = s.heap := by rw [B.state]; rfl
    have ht : ∀ x ∈ c.exceptionTable.toList, False := by
      obtain ⟨meth9, c9, h1, h2, -, -, -, -, h7, -⟩ := Cond.code_spec B.named (atoms_spec (ws := ws) B.pre _ (by rw [hw]; exact List.mem_cons_self))
      cases Option.some.inj (h1.symm.trans B.method)
      cases Option.some.inj (h2.symm.trans (Stand.of_body B).code)
      intro x hx
      rw [Array.isEmpty_iff.mp h7] at hx
      cases hx
    obtain ⟨t, a1, o, b1, b2, b3⟩ := body p e s m args below meth c s₁ B hml ht hP s₁ hh0 (Stand.of_body B)
    exact ⟨t, o, a1, b1, b2, b3⟩
theorem zctF {Z : ZC} {M : MI} {d mc ms : Nat} {av : List Value} {h : ZH} {Q : ZR → ZH → Prop} (hh : zhh M = []) (hy : plainFor (zy M) = true) (hok : zok M) (hav0 : (av.all fun v => Nat.beq v.category 1) = true) (hlen0 : Nat.ble av.length (znL M) = true)
    (k : Ev Z (fun _ => True, M, d, mc, ms) 0 av [] h mc ms Q) : Ct Z M d mc ms av h Q := by
  have hav : ∀ v ∈ av, v.category = 1 := fun v hv => Nat.eq_of_beq_eq_true (List.all_eq_true.mp hav0 v hv)
  have hlen : av.length ≤ znL M := Nat.le_of_ble_eq_true hlen0
  have hcw : zcw M = .code (zy M) (zcc M) (znL M) (zret M) := by unfold zcw; rw [hh]
  unfold Ct
  refine vx_ofWF (cc := zcc M) (maxL := znL M) (ret := zret M) (ws' := zG) hy (by rw [hcw]) ?_
  intro p e s m args below meth c s₁ B hml ht hP
  obtain ⟨rfl, hW, hr⟩ := hP
  have hts : ∀ w ∈ zG, w.before av.toArray s = true := fun w hw => atoms_spec (ws := zcw M :: zG) B.pre w (List.mem_cons_of_mem _ hw)
  have hl := lv_entry av (n := znL M) (by rw [lg_sl_len av hav]; exact hlen)
  rw [lg_entry_eq]
  refine k p e _ s m av.toArray below meth c s.heap [] 0 0 _ ⟨B.exec, B.bytes, hml, findClass_of_methodNamed B.named, hts, B.returns, B.notSynchronized, (name_of_methodNamed B.named B.method).1, ?_, hW, trivial, hok⟩ ⟨Nat.le_refl _, Nat.le_refl _, Nat.le_refl _, Nat.le_refl _⟩ (lv_mono hl (zls_args av 0 hav)) hr va_S.rf (by show 0 + mc ≤ mc; omega) (by show 0 + ms ≤ ms; omega)
  rw [hh]
  cases hE : c.exceptionTable.toList with
  | nil => rfl
  | cons x t => exact (ht x (by rw [hE]; exact List.mem_cons_self)).elim
theorem zlcg {a b : Int} : (0 < (if b < a then (1 : Int) else if a = b then 0 else -1)) ↔ b < a := by
  by_cases h : b < a
  · simp [h]
  · rw [if_neg h]
    by_cases h2 : a = b
    · rw [if_pos h2]; omega
    · rw [if_neg h2]; omega
