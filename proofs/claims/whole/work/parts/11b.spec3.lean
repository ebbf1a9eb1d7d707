/-! ===== heaps, arrays that are filled up ===== -/
section ZX3
variable {Z : ZC} {F : ZF} {pc q t : Nat} {L st : List Value} {h : ZH} {mc ms : Nat} {Q : ZR → ZH → Prop}
theorem zz_tv {v v' : Value} (he : v = v') (k : Ev Z F pc L (v' :: st) h mc ms Q) : Ev Z F pc L (v :: st) h mc ms Q := he ▸ k
end ZX3
theorem zget {h : ZH} {a q : Nat} {e e' : ZE} (hq : h q = none) (ha : h a = some e) : zset h q e' a = some e := by rw [zset_ne (zne hq ha)]; exact ha
theorem zset_mid (h : ZH) {a b : Nat} (e f e' : ZE) (hab : a ≠ b) : zset (zset (zset h a e) b f) a e' = zset (zset h b f) a e' := by
  rw [zset_comm h e f hab, zset_set]
theorem zset_none {h : ZH} {a b : Nat} {e : ZE} (hb : zset h a e b = none) : h b = none ∧ b ≠ a := by
  by_cases hq : b = a
  · subst hq; rw [zset_same] at hb; cases hb
  · rw [zset_ne hq] at hb; exact ⟨hb, hq⟩
theorem zset_nn {h : ZH} {a b : Nat} {e : ZE} (hb : h b = none) (hq : b ≠ a) : zset h a e b = none := by rw [zset_ne hq]; exact hb
def zfil (n : Nat) (t : Nat → Value) : Nat → Value := fun i => if i < n then t i else .null
theorem zfil_0 (t : Nat → Value) : (fun _ => Value.null) = zfil 0 t := by funext i; simp [zfil]
theorem zfil_up {t : Nat → Value} {k : Int} {v : Value} (hk : 0 ≤ k) (hv : v = t k.toNat) : zuv (zfil k.toNat t) k.toNat v = zfil (k + 1).toNat t := by
  subst hv
  funext i
  have e : (k + 1).toNat = k.toNat + 1 := by omega
  rw [e]
  by_cases hi : i = k.toNat
  · subst hi; simp [zuv, zfil]
  · by_cases h2 : i < k.toNat
    · have h3 : i < k.toNat + 1 := by omega
      simp [zuv, zfil, hi, h2, h3]
    · have h3 : ¬ i < k.toNat + 1 := by omega
      simp [zuv, zfil, hi, h2, h3]
/-- n layers, all of them objects -/
abbrev isLa (h : ZH) (la n : Nat) (lf : Nat → Value) : Prop := h la = some (za 3 n lf) ∧ ∀ i, i < n → ∃ b fs, lf i = .ref b ∧ h b = some (zo 3 fs)
theorem zkne {h : ZH} {a b : Nat} {e f : ZE} (ha : h a = some e) (hb : h b = some f) (hef : e ≠ f) : a ≠ b := by
  intro hab
  subst hab
  rw [ha] at hb
  exact hef (Option.some.inj hb)
theorem zkao {k n : Nat} {f : Nat → Value} {c : Nat} {fs : List Value} : za k n f ≠ zo c fs := fun h => by cases h
theorem zkoa {k n : Nat} {f : Nat → Value} {c : Nat} {fs : List Value} : zo c fs ≠ za k n f := fun h => by cases h
theorem zkio {g n : Nat} {f : Nat → Int} {c : Nat} {fs : List Value} : zi g n f ≠ zo c fs := fun h => by cases h
theorem zkoi {g n : Nat} {f : Nat → Int} {c : Nat} {fs : List Value} : zo c fs ≠ zi g n f := fun h => by cases h
theorem zkai {k n g m : Nat} {f : Nat → Value} {f' : Nat → Int} : za k n f ≠ zi g m f' := fun h => by cases h
theorem zkia {k n g m : Nat} {f : Nat → Value} {f' : Nat → Int} : zi g m f' ≠ za k n f := fun h => by cases h
theorem zkoo {c c' : Nat} {fs fs' : List Value} (hc : c ≠ c') : zo c fs ≠ zo c' fs' := fun h => by cases h; exact hc rfl
theorem zkaa {k k' n n' : Nat} {f f' : Nat → Value} (hc : k ≠ k') : za k n f ≠ za k' n' f' := fun h => by cases h; exact hc rfl
/-- another cell, of another kind -/
theorem zoth {h : ZH} {a b : Nat} {e f g : ZE} (ha : h a = some e) (hb : h b = some f) (hef : e ≠ f) : zset h a g b = some f := by
  rw [zset_ne (zkne hb ha hef.symm)]; exact hb
theorem cl_Painting_34 : Cond.classLink "TileStudio$Painting" 34 "[I" ∈ zG := zG_T 430 (by decide +kernel) (by decide +kernel)
theorem zz_castA {Z : ZC} {F : ZF} {pc q t : Nat} {L st : List Value} {h : ZH} {mc ms : Nat} {Q : ZR → ZH → Prop} {idx a g n : Nat} {f : Nat → Int} (hd : zT F.2.1 pc = some (.checkcast idx, q, t)) (hlink : Cond.classLink (zy F.2.1).cls idx "[I" ∈ zG) (ha : h a = some (zi g n f)) (k : Ev Z F q L (.ref a :: st) h mc ms Q) : Ev Z F pc L (.ref a :: st) h mc ms Q := by
  intro p e R s m args below meth c H locs cells slots ls hF hR hl hr hS hc hs
  obtain ⟨hx, hb, hml, hown, hts, hret, hlk, hnm, htb, hW, hEx, hok⟩ := id hF
  obtain ⟨h1, rfl⟩ := zdec hok hd 3 (fun _ _ => rfl)
  have hP : va_P Z.2.1 zcls [(a, .inl (Z.2.2.1 0, n, .inl (fun i => Int32.ofInt (f i))))] H := by
    intro k q hq
    have hz : k < 1 := (List.getElem?_eq_some_iff.mp hq).1
    rw [show k = 0 by omega] at hq
    cases hq
    exact (hr a _ ha).1
  exact va_castA hx hb hown (hts _ hlink) hP 0 rfl (hW.1.2 0 _ rfl).2 h1 (k p e R s m args below meth c H locs cells slots ls hF hR hl hr hS hc hs)
abbrev isHi (h : ZH) (hi pa : Nat) (pr la : Int) (pf : Nat → Value) : Prop := h hi = some (zo 7 [.ref pa, zI pr, zI la]) ∧ h pa = some (za 4 7 pf)
def zsh (pf : Nat → Value) (k : Int) : Nat → Value := fun i => if (i : Int) + 1 < k then pf (i + 1) else pf i
theorem zsh_1 (pf : Nat → Value) : pf = zsh pf 1 := by
  funext i
  unfold zsh
  rw [if_neg (by omega)]
theorem zsh_up {pf : Nat → Value} {k : Int} (hk : 1 ≤ k) {v : Value} (hv : v = pf k.toNat) : zuv (zsh pf k) (k - 1).toNat v = zsh pf (k + 1) := by
  subst hv
  funext i
  unfold zuv zsh
  by_cases hi : i = (k - 1).toNat
  · rw [if_pos hi, if_pos (by omega)]
    congr 1
    omega
  · rw [if_neg hi]
    by_cases h2 : (i : Int) + 1 < k
    · rw [if_pos h2, if_pos (by omega)]
    · rw [if_neg h2, if_neg (by omega)]
/-- a tool at work -/
abbrev isPt (h : ZH) (p pc la sa ra bf da af w ht : Nat) (pos : Int) (R : Nat → Nat) (f g : Nat → Int) (md op vs : Int) : Prop :=
  h p = some (zo 5 [.ref pc, zI pos, .ref bf, .ref af]) ∧ h pc = some (zo 4 [zI w, zI ht, .ref la, .ref sa]) ∧ isPl h sa ra w ht R ∧ isLy h bf da w ht f md op vs ∧ h af = some (zi 0 (w * ht) g) ∧ af ≠ ra ∧ af ≠ da
theorem isPt.up {h : ZH} {p pc la sa ra bf da af w ht : Nat} {pos : Int} {R : Nat → Nat} {f g : Nat → Int} {md op vs : Int} (hp : isPt h p pc la sa ra bf da af w ht pos R f g md op vs) (g' : Nat → Int) : isPt (zset h af (zi 0 (w * ht) g')) p pc la sa ra bf da af w ht pos R f g' md op vs := by
  obtain ⟨h1, h2, ⟨h3, h4⟩, ⟨h5, h6⟩, h7, h8, h9⟩ := hp
  refine ⟨zoth h7 h1 zkio, zoth h7 h2 zkio, ⟨zoth h7 h3 zkio, ?_⟩, ⟨zoth h7 h5 zkio, ?_⟩, zset_same _ _ _, h8, h9⟩
  · rw [zset_ne h8.symm]; exact h4
  · rw [zset_ne h9.symm]; exact h6
