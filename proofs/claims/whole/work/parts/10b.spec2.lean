/-! ===== more rows; rows of bits; heaps that grow ===== -/
abbrev zrg (v : Int) : Prop := -2147483648 ≤ v ∧ v < 2147483648
abbrev zIAE : String := "java/lang/IllegalArgumentException"
abbrev zISE : String := "java/lang/IllegalStateException"
abbrev zNSE : String := "java/util/NoSuchElementException"
abbrev zIOB : String := "java/lang/IndexOutOfBoundsException"
abbrev zRq (P : Prop) (E : String) (h : ZH) : ZR → ZH → Prop := fun r h' => h' = h ∧ ((P ∧ r = .inl none) ∨ (¬ P ∧ r = .inr E))
section ZX2
variable {Z : ZC} {F : ZF} {pc q t : Nat} {L st : List Value} {h : ZH} {mc ms : Nat} {Q : ZR → ZH → Prop}
theorem zz_Srq {M' : MI} {d' mc' ms' n idx : Nat} {av rest : List Value} {P : Prop} {E : String} (hd : zT F.2.1 pc = some (.invokestatic idx, q, t)) (hk : Cond.methodLink (zy F.2.1).cls idx (zy M') ∈ zG ∧ Cond.static (zy M') ∈ zG) (hw : zCw M' n) (hc9 : Ct Z M' d' mc' ms' av h (zRq P E h)) (hn : av.length = n) (hst : st = av.reverse ++ rest) (h8 : Nat.ble ((rest.map fun v => v.category).sum) 8 = true) (hdd : Nat.blt d' F.2.2.1 = true) (hh : zhh F.2.1 = [])
    (kf : ¬ P → Q (.inr E) h) (kt : P → Ev Z F q L rest h mc ms Q) : Ev Z F pc L st h (mc + mc') (ms + ms') Q := by
  refine zz_S hd hk hw hc9 hn hst h8 hdd ?_
  rintro r h' ⟨rfl, ⟨hp, rfl⟩ | ⟨hp, rfl⟩⟩
  · exact kt hp
  · exact zx_out hh (kf hp)
end ZX2
def zext (h h' : ZH) : Prop := ∀ q e, h q = some e → h' q = some e
theorem zext.rf {h : ZH} : zext h h := fun _ _ h => h
theorem zext.tr {h h1 h2 : ZH} (a : zext h h1) (b : zext h1 h2) : zext h h2 := fun q e hq => b q e (a q e hq)
theorem zext.mk {h : ZH} {a : Nat} {e : ZE} (ha : h a = none) : zext h (zset h a e) := fun q x hq => by
  rw [zset_ne (zne ha hq)]; exact hq
theorem zext.set {h h1 : ZH} {a : Nat} {e : ZE} (b : zext h h1) (ha : h a = none) : zext h (zset h1 a e) := fun q x hq => by
  rw [zset_ne (zne ha hq)]; exact b q x hq
theorem zext.fr {h h1 : ZH} (b : zext h h1) {a : Nat} (ha : h1 a = none) : h a = none := by
  cases hh : h a with
  | none => rfl
  | some e => rw [b a e hh] at ha; cases ha
def zcn (R : Nat → Nat) : Nat → Int := fun i => (R i : Int)
def zun (R : Nat → Nat) (i v : Nat) : Nat → Nat := fun j => if j = i then v else R j
theorem zup_cn (R : Nat → Nat) (i v : Nat) : zup (zcn R) i (v : Int) = zcn (zun R i v) := by
  funext j
  by_cases hj : j = i <;> simp [zup, zcn, zun, hj]
/-- the row y of places; none beyond -/
def zrw (R : Nat → Nat) (ht : Nat) (y : Int) : Nat := if 0 ≤ y ∧ y < (ht : Int) then R y.toNat else 0
abbrev zhp (R : Nat → Nat) (w ht : Nat) (x y : Int) : Prop := 0 ≤ x ∧ x < (w : Int) ∧ (zrw R ht y : Int) / 2 ^ x.toNat % 2 ≠ 0
abbrev zbox (x y w h : Int) : Prop := 0 ≤ x ∧ x < w ∧ 0 ≤ y ∧ y < h
abbrev isPl (h : ZH) (a ra w ht : Nat) (R : Nat → Nat) : Prop := h a = some (zo 2 [zI w, .ref ra]) ∧ h ra = some (zi 0 ht (zcn R))
abbrev isLy (h : ZH) (a da w ht : Nat) (f : Nat → Int) (md op vs : Int) : Prop := h a = some (zo 3 [zI w, zI ht, .ref da, zI md, zI op, zI vs]) ∧ h da = some (zi 0 (w * ht) f)
def zhv (side k : Int) : Int := (side + 2 ^ k.toNat - 1) / 2 ^ k.toNat
theorem zpw_rg {k : Int} (hk : 0 ≤ k ∧ k ≤ 3) : 1 ≤ (2 : Int) ^ k.toNat ∧ (2 : Int) ^ k.toNat ≤ 8 := by
  have h : k = 0 ∨ k = 1 ∨ k = 2 ∨ k = 3 := by omega
  rcases h with rfl | rfl | rfl | rfl <;> decide
def zldt (f : Nat → Int) (w ht : Nat) (x y : Int) : Int := if zbox x y w ht then f (y * w + x).toNat else 0
theorem zidx {x y : Int} {w ht : Nat} (h : zbox x y w ht) : 0 ≤ y * w + x ∧ y * w + x < ((w * ht : Nat) : Int) := by
  obtain ⟨h1, h2, h3, h4⟩ := h
  have h5 : 0 ≤ y * (w : Int) := Int.mul_nonneg h3 (by omega)
  have h6 : (y + 1) * (w : Int) ≤ (ht : Int) * w := Int.mul_le_mul_of_nonneg_right (by omega) (by omega)
  rw [Int.add_mul] at h6
  have h7 : ((w * ht : Nat) : Int) = (ht : Int) * w := by rw [Nat.mul_comm]; simp
  omega
