/-! ===== selections joined; places that are alike; discs, lines ===== -/
theorem isPl.oth {h : ZH} {a ra w ht q m : Nat} {R : Nat → Nat} {r : Nat → Int} {e : ZE} (hp : isPl h a ra w ht R) (hq : h q = some (zi 0 m r)) (h1 : q ≠ ra) : isPl (zset h q e) a ra w ht R := ⟨zoth hq hp.1 zkio, by rw [zset_ne h1.symm]; exact hp.2⟩
theorem isPl.fr {h : ZH} {a ra w ht q : Nat} {R : Nat → Nat} {e : ZE} (hp : isPl h a ra w ht R) (hq : h q = none) : isPl (zset h q e) a ra w ht R := ⟨zget hq hp.1, zget hq hp.2⟩
theorem zset_low (h : ZH) {a b : Nat} (e f e' : ZE) (hab : a ≠ b) : zset (zset (zset h b e) a f) b e' = zset (zset h b e') a f := by
  rw [zset_comm (zset h b e) f e' hab, zset_set]
def zjs (A B : Nat → Nat) (how : Int) (k : Int) : Nat → Nat := fun j => if (j : Int) < k then zjr (A j) (B j) how else 0
theorem zjs_0 (A B : Nat → Nat) (how : Int) : (fun _ => 0) = zjs A B how 0 := by
  funext j
  unfold zjs
  rw [if_neg (by omega)]
theorem zjs_up {A B : Nat → Nat} {how k : Int} (hk : 0 ≤ k) : zup (zcn (zjs A B how k)) k.toNat ((zjr (A k.toNat) (B k.toNat) how : Nat) : Int) = zcn (zjs A B how (k + 1)) := by
  rw [zup_cn]
  congr 1
  funext j
  unfold zun zjs
  by_cases hj : j = k.toNat
  · rw [if_pos hj, if_pos (by omega), hj]
  · rw [if_neg hj]
    by_cases h2 : (j : Int) < k
    · rw [if_pos h2, if_pos (by omega)]
    · rw [if_neg h2, if_neg (by omega)]
/-- R' holds the places of R, and those of S -/
def zcv (R R' : Nat → Nat) (w ht : Nat) (S : Int → Int → Prop) : Prop := (∀ i j : Nat, i < w → j < ht → ((R' j).testBit i = true ↔ (R j).testBit i = true ∨ S i j)) ∧ ∀ j, R' j < 2 ^ w
theorem zcv.add {R R' : Nat → Nat} {w ht : Nat} {S S' : Int → Int → Prop} {x y : Int} (hc : zcv R R' w ht S) (hb : zbox x y w ht) (hS : ∀ i j : Nat, i < w → j < ht → (S' i j ↔ S i j ∨ ((i : Int) = x ∧ (j : Int) = y))) : zcv R (zun R' y.toNat (R' y.toNat ||| 2 ^ x.toNat)) w ht S' := by
  obtain ⟨h1, h2, h3, h4⟩ := hb
  refine ⟨fun i j hi hj => ?_, fun j => ?_⟩
  · rw [hS i j hi hj]
    have h5 := hc.1 i j hi hj
    unfold zun
    by_cases hj2 : j = y.toNat
    · rw [if_pos hj2, ← hj2, Nat.testBit_or, Nat.testBit_two_pow, Bool.or_eq_true, h5, decide_eq_true_eq]
      constructor
      · rintro ((h6 | h6) | h6)
        · exact Or.inl h6
        · exact Or.inr (Or.inl h6)
        · exact Or.inr (Or.inr ⟨by omega, by omega⟩)
      · rintro (h6 | h6 | h6)
        · exact Or.inl (Or.inl h6)
        · exact Or.inl (Or.inr h6)
        · exact Or.inr (by omega)
    · rw [if_neg hj2, h5]
      constructor
      · rintro (h6 | h6)
        · exact Or.inl h6
        · exact Or.inr (Or.inl h6)
      · rintro (h6 | h6 | h6)
        · exact Or.inl h6
        · exact Or.inr h6
        · omega
  · unfold zun
    split
    · refine Nat.or_lt_two_pow (hc.2 _) (Nat.pow_lt_pow_right (by decide) (by omega))
    · exact hc.2 j
theorem zcv.same {R R' : Nat → Nat} {w ht : Nat} {S S' : Int → Int → Prop} (hc : zcv R R' w ht S) (hS : ∀ i j : Nat, i < w → j < ht → (S' i j ↔ S i j)) : zcv R R' w ht S' :=
  ⟨fun i j hi hj => by rw [hS i j hi hj]; exact hc.1 i j hi hj, hc.2⟩
theorem zcv.start {R : Nat → Nat} {w ht : Nat} {S : Int → Int → Prop} (hR : ∀ j, R j < 2 ^ w) (hS : ∀ i j : Nat, i < w → j < ht → ¬ S i j) : zcv R R w ht S :=
  ⟨fun i j hi hj => by have := hS i j hi hj; simp [this], hR⟩
theorem zle_sq {a r : Int} (hr : 0 ≤ r) (h : a * a ≤ r * r) : -r ≤ a ∧ a ≤ r := by
  constructor
  · refine Int.not_lt.mp (fun h1 => ?_)
    have h2 : r * r < (-a) * (-a) := Int.mul_lt_mul' (by omega) (by omega) hr (by omega)
    rw [Int.neg_mul_neg] at h2
    omega
  · refine Int.not_lt.mp (fun h1 => ?_)
    have h2 : r * r < a * a := Int.mul_lt_mul' (by omega) (by omega) hr (by omega)
    omega
abbrev zci (mx my r i j : Int) : Prop := (i - mx) * (i - mx) + (j - my) * (j - my) ≤ r * r
theorem zci_rg {mx my r i j : Int} (hr : 0 ≤ r) (h : zci mx my r i j) : (-r ≤ i - mx ∧ i - mx ≤ r) ∧ (-r ≤ j - my ∧ j - my ≤ r) := by
  have h1 : 0 ≤ (i - mx) * (i - mx) := by
    rcases Int.le_total 0 (i - mx) with h0 | h0
    · exact Int.mul_nonneg h0 h0
    · have := Int.mul_nonneg (a := -(i - mx)) (b := -(i - mx)) (by omega) (by omega)
      rw [Int.neg_mul_neg] at this
      exact this
  have h2 : 0 ≤ (j - my) * (j - my) := by
    rcases Int.le_total 0 (j - my) with h0 | h0
    · exact Int.mul_nonneg h0 h0
    · have := Int.mul_nonneg (a := -(j - my)) (b := -(j - my)) (by omega) (by omega)
      rw [Int.neg_mul_neg] at this
      exact this
  have h3 : zci mx my r i j = ((i - mx) * (i - mx) + (j - my) * (j - my) ≤ r * r) := rfl
  rw [h3] at h
  exact ⟨zle_sq hr (by omega), zle_sq hr (by omega)⟩
/-- the part of a disc ahead of dy, dx -/
def zdi (mx my r dy dx : Int) : Int → Int → Prop := fun i j => (j - my < dy ∨ (j - my = dy ∧ i - mx < dx)) ∧ zci mx my r i j
theorem zdi_e {mx my r dy : Int} (hr : 0 ≤ r) (i j : Int) : zdi mx my r (dy + 1) (-r) i j ↔ zdi mx my r dy (r + 1) i j := by
  unfold zdi
  constructor
  · rintro ⟨h1, h2⟩
    have h3 := zci_rg hr h2
    exact ⟨by omega, h2⟩
  · rintro ⟨h1, h2⟩
    have h3 := zci_rg hr h2
    exact ⟨by omega, h2⟩
/-- near one of the places of a line -/
def zlb (px py : Nat → Int) (r i j : Int) : Nat → Bool
  | 0 => false
  | k + 1 => zlb px py r i j k || decide (zci (px k) (py k) r i j)
