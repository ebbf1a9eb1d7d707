/-! ===== levels, tiles, sums ===== -/
def zlv (f : Nat → Int) (w ht : Nat) : Nat → Int → Int → Int
  | 0, x, y => zldt f w ht x y
  | k + 1, x, y => zmg (zlv f w ht k (2 * x) (2 * y)) (zlv f w ht k (2 * x + 1) (2 * y)) (zlv f w ht k (2 * x) (2 * y + 1)) (zlv f w ht k (2 * x + 1) (2 * y + 1))
theorem zhv_rg {n k : Int} (hn : 0 ≤ n ∧ n ≤ 1000) (hk : 0 ≤ k ∧ k ≤ 3) : 0 ≤ zhv n k ∧ zhv n k ≤ 1010 := by
  have hp := zpw_rg hk
  unfold zhv
  have h1 : 0 ≤ (n + 2 ^ k.toNat - 1) / 2 ^ k.toNat := Int.ediv_nonneg (by omega) (by omega)
  have h2 : (n + 2 ^ k.toNat - 1) / 2 ^ k.toNat ≤ n + 2 ^ k.toNat - 1 := Int.ediv_le_self _ (by omega)
  omega
noncomputable def zBool (P : Prop) : Bool := @decide P (Classical.propDecidable P)
theorem zBool_t {P : Prop} : zBool P = true ↔ P := by unfold zBool; exact @decide_eq_true_iff P (Classical.propDecidable P)
theorem zBool_eq {P : Prop} {b : Bool} (h : b = true ↔ P) : b = zBool P := by
  cases b
  · cases hb : zBool P
    · rfl
    · exact absurd (h.mpr (zBool_t.mp hb)) (by decide)
  · exact (zBool_t.mpr (h.mp rfl)).symm
theorem zc1_congr {p q : Nat → Bool} : ∀ n, (∀ i, i < n → p i = q i) → zc1 p n = zc1 q n := by
  intro n
  induction n with
  | zero => intro _; rfl
  | succ n ih =>
    intro h
    show zc1 p n + _ = zc1 q n + _
    rw [ih (fun i hi => h i (by omega)), h n (by omega)]
theorem zcb_c1 (n : Nat) : ∀ k, zcb n k = zc1 (fun t => n.testBit t) k := by
  intro k
  induction k with
  | zero => rfl
  | succ k ih =>
    show zcb n k + _ = zc1 _ k + _
    rw [ih]
theorem zc1_cut {p : Nat → Bool} (a : Nat) : ∀ m, (∀ i, a ≤ i → p i = false) → zc1 p (a + m) = zc1 p a := by
  intro m
  induction m with
  | zero => intro _; rfl
  | succ m ih =>
    intro h
    show zc1 p (a + m) + (if p (a + m) = true then 1 else 0) = zc1 p a
    rw [ih h, if_neg (by rw [h (a + m) (by omega)]; decide)]
    rfl
/-- some dot of the tile t is there -/
def ztx (D : Nat → Nat → Int) (w ht t : Nat) : Prop := ∃ i j : Nat, i < w ∧ j < ht ∧ D i j ≠ 0 ∧ t = j / 8 * 3 + i / 8
noncomputable def ztl (D : Nat → Nat → Int) (w ht : Nat) : Nat := zc1 (fun t => zBool (ztx D w ht t)) 9
/-- the tiles of the places ahead of y, x -/
def zta (D : Nat → Nat → Int) (w : Nat) (y x : Int) (t : Nat) : Prop := ∃ i j : Nat, i < w ∧ ((j : Int) < y ∨ ((j : Int) = y ∧ (i : Int) < x)) ∧ D i j ≠ 0 ∧ t = j / 8 * 3 + i / 8
theorem zta_e (D : Nat → Nat → Int) (w : Nat) (y : Int) (t : Nat) : zta D w (y + 1) 0 t ↔ zta D w y w t := by
  unfold zta
  constructor
  · rintro ⟨i, j, h1, h2, h3⟩
    exact ⟨i, j, h1, by omega, h3⟩
  · rintro ⟨i, j, h1, h2, h3⟩
    exact ⟨i, j, h1, by omega, h3⟩
theorem zta_s {D : Nat → Nat → Int} {w : Nat} {y x : Int} (hx : 0 ≤ x ∧ x < w) (hy : 0 ≤ y) (t : Nat) : zta D w y (x + 1) t ↔ zta D w y x t ∨ (D x.toNat y.toNat ≠ 0 ∧ t = y.toNat / 8 * 3 + x.toNat / 8) := by
  unfold zta
  constructor
  · rintro ⟨i, j, h1, h2, h3, h4⟩
    by_cases h5 : (j : Int) = y ∧ (i : Int) = x
    · right
      obtain rfl : i = x.toNat := by omega
      obtain rfl : j = y.toNat := by omega
      exact ⟨h3, h4⟩
    · exact Or.inl ⟨i, j, h1, by omega, h3, h4⟩
  · rintro (⟨i, j, h1, h2, h3⟩ | ⟨h1, h2⟩)
    · exact ⟨i, j, h1, by omega, h3⟩
    · exact ⟨x.toNat, y.toNat, by omega, by omega, h1, h2⟩
theorem zta_n (D : Nat → Nat → Int) (w ht t : Nat) : zta D w ht 0 t ↔ ztx D w ht t := by
  unfold zta ztx
  constructor
  · rintro ⟨i, j, h1, h2, h3⟩
    exact ⟨i, j, h1, by omega, h3⟩
  · rintro ⟨i, j, h1, h2, h3⟩
    exact ⟨i, j, h1, by omega, h3⟩
theorem zta_lt {D : Nat → Nat → Int} {w : Nat} {y x : Int} {t : Nat} (hw : w ≤ 24) (hy : y < 24) (h : zta D w y x t) : t < 9 := by
  obtain ⟨i, j, h1, h2, h3, h4⟩ := h
  omega
theorem ztx_lt {D : Nat → Nat → Int} {w ht t : Nat} (hw : w ≤ 24) (hh : ht ≤ 24) (h : ztx D w ht t) : t < 9 := by
  obtain ⟨i, j, h1, h2, h3, h4⟩ := h
  omega
/-- a mask of tiles -/
def ztm2 (M : Nat) (S : Nat → Prop) : Prop := M < 512 ∧ ∀ t, M.testBit t = true ↔ S t
theorem ztm2.add {M : Nat} {S S' : Nat → Prop} {t : Nat} (h : ztm2 M S) (ht : t < 9) (hS : ∀ u, S' u ↔ S u ∨ u = t) : ztm2 (M ||| 2 ^ t) S' := by
  refine ⟨?_, fun u => ?_⟩
  · have h1 : M < 2 ^ 9 := h.1
    exact Nat.or_lt_two_pow (n := 9) h1 (Nat.pow_lt_pow_right (by decide) ht)
  · rw [Nat.testBit_or, Nat.testBit_two_pow, Bool.or_eq_true, h.2, hS, decide_eq_true_eq]
    constructor
    · rintro (h1 | h1)
      · exact Or.inl h1
      · exact Or.inr h1.symm
    · rintro (h1 | h1)
      · exact Or.inl h1
      · exact Or.inr h1.symm
theorem ztm2.same {M : Nat} {S S' : Nat → Prop} (h : ztm2 M S) (hS : ∀ u, S' u ↔ S u) : ztm2 M S' := ⟨h.1, fun u => by rw [hS]; exact h.2 u⟩
theorem ztm2.cnt {M : Nat} {S : Nat → Prop} (h : ztm2 M S) : zcb M 24 = zc1 (fun t => zBool (S t)) 9 := by
  rw [zcb_c1]
  have h1 : ∀ i, 9 ≤ i → M.testBit i = false := fun i hi => Nat.testBit_lt_two_pow (Nat.lt_of_lt_of_le (show M < 2 ^ 9 from h.1) (Nat.pow_le_pow_right (by decide) hi))
  have h2 := zc1_cut (p := fun t => M.testBit t) 9 15 h1
  rw [h2]
  exact zc1_congr 9 (fun i _ => zBool_eq (h.2 i))
def zsum (F : Nat → Int) : Nat → Int
  | 0 => 0
  | n + 1 => zsum F n + F n
theorem zsum_congr {F G : Nat → Int} : ∀ n, (∀ i, i < n → F i = G i) → zsum F n = zsum G n := by
  intro n
  induction n with
  | zero => intro _; rfl
  | succ n ih =>
    intro h
    show zsum F n + F n = zsum G n + G n
    rw [ih (fun i hi => h i (by omega)), h n (by omega)]
theorem zsum_rg {F : Nat → Int} {B : Int} : ∀ n, (∀ i, i < n → 0 ≤ F i ∧ F i ≤ B) → 0 ≤ zsum F n ∧ zsum F n ≤ n * B := by
  intro n
  induction n with
  | zero => intro _; exact ⟨Int.le_refl _, by simp [zsum]⟩
  | succ n ih =>
    intro h
    have h1 := ih (fun i hi => h i (by omega))
    have h2 := h n (by omega)
    have e : ((n + 1 : Nat) : Int) * B = n * B + B := by
      rw [Int.natCast_add, Int.add_mul]; simp
    show 0 ≤ zsum F n + F n ∧ zsum F n + F n ≤ _
    rw [e]
    omega
theorem zsum_add (F G : Nat → Int) : ∀ n, zsum (fun i => F i + G i) n = zsum F n + zsum G n := by
  intro n
  induction n with
  | zero => rfl
  | succ n ih =>
    show zsum _ n + (F n + G n) = (zsum F n + F n) + (zsum G n + G n)
    rw [ih]; omega
theorem zsum_zero (n : Nat) : zsum (fun _ => 0) n = 0 := by
  induction n with
  | zero => rfl
  | succ n ih =>
    show zsum _ n + 0 = 0
    rw [ih]; rfl
theorem zsum_swap (F : Nat → Nat → Int) (m : Nat) : ∀ n, zsum (fun i => zsum (F i) m) n = zsum (fun j => zsum (fun i => F i j) n) m := by
  intro n
  induction n with
  | zero =>
    show 0 = _
    exact (zsum_zero m).symm
  | succ n ih =>
    show zsum _ n + zsum (F n) m = _
    rw [ih, ← zsum_add]
    exact zsum_congr m (fun _ _ => rfl)
theorem zsum_split (F : Nat → Int) (a : Nat) : ∀ b, zsum F (a + b) = zsum F a + zsum (fun i => F (a + i)) b := by
  intro b
  induction b with
  | zero => simp [zsum]
  | succ b ih =>
    show zsum F (a + b) + F (a + b) = _
    rw [ih]
    show _ = zsum F a + (zsum _ b + F (a + b))
    omega
/-- a sum over a window: what lies beyond 0 .. w - 1 counts nothing -/
theorem zsum_win {C : Int → Int} {w : Nat} {x0 : Int} {n : Nat} (hC : ∀ x, x < 0 ∨ (w : Int) ≤ x → C x = 0) {first : Int} {cnt : Nat} (hf : first = if x0 < 0 then 0 else x0) (hc : (first : Int) + cnt = if (w : Int) < x0 + n then (w : Int) else x0 + n) : zsum (fun t => C (x0 + (t : Int))) n = zsum (fun t => C (first + (t : Int))) cnt := by
  obtain ⟨a, ha⟩ : ∃ a : Nat, (a : Int) = first - x0 := ⟨(first - x0).toNat, by rw [hf]; split <;> omega⟩
  obtain ⟨b, hb⟩ : ∃ b : Nat, n = a + cnt + b := ⟨n - (a + cnt), by split at hf <;> split at hc <;> omega⟩
  rw [hb, zsum_split, zsum_split]
  have h1 : zsum (fun t => C (x0 + (t : Int))) a = 0 := by
    rw [zsum_congr (G := fun _ => 0) a (fun i hi => hC _ (by split at hf <;> omega)), zsum_zero]
  have h2 : zsum (fun i => C (x0 + ((a + cnt + i : Nat) : Int))) b = 0 := by
    rw [zsum_congr (G := fun _ => 0) b (fun i hi => hC _ (by split at hf <;> split at hc <;> omega)), zsum_zero]
  rw [h1, h2]
  have h3 : zsum (fun i => C (x0 + ((a + i : Nat) : Int))) cnt = zsum (fun t => C (first + (t : Int))) cnt := zsum_congr cnt (fun i hi => by congr 1; omega)
  rw [h3]
  omega
