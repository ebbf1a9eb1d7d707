/-! ===== spreading over open places ===== -/
theorem zbit_div (n i : Nat) : n.testBit i = true ↔ n / 2 ^ i % 2 = 1 := by
  rw [Nat.testBit_eq_decide_div_mod_eq, decide_eq_true_eq]
theorem zhp_bit {R : Nat → Nat} {w ht : Nat} {x y : Int} (hb : zbox x y w ht) : zhp R w ht x y ↔ (R y.toNat).testBit x.toNat = true := by
  rw [(zkn2 (R := R) hb).2.2.2, zbit_div]
  have e : ((R y.toNat : Nat) : Int) / 2 ^ x.toNat % 2 = ((R y.toNat / 2 ^ x.toNat % 2 : Nat) : Int) := by simp
  rw [e]
  omega
/-- what lies at a row and beside it -/
def znr (Y : Nat → Nat) (ht : Nat) (y : Int) : Nat := Y y.toNat ||| Y y.toNat * 2 ||| Y y.toNat / 2 ||| zrw Y ht (y - 1) ||| zrw Y ht (y + 1)
theorem zb_m2 (n i : Nat) : (n * 2).testBit i = true ↔ ∃ k, i = k + 1 ∧ n.testBit k = true := by
  cases i with
  | zero =>
    rw [zbit_div]
    constructor
    · intro h
      simp at h
    · rintro ⟨k, h, -⟩
      omega
  | succ i =>
    have e : n * 2 / 2 ^ (i + 1) = n / 2 ^ i := by
      rw [Nat.pow_succ, Nat.mul_div_mul_right _ _ (by decide)]
    rw [zbit_div, e, ← zbit_div]
    constructor
    · intro h
      exact ⟨i, rfl, h⟩
    · rintro ⟨k, h1, h2⟩
      have : i = k := by omega
      rw [this]; exact h2
theorem zb_d2 (n i : Nat) : (n / 2).testBit i = true ↔ n.testBit (i + 1) = true := by
  rw [zbit_div, zbit_div, Nat.div_div_eq_div_mul, Nat.pow_succ, Nat.mul_comm 2 (2 ^ i)]
theorem znr_bit {Y : Nat → Nat} {ht : Nat} {y : Int} (hy : 0 ≤ y ∧ y < ht) (i : Nat) : (znr Y ht y).testBit i = true ↔ (Y y.toNat).testBit i = true ∨ (∃ k, i = k + 1 ∧ (Y y.toNat).testBit k = true) ∨ (Y y.toNat).testBit (i + 1) = true ∨ (∃ j, y.toNat = j + 1 ∧ (Y j).testBit i = true) ∨ (y.toNat + 1 < ht ∧ (Y (y.toNat + 1)).testBit i = true) := by
  unfold znr
  rw [Nat.testBit_or, Nat.testBit_or, Nat.testBit_or, Nat.testBit_or, Bool.or_eq_true, Bool.or_eq_true, Bool.or_eq_true, Bool.or_eq_true, zb_m2, zb_d2]
  have h1 : (zrw Y ht (y - 1)).testBit i = true ↔ ∃ j, y.toNat = j + 1 ∧ (Y j).testBit i = true := by
    unfold zrw
    split
    · next h =>
      constructor
      · intro hb
        exact ⟨(y - 1).toNat, by omega, hb⟩
      · rintro ⟨j, h2, h3⟩
        have e : (y - 1).toNat = j := by omega
        rw [e]; exact h3
    · next h =>
      constructor
      · intro hb
        rw [Nat.zero_testBit] at hb
        cases hb
      · rintro ⟨j, h2, h3⟩
        omega
  have h2 : (zrw Y ht (y + 1)).testBit i = true ↔ y.toNat + 1 < ht ∧ (Y (y.toNat + 1)).testBit i = true := by
    unfold zrw
    have e : (y + 1).toNat = y.toNat + 1 := by omega
    split
    · next h =>
      rw [e]
      constructor
      · intro hb
        exact ⟨by omega, hb⟩
      · exact fun hb => hb.2
    · next h =>
      constructor
      · intro hb
        rw [Nat.zero_testBit] at hb
        cases hb
      · rintro ⟨h3, -⟩
        omega
  rw [h1, h2]
  simp only [or_assoc]
/-- closed under steps to open places -/
def zcz (O : Nat → Nat) (w ht : Nat) (C : Nat → Nat → Prop) : Prop := ∀ i j i' j' : Nat, C i j → i' < w → j' < ht → ((i' = i ∧ (j' = j + 1 ∨ j = j' + 1)) ∨ (j' = j ∧ (i' = i + 1 ∨ i = i' + 1))) → (O j').testBit i' = true → C i' j'
/-- every place of X lies in each closed set that holds those of X0 -/
def zsd (O : Nat → Nat) (w ht : Nat) (X0 X : Nat → Nat) : Prop := ∀ C : Nat → Nat → Prop, zcz O w ht C → (∀ i j, j < ht → (X0 j).testBit i = true → C i j) → ∀ i j, j < ht → (X j).testBit i = true → C i j
theorem zlt_bit {n w i : Nat} (h : n < 2 ^ w) (hb : n.testBit i = true) : i < w := by
  refine Nat.lt_of_not_le (fun hi => ?_)
  rw [Nat.testBit_lt_two_pow (Nat.lt_of_lt_of_le h (Nat.pow_le_pow_right (by decide) hi))] at hb
  cases hb
abbrev zsbs (A B : Nat) : Prop := ∀ i, A.testBit i = true → B.testBit i = true
/-- the loop of a round at the row y -/
def zin2 (O : Nat → Nat) (w ht : Nat) (X Y : Nat → Nat) (y g : Int) : Prop :=
  (∀ j : Nat, y ≤ j → Y j = X j) ∧ (∀ j, zsbs (X j) (Y j) ∧ zsbs (Y j) (O j)) ∧ (∀ j, Y j < 2 ^ w) ∧ zsd O w ht X Y ∧ (g = 0 ∨ g = 1) ∧ (g = 0 → (∀ j, Y j = X j) ∧ ∀ j : Nat, (j : Int) < y → znr X ht j &&& O j = X j) ∧ (g = 1 → ∃ j, j < ht ∧ Y j ≠ X j)
theorem zin2.step {O : Nat → Nat} {w ht : Nat} {X Y : Nat → Nat} {y g g' : Int} (hI : zin2 O w ht X Y y g) (hO : ∀ j, O j < 2 ^ w) (hy : 0 ≤ y ∧ y < ht) (hg : g' = if g = 0 ∧ znr Y ht y &&& O y.toNat = Y y.toNat then 0 else 1) : zin2 O w ht X (zun Y y.toNat (znr Y ht y &&& O y.toNat)) (y + 1) g' := by
  obtain ⟨h1, h2, h3, h4, h5, h6, h7⟩ := hI
  have hb := fun i => znr_bit (Y := Y) hy i
  have hyt : ((y.toNat : Nat) : Int) = y := Int.toNat_of_nonneg hy.1
  have hsub : zsbs (Y y.toNat) (znr Y ht y &&& O y.toNat) := by
    intro i hi
    rw [Nat.testBit_and, Bool.and_eq_true]
    exact ⟨(hb i).mpr (Or.inl hi), (h2 y.toNat).2 i hi⟩
  refine ⟨fun j hj => ?_, fun j => ?_, fun j => ?_, ?_, ?_, ?_, ?_⟩
  · unfold zun
    rw [if_neg (by omega)]
    exact h1 j (by omega)
  · unfold zun
    split
    · next h =>
      subst h
      refine ⟨fun i hi => hsub i ((h2 _).1 i hi), fun i hi => ?_⟩
      rw [Nat.testBit_and, Bool.and_eq_true] at hi
      exact hi.2
    · exact h2 j
  · unfold zun
    split
    · exact Nat.and_lt_two_pow _ (hO _)
    · exact h3 j
  · intro C hC hX i j hj hi
    have hYC := h4 C hC hX
    unfold zun at hi
    split at hi
    · next h =>
      subst h
      rw [Nat.testBit_and, Bool.and_eq_true] at hi
      have hiw : i < w := zlt_bit (hO _) hi.2
      rcases (hb i).mp hi.1 with k1 | ⟨k, k1, k2⟩ | k1 | ⟨k, k1, k2⟩ | ⟨k1, k2⟩
      · exact hYC i _ hj k1
      · exact hC k _ i _ (hYC k _ hj k2) hiw hj (Or.inr ⟨rfl, Or.inl k1⟩) hi.2
      · exact hC (i + 1) _ i _ (hYC (i + 1) _ hj k1) hiw hj (Or.inr ⟨rfl, Or.inr rfl⟩) hi.2
      · exact hC i k i _ (hYC i k (by omega) k2) hiw hj (Or.inl ⟨rfl, Or.inl k1⟩) hi.2
      · exact hC i (y.toNat + 1) i _ (hYC i _ k1 k2) hiw hj (Or.inl ⟨rfl, Or.inr rfl⟩) hi.2
    · exact hYC i j hj hi
  · rw [hg]
    split
    · exact Or.inl rfl
    · exact Or.inr rfl
  · intro h0
    rw [hg] at h0
    split at h0
    · next hc =>
      obtain ⟨k1, k2⟩ := h6 hc.1
      have hYX : Y = X := funext k1
      subst hYX
      refine ⟨fun j => ?_, fun j hj => ?_⟩
      · unfold zun
        split
        · next h => subst h; exact hc.2
        · rfl
      · by_cases hjy : (j : Int) < y
        · exact k2 j hjy
        · have e : j = y.toNat := by omega
          subst e
          rw [hyt]
          exact hc.2
    · cases h0
  · intro h1'
    rw [hg] at h1'
    split at h1'
    · cases h1'
    · next hc =>
      by_cases hg0 : g = 0
      · have hne : ¬ (znr Y ht y &&& O y.toNat = Y y.toNat) := fun h => hc ⟨hg0, h⟩
        refine ⟨y.toNat, by omega, ?_⟩
        unfold zun
        rw [if_pos rfl, ← (h6 hg0).1 y.toNat]
        exact hne
      · have hg1 : g = 1 := h5.resolve_left hg0
        obtain ⟨j, hj1, hj2⟩ := h7 hg1
        refine ⟨j, hj1, ?_⟩
        unfold zun
        split
        · next h =>
          subst h
          rw [h1 _ (by omega)] at hj2
          exact absurd rfl hj2
        · exact hj2
theorem zcl_of {O X : Nat → Nat} {w ht : Nat} (h : ∀ j : Nat, (j : Int) < ht → znr X ht j &&& O j = X j) (hX : ∀ j, X j < 2 ^ w) : zcz O w ht (fun i j => j < ht ∧ (X j).testBit i = true) := by
  intro i j i' j' hC hi' hj' hadj hO
  refine ⟨hj', ?_⟩
  rw [← h j' (by omega), Nat.testBit_and, Bool.and_eq_true]
  refine ⟨(znr_bit (Y := X) (y := (j' : Int)) ⟨by omega, by omega⟩ i').mpr ?_, hO⟩
  rw [Int.toNat_natCast]
  obtain ⟨hj, hb⟩ := hC
  rcases hadj with ⟨rfl, h1 | h1⟩ | ⟨rfl, h1 | h1⟩
  · exact Or.inr (Or.inr (Or.inr (Or.inl ⟨j, h1, hb⟩)))
  · subst h1
    exact Or.inr (Or.inr (Or.inr (Or.inr ⟨hj, hb⟩)))
  · exact Or.inr (Or.inl ⟨i, h1, hb⟩)
  · subst h1
    exact Or.inr (Or.inr (Or.inl hb))
theorem zcb_mono {A B : Nat} (h : zsbs A B) : ∀ n, zcb A n ≤ zcb B n := by
  intro n
  induction n with
  | zero => exact Nat.le_refl _
  | succ n ih =>
    show zcb A n + (if A.testBit n = true then 1 else 0) ≤ zcb B n + (if B.testBit n = true then 1 else 0)
    by_cases h1 : A.testBit n = true
    · rw [if_pos h1, if_pos (h n h1)]; omega
    · rw [if_neg h1]; omega
theorem zcb_strict {A B : Nat} (h : zsbs A B) (hne : B ≠ A) : ∀ n, B < 2 ^ n → zcb A n < zcb B n := by
  intro n hB
  have hex : ∃ i, B.testBit i = true ∧ A.testBit i = false := by
    refine Classical.byContradiction (fun hno => hne ?_)
    apply Nat.eq_of_testBit_eq
    intro i
    cases hb : B.testBit i
    · cases ha : A.testBit i
      · rfl
      · rw [h i ha] at hb; cases hb
    · cases ha : A.testBit i
      · exact absurd ⟨i, hb, ha⟩ hno
      · rfl
  obtain ⟨i, hi1, hi2⟩ := hex
  have hin : i < n := zlt_bit hB hi1
  have key : ∀ m, i < m → zcb A m < zcb B m := by
    intro m
    induction m with
    | zero => intro h0; omega
    | succ m ih =>
      intro hm
      show zcb A m + (if A.testBit m = true then 1 else 0) < zcb B m + (if B.testBit m = true then 1 else 0)
      by_cases him : i = m
      · subst him
        rw [hi1, hi2]
        have := zcb_mono h i
        simp
        omega
      · have := ih (by omega)
        by_cases h1 : A.testBit m = true
        · rw [if_pos h1, if_pos (h m h1)]; omega
        · rw [if_neg h1]; omega
  exact key n hin
theorem zsz_mono {A B : Nat → Nat} (h : ∀ j, zsbs (A j) (B j)) : ∀ n, zsz A n ≤ zsz B n := by
  intro n
  induction n with
  | zero => exact Nat.le_refl _
  | succ n ih =>
    have := zcb_mono (h n) 24
    show zsz A n + _ ≤ zsz B n + _
    omega
theorem zsz_strict {A B : Nat → Nat} (h : ∀ j, zsbs (A j) (B j)) (hB : ∀ j, B j < 2 ^ 24) {k : Nat} (hk : B k ≠ A k) : ∀ n, k < n → zsz A n < zsz B n := by
  intro n
  induction n with
  | zero => intro h0; omega
  | succ n ih =>
    intro hn
    show zsz A n + zcb (A n) 24 < zsz B n + zcb (B n) 24
    by_cases e : k = n
    · subst e
      have h1 := zcb_strict (h k) hk 24 (hB k)
      have h2 := zsz_mono h k
      omega
    · have h1 := ih (by omega)
      have h2 := zcb_mono (h n) 24
      omega
theorem zsz_le {A : Nat → Nat} {w : Nat} (hw : w ≤ 24) (hA : ∀ j, A j < 2 ^ w) : ∀ n, zsz A n ≤ w * n := by
  intro n
  induction n with
  | zero => exact Nat.le_refl _
  | succ n ih =>
    have h1 : zcb (A n) 24 ≤ w := by
      rw [zcb_c1]
      have h2 := zc1_cut (p := fun t => (A n).testBit t) w (24 - w) (fun i hi => Nat.testBit_lt_two_pow (Nat.lt_of_lt_of_le (hA n) (Nat.pow_le_pow_right (by decide) hi)))
      rw [show w + (24 - w) = 24 from by omega] at h2
      rw [h2]
      exact zc1_le _ w
    show zsz A n + zcb (A n) 24 ≤ w * (n + 1)
    rw [Nat.mul_add]
    omega
/-- reached from x, y over open places -/
def zrch (O : Nat → Nat) (w ht : Nat) (sx sy : Nat) (i j : Nat) : Prop := ∀ C : Nat → Nat → Prop, zcz O w ht C → ((O sy).testBit sx = true → C sx sy) → C i j
theorem zrch_of {O X : Nat → Nat} {w ht sx sy : Nat} (hsy : sy < ht) (hX : ∀ j, X j < 2 ^ w) (hs : ∀ C : Nat → Nat → Prop, zcz O w ht C → ((O sy).testBit sx = true → C sx sy) → ∀ i j, j < ht → (X j).testBit i = true → C i j) (hst : (O sy).testBit sx = true → (X sy).testBit sx = true) (hcl : zcz O w ht (fun i j => j < ht ∧ (X j).testBit i = true)) {i j : Nat} (hj : j < ht) : (X j).testBit i = true ↔ zrch O w ht sx sy i j := by
  constructor
  · intro hb C hC hS
    exact hs C hC hS i j hj hb
  · intro h
    exact (h _ hcl (fun ho => ⟨hsy, hst ho⟩)).2
theorem z0b {i : Nat} (h : Nat.testBit 0 i = true) : False := by
  rw [Nat.zero_testBit] at h
  cases h
