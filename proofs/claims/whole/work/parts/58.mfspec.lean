/-! ===== the reference's spreading ===== -/
abbrev mRe (Y : Nat → Nat) (w ht : Nat) (x y : Int) : Prop := (0 ≤ x ∧ x < w) ∧ (0 ≤ y ∧ y < ht) ∧ (Y y.toNat).testBit x.toNat = true
def mBe (Y : Nat → Nat) (w ht : Nat) (i j : Nat) : Prop := mRe Y w ht ((i : Int) - 1) (j : Int) ∨ mRe Y w ht ((i : Int) + 1) (j : Int) ∨ mRe Y w ht (i : Int) ((j : Int) - 1) ∨ mRe Y w ht (i : Int) ((j : Int) + 1)
def mJ (O : Nat → Nat) (w ht px py : Nat) (Y : Nat → Nat) (n : Nat) : Prop := (∀ j, Y j < 2 ^ w) ∧ (∀ C : Nat → Nat → Prop, zcz O w ht C → ((O py).testBit px = true → C px py) → ∀ i j, j < ht → (Y j).testBit i = true → C i j) ∧ (Y py).testBit px = true ∧ n = zc2 (fun j i => (Y j).testBit i) w ht
theorem zc1_add {p q : Nat → Bool} {x : Nat} (hx : p x = false) (hq : ∀ i, q i = true ↔ p i = true ∨ i = x) : ∀ n, zc1 q n = zc1 p n + if x < n then 1 else 0 := by
  intro n
  induction n with
  | zero => rfl
  | succ n ih =>
    show zc1 q n + (if q n = true then 1 else 0) = zc1 p n + (if p n = true then 1 else 0) + _
    rw [ih]
    by_cases h1 : n = x
    · subst h1
      rw [if_pos ((hq n).mpr (Or.inr rfl)), if_neg (Nat.lt_irrefl n), if_neg (by rw [hx]; intro h; cases h), if_pos (Nat.lt_succ_self n)]
    · by_cases h2 : p n = true
      · rw [if_pos ((hq n).mpr (Or.inl h2)), if_pos h2]
        by_cases h3 : x < n
        · rw [if_pos h3, if_pos (by omega)]; all_goals omega
        · rw [if_neg h3, if_neg (by omega)]; all_goals omega
      · rw [if_neg (fun h9 => ((hq n).mp h9).elim h2 h1), if_neg h2]
        by_cases h3 : x < n
        · rw [if_pos h3, if_pos (by omega)]; all_goals omega
        · rw [if_neg h3, if_neg (by omega)]; all_goals omega
theorem zc2_add {P Q : Nat → Nat → Bool} {w x y : Nat} (hx : P y x = false) (hxw : x < w) (hq : ∀ j i, Q j i = true ↔ P j i = true ∨ (j = y ∧ i = x)) : ∀ n, zc2 Q w n = zc2 P w n + if y < n then 1 else 0 := by
  intro n
  induction n with
  | zero => rfl
  | succ n ih =>
    show zc2 Q w n + zc1 (Q n) w = zc2 P w n + zc1 (P n) w + _
    rw [ih]
    by_cases h1 : n = y
    · subst h1
      rw [zc1_add (p := P n) (q := Q n) (x := x) hx (fun i => by rw [hq n i]; simp), if_pos hxw, if_neg (Nat.lt_irrefl n), if_pos (Nat.lt_succ_self n)]
      omega
    · have e : zc1 (Q n) w = zc1 (P n) w := zc1_congr w (fun i _ => by
        have h2 := hq n i
        cases hb : P n i
        · cases hb2 : Q n i
          · rfl
          · rcases h2.mp hb2 with h3 | h3
            · rw [hb] at h3; cases h3
            · exact absurd h3.1 h1
        · exact h2.mpr (Or.inl hb))
      rw [e]
      by_cases h3 : y < n
      · rw [if_pos h3, if_pos (by omega)]; omega
      · rw [if_neg h3, if_neg (by omega)]; omega
theorem zc2_zero {P : Nat → Nat → Bool} {w : Nat} (hP : ∀ j i, P j i = false) : ∀ n, zc2 P w n = 0 := by
  have h1 : ∀ j n, zc1 (P j) n = 0 := by
    intro j n
    induction n with
    | zero => rfl
    | succ n ih =>
      show zc1 (P j) n + (if P j n = true then 1 else 0) = 0
      rw [ih, hP, if_neg (by decide)]
  intro n
  induction n with
  | zero => rfl
  | succ n ih =>
    show zc2 P w n + zc1 (P n) w = 0
    rw [ih, h1]
theorem zbit_or2 {a x i : Nat} : (a ||| 2 ^ x).testBit i = true ↔ a.testBit i = true ∨ i = x := by
  rw [Nat.testBit_or, Bool.or_eq_true, Nat.testBit_two_pow, decide_eq_true_eq]
  exact or_congr Iff.rfl eq_comm
theorem zun_bit {Y : Nat → Nat} {y x j i : Nat} : (zun Y y (Y y ||| 2 ^ x) j).testBit i = true ↔ (Y j).testBit i = true ∨ (j = y ∧ i = x) := by
  unfold zun
  by_cases h : j = y
  · subst h
    rw [if_pos rfl, zbit_or2]
    simp
  · rw [if_neg h]
    simp [h]
theorem mJ.add {O : Nat → Nat} {w ht px py : Nat} {Y : Nat → Nat} {n x y : Nat} (hJ : mJ O w ht px py Y n) (hx : x < w) (hy : y < ht) (hb : mBe Y w ht x y) (ho : (O y).testBit x = true) (hr : ¬ (Y y).testBit x = true) : mJ O w ht px py (zun Y y (Y y ||| 2 ^ x)) (n + 1) := by
  obtain ⟨h1, h2, h3, h4⟩ := hJ
  refine ⟨fun j => ?_, fun C hC hS i j hj hi => ?_, zun_bit.mpr (Or.inl h3), ?_⟩
  · unfold zun
    split
    · exact Nat.or_lt_two_pow (h1 y) (Nat.pow_lt_pow_right (by decide) hx)
    · exact h1 j
  · rcases zun_bit.mp hi with h5 | ⟨rfl, rfl⟩
    · exact h2 C hC hS i j hj h5
    · have hY := h2 C hC hS
      rcases hb with ⟨a1, a2, a3⟩ | ⟨a1, a2, a3⟩ | ⟨a1, a2, a3⟩ | ⟨a1, a2, a3⟩
      · have e1 : ((i : Int) - 1).toNat = i - 1 := by omega
        rw [Int.toNat_natCast, e1] at a3
        exact hC (i - 1) j i j (hY _ _ hj a3) hx hj (Or.inr ⟨rfl, Or.inl (by omega)⟩) ho
      · have e1 : ((i : Int) + 1).toNat = i + 1 := by omega
        rw [Int.toNat_natCast, e1] at a3
        exact hC (i + 1) j i j (hY _ _ hj a3) hx hj (Or.inr ⟨rfl, Or.inr rfl⟩) ho
      · have e1 : ((j : Int) - 1).toNat = j - 1 := by omega
        rw [Int.toNat_natCast, e1] at a3
        exact hC i (j - 1) i j (hY _ _ (by omega) a3) hx hj (Or.inl ⟨rfl, Or.inl (by omega)⟩) ho
      · have e1 : ((j : Int) + 1).toNat = j + 1 := by omega
        rw [Int.toNat_natCast, e1] at a3
        exact hC i (j + 1) i j (hY _ _ (by omega) a3) hx hj (Or.inl ⟨rfl, Or.inr rfl⟩) ho
  · have hf : (Y y).testBit x = false := by cases hh : (Y y).testBit x; rfl; exact absurd hh hr
    rw [zc2_add (P := fun j i => (Y j).testBit i) (Q := fun j i => (zun Y y (Y y ||| 2 ^ x) j).testBit i) hf hx (fun j i => zun_bit) ht, if_pos hy, h4]
theorem mJ.le {O : Nat → Nat} {w ht px py : Nat} {Y : Nat → Nat} {n : Nat} (hJ : mJ O w ht px py Y n) (hw : w ≤ 24) (hh : ht ≤ 24) : n ≤ 576 := by
  have h1 := zc2_le (fun j i => (Y j).testBit i) w ht
  have h2 := Nat.mul_le_mul hw hh
  have h3 := hJ.2.2.2
  omega
def mK (O : Nat → Nat) (w ht px py : Nat) (Y0 : Nat → Nat) (n0 : Nat) (Y : Nat → Nat) (n y x : Nat) : Prop := mJ O w ht px py Y n ∧ (n0 < n ∨ (n = n0 ∧ Y = Y0 ∧ ∀ i j, (j < y ∨ (j = y ∧ i < x)) → i < w → mBe Y0 w ht i j → (O j).testBit i = true → (Y0 j).testBit i = true))
section MKS
variable {O : Nat → Nat} {w ht px py : Nat} {Y0 Y : Nat → Nat} {n0 n y x : Nat}
theorem mK.st (hJ : mJ O w ht px py Y n) : mK O w ht px py Y n Y n 0 0 := ⟨hJ, Or.inr ⟨rfl, rfl, fun i j h => by omega⟩⟩
theorem mK.skip (hK : mK O w ht px py Y0 n0 Y n y x) (hs : mBe Y w ht x y → (O y).testBit x = true → (Y y).testBit x = true) : mK O w ht px py Y0 n0 Y n y (x + 1) := by
  refine ⟨hK.1, ?_⟩
  rcases hK.2 with h | ⟨h1, h2, h3⟩
  · exact Or.inl h
  · refine Or.inr ⟨h1, h2, fun i j hij hi hb ho => ?_⟩
    by_cases he : j = y ∧ i = x
    · obtain ⟨rfl, rfl⟩ := he
      rw [← h2] at hb ⊢
      exact hs hb ho
    · exact h3 i j (by omega) hi hb ho
theorem mK.add (hK : mK O w ht px py Y0 n0 Y n y x) (hx : x < w) (hy : y < ht) (hb : mBe Y w ht x y) (ho : (O y).testBit x = true) (hr : ¬ (Y y).testBit x = true) : mK O w ht px py Y0 n0 (zun Y y (Y y ||| 2 ^ x)) (n + 1) y (x + 1) := by
  refine ⟨hK.1.add hx hy hb ho hr, Or.inl ?_⟩
  rcases hK.2 with h | ⟨h1, h2, h3⟩ <;> omega
theorem mK.row (hK : mK O w ht px py Y0 n0 Y n y w) : mK O w ht px py Y0 n0 Y n (y + 1) 0 := by
  refine ⟨hK.1, ?_⟩
  rcases hK.2 with h | ⟨h1, h2, h3⟩
  · exact Or.inl h
  · exact Or.inr ⟨h1, h2, fun i j hij hi hb ho => h3 i j (by omega) hi hb ho⟩
theorem mK.fin (hK : mK O w ht px py Y0 n0 Y n ht 0) (hn : ¬ n0 < n) : zcz O w ht (fun i j => j < ht ∧ (Y j).testBit i = true) := by
  rcases hK.2 with h | ⟨h1, h2, h3⟩
  · exact absurd h hn
  · subst h2
    intro i j i' j' hC hi' hj' hadj hO
    obtain ⟨hj, hbit⟩ := hC
    have hiw : i < w := zlt_bit (hK.1.1 j) hbit
    refine ⟨hj', h3 i' j' (Or.inl hj') hi' ?_ hO⟩
    rcases hadj with ⟨rfl, rfl | rfl⟩ | ⟨rfl, rfl | rfl⟩
    · refine Or.inr (Or.inr (Or.inl ⟨⟨by omega, by omega⟩, ⟨by omega, by omega⟩, ?_⟩))
      rw [show (((j + 1 : Nat) : Int) - 1).toNat = j by omega]; exact hbit
    · refine Or.inr (Or.inr (Or.inr ⟨⟨by omega, by omega⟩, ⟨by omega, by omega⟩, ?_⟩))
      rw [show ((j' : Int) + 1).toNat = j' + 1 by omega]; exact hbit
    · refine Or.inl ⟨⟨by omega, by omega⟩, ⟨by omega, by omega⟩, ?_⟩
      rw [show (((i + 1 : Nat) : Int) - 1).toNat = i by omega]; exact hbit
    · refine Or.inr (Or.inl ⟨⟨by omega, by omega⟩, ⟨by omega, by omega⟩, ?_⟩)
      rw [show ((i' : Int) + 1).toNat = i' + 1 by omega]; exact hbit
end MKS
def mG (g : Nat → Int) (ht : Nat) (Y : Nat → Nat) : Prop := ∀ j, j < ht → g j = (Y j : Int)
theorem mG.up {g : Nat → Int} {ht : Nat} {Y : Nat → Nat} (h : mG g ht Y) (y v : Nat) : mG (zup g y (v : Int)) ht (zun Y y v) := by
  intro j hj
  unfold zup zun
  split
  · rfl
  · exact h j hj
theorem mJ.start {O : Nat → Nat} {w ht px py : Nat} (hx : px < w) (hy : py < ht) (ho : (O py).testBit px = true) : mJ O w ht px py (zun (fun _ => 0) py (0 ||| 2 ^ px)) 1 := by
  have hb : ∀ j i, (zun (fun _ => 0) py (0 ||| 2 ^ px) j).testBit i = true ↔ j = py ∧ i = px := by
    intro j i
    rw [zun_bit (Y := fun _ => 0)]
    constructor
    · rintro (h | h)
      · exact absurd h (fun h9 => z0b h9)
      · exact h
    · exact Or.inr
  refine ⟨fun j => ?_, fun C hC hS i j hj hi => ?_, (hb py px).mpr ⟨rfl, rfl⟩, ?_⟩
  · unfold zun
    split
    · exact Nat.or_lt_two_pow (Nat.two_pow_pos w) (Nat.pow_lt_pow_right (by decide) hx)
    · exact Nat.two_pow_pos w
  · obtain ⟨rfl, rfl⟩ := (hb j i).mp hi
    exact hS ho
  · rw [zc2_add (P := fun _ _ => false) (Q := fun j i => (zun (fun _ => 0) py (0 ||| 2 ^ px) j).testBit i) (y := py) rfl hx (fun j i => by rw [hb]; simp) ht, zc2_zero (fun _ _ => rfl), if_pos hy]
theorem mrel.flood {X : MX} {S : SS} {P : SP} {l d : Int} {Y : Nat → Nat} {G' : Nat → Nat → Int} (hM : mrel X (sAdd S P)) (hk : okS S) (hh : sHas S = true) (hP : okP P) (hl : 0 ≤ l ∧ l < sn P) (hch : ∀ i j, i < sw P → j < sh P → (Y j).testBit i = true → sSl P i j) (hG : ∀ i j, i < sw P → j < sh P → G' i j = if (Y j).testBit i = true then d else sD (sl P l.toNat) i j) : mrel (mF X 1 (mq (X.2.1 1) (1728 * sN1 S + 576 * l.toNat) (mpR (sw P) Y) (fun _ _ => d) (sh P) 0)) (sAdd S (sPut P l G')) := by
  obtain ⟨hc, hs⟩ := mradd hM hk hh hP
  have hw24 := hP.1.2
  have e : mq (X.2.1 1) (1728 * sN1 S + 576 * l.toNat) (mpR (sw P) Y) (fun _ _ => d) (sh P) 0 = mq (X.2.1 1) (1728 * sN1 S + 576 * l.toNat) (mpR (sw P) (sr P)) (fun i j => if (Y j).testBit i = true then d else X.2.1 1 (1728 * sN1 S + 576 * l.toNat + 24 * j + i)) (sh P) 0 := by
    generalize 1728 * sN1 S + 576 * l.toNat = b
    funext q
    unfold mq
    by_cases h1 : b ≤ q ∧ ((q - b) / 24 < sh P ∨ ((q - b) / 24 = sh P ∧ (q - b) % 24 < 0)) ∧ (q - b) % 24 < sw P
    · have hjs : (q - b) / 24 < sh P := by omega
      have hq : b + 24 * ((q - b) / 24) + (q - b) % 24 = q := by omega
      by_cases h2 : (Y ((q - b) / 24)).testBit ((q - b) % 24) = true
      · have h3 : sSl P ((q - b) % 24) ((q - b) / 24) := hch _ _ h1.2.2 hjs h2
        rw [if_pos ⟨h1.1, h1.2.1, by rw [mpR_t h1.2.2]; exact h2⟩, if_pos ⟨h1.1, h1.2.1, by rw [mpR_t h1.2.2]; exact h3⟩]
        show d = if (Y ((q - b) / 24)).testBit ((q - b) % 24) = true then d else _
        rw [if_pos h2]
      · rw [if_neg (fun h9 => h2 (by have h8 := h9.2.2; rw [mpR_t h1.2.2] at h8; exact h8))]
        split
        · show _ = if (Y ((q - b) / 24)).testBit ((q - b) % 24) = true then d else X.2.1 1 (b + 24 * ((q - b) / 24) + (q - b) % 24)
          rw [if_neg h2, hq]
        · rfl
    · rw [if_neg (fun h9 => h1 ⟨h9.1, h9.2.1, mpR_lt _ _ h9.2.2⟩), if_neg (fun h9 => h1 ⟨h9.1, h9.2.1, mpR_lt _ _ h9.2.2⟩)]
  rw [e]
  refine hM.put hk hh hP hl (fun i j hi hj hb => ?_)
  rw [hG i j hi hj]
  by_cases h2 : (Y j).testBit i = true
  · rw [if_pos h2, if_pos h2]
  · rw [if_neg h2, if_neg h2]
    exact (hs.2.2.2.2 l.toNat (by omega)).2.2.2 i j hi hj
theorem mq_none {f : Nat → Int} {b ht : Nat} {p : Nat → Nat → Bool} {G : Nat → Nat → Int} (hp : ∀ i j, p i j = false) : mq f b p G ht 0 = f := by
  funext q
  unfold mq
  rw [if_neg (fun h9 => by have h8 := h9.2.2; rw [hp] at h8; cases h8)]
