/-! ===== counting bits ===== -/
def zcb (n : Nat) : Nat → Nat
  | 0 => 0
  | k + 1 => zcb n k + (if n.testBit k = true then 1 else 0)
theorem zcb_split (q a : Nat) (ha : a < 2 ^ 8) : ∀ m, zcb (2 ^ 8 * q + a) (8 + m) = zcb a 8 + zcb q m := by
  have hlow : ∀ k, k ≤ 8 → zcb (2 ^ 8 * q + a) k = zcb a k := by
    intro k
    induction k with
    | zero => intro _; rfl
    | succ k ih =>
      intro hk
      have hb : (2 ^ 8 * q + a).testBit k = a.testBit k := by rw [Nat.testBit_two_pow_mul_add _ ha, if_pos (by omega)]
      show zcb (2 ^ 8 * q + a) k + _ = zcb a k + _
      rw [ih (by omega), hb]
  intro m
  induction m with
  | zero => rw [Nat.add_zero, hlow 8 (Nat.le_refl _)]; rfl
  | succ m ih =>
    have e : 8 + (m + 1) = (8 + m) + 1 := by omega
    rw [e]
    have hb : (2 ^ 8 * q + a).testBit (8 + m) = q.testBit m := by
      rw [Nat.testBit_two_pow_mul_add _ ha, if_neg (by omega)]
      congr 1
      omega
    show zcb (2 ^ 8 * q + a) (8 + m) + _ = zcb a 8 + (zcb q m + _)
    rw [ih, hb, Nat.add_assoc]
theorem zfin {A B C : Nat} (hA : A ≤ 8) (hB : B ≤ 8) (hC : C ≤ 8) : (256 * (256 * C + B) + A + (256 * (256 * C + B) + A) / 256 + (256 * (256 * C + B) + A + (256 * (256 * C + B) + A) / 256) / 65536) % 64 = A + (B + C) := by
  have h1 : (256 * (256 * C + B) + A) / 256 = 256 * C + B := by omega
  rw [h1]
  have h2 : (256 * (256 * C + B) + A + (256 * C + B)) / 65536 = C := by omega
  rw [h2]
  omega
def zb1 (a : Nat) : Nat := a - (a / 2 &&& 85)
def zb2 (a : Nat) : Nat := (a &&& 51) + (a / 4 &&& 51)
def zb3 (a : Nat) : Nat := (a + a / 16) &&& 15
theorem zb_all : ∀ x, x < 256 → zb3 (zb2 (zb1 x)) = zcb x 8 ∧ (x / 2 &&& 85) ≤ x ∧ zb1 x < 256 ∧ zb2 (zb1 x) ≤ 68 ∧ zb2 (zb1 x) % 16 ≤ 4 ∧ zb3 (zb2 (zb1 x)) ≤ 8 := by decide +kernel
theorem zm1 : ∀ a, a < 256 → ∀ t, t < 2 → (128 * t + a / 2) &&& 85 = a / 2 &&& 85 := by decide +kernel
theorem zm2 : ∀ a, a < 256 → ∀ t, t < 4 → (64 * t + a / 4) &&& 51 = a / 4 &&& 51 := by decide +kernel
theorem zm3 : ∀ a, a < 69 → ∀ t, t < 5 → (a + a / 16 + 16 * t) &&& 15 = (a + a / 16) &&& 15 := by decide +kernel
theorem zst1 (q a M : Nat) (ha : a < 256) : (256 * q + a) / 2 &&& (256 * M + 85) = 256 * (q / 2 &&& M) + (a / 2 &&& 85) := by
  have e : (256 * q + a) / 2 = 2 ^ 8 * (q / 2) + (128 * (q % 2) + a / 2) := by omega
  have h := zand_split 8 (q / 2) (128 * (q % 2) + a / 2) M 85 (by omega) (by omega)
  rw [e]
  have e8 : (2 ^ 8 : Nat) = 256 := by decide
  rw [e8] at h ⊢
  rw [h, zm1 a ha (q % 2) (by omega)]
theorem zst2 (q a M : Nat) (ha : a < 256) : (256 * q + a) / 4 &&& (256 * M + 51) = 256 * (q / 4 &&& M) + (a / 4 &&& 51) := by
  have e : (256 * q + a) / 4 = 2 ^ 8 * (q / 4) + (64 * (q % 4) + a / 4) := by omega
  have h := zand_split 8 (q / 4) (64 * (q % 4) + a / 4) M 51 (by omega) (by omega)
  rw [e]
  have e8 : (2 ^ 8 : Nat) = 256 := by decide
  rw [e8] at h ⊢
  rw [h, zm2 a ha (q % 4) (by omega)]
theorem zst0 (q a M : Nat) (ha : a < 256) : (256 * q + a) &&& (256 * M + 51) = 256 * (q &&& M) + (a &&& 51) := by
  have h := zand_split 8 q a M 51 (by omega) (by omega)
  have e8 : (2 ^ 8 : Nat) = 256 := by decide
  rw [e8] at h
  exact h
theorem zst3 (q a M : Nat) (ha : a < 69) (hq : q % 16 < 5) : (256 * q + a) + (256 * q + a) / 16 &&& (256 * M + 15) = 256 * (q + q / 16 &&& M) + ((a + a / 16) &&& 15) := by
  have e : (256 * q + a) + (256 * q + a) / 16 = 2 ^ 8 * (q + q / 16) + (a + a / 16 + 16 * (q % 16)) := by omega
  have h := zand_split 8 (q + q / 16) (a + a / 16 + 16 * (q % 16)) M 15 (by omega) (by omega)
  rw [e]
  have e8 : (2 ^ 8 : Nat) = 256 := by decide
  rw [e8] at h ⊢
  rw [h, zm3 a ha (q % 16) hq]
def zt1 (n : Nat) : Nat := n - (n / 2 &&& 1431655765)
def zt2 (n : Nat) : Nat := (n &&& 858993459) + (n / 4 &&& 858993459)
def zt3 (n : Nat) : Nat := (n + n / 16) &&& 252645135
theorem zt_all {n : Nat} (hn : n < 16777216) : (n / 2 &&& 1431655765) ≤ n ∧ zt1 n < 16777216 ∧ zt2 (zt1 n) < 16777216 ∧ zt3 (zt2 (zt1 n)) < 16777216 ∧ (zt3 (zt2 (zt1 n)) + zt3 (zt2 (zt1 n)) / 256 + (zt3 (zt2 (zt1 n)) + zt3 (zt2 (zt1 n)) / 256) / 65536) % 64 = zcb n 24 := by
  obtain ⟨a, b, c, ha, hb, hc, rfl⟩ : ∃ a b c, a < 256 ∧ b < 256 ∧ c < 256 ∧ n = 256 * (256 * c + b) + a := ⟨n % 256, n / 256 % 256, n / 65536, by omega, by omega, by omega, by omega⟩
  obtain ⟨a1, a2, a3, a4, a5, a6⟩ := zb_all a ha
  obtain ⟨b1, b2, b3, b4, b5, b6⟩ := zb_all b hb
  obtain ⟨c1, c2, c3, c4, c5, c6⟩ := zb_all c hc
  have k1 : (256 * (256 * c + b) + a) / 2 &&& 1431655765 = 256 * (256 * (c / 2 &&& 85) + (b / 2 &&& 85)) + (a / 2 &&& 85) := by
    have h1 := zst1 (256 * c + b) a 5592405 ha
    have h2 := zst1 c b 21845 hb
    have h3 := zst1 0 c 85 hc
    simp only [Nat.mul_zero, Nat.zero_add, Nat.zero_div, Nat.zero_and] at h3
    rw [h3] at h2
    rw [h2] at h1
    exact h1
  have t1 : zt1 (256 * (256 * c + b) + a) = 256 * (256 * zb1 c + zb1 b) + zb1 a := by
    unfold zt1 zb1
    rw [k1]
    omega
  have t2 : zt2 (256 * (256 * zb1 c + zb1 b) + zb1 a) = 256 * (256 * zb2 (zb1 c) + zb2 (zb1 b)) + zb2 (zb1 a) := by
    have h1 := zst2 (256 * zb1 c + zb1 b) (zb1 a) 3355443 a3
    have h2 := zst2 (zb1 c) (zb1 b) 13107 b3
    have h3 := zst2 0 (zb1 c) 51 c3
    have g1 := zst0 (256 * zb1 c + zb1 b) (zb1 a) 3355443 a3
    have g2 := zst0 (zb1 c) (zb1 b) 13107 b3
    have g3 := zst0 0 (zb1 c) 51 c3
    simp only [Nat.mul_zero, Nat.zero_add, Nat.zero_div, Nat.zero_and] at h3 g3
    rw [h3] at h2
    rw [h2] at h1
    rw [g3] at g2
    rw [g2] at g1
    unfold zt2 zb2
    have h1' : (256 * (256 * zb1 c + zb1 b) + zb1 a) / 4 &&& 858993459 = _ := h1
    have g1' : (256 * (256 * zb1 c + zb1 b) + zb1 a) &&& 858993459 = _ := g1
    rw [h1', g1']
    omega
  have t3 : zt3 (256 * (256 * zb2 (zb1 c) + zb2 (zb1 b)) + zb2 (zb1 a)) = 256 * (256 * zb3 (zb2 (zb1 c)) + zb3 (zb2 (zb1 b))) + zb3 (zb2 (zb1 a)) := by
    have h1 := zst3 (256 * zb2 (zb1 c) + zb2 (zb1 b)) (zb2 (zb1 a)) 986895 (by omega) (by omega)
    have h2 := zst3 (zb2 (zb1 c)) (zb2 (zb1 b)) 3855 (by omega) (by omega)
    have h3 := zst3 0 (zb2 (zb1 c)) 15 (by omega) (by omega)
    simp only [Nat.mul_zero, Nat.zero_add, Nat.zero_div, Nat.zero_and] at h3
    rw [h3] at h2
    rw [h2] at h1
    exact h1
  have e8 : (2 ^ 8 : Nat) = 256 := by decide
  have p1 := zcb_split (256 * c + b) a (by omega) 16
  have p2 := zcb_split c b (by omega) 8
  rw [e8] at p1 p2
  have p3 : zcb (256 * (256 * c + b) + a) 24 = zcb a 8 + (zcb b 8 + zcb c 8) := by rw [← p2]; exact p1
  rw [t1, t2, t3, p3, ← a1, ← b1, ← c1, k1]
  refine ⟨by omega, by omega, by omega, by omega, ?_⟩
  exact zfin a6 b6 c6
/-! ===== rows of bits, one by one ===== -/
def zro (p : Nat → Bool) : Nat → Nat
  | 0 => 0
  | n + 1 => if p n = true then zro p n ||| 2 ^ n else zro p n
theorem zro_lt (p : Nat → Bool) : ∀ n, zro p n < 2 ^ n := by
  intro n
  induction n with
  | zero => exact Nat.one_pos
  | succ n ih =>
    have h1 : zro p n < 2 ^ (n + 1) := Nat.lt_of_lt_of_le ih (Nat.pow_le_pow_right (by decide) (by omega))
    have h2 : (2 : Nat) ^ n < 2 ^ (n + 1) := Nat.pow_lt_pow_right (by decide) (by omega)
    simp only [zro]
    split
    · exact Nat.or_lt_two_pow h1 h2
    · exact h1
theorem zro_bit (p : Nat → Bool) (i : Nat) : ∀ n, (zro p n).testBit i = (decide (i < n) && p i) := by
  intro n
  induction n with
  | zero => simp [zro]
  | succ n ih =>
    simp only [zro]
    by_cases hp : p n = true
    · rw [if_pos hp, Nat.testBit_or, ih, Nat.testBit_two_pow]
      by_cases hi : n = i
      · subst hi; simp [hp]
      · have h1 : decide (i < n + 1) = decide (i < n) := by
          congr 1; apply propext; omega
        simp [hi, h1]
    · rw [if_neg hp, ih]
      by_cases hi : n = i
      · subst hi; simp [hp]
      · have h1 : decide (i < n + 1) = decide (i < n) := by
          congr 1; apply propext; omega
        rw [h1]
def zrs (p : Nat → Nat → Bool) (w : Nat) (y x : Int) : Nat → Nat := fun j => if (j : Int) < y then zro (p j) w else if (j : Int) = y then zro (p j) x.toNat else 0
theorem zrs_0 (p : Nat → Nat → Bool) (w : Nat) : (fun _ => 0) = zrs p w 0 0 := by
  funext j
  unfold zrs
  rw [if_neg (by omega)]
  split <;> rfl
theorem zrs_e (p : Nat → Nat → Bool) (w : Nat) (y : Int) : zrs p w y w = zrs p w (y + 1) 0 := by
  funext j
  unfold zrs
  by_cases h1 : (j : Int) < y
  · rw [if_pos h1, if_pos (by omega)]
  · rw [if_neg h1]
    by_cases h2 : (j : Int) = y
    · rw [if_pos h2, if_pos (by omega), Int.toNat_natCast]
    · rw [if_neg h2, if_neg (by omega)]
      split <;> rfl
section ZRS
variable {p : Nat → Nat → Bool} {w ht : Nat} {x y : Int}
theorem zrs_t (hx : 0 ≤ x) (hy : 0 ≤ y) (hp : p y.toNat x.toNat = true) : zun (zrs p w y x) y.toNat (zrs p w y x y.toNat ||| 2 ^ x.toNat) = zrs p w y (x + 1) := by
  funext j
  have e : (x + 1).toNat = x.toNat + 1 := by omega
  unfold zun
  by_cases hj : j = y.toNat
  · subst hj
    have h1 : ¬ ((y.toNat : Nat) : Int) < y := by omega
    have h2 : ((y.toNat : Nat) : Int) = y := by omega
    rw [if_pos rfl]
    simp only [zrs, if_neg h1, if_pos h2, e, zro, hp, if_true]
  · rw [if_neg hj]
    unfold zrs
    by_cases h1 : (j : Int) < y
    · rw [if_pos h1, if_pos h1]
    · rw [if_neg h1, if_neg h1, if_neg (by omega), if_neg (by omega)]
theorem zrs_f (hx : 0 ≤ x) (hy : 0 ≤ y) (hp : p y.toNat x.toNat = false) : zrs p w y x = zrs p w y (x + 1) := by
  funext j
  have e : (x + 1).toNat = x.toNat + 1 := by omega
  unfold zrs
  by_cases h1 : (j : Int) < y
  · rw [if_pos h1, if_pos h1]
  · rw [if_neg h1, if_neg h1]
    by_cases h2 : (j : Int) = y
    · rw [if_pos h2, if_pos h2, e]
      have h3 : j = y.toNat := by omega
      subst h3
      simp [zro, hp]
    · rw [if_neg h2, if_neg h2]
theorem zadd_eq {h : ZH} {ra : Nat} (hb : zbox x y w ht) (hp : p y.toNat x.toNat = true) : (if zbox x y w ht then zset (zset h ra (zi 0 ht (zcn (zrs p w y x)))) ra (zi 0 ht (zcn (zun (zrs p w y x) y.toNat (zrs p w y x y.toNat ||| 2 ^ x.toNat)))) else zset h ra (zi 0 ht (zcn (zrs p w y x)))) = zset h ra (zi 0 ht (zcn (zrs p w y (x + 1)))) := by
  rw [if_pos hb, zset_set, zrs_t hb.1 hb.2.2.1 hp]
theorem zrs_lt (p : Nat → Nat → Bool) (hx : 0 ≤ x ∧ x ≤ w) (j : Nat) : zrs p w y x j < 2 ^ w := by
  have h0 : 0 < 2 ^ w := Nat.two_pow_pos w
  unfold zrs
  split
  · exact zro_lt _ _
  · split
    · exact Nat.lt_of_lt_of_le (zro_lt _ _) (Nat.pow_le_pow_right (by decide) (by omega))
    · exact h0
end ZRS
theorem isPl.up {h : ZH} {a ra w ht : Nat} {R : Nat → Nat} (hp : isPl h a ra w ht R) (R' : Nat → Nat) : isPl (zset h ra (zi 0 ht (zcn R'))) a ra w ht R' := ⟨zoth hp.2 hp.1 zkio, zset_same _ _ _⟩
theorem isPt.oth {h : ZH} {p pc la sa ra bf da af w ht q m : Nat} {pos : Int} {R : Nat → Nat} {f g r : Nat → Int} {md op vs : Int} {e : ZE} (hp : isPt h p pc la sa ra bf da af w ht pos R f g md op vs) (hq : h q = some (zi 0 m r)) (h1 : q ≠ ra) (h2 : q ≠ da) (h3 : q ≠ af) : isPt (zset h q e) p pc la sa ra bf da af w ht pos R f g md op vs := by
  obtain ⟨k1, k2, ⟨k3, k4⟩, ⟨k5, k6⟩, k7, k8, k9⟩ := hp
  refine ⟨zoth hq k1 zkio, zoth hq k2 zkio, ⟨zoth hq k3 zkio, ?_⟩, ⟨zoth hq k5 zkio, ?_⟩, ?_, k8, k9⟩
  · rw [zset_ne h1.symm]; exact k4
  · rw [zset_ne h2.symm]; exact k6
  · rw [zset_ne h3.symm]; exact k7
theorem isPt.fr {h : ZH} {p pc la sa ra bf da af w ht q : Nat} {pos : Int} {R : Nat → Nat} {f g : Nat → Int} {md op vs : Int} {e : ZE} (hp : isPt h p pc la sa ra bf da af w ht pos R f g md op vs) (hq : h q = none) : isPt (zset h q e) p pc la sa ra bf da af w ht pos R f g md op vs := by
  obtain ⟨k1, k2, ⟨k3, k4⟩, ⟨k5, k6⟩, k7, k8, k9⟩ := hp
  exact ⟨zget hq k1, zget hq k2, ⟨zget hq k3, zget hq k4⟩, ⟨zget hq k5, zget hq k6⟩, zget hq k7, k8, k9⟩
def zsz (R : Nat → Nat) : Nat → Nat
  | 0 => 0
  | n + 1 => zsz R n + zcb (R n) 24
