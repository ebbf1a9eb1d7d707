/-! ===== lines; counts of places ===== -/
def zlo (v : Int) : Int := v.bmod 65536
def zhi (v : Int) : Int := v / 65536
def zmx2 (x y : Int) : Int := if x < y then y else x
theorem zpa_rg {a s l : Int} (ha : -200 ≤ a ∧ a ≤ 200) (hs : 0 ≤ s ∧ s ≤ l) : -200 ≤ zpa a s l ∧ zpa a s l ≤ 200 := by
  unfold zpa
  split
  · omega
  · have h1 := zmula (a := 2 * s) (b := a) (A := 2 * l) (B := 200) ⟨by omega, by omega⟩ ha
    constructor
    · rw [Int.le_ediv_iff_mul_le (by omega)]
      omega
    · have := Int.ediv_lt_of_lt_mul (a := 2 * s * a + l) (b := 201) (c := 2 * l) (by omega) (by omega)
      omega
theorem zcv.trans {R R2 R3 : Nat → Nat} {w ht : Nat} {S S2 S3 : Int → Int → Prop} (h1 : zcv R R2 w ht S) (h2 : zcv R2 R3 w ht S2) (hS : ∀ i j : Nat, i < w → j < ht → (S3 i j ↔ S i j ∨ S2 i j)) : zcv R R3 w ht S3 := by
  refine ⟨fun i j hi hj => ?_, h2.2⟩
  rw [h2.1 i j hi hj, h1.1 i j hi hj, hS i j hi hj, or_assoc]
/-- the steps of a line -/
def zlx (fr to : Int) (k : Nat) : Int := zlo fr + zpa (zlo to - zlo fr) k (zmx2 (zab (zlo to - zlo fr)) (zab (zhi to - zhi fr)))
def zly (fr to : Int) (k : Nat) : Int := zhi fr + zpa (zhi to - zhi fr) k (zmx2 (zab (zlo to - zlo fr)) (zab (zhi to - zhi fr)))
def zln (fr to : Int) : Int := zmx2 (zab (zlo to - zlo fr)) (zab (zhi to - zhi fr))
abbrev zl4 (fr to : Int) : Prop := ((-100 ≤ zlo fr ∧ zlo fr ≤ 100) ∧ (-100 ≤ zhi fr ∧ zhi fr ≤ 100)) ∧ ((-100 ≤ zlo to ∧ zlo to ≤ 100) ∧ (-100 ≤ zhi to ∧ zhi to ≤ 100))
theorem zln_rg {fr to : Int} (h : zl4 fr to) : (0 ≤ zln fr to ∧ zln fr to ≤ 200) ∧ (-200 ≤ zlo to - zlo fr ∧ zlo to - zlo fr ≤ 200) ∧ (-200 ≤ zhi to - zhi fr ∧ zhi to - zhi fr ≤ 200) := by
  obtain ⟨⟨h1, h2⟩, h3, h4⟩ := h
  refine ⟨?_, by omega, by omega⟩
  unfold zln zmx2 zab
  split <;> split <;> split <;> omega
def zc1 (p : Nat → Bool) : Nat → Nat
  | 0 => 0
  | n + 1 => zc1 p n + (if p n = true then 1 else 0)
def zc2 (P : Nat → Nat → Bool) (w : Nat) : Nat → Nat
  | 0 => 0
  | n + 1 => zc2 P w n + zc1 (P n) w
theorem zc1_le (p : Nat → Bool) : ∀ n, zc1 p n ≤ n := by
  intro n
  induction n with
  | zero => exact Nat.le_refl _
  | succ n ih =>
    show zc1 p n + _ ≤ n + 1
    split <;> omega
theorem zc2_le (P : Nat → Nat → Bool) (w : Nat) : ∀ n, zc2 P w n ≤ w * n := by
  intro n
  induction n with
  | zero => exact Nat.le_refl _
  | succ n ih =>
    have h1 := zc1_le (P n) w
    show zc2 P w n + zc1 (P n) w ≤ w * (n + 1)
    rw [Nat.mul_add]
    omega
/-- how many of the places ahead of y, x -/
def zcn2 (P : Nat → Nat → Bool) (w : Nat) (y x : Int) : Nat := zc2 P w y.toNat + zc1 (P y.toNat) x.toNat
theorem zcn2_le (P : Nat → Nat → Bool) {w ht : Nat} {y x : Int} (hy : 0 ≤ y ∧ y < ht) (hx : 0 ≤ x ∧ x ≤ w) (hw : w ≤ 24) (hh : ht ≤ 24) : zcn2 P w y x ≤ 576 := by
  have h1 := zc2_le P w y.toNat
  have h2 := zc1_le (P y.toNat) x.toNat
  have h3 : w * y.toNat + w ≤ w * ht := by
    rw [← Nat.mul_succ]
    exact Nat.mul_le_mul_left _ (by omega)
  have h4 := Nat.mul_le_mul hw hh
  unfold zcn2
  omega
theorem zcn2_t {P : Nat → Nat → Bool} {w : Nat} {y x : Int} (hx : 0 ≤ x) (hp : P y.toNat x.toNat = true) : ((zcn2 P w y x : Nat) : Int) + 1 = zcn2 P w y (x + 1) := by
  have e : (x + 1).toNat = x.toNat + 1 := by omega
  unfold zcn2
  rw [e]
  show _ = ((zc2 P w y.toNat + (zc1 (P y.toNat) x.toNat + (if P y.toNat x.toNat = true then 1 else 0)) : Nat) : Int)
  rw [if_pos hp]
  omega
theorem zcn2_f {P : Nat → Nat → Bool} {w : Nat} {y x : Int} (hx : 0 ≤ x) (hp : P y.toNat x.toNat = false) : zcn2 P w y x = zcn2 P w y (x + 1) := by
  have e : (x + 1).toNat = x.toNat + 1 := by omega
  unfold zcn2
  rw [e]
  show _ = zc2 P w y.toNat + (zc1 (P y.toNat) x.toNat + (if P y.toNat x.toNat = true then 1 else 0))
  rw [if_neg (by rw [hp]; decide)]
  omega
theorem zcn2_e (P : Nat → Nat → Bool) (w : Nat) {y : Int} (hy : 0 ≤ y) : zcn2 P w y w = zcn2 P w (y + 1) 0 := by
  have e : (y + 1).toNat = y.toNat + 1 := by omega
  unfold zcn2
  rw [e, Int.toNat_natCast]
  rfl
theorem zcn2_0 (P : Nat → Nat → Bool) (w : Nat) : zcn2 P w 0 0 = 0 := rfl
theorem zskip {f : Nat → Int} {w ht : Nat} {R : Nat → Nat} {g : Nat → Nat → Int} {x y : Int} {h0 : ZH} {af : Nat} (hb : zbox x y w ht) (hg : g x.toNat y.toNat = f (y.toNat * w + x.toNat)) : zset h0 af (zi 0 (w * ht) (zpt f w R g (y * w + x).toNat)) = zset h0 af (zi 0 (w * ht) (zpt f w R g (y * w + (x + 1)).toNat)) := by
  rw [zpt_s hb (by rw [hg, (zkn2 (R := R) hb).1])]
