/-! ===== numbers of shapes, lines, counts ===== -/
theorem zsq {a B : Int} (h : -B ≤ a ∧ a ≤ B) : 0 ≤ a * a ∧ a * a ≤ B * B := by
  rcases Int.le_total 0 a with h0 | h0
  · exact zmulb ⟨h0, h.2⟩ ⟨h0, h.2⟩
  · have h1 := zmulb (a := -a) (b := -a) (A := B) (B := B) ⟨by omega, by omega⟩ ⟨by omega, by omega⟩
    rw [Int.neg_mul_neg] at h1
    exact h1
theorem zmula {a b A B : Int} (ha : 0 ≤ a ∧ a ≤ A) (hb : -B ≤ b ∧ b ≤ B) : -(A * B) ≤ a * b ∧ a * b ≤ A * B := by
  rcases Int.le_total 0 b with h0 | h0
  · have h1 := zmulb ha ⟨h0, hb.2⟩
    omega
  · have h1 := zmulb ha (b := -b) (B := B) ⟨by omega, by omega⟩
    rw [Int.mul_neg] at h1
    omega
abbrev zel (x y w e : Int) : Prop := (2 * x + 1 - w) * (2 * x + 1 - w) * (e * e) + (2 * y + 1 - e) * (2 * y + 1 - e) * (w * w) ≤ w * w * (e * e)
theorem zel_rg {x y w e : Int} (hx : 0 ≤ x ∧ x < w) (hy : 0 ≤ y ∧ y < e) (hw : w ≤ 1000) (he : e ≤ 1000) :
    (0 ≤ (2 * x + 1 - w) * (2 * x + 1 - w) * (e * e) + (2 * y + 1 - e) * (2 * y + 1 - e) * (w * w) ∧ (2 * x + 1 - w) * (2 * x + 1 - w) * (e * e) + (2 * y + 1 - e) * (2 * y + 1 - e) * (w * w) ≤ 2000000000000) ∧ (0 ≤ w * w * (e * e) ∧ w * w * (e * e) ≤ 1000000000000) := by
  have h1 := zsq (a := 2 * x + 1 - w) (B := 1000) ⟨by omega, by omega⟩
  have h2 := zsq (a := 2 * y + 1 - e) (B := 1000) ⟨by omega, by omega⟩
  have h3 := zsq (a := w) (B := 1000) ⟨by omega, by omega⟩
  have h4 := zsq (a := e) (B := 1000) ⟨by omega, by omega⟩
  have e1 : (1000 : Int) * 1000 = 1000000 := by decide
  rw [e1] at h1 h2 h3 h4
  have h5 := zmulb h1 h4
  have h6 := zmulb h2 h3
  have h7 := zmulb h3 h4
  omega
/-- the rows of two selections -/
def zjr (A B : Nat) (how : Int) : Nat := if how = 0 then B else if how = 1 then A ||| B else if how = 2 then A ^^^ (A &&& B) else A &&& B
theorem zq_not (x : Int) : Int32.ofInt x ^^^ Int32.ofInt (-1) = Int32.ofInt (-1 - x) := by
  have h1 : Int32.ofInt (-1) = -1 := rfl
  have h2 : Int32.ofInt x ^^^ (-1) = ~~~ (Int32.ofInt x) := by
    apply Int32.toBitVec.inj
    rw [Int32.toBitVec_xor, Int32.toBitVec_not]
    show (Int32.ofInt x).toBitVec ^^^ BitVec.allOnes 32 = _
    rw [BitVec.xor_allOnes]
  rw [h1, h2, Int32.not_eq_neg_add, Int32.ofInt_sub]
  have h3 : Int32.ofInt (-1) = (-1 : Int32) := rfl
  rw [h3]
  apply Int32.toBitVec.inj
  simp only [Int32.toBitVec_sub, Int32.toBitVec_neg]
  rw [BitVec.sub_eq_add_neg, BitVec.sub_eq_add_neg, BitVec.add_comm]
theorem zq_andnot (A B : Nat) : Int32.ofInt (A : Int) &&& Int32.ofInt (-1 - (B : Int)) = Int32.ofInt ((A ^^^ (A &&& B) : Nat) : Int) := by
  rw [← zq_not]
  apply Int32.toBitVec.inj
  rw [Int32.toBitVec_and, Int32.toBitVec_xor, Int32.toBitVec_ofInt, Int32.toBitVec_ofInt, Int32.toBitVec_ofInt, Int32.toBitVec_ofInt, BitVec.ofInt_natCast, BitVec.ofInt_natCast, BitVec.ofInt_natCast]
  apply BitVec.eq_of_getLsbD_eq
  intro i hi
  rw [BitVec.getLsbD_and, BitVec.getLsbD_xor, BitVec.getLsbD_ofNat, BitVec.getLsbD_ofNat, BitVec.getLsbD_ofNat, Nat.testBit_xor, Nat.testBit_and]
  have h1 : (BitVec.ofInt 32 (-1)).getLsbD i = true := by
    show (BitVec.allOnes 32).getLsbD i = true
    rw [BitVec.getLsbD_allOnes]
    simp [hi]
  rw [h1]
  simp only [hi, decide_true, Bool.true_and]
  cases A.testBit i <;> cases B.testBit i <;> rfl
theorem zjr_lt {A B : Nat} (how : Int) {n : Nat} (hA : A < 2 ^ n) (hB : B < 2 ^ n) : zjr A B how < 2 ^ n := by
  unfold zjr
  split
  · exact hB
  · split
    · exact Nat.or_lt_two_pow hA hB
    · split
      · exact Nat.xor_lt_two_pow hA (Nat.and_lt_two_pow _ hB)
      · exact Nat.and_lt_two_pow _ hB
/-- the sign of an exclusive or -/
theorem zq_xsg {x y : Int} (hx : zrg x) (hy : 0 < y ∧ y < 2147483648) : ∃ v : Int, Int32.ofInt x ^^^ Int32.ofInt y = Int32.ofInt v ∧ zrg v ∧ (0 ≤ v ↔ 0 ≤ x) := by
  have hv := Int32.le_toInt (Int32.ofInt x ^^^ Int32.ofInt y)
  have hv2 := Int32.toInt_lt (Int32.ofInt x ^^^ Int32.ofInt y)
  refine ⟨(Int32.ofInt x ^^^ Int32.ofInt y).toInt, (Int32.ofInt_toInt _).symm, ⟨by omega, by omega⟩, ?_⟩
  have k : ∀ z : Int32, 0 ≤ z.toInt ↔ z.toBitVec.msb = false := by
    intro z
    have h1 : z.toInt = z.toBitVec.toInt := rfl
    rw [h1]
    cases hm : z.toBitVec.msb
    · exact ⟨fun _ => rfl, fun _ => BitVec.toInt_nonneg_of_msb_false hm⟩
    · have := BitVec.toInt_neg_of_msb_true hm
      simp only [Bool.true_eq_false, iff_false]
      omega
  rw [k]
  have h2 := k (Int32.ofInt x)
  have h3 := k (Int32.ofInt y)
  rw [zq_toInt hx] at h2
  rw [zq_toInt ⟨by omega, hy.2⟩] at h3
  rw [h2, Int32.toBitVec_xor, BitVec.msb_xor, h3.mp (by omega), Bool.xor_false]
def zpa (way step last : Int) : Int := if last = 0 then 0 else (2 * step * way + last) / (2 * last)
theorem ztd {x y : Int} (hy : 0 < y) : (x < 0 → x.tdiv y * y = x → x / y = x.tdiv y) ∧ (x < 0 → x.tdiv y * y ≠ x → x / y = x.tdiv y - 1) := by
  have h1 := Int.mul_tdiv_add_tmod x y
  have h2 : x < 0 → -y < x.tmod y ∧ x.tmod y ≤ 0 := by
    intro hx
    have e : x.tmod y = -((-x).tmod y) := by rw [Int.neg_tmod, Int.neg_neg]
    rw [e, Int.tmod_eq_emod_of_nonneg (by omega)]
    have h3 := Int.emod_nonneg (-x) (by omega : y ≠ 0)
    have h4 := Int.emod_lt_of_pos (-x) hy
    omega
  constructor
  · intro hx he
    apply Int.le_antisymm
    · have := Int.ediv_lt_of_lt_mul (a := x) (b := x.tdiv y + 1) (c := y) hy (by rw [Int.add_mul]; omega)
      omega
    · rw [Int.le_ediv_iff_mul_le hy]; omega
  · intro hx he
    obtain ⟨h3, h4⟩ := h2 hx
    have e1 : y * x.tdiv y = x.tdiv y * y := Int.mul_comm _ _
    apply Int.le_antisymm
    · have := Int.ediv_lt_of_lt_mul (a := x) (b := x.tdiv y) (c := y) hy (by omega)
      omega
    · rw [Int.le_ediv_iff_mul_le hy, Int.sub_mul]; omega
