/-! ===== blurring ===== -/
/-- the sum of a column's bytes -/
def zcl (f : Nat → Int) (w ht : Nat) (x c y0 : Int) (n : Nat) : Int := zsum (fun t => zby (zldt f w ht x (y0 + (t : Int))) c) n
def zcls2 (f : Nat → Int) (w ht : Nat) (y0 : Int) (n : Nat) (old : Nat → Int) (i : Int) : Nat → Int := fun k => if (k : Int) < i then zcl f w ht ((k : Int) / 4) ((k : Int) % 4) y0 n else old k
theorem zcls2_0 (f : Nat → Int) (w ht : Nat) (y0 : Int) (n : Nat) (old : Nat → Int) : old = zcls2 f w ht y0 n old 0 := by
  funext k
  unfold zcls2
  rw [if_neg (by omega)]
theorem zcls2_up {f : Nat → Int} {w ht : Nat} {y0 : Int} {n : Nat} {old : Nat → Int} {i : Int} (hi : 0 ≤ i) : zup (zcls2 f w ht y0 n old i) i.toNat (zcl f w ht (i / 4) (i % 4) y0 n) = zcls2 f w ht y0 n old (i + 1) := by
  funext k
  unfold zup zcls2
  by_cases hk : k = i.toNat
  · rw [if_pos hk, if_pos (by omega)]
    have e : (k : Int) = i := by omega
    rw [e]
  · rw [if_neg hk]
    by_cases h2 : (k : Int) < i
    · rw [if_pos h2, if_pos (by omega)]
    · rw [if_neg h2, if_neg (by omega)]
theorem zcl_rg (f : Nat → Int) (w ht : Nat) (x c y0 : Int) (n : Nat) : 0 ≤ zcl f w ht x c y0 n ∧ zcl f w ht x c y0 n ≤ n * 255 := zsum_rg n (fun _ _ => zby_rg _ _)
/-- a byte of a blurred dot -/
def zbr (f : Nat → Int) (w ht : Nat) (r x y c : Int) : Int := (zsum (fun j => zsum (fun i => zby (zldt f w ht (x - r + (i : Int)) (y - r + (j : Int))) c) (2 * r + 1).toNat) (2 * r + 1).toNat + (2 * r + 1) * (2 * r + 1) / 2) / ((2 * r + 1) * (2 * r + 1))
def zbd (f : Nat → Int) (w ht : Nat) (r x y : Int) : Int := zdot (zbr f w ht r x y 0) (zbr f w ht r x y 1) (zbr f w ht r x y 2) (zbr f w ht r x y 3)
theorem zby_0c (c : Int) : zby 0 c = 0 := by
  unfold zby
  rw [Int.zero_ediv]
  rfl
theorem zcol {f : Nat → Int} {w ht : Nat} {r x y : Int} (c : Int) (hr : 1 ≤ r ∧ r ≤ 4) (hx : 0 ≤ x ∧ x < w) {first last : Int} (hf : first = if 0 < x - r then x - r else 0) (hl : last = if x + r < (w : Int) - 1 then x + r else (w : Int) - 1) :
    zsum (fun t => zcl f w ht (first + (t : Int)) c (y - r) (2 * r + 1).toNat) (last - first + 1).toNat = zsum (fun j => zsum (fun i => zby (zldt f w ht (x - r + (i : Int)) (y - r + (j : Int))) c) (2 * r + 1).toNat) (2 * r + 1).toNat := by
  have h1 : zsum (fun j => zsum (fun i => zby (zldt f w ht (x - r + (i : Int)) (y - r + (j : Int))) c) (2 * r + 1).toNat) (2 * r + 1).toNat = zsum (fun i => zcl f w ht (x - r + (i : Int)) c (y - r) (2 * r + 1).toNat) (2 * r + 1).toNat := (zsum_swap (fun i j => zby (zldt f w ht (x - r + (i : Int)) (y - r + (j : Int))) c) (2 * r + 1).toNat (2 * r + 1).toNat).symm
  rw [h1]
  refine (zsum_win (C := fun u => zcl f w ht u c (y - r) (2 * r + 1).toNat) (w := w) (x0 := x - r) (n := (2 * r + 1).toNat) (fun u hu => ?_) (first := first) (cnt := (last - first + 1).toNat) ?_ ?_).symm
  · show zcl f w ht u c (y - r) (2 * r + 1).toNat = 0
    unfold zcl
    rw [zsum_congr (G := fun _ => 0) _ (fun i _ => ?_), zsum_zero]
    show zby (zldt f w ht u _) c = 0
    unfold zldt
    rw [if_neg (by omega), zby_0c]
  · rw [hf]
    split <;> split <;> omega
  · rw [hf] at *
    subst hl
    split <;> split <;> split <;> omega
theorem zcls2_rg {f : Nat → Int} {w ht : Nat} {y0 r : Int} {old : Nat → Int} (hr : 1 ≤ r) (ho : ∀ k, 0 ≤ old k ∧ old k ≤ (2 * r + 1) * 255) (i : Int) (k : Nat) : 0 ≤ zcls2 f w ht y0 (2 * r + 1).toNat old i k ∧ zcls2 f w ht y0 (2 * r + 1).toNat old i k ≤ (2 * r + 1) * 255 := by
  unfold zcls2
  split
  · have h := zcl_rg f w ht ((k : Int) / 4) ((k : Int) % 4) y0 (2 * r + 1).toNat
    rw [Int.toNat_of_nonneg (by omega)] at h
    exact h
  · exact ho k
theorem zbyte {f : Nat → Int} {w ht : Nat} {r x y : Int} {old : Nat → Int} (hr : 1 ≤ r ∧ r ≤ 4) (hx : 0 ≤ x ∧ x < w) (c : Int) (hc : 0 ≤ c ∧ c ≤ 3) :
    (zsum (fun t => zcls2 f w ht (y - r) (2 * r + 1).toNat old (4 * w) (4 * ((if (0 : Int) < x - r then x - r else 0) + (t : Int)) + c).toNat) ((if x + r < (w : Int) - 1 then x + r else (w : Int) - 1) - (if (0 : Int) < x - r then x - r else 0) + 1).toNat + (2 * r + 1) * (2 * r + 1) / 2) / ((2 * r + 1) * (2 * r + 1)) = zbr f w ht r x y c := by
  unfold zbr
  rw [← zcol c hr hx rfl rfl]
  congr 2
  refine zsum_congr _ (fun i hi => ?_)
  generalize hfi : (if (0 : Int) < x - r then x - r else 0) = fi at hi ⊢
  generalize hla : (if x + r < (w : Int) - 1 then x + r else (w : Int) - 1) = la at hi
  have h1 : 0 ≤ fi ∧ la < w := by subst hfi; subst hla; split <;> split <;> omega
  have h2 : (((4 * (fi + (i : Int)) + c).toNat : Nat) : Int) = 4 * (fi + (i : Int)) + c := Int.toNat_of_nonneg (by omega)
  unfold zcls2
  rw [h2, if_pos (by omega)]
  have h3 : (4 * (fi + (i : Int)) + c) / 4 = fi + (i : Int) := by omega
  have h4 : (4 * (fi + (i : Int)) + c) % 4 = c := by omega
  rw [h3, h4]
