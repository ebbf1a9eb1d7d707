/-! ===== numbers of dots ===== -/
theorem zmulb {a b A B : Int} (ha : 0 ≤ a ∧ a ≤ A) (hb : 0 ≤ b ∧ b ≤ B) : 0 ≤ a * b ∧ a * b ≤ A * B :=
  ⟨Int.mul_nonneg ha.1 hb.1, Int.mul_le_mul ha.2 hb.2 hb.1 (Int.le_trans ha.1 ha.2)⟩
theorem zor_split (k q r q' r' : Nat) (hr : r < 2 ^ k) (hr' : r' < 2 ^ k) : (2 ^ k * q + r) ||| (2 ^ k * q' + r') = 2 ^ k * (q ||| q') + (r ||| r') := by
  apply Nat.eq_of_testBit_eq
  intro i
  have h3 : r ||| r' < 2 ^ k := Nat.or_lt_two_pow hr hr'
  rw [Nat.testBit_or, Nat.testBit_two_pow_mul_add _ hr, Nat.testBit_two_pow_mul_add _ hr', Nat.testBit_two_pow_mul_add _ h3]
  split <;> simp [Nat.testBit_or]
theorem zand_split (k q r q' r' : Nat) (hr : r < 2 ^ k) (hr' : r' < 2 ^ k) : (2 ^ k * q + r) &&& (2 ^ k * q' + r') = 2 ^ k * (q &&& q') + (r &&& r') := by
  apply Nat.eq_of_testBit_eq
  intro i
  have h3 : r &&& r' < 2 ^ k := Nat.and_lt_two_pow _ hr'
  rw [Nat.testBit_and, Nat.testBit_two_pow_mul_add _ hr, Nat.testBit_two_pow_mul_add _ hr', Nat.testBit_two_pow_mul_add _ h3]
  split <;> simp [Nat.testBit_and]
def zpq (a b c d : Int) : Int := a * 16777216 + b * 65536 + c * 256 + d
theorem zpk_or {a b c d a' b' c' d' : Nat} (hb : b < 256) (hc : c < 256) (hd : d < 256) (hb' : b' < 256) (hc' : c' < 256) (hd' : d' < 256) : (16777216 * a + (65536 * b + (256 * c + d))) ||| (16777216 * a' + (65536 * b' + (256 * c' + d'))) = 16777216 * (a ||| a') + (65536 * (b ||| b') + (256 * (c ||| c') + (d ||| d'))) := by
  have h1 := zor_split 24 a (65536 * b + (256 * c + d)) a' (65536 * b' + (256 * c' + d')) (by omega) (by omega)
  have h2 := zor_split 16 b (256 * c + d) b' (256 * c' + d') (by omega) (by omega)
  have h3 := zor_split 8 c d c' d' (by omega) (by omega)
  have e1 : (2 ^ 24 : Nat) = 16777216 := by decide
  have e2 : (2 ^ 16 : Nat) = 65536 := by decide
  have e3 : (2 ^ 8 : Nat) = 256 := by decide
  rw [e1] at h1
  rw [e2] at h2
  rw [e3] at h3
  rw [h1, h2, h3]
theorem zor_pq {a b c d a' b' c' d' : Int} (ha : 0 ≤ a ∧ a ≤ 255) (hb : 0 ≤ b ∧ b ≤ 255) (hc : 0 ≤ c ∧ c ≤ 255) (hd : 0 ≤ d ∧ d ≤ 255) (ha' : 0 ≤ a' ∧ a' ≤ 255) (hb' : 0 ≤ b' ∧ b' ≤ 255) (hc' : 0 ≤ c' ∧ c' ≤ 255) (hd' : 0 ≤ d' ∧ d' ≤ 255)
    (h1 : a = 0 ∨ a' = 0) (h2 : b = 0 ∨ b' = 0) (h3 : c = 0 ∨ c' = 0) (h4 : d = 0 ∨ d' = 0) : Int32.ofInt (zpq a b c d) ||| Int32.ofInt (zpq a' b' c' d') = Int32.ofInt (zpq (a + a') (b + b') (c + c') (d + d')) := by
  obtain ⟨a, rfl⟩ := Int.eq_ofNat_of_zero_le ha.1
  obtain ⟨b, rfl⟩ := Int.eq_ofNat_of_zero_le hb.1
  obtain ⟨c, rfl⟩ := Int.eq_ofNat_of_zero_le hc.1
  obtain ⟨d, rfl⟩ := Int.eq_ofNat_of_zero_le hd.1
  obtain ⟨a', rfl⟩ := Int.eq_ofNat_of_zero_le ha'.1
  obtain ⟨b', rfl⟩ := Int.eq_ofNat_of_zero_le hb'.1
  obtain ⟨c', rfl⟩ := Int.eq_ofNat_of_zero_le hc'.1
  obtain ⟨d', rfl⟩ := Int.eq_ofNat_of_zero_le hd'.1
  have e1 : zpq a b c d = ((16777216 * a + (65536 * b + (256 * c + d)) : Nat) : Int) := by unfold zpq; omega
  have e2 : zpq a' b' c' d' = ((16777216 * a' + (65536 * b' + (256 * c' + d')) : Nat) : Int) := by unfold zpq; omega
  rw [e1, e2, zq_or, zpk_or (by omega) (by omega) (by omega) (by omega) (by omega) (by omega)]
  congr 1
  have z : ∀ x y : Nat, ((x : Int) = 0 ∨ (y : Int) = 0) → ((x ||| y : Nat) : Int) = (x : Int) + y := by
    intro x y h
    rcases h with h | h
    · have : x = 0 := by omega
      subst this
      simp
    · have : y = 0 := by omega
      subst this
      simp
  have z1 := z _ _ h1
  have z2 := z _ _ h2
  have z3 := z _ _ h3
  have z4 := z _ _ h4
  unfold zpq
  omega
theorem zpq_0 (a : Int) : a * 2 ^ (24 - 8 * (0 : Int)).toNat = zpq a 0 0 0 := by show a * 16777216 = _; unfold zpq; omega
theorem zpq_1 (a : Int) : a * 2 ^ (24 - 8 * (1 : Int)).toNat = zpq 0 a 0 0 := by show a * 65536 = _; unfold zpq; omega
theorem zpq_2 (a : Int) : a * 2 ^ (24 - 8 * (2 : Int)).toNat = zpq 0 0 a 0 := by show a * 256 = _; unfold zpq; omega
theorem zpq_3 (a : Int) : a * 2 ^ (24 - 8 * (3 : Int)).toNat = zpq 0 0 0 a := by show a * 1 = _; unfold zpq; omega
theorem zo_a {a b c d : Int} (ha : 0 ≤ a ∧ a ≤ 255) (hb : 0 ≤ b ∧ b ≤ 255) (hc : 0 ≤ c ∧ c ≤ 255) (hd : 0 ≤ d ∧ d ≤ 255) : Int32.ofInt (zpq 0 b c d) ||| Int32.ofInt (a * 2 ^ (24 - 8 * (0 : Int)).toNat) = Int32.ofInt (zpq a b c d) := by
  rw [zpq_0, zor_pq (by decide) hb hc hd ha (by decide) (by decide) (by decide) (Or.inl rfl) (Or.inr rfl) (Or.inr rfl) (Or.inr rfl)]
  simp
theorem zo_b {a b c d : Int} (ha : 0 ≤ a ∧ a ≤ 255) (hb : 0 ≤ b ∧ b ≤ 255) (hc : 0 ≤ c ∧ c ≤ 255) (hd : 0 ≤ d ∧ d ≤ 255) : Int32.ofInt (zpq a 0 c d) ||| Int32.ofInt (b * 2 ^ (24 - 8 * (1 : Int)).toNat) = Int32.ofInt (zpq a b c d) := by
  rw [zpq_1, zor_pq ha (by decide) hc hd (by decide) hb (by decide) (by decide) (Or.inr rfl) (Or.inl rfl) (Or.inr rfl) (Or.inr rfl)]
  simp
theorem zo_c {a b c d : Int} (ha : 0 ≤ a ∧ a ≤ 255) (hb : 0 ≤ b ∧ b ≤ 255) (hc : 0 ≤ c ∧ c ≤ 255) (hd : 0 ≤ d ∧ d ≤ 255) : Int32.ofInt (zpq a b 0 d) ||| Int32.ofInt (c * 2 ^ (24 - 8 * (2 : Int)).toNat) = Int32.ofInt (zpq a b c d) := by
  rw [zpq_2, zor_pq ha hb (by decide) hd (by decide) (by decide) hc (by decide) (Or.inr rfl) (Or.inr rfl) (Or.inl rfl) (Or.inr rfl)]
  simp
theorem zo_d {a b c d : Int} (ha : 0 ≤ a ∧ a ≤ 255) (hb : 0 ≤ b ∧ b ≤ 255) (hc : 0 ≤ c ∧ c ≤ 255) (hd : 0 ≤ d ∧ d ≤ 255) : Int32.ofInt (zpq a b c 0) ||| Int32.ofInt (d * 2 ^ (24 - 8 * (3 : Int)).toNat) = Int32.ofInt (zpq a b c d) := by
  rw [zpq_3, zor_pq ha hb hc (by decide) (by decide) (by decide) (by decide) hd (Or.inr rfl) (Or.inr rfl) (Or.inr rfl) (Or.inl rfl)]
  simp
theorem zpq_dot (a b c d : Int) : zI (zpq a b c d) = zI (zdot a b c d) := congrArg Value.int (zdot_bmod a b c d)
def zdv (v : Int) : Int := (v + 127) / 255
def zmx (mode s b : Int) : Int := if mode = 1 then zdv (s * b) else if mode = 2 then s + b - zdv (s * b) else if mode = 3 then (if b < s then b else s) else if mode = 4 then (if s < b then b else s) else if mode = 5 then (if s + b < 255 then s + b else 255) else s
theorem zdv_rg {v : Int} (h : 0 ≤ v ∧ v ≤ 65025) : 0 ≤ zdv v ∧ zdv v ≤ 255 := by unfold zdv; omega
theorem zmx_rg {m s b : Int} (hs : 0 ≤ s ∧ s ≤ 255) (hb : 0 ≤ b ∧ b ≤ 255) : 0 ≤ zmx m s b ∧ zmx m s b ≤ 255 := by
  have h1 := zmulb hs hb
  have h2 : (255 : Int) * 255 = 65025 := by decide
  rw [h2] at h1
  have h3 := zdv_rg h1
  have h4 : s * b ≤ 255 * b := Int.mul_le_mul_of_nonneg_right hs.2 hb.1
  have h5 : s * b ≤ s * 255 := Int.mul_le_mul_of_nonneg_left hb.2 hs.1
  have h6 : zdv (s * b) ≤ s ∧ zdv (s * b) ≤ b ∧ s + b - 255 ≤ zdv (s * b) := by
    have h7 : 0 ≤ (255 - s) * (255 - b) := Int.mul_nonneg (by omega) (by omega)
    have h8 : (255 - s) * (255 - b) = 65025 - 255 * s - 255 * b + s * b := by
      rw [Int.sub_mul, Int.mul_sub, Int.mul_sub]
      omega
    unfold zdv
    omega
  unfold zmx
  split
  · exact h3
  · split
    · omega
    · split
      · split <;> omega
      · split
        · split <;> omega
        · split
          · split <;> omega
          · omega
def zab (x : Int) : Int := if 0 ≤ x then x else -x
abbrev zak (p q t : Int) : Prop := zab (zby p 0 - zby q 0) ≤ t ∧ zab (zby p 1 - zby q 1) ≤ t ∧ zab (zby p 2 - zby q 2) ≤ t ∧ zab (zby p 3 - zby q 3) ≤ t
/-- a byte between two -/
def zgc (f l k n c : Int) : Int := (zby f c * (n - k) + zby l c * k + n / 2) / n
def zbt (f l k n : Int) : Int := if n = 0 then f else zdot (zgc f l k n 0) (zgc f l k n 1) (zgc f l k n 2) (zgc f l k n 3)
theorem zdiv_le {a b c : Int} (hb : 0 < b) (ha : 0 ≤ a) (h : a < (c + 1) * b) : 0 ≤ a / b ∧ a / b ≤ c := by
  refine ⟨Int.ediv_nonneg ha (by omega), ?_⟩
  have := Int.ediv_lt_of_lt_mul hb h
  omega
theorem zgc_rg {f l k n : Int} (c : Int) (hk : 0 ≤ k ∧ k ≤ n) (hn : 0 < n ∧ n ≤ 1000) : 0 ≤ zgc f l k n c ∧ zgc f l k n c ≤ 255 ∧ 0 ≤ zby f c * (n - k) + zby l c * k + n / 2 ∧ zby f c * (n - k) + zby l c * k + n / 2 ≤ 300000 := by
  have h1 := zmulb (zby_rg f c) (b := n - k) (B := n - k) ⟨by omega, by omega⟩
  have h2 := zmulb (zby_rg l c) (b := k) (B := k) ⟨by omega, by omega⟩
  have h3 : zby f c * (n - k) + zby l c * k + n / 2 < (255 + 1) * n := by omega
  obtain ⟨h4, h5⟩ := zdiv_le (c := 255) hn.1 (by omega) h3
  exact ⟨h4, h5, by omega, by omega⟩
/-- four dots to one -/
def zmc (a b c d : Int) : Int := zby a 3 + zby b 3 + zby c 3 + zby d 3
def zms (a b c d k : Int) : Int := zby a 3 * zby a k + zby b 3 * zby b k + zby c 3 * zby c k + zby d 3 * zby d k
def zmg (a b c d : Int) : Int := if zmc a b c d = 0 then 0 else zdot ((zms a b c d 0 + zmc a b c d / 2) / zmc a b c d) ((zms a b c d 1 + zmc a b c d / 2) / zmc a b c d) ((zms a b c d 2 + zmc a b c d / 2) / zmc a b c d) ((zmc a b c d + 2) / 4)
theorem zmg_rg {a b c d : Int} (k : Int) (h0 : zmc a b c d ≠ 0) : (0 < zmc a b c d ∧ zmc a b c d ≤ 1020) ∧ (0 ≤ zms a b c d k + zmc a b c d / 2 ∧ zms a b c d k + zmc a b c d / 2 ≤ 300000) ∧ (0 ≤ (zms a b c d k + zmc a b c d / 2) / zmc a b c d ∧ (zms a b c d k + zmc a b c d / 2) / zmc a b c d ≤ 255) := by
  have a3 := zby_rg a 3
  have b3 := zby_rg b 3
  have c3 := zby_rg c 3
  have d3 := zby_rg d 3
  have h1 := zmulb (A := zby a 3) ⟨a3.1, Int.le_refl _⟩ (zby_rg a k)
  have h2 := zmulb (A := zby b 3) ⟨b3.1, Int.le_refl _⟩ (zby_rg b k)
  have h3 := zmulb (A := zby c 3) ⟨c3.1, Int.le_refl _⟩ (zby_rg c k)
  have h4 := zmulb (A := zby d 3) ⟨d3.1, Int.le_refl _⟩ (zby_rg d k)
  have hm : zms a b c d k = zby a 3 * zby a k + zby b 3 * zby b k + zby c 3 * zby c k + zby d 3 * zby d k := rfl
  have hc : zmc a b c d = zby a 3 + zby b 3 + zby c 3 + zby d 3 := rfl
  have h5 : zms a b c d k + zmc a b c d / 2 < (255 + 1) * zmc a b c d := by omega
  have h6 := zdiv_le (c := 255) (by omega) (by omega) h5
  exact ⟨⟨by omega, by omega⟩, ⟨by omega, by omega⟩, h6⟩
/-- blending: S onto B -/
def zbs (S op : Int) : Int := zdv (zby S 3 * op)
def zbu (S B op : Int) : Int := zby B 3 * (255 - zbs S op)
def zbw (S B op : Int) : Int := 255 * zbs S op + zbu S B op
def zbx (S B m k : Int) : Int := zdv (zby B 3 * zmx m (zby S k) (zby B k) + (255 - zby B 3) * zby S k)
def zbn (S B m op k : Int) : Int := 255 * zbs S op * zbx S B m k + zbu S B op * zby B k
def zbk (S B m op k : Int) : Int := (zbn S B m op k + zbw S B op / 2) / zbw S B op
def zbl (S B m op : Int) : Int := if zbw S B op = 0 then 0 else zdot (zbk S B m op 0) (zbk S B m op 1) (zbk S B m op 2) (zdv (zbw S B op))
theorem zbs_rg (S : Int) {op : Int} (ho : 0 ≤ op ∧ op ≤ 255) : 0 ≤ zbs S op ∧ zbs S op ≤ 255 ∧ 0 ≤ zby S 3 * op ∧ zby S 3 * op ≤ 65025 := by
  have h1 := zmulb (zby_rg S 3) ho
  have h2 : (255 : Int) * 255 = 65025 := by decide
  rw [h2] at h1
  exact ⟨(zdv_rg h1).1, (zdv_rg h1).2, h1.1, h1.2⟩
theorem zbu_rg (S B : Int) {op : Int} (ho : 0 ≤ op ∧ op ≤ 255) : 0 ≤ zbu S B op ∧ zbu S B op + 255 * zbs S op ≤ 65025 := by
  have h1 := zbs_rg S ho
  have h2 := zmulb (zby_rg B 3) (b := 255 - zbs S op) (B := 255 - zbs S op) ⟨by omega, by omega⟩
  unfold zbu
  omega
theorem zbx_rg (S B m k : Int) : 0 ≤ zbx S B m k ∧ zbx S B m k ≤ 255 ∧ 0 ≤ zby B 3 * zmx m (zby S k) (zby B k) + (255 - zby B 3) * zby S k ∧ zby B 3 * zmx m (zby S k) (zby B k) + (255 - zby B 3) * zby S k ≤ 65025 := by
  have b3 := zby_rg B 3
  have h1 := zmulb (A := zby B 3) ⟨b3.1, Int.le_refl _⟩ (zmx_rg (m := m) (zby_rg S k) (zby_rg B k))
  have h2 := zmulb (a := 255 - zby B 3) (A := 255 - zby B 3) ⟨by omega, by omega⟩ (zby_rg S k)
  have h3 : 0 ≤ zby B 3 * zmx m (zby S k) (zby B k) + (255 - zby B 3) * zby S k ∧ zby B 3 * zmx m (zby S k) (zby B k) + (255 - zby B 3) * zby S k ≤ 65025 := by omega
  exact ⟨(zdv_rg h3).1, (zdv_rg h3).2, h3.1, h3.2⟩
theorem zbk_rg (S B m k : Int) {op : Int} (ho : 0 ≤ op ∧ op ≤ 255) (h0 : zbw S B op ≠ 0) : (0 < zbw S B op ∧ zbw S B op ≤ 65025) ∧ (0 ≤ zbn S B m op k ∧ zbn S B m op k + zbw S B op / 2 ≤ 20000000) ∧ (0 ≤ zbk S B m op k ∧ zbk S B m op k ≤ 255) := by
  have h1 := zbs_rg S ho
  have h2 := zbu_rg S B ho
  have h3 := zbx_rg S B m k
  have h4 := zmulb (a := 255 * zbs S op) (A := 255 * zbs S op) ⟨by omega, by omega⟩ ⟨h3.1, h3.2.1⟩
  have h5 := zmulb (a := zbu S B op) (A := zbu S B op) ⟨by omega, by omega⟩ (zby_rg B k)
  have hw : zbw S B op = 255 * zbs S op + zbu S B op := rfl
  have hn : zbn S B m op k = 255 * zbs S op * zbx S B m k + zbu S B op * zby B k := rfl
  have h6 : zbn S B m op k + zbw S B op / 2 < (255 + 1) * zbw S B op := by omega
  have h7 := zdiv_le (c := 255) (by omega) (by omega) h6
  exact ⟨⟨by omega, by omega⟩, ⟨by omega, by omega⟩, h7⟩
section ZB
variable {h : ZH} {P : Prop}
theorem zret_t [Decidable P] (hp : P) : zP (zI (zb P)) h (.inl (some (zI 1))) h := by
  rw [zb, if_pos hp]; exact ⟨rfl, rfl⟩
theorem zret_f [Decidable P] (hp : ¬ P) : zP (zI (zb P)) h (.inl (some (zI 0))) h := by
  rw [zb, if_neg hp]; exact ⟨rfl, rfl⟩
theorem zret_e {a b : Int} (he : a = b) : zP (zI b) h (.inl (some (zI a))) h := by subst he; exact ⟨rfl, rfl⟩
theorem zret_q {a b : Int} (he : zI a = zI b) : zP (zI b) h (.inl (some (zI a))) h := by rw [he]; exact ⟨rfl, rfl⟩
end ZB
theorem zz_iincK {Z : ZC} {F : ZF} {pc q t : Nat} {L st : List Value} {h : ZH} {mc ms : Nat} {Q : ZR → ZH → Prop} {x n : Int} {k0 : Nat} (y : Int) (hd : zT F.2.1 pc = some (.iinc k0 n, q, t)) (hL : L[k0]? = some (zI x)) (hz : zst L k0 = true) (hn : Nat.blt k0 (znL F.2.1) = true) (hy : x + n = y) (k : Ev Z F q (zsl L k0 (zI y)) st h mc ms Q) : Ev Z F pc L st h mc ms Q := by
  subst hy
  exact zz_iinc hd hL hz hn k
