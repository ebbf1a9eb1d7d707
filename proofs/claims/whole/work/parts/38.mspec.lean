/-! ===== the reference's own state ===== -/
/-- its numbers, its arrays of numbers, its array of truths -/
abbrev MX : Type := (Nat → Int) × (Nat → Nat → Int) × (Nat → Int)
def mN (k : Nat) : Nat := if k = 1 then 13824 else if k = 2 then 192 else if k = 5 then 8 else if k = 6 then 8 else if k = 7 then 8 else if k = 8 then 576 else if k = 10 then 576 else if k = 12 then 576 else 24
def mfs (A : Nat → Nat) (s : Nat → Int) : List Value := [zI (s 0), .ref (A 1), .ref (A 2), .ref (A 3), .ref (A 4), .ref (A 13), .ref (A 5), .ref (A 6), .ref (A 7), zI (s 1), zI (s 2), zI (s 3), zI (s 4), zI (s 5), zI (s 6), zI (s 7), .ref (A 8), .ref (A 9), .ref (A 10), .ref (A 11), .ref (A 12)]
def mcell (A : Nat → Nat) (X : MX) (k : Nat) : ZE := if k = 0 then zo 1 (mfs A X.1) else if k = 13 then za 1 24 (fun i => zI (X.2.2 i)) else zi k (mN k) (X.2.1 k)
def mwh (A : Nat → Nat) (q : Nat) : Option Nat := (List.range 14).find? (fun k => Nat.beq (A k) q)
def mH (h : ZH) (A : Nat → Nat) (X : MX) : ZH := fun q => match mwh A q with
  | some k => some (mcell A X k)
  | none => h q
abbrev mOk (A : Nat → Nat) : Prop := ∀ i j, i < 14 → j < 14 → A i = A j → i = j
theorem mwh_of {A : Nat → Nat} (hA : mOk A) {k : Nat} (hk : k < 14) : mwh A (A k) = some k := by
  unfold mwh
  rw [List.find?_range_eq_some]
  refine ⟨Nat.beq_refl _, List.mem_range.mpr hk, fun j hj => ?_⟩
  cases hb : Nat.beq (A j) (A k)
  · rfl
  · have := hA j k (by omega) hk (Nat.eq_of_beq_eq_true hb)
    omega
theorem mwh_some {A : Nat → Nat} {q k : Nat} (h : mwh A q = some k) : A k = q ∧ k < 14 := by
  unfold mwh at h
  rw [List.find?_range_eq_some] at h
  exact ⟨Nat.eq_of_beq_eq_true h.1, List.mem_range.mp h.2.1⟩
theorem mwh_none {A : Nat → Nat} {q : Nat} (h : ∀ k, k < 14 → A k ≠ q) : mwh A q = none := by
  cases hh : mwh A q with
  | none => rfl
  | some k => have := mwh_some hh; exact absurd this.1 (h k this.2)
def mF (X : MX) (k : Nat) (f : Nat → Int) : MX := (X.1, (fun j => if j = k then f else X.2.1 j), X.2.2)
def mS (X : MX) (k : Nat) (v : Int) : MX := ((fun j => if j = k then v else X.1 j), X.2)
def mB (X : MX) (b : Nat → Int) : MX := (X.1, X.2.1, b)
section MH
variable {h : ZH} {A : Nat → Nat} {X : MX}
theorem mget (hA : mOk A) {k : Nat} (hk : k < 14) : mH h A X (A k) = some (mcell A X k) := by
  unfold mH
  rw [mwh_of hA hk]
theorem mput (hA : mOk A) {X' : MX} {k : Nat} {e : ZE} (hk : k < 14) (he : mcell A X' k = e) (ho : ∀ j, j < 14 → j ≠ k → mcell A X' j = mcell A X j) : zset (mH h A X) (A k) e = mH h A X' := by
  funext q
  by_cases hq : q = A k
  · subst hq
    rw [zset_same, mget hA hk, he]
  · rw [zset_ne hq]
    unfold mH
    cases hw : mwh A q with
    | none => rfl
    | some j =>
      have hj := mwh_some hw
      show some (mcell A X j) = some (mcell A X' j)
      rw [ho j hj.2 (fun h9 => by subst h9; exact hq hj.1.symm)]
theorem m0 (hA : mOk A) : mH h A X (A 0) = some (zo 1 (mfs A X.1)) := mget hA (by decide)
theorem m1 (hA : mOk A) : mH h A X (A 1) = some (zi 1 13824 (X.2.1 1)) := mget hA (by decide)
theorem m2 (hA : mOk A) : mH h A X (A 2) = some (zi 2 192 (X.2.1 2)) := mget hA (by decide)
theorem m3 (hA : mOk A) : mH h A X (A 3) = some (zi 3 24 (X.2.1 3)) := mget hA (by decide)
theorem m4 (hA : mOk A) : mH h A X (A 4) = some (zi 4 24 (X.2.1 4)) := mget hA (by decide)
theorem m5 (hA : mOk A) : mH h A X (A 5) = some (zi 5 8 (X.2.1 5)) := mget hA (by decide)
theorem m6 (hA : mOk A) : mH h A X (A 6) = some (zi 6 8 (X.2.1 6)) := mget hA (by decide)
theorem m7 (hA : mOk A) : mH h A X (A 7) = some (zi 7 8 (X.2.1 7)) := mget hA (by decide)
theorem m8 (hA : mOk A) : mH h A X (A 8) = some (zi 8 576 (X.2.1 8)) := mget hA (by decide)
theorem m9 (hA : mOk A) : mH h A X (A 9) = some (zi 9 24 (X.2.1 9)) := mget hA (by decide)
theorem m10 (hA : mOk A) : mH h A X (A 10) = some (zi 10 576 (X.2.1 10)) := mget hA (by decide)
theorem m11 (hA : mOk A) : mH h A X (A 11) = some (zi 11 24 (X.2.1 11)) := mget hA (by decide)
theorem m12 (hA : mOk A) : mH h A X (A 12) = some (zi 12 576 (X.2.1 12)) := mget hA (by decide)
theorem m13 (hA : mOk A) : mH h A X (A 13) = some (za 1 24 (fun i => zI (X.2.2 i))) := mget hA (by decide)
theorem mwr (hA : mOk A) {k n : Nat} {f : Nat → Int} (hk : k < 13) (hk0 : k ≠ 0) (hn : mN k = n) : zset (mH h A X) (A k) (zi k n f) = mH h A (mF X k f) := by
  refine mput hA (by omega) ?_ (fun j hj hjk => ?_)
  · unfold mcell mF
    rw [if_neg hk0, if_neg (by omega), hn]
    simp
  · unfold mcell mF
    simp only [if_neg hjk]
theorem w1 (hA : mOk A) {f : Nat → Int} : zset (mH h A X) (A 1) (zi 1 13824 f) = mH h A (mF X 1 f) := mwr hA (by decide) (by decide) rfl
theorem w2 (hA : mOk A) {f : Nat → Int} : zset (mH h A X) (A 2) (zi 2 192 f) = mH h A (mF X 2 f) := mwr hA (by decide) (by decide) rfl
theorem w3 (hA : mOk A) {f : Nat → Int} : zset (mH h A X) (A 3) (zi 3 24 f) = mH h A (mF X 3 f) := mwr hA (by decide) (by decide) rfl
theorem w4 (hA : mOk A) {f : Nat → Int} : zset (mH h A X) (A 4) (zi 4 24 f) = mH h A (mF X 4 f) := mwr hA (by decide) (by decide) rfl
theorem w5 (hA : mOk A) {f : Nat → Int} : zset (mH h A X) (A 5) (zi 5 8 f) = mH h A (mF X 5 f) := mwr hA (by decide) (by decide) rfl
theorem w6 (hA : mOk A) {f : Nat → Int} : zset (mH h A X) (A 6) (zi 6 8 f) = mH h A (mF X 6 f) := mwr hA (by decide) (by decide) rfl
theorem w7 (hA : mOk A) {f : Nat → Int} : zset (mH h A X) (A 7) (zi 7 8 f) = mH h A (mF X 7 f) := mwr hA (by decide) (by decide) rfl
theorem w8 (hA : mOk A) {f : Nat → Int} : zset (mH h A X) (A 8) (zi 8 576 f) = mH h A (mF X 8 f) := mwr hA (by decide) (by decide) rfl
theorem w9 (hA : mOk A) {f : Nat → Int} : zset (mH h A X) (A 9) (zi 9 24 f) = mH h A (mF X 9 f) := mwr hA (by decide) (by decide) rfl
theorem w10 (hA : mOk A) {f : Nat → Int} : zset (mH h A X) (A 10) (zi 10 576 f) = mH h A (mF X 10 f) := mwr hA (by decide) (by decide) rfl
theorem w11 (hA : mOk A) {f : Nat → Int} : zset (mH h A X) (A 11) (zi 11 24 f) = mH h A (mF X 11 f) := mwr hA (by decide) (by decide) rfl
theorem w12 (hA : mOk A) {f : Nat → Int} : zset (mH h A X) (A 12) (zi 12 576 f) = mH h A (mF X 12 f) := mwr hA (by decide) (by decide) rfl
theorem w13 (hA : mOk A) {i : Nat} {v : Int} : zset (mH h A X) (A 13) (za 1 24 (zuv (fun i => zI (X.2.2 i)) i (zI v))) = mH h A (mB X (zup X.2.2 i v)) := by
  refine mput hA (by decide) ?_ (fun j hj hjk => ?_)
  · show za 1 24 (fun j => zI (zup X.2.2 i v j)) = _
    congr 4
    funext j
    unfold zup zuv
    split <;> rfl
  · unfold mcell mB
    simp only [if_neg hjk]
theorem wsn (hA : mOk A) {k : Nat} {v : Int} {fs : List Value} (hf : mfs A (mS X k v).1 = fs) : zset (mH h A X) (A 0) (zo 1 fs) = mH h A (mS X k v) := by
  refine mput hA (by decide) ?_ (fun j hj hjk => ?_)
  · rw [← hf]; rfl
  · unfold mcell mS
    simp only [if_neg hjk]
theorem ws0 (hA : mOk A) {v : Int} : zset (mH h A X) (A 0) (zo 1 ((mfs A X.1).set 0 (zI v))) = mH h A (mS X 0 v) := wsn hA rfl
theorem ws1 (hA : mOk A) {v : Int} : zset (mH h A X) (A 0) (zo 1 ((mfs A X.1).set 9 (zI v))) = mH h A (mS X 1 v) := wsn hA rfl
theorem ws2 (hA : mOk A) {v : Int} : zset (mH h A X) (A 0) (zo 1 ((mfs A X.1).set 10 (zI v))) = mH h A (mS X 2 v) := wsn hA rfl
theorem ws3 (hA : mOk A) {v : Int} : zset (mH h A X) (A 0) (zo 1 ((mfs A X.1).set 11 (zI v))) = mH h A (mS X 3 v) := wsn hA rfl
theorem ws4 (hA : mOk A) {v : Int} : zset (mH h A X) (A 0) (zo 1 ((mfs A X.1).set 12 (zI v))) = mH h A (mS X 4 v) := wsn hA rfl
theorem ws5 (hA : mOk A) {v : Int} : zset (mH h A X) (A 0) (zo 1 ((mfs A X.1).set 13 (zI v))) = mH h A (mS X 5 v) := wsn hA rfl
theorem ws6 (hA : mOk A) {v : Int} : zset (mH h A X) (A 0) (zo 1 ((mfs A X.1).set 14 (zI v))) = mH h A (mS X 6 v) := wsn hA rfl
theorem ws7 (hA : mOk A) {v : Int} : zset (mH h A X) (A 0) (zo 1 ((mfs A X.1).set 15 (zI v))) = mH h A (mS X 7 v) := wsn hA rfl
end MH
/-! ===== stretches copied; places filled ===== -/
def mcp (f : Nat → Int) (a b n : Nat) : Nat → Int := fun q => if a ≤ q ∧ q < a + n then f (b + (q - a)) else f q
theorem mcp_0 (f : Nat → Int) (a b : Nat) : mcp f a b 0 = f := by
  funext q
  unfold mcp
  rw [if_neg (by omega)]
theorem mcp_up {f : Nat → Int} {a b k i j : Nat} (hd : a ≤ b ∨ b + k < a) (hi : i = a + k) (hj : j = b + k) : zup (mcp f a b k) i (mcp f a b k j) = mcp f a b (k + 1) := by
  subst hi hj
  funext q
  unfold zup mcp
  by_cases hq : q = a + k
  · rw [if_pos hq, if_neg (by omega), if_pos (by omega)]
    congr 1
    omega
  · rw [if_neg hq]
    by_cases h2 : a ≤ q ∧ q < a + k
    · rw [if_pos h2, if_pos (by omega)]
    · rw [if_neg h2, if_neg (by omega)]
def mzf (f : Nat → Int) (a n : Nat) : Nat → Int := fun q => if a ≤ q ∧ q < a + n then 0 else f q
theorem mzf_0 (f : Nat → Int) (a : Nat) : mzf f a 0 = f := by
  funext q
  unfold mzf
  rw [if_neg (by omega)]
theorem mzf_up {f : Nat → Int} {a k i : Nat} (hi : i = a + k) : zup (mzf f a k) i 0 = mzf f a (k + 1) := by
  subst hi
  funext q
  unfold zup mzf
  by_cases hq : q = a + k
  · rw [if_pos hq, if_pos (by omega)]
  · rw [if_neg hq]
    by_cases h2 : a ≤ q ∧ q < a + k
    · rw [if_pos h2, if_pos (by omega)]
    · rw [if_neg h2, if_neg (by omega)]
/-- rows of 24 from b on, filled up to the row y, place x, where p tells so -/
def mq (f : Nat → Int) (b : Nat) (p : Nat → Nat → Bool) (G : Nat → Nat → Int) (y x : Nat) : Nat → Int := fun q => if b ≤ q ∧ ((q - b) / 24 < y ∨ ((q - b) / 24 = y ∧ (q - b) % 24 < x)) ∧ p ((q - b) % 24) ((q - b) / 24) = true then G ((q - b) % 24) ((q - b) / 24) else f q
section MQ
variable {f : Nat → Int} {b y x : Nat} {p : Nat → Nat → Bool} {G : Nat → Nat → Int}
theorem mq_0 : mq f b p G 0 0 = f := by
  funext q
  unfold mq
  rw [if_neg (by omega)]
theorem mq_e {w : Nat} (hp : ∀ i j, p i j = true → i < w) : mq f b p G y w = mq f b p G (y + 1) 0 := by
  funext q
  unfold mq
  by_cases h1 : p ((q - b) % 24) ((q - b) / 24) = true
  · have h2 := hp _ _ h1
    by_cases h3 : b ≤ q ∧ ((q - b) / 24 < y ∨ ((q - b) / 24 = y ∧ (q - b) % 24 < w))
    · rw [if_pos ⟨h3.1, h3.2, h1⟩, if_pos ⟨h3.1, by omega, h1⟩]
    · rw [if_neg (fun h9 => h3 ⟨h9.1, h9.2.1⟩), if_neg (fun h9 => h3 ⟨h9.1, by omega⟩)]
  · rw [if_neg (fun h9 => h1 h9.2.2), if_neg (fun h9 => h1 h9.2.2)]
theorem mq_t (hx : x < 24) (hp : p x y = true) {i : Nat} {v : Int} (hi : i = b + 24 * y + x) (hv : v = G x y) : zup (mq f b p G y x) i v = mq f b p G y (x + 1) := by
  subst hi hv
  funext q
  unfold zup mq
  by_cases hq : q = b + 24 * y + x
  · have e1 : (q - b) / 24 = y := by omega
    have e2 : (q - b) % 24 = x := by omega
    rw [if_pos hq, e1, e2, if_pos ⟨by omega, Or.inr ⟨rfl, by omega⟩, hp⟩]
  · rw [if_neg hq]
    by_cases h1 : b ≤ q ∧ ((q - b) / 24 < y ∨ ((q - b) / 24 = y ∧ (q - b) % 24 < x)) ∧ p ((q - b) % 24) ((q - b) / 24) = true
    · rw [if_pos h1, if_pos ⟨h1.1, by have := h1.2.1; omega, h1.2.2⟩]
    · rw [if_neg h1, if_neg (fun h9 => h1 ⟨h9.1, by have := h9.2.1; have := h9.1; omega, h9.2.2⟩)]
theorem mq_f (hp : p x y = false) : mq f b p G y x = mq f b p G y (x + 1) := by
  funext q
  unfold mq
  by_cases h1 : p ((q - b) % 24) ((q - b) / 24) = true
  · have h2 : ¬ ((q - b) / 24 = y ∧ (q - b) % 24 = x) := fun h9 => by rw [h9.1, h9.2, hp] at h1; cases h1
    by_cases h3 : b ≤ q ∧ ((q - b) / 24 < y ∨ ((q - b) / 24 = y ∧ (q - b) % 24 < x))
    · rw [if_pos ⟨h3.1, h3.2, h1⟩, if_pos ⟨h3.1, by omega, h1⟩]
    · rw [if_neg (fun h9 => h3 ⟨h9.1, h9.2.1⟩), if_neg (fun h9 => h3 ⟨h9.1, by have := h9.2.1; omega⟩)]
  · rw [if_neg (fun h9 => h1 h9.2.2), if_neg (fun h9 => h1 h9.2.2)]
theorem mq_at {ht i j : Nat} (hi : i < 24) (hj : j < ht) : mq f b p G ht 0 (b + 24 * j + i) = if p i j = true then G i j else f (b + 24 * j + i) := by
  unfold mq
  have e1 : (b + 24 * j + i - b) / 24 = j := by omega
  have e2 : (b + 24 * j + i - b) % 24 = i := by omega
  rw [e1, e2]
  by_cases hp : p i j = true
  · rw [if_pos hp, if_pos ⟨by omega, Or.inl hj, hp⟩]
  · rw [if_neg hp, if_neg (fun h9 => hp h9.2.2)]
theorem mq_out {ht q : Nat} (hh : ht ≤ 24) (hq : q < b ∨ b + 576 ≤ q) : mq f b p G ht 0 q = f q := by
  unfold mq
  rw [if_neg (by omega)]
end MQ
/-! ===== what the reference's state says ===== -/
def mslot (X : MX) (i : Nat) (P : SP) : Prop := X.2.1 6 i = sw P ∧ X.2.1 7 i = sh P ∧ X.2.1 5 i = sn P ∧ (∀ y, y < sh P → X.2.1 2 (24 * i + y) = sr P y) ∧ ∀ l, l < sn P → X.2.1 3 (3 * i + l) = sM (sl P l) ∧ X.2.1 4 (3 * i + l) = sO (sl P l) ∧ X.2.2 (3 * i + l) = sV (sl P l) ∧ ∀ x y, x < sw P → y < sh P → X.2.1 1 (1728 * i + 576 * l + 24 * y + x) = sD (sl P l) x y
def mcopy (X : MX) (K : SK) : Prop := (∀ y, y < 24 → X.2.1 9 y = ((if y < K.2.1 then K.2.2.2 y else 0 : Nat) : Int)) ∧ ∀ x y, x < K.1 → y < K.2.1 → X.2.1 8 (24 * y + x) = K.2.2.1 x y
def mrel (X : MX) (S : SS) : Prop := (X.1 1 = if sHas S = true then 1 else 0) ∧ (X.1 2 = if (sFile S).isSome = true then 1 else 0) ∧ (X.1 3 = if (sCopy S).isSome = true then 1 else 0) ∧ X.1 4 = sNow S ∧ X.1 5 = sLast S ∧ X.1 6 = sBd S ∧ X.1 7 = sBr S ∧ (sHas S = true → ∀ i, i ≤ sLast S → mslot X i (sHist S i)) ∧ (∀ P, sFile S = some P → mslot X 7 P) ∧ (∀ K, sCopy S = some K → mcopy X K) ∧ ∀ i, X.2.2 i = 0 ∨ X.2.2 i = 1
def okS (S : SS) : Prop := (sHas S = true → sNow S ≤ sLast S ∧ sLast S ≤ 6 ∧ ∀ i, i ≤ sLast S → okP (sHist S i)) ∧ (sHas S = false → sNow S = 0 ∧ sLast S = 0) ∧ (∀ P, sFile S = some P → okP P) ∧ (∀ K, sCopy S = some K → okK K) ∧ zrg (sBd S) ∧ (0 ≤ sBr S ∧ sBr S ≤ 7)
theorem CRep.oks {h : ZH} {x : Nat} {S : SS} (hC : CRep h x S) : okS S := by
  obtain ⟨hi, pa, pf, fv, cv, h1, h2, h3, h4, h5, h6⟩ := hC
  refine ⟨fun hh => ?_, fun hh => ?_, fun P hP => ?_, fun K hK => ?_, h6⟩
  · obtain ⟨k1, k2, k3⟩ := h3.1 hh
    exact ⟨k1, k2, fun i hi => by obtain ⟨a, -, -, e⟩ := k3 i hi; exact e⟩
  · exact ⟨(h3.2 hh).1, (h3.2 hh).2.1⟩
  · rw [hP] at h4
    obtain ⟨a, -, -, e⟩ := h4
    exact e
  · rw [hK] at h5
    obtain ⟨a, -, -, e⟩ := h5
    exact e
/-- the picture that is there: its slot, its sides, its rows -/
def mc (X : MX) (n w ht : Nat) (R : Nat → Nat) : Prop := X.1 4 = (n : Int) ∧ n ≤ 6 ∧ X.2.1 6 n = (w : Int) ∧ X.2.1 7 n = (ht : Int) ∧ (w ≤ 24 ∧ ht ≤ 24) ∧ ∀ y, y < ht → X.2.1 2 (24 * n + y) = (R y : Int) ∧ R y < 16777216
theorem mc.F {X : MX} {n w ht : Nat} {R : Nat → Nat} (h : mc X n w ht R) (k : Nat) (f : Nat → Int) (hk : (Nat.beq k 2 || Nat.beq k 6 || Nat.beq k 7) = false) : mc (mF X k f) n w ht R := by
  have e : k ≠ 2 ∧ k ≠ 6 ∧ k ≠ 7 := ⟨fun h9 => (by subst h9; cases hk), fun h9 => (by subst h9; cases hk), fun h9 => (by subst h9; cases hk)⟩
  obtain ⟨h1, h2, h3, h4, h5, h6⟩ := h
  refine ⟨h1, h2, ?_, ?_, h5, fun y hy => ?_⟩
  · show (if 6 = k then f else X.2.1 6) n = _
    rw [if_neg (Ne.symm e.2.1)]; exact h3
  · show (if 7 = k then f else X.2.1 7) n = _
    rw [if_neg (Ne.symm e.2.2)]; exact h4
  · show (if 2 = k then f else X.2.1 2) _ = _ ∧ _
    rw [if_neg (Ne.symm e.1)]; exact h6 y hy
theorem mc.S0 {X : MX} {n w ht : Nat} {R : Nat → Nat} (h : mc X n w ht R) (v : Int) : mc (mS X 0 v) n w ht R := h
theorem mrel.mc {X : MX} {S : SS} (hM : mrel X S) (hk : okS S) (hh : sHas S = true) : mc X (sNow S) (sw (sCur S)) (sh (sCur S)) (sr (sCur S)) := by
  obtain ⟨k1, k2, k3⟩ := hk.1 hh
  obtain ⟨e1, e2, e3, e4, e5⟩ := hM.2.2.2.2.2.2.2.1 hh _ k1
  have hP := k3 _ k1
  exact ⟨hM.2.2.2.1, by omega, e1, e2, ⟨hP.1.2, hP.2.1.2⟩, fun y hy => ⟨e4 y hy, z24 hP.1.2 (hP.2.2.2.2 y hy)⟩⟩
theorem mrel.S0 {X : MX} {S : SS} (hM : mrel X S) (v : Int) : mrel (mS X 0 v) S := hM
/-- what a call leaves that answers nothing -/
def mdV (h : ZH) (A : Nat → Nat) (S : SS) (G1 G2 : Prop) (S' : SS) : ZR → ZH → Prop := fun r h' => r = .inl none ∧ ∃ X', h' = mH h A X' ∧ ((¬ G1 ∧ X'.1 0 = 1 ∧ mrel X' S) ∨ (G1 ∧ ¬ G2 ∧ X'.1 0 = 2 ∧ mrel X' S) ∨ (G1 ∧ G2 ∧ X'.1 0 = 0 ∧ mrel X' S'))
def mdI (h : ZH) (A : Nat → Nat) (S : SS) (G1 G2 : Prop) (v : Int) (S' : SS) : ZR → ZH → Prop := fun r h' => ∃ b, r = .inl (some (zI b)) ∧ zrg b ∧ ∃ X', h' = mH h A X' ∧ ((¬ G1 ∧ X'.1 0 = 1 ∧ mrel X' S) ∨ (G1 ∧ ¬ G2 ∧ X'.1 0 = 2 ∧ mrel X' S) ∨ (G1 ∧ G2 ∧ X'.1 0 = 0 ∧ b = v ∧ mrel X' S'))
