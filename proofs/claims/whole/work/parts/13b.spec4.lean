/-! ===== dots put one by one ===== -/
theorem znb (P : Prop) [Decidable P] : narrow .boolean (zI (zb P)) = zI (zb P) := by unfold zb; split <;> rfl
theorem zfb (P : Prop) [Decidable P] : zb P = 0 ∨ zb P = 1 := by unfold zb; split; exact Or.inr rfl; exact Or.inl rfl
def zpt (f : Nat → Int) (w : Nat) (R : Nat → Nat) (g : Nat → Nat → Int) (k : Nat) : Nat → Int := fun i => if i < k ∧ (R (i / w) : Int) / 2 ^ (i % w) % 2 ≠ 0 then g (i % w) (i / w) else f i
theorem zpt_0 (f : Nat → Int) (w : Nat) (R : Nat → Nat) (g : Nat → Nat → Int) : zpt f w R g 0 = f := by funext i; simp [zpt]
theorem zxy {w x y : Nat} (hx : x < w) : (y * w + x) / w = y ∧ (y * w + x) % w = x := by
  have hw : 0 < w := by omega
  constructor
  · rw [Nat.add_comm, Nat.add_mul_div_right _ _ hw, Nat.div_eq_of_lt hx, Nat.zero_add]
  · rw [Nat.add_comm, Nat.add_mul_mod_self_right, Nat.mod_eq_of_lt hx]
section ZPT
variable {f : Nat → Int} {w ht : Nat} {R : Nat → Nat} {g : Nat → Nat → Int} {x y v : Int}
theorem zkn2 (hb : zbox x y w ht) : (y * w + x).toNat = y.toNat * w + x.toNat ∧ (y * w + (x + 1)).toNat = y.toNat * w + x.toNat + 1 ∧ x.toNat < w ∧ (zhp R w ht x y ↔ (R y.toNat : Int) / 2 ^ x.toNat % 2 ≠ 0) := by
  obtain ⟨h1, h2, h3, h4⟩ := id hb
  obtain ⟨x, rfl⟩ := Int.eq_ofNat_of_zero_le h1
  obtain ⟨y, rfl⟩ := Int.eq_ofNat_of_zero_le h3
  have e1 : ((y : Int) * (w : Int) + (x : Int)) = ((y * w + x : Nat) : Int) := by simp
  have e2 : ((y : Int) * (w : Int) + ((x : Int) + 1)) = ((y * w + x + 1 : Nat) : Int) := by simp; omega
  refine ⟨by rw [e1]; rfl, by rw [e2]; rfl, by omega, ?_⟩
  have e3 : zrw R ht (y : Int) = R (y : Int).toNat := by unfold zrw; rw [if_pos ⟨h3, h4⟩]
  unfold zhp
  rw [e3]
  exact ⟨fun h => h.2.2, fun h => ⟨h1, h2, h⟩⟩
theorem zpt_t (hb : zbox x y w ht) (hs : zhp R w ht x y) (hv : v = g x.toNat y.toNat) : zup (zpt f w R g (y * w + x).toNat) (y * w + x).toNat v = zpt f w R g (y * w + (x + 1)).toNat := by
  obtain ⟨e1, e2, e3, e4⟩ := zkn2 (R := R) hb
  rw [e1, e2]
  obtain ⟨d1, d2⟩ := zxy (y := y.toNat) e3
  subst hv
  funext i
  unfold zup zpt
  by_cases hi : i = y.toNat * w + x.toNat
  · rw [if_pos hi, if_pos]
    · rw [hi, d1, d2]
    · rw [hi, d1, d2]
      exact ⟨by omega, e4.mp hs⟩
  · rw [if_neg hi]
    by_cases h2 : i < y.toNat * w + x.toNat
    · have h3 : i < y.toNat * w + x.toNat + 1 := by omega
      simp only [h2, h3]
    · have h3 : ¬ i < y.toNat * w + x.toNat + 1 := by omega
      simp only [h2, h3, false_and, if_false]
theorem zpt_f (hb : zbox x y w ht) (hs : ¬ zhp R w ht x y) : zpt f w R g (y * w + x).toNat = zpt f w R g (y * w + (x + 1)).toNat := by
  obtain ⟨e1, e2, e3, e4⟩ := zkn2 (R := R) hb
  rw [e1, e2]
  obtain ⟨d1, d2⟩ := zxy (y := y.toNat) e3
  funext i
  unfold zpt
  by_cases hi : i = y.toNat * w + x.toNat
  · subst hi
    rw [if_neg (by omega), if_neg]
    rw [d1, d2]
    exact fun h => hs (e4.mpr h.2)
  · by_cases h2 : i < y.toNat * w + x.toNat
    · have h3 : i < y.toNat * w + x.toNat + 1 := by omega
      simp only [h2, h3]
    · have h3 : ¬ i < y.toNat * w + x.toNat + 1 := by omega
      simp only [h2, h3, false_and, if_false]
theorem zpt_s (hb : zbox x y w ht) (hg : g x.toNat y.toNat = f (y * w + x).toNat) : zpt f w R g (y * w + x).toNat = zpt f w R g (y * w + (x + 1)).toNat := by
  obtain ⟨e1, e2, e3, e4⟩ := zkn2 (R := R) hb
  rw [e1] at hg ⊢
  rw [e2]
  obtain ⟨d1, d2⟩ := zxy (y := y.toNat) e3
  funext i
  unfold zpt
  by_cases hi : i = y.toNat * w + x.toNat
  · subst hi
    rw [if_neg (by omega), d1, d2]
    split
    · exact hg.symm
    · rfl
  · by_cases h2 : i < y.toNat * w + x.toNat
    · have h3 : i < y.toNat * w + x.toNat + 1 := by omega
      simp only [h2, h3]
    · have h3 : ¬ i < y.toNat * w + x.toNat + 1 := by omega
      simp only [h2, h3, false_and, if_false]
theorem zput_eq {h0 : ZH} {af : Nat} (hb : zbox x y w ht) (hv : v = g x.toNat y.toNat) : (if zhp R w ht x y then zset (zset h0 af (zi 0 (w * ht) (zpt f w R g (y * w + x).toNat))) af (zi 0 (w * ht) (zup (zpt f w R g (y * w + x).toNat) (y * w + x).toNat v)) else zset h0 af (zi 0 (w * ht) (zpt f w R g (y * w + x).toNat))) = zset h0 af (zi 0 (w * ht) (zpt f w R g (y * w + (x + 1)).toNat)) := by
  split
  · next hs => rw [zset_set, zpt_t hb hs hv]
  · next hs => rw [zpt_f hb hs]
theorem zrow_end {h0 : ZH} {af : Nat} (y : Int) : zset h0 af (zi 0 (w * ht) (zpt f w R g (y * w + w).toNat)) = zset h0 af (zi 0 (w * ht) (zpt f w R g ((y + 1) * w + 0).toNat)) := by
  congr 4
  rw [Int.add_mul]
  omega
end ZPT
theorem ck_clone : Cond.methodLink "TileStudio$Painting" 33 ⟨"[I", "clone", "()Ljava/lang/Object;"⟩ ∈ zG ∧ Cond.sameMethod "[I" "java/lang/Object" "clone" "()Ljava/lang/Object;" ∈ zG ∧ Cond.native ⟨"java/lang/Object", "clone", "()Ljava/lang/Object;"⟩ ∈ zG ∧ Cond.instanceMethod ⟨"java/lang/Object", "clone", "()Ljava/lang/Object;"⟩ ∈ zG ∧ Cond.selects "[I" ⟨"[I", "clone", "()Ljava/lang/Object;"⟩ ⟨"java/lang/Object", "clone", "()Ljava/lang/Object;"⟩ ∈ zG ∧ ("[I", "java/lang/Cloneable") ∈ zcasts :=
  ⟨zG_T 424 (by decide +kernel) (by decide +kernel), zG_T 425 (by decide +kernel) (by decide +kernel), zG_T 426 (by decide +kernel) (by decide +kernel), zG_T 427 (by decide +kernel) (by decide +kernel), zG_T 428 (by decide +kernel) (by decide +kernel), by decide +kernel⟩
