/-! ===== slots that are copied, or stay ===== -/
theorem mslot.tr {X X' : MX} {i j : Nat} {P : SP} (hs : mslot X i P) (hk : okP P) (e6 : X'.2.1 6 j = X.2.1 6 i) (e7 : X'.2.1 7 j = X.2.1 7 i) (e5 : X'.2.1 5 j = X.2.1 5 i) (e2 : ∀ y, y < 24 → X'.2.1 2 (24 * j + y) = X.2.1 2 (24 * i + y)) (e3 : ∀ l, l < 3 → X'.2.1 3 (3 * j + l) = X.2.1 3 (3 * i + l)) (e4 : ∀ l, l < 3 → X'.2.1 4 (3 * j + l) = X.2.1 4 (3 * i + l)) (eB : ∀ l, l < 3 → X'.2.2 (3 * j + l) = X.2.2 (3 * i + l)) (e1 : ∀ q, q < 1728 → X'.2.1 1 (1728 * j + q) = X.2.1 1 (1728 * i + q)) : mslot X' j P := by
  obtain ⟨h1, h2, h3, h4, h5⟩ := hs
  obtain ⟨⟨k1, k2⟩, ⟨k3, k4⟩, ⟨k5, k6⟩, -⟩ := hk
  refine ⟨by rw [e6, h1], by rw [e7, h2], by rw [e5, h3], fun y hy => by rw [e2 y (by omega), h4 y hy], fun l hl => ?_⟩
  obtain ⟨g1, g2, g3, g4⟩ := h5 l hl
  refine ⟨by rw [e3 l (by omega), g1], by rw [e4 l (by omega), g2], by rw [eB l (by omega), g3], fun x y hx hy => ?_⟩
  have h9 := e1 (576 * l + 24 * y + x) (by omega)
  have a1 : 1728 * j + 576 * l + 24 * y + x = 1728 * j + (576 * l + 24 * y + x) := by omega
  have a2 : 1728 * i + 576 * l + 24 * y + x = 1728 * i + (576 * l + 24 * y + x) := by omega
  rw [a1, h9, ← a2, g4 x y hx hy]
theorem mcp_in {f : Nat → Int} {a b n r : Nat} (hr : r < n) : mcp f a b n (a + r) = f (b + r) := by
  unfold mcp
  rw [if_pos ⟨by omega, by omega⟩]
  congr 1
  omega
theorem mcp_out {f : Nat → Int} {a b n q : Nat} (hq : q < a ∨ a + n ≤ q) : mcp f a b n q = f q := by
  unfold mcp
  rw [if_neg (by omega)]
theorem zup_s (f : Nat → Int) (i : Nat) (v : Int) : zup f i v i = v := by unfold zup; rw [if_pos rfl]
theorem zup_o {f : Nat → Int} {i j : Nat} {v : Int} (h : j ≠ i) : zup f i v j = f j := by unfold zup; rw [if_neg h]
theorem mCP_to {X : MX} {to of_ : Nat} {P : SP} (hs : mslot X of_ P) (hk : okP P) : mslot (mCP X to of_) to P := by
  refine hs.tr hk (zup_s _ _ _) (zup_s _ _ _) (zup_s _ _ _) (fun y hy => mcp_in hy) (fun l hl => mcp_in hl) (fun l hl => mcp_in hl) (fun l hl => mcp_in hl) (fun q hq => mcp_in hq)
theorem mCP_ot {X : MX} {to of_ i : Nat} {P : SP} (hs : mslot X i P) (hk : okP P) (hi : i ≠ to) : mslot (mCP X to of_) i P := by
  refine hs.tr hk (zup_o hi) (zup_o hi) (zup_o hi) (fun y hy => mcp_out (by omega)) (fun l hl => mcp_out (by omega)) (fun l hl => mcp_out (by omega)) (fun l hl => mcp_out (by omega)) (fun q hq => mcp_out (by omega))
theorem mCP_B {X : MX} {to of_ : Nat} (hB : ∀ i, X.2.2 i = 0 ∨ X.2.2 i = 1) (i : Nat) : (mCP X to of_).2.2 i = 0 ∨ (mCP X to of_).2.2 i = 1 := by
  show mcp X.2.2 _ _ _ i = 0 ∨ mcp X.2.2 _ _ _ i = 1
  unfold mcp
  split
  · exact hB _
  · exact hB _
/-! ===== a step's state ===== -/
theorem sAdd_lt {S : SS} (P : SP) (h : sNow S < 6) : sAdd S P = (sNow S + 1, sNow S + 1, true, sUpd (sHist S) (sNow S + 1) P, S.2.2.2.2) := by unfold sAdd; rw [if_pos h]
theorem sAdd_ge {S : SS} (P : SP) (h : ¬ sNow S < 6) : sAdd S P = (6, 6, true, (fun i => if i < 6 then sHist S (i + 1) else P), S.2.2.2.2) := by unfold sAdd; rw [if_neg h]
def sN1 (S : SS) : Nat := if sNow S < 6 then sNow S + 1 else 6
theorem sN1_le (S : SS) : sN1 S ≤ 6 := by unfold sN1; split <;> omega
theorem sAdd_now (S : SS) (P : SP) : sNow (sAdd S P) = sN1 S := by
  unfold sAdd sN1
  split <;> rfl
theorem sAdd_last (S : SS) (P : SP) : sLast (sAdd S P) = sN1 S := by
  unfold sAdd sN1
  split <;> rfl
theorem sAdd_has (S : SS) (P : SP) : sHas (sAdd S P) = true := by
  unfold sAdd
  split <;> rfl
theorem sAdd_rest (S : SS) (P : SP) : (sAdd S P).2.2.2.2 = S.2.2.2.2 := by
  unfold sAdd
  split <;> rfl
theorem sAdd_hist (S : SS) (P : SP) (i : Nat) : sHist (sAdd S P) (sN1 S) = P ∧ ∀ Q, i < sN1 S → sHist (sAdd S P) i = sHist (sAdd S Q) i := by
  by_cases h : sNow S < 6
  · rw [sAdd_lt P h]
    have e : sN1 S = sNow S + 1 := by unfold sN1; rw [if_pos h]
    rw [e]
    refine ⟨?_, fun Q hi => ?_⟩
    · show sUpd _ _ _ _ = _
      unfold sUpd
      rw [if_pos rfl]
    · rw [sAdd_lt Q h]
      show sUpd _ _ _ _ = sUpd _ _ _ _
      unfold sUpd
      rw [if_neg (by omega), if_neg (by omega)]
  · rw [sAdd_ge P h]
    have e : sN1 S = 6 := by unfold sN1; rw [if_neg h]
    rw [e]
    refine ⟨?_, fun Q hi => ?_⟩
    · show (if 6 < 6 then sHist S 7 else P) = P
      rw [if_neg (by omega)]
    · rw [sAdd_ge Q h]
      show (if i < 6 then _ else P) = (if i < 6 then _ else Q)
      rw [if_pos hi, if_pos hi]
theorem sAdd_cur (S : SS) (P : SP) : sCur (sAdd S P) = P := by
  show sHist (sAdd S P) (sNow (sAdd S P)) = P
  rw [sAdd_now]
  exact (sAdd_hist S P 0).1
theorem sAdd_okh {S : SS} (P : SP) (hk : okS S) (hh : sHas S = true) (i : Nat) (hi : i < sN1 S) : okP (sHist (sAdd S P) i) := by
  obtain ⟨k1, k2, k3⟩ := hk.1 hh
  by_cases h : sNow S < 6
  · have e : sN1 S = sNow S + 1 := by unfold sN1; rw [if_pos h]
    rw [sAdd_lt P h]
    show okP (sUpd _ _ _ _)
    unfold sUpd
    rw [if_neg (by omega)]
    exact k3 i (by omega)
  · have e : sN1 S = 6 := by unfold sN1; rw [if_neg h]
    rw [sAdd_ge P h]
    show okP (if i < 6 then _ else P)
    rw [if_pos (by omega)]
    exact k3 (i + 1) (by omega)
theorem okS.add {S : SS} {P : SP} (hk : okS S) (hh : sHas S = true) (hP : okP P) : okS (sAdd S P) := by
  have h1 := sAdd_rest S P
  refine ⟨fun _ => ?_, fun h9 => (by rw [sAdd_has] at h9; cases h9), ?_, ?_, ?_⟩
  · rw [sAdd_now, sAdd_last]
    refine ⟨Nat.le_refl _, sN1_le S, fun i hi => ?_⟩
    rcases Nat.lt_or_eq_of_le hi with h2 | h2
    · exact sAdd_okh P hk hh i h2
    · rw [h2, (sAdd_hist S P 0).1]; exact hP
  · show ∀ Q, (sAdd S P).2.2.2.2.1 = some Q → okP Q
    rw [h1]; exact hk.2.2.1
  · show ∀ Q, (sAdd S P).2.2.2.2.2.1 = some Q → okK Q
    rw [h1]; exact hk.2.2.2.1
  · show zrg (sAdd S P).2.2.2.2.2.2.1 ∧ (0 ≤ (sAdd S P).2.2.2.2.2.2.2 ∧ (sAdd S P).2.2.2.2.2.2.2 ≤ 7)
    rw [h1]; exact hk.2.2.2.2
/-- the slot of the picture that is there is changed, all else stays -/
theorem mrel.upd {X X' : MX} {S : SS} {P P' : SP} (hM : mrel X (sAdd S P)) (hk : okS S) (hh : sHas S = true) (hs : ∀ j, 1 ≤ j → X'.1 j = X.1 j) (hsl : ∀ i Q, i ≤ 7 → i ≠ sN1 S → okP Q → mslot X i Q → mslot X' i Q) (hcur : mslot X' (sN1 S) P') (h8 : X'.2.1 8 = X.2.1 8) (h9 : X'.2.1 9 = X.2.1 9) (hB : ∀ i, X'.2.2 i = 0 ∨ X'.2.2 i = 1) : mrel X' (sAdd S P') := by
  obtain ⟨a1, a2, a3, a4, a5, a6, a7, a8, a9, a10, -⟩ := hM
  have r1 := sAdd_rest S P
  have r2 := sAdd_rest S P'
  have hn := sN1_le S
  refine ⟨?_, ?_, ?_, ?_, ?_, ?_, ?_, fun _ i hi => ?_, fun Q hQ => ?_, fun K hK => ?_, hB⟩
  · rw [hs 1 (by decide), a1, sAdd_has, sAdd_has]
  · rw [hs 2 (by decide), a2]
    show (if (sAdd S P).2.2.2.2.1.isSome = true then 1 else 0) = (if (sAdd S P').2.2.2.2.1.isSome = true then (1 : Int) else 0)
    rw [r1, r2]
  · rw [hs 3 (by decide), a3]
    show (if (sAdd S P).2.2.2.2.2.1.isSome = true then 1 else 0) = (if (sAdd S P').2.2.2.2.2.1.isSome = true then (1 : Int) else 0)
    rw [r1, r2]
  · rw [hs 4 (by decide), a4, sAdd_now, sAdd_now]
  · rw [hs 5 (by decide), a5, sAdd_last, sAdd_last]
  · rw [hs 6 (by decide), a6]
    show (sAdd S P).2.2.2.2.2.2.1 = (sAdd S P').2.2.2.2.2.2.1
    rw [r1, r2]
  · rw [hs 7 (by decide), a7]
    show (sAdd S P).2.2.2.2.2.2.2 = (sAdd S P').2.2.2.2.2.2.2
    rw [r1, r2]
  · rw [sAdd_last] at hi
    rcases Nat.lt_or_eq_of_le hi with h2 | h2
    · rw [(sAdd_hist S P' i).2 P h2]
      exact hsl i _ (by omega) (by omega) (sAdd_okh P hk hh i h2) (a8 (sAdd_has S P) i (by rw [sAdd_last]; omega))
    · rw [h2, (sAdd_hist S P' 0).1]; exact hcur
  · have hQ2 : sFile S = some Q := by have h9 : (sAdd S P').2.2.2.2.1 = some Q := hQ; rw [r2] at h9; exact h9
    exact hsl 7 Q (by decide) (by omega) (hk.2.2.1 Q hQ2) (a9 Q (by show (sAdd S P).2.2.2.2.1 = some Q; rw [r1]; exact hQ2))
  · have hK2 : (sAdd S P).2.2.2.2.2.1 = some K := by have h9 : (sAdd S P').2.2.2.2.2.1 = some K := hK; rw [r2] at h9; rw [r1]; exact h9
    have g := a10 K hK2
    unfold mcopy at g ⊢
    rw [h8, h9]
    exact g
