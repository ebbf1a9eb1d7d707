/-! ===== a layer of a slot; what stays ===== -/
def mlay (X : MX) (n w ht l : Nat) (L : SL) : Prop := X.2.1 3 (3 * n + l) = sM L ∧ X.2.1 4 (3 * n + l) = sO L ∧ X.2.2 (3 * n + l) = sV L ∧ ∀ x y, x < w → y < ht → X.2.1 1 (1728 * n + 576 * l + 24 * y + x) = sD L x y
/-- only the slot n's layers, and how many they are, change -/
def mfr (X Y : MX) (n : Nat) : Prop := (∀ j, 1 ≤ j → Y.1 j = X.1 j) ∧ Y.1 0 = X.1 0 ∧ (∀ k, k ≠ 1 → k ≠ 3 → k ≠ 4 → k ≠ 5 → Y.2.1 k = X.2.1 k) ∧ (∀ q, q ≠ n → Y.2.1 5 q = X.2.1 5 q) ∧ (∀ q, q < 1728 * n ∨ 1728 * n + 1728 ≤ q → Y.2.1 1 q = X.2.1 1 q) ∧ (∀ q, q < 3 * n ∨ 3 * n + 3 ≤ q → Y.2.1 3 q = X.2.1 3 q ∧ Y.2.1 4 q = X.2.1 4 q ∧ Y.2.2 q = X.2.2 q) ∧ ∀ i, Y.2.2 i = 0 ∨ Y.2.2 i = 1
theorem mfr.rf {X : MX} {n : Nat} (hB : ∀ i, X.2.2 i = 0 ∨ X.2.2 i = 1) : mfr X X n := ⟨fun _ _ => rfl, rfl, fun _ _ _ _ _ => rfl, fun _ _ => rfl, fun _ _ => rfl, fun _ _ => ⟨rfl, rfl, rfl⟩, hB⟩
theorem mfr.tr {X Y V : MX} {n : Nat} (a : mfr X Y n) (b : mfr Y V n) : mfr X V n := by
  obtain ⟨a1, a2, a3, a4, a5, a6, -⟩ := a
  obtain ⟨b1, b2, b3, b4, b5, b6, b7⟩ := b
  exact ⟨fun j hj => by rw [b1 j hj, a1 j hj], by rw [b2, a2], fun k h1 h2 h3 h4 => by rw [b3 k h1 h2 h3 h4, a3 k h1 h2 h3 h4], fun q hq => by rw [b4 q hq, a4 q hq], fun q hq => by rw [b5 q hq, a5 q hq], fun q hq => ⟨by rw [(b6 q hq).1, (a6 q hq).1], by rw [(b6 q hq).2.1, (a6 q hq).2.1], by rw [(b6 q hq).2.2, (a6 q hq).2.2]⟩, b7⟩
theorem mfr.slot {X Y : MX} {n i : Nat} {P : SP} (hf : mfr X Y n) (hi : i ≠ n) (hk : okP P) (hs : mslot X i P) : mslot Y i P := by
  obtain ⟨-, -, a3, a4, a5, a6, -⟩ := hf
  exact hs.tr hk (by rw [a3 6 (by decide) (by decide) (by decide) (by decide)]) (by rw [a3 7 (by decide) (by decide) (by decide) (by decide)]) (a4 i hi) (fun y hy => by rw [a3 2 (by decide) (by decide) (by decide) (by decide)]) (fun l hl => (a6 _ (by omega)).1) (fun l hl => (a6 _ (by omega)).2.1) (fun l hl => (a6 _ (by omega)).2.2) (fun q hq => a5 _ (by omega))
theorem mfr.rel {X Y : MX} {S : SS} {P P' : SP} (hf : mfr X Y (sN1 S)) (hM : mrel X (sAdd S P)) (hk : okS S) (hh : sHas S = true) (hcur : mslot Y (sN1 S) P') : mrel Y (sAdd S P') :=
  hM.upd hk hh hf.1 (fun i Q _ hi hQ hs => hf.slot hi hQ hs) hcur (hf.2.2.1 8 (by decide) (by decide) (by decide) (by decide)) (hf.2.2.1 9 (by decide) (by decide) (by decide) (by decide)) hf.2.2.2.2.2.2
theorem mfr.sizes {X Y : MX} {n : Nat} {P P' : SP} (hf : mfr X Y n) (hs : mslot X n P) (hw : sw P' = sw P) (hh : sh P' = sh P) (hr : sr P' = sr P) (h5 : Y.2.1 5 n = sn P') (hl : ∀ l, l < sn P' → mlay Y n (sw P) (sh P) l (sl P' l)) : mslot Y n P' := by
  obtain ⟨-, -, a3, -⟩ := hf
  obtain ⟨h1, h2, h3, h4, -⟩ := hs
  refine ⟨by rw [a3 6 (by decide) (by decide) (by decide) (by decide), hw]; exact h1, by rw [a3 7 (by decide) (by decide) (by decide) (by decide), hh]; exact h2, h5, fun y hy => ?_, fun l hl2 => ?_⟩
  · rw [a3 2 (by decide) (by decide) (by decide) (by decide), hr]
    exact h4 y (by rw [← hh]; exact hy)
  · rw [hw, hh]
    exact hl l hl2
def mLT (X : MX) (n to of_ : Nat) : MX := mCW (mF X 1 (mcp (X.2.1 1) (1728 * n + 576 * to) (1728 * n + 576 * of_) 576)) (3 * n + to) (3 * n + of_)
/-- a layer copied from slot to slot -/
def mLX (X : MX) (n to m of_ : Nat) : MX := mCW (mF X 1 (mcp (X.2.1 1) (1728 * n + 576 * to) (1728 * m + 576 * of_) 576)) (3 * n + to) (3 * m + of_)
theorem mLX_fr {X : MX} {n to m of_ : Nat} (hB : ∀ i, X.2.2 i = 0 ∨ X.2.2 i = 1) (ht : to < 3) : mfr X (mLX X n to m of_) n := by
  refine ⟨fun _ _ => rfl, rfl, fun k h1 h2 h3 h4 => ?_, fun _ _ => rfl, fun q hq => ?_, fun q hq => ⟨?_, ?_, ?_⟩, fun i => ?_⟩
  · show (if k = 4 then _ else if k = 3 then _ else if k = 1 then _ else X.2.1 k) = _
    rw [if_neg h3, if_neg h2, if_neg h1]
  · exact mcp_out (by omega)
  · exact zup_o (by omega)
  · exact zup_o (by omega)
  · exact zup_o (by omega)
  · show zup X.2.2 _ _ i = 0 ∨ zup X.2.2 _ _ i = 1
    unfold zup
    split
    · exact hB _
    · exact hB _
theorem mLX_to {X : MX} {n w ht to m of_ : Nat} {L : SL} (hw : w ≤ 24) (hh : ht ≤ 24) (hl : mlay X m w ht of_ L) : mlay (mLX X n to m of_) n w ht to L := by
  obtain ⟨h1, h2, h3, h4⟩ := hl
  refine ⟨(zup_s _ _ _).trans h1, (zup_s _ _ _).trans h2, (zup_s _ _ _).trans h3, fun x y hx hy => ?_⟩
  have e := mcp_in (f := X.2.1 1) (a := 1728 * n + 576 * to) (b := 1728 * m + 576 * of_) (n := 576) (r := 24 * y + x) (by omega)
  rw [← Nat.add_assoc, ← Nat.add_assoc] at e
  exact e.trans (h4 x y hx hy)
theorem mLX_ot {X : MX} {n w ht to m of_ i k : Nat} {L : SL} (hw : w ≤ 24) (hh : ht ≤ 24) (hi : k ≠ n ∨ i ≠ to) (hi3 : i < 3) (ht3 : to < 3) (hl : mlay X k w ht i L) : mlay (mLX X n to m of_) k w ht i L := by
  obtain ⟨h1, h2, h3, h4⟩ := hl
  refine ⟨(zup_o (by omega)).trans h1, (zup_o (by omega)).trans h2, (zup_o (by omega)).trans h3, fun x y hx hy => ?_⟩
  exact (mcp_out (by omega)).trans (h4 x y hx hy)
theorem mLT_X (X : MX) (n to of_ : Nat) : mLT X n to of_ = mLX X n to n of_ := rfl
def mFr (X : MX) (n l : Nat) : MX := mB (mF (mF (mF X 1 (mzf (X.2.1 1) (1728 * n + 576 * l) 576)) 3 (zup (X.2.1 3) (3 * n + l) 0)) 4 (zup (X.2.1 4) (3 * n + l) 255)) (zup X.2.2 (3 * n + l) 1)
theorem mFr_fr {X : MX} {n l : Nat} (hB : ∀ i, X.2.2 i = 0 ∨ X.2.2 i = 1) (ht : l < 3) : mfr X (mFr X n l) n := by
  refine ⟨fun _ _ => rfl, rfl, fun k h1 h2 h3 h4 => ?_, fun _ _ => rfl, fun q hq => ?_, fun q hq => ⟨?_, ?_, ?_⟩, fun i => ?_⟩
  · show (if k = 4 then _ else if k = 3 then _ else if k = 1 then _ else X.2.1 k) = _
    rw [if_neg h3, if_neg h2, if_neg h1]
  · show mzf _ _ _ q = _
    unfold mzf
    rw [if_neg (by omega)]
  · exact zup_o (by omega)
  · exact zup_o (by omega)
  · exact zup_o (by omega)
  · show zup X.2.2 _ _ i = 0 ∨ zup X.2.2 _ _ i = 1
    unfold zup
    split
    · exact Or.inr rfl
    · exact hB _
theorem mFr_to (X : MX) {n w ht l : Nat} (hw : w ≤ 24) (hh : ht ≤ 24) : mlay (mFr X n l) n w ht l sClr := by
  refine ⟨zup_s _ _ _, zup_s _ _ _, zup_s _ _ _, fun x y hx hy => ?_⟩
  show mzf _ _ _ _ = 0
  unfold mzf
  rw [if_pos (by omega)]
theorem mFr_ot {X : MX} {n w ht l i : Nat} {L : SL} (hw : w ≤ 24) (hh : ht ≤ 24) (hi : i ≠ l) (hi3 : i < 3) (hl3 : l < 3) (hl : mlay X n w ht i L) : mlay (mFr X n l) n w ht i L := by
  obtain ⟨h1, h2, h3, h4⟩ := hl
  refine ⟨(zup_o (by omega)).trans h1, (zup_o (by omega)).trans h2, (zup_o (by omega)).trans h3, fun x y hx hy => ?_⟩
  show mzf _ _ _ _ = _
  unfold mzf
  rw [if_neg (by omega)]
  exact h4 x y hx hy
theorem mF5_fr {X : MX} {n : Nat} {v : Int} (hB : ∀ i, X.2.2 i = 0 ∨ X.2.2 i = 1) : mfr X (mF X 5 (zup (X.2.1 5) n v)) n := by
  refine ⟨fun _ _ => rfl, rfl, fun k h1 h2 h3 h4 => ?_, fun q hq => zup_o hq, fun _ _ => rfl, fun _ _ => ⟨rfl, rfl, rfl⟩, hB⟩
  show (if k = 5 then _ else X.2.1 k) = _
  rw [if_neg h4]
theorem sN1_pos {S : SS} : 1 ≤ sN1 S := by unfold sN1; split <;> omega
theorem sAdd_prev {S : SS} (P : SP) (hk : okS S) (hh : sHas S = true) : sHist (sAdd S P) (sN1 S - 1) = sCur S := by
  obtain ⟨k1, k2, -⟩ := hk.1 hh
  by_cases h : sNow S < 6
  · have e : sN1 S - 1 = sNow S := by unfold sN1; rw [if_pos h]; omega
    rw [sAdd_lt P h, e]
    show sUpd _ _ _ _ = _
    unfold sUpd
    rw [if_neg (by omega)]
  · have e : sN1 S - 1 = 5 := by unfold sN1; rw [if_neg h]
    have e6 : sNow S = 6 := by omega
    rw [sAdd_ge P h, e]
    show (if 5 < 6 then sHist S (5 + 1) else P) = sHist S (sNow S)
    rw [if_pos (by decide), e6]
