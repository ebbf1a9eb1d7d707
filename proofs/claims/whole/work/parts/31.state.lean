/-! ===== the state, in numbers ===== -/
/-- a layer: dots, mode, opacity, visible -/
abbrev SL : Type := (Nat → Nat → Int) × Int × Int × Int
/-- a picture: width, height, how many layers, the layers, the selected rows -/
abbrev SP : Type := Nat × Nat × Nat × (Nat → SL) × (Nat → Nat)
/-- what was copied: width, height, dots, rows -/
abbrev SK : Type := Nat × Nat × (Nat → Nat → Int) × (Nat → Nat)
/-- now, last, is there a picture, the pictures, the file, the copy, the brush -/
abbrev SS : Type := Nat × Nat × Bool × (Nat → SP) × Option SP × Option SK × Int × Int
abbrev sw (P : SP) : Nat := P.1
abbrev sh (P : SP) : Nat := P.2.1
abbrev sn (P : SP) : Nat := P.2.2.1
abbrev sl (P : SP) : Nat → SL := P.2.2.2.1
abbrev sr (P : SP) : Nat → Nat := P.2.2.2.2
abbrev sD (L : SL) : Nat → Nat → Int := L.1
abbrev sM (L : SL) : Int := L.2.1
abbrev sO (L : SL) : Int := L.2.2.1
abbrev sV (L : SL) : Int := L.2.2.2
abbrev sNow (S : SS) : Nat := S.1
abbrev sLast (S : SS) : Nat := S.2.1
abbrev sHas (S : SS) : Bool := S.2.2.1
abbrev sHist (S : SS) : Nat → SP := S.2.2.2.1
abbrev sFile (S : SS) : Option SP := S.2.2.2.2.1
abbrev sCopy (S : SS) : Option SK := S.2.2.2.2.2.1
abbrev sBd (S : SS) : Int := S.2.2.2.2.2.2.1
abbrev sBr (S : SS) : Int := S.2.2.2.2.2.2.2
abbrev sCur (S : SS) : SP := sHist S (sNow S)
def okL (w ht : Nat) (L : SL) : Prop := (0 ≤ sM L ∧ sM L ≤ 5) ∧ (0 ≤ sO L ∧ sO L ≤ 255) ∧ (sV L = 0 ∨ sV L = 1) ∧ ∀ x y, x < w → y < ht → zrg (sD L x y)
def okP (P : SP) : Prop := (1 ≤ sw P ∧ sw P ≤ 24) ∧ (1 ≤ sh P ∧ sh P ≤ 24) ∧ (1 ≤ sn P ∧ sn P ≤ 3) ∧ (∀ i, i < sn P → okL (sw P) (sh P) (sl P i)) ∧ ∀ j, sr P j < 2 ^ sw P
def okK (K : SK) : Prop := (1 ≤ K.1 ∧ K.1 ≤ 24) ∧ (1 ≤ K.2.1 ∧ K.2.1 ≤ 24) ∧ (∀ x y, x < K.1 → y < K.2.1 → zrg (K.2.2.1 x y)) ∧ ∀ j, K.2.2.2 j < 2 ^ K.1
theorem okP.r24 {P : SP} (h : okP P) (j : Nat) : sr P j < 16777216 := Nat.lt_of_lt_of_le (h.2.2.2.2 j) (Nat.pow_le_pow_right (n := 2) (by decide) h.1.2)
/-- cells that are changed once they are there: the studio, its history, the array of pictures; all others stay -/
def zmut (e : ZE) : Bool := match e with
  | .inr (.inr (0, _)) => true
  | .inr (.inr (7, _)) => true
  | .inr (.inl (4, _, _)) => true
  | _ => false
def zfr (h h' : ZH) : Prop := ∀ q e, h q = some e → zmut e = false → h' q = some e
theorem zfr.rf {h : ZH} : zfr h h := fun _ _ h _ => h
theorem zfr.tr {h h1 h2 : ZH} (a : zfr h h1) (b : zfr h1 h2) : zfr h h2 := fun q e hq hm => b q e (a q e hq hm) hm
theorem zext.zfr {h h' : ZH} (a : zext h h') : zfr h h' := fun q e hq _ => a q e hq
theorem zfr.put {h : ZH} {q : Nat} {e e' : ZE} (hq : h q = some e) (hm : zmut e = true) : zfr h (zset h q e') := fun r f hr hf => by
  rw [zset_ne (fun h9 => by subst h9; rw [hq] at hr; cases hr; rw [hm] at hf; cases hf)]
  exact hr
def isL (h : ZH) (b w ht : Nat) (L : SL) : Prop := ∃ da f, isLy h b da w ht f (sM L) (sO L) (sV L) ∧ (∀ k, zrg (f k)) ∧ ∀ x y, x < w → y < ht → f (y * w + x) = sD L x y
def isP (h : ZH) (a : Nat) (P : SP) : Prop := ∃ la sa ra lf, h a = some (zo 4 [zI (sw P), zI (sh P), .ref la, .ref sa]) ∧ h la = some (za 3 (sn P) lf) ∧ (∀ i, i < sn P → ∃ b, lf i = .ref b ∧ isL h b (sw P) (sh P) (sl P i)) ∧ isPl h sa ra (sw P) (sh P) (sr P)
def isK (h : ZH) (c : Nat) (K : SK) : Prop := ∃ cb cl cr L, h c = some (zo 6 [.ref cb, .ref cl]) ∧ isL h cb K.1 K.2.1 L ∧ (∀ x y, x < K.1 → y < K.2.1 → sD L x y = K.2.2.1 x y) ∧ isPl h cl cr K.1 K.2.1 K.2.2.2
theorem isPl.fz {h h' : ZH} {a ra w ht : Nat} {R : Nat → Nat} (hp : isPl h a ra w ht R) (hf : zfr h h') : isPl h' a ra w ht R := ⟨hf _ _ hp.1 rfl, hf _ _ hp.2 rfl⟩
theorem isL.fz {h h' : ZH} {b w ht : Nat} {L : SL} (hp : isL h b w ht L) (hf : zfr h h') : isL h' b w ht L := by
  obtain ⟨da, f, h1, h2, h3⟩ := hp
  exact ⟨da, f, ⟨hf _ _ h1.1 rfl, hf _ _ h1.2 rfl⟩, h2, h3⟩
theorem isP.fz {h h' : ZH} {a : Nat} {P : SP} (hp : isP h a P) (hf : zfr h h') : isP h' a P := by
  obtain ⟨la, sa, ra, lf, h1, h2, h3, h4⟩ := hp
  exact ⟨la, sa, ra, lf, hf _ _ h1 rfl, hf _ _ h2 rfl, fun i hi => by obtain ⟨b, e1, e2⟩ := h3 i hi; exact ⟨b, e1, e2.fz hf⟩, h4.fz hf⟩
theorem isK.fz {h h' : ZH} {c : Nat} {K : SK} (hp : isK h c K) (hf : zfr h h') : isK h' c K := by
  obtain ⟨cb, cl, cr, L, h1, h2, h3, h4⟩ := hp
  exact ⟨cb, cl, cr, L, hf _ _ h1 rfl, h2.fz hf, h3, h4.fz hf⟩
theorem isP.ob {h : ZH} {a : Nat} {P : SP} (hp : isP h a P) : ∃ fs, h a = some (zo 4 fs) := by
  obtain ⟨la, sa, ra, lf, h1, -⟩ := hp
  exact ⟨_, h1⟩
/-- the value of a field that may hold a picture -/
def fvP (h : ZH) (v : Value) (o : Option SP) : Prop := match o with
  | none => v = .null
  | some P => ∃ a, v = .ref a ∧ isP h a P ∧ okP P
def fvK (h : ZH) (v : Value) (o : Option SK) : Prop := match o with
  | none => v = .null
  | some K => ∃ a, v = .ref a ∧ isK h a K ∧ okK K
theorem fvP.fz {h h' : ZH} {v : Value} {o : Option SP} (hp : fvP h v o) (hf : zfr h h') : fvP h' v o := by
  cases o with
  | none => exact hp
  | some P => obtain ⟨a, h1, h2, h3⟩ := hp; exact ⟨a, h1, h2.fz hf, h3⟩
theorem fvK.fz {h h' : ZH} {v : Value} {o : Option SK} (hp : fvK h v o) (hf : zfr h h') : fvK h' v o := by
  cases o with
  | none => exact hp
  | some P => obtain ⟨a, h1, h2, h3⟩ := hp; exact ⟨a, h1, h2.fz hf, h3⟩
/-- the pictures of the history -/
def isHs (h : ZH) (pf : Nat → Value) (S : SS) : Prop := (sHas S = true → sNow S ≤ sLast S ∧ sLast S ≤ 6 ∧ ∀ i, i ≤ sLast S → ∃ a, pf i = .ref a ∧ isP h a (sHist S i) ∧ okP (sHist S i)) ∧ (sHas S = false → sNow S = 0 ∧ sLast S = 0 ∧ pf 0 = .null)
theorem isHs.fz {h h' : ZH} {pf : Nat → Value} {S : SS} (hp : isHs h pf S) (hf : zfr h h') : isHs h' pf S := ⟨fun h1 => by
  obtain ⟨k1, k2, k3⟩ := hp.1 h1
  exact ⟨k1, k2, fun i hi => by obtain ⟨a, e1, e2, e3⟩ := k3 i hi; exact ⟨a, e1, e2.fz hf, e3⟩⟩, hp.2⟩
/-- the studio x with its parts -/
def CR (h : ZH) (x hi pa : Nat) (pf : Nat → Value) (fv cv : Value) (S : SS) : Prop :=
  h x = some (zo 0 [.ref hi, fv, cv, zI (sBd S), zI (sBr S)]) ∧ isHi h hi pa (sNow S) (sLast S) pf ∧ isHs h pf S ∧ fvP h fv (sFile S) ∧ fvK h cv (sCopy S) ∧ zrg (sBd S) ∧ (0 ≤ sBr S ∧ sBr S ≤ 7)
def CRep (h : ZH) (x : Nat) (S : SS) : Prop := ∃ hi pa pf fv cv, CR h x hi pa pf fv cv S
theorem CR.now {h : ZH} {x hi pa : Nat} {pf : Nat → Value} {fv cv : Value} {S : SS} (hC : CR h x hi pa pf fv cv S) : (0 ≤ (sNow S : Int) ∧ (sNow S : Int) ≤ 6) ∧ ((sNow S : Int) ≤ sLast S ∧ (sLast S : Int) ≤ 6) := by
  obtain ⟨-, -, h1, -⟩ := hC
  cases hh : sHas S
  · have := h1.2 hh; omega
  · have := h1.1 hh; omega
theorem CR.ext {h h' : ZH} {x hi pa : Nat} {pf : Nat → Value} {fv cv : Value} {S : SS} (hC : CR h x hi pa pf fv cv S) (he : zext h h') : CR h' x hi pa pf fv cv S := by
  obtain ⟨h1, h2, h3, h4, h5, h6⟩ := hC
  exact ⟨he _ _ h1, ⟨he _ _ h2.1, he _ _ h2.2⟩, h3.fz he.zfr, h4.fz he.zfr, h5.fz he.zfr, h6⟩
def sUpd (H : Nat → SP) (i : Nat) (P : SP) : Nat → SP := fun j => if j = i then P else H j
/-- a step is done -/
def sAdd (S : SS) (P : SP) : SS := if sNow S < 6 then (sNow S + 1, sNow S + 1, true, sUpd (sHist S) (sNow S + 1) P, S.2.2.2.2) else (6, 6, true, (fun i => if i < 6 then sHist S (i + 1) else P), S.2.2.2.2)
theorem ct_step {Z : ZC} {h : ZH} {x hi pa a : Nat} {pf : Nat → Value} {fv cv : Value} {S : SS} {P : SP} (hC : CR h x hi pa pf fv cv S) (hhas : sHas S = true) (ha : isP h a P) (hok : okP P) : Ct Z m_History_add 1 0 0 [.ref hi, .ref a] h (fun r h' => r = .inl none ∧ zfr h h' ∧ CRep h' x (sAdd S P)) := by
  have hn := hC.now
  obtain ⟨h1, h2, h3, h4, h5, h6⟩ := hC
  obtain ⟨k1, k2, k3⟩ := h3.1 hhas
  obtain ⟨fs, hfs⟩ := ha.ob
  have hne : x ≠ hi := zkne h1 h2.1 (zkoo (by decide))
  have hne2 : x ≠ pa := zkne h1 h2.2 zkoa
  have hne3 : hi ≠ pa := zkne h2.1 h2.2 zkoa
  have hfz : ∀ e1 e2, zfr h (zset (zset h hi e1) pa e2) := fun e1 e2 => zfr.tr (zfr.put h2.1 rfl) (zfr.put (e := za 4 7 pf) (by rw [zset_ne hne3.symm]; exact h2.2) rfl)
  by_cases hlt : sNow S < 6
  · refine (ct_add_lt h2 ⟨hn.1.1, by omega⟩ hfs).mono ?_
    rintro r h' ⟨rfl, rfl⟩
    refine ⟨rfl, hfz _ _, hi, pa, _, fv, cv, ?_, ⟨?_, zset_same _ _ _⟩, ?_, h4.fz (hfz _ _), h5.fz (hfz _ _), ?_⟩
    · rw [zset_ne hne2, zset_ne hne, h1]
      simp only [sAdd, hlt, if_true]
    · rw [zset_ne hne3, zset_same]
      simp only [sAdd, hlt, if_true]
      rfl
    · simp only [sAdd, hlt, if_true]
      refine ⟨fun _ => ⟨Nat.le_refl _, by show sNow S + 1 ≤ 6; omega, fun i hi => ?_⟩, fun h9 => by cases h9⟩
      have e : ((sNow S : Int) + 1).toNat = sNow S + 1 := by omega
      by_cases hi2 : i = sNow S + 1
      · refine ⟨a, ?_, ?_⟩
        · unfold zuv; rw [e, if_pos hi2]
        · show isP _ a (sUpd _ _ _ i) ∧ okP (sUpd _ _ _ i)
          unfold sUpd
          rw [if_pos hi2]
          exact ⟨ha.fz (hfz _ _), hok⟩
      · have hi3 : i ≤ sNow S + 1 := hi
        obtain ⟨b, e1, e2, e3⟩ := k3 i (by omega)
        refine ⟨b, ?_, ?_⟩
        · unfold zuv; rw [e, if_neg hi2]; exact e1
        · show isP _ b (sUpd _ _ _ i) ∧ okP (sUpd _ _ _ i)
          unfold sUpd
          rw [if_neg hi2]
          exact ⟨e2.fz (hfz _ _), e3⟩
    · simp only [sAdd, hlt, if_true]
      exact h6
  · have h66 : sNow S = 6 := by omega
    have hl6 : sLast S = 6 := by omega
    refine (ct_add_ge h2 (by omega) (fun i hi => by obtain ⟨b, e1, e2, -⟩ := k3 i (by omega); obtain ⟨gs, hg⟩ := e2.ob; exact ⟨b, gs, e1, hg⟩) hfs).mono ?_
    rintro r h' ⟨rfl, rfl⟩
    refine ⟨rfl, hfz _ _, hi, pa, _, fv, cv, ?_, ⟨?_, zset_same _ _ _⟩, ?_, h4.fz (hfz _ _), h5.fz (hfz _ _), ?_⟩
    · rw [zset_ne hne2, zset_ne hne, h1]
      simp only [sAdd, hlt, if_false]
    · rw [zset_ne hne3, zset_same]
      simp only [sAdd, hlt, if_false]
      rfl
    · simp only [sAdd, hlt, if_false]
      refine ⟨fun _ => ⟨Nat.le_refl _, Nat.le_refl _, fun i hi => ?_⟩, fun h9 => by cases h9⟩
      have hi3 : i ≤ 6 := hi
      by_cases hi2 : i = 6
      · refine ⟨a, ?_, ?_⟩
        · unfold zuv; rw [if_pos hi2]
        · show isP _ a (if i < 6 then _ else P) ∧ okP (if i < 6 then _ else P)
          rw [if_neg (by omega)]
          exact ⟨ha.fz (hfz _ _), hok⟩
      · obtain ⟨b, e1, e2, e3⟩ := k3 (i + 1) (by omega)
        refine ⟨b, ?_, ?_⟩
        · unfold zuv zsh; rw [if_neg hi2, if_pos (by omega)]; exact e1
        · show isP _ b (if i < 6 then sHist S (i + 1) else P) ∧ okP (if i < 6 then sHist S (i + 1) else P)
          rw [if_pos (by omega)]
          exact ⟨e2.fz (hfz _ _), e3⟩
    · simp only [sAdd, hlt, if_false]
      exact h6
