/-! ===== the law from its first row ===== -/
theorem lw_ev {Z : ZC} {b n : Nat} {xs : Nat → Int32} (hn : n ≤ 3072) : Ev Z (lwEx b n Z.2.2.2 xs, m_L_law, 10, 601024, 7293034) 0 [.ref b] [] (fun _ => none) 601024 7293034 (fun r _ => r = .inl (some (zI 1))) := by
  refine Ev.bud (mc' := 10258) (ms' := 2063925) (by decide) (by decide) ?_
  refine zz_new (N := 5) rfl nw_L_8 (fun x hx0 => ?_)
  refine zz_dup rfl rfl ?_
  refine zz_N rfl lk_L_89 cw_TS_init (fun E h9 h8 => by cases h8.1) (ct_TS_init (zset_same _ _ _)) rfl rfl rfl rfl ?_
  rintro _ h1 ⟨rfl, hi, pa, g1, g2, g3, hh1⟩
  refine zaft_u ?_
  have hC : CRep h1 x sS0 := by rw [hh1]; exact CRep0 g1 g2 g3 ⟨_, zset_same _ _ _⟩
  refine zz_astore_n rfl rfl rfl ?_
  refine zz_new (N := 21) rfl nw_L_90 (fun m hm0 => ?_)
  refine zz_dup rfl rfl ?_
  refine zz_N rfl lk_L_92 cw_M_init (fun E h9 h8 => by cases h8.1) (ct_M_init (zset_same _ _ _)) rfl rfl rfl rfl ?_
  rintro _ h2 ⟨rfl, A, hAm, hAk, hkk⟩
  refine zaft_u ?_
  have hC2 : CRep h2 x sS0 := by
    obtain ⟨hi2, pa2, pf2, fv2, cv2, hCR⟩ := hC
    exact ⟨hi2, pa2, pf2, fv2, cv2, hCR.ext (fun q e hq => hkk q e (zne hm0 hq) (by rw [zset_ne (zne hm0 hq)]; exact hq))⟩
  subst hAm
  refine zz_astore_n rfl rfl rfl ?_
  refine zz_iconst rfl ?_
  refine zz_newl 1 rfl ⟨by decide, by decide, by decide⟩ (fun o ho0 => ?_)
  refine zz_astore_n rfl rfl rfl ?_
  refine zz_iconst rfl ?_
  refine zz_istore rfl rfl rfl ?_
  have hA9 : ∀ k, k < 14 → zset h2 o (za 2 1 (fun _ => zJ 0)) (A k) = some (mcell A mX0 k) := fun k hk => by rw [zset_ne (zne ho0 (hAk k hk))]; exact hAk k hk
  refine lw_loop (mOk_of hA9) hn 512 0 _ (by decide) ⟨sS0, mX0, (fun _ => zJ 0), mH_of hA9, ?_, mrel0, zset_same _ _ _⟩
  obtain ⟨hi2, pa2, pf2, fv2, cv2, hCR⟩ := hC2
  exact ⟨hi2, pa2, pf2, fv2, cv2, hCR.ext (fun q e hq => by rw [zset_ne (zne ho0 hq)]; exact hq)⟩
/-! ===== the world at the law's entry ===== -/
theorem lw_T (i : Nat) {w : Cond} (h : tables_1[i]? = some w) : w ∈ lw_tbl := List.mem_append_right _ (List.mem_of_getElem? h)
theorem lw_arr {args : Array Value} {s : State} {t : FieldType} (ht : ∀ C, t ≠ .object C) (h : (Cond.arrayClass t).before args s = true) : ∃ cA : ClassId, ArrOfT s cA t ∧ va_RA s cA t := by
  obtain ⟨cA, kA, comp, h1, h2, h3⟩ := Cond.arrayClass_spec h
  refine ⟨cA, fun n z => ⟨fun k h => (by cases h), kA, h2, comp, h3⟩, ?_⟩
  cases t with
  | object C => exact absurd rfl (ht C)
  | _ => exact h1
theorem lw_arO {args : Array Value} {s : State} {C : String} (h : (Cond.arrayOver (.object C)).before args s = true) : ∃ cA : ClassId, ArrOfT s cA (.object C) ∧ va_RA s cA (.object C) := by
  obtain ⟨comp, cA, kA, f4, -, f2, f3, f1⟩ := Cond.arrayOver_spec h
  exact ⟨cA, fun n z => ⟨fun k h => (by cases h), kA, f2, comp, f3⟩, kA, comp, f2, f3, f4, f1⟩
theorem lw_world {s : State} {args : Array Value} (l : Launch) (hl : l.stackTraces = false) (hts : ∀ w ∈ lw_tbl, w.before args s = true) (hgv : (Jvm.Cond.and given_1 narrow_1).before args s = true) : ∃ Z : ZC, Z.1 = l ∧ Z.2.2.2 = s.heap.size ∧ zW Z s s.heap := by
  have hs := flat_of_before _ hgv
  have htG : ∀ w ∈ zG, w.before args s = true := fun w hw => hts w (List.mem_filter.mp hw).1
  have hcl : ∀ c : Nat, ∃ r : ClassId × (Nat → Nat), ∀ q : vw_C, zcls[c]? = some q → u_Kn s q.1 q.2.1 q.2.2 r.1 r.2 := by
    intro c
    by_cases h8 : c < 8
    · have hc : c = 0 ∨ c = 1 ∨ c = 2 ∨ c = 3 ∨ c = 4 ∨ c = 5 ∨ c = 6 ∨ c = 7 := by omega
      rcases hc with rfl | rfl | rfl | rfl | rfl | rfl | rfl | rfl
      · obtain ⟨cC, iS, hk⟩ := u_known (n := 5) htG zu0 (hts _ (lw_T 20 (by decide +kernel)))
        exact ⟨(cC, iS), fun q hq => by cases hq; exact hk⟩
      · obtain ⟨cC, iS, hk⟩ := u_known (n := 21) htG zu1 (hts _ (lw_T 701 (by decide +kernel)))
        exact ⟨(cC, iS), fun q hq => by cases hq; exact hk⟩
      · obtain ⟨cC, iS, hk⟩ := u_known (n := 2) htG zu2 (hts _ (lw_T 198 (by decide +kernel)))
        exact ⟨(cC, iS), fun q hq => by cases hq; exact hk⟩
      · obtain ⟨cC, iS, hk⟩ := u_known (n := 6) htG zu3 (hts _ (lw_T 231 (by decide +kernel)))
        exact ⟨(cC, iS), fun q hq => by cases hq; exact hk⟩
      · obtain ⟨cC, iS, hk⟩ := u_known (n := 4) htG zu4 (hts _ (lw_T 261 (by decide +kernel)))
        exact ⟨(cC, iS), fun q hq => by cases hq; exact hk⟩
      · obtain ⟨cC, iS, hk⟩ := u_known (n := 4) htG zu5 (hts _ (lw_T 419 (by decide +kernel)))
        exact ⟨(cC, iS), fun q hq => by cases hq; exact hk⟩
      · obtain ⟨cC, iS, hk⟩ := u_known (n := 2) htG zu6 (hts _ (lw_T 567 (by decide +kernel)))
        exact ⟨(cC, iS), fun q hq => by cases hq; exact hk⟩
      · obtain ⟨cC, iS, hk⟩ := u_known (n := 3) htG zu7 (hts _ (lw_T 28 (by decide +kernel)))
        exact ⟨(cC, iS), fun q hq => by cases hq; exact hk⟩
    · refine ⟨(default, fun _ => 0), fun q hq => ?_⟩
      have h9 : c < zcls.length := (List.getElem?_eq_some_iff.mp hq).1
      exact absurd h9 h8
  obtain ⟨D, hD⟩ := Classical.axiomOfChoice hcl
  obtain ⟨a0, A0⟩ := lw_arr (t := .int) (fun C h => by cases h) (hts _ (lw_T 212 (by decide +kernel)))
  obtain ⟨a1, A1⟩ := lw_arr (t := .boolean) (fun C h => by cases h) (hts _ (lw_T 770 (by decide +kernel)))
  obtain ⟨a2, A2⟩ := lw_arr (t := .long) (fun C h => by cases h) (hts _ (lw_T 987 (by decide +kernel)))
  have hL : (Cond.arrayOver (.object "TileStudio$Layer")).before args s = true := hts _ (lw_T 227 (by decide +kernel))
  have hP : (Cond.arrayOver (.object "TileStudio$Picture")).before args s = true := hts _ (lw_T 34 (by decide +kernel))
  obtain ⟨a3, A3⟩ := lw_arO hL
  obtain ⟨a4, A4⟩ := lw_arO hP
  have hno : ∀ a : Nat, a < s.heap.size → ¬ s.heap.size ≤ a := fun a h => Nat.not_le.mpr h
  refine ⟨(l, ((fun c => (D c).1), (fun c => (D c).2)), (fun k => if k = 0 then a0 else if k = 1 then a1 else if k = 2 then a2 else if k = 3 then a3 else a4), s.heap.size), rfl, rfl, ⟨hD, fun k q hq => ?_⟩, ⟨?_, ?_, ?_, va_AO.of hL, va_AO.of hP, ?_⟩, ⟨vx_Zqof (hts _ (lw_T 160 (by decide +kernel))) (hts _ (lw_T 4 (by decide +kernel))) (hs _ (by decide +kernel)) hno, vx_Zqof (hts _ (lw_T 162 (by decide +kernel))) (hts _ (lw_T 4 (by decide +kernel))) (hs _ (by decide +kernel)) hno⟩, Nat.le_refl _, hl⟩
  · have h5 : k < 5 := (List.getElem?_eq_some_iff.mp hq).1
    have hk : k = 0 ∨ k = 1 ∨ k = 2 ∨ k = 3 ∨ k = 4 := by omega
    rcases hk with rfl | rfl | rfl | rfl | rfl
    · cases hq; exact A0
    · cases hq; exact A1
    · cases hq; exact A2
    · cases hq; exact A3
    · cases hq; exact A4
  · intro q hq
    unfold zcasts at hq
    simp only [List.mem_cons, List.not_mem_nil, or_false] at hq
    rcases hq with rfl | rfl | rfl | rfl | rfl
    · exact va_Nw.of rfl (hts _ (lw_T 135 (by decide +kernel)))
    · exact va_Nw.of rfl (hts _ (lw_T 305 (by decide +kernel)))
    · exact va_Nw.of rfl (hts _ (lw_T 591 (by decide +kernel)))
    · exact va_Nw.of rfl (hts _ (lw_T 664 (by decide +kernel)))
    · exact va_Nw.of rfl (hts _ (lw_T 429 (by decide +kernel)))
  · intro q hq
    unfold znocasts at hq
    simp only [List.mem_cons, List.not_mem_nil, or_false] at hq
    rcases hq with rfl | rfl | rfl
    · exact va_Nc.of (hs _ (by decide +kernel))
    · exact va_Nc.of (hs _ (by decide +kernel))
    · exact va_Nc.of (hs _ (by decide +kernel))
  · intro q hq
    unfold znests at hq
    simp only [List.mem_cons, List.not_mem_nil, or_false] at hq
    rcases hq with rfl | rfl
    · exact va_Nw.of rfl (hts _ (lw_T 108 (by decide +kernel)))
    · exact va_Nw.of rfl (hts _ (lw_T 225 (by decide +kernel)))
  · intro q hq
    unfold zdecls at hq
    simp only [List.mem_cons, List.not_mem_nil, or_false] at hq
    rcases hq with rfl | rfl | rfl | rfl | rfl | rfl
    · exact va_Nw.of rfl (hts _ (lw_T 136 (by decide +kernel)))
    · exact va_Nw.of rfl (hts _ (lw_T 137 (by decide +kernel)))
    · exact va_Nw.of rfl (hts _ (lw_T 138 (by decide +kernel)))
    · exact va_Nw.of rfl (hts _ (lw_T 139 (by decide +kernel)))
    · exact va_Nw.of rfl (hts _ (lw_T 140 (by decide +kernel)))
    · exact va_Nw.of rfl (hts _ (lw_T 141 (by decide +kernel)))
