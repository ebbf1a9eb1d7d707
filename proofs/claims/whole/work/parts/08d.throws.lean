theorem zthr_of {ws : List Cond} (h : ws.all (fun w => (decide (w ∈ tables_1) && goodWord w) || decide (w ∈ k2_sels lw_privs) && goodWord w || zcasts.any (fun q => decide (w = .castable q.1 q.2)) || zdecls.any (fun y => decide (w = .declares y))) = true) : ∀ w ∈ ws, w ∈ zG ∨ (∃ q ∈ zcasts, w = .castable q.1 q.2) ∨ ∃ y ∈ zdecls, w = .declares y := by
  intro w hw
  have h1 := List.all_eq_true.mp h w hw
  simp only [Bool.or_eq_true, Bool.and_eq_true, decide_eq_true_eq, List.any_eq_true] at h1
  rcases h1 with ((⟨h2, h3⟩ | ⟨h2, h3⟩) | h2) | h2
  · exact Or.inl (List.mem_filter.mpr ⟨List.mem_append_right _ h2, h3⟩)
  · exact Or.inl (List.mem_filter.mpr ⟨List.mem_append_left _ h2, h3⟩)
  · exact Or.inr (Or.inl h2)
  · exact Or.inr (Or.inr h2)
theorem th_TS_56 : zThr "TileStudio" 56 58 "java/lang/IllegalStateException" ["java/lang/RuntimeException", "java/lang/Exception"] := ⟨by decide +kernel, by decide +kernel, by decide, zG_T 303 (by decide +kernel) (by decide +kernel), zG_T 11 (by decide +kernel) (by decide +kernel), zthr_of (by decide +kernel), by decide +kernel⟩
theorem th_TS_181 : zThr "TileStudio" 181 183 "java/util/NoSuchElementException" ["java/lang/RuntimeException", "java/lang/Exception"] := ⟨by decide +kernel, by decide +kernel, by decide, zG_T 589 (by decide +kernel) (by decide +kernel), zG_T 17 (by decide +kernel) (by decide +kernel), zthr_of (by decide +kernel), by decide +kernel⟩
theorem th_TS_245 : zThr "TileStudio" 245 247 "java/lang/IllegalArgumentException" ["java/lang/RuntimeException", "java/lang/Exception"] := ⟨by decide +kernel, by decide +kernel, by decide, zG_T 133 (by decide +kernel) (by decide +kernel), zG_T 7 (by decide +kernel) (by decide +kernel), zthr_of (by decide +kernel), by decide +kernel⟩
theorem th_TS_251 : zThr "TileStudio" 251 253 "java/lang/IndexOutOfBoundsException" ["java/lang/RuntimeException", "java/lang/Exception"] := ⟨by decide +kernel, by decide +kernel, by decide, zG_T 662 (by decide +kernel) (by decide +kernel), zG_T 18 (by decide +kernel) (by decide +kernel), zthr_of (by decide +kernel), by decide +kernel⟩
