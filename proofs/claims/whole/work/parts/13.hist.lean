section HI
variable {Z : ZC} {h : ZH}
theorem ct_History_init {a : Nat} (ha : h a = some (zo 7 [.null, zI 0, zI 0])) : Ct Z m_History_init 0 1 7 [.ref a] h (fun r h' => r = .inl none ∧ ∃ pa, h pa = none ∧ h' = zset (zset h pa (za 4 7 (fun _ => .null))) a (zo 7 [.ref pa, zI 0, zI 0])) := by
  refine zct rfl (by decide) ok_History_init rfl rfl ?_
  refine zz_aload_n rfl rfl ?_
  refine zz_oinit rfl ob_History_3 rfl ?_
  refine zz_aload_n rfl rfl ?_
  refine zz_bipush rfl (by decide) ?_
  refine zz_newq 7 rfl (Or.inr ⟨rfl, rfl⟩) cl_History_9 (by omega) (fun a7 ha7 => ?_)
  refine zz_putf rfl fl_History_11 (zget ha7 ha) (pt_7_0 rfl rfl) (zblt rfl) ?_
  refine zz_vret rfl rfl ⟨rfl, a7, ha7, rfl⟩
theorem ct_TS_init {x : Nat} (hx : h x = some (zo 0 [.null, .null, .null, zI 0, zI 0])) : Ct Z m_TS_init 1 2 10 [.ref x] h (fun r h' => r = .inl none ∧ ∃ hi pa, h hi = none ∧ h pa = none ∧ hi ≠ pa ∧ h' = zset (zset (zset h pa (za 4 7 (fun _ => .null))) hi (zo 7 [.ref pa, zI 0, zI 0])) x (zo 0 [.ref hi, .null, .null, zI 0, zI 0])) := by
  refine zct rfl (by decide) ok_TS_init rfl rfl ?_
  refine zz_aload_n rfl rfl ?_
  refine zz_oinit rfl ob_TS_3 rfl ?_
  refine zz_aload_n rfl rfl ?_
  refine zz_new (N := 3) rfl nw_TS_9 (fun hi hhi => ?_)
  refine zz_dup rfl rfl ?_
  refine zz_N rfl lk_TS_11 cw_History_init (fun E h9 h8 => by cases h8.1) (ct_History_init (zset_same _ _ _)) rfl rfl rfl rfl ?_
  rintro _ _ ⟨rfl, pa, hpa, rfl⟩
  obtain ⟨hp1, hp2⟩ := zset_none hpa
  refine zaft_u ?_
  refine Ev.heap (zset_mid h _ _ _ hp2.symm) ?_
  refine zz_putf rfl fl_TS_12 (show _ = some (zo 0 [.null, .null, .null, zI 0, zI 0]) from by rw [zset_ne (zne hhi hx), zset_ne (zne hp1 hx)]; exact hx) (pt_0_0 rfl rfl) (zblt rfl) ?_
  refine zz_vret rfl rfl ⟨rfl, hi, pa, hhi, hp1, hp2.symm, rfl⟩
theorem ct_present {hi pa : Nat} {pr la : Int} {pf : Nat → Value} (hH : isHi h hi pa pr la pf) (hpr : 0 ≤ pr ∧ pr ≤ 6) (hv : pf pr.toNat = .null ∨ ∃ a, pf pr.toNat = .ref a) : Ct Z m_History_present 0 0 0 [.ref hi] h (zP (pf pr.toNat) h) := by
  refine zct rfl (by decide) ok_History_present rfl rfl ?_
  refine zz_aload_n rfl rfl ?_
  refine zz_getf rfl fl_History_11 hH.1 rfl ?_
  refine zz_aload_n rfl rfl ?_
  refine zz_getf rfl fl_History_17 hH.1 rfl ?_
  refine zz_aald rfl (Or.inr ⟨rfl, rfl⟩) hH.2 (by omega) (by omega) ?_
  refine zz_aret rfl rfl (Or.inl ⟨_, rfl⟩) (hv) ⟨rfl, rfl⟩
theorem ct_stepsBack {hi pa : Nat} {pr la : Int} {pf : Nat → Value} (hH : isHi h hi pa pr la pf) (hpr : 0 ≤ pr ∧ pr ≤ 6) : Ct Z m_History_stepsBack 0 0 0 [.ref hi] h (zP (zI pr) h) := by
  refine zct rfl (by decide) ok_History_stepsBack rfl rfl ?_
  refine zz_aload_n rfl rfl ?_
  refine zz_getf rfl fl_History_17 hH.1 rfl ?_
  refine zz_iret rfl rfl ⟨rfl, rfl⟩
theorem ct_stepsForth {hi pa : Nat} {pr la : Int} {pf : Nat → Value} (hH : isHi h hi pa pr la pf) (hpr : 0 ≤ pr ∧ pr ≤ 6) : Ct Z m_History_stepsForth 0 0 0 [.ref hi] h (zP (zI (la - pr)) h) := by
  refine zct rfl (by decide) ok_History_stepsForth rfl rfl ?_
  refine zz_aload_n rfl rfl ?_
  refine zz_getf rfl fl_History_21 hH.1 rfl ?_
  refine zz_aload_n rfl rfl ?_
  refine zz_getf rfl fl_History_17 hH.1 rfl ?_
  refine zz_isub rfl ?_
  refine zz_iret rfl rfl ⟨rfl, rfl⟩
theorem ct_goBack {hi pa : Nat} {pr la : Int} {pf : Nat → Value} (hH : isHi h hi pa pr la pf) (hpr : 0 ≤ pr ∧ pr ≤ 6) : Ct Z m_History_goBack 0 0 0 [.ref hi] h (fun r h' => ((0 < pr ∧ r = .inl (some (zI 1)) ∧ h' = zset h hi (zo 7 [.ref pa, zI (pr - 1), zI la])) ∨ (¬ 0 < pr ∧ r = .inl (some (zI 0)) ∧ h' = h))) := by
  refine zct rfl (by decide) ok_History_goBack rfl rfl ?_
  refine zz_aload_n rfl rfl ?_
  refine zz_getf rfl fl_History_17 hH.1 rfl ?_
  refine zz_if_gt rfl (by omega) (fun hb4 => ?_) (fun hb4 => ?_)
  · skip
    refine zz_aload_n rfl rfl ?_
    refine zz_dup rfl rfl ?_
    refine zz_getf rfl fl_History_17 hH.1 rfl ?_
    refine zz_iconst rfl ?_
    refine zz_isub rfl ?_
    refine zz_putf rfl fl_History_17 hH.1 (pt_7_1 rfl rfl) (zblt rfl) ?_
    refine zz_iconst rfl ?_
    refine zz_zret rfl rfl rfl (Or.inl ⟨hb4, rfl, rfl⟩)
  · skip
    refine zz_iconst rfl ?_
    refine zz_zret rfl rfl rfl (Or.inr ⟨hb4, rfl, rfl⟩)
theorem ct_goForth {hi pa : Nat} {pr la : Int} {pf : Nat → Value} (hH : isHi h hi pa pr la pf) (hpr : 0 ≤ pr ∧ pr ≤ 6) (hla : pr ≤ la ∧ la ≤ 6) : Ct Z m_History_goForth 0 0 0 [.ref hi] h (fun r h' => ((pr < la ∧ r = .inl (some (zI 1)) ∧ h' = zset h hi (zo 7 [.ref pa, zI (pr + 1), zI la])) ∨ (¬ pr < la ∧ r = .inl (some (zI 0)) ∧ h' = h))) := by
  refine zct rfl (by decide) ok_History_goForth rfl rfl ?_
  refine zz_aload_n rfl rfl ?_
  refine zz_getf rfl fl_History_17 hH.1 rfl ?_
  refine zz_aload_n rfl rfl ?_
  refine zz_getf rfl fl_History_21 hH.1 rfl ?_
  refine zz_icmp_lt rfl (by omega) (by omega) (fun hb8 => ?_) (fun hb8 => ?_)
  · skip
    refine zz_aload_n rfl rfl ?_
    refine zz_dup rfl rfl ?_
    refine zz_getf rfl fl_History_17 hH.1 rfl ?_
    refine zz_iconst rfl ?_
    refine zz_iadd rfl ?_
    refine zz_putf rfl fl_History_17 hH.1 (pt_7_1 rfl rfl) (zblt rfl) ?_
    refine zz_iconst rfl ?_
    refine zz_zret rfl rfl rfl (Or.inl ⟨hb8, rfl, rfl⟩)
  · skip
    refine zz_iconst rfl ?_
    refine zz_zret rfl rfl rfl (Or.inr ⟨hb8, rfl, rfl⟩)
theorem ct_begin {hi pa a : Nat} {pr la : Int} {pf : Nat → Value} {fs : List Value} (hH : isHi h hi pa pr la pf) (ha : h a = some (zo 4 fs)) : Ct Z m_History_begin 0 0 0 [.ref hi, .ref a] h (zV (zset (zset h hi (zo 7 [.ref pa, zI 0, zI 0])) pa (za 4 7 (zuv pf 0 (.ref a))))) := by
  refine zct rfl (by decide) ok_History_begin rfl rfl ?_
  refine zz_aload_n rfl rfl ?_
  refine zz_iconst rfl ?_
  refine zz_putf rfl fl_History_17 hH.1 (pt_7_1 rfl rfl) (zblt rfl) ?_
  refine zz_aload_n rfl rfl ?_
  refine zz_iconst rfl ?_
  refine zz_putf rfl fl_History_21 (zset_same _ _ _) (pt_7_2 rfl rfl) (zblt rfl) ?_
  refine Ev.heap (show _ = zset h hi (zo 7 [.ref pa, zI 0, zI 0]) from by rw [zset_set]; rfl) ?_
  refine zz_aload_n rfl rfl ?_
  refine zz_getf rfl fl_History_11 (zset_same _ _ _) rfl ?_
  refine zz_iconst rfl ?_
  refine zz_aload_n rfl rfl ?_
  refine zz_aast rfl (Or.inr ⟨rfl, rfl⟩) rfl (show _ = some (za 4 7 pf) from by rw [zset_ne (zkne hH.2 hH.1 zkao)]; exact hH.2) (show _ = some (zo 4 fs) from by rw [zset_ne (zkne ha hH.1 (zkoo (by decide)))]; exact ha) (by omega) (by omega) ?_
  refine zz_vret rfl rfl ⟨rfl, rfl⟩
theorem lp_forget {hi pa : Nat} {pr la : Int} {pf : Nat → Value} {MC MS mc ms : Nat} {Q : ZR → ZH → Prop} (hH : isHi h hi pa pr la pf) (hall : ∀ i, i < 7 → ∃ b fs, pf i = .ref b ∧ h b = some (zo 4 fs)) (kx : Ev Z (fun _ => True, m_History_forgetOldest, 0, MC, MS) 31 [.ref hi, zI 7] [] (zset h pa (za 4 7 (zsh pf 7))) mc ms Q) : ∀ (m : Nat) (k : Int), 1 ≤ k → k + m = 7 → Ev Z (fun _ => True, m_History_forgetOldest, 0, MC, MS) 2 [.ref hi, zI k] [] (zset h pa (za 4 7 (zsh pf k))) mc ms Q := by
  intro m
  induction m with
  | zero =>
    intro k hk0 hkn
    refine zz_iload_n rfl rfl ?_
    refine zz_aload_n rfl rfl ?_
    refine zz_getf rfl fl_History_11 (zoth hH.2 hH.1 zkao) rfl ?_
    refine zz_alenA rfl (Or.inr ⟨rfl, rfl⟩) (zset_same _ _ _) ?_
    refine zz_icmp_ge rfl (by omega) (by omega) (fun hb8 => ?_) (fun hb8 => absurd hb8 (by omega))
    obtain rfl : k = 7 := by omega
    exact kx
  | succ m ih =>
    intro k hk0 hkn
    refine zz_iload_n rfl rfl ?_
    refine zz_aload_n rfl rfl ?_
    refine zz_getf rfl fl_History_11 (zoth hH.2 hH.1 zkao) rfl ?_
    refine zz_alenA rfl (Or.inr ⟨rfl, rfl⟩) (zset_same _ _ _) ?_
    refine zz_icmp_ge rfl (by omega) (by omega) (fun hb8 => absurd hb8 (by omega)) (fun hb8 => ?_)
    refine zz_aload_n rfl rfl ?_
    refine zz_getf rfl fl_History_11 (zoth hH.2 hH.1 zkao) rfl ?_
    refine zz_iload_n rfl rfl ?_
    refine zz_iconst rfl ?_
    refine zz_isub rfl ?_
    refine zz_aload_n rfl rfl ?_
    refine zz_getf rfl fl_History_11 (zoth hH.2 hH.1 zkao) rfl ?_
    refine zz_iload_n rfl rfl ?_
    refine zz_aald rfl (Or.inr ⟨rfl, rfl⟩) (zset_same _ _ _) (by omega) (by omega) ?_
    obtain ⟨b0, f0, hb0, hg0⟩ := hall k.toNat (by omega)
    refine zz_tv (show zsh pf k k.toNat = .ref b0 from by unfold zsh; rw [if_neg (by omega)]; exact hb0) ?_
    refine zz_aast rfl (Or.inr ⟨rfl, rfl⟩) rfl (zset_same _ _ _) (zoth hH.2 hg0 zkao) (by omega) (by omega) ?_
    refine zz_iinc rfl rfl rfl rfl ?_
    refine zz_goto rfl ?_
    refine Ev.heap (show _ = zset h pa (za 4 7 (zsh pf (k + 1))) from by rw [zset_set, zsh_up hk0 hb0.symm]) ?_
    exact ih (k + 1) (by omega) (by omega)
theorem ct_forgetOldest {hi pa : Nat} {pr la : Int} {pf : Nat → Value} (hH : isHi h hi pa pr la pf) (hall : ∀ i, i < 7 → ∃ b fs, pf i = .ref b ∧ h b = some (zo 4 fs)) : Ct Z m_History_forgetOldest 0 0 0 [.ref hi] h (zV (zset h pa (za 4 7 (zsh pf 7)))) := by
  refine zct rfl (by decide) ok_History_forgetOldest rfl rfl ?_
  refine zz_iconst rfl ?_
  refine zz_istore_n rfl rfl rfl ?_
  refine Ev.heap (show h = zset h pa (za 4 7 (zsh pf 1)) from by rw [← zsh_1, zset_id hH.2]) ?_
  refine lp_forget hH hall ?_ 6 1 (by decide) (by decide)
  refine zz_vret rfl rfl ⟨rfl, rfl⟩
theorem ct_add_lt {hi pa a : Nat} {pr la : Int} {pf : Nat → Value} {fs : List Value} (hH : isHi h hi pa pr la pf) (hpr : 0 ≤ pr ∧ pr < 6) (ha : h a = some (zo 4 fs)) : Ct Z m_History_add 1 0 0 [.ref hi, .ref a] h (zV (zset (zset h hi (zo 7 [.ref pa, zI (pr + 1), zI (pr + 1)])) pa (za 4 7 (zuv pf (pr + 1).toNat (.ref a))))) := by
  refine zct rfl (by decide) ok_History_add rfl rfl ?_
  refine zz_aload_n rfl rfl ?_
  refine zz_getf rfl fl_History_17 hH.1 rfl ?_
  refine zz_bipush rfl (by decide) ?_
  refine zz_icmp_lt rfl (by omega) (by omega) (fun hb6 => ?_) (fun hb6 => absurd hb6 (by omega))
  refine zz_aload_n rfl rfl ?_
  refine zz_dup rfl rfl ?_
  refine zz_getf rfl fl_History_17 hH.1 rfl ?_
  refine zz_iconst rfl ?_
  refine zz_iadd rfl ?_
  refine zz_putf rfl fl_History_17 hH.1 (pt_7_1 rfl rfl) (zblt rfl) ?_
  refine zz_aload_n rfl rfl ?_
  refine zz_aload_n rfl rfl ?_
  refine zz_getf rfl fl_History_17 (zset_same _ _ _) rfl ?_
  refine zz_putf rfl fl_History_21 (zset_same _ _ _) (pt_7_2 rfl rfl) (zblt rfl) ?_
  refine Ev.heap (show _ = zset h hi (zo 7 [.ref pa, zI (pr + 1), zI (pr + 1)]) from by rw [zset_set]; rfl) ?_
  refine zz_aload_n rfl rfl ?_
  refine zz_getf rfl fl_History_11 (zset_same _ _ _) rfl ?_
  refine zz_aload_n rfl rfl ?_
  refine zz_getf rfl fl_History_17 (zset_same _ _ _) rfl ?_
  refine zz_aload_n rfl rfl ?_
  refine zz_aast rfl (Or.inr ⟨rfl, rfl⟩) rfl (show _ = some (za 4 7 pf) from by rw [zset_ne (zkne hH.2 hH.1 zkao)]; exact hH.2) (show _ = some (zo 4 fs) from by rw [zset_ne (zkne ha hH.1 (zkoo (by decide)))]; exact ha) (by omega) (by omega) ?_
  refine zz_vret rfl rfl ⟨rfl, rfl⟩
theorem ct_add_ge {hi pa a : Nat} {pr la : Int} {pf : Nat → Value} {fs : List Value} (hH : isHi h hi pa pr la pf) (hpr : pr = 6) (hall : ∀ i, i < 7 → ∃ b fs, pf i = .ref b ∧ h b = some (zo 4 fs)) (ha : h a = some (zo 4 fs)) : Ct Z m_History_add 1 0 0 [.ref hi, .ref a] h (zV (zset (zset h hi (zo 7 [.ref pa, zI 6, zI 6])) pa (za 4 7 (zuv (zsh pf 7) 6 (.ref a))))) := by
  refine zct rfl (by decide) ok_History_add rfl rfl ?_
  refine zz_aload_n rfl rfl ?_
  refine zz_getf rfl fl_History_17 hH.1 rfl ?_
  refine zz_bipush rfl (by decide) ?_
  refine zz_icmp_lt rfl (by omega) (by omega) (fun hb6 => absurd hb6 (by omega)) (fun hb6 => ?_)
  refine zz_aload_n rfl rfl ?_
  refine zz_Vu rfl lk_History_24 cw_History_forgetOldest rfl hH.1 (ct_forgetOldest hH hall) rfl rfl rfl rfl ?_
  subst hpr
  have hG : zset h pa (za 4 7 (zsh pf 7)) hi = some (zo 7 [.ref pa, zI 6, zI la]) := zoth hH.2 hH.1 zkao
  refine zz_goto rfl ?_
  refine zz_aload_n rfl rfl ?_
  refine zz_aload_n rfl rfl ?_
  refine zz_getf rfl fl_History_17 hG rfl ?_
  refine zz_putf rfl fl_History_21 hG (pt_7_2 rfl rfl) (zblt rfl) ?_
  refine zz_aload_n rfl rfl ?_
  refine zz_getf rfl fl_History_11 (zset_same _ _ _) rfl ?_
  refine zz_aload_n rfl rfl ?_
  refine zz_getf rfl fl_History_17 (zset_same _ _ _) rfl ?_
  refine zz_aload_n rfl rfl ?_
  refine zz_aast rfl (Or.inr ⟨rfl, rfl⟩) rfl (show _ = some (za 4 7 (zsh pf 7)) from by rw [zset_ne (zkne hH.2 hH.1 zkao), zset_same]) (show _ = some (zo 4 fs) from by rw [zset_ne (zkne ha hH.1 (zkoo (by decide))), zset_ne (zkne ha hH.2 zkoa)]; exact ha) (by omega) (by omega) ?_
  refine zz_vret rfl rfl ⟨rfl, by rw [zset_mid h _ _ _ (zkne hH.2 hH.1 zkao)]; rfl⟩
theorem lp_removed {la na n : Nat} {pos : Int} {lf : Nat → Value} (hl : isLa h la (n + 1) lf) (hn : n ≤ 3) (hpos : zrg pos) (hna : h na = none) {MC MS mc ms : Nat} {Q : ZR → ZH → Prop} (kx : Ev Z (fun _ => True, m_TS_removed, 0, MC, MS) 39 [.ref la, zI pos, .ref na, zI n] [] (zset h na (za 3 n (zfil n (fun i : Nat => if (i : Int) < pos then lf i else lf (i + 1))))) mc ms Q) : ∀ (m : Nat) (k : Int), 0 ≤ k → k + m = (n : Nat) → Ev Z (fun _ => True, m_TS_removed, 0, MC, MS) 10 [.ref la, zI pos, .ref na, zI k] [] (zset h na (za 3 n (zfil k.toNat (fun i : Nat => if (i : Int) < pos then lf i else lf (i + 1))))) mc ms Q := by
  intro m
  induction m with
  | zero =>
    intro k hk0 hkn
    refine zz_iload_n rfl rfl ?_
    refine zz_aload_n rfl rfl ?_
    refine zz_alenA rfl (Or.inl ⟨rfl, rfl⟩) (zset_same _ _ _) ?_
    refine zz_icmp_ge rfl (by omega) (by omega) (fun hb13 => ?_) (fun hb13 => absurd hb13 (by omega))
    obtain rfl : k = ((n : Nat) : Int) := by omega
    exact kx
  | succ m ih =>
    intro k hk0 hkn
    refine zz_iload_n rfl rfl ?_
    refine zz_aload_n rfl rfl ?_
    refine zz_alenA rfl (Or.inl ⟨rfl, rfl⟩) (zset_same _ _ _) ?_
    refine zz_icmp_ge rfl (by omega) (by omega) (fun hb13 => absurd hb13 (by omega)) (fun hb13 => ?_)
    refine zz_aload_n rfl rfl ?_
    refine zz_iload_n rfl rfl ?_
    refine zz_aload_n rfl rfl ?_
    refine zz_iload_n rfl rfl ?_
    refine zz_iload_n rfl rfl ?_
    refine zz_icmp_ge rfl (by omega) (by omega) (fun hb21 => ?_) (fun hb21 => ?_)
    · skip
      refine zz_iload_n rfl rfl ?_
      refine zz_iconst rfl ?_
      refine zz_iadd rfl ?_
      refine zz_aald rfl (Or.inl ⟨rfl, rfl⟩) (zget hna hl.1) (by omega) (by omega) ?_
      obtain ⟨b0, f0, hb0, hg0⟩ := hl.2 (k + 1).toNat (by omega)
      refine zz_tv hb0 ?_
      refine zz_aast rfl (Or.inl ⟨rfl, rfl⟩) rfl (zset_same _ _ _) (zget hna hg0) (by omega) (by omega) ?_
      have hz9 : Value.ref b0 = (fun i : Nat => if (i : Int) < pos then lf i else lf (i + 1)) k.toNat := by
        show _ = if ((k.toNat : Nat) : Int) < pos then _ else _
        rw [if_neg (by omega)]
        rw [← hb0]
        congr 1
        omega
      refine zz_iinc rfl rfl rfl rfl ?_
      refine zz_goto rfl ?_
      refine Ev.heap (show _ = zset h na (za 3 n (zfil (k + 1).toNat (fun i : Nat => if (i : Int) < pos then lf i else lf (i + 1)))) from by rw [zset_set, zfil_up hk0 hz9]) ?_
      exact ih (k + 1) (by omega) (by omega)
    · skip
      refine zz_iload_n rfl rfl ?_
      refine zz_goto rfl ?_
      refine zz_aald rfl (Or.inl ⟨rfl, rfl⟩) (zget hna hl.1) (by omega) (by omega) ?_
      obtain ⟨b0, f0, hb0, hg0⟩ := hl.2 k.toNat (by omega)
      refine zz_tv hb0 ?_
      refine zz_aast rfl (Or.inl ⟨rfl, rfl⟩) rfl (zset_same _ _ _) (zget hna hg0) (by omega) (by omega) ?_
      have hz9 : Value.ref b0 = (fun i : Nat => if (i : Int) < pos then lf i else lf (i + 1)) k.toNat := by
        show _ = if ((k.toNat : Nat) : Int) < pos then _ else _
        rw [if_pos (by omega)]
        rw [← hb0]
      refine zz_iinc rfl rfl rfl rfl ?_
      refine zz_goto rfl ?_
      refine Ev.heap (show _ = zset h na (za 3 n (zfil (k + 1).toNat (fun i : Nat => if (i : Int) < pos then lf i else lf (i + 1)))) from by rw [zset_set, zfil_up hk0 hz9]) ?_
      exact ih (k + 1) (by omega) (by omega)
theorem ct_removed {la n : Nat} {pos : Int} {lf : Nat → Value} (hl : isLa h la (n + 1) lf) (hn : n ≤ 3) (hpos : zrg pos) : Ct Z m_TS_removed 0 1 3 [.ref la, zI pos] h (fun r h' => ∃ na, h na = none ∧ r = .inl (some (.ref na)) ∧ h' = zset h na (za 3 n (zfil n (fun i : Nat => if (i : Int) < pos then lf i else lf (i + 1))))) := by
  refine zct rfl (by decide) ok_TS_removed rfl rfl ?_
  refine zz_aload_n rfl rfl ?_
  refine zz_alenA rfl (Or.inl ⟨rfl, rfl⟩) hl.1 ?_
  refine zz_iconst rfl ?_
  refine zz_isub rfl ?_
  refine zz_eq (show ((n + 1 : Nat) : Int) - 1 = (n : Int) from by omega) ?_
  refine zz_newq 3 rfl (Or.inl ⟨rfl, rfl⟩) cl_TS_33 (by omega) (fun na hna => ?_)
  rw [Int.toNat_natCast, zfil_0 (fun i : Nat => if (i : Int) < pos then lf i else lf (i + 1))]
  refine zz_astore_n rfl rfl rfl ?_
  refine zz_iconst rfl ?_
  refine zz_istore_n rfl rfl rfl ?_
  refine lp_removed hl hn hpos hna ?_ n 0 (by omega) (by omega)
  refine zz_aload_n rfl rfl ?_
  refine zz_aret rfl rfl (Or.inr ⟨_, rfl⟩) (Or.inr ⟨_, rfl⟩) ⟨na, hna, rfl, rfl⟩
theorem lp_inserted {la na ad n : Nat} {pos : Int} {lf : Nat → Value} {cf : List Value} (hl : isLa h la n lf) (hn : n ≤ 3) (hpos : 0 ≤ pos ∧ pos ≤ n) (hna : h na = none) (hc : h ad = some (zo 3 cf)) {MC MS mc ms : Nat} {Q : ZR → ZH → Prop} (kx : Ev Z (fun _ => True, m_TS_inserted, 0, MC, MS) 61 [.ref la, zI pos, .ref ad, .ref na, zI ((n + 1 : Nat) : Int)] [] (zset h na (za 3 (n + 1) (zfil (n + 1) (fun i : Nat => if (i : Int) < pos then lf i else if (i : Int) = pos then .ref ad else lf (i - 1))))) mc ms Q) : ∀ (m : Nat) (k : Int), 0 ≤ k → k + m = ((n + 1) : Nat) → Ev Z (fun _ => True, m_TS_inserted, 0, MC, MS) 11 [.ref la, zI pos, .ref ad, .ref na, zI k] [] (zset h na (za 3 (n + 1) (zfil k.toNat (fun i : Nat => if (i : Int) < pos then lf i else if (i : Int) = pos then .ref ad else lf (i - 1))))) mc ms Q := by
  intro m
  induction m with
  | zero =>
    intro k hk0 hkn
    refine zz_iload rfl rfl ?_
    refine zz_aload_n rfl rfl ?_
    refine zz_alenA rfl (Or.inl ⟨rfl, rfl⟩) (zset_same _ _ _) ?_
    refine zz_icmp_ge rfl (by omega) (by omega) (fun hb15 => ?_) (fun hb15 => absurd hb15 (by omega))
    obtain rfl : k = (((n + 1) : Nat) : Int) := by omega
    exact kx
  | succ m ih =>
    intro k hk0 hkn
    refine zz_iload rfl rfl ?_
    refine zz_aload_n rfl rfl ?_
    refine zz_alenA rfl (Or.inl ⟨rfl, rfl⟩) (zset_same _ _ _) ?_
    refine zz_icmp_ge rfl (by omega) (by omega) (fun hb15 => absurd hb15 (by omega)) (fun hb15 => ?_)
    refine zz_iload rfl rfl ?_
    refine zz_iload_n rfl rfl ?_
    refine zz_icmp_ge rfl (by omega) (by omega) (fun hb21 => ?_) (fun hb21 => ?_)
    · skip
      refine zz_aload_n rfl rfl ?_
      refine zz_iload rfl rfl ?_
      refine zz_iload rfl rfl ?_
      refine zz_iload_n rfl rfl ?_
      refine zz_icmp_ne rfl (by omega) (by omega) (fun hb41 => ?_) (fun hb41 => ?_)
      · skip
        refine zz_aload_n rfl rfl ?_
        refine zz_iload rfl rfl ?_
        refine zz_iconst rfl ?_
        refine zz_isub rfl ?_
        refine zz_aald rfl (Or.inl ⟨rfl, rfl⟩) (zget hna hl.1) (by omega) (by omega) ?_
        obtain ⟨b0, f0, hb0, hg0⟩ := hl.2 (k - 1).toNat (by omega)
        refine zz_tv hb0 ?_
        refine zz_aast rfl (Or.inl ⟨rfl, rfl⟩) rfl (zset_same _ _ _) (zget hna hg0) (by omega) (by omega) ?_
        have hz9 : Value.ref b0 = (fun i : Nat => if (i : Int) < pos then lf i else if (i : Int) = pos then .ref ad else lf (i - 1)) k.toNat := by
          show _ = if ((k.toNat : Nat) : Int) < pos then _ else if ((k.toNat : Nat) : Int) = pos then _ else _
          rw [if_neg (by omega), if_neg (by omega), ← hb0]
          congr 1
          omega
        refine zz_iinc rfl rfl rfl rfl ?_
        refine zz_goto rfl ?_
        refine Ev.heap (show _ = zset h na (za 3 (n + 1) (zfil (k + 1).toNat (fun i : Nat => if (i : Int) < pos then lf i else if (i : Int) = pos then .ref ad else lf (i - 1)))) from by rw [zset_set, zfil_up hk0 hz9]) ?_
        exact ih (k + 1) (by omega) (by omega)
      · skip
        refine zz_aload_n rfl rfl ?_
        refine zz_goto rfl ?_
        refine zz_aast rfl (Or.inl ⟨rfl, rfl⟩) rfl (zset_same _ _ _) (zget hna hc) (by omega) (by omega) ?_
        have hz9 : Value.ref ad = (fun i : Nat => if (i : Int) < pos then lf i else if (i : Int) = pos then .ref ad else lf (i - 1)) k.toNat := by
          show _ = if ((k.toNat : Nat) : Int) < pos then _ else if ((k.toNat : Nat) : Int) = pos then _ else _
          rw [if_neg (by omega), if_pos (by omega)]
        refine zz_iinc rfl rfl rfl rfl ?_
        refine zz_goto rfl ?_
        refine Ev.heap (show _ = zset h na (za 3 (n + 1) (zfil (k + 1).toNat (fun i : Nat => if (i : Int) < pos then lf i else if (i : Int) = pos then .ref ad else lf (i - 1)))) from by rw [zset_set, zfil_up hk0 hz9]) ?_
        exact ih (k + 1) (by omega) (by omega)
    · skip
      refine zz_aload_n rfl rfl ?_
      refine zz_iload rfl rfl ?_
      refine zz_aload_n rfl rfl ?_
      refine zz_iload rfl rfl ?_
      refine zz_aald rfl (Or.inl ⟨rfl, rfl⟩) (zget hna hl.1) (by omega) (by omega) ?_
      obtain ⟨b0, f0, hb0, hg0⟩ := hl.2 k.toNat (by omega)
      refine zz_tv hb0 ?_
      refine zz_aast rfl (Or.inl ⟨rfl, rfl⟩) rfl (zset_same _ _ _) (zget hna hg0) (by omega) (by omega) ?_
      refine zz_goto rfl ?_
      have hz9 : Value.ref b0 = (fun i : Nat => if (i : Int) < pos then lf i else if (i : Int) = pos then .ref ad else lf (i - 1)) k.toNat := by
        show _ = if ((k.toNat : Nat) : Int) < pos then _ else _
        rw [if_pos (by omega)]
        rw [← hb0]
      refine zz_iinc rfl rfl rfl rfl ?_
      refine zz_goto rfl ?_
      refine Ev.heap (show _ = zset h na (za 3 (n + 1) (zfil (k + 1).toNat (fun i : Nat => if (i : Int) < pos then lf i else if (i : Int) = pos then .ref ad else lf (i - 1)))) from by rw [zset_set, zfil_up hk0 hz9]) ?_
      exact ih (k + 1) (by omega) (by omega)
theorem ct_inserted {la ad n : Nat} {pos : Int} {lf : Nat → Value} {cf : List Value} (hl : isLa h la n lf) (hn : n ≤ 3) (hpos : 0 ≤ pos ∧ pos ≤ n) (hc : h ad = some (zo 3 cf)) : Ct Z m_TS_inserted 0 1 4 [.ref la, zI pos, .ref ad] h (fun r h' => ∃ na, h na = none ∧ r = .inl (some (.ref na)) ∧ h' = zset h na (za 3 (n + 1) (zfil (n + 1) (fun i : Nat => if (i : Int) < pos then lf i else if (i : Int) = pos then .ref ad else lf (i - 1))))) := by
  refine zct rfl (by decide) ok_TS_inserted rfl rfl ?_
  refine zz_aload_n rfl rfl ?_
  refine zz_alenA rfl (Or.inl ⟨rfl, rfl⟩) hl.1 ?_
  refine zz_iconst rfl ?_
  refine zz_iadd rfl ?_
  refine zz_eq (show (n : Int) + 1 = ((n + 1 : Nat) : Int) from by omega) ?_
  refine zz_newq 4 rfl (Or.inl ⟨rfl, rfl⟩) cl_TS_33 (by omega) (fun na hna => ?_)
  rw [Int.toNat_natCast, zfil_0 (fun i : Nat => if (i : Int) < pos then lf i else if (i : Int) = pos then .ref ad else lf (i - 1))]
  refine zz_astore_n rfl rfl rfl ?_
  refine zz_iconst rfl ?_
  refine zz_istore rfl rfl rfl ?_
  refine lp_inserted hl hn hpos hna hc ?_ (n + 1) 0 (by omega) (by omega)
  refine zz_aload_n rfl rfl ?_
  refine zz_aret rfl rfl (Or.inr ⟨_, rfl⟩) (Or.inr ⟨_, rfl⟩) ⟨na, hna, rfl, rfl⟩
end HI
