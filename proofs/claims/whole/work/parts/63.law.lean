/-! ===== the law: what holds between two calls ===== -/
def LI (h : ZH) (x o : Nat) (A : Nat → Nat) : Prop := ∃ S X f, h = mH h A X ∧ CRep h x S ∧ mrel X S ∧ h o = some (za 2 1 f)
theorem mH_mH {h : ZH} {A : Nat → Nat} {X X' : MX} : mH h A X' = mH (mH h A X) A X' := by
  funext q
  unfold mH
  cases mwh A q <;> rfl
theorem LI.mk {h1 : ZH} {x o : Nat} {A : Nat → Nat} {X X' : MX} {S : SS} {f1 : Nat → Value} (he : h1 = mH h1 A X) (hf1 : h1 o = some (za 2 1 f1)) (hC : CRep h1 x S) (hM : mrel X' S) : LI (mH h1 A X') x o A := by
  have h2 : CRep (mH h1 A X) x S := by rw [← he]; exact hC
  have h3 : mH h1 A X o = some (za 2 1 f1) := by rw [← he]; exact hf1
  refine ⟨S, X', f1, ?_, h2.cf mH_cf, hM, mH_out h3⟩
  exact mH_mH
theorem lw_comb {h1 : ZH} {x o : Nat} {A : Nat → Nat} {X X' : MX} {S S' : SS} {G1 G2 : Prop} {k : Int} {f1 : Nat → Value} (he : h1 = mH h1 A X) (hf1 : h1 o = some (za 2 1 f1)) (hc : (¬ G1 ∧ k = 1 ∧ CRep h1 x S) ∨ (G1 ∧ ¬ G2 ∧ k = 2 ∧ CRep h1 x S) ∨ (G1 ∧ G2 ∧ k = 0 ∧ CRep h1 x S')) (hm : (¬ G1 ∧ X'.1 0 = 1 ∧ mrel X' S) ∨ (G1 ∧ ¬ G2 ∧ X'.1 0 = 2 ∧ mrel X' S) ∨ (G1 ∧ G2 ∧ X'.1 0 = 0 ∧ mrel X' S')) : X'.1 0 = k ∧ (0 ≤ k ∧ k ≤ 2) ∧ LI (mH h1 A X') x o A := by
  rcases hc with ⟨a1, rfl, a3⟩ | ⟨a1, a2, rfl, a3⟩ | ⟨a1, a2, rfl, a3⟩ <;> rcases hm with ⟨b1, b2, b3⟩ | ⟨b1, b2, b3, b4⟩ | ⟨b1, b2, b3, b4⟩
  · exact ⟨b2, by decide, LI.mk he hf1 a3 b3⟩
  · exact absurd b1 a1
  · exact absurd b1 a1
  · exact absurd a1 b1
  · exact ⟨b3, by decide, LI.mk he hf1 a3 b4⟩
  · exact absurd b2 a2
  · exact absurd a1 b1
  · exact absurd a2 b2
  · exact ⟨b3, by decide, LI.mk he hf1 a3 b4⟩
theorem zbm_id {v : Int} (h : zrg v) : v.bmod 4294967296 = v := by
  obtain ⟨h1, h2⟩ := h
  rw [Int.bmod_eq_of_le (by omega) (by omega)]
theorem lw_combI {h1 : ZH} {x o : Nat} {A : Nat → Nat} {X X' : MX} {S S' : SS} {G1 G2 : Prop} {k b v : Int} {f1 : Nat → Value} (he : h1 = mH h1 A X) (hf1 : h1 o = some (za 2 1 f1)) (hv : k = 0 → ∀ w, some v = some w → f1 0 = zJ (w.bmod 4294967296)) (hb : zrg b) (hc : (¬ G1 ∧ k = 1 ∧ CRep h1 x S) ∨ (G1 ∧ ¬ G2 ∧ k = 2 ∧ CRep h1 x S) ∨ (G1 ∧ G2 ∧ k = 0 ∧ CRep h1 x S')) (hm : (¬ G1 ∧ X'.1 0 = 1 ∧ mrel X' S) ∨ (G1 ∧ ¬ G2 ∧ X'.1 0 = 2 ∧ mrel X' S) ∨ (G1 ∧ G2 ∧ X'.1 0 = 0 ∧ b = v ∧ mrel X' S')) : X'.1 0 = k ∧ (0 ≤ k ∧ k ≤ 2) ∧ LI (mH h1 A X') x o A ∧ (k = 0 → f1 0 = zJ b) := by
  have h9 := lw_comb he hf1 hc (hm.imp id (Or.imp id (fun h => ⟨h.1, h.2.1, h.2.2.1, h.2.2.2.2⟩)))
  refine ⟨h9.1, h9.2.1, h9.2.2, fun hk => ?_⟩
  rcases hm with ⟨b1, b2, b3⟩ | ⟨b1, b2, b3, b4⟩ | ⟨b1, b2, b3, rfl, b5⟩
  · have := h9.1; omega
  · have := h9.1; omega
  · rw [hv hk _ rfl, zbm_id hb]
theorem sc_rg (v : Int32) : zrg v.toInt := by
  have h1 := Int32.le_toInt v
  have h2 := Int32.toInt_lt v
  exact ⟨by omega, by omega⟩
section LAW
variable {Z : ZC} {h : ZH}
theorem lw_c0 {b n : Nat} {xs : Nat → Int32} {x o : Nat} {A : Nat → Nat} {i : Nat} {MC MS mc ms : Nat} {Q : ZR → ZH → Prop} (hA : mOk A) (hn : (n : Int) ≤ 3072) (hi : i + 6 ≤ n) (hL : LI h x o A) (kx : ∀ h', LI h' x o A → Ev Z (lwEx b n Z.2.2.2 xs, m_L_law, 10, MC, MS) 1507 [.ref b, .ref x, .ref (A 0), .ref o, zI (i : Nat)] [] h' mc ms Q) : Ev Z (lwEx b n Z.2.2.2 xs, m_L_law, 10, MC, MS) 152 [.ref b, .ref x, .ref (A 0), .ref o, zI (i : Nat)] [] h (mc + 20) (ms + 4000) Q := by
  obtain ⟨S, X, f, he, hC, hM, ho⟩ := hL
  have hk := hC.oks
  obtain ⟨hi9, pa9, pf9, fv9, cv9, hCR⟩ := id hC
  have hx := hCR.1
  obtain ⟨s1, e1⟩ : ∃ z, (xs ((i : Int) + 1).toNat).toInt = z := ⟨_, rfl⟩
  have r1 : zrg s1 := e1 ▸ sc_rg _
  obtain ⟨s2, e2⟩ : ∃ z, (xs ((i : Int) + 2).toNat).toInt = z := ⟨_, rfl⟩
  have r2 : zrg s2 := e2 ▸ sc_rg _
  refine zz_aload_n rfl rfl ?_
  refine zz_aload_n rfl rfl ?_
  refine zz_iload rfl rfl ?_
  refine zz_iconst rfl ?_
  refine zz_iadd rfl ?_
  refine zz_sld rfl rfl (by omega) ⟨by omega, by omega⟩ ?_
  refine zz_eq e1 ?_
  refine zz_aload_n rfl rfl ?_
  refine zz_iload rfl rfl ?_
  refine zz_iconst rfl ?_
  refine zz_iadd rfl ?_
  refine zz_sld rfl rfl (by omega) ⟨by omega, by omega⟩ ?_
  refine zz_eq e2 ?_
  refine zz_SW rfl lk_L_93 cw_L_make (fun _ _ => wk.no) (ct_L_make hx ho (fc_make (w := s1) (e := s2) hC r1 r2)) rfl rfl rfl rfl ?_
  rintro _ h1 ⟨k, rfl, hfo, ⟨f1, ho1, hv1⟩, hcs⟩
  have he1 := mH_fr hA he hfo ho
  refine zaft_v ?_
  refine Ev.heap he1 ?_
  refine zz_istore rfl rfl rfl ?_
  refine zz_aload_n rfl rfl ?_
  refine zz_aload_n rfl rfl ?_
  refine zz_iload rfl rfl ?_
  refine zz_iconst rfl ?_
  refine zz_iadd rfl ?_
  refine zz_sld rfl rfl (by omega) ⟨by omega, by omega⟩ ?_
  refine zz_eq e1 ?_
  refine zz_aload_n rfl rfl ?_
  refine zz_iload rfl rfl ?_
  refine zz_iconst rfl ?_
  refine zz_iadd rfl ?_
  refine zz_sld rfl rfl (by omega) ⟨by omega, by omega⟩ ?_
  refine zz_eq e2 ?_
  refine zz_V rfl lk_L_98 cw_M_make rfl (m0 hA) (md_make (w := s1) (e := s2) hA hM hk r1 r2) rfl rfl rfl rfl ?_
  rintro _ _ ⟨rfl, X', rfl, hmc⟩
  obtain ⟨hkc, hkr, hLI⟩ := lw_comb he1 ho1 hcs hmc
  refine zaft_u ?_
  refine zz_aload_n rfl rfl ?_
  refine zz_Vp rfl lk_L_99 cw_M_thrown rfl (m0 hA) (ct_Mthrown hA) rfl rfl rfl rfl ?_
  refine zz_iload rfl rfl ?_
  refine zz_icmp_eq rfl ⟨by omega, by omega⟩ ⟨by omega, by omega⟩ (fun hb192 => ?_) (fun hb192 => absurd hb192 (fun h9 => h9 hkc))
  refine zz_goto rfl ?_
  refine Ev.take 5 ?_
  exact kx _ hLI
theorem lw_c1 {b n : Nat} {xs : Nat → Int32} {x o : Nat} {A : Nat → Nat} {i : Nat} {MC MS mc ms : Nat} {Q : ZR → ZH → Prop} (hA : mOk A) (hn : (n : Int) ≤ 3072) (hi : i + 6 ≤ n) (hL : LI h x o A) (kx : ∀ h', LI h' x o A → Ev Z (lwEx b n Z.2.2.2 xs, m_L_law, 10, MC, MS) 1507 [.ref b, .ref x, .ref (A 0), .ref o, zI (i : Nat)] [] h' mc ms Q) : Ev Z (lwEx b n Z.2.2.2 xs, m_L_law, 10, MC, MS) 200 [.ref b, .ref x, .ref (A 0), .ref o, zI (i : Nat)] [] h (mc + 20) (ms + 4000) Q := by
  obtain ⟨S, X, f, he, hC, hM, ho⟩ := hL
  have hk := hC.oks
  obtain ⟨hi9, pa9, pf9, fv9, cv9, hCR⟩ := id hC
  have hx := hCR.1
  obtain ⟨s1, e1⟩ : ∃ z, (xs ((i : Int) + 1).toNat).toInt = z := ⟨_, rfl⟩
  have r1 : zrg s1 := e1 ▸ sc_rg _
  refine zz_aload_n rfl rfl ?_
  refine zz_aload_n rfl rfl ?_
  refine zz_iload rfl rfl ?_
  refine zz_iconst rfl ?_
  refine zz_iadd rfl ?_
  refine zz_sld rfl rfl (by omega) ⟨by omega, by omega⟩ ?_
  refine zz_eq e1 ?_
  refine zz_SW rfl lk_L_103 cw_L_layer (fun _ _ => wk.no) (ct_L_layer hx ho (fc_layer (l := s1) hC r1)) rfl rfl rfl rfl ?_
  rintro _ h1 ⟨k, rfl, hfo, ⟨f1, ho1, hv1⟩, hcs⟩
  have he1 := mH_fr hA he hfo ho
  refine zaft_v ?_
  refine Ev.heap he1 ?_
  refine zz_istore rfl rfl rfl ?_
  refine zz_aload_n rfl rfl ?_
  refine zz_aload_n rfl rfl ?_
  refine zz_iload rfl rfl ?_
  refine zz_iconst rfl ?_
  refine zz_iadd rfl ?_
  refine zz_sld rfl rfl (by omega) ⟨by omega, by omega⟩ ?_
  refine zz_eq e1 ?_
  refine zz_V rfl lk_L_106 cw_M_layer rfl (m0 hA) (md_layer (l := s1) hA hM hk r1) rfl rfl rfl rfl ?_
  rintro _ _ ⟨rfl, X', rfl, hmc⟩
  obtain ⟨hkc, hkr, hLI⟩ := lw_comb he1 ho1 hcs hmc
  refine zaft_u ?_
  refine zz_aload_n rfl rfl ?_
  refine zz_Vp rfl lk_L_99 cw_M_thrown rfl (m0 hA) (ct_Mthrown hA) rfl rfl rfl rfl ?_
  refine zz_iload rfl rfl ?_
  refine zz_icmp_eq rfl ⟨by omega, by omega⟩ ⟨by omega, by omega⟩ (fun hb228 => ?_) (fun hb228 => absurd hb228 (fun h9 => h9 hkc))
  refine zz_goto rfl ?_
  refine Ev.take 5 ?_
  exact kx _ hLI
theorem lw_c2 {b n : Nat} {xs : Nat → Int32} {x o : Nat} {A : Nat → Nat} {i : Nat} {MC MS mc ms : Nat} {Q : ZR → ZH → Prop} (hA : mOk A) (hn : (n : Int) ≤ 3072) (hi : i + 6 ≤ n) (hL : LI h x o A) (kx : ∀ h', LI h' x o A → Ev Z (lwEx b n Z.2.2.2 xs, m_L_law, 10, MC, MS) 1507 [.ref b, .ref x, .ref (A 0), .ref o, zI (i : Nat)] [] h' mc ms Q) : Ev Z (lwEx b n Z.2.2.2 xs, m_L_law, 10, MC, MS) 236 [.ref b, .ref x, .ref (A 0), .ref o, zI (i : Nat)] [] h (mc + 20) (ms + 4000) Q := by
  obtain ⟨S, X, f, he, hC, hM, ho⟩ := hL
  have hk := hC.oks
  obtain ⟨hi9, pa9, pf9, fv9, cv9, hCR⟩ := id hC
  have hx := hCR.1
  obtain ⟨s1, e1⟩ : ∃ z, (xs ((i : Int) + 1).toNat).toInt = z := ⟨_, rfl⟩
  have r1 : zrg s1 := e1 ▸ sc_rg _
  refine zz_aload_n rfl rfl ?_
  refine zz_aload_n rfl rfl ?_
  refine zz_iload rfl rfl ?_
  refine zz_iconst rfl ?_
  refine zz_iadd rfl ?_
  refine zz_sld rfl rfl (by omega) ⟨by omega, by omega⟩ ?_
  refine zz_eq e1 ?_
  refine zz_SW rfl lk_L_107 cw_L_drop (fun _ _ => wk.no) (ct_L_drop hx ho (fc_drop (l := s1) hC r1)) rfl rfl rfl rfl ?_
  rintro _ h1 ⟨k, rfl, hfo, ⟨f1, ho1, hv1⟩, hcs⟩
  have he1 := mH_fr hA he hfo ho
  refine zaft_v ?_
  refine Ev.heap he1 ?_
  refine zz_istore rfl rfl rfl ?_
  refine zz_aload_n rfl rfl ?_
  refine zz_aload_n rfl rfl ?_
  refine zz_iload rfl rfl ?_
  refine zz_iconst rfl ?_
  refine zz_iadd rfl ?_
  refine zz_sld rfl rfl (by omega) ⟨by omega, by omega⟩ ?_
  refine zz_eq e1 ?_
  refine zz_V rfl lk_L_109 cw_M_drop rfl (m0 hA) (md_drop (l := s1) hA hM hk r1) rfl rfl rfl rfl ?_
  rintro _ _ ⟨rfl, X', rfl, hmc⟩
  obtain ⟨hkc, hkr, hLI⟩ := lw_comb he1 ho1 hcs hmc
  refine zaft_u ?_
  refine zz_aload_n rfl rfl ?_
  refine zz_Vp rfl lk_L_99 cw_M_thrown rfl (m0 hA) (ct_Mthrown hA) rfl rfl rfl rfl ?_
  refine zz_iload rfl rfl ?_
  refine zz_icmp_eq rfl ⟨by omega, by omega⟩ ⟨by omega, by omega⟩ (fun hb264 => ?_) (fun hb264 => absurd hb264 (fun h9 => h9 hkc))
  refine zz_goto rfl ?_
  refine Ev.take 5 ?_
  exact kx _ hLI
theorem lw_c3 {b n : Nat} {xs : Nat → Int32} {x o : Nat} {A : Nat → Nat} {i : Nat} {MC MS mc ms : Nat} {Q : ZR → ZH → Prop} (hA : mOk A) (hn : (n : Int) ≤ 3072) (hi : i + 6 ≤ n) (hL : LI h x o A) (kx : ∀ h', LI h' x o A → Ev Z (lwEx b n Z.2.2.2 xs, m_L_law, 10, MC, MS) 1507 [.ref b, .ref x, .ref (A 0), .ref o, zI (i : Nat)] [] h' mc ms Q) : Ev Z (lwEx b n Z.2.2.2 xs, m_L_law, 10, MC, MS) 272 [.ref b, .ref x, .ref (A 0), .ref o, zI (i : Nat)] [] h (mc + 20) (ms + 4000) Q := by
  obtain ⟨S, X, f, he, hC, hM, ho⟩ := hL
  have hk := hC.oks
  obtain ⟨hi9, pa9, pf9, fv9, cv9, hCR⟩ := id hC
  have hx := hCR.1
  obtain ⟨s1, e1⟩ : ∃ z, (xs ((i : Int) + 1).toNat).toInt = z := ⟨_, rfl⟩
  have r1 : zrg s1 := e1 ▸ sc_rg _
  obtain ⟨s2, e2⟩ : ∃ z, (xs ((i : Int) + 2).toNat).toInt = z := ⟨_, rfl⟩
  have r2 : zrg s2 := e2 ▸ sc_rg _
  refine zz_aload_n rfl rfl ?_
  refine zz_aload_n rfl rfl ?_
  refine zz_iload rfl rfl ?_
  refine zz_iconst rfl ?_
  refine zz_iadd rfl ?_
  refine zz_sld rfl rfl (by omega) ⟨by omega, by omega⟩ ?_
  refine zz_eq e1 ?_
  refine zz_aload_n rfl rfl ?_
  refine zz_iload rfl rfl ?_
  refine zz_iconst rfl ?_
  refine zz_iadd rfl ?_
  refine zz_sld rfl rfl (by omega) ⟨by omega, by omega⟩ ?_
  refine zz_eq e2 ?_
  refine zz_SW rfl lk_L_110 cw_L_move (fun _ _ => wk.no) (ct_L_move hx ho (fc_move (l := s1) (t := s2) hC r1 r2)) rfl rfl rfl rfl ?_
  rintro _ h1 ⟨k, rfl, hfo, ⟨f1, ho1, hv1⟩, hcs⟩
  have he1 := mH_fr hA he hfo ho
  refine zaft_v ?_
  refine Ev.heap he1 ?_
  refine zz_istore rfl rfl rfl ?_
  refine zz_aload_n rfl rfl ?_
  refine zz_aload_n rfl rfl ?_
  refine zz_iload rfl rfl ?_
  refine zz_iconst rfl ?_
  refine zz_iadd rfl ?_
  refine zz_sld rfl rfl (by omega) ⟨by omega, by omega⟩ ?_
  refine zz_eq e1 ?_
  refine zz_aload_n rfl rfl ?_
  refine zz_iload rfl rfl ?_
  refine zz_iconst rfl ?_
  refine zz_iadd rfl ?_
  refine zz_sld rfl rfl (by omega) ⟨by omega, by omega⟩ ?_
  refine zz_eq e2 ?_
  refine zz_V rfl lk_L_112 cw_M_move rfl (m0 hA) (md_move (l := s1) (t := s2) hA hM hk r1 r2) rfl rfl rfl rfl ?_
  rintro _ _ ⟨rfl, X', rfl, hmc⟩
  obtain ⟨hkc, hkr, hLI⟩ := lw_comb he1 ho1 hcs hmc
  refine zaft_u ?_
  refine zz_aload_n rfl rfl ?_
  refine zz_Vp rfl lk_L_99 cw_M_thrown rfl (m0 hA) (ct_Mthrown hA) rfl rfl rfl rfl ?_
  refine zz_iload rfl rfl ?_
  refine zz_icmp_eq rfl ⟨by omega, by omega⟩ ⟨by omega, by omega⟩ (fun hb312 => ?_) (fun hb312 => absurd hb312 (fun h9 => h9 hkc))
  refine zz_goto rfl ?_
  refine Ev.take 5 ?_
  exact kx _ hLI
theorem lw_c4 {b n : Nat} {xs : Nat → Int32} {x o : Nat} {A : Nat → Nat} {i : Nat} {MC MS mc ms : Nat} {Q : ZR → ZH → Prop} (hA : mOk A) (hn : (n : Int) ≤ 3072) (hi : i + 6 ≤ n) (hL : LI h x o A) (kx : ∀ h', LI h' x o A → Ev Z (lwEx b n Z.2.2.2 xs, m_L_law, 10, MC, MS) 1507 [.ref b, .ref x, .ref (A 0), .ref o, zI (i : Nat)] [] h' mc ms Q) : Ev Z (lwEx b n Z.2.2.2 xs, m_L_law, 10, MC, MS) 320 [.ref b, .ref x, .ref (A 0), .ref o, zI (i : Nat)] [] h (mc + 20) (ms + 4000) Q := by
  obtain ⟨S, X, f, he, hC, hM, ho⟩ := hL
  have hk := hC.oks
  obtain ⟨hi9, pa9, pf9, fv9, cv9, hCR⟩ := id hC
  have hx := hCR.1
  obtain ⟨s1, e1⟩ : ∃ z, (xs ((i : Int) + 1).toNat).toInt = z := ⟨_, rfl⟩
  have r1 : zrg s1 := e1 ▸ sc_rg _
  obtain ⟨s2, e2⟩ : ∃ z, (xs ((i : Int) + 2).toNat).toInt = z := ⟨_, rfl⟩
  have r2 : zrg s2 := e2 ▸ sc_rg _
  obtain ⟨s3, e3⟩ : ∃ z, (xs ((i : Int) + 3).toNat).toInt = z := ⟨_, rfl⟩
  have r3 : zrg s3 := e3 ▸ sc_rg _
  obtain ⟨s4, e4⟩ : ∃ z, (xs ((i : Int) + 4).toNat).toInt = z := ⟨_, rfl⟩
  have r4 : zrg s4 := e4 ▸ sc_rg _
  refine zz_aload_n rfl rfl ?_
  refine zz_aload_n rfl rfl ?_
  refine zz_iload rfl rfl ?_
  refine zz_iconst rfl ?_
  refine zz_iadd rfl ?_
  refine zz_sld rfl rfl (by omega) ⟨by omega, by omega⟩ ?_
  refine zz_eq e1 ?_
  refine zz_aload_n rfl rfl ?_
  refine zz_iload rfl rfl ?_
  refine zz_iconst rfl ?_
  refine zz_iadd rfl ?_
  refine zz_sld rfl rfl (by omega) ⟨by omega, by omega⟩ ?_
  refine zz_eq e2 ?_
  refine zz_aload_n rfl rfl ?_
  refine zz_iload rfl rfl ?_
  refine zz_iconst rfl ?_
  refine zz_iadd rfl ?_
  refine zz_sld rfl rfl (by omega) ⟨by omega, by omega⟩ ?_
  refine zz_eq e3 ?_
  refine zz_aload_n rfl rfl ?_
  refine zz_iload rfl rfl ?_
  refine zz_iconst rfl ?_
  refine zz_iadd rfl ?_
  refine zz_sld rfl rfl (by omega) ⟨by omega, by omega⟩ ?_
  refine zz_eq e4 ?_
  refine zz_if_eq rfl r4 (fun hb345 => ?_) (fun hb345 => ?_)
  · skip
    refine zz_iconst rfl ?_
    refine zz_SW rfl lk_L_113 cw_L_mode (fun _ _ => wk.no) (ct_L_mode hx ho (fc_mode (l := s1) (m := s2) (op := s3) (v := (0 : Int)) hC r1 r2 r3 (by decide))) rfl rfl rfl rfl ?_
    rintro _ h1 ⟨k, rfl, hfo, ⟨f1, ho1, hv1⟩, hcs⟩
    have he1 := mH_fr hA he hfo ho
    refine zaft_v ?_
    refine Ev.heap he1 ?_
    refine zz_istore rfl rfl rfl ?_
    refine zz_aload_n rfl rfl ?_
    refine zz_aload_n rfl rfl ?_
    refine zz_iload rfl rfl ?_
    refine zz_iconst rfl ?_
    refine zz_iadd rfl ?_
    refine zz_sld rfl rfl (by omega) ⟨by omega, by omega⟩ ?_
    refine zz_eq e1 ?_
    refine zz_aload_n rfl rfl ?_
    refine zz_iload rfl rfl ?_
    refine zz_iconst rfl ?_
    refine zz_iadd rfl ?_
    refine zz_sld rfl rfl (by omega) ⟨by omega, by omega⟩ ?_
    refine zz_eq e2 ?_
    refine zz_aload_n rfl rfl ?_
    refine zz_iload rfl rfl ?_
    refine zz_iconst rfl ?_
    refine zz_iadd rfl ?_
    refine zz_sld rfl rfl (by omega) ⟨by omega, by omega⟩ ?_
    refine zz_eq e3 ?_
    refine zz_aload_n rfl rfl ?_
    refine zz_iload rfl rfl ?_
    refine zz_iconst rfl ?_
    refine zz_iadd rfl ?_
    refine zz_sld rfl rfl (by omega) ⟨by omega, by omega⟩ ?_
    refine zz_eq e4 ?_
    refine zz_if_eq rfl r4 (fun hb383 => ?_) (fun hb383 => absurd hb383 (fun h9 => h9 hb345))
    refine zz_iconst rfl ?_
    refine zz_V rfl lk_L_116 cw_M_mode rfl (m0 hA) (md_mode (l := s1) (m := s2) (op := s3) (v := (0 : Int)) hA hM hk r1 r2 r3 (by decide)) rfl rfl rfl rfl ?_
    rintro _ _ ⟨rfl, X', rfl, hmc⟩
    obtain ⟨hkc, hkr, hLI⟩ := lw_comb he1 ho1 hcs hmc
    refine zaft_u ?_
    refine zz_aload_n rfl rfl ?_
    refine zz_Vp rfl lk_L_99 cw_M_thrown rfl (m0 hA) (ct_Mthrown hA) rfl rfl rfl rfl ?_
    refine zz_iload rfl rfl ?_
    refine zz_icmp_eq rfl ⟨by omega, by omega⟩ ⟨by omega, by omega⟩ (fun hb400 => ?_) (fun hb400 => absurd hb400 (fun h9 => h9 hkc))
    refine zz_goto rfl ?_
    refine Ev.take 5 ?_
    exact kx _ hLI
  · skip
    refine zz_iconst rfl ?_
    refine zz_goto rfl ?_
    refine zz_SW rfl lk_L_113 cw_L_mode (fun _ _ => wk.no) (ct_L_mode hx ho (fc_mode (l := s1) (m := s2) (op := s3) (v := (1 : Int)) hC r1 r2 r3 (by decide))) rfl rfl rfl rfl ?_
    rintro _ h1 ⟨k, rfl, hfo, ⟨f1, ho1, hv1⟩, hcs⟩
    have he1 := mH_fr hA he hfo ho
    refine zaft_v ?_
    refine Ev.heap he1 ?_
    refine zz_istore rfl rfl rfl ?_
    refine zz_aload_n rfl rfl ?_
    refine zz_aload_n rfl rfl ?_
    refine zz_iload rfl rfl ?_
    refine zz_iconst rfl ?_
    refine zz_iadd rfl ?_
    refine zz_sld rfl rfl (by omega) ⟨by omega, by omega⟩ ?_
    refine zz_eq e1 ?_
    refine zz_aload_n rfl rfl ?_
    refine zz_iload rfl rfl ?_
    refine zz_iconst rfl ?_
    refine zz_iadd rfl ?_
    refine zz_sld rfl rfl (by omega) ⟨by omega, by omega⟩ ?_
    refine zz_eq e2 ?_
    refine zz_aload_n rfl rfl ?_
    refine zz_iload rfl rfl ?_
    refine zz_iconst rfl ?_
    refine zz_iadd rfl ?_
    refine zz_sld rfl rfl (by omega) ⟨by omega, by omega⟩ ?_
    refine zz_eq e3 ?_
    refine zz_aload_n rfl rfl ?_
    refine zz_iload rfl rfl ?_
    refine zz_iconst rfl ?_
    refine zz_iadd rfl ?_
    refine zz_sld rfl rfl (by omega) ⟨by omega, by omega⟩ ?_
    refine zz_eq e4 ?_
    refine zz_if_eq rfl r4 (fun hb383 => absurd hb383 hb345) (fun hb383 => ?_)
    refine zz_iconst rfl ?_
    refine zz_goto rfl ?_
    refine zz_V rfl lk_L_116 cw_M_mode rfl (m0 hA) (md_mode (l := s1) (m := s2) (op := s3) (v := (1 : Int)) hA hM hk r1 r2 r3 (by decide)) rfl rfl rfl rfl ?_
    rintro _ _ ⟨rfl, X', rfl, hmc⟩
    obtain ⟨hkc, hkr, hLI⟩ := lw_comb he1 ho1 hcs hmc
    refine zaft_u ?_
    refine zz_aload_n rfl rfl ?_
    refine zz_Vp rfl lk_L_99 cw_M_thrown rfl (m0 hA) (ct_Mthrown hA) rfl rfl rfl rfl ?_
    refine zz_iload rfl rfl ?_
    refine zz_icmp_eq rfl ⟨by omega, by omega⟩ ⟨by omega, by omega⟩ (fun hb400 => ?_) (fun hb400 => absurd hb400 (fun h9 => h9 hkc))
    refine zz_goto rfl ?_
    refine Ev.take 5 ?_
    exact kx _ hLI
theorem lw_c5 {b n : Nat} {xs : Nat → Int32} {x o : Nat} {A : Nat → Nat} {i : Nat} {MC MS mc ms : Nat} {Q : ZR → ZH → Prop} (hA : mOk A) (hn : (n : Int) ≤ 3072) (hi : i + 6 ≤ n) (hL : LI h x o A) (kx : ∀ h', LI h' x o A → Ev Z (lwEx b n Z.2.2.2 xs, m_L_law, 10, MC, MS) 1507 [.ref b, .ref x, .ref (A 0), .ref o, zI (i : Nat)] [] h' mc ms Q) : Ev Z (lwEx b n Z.2.2.2 xs, m_L_law, 10, MC, MS) 408 [.ref b, .ref x, .ref (A 0), .ref o, zI (i : Nat)] [] h (mc + 20) (ms + 4000) Q := by
  obtain ⟨S, X, f, he, hC, hM, ho⟩ := hL
  have hk := hC.oks
  obtain ⟨hi9, pa9, pf9, fv9, cv9, hCR⟩ := id hC
  have hx := hCR.1
  obtain ⟨s1, e1⟩ : ∃ z, (xs ((i : Int) + 1).toNat).toInt = z := ⟨_, rfl⟩
  have r1 : zrg s1 := e1 ▸ sc_rg _
  obtain ⟨s2, e2⟩ : ∃ z, (xs ((i : Int) + 2).toNat).toInt = z := ⟨_, rfl⟩
  have r2 : zrg s2 := e2 ▸ sc_rg _
  obtain ⟨s3, e3⟩ : ∃ z, (xs ((i : Int) + 3).toNat).toInt = z := ⟨_, rfl⟩
  have r3 : zrg s3 := e3 ▸ sc_rg _
  obtain ⟨s4, e4⟩ : ∃ z, (xs ((i : Int) + 4).toNat).toInt = z := ⟨_, rfl⟩
  have r4 : zrg s4 := e4 ▸ sc_rg _
  refine zz_aload_n rfl rfl ?_
  refine zz_aload_n rfl rfl ?_
  refine zz_iload rfl rfl ?_
  refine zz_iconst rfl ?_
  refine zz_iadd rfl ?_
  refine zz_sld rfl rfl (by omega) ⟨by omega, by omega⟩ ?_
  refine zz_eq e1 ?_
  refine zz_aload_n rfl rfl ?_
  refine zz_iload rfl rfl ?_
  refine zz_iconst rfl ?_
  refine zz_iadd rfl ?_
  refine zz_sld rfl rfl (by omega) ⟨by omega, by omega⟩ ?_
  refine zz_eq e2 ?_
  refine zz_aload_n rfl rfl ?_
  refine zz_iload rfl rfl ?_
  refine zz_iconst rfl ?_
  refine zz_iadd rfl ?_
  refine zz_sld rfl rfl (by omega) ⟨by omega, by omega⟩ ?_
  refine zz_eq e3 ?_
  refine zz_aload_n rfl rfl ?_
  refine zz_iload rfl rfl ?_
  refine zz_iconst rfl ?_
  refine zz_iadd rfl ?_
  refine zz_sld rfl rfl (by omega) ⟨by omega, by omega⟩ ?_
  refine zz_eq e4 ?_
  refine zz_aload_n rfl rfl ?_
  refine zz_SW rfl lk_L_117 cw_L_select (fun _ _ => wk.no) (ct_L_select hx ho (fc_sel (kd := s1) (x1 := s2) (y1 := s3) (sz := s4) hC r1 r2 r3)) rfl rfl rfl rfl ?_
  rintro _ h1 ⟨k, rfl, hfo, ⟨f1, ho1, hv1⟩, hcs⟩
  have he1 := mH_fr hA he hfo ho
  refine zaft_v ?_
  refine Ev.heap he1 ?_
  refine zz_istore rfl rfl rfl ?_
  refine zz_aload_n rfl rfl ?_
  refine zz_aload_n rfl rfl ?_
  refine zz_iload rfl rfl ?_
  refine zz_iconst rfl ?_
  refine zz_iadd rfl ?_
  refine zz_sld rfl rfl (by omega) ⟨by omega, by omega⟩ ?_
  refine zz_eq e1 ?_
  refine zz_aload_n rfl rfl ?_
  refine zz_iload rfl rfl ?_
  refine zz_iconst rfl ?_
  refine zz_iadd rfl ?_
  refine zz_sld rfl rfl (by omega) ⟨by omega, by omega⟩ ?_
  refine zz_eq e2 ?_
  refine zz_aload_n rfl rfl ?_
  refine zz_iload rfl rfl ?_
  refine zz_iconst rfl ?_
  refine zz_iadd rfl ?_
  refine zz_sld rfl rfl (by omega) ⟨by omega, by omega⟩ ?_
  refine zz_eq e3 ?_
  refine zz_aload_n rfl rfl ?_
  refine zz_iload rfl rfl ?_
  refine zz_iconst rfl ?_
  refine zz_iadd rfl ?_
  refine zz_sld rfl rfl (by omega) ⟨by omega, by omega⟩ ?_
  refine zz_eq e4 ?_
  refine zz_V rfl lk_L_120 cw_M_select rfl (m0 hA) (md_sel (kd := s1) (x1 := s2) (y1 := s3) (sz := s4) hA hM hk r1 r2 r3) rfl rfl rfl rfl ?_
  rintro _ _ ⟨bb, rfl, hbr, X', rfl, hmc⟩
  obtain ⟨hkc, hkr, hLI, hkb⟩ := lw_combI he1 ho1 hv1 hbr hcs hmc
  have ho2 : mH h1 A X' o = some (za 2 1 f1) := mH_out (X := X) (by rw [← he1]; exact ho1)
  refine zaft_v ?_
  refine zz_istore rfl rfl rfl ?_
  refine zz_aload_n rfl rfl ?_
  refine zz_Vp rfl lk_L_99 cw_M_thrown rfl (m0 hA) (ct_Mthrown hA) rfl rfl rfl rfl ?_
  refine zz_iload rfl rfl ?_
  refine zz_icmp_eq rfl ⟨by omega, by omega⟩ ⟨by omega, by omega⟩ (fun hb475 => ?_) (fun hb475 => absurd hb475 (fun h9 => h9 hkc))
  refine zz_iload rfl rfl ?_
  refine zz_if_ne rfl ⟨by omega, by omega⟩ (fun hb482 => ?_) (fun hb482 => ?_)
  · skip
    refine zz_goto rfl ?_
    refine Ev.take 5 ?_
    exact kx _ hLI
  · skip
    refine zz_aload_n rfl rfl ?_
    refine zz_iconst rfl ?_
    refine zz_lald rfl ho2 (by decide) ⟨by decide, by decide⟩ ?_
    refine zz_tv (show _ = zJ bb from hkb hb482) ?_
    refine zz_iload rfl rfl ?_
    refine zz_i2l rfl hbr ?_
    refine zz_lcmp rfl ⟨by have := hbr.1; omega, by have := hbr.2; omega⟩ ⟨by have := hbr.1; omega, by have := hbr.2; omega⟩ ?_
    refine zz_eq (show _ = (0 : Int) from by rw [if_neg (Int.lt_irrefl bb), if_pos rfl]) ?_
    refine zz_if_eq rfl ⟨by decide, by decide⟩ (fun hb492 => ?_) (fun hb492 => absurd hb492 (by decide))
    refine zz_goto rfl ?_
    refine Ev.take 5 ?_
    exact kx _ hLI
theorem lw_c6 {b n : Nat} {xs : Nat → Int32} {x o : Nat} {A : Nat → Nat} {i : Nat} {MC MS mc ms : Nat} {Q : ZR → ZH → Prop} (hA : mOk A) (hn : (n : Int) ≤ 3072) (hi : i + 6 ≤ n) (hL : LI h x o A) (kx : ∀ h', LI h' x o A → Ev Z (lwEx b n Z.2.2.2 xs, m_L_law, 10, MC, MS) 1507 [.ref b, .ref x, .ref (A 0), .ref o, zI (i : Nat)] [] h' mc ms Q) : Ev Z (lwEx b n Z.2.2.2 xs, m_L_law, 10, MC, MS) 500 [.ref b, .ref x, .ref (A 0), .ref o, zI (i : Nat)] [] h (mc + 20) (ms + 4000) Q := by
  obtain ⟨S, X, f, he, hC, hM, ho⟩ := hL
  have hk := hC.oks
  obtain ⟨hi9, pa9, pf9, fv9, cv9, hCR⟩ := id hC
  have hx := hCR.1
  obtain ⟨s1, e1⟩ : ∃ z, (xs ((i : Int) + 1).toNat).toInt = z := ⟨_, rfl⟩
  have r1 : zrg s1 := e1 ▸ sc_rg _
  obtain ⟨s2, e2⟩ : ∃ z, (xs ((i : Int) + 2).toNat).toInt = z := ⟨_, rfl⟩
  have r2 : zrg s2 := e2 ▸ sc_rg _
  refine zz_aload_n rfl rfl ?_
  refine zz_aload_n rfl rfl ?_
  refine zz_iload rfl rfl ?_
  refine zz_iconst rfl ?_
  refine zz_iadd rfl ?_
  refine zz_sld rfl rfl (by omega) ⟨by omega, by omega⟩ ?_
  refine zz_eq e1 ?_
  refine zz_aload_n rfl rfl ?_
  refine zz_iload rfl rfl ?_
  refine zz_iconst rfl ?_
  refine zz_iadd rfl ?_
  refine zz_sld rfl rfl (by omega) ⟨by omega, by omega⟩ ?_
  refine zz_eq e2 ?_
  refine zz_SW rfl lk_L_121 cw_L_brush (fun _ _ => wk.no) (ct_L_brush hx ho (fc_brush (d := s1) (r := s2) hC r1 r2)) rfl rfl rfl rfl ?_
  rintro _ h1 ⟨k, rfl, hfo, ⟨f1, ho1, hv1⟩, hcs⟩
  have he1 := mH_fr hA he hfo ho
  refine zaft_v ?_
  refine Ev.heap he1 ?_
  refine zz_istore rfl rfl rfl ?_
  refine zz_aload_n rfl rfl ?_
  refine zz_aload_n rfl rfl ?_
  refine zz_iload rfl rfl ?_
  refine zz_iconst rfl ?_
  refine zz_iadd rfl ?_
  refine zz_sld rfl rfl (by omega) ⟨by omega, by omega⟩ ?_
  refine zz_eq e1 ?_
  refine zz_aload_n rfl rfl ?_
  refine zz_iload rfl rfl ?_
  refine zz_iconst rfl ?_
  refine zz_iadd rfl ?_
  refine zz_sld rfl rfl (by omega) ⟨by omega, by omega⟩ ?_
  refine zz_eq e2 ?_
  refine zz_V rfl lk_L_123 cw_M_brush rfl (m0 hA) (md_brush (d := s1) (r := s2) hA hM hk r2) rfl rfl rfl rfl ?_
  rintro _ _ ⟨rfl, X', rfl, hmc⟩
  obtain ⟨hkc, hkr, hLI⟩ := lw_comb he1 ho1 hcs hmc
  refine zaft_u ?_
  refine zz_aload_n rfl rfl ?_
  refine zz_Vp rfl lk_L_99 cw_M_thrown rfl (m0 hA) (ct_Mthrown hA) rfl rfl rfl rfl ?_
  refine zz_iload rfl rfl ?_
  refine zz_icmp_eq rfl ⟨by omega, by omega⟩ ⟨by omega, by omega⟩ (fun hb540 => ?_) (fun hb540 => absurd hb540 (fun h9 => h9 hkc))
  refine zz_goto rfl ?_
  refine Ev.take 5 ?_
  exact kx _ hLI
theorem lw_c7 {b n : Nat} {xs : Nat → Int32} {x o : Nat} {A : Nat → Nat} {i : Nat} {MC MS mc ms : Nat} {Q : ZR → ZH → Prop} (hA : mOk A) (hn : (n : Int) ≤ 3072) (hi : i + 6 ≤ n) (hL : LI h x o A) (kx : ∀ h', LI h' x o A → Ev Z (lwEx b n Z.2.2.2 xs, m_L_law, 10, MC, MS) 1507 [.ref b, .ref x, .ref (A 0), .ref o, zI (i : Nat)] [] h' mc ms Q) : Ev Z (lwEx b n Z.2.2.2 xs, m_L_law, 10, MC, MS) 548 [.ref b, .ref x, .ref (A 0), .ref o, zI (i : Nat)] [] h (mc + 20) (ms + 4000) Q := by
  obtain ⟨S, X, f, he, hC, hM, ho⟩ := hL
  have hk := hC.oks
  obtain ⟨hi9, pa9, pf9, fv9, cv9, hCR⟩ := id hC
  have hx := hCR.1
  obtain ⟨s1, e1⟩ : ∃ z, (xs ((i : Int) + 1).toNat).toInt = z := ⟨_, rfl⟩
  have r1 : zrg s1 := e1 ▸ sc_rg _
  obtain ⟨s2, e2⟩ : ∃ z, (xs ((i : Int) + 2).toNat).toInt = z := ⟨_, rfl⟩
  have r2 : zrg s2 := e2 ▸ sc_rg _
  refine zz_aload_n rfl rfl ?_
  refine zz_aload_n rfl rfl ?_
  refine zz_iload rfl rfl ?_
  refine zz_iconst rfl ?_
  refine zz_iadd rfl ?_
  refine zz_sld rfl rfl (by omega) ⟨by omega, by omega⟩ ?_
  refine zz_eq e1 ?_
  refine zz_aload_n rfl rfl ?_
  refine zz_iload rfl rfl ?_
  refine zz_iconst rfl ?_
  refine zz_iadd rfl ?_
  refine zz_sld rfl rfl (by omega) ⟨by omega, by omega⟩ ?_
  refine zz_eq e2 ?_
  refine zz_SW rfl lk_L_124 cw_L_fill (fun _ _ => wk.no) (ct_L_fill hx ho (fc_fill (l := s1) (d := s2) hC r1 r2)) rfl rfl rfl rfl ?_
  rintro _ h1 ⟨k, rfl, hfo, ⟨f1, ho1, hv1⟩, hcs⟩
  have he1 := mH_fr hA he hfo ho
  refine zaft_v ?_
  refine Ev.heap he1 ?_
  refine zz_istore rfl rfl rfl ?_
  refine zz_aload_n rfl rfl ?_
  refine zz_aload_n rfl rfl ?_
  refine zz_iload rfl rfl ?_
  refine zz_iconst rfl ?_
  refine zz_iadd rfl ?_
  refine zz_sld rfl rfl (by omega) ⟨by omega, by omega⟩ ?_
  refine zz_eq e1 ?_
  refine zz_aload_n rfl rfl ?_
  refine zz_iload rfl rfl ?_
  refine zz_iconst rfl ?_
  refine zz_iadd rfl ?_
  refine zz_sld rfl rfl (by omega) ⟨by omega, by omega⟩ ?_
  refine zz_eq e2 ?_
  refine zz_V rfl lk_L_126 cw_M_fill rfl (m0 hA) (md_fill (l := s1) (d := s2) hA hM hk r1) rfl rfl rfl rfl ?_
  rintro _ _ ⟨rfl, X', rfl, hmc⟩
  obtain ⟨hkc, hkr, hLI⟩ := lw_comb he1 ho1 hcs hmc
  refine zaft_u ?_
  refine zz_aload_n rfl rfl ?_
  refine zz_Vp rfl lk_L_99 cw_M_thrown rfl (m0 hA) (ct_Mthrown hA) rfl rfl rfl rfl ?_
  refine zz_iload rfl rfl ?_
  refine zz_icmp_eq rfl ⟨by omega, by omega⟩ ⟨by omega, by omega⟩ (fun hb588 => ?_) (fun hb588 => absurd hb588 (fun h9 => h9 hkc))
  refine zz_goto rfl ?_
  refine Ev.take 5 ?_
  exact kx _ hLI
theorem lw_c8 {b n : Nat} {xs : Nat → Int32} {x o : Nat} {A : Nat → Nat} {i : Nat} {MC MS mc ms : Nat} {Q : ZR → ZH → Prop} (hA : mOk A) (hn : (n : Int) ≤ 3072) (hi : i + 6 ≤ n) (hL : LI h x o A) (kx : ∀ h', LI h' x o A → Ev Z (lwEx b n Z.2.2.2 xs, m_L_law, 10, MC, MS) 1507 [.ref b, .ref x, .ref (A 0), .ref o, zI (i : Nat)] [] h' mc ms Q) : Ev Z (lwEx b n Z.2.2.2 xs, m_L_law, 10, MC, MS) 596 [.ref b, .ref x, .ref (A 0), .ref o, zI (i : Nat)] [] h (mc + 20) (ms + 4000) Q := by
  obtain ⟨S, X, f, he, hC, hM, ho⟩ := hL
  have hk := hC.oks
  obtain ⟨hi9, pa9, pf9, fv9, cv9, hCR⟩ := id hC
  have hx := hCR.1
  obtain ⟨s1, e1⟩ : ∃ z, (xs ((i : Int) + 1).toNat).toInt = z := ⟨_, rfl⟩
  have r1 : zrg s1 := e1 ▸ sc_rg _
  obtain ⟨s2, e2⟩ : ∃ z, (xs ((i : Int) + 2).toNat).toInt = z := ⟨_, rfl⟩
  have r2 : zrg s2 := e2 ▸ sc_rg _
  obtain ⟨s3, e3⟩ : ∃ z, (xs ((i : Int) + 3).toNat).toInt = z := ⟨_, rfl⟩
  have r3 : zrg s3 := e3 ▸ sc_rg _
  obtain ⟨s4, e4⟩ : ∃ z, (xs ((i : Int) + 4).toNat).toInt = z := ⟨_, rfl⟩
  have r4 : zrg s4 := e4 ▸ sc_rg _
  refine zz_aload_n rfl rfl ?_
  refine zz_aload_n rfl rfl ?_
  refine zz_iload rfl rfl ?_
  refine zz_iconst rfl ?_
  refine zz_iadd rfl ?_
  refine zz_sld rfl rfl (by omega) ⟨by omega, by omega⟩ ?_
  refine zz_eq e1 ?_
  refine zz_aload_n rfl rfl ?_
  refine zz_iload rfl rfl ?_
  refine zz_iconst rfl ?_
  refine zz_iadd rfl ?_
  refine zz_sld rfl rfl (by omega) ⟨by omega, by omega⟩ ?_
  refine zz_eq e2 ?_
  refine zz_aload_n rfl rfl ?_
  refine zz_iload rfl rfl ?_
  refine zz_iconst rfl ?_
  refine zz_iadd rfl ?_
  refine zz_sld rfl rfl (by omega) ⟨by omega, by omega⟩ ?_
  refine zz_eq e3 ?_
  refine zz_aload_n rfl rfl ?_
  refine zz_iload rfl rfl ?_
  refine zz_iconst rfl ?_
  refine zz_iadd rfl ?_
  refine zz_sld rfl rfl (by omega) ⟨by omega, by omega⟩ ?_
  refine zz_eq e4 ?_
  refine zz_SW rfl lk_L_127 cw_L_gradient (fun _ _ => wk.no) (ct_L_gradient hx ho (fc_grad (l := s1) (fi := s2) (la1 := s3) (ax := s4) hC r1 r2 r4)) rfl rfl rfl rfl ?_
  rintro _ h1 ⟨k, rfl, hfo, ⟨f1, ho1, hv1⟩, hcs⟩
  have he1 := mH_fr hA he hfo ho
  refine zaft_v ?_
  refine Ev.heap he1 ?_
  refine zz_istore rfl rfl rfl ?_
  refine zz_aload_n rfl rfl ?_
  refine zz_aload_n rfl rfl ?_
  refine zz_iload rfl rfl ?_
  refine zz_iconst rfl ?_
  refine zz_iadd rfl ?_
  refine zz_sld rfl rfl (by omega) ⟨by omega, by omega⟩ ?_
  refine zz_eq e1 ?_
  refine zz_aload_n rfl rfl ?_
  refine zz_iload rfl rfl ?_
  refine zz_iconst rfl ?_
  refine zz_iadd rfl ?_
  refine zz_sld rfl rfl (by omega) ⟨by omega, by omega⟩ ?_
  refine zz_eq e2 ?_
  refine zz_aload_n rfl rfl ?_
  refine zz_iload rfl rfl ?_
  refine zz_iconst rfl ?_
  refine zz_iadd rfl ?_
  refine zz_sld rfl rfl (by omega) ⟨by omega, by omega⟩ ?_
  refine zz_eq e3 ?_
  refine zz_aload_n rfl rfl ?_
  refine zz_iload rfl rfl ?_
  refine zz_iconst rfl ?_
  refine zz_iadd rfl ?_
  refine zz_sld rfl rfl (by omega) ⟨by omega, by omega⟩ ?_
  refine zz_eq e4 ?_
  refine zz_V rfl lk_L_130 cw_M_gradient rfl (m0 hA) (md_grad (l := s1) (fi := s2) (la1 := s3) (ax := s4) hA hM hk r1 r2 r3 r4) rfl rfl rfl rfl ?_
  rintro _ _ ⟨rfl, X', rfl, hmc⟩
  obtain ⟨hkc, hkr, hLI⟩ := lw_comb he1 ho1 hcs hmc
  refine zaft_u ?_
  refine zz_aload_n rfl rfl ?_
  refine zz_Vp rfl lk_L_99 cw_M_thrown rfl (m0 hA) (ct_Mthrown hA) rfl rfl rfl rfl ?_
  refine zz_iload rfl rfl ?_
  refine zz_icmp_eq rfl ⟨by omega, by omega⟩ ⟨by omega, by omega⟩ (fun hb660 => ?_) (fun hb660 => absurd hb660 (fun h9 => h9 hkc))
  refine zz_goto rfl ?_
  refine Ev.take 5 ?_
  exact kx _ hLI
theorem lw_c9 {b n : Nat} {xs : Nat → Int32} {x o : Nat} {A : Nat → Nat} {i : Nat} {MC MS mc ms : Nat} {Q : ZR → ZH → Prop} (hA : mOk A) (hn : (n : Int) ≤ 3072) (hi : i + 6 ≤ n) (hL : LI h x o A) (kx : ∀ h', LI h' x o A → Ev Z (lwEx b n Z.2.2.2 xs, m_L_law, 10, MC, MS) 1507 [.ref b, .ref x, .ref (A 0), .ref o, zI (i : Nat)] [] h' mc ms Q) : Ev Z (lwEx b n Z.2.2.2 xs, m_L_law, 10, MC, MS) 668 [.ref b, .ref x, .ref (A 0), .ref o, zI (i : Nat)] [] h (mc + 20) (ms + 4000) Q := by
  obtain ⟨S, X, f, he, hC, hM, ho⟩ := hL
  have hk := hC.oks
  obtain ⟨hi9, pa9, pf9, fv9, cv9, hCR⟩ := id hC
  have hx := hCR.1
  obtain ⟨s1, e1⟩ : ∃ z, (xs ((i : Int) + 1).toNat).toInt = z := ⟨_, rfl⟩
  have r1 : zrg s1 := e1 ▸ sc_rg _
  obtain ⟨s2, e2⟩ : ∃ z, (xs ((i : Int) + 2).toNat).toInt = z := ⟨_, rfl⟩
  have r2 : zrg s2 := e2 ▸ sc_rg _
  obtain ⟨s3, e3⟩ : ∃ z, (xs ((i : Int) + 3).toNat).toInt = z := ⟨_, rfl⟩
  have r3 : zrg s3 := e3 ▸ sc_rg _
  refine zz_aload_n rfl rfl ?_
  refine zz_aload_n rfl rfl ?_
  refine zz_iload rfl rfl ?_
  refine zz_iconst rfl ?_
  refine zz_iadd rfl ?_
  refine zz_sld rfl rfl (by omega) ⟨by omega, by omega⟩ ?_
  refine zz_eq e1 ?_
  refine zz_aload_n rfl rfl ?_
  refine zz_iload rfl rfl ?_
  refine zz_iconst rfl ?_
  refine zz_iadd rfl ?_
  refine zz_sld rfl rfl (by omega) ⟨by omega, by omega⟩ ?_
  refine zz_eq e2 ?_
  refine zz_aload_n rfl rfl ?_
  refine zz_iload rfl rfl ?_
  refine zz_iconst rfl ?_
  refine zz_iadd rfl ?_
  refine zz_sld rfl rfl (by omega) ⟨by omega, by omega⟩ ?_
  refine zz_eq e3 ?_
  refine zz_SW rfl lk_L_131 cw_L_stroke (fun _ _ => wk.no) (ct_L_stroke hx ho (fc_stroke (l := s1) (fr := s2) (to := s3) hC r1 r2 r3)) rfl rfl rfl rfl ?_
  rintro _ h1 ⟨k, rfl, hfo, ⟨f1, ho1, hv1⟩, hcs⟩
  have he1 := mH_fr hA he hfo ho
  refine zaft_v ?_
  refine Ev.heap he1 ?_
  refine zz_istore rfl rfl rfl ?_
  refine zz_aload_n rfl rfl ?_
  refine zz_aload_n rfl rfl ?_
  refine zz_iload rfl rfl ?_
  refine zz_iconst rfl ?_
  refine zz_iadd rfl ?_
  refine zz_sld rfl rfl (by omega) ⟨by omega, by omega⟩ ?_
  refine zz_eq e1 ?_
  refine zz_aload_n rfl rfl ?_
  refine zz_iload rfl rfl ?_
  refine zz_iconst rfl ?_
  refine zz_iadd rfl ?_
  refine zz_sld rfl rfl (by omega) ⟨by omega, by omega⟩ ?_
  refine zz_eq e2 ?_
  refine zz_aload_n rfl rfl ?_
  refine zz_iload rfl rfl ?_
  refine zz_iconst rfl ?_
  refine zz_iadd rfl ?_
  refine zz_sld rfl rfl (by omega) ⟨by omega, by omega⟩ ?_
  refine zz_eq e3 ?_
  refine zz_V rfl lk_L_134 cw_M_stroke rfl (m0 hA) (md_stroke (l := s1) (fr := s2) (to := s3) hA hM hk r1 r2 r3) rfl rfl rfl rfl ?_
  rintro _ _ ⟨rfl, X', rfl, hmc⟩
  obtain ⟨hkc, hkr, hLI⟩ := lw_comb he1 ho1 hcs hmc
  refine zaft_u ?_
  refine zz_aload_n rfl rfl ?_
  refine zz_Vp rfl lk_L_99 cw_M_thrown rfl (m0 hA) (ct_Mthrown hA) rfl rfl rfl rfl ?_
  refine zz_iload rfl rfl ?_
  refine zz_icmp_eq rfl ⟨by omega, by omega⟩ ⟨by omega, by omega⟩ (fun hb720 => ?_) (fun hb720 => absurd hb720 (fun h9 => h9 hkc))
  refine zz_goto rfl ?_
  refine Ev.take 5 ?_
  exact kx _ hLI
theorem lw_c10 {b n : Nat} {xs : Nat → Int32} {x o : Nat} {A : Nat → Nat} {i : Nat} {MC MS mc ms : Nat} {Q : ZR → ZH → Prop} (hA : mOk A) (hn : (n : Int) ≤ 3072) (hi : i + 6 ≤ n) (hL : LI h x o A) (kx : ∀ h', LI h' x o A → Ev Z (lwEx b n Z.2.2.2 xs, m_L_law, 10, MC, MS) 1507 [.ref b, .ref x, .ref (A 0), .ref o, zI (i : Nat)] [] h' mc ms Q) : Ev Z (lwEx b n Z.2.2.2 xs, m_L_law, 10, MC, MS) 728 [.ref b, .ref x, .ref (A 0), .ref o, zI (i : Nat)] [] h (mc + 20) (ms + 4000) Q := by
  obtain ⟨S, X, f, he, hC, hM, ho⟩ := hL
  have hk := hC.oks
  obtain ⟨hi9, pa9, pf9, fv9, cv9, hCR⟩ := id hC
  have hx := hCR.1
  obtain ⟨s1, e1⟩ : ∃ z, (xs ((i : Int) + 1).toNat).toInt = z := ⟨_, rfl⟩
  have r1 : zrg s1 := e1 ▸ sc_rg _
  obtain ⟨s2, e2⟩ : ∃ z, (xs ((i : Int) + 2).toNat).toInt = z := ⟨_, rfl⟩
  have r2 : zrg s2 := e2 ▸ sc_rg _
  obtain ⟨s3, e3⟩ : ∃ z, (xs ((i : Int) + 3).toNat).toInt = z := ⟨_, rfl⟩
  have r3 : zrg s3 := e3 ▸ sc_rg _
  obtain ⟨s4, e4⟩ : ∃ z, (xs ((i : Int) + 4).toNat).toInt = z := ⟨_, rfl⟩
  have r4 : zrg s4 := e4 ▸ sc_rg _
  obtain ⟨s5, e5⟩ : ∃ z, (xs ((i : Int) + 5).toNat).toInt = z := ⟨_, rfl⟩
  have r5 : zrg s5 := e5 ▸ sc_rg _
  refine zz_aload_n rfl rfl ?_
  refine zz_aload_n rfl rfl ?_
  refine zz_iload rfl rfl ?_
  refine zz_iconst rfl ?_
  refine zz_iadd rfl ?_
  refine zz_sld rfl rfl (by omega) ⟨by omega, by omega⟩ ?_
  refine zz_eq e1 ?_
  refine zz_aload_n rfl rfl ?_
  refine zz_iload rfl rfl ?_
  refine zz_iconst rfl ?_
  refine zz_iadd rfl ?_
  refine zz_sld rfl rfl (by omega) ⟨by omega, by omega⟩ ?_
  refine zz_eq e2 ?_
  refine zz_aload_n rfl rfl ?_
  refine zz_iload rfl rfl ?_
  refine zz_iconst rfl ?_
  refine zz_iadd rfl ?_
  refine zz_sld rfl rfl (by omega) ⟨by omega, by omega⟩ ?_
  refine zz_eq e3 ?_
  refine zz_aload_n rfl rfl ?_
  refine zz_iload rfl rfl ?_
  refine zz_iconst rfl ?_
  refine zz_iadd rfl ?_
  refine zz_sld rfl rfl (by omega) ⟨by omega, by omega⟩ ?_
  refine zz_eq e4 ?_
  refine zz_aload_n rfl rfl ?_
  refine zz_iload rfl rfl ?_
  refine zz_iconst rfl ?_
  refine zz_iadd rfl ?_
  refine zz_sld rfl rfl (by omega) ⟨by omega, by omega⟩ ?_
  refine zz_eq e5 ?_
  refine zz_aload_n rfl rfl ?_
  refine zz_SW rfl lk_L_135 cw_L_flood (fun _ _ => wk.no) (ct_L_flood hx ho (fc_flood (l := s1) (px := s2) (py := s3) (d := s4) (tol := s5) hC r1 r2 r3 r4 r5)) rfl rfl rfl rfl ?_
  rintro _ h1 ⟨k, rfl, hfo, ⟨f1, ho1, hv1⟩, hcs⟩
  have he1 := mH_fr hA he hfo ho
  refine zaft_v ?_
  refine Ev.heap he1 ?_
  refine zz_istore rfl rfl rfl ?_
  refine zz_aload_n rfl rfl ?_
  refine zz_aload_n rfl rfl ?_
  refine zz_iload rfl rfl ?_
  refine zz_iconst rfl ?_
  refine zz_iadd rfl ?_
  refine zz_sld rfl rfl (by omega) ⟨by omega, by omega⟩ ?_
  refine zz_eq e1 ?_
  refine zz_aload_n rfl rfl ?_
  refine zz_iload rfl rfl ?_
  refine zz_iconst rfl ?_
  refine zz_iadd rfl ?_
  refine zz_sld rfl rfl (by omega) ⟨by omega, by omega⟩ ?_
  refine zz_eq e2 ?_
  refine zz_aload_n rfl rfl ?_
  refine zz_iload rfl rfl ?_
  refine zz_iconst rfl ?_
  refine zz_iadd rfl ?_
  refine zz_sld rfl rfl (by omega) ⟨by omega, by omega⟩ ?_
  refine zz_eq e3 ?_
  refine zz_aload_n rfl rfl ?_
  refine zz_iload rfl rfl ?_
  refine zz_iconst rfl ?_
  refine zz_iadd rfl ?_
  refine zz_sld rfl rfl (by omega) ⟨by omega, by omega⟩ ?_
  refine zz_eq e4 ?_
  refine zz_aload_n rfl rfl ?_
  refine zz_iload rfl rfl ?_
  refine zz_iconst rfl ?_
  refine zz_iadd rfl ?_
  refine zz_sld rfl rfl (by omega) ⟨by omega, by omega⟩ ?_
  refine zz_eq e5 ?_
  refine zz_V rfl lk_L_138 cw_M_flood rfl (m0 hA) (md_flood (l := s1) (px := s2) (py := s3) (d := s4) (tol := s5) hA hM hk r1 r2 r3 r5) rfl rfl rfl rfl ?_
  rintro _ _ ⟨bb, rfl, hbr, X', rfl, hmc⟩
  obtain ⟨hkc, hkr, hLI, hkb⟩ := lw_combI he1 ho1 hv1 hbr hcs hmc
  have ho2 : mH h1 A X' o = some (za 2 1 f1) := mH_out (X := X) (by rw [← he1]; exact ho1)
  refine zaft_v ?_
  refine zz_istore rfl rfl rfl ?_
  refine zz_aload_n rfl rfl ?_
  refine zz_Vp rfl lk_L_99 cw_M_thrown rfl (m0 hA) (ct_Mthrown hA) rfl rfl rfl rfl ?_
  refine zz_iload rfl rfl ?_
  refine zz_icmp_eq rfl ⟨by omega, by omega⟩ ⟨by omega, by omega⟩ (fun hb807 => ?_) (fun hb807 => absurd hb807 (fun h9 => h9 hkc))
  refine zz_iload rfl rfl ?_
  refine zz_if_ne rfl ⟨by omega, by omega⟩ (fun hb814 => ?_) (fun hb814 => ?_)
  · skip
    refine zz_goto rfl ?_
    refine Ev.take 5 ?_
    exact kx _ hLI
  · skip
    refine zz_aload_n rfl rfl ?_
    refine zz_iconst rfl ?_
    refine zz_lald rfl ho2 (by decide) ⟨by decide, by decide⟩ ?_
    refine zz_tv (show _ = zJ bb from hkb hb814) ?_
    refine zz_iload rfl rfl ?_
    refine zz_i2l rfl hbr ?_
    refine zz_lcmp rfl ⟨by have := hbr.1; omega, by have := hbr.2; omega⟩ ⟨by have := hbr.1; omega, by have := hbr.2; omega⟩ ?_
    refine zz_eq (show _ = (0 : Int) from by rw [if_neg (Int.lt_irrefl bb), if_pos rfl]) ?_
    refine zz_if_eq rfl ⟨by decide, by decide⟩ (fun hb824 => ?_) (fun hb824 => absurd hb824 (by decide))
    refine zz_goto rfl ?_
    refine Ev.take 5 ?_
    exact kx _ hLI
theorem lw_c11 {b n : Nat} {xs : Nat → Int32} {x o : Nat} {A : Nat → Nat} {i : Nat} {MC MS mc ms : Nat} {Q : ZR → ZH → Prop} (hA : mOk A) (hn : (n : Int) ≤ 3072) (hi : i + 6 ≤ n) (hL : LI h x o A) (kx : ∀ h', LI h' x o A → Ev Z (lwEx b n Z.2.2.2 xs, m_L_law, 10, MC, MS) 1507 [.ref b, .ref x, .ref (A 0), .ref o, zI (i : Nat)] [] h' mc ms Q) : Ev Z (lwEx b n Z.2.2.2 xs, m_L_law, 10, MC, MS) 832 [.ref b, .ref x, .ref (A 0), .ref o, zI (i : Nat)] [] h (mc + 20) (ms + 4000) Q := by
  obtain ⟨S, X, f, he, hC, hM, ho⟩ := hL
  have hk := hC.oks
  obtain ⟨hi9, pa9, pf9, fv9, cv9, hCR⟩ := id hC
  have hx := hCR.1
  obtain ⟨s1, e1⟩ : ∃ z, (xs ((i : Int) + 1).toNat).toInt = z := ⟨_, rfl⟩
  have r1 : zrg s1 := e1 ▸ sc_rg _
  refine zz_aload_n rfl rfl ?_
  refine zz_aload_n rfl rfl ?_
  refine zz_iload rfl rfl ?_
  refine zz_iconst rfl ?_
  refine zz_iadd rfl ?_
  refine zz_sld rfl rfl (by omega) ⟨by omega, by omega⟩ ?_
  refine zz_eq e1 ?_
  refine zz_aload_n rfl rfl ?_
  refine zz_SW rfl lk_L_139 cw_L_copy (fun _ _ => wk.no) (ct_L_copy hx ho (fc_copy (l := s1) hC r1)) rfl rfl rfl rfl ?_
  rintro _ h1 ⟨k, rfl, hfo, ⟨f1, ho1, hv1⟩, hcs⟩
  have he1 := mH_fr hA he hfo ho
  refine zaft_v ?_
  refine Ev.heap he1 ?_
  refine zz_istore rfl rfl rfl ?_
  refine zz_aload_n rfl rfl ?_
  refine zz_aload_n rfl rfl ?_
  refine zz_iload rfl rfl ?_
  refine zz_iconst rfl ?_
  refine zz_iadd rfl ?_
  refine zz_sld rfl rfl (by omega) ⟨by omega, by omega⟩ ?_
  refine zz_eq e1 ?_
  refine zz_V rfl lk_L_142 cw_M_copy rfl (m0 hA) (md_copy (l := s1) hA hM hk r1) rfl rfl rfl rfl ?_
  rintro _ _ ⟨bb, rfl, hbr, X', rfl, hmc⟩
  obtain ⟨hkc, hkr, hLI, hkb⟩ := lw_combI he1 ho1 hv1 hbr hcs hmc
  have ho2 : mH h1 A X' o = some (za 2 1 f1) := mH_out (X := X) (by rw [← he1]; exact ho1)
  refine zaft_v ?_
  refine zz_istore rfl rfl rfl ?_
  refine zz_aload_n rfl rfl ?_
  refine zz_Vp rfl lk_L_99 cw_M_thrown rfl (m0 hA) (ct_Mthrown hA) rfl rfl rfl rfl ?_
  refine zz_iload rfl rfl ?_
  refine zz_icmp_eq rfl ⟨by omega, by omega⟩ ⟨by omega, by omega⟩ (fun hb863 => ?_) (fun hb863 => absurd hb863 (fun h9 => h9 hkc))
  refine zz_iload rfl rfl ?_
  refine zz_if_ne rfl ⟨by omega, by omega⟩ (fun hb870 => ?_) (fun hb870 => ?_)
  · skip
    refine zz_goto rfl ?_
    refine Ev.take 5 ?_
    exact kx _ hLI
  · skip
    refine zz_aload_n rfl rfl ?_
    refine zz_iconst rfl ?_
    refine zz_lald rfl ho2 (by decide) ⟨by decide, by decide⟩ ?_
    refine zz_tv (show _ = zJ bb from hkb hb870) ?_
    refine zz_iload rfl rfl ?_
    refine zz_i2l rfl hbr ?_
    refine zz_lcmp rfl ⟨by have := hbr.1; omega, by have := hbr.2; omega⟩ ⟨by have := hbr.1; omega, by have := hbr.2; omega⟩ ?_
    refine zz_eq (show _ = (0 : Int) from by rw [if_neg (Int.lt_irrefl bb), if_pos rfl]) ?_
    refine zz_if_eq rfl ⟨by decide, by decide⟩ (fun hb880 => ?_) (fun hb880 => absurd hb880 (by decide))
    refine zz_goto rfl ?_
    refine Ev.take 5 ?_
    exact kx _ hLI
theorem lw_c12 {b n : Nat} {xs : Nat → Int32} {x o : Nat} {A : Nat → Nat} {i : Nat} {MC MS mc ms : Nat} {Q : ZR → ZH → Prop} (hA : mOk A) (hn : (n : Int) ≤ 3072) (hi : i + 6 ≤ n) (hL : LI h x o A) (kx : ∀ h', LI h' x o A → Ev Z (lwEx b n Z.2.2.2 xs, m_L_law, 10, MC, MS) 1507 [.ref b, .ref x, .ref (A 0), .ref o, zI (i : Nat)] [] h' mc ms Q) : Ev Z (lwEx b n Z.2.2.2 xs, m_L_law, 10, MC, MS) 888 [.ref b, .ref x, .ref (A 0), .ref o, zI (i : Nat)] [] h (mc + 20) (ms + 4000) Q := by
  obtain ⟨S, X, f, he, hC, hM, ho⟩ := hL
  have hk := hC.oks
  obtain ⟨hi9, pa9, pf9, fv9, cv9, hCR⟩ := id hC
  have hx := hCR.1
  obtain ⟨s1, e1⟩ : ∃ z, (xs ((i : Int) + 1).toNat).toInt = z := ⟨_, rfl⟩
  have r1 : zrg s1 := e1 ▸ sc_rg _
  obtain ⟨s2, e2⟩ : ∃ z, (xs ((i : Int) + 2).toNat).toInt = z := ⟨_, rfl⟩
  have r2 : zrg s2 := e2 ▸ sc_rg _
  obtain ⟨s3, e3⟩ : ∃ z, (xs ((i : Int) + 3).toNat).toInt = z := ⟨_, rfl⟩
  have r3 : zrg s3 := e3 ▸ sc_rg _
  refine zz_aload_n rfl rfl ?_
  refine zz_aload_n rfl rfl ?_
  refine zz_iload rfl rfl ?_
  refine zz_iconst rfl ?_
  refine zz_iadd rfl ?_
  refine zz_sld rfl rfl (by omega) ⟨by omega, by omega⟩ ?_
  refine zz_eq e1 ?_
  refine zz_aload_n rfl rfl ?_
  refine zz_iload rfl rfl ?_
  refine zz_iconst rfl ?_
  refine zz_iadd rfl ?_
  refine zz_sld rfl rfl (by omega) ⟨by omega, by omega⟩ ?_
  refine zz_eq e2 ?_
  refine zz_aload_n rfl rfl ?_
  refine zz_iload rfl rfl ?_
  refine zz_iconst rfl ?_
  refine zz_iadd rfl ?_
  refine zz_sld rfl rfl (by omega) ⟨by omega, by omega⟩ ?_
  refine zz_eq e3 ?_
  refine zz_aload_n rfl rfl ?_
  refine zz_SW rfl lk_L_143 cw_L_paste (fun _ _ => wk.no) (ct_L_paste hx ho (fc_paste (l := s1) (dx := s2) (dy := s3) hC r1 r2 r3)) rfl rfl rfl rfl ?_
  rintro _ h1 ⟨k, rfl, hfo, ⟨f1, ho1, hv1⟩, hcs⟩
  have he1 := mH_fr hA he hfo ho
  refine zaft_v ?_
  refine Ev.heap he1 ?_
  refine zz_istore rfl rfl rfl ?_
  refine zz_aload_n rfl rfl ?_
  refine zz_aload_n rfl rfl ?_
  refine zz_iload rfl rfl ?_
  refine zz_iconst rfl ?_
  refine zz_iadd rfl ?_
  refine zz_sld rfl rfl (by omega) ⟨by omega, by omega⟩ ?_
  refine zz_eq e1 ?_
  refine zz_aload_n rfl rfl ?_
  refine zz_iload rfl rfl ?_
  refine zz_iconst rfl ?_
  refine zz_iadd rfl ?_
  refine zz_sld rfl rfl (by omega) ⟨by omega, by omega⟩ ?_
  refine zz_eq e2 ?_
  refine zz_aload_n rfl rfl ?_
  refine zz_iload rfl rfl ?_
  refine zz_iconst rfl ?_
  refine zz_iadd rfl ?_
  refine zz_sld rfl rfl (by omega) ⟨by omega, by omega⟩ ?_
  refine zz_eq e3 ?_
  refine zz_V rfl lk_L_146 cw_M_paste rfl (m0 hA) (md_paste (l := s1) (dx := s2) (dy := s3) hA hM hk r1 r2 r3) rfl rfl rfl rfl ?_
  rintro _ _ ⟨bb, rfl, hbr, X', rfl, hmc⟩
  obtain ⟨hkc, hkr, hLI, hkb⟩ := lw_combI he1 ho1 hv1 hbr hcs hmc
  have ho2 : mH h1 A X' o = some (za 2 1 f1) := mH_out (X := X) (by rw [← he1]; exact ho1)
  refine zaft_v ?_
  refine zz_istore rfl rfl rfl ?_
  refine zz_aload_n rfl rfl ?_
  refine zz_Vp rfl lk_L_99 cw_M_thrown rfl (m0 hA) (ct_Mthrown hA) rfl rfl rfl rfl ?_
  refine zz_iload rfl rfl ?_
  refine zz_icmp_eq rfl ⟨by omega, by omega⟩ ⟨by omega, by omega⟩ (fun hb943 => ?_) (fun hb943 => absurd hb943 (fun h9 => h9 hkc))
  refine zz_iload rfl rfl ?_
  refine zz_if_ne rfl ⟨by omega, by omega⟩ (fun hb950 => ?_) (fun hb950 => ?_)
  · skip
    refine zz_goto rfl ?_
    refine Ev.take 5 ?_
    exact kx _ hLI
  · skip
    refine zz_aload_n rfl rfl ?_
    refine zz_iconst rfl ?_
    refine zz_lald rfl ho2 (by decide) ⟨by decide, by decide⟩ ?_
    refine zz_tv (show _ = zJ bb from hkb hb950) ?_
    refine zz_iload rfl rfl ?_
    refine zz_i2l rfl hbr ?_
    refine zz_lcmp rfl ⟨by have := hbr.1; omega, by have := hbr.2; omega⟩ ⟨by have := hbr.1; omega, by have := hbr.2; omega⟩ ?_
    refine zz_eq (show _ = (0 : Int) from by rw [if_neg (Int.lt_irrefl bb), if_pos rfl]) ?_
    refine zz_if_eq rfl ⟨by decide, by decide⟩ (fun hb960 => ?_) (fun hb960 => absurd hb960 (by decide))
    refine zz_goto rfl ?_
    refine Ev.take 5 ?_
    exact kx _ hLI
theorem lw_c13 {b n : Nat} {xs : Nat → Int32} {x o : Nat} {A : Nat → Nat} {i : Nat} {MC MS mc ms : Nat} {Q : ZR → ZH → Prop} (hA : mOk A) (hn : (n : Int) ≤ 3072) (hi : i + 6 ≤ n) (hL : LI h x o A) (kx : ∀ h', LI h' x o A → Ev Z (lwEx b n Z.2.2.2 xs, m_L_law, 10, MC, MS) 1507 [.ref b, .ref x, .ref (A 0), .ref o, zI (i : Nat)] [] h' mc ms Q) : Ev Z (lwEx b n Z.2.2.2 xs, m_L_law, 10, MC, MS) 968 [.ref b, .ref x, .ref (A 0), .ref o, zI (i : Nat)] [] h (mc + 20) (ms + 4000) Q := by
  obtain ⟨S, X, f, he, hC, hM, ho⟩ := hL
  have hk := hC.oks
  obtain ⟨hi9, pa9, pf9, fv9, cv9, hCR⟩ := id hC
  have hx := hCR.1
  obtain ⟨s1, e1⟩ : ∃ z, (xs ((i : Int) + 1).toNat).toInt = z := ⟨_, rfl⟩
  have r1 : zrg s1 := e1 ▸ sc_rg _
  obtain ⟨s2, e2⟩ : ∃ z, (xs ((i : Int) + 2).toNat).toInt = z := ⟨_, rfl⟩
  have r2 : zrg s2 := e2 ▸ sc_rg _
  refine zz_aload_n rfl rfl ?_
  refine zz_aload_n rfl rfl ?_
  refine zz_iload rfl rfl ?_
  refine zz_iconst rfl ?_
  refine zz_iadd rfl ?_
  refine zz_sld rfl rfl (by omega) ⟨by omega, by omega⟩ ?_
  refine zz_eq e1 ?_
  refine zz_aload_n rfl rfl ?_
  refine zz_iload rfl rfl ?_
  refine zz_iconst rfl ?_
  refine zz_iadd rfl ?_
  refine zz_sld rfl rfl (by omega) ⟨by omega, by omega⟩ ?_
  refine zz_eq e2 ?_
  refine zz_SW rfl lk_L_147 cw_L_mirror (fun _ _ => wk.no) (ct_L_mirror hx ho (fc_mirr (l := s1) (ax := s2) hC r1 r2)) rfl rfl rfl rfl ?_
  rintro _ h1 ⟨k, rfl, hfo, ⟨f1, ho1, hv1⟩, hcs⟩
  have he1 := mH_fr hA he hfo ho
  refine zaft_v ?_
  refine Ev.heap he1 ?_
  refine zz_istore rfl rfl rfl ?_
  refine zz_aload_n rfl rfl ?_
  refine zz_aload_n rfl rfl ?_
  refine zz_iload rfl rfl ?_
  refine zz_iconst rfl ?_
  refine zz_iadd rfl ?_
  refine zz_sld rfl rfl (by omega) ⟨by omega, by omega⟩ ?_
  refine zz_eq e1 ?_
  refine zz_aload_n rfl rfl ?_
  refine zz_iload rfl rfl ?_
  refine zz_iconst rfl ?_
  refine zz_iadd rfl ?_
  refine zz_sld rfl rfl (by omega) ⟨by omega, by omega⟩ ?_
  refine zz_eq e2 ?_
  refine zz_V rfl lk_L_149 cw_M_mirror rfl (m0 hA) (md_mirr (l := s1) (ax := s2) hA hM hk r1 r2) rfl rfl rfl rfl ?_
  rintro _ _ ⟨rfl, X', rfl, hmc⟩
  obtain ⟨hkc, hkr, hLI⟩ := lw_comb he1 ho1 hcs hmc
  refine zaft_u ?_
  refine zz_aload_n rfl rfl ?_
  refine zz_Vp rfl lk_L_99 cw_M_thrown rfl (m0 hA) (ct_Mthrown hA) rfl rfl rfl rfl ?_
  refine zz_iload rfl rfl ?_
  refine zz_icmp_eq rfl ⟨by omega, by omega⟩ ⟨by omega, by omega⟩ (fun hb1008 => ?_) (fun hb1008 => absurd hb1008 (fun h9 => h9 hkc))
  refine zz_goto rfl ?_
  refine Ev.take 5 ?_
  exact kx _ hLI
theorem lw_c14 {b n : Nat} {xs : Nat → Int32} {x o : Nat} {A : Nat → Nat} {i : Nat} {MC MS mc ms : Nat} {Q : ZR → ZH → Prop} (hA : mOk A) (hn : (n : Int) ≤ 3072) (hi : i + 6 ≤ n) (hL : LI h x o A) (kx : ∀ h', LI h' x o A → Ev Z (lwEx b n Z.2.2.2 xs, m_L_law, 10, MC, MS) 1507 [.ref b, .ref x, .ref (A 0), .ref o, zI (i : Nat)] [] h' mc ms Q) : Ev Z (lwEx b n Z.2.2.2 xs, m_L_law, 10, MC, MS) 1016 [.ref b, .ref x, .ref (A 0), .ref o, zI (i : Nat)] [] h (mc + 20) (ms + 4000) Q := by
  obtain ⟨S, X, f, he, hC, hM, ho⟩ := hL
  have hk := hC.oks
  obtain ⟨hi9, pa9, pf9, fv9, cv9, hCR⟩ := id hC
  have hx := hCR.1
  obtain ⟨s1, e1⟩ : ∃ z, (xs ((i : Int) + 1).toNat).toInt = z := ⟨_, rfl⟩
  have r1 : zrg s1 := e1 ▸ sc_rg _
  obtain ⟨s2, e2⟩ : ∃ z, (xs ((i : Int) + 2).toNat).toInt = z := ⟨_, rfl⟩
  have r2 : zrg s2 := e2 ▸ sc_rg _
  obtain ⟨s3, e3⟩ : ∃ z, (xs ((i : Int) + 3).toNat).toInt = z := ⟨_, rfl⟩
  have r3 : zrg s3 := e3 ▸ sc_rg _
  refine zz_aload_n rfl rfl ?_
  refine zz_aload_n rfl rfl ?_
  refine zz_iload rfl rfl ?_
  refine zz_iconst rfl ?_
  refine zz_iadd rfl ?_
  refine zz_sld rfl rfl (by omega) ⟨by omega, by omega⟩ ?_
  refine zz_eq e1 ?_
  refine zz_aload_n rfl rfl ?_
  refine zz_iload rfl rfl ?_
  refine zz_iconst rfl ?_
  refine zz_iadd rfl ?_
  refine zz_sld rfl rfl (by omega) ⟨by omega, by omega⟩ ?_
  refine zz_eq e2 ?_
  refine zz_aload_n rfl rfl ?_
  refine zz_iload rfl rfl ?_
  refine zz_iconst rfl ?_
  refine zz_iadd rfl ?_
  refine zz_sld rfl rfl (by omega) ⟨by omega, by omega⟩ ?_
  refine zz_eq e3 ?_
  refine zz_SW rfl lk_L_150 cw_L_shift (fun _ _ => wk.no) (ct_L_shift hx ho (fc_shift (l := s1) (dx := s2) (dy := s3) hC r1 r2 r3)) rfl rfl rfl rfl ?_
  rintro _ h1 ⟨k, rfl, hfo, ⟨f1, ho1, hv1⟩, hcs⟩
  have he1 := mH_fr hA he hfo ho
  refine zaft_v ?_
  refine Ev.heap he1 ?_
  refine zz_istore rfl rfl rfl ?_
  refine zz_aload_n rfl rfl ?_
  refine zz_aload_n rfl rfl ?_
  refine zz_iload rfl rfl ?_
  refine zz_iconst rfl ?_
  refine zz_iadd rfl ?_
  refine zz_sld rfl rfl (by omega) ⟨by omega, by omega⟩ ?_
  refine zz_eq e1 ?_
  refine zz_aload_n rfl rfl ?_
  refine zz_iload rfl rfl ?_
  refine zz_iconst rfl ?_
  refine zz_iadd rfl ?_
  refine zz_sld rfl rfl (by omega) ⟨by omega, by omega⟩ ?_
  refine zz_eq e2 ?_
  refine zz_aload_n rfl rfl ?_
  refine zz_iload rfl rfl ?_
  refine zz_iconst rfl ?_
  refine zz_iadd rfl ?_
  refine zz_sld rfl rfl (by omega) ⟨by omega, by omega⟩ ?_
  refine zz_eq e3 ?_
  refine zz_V rfl lk_L_152 cw_M_shift rfl (m0 hA) (md_shift (l := s1) (dx := s2) (dy := s3) hA hM hk r1 r2 r3) rfl rfl rfl rfl ?_
  rintro _ _ ⟨rfl, X', rfl, hmc⟩
  obtain ⟨hkc, hkr, hLI⟩ := lw_comb he1 ho1 hcs hmc
  refine zaft_u ?_
  refine zz_aload_n rfl rfl ?_
  refine zz_Vp rfl lk_L_99 cw_M_thrown rfl (m0 hA) (ct_Mthrown hA) rfl rfl rfl rfl ?_
  refine zz_iload rfl rfl ?_
  refine zz_icmp_eq rfl ⟨by omega, by omega⟩ ⟨by omega, by omega⟩ (fun hb1068 => ?_) (fun hb1068 => absurd hb1068 (fun h9 => h9 hkc))
  refine zz_goto rfl ?_
  refine Ev.take 5 ?_
  exact kx _ hLI
theorem lw_c15 {b n : Nat} {xs : Nat → Int32} {x o : Nat} {A : Nat → Nat} {i : Nat} {MC MS mc ms : Nat} {Q : ZR → ZH → Prop} (hA : mOk A) (hn : (n : Int) ≤ 3072) (hi : i + 6 ≤ n) (hL : LI h x o A) (kx : ∀ h', LI h' x o A → Ev Z (lwEx b n Z.2.2.2 xs, m_L_law, 10, MC, MS) 1507 [.ref b, .ref x, .ref (A 0), .ref o, zI (i : Nat)] [] h' mc ms Q) : Ev Z (lwEx b n Z.2.2.2 xs, m_L_law, 10, MC, MS) 1076 [.ref b, .ref x, .ref (A 0), .ref o, zI (i : Nat)] [] h (mc + 20) (ms + 4000) Q := by
  obtain ⟨S, X, f, he, hC, hM, ho⟩ := hL
  have hk := hC.oks
  obtain ⟨hi9, pa9, pf9, fv9, cv9, hCR⟩ := id hC
  have hx := hCR.1
  obtain ⟨s1, e1⟩ : ∃ z, (xs ((i : Int) + 1).toNat).toInt = z := ⟨_, rfl⟩
  have r1 : zrg s1 := e1 ▸ sc_rg _
  obtain ⟨s2, e2⟩ : ∃ z, (xs ((i : Int) + 2).toNat).toInt = z := ⟨_, rfl⟩
  have r2 : zrg s2 := e2 ▸ sc_rg _
  refine zz_aload_n rfl rfl ?_
  refine zz_aload_n rfl rfl ?_
  refine zz_iload rfl rfl ?_
  refine zz_iconst rfl ?_
  refine zz_iadd rfl ?_
  refine zz_sld rfl rfl (by omega) ⟨by omega, by omega⟩ ?_
  refine zz_eq e1 ?_
  refine zz_aload_n rfl rfl ?_
  refine zz_iload rfl rfl ?_
  refine zz_iconst rfl ?_
  refine zz_iadd rfl ?_
  refine zz_sld rfl rfl (by omega) ⟨by omega, by omega⟩ ?_
  refine zz_eq e2 ?_
  refine zz_SW rfl lk_L_153 cw_L_blur (fun _ _ => wk.no) (ct_L_blur hx ho (fc_blur (l := s1) (r := s2) hC r1 r2)) rfl rfl rfl rfl ?_
  rintro _ h1 ⟨k, rfl, hfo, ⟨f1, ho1, hv1⟩, hcs⟩
  have he1 := mH_fr hA he hfo ho
  refine zaft_v ?_
  refine Ev.heap he1 ?_
  refine zz_istore rfl rfl rfl ?_
  refine zz_aload_n rfl rfl ?_
  refine zz_aload_n rfl rfl ?_
  refine zz_iload rfl rfl ?_
  refine zz_iconst rfl ?_
  refine zz_iadd rfl ?_
  refine zz_sld rfl rfl (by omega) ⟨by omega, by omega⟩ ?_
  refine zz_eq e1 ?_
  refine zz_aload_n rfl rfl ?_
  refine zz_iload rfl rfl ?_
  refine zz_iconst rfl ?_
  refine zz_iadd rfl ?_
  refine zz_sld rfl rfl (by omega) ⟨by omega, by omega⟩ ?_
  refine zz_eq e2 ?_
  refine zz_V rfl lk_L_155 cw_M_blur rfl (m0 hA) (md_blur (l := s1) (r := s2) hA hM hk r1 r2) rfl rfl rfl rfl ?_
  rintro _ _ ⟨rfl, X', rfl, hmc⟩
  obtain ⟨hkc, hkr, hLI⟩ := lw_comb he1 ho1 hcs hmc
  refine zaft_u ?_
  refine zz_aload_n rfl rfl ?_
  refine zz_Vp rfl lk_L_99 cw_M_thrown rfl (m0 hA) (ct_Mthrown hA) rfl rfl rfl rfl ?_
  refine zz_iload rfl rfl ?_
  refine zz_icmp_eq rfl ⟨by omega, by omega⟩ ⟨by omega, by omega⟩ (fun hb1116 => ?_) (fun hb1116 => absurd hb1116 (fun h9 => h9 hkc))
  refine zz_goto rfl ?_
  refine Ev.take 5 ?_
  exact kx _ hLI
theorem lw_c16 {b n : Nat} {xs : Nat → Int32} {x o : Nat} {A : Nat → Nat} {i : Nat} {MC MS mc ms : Nat} {Q : ZR → ZH → Prop} (hA : mOk A) (hn : (n : Int) ≤ 3072) (hi : i + 6 ≤ n) (hL : LI h x o A) (kx : ∀ h', LI h' x o A → Ev Z (lwEx b n Z.2.2.2 xs, m_L_law, 10, MC, MS) 1507 [.ref b, .ref x, .ref (A 0), .ref o, zI (i : Nat)] [] h' mc ms Q) : Ev Z (lwEx b n Z.2.2.2 xs, m_L_law, 10, MC, MS) 1124 [.ref b, .ref x, .ref (A 0), .ref o, zI (i : Nat)] [] h (mc + 20) (ms + 4000) Q := by
  obtain ⟨S, X, f, he, hC, hM, ho⟩ := hL
  have hk := hC.oks
  obtain ⟨hi9, pa9, pf9, fv9, cv9, hCR⟩ := id hC
  have hx := hCR.1
  refine zz_aload_n rfl rfl ?_
  refine zz_V rfl lk_L_156 cw_TS_undo rfl hx (fc_undo hC ) rfl rfl rfl rfl ?_
  rintro _ h1 ⟨hf, ⟨hg, rfl, hC1⟩ | ⟨hg1, hg, rfl, hC1⟩ | ⟨-, -, rfl, hC1⟩⟩
  · exact absurd trivial hg
  · exact absurd trivial hg
  refine zaft_v ?_
  have he1 := mH_fr hA he hf.fo ho
  have ho1 := hf _ _ ho rfl
  refine Ev.heap he1 ?_
  refine zz_aload_n rfl rfl ?_
  refine zz_V rfl lk_L_160 cw_M_undo rfl (m0 hA) (md_undo hA hM hk ) rfl rfl rfl rfl ?_
  rintro _ _ ⟨bb, rfl, hbr, X', rfl, hmc⟩
  obtain ⟨-, -, -, hbv, hM1⟩ := (hmc.resolve_left (fun h9 => h9.1 trivial)).resolve_left (fun h9 => h9.2.1 trivial)
  have hLI := LI.mk he1 ho1 hC1 hM1
  refine zaft_v ?_
  refine zz_icmp_eq rfl (hbv ▸ hbr) hbr (fun hb1132 => ?_) (fun hb1132 => absurd hb1132 (fun h9 => h9 hbv.symm))
  refine Ev.take 5 ?_
  exact kx _ hLI
theorem lw_c17 {b n : Nat} {xs : Nat → Int32} {x o : Nat} {A : Nat → Nat} {i : Nat} {MC MS mc ms : Nat} {Q : ZR → ZH → Prop} (hA : mOk A) (hn : (n : Int) ≤ 3072) (hi : i + 6 ≤ n) (hL : LI h x o A) (kx : ∀ h', LI h' x o A → Ev Z (lwEx b n Z.2.2.2 xs, m_L_law, 10, MC, MS) 1507 [.ref b, .ref x, .ref (A 0), .ref o, zI (i : Nat)] [] h' mc ms Q) : Ev Z (lwEx b n Z.2.2.2 xs, m_L_law, 10, MC, MS) 1137 [.ref b, .ref x, .ref (A 0), .ref o, zI (i : Nat)] [] h (mc + 20) (ms + 4000) Q := by
  obtain ⟨S, X, f, he, hC, hM, ho⟩ := hL
  have hk := hC.oks
  obtain ⟨hi9, pa9, pf9, fv9, cv9, hCR⟩ := id hC
  have hx := hCR.1
  refine zz_aload_n rfl rfl ?_
  refine zz_V rfl lk_L_161 cw_TS_redo rfl hx (fc_redo hC ) rfl rfl rfl rfl ?_
  rintro _ h1 ⟨hf, ⟨hg, rfl, hC1⟩ | ⟨hg1, hg, rfl, hC1⟩ | ⟨-, -, rfl, hC1⟩⟩
  · exact absurd trivial hg
  · exact absurd trivial hg
  refine zaft_v ?_
  have he1 := mH_fr hA he hf.fo ho
  have ho1 := hf _ _ ho rfl
  refine Ev.heap he1 ?_
  refine zz_aload_n rfl rfl ?_
  refine zz_V rfl lk_L_164 cw_M_redo rfl (m0 hA) (md_redo hA hM hk ) rfl rfl rfl rfl ?_
  rintro _ _ ⟨bb, rfl, hbr, X', rfl, hmc⟩
  obtain ⟨-, -, -, hbv, hM1⟩ := (hmc.resolve_left (fun h9 => h9.1 trivial)).resolve_left (fun h9 => h9.2.1 trivial)
  have hLI := LI.mk he1 ho1 hC1 hM1
  refine zaft_v ?_
  refine zz_icmp_eq rfl (hbv ▸ hbr) hbr (fun hb1145 => ?_) (fun hb1145 => absurd hb1145 (fun h9 => h9 hbv.symm))
  refine Ev.take 5 ?_
  exact kx _ hLI
theorem lw_c18 {b n : Nat} {xs : Nat → Int32} {x o : Nat} {A : Nat → Nat} {i : Nat} {MC MS mc ms : Nat} {Q : ZR → ZH → Prop} (hA : mOk A) (hn : (n : Int) ≤ 3072) (hi : i + 6 ≤ n) (hL : LI h x o A) (kx : ∀ h', LI h' x o A → Ev Z (lwEx b n Z.2.2.2 xs, m_L_law, 10, MC, MS) 1507 [.ref b, .ref x, .ref (A 0), .ref o, zI (i : Nat)] [] h' mc ms Q) : Ev Z (lwEx b n Z.2.2.2 xs, m_L_law, 10, MC, MS) 1150 [.ref b, .ref x, .ref (A 0), .ref o, zI (i : Nat)] [] h (mc + 20) (ms + 4000) Q := by
  obtain ⟨S, X, f, he, hC, hM, ho⟩ := hL
  have hk := hC.oks
  obtain ⟨hi9, pa9, pf9, fv9, cv9, hCR⟩ := id hC
  have hx := hCR.1
  obtain ⟨s1, e1⟩ : ∃ z, (xs ((i : Int) + 1).toNat).toInt = z := ⟨_, rfl⟩
  have r1 : zrg s1 := e1 ▸ sc_rg _
  refine zz_aload_n rfl rfl ?_
  refine zz_aload_n rfl rfl ?_
  refine zz_iload rfl rfl ?_
  refine zz_iconst rfl ?_
  refine zz_iadd rfl ?_
  refine zz_sld rfl rfl (by omega) ⟨by omega, by omega⟩ ?_
  refine zz_eq e1 ?_
  refine zz_aload_n rfl rfl ?_
  refine zz_SW rfl lk_L_165 cw_L_save (fun _ _ => wk.no) (ct_L_save hx ho (fc_save (m := s1) hC r1)) rfl rfl rfl rfl ?_
  rintro _ h1 ⟨k, rfl, hfo, ⟨f1, ho1, hv1⟩, hcs⟩
  have he1 := mH_fr hA he hfo ho
  refine zaft_v ?_
  refine Ev.heap he1 ?_
  refine zz_istore rfl rfl rfl ?_
  refine zz_aload_n rfl rfl ?_
  refine zz_aload_n rfl rfl ?_
  refine zz_iload rfl rfl ?_
  refine zz_iconst rfl ?_
  refine zz_iadd rfl ?_
  refine zz_sld rfl rfl (by omega) ⟨by omega, by omega⟩ ?_
  refine zz_eq e1 ?_
  refine zz_V rfl lk_L_167 cw_M_save rfl (m0 hA) (md_save (m := s1) hA hM hk r1) rfl rfl rfl rfl ?_
  rintro _ _ ⟨bb, rfl, hbr, X', rfl, hmc⟩
  obtain ⟨hkc, hkr, hLI, hkb⟩ := lw_combI he1 ho1 hv1 hbr hcs hmc
  have ho2 : mH h1 A X' o = some (za 2 1 f1) := mH_out (X := X) (by rw [← he1]; exact ho1)
  refine zaft_v ?_
  refine zz_istore rfl rfl rfl ?_
  refine zz_aload_n rfl rfl ?_
  refine zz_Vp rfl lk_L_99 cw_M_thrown rfl (m0 hA) (ct_Mthrown hA) rfl rfl rfl rfl ?_
  refine zz_iload rfl rfl ?_
  refine zz_icmp_eq rfl ⟨by omega, by omega⟩ ⟨by omega, by omega⟩ (fun hb1181 => ?_) (fun hb1181 => absurd hb1181 (fun h9 => h9 hkc))
  refine zz_iload rfl rfl ?_
  refine zz_if_ne rfl ⟨by omega, by omega⟩ (fun hb1188 => ?_) (fun hb1188 => ?_)
  · skip
    refine zz_goto rfl ?_
    refine Ev.take 5 ?_
    exact kx _ hLI
  · skip
    refine zz_aload_n rfl rfl ?_
    refine zz_iconst rfl ?_
    refine zz_lald rfl ho2 (by decide) ⟨by decide, by decide⟩ ?_
    refine zz_tv (show _ = zJ bb from hkb hb1188) ?_
    refine zz_iload rfl rfl ?_
    refine zz_i2l rfl hbr ?_
    refine zz_lcmp rfl ⟨by have := hbr.1; omega, by have := hbr.2; omega⟩ ⟨by have := hbr.1; omega, by have := hbr.2; omega⟩ ?_
    refine zz_eq (show _ = (0 : Int) from by rw [if_neg (Int.lt_irrefl bb), if_pos rfl]) ?_
    refine zz_if_eq rfl ⟨by decide, by decide⟩ (fun hb1198 => ?_) (fun hb1198 => absurd hb1198 (by decide))
    refine zz_goto rfl ?_
    refine Ev.take 5 ?_
    exact kx _ hLI
theorem lw_c19 {b n : Nat} {xs : Nat → Int32} {x o : Nat} {A : Nat → Nat} {i : Nat} {MC MS mc ms : Nat} {Q : ZR → ZH → Prop} (hA : mOk A) (hn : (n : Int) ≤ 3072) (hi : i + 6 ≤ n) (hL : LI h x o A) (kx : ∀ h', LI h' x o A → Ev Z (lwEx b n Z.2.2.2 xs, m_L_law, 10, MC, MS) 1507 [.ref b, .ref x, .ref (A 0), .ref o, zI (i : Nat)] [] h' mc ms Q) : Ev Z (lwEx b n Z.2.2.2 xs, m_L_law, 10, MC, MS) 1206 [.ref b, .ref x, .ref (A 0), .ref o, zI (i : Nat)] [] h (mc + 20) (ms + 4000) Q := by
  obtain ⟨S, X, f, he, hC, hM, ho⟩ := hL
  have hk := hC.oks
  obtain ⟨hi9, pa9, pf9, fv9, cv9, hCR⟩ := id hC
  have hx := hCR.1
  refine zz_aload_n rfl rfl ?_
  refine zz_SW rfl lk_L_168 cw_L_open (fun _ _ => wk.no) (ct_L_open hx ho (fc_open hC )) rfl rfl rfl rfl ?_
  rintro _ h1 ⟨k, rfl, hfo, ⟨f1, ho1, hv1⟩, hcs⟩
  have he1 := mH_fr hA he hfo ho
  refine zaft_v ?_
  refine Ev.heap he1 ?_
  refine zz_istore rfl rfl rfl ?_
  refine zz_aload_n rfl rfl ?_
  refine zz_V rfl lk_L_171 cw_M_open rfl (m0 hA) (md_open hA hM hk ) rfl rfl rfl rfl ?_
  rintro _ _ ⟨rfl, X', rfl, hmc⟩
  obtain ⟨hkc, hkr, hLI⟩ := lw_comb he1 ho1 hcs hmc
  refine zaft_u ?_
  refine zz_aload_n rfl rfl ?_
  refine zz_Vp rfl lk_L_99 cw_M_thrown rfl (m0 hA) (ct_Mthrown hA) rfl rfl rfl rfl ?_
  refine zz_iload rfl rfl ?_
  refine zz_icmp_eq rfl ⟨by omega, by omega⟩ ⟨by omega, by omega⟩ (fun hb1222 => ?_) (fun hb1222 => absurd hb1222 (fun h9 => h9 hkc))
  refine zz_goto rfl ?_
  refine Ev.take 5 ?_
  exact kx _ hLI
theorem lw_c20 {b n : Nat} {xs : Nat → Int32} {x o : Nat} {A : Nat → Nat} {i : Nat} {MC MS mc ms : Nat} {Q : ZR → ZH → Prop} (hA : mOk A) (hn : (n : Int) ≤ 3072) (hi : i + 6 ≤ n) (hL : LI h x o A) (kx : ∀ h', LI h' x o A → Ev Z (lwEx b n Z.2.2.2 xs, m_L_law, 10, MC, MS) 1507 [.ref b, .ref x, .ref (A 0), .ref o, zI (i : Nat)] [] h' mc ms Q) : Ev Z (lwEx b n Z.2.2.2 xs, m_L_law, 10, MC, MS) 1230 [.ref b, .ref x, .ref (A 0), .ref o, zI (i : Nat)] [] h (mc + 20) (ms + 4000) Q := by
  obtain ⟨S, X, f, he, hC, hM, ho⟩ := hL
  have hk := hC.oks
  obtain ⟨hi9, pa9, pf9, fv9, cv9, hCR⟩ := id hC
  have hx := hCR.1
  obtain ⟨s1, e1⟩ : ∃ z, (xs ((i : Int) + 1).toNat).toInt = z := ⟨_, rfl⟩
  have r1 : zrg s1 := e1 ▸ sc_rg _
  obtain ⟨s2, e2⟩ : ∃ z, (xs ((i : Int) + 2).toNat).toInt = z := ⟨_, rfl⟩
  have r2 : zrg s2 := e2 ▸ sc_rg _
  obtain ⟨s3, e3⟩ : ∃ z, (xs ((i : Int) + 3).toNat).toInt = z := ⟨_, rfl⟩
  have r3 : zrg s3 := e3 ▸ sc_rg _
  obtain ⟨s4, e4⟩ : ∃ z, (xs ((i : Int) + 4).toNat).toInt = z := ⟨_, rfl⟩
  have r4 : zrg s4 := e4 ▸ sc_rg _
  refine zz_aload_n rfl rfl ?_
  refine zz_aload_n rfl rfl ?_
  refine zz_iload rfl rfl ?_
  refine zz_iconst rfl ?_
  refine zz_iadd rfl ?_
  refine zz_sld rfl rfl (by omega) ⟨by omega, by omega⟩ ?_
  refine zz_eq e1 ?_
  refine zz_aload_n rfl rfl ?_
  refine zz_iload rfl rfl ?_
  refine zz_iconst rfl ?_
  refine zz_iadd rfl ?_
  refine zz_sld rfl rfl (by omega) ⟨by omega, by omega⟩ ?_
  refine zz_eq e2 ?_
  refine zz_aload_n rfl rfl ?_
  refine zz_iload rfl rfl ?_
  refine zz_iconst rfl ?_
  refine zz_iadd rfl ?_
  refine zz_sld rfl rfl (by omega) ⟨by omega, by omega⟩ ?_
  refine zz_eq e3 ?_
  refine zz_aload_n rfl rfl ?_
  refine zz_iload rfl rfl ?_
  refine zz_iconst rfl ?_
  refine zz_iadd rfl ?_
  refine zz_sld rfl rfl (by omega) ⟨by omega, by omega⟩ ?_
  refine zz_eq e4 ?_
  refine zz_aload_n rfl rfl ?_
  refine zz_SW rfl lk_L_172 cw_L_dot (fun _ _ => wk.no) (ct_L_dot hx ho (fc_dot (l := s1) (k := s2) (x1 := s3) (y1 := s4) hC r1 r2 r3 r4)) rfl rfl rfl rfl ?_
  rintro _ h1 ⟨k, rfl, hfo, ⟨f1, ho1, hv1⟩, hcs⟩
  have he1 := mH_fr hA he hfo ho
  refine zaft_v ?_
  refine Ev.heap he1 ?_
  refine zz_istore rfl rfl rfl ?_
  refine zz_aload_n rfl rfl ?_
  refine zz_aload_n rfl rfl ?_
  refine zz_iload rfl rfl ?_
  refine zz_iconst rfl ?_
  refine zz_iadd rfl ?_
  refine zz_sld rfl rfl (by omega) ⟨by omega, by omega⟩ ?_
  refine zz_eq e1 ?_
  refine zz_aload_n rfl rfl ?_
  refine zz_iload rfl rfl ?_
  refine zz_iconst rfl ?_
  refine zz_iadd rfl ?_
  refine zz_sld rfl rfl (by omega) ⟨by omega, by omega⟩ ?_
  refine zz_eq e2 ?_
  refine zz_aload_n rfl rfl ?_
  refine zz_iload rfl rfl ?_
  refine zz_iconst rfl ?_
  refine zz_iadd rfl ?_
  refine zz_sld rfl rfl (by omega) ⟨by omega, by omega⟩ ?_
  refine zz_eq e3 ?_
  refine zz_aload_n rfl rfl ?_
  refine zz_iload rfl rfl ?_
  refine zz_iconst rfl ?_
  refine zz_iadd rfl ?_
  refine zz_sld rfl rfl (by omega) ⟨by omega, by omega⟩ ?_
  refine zz_eq e4 ?_
  refine zz_V rfl lk_L_174 cw_M_dot rfl (m0 hA) (md_dot (l := s1) (k := s2) (x1 := s3) (y1 := s4) hA hM hk r1 r2 r3 r4) rfl rfl rfl rfl ?_
  rintro _ _ ⟨bb, rfl, hbr, X', rfl, hmc⟩
  obtain ⟨hkc, hkr, hLI, hkb⟩ := lw_combI he1 ho1 hv1 hbr hcs hmc
  have ho2 : mH h1 A X' o = some (za 2 1 f1) := mH_out (X := X) (by rw [← he1]; exact ho1)
  refine zaft_v ?_
  refine zz_istore rfl rfl rfl ?_
  refine zz_aload_n rfl rfl ?_
  refine zz_Vp rfl lk_L_99 cw_M_thrown rfl (m0 hA) (ct_Mthrown hA) rfl rfl rfl rfl ?_
  refine zz_iload rfl rfl ?_
  refine zz_icmp_eq rfl ⟨by omega, by omega⟩ ⟨by omega, by omega⟩ (fun hb1297 => ?_) (fun hb1297 => absurd hb1297 (fun h9 => h9 hkc))
  refine zz_iload rfl rfl ?_
  refine zz_if_ne rfl ⟨by omega, by omega⟩ (fun hb1304 => ?_) (fun hb1304 => ?_)
  · skip
    refine zz_goto rfl ?_
    refine Ev.take 5 ?_
    exact kx _ hLI
  · skip
    refine zz_aload_n rfl rfl ?_
    refine zz_iconst rfl ?_
    refine zz_lald rfl ho2 (by decide) ⟨by decide, by decide⟩ ?_
    refine zz_tv (show _ = zJ bb from hkb hb1304) ?_
    refine zz_iload rfl rfl ?_
    refine zz_i2l rfl hbr ?_
    refine zz_lcmp rfl ⟨by have := hbr.1; omega, by have := hbr.2; omega⟩ ⟨by have := hbr.1; omega, by have := hbr.2; omega⟩ ?_
    refine zz_eq (show _ = (0 : Int) from by rw [if_neg (Int.lt_irrefl bb), if_pos rfl]) ?_
    refine zz_if_eq rfl ⟨by decide, by decide⟩ (fun hb1314 => ?_) (fun hb1314 => absurd hb1314 (by decide))
    refine zz_goto rfl ?_
    refine Ev.take 5 ?_
    exact kx _ hLI
theorem lw_c21 {b n : Nat} {xs : Nat → Int32} {x o : Nat} {A : Nat → Nat} {i : Nat} {MC MS mc ms : Nat} {Q : ZR → ZH → Prop} (hA : mOk A) (hn : (n : Int) ≤ 3072) (hi : i + 6 ≤ n) (hL : LI h x o A) (kx : ∀ h', LI h' x o A → Ev Z (lwEx b n Z.2.2.2 xs, m_L_law, 10, MC, MS) 1507 [.ref b, .ref x, .ref (A 0), .ref o, zI (i : Nat)] [] h' mc ms Q) : Ev Z (lwEx b n Z.2.2.2 xs, m_L_law, 10, MC, MS) 1322 [.ref b, .ref x, .ref (A 0), .ref o, zI (i : Nat)] [] h (mc + 20) (ms + 4000) Q := by
  obtain ⟨S, X, f, he, hC, hM, ho⟩ := hL
  have hk := hC.oks
  obtain ⟨hi9, pa9, pf9, fv9, cv9, hCR⟩ := id hC
  have hx := hCR.1
  obtain ⟨s1, e1⟩ : ∃ z, (xs ((i : Int) + 1).toNat).toInt = z := ⟨_, rfl⟩
  have r1 : zrg s1 := e1 ▸ sc_rg _
  obtain ⟨s2, e2⟩ : ∃ z, (xs ((i : Int) + 2).toNat).toInt = z := ⟨_, rfl⟩
  have r2 : zrg s2 := e2 ▸ sc_rg _
  obtain ⟨s3, e3⟩ : ∃ z, (xs ((i : Int) + 3).toNat).toInt = z := ⟨_, rfl⟩
  have r3 : zrg s3 := e3 ▸ sc_rg _
  refine zz_aload_n rfl rfl ?_
  refine zz_aload_n rfl rfl ?_
  refine zz_iload rfl rfl ?_
  refine zz_iconst rfl ?_
  refine zz_iadd rfl ?_
  refine zz_sld rfl rfl (by omega) ⟨by omega, by omega⟩ ?_
  refine zz_eq e1 ?_
  refine zz_aload_n rfl rfl ?_
  refine zz_iload rfl rfl ?_
  refine zz_iconst rfl ?_
  refine zz_iadd rfl ?_
  refine zz_sld rfl rfl (by omega) ⟨by omega, by omega⟩ ?_
  refine zz_eq e2 ?_
  refine zz_aload_n rfl rfl ?_
  refine zz_iload rfl rfl ?_
  refine zz_iconst rfl ?_
  refine zz_iadd rfl ?_
  refine zz_sld rfl rfl (by omega) ⟨by omega, by omega⟩ ?_
  refine zz_eq e3 ?_
  refine zz_aload_n rfl rfl ?_
  refine zz_SW rfl lk_L_175 cw_L_view (fun _ _ => wk.no) (ct_L_view hx ho (fc_view (k := s1) (x1 := s2) (y1 := s3) hC r1 r2 r3)) rfl rfl rfl rfl ?_
  rintro _ h1 ⟨k, rfl, hfo, ⟨f1, ho1, hv1⟩, hcs⟩
  have he1 := mH_fr hA he hfo ho
  refine zaft_v ?_
  refine Ev.heap he1 ?_
  refine zz_istore rfl rfl rfl ?_
  refine zz_aload_n rfl rfl ?_
  refine zz_aload_n rfl rfl ?_
  refine zz_iload rfl rfl ?_
  refine zz_iconst rfl ?_
  refine zz_iadd rfl ?_
  refine zz_sld rfl rfl (by omega) ⟨by omega, by omega⟩ ?_
  refine zz_eq e1 ?_
  refine zz_aload_n rfl rfl ?_
  refine zz_iload rfl rfl ?_
  refine zz_iconst rfl ?_
  refine zz_iadd rfl ?_
  refine zz_sld rfl rfl (by omega) ⟨by omega, by omega⟩ ?_
  refine zz_eq e2 ?_
  refine zz_aload_n rfl rfl ?_
  refine zz_iload rfl rfl ?_
  refine zz_iconst rfl ?_
  refine zz_iadd rfl ?_
  refine zz_sld rfl rfl (by omega) ⟨by omega, by omega⟩ ?_
  refine zz_eq e3 ?_
  refine zz_V rfl lk_L_177 cw_M_view rfl (m0 hA) (md_view (k := s1) (x1 := s2) (y1 := s3) hA hM hk r1 r2 r3) rfl rfl rfl rfl ?_
  rintro _ _ ⟨bb, rfl, hbr, X', rfl, hmc⟩
  obtain ⟨hkc, hkr, hLI, hkb⟩ := lw_combI he1 ho1 hv1 hbr hcs hmc
  have ho2 : mH h1 A X' o = some (za 2 1 f1) := mH_out (X := X) (by rw [← he1]; exact ho1)
  refine zaft_v ?_
  refine zz_istore rfl rfl rfl ?_
  refine zz_aload_n rfl rfl ?_
  refine zz_Vp rfl lk_L_99 cw_M_thrown rfl (m0 hA) (ct_Mthrown hA) rfl rfl rfl rfl ?_
  refine zz_iload rfl rfl ?_
  refine zz_icmp_eq rfl ⟨by omega, by omega⟩ ⟨by omega, by omega⟩ (fun hb1377 => ?_) (fun hb1377 => absurd hb1377 (fun h9 => h9 hkc))
  refine zz_iload rfl rfl ?_
  refine zz_if_ne rfl ⟨by omega, by omega⟩ (fun hb1384 => ?_) (fun hb1384 => ?_)
  · skip
    refine zz_goto rfl ?_
    refine Ev.take 5 ?_
    exact kx _ hLI
  · skip
    refine zz_aload_n rfl rfl ?_
    refine zz_iconst rfl ?_
    refine zz_lald rfl ho2 (by decide) ⟨by decide, by decide⟩ ?_
    refine zz_tv (show _ = zJ bb from hkb hb1384) ?_
    refine zz_iload rfl rfl ?_
    refine zz_i2l rfl hbr ?_
    refine zz_lcmp rfl ⟨by have := hbr.1; omega, by have := hbr.2; omega⟩ ⟨by have := hbr.1; omega, by have := hbr.2; omega⟩ ?_
    refine zz_eq (show _ = (0 : Int) from by rw [if_neg (Int.lt_irrefl bb), if_pos rfl]) ?_
    refine zz_if_eq rfl ⟨by decide, by decide⟩ (fun hb1394 => ?_) (fun hb1394 => absurd hb1394 (by decide))
    refine zz_goto rfl ?_
    refine Ev.take 5 ?_
    exact kx _ hLI
theorem lw_c22 {b n : Nat} {xs : Nat → Int32} {x o : Nat} {A : Nat → Nat} {i : Nat} {MC MS mc ms : Nat} {Q : ZR → ZH → Prop} (hA : mOk A) (hn : (n : Int) ≤ 3072) (hi : i + 6 ≤ n) (hL : LI h x o A) (kx : ∀ h', LI h' x o A → Ev Z (lwEx b n Z.2.2.2 xs, m_L_law, 10, MC, MS) 1507 [.ref b, .ref x, .ref (A 0), .ref o, zI (i : Nat)] [] h' mc ms Q) : Ev Z (lwEx b n Z.2.2.2 xs, m_L_law, 10, MC, MS) 1402 [.ref b, .ref x, .ref (A 0), .ref o, zI (i : Nat)] [] h (mc + 20) (ms + 4000) Q := by
  obtain ⟨S, X, f, he, hC, hM, ho⟩ := hL
  have hk := hC.oks
  obtain ⟨hi9, pa9, pf9, fv9, cv9, hCR⟩ := id hC
  have hx := hCR.1
  obtain ⟨s1, e1⟩ : ∃ z, (xs ((i : Int) + 1).toNat).toInt = z := ⟨_, rfl⟩
  have r1 : zrg s1 := e1 ▸ sc_rg _
  obtain ⟨s2, e2⟩ : ∃ z, (xs ((i : Int) + 2).toNat).toInt = z := ⟨_, rfl⟩
  have r2 : zrg s2 := e2 ▸ sc_rg _
  obtain ⟨s3, e3⟩ : ∃ z, (xs ((i : Int) + 3).toNat).toInt = z := ⟨_, rfl⟩
  have r3 : zrg s3 := e3 ▸ sc_rg _
  refine zz_aload_n rfl rfl ?_
  refine zz_aload_n rfl rfl ?_
  refine zz_iload rfl rfl ?_
  refine zz_iconst rfl ?_
  refine zz_iadd rfl ?_
  refine zz_sld rfl rfl (by omega) ⟨by omega, by omega⟩ ?_
  refine zz_eq e1 ?_
  refine zz_aload_n rfl rfl ?_
  refine zz_iload rfl rfl ?_
  refine zz_iconst rfl ?_
  refine zz_iadd rfl ?_
  refine zz_sld rfl rfl (by omega) ⟨by omega, by omega⟩ ?_
  refine zz_eq e2 ?_
  refine zz_aload_n rfl rfl ?_
  refine zz_iload rfl rfl ?_
  refine zz_iconst rfl ?_
  refine zz_iadd rfl ?_
  refine zz_sld rfl rfl (by omega) ⟨by omega, by omega⟩ ?_
  refine zz_eq e3 ?_
  refine zz_aload_n rfl rfl ?_
  refine zz_SW rfl lk_L_178 cw_L_histogram (fun _ _ => wk.no) (ct_L_histogram hx ho (fc_hist (l := s1) (c := s2) (v := s3) hC r1 r2 r3)) rfl rfl rfl rfl ?_
  rintro _ h1 ⟨k, rfl, hfo, ⟨f1, ho1, hv1⟩, hcs⟩
  have he1 := mH_fr hA he hfo ho
  refine zaft_v ?_
  refine Ev.heap he1 ?_
  refine zz_istore rfl rfl rfl ?_
  refine zz_aload_n rfl rfl ?_
  refine zz_aload_n rfl rfl ?_
  refine zz_iload rfl rfl ?_
  refine zz_iconst rfl ?_
  refine zz_iadd rfl ?_
  refine zz_sld rfl rfl (by omega) ⟨by omega, by omega⟩ ?_
  refine zz_eq e1 ?_
  refine zz_aload_n rfl rfl ?_
  refine zz_iload rfl rfl ?_
  refine zz_iconst rfl ?_
  refine zz_iadd rfl ?_
  refine zz_sld rfl rfl (by omega) ⟨by omega, by omega⟩ ?_
  refine zz_eq e2 ?_
  refine zz_aload_n rfl rfl ?_
  refine zz_iload rfl rfl ?_
  refine zz_iconst rfl ?_
  refine zz_iadd rfl ?_
  refine zz_sld rfl rfl (by omega) ⟨by omega, by omega⟩ ?_
  refine zz_eq e3 ?_
  refine zz_V rfl lk_L_180 cw_M_histogram rfl (m0 hA) (md_hist (l := s1) (c := s2) (v := s3) hA hM hk r1 r2 r3) rfl rfl rfl rfl ?_
  rintro _ _ ⟨bb, rfl, hbr, X', rfl, hmc⟩
  obtain ⟨hkc, hkr, hLI, hkb⟩ := lw_combI he1 ho1 hv1 hbr hcs hmc
  have ho2 : mH h1 A X' o = some (za 2 1 f1) := mH_out (X := X) (by rw [← he1]; exact ho1)
  refine zaft_v ?_
  refine zz_istore rfl rfl rfl ?_
  refine zz_aload_n rfl rfl ?_
  refine zz_Vp rfl lk_L_99 cw_M_thrown rfl (m0 hA) (ct_Mthrown hA) rfl rfl rfl rfl ?_
  refine zz_iload rfl rfl ?_
  refine zz_icmp_eq rfl ⟨by omega, by omega⟩ ⟨by omega, by omega⟩ (fun hb1457 => ?_) (fun hb1457 => absurd hb1457 (fun h9 => h9 hkc))
  refine zz_iload rfl rfl ?_
  refine zz_if_ne rfl ⟨by omega, by omega⟩ (fun hb1464 => ?_) (fun hb1464 => ?_)
  · skip
    refine zz_goto rfl ?_
    refine Ev.take 5 ?_
    exact kx _ hLI
  · skip
    refine zz_aload_n rfl rfl ?_
    refine zz_iconst rfl ?_
    refine zz_lald rfl ho2 (by decide) ⟨by decide, by decide⟩ ?_
    refine zz_tv (show _ = zJ bb from hkb hb1464) ?_
    refine zz_iload rfl rfl ?_
    refine zz_i2l rfl hbr ?_
    refine zz_lcmp rfl ⟨by have := hbr.1; omega, by have := hbr.2; omega⟩ ⟨by have := hbr.1; omega, by have := hbr.2; omega⟩ ?_
    refine zz_eq (show _ = (0 : Int) from by rw [if_neg (Int.lt_irrefl bb), if_pos rfl]) ?_
    refine zz_if_eq rfl ⟨by decide, by decide⟩ (fun hb1474 => ?_) (fun hb1474 => absurd hb1474 (by decide))
    refine zz_goto rfl ?_
    refine Ev.take 5 ?_
    exact kx _ hLI
theorem lw_c23 {b n : Nat} {xs : Nat → Int32} {x o : Nat} {A : Nat → Nat} {i : Nat} {MC MS mc ms : Nat} {Q : ZR → ZH → Prop} (hA : mOk A) (hn : (n : Int) ≤ 3072) (hi : i + 6 ≤ n) (hL : LI h x o A) (kx : ∀ h', LI h' x o A → Ev Z (lwEx b n Z.2.2.2 xs, m_L_law, 10, MC, MS) 1507 [.ref b, .ref x, .ref (A 0), .ref o, zI (i : Nat)] [] h' mc ms Q) : Ev Z (lwEx b n Z.2.2.2 xs, m_L_law, 10, MC, MS) 1482 [.ref b, .ref x, .ref (A 0), .ref o, zI (i : Nat)] [] h (mc + 20) (ms + 4000) Q := by
  obtain ⟨S, X, f, he, hC, hM, ho⟩ := hL
  have hk := hC.oks
  obtain ⟨hi9, pa9, pf9, fv9, cv9, hCR⟩ := id hC
  have hx := hCR.1
  obtain ⟨s1, e1⟩ : ∃ z, (xs ((i : Int) + 1).toNat).toInt = z := ⟨_, rfl⟩
  have r1 : zrg s1 := e1 ▸ sc_rg _
  refine zz_aload_n rfl rfl ?_
  refine zz_aload_n rfl rfl ?_
  refine zz_iload rfl rfl ?_
  refine zz_iconst rfl ?_
  refine zz_iadd rfl ?_
  refine zz_sld rfl rfl (by omega) ⟨by omega, by omega⟩ ?_
  refine zz_eq e1 ?_
  refine zz_V rfl lk_L_181 cw_TS_count rfl hx (fc_count (k := s1) hC r1) rfl rfl rfl rfl ?_
  rintro _ h1 ⟨hf, ⟨hg, rfl, hC1⟩ | ⟨hg1, hg, rfl, hC1⟩ | ⟨-, -, rfl, hC1⟩⟩
  · exact absurd trivial hg
  · exact absurd trivial hg
  refine zaft_v ?_
  have he1 := mH_fr hA he hf.fo ho
  have ho1 := hf _ _ ho rfl
  refine Ev.heap he1 ?_
  refine zz_aload_n rfl rfl ?_
  refine zz_aload_n rfl rfl ?_
  refine zz_iload rfl rfl ?_
  refine zz_iconst rfl ?_
  refine zz_iadd rfl ?_
  refine zz_sld rfl rfl (by omega) ⟨by omega, by omega⟩ ?_
  refine zz_eq e1 ?_
  refine zz_V rfl lk_L_184 cw_M_count rfl (m0 hA) (md_count (k := s1) hA hM hk r1) rfl rfl rfl rfl ?_
  rintro _ _ ⟨bb, rfl, hbr, X', rfl, hmc⟩
  obtain ⟨-, -, -, hbv, hM1⟩ := (hmc.resolve_left (fun h9 => h9.1 trivial)).resolve_left (fun h9 => h9.2.1 trivial)
  have hLI := LI.mk he1 ho1 hC1 hM1
  refine zaft_v ?_
  refine zz_icmp_eq rfl (hbv ▸ hbr) hbr (fun hb1502 => ?_) (fun hb1502 => absurd hb1502 (fun h9 => h9 hbv.symm))
  refine Ev.take 5 ?_
  exact kx _ hLI
theorem lw_loop {b n : Nat} {xs : Nat → Int32} {x o : Nat} {A : Nat → Nat} {MC MS : Nat} (hA : mOk A) (hn : n ≤ 3072) : ∀ (r i : Nat) (h : ZH), i + 6 * r = 3072 → LI h x o A → Ev Z (lwEx b n Z.2.2.2 xs, m_L_law, 10, MC, MS) 23 [.ref b, .ref x, .ref (A 0), .ref o, zI (i : Nat)] [] h (20 * r) (4000 * r) (fun r _ => r = .inl (some (zI 1))) := by
  intro r
  induction r with
  | zero =>
    intro i h hi hL
    refine zz_iload rfl rfl ?_
    refine zz_aload_n rfl rfl ?_
    refine zz_slen rfl rfl ?_
    refine zz_bipush rfl (by decide) ?_
    refine zz_isub rfl ?_
    refine zz_icmp_gt rfl (by omega) (by omega) (fun hb30 => ?_) (fun hb30 => absurd hb30 (by omega))
    refine zz_iconst rfl ?_
    refine zz_zret rfl rfl rfl rfl
  | succ r ih =>
    intro i h hi hL
    refine Ev.bud (mc' := 20 * r + 20) (ms' := 4000 * r + 4000) (by omega) (by omega) ?_
    have kx : ∀ h', LI h' x o A → Ev Z (lwEx b n Z.2.2.2 xs, m_L_law, 10, MC, MS) 1507 [.ref b, .ref x, .ref (A 0), .ref o, zI (i : Nat)] [] h' (20 * r) (4000 * r) (fun r _ => r = .inl (some (zI 1))) := by
      intro h' hL'
      refine zz_iincK ((i + 6 : Nat) : Int) rfl rfl rfl rfl (by omega) ?_
      refine zz_goto rfl ?_
      exact ih (i + 6) h' (by omega) hL'
    by_cases hin : i + 6 ≤ n
    · obtain ⟨z, ez⟩ : ∃ z, (xs (i : Int).toNat).toInt % 32 = z := ⟨_, rfl⟩
      have rz : 0 ≤ z ∧ z < 32 := by omega
      refine zz_iload rfl rfl ?_
      refine zz_aload_n rfl rfl ?_
      refine zz_slen rfl rfl ?_
      refine zz_bipush rfl (by decide) ?_
      refine zz_isub rfl ?_
      refine zz_icmp_gt rfl (by omega) (by omega) (fun hb30 => absurd hb30 (by omega)) (fun hb30 => ?_)
      refine zz_aload_n rfl rfl ?_
      refine zz_iload rfl rfl ?_
      refine zz_sld rfl rfl (by omega) ⟨by omega, by omega⟩ ?_
      refine zz_bipush rfl (by decide) ?_
      refine zz_iand rfl (zq_m31 _) ?_
      refine zz_eq ez ?_
      by_cases h24 : z ≤ 23
      · have hz : z = 0 ∨ z = 1 ∨ z = 2 ∨ z = 3 ∨ z = 4 ∨ z = 5 ∨ z = 6 ∨ z = 7 ∨ z = 8 ∨ z = 9 ∨ z = 10 ∨ z = 11 ∨ z = 12 ∨ z = 13 ∨ z = 14 ∨ z = 15 ∨ z = 16 ∨ z = 17 ∨ z = 18 ∨ z = 19 ∨ z = 20 ∨ z = 21 ∨ z = 22 ∨ z = 23 := by omega
        rcases hz with rfl | rfl | rfl | rfl | rfl | rfl | rfl | rfl | rfl | rfl | rfl | rfl | rfl | rfl | rfl | rfl | rfl | rfl | rfl | rfl | rfl | rfl | rfl | rfl
        · exact zz_tsw (tg := 152) rfl (by decide) (by decide) (by decide) rfl rfl (lw_c0 hA (by omega) hin hL kx)
        · exact zz_tsw (tg := 200) rfl (by decide) (by decide) (by decide) rfl rfl (lw_c1 hA (by omega) hin hL kx)
        · exact zz_tsw (tg := 236) rfl (by decide) (by decide) (by decide) rfl rfl (lw_c2 hA (by omega) hin hL kx)
        · exact zz_tsw (tg := 272) rfl (by decide) (by decide) (by decide) rfl rfl (lw_c3 hA (by omega) hin hL kx)
        · exact zz_tsw (tg := 320) rfl (by decide) (by decide) (by decide) rfl rfl (lw_c4 hA (by omega) hin hL kx)
        · exact zz_tsw (tg := 408) rfl (by decide) (by decide) (by decide) rfl rfl (lw_c5 hA (by omega) hin hL kx)
        · exact zz_tsw (tg := 500) rfl (by decide) (by decide) (by decide) rfl rfl (lw_c6 hA (by omega) hin hL kx)
        · exact zz_tsw (tg := 548) rfl (by decide) (by decide) (by decide) rfl rfl (lw_c7 hA (by omega) hin hL kx)
        · exact zz_tsw (tg := 596) rfl (by decide) (by decide) (by decide) rfl rfl (lw_c8 hA (by omega) hin hL kx)
        · exact zz_tsw (tg := 668) rfl (by decide) (by decide) (by decide) rfl rfl (lw_c9 hA (by omega) hin hL kx)
        · exact zz_tsw (tg := 728) rfl (by decide) (by decide) (by decide) rfl rfl (lw_c10 hA (by omega) hin hL kx)
        · exact zz_tsw (tg := 832) rfl (by decide) (by decide) (by decide) rfl rfl (lw_c11 hA (by omega) hin hL kx)
        · exact zz_tsw (tg := 888) rfl (by decide) (by decide) (by decide) rfl rfl (lw_c12 hA (by omega) hin hL kx)
        · exact zz_tsw (tg := 968) rfl (by decide) (by decide) (by decide) rfl rfl (lw_c13 hA (by omega) hin hL kx)
        · exact zz_tsw (tg := 1016) rfl (by decide) (by decide) (by decide) rfl rfl (lw_c14 hA (by omega) hin hL kx)
        · exact zz_tsw (tg := 1076) rfl (by decide) (by decide) (by decide) rfl rfl (lw_c15 hA (by omega) hin hL kx)
        · exact zz_tsw (tg := 1124) rfl (by decide) (by decide) (by decide) rfl rfl (lw_c16 hA (by omega) hin hL kx)
        · exact zz_tsw (tg := 1137) rfl (by decide) (by decide) (by decide) rfl rfl (lw_c17 hA (by omega) hin hL kx)
        · exact zz_tsw (tg := 1150) rfl (by decide) (by decide) (by decide) rfl rfl (lw_c18 hA (by omega) hin hL kx)
        · exact zz_tsw (tg := 1206) rfl (by decide) (by decide) (by decide) rfl rfl (lw_c19 hA (by omega) hin hL kx)
        · exact zz_tsw (tg := 1230) rfl (by decide) (by decide) (by decide) rfl rfl (lw_c20 hA (by omega) hin hL kx)
        · exact zz_tsw (tg := 1322) rfl (by decide) (by decide) (by decide) rfl rfl (lw_c21 hA (by omega) hin hL kx)
        · exact zz_tsw (tg := 1402) rfl (by decide) (by decide) (by decide) rfl rfl (lw_c22 hA (by omega) hin hL kx)
        · exact zz_tsw (tg := 1482) rfl (by decide) (by decide) (by decide) rfl rfl (lw_c23 hA (by omega) hin hL kx)
      · exact zz_tswD (tg := 1507) rfl ⟨by omega, by omega⟩ (Or.inr (by omega)) rfl (Ev.bud (by omega) (by omega) (kx h hL))
    · skip
      refine zz_iload rfl rfl ?_
      refine zz_aload_n rfl rfl ?_
      refine zz_slen rfl rfl ?_
      refine zz_bipush rfl (by decide) ?_
      refine zz_isub rfl ?_
      refine zz_icmp_gt rfl (by omega) (by omega) (fun hb30 => ?_) (fun hb30 => absurd hb30 (by omega))
      refine zz_iconst rfl ?_
      refine zz_zret rfl rfl rfl rfl
end LAW
