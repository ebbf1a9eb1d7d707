section BL
variable {Z : ZC} {h : ZH}
theorem lp_sum_i {a da w ht : Nat} {f : Nat → Int} {md op vs : Int} (hp : isLy h a da w ht f md op vs) (hh : ht ≤ 24) (hw : w ≤ 24) {sa : Nat} {old : Nat → Int} {mid r : Int} (hs : h sa = some (zi 0 (4 * w) old)) (hsd : sa ≠ da) (hmid : 0 ≤ mid ∧ mid < 24) (hr : 1 ≤ r ∧ r ≤ 4) {MC MS mc ms : Nat} {Q : ZR → ZH → Prop} {i : Int} (hi : 0 ≤ i ∧ i < 4 * w) (kx : Ev Z (fun _ => True, m_TS_sumColumns, 2, MC, MS) 54 [.ref a, zI mid, zI r, .ref sa, zI i, zI (zcl f w ht (i / 4) (i % 4) (mid - r) (2 * r + 1).toNat), zI (mid - r + ((2 * r + 1).toNat : Nat))] [] (zset h sa (zi 0 (4 * w) (zcls2 f w ht (mid - r) (2 * r + 1).toNat old (i)))) mc ms Q) : ∀ (m k : Nat), k + m = (2 * r + 1).toNat → Ev Z (fun _ => True, m_TS_sumColumns, 2, MC, MS) 18 [.ref a, zI mid, zI r, .ref sa, zI i, zI (zcl f w ht (i / 4) (i % 4) (mid - r) k), zI (mid - r + (k : Nat))] [] (zset h sa (zi 0 (4 * w) (zcls2 f w ht (mid - r) (2 * r + 1).toNat old (i)))) mc ms Q := by
  intro m
  induction m with
  | zero =>
    intro k hkn
    refine zz_iload rfl rfl ?_
    refine zz_iload_n rfl rfl ?_
    refine zz_iload_n rfl rfl ?_
    refine zz_iadd rfl ?_
    refine zz_icmp_gt rfl (by omega) (by omega) (fun hb23 => ?_) (fun hb23 => absurd hb23 (by omega))
    obtain rfl : k = (2 * r + 1).toNat := by omega
    exact kx
  | succ m ih =>
    intro k hkn
    have hc := zcl_rg f w ht (i / 4) (i % 4) (mid - r) k
    refine zz_iload rfl rfl ?_
    refine zz_iload_n rfl rfl ?_
    refine zz_iload_n rfl rfl ?_
    refine zz_iadd rfl ?_
    refine zz_icmp_gt rfl (by omega) (by omega) (fun hb23 => absurd hb23 (by omega)) (fun hb23 => ?_)
    refine zz_iload rfl rfl ?_
    refine zz_aload_n rfl rfl ?_
    refine zz_iload rfl rfl ?_
    refine zz_iconst rfl ?_
    refine zz_idivP rfl (by omega) (by omega) ?_
    refine zz_iload rfl rfl ?_
    refine zz_Vp rfl lk_TS_157 cw_Layer_dotAt rfl (zoth hs hp.1 zkio) (ct_dotAt (show isLy (zset h sa _) a da w ht f md op vs from ⟨zoth hs hp.1 zkio, by rw [zset_ne hsd.symm]; exact hp.2⟩) ⟨by omega, by omega⟩ ⟨by omega, by omega⟩ hh hw) rfl rfl rfl rfl ?_
    refine zz_iload rfl rfl ?_
    refine zz_iconst rfl ?_
    refine zz_iremP rfl (by omega) (by omega) ?_
    refine zz_Sp rfl lk_TS_233 cw_Dots_byteOf (ct_byteOf ⟨by omega, by omega⟩) rfl rfl rfl rfl ?_
    refine zz_iadd rfl ?_
    refine zz_eq (show _ = zcl f w ht (i / 4) (i % 4) (mid - r) (k + 1) from rfl) ?_
    refine zz_istore rfl rfl rfl ?_
    refine zz_iincK (mid - r + ((k + 1 : Nat) : Int)) rfl rfl rfl rfl (by omega) ?_
    refine zz_goto rfl ?_
    exact ih (k + 1) (by omega)
theorem lp_sum_o {a da w ht : Nat} {f : Nat → Int} {md op vs : Int} (hp : isLy h a da w ht f md op vs) (hh : ht ≤ 24) (hw : w ≤ 24) {sa : Nat} {old : Nat → Int} {mid r : Int} (hs : h sa = some (zi 0 (4 * w) old)) (hsd : sa ≠ da) (hmid : 0 ≤ mid ∧ mid < 24) (hr : 1 ≤ r ∧ r ≤ 4) {MC MS mc ms : Nat} {Q : ZR → ZH → Prop} (kx : Ev Z (fun _ => True, m_TS_sumColumns, 2, MC, MS) 66 [.ref a, zI mid, zI r, .ref sa, zI (4 * w)] [] (zset h sa (zi 0 (4 * w) (zcls2 f w ht (mid - r) (2 * r + 1).toNat old (4 * w)))) mc ms Q) : ∀ (m : Nat) (i : Int), 0 ≤ i → i + m = 4 * w → Ev Z (fun _ => True, m_TS_sumColumns, 2, MC, MS) 3 [.ref a, zI mid, zI r, .ref sa, zI (i)] [] (zset h sa (zi 0 (4 * w) (zcls2 f w ht (mid - r) (2 * r + 1).toNat old (i)))) mc ms Q := by
  intro m
  induction m with
  | zero =>
    intro i hi0 hin
    refine zz_iload rfl rfl ?_
    refine zz_aload_n rfl rfl ?_
    refine zz_alenI rfl (zset_same _ _ _) ?_
    refine zz_icmp_ge rfl (by omega) (by omega) (fun hb7 => ?_) (fun hb7 => absurd hb7 (by omega))
    obtain rfl : i = 4 * (w : Int) := by omega
    exact kx
  | succ m ih =>
    intro i hi0 hin
    refine zz_iload rfl rfl ?_
    refine zz_aload_n rfl rfl ?_
    refine zz_alenI rfl (zset_same _ _ _) ?_
    refine zz_icmp_ge rfl (by omega) (by omega) (fun hb7 => absurd hb7 (by omega)) (fun hb7 => ?_)
    refine zz_iconst rfl ?_
    refine zz_istore rfl rfl rfl ?_
    refine zz_iload_n rfl rfl ?_
    refine zz_iload_n rfl rfl ?_
    refine zz_isub rfl ?_
    refine zz_istore rfl rfl rfl ?_
    have hst : zcl f w ht (i / 4) (i % 4) (mid - r) 0 = 0 := rfl
    refine Ev.loc (L' := [.ref a, zI mid, zI r, .ref sa, zI i, zI (zcl f w ht (i / 4) (i % 4) (mid - r) 0), zI (mid - r + (0 : Nat))]) (fun u v hv _ => by rw [hst, show mid - r + ((0 : Nat) : Int) = mid - r from by omega] at hv; exact hv) ?_
    refine lp_sum_i hp hh hw hs hsd hmid hr ⟨hi0, by omega⟩ ?_ (2 * r + 1).toNat 0 (by omega)
    refine zz_aload_n rfl rfl ?_
    refine zz_iload rfl rfl ?_
    refine zz_iload rfl rfl ?_
    refine zz_iast rfl (zset_same _ _ _) (by omega) (by omega) ?_
    refine zz_iinc rfl rfl rfl rfl ?_
    refine zz_goto rfl ?_
    refine Ev.take 5 ?_
    refine Ev.heap (show _ = (zset h sa (zi 0 (4 * w) (zcls2 f w ht (mid - r) (2 * r + 1).toNat old (i + 1)))) from by rw [zset_set, zcls2_up hi0]) ?_
    exact ih (i + 1) (by omega) (by omega)
theorem ct_sumColumns {a da w ht : Nat} {f : Nat → Int} {md op vs : Int} (hp : isLy h a da w ht f md op vs) (hh : ht ≤ 24) (hw : w ≤ 24) {sa : Nat} {old : Nat → Int} {mid r : Int} (hs : h sa = some (zi 0 (4 * w) old)) (hsd : sa ≠ da) (hmid : 0 ≤ mid ∧ mid < 24) (hr : 1 ≤ r ∧ r ≤ 4) : Ct Z m_TS_sumColumns 2 0 0 [.ref a, zI mid, zI r, .ref sa] h (zV (zset h sa (zi 0 (4 * w) (zcls2 f w ht (mid - r) (2 * r + 1).toNat old (4 * w))))) := by
  refine zct rfl (by decide) ok_TS_sumColumns rfl rfl ?_
  refine zz_iconst rfl ?_
  refine zz_istore rfl rfl rfl ?_
  refine Ev.heap (show h = (zset h sa (zi 0 (4 * w) (zcls2 f w ht (mid - r) (2 * r + 1).toNat old (0)))) from by rw [← zcls2_0, zset_id hs]) ?_
  exact lp_sum_o hp hh hw hs hsd hmid hr (zz_vret rfl rfl ⟨rfl, rfl⟩) (4 * w) 0 (by omega) (by omega)
theorem lp_bd {sa w : Nat} {s : Nat → Int} {x r fi la pa dt c : Int} (hs : h sa = some (zi 0 (4 * w) s)) (hw : w ≤ 24) (hr : 1 ≤ r ∧ r ≤ 4) (hsr : ∀ k, 0 ≤ s k ∧ s k ≤ 2295) (hfi : 0 ≤ fi ∧ fi ≤ la) (hla : la < w) (hll : la - fi ≤ 8) (hc : 0 ≤ c ∧ c ≤ 3) {MC MS mc ms : Nat} {Q : ZR → ZH → Prop} (kx : Ev Z (fun _ => True, m_TS_blurredDot, 1, MC, MS) 80 [.ref sa, zI x, zI r, zI fi, zI la, zI pa, zI dt, zI c, zI (zsum (fun t => s (4 * (fi + (t : Int)) + c).toNat) ((la - fi + 1).toNat)), zI (la + 1)] [] h mc ms Q) : ∀ (m k : Nat), (k : Int) + m = la - fi + 1 → Ev Z (fun _ => True, m_TS_blurredDot, 1, MC, MS) 53 [.ref sa, zI x, zI r, zI fi, zI la, zI pa, zI dt, zI c, zI (zsum (fun t => s (4 * (fi + (t : Int)) + c).toNat) (k)), zI (fi + (k : Nat))] [] h mc ms Q := by
  intro m
  induction m with
  | zero =>
    intro k hkn
    refine zz_iload rfl rfl ?_
    refine zz_iload rfl rfl ?_
    refine zz_icmp_gt rfl (by omega) (by omega) (fun hb57 => ?_) (fun hb57 => absurd hb57 (by omega))
    have e1 : (la - fi + 1).toNat = k := by omega
    have e2 : la + 1 = fi + (k : Nat) := by omega
    rw [e1, e2] at kx
    exact kx
  | succ m ih =>
    intro k hkn
    have hz := zsum_rg (F := fun t => s (4 * (fi + (t : Int)) + c).toNat) (B := 2295) k (fun i _ => hsr _)
    refine zz_iload rfl rfl ?_
    refine zz_iload rfl rfl ?_
    refine zz_icmp_gt rfl (by omega) (by omega) (fun hb57 => absurd hb57 (by omega)) (fun hb57 => ?_)
    refine zz_iload rfl rfl ?_
    refine zz_aload_n rfl rfl ?_
    refine zz_iconst rfl ?_
    refine zz_iload rfl rfl ?_
    refine zz_imul rfl ?_
    refine zz_iload rfl rfl ?_
    refine zz_iadd rfl ?_
    refine zz_iald rfl hs (by omega) (by omega) ?_
    refine zz_iadd rfl ?_
    refine zz_eq (show _ = zsum (fun t => s (4 * (fi + (t : Int)) + c).toNat) ((k + 1)) from rfl) ?_
    refine zz_istore rfl rfl rfl ?_
    refine zz_iincK (fi + ((k + 1 : Nat) : Int)) rfl rfl rfl rfl (by omega) ?_
    refine zz_goto rfl ?_
    exact ih (k + 1) (by omega)
theorem ct_blurredDot {sa w : Nat} {s : Nat → Int} {x r : Int} (hs : h sa = some (zi 0 (4 * w) s)) (hw : w ≤ 24) (hr : 1 ≤ r ∧ r ≤ 4) (hx : 0 ≤ x ∧ x < w) (hsr : ∀ k, 0 ≤ s k ∧ s k ≤ (2 * r + 1) * 255) : Ct Z m_TS_blurredDot 1 0 0 [.ref sa, zI x, zI r] h (zP (zI (zdot ((zsum (fun t => s (4 * ((if (0 : Int) < x - r then x - r else 0) + (t : Int)) + 0).toNat) ((if x + r < (w : Int) - 1 then x + r else (w : Int) - 1) - (if (0 : Int) < x - r then x - r else 0) + 1).toNat + (2 * r + 1) * (2 * r + 1) / 2) / ((2 * r + 1) * (2 * r + 1))) ((zsum (fun t => s (4 * ((if (0 : Int) < x - r then x - r else 0) + (t : Int)) + 1).toNat) ((if x + r < (w : Int) - 1 then x + r else (w : Int) - 1) - (if (0 : Int) < x - r then x - r else 0) + 1).toNat + (2 * r + 1) * (2 * r + 1) / 2) / ((2 * r + 1) * (2 * r + 1))) ((zsum (fun t => s (4 * ((if (0 : Int) < x - r then x - r else 0) + (t : Int)) + 2).toNat) ((if x + r < (w : Int) - 1 then x + r else (w : Int) - 1) - (if (0 : Int) < x - r then x - r else 0) + 1).toNat + (2 * r + 1) * (2 * r + 1) / 2) / ((2 * r + 1) * (2 * r + 1))) ((zsum (fun t => s (4 * ((if (0 : Int) < x - r then x - r else 0) + (t : Int)) + 3).toNat) ((if x + r < (w : Int) - 1 then x + r else (w : Int) - 1) - (if (0 : Int) < x - r then x - r else 0) + 1).toNat + (2 * r + 1) * (2 * r + 1) / 2) / ((2 * r + 1) * (2 * r + 1))))) h) := by
  refine zct rfl (by decide) ok_TS_blurredDot rfl rfl ?_
  refine zz_iconst rfl ?_
  refine zz_iload_n rfl rfl ?_
  refine zz_iload_n rfl rfl ?_
  refine zz_isub rfl ?_
  refine zz_mmax rfl mt_TS_287 rfl (by omega) (by omega) ?_
  obtain ⟨fi, hfi⟩ : ∃ fi, fi = (if (0 : Int) < x - r then x - r else 0) := ⟨_, rfl⟩
  refine zz_eq (show _ = fi from hfi.symm) ?_
  refine zz_istore_n rfl rfl rfl ?_
  refine zz_aload_n rfl rfl ?_
  refine zz_alenI rfl hs ?_
  refine zz_iconst rfl ?_
  refine zz_idivP rfl (by omega) (by omega) ?_
  refine zz_eq (show ((4 * w : Nat) : Int) / 4 = (w : Int) from by omega) ?_
  refine zz_iconst rfl ?_
  refine zz_isub rfl ?_
  refine zz_iload_n rfl rfl ?_
  refine zz_iload_n rfl rfl ?_
  refine zz_iadd rfl ?_
  refine zz_mmin rfl mt_TS_309 rfl (by omega) (by omega) ?_
  obtain ⟨la, hla⟩ : ∃ la, la = (if x + r < (w : Int) - 1 then x + r else (w : Int) - 1) := ⟨_, rfl⟩
  refine zz_eq (show _ = la from hla.symm) ?_
  have hb1 : 0 ≤ fi ∧ fi ≤ la ∧ la < w ∧ la - fi ≤ 2 * r := by rw [hfi, hla]; split <;> split <;> omega
  refine zz_istore rfl rfl rfl ?_
  refine zz_iconst rfl ?_
  refine zz_iload_n rfl rfl ?_
  refine zz_imul rfl ?_
  refine zz_iconst rfl ?_
  refine zz_iadd rfl ?_
  refine zz_iconst rfl ?_
  refine zz_iload_n rfl rfl ?_
  refine zz_imul rfl ?_
  refine zz_iconst rfl ?_
  refine zz_iadd rfl ?_
  refine zz_imul rfl ?_
  obtain ⟨pa, hpa⟩ : ∃ pa, pa = (2 * r + 1) * (2 * r + 1) := ⟨_, rfl⟩
  refine zz_eq (show _ = pa from hpa.symm) ?_
  have hpr := zsq (a := 2 * r + 1) (B := 9) ⟨by omega, by omega⟩
  have hp9 : 9 ≤ pa ∧ pa ≤ 81 ∧ (la - fi + 1) * ((2 * r + 1) * 255) ≤ 255 * pa := by
    rw [hpa]
    have q1 : 3 * 3 ≤ (2 * r + 1) * (2 * r + 1) := Int.mul_le_mul (by omega) (by omega) (by decide) (by omega)
    have q2 : (la - fi + 1) * ((2 * r + 1) * 255) ≤ (2 * r + 1) * ((2 * r + 1) * 255) := Int.mul_le_mul_of_nonneg_right (by omega) (by omega)
    rw [← Int.mul_assoc (2 * r + 1) (2 * r + 1) 255] at q2
    omega
  have hby : ∀ c : Int, (0 ≤ zsum (fun t => s (4 * (fi + (t : Int)) + c).toNat) (la - fi + 1).toNat + pa / 2 ∧ zsum (fun t => s (4 * (fi + (t : Int)) + c).toNat) (la - fi + 1).toNat + pa / 2 ≤ 30000) ∧ (0 ≤ (zsum (fun t => s (4 * (fi + (t : Int)) + c).toNat) (la - fi + 1).toNat + pa / 2) / pa ∧ (zsum (fun t => s (4 * (fi + (t : Int)) + c).toNat) (la - fi + 1).toNat + pa / 2) / pa ≤ 255) := by
    intro c
    have hz := zsum_rg (F := fun t => s (4 * (fi + (t : Int)) + c).toNat) (B := (2 * r + 1) * 255) (la - fi + 1).toNat (fun i _ => hsr _)
    rw [Int.toNat_of_nonneg (by omega)] at hz
    exact ⟨⟨by omega, by omega⟩, zdiv_le (by omega) (by omega) (by omega)⟩
  refine zz_istore rfl rfl rfl ?_
  refine zz_iconst rfl ?_
  refine zz_eq (show (0 : Int) = zpq 0 0 0 0 from by decide) ?_
  refine zz_istore rfl rfl rfl ?_
  refine zz_iconst rfl ?_
  refine zz_istore rfl rfl rfl ?_
  refine zz_iload rfl rfl ?_
  refine zz_iconst rfl ?_
  refine zz_icmp_ge rfl (by omega) (by omega) (fun hb44 => absurd hb44 (by first | decide | omega)) (fun hb44 => ?_)
  refine zz_iconst rfl ?_
  refine zz_istore rfl rfl rfl ?_
  refine zz_iload_n rfl rfl ?_
  refine zz_istore rfl rfl rfl ?_
  refine Ev.loc (L' := [.ref sa, zI x, zI r, zI fi, zI la, zI pa, zI (zpq 0 0 0 0), zI 0, zI (zsum (fun t => s (4 * (fi + (t : Int)) + 0).toNat) 0), zI (fi + (0 : Nat))]) (fun u v hv _ => by rw [show fi + ((0 : Nat) : Int) = fi from by omega] at hv; exact hv) ?_
  refine lp_bd (c := 0) hs hw hr (fun k => ⟨(hsr k).1, by have := (hsr k).2; omega⟩) ⟨hb1.1, hb1.2.1⟩ hb1.2.2.1 (by omega) (by decide) ?_ (la - fi + 1).toNat 0 (by omega)
  have hy0 := hby 0
  refine zz_iload rfl rfl ?_
  refine zz_iload rfl rfl ?_
  refine zz_iload rfl rfl ?_
  refine zz_iconst rfl ?_
  refine zz_idivP rfl (by omega) (by omega) ?_
  refine zz_iadd rfl ?_
  refine zz_iload rfl rfl ?_
  refine zz_idivP rfl (by omega) (by omega) ?_
  refine zz_iload rfl rfl ?_
  refine zz_Sp rfl lk_TS_312 cw_Dots_placed (ct_placed (by omega)) rfl rfl rfl rfl ?_
  refine zz_ior rfl (zo_a (hby 0).2 (by decide) (by decide) (by decide)) ?_
  refine zz_istore rfl rfl rfl ?_
  refine zz_iincK 1 rfl rfl rfl rfl (by decide) ?_
  refine zz_goto rfl ?_
  refine zz_iload rfl rfl ?_
  refine zz_iconst rfl ?_
  refine zz_icmp_ge rfl (by omega) (by omega) (fun hb44 => absurd hb44 (by first | decide | omega)) (fun hb44 => ?_)
  refine zz_iconst rfl ?_
  refine zz_istore rfl rfl rfl ?_
  refine zz_iload_n rfl rfl ?_
  refine zz_istore rfl rfl rfl ?_
  refine Ev.loc (L' := [.ref sa, zI x, zI r, zI fi, zI la, zI pa, zI (zpq ((zsum (fun t => s (4 * (fi + (t : Int)) + 0).toNat) (la - fi + 1).toNat + pa / 2) / pa) 0 0 0), zI 1, zI (zsum (fun t => s (4 * (fi + (t : Int)) + 1).toNat) 0), zI (fi + (0 : Nat))]) (fun u v hv _ => by rw [show fi + ((0 : Nat) : Int) = fi from by omega] at hv; exact hv) ?_
  refine lp_bd (c := 1) hs hw hr (fun k => ⟨(hsr k).1, by have := (hsr k).2; omega⟩) ⟨hb1.1, hb1.2.1⟩ hb1.2.2.1 (by omega) (by decide) ?_ (la - fi + 1).toNat 0 (by omega)
  have hy1 := hby 1
  refine zz_iload rfl rfl ?_
  refine zz_iload rfl rfl ?_
  refine zz_iload rfl rfl ?_
  refine zz_iconst rfl ?_
  refine zz_idivP rfl (by omega) (by omega) ?_
  refine zz_iadd rfl ?_
  refine zz_iload rfl rfl ?_
  refine zz_idivP rfl (by omega) (by omega) ?_
  refine zz_iload rfl rfl ?_
  refine zz_Sp rfl lk_TS_312 cw_Dots_placed (ct_placed (by omega)) rfl rfl rfl rfl ?_
  refine zz_ior rfl (zo_b (hby 0).2 (hby 1).2 (by decide) (by decide)) ?_
  refine zz_istore rfl rfl rfl ?_
  refine zz_iincK 2 rfl rfl rfl rfl (by decide) ?_
  refine zz_goto rfl ?_
  refine zz_iload rfl rfl ?_
  refine zz_iconst rfl ?_
  refine zz_icmp_ge rfl (by omega) (by omega) (fun hb44 => absurd hb44 (by first | decide | omega)) (fun hb44 => ?_)
  refine zz_iconst rfl ?_
  refine zz_istore rfl rfl rfl ?_
  refine zz_iload_n rfl rfl ?_
  refine zz_istore rfl rfl rfl ?_
  refine Ev.loc (L' := [.ref sa, zI x, zI r, zI fi, zI la, zI pa, zI (zpq ((zsum (fun t => s (4 * (fi + (t : Int)) + 0).toNat) (la - fi + 1).toNat + pa / 2) / pa) ((zsum (fun t => s (4 * (fi + (t : Int)) + 1).toNat) (la - fi + 1).toNat + pa / 2) / pa) 0 0), zI 2, zI (zsum (fun t => s (4 * (fi + (t : Int)) + 2).toNat) 0), zI (fi + (0 : Nat))]) (fun u v hv _ => by rw [show fi + ((0 : Nat) : Int) = fi from by omega] at hv; exact hv) ?_
  refine lp_bd (c := 2) hs hw hr (fun k => ⟨(hsr k).1, by have := (hsr k).2; omega⟩) ⟨hb1.1, hb1.2.1⟩ hb1.2.2.1 (by omega) (by decide) ?_ (la - fi + 1).toNat 0 (by omega)
  have hy2 := hby 2
  refine zz_iload rfl rfl ?_
  refine zz_iload rfl rfl ?_
  refine zz_iload rfl rfl ?_
  refine zz_iconst rfl ?_
  refine zz_idivP rfl (by omega) (by omega) ?_
  refine zz_iadd rfl ?_
  refine zz_iload rfl rfl ?_
  refine zz_idivP rfl (by omega) (by omega) ?_
  refine zz_iload rfl rfl ?_
  refine zz_Sp rfl lk_TS_312 cw_Dots_placed (ct_placed (by omega)) rfl rfl rfl rfl ?_
  refine zz_ior rfl (zo_c (hby 0).2 (hby 1).2 (hby 2).2 (by decide)) ?_
  refine zz_istore rfl rfl rfl ?_
  refine zz_iincK 3 rfl rfl rfl rfl (by decide) ?_
  refine zz_goto rfl ?_
  refine zz_iload rfl rfl ?_
  refine zz_iconst rfl ?_
  refine zz_icmp_ge rfl (by omega) (by omega) (fun hb44 => absurd hb44 (by first | decide | omega)) (fun hb44 => ?_)
  refine zz_iconst rfl ?_
  refine zz_istore rfl rfl rfl ?_
  refine zz_iload_n rfl rfl ?_
  refine zz_istore rfl rfl rfl ?_
  refine Ev.loc (L' := [.ref sa, zI x, zI r, zI fi, zI la, zI pa, zI (zpq ((zsum (fun t => s (4 * (fi + (t : Int)) + 0).toNat) (la - fi + 1).toNat + pa / 2) / pa) ((zsum (fun t => s (4 * (fi + (t : Int)) + 1).toNat) (la - fi + 1).toNat + pa / 2) / pa) ((zsum (fun t => s (4 * (fi + (t : Int)) + 2).toNat) (la - fi + 1).toNat + pa / 2) / pa) 0), zI 3, zI (zsum (fun t => s (4 * (fi + (t : Int)) + 3).toNat) 0), zI (fi + (0 : Nat))]) (fun u v hv _ => by rw [show fi + ((0 : Nat) : Int) = fi from by omega] at hv; exact hv) ?_
  refine lp_bd (c := 3) hs hw hr (fun k => ⟨(hsr k).1, by have := (hsr k).2; omega⟩) ⟨hb1.1, hb1.2.1⟩ hb1.2.2.1 (by omega) (by decide) ?_ (la - fi + 1).toNat 0 (by omega)
  have hy3 := hby 3
  refine zz_iload rfl rfl ?_
  refine zz_iload rfl rfl ?_
  refine zz_iload rfl rfl ?_
  refine zz_iconst rfl ?_
  refine zz_idivP rfl (by omega) (by omega) ?_
  refine zz_iadd rfl ?_
  refine zz_iload rfl rfl ?_
  refine zz_idivP rfl (by omega) (by omega) ?_
  refine zz_iload rfl rfl ?_
  refine zz_Sp rfl lk_TS_312 cw_Dots_placed (ct_placed (by omega)) rfl rfl rfl rfl ?_
  refine zz_ior rfl (zo_d (hby 0).2 (hby 1).2 (hby 2).2 (hby 3).2) ?_
  refine zz_istore rfl rfl rfl ?_
  refine zz_iincK 4 rfl rfl rfl rfl (by decide) ?_
  refine zz_goto rfl ?_
  refine zz_iload rfl rfl ?_
  refine zz_iconst rfl ?_
  refine zz_icmp_ge rfl (by omega) (by omega) (fun hb44 => ?_) (fun hb44 => absurd hb44 (by first | decide | omega))
  refine zz_iload rfl rfl ?_
  refine zz_iret rfl rfl (zret_q (by rw [zpq_dot, hfi, hla, hpa]))
end BL
