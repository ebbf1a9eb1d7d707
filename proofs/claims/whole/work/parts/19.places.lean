section PL
variable {Z : ZC} {h : ZH}
theorem ct_bitCount {n : Nat} (hn : n < 16777216) : Ct Z m_Int_bitCount 0 0 0 [zI n] h (zP (zI (zcb n 24)) h) := by
  obtain ⟨h1, h2, h3, h4, h5⟩ := zt_all hn
  refine zctF rfl (by decide +kernel) ok_Int_bitCount rfl rfl ?_
  refine zz_iload_n rfl rfl ?_
  refine zz_iload_n rfl rfl ?_
  refine zz_iconst rfl ?_
  refine zz_iushr rfl (by omega) ?_
  refine zz_eq (show (((n : Nat) : Int)) % 4294967296 / 2 ^ Int.toNat 1 = ((n / 2 : Nat) : Int) from by show (((n : Nat) : Int)) % 4294967296 / 2 = _; omega) ?_
  refine zz_ldcw rfl cs_Int_265 ?_
  refine zz_iand rfl (zq_and (n / 2) 1431655765) ?_
  refine zz_isub rfl ?_
  refine zz_eq (show _ = ((zt1 n : Nat) : Int) from by show _ = ((n - (n / 2 &&& 1431655765) : Nat) : Int); omega) ?_
  refine zz_istore_n rfl rfl rfl ?_
  refine zz_iload_n rfl rfl ?_
  refine zz_ldcw rfl cs_Int_266 ?_
  refine zz_iand rfl (zq_and (zt1 n) 858993459) ?_
  refine zz_iload_n rfl rfl ?_
  refine zz_iconst rfl ?_
  refine zz_iushr rfl (by omega) ?_
  refine zz_eq (show (((zt1 n : Nat) : Int)) % 4294967296 / 2 ^ Int.toNat 2 = ((zt1 n / 4 : Nat) : Int) from by show (((zt1 n : Nat) : Int)) % 4294967296 / 4 = _; omega) ?_
  refine zz_ldcw rfl cs_Int_266 ?_
  refine zz_iand rfl (zq_and (zt1 n / 4) 858993459) ?_
  refine zz_iadd rfl ?_
  refine zz_eq (show _ = ((zt2 (zt1 n) : Nat) : Int) from by show _ = (((zt1 n &&& 858993459) + (zt1 n / 4 &&& 858993459) : Nat) : Int); omega) ?_
  refine zz_istore_n rfl rfl rfl ?_
  refine zz_iload_n rfl rfl ?_
  refine zz_iload_n rfl rfl ?_
  refine zz_iconst rfl ?_
  refine zz_iushr rfl (by omega) ?_
  refine zz_eq (show (((zt2 (zt1 n) : Nat) : Int)) % 4294967296 / 2 ^ Int.toNat 4 = ((zt2 (zt1 n) / 16 : Nat) : Int) from by show (((zt2 (zt1 n) : Nat) : Int)) % 4294967296 / 16 = _; omega) ?_
  refine zz_iadd rfl ?_
  refine zz_eq (show _ = ((zt2 (zt1 n) + zt2 (zt1 n) / 16 : Nat) : Int) from by omega) ?_
  refine zz_ldcw rfl cs_Int_267 ?_
  refine zz_iand rfl (zq_and (zt2 (zt1 n) + zt2 (zt1 n) / 16) 252645135) ?_
  refine zz_eq (show _ = ((zt3 (zt2 (zt1 n)) : Nat) : Int) from rfl) ?_
  refine zz_istore_n rfl rfl rfl ?_
  refine zz_iload_n rfl rfl ?_
  refine zz_iload_n rfl rfl ?_
  refine zz_bipush rfl (by decide) ?_
  refine zz_iushr rfl (by omega) ?_
  refine zz_eq (show (((zt3 (zt2 (zt1 n)) : Nat) : Int)) % 4294967296 / 2 ^ Int.toNat 8 = ((zt3 (zt2 (zt1 n)) / 256 : Nat) : Int) from by show (((zt3 (zt2 (zt1 n)) : Nat) : Int)) % 4294967296 / 256 = _; omega) ?_
  refine zz_iadd rfl ?_
  refine zz_eq (show _ = ((zt3 (zt2 (zt1 n)) + zt3 (zt2 (zt1 n)) / 256 : Nat) : Int) from by omega) ?_
  refine zz_istore_n rfl rfl rfl ?_
  refine zz_iload_n rfl rfl ?_
  refine zz_iload_n rfl rfl ?_
  refine zz_bipush rfl (by decide) ?_
  refine zz_iushr rfl (by omega) ?_
  refine zz_eq (show ((((zt3 (zt2 (zt1 n)) + zt3 (zt2 (zt1 n)) / 256) : Nat) : Int)) % 4294967296 / 2 ^ Int.toNat 16 = (((zt3 (zt2 (zt1 n)) + zt3 (zt2 (zt1 n)) / 256) / 65536 : Nat) : Int) from by show ((((zt3 (zt2 (zt1 n)) + zt3 (zt2 (zt1 n)) / 256) : Nat) : Int)) % 4294967296 / 65536 = _; omega) ?_
  refine zz_iadd rfl ?_
  refine zz_eq (show _ = ((zt3 (zt2 (zt1 n)) + zt3 (zt2 (zt1 n)) / 256 + (zt3 (zt2 (zt1 n)) + zt3 (zt2 (zt1 n)) / 256) / 65536 : Nat) : Int) from by omega) ?_
  refine zz_istore_n rfl rfl rfl ?_
  refine zz_iload_n rfl rfl ?_
  refine zz_bipush rfl (by decide) ?_
  refine zz_iand rfl (zq_mask 6 (by decide) _) ?_
  refine zz_iret rfl rfl (zret_e (by rw [← h5]; rfl))
theorem lp_size {a ra w ht : Nat} {R : Nat → Nat} (hp : isPl h a ra w ht R) (hh : ht ≤ 24) (hR : ∀ j, R j < 16777216) {MC MS mc ms : Nat} {Q : ZR → ZH → Prop} (kx : Ev Z (fun _ => True, m_Places_size, 1, MC, MS) 31 [.ref a, zI (zsz R ht), zI ht] [] h mc ms Q) : ∀ (m : Nat) (k : Nat), k + m = ht → Ev Z (fun _ => True, m_Places_size, 1, MC, MS) 4 [.ref a, zI (zsz R k), zI k] [] h mc ms Q := by
  intro m
  induction m with
  | zero =>
    intro k hkn
    refine zz_iload_n rfl rfl ?_
    refine zz_aload_n rfl rfl ?_
    refine zz_getf rfl fl_Places_13 hp.1 rfl ?_
    refine zz_alenI rfl hp.2 ?_
    refine zz_icmp_ge rfl (by omega) (by omega) (fun hb10 => ?_) (fun hb10 => absurd hb10 (by omega))
    obtain rfl : k = ht := by omega
    exact kx
  | succ m ih =>
    intro k hkn
    refine zz_iload_n rfl rfl ?_
    refine zz_aload_n rfl rfl ?_
    refine zz_getf rfl fl_Places_13 hp.1 rfl ?_
    refine zz_alenI rfl hp.2 ?_
    refine zz_icmp_ge rfl (by omega) (by omega) (fun hb10 => absurd hb10 (by omega)) (fun hb10 => ?_)
    refine zz_iload_n rfl rfl ?_
    refine zz_aload_n rfl rfl ?_
    refine zz_getf rfl fl_Places_13 hp.1 rfl ?_
    refine zz_iload_n rfl rfl ?_
    refine zz_iald rfl hp.2 (by omega) (by omega) ?_
    refine zz_eq (show zcn R (Int.toNat k) = ((R k : Nat) : Int) from by rw [Int.toNat_natCast]; rfl) ?_
    refine zz_Sp rfl lk_Places_27 cw_Int_bitCount (ct_bitCount (hR k)) rfl rfl rfl rfl ?_
    refine zz_iadd rfl ?_
    refine zz_eq (show _ = ((zsz R (k + 1) : Nat) : Int) from by show _ = ((zsz R k + zcb (R k) 24 : Nat) : Int); omega) ?_
    refine zz_istore_n rfl rfl rfl ?_
    refine zz_iincK ((k + 1 : Nat) : Int) rfl rfl rfl rfl (by omega) ?_
    refine zz_goto rfl ?_
    exact ih (k + 1) (by omega)
theorem ct_size {a ra w ht : Nat} {R : Nat → Nat} (hp : isPl h a ra w ht R) (hh : ht ≤ 24) (hR : ∀ j, R j < 16777216) : Ct Z m_Places_size 1 0 0 [.ref a] h (zP (zI (zsz R ht)) h) := by
  refine zct rfl (by decide) ok_Places_size rfl rfl ?_
  refine zz_iconst rfl ?_
  refine zz_istore_n rfl rfl rfl ?_
  refine zz_iconst rfl ?_
  refine zz_istore_n rfl rfl rfl ?_
  exact lp_size hp hh hR (zz_iload_n rfl rfl (zz_iret rfl rfl ⟨rfl, rfl⟩)) ht 0 (by omega)
theorem lp_rect_i {a ra w ht : Nat} {R : Nat → Nat} (hp : isPl h a ra w ht R) (hh : ht ≤ 24) (hw : w ≤ 24) {l t wd hg : Int} (hl : -1000 ≤ l ∧ l ≤ 1000) (ht1 : -1000 ≤ t ∧ t ≤ 1000) (hwd : 0 ≤ wd ∧ wd ≤ 1000) (hhg : 0 ≤ hg ∧ hg ≤ 1000) {MC MS mc ms : Nat} {Q : ZR → ZH → Prop} {y : Int} (hy : 0 ≤ y ∧ y < ht) (kx : Ev Z (fun _ => True, m_TS_addRectangle, 2, MC, MS) 55 [.ref a, zI l, zI t, zI wd, zI hg, zI y, zI w] [] (zset h ra (zi 0 ht (zcn (zrs (fun j i => decide (zbox ((i : Int) - l) ((j : Int) - t) wd hg)) w (y) (w))))) mc ms Q) : ∀ (m : Nat) (x : Int), 0 ≤ x → x + m = w → Ev Z (fun _ => True, m_TS_addRectangle, 2, MC, MS) 15 [.ref a, zI l, zI t, zI wd, zI hg, zI y, zI x] [] (zset h ra (zi 0 ht (zcn (zrs (fun j i => decide (zbox ((i : Int) - l) ((j : Int) - t) wd hg)) w (y) (x))))) mc ms Q := by
  intro m
  induction m with
  | zero =>
    intro x hx0 hxn
    refine zz_iload rfl rfl ?_
    refine zz_aload_n rfl rfl ?_
    refine zz_getf rfl fl_TS_261 (hp.up _).1 rfl ?_
    refine zz_icmp_ge rfl (by omega) (by omega) (fun hb21 => ?_) (fun hb21 => absurd hb21 (by omega))
    obtain rfl : x = (w : Int) := by omega
    exact kx
  | succ m ih =>
    intro x hx0 hxn
    have hbx : zbox x y w ht := ⟨by omega, by omega, by omega, by omega⟩
    have hxt : ((x.toNat : Nat) : Int) = x := Int.toNat_of_nonneg hx0
    have hyt : ((y.toNat : Nat) : Int) = y := Int.toNat_of_nonneg hy.1
    refine zz_iload rfl rfl ?_
    refine zz_aload_n rfl rfl ?_
    refine zz_getf rfl fl_TS_261 (hp.up _).1 rfl ?_
    refine zz_icmp_ge rfl (by omega) (by omega) (fun hb21 => absurd hb21 (by omega)) (fun hb21 => ?_)
    refine zz_iload rfl rfl ?_
    refine zz_iload_n rfl rfl ?_
    refine zz_isub rfl ?_
    refine zz_iload rfl rfl ?_
    refine zz_iload_n rfl rfl ?_
    refine zz_isub rfl ?_
    refine zz_iload_n rfl rfl ?_
    refine zz_iload rfl rfl ?_
    refine zz_Sp rfl lk_TS_262 cw_TS_isInBox (ct_isInBox ⟨by omega, by omega⟩ ⟨by omega, by omega⟩ ⟨by omega, by omega⟩ ⟨by omega, by omega⟩) rfl rfl rfl rfl ?_
    refine zz_ifB_eq rfl (fun hb38 => ?_) (fun hb38 => ?_)
    · skip
      refine Ev.heap (show _ = (zset h ra (zi 0 ht (zcn (zrs (fun j i => decide (zbox ((i : Int) - l) ((j : Int) - t) wd hg)) w (y) (x + 1))))) from by rw [← zrs_f hx0 hy.1 (show (fun j i => decide (zbox ((i : Int) - l) ((j : Int) - t) wd hg)) y.toNat x.toNat = false from (by show decide (zbox (((x.toNat : Nat) : Int) - l) (((y.toNat : Nat) : Int) - t) wd hg) = false; rw [hxt, hyt]; exact decide_eq_false hb38))]) ?_
      refine zz_iinc rfl rfl rfl rfl ?_
      refine zz_goto rfl ?_
      exact ih (x + 1) (by omega) (by omega)
    · skip
      refine zz_aload_n rfl rfl ?_
      refine zz_iload rfl rfl ?_
      refine zz_iload rfl rfl ?_
      refine zz_Vu rfl lk_TS_266 cw_Places_add rfl (hp.up _).1 (ct_add (hp.up _) ⟨by omega, by omega⟩ ⟨by omega, by omega⟩ hh hw) rfl rfl rfl rfl ?_
      refine Ev.heap (zadd_eq hbx (show (fun j i => decide (zbox ((i : Int) - l) ((j : Int) - t) wd hg)) y.toNat x.toNat = true from (by show decide (zbox (((x.toNat : Nat) : Int) - l) (((y.toNat : Nat) : Int) - t) wd hg) = true; rw [hxt, hyt]; exact decide_eq_true hb38))) ?_
      refine zz_iinc rfl rfl rfl rfl ?_
      refine zz_goto rfl ?_
      exact ih (x + 1) (by omega) (by omega)
theorem lp_rect_o {a ra w ht : Nat} {R : Nat → Nat} (hp : isPl h a ra w ht R) (hh : ht ≤ 24) (hw : w ≤ 24) {l t wd hg : Int} (hl : -1000 ≤ l ∧ l ≤ 1000) (ht1 : -1000 ≤ t ∧ t ≤ 1000) (hwd : 0 ≤ wd ∧ wd ≤ 1000) (hhg : 0 ≤ hg ∧ hg ≤ 1000) {MC MS mc ms : Nat} {Q : ZR → ZH → Prop} (kx : Ev Z (fun _ => True, m_TS_addRectangle, 2, MC, MS) 61 [.ref a, zI l, zI t, zI wd, zI hg, zI ht] [] (zset h ra (zi 0 ht (zcn (zrs (fun j i => decide (zbox ((i : Int) - l) ((j : Int) - t) wd hg)) w ((ht : Int)) (0))))) mc ms Q) : ∀ (m : Nat) (y : Int), 0 ≤ y → y + m = ht → Ev Z (fun _ => True, m_TS_addRectangle, 2, MC, MS) 3 [.ref a, zI l, zI t, zI wd, zI hg, zI y] [] (zset h ra (zi 0 ht (zcn (zrs (fun j i => decide (zbox ((i : Int) - l) ((j : Int) - t) wd hg)) w (y) (0))))) mc ms Q := by
  intro m
  induction m with
  | zero =>
    intro y hy0 hyn
    refine zz_iload rfl rfl ?_
    refine zz_aload_n rfl rfl ?_
    refine zz_Vp rfl lk_TS_260 cw_Places_height rfl (hp.up _).1 (ct_Places_height (hp.up _)) rfl rfl rfl rfl ?_
    refine zz_icmp_ge rfl (by omega) (by omega) (fun hb9 => ?_) (fun hb9 => absurd hb9 (by omega))
    obtain rfl : y = (ht : Int) := by omega
    exact kx
  | succ m ih =>
    intro y hy0 hyn
    refine zz_iload rfl rfl ?_
    refine zz_aload_n rfl rfl ?_
    refine zz_Vp rfl lk_TS_260 cw_Places_height rfl (hp.up _).1 (ct_Places_height (hp.up _)) rfl rfl rfl rfl ?_
    refine zz_icmp_ge rfl (by omega) (by omega) (fun hb9 => absurd hb9 (by omega)) (fun hb9 => ?_)
    refine zz_iconst rfl ?_
    refine zz_istore rfl rfl rfl ?_
    refine lp_rect_i hp hh hw hl ht1 hwd hhg ⟨hy0, by omega⟩ ?_ w 0 (by omega) (by omega)
    refine zz_iinc rfl rfl rfl rfl ?_
    refine zz_goto rfl ?_
    refine Ev.take 6 ?_
    refine Ev.heap (show _ = (zset h ra (zi 0 ht (zcn (zrs (fun j i => decide (zbox ((i : Int) - l) ((j : Int) - t) wd hg)) w (y + 1) (0))))) from by rw [zrs_e]) ?_
    exact ih (y + 1) (by omega) (by omega)
theorem ct_addRectangle {a ra w ht : Nat} (hp : isPl h a ra w ht (fun _ => 0)) (hh : ht ≤ 24) (hw : w ≤ 24) {l t wd hg : Int} (hl : -1000 ≤ l ∧ l ≤ 1000) (ht1 : -1000 ≤ t ∧ t ≤ 1000) (hwd : 0 ≤ wd ∧ wd ≤ 1000) (hhg : 0 ≤ hg ∧ hg ≤ 1000) : Ct Z m_TS_addRectangle 2 0 0 [.ref a, zI l, zI t, zI wd, zI hg] h (zV (zset h ra (zi 0 ht (zcn (zrs (fun j i => decide (zbox ((i : Int) - l) ((j : Int) - t) wd hg)) w ht 0))))) := by
  refine zct rfl (by decide) ok_TS_addRectangle rfl rfl ?_
  refine zz_iconst rfl ?_
  refine zz_istore rfl rfl rfl ?_
  refine Ev.heap (show h = zset h ra (zi 0 ht (zcn (zrs (fun j i => decide (zbox ((i : Int) - l) ((j : Int) - t) wd hg)) w 0 0))) from by rw [← zrs_0, zset_id hp.2]) ?_
  exact lp_rect_o hp hh hw hl ht1 hwd hhg (zz_vret rfl rfl ⟨rfl, rfl⟩) ht 0 (by omega) (by omega)
theorem lp_elli_i {a ra w ht : Nat} {R : Nat → Nat} (hp : isPl h a ra w ht R) (hh : ht ≤ 24) (hw : w ≤ 24) {l t wd hg : Int} (hl : -1000 ≤ l ∧ l ≤ 1000) (ht1 : -1000 ≤ t ∧ t ≤ 1000) (hwd : 0 ≤ wd ∧ wd ≤ 1000) (hhg : 0 ≤ hg ∧ hg ≤ 1000) {MC MS mc ms : Nat} {Q : ZR → ZH → Prop} {y : Int} (hy : 0 ≤ y ∧ y < ht) (kx : Ev Z (fun _ => True, m_TS_addEllipse, 2, MC, MS) 72 [.ref a, zI l, zI t, zI wd, zI hg, zI y, zI w] [] (zset h ra (zi 0 ht (zcn (zrs (fun j i => decide (zbox ((i : Int) - l) ((j : Int) - t) wd hg ∧ zel ((i : Int) - l) ((j : Int) - t) wd hg)) w (y) (w))))) mc ms Q) : ∀ (m : Nat) (x : Int), 0 ≤ x → x + m = w → Ev Z (fun _ => True, m_TS_addEllipse, 2, MC, MS) 15 [.ref a, zI l, zI t, zI wd, zI hg, zI y, zI x] [] (zset h ra (zi 0 ht (zcn (zrs (fun j i => decide (zbox ((i : Int) - l) ((j : Int) - t) wd hg ∧ zel ((i : Int) - l) ((j : Int) - t) wd hg)) w (y) (x))))) mc ms Q := by
  intro m
  induction m with
  | zero =>
    intro x hx0 hxn
    refine zz_iload rfl rfl ?_
    refine zz_aload_n rfl rfl ?_
    refine zz_getf rfl fl_TS_261 (hp.up _).1 rfl ?_
    refine zz_icmp_ge rfl (by omega) (by omega) (fun hb21 => ?_) (fun hb21 => absurd hb21 (by omega))
    obtain rfl : x = (w : Int) := by omega
    exact kx
  | succ m ih =>
    intro x hx0 hxn
    have hbx : zbox x y w ht := ⟨by omega, by omega, by omega, by omega⟩
    have hxt : ((x.toNat : Nat) : Int) = x := Int.toNat_of_nonneg hx0
    have hyt : ((y.toNat : Nat) : Int) = y := Int.toNat_of_nonneg hy.1
    refine zz_iload rfl rfl ?_
    refine zz_aload_n rfl rfl ?_
    refine zz_getf rfl fl_TS_261 (hp.up _).1 rfl ?_
    refine zz_icmp_ge rfl (by omega) (by omega) (fun hb21 => absurd hb21 (by omega)) (fun hb21 => ?_)
    refine zz_iload rfl rfl ?_
    refine zz_iload_n rfl rfl ?_
    refine zz_isub rfl ?_
    refine zz_iload rfl rfl ?_
    refine zz_iload_n rfl rfl ?_
    refine zz_isub rfl ?_
    refine zz_iload_n rfl rfl ?_
    refine zz_iload rfl rfl ?_
    refine zz_Sp rfl lk_TS_262 cw_TS_isInBox (ct_isInBox ⟨by omega, by omega⟩ ⟨by omega, by omega⟩ ⟨by omega, by omega⟩ ⟨by omega, by omega⟩) rfl rfl rfl rfl ?_
    refine zz_ifB_eq rfl (fun hb38 => ?_) (fun hb38 => ?_)
    · skip
      refine Ev.heap (show _ = (zset h ra (zi 0 ht (zcn (zrs (fun j i => decide (zbox ((i : Int) - l) ((j : Int) - t) wd hg ∧ zel ((i : Int) - l) ((j : Int) - t) wd hg)) w (y) (x + 1))))) from by rw [← zrs_f hx0 hy.1 (show (fun j i => decide (zbox ((i : Int) - l) ((j : Int) - t) wd hg ∧ zel ((i : Int) - l) ((j : Int) - t) wd hg)) y.toNat x.toNat = false from (by show decide (zbox (((x.toNat : Nat) : Int) - l) (((y.toNat : Nat) : Int) - t) wd hg ∧ zel (((x.toNat : Nat) : Int) - l) (((y.toNat : Nat) : Int) - t) wd hg) = false; rw [hxt, hyt]; exact decide_eq_false (fun h9 => hb38 h9.1)))]) ?_
      refine zz_iinc rfl rfl rfl rfl ?_
      refine zz_goto rfl ?_
      exact ih (x + 1) (by omega) (by omega)
    · skip
      refine zz_iload rfl rfl ?_
      refine zz_iload_n rfl rfl ?_
      refine zz_isub rfl ?_
      refine zz_iload rfl rfl ?_
      refine zz_iload_n rfl rfl ?_
      refine zz_isub rfl ?_
      refine zz_iload_n rfl rfl ?_
      refine zz_iload rfl rfl ?_
      refine zz_Sp rfl lk_TS_268 cw_TS_isInEllipse (ct_isInEllipse ⟨hb38.1, hb38.2.1⟩ ⟨hb38.2.2.1, hb38.2.2.2⟩ hwd.2 hhg.2) rfl rfl rfl rfl ?_
      refine zz_ifB_eq rfl (fun hb55 => ?_) (fun hb55 => ?_)
      · skip
        refine Ev.heap (show _ = (zset h ra (zi 0 ht (zcn (zrs (fun j i => decide (zbox ((i : Int) - l) ((j : Int) - t) wd hg ∧ zel ((i : Int) - l) ((j : Int) - t) wd hg)) w (y) (x + 1))))) from by rw [← zrs_f hx0 hy.1 (show (fun j i => decide (zbox ((i : Int) - l) ((j : Int) - t) wd hg ∧ zel ((i : Int) - l) ((j : Int) - t) wd hg)) y.toNat x.toNat = false from (by show decide (zbox (((x.toNat : Nat) : Int) - l) (((y.toNat : Nat) : Int) - t) wd hg ∧ zel (((x.toNat : Nat) : Int) - l) (((y.toNat : Nat) : Int) - t) wd hg) = false; rw [hxt, hyt]; exact decide_eq_false (fun h9 => hb55 h9.2)))]) ?_
        refine zz_iinc rfl rfl rfl rfl ?_
        refine zz_goto rfl ?_
        exact ih (x + 1) (by omega) (by omega)
      · skip
        refine zz_aload_n rfl rfl ?_
        refine zz_iload rfl rfl ?_
        refine zz_iload rfl rfl ?_
        refine zz_Vu rfl lk_TS_266 cw_Places_add rfl (hp.up _).1 (ct_add (hp.up _) ⟨by omega, by omega⟩ ⟨by omega, by omega⟩ hh hw) rfl rfl rfl rfl ?_
        refine Ev.heap (zadd_eq hbx (show (fun j i => decide (zbox ((i : Int) - l) ((j : Int) - t) wd hg ∧ zel ((i : Int) - l) ((j : Int) - t) wd hg)) y.toNat x.toNat = true from (by show decide (zbox (((x.toNat : Nat) : Int) - l) (((y.toNat : Nat) : Int) - t) wd hg ∧ zel (((x.toNat : Nat) : Int) - l) (((y.toNat : Nat) : Int) - t) wd hg) = true; rw [hxt, hyt]; exact decide_eq_true ⟨hb38, hb55⟩))) ?_
        refine zz_iinc rfl rfl rfl rfl ?_
        refine zz_goto rfl ?_
        exact ih (x + 1) (by omega) (by omega)
theorem lp_elli_o {a ra w ht : Nat} {R : Nat → Nat} (hp : isPl h a ra w ht R) (hh : ht ≤ 24) (hw : w ≤ 24) {l t wd hg : Int} (hl : -1000 ≤ l ∧ l ≤ 1000) (ht1 : -1000 ≤ t ∧ t ≤ 1000) (hwd : 0 ≤ wd ∧ wd ≤ 1000) (hhg : 0 ≤ hg ∧ hg ≤ 1000) {MC MS mc ms : Nat} {Q : ZR → ZH → Prop} (kx : Ev Z (fun _ => True, m_TS_addEllipse, 2, MC, MS) 78 [.ref a, zI l, zI t, zI wd, zI hg, zI ht] [] (zset h ra (zi 0 ht (zcn (zrs (fun j i => decide (zbox ((i : Int) - l) ((j : Int) - t) wd hg ∧ zel ((i : Int) - l) ((j : Int) - t) wd hg)) w ((ht : Int)) (0))))) mc ms Q) : ∀ (m : Nat) (y : Int), 0 ≤ y → y + m = ht → Ev Z (fun _ => True, m_TS_addEllipse, 2, MC, MS) 3 [.ref a, zI l, zI t, zI wd, zI hg, zI y] [] (zset h ra (zi 0 ht (zcn (zrs (fun j i => decide (zbox ((i : Int) - l) ((j : Int) - t) wd hg ∧ zel ((i : Int) - l) ((j : Int) - t) wd hg)) w (y) (0))))) mc ms Q := by
  intro m
  induction m with
  | zero =>
    intro y hy0 hyn
    refine zz_iload rfl rfl ?_
    refine zz_aload_n rfl rfl ?_
    refine zz_Vp rfl lk_TS_260 cw_Places_height rfl (hp.up _).1 (ct_Places_height (hp.up _)) rfl rfl rfl rfl ?_
    refine zz_icmp_ge rfl (by omega) (by omega) (fun hb9 => ?_) (fun hb9 => absurd hb9 (by omega))
    obtain rfl : y = (ht : Int) := by omega
    exact kx
  | succ m ih =>
    intro y hy0 hyn
    refine zz_iload rfl rfl ?_
    refine zz_aload_n rfl rfl ?_
    refine zz_Vp rfl lk_TS_260 cw_Places_height rfl (hp.up _).1 (ct_Places_height (hp.up _)) rfl rfl rfl rfl ?_
    refine zz_icmp_ge rfl (by omega) (by omega) (fun hb9 => absurd hb9 (by omega)) (fun hb9 => ?_)
    refine zz_iconst rfl ?_
    refine zz_istore rfl rfl rfl ?_
    refine lp_elli_i hp hh hw hl ht1 hwd hhg ⟨hy0, by omega⟩ ?_ w 0 (by omega) (by omega)
    refine zz_iinc rfl rfl rfl rfl ?_
    refine zz_goto rfl ?_
    refine Ev.take 6 ?_
    refine Ev.heap (show _ = (zset h ra (zi 0 ht (zcn (zrs (fun j i => decide (zbox ((i : Int) - l) ((j : Int) - t) wd hg ∧ zel ((i : Int) - l) ((j : Int) - t) wd hg)) w (y + 1) (0))))) from by rw [zrs_e]) ?_
    exact ih (y + 1) (by omega) (by omega)
theorem ct_addEllipse {a ra w ht : Nat} (hp : isPl h a ra w ht (fun _ => 0)) (hh : ht ≤ 24) (hw : w ≤ 24) {l t wd hg : Int} (hl : -1000 ≤ l ∧ l ≤ 1000) (ht1 : -1000 ≤ t ∧ t ≤ 1000) (hwd : 0 ≤ wd ∧ wd ≤ 1000) (hhg : 0 ≤ hg ∧ hg ≤ 1000) : Ct Z m_TS_addEllipse 2 0 0 [.ref a, zI l, zI t, zI wd, zI hg] h (zV (zset h ra (zi 0 ht (zcn (zrs (fun j i => decide (zbox ((i : Int) - l) ((j : Int) - t) wd hg ∧ zel ((i : Int) - l) ((j : Int) - t) wd hg)) w ht 0))))) := by
  refine zct rfl (by decide) ok_TS_addEllipse rfl rfl ?_
  refine zz_iconst rfl ?_
  refine zz_istore rfl rfl rfl ?_
  refine Ev.heap (show h = zset h ra (zi 0 ht (zcn (zrs (fun j i => decide (zbox ((i : Int) - l) ((j : Int) - t) wd hg ∧ zel ((i : Int) - l) ((j : Int) - t) wd hg)) w 0 0))) from by rw [← zrs_0, zset_id hp.2]) ?_
  exact lp_elli_o hp hh hw hl ht1 hwd hhg (zz_vret rfl rfl ⟨rfl, rfl⟩) ht 0 (by omega) (by omega)
end PL
