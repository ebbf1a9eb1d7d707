/-! ===== bits of numbers ===== -/
theorem zq_or (n m : Nat) : Int32.ofInt (n : Int) ||| Int32.ofInt (m : Int) = Int32.ofInt ((n ||| m : Nat) : Int) := by
  apply Int32.toBitVec.inj
  rw [Int32.toBitVec_or, Int32.toBitVec_ofInt, Int32.toBitVec_ofInt, Int32.toBitVec_ofInt, BitVec.ofInt_natCast, BitVec.ofInt_natCast, BitVec.ofInt_natCast]
  apply BitVec.eq_of_toNat_eq
  rw [BitVec.toNat_or, BitVec.toNat_ofNat, BitVec.toNat_ofNat, BitVec.toNat_ofNat, Nat.or_mod_two_pow]
theorem zq_and (n m : Nat) : Int32.ofInt (n : Int) &&& Int32.ofInt (m : Int) = Int32.ofInt ((n &&& m : Nat) : Int) := by
  apply Int32.toBitVec.inj
  rw [Int32.toBitVec_and, Int32.toBitVec_ofInt, Int32.toBitVec_ofInt, Int32.toBitVec_ofInt, BitVec.ofInt_natCast, BitVec.ofInt_natCast, BitVec.ofInt_natCast]
  apply BitVec.eq_of_toNat_eq
  rw [BitVec.toNat_and, BitVec.toNat_ofNat, BitVec.toNat_ofNat, BitVec.toNat_ofNat, Nat.and_mod_two_pow]
/-- the same number, from 0 on -/
theorem zq_emod (x : Int) : Int32.ofInt x = Int32.ofInt (x % 4294967296) := by
  rw [← Int32.toInt_inj, Int32.toInt_ofInt, Int32.toInt_ofInt]
  exact (Int.emod_bmod x 4294967296).symm
theorem zq_bmod (x : Int) : Int32.ofInt x = Int32.ofInt (x.bmod 4294967296) := by
  rw [← Int32.toInt_inj, Int32.toInt_ofInt, Int32.toInt_ofInt]
  show x.bmod 4294967296 = (x.bmod 4294967296).bmod 4294967296
  rw [Int.bmod_bmod]
theorem zq_mask (k : Nat) (hk : k ≤ 32) (x : Int) : Int32.ofInt x &&& Int32.ofInt ((2 ^ k - 1 : Nat) : Int) = Int32.ofInt (x % ((2 ^ k : Nat) : Int)) := by
  have h3 : 0 ≤ x % 4294967296 := Int.emod_nonneg _ (by decide)
  obtain ⟨y, hy⟩ := Int.eq_ofNat_of_zero_le h3
  rw [zq_emod x, hy, zq_and, Nat.and_two_pow_sub_one_eq_mod]
  have h4 : x % ((2 ^ k : Nat) : Int) = (x % 4294967296) % ((2 ^ k : Nat) : Int) := by
    rw [Int.emod_emod_of_dvd]
    have h5 : (2 ^ 32 : Nat) = 2 ^ k * 2 ^ (32 - k) := by rw [← Nat.pow_add]; congr 1; omega
    refine ⟨((2 ^ (32 - k) : Nat) : Int), ?_⟩
    have h6 : (4294967296 : Int) = ((2 ^ 32 : Nat) : Int) := by decide
    rw [h6, h5, Int.natCast_mul]
  rw [h4, hy, Int.natCast_emod]
theorem zq_m255 (x : Int) : Int32.ofInt x &&& Int32.ofInt 255 = Int32.ofInt (x % 256) := zq_mask 8 (by decide) x
theorem zq_m65535 (x : Int) : Int32.ofInt x &&& Int32.ofInt 65535 = Int32.ofInt (x % 65536) := zq_mask 16 (by decide) x
theorem zq_m31 (x : Int) : Int32.ofInt x &&& Int32.ofInt 31 = Int32.ofInt (x % 32) := zq_mask 5 (by decide) x
theorem zq_m1 (x : Int) : Int32.ofInt x &&& Int32.ofInt 1 = Int32.ofInt (x % 2) := zq_mask 1 (by decide) x
/-! ===== dots and their bytes ===== -/
def zby (d c : Int) : Int := d / 2 ^ (24 - 8 * c).toNat % 256
theorem zby_rg (d c : Int) : 0 ≤ zby d c ∧ zby d c ≤ 255 := by
  unfold zby
  omega
theorem zby_0 (d : Int) : zby d 0 = d / 16777216 % 256 := rfl
theorem zby_1 (d : Int) : zby d 1 = d / 65536 % 256 := rfl
theorem zby_2 (d : Int) : zby d 2 = d / 256 % 256 := rfl
theorem zby_3 (d : Int) : zby d 3 = d % 256 := by
  show d / 1 % 256 = _
  omega
def zdot (a b c d : Int) : Int := (a * 16777216 + b * 65536 + c * 256 + d).bmod 4294967296
theorem zdot_rg (a b c d : Int) : -2147483648 ≤ zdot a b c d ∧ zdot a b c d < 2147483648 := by
  have h1 := Int.le_bmod (x := a * 16777216 + b * 65536 + c * 256 + d) (m := 4294967296) (by decide)
  have h2 := Int.bmod_lt (x := a * 16777216 + b * 65536 + c * 256 + d) (m := 4294967296) (by decide)
  unfold zdot
  omega
theorem zdot_bmod (a b c d : Int) : Int32.ofInt (a * 16777216 + b * 65536 + c * 256 + d) = Int32.ofInt (zdot a b c d) := zq_bmod _
theorem zbm_cases (x : Int) : ∃ k : Int, x.bmod 4294967296 = x - 4294967296 * k := by
  have h1 := Int.bmod_eq_emod (x := x) (m := 4294967296)
  have h2 := Int.emod_add_mul_ediv x 4294967296
  rw [h1]
  split
  · exact ⟨x / 4294967296 + 1, by omega⟩
  · exact ⟨x / 4294967296, by omega⟩
theorem zby_dot {a b c d : Int} (ha : 0 ≤ a ∧ a ≤ 255) (hb : 0 ≤ b ∧ b ≤ 255) (hc : 0 ≤ c ∧ c ≤ 255) (hd : 0 ≤ d ∧ d ≤ 255) : zby (zdot a b c d) 0 = a ∧ zby (zdot a b c d) 1 = b ∧ zby (zdot a b c d) 2 = c ∧ zby (zdot a b c d) 3 = d := by
  obtain ⟨k, hk⟩ := zbm_cases (a * 16777216 + b * 65536 + c * 256 + d)
  have e : zdot a b c d = a * 16777216 + b * 65536 + c * 256 + d - 4294967296 * k := hk
  rw [zby_0, zby_1, zby_2, zby_3, e]
  omega
theorem zdot_by {d : Int} (hd : -2147483648 ≤ d ∧ d < 2147483648) : zdot (zby d 0) (zby d 1) (zby d 2) (zby d 3) = d := by
  have h0 := zdot_rg (zby d 0) (zby d 1) (zby d 2) (zby d 3)
  obtain ⟨k, hk⟩ := zbm_cases (zby d 0 * 16777216 + zby d 1 * 65536 + zby d 2 * 256 + zby d 3)
  have e : zdot (zby d 0) (zby d 1) (zby d 2) (zby d 3) = zby d 0 * 16777216 + zby d 1 * 65536 + zby d 2 * 256 + zby d 3 - 4294967296 * k := hk
  rw [e] at h0 ⊢
  rw [zby_0, zby_1, zby_2, zby_3] at h0 ⊢
  omega
theorem zby_u {d c : Int} (hc : 0 ≤ c ∧ c ≤ 3) : d % 4294967296 / 2 ^ (24 - 8 * c).toNat % 256 = zby d c := by
  have h : c = 0 ∨ c = 1 ∨ c = 2 ∨ c = 3 := by omega
  rcases h with rfl | rfl | rfl | rfl
  · show d % 4294967296 / 16777216 % 256 = d / 16777216 % 256
    omega
  · show d % 4294967296 / 65536 % 256 = d / 65536 % 256
    omega
  · show d % 4294967296 / 256 % 256 = d / 256 % 256
    omega
  · show d % 4294967296 / 1 % 256 = d / 1 % 256
    omega
/-! ===== more rows over the judgement ===== -/
abbrev zP (v : Value) (h : ZH) : ZR → ZH → Prop := fun r h' => r = .inl (some v) ∧ h' = h
abbrev zV (h1 : ZH) : ZR → ZH → Prop := fun r h' => r = .inl none ∧ h' = h1
section ZX1
variable {Z : ZC} {F : ZF} {pc q t : Nat} {L st : List Value} {h : ZH} {mc ms : Nat} {Q : ZR → ZH → Prop}
theorem zct {M : MI} {d mc ms : Nat} {av : List Value} {h : ZH} {Q : ZR → ZH → Prop} (hh : zhh M = []) (hy : plainName (zy M).cls = true) (hok : zok M) (hav : (av.all fun v => Nat.beq v.category 1) = true) (hlen : Nat.ble av.length (znL M) = true)
    (k : Ev Z (fun _ => True, M, d, mc, ms) 0 av [] h mc ms Q) : Ct Z M d mc ms av h Q :=
  Ct.ofEv hh hy hok (fun v hv => Nat.eq_of_beq_eq_true (List.all_eq_true.mp hav v hv)) (Nat.le_of_ble_eq_true hlen) k
theorem zctH {M : MI} {d mc ms : Nat} {av : List Value} {h : ZH} {Q : ZR → ZH → Prop} (hcw : zcw M = .codeWith (zy M) (zcc M) (znL M) (zret M) (zhh M)) (hy : plainName (zy M).cls = true) (hok : zok M) (hav : (av.all fun v => Nat.beq v.category 1) = true) (hlen : Nat.ble av.length (znL M) = true)
    (k : Ev Z (fun _ => True, M, d, mc, ms) 0 av [] h mc ms Q) : Ct Z M d mc ms av h Q :=
  Ct.ofEvH hcw hy hok (fun v hv => Nat.eq_of_beq_eq_true (List.all_eq_true.mp hav v hv)) (Nat.le_of_ble_eq_true hlen) k
/-- the top of the stack gets a name -/
theorem zz_nm {e : Int} (k : ∀ x, x = e → Ev Z F pc L (zI x :: st) h mc ms Q) : Ev Z F pc L (zI e :: st) h mc ms Q := k e rfl
theorem zz_eq {e x : Int} (he : e = x) (k : Ev Z F pc L (zI x :: st) h mc ms Q) : Ev Z F pc L (zI e :: st) h mc ms Q := he ▸ k
theorem zz_sg {e : Int} (k : Ev Z F pc L (zI (e.bmod 4294967296) :: st) h mc ms Q) : Ev Z F pc L (zI e :: st) h mc ms Q := by
  have h1 : zI e = zI (e.bmod 4294967296) := by
    show Value.int (Int32.ofInt e) = Value.int (Int32.ofInt (e.bmod 4294967296))
    congr 1
    exact zq_bmod e
  rw [h1]
  exact k
theorem zz_Sp {M' : MI} {d' n idx : Nat} {av rest : List Value} {v : Value} (hd : zT F.2.1 pc = some (.invokestatic idx, q, t)) (hk : Cond.methodLink (zy F.2.1).cls idx (zy M') ∈ zG ∧ Cond.static (zy M') ∈ zG) (hw : zCw M' n) (hc9 : Ct Z M' d' 0 0 av h (zP v h)) (hn : av.length = n) (hst : st = av.reverse ++ rest) (h8 : Nat.ble ((rest.map fun v => v.category).sum) 8 = true) (hdd : Nat.blt d' F.2.2.1 = true)
    (k : Ev Z F q L (v :: rest) h mc ms Q) : Ev Z F pc L st h mc ms Q :=
  zz_S (mc' := 0) (ms' := 0) hd hk hw hc9 hn hst h8 hdd (by rintro _ _ ⟨rfl, rfl⟩; exact k)
theorem zz_SNp {M' : MI} {d' n idx : Nat} {host : String} {av rest : List Value} {v : Value} (hd : zT F.2.1 pc = some (.invokestatic idx, q, t)) (hk : ((zy F.2.1).cls, idx, zy M', host) ∈ znests ∧ Cond.static (zy M') ∈ zG) (hw : zCw M' n) (hc9 : Ct Z M' d' 0 0 av h (zP v h)) (hn : av.length = n) (hst : st = av.reverse ++ rest) (h8 : Nat.ble ((rest.map fun v => v.category).sum) 8 = true) (hdd : Nat.blt d' F.2.2.1 = true)
    (k : Ev Z F q L (v :: rest) h mc ms Q) : Ev Z F pc L st h mc ms Q :=
  zz_SN (mc' := 0) (ms' := 0) hd hk hw (fun E h' h9 => by cases h9.1) hc9 hn hst h8 hdd (by rintro _ _ ⟨rfl, rfl⟩; exact k)
theorem zz_Vp {M' : MI} {d' n idx b ci : Nat} {As rest fs : List Value} {T0 : u_T} {N0 : Nat} {v : Value} (hd : zT F.2.1 pc = some (.invokevirtual idx, q, t)) (hk : Cond.methodLink (zy F.2.1).cls idx (zy M') ∈ zG ∧ Cond.instanceMethod (zy M') ∈ zG ∧ Cond.selects (zy M').cls (zy M') (zy M') ∈ zG) (hw : zCw M' n) (hci : zcls[ci]? = some ((zy M').cls, T0, N0)) (hb9 : h b = some (zo ci fs)) (hc9 : Ct Z M' d' 0 0 (.ref b :: As) h (zP v h)) (hn : As.length = n) (hst : st = As.reverse ++ .ref b :: rest) (h8 : Nat.ble ((rest.map fun v => v.category).sum) 8 = true) (hdd : Nat.blt d' F.2.2.1 = true)
    (k : Ev Z F q L (v :: rest) h mc ms Q) : Ev Z F pc L st h mc ms Q :=
  zz_V (mc' := 0) (ms' := 0) hd hk hw hci hb9 hc9 hn hst h8 hdd (by rintro _ _ ⟨rfl, rfl⟩; exact k)
/-- calls of what answers nothing, and leaves one heap -/
theorem zz_Su {M' : MI} {d' mc' ms' n idx : Nat} {av rest : List Value} {h1 : ZH} (hd : zT F.2.1 pc = some (.invokestatic idx, q, t)) (hk : Cond.methodLink (zy F.2.1).cls idx (zy M') ∈ zG ∧ Cond.static (zy M') ∈ zG) (hw : zCw M' n) (hc9 : Ct Z M' d' mc' ms' av h (zV h1)) (hn : av.length = n) (hst : st = av.reverse ++ rest) (h8 : Nat.ble ((rest.map fun v => v.category).sum) 8 = true) (hdd : Nat.blt d' F.2.2.1 = true)
    (k : Ev Z F q L rest h1 mc ms Q) : Ev Z F pc L st h (mc + mc') (ms + ms') Q :=
  zz_S hd hk hw hc9 hn hst h8 hdd (by rintro _ _ ⟨rfl, rfl⟩; exact k)
theorem zz_Vu {M' : MI} {d' mc' ms' n idx b ci : Nat} {As rest fs : List Value} {T0 : u_T} {N0 : Nat} {h1 : ZH} (hd : zT F.2.1 pc = some (.invokevirtual idx, q, t)) (hk : Cond.methodLink (zy F.2.1).cls idx (zy M') ∈ zG ∧ Cond.instanceMethod (zy M') ∈ zG ∧ Cond.selects (zy M').cls (zy M') (zy M') ∈ zG) (hw : zCw M' n) (hci : zcls[ci]? = some ((zy M').cls, T0, N0)) (hb9 : h b = some (zo ci fs)) (hc9 : Ct Z M' d' mc' ms' (.ref b :: As) h (zV h1)) (hn : As.length = n) (hst : st = As.reverse ++ .ref b :: rest) (h8 : Nat.ble ((rest.map fun v => v.category).sum) 8 = true) (hdd : Nat.blt d' F.2.2.1 = true)
    (k : Ev Z F q L rest h1 mc ms Q) : Ev Z F pc L st h (mc + mc') (ms + ms') Q :=
  zz_V hd hk hw hci hb9 hc9 hn hst h8 hdd (by rintro _ _ ⟨rfl, rfl⟩; exact k)
theorem zz_Nu {M' : MI} {d' mc' ms' n idx b : Nat} {As rest : List Value} {h1 : ZH} (hd : zT F.2.1 pc = some (.invokespecial idx, q, t)) (hk : Cond.methodLink (zy F.2.1).cls idx (zy M') ∈ zG ∧ Cond.instanceMethod (zy M') ∈ zG ∧ (zy M').name = "<init>" ∧ zret M' = none) (hw : zCw M' n) (hc9 : Ct Z M' d' mc' ms' (.ref b :: As) h (zV h1)) (hn : As.length = n) (hst : st = As.reverse ++ .ref b :: rest) (h8 : Nat.ble ((rest.map fun v => v.category).sum) 8 = true) (hdd : Nat.blt d' F.2.2.1 = true)
    (k : Ev Z F q L rest h1 mc ms Q) : Ev Z F pc L st h (mc + mc') (ms + ms') Q :=
  zz_N hd hk hw (fun E h' h9 => by cases h9.1) hc9 hn hst h8 hdd (by rintro _ _ ⟨rfl, rfl⟩; exact k)
end ZX1
