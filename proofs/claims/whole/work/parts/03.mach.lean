def zTb0 : u_T := fun k => match k with
  | 0 => ("TileStudio", "history", "LTileStudio$History;", true)
  | 1 => ("TileStudio", "file", "LTileStudio$Picture;", false)
  | 2 => ("TileStudio", "copied", "LTileStudio$Copied;", false)
  | 3 => ("TileStudio", "brushDot", "I", false)
  | _ => ("TileStudio", "brushRadius", "I", false)
def zTy0 : Nat → FieldType := fun k => match k with
  | 0 => .object "TileStudio$History"
  | 1 => .object "TileStudio$Picture"
  | 2 => .object "TileStudio$Copied"
  | 3 => .int
  | _ => .int
def zTb1 : u_T := fun k => match k with
  | 0 => ("TileStudioModel", "code", "I", false)
  | 1 => ("TileStudioModel", "dots", "[I", true)
  | 2 => ("TileStudioModel", "chosen", "[I", true)
  | 3 => ("TileStudioModel", "modes", "[I", true)
  | 4 => ("TileStudioModel", "opacities", "[I", true)
  | 5 => ("TileStudioModel", "shown", "[Z", true)
  | 6 => ("TileStudioModel", "layers", "[I", true)
  | 7 => ("TileStudioModel", "widths", "[I", true)
  | 8 => ("TileStudioModel", "heights", "[I", true)
  | 9 => ("TileStudioModel", "hasPicture", "Z", false)
  | 10 => ("TileStudioModel", "hasFile", "Z", false)
  | 11 => ("TileStudioModel", "hasCopy", "Z", false)
  | 12 => ("TileStudioModel", "now", "I", false)
  | 13 => ("TileStudioModel", "newest", "I", false)
  | 14 => ("TileStudioModel", "brushDot", "I", false)
  | 15 => ("TileStudioModel", "brushRadius", "I", false)
  | 16 => ("TileStudioModel", "copied", "[I", true)
  | 17 => ("TileStudioModel", "copiedRow", "[I", true)
  | 18 => ("TileStudioModel", "was", "[I", true)
  | 19 => ("TileStudioModel", "reached", "[I", true)
  | _ => ("TileStudioModel", "level", "[I", true)
def zTy1 : Nat → FieldType := fun k => match k with
  | 0 => .int
  | 1 => .array .int
  | 2 => .array .int
  | 3 => .array .int
  | 4 => .array .int
  | 5 => .array .boolean
  | 6 => .array .int
  | 7 => .array .int
  | 8 => .array .int
  | 9 => .boolean
  | 10 => .boolean
  | 11 => .boolean
  | 12 => .int
  | 13 => .int
  | 14 => .int
  | 15 => .int
  | 16 => .array .int
  | 17 => .array .int
  | 18 => .array .int
  | 19 => .array .int
  | _ => .array .int
def zTb2 : u_T := fun k => match k with
  | 0 => ("TileStudio$Places", "width", "I", true)
  | _ => ("TileStudio$Places", "rows", "[I", true)
def zTy2 : Nat → FieldType := fun k => match k with
  | 0 => .int
  | _ => .array .int
def zTb3 : u_T := fun k => match k with
  | 0 => ("TileStudio$Layer", "width", "I", true)
  | 1 => ("TileStudio$Layer", "height", "I", true)
  | 2 => ("TileStudio$Layer", "dots", "[I", true)
  | 3 => ("TileStudio$Layer", "blending", "I", true)
  | 4 => ("TileStudio$Layer", "opacity", "I", true)
  | _ => ("TileStudio$Layer", "visible", "Z", true)
def zTy3 : Nat → FieldType := fun k => match k with
  | 0 => .int
  | 1 => .int
  | 2 => .array .int
  | 3 => .int
  | 4 => .int
  | _ => .boolean
def zTb4 : u_T := fun k => match k with
  | 0 => ("TileStudio$Picture", "width", "I", true)
  | 1 => ("TileStudio$Picture", "height", "I", true)
  | 2 => ("TileStudio$Picture", "layers", "[LTileStudio$Layer;", true)
  | _ => ("TileStudio$Picture", "selection", "LTileStudio$Places;", true)
def zTy4 : Nat → FieldType := fun k => match k with
  | 0 => .int
  | 1 => .int
  | 2 => .array (.object "TileStudio$Layer")
  | _ => .object "TileStudio$Places"
def zTb5 : u_T := fun k => match k with
  | 0 => ("TileStudio$Painting", "picture", "LTileStudio$Picture;", true)
  | 1 => ("TileStudio$Painting", "position", "I", true)
  | 2 => ("TileStudio$Painting", "before", "LTileStudio$Layer;", true)
  | _ => ("TileStudio$Painting", "after", "[I", true)
def zTy5 : Nat → FieldType := fun k => match k with
  | 0 => .object "TileStudio$Picture"
  | 1 => .int
  | 2 => .object "TileStudio$Layer"
  | _ => .array .int
def zTb6 : u_T := fun k => match k with
  | 0 => ("TileStudio$Copied", "layer", "LTileStudio$Layer;", true)
  | _ => ("TileStudio$Copied", "places", "LTileStudio$Places;", true)
def zTy6 : Nat → FieldType := fun k => match k with
  | 0 => .object "TileStudio$Layer"
  | _ => .object "TileStudio$Places"
def zTb7 : u_T := fun k => match k with
  | 0 => ("TileStudio$History", "pictures", "[LTileStudio$Picture;", true)
  | 1 => ("TileStudio$History", "present", "I", false)
  | _ => ("TileStudio$History", "last", "I", false)
def zTy7 : Nat → FieldType := fun k => match k with
  | 0 => .array (.object "TileStudio$Picture")
  | 1 => .int
  | _ => .int
def zcls : List vw_C := [("TileStudio", zTb0, 5), ("TileStudioModel", zTb1, 21), ("TileStudio$Places", zTb2, 2), ("TileStudio$Layer", zTb3, 6), ("TileStudio$Picture", zTb4, 4), ("TileStudio$Painting", zTb5, 4), ("TileStudio$Copied", zTb6, 2), ("TileStudio$History", zTb7, 3)]
def zcasts : List (String × String) := [("java/lang/IllegalArgumentException", "java/lang/IllegalArgumentException"), ("java/lang/IllegalStateException", "java/lang/IllegalStateException"), ("java/util/NoSuchElementException", "java/util/NoSuchElementException"), ("java/lang/IndexOutOfBoundsException", "java/lang/IndexOutOfBoundsException"), ("[I", "java/lang/Cloneable")]
def znocasts : List (String × String) := [("java/lang/IllegalStateException", "java/lang/IllegalArgumentException"), ("java/util/NoSuchElementException", "java/lang/IllegalArgumentException"), ("java/lang/IndexOutOfBoundsException", "java/lang/IllegalArgumentException")]
def zdecls : List MethodName := [⟨"java/lang/RuntimeException", "<init>", "()V"⟩, ⟨"java/lang/RuntimeException", "<init>", "(Ljava/lang/String;)V"⟩, ⟨"java/lang/Exception", "<init>", "()V"⟩, ⟨"java/lang/Exception", "<init>", "(Ljava/lang/String;)V"⟩, ⟨"java/lang/Throwable", "<init>", "()V"⟩, ⟨"java/lang/Throwable", "<init>", "(Ljava/lang/String;)V"⟩]
def znests : List (String × Nat × MethodName × String) := [("TileStudio$Layer", 35, ⟨"TileStudio", "isInBox", "(IIII)Z"⟩, "TileStudio"), ("TileStudio$Places", 21, ⟨"TileStudio", "isInBox", "(IIII)Z"⟩, "TileStudio")]
theorem zblt {a b : Nat} (h : Nat.blt a b = true) : a < b := Nat.le_of_ble_eq_true h
/-! ===== numbers ===== -/
theorem zq_toInt {x : Int} (h : -2147483648 ≤ x ∧ x < 2147483648) : (Int32.ofInt x).toInt = x := Int32.toInt_ofInt_of_le (by have := h.1; omega) (by have := h.2; omega)
theorem zq_nat {x : Int} (h : -2147483648 ≤ x ∧ x < 2147483648) : (Int32.ofInt x).toNatClampNeg = x.toNat := Int32.toNatClampNeg_ofInt_of_le (by have := h.1; omega) (by have := h.2; omega)
section ZQ
variable {x y : Int} (hx : -2147483648 ≤ x ∧ x < 2147483648) (hy : -2147483648 ≤ y ∧ y < 2147483648)
theorem zq_eq {x y : Int} (hx : -2147483648 ≤ x ∧ x < 2147483648) (hy : -2147483648 ≤ y ∧ y < 2147483648) : Int32.ofInt x = Int32.ofInt y ↔ x = y := by rw [← Int32.toInt_inj, zq_toInt hx, zq_toInt hy]
theorem zq_ne {x y : Int} (hx : -2147483648 ≤ x ∧ x < 2147483648) (hy : -2147483648 ≤ y ∧ y < 2147483648) : ¬ Int32.ofInt x = Int32.ofInt y ↔ x ≠ y := not_congr (zq_eq hx hy)
theorem zq_lt {x y : Int} (hx : -2147483648 ≤ x ∧ x < 2147483648) (hy : -2147483648 ≤ y ∧ y < 2147483648) : Int32.ofInt x < Int32.ofInt y ↔ x < y := by rw [Int32.lt_iff_toInt_lt, zq_toInt hx, zq_toInt hy]
theorem zq_gt {x y : Int} (hx : -2147483648 ≤ x ∧ x < 2147483648) (hy : -2147483648 ≤ y ∧ y < 2147483648) : Int32.ofInt y < Int32.ofInt x ↔ y < x := zq_lt hy hx
theorem zq_le {x y : Int} (hx : -2147483648 ≤ x ∧ x < 2147483648) (hy : -2147483648 ≤ y ∧ y < 2147483648) : Int32.ofInt x ≤ Int32.ofInt y ↔ x ≤ y := by rw [Int32.le_iff_toInt_le, zq_toInt hx, zq_toInt hy]
theorem zq_ge {x y : Int} (hx : -2147483648 ≤ x ∧ x < 2147483648) (hy : -2147483648 ≤ y ∧ y < 2147483648) : Int32.ofInt y ≤ Int32.ofInt x ↔ y ≤ x := zq_le hy hx
theorem zq_ne0 {y : Int} (hy : -2147483648 ≤ y ∧ y < 2147483648) (h0 : y ≠ 0) : ¬ Int32.ofInt y = 0 := fun h => h0 ((zq_eq hy (y := 0) (by decide)).mp h)
theorem zq_div {x y : Int} (hx : -2147483648 ≤ x ∧ x < 2147483648) (hy : -2147483648 ≤ y ∧ y < 2147483648) : Int32.ofInt x / Int32.ofInt y = Int32.ofInt (x.tdiv y) := by
  rw [← Int32.toInt_inj, Int32.toInt_div, zq_toInt hx, zq_toInt hy, Int32.toInt_ofInt]
theorem zq_mod {x y : Int} (hx : -2147483648 ≤ x ∧ x < 2147483648) (hy : -2147483648 ≤ y ∧ y < 2147483648) : Int32.ofInt x - Int32.ofInt x / Int32.ofInt y * Int32.ofInt y = Int32.ofInt (x.tmod y) := by
  rw [zq_div hx hy, ← Int32.ofInt_mul, ← Int32.ofInt_sub, Int.tmod_def, Int.mul_comm]
theorem zq_max {x y : Int} (hx : -2147483648 ≤ x ∧ x < 2147483648) (hy : -2147483648 ≤ y ∧ y < 2147483648) : (if Int32.ofInt x < Int32.ofInt y then Int32.ofInt y else Int32.ofInt x) = Int32.ofInt (if x < y then y else x) := by
  by_cases h : x < y
  · rw [if_pos h, if_pos ((zq_lt hx hy).mpr h)]
  · rw [if_neg h, if_neg (fun h9 => h ((zq_lt hx hy).mp h9))]
theorem zq_min {x y : Int} (hx : -2147483648 ≤ x ∧ x < 2147483648) (hy : -2147483648 ≤ y ∧ y < 2147483648) : (if Int32.ofInt y < Int32.ofInt x then Int32.ofInt y else Int32.ofInt x) = Int32.ofInt (if y < x then y else x) := by
  by_cases h : y < x
  · rw [if_pos h, if_pos ((zq_lt hy hx).mpr h)]
  · rw [if_neg h, if_neg (fun h9 => h ((zq_lt hy hx).mp h9))]
theorem zq_abs {x : Int} (hx : -2147483648 ≤ x ∧ x < 2147483648) : (if (0 : Int32) ≤ Int32.ofInt x then Int32.ofInt x else 0 - Int32.ofInt x) = Int32.ofInt (if 0 ≤ x then x else -x) := by
  have h0 : (0 : Int32) = Int32.ofInt 0 := rfl
  rw [h0]
  by_cases h : 0 ≤ x
  · rw [if_pos h, if_pos ((zq_le (by decide) hx).mpr h)]
  · rw [if_neg h, if_neg (fun h9 => h ((zq_le (by decide) hx).mp h9)), ← Int32.ofInt_sub]
    congr 1
    omega
theorem zq_i2s (x : Int) : (Int32.ofInt x).toInt16.toInt32 = Int32.ofInt (x.bmod 65536) := by
  rw [← Int32.toInt_inj, Int16.toInt_toInt32, Int32.toInt16_ofInt, Int16.toInt_ofInt, Int32.toInt_ofInt]
  show x.bmod 65536 = (x.bmod 65536).bmod 4294967296
  have h1 := Int.le_bmod (x := x) (m := 65536) (by decide)
  have h2 := Int.bmod_lt (x := x) (m := 65536) (by decide)
  rw [Int.bmod_eq_of_le (n := x.bmod 65536) (by omega) (by omega)]
theorem zq_i2l {x : Int} (hx : -2147483648 ≤ x ∧ x < 2147483648) : (Int32.ofInt x).toInt64 = Int64.ofInt x := by
  rw [← Int64.toInt_inj, Int32.toInt_toInt64, zq_toInt hx, Int64.toInt_ofInt_of_le (by omega) (by omega)]
theorem zq_lcmp {x y : Int} (hx : -9223372036854775808 ≤ x ∧ x < 9223372036854775808) (hy : -9223372036854775808 ≤ y ∧ y < 9223372036854775808) : lg_cmp (Int64.ofInt x) (Int64.ofInt y) = Int32.ofInt (if y < x then 1 else if x = y then 0 else -1) := by
  have ex : (Int64.ofInt x).toInt = x := Int64.toInt_ofInt_of_le (by omega) (by omega)
  have ey : (Int64.ofInt y).toInt = y := Int64.toInt_ofInt_of_le (by omega) (by omega)
  have h1 : (Int64.ofInt x > Int64.ofInt y) ↔ y < x := by rw [gt_iff_lt, Int64.lt_iff_toInt_lt, ex, ey]
  have h2 : Int64.ofInt x = Int64.ofInt y ↔ x = y := by rw [← Int64.toInt_inj, ex, ey]
  unfold lg_cmp
  by_cases h3 : y < x
  · rw [if_pos h3, if_pos (h1.mpr h3)]; rfl
  · rw [if_neg h3, if_neg (fun h => h3 (h1.mp h))]
    by_cases h4 : x = y
    · rw [if_pos h4, if_pos (h2.mpr h4)]; rfl
    · rw [if_neg h4, if_neg (fun h => h4 (h2.mp h))]; rfl
theorem zq_amt : ∀ n : Fin 32, ((Int32.ofInt (n.val : Int)) &&& 31).toBitVec.smod 32 = BitVec.ofNat 32 n.val := by decide +kernel
theorem zq_amtU : ∀ n : Fin 32, ((Int32.ofInt (n.val : Int)).toUInt32 &&& Int32.toUInt32 31) = UInt32.ofNat n.val := by decide +kernel
theorem zq_shl {x k : Int} (hk : 0 ≤ k ∧ k < 32) : Int32.ofInt x <<< (Int32.ofInt k &&& 31) = Int32.ofInt (x * 2 ^ k.toNat) := by
  obtain ⟨n, rfl⟩ := Int.eq_ofNat_of_zero_le hk.1
  have hn : n < 32 := by omega
  have h1 := zq_amt ⟨n, hn⟩
  apply Int32.toBitVec.inj
  rw [Int32.toBitVec_shiftLeft, h1, BitVec.shiftLeft_eq', BitVec.toNat_ofNat, Nat.mod_eq_of_lt (by omega), BitVec.shiftLeft_eq_mul_twoPow, Int32.toBitVec_ofInt, Int32.toBitVec_ofInt, BitVec.ofInt_mul, Int.toNat_natCast]
  congr 1
  have h2 : ((2 : Int) ^ n) = ((2 ^ n : Nat) : Int) := by simp
  rw [h2, BitVec.ofInt_natCast]
  apply BitVec.eq_of_toNat_eq
  rw [BitVec.toNat_twoPow, BitVec.toNat_ofNat]
theorem zq_divrg {x : Int} (hx : -2147483648 ≤ x ∧ x < 2147483648) (n : Nat) : -2147483648 ≤ x / 2 ^ n ∧ x / 2 ^ n < 2147483648 := by
  have h2 : (1 : Int) ≤ 2 ^ n := by
    have : 0 < (2 : Int) ^ n := Int.pow_pos (by decide)
    omega
  generalize (2 : Int) ^ n = d at h2
  constructor
  · rw [Int.le_ediv_iff_mul_le (by omega)]
    omega
  · apply Int.ediv_lt_of_lt_mul (by omega)
    omega
theorem zq_shr {x k : Int} (hx : -2147483648 ≤ x ∧ x < 2147483648) (hk : 0 ≤ k ∧ k < 32) : Int32.ofInt x >>> (Int32.ofInt k &&& 31) = Int32.ofInt (x / 2 ^ k.toNat) := by
  obtain ⟨n, rfl⟩ := Int.eq_ofNat_of_zero_le hk.1
  have hn : n < 32 := by omega
  have h1 := zq_amt ⟨n, hn⟩
  rw [← Int32.toInt_inj, Int.toNat_natCast, zq_toInt (zq_divrg hx n)]
  show (Int32.ofInt x >>> (Int32.ofInt (n : Int) &&& 31)).toBitVec.toInt = _
  rw [Int32.toBitVec_shiftRight, h1, BitVec.toInt_sshiftRight', BitVec.toNat_ofNat, Nat.mod_eq_of_lt (by omega), Int.shiftRight_eq_div_pow]
  have h3 : (Int32.ofInt x).toBitVec.toInt = x := zq_toInt hx
  rw [h3]
  simp
theorem zq_ushr {x k : Int} (hk : 0 ≤ k ∧ k < 32) : ((Int32.ofInt x).toUInt32 >>> ((Int32.ofInt k).toUInt32 &&& Int32.toUInt32 31)).toInt32 = Int32.ofInt ((x % 4294967296) / 2 ^ k.toNat) := by
  obtain ⟨n, rfl⟩ := Int.eq_ofNat_of_zero_le hk.1
  have hn : n < 32 := by omega
  have h1 := zq_amtU ⟨n, hn⟩
  rw [h1, Int.toNat_natCast]
  apply Int32.toBitVec.inj
  apply BitVec.eq_of_toNat_eq
  rw [UInt32.toBitVec_toInt32, UInt32.toBitVec_shiftRight, Int32.toBitVec_ofInt, Int32.toBitVec_toUInt32, Int32.toBitVec_ofInt]
  have h2 : ((UInt32.ofNat n).toBitVec % 32).toNat = n := by
    simp
    omega
  rw [BitVec.ushiftRight_eq', h2, BitVec.toNat_ushiftRight, BitVec.toNat_ofInt, BitVec.toNat_ofInt, Nat.shiftRight_eq_div_pow]
  have h3 : 0 ≤ x % 4294967296 := Int.emod_nonneg _ (by decide)
  have h4 : x % 4294967296 < 4294967296 := Int.emod_lt_of_pos _ (by decide)
  obtain ⟨y, hy⟩ := Int.eq_ofNat_of_zero_le h3
  have e1 : (x % ((2 ^ 32 : Nat) : Int)) = y := hy
  rw [e1, hy]
  have e2 : ((y : Int) / 2 ^ n) = ((y / 2 ^ n : Nat) : Int) := by simp
  rw [e2]
  have h5 : y / 2 ^ n ≤ y := Nat.div_le_self _ _
  have h6 : ((y / 2 ^ n : Nat) : Int) < 4294967296 := by
    have h7 : (y : Int) < 4294967296 := by omega
    have h8 : ((y / 2 ^ n : Nat) : Int) ≤ (y : Int) := Int.ofNat_le.mpr h5
    exact Int.lt_of_le_of_lt h8 h7
  have h9 : ((y / 2 ^ n : Nat) : Int) % ((2 ^ 32 : Nat) : Int) = ((y / 2 ^ n : Nat) : Int) := Int.emod_eq_of_lt (Int.natCast_nonneg _) h6
  rw [h9, Int.toNat_natCast, Int.toNat_natCast]
end ZQ
/-! ===== values, cells, heaps ===== -/
abbrev zI (z : Int) : Value := .int (Int32.ofInt z)
abbrev zJ (z : Int) : Value := .long (Int64.ofInt z)
abbrev zU : Value := .float 0
abbrev ZE : Type := (Nat × Nat × (Nat → Int)) ⊕ ((Nat × Nat × (Nat → Value)) ⊕ (Nat × List Value))
abbrev ZH : Type := Nat → Option ZE
abbrev ZR : Type := Option Value ⊕ String
/-- an int array; g is a mark of our own, by which the arrays are told apart -/
abbrev zi (g n : Nat) (f : Nat → Int) : ZE := .inl (g, n, f)
abbrev za (k n : Nat) (f : Nat → Value) : ZE := .inr (.inl (k, n, f))
abbrev zo (c : Nat) (fs : List Value) : ZE := .inr (.inr (c, fs))
def zset (h : ZH) (a : Nat) (e : ZE) : ZH := fun q => if q = a then some e else h q
def zup (f : Nat → Int) (i : Nat) (x : Int) : Nat → Int := fun j => if j = i then x else f j
def zuv (f : Nat → Value) (i : Nat) (x : Value) : Nat → Value := fun j => if j = i then x else f j
/-- the launch; numbers and slots of the kinds of objects, numbers of the kinds of arrays; where our cells begin -/
abbrev ZC : Type := Launch × va_G × (Nat → ClassId) × Nat
def ztys (Z : ZC) : List (ClassId × FieldType) := [(Z.2.2.1 0, .int), (Z.2.2.1 1, .boolean), (Z.2.2.1 2, .long), (Z.2.2.1 3, .object "TileStudio$Layer"), (Z.2.2.1 4, .object "TileStudio$Picture")]
def zat (Z : ZC) (a : Nat) (e : ZE) (H : Heap) : Prop := match e with
  | .inl (_, n, f) => H[a]? = some (arrV (Z.2.2.1 0) n (fun i => zI (f i)))
  | .inr (.inl (k, n, f)) => H[a]? = some (arrV (Z.2.2.1 k) n f)
  | .inr (.inr (c, fs)) => ∃ r : vw_C, zcls[c]? = some r ∧ t_OB a (Z.2.1.1 c) r.2.2 (Z.2.1.2 c) H (vp_V fs)
theorem zat.kept {Z : ZC} {a : Nat} {e : ZE} {H H1 : Heap} (h : zat Z a e H) (hq : H1[a]? = H[a]?) : zat Z a e H1 := by
  rcases e with ⟨g, n, f⟩ | ⟨k, n, f⟩ | ⟨c, fs⟩
  · exact hq.trans h
  · exact hq.trans h
  · obtain ⟨r, h1, h2⟩ := h
    exact ⟨r, h1, h2.kept hq⟩
theorem zat.lt {Z : ZC} {a : Nat} {e : ZE} {H : Heap} (h : zat Z a e H) : a < H.size := by
  rcases e with ⟨g, n, f⟩ | ⟨k, n, f⟩ | ⟨c, fs⟩
  · exact (Array.getElem?_eq_some_iff.mp h).1
  · exact (Array.getElem?_eq_some_iff.mp h).1
  · obtain ⟨r, h1, cell, h2, -⟩ := h
    exact (Array.getElem?_eq_some_iff.mp h2).1
def zRep (Z : ZC) (h : ZH) (H : Heap) : Prop := ∀ (a : Nat) (e : ZE), h a = some e → zat Z a e H ∧ Z.2.2.2 ≤ a
theorem zRep.set {Z : ZC} {h : ZH} {H H1 : Heap} {a : Nat} {e : ZE} (hr : zRep Z h H) (e1 : zat Z a e H1) (hb : Z.2.2.2 ≤ a) (oq : ∀ q : Nat, q ≠ a → H1[q]? = H[q]?) : zRep Z (zset h a e) H1 := by
  intro q x hq
  by_cases hqa : q = a
  · subst hqa
    simp only [zset, if_true] at hq
    cases hq
    exact ⟨e1, hb⟩
  · simp only [zset, if_neg hqa] at hq
    obtain ⟨h1, h2⟩ := hr q x hq
    exact ⟨h1.kept (oq q hqa), h2⟩
theorem zRep.fresh {Z : ZC} {h : ZH} {H : Heap} (hr : zRep Z h H) : h H.size = none := by
  cases hh : h H.size with
  | none => rfl
  | some e => exact absurd (hr _ _ hh).1.lt (Nat.lt_irrefl _)
theorem zRep.push {Z : ZC} {h : ZH} {H H1 : Heap} {e : ZE} (hr : zRep Z h H) (e1 : zat Z H.size e H1) (hb : Z.2.2.2 ≤ H.size) (oq : ∀ q : Nat, q < H.size → H1[q]? = H[q]?) : zRep Z (zset h H.size e) H1 := by
  intro q x hq
  by_cases hqa : q = H.size
  · subst hqa
    simp only [zset, if_true] at hq
    cases hq
    exact ⟨e1, hb⟩
  · simp only [zset, if_neg hqa] at hq
    obtain ⟨h1, h2⟩ := hr q x hq
    exact ⟨h1.kept (oq q h1.lt), h2⟩
theorem zset_same (h : ZH) (a : Nat) (e : ZE) : zset h a e a = some e := by simp [zset]
theorem zset_ne {h : ZH} {a q : Nat} {e : ZE} (hq : q ≠ a) : zset h a e q = h q := by simp [zset, hq]
theorem zset_set (h : ZH) (a : Nat) (e e' : ZE) : zset (zset h a e) a e' = zset h a e' := by
  funext q
  by_cases hq : q = a <;> simp [zset, hq]
theorem zset_id {h : ZH} {a : Nat} {e : ZE} (ha : h a = some e) : zset h a e = h := by
  funext q
  by_cases hq : q = a
  · subst hq; simp [zset, ha]
  · simp [zset, hq]
theorem zset_comm (h : ZH) {a b : Nat} (e e' : ZE) (hab : a ≠ b) : zset (zset h a e) b e' = zset (zset h b e') a e := by
  funext q
  by_cases hq : q = a
  · subst hq; simp [zset, hab]
  · by_cases hq2 : q = b
    · subst hq2; simp [zset, hq]
    · simp [zset, hq, hq2]
theorem zne {h : ZH} {a q : Nat} {e : ZE} (hq : h q = none) (ha : h a = some e) : a ≠ q := by
  intro hh
  subst hh
  rw [hq] at ha
  cases ha
/-! ===== the words; the world ===== -/
def zG : List Cond := lw_tbl.filter goodWord
theorem zG_good : ∀ w ∈ zG, goodWord w = true := fun _ h => (List.mem_filter.mp h).2
theorem zG_mem (i : Nat) {w : Cond} (h : lw_tbl[i]? = some w) (hg : goodWord w = true) : w ∈ zG := List.mem_filter.mpr ⟨List.mem_of_getElem? h, hg⟩
def zNc (U : State) : Prop := (∀ q ∈ zcasts, va_Nw (.castable q.1 q.2) U) ∧ (∀ q ∈ znocasts, va_Nc q.1 q.2 U) ∧ (∀ q ∈ znests, va_Nw (.methodLinkNest q.1 q.2.1 q.2.2.1 q.2.2.2) U) ∧ va_AO "TileStudio$Layer" U ∧ va_AO "TileStudio$Picture" U ∧ (∀ y ∈ zdecls, va_Nw (.declares y) U)
theorem zNc.moved {s U : State} (hW : s.WarmedH U.vm) (h : zNc s) : zNc U :=
  ⟨fun q hq => va_Nw.warmC hW (h.1 q hq), fun q hq => va_Nc.moved hW.alike (h.2.1 q hq), fun q hq => va_Nw.warmM hW (h.2.2.1 q hq), va_AO.moved hW.alike h.2.2.2.1, va_AO.moved hW.alike h.2.2.2.2.1, fun y hy => va_Nw.warmD hW (h.2.2.2.2.2 y hy)⟩
def zW (Z : ZC) (U : State) (H : Heap) : Prop := va_K Z.2.1 zcls (ztys Z) U ∧ zNc U ∧ (vx_Zq Bundle.tN "UNASSIGNED_STACK" Bundle.steD (fun q => Z.2.2.2 ≤ q) U H ∧ vx_Zq Bundle.tN "SUPPRESSED_SENTINEL" Bundle.listD (fun q => Z.2.2.2 ≤ q) U H) ∧ Z.2.2.2 ≤ H.size ∧ Z.1.stackTraces = false
theorem zW.moved {Z : ZC} {s U : State} {H : Heap} (hW : s.WarmedH U.vm) (h : zW Z s H) : zW Z U H :=
  ⟨va_K.moved hW.alike h.1, zNc.moved hW h.2.1, ⟨vx_Zq.moved hW.alike h.2.2.1.1, vx_Zq.moved hW.alike h.2.2.1.2⟩, h.2.2.2⟩
theorem zW.kept {Z : ZC} {U : State} {H H1 : Heap} (h : zW Z U H) (hz : H.size ≤ H1.size) (hq : ∀ a : Nat, a < H.size → ¬ Z.2.2.2 ≤ a → H1[a]? = H[a]?) : zW Z U H1 :=
  ⟨h.1, h.2.1, ⟨vx_Zq.kept h.2.2.1.1 hq, vx_Zq.kept h.2.2.1.2 hq⟩, Nat.le_trans h.2.2.2.1 hz, h.2.2.2.2⟩
/-! ===== methods: name, bytes, places, result, handlers, table (instruction, next, target) ===== -/
abbrev ZT : Type := Nat → Option (Instr × Nat × Nat)
abbrev MI : Type := MethodName × ByteArray × Nat × Option FieldType × List (Nat × Nat × Nat × Nat) × ZT
abbrev zy (M : MI) : MethodName := M.1
abbrev zcc (M : MI) : ByteArray := M.2.1
abbrev znL (M : MI) : Nat := M.2.2.1
abbrev zret (M : MI) : Option FieldType := M.2.2.2.1
abbrev zhh (M : MI) : List (Nat × Nat × Nat × Nat) := M.2.2.2.2.1
abbrev zT (M : MI) : ZT := M.2.2.2.2.2
def zlen : Instr → Nat
  | .bipush _ | .iload _ | .istore _ | .aload _ | .astore _ | .lload _ | .lstore _ | .ldc _ | .newarray _ => 2
  | .sipush _ | .getfield _ | .putfield _ | .invokevirtual _ | .invokespecial _ | .invokestatic _ | .new _ | .anewarray _ | .iinc .. | .checkcast _ | .ldc2_w _ | .ldc_w _ => 3
  | _ => 1
def zlk (pc : Nat) (i : Instr) (q t : Nat) : Bool := match i with
  | .if_icmp _ off | .ifCond _ off | .goto off | .ifnull off | .ifnonnull off => decide ((pc : Int) + off = (t : Int)) && decide (q = pc + 3)
  | .tableswitch .. | .lookupswitch .. => true
  | i => decide (q = pc + zlen i)
def zok (M : MI) : Prop := ∀ (pc : Nat) (i : Instr) (q t : Nat), zT M pc = some (i, q, t) → decode (zcc M) pc = .ok (i, q - pc) ∧ zlk pc i q t = true
def zck (M : MI) (pc : Nat) : Bool := match zT M pc with
  | none => true
  | some (i, q, t) => decide (decode (zcc M) pc = .ok (i, q - pc)) && zlk pc i q t
theorem zok_of {M : MI} (N : Nat) (hN : ∀ pc, N ≤ pc → zT M pc = none) (h : (List.range N).all (zck M) = true) : zok M := by
  intro pc i q t hd
  by_cases hp : pc < N
  · have h1 := List.all_eq_true.mp h pc (List.mem_range.mpr hp)
    simp only [zck, hd, Bool.and_eq_true, decide_eq_true_eq] at h1
    exact h1
  · rw [hN pc (Nat.not_lt.mp hp)] at hd
    cases hd
theorem zdec {M : MI} (hok : zok M) {pc : Nat} {i : Instr} {q t : Nat} (hd : zT M pc = some (i, q, t)) (n : Nat) (hz : ∀ q t, zlk pc i q t = decide (q = pc + n)) : decode (zcc M) pc = .ok (i, n) ∧ q = pc + n := by
  obtain ⟨h1, h2⟩ := hok pc i q t hd
  rw [hz] at h2
  have h3 := of_decide_eq_true h2
  subst h3
  rw [Nat.add_sub_cancel_left] at h1
  exact ⟨h1, rfl⟩
theorem zdecJ {M : MI} (hok : zok M) {pc : Nat} {i : Instr} {q t : Nat} (hd : zT M pc = some (i, q, t)) (off : Int) (hz : ∀ q t : Nat, zlk pc i q t = (decide ((pc : Int) + off = (t : Int)) && decide (q = pc + 3))) : decode (zcc M) pc = .ok (i, 3) ∧ (pc : Int) + off = (t : Int) ∧ q = pc + 3 := by
  obtain ⟨h1, h2⟩ := hok pc i q t hd
  rw [hz, Bool.and_eq_true] at h2
  have h3 := of_decide_eq_true h2.2
  have h4 := of_decide_eq_true h2.1
  subst h3
  rw [Nat.add_sub_cancel_left] at h1
  exact ⟨h1, h4, rfl⟩
/-! ===== variables: by their places; zU: not known ===== -/
def zls : Nat → List Value → List (Nat × Value)
  | _, [] => []
  | i, v :: vs => match v with
    | .float _ => zls (i + 1) vs
    | v => (i, v) :: zls (i + 1) vs
def zkn (v : Value) : Bool := match v with
  | .float _ => false
  | _ => true
theorem zls_cons (i : Nat) (v : Value) (vs : List Value) : zls i (v :: vs) = if zkn v = true then (i, v) :: zls (i + 1) vs else zls (i + 1) vs := by
  cases v <;> rfl
theorem zls_mem : ∀ (L : List Value) (i j : Nat) (w : Value), (j, w) ∈ zls i L ↔ i ≤ j ∧ L[j - i]? = some w ∧ zkn w = true := by
  intro L
  induction L with
  | nil => intro i j w; simp [zls]
  | cons v vs ih =>
    intro i j w
    rw [zls_cons]
    have hsplit : (i ≤ j ∧ (v :: vs)[j - i]? = some w) ↔ (i = j ∧ v = w) ∨ (i + 1 ≤ j ∧ vs[j - (i + 1)]? = some w) := by
      constructor
      · rintro ⟨h1, h2⟩
        by_cases hj : j = i
        · subst hj
          simp at h2
          exact Or.inl ⟨rfl, h2⟩
        · have e : j - i = (j - (i + 1)) + 1 := by omega
          rw [e, List.getElem?_cons_succ] at h2
          exact Or.inr ⟨by omega, h2⟩
      · rintro (⟨rfl, rfl⟩ | ⟨h1, h2⟩)
        · simp
        · have e : j - i = (j - (i + 1)) + 1 := by omega
          rw [e, List.getElem?_cons_succ]
          exact ⟨by omega, h2⟩
    rw [← and_assoc, hsplit]
    by_cases hk : zkn v = true
    · rw [if_pos hk, List.mem_cons, ih]
      constructor
      · rintro (h | ⟨h1, h2, h3⟩)
        · cases h
          exact ⟨Or.inl ⟨rfl, rfl⟩, hk⟩
        · exact ⟨Or.inr ⟨h1, h2⟩, h3⟩
      · rintro ⟨⟨rfl, rfl⟩ | ⟨h1, h2⟩, h3⟩
        · exact Or.inl rfl
        · exact Or.inr ⟨h1, h2, h3⟩
    · rw [if_neg hk, ih]
      constructor
      · rintro ⟨h1, h2, h3⟩
        exact ⟨Or.inr ⟨h1, h2⟩, h3⟩
      · rintro ⟨⟨rfl, rfl⟩ | ⟨h1, h2⟩, h3⟩
        · exact absurd h3 hk
        · exact ⟨h1, h2, h3⟩
/-- a variable is set; places between are filled up -/
def zsl : List Value → Nat → Value → List Value
  | [], 0, v => [v]
  | [], n + 1, v => zU :: zsl [] n v
  | _ :: t, 0, v => v :: t
  | a :: t, n + 1, v => a :: zsl t n v
theorem zsl_get : ∀ (L : List Value) (i : Nat) (v : Value) (j : Nat) (w : Value), (zsl L i v)[j]? = some w → zkn w = true → (j = i ∧ w = v) ∨ (j ≠ i ∧ L[j]? = some w) := by
  intro L i
  induction i generalizing L with
  | zero =>
    intro v j w h hk
    cases L with
    | nil =>
      cases j with
      | zero => simp [zsl] at h; exact Or.inl ⟨rfl, h.symm⟩
      | succ j => simp [zsl] at h
    | cons a t =>
      cases j with
      | zero => simp [zsl] at h; exact Or.inl ⟨rfl, h.symm⟩
      | succ j => simp [zsl] at h; exact Or.inr ⟨by omega, by simpa using h⟩
  | succ n ih =>
    intro v j w h hk
    cases L with
    | nil =>
      cases j with
      | zero => simp [zsl] at h; subst h; cases hk
      | succ j =>
        simp only [zsl, List.getElem?_cons_succ] at h
        rcases ih [] v j w h hk with ⟨rfl, rfl⟩ | ⟨_, h2⟩
        · exact Or.inl ⟨rfl, rfl⟩
        · simp at h2
    | cons a t =>
      cases j with
      | zero => simp [zsl] at h; exact Or.inr ⟨by omega, by simpa using h⟩
      | succ j =>
        simp only [zsl, List.getElem?_cons_succ] at h
        rcases ih t v j w h hk with ⟨rfl, rfl⟩ | ⟨h1, h2⟩
        · exact Or.inl ⟨rfl, rfl⟩
        · exact Or.inr ⟨by omega, by simpa using h2⟩
/-- no long lies just ahead -/
def zst (L : List Value) (i : Nat) : Bool := match i with
  | 0 => true
  | n + 1 => match L[n]? with
    | some (.long _) => false
    | some (.double _) => false
    | _ => true
theorem zst_spec {L : List Value} {i j : Nat} {w : Value} (h : zst L i = true) (hj : L[j]? = some w) (hi : j + 1 = i) : w.category = 1 := by
  subst hi
  cases w <;> simp_all [zst, Value.category]
theorem lv_mono {ls : Array Slot} {n : Nat} {l l' : List (Nat × Value)} (h : lv_has ls n l) (hs : ∀ q ∈ l', q ∈ l) : lv_has ls n l' := ⟨h.1, h.2.1, fun q hq => h.2.2 q (hs q hq)⟩
theorem zhas_at {ls : Array Slot} {n : Nat} {L : List Value} (h : lv_has ls n (zls 0 L)) {i : Nat} {v : Value} (hi : L[i]? = some v) (hk : zkn v = true) : ls[i]? = some (.val v) := h.2.2 (i, v) ((zls_mem L 0 i v).mpr ⟨Nat.zero_le _, hi, hk⟩)
theorem zhas_set {ls : Array Slot} {n : Nat} {L : List Value} {i : Nat} {v : Value} (hz : zst L i = true) (h : lv_has ls n ((i, v) :: (zls 0 L).filter (fun q => !(q.1 == i) && !(q.1 + 1 == i && q.2.category == 2)))) : lv_has ls n (zls 0 (zsl L i v)) := by
  refine lv_mono h ?_
  rintro ⟨j, w⟩ hq
  obtain ⟨-, h2, h3⟩ := (zls_mem _ _ _ _).mp hq
  rcases zsl_get L i v (j - 0) w h2 h3 with ⟨h4, rfl⟩ | ⟨h4, h5⟩
  · simp at h4; subst h4; exact List.mem_cons_self
  · refine List.mem_cons_of_mem _ (List.mem_filter.mpr ⟨(zls_mem _ _ _ _).mpr ⟨Nat.zero_le _, h5, h3⟩, ?_⟩)
    simp at h4 h5
    by_cases hj : j + 1 = i
    · have := zst_spec hz h5 hj
      simp [h4, this]
    · simp [h4, hj]
theorem zhas_set2 {ls : Array Slot} {n : Nat} {L : List Value} {i : Nat} {v : Value} (hz : zst L i = true) (h : lv_has ls n ((i, v) :: (zls 0 L).filter (fun q => !(q.1 == i) && (!(q.1 == i + 1) && !(q.1 + 1 == i && q.2.category == 2))))) : lv_has ls n (zls 0 (zsl (zsl L i v) (i + 1) zU)) := by
  refine lv_mono h ?_
  rintro ⟨j, w⟩ hq
  obtain ⟨-, h2, h3⟩ := (zls_mem _ _ _ _).mp hq
  rcases zsl_get _ (i + 1) zU (j - 0) w h2 h3 with ⟨h4, rfl⟩ | ⟨h4, h5⟩
  · cases h3
  · rcases zsl_get L i v (j - 0) w h5 h3 with ⟨h6, rfl⟩ | ⟨h6, h7⟩
    · simp at h6; subst h6; exact List.mem_cons_self
    · refine List.mem_cons_of_mem _ (List.mem_filter.mpr ⟨(zls_mem _ _ _ _).mpr ⟨Nat.zero_le _, h7, h3⟩, ?_⟩)
      simp at h4 h6 h7
      by_cases hj : j + 1 = i
      · have := zst_spec hz h7 hj
        simp [h4, h6, this]
      · simp [h4, h6, hj]
theorem zls_args : ∀ (av : List Value) (i : Nat), (∀ v ∈ av, v.category = 1) → ∀ q ∈ zls i av, q ∈ lv_args i av := by
  intro av
  induction av with
  | nil => intro i _ q hq; cases hq
  | cons v vs ih =>
    intro i h q hq
    have h1 : ¬ v.category = 2 := by rw [h v List.mem_cons_self]; decide
    rw [zls_cons] at hq
    simp only [lv_args, if_neg h1]
    split at hq
    · rcases List.mem_cons.mp hq with rfl | hq
      · exact List.mem_cons_self
      · exact List.mem_cons_of_mem _ (ih (i + 1) (fun w hw => h w (List.mem_cons_of_mem _ hw)) q hq)
    · exact List.mem_cons_of_mem _ (ih (i + 1) (fun w hw => h w (List.mem_cons_of_mem _ hw)) q hq)
theorem lg_sl_len : ∀ (av : List Value), (∀ v ∈ av, v.category = 1) → (lg_sl av).length = av.length := by
  intro av
  induction av with
  | nil => intro _; rfl
  | cons v vs ih =>
    intro h
    have h1 : ¬ v.category = 2 := by rw [h v List.mem_cons_self]; decide
    have h2 := ih (fun w hw => h w (List.mem_cons_of_mem _ hw))
    simp only [lg_sl, List.flatMap_cons, if_neg h1, List.length_append, List.length_cons, List.length_nil] at h2 ⊢
    omega
theorem zG_T (i : Nat) {w : Cond} (h : tables_1[i]? = some w) (hg : goodWord w = true) : w ∈ zG := List.mem_filter.mpr ⟨List.mem_append_right _ (List.mem_of_getElem? h), hg⟩
theorem zG_S (i : Nat) {w : Cond} (h : (k2_sels lw_privs)[i]? = some w) (hg : goodWord w = true) : w ∈ zG := List.mem_filter.mpr ⟨List.mem_append_left _ (List.mem_of_getElem? h), hg⟩
def zmk (N : Nat) (f : ZT) : ZT := fun pc => cond (Nat.blt pc N) (f pc) none
theorem zok_mk {M : MI} {N : Nat} {f : ZT} (hT : zT M = zmk N f) (h : (List.range N).all (zck M) = true) : zok M := by
  refine zok_of N (fun pc hp => ?_) h
  rw [hT]
  have h1 : Nat.blt pc N = false := by
    cases h2 : Nat.blt pc N
    · rfl
    · exact absurd (zblt h2) (Nat.not_lt.mpr hp)
  simp [zmk, h1]

