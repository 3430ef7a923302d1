/-! numbers of the small machine beside the machine's -/
def z32 (x : Int) : Prop := -2147483648 ≤ x ∧ x < 2147483648
def z64 (x : Int) : Prop := -9223372036854775808 ≤ x ∧ x < 9223372036854775808
theorem zw32_in (x : Int) : z32 (zw32 x) := by unfold z32 zw32; omega
theorem zw64_in (x : Int) : z64 (zw64 x) := by unfold z64 zw64; omega
theorem zw32_of {x : Int} (h : z32 x) : zw32 x = x := by unfold z32 at h; unfold zw32; omega
theorem zw64_of {x : Int} (h : z64 x) : zw64 x = x := by unfold z64 at h; unfold zw64; omega
theorem z32_toInt (x : Int32) : z32 x.toInt := ⟨by have := Int32.le_toInt x; omega, by have := Int32.toInt_lt x; omega⟩
theorem z64_toInt (x : Int64) : z64 x.toInt := ⟨by have := Int64.le_toInt x; omega, by have := Int64.toInt_lt x; omega⟩
theorem z_back {x : Int} (h : z32 x) : (Int32.ofInt x).toInt = x := Int32.toInt_ofInt_of_le (by unfold z32 at h; omega) (by unfold z32 at h; omega)
theorem zl_back {x : Int} (h : z64 x) : (Int64.ofInt x).toInt = x := Int64.toInt_ofInt_of_le (by unfold z64 at h; omega) (by unfold z64 at h; omega)
theorem z_mod {x y : Int} (h : ∃ k : Int, x = y + k * 4294967296) : Int32.ofInt x = Int32.ofInt y := by
  obtain ⟨k, rfl⟩ := h
  apply Int32.toInt_inj.mp
  rw [Int32.toInt_ofInt, Int32.toInt_ofInt]
  show (y + k * 4294967296).bmod 4294967296 = y.bmod 4294967296
  rw [Int.bmod_def, Int.bmod_def, show (y + k * 4294967296) % ((4294967296 : Nat) : Int) = y % ((4294967296 : Nat) : Int) by omega]
theorem zl_mod {x y : Int} (h : ∃ k : Int, x = y + k * 18446744073709551616) : Int64.ofInt x = Int64.ofInt y := by
  obtain ⟨k, rfl⟩ := h
  apply Int64.toInt_inj.mp
  rw [Int64.toInt_ofInt, Int64.toInt_ofInt]
  show (y + k * 18446744073709551616).bmod 18446744073709551616 = y.bmod 18446744073709551616
  rw [Int.bmod_def, Int.bmod_def, show (y + k * 18446744073709551616) % ((18446744073709551616 : Nat) : Int) = y % ((18446744073709551616 : Nat) : Int) by omega]
theorem z_w (x : Int) : Int32.ofInt (zw32 x) = Int32.ofInt x := z_mod ⟨-((x + 2147483648) / 4294967296), by unfold zw32; omega⟩
theorem zl_w (x : Int) : Int64.ofInt (zw64 x) = Int64.ofInt x := zl_mod ⟨-((x + 9223372036854775808) / 18446744073709551616), by unfold zw64; omega⟩
theorem z_add (x y : Int) : Int32.ofInt x + Int32.ofInt y = Int32.ofInt (zw32 (x + y)) := by rw [z_w, Int32.ofInt_add]
theorem z_sub (x y : Int) : Int32.ofInt x - Int32.ofInt y = Int32.ofInt (zw32 (x - y)) := by rw [z_w, Int32.ofInt_sub]
theorem z_mul (x y : Int) : Int32.ofInt x * Int32.ofInt y = Int32.ofInt (zw32 (x * y)) := by rw [z_w, Int32.ofInt_mul]
theorem z_neg (x : Int) : -Int32.ofInt x = Int32.ofInt (zw32 (-x)) := by rw [z_w, Int32.ofInt_neg]
theorem zl_add (x y : Int) : Int64.ofInt x + Int64.ofInt y = Int64.ofInt (zw64 (x + y)) := by rw [zl_w, Int64.ofInt_add]
theorem zl_sub (x y : Int) : Int64.ofInt x - Int64.ofInt y = Int64.ofInt (zw64 (x - y)) := by rw [zl_w, Int64.ofInt_sub]
theorem zl_mul (x y : Int) : Int64.ofInt x * Int64.ofInt y = Int64.ofInt (zw64 (x * y)) := by rw [zl_w, Int64.ofInt_mul]
theorem zl_neg (x : Int) : -Int64.ofInt x = Int64.ofInt (zw64 (-x)) := by rw [zl_w, Int64.ofInt_neg]
theorem z_min : Int32.minValue.toInt = -2147483648 := by decide
theorem z_max : Int32.maxValue.toInt = 2147483647 := by decide
theorem zl_min : Int64.minValue.toInt = -9223372036854775808 := by decide
theorem zl_max : Int64.maxValue.toInt = 9223372036854775807 := by decide
theorem z_div {x y : Int} (hx : z32 x) (hy : z32 y) : Int32.ofInt x / Int32.ofInt y = Int32.ofInt (zw32 (x.tdiv y)) := by
  rw [z_w, Int32.ofInt_tdiv (by rw [z_min]; exact hx.1) (by rw [z_max]; exact Int.le_of_lt_add_one hx.2) (by rw [z_min]; exact hy.1) (by rw [z_max]; exact Int.le_of_lt_add_one hy.2)]
theorem zl_div {x y : Int} (hx : z64 x) (hy : z64 y) : Int64.ofInt x / Int64.ofInt y = Int64.ofInt (zw64 (x.tdiv y)) := by
  rw [zl_w, Int64.ofInt_tdiv (by rw [zl_min]; exact hx.1) (by rw [zl_max]; exact Int.le_of_lt_add_one hx.2) (by rw [zl_min]; exact hy.1) (by rw [zl_max]; exact Int.le_of_lt_add_one hy.2)]
theorem z_rem {x y : Int} (hx : z32 x) (hy : z32 y) : Int32.ofInt x - Int32.ofInt x / Int32.ofInt y * Int32.ofInt y = Int32.ofInt (x.tmod y) := by
  rw [z_div hx hy, z_w, ← Int32.ofInt_mul, ← Int32.ofInt_sub]
  congr 1
  have := Int.mul_tdiv_add_tmod x y
  rw [Int.mul_comm] at this
  omega
theorem zl_rem {x y : Int} (hx : z64 x) (hy : z64 y) : Int64.ofInt x - Int64.ofInt x / Int64.ofInt y * Int64.ofInt y = Int64.ofInt (x.tmod y) := by
  rw [zl_div hx hy, zl_w, ← Int64.ofInt_mul, ← Int64.ofInt_sub]
  congr 1
  have := Int.mul_tdiv_add_tmod x y
  rw [Int.mul_comm] at this
  omega
theorem z32_tmod {x y : Int} (hx : z32 x) : z32 (x.tmod y) := by
  unfold z32 at hx ⊢
  have h2 : (x.tmod y).natAbs ≤ x.natAbs := by rw [Int.natAbs_tmod]; exact Nat.mod_le _ _
  rcases Int.le_total 0 x with h | h
  · have := Int.tmod_nonneg y h
    omega
  · have h3 := Int.tmod_nonneg y (show 0 ≤ -x by omega)
    rw [Int.neg_tmod] at h3
    omega
theorem z64_tmod {x y : Int} (hx : z64 x) : z64 (x.tmod y) := by
  unfold z64 at hx ⊢
  have h2 : (x.tmod y).natAbs ≤ x.natAbs := by rw [Int.natAbs_tmod]; exact Nat.mod_le _ _
  rcases Int.le_total 0 x with h | h
  · have := Int.tmod_nonneg y h
    omega
  · have h3 := Int.tmod_nonneg y (show 0 ≤ -x by omega)
    rw [Int.neg_tmod] at h3
    omega
theorem z_and (x y : Int) : Int32.ofInt x &&& Int32.ofInt y = Int32.ofInt (zand x y) := (Int32.ofInt_toInt _).symm
theorem z_or (x y : Int) : Int32.ofInt x ||| Int32.ofInt y = Int32.ofInt (zor x y) := (Int32.ofInt_toInt _).symm
theorem z_xor (x y : Int) : Int32.ofInt x ^^^ Int32.ofInt y = Int32.ofInt (zxor x y) := (Int32.ofInt_toInt _).symm
theorem z_shl (x y : Int) : Int32.ofInt x <<< (Int32.ofInt y &&& 31) = Int32.ofInt (zshl x y) := (Int32.ofInt_toInt _).symm
theorem z_shr (x y : Int) : Int32.ofInt x >>> (Int32.ofInt y &&& 31) = Int32.ofInt (zshr x y) := (Int32.ofInt_toInt _).symm
theorem zl_or (x y : Int) : Int64.ofInt x ||| Int64.ofInt y = Int64.ofInt (zlor x y) := (Int64.ofInt_toInt _).symm
theorem zl_shl (x y : Int) : Int64.ofInt x <<< ((Int32.ofInt y).toInt64 &&& 63) = Int64.ofInt (zlshl x y) := (Int64.ofInt_toInt _).symm
theorem zl_shr (x y : Int) : Int64.ofInt x >>> ((Int32.ofInt y).toInt64 &&& 63) = Int64.ofInt (zlshr x y) := (Int64.ofInt_toInt _).symm
theorem z_eq {x y : Int} (hx : z32 x) (hy : z32 y) : Int32.ofInt x = Int32.ofInt y ↔ x = y :=
  ⟨fun h => by rw [← z_back hx, ← z_back hy, h], fun h => by rw [h]⟩
theorem zl_eq {x y : Int} (hx : z64 x) (hy : z64 y) : Int64.ofInt x = Int64.ofInt y ↔ x = y :=
  ⟨fun h => by rw [← zl_back hx, ← zl_back hy, h], fun h => by rw [h]⟩
theorem z_eq0 {x : Int} (hx : z32 x) : Int32.ofInt x = 0 ↔ x = 0 := z_eq (y := 0) hx (by unfold z32; omega)
theorem zl_eq0 {x : Int} (hx : z64 x) : Int64.ofInt x = 0 ↔ x = 0 := zl_eq (y := 0) hx (by unfold z64; omega)
theorem z_lt {x y : Int} (hx : z32 x) (hy : z32 y) : Int32.ofInt x < Int32.ofInt y ↔ x < y := by rw [Int32.lt_iff_toInt_lt, z_back hx, z_back hy]
theorem z_le {x y : Int} (hx : z32 x) (hy : z32 y) : Int32.ofInt x ≤ Int32.ofInt y ↔ x ≤ y := by rw [Int32.le_iff_toInt_le, z_back hx, z_back hy]
theorem z_lt0 {x : Int} (hx : z32 x) : Int32.ofInt x < 0 ↔ x < 0 := z_lt (y := 0) hx (by unfold z32; omega)
theorem z_clamp {x : Int} (hx : z32 x) : (Int32.ofInt x).toNatClampNeg = x.toNat := by show (Int32.ofInt x).toInt.toNat = _; rw [z_back hx]
theorem z_i2l {x : Int} (hx : z32 x) : (Int32.ofInt x).toInt64 = Int64.ofInt x := by
  apply Int64.toInt_inj.mp
  rw [Int32.toInt_toInt64, z_back hx, zl_back (by unfold z32 at hx; unfold z64; omega)]
theorem z_l2i (x : Int) : (Int64.ofInt x).toInt32 = Int32.ofInt (zw32 x) := by rw [z_w, Int64.toInt32_ofInt]
theorem z_i2b {x : Int} : (Int32.ofInt x).toInt8.toInt32 = Int32.ofInt ((x + 128) % 256 - 128) := by
  apply Int32.toInt_inj.mp
  rw [z_back (by unfold z32; omega), Int8.toInt_toInt32, Int32.toInt8_ofInt, Int8.toInt_ofInt]
  show x.bmod 256 = _
  rw [Int.bmod_def]
  split <;> omega
theorem z_i2c {x : Int} : ((Int32.ofInt x).toUInt32 % 65536).toInt32 = Int32.ofInt (x % 65536) := by
  have h : (Int32.ofInt x).toUInt32.toNat = (x % 4294967296).toNat := by
    show (BitVec.ofInt 32 x).toNat = _
    rw [BitVec.toNat_ofInt]
    rfl
  have h1 : (Int32.ofInt x).toUInt32 % 65536 = UInt32.ofNat (x % 65536).toNat := by
    apply UInt32.toNat_inj.mp
    rw [UInt32.toNat_mod, h, UInt32.toNat_ofNat']
    show (x % 4294967296).toNat % 65536 = (x % 65536).toNat % 4294967296
    omega
  rw [h1, UInt32.toInt32_ofNat']
  rw [← Int32.ofInt_eq_ofNat]
  congr 1
  omega
theorem zl_cmp {x y : Int} (hx : z64 x) (hy : z64 y) : lg_cmp (Int64.ofInt x) (Int64.ofInt y) = Int32.ofInt (zcmp x y) := by
  unfold lg_cmp zcmp
  simp only [gt_iff_lt, Int64.lt_iff_toInt_lt, ← Int64.toInt_inj, zl_back hx, zl_back hy]
  split
  · rw [if_neg (by omega), if_neg (by omega)]; rfl
  · split
    · rw [if_neg (by omega)]; rfl
    · rw [if_pos (by omega)]; rfl
theorem z_ushr (x y : Int) : ((Int32.ofInt x).toUInt32 >>> ((Int32.ofInt y).toUInt32 &&& 31)).toInt32 = Int32.ofInt (zushr x y) := (Int32.ofInt_toInt _).symm
