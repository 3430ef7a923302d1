/-! the machine's counting, and what is in one set and not in another -/
theorem zw32_nat {a : Nat} (h : a < 2147483648) : zw32 (a : Int) = a := by unfold zw32; omega
theorem zushr_nat {a k : Nat} (ha : a < 2147483648) (hk : k < 32) : zushr a k = ((a / 2 ^ k : Nat) : Int) := by
  unfold zushr
  show (((Int32.ofInt (a : Int)).toUInt32 >>> ((Int32.ofInt (k : Int)).toUInt32 &&& 31))).toBitVec.toInt = _
  rw [UInt32.toBitVec_shiftRight]
  have h1 : (((Int32.ofInt (k : Int)).toUInt32 &&& 31).toBitVec % 32).toNat = k := by
    have : ∀ k : Nat, k < 32 → (((Int32.ofInt (k : Int)).toUInt32 &&& 31).toBitVec % 32).toNat = k := by decide +kernel
    exact this k hk
  rw [BitVec.ushiftRight_eq', h1]
  show ((Int32.ofInt (a : Int)).toBitVec >>> k).toInt = _
  rw [z32_bv]
  have h2 : BitVec.ofNat 32 a >>> k = BitVec.ofNat 32 (a / 2 ^ k) := by
    apply BitVec.eq_of_toNat_eq
    rw [BitVec.toNat_ushiftRight, BitVec.toNat_ofNat, BitVec.toNat_ofNat, Nat.mod_eq_of_lt (by omega), Nat.mod_eq_of_lt, Nat.shiftRight_eq_div_pow]
    exact Nat.lt_of_le_of_lt (Nat.div_le_self a _) (by omega)
  rw [h2]
  exact zbv_in (Nat.lt_of_le_of_lt (Nat.div_le_self a _) ha)
theorem zbc_val {x : Nat} (hx : x < 16777216) (d : Nat) (σ : zS) : zcal zPP (d + 1) 1 [zI x] σ = some (zI (zpop 24 x), σ) := by

  rw [c_Integer_bitCount]
  have q1 : zand (zushr x 1) 1431655765 = (((x / 2) &&& 1431655765 : Nat) : Int) := by
    rw [show (1 : Int) = ((1 : Nat) : Int) from rfl, zushr_nat (by omega) (by decide), show (1431655765 : Int) = ((1431655765 : Nat) : Int) from rfl, zand_nat (by omega)]
  have hl : (x / 2) &&& 1431655765 ≤ x := Nat.le_trans Nat.and_le_left (Nat.div_le_self x 2)
  have q2 : zw32 ((x : Int) - (zand (zushr x 1) 1431655765)) = ((zh1 1431655765 x : Nat) : Int) := by
    rw [q1]
    unfold zh1 zw32
    omega
  rw [q2]
  have hs1 : zh1 1431655765 x < 16777216 := by unfold zh1; omega
  generalize hy : zh1 1431655765 x = y at *
  have q3 : zand (y : Int) 858993459 = ((y &&& 858993459 : Nat) : Int) := by
    rw [show (858993459 : Int) = ((858993459 : Nat) : Int) from rfl, zand_nat (by omega)]
  have q4 : zand (zushr (y : Int) 2) 858993459 = (((y / 4) &&& 858993459 : Nat) : Int) := by
    rw [show (2 : Int) = ((2 : Nat) : Int) from rfl, zushr_nat (by omega) (by decide), show (858993459 : Int) = ((858993459 : Nat) : Int) from rfl, zand_nat (by omega)]
  have l3 : y &&& 858993459 ≤ y := Nat.and_le_left
  have l4 : (y / 4) &&& 858993459 ≤ y / 4 := Nat.and_le_left
  have q5 : zw32 ((zand (y : Int) 858993459) + (zand (zushr (y : Int) 2) 858993459)) = ((zh2 858993459 y : Nat) : Int) := by
    rw [q3, q4]
    unfold zh2 zw32
    omega
  rw [q5]
  have hs2 : zh2 858993459 y < 33554432 := by unfold zh2; omega
  generalize hz : zh2 858993459 y = z at *
  have q6 : zand (zw32 ((z : Int) + (zushr (z : Int) 4))) 252645135 = ((zh3 252645135 z : Nat) : Int) := by
    rw [show (4 : Int) = ((4 : Nat) : Int) from rfl, zushr_nat (by omega) (by decide), show ((z : Int) + ((z / 2 ^ 4 : Nat) : Int)) = ((z + z / 16 : Nat) : Int) by rw [show (2 : Nat) ^ 4 = 16 from rfl]; omega, zw32_nat (by omega), show (252645135 : Int) = ((252645135 : Nat) : Int) from rfl, zand_nat (by omega)]
    rfl
  rw [q6]
  have hs3 : zh3 252645135 z < 134217728 := by
    have : zh3 252645135 z ≤ z + z / 16 := Nat.and_le_left
    omega
  have hp := zpop_24 hx
  rw [hy, hz] at hp
  generalize zh3 252645135 z = t at *
  have q7 : zw32 ((t : Int) + (zushr (t : Int) 8)) = ((t + t / 256 : Nat) : Int) := by
    rw [show (8 : Int) = ((8 : Nat) : Int) from rfl, zushr_nat (by omega) (by decide), show (2 : Nat) ^ 8 = 256 from rfl]
    unfold zw32
    omega
  rw [q7]
  have hu : t + t / 256 < 268435456 := by omega
  generalize hU : t + t / 256 = u at *
  have q8 : zand (zw32 ((u : Int) + (zushr (u : Int) 16))) 63 = (((u + u / 65536) % 64 : Nat) : Int) := by
    rw [show (16 : Int) = ((16 : Nat) : Int) from rfl, zushr_nat (by omega) (by decide), show (2 : Nat) ^ 16 = 65536 from rfl, show ((u : Int) + ((u / 65536 : Nat) : Int)) = ((u + u / 65536 : Nat) : Int) by omega, zw32_nat (by omega), show (63 : Int) = ((63 : Nat) : Int) from rfl, zand_nat (by omega)]
    rw [show (63 : Nat) = 2 ^ 6 - 1 from rfl, Nat.and_two_pow_sub_one_eq_mod]
  rw [q8]
  have hp : (u + u / 65536) % 64 = zpop 24 x := by
    have := hp
    simp only [hU] at this
    exact this
  rw [hp]
theorem k_bitCount (f : Nat → Bool) (d : Nat) (σ : zS) : zcal zPP (d + 1) 1 [zI (zsn f 24 : Nat)] σ = some (zI (zct f 24 : Nat), σ) := by
  rw [zbc_val (zsn_lt f 24), zpop_zsn]
/-- what is in one and not in the other -/
theorem zandn_nat {a b : Nat} (ha : a < 2147483648) : zand a (zxor b (-1)) = ((a &&& (4294967295 ^^^ b) : Nat) : Int) := by
  unfold zand zxor
  rw [Int32.ofInt_toInt]
  show (Int32.ofInt a &&& (Int32.ofInt b ^^^ Int32.ofInt (-1))).toBitVec.toInt = _
  rw [Int32.toBitVec_and, Int32.toBitVec_xor, z32_bv, z32_bv, show (Int32.ofInt (-1)).toBitVec = BitVec.ofNat 32 4294967295 from rfl, ← BitVec.ofNat_xor, ← BitVec.ofNat_and, Nat.xor_comm b]
  exact zbv_in (Nat.lt_of_le_of_lt Nat.and_le_left ha)
theorem zsn_andn (f g : Nat → Bool) {n : Nat} (hn : n ≤ 32) : zsn f n &&& (4294967295 ^^^ zsn g n) = zsn (fun i => f i && !(g i)) n := znat_ext fun i => by
  rw [Nat.testBit_and, Nat.testBit_xor, zsn_bit, zsn_bit, zsn_bit, show (4294967295 : Nat) = 2 ^ 32 - 1 from rfl, Nat.testBit_two_pow_sub_one]
  by_cases hi : i < n
  · simp [hi, show i < 32 by omega]
  · simp [hi]
/-- bits by one -/
theorem zsn_put (f : Nat → Bool) {k n : Nat} (h : k < n) : zsn f n ||| 2 ^ k = zsn (fun i => f i || decide (i = k)) n := by
  rw [← zsn_one h, zsn_or]
theorem zsn_del (f : Nat → Bool) {k n : Nat} (h : k < n) (hn : n ≤ 32) : zsn f n &&& (4294967295 ^^^ 2 ^ k) = zsn (fun i => f i && !decide (i = k)) n := by
  rw [← zsn_one h, zsn_andn _ _ hn]
theorem zsn_24 (f : Nat → Bool) : zsn f 24 < 2147483648 := Nat.lt_of_lt_of_le (zsn_lt f 24) (by decide)
theorem zsn_bit24 (f : Nat → Bool) {k : Nat} (hk : k < 24) : zand (zshr (zsn f 24 : Nat) k) 1 = if f k then 1 else 0 := by
  rw [zbit_nat (zsn_24 f) (by omega), zsn_bit]
  simp [hk]
theorem zsn_and24 (f g : Nat → Bool) : zand (zsn f 24 : Nat) (zsn g 24 : Nat) = (zsn (fun i => f i && g i) 24 : Nat) := by rw [zand_nat (zsn_24 f), zsn_and]
theorem zsn_or24 (f g : Nat → Bool) : zor (zsn f 24 : Nat) (zsn g 24 : Nat) = (zsn (fun i => f i || g i) 24 : Nat) := by rw [zor_nat (zsn_24 f) (zsn_24 g), zsn_or]
theorem zsn_xor24 (f g : Nat → Bool) : zxor (zsn f 24 : Nat) (zsn g 24 : Nat) = (zsn (fun i => f i ^^ g i) 24 : Nat) := by rw [zxor_nat (zsn_24 f) (zsn_24 g), zsn_xor]
theorem zsn_andn24 (f g : Nat → Bool) : zand (zsn f 24 : Nat) (zxor (zsn g 24 : Nat) (-1)) = (zsn (fun i => f i && !(g i)) 24 : Nat) := by rw [zandn_nat (zsn_24 f), zsn_andn _ _ (by decide)]
theorem zsn_put24 (f : Nat → Bool) {k : Nat} (h : k < 24) : zor (zsn f 24 : Nat) (zshl 1 k) = (zsn (fun i => f i || decide (i = k)) 24 : Nat) := by
  rw [zshl_one (by omega), zor_nat (zsn_24 f) (Nat.lt_of_lt_of_le (Nat.pow_lt_pow_right (by decide) h) (by decide)), zsn_put f h]
theorem zsn_del24 (f : Nat → Bool) {k : Nat} (h : k < 24) : zand (zsn f 24 : Nat) (zxor (zshl 1 k) (-1)) = (zsn (fun i => f i && !decide (i = k)) 24 : Nat) := by
  rw [zshl_one (by omega), zandn_nat (zsn_24 f), zsn_del f h (by decide)]
theorem zsn_eq0 (f : Nat → Bool) : ∀ n, zsn f n = 0 ↔ ∀ i, i < n → f i = false := fun n => by
  constructor
  · intro h i hi
    have := zsn_bit f i n
    rw [h] at this
    simp [hi] at this
    exact this
  · intro h
    rw [zsn_cong (g := fun _ => false) h, zsn_none]
