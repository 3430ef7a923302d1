/-! SETS OF PLACES AS NUMBERS -/
def zsn (f : Nat → Bool) : Nat → Nat
  | 0 => 0
  | n + 1 => zsn f n + (if f n then 2 ^ n else 0)
theorem zsn_lt (f : Nat → Bool) : ∀ n, zsn f n < 2 ^ n
  | 0 => Nat.one_pos
  | n + 1 => by
    have := zsn_lt f n
    unfold zsn
    rw [Nat.pow_succ]
    split <;> omega
theorem zsn_bit (f : Nat → Bool) (i : Nat) : ∀ n, (zsn f n).testBit i = (decide (i < n) && f i)
  | 0 => by simp [zsn]
  | n + 1 => by
    have h1 := zsn_lt f n
    have h2 := zsn_bit f i n
    unfold zsn
    by_cases hf : f n = true
    · rw [if_pos hf, Nat.add_comm]
      by_cases hi : i = n
      · subst hi
        rw [Nat.testBit_two_pow_add_eq, Nat.testBit_lt_two_pow h1]
        simp [hf]
      · by_cases hlt : i < n
        · rw [Nat.testBit_two_pow_add_gt hlt, h2]
          simp [hlt, Nat.lt_succ_of_lt hlt]
        · have hb : zsn f n + 2 ^ n < 2 ^ i := by
            have : 2 ^ (n + 1) ≤ 2 ^ i := Nat.pow_le_pow_right (by decide) (by omega)
            rw [Nat.pow_succ] at this
            omega
          rw [Nat.add_comm, Nat.testBit_lt_two_pow hb]
          simp [show ¬ i < n + 1 by omega]
    · rw [if_neg hf, Nat.add_zero, h2]
      by_cases hi : i = n
      · subst hi
        simp [hf]
      · by_cases hlt : i < n
        · simp [hlt, Nat.lt_succ_of_lt hlt]
        · simp [hlt, show ¬ i < n + 1 by omega]
theorem znat_ext {a b : Nat} (h : ∀ i, a.testBit i = b.testBit i) : a = b := Nat.eq_of_testBit_eq h
theorem zsn_of {x n : Nat} (h : x < 2 ^ n) : zsn x.testBit n = x := by
  refine znat_ext fun i => ?_
  rw [zsn_bit]
  by_cases hi : i < n
  · simp [hi]
  · rw [Nat.testBit_lt_two_pow (Nat.lt_of_lt_of_le h (Nat.pow_le_pow_right (by decide) (by omega)))]
    simp [hi]
theorem zsn_cong {f g : Nat → Bool} : ∀ {n : Nat}, (∀ i, i < n → f i = g i) → zsn f n = zsn g n
  | 0, _ => rfl
  | n + 1, h => by
    unfold zsn
    rw [zsn_cong (fun i hi => h i (Nat.lt_succ_of_lt hi)), h n (Nat.lt_succ_self n)]
theorem zsn_inj {f g : Nat → Bool} {n : Nat} (h : zsn f n = zsn g n) : ∀ i, i < n → f i = g i := fun i hi => by
  have h1 := zsn_bit f i n
  rw [h, zsn_bit] at h1
  simp [hi] at h1
  exact h1.symm
theorem zsn_and (f g : Nat → Bool) (n : Nat) : zsn f n &&& zsn g n = zsn (fun i => f i && g i) n := znat_ext fun i => by
  rw [Nat.testBit_and, zsn_bit, zsn_bit, zsn_bit]
  cases decide (i < n) <;> simp
theorem zsn_or (f g : Nat → Bool) (n : Nat) : zsn f n ||| zsn g n = zsn (fun i => f i || g i) n := znat_ext fun i => by
  rw [Nat.testBit_or, zsn_bit, zsn_bit, zsn_bit]
  cases decide (i < n) <;> simp
theorem zsn_xor (f g : Nat → Bool) (n : Nat) : zsn f n ^^^ zsn g n = zsn (fun i => f i ^^ g i) n := znat_ext fun i => by
  rw [Nat.testBit_xor, zsn_bit, zsn_bit, zsn_bit]
  cases decide (i < n) <;> simp
theorem zsn_none (n : Nat) : zsn (fun _ => false) n = 0 := znat_ext fun i => by rw [zsn_bit]; simp
theorem zsn_all : ∀ n : Nat, zsn (fun _ => true) n = 2 ^ n - 1
  | 0 => rfl
  | n + 1 => by
    unfold zsn
    rw [zsn_all n, Nat.pow_succ]
    have : 0 < 2 ^ n := Nat.pow_pos (by decide)
    simp
    omega
theorem zsn_one {k n : Nat} (h : k < n) : zsn (fun i => decide (i = k)) n = 2 ^ k := znat_ext fun i => by
  rw [zsn_bit, Nat.testBit_two_pow]
  by_cases hi : i = k
  · subst hi; simp [h]
  · simp [hi, Ne.symm hi]
/-! the machine's operations on them -/
theorem zbv_in {c : Nat} (h : c < 2147483648) : (BitVec.ofNat 32 c).toInt = (c : Int) := by
  have hn : (BitVec.ofNat 32 c).toNat = c := by rw [BitVec.toNat_ofNat]; exact Nat.mod_eq_of_lt (by omega)
  rw [BitVec.toInt_eq_toNat_of_lt (by rw [hn]; omega), hn]
theorem z32_bv (a : Nat) : (Int32.ofInt (a : Int)).toBitVec = BitVec.ofNat 32 a := by
  rw [Int32.toBitVec_ofInt, BitVec.ofInt_natCast]
theorem zand_nat {a b : Nat} (ha : a < 2147483648) : zand a b = ((a &&& b : Nat) : Int) := by
  unfold zand
  show (Int32.ofInt a &&& Int32.ofInt b).toBitVec.toInt = _
  rw [Int32.toBitVec_and, z32_bv, z32_bv, ← BitVec.ofNat_and]
  exact zbv_in (Nat.lt_of_le_of_lt Nat.and_le_left ha)
theorem zor_nat {a b : Nat} (ha : a < 2147483648) (hb : b < 2147483648) : zor a b = ((a ||| b : Nat) : Int) := by
  unfold zor
  show (Int32.ofInt a ||| Int32.ofInt b).toBitVec.toInt = _
  rw [Int32.toBitVec_or, z32_bv, z32_bv, ← BitVec.ofNat_or]
  exact zbv_in (Nat.or_lt_two_pow (n := 31) ha hb)
theorem zxor_nat {a b : Nat} (ha : a < 2147483648) (hb : b < 2147483648) : zxor a b = ((a ^^^ b : Nat) : Int) := by
  unfold zxor
  show (Int32.ofInt a ^^^ Int32.ofInt b).toBitVec.toInt = _
  rw [Int32.toBitVec_xor, z32_bv, z32_bv, ← BitVec.ofNat_xor]
  exact zbv_in (Nat.xor_lt_two_pow (n := 31) ha hb)
theorem zshl_one {k : Nat} (h : k < 31) : zshl 1 k = ((2 ^ k : Nat) : Int) := by
  have : ∀ k : Nat, k < 31 → zshl 1 k = ((2 ^ k : Nat) : Int) := by decide +kernel
  exact this k h
theorem zshl_two {k : Nat} (h : k < 30) : zshl 2 k = ((2 ^ (k + 1) : Nat) : Int) := by
  have : ∀ k : Nat, k < 30 → zshl 2 k = ((2 ^ (k + 1) : Nat) : Int) := by decide +kernel
  exact this k h
theorem zshr_nat {a k : Nat} (ha : a < 2147483648) (hk : k < 32) : zshr a k = ((a >>> k : Nat) : Int) := by
  unfold zshr
  show (Int32.ofInt a >>> (Int32.ofInt k &&& 31)).toBitVec.toInt = _
  rw [Int32.toBitVec_shiftRight]
  have h1 : ((Int32.ofInt (k : Int) &&& 31).toBitVec.smod 32).toNat = k := by
    have : ∀ k : Nat, k < 32 → ((Int32.ofInt (k : Int) &&& 31).toBitVec.smod 32).toNat = k := by decide +kernel
    exact this k hk
  show (BitVec.sshiftRight _ ((Int32.ofInt (k : Int) &&& 31).toBitVec.smod 32).toNat).toInt = _
  rw [h1, z32_bv]
  have hm : (BitVec.ofNat 32 a).msb = false := by
    rw [BitVec.msb_eq_decide]
    simp
    omega
  rw [BitVec.sshiftRight_eq_of_msb_false hm]
  have h2 : BitVec.ofNat 32 a >>> k = BitVec.ofNat 32 (a >>> k) := by
    apply BitVec.eq_of_toNat_eq
    rw [BitVec.toNat_ushiftRight, BitVec.toNat_ofNat, BitVec.toNat_ofNat, Nat.mod_eq_of_lt (by omega), Nat.mod_eq_of_lt]
    exact Nat.lt_of_le_of_lt (Nat.shiftRight_le a k) (by omega)
  rw [h2]
  exact zbv_in (Nat.lt_of_le_of_lt (Nat.shiftRight_le a k) ha)
theorem zbit_nat {a k : Nat} (ha : a < 2147483648) (hk : k < 32) : zand (zshr a k) 1 = if a.testBit k then 1 else 0 := by
  rw [zshr_nat ha hk, show (1 : Int) = ((1 : Nat) : Int) from rfl, zand_nat (Nat.lt_of_le_of_lt (Nat.shiftRight_le a k) ha), Nat.and_one_is_mod]
  rw [Nat.testBit_eq_decide_div_mod_eq, Nat.shiftRight_eq_div_pow]
  by_cases h : a / 2 ^ k % 2 = 1
  · simp [h]
  · have : a / 2 ^ k % 2 = 0 := by omega
    simp [this]
