/-! WHAT THE LAWS SAY: the class's small stack machine as a plain function -/
abbrev qE : Type := (Nat → Int) × (Int → Int)
/-- what a law may look at, for oak o, year y, person p -/
def qEn (A : Nat → Int) (o y p : Nat) : qE := (fun k => match k with
  | 0 => A 7
  | 1 => (y : Int)
  | 2 => A (136 + y)
  | 3 => (o : Int)
  | 4 => A (131 + p)
  | 5 => ((qhb A p : Nat) : Int)
  | 6 => (p : Int)
  | _ => ((qic A o : Nat) : Int), fun v => if 0 ≤ v ∧ v < A 0 then ((qic A v.toNat : Nat) : Int) else 0)
def qclip (v : Int) : Int := if 1000000 < v then 1000000 else if v < -1000000 then -1000000 else v
def qrt (v : Int) : Nat → Int → Int
  | 0, r => r
  | k + 1, r => if (r + (2 ^ k : Nat)) * (r + (2 ^ k : Nat)) ≤ v then qrt v k (r + (2 ^ k : Nat)) else qrt v k r
def qroot (v : Int) : Int := qrt v 10 0
def qnm (s : Nat) : Nat := if s = 3 then 3 else if s = 4 then 1 else if s = 9 then 0 else if s = 10 then 2 else if s = 11 then 4 else if s = 12 then 5 else if s = 13 then 6 else 7
def qisn (s : Nat) : Bool := decide (s = 3) || decide (s = 4) || (decide (9 ≤ s) && decide (s ≤ 14))
def qiso (s : Nat) : Bool := decide (s = 42) || decide (s = 26) || decide (s = 18) || decide (s = 19)
def qone (E : qE) (s : Nat) (v : Int) : Int := if s = 18 then qroot v else if s = 26 then (if v = 0 then 1 else 0) else if s = 42 then zw32 (-v) else E.2 v
def qtwo (s : Nat) (a b : Int) : Int :=
  if s = 25 then zand a b else if s = 27 then (if a ≤ b then 1 else 0) else if s = 28 then (if b ≤ a then 1 else 0) else if s = 29 then (if a < b then 1 else 0) else if s = 30 then (if b < a then 1 else 0) else
  if s = 31 then (if a = b then 1 else 0) else if s = 32 then (if a = b then 0 else 1) else if s = 33 then qclip (a + b) else if s = 34 then qclip (a - b) else if s = 35 then qclip (a * b) else if s = 36 then (if b = 0 then 0 else zw32 (a.tdiv b)) else zor a b
/-- one order -/
def qc1 (E : qE) (O : Nat → Nat × Nat) (at0 : Nat) (st : List Int) : Option (Nat × List Int) :=
  if (O at0).1 = 41 then (if st.length < 80 then some (at0 + 1, ((O at0).2 : Int) :: st) else none)
  else if (O at0).1 = 22 then (if at0 < (O at0).2 then some ((O at0).2, st) else none)
  else if (O at0).1 = 21 then (match st with
    | v :: st' => if v = 0 then (if at0 < (O at0).2 then some ((O at0).2, st') else none) else some (at0 + 1, st')
    | [] => none)
  else if qisn (O at0).1 = true then (if st.length < 80 then some (at0 + 1, E.1 (qnm (O at0).1) :: st) else none)
  else if qiso (O at0).1 = true then (match st with
    | v :: st' => some (at0 + 1, qone E (O at0).1 v :: st')
    | [] => none)
  else (match st with
    | b :: a :: st' => some (at0 + 1, qtwo (O at0).1 a b :: st')
    | _ => none)
def qcr (E : qE) (O : Nat → Nat × Nat) (stop : Nat) : Nat → Nat → List Int → Option (Nat × List Int)
  | 0, i, st => some (i, st)
  | m + 1, i, st => if i < stop then (match qc1 E O i st with
    | some c => qcr E O stop m c.1 c.2
    | none => none) else none
/-- a stack in a row -/
def qsk (F : Nat → Int) : List Int → Prop
  | [] => True
  | v :: st => F st.length = v ∧ qsk F st
def qib (st : List Int) : Prop := ∀ v ∈ st, -2147483648 ≤ v ∧ v < 2147483648
theorem qsk_low {F G : Nat → Int} : ∀ {st : List Int}, (∀ k, k < st.length → G k = F k) → qsk F st → qsk G st
  | [], _, _ => trivial
  | v :: st, h, hs => ⟨(h st.length (Nat.lt_succ_self _)).trans hs.1, qsk_low (fun k hk => h k (Nat.lt_succ_of_lt hk)) hs.2⟩
theorem zcmp_gt (x y : Int) : (0 < zcmp x y) = (y < x) := by
  unfold zcmp
  by_cases h1 : x < y
  · simp [h1]; omega
  · by_cases h2 : x = y
    · simp [h2]
    · simp [h1, h2]; omega
theorem zcmp_lt (x y : Int) : (zcmp x y < 0) = (x < y) := by
  unfold zcmp
  by_cases h1 : x < y
  · simp [h1]
  · by_cases h2 : x = y
    · simp [h2]
    · simp [h1, h2]
theorem zcmp_eq (x y : Int) : (zcmp x y = 0) = (x = y) := by
  unfold zcmp
  by_cases h1 : x < y
  · simp [h1]; omega
  · by_cases h2 : x = y
    · simp [h2]
    · simp [h1, h2]
theorem qz64 {x : Int} (h1 : -9223372036854775808 ≤ x) (h2 : x < 9223372036854775808) : zw64 x = x := by unfold zw64; omega
theorem qmul62 {a b : Int} (ha : -2147483648 ≤ a ∧ a < 2147483648) (hb : -2147483648 ≤ b ∧ b < 2147483648) : -4611686018427387904 ≤ a * b ∧ a * b ≤ 4611686018427387904 := by
  have h1 : (a * b).natAbs = a.natAbs * b.natAbs := Int.natAbs_mul a b
  have h2 : a.natAbs * b.natAbs ≤ 2147483648 * 2147483648 := Nat.mul_le_mul (by omega) (by omega)
  omega
theorem qclip_in (v : Int) : -1000000 ≤ qclip v ∧ qclip v ≤ 1000000 := by unfold qclip; split <;> (try split) <;> omega
theorem zand_in (x y : Int) : -2147483648 ≤ zand x y ∧ zand x y < 2147483648 := z32_toInt _
theorem zor_in (x y : Int) : -2147483648 ≤ zor x y ∧ zor x y < 2147483648 := z32_toInt _
theorem qrt_in (v : Int) : ∀ (k : Nat) (r : Int), 0 ≤ r → r ≤ 1024 - (2 ^ k : Nat) → 0 ≤ qrt v k r ∧ qrt v k r ≤ 1023
  | 0, r, h0, h1 => by
    have : ((2 ^ 0 : Nat) : Int) = 1 := rfl
    show 0 ≤ r ∧ r ≤ 1023
    omega
  | k + 1, r, h0, h1 => by
    have h2 : (2 ^ (k + 1) : Nat) = 2 ^ k * 2 := Nat.pow_succ 2 k
    have h3 : 0 < 2 ^ k := Nat.pow_pos (by decide)
    unfold qrt
    split
    · exact qrt_in v k _ (by omega) (by omega)
    · exact qrt_in v k _ h0 (by omega)
theorem qroot_in (v : Int) : 0 ≤ qroot v ∧ qroot v ≤ 1023 := qrt_in v 10 0 (by decide) (by decide)
section QF
variable {S : Nat → Nat × Nat} {R : Nat → Nat → Nat} {M : Nat → Nat → Int} {n s d : Nat} {A : Nat → Int}
theorem k_root (v : Int) (σ : zS) : zcal zPP (d + 1) 103 [zI v] σ = some (zI (qroot v), σ) := by
  have L : ∀ (k : Nat) (r : Int), k ≤ 10 → 0 ≤ r → r ≤ 1024 - (2 ^ k : Nat) → zR zPP d 103 4 [zI v, zI r, zI ((2 ^ k / 2 : Nat) : Int)] [] σ = some (zI (qrt v k r), σ) := by
    intro k
    induction k with
    | zero =>
      intro r _ h0 h1
      rw [e_Judge_root_4, if_neg (by decide)]
      rfl
    | succ k ih =>
      intro r hk h0 h1
      have h2 : (2 ^ (k + 1) : Nat) = 2 ^ k * 2 := Nat.pow_succ 2 k
      have h3 : 0 < 2 ^ k := Nat.pow_pos (by decide)
      have h4 : 2 ^ k ≤ 2 ^ 9 := Nat.pow_le_pow_right (by decide) (by omega)
      have h5 : 2 ^ (k + 1) / 2 = 2 ^ k := by omega
      have h6 : (((2 ^ k : Nat) : Int)).tdiv 2 = ((2 ^ k / 2 : Nat) : Int) := rfl
      have h7 : (r + (2 ^ k : Nat)) * (r + (2 ^ k : Nat)) ≤ 1024 * 1024 := Int.mul_le_mul (by omega) (by omega) (by omega) (by omega)
      have h8 : 0 ≤ (r + (2 ^ k : Nat)) * (r + (2 ^ k : Nat)) := Int.mul_nonneg (by omega) (by omega)
      rw [h5, e_Judge_root_4, if_pos (by omega), h6, qz (x := r + (2 ^ k : Nat)) (by omega) (by omega), qz (x := (r + (2 ^ k : Nat)) * (r + (2 ^ k : Nat))) (by omega) (by omega), qz (x := ((2 ^ k / 2 : Nat) : Int)) (by omega) (by omega)]
      unfold qrt
      by_cases hc : (r + (2 ^ k : Nat)) * (r + (2 ^ k : Nat)) ≤ v
      · rw [if_neg (by omega), if_neg (by decide), if_pos hc]
        exact ih _ (by omega) (by omega) (by omega)
      · rw [if_pos (by omega), if_neg (by decide), if_neg hc]
        exact ih _ (by omega) h0 (by omega)
  rw [c_Judge_root]
  exact L 10 0 (by decide) (by decide) (by decide)
theorem k_bounded {v : Int} (σ : zS) : zcal zPP (d + 1) 105 [zL v] σ = some (zI (qclip v), σ) := by
  rw [c_Judge_bounded]
  simp only [zcmp_gt, zcmp_lt]
  unfold qclip
  by_cases h1 : 1000000 < v
  · rw [if_pos h1, if_pos h1]
  · rw [if_neg h1, if_neg h1]
    by_cases h2 : v < -1000000
    · rw [if_pos h2, if_pos h2]
    · rw [if_neg h2, if_neg h2, qz (by omega) (by omega)]
theorem k_two {s0 : Nat} (h26 : s0 ≠ 26) {a b : Int} (ha : -2147483648 ≤ a ∧ a < 2147483648) (hb : -2147483648 ≤ b ∧ b < 2147483648) (σ : zS) : zcal zPP (d + 2) 104 [zI s0, zI a, zI b] σ = some (zI (qtwo s0 a b), σ) := by
  have hm := qmul62 ha hb
  have hc : ∀ k : Nat, ((s0 : Int) = (k : Int)) = (s0 = k) := fun k => propext ⟨fun h => Int.ofNat.inj h, fun h => congrArg _ h⟩
  have hc' := fun k => hc (OfNat.ofNat k)
  rw [c_Judge_two]
  unfold qtwo
  by_cases h : s0 = 25
  · subst h; rfl
  rw [if_neg (show ¬ (s0 : Int) = 25 by omega), if_neg h, if_neg (show ¬ (s0 : Int) = 26 by omega)]
  by_cases h : s0 = 27
  · subst h
    rw [if_pos (show ((27 : Nat) : Int) = 27 from rfl), if_pos rfl]
    by_cases hq : a ≤ b
    · rw [if_neg (by omega), if_pos hq]
    · rw [if_pos (by omega), if_neg hq]
  rw [if_neg (show ¬ (s0 : Int) = 27 by omega), if_neg h]
  by_cases h : s0 = 28
  · subst h
    rw [if_pos (show ((28 : Nat) : Int) = 28 from rfl), if_pos rfl]
    by_cases hq : b ≤ a
    · rw [if_neg (by omega), if_pos hq]
    · rw [if_pos (by omega), if_neg hq]
  rw [if_neg (show ¬ (s0 : Int) = 28 by omega), if_neg h]
  by_cases h : s0 = 29
  · subst h
    rw [if_pos (show ((29 : Nat) : Int) = 29 from rfl), if_pos rfl]
    by_cases hq : a < b
    · rw [if_pos hq, if_pos hq]
    · rw [if_neg hq, if_neg hq]
  rw [if_neg (show ¬ (s0 : Int) = 29 by omega), if_neg h]
  by_cases h : s0 = 30
  · subst h
    rw [if_pos (show ((30 : Nat) : Int) = 30 from rfl), if_pos rfl]
    by_cases hq : b < a
    · rw [if_pos hq, if_pos hq]
    · rw [if_neg hq, if_neg hq]
  rw [if_neg (show ¬ (s0 : Int) = 30 by omega), if_neg h]
  by_cases h : s0 = 31
  · subst h
    rw [if_pos (show ((31 : Nat) : Int) = 31 from rfl), if_pos rfl]
    by_cases hq : a = b
    · rw [if_pos hq, if_pos hq]
    · rw [if_neg hq, if_neg hq]
  rw [if_neg (show ¬ (s0 : Int) = 31 by omega), if_neg h]
  by_cases h : s0 = 32
  · subst h
    rw [if_pos (show ((32 : Nat) : Int) = 32 from rfl), if_pos rfl]
    by_cases hq : a = b
    · rw [if_pos hq, if_pos hq]
    · rw [if_neg hq, if_neg hq]
  rw [if_neg (show ¬ (s0 : Int) = 32 by omega), if_neg h]
  by_cases h : s0 = 33
  · subst h
    rw [if_pos (show ((33 : Nat) : Int) = 33 from rfl), if_pos rfl, qz64 (by omega) (by omega), k_bounded]
    rfl
  rw [if_neg (show ¬ (s0 : Int) = 33 by omega), if_neg h]
  by_cases h : s0 = 34
  · subst h
    rw [if_pos (show ((34 : Nat) : Int) = 34 from rfl), if_pos rfl, qz64 (by omega) (by omega), k_bounded]
    rfl
  rw [if_neg (show ¬ (s0 : Int) = 34 by omega), if_neg h]
  by_cases h : s0 = 35
  · subst h
    rw [if_pos (show ((35 : Nat) : Int) = 35 from rfl), if_pos rfl, qz64 (by omega) (by omega), k_bounded]
    rfl
  rw [if_neg (show ¬ (s0 : Int) = 35 by omega), if_neg h]
  by_cases h : s0 = 36
  · subst h
    rw [if_pos (show ((36 : Nat) : Int) = 36 from rfl), if_pos rfl]
    by_cases hq : b = 0
    · rw [if_pos hq, if_pos hq]
    · rw [if_neg hq, if_neg hq, if_neg hq]
  rw [if_neg (show ¬ (s0 : Int) = 36 by omega), if_neg h]
end QF
