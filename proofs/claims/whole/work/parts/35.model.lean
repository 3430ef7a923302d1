/-! THE MODEL at m: its rows lie behind it; A is its first row -/
def qLM (S : Nat → Nat × Nat) (R : Nat → Nat → Nat) (m : Nat) : Prop :=
  (S m = (10, 30) ∧ S (m + 1) = (20, 4880) ∧ S (m + 2) = (20, 4880) ∧ S (m + 3) = (20, 2820) ∧ S (m + 4) = (20, 300) ∧ S (m + 5) = (20, 160) ∧ S (m + 6) = (20, 8) ∧ S (m + 7) = (22, 330) ∧ S (m + 8) = (23, 330) ∧ S (m + 9) = (20, 131) ∧ S (m + 10) = (20, 5) ∧ S (m + 11) = (20, 16) ∧ S (m + 12) = (20, 5) ∧ S (m + 13) = (22, 16)) ∧
  (R m 0 = m + 1 ∧ R m 1 = m + 2 ∧ R m 2 = m + 3 ∧ R m 3 = m + 4 ∧ R m 15 = m + 5 ∧ R m 20 = m + 6 ∧ R m 21 = m + 7 ∧ R m 22 = m + 8 ∧ R m 25 = m + 9 ∧ R m 26 = m + 10 ∧ R m 27 = m + 11 ∧ R m 28 = m + 12 ∧ R m 29 = m + 13)
theorem qri {o y : Nat} (ho : o < 100) (hy : y < 100) : zw32 ((zw32 (11 + (zw32 (24 * (o : Int))))) + y) = ((11 + 24 * o + y : Nat) : Int) := by unfold zw32; omega
theorem qret {x : Int} {r : zO} (h : x = 0 ∨ x = 1) : (if ((4 : Nat) = 4 ∧ (x = 0 ∨ x = 1)) ∨ ((4 : Nat) = 5 ∧ 0 ≤ x ∧ x < 65536) ∨ ((4 : Nat) = 6 ∧ -128 ≤ x ∧ x < 128) then r else none) = r := if_pos (Or.inl ⟨rfl, h⟩)
theorem qret2 {x : Int} {r : zO} (h : x = 0 ∨ x = 1) : (if (x = 0 ∨ x = 1) ∨ ((4 : Nat) = 5 ∧ 0 ≤ x ∧ x < 65536) ∨ ((4 : Nat) = 6 ∧ -128 ≤ x ∧ x < 128) then r else none) = r := if_pos (Or.inl h)
theorem qite (c : Prop) [Decidable c] : (if c then (1 : Int) else 0) = 0 ∨ (if c then (1 : Int) else 0) = 1 := by by_cases h : c <;> simp [h]
theorem k_isIn {d : Nat} (v a b : Int) (σ : zS) : zcal zPP (d + 1) 180 [zI v, zI a, zI b] σ = some (zI (if a ≤ v ∧ v ≤ b then 1 else 0), σ) := by
  rw [c_M_isIn]
  by_cases h1 : v < a
  · rw [if_pos h1, if_neg (by omega)]
  · rw [if_neg h1]
    by_cases h2 : b < v
    · rw [if_pos h2, if_neg (by omega)]
    · rw [if_neg h2, if_pos (by omega)]
theorem k_has {d a k : Nat} (ha : a < 2147483648) (hk : k < 32) (σ : zS) : zcal zPP (d + 1) 181 [zI a, zI k] σ = some (zI (if a.testBit k then 1 else 0), σ) := by
  rw [c_M_has, zbit_nat ha hk]
  by_cases h : a.testBit k = true
  · rw [if_pos h, if_pos rfl]
  · rw [if_neg h, if_neg (by decide)]
theorem qbl {x k : Nat} (hx : x < 2 ^ 24) (hk : zpop 24 x = k + 1) : x ≠ 0 ∧ zpop 24 (x &&& (x - 1)) = k ∧ x &&& (x - 1) < 2 ^ 24 := by
  have h0 : x ≠ 0 := by
    intro h0
    rw [h0, zpop_0] at hk
    exact absurd hk (Nat.succ_ne_zero k).symm
  have h1 := zlow_pop 24 x hx h0
  rw [hk] at h1
  exact ⟨h0, Nat.succ.inj h1, Nat.lt_of_le_of_lt Nat.and_le_left hx⟩
theorem qbl0 {x : Nat} (hx : x < 2 ^ 24) (hk : zpop 24 x = 0) : x = 0 := by
  apply Classical.byContradiction
  intro h0
  have h1 := zlow_pop 24 x hx h0
  rw [hk] at h1
  exact absurd h1 (Nat.succ_ne_zero _)
theorem k_bits_loop {d : Nat} (l0 : Int) (σ : zS) (k : Nat) : ∀ (c x : Nat), zpop 24 x = k → x < 2 ^ 24 → c + k < 1000 → zR zPP d 236 4 [zI l0, zI c, zI x] [] σ = some (zI (c + k : Nat), σ) := by
  induction k with
  | zero =>
    intro c x hk hx hc
    rw [qbl0 hx hk, e_M_bits_4, if_pos (show ((0 : Nat) : Int) = 0 from rfl), Nat.add_zero]
  | succ k ih =>
    intro c x hk hx hc
    obtain ⟨h0, h1, h2⟩ := qbl hx hk
    have hx' : x < 16777216 := hx
    rw [e_M_bits_4, if_neg (by omega), qw1 (by omega), show zw32 ((x : Int) - 1) = ((x - 1 : Nat) : Int) by unfold zw32; omega, zand_nat (by omega), ih (c + 1) _ h1 h2 (by omega), Nat.add_right_comm, Nat.add_assoc c k 1]
theorem k_bits {d : Nat} (f : Nat → Bool) (σ : zS) : zcal zPP (d + 1) 236 [zI (zsn f 24 : Nat)] σ = some (zI (zct f 24 : Nat), σ) := by
  have h1 := zct_le f 24
  have h2 := k_bits_loop (d := d) (zsn f 24 : Nat) σ (zct f 24) 0 (zsn f 24) (zpop_zsn 24 f) (zsn_lt f 24) (by omega)
  rw [Nat.zero_add] at h2
  rw [c_M_bits]
  exact h2
section QM
variable {S : Nat → Nat × Nat} {R : Nat → Nat → Nat} {M : Nat → Nat → Int} {n s d m : Nat}
theorem k_get (h : qLM S R m) {o y : Nat} (ho : o < 5) (hy : y < 24) : zcal zPP (d + 1) 229 [zA m, zI o, zI y] (n, s, S, R, M) = some (zI (M (m + 1) (11 + 24 * o + y)), (n, s, S, R, M)) := by
  rw [c_M_get]
  simp only [h.1.1, h.1.2.1, h.2.1, if_true, qri (show o < 100 by omega) (show y < 100 by omega), true_or, true_and, Int.toNat_natCast]
  rw [if_pos (qok (by omega))]
theorem k_put (h : qLM S R m) {o y : Nat} (ho : o < 5) (hy : y < 24) (v : Int) : zcal zPP (d + 1) 182 [zA m, zI o, zI y, zI v] (n, s, S, R, M) = some (zU, (n, s, S, R, zup M (m + 1) (11 + 24 * o + y) v)) := by
  rw [c_M_put]
  simp only [h.1.1, h.1.2.1, h.2.1, if_true, qri (show o < 100 by omega) (show y < 100 by omega), true_or, true_and, Int.toNat_natCast]
  rw [if_pos (qok (by omega))]
theorem k_yearsOfM_loop (h : qLM S R m) {o : Nat} (ho : o < 5) (w : Int) : ∀ (j i : Nat), i + j = 24 →
    zR zPP (d + 1) 235 4 [zA m, zI o, zI w, zI (zsn (fun y => decide (M (m + 1) (11 + 24 * o + y) = w) && decide (y < i)) 24 : Nat), zI i] [] (n, s, S, R, M) = some (zI (zsn (fun y => decide (M (m + 1) (11 + 24 * o + y) = w)) 24 : Nat), (n, s, S, R, M))
  | 0, i, hi => by
    have : i = 24 := hi
    subst this
    rw [e_M_yearsOf_4, if_neg (by decide)]
    congr 4
    exact zsn_cong fun y hy => by simp [hy]
  | j + 1, i, hi => by
    have hi24 : i < 24 := by omega
    rw [e_M_yearsOf_4, if_pos (by omega), k_get h ho hi24]
    simp only [zbI]
    by_cases hc : M (m + 1) (11 + 24 * o + i) = w
    · rw [if_pos hc, zsn_put24 _ hi24, qw1 (by omega), ← k_yearsOfM_loop h ho w j (i + 1) (by omega)]
      congr 5
      refine congrArg (fun x : Nat => zI (x : Int)) (zsn_cong fun y hy => ?_)
      rw [Bool.eq_iff_iff]
      simp only [Bool.or_eq_true, Bool.and_eq_true, decide_eq_true_iff]
      constructor
      · rintro (⟨h1, h2⟩ | rfl)
        · exact ⟨h1, by omega⟩
        · exact ⟨hc, by omega⟩
      · rintro ⟨h1, h2⟩
        by_cases hy : y = i
        · exact Or.inr hy
        · exact Or.inl ⟨h1, by omega⟩
    · rw [if_neg hc, show (0 : Int) = ((0 : Nat) : Int) from rfl, zor_nat (zsn_24 _) (by decide), Nat.or_zero, qw1 (by omega), ← k_yearsOfM_loop h ho w j (i + 1) (by omega)]
      congr 5
      refine congrArg (fun x : Nat => zI (x : Int)) (zsn_cong fun y hy => ?_)
      rw [Bool.eq_iff_iff]
      simp only [Bool.and_eq_true, decide_eq_true_iff]
      constructor
      · rintro ⟨h1, h2⟩
        exact ⟨h1, by omega⟩
      · rintro ⟨h1, h2⟩
        refine ⟨h1, ?_⟩
        by_cases hy : y = i
        · subst hy; exact absurd h1 hc
        · omega
theorem k_yearsOfM (h : qLM S R m) {o : Nat} (ho : o < 5) (w : Int) : zcal zPP (d + 2) 235 [zA m, zI o, zI w] (n, s, S, R, M) = some (zI (zsn (fun y => decide (M (m + 1) (11 + 24 * o + y) = w)) 24 : Nat), (n, s, S, R, M)) := by
  rw [c_M_yearsOf]
  simp only [h.1.1, if_true]
  have := k_yearsOfM_loop (M := M) (n := n) (s := s) (d := d) h ho w 24 0 rfl
  simp only [Nat.not_lt_zero, decide_false, Bool.and_false, zsn_none] at this
  exact this
theorem k_insideM (h : qLM S R m) {o : Nat} (ho : o < 5) : zcal zPP (d + 3) 234 [zA m, zI o] (n, s, S, R, M) = some (zI (qic (M (m + 1)) o : Nat), (n, s, S, R, M)) := by
  rw [c_M_inside]
  simp only [h.1.1, if_true]
  rw [k_yearsOfM h ho]
  simp only [zbI]
  rw [k_bits]
  rfl
theorem qa0 (h : qLM S R m) : 0 ≤ (0 : Int) ∧ (0 : Int) < (((S (m + 1)).2 : Nat) : Int) := by rw [h.1.2.1]; decide
theorem k_isOakM (h : qLM S R m) (hA : qIn (M (m + 1))) (o : Int) : zcal zPP (d + 2) 233 [zA m, zI o] (n, s, S, R, M) = some (zI (if 0 ≤ o ∧ o < M (m + 1) 0 then 1 else 0), (n, s, S, R, M)) := by
  have h5 := hA.1
  rw [c_M_isOak]
  simp only [h.1.1, h.1.2.1, h.2.1, if_true, true_or, true_and]
  rw [if_pos (by decide), k_isIn]
  simp only [zbI]
  rw [qret2 (qite _), show (0 : Int).toNat = 0 from rfl, show zw32 (M (m + 1) 0 - 1) = M (m + 1) 0 - 1 by unfold zw32; omega]
  congr 3
  by_cases h : 0 ≤ o ∧ o < M (m + 1) 0
  · rw [if_pos h, if_pos (by omega)]
  · rw [if_neg h, if_neg (by omega)]
theorem k_isPersonM (h : qLM S R m) (hA : qIn (M (m + 1))) (o : Int) : zcal zPP (d + 2) 237 [zA m, zI o] (n, s, S, R, M) = some (zI (if 0 ≤ o ∧ o < M (m + 1) 1 then 1 else 0), (n, s, S, R, M)) := by
  have h5 := hA.2.1
  rw [c_M_isPerson]
  simp only [h.1.1, h.1.2.1, h.2.1, if_true, true_or, true_and]
  rw [if_pos (by decide), k_isIn]
  simp only [zbI]
  rw [qret2 (qite _), show (1 : Int).toNat = 1 from rfl, show zw32 (M (m + 1) 1 - 1) = M (m + 1) 1 - 1 by unfold zw32; omega]
  congr 3
  by_cases h : 0 ≤ o ∧ o < M (m + 1) 1
  · rw [if_pos h, if_pos (by omega)]
  · rw [if_neg h, if_neg (by omega)]
theorem k_isYearM (y : Int) (σ : zS) : zcal zPP (d + 2) 184 [zI y] σ = some (zI (if 0 ≤ y ∧ y < 24 then 1 else 0), σ) := by
  rw [c_M_isYear, k_isIn]
  simp only [zbI, true_and]
  rw [qret2 (qite _)]
  congr 3
  by_cases h : 0 ≤ y ∧ y < 24
  · rw [if_pos h, if_pos (by omega)]
  · rw [if_neg h, if_neg (by omega)]
theorem k_isRingM (h : qLM S R m) (hA : qIn (M (m + 1))) (o y : Int) : zcal zPP (d + 3) 232 [zA m, zI o, zI y] (n, s, S, R, M) = some (zI (if (0 ≤ o ∧ o < M (m + 1) 0) ∧ (0 ≤ y ∧ y < 24) ∧ M (m + 1) (11 + 24 * o.toNat + y.toNat) ≠ 0 then 1 else 0), (n, s, S, R, M)) := by
  have h5 := hA.1.2
  rw [c_M_isRing]
  simp only [h.1.1, if_true]
  rw [k_isOakM h hA]
  simp only [zbI]
  by_cases h1 : 0 ≤ o ∧ o < M (m + 1) 0
  · rw [if_pos h1, if_neg (by decide), k_isYearM]
    simp only [zbI]
    by_cases h2 : 0 ≤ y ∧ y < 24
    · obtain ⟨y, rfl⟩ := Int.eq_ofNat_of_zero_le h2.1
      obtain ⟨o, rfl⟩ := Int.eq_ofNat_of_zero_le h1.1
      rw [if_pos h2, if_neg (by decide), k_get h (show o < 5 by omega) (show y < 24 by omega)]
      simp only [zbI, Int.toNat_natCast]
      by_cases h3 : M (m + 1) (11 + 24 * o + y) = 0
      · rw [if_pos h3, if_neg (fun z => z.2.2 h3)]
      · rw [if_neg h3, if_pos ⟨h1, h2, h3⟩]
    · rw [if_neg h2, if_pos rfl, if_neg (fun z => h2 z.2.1)]
  · rw [if_neg h1, if_pos rfl, if_neg (fun z => h1 z.1)]
end QM
