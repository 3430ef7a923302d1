/-! more that is told or asked without a text -/
section QX
variable {S : Nat → Nat × Nat} {R : Nat → Nat → Nat} {M : Nat → Nat → Int} {n s d x t k j c o f r l p m : Nat}
theorem k_end (h : qLX S R x t k j c o f r l p) (v : Int) : zcal zPP (d + 1) 25 [zA x, zI v] (n, s, S, R, M) = some (if 0 ≤ v ∧ v ≤ M x 9 then (zI v, (n, s, S, R, zup M x 9 v)) else (zI (-1), (n, s, S, R, M))) := by
  obtain ⟨⟨x1, -⟩, -⟩ := h
  rw [c_X_end]
  simp only [x1, if_true]
  by_cases h1 : v < 0
  · rw [if_pos h1, if_neg (by omega)]
  · rw [if_neg h1]
    by_cases h2 : M x 9 < v
    · rw [if_pos h2, if_neg (by omega)]
    · rw [if_neg h2, if_pos (by omega)]
theorem k_endM (h : qLM S R m) (v : Int) : zcal zPP (d + 2) 188 [zA m, zI v] (n, s, S, R, M) = some (if 0 ≤ v ∧ v ≤ M m 4 then (zI v, (n, s, S, R, zup M m 4 v)) else (zI (-1), (n, s, S, R, M))) := by
  rw [c_M_end]
  simp only [h.1.1, if_true]
  rw [k_isIn]
  simp only [zbI, h.1.1, if_true]
  by_cases h1 : 0 ≤ v ∧ v ≤ M m 4
  · rw [if_pos h1, if_neg (by decide), if_pos h1]
  · rw [if_neg h1, if_pos rfl, if_neg h1]
theorem k_fault (h : qLX S R x t k j c o f r l p) (v : Int) : zcal zPP (d + 1) 27 [zA x, zI v] (n, s, S, R, M) = some (zI (if v = 0 then M x 10 else if v = 1 then M x 11 else -1), (n, s, S, R, M)) := by
  obtain ⟨⟨x1, -⟩, -⟩ := h
  rw [c_X_fault]
  simp only [x1, if_true]
  by_cases h1 : v = 0
  · rw [if_pos h1, if_pos h1]
  · rw [if_neg h1, if_neg h1]
    by_cases h2 : v = 1
    · rw [if_pos h2, if_pos h2]
    · rw [if_neg h2, if_neg h2]
theorem k_faultM (h : qLM S R m) (v : Int) : zcal zPP (d + 1) 226 [zA m, zI v] (n, s, S, R, M) = some (zI (if v = 0 then M m 5 else if v = 1 then M m 6 else -1), (n, s, S, R, M)) := by
  rw [c_M_fault]
  simp only [h.1.1, if_true]
  by_cases h1 : v = 0
  · rw [if_pos h1, if_pos h1]
  · rw [if_neg h1, if_neg h1]
    by_cases h2 : v = 1
    · rw [if_pos h2, if_pos h2]
    · rw [if_neg h2, if_neg h2]
theorem k_kindOf (h : qLX S R x t k j c o f r l p) (y : Int) : zcal zPP (d + 2) 48 [zA x, zI y] (n, s, S, R, M) = some (zI (if 0 ≤ y ∧ y < 24 then M (t + 2) y.toNat else -1), (n, s, S, R, M)) := by
  obtain ⟨⟨x1, x2, -⟩, ⟨ht, -⟩, -⟩ := h
  rw [c_X_kindOf]
  simp only [x1, if_true]
  rw [k_isYearX]
  simp only [zbI]
  by_cases h1 : 0 ≤ y ∧ y < 24
  · obtain ⟨y, rfl⟩ := Int.eq_ofNat_of_zero_le h1.1
    rw [if_pos h1, if_neg (by decide), if_pos h1]
    simp only [x1, x2, ht.1.1, ht.2.1.2.1, ht.1.2.2.1, if_true, true_or, true_and, Int.toNat_natCast]
    rw [if_pos (qok (by omega))]
  · rw [if_neg h1, if_pos rfl, if_neg h1]
theorem k_kindOfM (h : qLM S R m) (y : Int) : zcal zPP (d + 3) 277 [zA m, zI y] (n, s, S, R, M) = some (zI (if 0 ≤ y ∧ y < 24 then M (m + 1) (136 + y.toNat) else -1), (n, s, S, R, M)) := by
  rw [c_M_kindOf]
  simp only [h.1.1, if_true]
  rw [k_isYearM]
  simp only [zbI]
  by_cases h1 : 0 ≤ y ∧ y < 24
  · obtain ⟨y, rfl⟩ := Int.eq_ofNat_of_zero_le h1.1
    rw [if_pos h1, if_neg (by decide), if_pos h1, show (136 : Int) = ((136 : Nat) : Int) from rfl, qri1 (by decide) (by omega)]
    simp only [h.1.1, h.1.2.1, h.2.1, if_true, true_or, true_and, Int.toNat_natCast]
    rw [if_pos (qok (by omega))]
  · rw [if_neg h1, if_pos rfl, if_neg h1]
theorem k_is (h : qLX S R x t k j c o f r l p) (v : Int) : zcal zPP (d + 1) 49 [zA x, zI v] (n, s, S, R, M) = some (zI (if v = 0 then M (t + 11) 5 else if v = 1 then M (t + 11) 4 else if v = 2 then M (t + 11) 6 else if v = 3 then zw32 (30 - (M (t + 11) 5).tmod 30) else -2), (n, s, S, R, M)) := by
  obtain ⟨⟨x1, x2, -⟩, ⟨ht, -⟩, -⟩ := h
  rw [c_X_is]
  simp only [x1, x2, ht.1.1, ht.2.1.2.2.2.2.2.2.2.2.2.2.1, ht.2.2.1.1, if_true]
  rw [if_neg (show ¬ (30 : Int) = 0 by decide)]
  by_cases h1 : v = 0
  · rw [if_pos h1, if_pos h1]
  · rw [if_neg h1, if_neg h1]
    by_cases h2 : v = 1
    · rw [if_pos h2, if_pos h2]
    · rw [if_neg h2, if_neg h2]
      by_cases h3 : v = 2
      · rw [if_pos h3, if_pos h3]
      · rw [if_neg h3, if_neg h3]
        by_cases h4 : v = 3
        · rw [if_pos h4, if_pos h4]
        · rw [if_neg h4, if_neg h4]
theorem k_isM (h : qLM S R m) (v : Int) : zcal zPP (d + 2) 278 [zA m, zI v] (n, s, S, R, M) = some (zI (if v = 0 then M (m + 1) 7 else if v = 1 then M (m + 1) 8 else if v = 2 then M (m + 1) 9 else if v = 3 then zw32 (30 - (M (m + 1) 7).tmod 30) else -2), (n, s, S, R, M)) := by
  rw [c_M_is]
  simp only [h.1.1, if_true]
  rw [k_isIn]
  simp only [zbI, h.1.1, h.1.2.1, h.2.1, if_true, true_or, true_and]
  rw [if_neg (show ¬ (30 : Int) = 0 by decide)]
  by_cases h1 : 0 ≤ v ∧ v ≤ 2
  · rw [if_pos h1, if_neg (by decide)]
    obtain ⟨v, rfl⟩ := Int.eq_ofNat_of_zero_le h1.1
    rw [show (7 : Int) = ((7 : Nat) : Int) from rfl, qri1 (by decide) (by omega), if_pos (qok (by omega)), Int.toNat_natCast]
    rcases (show v = 0 ∨ v = 1 ∨ v = 2 by omega) with rfl | rfl | rfl <;> rfl
  · rw [if_neg h1, if_pos rfl, if_neg (show ¬ v = 0 by omega), if_neg (show ¬ v = 1 by omega), if_neg (show ¬ v = 2 by omega)]
    by_cases h4 : v = 3
    · rw [if_pos h4, if_pos h4, if_pos (by decide)]
      rfl
    · rw [if_neg h4, if_neg h4]
theorem k_about (h : qLX S R x t k j c o f r l p) (v : Int) : zcal zPP (d + 1) 85 [zA x, zI v] (n, s, S, R, M) = some (zI (if v = 0 then M t 12 else if v = 1 then M t 13 else if v = 2 then M t 14 else if v = 3 then M t 15 else if v = 4 then M (t + 15) 2 else if v = 5 then M t 16 else if v = 6 then M t 17 else if v = 7 then M x 9 else -2), (n, s, S, R, M)) := by
  obtain ⟨⟨x1, x2, -⟩, ⟨ht, -⟩, -⟩ := h
  rw [c_X_about]
  simp only [x1, x2, ht.1.1, ht.2.1.2.2.2.2.2.2.2.2.2.2.2, ht.2.2.2.1.1, if_true]
  by_cases h0 : v = 0
  · rw [if_pos h0, if_pos h0]
  rw [if_neg h0, if_neg h0]
  by_cases h1 : v = 1
  · rw [if_pos h1, if_pos h1]
  rw [if_neg h1, if_neg h1]
  by_cases h2 : v = 2
  · rw [if_pos h2, if_pos h2]
  rw [if_neg h2, if_neg h2]
  by_cases h3 : v = 3
  · rw [if_pos h3, if_pos h3]
  rw [if_neg h3, if_neg h3]
  by_cases h4 : v = 4
  · rw [if_pos h4, if_pos h4]
  rw [if_neg h4, if_neg h4]
  by_cases h5 : v = 5
  · rw [if_pos h5, if_pos h5]
  rw [if_neg h5, if_neg h5]
  by_cases h6 : v = 6
  · rw [if_pos h6, if_pos h6]
  rw [if_neg h6, if_neg h6]
  by_cases h7 : v = 7
  · rw [if_pos h7, if_pos h7]
  rw [if_neg h7, if_neg h7]
theorem k_aboutM (h : qLM S R m) (v : Int) : zcal zPP (d + 2) 328 [zA m, zI v] (n, s, S, R, M) = some (zI (if v = 0 then M (m + 1) 0 else if v = 1 then M (m + 1) 1 else if v = 2 then M (m + 1) 2 else if v = 3 then M (m + 1) 3 else if v = 4 then M (m + 1) 4 else if v = 5 then M (m + 1) 5 else if v = 6 then M (m + 1) 6 else if v = 7 then M m 4 else -2), (n, s, S, R, M)) := by
  rw [c_M_about]
  simp only [h.1.1, if_true]
  rw [k_isIn]
  simp only [zbI, h.1.1, h.1.2.1, h.2.1, if_true, true_or, true_and]
  by_cases h1 : 0 ≤ v ∧ v ≤ 6
  · rw [if_pos h1, if_neg (by decide)]
    obtain ⟨v, rfl⟩ := Int.eq_ofNat_of_zero_le h1.1
    rw [if_pos (qok (by omega)), Int.toNat_natCast]
    rcases (show v = 0 ∨ v = 1 ∨ v = 2 ∨ v = 3 ∨ v = 4 ∨ v = 5 ∨ v = 6 by omega) with rfl | rfl | rfl | rfl | rfl | rfl | rfl <;> rfl
  · rw [if_neg h1, if_pos rfl, if_neg (show ¬ v = 0 by omega), if_neg (show ¬ v = 1 by omega), if_neg (show ¬ v = 2 by omega), if_neg (show ¬ v = 3 by omega), if_neg (show ¬ v = 4 by omega), if_neg (show ¬ v = 5 by omega), if_neg (show ¬ v = 6 by omega)]
    by_cases h4 : v = 7
    · rw [if_pos h4, if_pos h4]
    · rw [if_neg h4, if_neg h4]
end QX
