/-! left, count, bare, fires on both sides -/
def qLeft (A : Nat → Int) (y : Int) : Int := if 0 ≤ y ∧ y < 24 then (zsn (fun o => decide (A (11 + 24 * o + y.toNat) = 1)) (A 0).toNat : Nat) else -1
section QF
variable {S : Nat → Nat × Nat} {R : Nat → Nat → Nat} {M : Nat → Nat → Int} {n s d : Nat} {A : Nat → Int}
theorem kx_left (hF : qFx S R) (hT : qTw M 10 A) (hA : qIn A) (hg : qRg M 21 (qg A)) (y : Int) : zcal zPP (d + 3) 77 [zA 9, zI y] (n, s, S, R, M) = some (zI (qLeft A y), (n, s, S, R, M)) := by
  unfold qLeft
  by_cases hy : 0 ≤ y ∧ y < 24
  · obtain ⟨y, rfl⟩ := Int.eq_ofNat_of_zero_le hy.1
    obtain ⟨a, ha⟩ := Int.eq_ofNat_of_zero_le hA.1.1
    have ha5 := hA.1.2
    have L := qlp (P := fun i => zR zPP (d + 2) 77 9 [zA 9, zI y, zI (zsn (fun o => decide (A (11 + 24 * o + y) = 1)) i : Nat), zI i] [] (n, s, S, R, M)) (N := a) (fun i hi => by
      have hi5 : (i : Int) < A 0 := by omega
      show zR _ _ _ _ _ _ _ = zR _ _ _ _ _ _ _
      rw [e_X_left_9]
      simp (disch := omega) only [qtw hT, hi5, kx_inOak hF hT hA hg hi5, qff hF, Int.lt_irrefl, ↓reduceIte, ↓reduceDIte, zbI, zbL, zbA, zbV, qrg, qrg2, qz, true_and, and_true, true_or, or_true, and_self, or_self, false_or, or_false, false_and, and_false, Int.toNat_natCast, Int.toNat_add, Int.toNat_mul, Int.toNat_zero, Int.toNat_one, qtn, Int.natCast_add, qnat1, qnat0, ne_eq, not_true_eq_false, not_false_eq_true, eq_self, qbool]
      unfold qin
      rw [zsn_bit24 _ (show y < 24 by omega), zor_if (f := fun o => decide (A (11 + 24 * o + y) = 1)) (by omega)])
    simp (disch := omega) only [c_X_left, k_isYearX, hy, qff hF, Int.lt_irrefl, ↓reduceIte, ↓reduceDIte, zbI, zbL, zbA, zbV, qrg, qrg2, qz, true_and, and_true, true_or, or_true, and_self, or_self, false_or, or_false, false_and, and_false, Int.toNat_natCast, Int.toNat_add, Int.toNat_mul, Int.toNat_zero, Int.toNat_one, qtn, Int.natCast_add, qnat1, qnat0, ne_eq, not_true_eq_false, not_false_eq_true, eq_self, qbool]
    rw [if_neg (by decide)]
    refine L.trans ?_
    show zR _ _ _ _ _ _ _ = _
    rw [e_X_left_9]
    have : ¬ (a : Int) < A 0 := by omega
    simp (disch := omega) only [qtw hT, this, ha, qff hF, Int.lt_irrefl, ↓reduceIte, ↓reduceDIte, zbI, zbL, zbA, zbV, qrg, qrg2, qz, true_and, and_true, true_or, or_true, and_self, or_self, false_or, or_false, false_and, and_false, Int.toNat_natCast, Int.toNat_add, Int.toNat_mul, Int.toNat_zero, Int.toNat_one, qtn, Int.natCast_add, qnat1, qnat0, ne_eq, not_true_eq_false, not_false_eq_true, eq_self, qbool]
  · simp (disch := omega) only [c_X_left, k_isYearX, hy, qff hF, Int.lt_irrefl, ↓reduceIte, ↓reduceDIte, zbI, zbL, zbA, zbV, qrg, qrg2, qz, true_and, and_true, true_or, or_true, and_self, or_self, false_or, or_false, false_and, and_false, Int.toNat_natCast, Int.toNat_add, Int.toNat_mul, Int.toNat_zero, Int.toNat_one, qtn, Int.natCast_add, qnat1, qnat0, ne_eq, not_true_eq_false, not_false_eq_true, eq_self, qbool]
theorem km_left (hF : qFx S R) (hA : qIn (M 306)) (y : Int) : zcal zPP (d + 3) 283 [zA 305, zI y] (n, s, S, R, M) = some (zI (qLeft (M 306) y), (n, s, S, R, M)) := by
  unfold qLeft
  by_cases hy : 0 ≤ y ∧ y < 24
  · obtain ⟨y, rfl⟩ := Int.eq_ofNat_of_zero_le hy.1
    obtain ⟨a, ha⟩ := Int.eq_ofNat_of_zero_le hA.1.1
    have ha5 := hA.1.2
    have L := qlp (P := fun i => zR zPP (d + 2) 283 9 [zA 305, zI y, zI (zsn (fun o => decide (M 306 (11 + 24 * o + y) = 1)) i : Nat), zI i] [] (n, s, S, R, M)) (N := a) (fun i hi => by
      have hi5 : (i : Int) < M 306 0 := by omega
      show zR _ _ _ _ _ _ _ = zR _ _ _ _ _ _ _
      rw [e_M_left_9]
      simp (disch := omega) only [km_get hF (show i < 5 by omega) (show y < 24 by omega), hi5, qff hF, Int.lt_irrefl, ↓reduceIte, ↓reduceDIte, zbI, zbL, zbA, zbV, qrg, qrg2, qz, true_and, and_true, true_or, or_true, and_self, or_self, false_or, or_false, false_and, and_false, Int.toNat_natCast, Int.toNat_add, Int.toNat_mul, Int.toNat_zero, Int.toNat_one, qtn, Int.natCast_add, qnat1, qnat0, ne_eq, not_true_eq_false, not_false_eq_true, eq_self, qbool]
      by_cases h1 : M 306 (11 + 24 * i + y) = 1
      · simp (disch := omega) only [h1, zor_put (f := fun o => decide (M 306 (11 + 24 * o + y) = 1)) (show i < 31 by omega) (decide_eq_true h1), qff hF, Int.lt_irrefl, ↓reduceIte, ↓reduceDIte, zbI, zbL, zbA, zbV, qrg, qrg2, qz, true_and, and_true, true_or, or_true, and_self, or_self, false_or, or_false, false_and, and_false, Int.toNat_natCast, Int.toNat_add, Int.toNat_mul, Int.toNat_zero, Int.toNat_one, qtn, Int.natCast_add, qnat1, qnat0, ne_eq, not_true_eq_false, not_false_eq_true, eq_self, qbool]
      · rw [if_neg h1, zor_zero (zsn_lt31 _ (by omega)), zsn_no (f := fun o => decide (M 306 (11 + 24 * o + y) = 1)) (decide_eq_false h1)]
        try simp (disch := omega) only [qff hF, Int.lt_irrefl, ↓reduceIte, ↓reduceDIte, zbI, zbL, zbA, zbV, qrg, qrg2, qz, true_and, and_true, true_or, or_true, and_self, or_self, false_or, or_false, false_and, and_false, Int.toNat_natCast, Int.toNat_add, Int.toNat_mul, Int.toNat_zero, Int.toNat_one, qtn, Int.natCast_add, qnat1, qnat0, ne_eq, not_true_eq_false, not_false_eq_true, eq_self, qbool])
    simp (disch := omega) only [c_M_left, k_isYearM, hy, qff hF, Int.lt_irrefl, ↓reduceIte, ↓reduceDIte, zbI, zbL, zbA, zbV, qrg, qrg2, qz, true_and, and_true, true_or, or_true, and_self, or_self, false_or, or_false, false_and, and_false, Int.toNat_natCast, Int.toNat_add, Int.toNat_mul, Int.toNat_zero, Int.toNat_one, qtn, Int.natCast_add, qnat1, qnat0, ne_eq, not_true_eq_false, not_false_eq_true, eq_self, qbool]
    rw [if_neg (by decide)]
    refine L.trans ?_
    show zR _ _ _ _ _ _ _ = _
    rw [e_M_left_9]
    have : ¬ (a : Int) < M 306 0 := by omega
    simp (disch := omega) only [this, ha, qff hF, Int.lt_irrefl, ↓reduceIte, ↓reduceDIte, zbI, zbL, zbA, zbV, qrg, qrg2, qz, true_and, and_true, true_or, or_true, and_self, or_self, false_or, or_false, false_and, and_false, Int.toNat_natCast, Int.toNat_add, Int.toNat_mul, Int.toNat_zero, Int.toNat_one, qtn, Int.natCast_add, qnat1, qnat0, ne_eq, not_true_eq_false, not_false_eq_true, eq_self, qbool]
  · simp (disch := omega) only [c_M_left, k_isYearM, hy, qff hF, Int.lt_irrefl, ↓reduceIte, ↓reduceDIte, zbI, zbL, zbA, zbV, qrg, qrg2, qz, true_and, and_true, true_or, or_true, and_self, or_self, false_or, or_false, false_and, and_false, Int.toNat_natCast, Int.toNat_add, Int.toNat_mul, Int.toNat_zero, Int.toNat_one, qtn, Int.natCast_add, qnat1, qnat0, ne_eq, not_true_eq_false, not_false_eq_true, eq_self, qbool]
end QF
