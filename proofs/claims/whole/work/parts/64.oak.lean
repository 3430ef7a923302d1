/-! oak, by, end: both sides, the world kept -/
theorem qOak_in {A A' : Nat → Int} {O : Nat} (hO : A 0 = O) (h5 : O < 5) (e0 : A' 0 = (O : Int) + 1) (eF : ∀ y, y < 24 → A' (11 + 24 * O + y) = 0 ∨ A' (11 + 24 * O + y) = 1) (eN : ∀ k, k ≠ 0 → ¬ (11 + 24 * O ≤ k ∧ k < 11 + 24 * O + 24) → A' k = A k) (h : qIn A) : qIn A' := by
  obtain ⟨a0, a1, a2, a3, a4, a5, a6, a7, a8, a9, a10, b1, b2, b3, b4, b5, b6, b7, b8⟩ := h
  refine ⟨?_, ?_, ?_, ?_, ?_, ?_, ?_, ?_, ?_, ?_, ?_, fun o z ho hz => ?_, fun i hi => ?_, fun i hi => ?_, fun i hi => ?_, fun i hi => ?_, fun i hi => ?_, fun i hi => ?_, fun i hi => ?_⟩
  · rw [e0]; omega
  · rw [eN 1 (by decide) (by omega)]; exact a1
  · rw [eN 2 (by decide) (by omega)]; exact a2
  · rw [eN 3 (by decide) (by omega), eN 2 (by decide) (by omega)]; exact a3
  · rw [eN 4 (by decide) (by omega)]; exact a4
  · rw [eN 5 (by decide) (by omega)]; exact a5
  · rw [eN 6 (by decide) (by omega)]; exact a6
  · rw [eN 7 (by decide) (by omega)]; exact a7
  · rw [eN 8 (by decide) (by omega)]; exact a8
  · rw [eN 9 (by decide) (by omega)]; exact a9
  · rw [eN 10 (by decide) (by omega)]; exact a10
  · rw [eN 1 (by decide) (by omega)]
    by_cases hoO : o = O
    · subst hoO
      have := eF z hz
      omega
    · rw [eN _ (by omega) (by omega)]; exact b1 o z ho hz
  · rw [eN _ (by omega) (by omega)]; exact b2 i hi
  · rw [eN _ (by omega) (by omega)]; exact b3 i hi
  · rw [eN _ (by omega) (by omega)]; exact b4 i hi
  · rw [eN _ (by omega) (by omega)]; exact b5 i hi
  · rw [eN _ (by omega) (by omega)]; exact b6 i hi
  · rw [eN _ (by omega) (by omega)]; exact b7 i hi
  · rw [eN 6 (by decide) (by omega)] at hi
    rw [eN _ (by omega) (by omega), eN 1 (by decide) (by omega), eN _ (by omega) (by omega)]; exact b8 i hi
section QF
variable {S : Nat → Nat × Nat} {R : Nat → Nat → Nat} {M M' : Nat → Nat → Int} {n s : Nat} {A : Nat → Int} {W : Nat → qWt}
theorem qTo_oak {A A' : Nat → Int} {O v : Nat} (hO : A 0 = O) (h5 : O < 5) (hv : v < 2 ^ 24) (e0 : A' 0 = (O : Int) + 1) (eF : ∀ y, y < 24 → A' (11 + 24 * O + y) = if v.testBit y then 1 else 0) (eN : ∀ k, k ≠ 0 → ¬ (11 + 24 * O ≤ k ∧ k < 11 + 24 * O + 24) → A' k = A k) (h : qTo M 10 A) : qTo (zup (zup M 11 O v) 10 12 ((O : Int) + 1)) 10 A' := by
  obtain ⟨hT, hR, hS, hI⟩ := h
  have eF' : ∀ y, y < 24 → A' (11 + 24 * O + y) = 0 ∨ A' (11 + 24 * O + y) = 1 := fun y hy => by rw [eF y hy]; split <;> omega
  have hI' := qOak_in hO h5 e0 eF' eN hI
  have hrow : ∀ a, a ≠ 11 → a ≠ 10 → zup (zup M 11 O v) 10 12 ((O : Int) + 1) a = M a := fun a h1 h2 => by rw [zup_rw h2, zup_rw h1]
  refine ⟨?_, ?_, ?_, hI'⟩
  · obtain ⟨⟨a1, a2, a3, a4, a5, a6⟩, b1, b2, b3, b4, b5, b6, b7, b8, b9⟩ := hT
    refine ⟨⟨?_, ?_, ?_, ?_, ?_, ?_⟩, fun o ho => ?_, fun i hi => ?_, fun i hi => ?_, fun i hi => ?_, fun i hi => ?_, fun i hi => ?_, fun i hi => ?_, fun i hi => ?_, fun i hi => ?_⟩
    · rw [zup_at, e0]
    · rw [zup_ne (by decide), zup_r (by decide), eN 1 (by decide) (by omega)]; exact a2
    · rw [zup_ne (by decide), zup_r (by decide), eN 2 (by decide) (by omega)]; exact a3
    · rw [zup_ne (by decide), zup_r (by decide), eN 3 (by decide) (by omega)]; exact a4
    · rw [zup_ne (by decide), zup_r (by decide), eN 5 (by decide) (by omega)]; exact a5
    · rw [zup_ne (by decide), zup_r (by decide), eN 6 (by decide) (by omega)]; exact a6
    · rw [zup_rw (by decide)]
      by_cases hoO : o = O
      · subst hoO
        rw [show (10 + 1 : Nat) = 11 from rfl, zup_at]
        refine congrArg (fun x : Nat => (x : Int)) ?_
        rw [← zsn_of hv]
        refine (zsn_cong fun y hy => ?_).symm
        have := eF y hy
        by_cases hb : v.testBit y = true
        · rw [if_pos hb] at this
          rw [hb]
          exact decide_eq_true (by omega)
        · rw [if_neg hb] at this
          rw [Bool.not_eq_true] at hb
          rw [hb]
          exact decide_eq_false (by omega)
      · rw [show (10 + 1 : Nat) = 11 from rfl, zup_ne (by omega)]
        rw [zsn_cong (g := fun y => decide (A (11 + 24 * o + y) ≠ 0)) (fun y' hy' => by simp only [eN (11 + 24 * o + y') (by omega) (by omega)])]
        exact b1 o ho
    · rw [hrow _ (by decide) (by decide), eN _ (by omega) (by omega)]; exact b2 i hi
    · rw [hrow _ (by decide) (by decide), eN _ (by omega) (by omega)]; exact b3 i hi
    · rw [hrow _ (by decide) (by decide), eN _ (by omega) (by omega)]; exact b4 i hi
    · rw [hrow _ (by decide) (by decide), eN _ (by omega) (by omega)]; exact b5 i hi
    · rw [hrow _ (by decide) (by decide), eN _ (by omega) (by omega)]; exact b6 i hi
    · rw [hrow _ (by decide) (by decide), eN _ (by omega) (by omega)]; exact b7 i hi
    · rw [hrow _ (by decide) (by decide), eN _ (by omega) (by omega)]; exact b8 i hi
    · rw [hrow _ (by decide) (by decide), eN _ (by omega) (by omega)]; exact b9 i hi
  · refine qRs_x (fun a x y => hrow a (by omega) (by omega)) ?_
    obtain ⟨h1, h2, h3⟩ := hR
    refine ⟨qRg_g (fun o y ho hy => ?_) h1, ?_, fun i hi => ?_⟩
    · unfold qg
      by_cases h1 : o < O
      · rw [if_pos (by omega), if_pos (by omega), eN _ (by omega) (by omega)]
        exact Or.inl rfl
      · by_cases h2 : o = O
        · subst h2
          have := eF' y hy
          rw [if_pos (by omega), if_neg (by omega)]
          omega
        · rw [if_neg (by omega), if_neg (by omega)]
          exact Or.inl rfl
    · rw [eN 10 (by decide) (by omega), eN 8 (by decide) (by omega), eN 7 (by decide) (by omega), eN 9 (by decide) (by omega)]
      exact h2
    · rw [eN 10 (by decide) (by omega)] at hi
      rw [eN _ (by omega) (by omega)]
      exact h3 i hi
  · refine qSp_x (fun a x y => hrow a (by omega) (by omega)) (qSp_told (by omega) (by omega) (by rw [eN 1 (by decide) (by omega)]; omega) (eN 4 (by decide) (by omega)) (fun k hk => eN k (by omega) (by omega)) (fun o y ho hy => ?_) hS)
    rw [eN _ (by omega) (by omega)]
theorem qb_oak (hw : qWd n S R M W) (v : Int) : qBo 16 179 [zI v] n s S R M := by
  have hA := hw.2.1.2.2.2
  obtain ⟨O, hO⟩ := Int.eq_ofNat_of_zero_le hA.1.1
  have hO5 := hA.1.2
  have hT := hw.2.1.1
  have hX := k_oak (n := n) (s := s) (d := 98) (M := M) hw.1.2.1.1 (O := O) (by rw [← hO]; exact hT.1.1) (by omega) v
  have hM := fun (M1 : Nat → Nat → Int) (e : M1 306 0 = (O : Int)) => k_oakM (n := n) (s := s) (d := 98) (M := M1) hw.1.2.1.2.1 (O := O) e (by omega) v
  by_cases hc : (0 ≤ v ∧ v ≤ 16777215) ∧ O < 5
  · obtain ⟨v, rfl⟩ := Int.eq_ofNat_of_zero_le hc.1.1
    have hv24 : v < 2 ^ 24 := by
      have : (2 : Nat) ^ 24 = 16777216 := rfl
      omega
    have hM2 := hM (zup (zup M 11 O v) 10 12 ((O + 1 : Nat) : Int)) (by rw [zup_rw (by decide), zup_rw (by decide)]; exact hO)
    rw [if_pos hc] at hX hM2
    rw [Int.toNat_natCast] at hM2
    have e306 : (zup (zup M 11 O v) 10 12 ((O + 1 : Nat) : Int)) 306 = M 306 := by rw [zup_rw (by decide), zup_rw (by decide)]
    have hrow : ∀ a, a ≠ 306 → zup (qfill (zup (zup M 11 O v) 10 12 ((O + 1 : Nat) : Int)) 306 (11 + 24 * O) 24 fun y => if v.testBit y then 1 else 0) 306 0 ((O + 1 : Nat) : Int) a = zup (zup M 11 O v) 10 12 ((O : Int) + 1) a := fun a ha => by
      rw [zup_rw ha]
      funext k
      exact qfill_out (by omega)
    refine qBo_rows hX hM2 (W := W) (qWd_to hw (fun a x y => by rw [hrow a y, zup_rw (by omega), zup_rw (by omega)]) ?_ ?_) (by rw [hrow 1 (by decide), zup_rw (by decide), zup_rw (by decide)])
    · refine qTo_x (fun a x y => hrow a (by omega)) (qTo_oak hO hc.2 hv24 zup_at (fun y hy => ?_) (fun k k0 k1 => ?_) hw.2.1)
      · rw [zup_ne (by omega), qfill_in hy]
      · rw [zup_ne k0, qfill_out (by omega), e306]
    · rw [zup_ne (by decide), qfill_out (by omega), e306]
  · rw [if_neg hc] at hX
    have hM2 := hM M hO
    rw [if_neg hc] at hM2
    exact qBo_same hw hX hM2
theorem qb_by (hw : qWd n S R M W) (v : Int) : qBo 28 227 [zI v] n s S R M := by
  have hA := hw.2.1.2.2.2
  have hT := hw.2.1.1
  have hF := hw.1.2.1
  have h2 := hA.2.2.1
  have h3 : M 10 14 = M 306 2 := hT.1.2.2.1
  by_cases hc : -1 ≤ v ∧ v < M 306 2
  · have hX : zcal zPP 100 28 [zA 9, zI v] (n, s, S, R, M) = some (zI 1, (n, s, S, R, zup M 10 15 v)) := by
      by_cases h1 : v = -1
      · simp (disch := omega) only [c_X_by, h1, qff hF, qltT, qltF, qleT, qleF, qeqT, qeqF, Int.reduceEq, Int.reduceNe, Int.reduceLT, Int.reduceLE, Int.reduceToNat, Int.reduceAdd, Int.reduceSub, Int.reduceMul, Int.reduceNeg, Nat.reduceAdd, Nat.reduceMul, Nat.reduceEqDiff, Nat.reduceLT, Int.cast_ofNat_Int, Int.lt_irrefl, ↓reduceIte, ↓reduceDIte, zbI, zbL, zbA, zbV, qrg, qrg2, qnn, qz, zup_at, zup_r, zup_ne, true_and, and_true, true_or, or_true, and_self, or_self, false_or, or_false, false_and, and_false, Int.toNat_natCast, Int.toNat_add, Int.toNat_mul, Int.toNat_zero, Int.toNat_one, qtn, Int.natCast_add, qnat1, qnat0, ne_eq, not_true_eq_false, not_false_eq_true, eq_self, qbool]
      · obtain ⟨t, rfl⟩ := Int.eq_ofNat_of_zero_le (show 0 ≤ v by omega)
        obtain ⟨-, -, -, -, -, ⟨O, len, lo, hi, hq, -⟩, -⟩ := hw.2.2.2.1.1 t hc.2
        have hq0 : ¬ R 14 t = 0 := by have := hq.2.1.1; omega
        have hS7 := hq.1.1
        simp (disch := omega) only [c_X_by, c_Town_textAt, h3, hq0, hS7, qff hF, qltT, qltF, qleT, qleF, qeqT, qeqF, Int.reduceEq, Int.reduceNe, Int.reduceLT, Int.reduceLE, Int.reduceToNat, Int.reduceAdd, Int.reduceSub, Int.reduceMul, Int.reduceNeg, Nat.reduceAdd, Nat.reduceMul, Nat.reduceEqDiff, Nat.reduceLT, Int.cast_ofNat_Int, Int.lt_irrefl, ↓reduceIte, ↓reduceDIte, zbI, zbL, zbA, zbV, qrg, qrg2, qnn, qz, zup_at, zup_r, zup_ne, true_and, and_true, true_or, or_true, and_self, or_self, false_or, or_false, false_and, and_false, Int.toNat_natCast, Int.toNat_add, Int.toNat_mul, Int.toNat_zero, Int.toNat_one, qtn, Int.natCast_add, qnat1, qnat0, ne_eq, not_true_eq_false, not_false_eq_true, eq_self, qbool]
    have hM : zcal zPP 100 227 [zA 305, zI v] (n, s, S, R, zup M 10 15 v) = some (zI 1, (n, s, S, R, zup (zup M 10 15 v) 306 3 v)) := by
      simp (disch := omega) only [c_M_by, k_isIn, qff hF, qltT, qltF, qleT, qleF, qeqT, qeqF, Int.reduceEq, Int.reduceNe, Int.reduceLT, Int.reduceLE, Int.reduceToNat, Int.reduceAdd, Int.reduceSub, Int.reduceMul, Int.reduceNeg, Nat.reduceAdd, Nat.reduceMul, Nat.reduceEqDiff, Nat.reduceLT, Int.cast_ofNat_Int, Int.lt_irrefl, ↓reduceIte, ↓reduceDIte, zbI, zbL, zbA, zbV, qrg, qrg2, qnn, qz, zup_at, zup_r, zup_ne, true_and, and_true, true_or, or_true, and_self, or_self, false_or, or_false, false_and, and_false, Int.toNat_natCast, Int.toNat_add, Int.toNat_mul, Int.toNat_zero, Int.toNat_one, qtn, Int.natCast_add, qnat1, qnat0, ne_eq, not_true_eq_false, not_false_eq_true, eq_self, qbool]
    exact qBo_rows hX hM (qWd_cell hw (by decide) (by omega) (by omega) (qTw_f15 v hT) (qIn_f15 hc hA)) (by rw [zup_rw (by decide), zup_rw (by decide)])
  · have hX : zcal zPP 100 28 [zA 9, zI v] (n, s, S, R, M) = some (zI 0, (n, s, S, R, M)) := by
      by_cases h1 : v < 0
      · simp (disch := omega) only [c_X_by, c_Town_textAt, qff hF, qltT, qltF, qleT, qleF, qeqT, qeqF, Int.reduceEq, Int.reduceNe, Int.reduceLT, Int.reduceLE, Int.reduceToNat, Int.reduceAdd, Int.reduceSub, Int.reduceMul, Int.reduceNeg, Nat.reduceAdd, Nat.reduceMul, Nat.reduceEqDiff, Nat.reduceLT, Int.cast_ofNat_Int, Int.lt_irrefl, ↓reduceIte, ↓reduceDIte, zbI, zbL, zbA, zbV, qrg, qrg2, qnn, qz, zup_at, zup_r, zup_ne, true_and, and_true, true_or, or_true, and_self, or_self, false_or, or_false, false_and, and_false, Int.toNat_natCast, Int.toNat_add, Int.toNat_mul, Int.toNat_zero, Int.toNat_one, qtn, Int.natCast_add, qnat1, qnat0, ne_eq, not_true_eq_false, not_false_eq_true, eq_self, qbool]
      · simp (disch := omega) only [c_X_by, c_Town_textAt, h3, qff hF, qltT, qltF, qleT, qleF, qeqT, qeqF, Int.reduceEq, Int.reduceNe, Int.reduceLT, Int.reduceLE, Int.reduceToNat, Int.reduceAdd, Int.reduceSub, Int.reduceMul, Int.reduceNeg, Nat.reduceAdd, Nat.reduceMul, Nat.reduceEqDiff, Nat.reduceLT, Int.cast_ofNat_Int, Int.lt_irrefl, ↓reduceIte, ↓reduceDIte, zbI, zbL, zbA, zbV, qrg, qrg2, qnn, qz, zup_at, zup_r, zup_ne, true_and, and_true, true_or, or_true, and_self, or_self, false_or, or_false, false_and, and_false, Int.toNat_natCast, Int.toNat_add, Int.toNat_mul, Int.toNat_zero, Int.toNat_one, qtn, Int.natCast_add, qnat1, qnat0, ne_eq, not_true_eq_false, not_false_eq_true, eq_self, qbool]
    have hM : zcal zPP 100 227 [zA 305, zI v] (n, s, S, R, M) = some (zI 0, (n, s, S, R, M)) := by
      simp (disch := omega) only [c_M_by, k_isIn, qff hF, qltT, qltF, qleT, qleF, qeqT, qeqF, Int.reduceEq, Int.reduceNe, Int.reduceLT, Int.reduceLE, Int.reduceToNat, Int.reduceAdd, Int.reduceSub, Int.reduceMul, Int.reduceNeg, Nat.reduceAdd, Nat.reduceMul, Nat.reduceEqDiff, Nat.reduceLT, Int.cast_ofNat_Int, Int.lt_irrefl, ↓reduceIte, ↓reduceDIte, zbI, zbL, zbA, zbV, qrg, qrg2, qnn, qz, zup_at, zup_r, zup_ne, true_and, and_true, true_or, or_true, and_self, or_self, false_or, or_false, false_and, and_false, Int.toNat_natCast, Int.toNat_add, Int.toNat_mul, Int.toNat_zero, Int.toNat_one, qtn, Int.natCast_add, qnat1, qnat0, ne_eq, not_true_eq_false, not_false_eq_true, eq_self, qbool]
    exact qBo_same hw hX hM
theorem qb_end (hw : qWd n S R M W) (v : Int) : qBo 25 188 [zI v] n s S R M := by
  have hF := hw.1.2.1
  obtain ⟨⟨t1, t2, t3⟩, t4, t5, t6⟩ := hw.2.2.2.2
  have hX := k_end (n := n) (s := s) (d := 99) (M := M) hF.1 v
  have hM := fun M1 => k_endM (n := n) (s := s) (d := 98) (M := M1) hF.2.1 v
  by_cases hc : 0 ≤ v ∧ v ≤ M 9 9
  · have hM2 := hM (zup M 9 9 v)
    rw [if_pos hc] at hX
    rw [zup_r (by decide), t3, if_pos hc] at hM2
    refine qBo_rows hX hM2 (W := W) ?_ (by rw [zup_rw (by decide), zup_rw (by decide)])
    obtain ⟨⟨h1, h2', h3⟩, h4, h5, h6, -⟩ := hw
    have e : ∀ a, a ≠ 9 → a ≠ 305 → zup (zup M 9 9 v) 305 4 v a = M a := fun a x y => by rw [zup_rw y, zup_rw x]
    refine ⟨⟨h1, h2', qSt_x (fun a ha => e a (by omega) (by omega)) h3⟩, ?_, ?_, qTt_x (fun a ha => e a (by omega) (by omega)) (e _ (by decide) (by decide)) (by rw [e _ (by decide) (by decide)]) (by rw [e _ (by decide) (by decide)]) h6, ?_⟩
    · rw [e 306 (by decide) (by decide)]
      exact qTo_x (fun a x y => e a (by omega) (by omega)) h4
    · rw [e 307 (by decide) (by decide)]
      exact qTo_x (fun a x y => e a (by omega) (by omega)) h5
    · refine ⟨⟨?_, ?_, ?_⟩, ⟨?_, ?_⟩, ?_, fun k hk => ?_⟩
      · rw [zup_r (by decide), zup_at]; omega
      · rw [zup_r (by decide), zup_at]; omega
      · rw [zup_at, zup_r (by decide), zup_at]
      · rw [zup_ne (by decide), zup_r (by decide), zup_r (by decide), zup_ne (by decide)]; exact t4.1
      · rw [zup_ne (by decide), zup_r (by decide), zup_r (by decide), zup_ne (by decide)]; exact t4.2
      · rw [zup_ne (by decide), zup_r (by decide)]; exact t5
      · rw [zup_r (by decide), zup_at] at hk
        rw [e 304 (by decide) (by decide), e 309 (by decide) (by decide)]
        exact t6 k (by omega)
  · have hM2 := hM M
    rw [if_neg hc] at hX
    rw [t3, if_neg hc] at hM2
    exact qBo_same hw hX hM2
end QF
