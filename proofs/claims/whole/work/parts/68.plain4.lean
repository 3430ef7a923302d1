/-! ofOak, owed: both sides -/
def qlen (A : Nat → Int) (o : Nat) : Nat → Bool := fun y => decide (3 ≤ A (11 + 24 * o + y))
/-- what years below n, of those of f, are worth -/
def qwor (A : Nat → Int) (f : Nat → Bool) : Nat → Int := qS fun y => if f y = true then A (170 + (A (136 + y)).toNat) else 0
theorem qwor_in {A : Nat → Int} (hA : qIn A) (f : Nat → Bool) {n : Nat} (hn : n ≤ 24) : 0 * (n : Int) ≤ qwor A f n ∧ qwor A f n ≤ 99 * n := by
  have h : ∀ y, y < n → 0 ≤ (if f y = true then A (170 + (A (136 + y)).toNat) else 0) ∧ (if f y = true then A (170 + (A (136 + y)).toNat) else 0) ≤ 99 := fun y hy => by
    have hk := hA.2.2.2.2.2.2.2.2.2.2.2.2.1 y (by omega)
    have hp := hA.2.2.2.2.2.2.2.2.2.2.2.2.2.2.2.2.2.1 (A (136 + y)).toNat (by omega)
    split <;> omega
  exact ⟨qS_ge fun i hi => (h i hi).1, qS_le fun i hi => (h i hi).2⟩
/-- by kinds it is the same -/
def qwk (A : Nat → Int) (f : Nat → Bool) (n : Nat) : Nat → Int := qS fun k => A (170 + k) * (zct (fun y => f y && decide (A (136 + y) = k)) n : Nat)
theorem qwk_eq {A : Nat → Int} (hA : qIn A) (f : Nat → Bool) : ∀ n, n ≤ 24 → qwk A f n 4 = qwor A f n
  | 0, _ => by
    show (((0 + A (170 + 0) * ((0 : Nat) : Int)) + A (170 + 1) * ((0 : Nat) : Int)) + A (170 + 2) * ((0 : Nat) : Int)) + A (170 + 3) * ((0 : Nat) : Int) = 0
    simp
  | n + 1, hn => by
    have ih := qwk_eq hA f n (by omega)
    have hk := hA.2.2.2.2.2.2.2.2.2.2.2.2.1 n (by omega)
    have e : qwor A f (n + 1) = qwor A f n + (if f n = true then A (170 + (A (136 + n)).toNat) else 0) := rfl
    rw [e, ← ih]
    have u : ∀ m, qwk A f m 4 = (((0 + A (170 + 0) * ((zct (fun y => f y && decide (A (136 + y) = ((0 : Nat) : Int))) m : Nat) : Int)) + A (170 + 1) * ((zct (fun y => f y && decide (A (136 + y) = ((1 : Nat) : Int))) m : Nat) : Int)) + A (170 + 2) * ((zct (fun y => f y && decide (A (136 + y) = ((2 : Nat) : Int))) m : Nat) : Int)) + A (170 + 3) * ((zct (fun y => f y && decide (A (136 + y) = ((3 : Nat) : Int))) m : Nat) : Int) := fun m => rfl
    rw [u, u]
    have hs : ∀ k : Nat, ((zct (fun y => f y && decide (A (136 + y) = (k : Int))) (n + 1) : Nat) : Int) = ((zct (fun y => f y && decide (A (136 + y) = (k : Int))) n : Nat) : Int) + (if f n = true ∧ A (136 + n) = k then 1 else 0) := fun k => by
      rw [zct_s]
      by_cases h1 : f n = true ∧ A (136 + n) = k
      · rw [if_pos h1, if_pos (by rw [h1.1, Bool.true_and]; exact decide_eq_true h1.2)]
        rfl
      · rw [if_neg h1, if_neg (by rw [Bool.and_eq_true, decide_eq_true_iff]; exact h1)]
        rfl
    rw [hs 0, hs 1, hs 2, hs 3]
    simp only [Int.mul_add]
    by_cases hf : f n = true
    · rw [if_pos hf]
      have h4 : A (136 + n) = 0 ∨ A (136 + n) = 1 ∨ A (136 + n) = 2 ∨ A (136 + n) = 3 := by omega
      rcases h4 with h | h | h | h <;> rw [h] <;> simp [hf] <;> omega
    · rw [if_neg hf]
      simp [hf]
section QF
variable {S : Nat → Nat × Nat} {R : Nat → Nat → Nat} {M M' : Nat → Nat → Int} {n s d : Nat} {A : Nat → Int} {W : Nat → qWt}
theorem km_lent (hF : qFx S R) {o : Nat} (ho : o < 5) : zcal zPP (d + 2) 273 [zA 305, zI o] (n, s, S, R, M) = some (zI (zct (qlen (M 306) o) 24 : Nat), (n, s, S, R, M)) := by
  have L := qlp (P := fun i => zR zPP (d + 1) 273 4 [zA 305, zI o, zI (zct (qlen (M 306) o) i : Nat), zI i] [] (n, s, S, R, M)) (N := 24) (fun i hi => by
    have hz := zct_le (qlen (M 306) o) i
    show zR _ _ _ _ _ _ _ = zR _ _ _ _ _ _ _
    rw [e_M_lent_4, zct_s]
    by_cases hq : 3 ≤ M 306 (11 + 24 * o + i)
    · rw [if_pos (show qlen (M 306) o i = true from decide_eq_true hq)]
      simp (disch := omega) only [km_get hF ho hi, qff hF, qltT, qltF, qleT, qleF, qeqT, qeqF, Int.reduceEq, Int.reduceNe, Int.reduceLT, Int.reduceLE, Int.reduceToNat, Int.reduceAdd, Int.reduceSub, Int.reduceMul, Int.reduceNeg, Nat.reduceAdd, Nat.reduceMul, Nat.reduceEqDiff, Nat.reduceLT, Int.cast_ofNat_Int, Int.lt_irrefl, ↓reduceIte, ↓reduceDIte, zbI, zbL, zbA, zbV, qrg, qrg2, qnn, qz, zup_at, zup_r, zup_ne, true_and, and_true, true_or, or_true, and_self, or_self, false_or, or_false, false_and, and_false, Int.toNat_natCast, Int.toNat_add, Int.toNat_mul, Int.toNat_zero, Int.toNat_one, qtn, Int.natCast_add, qnat1, qnat0, ne_eq, not_true_eq_false, not_false_eq_true, eq_self, qbool]
    · rw [if_neg (show ¬ qlen (M 306) o i = true from fun z => hq (of_decide_eq_true z))]
      simp (disch := omega) only [km_get hF ho hi, qff hF, qltT, qltF, qleT, qleF, qeqT, qeqF, Int.reduceEq, Int.reduceNe, Int.reduceLT, Int.reduceLE, Int.reduceToNat, Int.reduceAdd, Int.reduceSub, Int.reduceMul, Int.reduceNeg, Nat.reduceAdd, Nat.reduceMul, Nat.reduceEqDiff, Nat.reduceLT, Int.cast_ofNat_Int, Int.lt_irrefl, ↓reduceIte, ↓reduceDIte, zbI, zbL, zbA, zbV, qrg, qrg2, qnn, qz, zup_at, zup_r, zup_ne, true_and, and_true, true_or, or_true, and_self, or_self, false_or, or_false, false_and, and_false, Int.toNat_natCast, Int.toNat_add, Int.toNat_mul, Int.toNat_zero, Int.toNat_one, qtn, Int.natCast_add, qnat1, qnat0, ne_eq, not_true_eq_false, not_false_eq_true, eq_self, qbool]
      try rw [Int.add_zero])
  simp (disch := omega) only [c_M_lent, qff hF, qltT, qltF, qleT, qleF, qeqT, qeqF, Int.reduceEq, Int.reduceNe, Int.reduceLT, Int.reduceLE, Int.reduceToNat, Int.reduceAdd, Int.reduceSub, Int.reduceMul, Int.reduceNeg, Nat.reduceAdd, Nat.reduceMul, Nat.reduceEqDiff, Nat.reduceLT, Int.cast_ofNat_Int, Int.lt_irrefl, ↓reduceIte, ↓reduceDIte, zbI, zbL, zbA, zbV, qrg, qrg2, qnn, qz, zup_at, zup_r, zup_ne, true_and, and_true, true_or, or_true, and_self, or_self, false_or, or_false, false_and, and_false, Int.toNat_natCast, Int.toNat_add, Int.toNat_mul, Int.toNat_zero, Int.toNat_one, qtn, Int.natCast_add, qnat1, qnat0, ne_eq, not_true_eq_false, not_false_eq_true, eq_self, qbool]
  refine Eq.trans L ?_
  show zR _ _ _ _ _ _ _ = _
  rw [e_M_lent_4, if_neg (by decide)]
theorem kx_lentOf (hF : qFx S R) (hA : qIn A) (hg : qRg M 21 (qg A)) {o : Nat} (ho : (o : Int) < A 0) : zcal zPP (d + 2) 142 [zA 21, zI o] (n, s, S, R, M) = some (zI (zsn (qlen A o) 24 : Nat), (n, s, S, R, M)) := by
  have ha5 := hA.1.2
  have hp5 := hA.2.1.2
  have := k_lentOf (n := n) (s := s) (d := d) (S := S) (R := R) hF.1.2.1.1.2.2.1 hg (show o < 5 by omega)
  refine this.trans ?_
  congr 4
  refine zsn_cong fun y hy => ?_
  have hb := hA.2.2.2.2.2.2.2.2.2.2.2.1 o y (by omega) hy
  rw [qg_in ho]
  unfold qlen
  rw [Bool.eq_iff_iff, Bool.and_eq_true, decide_eq_true_iff, decide_eq_true_iff]
  omega
theorem qb_ofOak (hw : qWd n S R M W) (v w : Int) : qBo 44 272 [zI v, zI w] n s S R M := by
  have hA := hw.2.1.2.2.2
  have hF := hw.1.2.1
  have hT := hw.2.1.1
  have hg := hw.2.1.2.1.1
  have ha5 := hA.1.2
  by_cases hv : 0 ≤ v ∧ v < M 306 0
  · obtain ⟨o, rfl⟩ := Int.eq_ofNat_of_zero_le hv.1
    have hcut : M 23 o = (zsn (fun y => decide (M 306 (11 + 24 * o + y) = 2)) 24 : Nat) := by
      rw [show M 23 o = _ from hg.2 o (by omega)]
      refine congrArg (fun x : Nat => (x : Int)) (zsn_cong fun y hy => ?_)
      rw [qg_in hv.2]
    by_cases h0 : w = 0
    · have hX : zcal zPP 100 44 [zA 9, zI o, zI w] (n, s, S, R, M) = some (zI (qic (M 306) o : Nat), (n, s, S, R, M)) := by
        rw [c_X_ofOak]
        simp (disch := omega) only [kx_hasOak hF hT hA, hv, kx_inOak hF hT hA hg hv.2, k_bitIn, qff hF, qltT, qltF, qleT, qleF, qeqT, qeqF, Int.reduceEq, Int.reduceNe, Int.reduceLT, Int.reduceLE, Int.reduceToNat, Int.reduceAdd, Int.reduceSub, Int.reduceMul, Int.reduceNeg, Nat.reduceAdd, Nat.reduceMul, Nat.reduceEqDiff, Nat.reduceLT, Int.cast_ofNat_Int, Int.lt_irrefl, ↓reduceIte, ↓reduceDIte, zbI, zbL, zbA, zbV, qrg, qrg2, qnn, qz, zup_at, zup_r, zup_ne, true_and, and_true, true_or, or_true, and_self, or_self, false_or, or_false, false_and, and_false, Int.toNat_natCast, Int.toNat_add, Int.toNat_mul, Int.toNat_zero, Int.toNat_one, qtn, Int.natCast_add, qnat1, qnat0, ne_eq, not_true_eq_false, not_false_eq_true, eq_self, qbool]
      have hM : zcal zPP 100 272 [zA 305, zI o, zI w] (n, s, S, R, M) = some (zI (qic (M 306) o : Nat), (n, s, S, R, M)) := by
        rw [c_M_ofOak]
        simp (disch := omega) only [km_isOak hF hA, hv, km_inside hF (show o < 5 by omega), qff hF, qltT, qltF, qleT, qleF, qeqT, qeqF, Int.reduceEq, Int.reduceNe, Int.reduceLT, Int.reduceLE, Int.reduceToNat, Int.reduceAdd, Int.reduceSub, Int.reduceMul, Int.reduceNeg, Nat.reduceAdd, Nat.reduceMul, Nat.reduceEqDiff, Nat.reduceLT, Int.cast_ofNat_Int, Int.lt_irrefl, ↓reduceIte, ↓reduceDIte, zbI, zbL, zbA, zbV, qrg, qrg2, qnn, qz, zup_at, zup_r, zup_ne, true_and, and_true, true_or, or_true, and_self, or_self, false_or, or_false, false_and, and_false, Int.toNat_natCast, Int.toNat_add, Int.toNat_mul, Int.toNat_zero, Int.toNat_one, qtn, Int.natCast_add, qnat1, qnat0, ne_eq, not_true_eq_false, not_false_eq_true, eq_self, qbool]
      exact qBo_same hw hX hM
    by_cases h1 : w = 1
    · have hX : zcal zPP 100 44 [zA 9, zI o, zI w] (n, s, S, R, M) = some (zI (qin (M 306) o : Nat), (n, s, S, R, M)) := by
        rw [c_X_ofOak]
        simp (disch := omega) only [kx_hasOak hF hT hA, hv, kx_inOak hF hT hA hg hv.2, qff hF, qltT, qltF, qleT, qleF, qeqT, qeqF, Int.reduceEq, Int.reduceNe, Int.reduceLT, Int.reduceLE, Int.reduceToNat, Int.reduceAdd, Int.reduceSub, Int.reduceMul, Int.reduceNeg, Nat.reduceAdd, Nat.reduceMul, Nat.reduceEqDiff, Nat.reduceLT, Int.cast_ofNat_Int, Int.lt_irrefl, ↓reduceIte, ↓reduceDIte, zbI, zbL, zbA, zbV, qrg, qrg2, qnn, qz, zup_at, zup_r, zup_ne, true_and, and_true, true_or, or_true, and_self, or_self, false_or, or_false, false_and, and_false, Int.toNat_natCast, Int.toNat_add, Int.toNat_mul, Int.toNat_zero, Int.toNat_one, qtn, Int.natCast_add, qnat1, qnat0, ne_eq, not_true_eq_false, not_false_eq_true, eq_self, qbool]
      have hM : zcal zPP 100 272 [zA 305, zI o, zI w] (n, s, S, R, M) = some (zI (qin (M 306) o : Nat), (n, s, S, R, M)) := by
        rw [c_M_ofOak]
        simp (disch := omega) only [km_isOak hF hA, hv, km_yearsOf hF (show o < 5 by omega), qff hF, qltT, qltF, qleT, qleF, qeqT, qeqF, Int.reduceEq, Int.reduceNe, Int.reduceLT, Int.reduceLE, Int.reduceToNat, Int.reduceAdd, Int.reduceSub, Int.reduceMul, Int.reduceNeg, Nat.reduceAdd, Nat.reduceMul, Nat.reduceEqDiff, Nat.reduceLT, Int.cast_ofNat_Int, Int.lt_irrefl, ↓reduceIte, ↓reduceDIte, zbI, zbL, zbA, zbV, qrg, qrg2, qnn, qz, zup_at, zup_r, zup_ne, true_and, and_true, true_or, or_true, and_self, or_self, false_or, or_false, false_and, and_false, Int.toNat_natCast, Int.toNat_add, Int.toNat_mul, Int.toNat_zero, Int.toNat_one, qtn, Int.natCast_add, qnat1, qnat0, ne_eq, not_true_eq_false, not_false_eq_true, eq_self, qbool]
        rfl
      exact qBo_same hw hX hM
    by_cases h2 : w = 2
    · have hX : zcal zPP 100 44 [zA 9, zI o, zI w] (n, s, S, R, M) = some (zI (zct (qlen (M 306) o) 24 : Nat), (n, s, S, R, M)) := by
        rw [c_X_ofOak]
        simp (disch := omega) only [kx_hasOak hF hT hA, hv, kx_lentOf hF hA hg hv.2, k_bitCount, qff hF, qltT, qltF, qleT, qleF, qeqT, qeqF, Int.reduceEq, Int.reduceNe, Int.reduceLT, Int.reduceLE, Int.reduceToNat, Int.reduceAdd, Int.reduceSub, Int.reduceMul, Int.reduceNeg, Nat.reduceAdd, Nat.reduceMul, Nat.reduceEqDiff, Nat.reduceLT, Int.cast_ofNat_Int, Int.lt_irrefl, ↓reduceIte, ↓reduceDIte, zbI, zbL, zbA, zbV, qrg, qrg2, qnn, qz, zup_at, zup_r, zup_ne, true_and, and_true, true_or, or_true, and_self, or_self, false_or, or_false, false_and, and_false, Int.toNat_natCast, Int.toNat_add, Int.toNat_mul, Int.toNat_zero, Int.toNat_one, qtn, Int.natCast_add, qnat1, qnat0, ne_eq, not_true_eq_false, not_false_eq_true, eq_self, qbool]
      have hM : zcal zPP 100 272 [zA 305, zI o, zI w] (n, s, S, R, M) = some (zI (zct (qlen (M 306) o) 24 : Nat), (n, s, S, R, M)) := by
        rw [c_M_ofOak]
        simp (disch := omega) only [km_isOak hF hA, hv, km_lent hF (show o < 5 by omega), qff hF, qltT, qltF, qleT, qleF, qeqT, qeqF, Int.reduceEq, Int.reduceNe, Int.reduceLT, Int.reduceLE, Int.reduceToNat, Int.reduceAdd, Int.reduceSub, Int.reduceMul, Int.reduceNeg, Nat.reduceAdd, Nat.reduceMul, Nat.reduceEqDiff, Nat.reduceLT, Int.cast_ofNat_Int, Int.lt_irrefl, ↓reduceIte, ↓reduceDIte, zbI, zbL, zbA, zbV, qrg, qrg2, qnn, qz, zup_at, zup_r, zup_ne, true_and, and_true, true_or, or_true, and_self, or_self, false_or, or_false, false_and, and_false, Int.toNat_natCast, Int.toNat_add, Int.toNat_mul, Int.toNat_zero, Int.toNat_one, qtn, Int.natCast_add, qnat1, qnat0, ne_eq, not_true_eq_false, not_false_eq_true, eq_self, qbool]
      exact qBo_same hw hX hM
    by_cases h3 : w = 3
    · have hX : zcal zPP 100 44 [zA 9, zI o, zI w] (n, s, S, R, M) = some (zI (zct (fun y => decide (M 306 (11 + 24 * o + y) = 2)) 24 : Nat), (n, s, S, R, M)) := by
        rw [c_X_ofOak]
        simp (disch := omega) only [kx_hasOak hF hT hA, hv, hcut, k_bitCount, qff hF, qltT, qltF, qleT, qleF, qeqT, qeqF, Int.reduceEq, Int.reduceNe, Int.reduceLT, Int.reduceLE, Int.reduceToNat, Int.reduceAdd, Int.reduceSub, Int.reduceMul, Int.reduceNeg, Nat.reduceAdd, Nat.reduceMul, Nat.reduceEqDiff, Nat.reduceLT, Int.cast_ofNat_Int, Int.lt_irrefl, ↓reduceIte, ↓reduceDIte, zbI, zbL, zbA, zbV, qrg, qrg2, qnn, qz, zup_at, zup_r, zup_ne, true_and, and_true, true_or, or_true, and_self, or_self, false_or, or_false, false_and, and_false, Int.toNat_natCast, Int.toNat_add, Int.toNat_mul, Int.toNat_zero, Int.toNat_one, qtn, Int.natCast_add, qnat1, qnat0, ne_eq, not_true_eq_false, not_false_eq_true, eq_self, qbool]
      have hM : zcal zPP 100 272 [zA 305, zI o, zI w] (n, s, S, R, M) = some (zI (zct (fun y => decide (M 306 (11 + 24 * o + y) = 2)) 24 : Nat), (n, s, S, R, M)) := by
        rw [c_M_ofOak]
        simp (disch := omega) only [km_isOak hF hA, hv, km_yearsOf hF (show o < 5 by omega), k_bits, qff hF, qltT, qltF, qleT, qleF, qeqT, qeqF, Int.reduceEq, Int.reduceNe, Int.reduceLT, Int.reduceLE, Int.reduceToNat, Int.reduceAdd, Int.reduceSub, Int.reduceMul, Int.reduceNeg, Nat.reduceAdd, Nat.reduceMul, Nat.reduceEqDiff, Nat.reduceLT, Int.cast_ofNat_Int, Int.lt_irrefl, ↓reduceIte, ↓reduceDIte, zbI, zbL, zbA, zbV, qrg, qrg2, qnn, qz, zup_at, zup_r, zup_ne, true_and, and_true, true_or, or_true, and_self, or_self, false_or, or_false, false_and, and_false, Int.toNat_natCast, Int.toNat_add, Int.toNat_mul, Int.toNat_zero, Int.toNat_one, qtn, Int.natCast_add, qnat1, qnat0, ne_eq, not_true_eq_false, not_false_eq_true, eq_self, qbool]
      exact qBo_same hw hX hM
    by_cases h4 : w = 4
    · have hX : zcal zPP 100 44 [zA 9, zI o, zI w] (n, s, S, R, M) = some (zI (if qic (M 306) o ≤ 9 then 1 else 0), (n, s, S, R, M)) := by
        rw [c_X_ofOak]
        simp (disch := omega) only [kx_hasOak hF hT hA, hv, kx_isFenced hF hT hA hg hv.2, qff hF, qltT, qltF, qleT, qleF, qeqT, qeqF, Int.reduceEq, Int.reduceNe, Int.reduceLT, Int.reduceLE, Int.reduceToNat, Int.reduceAdd, Int.reduceSub, Int.reduceMul, Int.reduceNeg, Nat.reduceAdd, Nat.reduceMul, Nat.reduceEqDiff, Nat.reduceLT, Int.cast_ofNat_Int, Int.lt_irrefl, ↓reduceIte, ↓reduceDIte, zbI, zbL, zbA, zbV, qrg, qrg2, qnn, qz, zup_at, zup_r, zup_ne, true_and, and_true, true_or, or_true, and_self, or_self, false_or, or_false, false_and, and_false, Int.toNat_natCast, Int.toNat_add, Int.toNat_mul, Int.toNat_zero, Int.toNat_one, qtn, Int.natCast_add, qnat1, qnat0, ne_eq, not_true_eq_false, not_false_eq_true, eq_self, qbool]
        by_cases h9 : qic (M 306) o ≤ 9
        · simp [h9]
        · simp [h9]
      have hM : zcal zPP 100 272 [zA 305, zI o, zI w] (n, s, S, R, M) = some (zI (if qic (M 306) o ≤ 9 then 1 else 0), (n, s, S, R, M)) := by
        rw [c_M_ofOak]
        by_cases h9 : qic (M 306) o ≤ 9
        · simp (disch := omega) only [km_isOak hF hA, hv, km_inside hF (show o < 5 by omega), h9, qff hF, qltT, qltF, qleT, qleF, qeqT, qeqF, Int.reduceEq, Int.reduceNe, Int.reduceLT, Int.reduceLE, Int.reduceToNat, Int.reduceAdd, Int.reduceSub, Int.reduceMul, Int.reduceNeg, Nat.reduceAdd, Nat.reduceMul, Nat.reduceEqDiff, Nat.reduceLT, Int.cast_ofNat_Int, Int.lt_irrefl, ↓reduceIte, ↓reduceDIte, zbI, zbL, zbA, zbV, qrg, qrg2, qnn, qz, zup_at, zup_r, zup_ne, true_and, and_true, true_or, or_true, and_self, or_self, false_or, or_false, false_and, and_false, Int.toNat_natCast, Int.toNat_add, Int.toNat_mul, Int.toNat_zero, Int.toNat_one, qtn, Int.natCast_add, qnat1, qnat0, ne_eq, not_true_eq_false, not_false_eq_true, eq_self, qbool]
        · simp (disch := omega) only [km_isOak hF hA, hv, km_inside hF (show o < 5 by omega), h9, qff hF, qltT, qltF, qleT, qleF, qeqT, qeqF, Int.reduceEq, Int.reduceNe, Int.reduceLT, Int.reduceLE, Int.reduceToNat, Int.reduceAdd, Int.reduceSub, Int.reduceMul, Int.reduceNeg, Nat.reduceAdd, Nat.reduceMul, Nat.reduceEqDiff, Nat.reduceLT, Int.cast_ofNat_Int, Int.lt_irrefl, ↓reduceIte, ↓reduceDIte, zbI, zbL, zbA, zbV, qrg, qrg2, qnn, qz, zup_at, zup_r, zup_ne, true_and, and_true, true_or, or_true, and_self, or_self, false_or, or_false, false_and, and_false, Int.toNat_natCast, Int.toNat_add, Int.toNat_mul, Int.toNat_zero, Int.toNat_one, qtn, Int.natCast_add, qnat1, qnat0, ne_eq, not_true_eq_false, not_false_eq_true, eq_self, qbool]
      exact qBo_same hw hX hM
    · have hX : zcal zPP 100 44 [zA 9, zI o, zI w] (n, s, S, R, M) = some (zI (-1), (n, s, S, R, M)) := by
        rw [c_X_ofOak]
        simp (disch := omega) only [kx_hasOak hF hT hA, hv, qff hF, qltT, qltF, qleT, qleF, qeqT, qeqF, Int.reduceEq, Int.reduceNe, Int.reduceLT, Int.reduceLE, Int.reduceToNat, Int.reduceAdd, Int.reduceSub, Int.reduceMul, Int.reduceNeg, Nat.reduceAdd, Nat.reduceMul, Nat.reduceEqDiff, Nat.reduceLT, Int.cast_ofNat_Int, Int.lt_irrefl, ↓reduceIte, ↓reduceDIte, zbI, zbL, zbA, zbV, qrg, qrg2, qnn, qz, zup_at, zup_r, zup_ne, true_and, and_true, true_or, or_true, and_self, or_self, false_or, or_false, false_and, and_false, Int.toNat_natCast, Int.toNat_add, Int.toNat_mul, Int.toNat_zero, Int.toNat_one, qtn, Int.natCast_add, qnat1, qnat0, ne_eq, not_true_eq_false, not_false_eq_true, eq_self, qbool]
      have hM : zcal zPP 100 272 [zA 305, zI o, zI w] (n, s, S, R, M) = some (zI (-1), (n, s, S, R, M)) := by
        rw [c_M_ofOak]
        simp (disch := omega) only [km_isOak hF hA, hv, qff hF, qltT, qltF, qleT, qleF, qeqT, qeqF, Int.reduceEq, Int.reduceNe, Int.reduceLT, Int.reduceLE, Int.reduceToNat, Int.reduceAdd, Int.reduceSub, Int.reduceMul, Int.reduceNeg, Nat.reduceAdd, Nat.reduceMul, Nat.reduceEqDiff, Nat.reduceLT, Int.cast_ofNat_Int, Int.lt_irrefl, ↓reduceIte, ↓reduceDIte, zbI, zbL, zbA, zbV, qrg, qrg2, qnn, qz, zup_at, zup_r, zup_ne, true_and, and_true, true_or, or_true, and_self, or_self, false_or, or_false, false_and, and_false, Int.toNat_natCast, Int.toNat_add, Int.toNat_mul, Int.toNat_zero, Int.toNat_one, qtn, Int.natCast_add, qnat1, qnat0, ne_eq, not_true_eq_false, not_false_eq_true, eq_self, qbool]
      exact qBo_same hw hX hM
  · have hX : zcal zPP 100 44 [zA 9, zI v, zI w] (n, s, S, R, M) = some (zI (-1), (n, s, S, R, M)) := by
      rw [c_X_ofOak]
      simp only [qff hF, if_true, kx_hasOak hF hT hA, zbI, if_neg hv]
    have hM : zcal zPP 100 272 [zA 305, zI v, zI w] (n, s, S, R, M) = some (zI (-1), (n, s, S, R, M)) := by
      rw [c_M_ofOak]
      simp only [qff hF, if_true, km_isOak hF hA, zbI, if_neg hv]
    exact qBo_same hw hX hM
def qowe (A : Nat → Int) (p : Nat) : Nat → Int := qS fun o => qwor A (fun y => decide (A (11 + 24 * o + y) = 3 + p)) 24
theorem qowe_in {A : Nat → Int} (hA : qIn A) (p n : Nat) : 0 * (n : Int) ≤ qowe A p n ∧ qowe A p n ≤ 2376 * n := by
  refine ⟨qS_ge fun i _ => ?_, qS_le fun i _ => ?_⟩
  · have := (qwor_in hA (fun y => decide (A (11 + 24 * i + y) = 3 + p)) (Nat.le_refl 24)).1; omega
  · have := (qwor_in hA (fun y => decide (A (11 + 24 * i + y) = 3 + p)) (Nat.le_refl 24)).2; omega
theorem qwk_in {A : Nat → Int} (hA : qIn A) (f : Nat → Bool) {n : Nat} (hn : n ≤ 4) : 0 * (n : Int) ≤ qwk A f 24 n ∧ qwk A f 24 n ≤ 2376 * n := by
  have h : ∀ k, k < n → 0 ≤ A (170 + k) * (zct (fun y => f y && decide (A (136 + y) = k)) 24 : Nat) ∧ A (170 + k) * (zct (fun y => f y && decide (A (136 + y) = k)) 24 : Nat) ≤ 2376 := fun k hk => by
    have hp := hA.2.2.2.2.2.2.2.2.2.2.2.2.2.2.2.2.2.1 k (by omega)
    have hz := zct_le (fun y => f y && decide (A (136 + y) = k)) 24
    refine ⟨Int.mul_nonneg hp.1 (by omega), ?_⟩
    have := Int.mul_le_mul hp.2 (show ((zct (fun y => f y && decide (A (136 + y) = k)) 24 : Nat) : Int) ≤ 24 by omega) (by omega) (by decide)
    omega
  exact ⟨qS_ge fun i hi => (h i hi).1, qS_le fun i hi => (h i hi).2⟩
theorem qb_owed (hw : qWd n S R M W) (v : Int) : qBo 71 319 [zI v] n s S R M := by
  have hA := hw.2.1.2.2.2
  have hF := hw.1.2.1
  have hT := hw.2.1.1
  have hg : qRg M 21 (qg (M 306)) := hw.2.1.2.1.1
  have ha5 := hA.1.2
  have hp5 := hA.2.1.2
  obtain ⟨a, ha⟩ := Int.eq_ofNat_of_zero_le hA.1.1
  by_cases hv : 0 ≤ v ∧ v < M 306 1
  · obtain ⟨p, rfl⟩ := Int.eq_ofNat_of_zero_le hv.1
    have LX2 : ∀ o, o < a → ∀ g5 : zV, ∃ g : zV, True ∧ zR zPP 99 71 18 [zA 9, zI p, zI (qowe (M 306) p o), zI o, zI 0, g5] [] (n, s, S, R, M) = zR zPP 99 71 18 [zA 9, zI p, zI (qowe (M 306) p (o + 1)), zI o, zI 4, g] [] (n, s, S, R, M) := by
      intro o ho g5
      have hb := qowe_in hA p o
      have hlent : M 22 (5 * o + p) = (zsn (fun y => decide (M 306 (11 + 24 * o + y) = 3 + p)) 24 : Nat) := by
        rw [show M 22 (5 * o + p) = _ from hg.1 o p (by omega) (by omega)]
        refine congrArg (fun x : Nat => (x : Int)) (zsn_cong fun y hy => ?_)
        rw [qg_in (by omega)]
      have := qlpE (E := fun _ : zV => True) (P := fun k g => zR zPP 99 71 18 [zA 9, zI p, zI (qowe (M 306) p o + qwk (M 306) (fun y => decide (M 306 (11 + 24 * o + y) = 3 + p)) 24 k), zI o, zI (k : Nat), g] [] (n, s, S, R, M)) (N := 4) (fun k g hk _ => by
        have hk2 : 2 ^ k < 16 := Nat.pow_lt_pow_right (n := 4) (by decide) hk
        have hpr := hT.2.2.2.2.2.2.2.1 k hk
        have b1 := qwk_in hA (fun y => decide (M 306 (11 + 24 * o + y) = 3 + p)) (n := k) (by omega)
        have b2 := qwk_in hA (fun y => decide (M 306 (11 + 24 * o + y) = 3 + p)) (n := k + 1) (by omega)
        have hpk := hA.2.2.2.2.2.2.2.2.2.2.2.2.2.2.2.2.2.1 k (by omega)
        have es : qwk (M 306) (fun y => decide (M 306 (11 + 24 * o + y) = 3 + p)) 24 (k + 1) = qwk (M 306) (fun y => decide (M 306 (11 + 24 * o + y) = 3 + p)) 24 k + M 306 (170 + k) * (zct (fun y => decide (M 306 (11 + 24 * o + y) = 3 + p) && decide (M 306 (136 + y) = k)) 24 : Nat) := rfl
        have ez : zct (fun y => decide (M 306 (11 + 24 * o + y) = 3 + p) && qyk (M 306) (2 ^ k) y) 24 = zct (fun y => decide (M 306 (11 + 24 * o + y) = 3 + p) && decide (M 306 (136 + y) = k)) 24 := zct_cong fun y hy => by rw [qyk_one hA hy]
        have hz := zct_le (fun y => decide (M 306 (11 + 24 * o + y) = 3 + p) && decide (M 306 (136 + y) = k)) 24
        generalize hzz : zct (fun y => decide (M 306 (11 + 24 * o + y) = 3 + p) && decide (M 306 (136 + y) = k)) 24 = z at *
        have hm1 : 0 ≤ M 306 (170 + k) * (z : Int) := Int.mul_nonneg hpk.1 (by omega)
        have hm2 : M 306 (170 + k) * (z : Int) ≤ 99 * 24 := Int.mul_le_mul hpk.2 (by omega) (by omega) (by decide)
        refine ⟨zI (zsn (fun y => decide (M 306 (11 + 24 * o + y) = 3 + p) && qyk (M 306) (2 ^ k) y) 24 : Nat), trivial, ?_⟩
        show zR _ _ _ _ _ _ _ = zR _ _ _ _ _ _ _
        rw [e_X_owed_18, es]
        simp (disch := omega) only [k_with hF.1.2.1.1.2.2.1 (show o < 5 by omega) (show p < 5 by omega), hlent, zshl_one (show k < 31 by omega), kx_yearsOfKinds hF hT hA hk2, zsn_and24, k_bitCount, hpr, ez, qff hF, qltT, qltF, qleT, qleF, qeqT, qeqF, Int.reduceEq, Int.reduceNe, Int.reduceLT, Int.reduceLE, Int.reduceToNat, Int.reduceAdd, Int.reduceSub, Int.reduceMul, Int.reduceNeg, Nat.reduceAdd, Nat.reduceMul, Nat.reduceEqDiff, Nat.reduceLT, Int.cast_ofNat_Int, Int.lt_irrefl, ↓reduceIte, ↓reduceDIte, zbI, zbL, zbA, zbV, qrg, qrg2, qnn, qz, zup_at, zup_r, zup_ne, true_and, and_true, true_or, or_true, and_self, or_self, false_or, or_false, false_and, and_false, Int.toNat_natCast, Int.toNat_add, Int.toNat_mul, Int.toNat_zero, Int.toNat_one, qtn, Int.natCast_add, qnat1, qnat0, ne_eq, not_true_eq_false, not_false_eq_true, eq_self, qbool]
        rw [Int.add_assoc]) g5 trivial
      obtain ⟨g, -, h⟩ := this
      refine ⟨g, trivial, ?_⟩
      have e0 : qowe (M 306) p o + qwk (M 306) (fun y => decide (M 306 (11 + 24 * o + y) = 3 + p)) 24 0 = qowe (M 306) p o := Int.add_zero _
      have e4 : qowe (M 306) p o + qwk (M 306) (fun y => decide (M 306 (11 + 24 * o + y) = 3 + p)) 24 4 = qowe (M 306) p (o + 1) := by rw [qwk_eq hA _ 24 (Nat.le_refl _)]; rfl
      simp only [e0, e4] at h
      exact h
    have LX := qlpE (E := fun _ : zV × zV => True) (P := fun o g => zR zPP 99 71 11 [zA 9, zI p, zI (qowe (M 306) p o), zI (o : Nat), g.1, g.2] [] (n, s, S, R, M)) (N := a) (fun o g ho _ => by
      obtain ⟨g', -, h⟩ := LX2 o ho g.2
      refine ⟨(zI 4, g'), trivial, ?_⟩
      show zR _ _ _ _ _ _ _ = zR _ _ _ _ _ _ _
      rw [e_X_owed_11]
      simp (disch := omega) only [qtw hT, ha, qff hF, qltT, qltF, qleT, qleF, qeqT, qeqF, Int.reduceEq, Int.reduceNe, Int.reduceLT, Int.reduceLE, Int.reduceToNat, Int.reduceAdd, Int.reduceSub, Int.reduceMul, Int.reduceNeg, Nat.reduceAdd, Nat.reduceMul, Nat.reduceEqDiff, Nat.reduceLT, Int.cast_ofNat_Int, Int.lt_irrefl, ↓reduceIte, ↓reduceDIte, zbI, zbL, zbA, zbV, qrg, qrg2, qnn, qz, zup_at, zup_r, zup_ne, true_and, and_true, true_or, or_true, and_self, or_self, false_or, or_false, false_and, and_false, Int.toNat_natCast, Int.toNat_add, Int.toNat_mul, Int.toNat_zero, Int.toNat_one, qtn, Int.natCast_add, qnat1, qnat0, ne_eq, not_true_eq_false, not_false_eq_true, eq_self, qbool]
      rw [h, e_X_owed_18]
      simp (disch := omega) only [qff hF, qltT, qltF, qleT, qleF, qeqT, qeqF, Int.reduceEq, Int.reduceNe, Int.reduceLT, Int.reduceLE, Int.reduceToNat, Int.reduceAdd, Int.reduceSub, Int.reduceMul, Int.reduceNeg, Nat.reduceAdd, Nat.reduceMul, Nat.reduceEqDiff, Nat.reduceLT, Int.cast_ofNat_Int, Int.lt_irrefl, ↓reduceIte, ↓reduceDIte, zbI, zbL, zbA, zbV, qrg, qrg2, qnn, qz, zup_at, zup_r, zup_ne, true_and, and_true, true_or, or_true, and_self, or_self, false_or, or_false, false_and, and_false, Int.toNat_natCast, Int.toNat_add, Int.toNat_mul, Int.toNat_zero, Int.toNat_one, qtn, Int.natCast_add, qnat1, qnat0, ne_eq, not_true_eq_false, not_false_eq_true, eq_self, qbool]) (zU, zU) trivial
    obtain ⟨g, -, LX⟩ := LX
    have hX : zcal zPP 100 71 [zA 9, zI p] (n, s, S, R, M) = some (zI (qowe (M 306) p a), (n, s, S, R, M)) := by
      rw [c_X_owed]
      simp (disch := omega) only [kx_hasPerson hF hT hA, hv, qff hF, qltT, qltF, qleT, qleF, qeqT, qeqF, Int.reduceEq, Int.reduceNe, Int.reduceLT, Int.reduceLE, Int.reduceToNat, Int.reduceAdd, Int.reduceSub, Int.reduceMul, Int.reduceNeg, Nat.reduceAdd, Nat.reduceMul, Nat.reduceEqDiff, Nat.reduceLT, Int.cast_ofNat_Int, Int.lt_irrefl, ↓reduceIte, ↓reduceDIte, zbI, zbL, zbA, zbV, qrg, qrg2, qnn, qz, zup_at, zup_r, zup_ne, true_and, and_true, true_or, or_true, and_self, or_self, false_or, or_false, false_and, and_false, Int.toNat_natCast, Int.toNat_add, Int.toNat_mul, Int.toNat_zero, Int.toNat_one, qtn, Int.natCast_add, qnat1, qnat0, ne_eq, not_true_eq_false, not_false_eq_true, eq_self, qbool]
      refine Eq.trans LX ?_
      rw [e_X_owed_11]
      simp (disch := omega) only [qtw hT, ha, qff hF, qltT, qltF, qleT, qleF, qeqT, qeqF, Int.reduceEq, Int.reduceNe, Int.reduceLT, Int.reduceLE, Int.reduceToNat, Int.reduceAdd, Int.reduceSub, Int.reduceMul, Int.reduceNeg, Nat.reduceAdd, Nat.reduceMul, Nat.reduceEqDiff, Nat.reduceLT, Int.cast_ofNat_Int, Int.lt_irrefl, ↓reduceIte, ↓reduceDIte, zbI, zbL, zbA, zbV, qrg, qrg2, qnn, qz, zup_at, zup_r, zup_ne, true_and, and_true, true_or, or_true, and_self, or_self, false_or, or_false, false_and, and_false, Int.toNat_natCast, Int.toNat_add, Int.toNat_mul, Int.toNat_zero, Int.toNat_one, qtn, Int.natCast_add, qnat1, qnat0, ne_eq, not_true_eq_false, not_false_eq_true, eq_self, qbool]
    have LM2 : ∀ o, o < a → zR zPP 99 319 18 [zA 305, zI p, zI (qowe (M 306) p o), zI o, zI 0] [] (n, s, S, R, M) = zR zPP 99 319 18 [zA 305, zI p, zI (qowe (M 306) p (o + 1)), zI o, zI ((24 : Nat) : Int)] [] (n, s, S, R, M) := by
      intro o ho
      have hb := qowe_in hA p o
      have := qlp (P := fun y => zR zPP 99 319 18 [zA 305, zI p, zI (qowe (M 306) p o + qwor (M 306) (fun y => decide (M 306 (11 + 24 * o + y) = 3 + p)) y), zI o, zI (y : Nat)] [] (n, s, S, R, M)) (N := 24) (fun y hy => by
        have b1 := qwor_in hA (fun y => decide (M 306 (11 + 24 * o + y) = 3 + p)) (n := y) (by omega)
        have hk := hA.2.2.2.2.2.2.2.2.2.2.2.2.1 y hy
        obtain ⟨k, hk2⟩ := Int.eq_ofNat_of_zero_le hk.1
        have hpk := hA.2.2.2.2.2.2.2.2.2.2.2.2.2.2.2.2.2.1 k (by omega)
        have es : qwor (M 306) (fun y => decide (M 306 (11 + 24 * o + y) = 3 + p)) (y + 1) = qwor (M 306) (fun y => decide (M 306 (11 + 24 * o + y) = 3 + p)) y + (if decide (M 306 (11 + 24 * o + y) = 3 + p) = true then M 306 (170 + (M 306 (136 + y)).toNat) else 0) := rfl
        show zR _ _ _ _ _ _ _ = zR _ _ _ _ _ _ _
        rw [e_M_owed_18, es]
        by_cases hc : M 306 (11 + 24 * o + y) = 3 + p
        · rw [if_pos (decide_eq_true hc)]
          simp (disch := omega) only [km_get hF (show o < 5 by omega) hy, hc, hk2, qff hF, qltT, qltF, qleT, qleF, qeqT, qeqF, Int.reduceEq, Int.reduceNe, Int.reduceLT, Int.reduceLE, Int.reduceToNat, Int.reduceAdd, Int.reduceSub, Int.reduceMul, Int.reduceNeg, Nat.reduceAdd, Nat.reduceMul, Nat.reduceEqDiff, Nat.reduceLT, Int.cast_ofNat_Int, Int.lt_irrefl, ↓reduceIte, ↓reduceDIte, zbI, zbL, zbA, zbV, qrg, qrg2, qnn, qz, zup_at, zup_r, zup_ne, true_and, and_true, true_or, or_true, and_self, or_self, false_or, or_false, false_and, and_false, Int.toNat_natCast, Int.toNat_add, Int.toNat_mul, Int.toNat_zero, Int.toNat_one, qtn, Int.natCast_add, qnat1, qnat0, ne_eq, not_true_eq_false, not_false_eq_true, eq_self, qbool]
          rw [Int.add_assoc]
        · rw [if_neg (fun z => hc (of_decide_eq_true z))]
          simp (disch := omega) only [km_get hF (show o < 5 by omega) hy, hc, Int.add_zero, qff hF, qltT, qltF, qleT, qleF, qeqT, qeqF, Int.reduceEq, Int.reduceNe, Int.reduceLT, Int.reduceLE, Int.reduceToNat, Int.reduceAdd, Int.reduceSub, Int.reduceMul, Int.reduceNeg, Nat.reduceAdd, Nat.reduceMul, Nat.reduceEqDiff, Nat.reduceLT, Int.cast_ofNat_Int, Int.lt_irrefl, ↓reduceIte, ↓reduceDIte, zbI, zbL, zbA, zbV, qrg, qrg2, qnn, qz, zup_at, zup_r, zup_ne, true_and, and_true, true_or, or_true, and_self, or_self, false_or, or_false, false_and, and_false, Int.toNat_natCast, Int.toNat_add, Int.toNat_mul, Int.toNat_zero, Int.toNat_one, qtn, Int.natCast_add, qnat1, qnat0, ne_eq, not_true_eq_false, not_false_eq_true, eq_self, qbool])
      refine Eq.trans ?_ (this.trans ?_)
      · show _ = zR zPP 99 319 18 [zA 305, zI p, zI (qowe (M 306) p o + 0), zI o, zI ((0 : Nat) : Int)] [] (n, s, S, R, M)
        rw [Int.add_zero]
        rfl
      · rfl
    have LM : ∀ (j o : Nat) (g : zV), o + j = a → zR zPP 99 319 10 [zA 305, zI p, zI (qowe (M 306) p o), zI o, g] [] (n, s, S, R, M) = some (zI (qowe (M 306) p a), (n, s, S, R, M)) := by
      intro j
      induction j with
      | zero =>
        intro o g ho
        rw [e_M_owed_10]
        simp (disch := omega) only [ha, qff hF, qltT, qltF, qleT, qleF, qeqT, qeqF, Int.reduceEq, Int.reduceNe, Int.reduceLT, Int.reduceLE, Int.reduceToNat, Int.reduceAdd, Int.reduceSub, Int.reduceMul, Int.reduceNeg, Nat.reduceAdd, Nat.reduceMul, Nat.reduceEqDiff, Nat.reduceLT, Int.cast_ofNat_Int, Int.lt_irrefl, ↓reduceIte, ↓reduceDIte, zbI, zbL, zbA, zbV, qrg, qrg2, qnn, qz, zup_at, zup_r, zup_ne, true_and, and_true, true_or, or_true, and_self, or_self, false_or, or_false, false_and, and_false, Int.toNat_natCast, Int.toNat_add, Int.toNat_mul, Int.toNat_zero, Int.toNat_one, qtn, Int.natCast_add, qnat1, qnat0, ne_eq, not_true_eq_false, not_false_eq_true, eq_self, qbool]
        rw [show o = a by omega]
      | succ j ih =>
        intro o g ho
        rw [e_M_owed_10]
        simp (disch := omega) only [ha, qff hF, qltT, qltF, qleT, qleF, qeqT, qeqF, Int.reduceEq, Int.reduceNe, Int.reduceLT, Int.reduceLE, Int.reduceToNat, Int.reduceAdd, Int.reduceSub, Int.reduceMul, Int.reduceNeg, Nat.reduceAdd, Nat.reduceMul, Nat.reduceEqDiff, Nat.reduceLT, Int.cast_ofNat_Int, Int.lt_irrefl, ↓reduceIte, ↓reduceDIte, zbI, zbL, zbA, zbV, qrg, qrg2, qnn, qz, zup_at, zup_r, zup_ne, true_and, and_true, true_or, or_true, and_self, or_self, false_or, or_false, false_and, and_false, Int.toNat_natCast, Int.toNat_add, Int.toNat_mul, Int.toNat_zero, Int.toNat_one, qtn, Int.natCast_add, qnat1, qnat0, ne_eq, not_true_eq_false, not_false_eq_true, eq_self, qbool]
        rw [LM2 o (by omega), e_M_owed_18]
        simp (disch := omega) only [qff hF, qltT, qltF, qleT, qleF, qeqT, qeqF, Int.reduceEq, Int.reduceNe, Int.reduceLT, Int.reduceLE, Int.reduceToNat, Int.reduceAdd, Int.reduceSub, Int.reduceMul, Int.reduceNeg, Nat.reduceAdd, Nat.reduceMul, Nat.reduceEqDiff, Nat.reduceLT, Int.cast_ofNat_Int, Int.lt_irrefl, ↓reduceIte, ↓reduceDIte, zbI, zbL, zbA, zbV, qrg, qrg2, qnn, qz, zup_at, zup_r, zup_ne, true_and, and_true, true_or, or_true, and_self, or_self, false_or, or_false, false_and, and_false, Int.toNat_natCast, Int.toNat_add, Int.toNat_mul, Int.toNat_zero, Int.toNat_one, qtn, Int.natCast_add, qnat1, qnat0, ne_eq, not_true_eq_false, not_false_eq_true, eq_self, qbool]
        exact ih (o + 1) _ (by omega)
    have hM : zcal zPP 100 319 [zA 305, zI p] (n, s, S, R, M) = some (zI (qowe (M 306) p a), (n, s, S, R, M)) := by
      rw [c_M_owed]
      simp (disch := omega) only [km_isPerson hF hA, hv, qff hF, qltT, qltF, qleT, qleF, qeqT, qeqF, Int.reduceEq, Int.reduceNe, Int.reduceLT, Int.reduceLE, Int.reduceToNat, Int.reduceAdd, Int.reduceSub, Int.reduceMul, Int.reduceNeg, Nat.reduceAdd, Nat.reduceMul, Nat.reduceEqDiff, Nat.reduceLT, Int.cast_ofNat_Int, Int.lt_irrefl, ↓reduceIte, ↓reduceDIte, zbI, zbL, zbA, zbV, qrg, qrg2, qnn, qz, zup_at, zup_r, zup_ne, true_and, and_true, true_or, or_true, and_self, or_self, false_or, or_false, false_and, and_false, Int.toNat_natCast, Int.toNat_add, Int.toNat_mul, Int.toNat_zero, Int.toNat_one, qtn, Int.natCast_add, qnat1, qnat0, ne_eq, not_true_eq_false, not_false_eq_true, eq_self, qbool]
      exact LM a 0 zU (by omega)
    exact qBo_same hw hX hM
  · have hX : zcal zPP 100 71 [zA 9, zI v] (n, s, S, R, M) = some (zI (-1), (n, s, S, R, M)) := by
      rw [c_X_owed]
      simp only [qff hF, if_true, kx_hasPerson hF hT hA, zbI, if_neg hv]
    have hM : zcal zPP 100 319 [zA 305, zI v] (n, s, S, R, M) = some (zI (-1), (n, s, S, R, M)) := by
      rw [c_M_owed]
      simp only [qff hF, if_true, km_isPerson hF hA, zbI, if_neg hv]
    exact qBo_same hw hX hM
end QF
