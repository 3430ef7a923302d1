/-! run, book, ledger, owed, ofOak: both sides -/
/-- the longest, its start, the length at hand, behind n years -/
def qrun (f : Nat → Bool) : Nat → Int × Int × Int
  | 0 => (0, -1, 0)
  | n + 1 => if f n = true then (if (qrun f n).1 < (qrun f n).2.2 + 1 then ((qrun f n).2.2 + 1, (n : Int) - ((qrun f n).2.2 + 1) + 1, (qrun f n).2.2 + 1) else ((qrun f n).1, (qrun f n).2.1, (qrun f n).2.2 + 1)) else ((qrun f n).1, (qrun f n).2.1, 0)
theorem qrun_in (f : Nat → Bool) : ∀ n, 0 ≤ (qrun f n).1 ∧ 0 ≤ (qrun f n).2.2 ∧ (qrun f n).2.2 ≤ n
  | 0 => ⟨Int.le_refl _, Int.le_refl _, Int.le_refl _⟩
  | n + 1 => by
    obtain ⟨h1, h2, h3⟩ := qrun_in f n
    show 0 ≤ (if f n = true then _ else _ : Int × Int × Int).1 ∧ 0 ≤ (if f n = true then _ else _ : Int × Int × Int).2.2 ∧ (if f n = true then _ else _ : Int × Int × Int).2.2 ≤ _
    split
    · split
      · exact ⟨by show 0 ≤ (qrun f n).2.2 + 1; omega, by show 0 ≤ (qrun f n).2.2 + 1; omega, by show (qrun f n).2.2 + 1 ≤ ((n + 1 : Nat) : Int); omega⟩
      · exact ⟨h1, by show 0 ≤ (qrun f n).2.2 + 1; omega, by show (qrun f n).2.2 + 1 ≤ ((n + 1 : Nat) : Int); omega⟩
    · exact ⟨h1, Int.le_refl _, by show (0 : Int) ≤ ((n + 1 : Nat) : Int); omega⟩
def qinf (A : Nat → Int) (o : Nat) : Nat → Bool := fun y => decide (A (11 + 24 * o + y) = 1)
def qpe (A : Nat → Int) (i : Nat) (w : Int) : Int := if w = 0 then (A (4850 + i)).tdiv 600 else if w = 1 then ((A (4850 + i)).tdiv 120).tmod 5 else if w = 2 then ((A (4850 + i)).tdiv 24).tmod 5 else (A (4850 + i)).tmod 24
theorem qPg_val {v u : Int} (h : qPg v u) : (v.tdiv 2048 = u.tdiv 600 ∧ (v.tdiv 256).tmod 8 = (u.tdiv 120).tmod 5 ∧ (v.tdiv 32).tmod 8 = (u.tdiv 24).tmod 5 ∧ v.tmod 32 = u.tmod 24) ∧ (0 ≤ u ∧ u < 6000000) ∧ 0 ≤ v ∧ v < 20480000 := by
  obtain ⟨dd, p, o, y, h1, h2, h3, h4, rfl, rfl⟩ := h
  have t : ∀ a b : Nat, ((a : Int)).tdiv (b : Int) = ((a / b : Nat) : Int) := fun a b => rfl
  have m : ∀ a b : Nat, ((a : Int)).tmod (b : Int) = ((a % b : Nat) : Int) := fun a b => rfl
  have z1 : (dd * 8 + p) % 8 = p := by omega
  have z2 : (dd * 5 + p) % 5 = p := by omega
  have z3 : ((dd * 8 + p) * 8 + o) % 8 = o := by omega
  have z4 : ((dd * 5 + p) * 5 + o) % 5 = o := by omega
  have x1 : (((dd * 8 + p) * 8 + o) * 32 + y) / 2048 = dd := by omega
  have x2 : (((dd * 8 + p) * 8 + o) * 32 + y) / 256 = dd * 8 + p := by omega
  have x3 : (((dd * 8 + p) * 8 + o) * 32 + y) / 32 = (dd * 8 + p) * 8 + o := by omega
  have y1 : (((dd * 5 + p) * 5 + o) * 24 + y) / 600 = dd := by omega
  have y2 : (((dd * 5 + p) * 5 + o) * 24 + y) / 120 = dd * 5 + p := by omega
  have y3 : (((dd * 5 + p) * 5 + o) * 24 + y) / 24 = (dd * 5 + p) * 5 + o := by omega
  refine ⟨⟨?_, ?_, ?_, ?_⟩, by omega, by omega⟩
  · rw [show (2048 : Int) = ((2048 : Nat) : Int) from rfl, show (600 : Int) = ((600 : Nat) : Int) from rfl, t, t, x1, y1]
  · rw [show (256 : Int) = ((256 : Nat) : Int) from rfl, show (8 : Int) = ((8 : Nat) : Int) from rfl, show (120 : Int) = ((120 : Nat) : Int) from rfl, show (5 : Int) = ((5 : Nat) : Int) from rfl, t, t, m, m, x2, y2, z1, z2]
  · rw [show (32 : Int) = ((32 : Nat) : Int) from rfl, show (8 : Int) = ((8 : Nat) : Int) from rfl, show (24 : Int) = ((24 : Nat) : Int) from rfl, show (5 : Int) = ((5 : Nat) : Int) from rfl, t, t, m, m, x3, y3, z3, z4]
  · rw [show (32 : Int) = ((32 : Nat) : Int) from rfl, show (24 : Int) = ((24 : Nat) : Int) from rfl, m, m]
    omega
theorem qtd {x k : Int} (h0 : 0 ≤ x) (h1 : x < 2147483648) (hk : 0 < k) : zw32 (x.tdiv k) = x.tdiv k := by
  have h2 : (x.tdiv k).natAbs = x.natAbs / k.natAbs := Int.natAbs_tdiv x k
  have h3 : x.natAbs / k.natAbs ≤ x.natAbs := Nat.div_le_self _ _
  exact qz (by omega) (by omega)
section QF
variable {S : Nat → Nat × Nat} {R : Nat → Nat → Nat} {M M' : Nat → Nat → Int} {n s d : Nat} {A : Nat → Int} {W : Nat → qWt}
theorem qb_run (hw : qWd n S R M W) (v w : Int) : qBo 67 313 [zI v, zI w] n s S R M := by
  have hA := hw.2.1.2.2.2
  have hF := hw.1.2.1
  have hT := hw.2.1.1
  have hg := hw.2.1.2.1.1
  have ha5 := hA.1.2
  by_cases hv : 0 ≤ v ∧ v < M 306 0
  · obtain ⟨o, rfl⟩ := Int.eq_ofNat_of_zero_le hv.1
    have LX := qlp (P := fun i => zR zPP 99 67 23 [zA 9, zI o, zI w, zI (qin (M 306) o : Nat), zI (qrun (qinf (M 306) o) i).1, zI (qrun (qinf (M 306) o) i).2.1, zI (qrun (qinf (M 306) o) i).2.2, zI i] [] (n, s, S, R, M)) (N := 24) (fun i hi => by
      obtain ⟨h1, h2, h3⟩ := qrun_in (qinf (M 306) o) i
      show zR _ _ _ _ _ _ _ = zR _ _ _ _ _ _ _
      rw [e_X_run_23, qin, zsn_bit24 _ hi]
      have es : qrun (qinf (M 306) o) (i + 1) = if qinf (M 306) o i = true then (if (qrun (qinf (M 306) o) i).1 < (qrun (qinf (M 306) o) i).2.2 + 1 then ((qrun (qinf (M 306) o) i).2.2 + 1, (i : Int) - ((qrun (qinf (M 306) o) i).2.2 + 1) + 1, (qrun (qinf (M 306) o) i).2.2 + 1) else ((qrun (qinf (M 306) o) i).1, (qrun (qinf (M 306) o) i).2.1, (qrun (qinf (M 306) o) i).2.2 + 1)) else ((qrun (qinf (M 306) o) i).1, (qrun (qinf (M 306) o) i).2.1, 0) := rfl
      rw [es]
      by_cases hq : qinf (M 306) o i = true
      · rw [if_pos hq, if_pos (show decide (M 306 (11 + 24 * o + i) = 1) = true from hq)]
        by_cases hl : (qrun (qinf (M 306) o) i).1 < (qrun (qinf (M 306) o) i).2.2 + 1
        · simp (disch := omega) only [qff hF, qltT, qltF, qleT, qleF, qeqT, qeqF, Int.reduceEq, Int.reduceNe, Int.reduceLT, Int.reduceLE, Int.reduceToNat, Int.reduceAdd, Int.reduceSub, Int.reduceMul, Int.reduceNeg, Nat.reduceAdd, Nat.reduceMul, Nat.reduceEqDiff, Nat.reduceLT, Int.cast_ofNat_Int, Int.lt_irrefl, ↓reduceIte, ↓reduceDIte, zbI, zbL, zbA, zbV, qrg, qrg2, qnn, qz, zup_at, zup_r, zup_ne, true_and, and_true, true_or, or_true, and_self, or_self, false_or, or_false, false_and, and_false, Int.toNat_natCast, Int.toNat_add, Int.toNat_mul, Int.toNat_zero, Int.toNat_one, qtn, Int.natCast_add, qnat1, qnat0, ne_eq, not_true_eq_false, not_false_eq_true, eq_self, qbool]
        · simp (disch := omega) only [qff hF, qltT, qltF, qleT, qleF, qeqT, qeqF, Int.reduceEq, Int.reduceNe, Int.reduceLT, Int.reduceLE, Int.reduceToNat, Int.reduceAdd, Int.reduceSub, Int.reduceMul, Int.reduceNeg, Nat.reduceAdd, Nat.reduceMul, Nat.reduceEqDiff, Nat.reduceLT, Int.cast_ofNat_Int, Int.lt_irrefl, ↓reduceIte, ↓reduceDIte, zbI, zbL, zbA, zbV, qrg, qrg2, qnn, qz, zup_at, zup_r, zup_ne, true_and, and_true, true_or, or_true, and_self, or_self, false_or, or_false, false_and, and_false, Int.toNat_natCast, Int.toNat_add, Int.toNat_mul, Int.toNat_zero, Int.toNat_one, qtn, Int.natCast_add, qnat1, qnat0, ne_eq, not_true_eq_false, not_false_eq_true, eq_self, qbool]
      · rw [if_neg hq, if_neg (show ¬ decide (M 306 (11 + 24 * o + i) = 1) = true from hq)]
        simp (disch := omega) only [qff hF, qltT, qltF, qleT, qleF, qeqT, qeqF, Int.reduceEq, Int.reduceNe, Int.reduceLT, Int.reduceLE, Int.reduceToNat, Int.reduceAdd, Int.reduceSub, Int.reduceMul, Int.reduceNeg, Nat.reduceAdd, Nat.reduceMul, Nat.reduceEqDiff, Nat.reduceLT, Int.cast_ofNat_Int, Int.lt_irrefl, ↓reduceIte, ↓reduceDIte, zbI, zbL, zbA, zbV, qrg, qrg2, qnn, qz, zup_at, zup_r, zup_ne, true_and, and_true, true_or, or_true, and_self, or_self, false_or, or_false, false_and, and_false, Int.toNat_natCast, Int.toNat_add, Int.toNat_mul, Int.toNat_zero, Int.toNat_one, qtn, Int.natCast_add, qnat1, qnat0, ne_eq, not_true_eq_false, not_false_eq_true, eq_self, qbool])
    have LM := qlp (P := fun i => zR zPP 99 313 14 [zA 305, zI o, zI w, zI (qrun (qinf (M 306) o) i).1, zI (qrun (qinf (M 306) o) i).2.1, zI (qrun (qinf (M 306) o) i).2.2, zI i] [] (n, s, S, R, M)) (N := 24) (fun i hi => by
      obtain ⟨h1, h2, h3⟩ := qrun_in (qinf (M 306) o) i
      show zR _ _ _ _ _ _ _ = zR _ _ _ _ _ _ _
      rw [e_M_run_14]
      have es : qrun (qinf (M 306) o) (i + 1) = if qinf (M 306) o i = true then (if (qrun (qinf (M 306) o) i).1 < (qrun (qinf (M 306) o) i).2.2 + 1 then ((qrun (qinf (M 306) o) i).2.2 + 1, (i : Int) - ((qrun (qinf (M 306) o) i).2.2 + 1) + 1, (qrun (qinf (M 306) o) i).2.2 + 1) else ((qrun (qinf (M 306) o) i).1, (qrun (qinf (M 306) o) i).2.1, (qrun (qinf (M 306) o) i).2.2 + 1)) else ((qrun (qinf (M 306) o) i).1, (qrun (qinf (M 306) o) i).2.1, 0) := rfl
      rw [es]
      by_cases hq : M 306 (11 + 24 * o + i) = 1
      · rw [if_pos (show qinf (M 306) o i = true from decide_eq_true hq)]
        by_cases hl : (qrun (qinf (M 306) o) i).1 < (qrun (qinf (M 306) o) i).2.2 + 1
        · simp (disch := omega) only [km_get hF (show o < 5 by omega) hi, hq, qff hF, qltT, qltF, qleT, qleF, qeqT, qeqF, Int.reduceEq, Int.reduceNe, Int.reduceLT, Int.reduceLE, Int.reduceToNat, Int.reduceAdd, Int.reduceSub, Int.reduceMul, Int.reduceNeg, Nat.reduceAdd, Nat.reduceMul, Nat.reduceEqDiff, Nat.reduceLT, Int.cast_ofNat_Int, Int.lt_irrefl, ↓reduceIte, ↓reduceDIte, zbI, zbL, zbA, zbV, qrg, qrg2, qnn, qz, zup_at, zup_r, zup_ne, true_and, and_true, true_or, or_true, and_self, or_self, false_or, or_false, false_and, and_false, Int.toNat_natCast, Int.toNat_add, Int.toNat_mul, Int.toNat_zero, Int.toNat_one, qtn, Int.natCast_add, qnat1, qnat0, ne_eq, not_true_eq_false, not_false_eq_true, eq_self, qbool]
        · simp (disch := omega) only [km_get hF (show o < 5 by omega) hi, hq, qff hF, qltT, qltF, qleT, qleF, qeqT, qeqF, Int.reduceEq, Int.reduceNe, Int.reduceLT, Int.reduceLE, Int.reduceToNat, Int.reduceAdd, Int.reduceSub, Int.reduceMul, Int.reduceNeg, Nat.reduceAdd, Nat.reduceMul, Nat.reduceEqDiff, Nat.reduceLT, Int.cast_ofNat_Int, Int.lt_irrefl, ↓reduceIte, ↓reduceDIte, zbI, zbL, zbA, zbV, qrg, qrg2, qnn, qz, zup_at, zup_r, zup_ne, true_and, and_true, true_or, or_true, and_self, or_self, false_or, or_false, false_and, and_false, Int.toNat_natCast, Int.toNat_add, Int.toNat_mul, Int.toNat_zero, Int.toNat_one, qtn, Int.natCast_add, qnat1, qnat0, ne_eq, not_true_eq_false, not_false_eq_true, eq_self, qbool]
      · rw [if_neg (show ¬ qinf (M 306) o i = true from fun z => hq (of_decide_eq_true z))]
        simp (disch := omega) only [km_get hF (show o < 5 by omega) hi, hq, qff hF, qltT, qltF, qleT, qleF, qeqT, qeqF, Int.reduceEq, Int.reduceNe, Int.reduceLT, Int.reduceLE, Int.reduceToNat, Int.reduceAdd, Int.reduceSub, Int.reduceMul, Int.reduceNeg, Nat.reduceAdd, Nat.reduceMul, Nat.reduceEqDiff, Nat.reduceLT, Int.cast_ofNat_Int, Int.lt_irrefl, ↓reduceIte, ↓reduceDIte, zbI, zbL, zbA, zbV, qrg, qrg2, qnn, qz, zup_at, zup_r, zup_ne, true_and, and_true, true_or, or_true, and_self, or_self, false_or, or_false, false_and, and_false, Int.toNat_natCast, Int.toNat_add, Int.toNat_mul, Int.toNat_zero, Int.toNat_one, qtn, Int.natCast_add, qnat1, qnat0, ne_eq, not_true_eq_false, not_false_eq_true, eq_self, qbool])
    have hX : zcal zPP 100 67 [zA 9, zI o, zI w] (n, s, S, R, M) = some (zI (if w = 0 then (qrun (qinf (M 306) o) 24).1 else (qrun (qinf (M 306) o) 24).2.1), (n, s, S, R, M)) := by
      rw [c_X_run]
      simp (disch := omega) only [kx_hasOak hF hT hA, hv, kx_inOak hF hT hA hg hv.2, qff hF, qltT, qltF, qleT, qleF, qeqT, qeqF, Int.reduceEq, Int.reduceNe, Int.reduceLT, Int.reduceLE, Int.reduceToNat, Int.reduceAdd, Int.reduceSub, Int.reduceMul, Int.reduceNeg, Nat.reduceAdd, Nat.reduceMul, Nat.reduceEqDiff, Nat.reduceLT, Int.cast_ofNat_Int, Int.lt_irrefl, ↓reduceIte, ↓reduceDIte, zbI, zbL, zbA, zbV, qrg, qrg2, qnn, qz, zup_at, zup_r, zup_ne, true_and, and_true, true_or, or_true, and_self, or_self, false_or, or_false, false_and, and_false, Int.toNat_natCast, Int.toNat_add, Int.toNat_mul, Int.toNat_zero, Int.toNat_one, qtn, Int.natCast_add, qnat1, qnat0, ne_eq, not_true_eq_false, not_false_eq_true, eq_self, qbool]
      refine Eq.trans LX ?_
      show zR _ _ _ _ _ _ _ = _
      rw [e_X_run_23, if_neg (by decide)]
      by_cases h0 : w = 0
      · rw [if_pos h0, if_pos h0]
      · rw [if_neg h0, if_neg h0]
    have hM : zcal zPP 100 313 [zA 305, zI o, zI w] (n, s, S, R, M) = some (zI (if w = 0 then (qrun (qinf (M 306) o) 24).1 else (qrun (qinf (M 306) o) 24).2.1), (n, s, S, R, M)) := by
      rw [c_M_run]
      simp (disch := omega) only [km_isOak hF hA, hv, qff hF, qltT, qltF, qleT, qleF, qeqT, qeqF, Int.reduceEq, Int.reduceNe, Int.reduceLT, Int.reduceLE, Int.reduceToNat, Int.reduceAdd, Int.reduceSub, Int.reduceMul, Int.reduceNeg, Nat.reduceAdd, Nat.reduceMul, Nat.reduceEqDiff, Nat.reduceLT, Int.cast_ofNat_Int, Int.lt_irrefl, ↓reduceIte, ↓reduceDIte, zbI, zbL, zbA, zbV, qrg, qrg2, qnn, qz, zup_at, zup_r, zup_ne, true_and, and_true, true_or, or_true, and_self, or_self, false_or, or_false, false_and, and_false, Int.toNat_natCast, Int.toNat_add, Int.toNat_mul, Int.toNat_zero, Int.toNat_one, qtn, Int.natCast_add, qnat1, qnat0, ne_eq, not_true_eq_false, not_false_eq_true, eq_self, qbool]
      refine Eq.trans LM ?_
      show zR _ _ _ _ _ _ _ = _
      rw [e_M_run_14, if_neg (by decide)]
      by_cases h0 : w = 0
      · rw [if_pos h0, if_pos h0]
      · rw [if_neg h0, if_neg h0]
    exact qBo_same hw hX hM
  · have hX : zcal zPP 100 67 [zA 9, zI v, zI w] (n, s, S, R, M) = some (zI (-2), (n, s, S, R, M)) := by
      rw [c_X_run]
      simp only [qff hF, if_true, kx_hasOak hF hT hA, zbI, if_neg hv]
    have hM : zcal zPP 100 313 [zA 305, zI v, zI w] (n, s, S, R, M) = some (zI (-2), (n, s, S, R, M)) := by
      rw [c_M_run]
      simp only [qff hF, if_true, km_isOak hF hA, zbI, if_neg hv]
    exact qBo_same hw hX hM
theorem kx_page (hF : qFx S R) (hA : qIn A) (hr : qRs M 21 A) {i : Nat} (hi : (i : Int) < A 10) {w : Int} (hw : 0 ≤ w ∧ w ≤ 3) : zcal zPP (d + 1) 146 [zA 21, zI i, zI w] (n, s, S, R, M) = some (zI (qpe A i w), (n, s, S, R, M)) := by
  have h30 := hA.2.2.2.2.2.2.2.2.2.2.1
  have h3 : M 21 3 = A 10 := hr.2.1.1
  have hp : qPg (M 24 i) (A (4850 + i)) := hr.2.2 i hi
  obtain ⟨⟨p1, p2, p3, p4⟩, p5, p6⟩ := qPg_val hp
  have hw' : w = 0 ∨ w = 1 ∨ w = 2 ∨ w = 3 := by omega
  rcases hw' with h | h | h | h <;> subst h
  · rw [c_Rings_page]
    simp (disch := omega) only [h3, qtd p6.1 (show M 24 i < 2147483648 by omega) (show (0 : Int) < 2048 by decide), p1, qtd p5.1 (show A (4850 + i) < 2147483648 by omega) (show (0 : Int) < 600 by decide), qff hF, qltT, qltF, qleT, qleF, qeqT, qeqF, Int.reduceEq, Int.reduceNe, Int.reduceLT, Int.reduceLE, Int.reduceToNat, Int.reduceAdd, Int.reduceSub, Int.reduceMul, Int.reduceNeg, Nat.reduceAdd, Nat.reduceMul, Nat.reduceEqDiff, Nat.reduceLT, Int.cast_ofNat_Int, Int.lt_irrefl, ↓reduceIte, ↓reduceDIte, zbI, zbL, zbA, zbV, qrg, qrg2, qnn, qz, zup_at, zup_r, zup_ne, true_and, and_true, true_or, or_true, and_self, or_self, false_or, or_false, false_and, and_false, Int.toNat_natCast, Int.toNat_add, Int.toNat_mul, Int.toNat_zero, Int.toNat_one, qtn, Int.natCast_add, qnat1, qnat0, ne_eq, not_true_eq_false, not_false_eq_true, eq_self, qbool]
    rfl
  · rw [c_Rings_page]
    simp (disch := omega) only [h3, qtd p6.1 (show M 24 i < 2147483648 by omega) (show (0 : Int) < 256 by decide), p2, qff hF, qltT, qltF, qleT, qleF, qeqT, qeqF, Int.reduceEq, Int.reduceNe, Int.reduceLT, Int.reduceLE, Int.reduceToNat, Int.reduceAdd, Int.reduceSub, Int.reduceMul, Int.reduceNeg, Nat.reduceAdd, Nat.reduceMul, Nat.reduceEqDiff, Nat.reduceLT, Int.cast_ofNat_Int, Int.lt_irrefl, ↓reduceIte, ↓reduceDIte, zbI, zbL, zbA, zbV, qrg, qrg2, qnn, qz, zup_at, zup_r, zup_ne, true_and, and_true, true_or, or_true, and_self, or_self, false_or, or_false, false_and, and_false, Int.toNat_natCast, Int.toNat_add, Int.toNat_mul, Int.toNat_zero, Int.toNat_one, qtn, Int.natCast_add, qnat1, qnat0, ne_eq, not_true_eq_false, not_false_eq_true, eq_self, qbool]
    rfl
  · rw [c_Rings_page]
    simp (disch := omega) only [h3, qtd p6.1 (show M 24 i < 2147483648 by omega) (show (0 : Int) < 32 by decide), p3, qff hF, qltT, qltF, qleT, qleF, qeqT, qeqF, Int.reduceEq, Int.reduceNe, Int.reduceLT, Int.reduceLE, Int.reduceToNat, Int.reduceAdd, Int.reduceSub, Int.reduceMul, Int.reduceNeg, Nat.reduceAdd, Nat.reduceMul, Nat.reduceEqDiff, Nat.reduceLT, Int.cast_ofNat_Int, Int.lt_irrefl, ↓reduceIte, ↓reduceDIte, zbI, zbL, zbA, zbV, qrg, qrg2, qnn, qz, zup_at, zup_r, zup_ne, true_and, and_true, true_or, or_true, and_self, or_self, false_or, or_false, false_and, and_false, Int.toNat_natCast, Int.toNat_add, Int.toNat_mul, Int.toNat_zero, Int.toNat_one, qtn, Int.natCast_add, qnat1, qnat0, ne_eq, not_true_eq_false, not_false_eq_true, eq_self, qbool]
    rfl
  · rw [c_Rings_page]
    simp (disch := omega) only [h3, p4, qff hF, qltT, qltF, qleT, qleF, qeqT, qeqF, Int.reduceEq, Int.reduceNe, Int.reduceLT, Int.reduceLE, Int.reduceToNat, Int.reduceAdd, Int.reduceSub, Int.reduceMul, Int.reduceNeg, Nat.reduceAdd, Nat.reduceMul, Nat.reduceEqDiff, Nat.reduceLT, Int.cast_ofNat_Int, Int.lt_irrefl, ↓reduceIte, ↓reduceDIte, zbI, zbL, zbA, zbV, qrg, qrg2, qnn, qz, zup_at, zup_r, zup_ne, true_and, and_true, true_or, or_true, and_self, or_self, false_or, or_false, false_and, and_false, Int.toNat_natCast, Int.toNat_add, Int.toNat_mul, Int.toNat_zero, Int.toNat_one, qtn, Int.natCast_add, qnat1, qnat0, ne_eq, not_true_eq_false, not_false_eq_true, eq_self, qbool]
    rfl
theorem km_entry (hF : qFx S R) {i : Nat} (hi : i < 30) (hu : 0 ≤ M 306 (4850 + i) ∧ M 306 (4850 + i) < 6000000) {w : Int} (hw : 0 ≤ w ∧ w ≤ 3) : zcal zPP (d + 1) 280 [zA 305, zI i, zI w] (n, s, S, R, M) = some (zI (qpe (M 306) i w), (n, s, S, R, M)) := by
  have hw' : w = 0 ∨ w = 1 ∨ w = 2 ∨ w = 3 := by omega
  rcases hw' with h | h | h | h <;> subst h
  · rw [c_M_entry]
    simp (disch := omega) only [qtd hu.1 (show M 306 (4850 + i) < 2147483648 by omega) (show (0 : Int) < 600 by decide), qff hF, qltT, qltF, qleT, qleF, qeqT, qeqF, Int.reduceEq, Int.reduceNe, Int.reduceLT, Int.reduceLE, Int.reduceToNat, Int.reduceAdd, Int.reduceSub, Int.reduceMul, Int.reduceNeg, Nat.reduceAdd, Nat.reduceMul, Nat.reduceEqDiff, Nat.reduceLT, Int.cast_ofNat_Int, Int.lt_irrefl, ↓reduceIte, ↓reduceDIte, zbI, zbL, zbA, zbV, qrg, qrg2, qnn, qz, zup_at, zup_r, zup_ne, true_and, and_true, true_or, or_true, and_self, or_self, false_or, or_false, false_and, and_false, Int.toNat_natCast, Int.toNat_add, Int.toNat_mul, Int.toNat_zero, Int.toNat_one, qtn, Int.natCast_add, qnat1, qnat0, ne_eq, not_true_eq_false, not_false_eq_true, eq_self, qbool]
    rfl
  · rw [c_M_entry]
    simp (disch := omega) only [qtd hu.1 (show M 306 (4850 + i) < 2147483648 by omega) (show (0 : Int) < 120 by decide), qff hF, qltT, qltF, qleT, qleF, qeqT, qeqF, Int.reduceEq, Int.reduceNe, Int.reduceLT, Int.reduceLE, Int.reduceToNat, Int.reduceAdd, Int.reduceSub, Int.reduceMul, Int.reduceNeg, Nat.reduceAdd, Nat.reduceMul, Nat.reduceEqDiff, Nat.reduceLT, Int.cast_ofNat_Int, Int.lt_irrefl, ↓reduceIte, ↓reduceDIte, zbI, zbL, zbA, zbV, qrg, qrg2, qnn, qz, zup_at, zup_r, zup_ne, true_and, and_true, true_or, or_true, and_self, or_self, false_or, or_false, false_and, and_false, Int.toNat_natCast, Int.toNat_add, Int.toNat_mul, Int.toNat_zero, Int.toNat_one, qtn, Int.natCast_add, qnat1, qnat0, ne_eq, not_true_eq_false, not_false_eq_true, eq_self, qbool]
    rfl
  · rw [c_M_entry]
    simp (disch := omega) only [qtd hu.1 (show M 306 (4850 + i) < 2147483648 by omega) (show (0 : Int) < 24 by decide), qff hF, qltT, qltF, qleT, qleF, qeqT, qeqF, Int.reduceEq, Int.reduceNe, Int.reduceLT, Int.reduceLE, Int.reduceToNat, Int.reduceAdd, Int.reduceSub, Int.reduceMul, Int.reduceNeg, Nat.reduceAdd, Nat.reduceMul, Nat.reduceEqDiff, Nat.reduceLT, Int.cast_ofNat_Int, Int.lt_irrefl, ↓reduceIte, ↓reduceDIte, zbI, zbL, zbA, zbV, qrg, qrg2, qnn, qz, zup_at, zup_r, zup_ne, true_and, and_true, true_or, or_true, and_self, or_self, false_or, or_false, false_and, and_false, Int.toNat_natCast, Int.toNat_add, Int.toNat_mul, Int.toNat_zero, Int.toNat_one, qtn, Int.natCast_add, qnat1, qnat0, ne_eq, not_true_eq_false, not_false_eq_true, eq_self, qbool]
    rfl
  · rw [c_M_entry]
    simp (disch := omega) only [qff hF, qltT, qltF, qleT, qleF, qeqT, qeqF, Int.reduceEq, Int.reduceNe, Int.reduceLT, Int.reduceLE, Int.reduceToNat, Int.reduceAdd, Int.reduceSub, Int.reduceMul, Int.reduceNeg, Nat.reduceAdd, Nat.reduceMul, Nat.reduceEqDiff, Nat.reduceLT, Int.cast_ofNat_Int, Int.lt_irrefl, ↓reduceIte, ↓reduceDIte, zbI, zbL, zbA, zbV, qrg, qrg2, qnn, qz, zup_at, zup_r, zup_ne, true_and, and_true, true_or, or_true, and_self, or_self, false_or, or_false, false_and, and_false, Int.toNat_natCast, Int.toNat_add, Int.toNat_mul, Int.toNat_zero, Int.toNat_one, qtn, Int.natCast_add, qnat1, qnat0, ne_eq, not_true_eq_false, not_false_eq_true, eq_self, qbool]
    rfl
theorem qb_book (hw : qWd n S R M W) (v w : Int) : qBo 50 279 [zI v, zI w] n s S R M := by
  have hA := hw.2.1.2.2.2
  have hF := hw.1.2.1
  have hr := hw.2.1.2.1
  have h3 : M 21 3 = M 306 10 := hr.2.1.1
  have h30 := hA.2.2.2.2.2.2.2.2.2.2.1
  by_cases hv1 : v = -1
  · have hX : zcal zPP 100 50 [zA 9, zI v, zI w] (n, s, S, R, M) = some (zI (M 306 10), (n, s, S, R, M)) := by
      rw [c_X_book]
      simp (disch := omega) only [h3, qff hF, qltT, qltF, qleT, qleF, qeqT, qeqF, Int.reduceEq, Int.reduceNe, Int.reduceLT, Int.reduceLE, Int.reduceToNat, Int.reduceAdd, Int.reduceSub, Int.reduceMul, Int.reduceNeg, Nat.reduceAdd, Nat.reduceMul, Nat.reduceEqDiff, Nat.reduceLT, Int.cast_ofNat_Int, Int.lt_irrefl, ↓reduceIte, ↓reduceDIte, zbI, zbL, zbA, zbV, qrg, qrg2, qnn, qz, zup_at, zup_r, zup_ne, true_and, and_true, true_or, or_true, and_self, or_self, false_or, or_false, false_and, and_false, Int.toNat_natCast, Int.toNat_add, Int.toNat_mul, Int.toNat_zero, Int.toNat_one, qtn, Int.natCast_add, qnat1, qnat0, ne_eq, not_true_eq_false, not_false_eq_true, eq_self, qbool]
    have hM : zcal zPP 100 279 [zA 305, zI v, zI w] (n, s, S, R, M) = some (zI (M 306 10), (n, s, S, R, M)) := by
      rw [c_M_book]
      simp (disch := omega) only [qff hF, qltT, qltF, qleT, qleF, qeqT, qeqF, Int.reduceEq, Int.reduceNe, Int.reduceLT, Int.reduceLE, Int.reduceToNat, Int.reduceAdd, Int.reduceSub, Int.reduceMul, Int.reduceNeg, Nat.reduceAdd, Nat.reduceMul, Nat.reduceEqDiff, Nat.reduceLT, Int.cast_ofNat_Int, Int.lt_irrefl, ↓reduceIte, ↓reduceDIte, zbI, zbL, zbA, zbV, qrg, qrg2, qnn, qz, zup_at, zup_r, zup_ne, true_and, and_true, true_or, or_true, and_self, or_self, false_or, or_false, false_and, and_false, Int.toNat_natCast, Int.toNat_add, Int.toNat_mul, Int.toNat_zero, Int.toNat_one, qtn, Int.natCast_add, qnat1, qnat0, ne_eq, not_true_eq_false, not_false_eq_true, eq_self, qbool]
    exact qBo_same hw hX hM
  by_cases hc : (0 ≤ v ∧ v < M 306 10) ∧ 0 ≤ w ∧ w ≤ 3
  · obtain ⟨i, rfl⟩ := Int.eq_ofNat_of_zero_le hc.1.1
    have hu := (qPg_val (hr.2.2 i hc.1.2)).2.1
    have hX : zcal zPP 100 50 [zA 9, zI i, zI w] (n, s, S, R, M) = some (zI (qpe (M 306) i w), (n, s, S, R, M)) := by
      rw [c_X_book]
      simp (disch := omega) only [kx_page hF hA hr hc.1.2 hc.2, qff hF, qltT, qltF, qleT, qleF, qeqT, qeqF, Int.reduceEq, Int.reduceNe, Int.reduceLT, Int.reduceLE, Int.reduceToNat, Int.reduceAdd, Int.reduceSub, Int.reduceMul, Int.reduceNeg, Nat.reduceAdd, Nat.reduceMul, Nat.reduceEqDiff, Nat.reduceLT, Int.cast_ofNat_Int, Int.lt_irrefl, ↓reduceIte, ↓reduceDIte, zbI, zbL, zbA, zbV, qrg, qrg2, qnn, qz, zup_at, zup_r, zup_ne, true_and, and_true, true_or, or_true, and_self, or_self, false_or, or_false, false_and, and_false, Int.toNat_natCast, Int.toNat_add, Int.toNat_mul, Int.toNat_zero, Int.toNat_one, qtn, Int.natCast_add, qnat1, qnat0, ne_eq, not_true_eq_false, not_false_eq_true, eq_self, qbool]
    have hM : zcal zPP 100 279 [zA 305, zI i, zI w] (n, s, S, R, M) = some (zI (qpe (M 306) i w), (n, s, S, R, M)) := by
      rw [c_M_book]
      simp (disch := omega) only [k_isIn, km_entry hF (show i < 30 by omega) hu hc.2, qff hF, qltT, qltF, qleT, qleF, qeqT, qeqF, Int.reduceEq, Int.reduceNe, Int.reduceLT, Int.reduceLE, Int.reduceToNat, Int.reduceAdd, Int.reduceSub, Int.reduceMul, Int.reduceNeg, Nat.reduceAdd, Nat.reduceMul, Nat.reduceEqDiff, Nat.reduceLT, Int.cast_ofNat_Int, Int.lt_irrefl, ↓reduceIte, ↓reduceDIte, zbI, zbL, zbA, zbV, qrg, qrg2, qnn, qz, zup_at, zup_r, zup_ne, true_and, and_true, true_or, or_true, and_self, or_self, false_or, or_false, false_and, and_false, Int.toNat_natCast, Int.toNat_add, Int.toNat_mul, Int.toNat_zero, Int.toNat_one, qtn, Int.natCast_add, qnat1, qnat0, ne_eq, not_true_eq_false, not_false_eq_true, eq_self, qbool]
    exact qBo_same hw hX hM
  · have hX : zcal zPP 100 50 [zA 9, zI v, zI w] (n, s, S, R, M) = some (zI (-2), (n, s, S, R, M)) := by
      by_cases h1 : 0 ≤ v ∧ v < M 306 10
      · simp (disch := omega) only [c_X_book, c_Rings_page, h3, qff hF, qltT, qltF, qleT, qleF, qeqT, qeqF, Int.reduceEq, Int.reduceNe, Int.reduceLT, Int.reduceLE, Int.reduceToNat, Int.reduceAdd, Int.reduceSub, Int.reduceMul, Int.reduceNeg, Nat.reduceAdd, Nat.reduceMul, Nat.reduceEqDiff, Nat.reduceLT, Int.cast_ofNat_Int, Int.lt_irrefl, ↓reduceIte, ↓reduceDIte, zbI, zbL, zbA, zbV, qrg, qrg2, qnn, qz, zup_at, zup_r, zup_ne, true_and, and_true, true_or, or_true, and_self, or_self, false_or, or_false, false_and, and_false, Int.toNat_natCast, Int.toNat_add, Int.toNat_mul, Int.toNat_zero, Int.toNat_one, qtn, Int.natCast_add, qnat1, qnat0, ne_eq, not_true_eq_false, not_false_eq_true, eq_self, qbool]
      · by_cases h2 : v < 0
        · simp (disch := omega) only [c_X_book, c_Rings_page, h3, qff hF, qltT, qltF, qleT, qleF, qeqT, qeqF, Int.reduceEq, Int.reduceNe, Int.reduceLT, Int.reduceLE, Int.reduceToNat, Int.reduceAdd, Int.reduceSub, Int.reduceMul, Int.reduceNeg, Nat.reduceAdd, Nat.reduceMul, Nat.reduceEqDiff, Nat.reduceLT, Int.cast_ofNat_Int, Int.lt_irrefl, ↓reduceIte, ↓reduceDIte, zbI, zbL, zbA, zbV, qrg, qrg2, qnn, qz, zup_at, zup_r, zup_ne, true_and, and_true, true_or, or_true, and_self, or_self, false_or, or_false, false_and, and_false, Int.toNat_natCast, Int.toNat_add, Int.toNat_mul, Int.toNat_zero, Int.toNat_one, qtn, Int.natCast_add, qnat1, qnat0, ne_eq, not_true_eq_false, not_false_eq_true, eq_self, qbool]
        · simp (disch := omega) only [c_X_book, c_Rings_page, h3, qff hF, qltT, qltF, qleT, qleF, qeqT, qeqF, Int.reduceEq, Int.reduceNe, Int.reduceLT, Int.reduceLE, Int.reduceToNat, Int.reduceAdd, Int.reduceSub, Int.reduceMul, Int.reduceNeg, Nat.reduceAdd, Nat.reduceMul, Nat.reduceEqDiff, Nat.reduceLT, Int.cast_ofNat_Int, Int.lt_irrefl, ↓reduceIte, ↓reduceDIte, zbI, zbL, zbA, zbV, qrg, qrg2, qnn, qz, zup_at, zup_r, zup_ne, true_and, and_true, true_or, or_true, and_self, or_self, false_or, or_false, false_and, and_false, Int.toNat_natCast, Int.toNat_add, Int.toNat_mul, Int.toNat_zero, Int.toNat_one, qtn, Int.natCast_add, qnat1, qnat0, ne_eq, not_true_eq_false, not_false_eq_true, eq_self, qbool]
    have hM : zcal zPP 100 279 [zA 305, zI v, zI w] (n, s, S, R, M) = some (zI (-2), (n, s, S, R, M)) := by
      by_cases h1 : 0 ≤ v ∧ v < M 306 10
      · by_cases h2 : w < 0
        · simp (disch := omega) only [c_M_book, k_isIn, qff hF, qltT, qltF, qleT, qleF, qeqT, qeqF, Int.reduceEq, Int.reduceNe, Int.reduceLT, Int.reduceLE, Int.reduceToNat, Int.reduceAdd, Int.reduceSub, Int.reduceMul, Int.reduceNeg, Nat.reduceAdd, Nat.reduceMul, Nat.reduceEqDiff, Nat.reduceLT, Int.cast_ofNat_Int, Int.lt_irrefl, ↓reduceIte, ↓reduceDIte, zbI, zbL, zbA, zbV, qrg, qrg2, qnn, qz, zup_at, zup_r, zup_ne, true_and, and_true, true_or, or_true, and_self, or_self, false_or, or_false, false_and, and_false, Int.toNat_natCast, Int.toNat_add, Int.toNat_mul, Int.toNat_zero, Int.toNat_one, qtn, Int.natCast_add, qnat1, qnat0, ne_eq, not_true_eq_false, not_false_eq_true, eq_self, qbool]
        · simp (disch := omega) only [c_M_book, k_isIn, qff hF, qltT, qltF, qleT, qleF, qeqT, qeqF, Int.reduceEq, Int.reduceNe, Int.reduceLT, Int.reduceLE, Int.reduceToNat, Int.reduceAdd, Int.reduceSub, Int.reduceMul, Int.reduceNeg, Nat.reduceAdd, Nat.reduceMul, Nat.reduceEqDiff, Nat.reduceLT, Int.cast_ofNat_Int, Int.lt_irrefl, ↓reduceIte, ↓reduceDIte, zbI, zbL, zbA, zbV, qrg, qrg2, qnn, qz, zup_at, zup_r, zup_ne, true_and, and_true, true_or, or_true, and_self, or_self, false_or, or_false, false_and, and_false, Int.toNat_natCast, Int.toNat_add, Int.toNat_mul, Int.toNat_zero, Int.toNat_one, qtn, Int.natCast_add, qnat1, qnat0, ne_eq, not_true_eq_false, not_false_eq_true, eq_self, qbool]
      · by_cases h2 : v < 0
        · simp (disch := omega) only [c_M_book, k_isIn, qff hF, qltT, qltF, qleT, qleF, qeqT, qeqF, Int.reduceEq, Int.reduceNe, Int.reduceLT, Int.reduceLE, Int.reduceToNat, Int.reduceAdd, Int.reduceSub, Int.reduceMul, Int.reduceNeg, Nat.reduceAdd, Nat.reduceMul, Nat.reduceEqDiff, Nat.reduceLT, Int.cast_ofNat_Int, Int.lt_irrefl, ↓reduceIte, ↓reduceDIte, zbI, zbL, zbA, zbV, qrg, qrg2, qnn, qz, zup_at, zup_r, zup_ne, true_and, and_true, true_or, or_true, and_self, or_self, false_or, or_false, false_and, and_false, Int.toNat_natCast, Int.toNat_add, Int.toNat_mul, Int.toNat_zero, Int.toNat_one, qtn, Int.natCast_add, qnat1, qnat0, ne_eq, not_true_eq_false, not_false_eq_true, eq_self, qbool]
        · simp (disch := omega) only [c_M_book, k_isIn, qff hF, qltT, qltF, qleT, qleF, qeqT, qeqF, Int.reduceEq, Int.reduceNe, Int.reduceLT, Int.reduceLE, Int.reduceToNat, Int.reduceAdd, Int.reduceSub, Int.reduceMul, Int.reduceNeg, Nat.reduceAdd, Nat.reduceMul, Nat.reduceEqDiff, Nat.reduceLT, Int.cast_ofNat_Int, Int.lt_irrefl, ↓reduceIte, ↓reduceDIte, zbI, zbL, zbA, zbV, qrg, qrg2, qnn, qz, zup_at, zup_r, zup_ne, true_and, and_true, true_or, or_true, and_self, or_self, false_or, or_false, false_and, and_false, Int.toNat_natCast, Int.toNat_add, Int.toNat_mul, Int.toNat_zero, Int.toNat_one, qtn, Int.natCast_add, qnat1, qnat0, ne_eq, not_true_eq_false, not_false_eq_true, eq_self, qbool]
    exact qBo_same hw hX hM
theorem qb_ledger (hw : qWd n S R M W) (v : Int) : qBo 82 281 [zI v] n s S R M := by
  have hA := hw.2.1.2.2.2
  have hF := hw.1.2.1
  have hT := hw.2.1.1
  have hr := hw.2.1.2.1
  have h3 : M 21 3 = M 306 10 := hr.2.1.1
  have h30 := hA.2.2.2.2.2.2.2.2.2.2.1
  obtain ⟨a, ha⟩ := Int.eq_ofNat_of_zero_le h30.1
  by_cases hv1 : v = -1
  · have hX : zcal zPP 100 82 [zA 9, zI v] (n, s, S, R, M) = some (zI a, (n, s, S, R, M)) := by
      rw [c_X_ledger]
      simp (disch := omega) only [h3, ha, qff hF, qltT, qltF, qleT, qleF, qeqT, qeqF, Int.reduceEq, Int.reduceNe, Int.reduceLT, Int.reduceLE, Int.reduceToNat, Int.reduceAdd, Int.reduceSub, Int.reduceMul, Int.reduceNeg, Nat.reduceAdd, Nat.reduceMul, Nat.reduceEqDiff, Nat.reduceLT, Int.cast_ofNat_Int, Int.lt_irrefl, ↓reduceIte, ↓reduceDIte, zbI, zbL, zbA, zbV, qrg, qrg2, qnn, qz, zup_at, zup_r, zup_ne, true_and, and_true, true_or, or_true, and_self, or_self, false_or, or_false, false_and, and_false, Int.toNat_natCast, Int.toNat_add, Int.toNat_mul, Int.toNat_zero, Int.toNat_one, qtn, Int.natCast_add, qnat1, qnat0, ne_eq, not_true_eq_false, not_false_eq_true, eq_self, qbool]
    have LM := qlp (P := fun i => zR zPP 99 281 13 [zA 305, zI v, zI i, zI i] [] (n, s, S, R, M)) (N := a) (fun i hi => by
      show zR _ _ _ _ _ _ _ = zR _ _ _ _ _ _ _
      rw [e_M_ledger_13]
      simp (disch := omega) only [ha, qff hF, qltT, qltF, qleT, qleF, qeqT, qeqF, Int.reduceEq, Int.reduceNe, Int.reduceLT, Int.reduceLE, Int.reduceToNat, Int.reduceAdd, Int.reduceSub, Int.reduceMul, Int.reduceNeg, Nat.reduceAdd, Nat.reduceMul, Nat.reduceEqDiff, Nat.reduceLT, Int.cast_ofNat_Int, Int.lt_irrefl, ↓reduceIte, ↓reduceDIte, zbI, zbL, zbA, zbV, qrg, qrg2, qnn, qz, zup_at, zup_r, zup_ne, true_and, and_true, true_or, or_true, and_self, or_self, false_or, or_false, false_and, and_false, Int.toNat_natCast, Int.toNat_add, Int.toNat_mul, Int.toNat_zero, Int.toNat_one, qtn, Int.natCast_add, qnat1, qnat0, ne_eq, not_true_eq_false, not_false_eq_true, eq_self, qbool])
    have hM : zcal zPP 100 281 [zA 305, zI v] (n, s, S, R, M) = some (zI a, (n, s, S, R, M)) := by
      rw [c_M_ledger]
      simp (disch := omega) only [qff hF, qltT, qltF, qleT, qleF, qeqT, qeqF, Int.reduceEq, Int.reduceNe, Int.reduceLT, Int.reduceLE, Int.reduceToNat, Int.reduceAdd, Int.reduceSub, Int.reduceMul, Int.reduceNeg, Nat.reduceAdd, Nat.reduceMul, Nat.reduceEqDiff, Nat.reduceLT, Int.cast_ofNat_Int, Int.lt_irrefl, ↓reduceIte, ↓reduceDIte, zbI, zbL, zbA, zbV, qrg, qrg2, qnn, qz, zup_at, zup_r, zup_ne, true_and, and_true, true_or, or_true, and_self, or_self, false_or, or_false, false_and, and_false, Int.toNat_natCast, Int.toNat_add, Int.toNat_mul, Int.toNat_zero, Int.toNat_one, qtn, Int.natCast_add, qnat1, qnat0, ne_eq, not_true_eq_false, not_false_eq_true, eq_self, qbool]
      refine Eq.trans LM ?_
      show zR _ _ _ _ _ _ _ = _
      rw [e_M_ledger_13]
      simp (disch := omega) only [ha, qff hF, qltT, qltF, qleT, qleF, qeqT, qeqF, Int.reduceEq, Int.reduceNe, Int.reduceLT, Int.reduceLE, Int.reduceToNat, Int.reduceAdd, Int.reduceSub, Int.reduceMul, Int.reduceNeg, Nat.reduceAdd, Nat.reduceMul, Nat.reduceEqDiff, Nat.reduceLT, Int.cast_ofNat_Int, Int.lt_irrefl, ↓reduceIte, ↓reduceDIte, zbI, zbL, zbA, zbV, qrg, qrg2, qnn, qz, zup_at, zup_r, zup_ne, true_and, and_true, true_or, or_true, and_self, or_self, false_or, or_false, false_and, and_false, Int.toNat_natCast, Int.toNat_add, Int.toNat_mul, Int.toNat_zero, Int.toNat_one, qtn, Int.natCast_add, qnat1, qnat0, ne_eq, not_true_eq_false, not_false_eq_true, eq_self, qbool]
    exact qBo_same hw hX hM
  by_cases hv : 0 ≤ v ∧ v < M 306 1
  · have hu : ∀ i : Nat, i < a → 0 ≤ M 306 (4850 + i) ∧ M 306 (4850 + i) < 6000000 := fun i hi => (qPg_val (hr.2.2 i (by omega))).2.1
    have LX := qlp (P := fun i => zR zPP 99 82 19 [zA 9, zI v, zI (zct (fun i => decide (qpe (M 306) i 1 = v)) i : Nat), zI i] [] (n, s, S, R, M)) (N := a) (fun i hi => by
      have hz := zct_le (fun i => decide (qpe (M 306) i 1 = v)) i
      show zR _ _ _ _ _ _ _ = zR _ _ _ _ _ _ _
      rw [e_X_ledger_19, zct_s]
      by_cases hq : qpe (M 306) i 1 = v
      · rw [if_pos (decide_eq_true hq)]
        simp (disch := omega) only [h3, ha, kx_page hF hA hr (show (i : Int) < M 306 10 by omega), hq, qff hF, qltT, qltF, qleT, qleF, qeqT, qeqF, Int.reduceEq, Int.reduceNe, Int.reduceLT, Int.reduceLE, Int.reduceToNat, Int.reduceAdd, Int.reduceSub, Int.reduceMul, Int.reduceNeg, Nat.reduceAdd, Nat.reduceMul, Nat.reduceEqDiff, Nat.reduceLT, Int.cast_ofNat_Int, Int.lt_irrefl, ↓reduceIte, ↓reduceDIte, zbI, zbL, zbA, zbV, qrg, qrg2, qnn, qz, zup_at, zup_r, zup_ne, true_and, and_true, true_or, or_true, and_self, or_self, false_or, or_false, false_and, and_false, Int.toNat_natCast, Int.toNat_add, Int.toNat_mul, Int.toNat_zero, Int.toNat_one, qtn, Int.natCast_add, qnat1, qnat0, ne_eq, not_true_eq_false, not_false_eq_true, eq_self, qbool]
      · rw [if_neg (fun z => hq (of_decide_eq_true z))]
        simp (disch := omega) only [h3, ha, kx_page hF hA hr (show (i : Int) < M 306 10 by omega), hq, qff hF, qltT, qltF, qleT, qleF, qeqT, qeqF, Int.reduceEq, Int.reduceNe, Int.reduceLT, Int.reduceLE, Int.reduceToNat, Int.reduceAdd, Int.reduceSub, Int.reduceMul, Int.reduceNeg, Nat.reduceAdd, Nat.reduceMul, Nat.reduceEqDiff, Nat.reduceLT, Int.cast_ofNat_Int, Int.lt_irrefl, ↓reduceIte, ↓reduceDIte, zbI, zbL, zbA, zbV, qrg, qrg2, qnn, qz, zup_at, zup_r, zup_ne, true_and, and_true, true_or, or_true, and_self, or_self, false_or, or_false, false_and, and_false, Int.toNat_natCast, Int.toNat_add, Int.toNat_mul, Int.toNat_zero, Int.toNat_one, qtn, Int.natCast_add, qnat1, qnat0, ne_eq, not_true_eq_false, not_false_eq_true, eq_self, qbool]
        rw [Int.add_zero])
    have hX : zcal zPP 100 82 [zA 9, zI v] (n, s, S, R, M) = some (zI (zct (fun i => decide (qpe (M 306) i 1 = v)) a : Nat), (n, s, S, R, M)) := by
      rw [c_X_ledger]
      simp (disch := omega) only [kx_hasPerson hF hT hA, hv, qff hF, qltT, qltF, qleT, qleF, qeqT, qeqF, Int.reduceEq, Int.reduceNe, Int.reduceLT, Int.reduceLE, Int.reduceToNat, Int.reduceAdd, Int.reduceSub, Int.reduceMul, Int.reduceNeg, Nat.reduceAdd, Nat.reduceMul, Nat.reduceEqDiff, Nat.reduceLT, Int.cast_ofNat_Int, Int.lt_irrefl, ↓reduceIte, ↓reduceDIte, zbI, zbL, zbA, zbV, qrg, qrg2, qnn, qz, zup_at, zup_r, zup_ne, true_and, and_true, true_or, or_true, and_self, or_self, false_or, or_false, false_and, and_false, Int.toNat_natCast, Int.toNat_add, Int.toNat_mul, Int.toNat_zero, Int.toNat_one, qtn, Int.natCast_add, qnat1, qnat0, ne_eq, not_true_eq_false, not_false_eq_true, eq_self, qbool]
      refine Eq.trans LX ?_
      show zR _ _ _ _ _ _ _ = _
      rw [e_X_ledger_19]
      simp (disch := omega) only [h3, ha, qff hF, qltT, qltF, qleT, qleF, qeqT, qeqF, Int.reduceEq, Int.reduceNe, Int.reduceLT, Int.reduceLE, Int.reduceToNat, Int.reduceAdd, Int.reduceSub, Int.reduceMul, Int.reduceNeg, Nat.reduceAdd, Nat.reduceMul, Nat.reduceEqDiff, Nat.reduceLT, Int.cast_ofNat_Int, Int.lt_irrefl, ↓reduceIte, ↓reduceDIte, zbI, zbL, zbA, zbV, qrg, qrg2, qnn, qz, zup_at, zup_r, zup_ne, true_and, and_true, true_or, or_true, and_self, or_self, false_or, or_false, false_and, and_false, Int.toNat_natCast, Int.toNat_add, Int.toNat_mul, Int.toNat_zero, Int.toNat_one, qtn, Int.natCast_add, qnat1, qnat0, ne_eq, not_true_eq_false, not_false_eq_true, eq_self, qbool]
    have LM := qlp (P := fun i => zR zPP 99 281 13 [zA 305, zI v, zI (zct (fun i => decide (qpe (M 306) i 1 = v)) i : Nat), zI i] [] (n, s, S, R, M)) (N := a) (fun i hi => by
      have hz := zct_le (fun i => decide (qpe (M 306) i 1 = v)) i
      show zR _ _ _ _ _ _ _ = zR _ _ _ _ _ _ _
      rw [e_M_ledger_13, zct_s]
      by_cases hq : qpe (M 306) i 1 = v
      · rw [if_pos (decide_eq_true hq)]
        simp (disch := omega) only [ha, km_entry hF (show i < 30 by omega) (hu i hi), hq, qff hF, qltT, qltF, qleT, qleF, qeqT, qeqF, Int.reduceEq, Int.reduceNe, Int.reduceLT, Int.reduceLE, Int.reduceToNat, Int.reduceAdd, Int.reduceSub, Int.reduceMul, Int.reduceNeg, Nat.reduceAdd, Nat.reduceMul, Nat.reduceEqDiff, Nat.reduceLT, Int.cast_ofNat_Int, Int.lt_irrefl, ↓reduceIte, ↓reduceDIte, zbI, zbL, zbA, zbV, qrg, qrg2, qnn, qz, zup_at, zup_r, zup_ne, true_and, and_true, true_or, or_true, and_self, or_self, false_or, or_false, false_and, and_false, Int.toNat_natCast, Int.toNat_add, Int.toNat_mul, Int.toNat_zero, Int.toNat_one, qtn, Int.natCast_add, qnat1, qnat0, ne_eq, not_true_eq_false, not_false_eq_true, eq_self, qbool]
      · rw [if_neg (fun z => hq (of_decide_eq_true z))]
        simp (disch := omega) only [ha, km_entry hF (show i < 30 by omega) (hu i hi), hq, qff hF, qltT, qltF, qleT, qleF, qeqT, qeqF, Int.reduceEq, Int.reduceNe, Int.reduceLT, Int.reduceLE, Int.reduceToNat, Int.reduceAdd, Int.reduceSub, Int.reduceMul, Int.reduceNeg, Nat.reduceAdd, Nat.reduceMul, Nat.reduceEqDiff, Nat.reduceLT, Int.cast_ofNat_Int, Int.lt_irrefl, ↓reduceIte, ↓reduceDIte, zbI, zbL, zbA, zbV, qrg, qrg2, qnn, qz, zup_at, zup_r, zup_ne, true_and, and_true, true_or, or_true, and_self, or_self, false_or, or_false, false_and, and_false, Int.toNat_natCast, Int.toNat_add, Int.toNat_mul, Int.toNat_zero, Int.toNat_one, qtn, Int.natCast_add, qnat1, qnat0, ne_eq, not_true_eq_false, not_false_eq_true, eq_self, qbool])
    have hM : zcal zPP 100 281 [zA 305, zI v] (n, s, S, R, M) = some (zI (zct (fun i => decide (qpe (M 306) i 1 = v)) a : Nat), (n, s, S, R, M)) := by
      rw [c_M_ledger]
      simp (disch := omega) only [km_isPerson hF hA, hv, qff hF, qltT, qltF, qleT, qleF, qeqT, qeqF, Int.reduceEq, Int.reduceNe, Int.reduceLT, Int.reduceLE, Int.reduceToNat, Int.reduceAdd, Int.reduceSub, Int.reduceMul, Int.reduceNeg, Nat.reduceAdd, Nat.reduceMul, Nat.reduceEqDiff, Nat.reduceLT, Int.cast_ofNat_Int, Int.lt_irrefl, ↓reduceIte, ↓reduceDIte, zbI, zbL, zbA, zbV, qrg, qrg2, qnn, qz, zup_at, zup_r, zup_ne, true_and, and_true, true_or, or_true, and_self, or_self, false_or, or_false, false_and, and_false, Int.toNat_natCast, Int.toNat_add, Int.toNat_mul, Int.toNat_zero, Int.toNat_one, qtn, Int.natCast_add, qnat1, qnat0, ne_eq, not_true_eq_false, not_false_eq_true, eq_self, qbool]
      refine Eq.trans LM ?_
      show zR _ _ _ _ _ _ _ = _
      rw [e_M_ledger_13]
      simp (disch := omega) only [ha, qff hF, qltT, qltF, qleT, qleF, qeqT, qeqF, Int.reduceEq, Int.reduceNe, Int.reduceLT, Int.reduceLE, Int.reduceToNat, Int.reduceAdd, Int.reduceSub, Int.reduceMul, Int.reduceNeg, Nat.reduceAdd, Nat.reduceMul, Nat.reduceEqDiff, Nat.reduceLT, Int.cast_ofNat_Int, Int.lt_irrefl, ↓reduceIte, ↓reduceDIte, zbI, zbL, zbA, zbV, qrg, qrg2, qnn, qz, zup_at, zup_r, zup_ne, true_and, and_true, true_or, or_true, and_self, or_self, false_or, or_false, false_and, and_false, Int.toNat_natCast, Int.toNat_add, Int.toNat_mul, Int.toNat_zero, Int.toNat_one, qtn, Int.natCast_add, qnat1, qnat0, ne_eq, not_true_eq_false, not_false_eq_true, eq_self, qbool]
    exact qBo_same hw hX hM
  · have hX : zcal zPP 100 82 [zA 9, zI v] (n, s, S, R, M) = some (zI (-2), (n, s, S, R, M)) := by
      rw [c_X_ledger]
      simp only [qff hF, if_true, if_neg hv1, kx_hasPerson hF hT hA, zbI, if_neg hv]
    have hM : zcal zPP 100 281 [zA 305, zI v] (n, s, S, R, M) = some (zI (-2), (n, s, S, R, M)) := by
      rw [c_M_ledger]
      simp only [qff hF, if_true, if_neg hv1, km_isPerson hF hA, zbI, if_neg hv]
    exact qBo_same hw hX hM
end QF
