/-! lend, returned, pass: both sides -/
/-- a RING of a told OAK -/
def qRi (A : Nat → Int) (o y : Int) : Prop := (0 ≤ o ∧ o < A 0) ∧ (0 ≤ y ∧ y < 24) ∧ A (11 + 24 * o.toNat + y.toNat) ≠ 0
/-- it can be lent -/
def qcL (A : Nat → Int) (w : qWt) (o y p : Int) : Prop := qRi A o y ∧ (0 ≤ p ∧ p < A 1) ∧ 9 < qic A o.toNat ∧ A (11 + 24 * o.toNat + y.toNat) = 1 ∧ 0 < qLaw w (qEn A o.toNat y.toNat p.toNat) 0 (A (136 + y.toNat))
/-- it can be passed on -/
def qcP (A : Nat → Int) (w : qWt) (o y p : Int) : Prop := qLent A o y ∧ (0 ≤ p ∧ p < A 1) ∧ A (11 + 24 * o.toNat + y.toNat) ≠ 3 + p ∧ 0 < qLaw w (qEn A o.toNat y.toNat p.toNat) 0 (A (136 + y.toNat))
section QF
variable {S : Nat → Nat × Nat} {R : Nat → Nat → Nat} {M M' M0 M1 : Nat → Nat → Int} {n s d : Nat} {A : Nat → Int} {W : Nat → qWt}
theorem kx_canLend (hw : qWd n S R M W) (v w u : Int) : ∃ M1, qX2 M M1 ∧ (qcL (M 306) (qWr W (M 306 3)) v w u → zcal zPP (d + 7) 30 [zA 9, zI v, zI w, zI u] (n, s, S, R, M) = some (zI 1, (n, s, S, R, M1))) ∧ (¬ qcL (M 306) (qWr W (M 306 3)) v w u → zcal zPP (d + 7) 30 [zA 9, zI v, zI w, zI u] (n, s, S, R, M) = some (zI 0, (n, s, S, R, M1))) := by
  have hA := hw.2.1.2.2.2
  have hF := hw.1.2.1
  have hT := hw.2.1.1
  have hg : qRg M 21 (qg (M 306)) := hw.2.1.2.1.1
  by_cases hv : (0 ≤ v ∧ v < M 306 0) ∧ (0 ≤ w ∧ w < 24) ∧ M 306 (11 + 24 * v.toNat + w.toNat) ≠ 0
  · by_cases hu : 0 ≤ u ∧ u < M 306 1
    · obtain ⟨o, rfl⟩ := Int.eq_ofNat_of_zero_le hv.1.1
      obtain ⟨y, rfl⟩ := Int.eq_ofNat_of_zero_le hv.2.1.1
      obtain ⟨p, rfl⟩ := Int.eq_ofNat_of_zero_le hu.1
      have hy : y < 24 := by omega
      rw [Int.toNat_natCast, Int.toNat_natCast] at hv
      have hr1 := kx_hadRing (n := n) (s := s) (d := d + 4) (M := M) hF hT hA (o : Int) (y : Int)
      rw [Int.toNat_natCast, Int.toNat_natCast, if_pos hv] at hr1
      have hp1 := kx_hasPerson (n := n) (s := s) (d := d + 5) (M := M) hF hT hA (p : Int)
      rw [if_pos hu] at hp1
      have hf1 := kx_isFenced (n := n) (s := s) (d := d + 3) (M := M) hF hT hA hg hv.1.2
      by_cases h9 : qic (M 306) o ≤ 9
      · rw [if_pos h9] at hf1
        refine ⟨M, qX2_r M, fun hc => ?_, fun _ => ?_⟩
        · have := hc.2.2.1
          rw [Int.toNat_natCast] at this
          omega
        · rw [c_X_canLend]
          simp (disch := omega) only [hr1, hp1, hf1, qff hF, qltT, qltF, qleT, qleF, qeqT, qeqF, Int.reduceEq, Int.reduceNe, Int.reduceLT, Int.reduceLE, Int.reduceToNat, Int.reduceAdd, Int.reduceSub, Int.reduceMul, Int.reduceNeg, Nat.reduceAdd, Nat.reduceMul, Nat.reduceEqDiff, Nat.reduceLT, Int.cast_ofNat_Int, Int.lt_irrefl, Bool.false_eq_true, ↓reduceIte, ↓reduceDIte, zbI, zbL, zbA, zbV, qrg, qrg2, qnn, qz, zup_at, zup_r, zup_ne, true_and, and_true, true_or, or_true, and_self, or_self, false_or, or_false, false_and, and_false, Int.toNat_natCast, Int.toNat_add, Int.toNat_mul, Int.toNat_zero, Int.toNat_one, qtn, Int.natCast_add, qnat1, qnat0, ne_eq, not_true_eq_false, not_false_eq_true, eq_self, qbool]
      · rw [if_neg h9] at hf1
        have hi1 := kx_inOak (n := n) (s := s) (d := d + 4) (M := M) hF hT hA hg hv.1.2
        have hbit : zand (zshr ((qin (M 306) o : Nat) : Int) y) 1 = if decide (M 306 (11 + 24 * o + y) = 1) = true then 1 else 0 := zsn_bit24 _ hy
        by_cases h1 : M 306 (11 + 24 * o + y) = 1
        · rw [if_pos (decide_eq_true h1)] at hbit
          obtain ⟨q, hq1, hq2⟩ := wx_ruler (s := s) hw
          obtain ⟨M2, h2, h3⟩ := wx_says (s := s) (d := d) hw hq2 (M1 := M) (fun _ _ => rfl) (L := 0) (by decide) hv.1.2 hy hu.2
          have h2' : zcal zPP (d + 6) 96 [zA 284, zI 0, zA q, zA 21, zI o, zI y, zI p] (n, s, S, R, M) = some (zI (qLaw (qWr W (M 306 3)) (qEn (M 306) o y p) 0 (M 306 (136 + y))), (n, s, S, R, M2)) := h2
          refine ⟨M2, h3, fun hc => ?_, fun hc => ?_⟩
          · have hl := hc.2.2.2.2
            rw [Int.toNat_natCast, Int.toNat_natCast, Int.toNat_natCast] at hl
            rw [c_X_canLend]
            simp (disch := omega) only [hr1, hp1, hf1, hi1, hbit, hq1 (d + 4) M rfl, h2', hl, qff hF, qltT, qltF, qleT, qleF, qeqT, qeqF, Int.reduceEq, Int.reduceNe, Int.reduceLT, Int.reduceLE, Int.reduceToNat, Int.reduceAdd, Int.reduceSub, Int.reduceMul, Int.reduceNeg, Nat.reduceAdd, Nat.reduceMul, Nat.reduceEqDiff, Nat.reduceLT, Int.cast_ofNat_Int, Int.lt_irrefl, Bool.false_eq_true, ↓reduceIte, ↓reduceDIte, zbI, zbL, zbA, zbV, qrg, qrg2, qnn, qz, zup_at, zup_r, zup_ne, true_and, and_true, true_or, or_true, and_self, or_self, false_or, or_false, false_and, and_false, Int.toNat_natCast, Int.toNat_add, Int.toNat_mul, Int.toNat_zero, Int.toNat_one, qtn, Int.natCast_add, qnat1, qnat0, ne_eq, not_true_eq_false, not_false_eq_true, eq_self, qbool]
          · have hl : ¬ 0 < qLaw (qWr W (M 306 3)) (qEn (M 306) o y p) 0 (M 306 (136 + y)) := fun z => hc ⟨⟨hv.1, hv.2.1, by rw [Int.toNat_natCast, Int.toNat_natCast]; exact hv.2.2⟩, hu, by rw [Int.toNat_natCast]; omega, by rw [Int.toNat_natCast, Int.toNat_natCast]; exact h1, by rw [Int.toNat_natCast, Int.toNat_natCast, Int.toNat_natCast]; exact z⟩
            rw [c_X_canLend]
            simp (disch := omega) only [hr1, hp1, hf1, hi1, hbit, hq1 (d + 4) M rfl, h2', hl, qff hF, qltT, qltF, qleT, qleF, qeqT, qeqF, Int.reduceEq, Int.reduceNe, Int.reduceLT, Int.reduceLE, Int.reduceToNat, Int.reduceAdd, Int.reduceSub, Int.reduceMul, Int.reduceNeg, Nat.reduceAdd, Nat.reduceMul, Nat.reduceEqDiff, Nat.reduceLT, Int.cast_ofNat_Int, Int.lt_irrefl, Bool.false_eq_true, ↓reduceIte, ↓reduceDIte, zbI, zbL, zbA, zbV, qrg, qrg2, qnn, qz, zup_at, zup_r, zup_ne, true_and, and_true, true_or, or_true, and_self, or_self, false_or, or_false, false_and, and_false, Int.toNat_natCast, Int.toNat_add, Int.toNat_mul, Int.toNat_zero, Int.toNat_one, qtn, Int.natCast_add, qnat1, qnat0, ne_eq, not_true_eq_false, not_false_eq_true, eq_self, qbool]
        · rw [if_neg (fun z => h1 (of_decide_eq_true z))] at hbit
          refine ⟨M, qX2_r M, fun hc => ?_, fun _ => ?_⟩
          · have := hc.2.2.2.1
            rw [Int.toNat_natCast, Int.toNat_natCast] at this
            exact absurd this h1
          · rw [c_X_canLend]
            simp (disch := omega) only [hr1, hp1, hf1, hi1, hbit, qff hF, qltT, qltF, qleT, qleF, qeqT, qeqF, Int.reduceEq, Int.reduceNe, Int.reduceLT, Int.reduceLE, Int.reduceToNat, Int.reduceAdd, Int.reduceSub, Int.reduceMul, Int.reduceNeg, Nat.reduceAdd, Nat.reduceMul, Nat.reduceEqDiff, Nat.reduceLT, Int.cast_ofNat_Int, Int.lt_irrefl, Bool.false_eq_true, ↓reduceIte, ↓reduceDIte, zbI, zbL, zbA, zbV, qrg, qrg2, qnn, qz, zup_at, zup_r, zup_ne, true_and, and_true, true_or, or_true, and_self, or_self, false_or, or_false, false_and, and_false, Int.toNat_natCast, Int.toNat_add, Int.toNat_mul, Int.toNat_zero, Int.toNat_one, qtn, Int.natCast_add, qnat1, qnat0, ne_eq, not_true_eq_false, not_false_eq_true, eq_self, qbool]
    · refine ⟨M, qX2_r M, fun hc => absurd hc.2.1 hu, fun _ => ?_⟩
      rw [c_X_canLend]
      simp only [qff hF, if_true, kx_hadRing hF hT hA, if_pos hv, zbI]
      rw [if_neg (by decide)]
      simp only [kx_hasPerson hF hT hA, zbI, if_neg hu, if_true]
  · refine ⟨M, qX2_r M, fun hc => absurd hc.1 hv, fun _ => ?_⟩
    rw [c_X_canLend]
    simp only [qff hF, if_true, kx_hadRing hF hT hA, if_neg hv, zbI]
theorem km_canLend (hF : qFx S R) (hA : qIn (M 306)) {w0 : qWt} (ht0 : qTN (M 308) (M 306 3) w0) (v w u : Int) : ∃ M1, qX3 M M1 ∧ (qcL (M 306) w0 v w u → zcal zPP (d + 9) 231 [zA 305, zI v, zI w, zI u] (n, s, S, R, M) = some (zI 1, (n, s, S, R, M1))) ∧ (¬ qcL (M 306) w0 v w u → zcal zPP (d + 9) 231 [zA 305, zI v, zI w, zI u] (n, s, S, R, M) = some (zI 0, (n, s, S, R, M1))) := by
  have hA5 := hA.1.2
  by_cases hv : (0 ≤ v ∧ v < M 306 0) ∧ (0 ≤ w ∧ w < 24) ∧ M 306 (11 + 24 * v.toNat + w.toNat) ≠ 0
  · have hr0 := km_isRing (n := n) (s := s) (d := d + 5) (M := M) hF hA v w
    rw [if_pos hv] at hr0
    obtain ⟨o, rfl⟩ := Int.eq_ofNat_of_zero_le hv.1.1
    obtain ⟨y, rfl⟩ := Int.eq_ofNat_of_zero_le hv.2.1.1
    have hy : y < 24 := by omega
    have hgt := km_get (n := n) (s := s) (d := d + 7) (M := M) hF (show o < 5 by omega) hy
    have hin := km_inside (n := n) (s := s) (d := d + 5) (M := M) hF (show o < 5 by omega)
    by_cases h1 : M 306 (11 + 24 * o + y) = 1
    · by_cases h9 : 9 < qic (M 306) o
      · by_cases hu : 0 ≤ u ∧ u < M 306 1
        · obtain ⟨p, rfl⟩ := Int.eq_ofNat_of_zero_le hu.1
          have hp1 := km_isPerson (n := n) (s := s) (d := d + 6) (M := M) hF hA (p : Int)
          rw [if_pos hu] at hp1
          obtain ⟨M2, h2, h3⟩ := km_lendsOf (n := n) (s := s) (d := d) (M := M) (o := o) (y := y) (p := p) hF hA hv.1.2 hy hu.2 ht0
          refine ⟨M2, h3, fun hc => ?_, fun hc => ?_⟩
          · have hl := hc.2.2.2.2
            rw [Int.toNat_natCast, Int.toNat_natCast, Int.toNat_natCast] at hl
            rw [c_M_canLend]
            simp (disch := omega) only [hr0, hgt, h1, hin, hp1, h2, hl, qff hF, qltT, qltF, qleT, qleF, qeqT, qeqF, Int.reduceEq, Int.reduceNe, Int.reduceLT, Int.reduceLE, Int.reduceToNat, Int.reduceAdd, Int.reduceSub, Int.reduceMul, Int.reduceNeg, Nat.reduceAdd, Nat.reduceMul, Nat.reduceEqDiff, Nat.reduceLT, Int.cast_ofNat_Int, Int.lt_irrefl, Bool.false_eq_true, ↓reduceIte, ↓reduceDIte, zbI, zbL, zbA, zbV, qrg, qrg2, qnn, qz, zup_at, zup_r, zup_ne, true_and, and_true, true_or, or_true, and_self, or_self, false_or, or_false, false_and, and_false, Int.toNat_natCast, Int.toNat_add, Int.toNat_mul, Int.toNat_zero, Int.toNat_one, qtn, Int.natCast_add, qnat1, qnat0, ne_eq, not_true_eq_false, not_false_eq_true, eq_self, qbool]
          · have hl : ¬ 0 < qLaw w0 (qEn (M 306) o y p) 0 (M 306 (136 + y)) := fun z => hc ⟨hv, hu, by rw [Int.toNat_natCast]; exact h9, by rw [Int.toNat_natCast, Int.toNat_natCast]; exact h1, by rw [Int.toNat_natCast, Int.toNat_natCast, Int.toNat_natCast]; exact z⟩
            rw [c_M_canLend]
            simp (disch := omega) only [hr0, hgt, h1, hin, hp1, h2, hl, qff hF, qltT, qltF, qleT, qleF, qeqT, qeqF, Int.reduceEq, Int.reduceNe, Int.reduceLT, Int.reduceLE, Int.reduceToNat, Int.reduceAdd, Int.reduceSub, Int.reduceMul, Int.reduceNeg, Nat.reduceAdd, Nat.reduceMul, Nat.reduceEqDiff, Nat.reduceLT, Int.cast_ofNat_Int, Int.lt_irrefl, Bool.false_eq_true, ↓reduceIte, ↓reduceDIte, zbI, zbL, zbA, zbV, qrg, qrg2, qnn, qz, zup_at, zup_r, zup_ne, true_and, and_true, true_or, or_true, and_self, or_self, false_or, or_false, false_and, and_false, Int.toNat_natCast, Int.toNat_add, Int.toNat_mul, Int.toNat_zero, Int.toNat_one, qtn, Int.natCast_add, qnat1, qnat0, ne_eq, not_true_eq_false, not_false_eq_true, eq_self, qbool]
        · refine ⟨M, qX3_r M, fun hc => absurd hc.2.1 hu, fun _ => ?_⟩
          have hp1 := km_isPerson (n := n) (s := s) (d := d + 6) (M := M) hF hA u
          rw [if_neg hu] at hp1
          rw [c_M_canLend]
          simp (disch := omega) only [hr0, hgt, h1, hin, hp1, qff hF, qltT, qltF, qleT, qleF, qeqT, qeqF, Int.reduceEq, Int.reduceNe, Int.reduceLT, Int.reduceLE, Int.reduceToNat, Int.reduceAdd, Int.reduceSub, Int.reduceMul, Int.reduceNeg, Nat.reduceAdd, Nat.reduceMul, Nat.reduceEqDiff, Nat.reduceLT, Int.cast_ofNat_Int, Int.lt_irrefl, Bool.false_eq_true, ↓reduceIte, ↓reduceDIte, zbI, zbL, zbA, zbV, qrg, qrg2, qnn, qz, zup_at, zup_r, zup_ne, true_and, and_true, true_or, or_true, and_self, or_self, false_or, or_false, false_and, and_false, Int.toNat_natCast, Int.toNat_add, Int.toNat_mul, Int.toNat_zero, Int.toNat_one, qtn, Int.natCast_add, qnat1, qnat0, ne_eq, not_true_eq_false, not_false_eq_true, eq_self, qbool]
      · refine ⟨M, qX3_r M, fun hc => ?_, fun _ => ?_⟩
        · have := hc.2.2.1
          rw [Int.toNat_natCast] at this
          omega
        · rw [c_M_canLend]
          simp (disch := omega) only [hr0, hgt, h1, hin, qff hF, qltT, qltF, qleT, qleF, qeqT, qeqF, Int.reduceEq, Int.reduceNe, Int.reduceLT, Int.reduceLE, Int.reduceToNat, Int.reduceAdd, Int.reduceSub, Int.reduceMul, Int.reduceNeg, Nat.reduceAdd, Nat.reduceMul, Nat.reduceEqDiff, Nat.reduceLT, Int.cast_ofNat_Int, Int.lt_irrefl, Bool.false_eq_true, ↓reduceIte, ↓reduceDIte, zbI, zbL, zbA, zbV, qrg, qrg2, qnn, qz, zup_at, zup_r, zup_ne, true_and, and_true, true_or, or_true, and_self, or_self, false_or, or_false, false_and, and_false, Int.toNat_natCast, Int.toNat_add, Int.toNat_mul, Int.toNat_zero, Int.toNat_one, qtn, Int.natCast_add, qnat1, qnat0, ne_eq, not_true_eq_false, not_false_eq_true, eq_self, qbool]
    · refine ⟨M, qX3_r M, fun hc => ?_, fun _ => ?_⟩
      · have := hc.2.2.2.1
        rw [Int.toNat_natCast, Int.toNat_natCast] at this
        exact absurd this h1
      · rw [c_M_canLend]
        simp (disch := omega) only [hr0, hgt, h1, qff hF, qltT, qltF, qleT, qleF, qeqT, qeqF, Int.reduceEq, Int.reduceNe, Int.reduceLT, Int.reduceLE, Int.reduceToNat, Int.reduceAdd, Int.reduceSub, Int.reduceMul, Int.reduceNeg, Nat.reduceAdd, Nat.reduceMul, Nat.reduceEqDiff, Nat.reduceLT, Int.cast_ofNat_Int, Int.lt_irrefl, Bool.false_eq_true, ↓reduceIte, ↓reduceDIte, zbI, zbL, zbA, zbV, qrg, qrg2, qnn, qz, zup_at, zup_r, zup_ne, true_and, and_true, true_or, or_true, and_self, or_self, false_or, or_false, false_and, and_false, Int.toNat_natCast, Int.toNat_add, Int.toNat_mul, Int.toNat_zero, Int.toNat_one, qtn, Int.natCast_add, qnat1, qnat0, ne_eq, not_true_eq_false, not_false_eq_true, eq_self, qbool]
  · refine ⟨M, qX3_r M, fun hc => absurd hc.1 hv, fun _ => ?_⟩
    rw [c_M_canLend]
    simp only [qff hF, if_true, km_isRing hF hA, if_neg hv, zbI]
theorem kx_canPass (hw : qWd n S R M W) (v w u : Int) : ∃ M1, qX2 M M1 ∧ (qcP (M 306) (qWr W (M 306 3)) v w u → zcal zPP (d + 7) 33 [zA 9, zI v, zI w, zI u] (n, s, S, R, M) = some (zI 1, (n, s, S, R, M1))) ∧ (¬ qcP (M 306) (qWr W (M 306 3)) v w u → zcal zPP (d + 7) 33 [zA 9, zI v, zI w, zI u] (n, s, S, R, M) = some (zI 0, (n, s, S, R, M1))) := by
  have hA := hw.2.1.2.2.2
  have hF := hw.1.2.1
  have hT := hw.2.1.1
  have hg : qRg M 21 (qg (M 306)) := hw.2.1.2.1.1
  have hA5 := hA.1.2
  obtain ⟨hh1, hh2⟩ := kx_holder (n := n) (s := s) (d := d + 4) (M := M) hF hA hg v w
  by_cases hl : qLent (M 306) v w
  · have hh := hh1 hl
    have hl3 := hl.2.2
    obtain ⟨o, rfl⟩ := Int.eq_ofNat_of_zero_le hl.1.1
    obtain ⟨y, rfl⟩ := Int.eq_ofNat_of_zero_le hl.2.1.1
    rw [Int.toNat_natCast, Int.toNat_natCast] at hh hl3
    by_cases hu3 : M 306 (11 + 24 * o + y) = 3 + u
    · refine ⟨M, qX2_r M, fun hc => ?_, fun _ => ?_⟩
      · have := hc.2.2.1
        rw [Int.toNat_natCast, Int.toNat_natCast] at this
        exact absurd hu3 this
      · rw [c_X_canPass]
        simp (disch := omega) only [hh, qff hF, qltT, qltF, qleT, qleF, qeqT, qeqF, Int.reduceEq, Int.reduceNe, Int.reduceLT, Int.reduceLE, Int.reduceToNat, Int.reduceAdd, Int.reduceSub, Int.reduceMul, Int.reduceNeg, Nat.reduceAdd, Nat.reduceMul, Nat.reduceEqDiff, Nat.reduceLT, Int.cast_ofNat_Int, Int.lt_irrefl, Bool.false_eq_true, ↓reduceIte, ↓reduceDIte, zbI, zbL, zbA, zbV, qrg, qrg2, qnn, qz, zup_at, zup_r, zup_ne, true_and, and_true, true_or, or_true, and_self, or_self, false_or, or_false, false_and, and_false, Int.toNat_natCast, Int.toNat_add, Int.toNat_mul, Int.toNat_zero, Int.toNat_one, qtn, Int.natCast_add, qnat1, qnat0, ne_eq, not_true_eq_false, not_false_eq_true, eq_self, qbool]
    · by_cases hu : 0 ≤ u ∧ u < M 306 1
      · obtain ⟨p, rfl⟩ := Int.eq_ofNat_of_zero_le hu.1
        have hp1 := kx_hasPerson (n := n) (s := s) (d := d + 5) (M := M) hF hT hA (p : Int)
        rw [if_pos hu] at hp1
        obtain ⟨q, hq1, hq2⟩ := wx_ruler (s := s) hw
        obtain ⟨M2, h2, h3⟩ := wx_says (s := s) (d := d) hw hq2 (M1 := M) (fun _ _ => rfl) (L := 0) (by decide) hl.1.2 (show y < 24 by have := hl.2.1; omega) hu.2
        have h2' : zcal zPP (d + 6) 96 [zA 284, zI 0, zA q, zA 21, zI o, zI y, zI p] (n, s, S, R, M) = some (zI (qLaw (qWr W (M 306 3)) (qEn (M 306) o y p) 0 (M 306 (136 + y))), (n, s, S, R, M2)) := h2
        refine ⟨M2, h3, fun hc => ?_, fun hc => ?_⟩
        · have hz := hc.2.2.2
          rw [Int.toNat_natCast, Int.toNat_natCast, Int.toNat_natCast] at hz
          rw [c_X_canPass]
          simp (disch := omega) only [hh, hp1, hq1 (d + 4) M rfl, h2', hz, qff hF, qltT, qltF, qleT, qleF, qeqT, qeqF, Int.reduceEq, Int.reduceNe, Int.reduceLT, Int.reduceLE, Int.reduceToNat, Int.reduceAdd, Int.reduceSub, Int.reduceMul, Int.reduceNeg, Nat.reduceAdd, Nat.reduceMul, Nat.reduceEqDiff, Nat.reduceLT, Int.cast_ofNat_Int, Int.lt_irrefl, Bool.false_eq_true, ↓reduceIte, ↓reduceDIte, zbI, zbL, zbA, zbV, qrg, qrg2, qnn, qz, zup_at, zup_r, zup_ne, true_and, and_true, true_or, or_true, and_self, or_self, false_or, or_false, false_and, and_false, Int.toNat_natCast, Int.toNat_add, Int.toNat_mul, Int.toNat_zero, Int.toNat_one, qtn, Int.natCast_add, qnat1, qnat0, ne_eq, not_true_eq_false, not_false_eq_true, eq_self, qbool]
        · have hz : ¬ 0 < qLaw (qWr W (M 306 3)) (qEn (M 306) o y p) 0 (M 306 (136 + y)) := fun z => hc ⟨hl, hu, by rw [Int.toNat_natCast, Int.toNat_natCast]; exact hu3, by rw [Int.toNat_natCast, Int.toNat_natCast, Int.toNat_natCast]; exact z⟩
          rw [c_X_canPass]
          simp (disch := omega) only [hh, hp1, hq1 (d + 4) M rfl, h2', hz, qff hF, qltT, qltF, qleT, qleF, qeqT, qeqF, Int.reduceEq, Int.reduceNe, Int.reduceLT, Int.reduceLE, Int.reduceToNat, Int.reduceAdd, Int.reduceSub, Int.reduceMul, Int.reduceNeg, Nat.reduceAdd, Nat.reduceMul, Nat.reduceEqDiff, Nat.reduceLT, Int.cast_ofNat_Int, Int.lt_irrefl, Bool.false_eq_true, ↓reduceIte, ↓reduceDIte, zbI, zbL, zbA, zbV, qrg, qrg2, qnn, qz, zup_at, zup_r, zup_ne, true_and, and_true, true_or, or_true, and_self, or_self, false_or, or_false, false_and, and_false, Int.toNat_natCast, Int.toNat_add, Int.toNat_mul, Int.toNat_zero, Int.toNat_one, qtn, Int.natCast_add, qnat1, qnat0, ne_eq, not_true_eq_false, not_false_eq_true, eq_self, qbool]
      · refine ⟨M, qX2_r M, fun hc => absurd hc.2.1 hu, fun _ => ?_⟩
        have hp1 := kx_hasPerson (n := n) (s := s) (d := d + 5) (M := M) hF hT hA u
        rw [if_neg hu] at hp1
        rw [c_X_canPass]
        simp (disch := omega) only [hh, hp1, qff hF, qltT, qltF, qleT, qleF, qeqT, qeqF, Int.reduceEq, Int.reduceNe, Int.reduceLT, Int.reduceLE, Int.reduceToNat, Int.reduceAdd, Int.reduceSub, Int.reduceMul, Int.reduceNeg, Nat.reduceAdd, Nat.reduceMul, Nat.reduceEqDiff, Nat.reduceLT, Int.cast_ofNat_Int, Int.lt_irrefl, Bool.false_eq_true, ↓reduceIte, ↓reduceDIte, zbI, zbL, zbA, zbV, qrg, qrg2, qnn, qz, zup_at, zup_r, zup_ne, true_and, and_true, true_or, or_true, and_self, or_self, false_or, or_false, false_and, and_false, Int.toNat_natCast, Int.toNat_add, Int.toNat_mul, Int.toNat_zero, Int.toNat_one, qtn, Int.natCast_add, qnat1, qnat0, ne_eq, not_true_eq_false, not_false_eq_true, eq_self, qbool]
  · refine ⟨M, qX2_r M, fun hc => absurd hc.1 hl, fun _ => ?_⟩
    rw [c_X_canPass]
    simp (disch := omega) only [hh2 hl, qff hF, qltT, qltF, qleT, qleF, qeqT, qeqF, Int.reduceEq, Int.reduceNe, Int.reduceLT, Int.reduceLE, Int.reduceToNat, Int.reduceAdd, Int.reduceSub, Int.reduceMul, Int.reduceNeg, Nat.reduceAdd, Nat.reduceMul, Nat.reduceEqDiff, Nat.reduceLT, Int.cast_ofNat_Int, Int.lt_irrefl, Bool.false_eq_true, ↓reduceIte, ↓reduceDIte, zbI, zbL, zbA, zbV, qrg, qrg2, qnn, qz, zup_at, zup_r, zup_ne, true_and, and_true, true_or, or_true, and_self, or_self, false_or, or_false, false_and, and_false, Int.toNat_natCast, Int.toNat_add, Int.toNat_mul, Int.toNat_zero, Int.toNat_one, qtn, Int.natCast_add, qnat1, qnat0, ne_eq, not_true_eq_false, not_false_eq_true, eq_self, qbool]
theorem km_isLent (hF : qFx S R) (hA : qIn (M 306)) (v w : Int) : (qLent (M 306) v w → zcal zPP (d + 4) 253 [zA 305, zI v, zI w] (n, s, S, R, M) = some (zI 1, (n, s, S, R, M))) ∧ (¬ qLent (M 306) v w → zcal zPP (d + 4) 253 [zA 305, zI v, zI w] (n, s, S, R, M) = some (zI 0, (n, s, S, R, M))) := by
  have hA5 := hA.1.2
  have hr0 := km_isRing (n := n) (s := s) (d := d) (M := M) hF hA v w
  by_cases hv : (0 ≤ v ∧ v < M 306 0) ∧ (0 ≤ w ∧ w < 24) ∧ M 306 (11 + 24 * v.toNat + w.toNat) ≠ 0
  · rw [if_pos hv] at hr0
    obtain ⟨o, rfl⟩ := Int.eq_ofNat_of_zero_le hv.1.1
    obtain ⟨y, rfl⟩ := Int.eq_ofNat_of_zero_le hv.2.1.1
    have hgt := km_get (n := n) (s := s) (d := d + 2) (M := M) hF (show o < 5 by omega) (show y < 24 by omega)
    refine ⟨fun hl => ?_, fun hl => ?_⟩
    · have hl3 := hl.2.2
      rw [Int.toNat_natCast, Int.toNat_natCast] at hl3
      rw [c_M_isLent]
      simp (disch := omega) only [hr0, hgt, qff hF, qltT, qltF, qleT, qleF, qeqT, qeqF, Int.reduceEq, Int.reduceNe, Int.reduceLT, Int.reduceLE, Int.reduceToNat, Int.reduceAdd, Int.reduceSub, Int.reduceMul, Int.reduceNeg, Nat.reduceAdd, Nat.reduceMul, Nat.reduceEqDiff, Nat.reduceLT, Int.cast_ofNat_Int, Int.lt_irrefl, Bool.false_eq_true, ↓reduceIte, ↓reduceDIte, zbI, zbL, zbA, zbV, qrg, qrg2, qnn, qz, zup_at, zup_r, zup_ne, true_and, and_true, true_or, or_true, and_self, or_self, false_or, or_false, false_and, and_false, Int.toNat_natCast, Int.toNat_add, Int.toNat_mul, Int.toNat_zero, Int.toNat_one, qtn, Int.natCast_add, qnat1, qnat0, ne_eq, not_true_eq_false, not_false_eq_true, eq_self, qbool]
    · have hl3 : ¬ 3 ≤ M 306 (11 + 24 * o + y) := fun z => hl ⟨hv.1, hv.2.1, by rw [Int.toNat_natCast, Int.toNat_natCast]; exact z⟩
      rw [c_M_isLent]
      simp (disch := omega) only [hr0, hgt, qff hF, qltT, qltF, qleT, qleF, qeqT, qeqF, Int.reduceEq, Int.reduceNe, Int.reduceLT, Int.reduceLE, Int.reduceToNat, Int.reduceAdd, Int.reduceSub, Int.reduceMul, Int.reduceNeg, Nat.reduceAdd, Nat.reduceMul, Nat.reduceEqDiff, Nat.reduceLT, Int.cast_ofNat_Int, Int.lt_irrefl, Bool.false_eq_true, ↓reduceIte, ↓reduceDIte, zbI, zbL, zbA, zbV, qrg, qrg2, qnn, qz, zup_at, zup_r, zup_ne, true_and, and_true, true_or, or_true, and_self, or_self, false_or, or_false, false_and, and_false, Int.toNat_natCast, Int.toNat_add, Int.toNat_mul, Int.toNat_zero, Int.toNat_one, qtn, Int.natCast_add, qnat1, qnat0, ne_eq, not_true_eq_false, not_false_eq_true, eq_self, qbool]
  · rw [if_neg hv] at hr0
    refine ⟨fun hl => absurd ⟨hl.1, hl.2.1, fun z => by have := hl.2.2; omega⟩ hv, fun _ => ?_⟩
    rw [c_M_isLent]
    simp (disch := omega) only [hr0, qff hF, qltT, qltF, qleT, qleF, qeqT, qeqF, Int.reduceEq, Int.reduceNe, Int.reduceLT, Int.reduceLE, Int.reduceToNat, Int.reduceAdd, Int.reduceSub, Int.reduceMul, Int.reduceNeg, Nat.reduceAdd, Nat.reduceMul, Nat.reduceEqDiff, Nat.reduceLT, Int.cast_ofNat_Int, Int.lt_irrefl, Bool.false_eq_true, ↓reduceIte, ↓reduceDIte, zbI, zbL, zbA, zbV, qrg, qrg2, qnn, qz, zup_at, zup_r, zup_ne, true_and, and_true, true_or, or_true, and_self, or_self, false_or, or_false, false_and, and_false, Int.toNat_natCast, Int.toNat_add, Int.toNat_mul, Int.toNat_zero, Int.toNat_one, qtn, Int.natCast_add, qnat1, qnat0, ne_eq, not_true_eq_false, not_false_eq_true, eq_self, qbool]
theorem km_canPass (hF : qFx S R) (hA : qIn (M 306)) {w0 : qWt} (ht0 : qTN (M 308) (M 306 3) w0) (v w u : Int) : ∃ M1, qX3 M M1 ∧ (qcP (M 306) w0 v w u → zcal zPP (d + 9) 255 [zA 305, zI v, zI w, zI u] (n, s, S, R, M) = some (zI 1, (n, s, S, R, M1))) ∧ (¬ qcP (M 306) w0 v w u → zcal zPP (d + 9) 255 [zA 305, zI v, zI w, zI u] (n, s, S, R, M) = some (zI 0, (n, s, S, R, M1))) := by
  have hA5 := hA.1.2
  obtain ⟨hh1, hh2⟩ := km_isLent (n := n) (s := s) (d := d + 4) (M := M) hF hA v w
  by_cases hl : qLent (M 306) v w
  · have hh := hh1 hl
    have hb := hl.2.1
    obtain ⟨o, rfl⟩ := Int.eq_ofNat_of_zero_le hl.1.1
    obtain ⟨y, rfl⟩ := Int.eq_ofNat_of_zero_le hl.2.1.1
    have hy : y < 24 := by omega
    have hgt := km_get (n := n) (s := s) (d := d + 7) (M := M) hF (show o < 5 by have := hl.1; omega) hy
    by_cases hu : 0 ≤ u ∧ u < M 306 1
    · obtain ⟨p, rfl⟩ := Int.eq_ofNat_of_zero_le hu.1
      have hp1 := km_isPerson (n := n) (s := s) (d := d + 6) (M := M) hF hA (p : Int)
      rw [if_pos hu] at hp1
      have hp5 := hA.2.1.2
      by_cases hu3 : M 306 (11 + 24 * o + y) = 3 + p
      · refine ⟨M, qX3_r M, fun hc => ?_, fun _ => ?_⟩
        · have := hc.2.2.1
          rw [Int.toNat_natCast, Int.toNat_natCast] at this
          exact absurd hu3 this
        · rw [c_M_canPass]
          simp (disch := omega) only [hh, hp1, hgt, qff hF, qltT, qltF, qleT, qleF, qeqT, qeqF, Int.reduceEq, Int.reduceNe, Int.reduceLT, Int.reduceLE, Int.reduceToNat, Int.reduceAdd, Int.reduceSub, Int.reduceMul, Int.reduceNeg, Nat.reduceAdd, Nat.reduceMul, Nat.reduceEqDiff, Nat.reduceLT, Int.cast_ofNat_Int, Int.lt_irrefl, Bool.false_eq_true, ↓reduceIte, ↓reduceDIte, zbI, zbL, zbA, zbV, qrg, qrg2, qnn, qz, zup_at, zup_r, zup_ne, true_and, and_true, true_or, or_true, and_self, or_self, false_or, or_false, false_and, and_false, Int.toNat_natCast, Int.toNat_add, Int.toNat_mul, Int.toNat_zero, Int.toNat_one, qtn, Int.natCast_add, qnat1, qnat0, ne_eq, not_true_eq_false, not_false_eq_true, eq_self, qbool]
      · obtain ⟨M2, h2, h3⟩ := km_lendsOf (n := n) (s := s) (d := d) (M := M) (o := o) (y := y) (p := p) hF hA hl.1.2 hy hu.2 ht0
        refine ⟨M2, h3, fun hc => ?_, fun hc => ?_⟩
        · have hz := hc.2.2.2
          rw [Int.toNat_natCast, Int.toNat_natCast, Int.toNat_natCast] at hz
          rw [c_M_canPass]
          simp (disch := omega) only [hh, hp1, hgt, h2, hz, qff hF, qltT, qltF, qleT, qleF, qeqT, qeqF, Int.reduceEq, Int.reduceNe, Int.reduceLT, Int.reduceLE, Int.reduceToNat, Int.reduceAdd, Int.reduceSub, Int.reduceMul, Int.reduceNeg, Nat.reduceAdd, Nat.reduceMul, Nat.reduceEqDiff, Nat.reduceLT, Int.cast_ofNat_Int, Int.lt_irrefl, Bool.false_eq_true, ↓reduceIte, ↓reduceDIte, zbI, zbL, zbA, zbV, qrg, qrg2, qnn, qz, zup_at, zup_r, zup_ne, true_and, and_true, true_or, or_true, and_self, or_self, false_or, or_false, false_and, and_false, Int.toNat_natCast, Int.toNat_add, Int.toNat_mul, Int.toNat_zero, Int.toNat_one, qtn, Int.natCast_add, qnat1, qnat0, ne_eq, not_true_eq_false, not_false_eq_true, eq_self, qbool]
        · have hz : ¬ 0 < qLaw w0 (qEn (M 306) o y p) 0 (M 306 (136 + y)) := fun z => hc ⟨hl, hu, by rw [Int.toNat_natCast, Int.toNat_natCast]; exact hu3, by rw [Int.toNat_natCast, Int.toNat_natCast, Int.toNat_natCast]; exact z⟩
          rw [c_M_canPass]
          simp (disch := omega) only [hh, hp1, hgt, h2, hz, qff hF, qltT, qltF, qleT, qleF, qeqT, qeqF, Int.reduceEq, Int.reduceNe, Int.reduceLT, Int.reduceLE, Int.reduceToNat, Int.reduceAdd, Int.reduceSub, Int.reduceMul, Int.reduceNeg, Nat.reduceAdd, Nat.reduceMul, Nat.reduceEqDiff, Nat.reduceLT, Int.cast_ofNat_Int, Int.lt_irrefl, Bool.false_eq_true, ↓reduceIte, ↓reduceDIte, zbI, zbL, zbA, zbV, qrg, qrg2, qnn, qz, zup_at, zup_r, zup_ne, true_and, and_true, true_or, or_true, and_self, or_self, false_or, or_false, false_and, and_false, Int.toNat_natCast, Int.toNat_add, Int.toNat_mul, Int.toNat_zero, Int.toNat_one, qtn, Int.natCast_add, qnat1, qnat0, ne_eq, not_true_eq_false, not_false_eq_true, eq_self, qbool]
    · refine ⟨M, qX3_r M, fun hc => absurd hc.2.1 hu, fun _ => ?_⟩
      have hp1 := km_isPerson (n := n) (s := s) (d := d + 6) (M := M) hF hA u
      rw [if_neg hu] at hp1
      rw [c_M_canPass]
      simp (disch := omega) only [hh, hp1, qff hF, qltT, qltF, qleT, qleF, qeqT, qeqF, Int.reduceEq, Int.reduceNe, Int.reduceLT, Int.reduceLE, Int.reduceToNat, Int.reduceAdd, Int.reduceSub, Int.reduceMul, Int.reduceNeg, Nat.reduceAdd, Nat.reduceMul, Nat.reduceEqDiff, Nat.reduceLT, Int.cast_ofNat_Int, Int.lt_irrefl, Bool.false_eq_true, ↓reduceIte, ↓reduceDIte, zbI, zbL, zbA, zbV, qrg, qrg2, qnn, qz, zup_at, zup_r, zup_ne, true_and, and_true, true_or, or_true, and_self, or_self, false_or, or_false, false_and, and_false, Int.toNat_natCast, Int.toNat_add, Int.toNat_mul, Int.toNat_zero, Int.toNat_one, qtn, Int.natCast_add, qnat1, qnat0, ne_eq, not_true_eq_false, not_false_eq_true, eq_self, qbool]
  · refine ⟨M, qX3_r M, fun hc => absurd hc.1 hl, fun _ => ?_⟩
    rw [c_M_canPass]
    simp (disch := omega) only [hh2 hl, qff hF, qltT, qltF, qleT, qleF, qeqT, qeqF, Int.reduceEq, Int.reduceNe, Int.reduceLT, Int.reduceLE, Int.reduceToNat, Int.reduceAdd, Int.reduceSub, Int.reduceMul, Int.reduceNeg, Nat.reduceAdd, Nat.reduceMul, Nat.reduceEqDiff, Nat.reduceLT, Int.cast_ofNat_Int, Int.lt_irrefl, Bool.false_eq_true, ↓reduceIte, ↓reduceDIte, zbI, zbL, zbA, zbV, qrg, qrg2, qnn, qz, zup_at, zup_r, zup_ne, true_and, and_true, true_or, or_true, and_self, or_self, false_or, or_false, false_and, and_false, Int.toNat_natCast, Int.toNat_add, Int.toNat_mul, Int.toNat_zero, Int.toNat_one, qtn, Int.natCast_add, qnat1, qnat0, ne_eq, not_true_eq_false, not_false_eq_true, eq_self, qbool]
end QF
