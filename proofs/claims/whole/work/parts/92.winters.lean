/-! WINTERS: both sides -/
theorem qwd6 {x : Nat} (h : x < 30689) : zw32 (((x : Nat) : Int).tdiv 6) = ((x / 6 : Nat) : Int) := by
  have : ((x : Nat) : Int).tdiv 6 = ((x / 6 : Nat) : Int) := rfl
  rw [this]
  exact qz (by omega) (by omega)
theorem qwd5 {x : Nat} (h : x < 30689) : zw32 (((x : Nat) : Int).tdiv 5) = ((x / 5 : Nat) : Int) := by
  have : ((x : Nat) : Int).tdiv 5 = ((x / 5 : Nat) : Int) := rfl
  rw [this]
  exact qz (by omega) (by omega)
section QF
variable {S : Nat → Nat × Nat} {R : Nat → Nat → Nat} {M M' M0 M1 : Nat → Nat → Int} {n s d r : Nat} {A : Nat → Int} {W : Nat → qWt} {w0 w : qWt} {fl : Bool}
theorem vx_canLend (hF : qFx S R) (hS : qSt M) (hq : qTn S R M (qVr R A) w0) (ht : qTo M 10 A) (v w u : Int) : ∃ M1, qX2 M M1 ∧ (qcL (A) w0 v w u → zcal zPP (d + 7) 30 [zA 9, zI v, zI w, zI u] (n, s, S, R, M) = some (zI 1, (n, s, S, R, M1))) ∧ (¬ qcL (A) w0 v w u → zcal zPP (d + 7) 30 [zA 9, zI v, zI w, zI u] (n, s, S, R, M) = some (zI 0, (n, s, S, R, M1))) := by
  have hA := ht.2.2.2
  have hT := ht.1
  have hg : qRg M 21 (qg A) := ht.2.1.1
  have hC : qCE S R M 21 A := ⟨hT, hA, Or.inl rfl, hF.1.2.1.1.2.2.1, hg, ht.2.1.2.1.2.2.1⟩
  by_cases hv : (0 ≤ v ∧ v < A 0) ∧ (0 ≤ w ∧ w < 24) ∧ A (11 + 24 * v.toNat + w.toNat) ≠ 0
  · by_cases hu : 0 ≤ u ∧ u < A 1
    · obtain ⟨o, rfl⟩ := Int.eq_ofNat_of_zero_le hv.1.1
      obtain ⟨y, rfl⟩ := Int.eq_ofNat_of_zero_le hv.2.1.1
      obtain ⟨p, rfl⟩ := Int.eq_ofNat_of_zero_le hu.1
      have hy : y < 24 := by omega
      rw [Int.toNat_natCast, Int.toNat_natCast] at hv
      have hr1 := kx_hadRing (n := n) (s := s) (d := d + 4) (M := M) hF hT hA (o : Int) (y : Int)
      rw [Int.toNat_natCast, Int.toNat_natCast, if_pos hv] at hr1
      have hp1 := kx_hasPerson (n := n) (s := s) (d := d + 5) (M := M) hF hT hA (p : Int)
      rw [if_pos hu] at hp1
      have hf1 := kx_isFenced (n := n) (s := s) (d := d + 3) (M := M) hF hT hA hg hv.1.2
      by_cases h9 : qic (A) o ≤ 9
      · rw [if_pos h9] at hf1
        refine ⟨M, qX2_r M, fun hc => ?_, fun _ => ?_⟩
        · have := hc.2.2.1
          rw [Int.toNat_natCast] at this
          omega
        · rw [c_X_canLend]
          simp (disch := omega) only [hr1, hp1, hf1, qff hF, qltT, qltF, qleT, qleF, qeqT, qeqF, Int.reduceEq, Int.reduceNe, Int.reduceLT, Int.reduceLE, Int.reduceToNat, Int.reduceAdd, Int.reduceSub, Int.reduceMul, Int.reduceNeg, Nat.reduceAdd, Nat.reduceMul, Nat.reduceEqDiff, Nat.reduceLT, Int.cast_ofNat_Int, Int.lt_irrefl, Bool.false_eq_true, ↓reduceIte, ↓reduceDIte, zbI, zbL, zbA, zbV, qrg, qrg2, qnn, qz, zup_at, zup_r, zup_ne, true_and, and_true, true_or, or_true, and_self, or_self, false_or, or_false, false_and, and_false, Int.toNat_natCast, Int.toNat_add, Int.toNat_mul, Int.toNat_zero, Int.toNat_one, qtn, Int.natCast_add, qnat1, qnat0, ne_eq, not_true_eq_false, not_false_eq_true, eq_self, qbool]
      · rw [if_neg h9] at hf1
        have hi1 := kx_inOak (n := n) (s := s) (d := d + 4) (M := M) hF hT hA hg hv.1.2
        have hbit : zand (zshr ((qin (A) o : Nat) : Int) y) 1 = if decide (A (11 + 24 * o + y) = 1) = true then 1 else 0 := zsn_bit24 _ hy
        by_cases h1 : A (11 + 24 * o + y) = 1
        · rw [if_pos (decide_eq_true h1)] at hbit
          have hq1 := vx_ruler (n := n) (s := s) (d := d + 4) (M := M) hF hT hA
          obtain ⟨M2, h2, h3⟩ := kj_says (n := n) (s := s) (d := d) (L := 0) hF hS hq hC (by decide) hv.1.2 hy hu.2
          have h2' : zcal zPP (d + 6) 96 [zA 284, zI 0, zA (qVr R A), zA 21, zI o, zI y, zI p] (n, s, S, R, M) = some (zI (qLaw w0 (qEn (A) o y p) 0 (A (136 + y))), (n, s, S, R, M2)) := h2
          refine ⟨M2, h3, fun hc => ?_, fun hc => ?_⟩
          · have hl := hc.2.2.2.2
            rw [Int.toNat_natCast, Int.toNat_natCast, Int.toNat_natCast] at hl
            rw [c_X_canLend]
            simp (disch := omega) only [hr1, hp1, hf1, hi1, hbit, hq1, h2', hl, qff hF, qltT, qltF, qleT, qleF, qeqT, qeqF, Int.reduceEq, Int.reduceNe, Int.reduceLT, Int.reduceLE, Int.reduceToNat, Int.reduceAdd, Int.reduceSub, Int.reduceMul, Int.reduceNeg, Nat.reduceAdd, Nat.reduceMul, Nat.reduceEqDiff, Nat.reduceLT, Int.cast_ofNat_Int, Int.lt_irrefl, Bool.false_eq_true, ↓reduceIte, ↓reduceDIte, zbI, zbL, zbA, zbV, qrg, qrg2, qnn, qz, zup_at, zup_r, zup_ne, true_and, and_true, true_or, or_true, and_self, or_self, false_or, or_false, false_and, and_false, Int.toNat_natCast, Int.toNat_add, Int.toNat_mul, Int.toNat_zero, Int.toNat_one, qtn, Int.natCast_add, qnat1, qnat0, ne_eq, not_true_eq_false, not_false_eq_true, eq_self, qbool]
          · have hl : ¬ 0 < qLaw w0 (qEn (A) o y p) 0 (A (136 + y)) := fun z => hc ⟨⟨hv.1, hv.2.1, by rw [Int.toNat_natCast, Int.toNat_natCast]; exact hv.2.2⟩, hu, by rw [Int.toNat_natCast]; omega, by rw [Int.toNat_natCast, Int.toNat_natCast]; exact h1, by rw [Int.toNat_natCast, Int.toNat_natCast, Int.toNat_natCast]; exact z⟩
            rw [c_X_canLend]
            simp (disch := omega) only [hr1, hp1, hf1, hi1, hbit, hq1, h2', hl, qff hF, qltT, qltF, qleT, qleF, qeqT, qeqF, Int.reduceEq, Int.reduceNe, Int.reduceLT, Int.reduceLE, Int.reduceToNat, Int.reduceAdd, Int.reduceSub, Int.reduceMul, Int.reduceNeg, Nat.reduceAdd, Nat.reduceMul, Nat.reduceEqDiff, Nat.reduceLT, Int.cast_ofNat_Int, Int.lt_irrefl, Bool.false_eq_true, ↓reduceIte, ↓reduceDIte, zbI, zbL, zbA, zbV, qrg, qrg2, qnn, qz, zup_at, zup_r, zup_ne, true_and, and_true, true_or, or_true, and_self, or_self, false_or, or_false, false_and, and_false, Int.toNat_natCast, Int.toNat_add, Int.toNat_mul, Int.toNat_zero, Int.toNat_one, qtn, Int.natCast_add, qnat1, qnat0, ne_eq, not_true_eq_false, not_false_eq_true, eq_self, qbool]
        · rw [if_neg (fun z => h1 (of_decide_eq_true z))] at hbit
          refine ⟨M, qX2_r M, fun hc => ?_, fun _ => ?_⟩
          · have := hc.2.2.2.1
            rw [Int.toNat_natCast, Int.toNat_natCast] at this
            exact absurd this h1
          · rw [c_X_canLend]
            simp (disch := omega) only [hr1, hp1, hf1, hi1, hbit, qff hF, qltT, qltF, qleT, qleF, qeqT, qeqF, Int.reduceEq, Int.reduceNe, Int.reduceLT, Int.reduceLE, Int.reduceToNat, Int.reduceAdd, Int.reduceSub, Int.reduceMul, Int.reduceNeg, Nat.reduceAdd, Nat.reduceMul, Nat.reduceEqDiff, Nat.reduceLT, Int.cast_ofNat_Int, Int.lt_irrefl, Bool.false_eq_true, ↓reduceIte, ↓reduceDIte, zbI, zbL, zbA, zbV, qrg, qrg2, qnn, qz, zup_at, zup_r, zup_ne, true_and, and_true, true_or, or_true, and_self, or_self, false_or, or_false, false_and, and_false, Int.toNat_natCast, Int.toNat_add, Int.toNat_mul, Int.toNat_zero, Int.toNat_one, qtn, Int.natCast_add, qnat1, qnat0, ne_eq, not_true_eq_false, not_false_eq_true, eq_self, qbool]
    · refine ⟨M, qX2_r M, fun hc => absurd hc.2.1 hu, fun _ => ?_⟩
      rw [c_X_canLend]
      simp only [qff hF, if_true, kx_hadRing hF hT hA, if_pos hv, zbI]
      rw [if_neg (by decide)]
      simp only [kx_hasPerson hF hT hA, zbI, if_neg hu, if_true]
  · refine ⟨M, qX2_r M, fun hc => absurd hc.1 hv, fun _ => ?_⟩
    rw [c_X_canLend]
    simp only [qff hF, if_true, kx_hadRing hF hT hA, if_neg hv, zbI]
theorem vx_canPass (hF : qFx S R) (hS : qSt M) (hq : qTn S R M (qVr R A) w0) (ht : qTo M 10 A) (v w u : Int) : ∃ M1, qX2 M M1 ∧ (qcP (A) w0 v w u → zcal zPP (d + 7) 33 [zA 9, zI v, zI w, zI u] (n, s, S, R, M) = some (zI 1, (n, s, S, R, M1))) ∧ (¬ qcP (A) w0 v w u → zcal zPP (d + 7) 33 [zA 9, zI v, zI w, zI u] (n, s, S, R, M) = some (zI 0, (n, s, S, R, M1))) := by
  have hA := ht.2.2.2
  have hT := ht.1
  have hg : qRg M 21 (qg A) := ht.2.1.1
  have hC : qCE S R M 21 A := ⟨hT, hA, Or.inl rfl, hF.1.2.1.1.2.2.1, hg, ht.2.1.2.1.2.2.1⟩
  have hA5 := hA.1.2
  obtain ⟨hh1, hh2⟩ := kx_holder (n := n) (s := s) (d := d + 4) (M := M) hF hA hg v w
  by_cases hl : qLent (A) v w
  · have hh := hh1 hl
    have hl3 := hl.2.2
    obtain ⟨o, rfl⟩ := Int.eq_ofNat_of_zero_le hl.1.1
    obtain ⟨y, rfl⟩ := Int.eq_ofNat_of_zero_le hl.2.1.1
    rw [Int.toNat_natCast, Int.toNat_natCast] at hh hl3
    by_cases hu3 : A (11 + 24 * o + y) = 3 + u
    · refine ⟨M, qX2_r M, fun hc => ?_, fun _ => ?_⟩
      · have := hc.2.2.1
        rw [Int.toNat_natCast, Int.toNat_natCast] at this
        exact absurd hu3 this
      · rw [c_X_canPass]
        simp (disch := omega) only [hh, qff hF, qltT, qltF, qleT, qleF, qeqT, qeqF, Int.reduceEq, Int.reduceNe, Int.reduceLT, Int.reduceLE, Int.reduceToNat, Int.reduceAdd, Int.reduceSub, Int.reduceMul, Int.reduceNeg, Nat.reduceAdd, Nat.reduceMul, Nat.reduceEqDiff, Nat.reduceLT, Int.cast_ofNat_Int, Int.lt_irrefl, Bool.false_eq_true, ↓reduceIte, ↓reduceDIte, zbI, zbL, zbA, zbV, qrg, qrg2, qnn, qz, zup_at, zup_r, zup_ne, true_and, and_true, true_or, or_true, and_self, or_self, false_or, or_false, false_and, and_false, Int.toNat_natCast, Int.toNat_add, Int.toNat_mul, Int.toNat_zero, Int.toNat_one, qtn, Int.natCast_add, qnat1, qnat0, ne_eq, not_true_eq_false, not_false_eq_true, eq_self, qbool]
    · by_cases hu : 0 ≤ u ∧ u < A 1
      · obtain ⟨p, rfl⟩ := Int.eq_ofNat_of_zero_le hu.1
        have hp1 := kx_hasPerson (n := n) (s := s) (d := d + 5) (M := M) hF hT hA (p : Int)
        rw [if_pos hu] at hp1
        have hq1 := vx_ruler (n := n) (s := s) (d := d + 4) (M := M) hF hT hA
        obtain ⟨M2, h2, h3⟩ := kj_says (n := n) (s := s) (d := d) (L := 0) hF hS hq hC (by decide) hl.1.2 (show y < 24 by have := hl.2.1; omega) hu.2
        have h2' : zcal zPP (d + 6) 96 [zA 284, zI 0, zA (qVr R A), zA 21, zI o, zI y, zI p] (n, s, S, R, M) = some (zI (qLaw w0 (qEn (A) o y p) 0 (A (136 + y))), (n, s, S, R, M2)) := h2
        refine ⟨M2, h3, fun hc => ?_, fun hc => ?_⟩
        · have hz := hc.2.2.2
          rw [Int.toNat_natCast, Int.toNat_natCast, Int.toNat_natCast] at hz
          rw [c_X_canPass]
          simp (disch := omega) only [hh, hp1, hq1, h2', hz, qff hF, qltT, qltF, qleT, qleF, qeqT, qeqF, Int.reduceEq, Int.reduceNe, Int.reduceLT, Int.reduceLE, Int.reduceToNat, Int.reduceAdd, Int.reduceSub, Int.reduceMul, Int.reduceNeg, Nat.reduceAdd, Nat.reduceMul, Nat.reduceEqDiff, Nat.reduceLT, Int.cast_ofNat_Int, Int.lt_irrefl, Bool.false_eq_true, ↓reduceIte, ↓reduceDIte, zbI, zbL, zbA, zbV, qrg, qrg2, qnn, qz, zup_at, zup_r, zup_ne, true_and, and_true, true_or, or_true, and_self, or_self, false_or, or_false, false_and, and_false, Int.toNat_natCast, Int.toNat_add, Int.toNat_mul, Int.toNat_zero, Int.toNat_one, qtn, Int.natCast_add, qnat1, qnat0, ne_eq, not_true_eq_false, not_false_eq_true, eq_self, qbool]
        · have hz : ¬ 0 < qLaw w0 (qEn (A) o y p) 0 (A (136 + y)) := fun z => hc ⟨hl, hu, by rw [Int.toNat_natCast, Int.toNat_natCast]; exact hu3, by rw [Int.toNat_natCast, Int.toNat_natCast, Int.toNat_natCast]; exact z⟩
          rw [c_X_canPass]
          simp (disch := omega) only [hh, hp1, hq1, h2', hz, qff hF, qltT, qltF, qleT, qleF, qeqT, qeqF, Int.reduceEq, Int.reduceNe, Int.reduceLT, Int.reduceLE, Int.reduceToNat, Int.reduceAdd, Int.reduceSub, Int.reduceMul, Int.reduceNeg, Nat.reduceAdd, Nat.reduceMul, Nat.reduceEqDiff, Nat.reduceLT, Int.cast_ofNat_Int, Int.lt_irrefl, Bool.false_eq_true, ↓reduceIte, ↓reduceDIte, zbI, zbL, zbA, zbV, qrg, qrg2, qnn, qz, zup_at, zup_r, zup_ne, true_and, and_true, true_or, or_true, and_self, or_self, false_or, or_false, false_and, and_false, Int.toNat_natCast, Int.toNat_add, Int.toNat_mul, Int.toNat_zero, Int.toNat_one, qtn, Int.natCast_add, qnat1, qnat0, ne_eq, not_true_eq_false, not_false_eq_true, eq_self, qbool]
      · refine ⟨M, qX2_r M, fun hc => absurd hc.2.1 hu, fun _ => ?_⟩
        have hp1 := kx_hasPerson (n := n) (s := s) (d := d + 5) (M := M) hF hT hA u
        rw [if_neg hu] at hp1
        rw [c_X_canPass]
        simp (disch := omega) only [hh, hp1, qff hF, qltT, qltF, qleT, qleF, qeqT, qeqF, Int.reduceEq, Int.reduceNe, Int.reduceLT, Int.reduceLE, Int.reduceToNat, Int.reduceAdd, Int.reduceSub, Int.reduceMul, Int.reduceNeg, Nat.reduceAdd, Nat.reduceMul, Nat.reduceEqDiff, Nat.reduceLT, Int.cast_ofNat_Int, Int.lt_irrefl, Bool.false_eq_true, ↓reduceIte, ↓reduceDIte, zbI, zbL, zbA, zbV, qrg, qrg2, qnn, qz, zup_at, zup_r, zup_ne, true_and, and_true, true_or, or_true, and_self, or_self, false_or, or_false, false_and, and_false, Int.toNat_natCast, Int.toNat_add, Int.toNat_mul, Int.toNat_zero, Int.toNat_one, qtn, Int.natCast_add, qnat1, qnat0, ne_eq, not_true_eq_false, not_false_eq_true, eq_self, qbool]
  · refine ⟨M, qX2_r M, fun hc => absurd hc.1 hl, fun _ => ?_⟩
    rw [c_X_canPass]
    simp (disch := omega) only [hh2 hl, qff hF, qltT, qltF, qleT, qleF, qeqT, qeqF, Int.reduceEq, Int.reduceNe, Int.reduceLT, Int.reduceLE, Int.reduceToNat, Int.reduceAdd, Int.reduceSub, Int.reduceMul, Int.reduceNeg, Nat.reduceAdd, Nat.reduceMul, Nat.reduceEqDiff, Nat.reduceLT, Int.cast_ofNat_Int, Int.lt_irrefl, Bool.false_eq_true, ↓reduceIte, ↓reduceDIte, zbI, zbL, zbA, zbV, qrg, qrg2, qnn, qz, zup_at, zup_r, zup_ne, true_and, and_true, true_or, or_true, and_self, or_self, false_or, or_false, false_and, and_false, Int.toNat_natCast, Int.toNat_add, Int.toNat_mul, Int.toNat_zero, Int.toNat_one, qtn, Int.natCast_add, qnat1, qnat0, ne_eq, not_true_eq_false, not_false_eq_true, eq_self, qbool]
theorem qTo_X2 (h : qX2 M M1) (ht : qTo M 10 A) : qTo M1 10 A := qTo_x (fun a x y => h a (by omega) (by omega)) ht
theorem qXt_X2 (h : qX2 M M1) : qXt M M1 := fun a _ x y => h a x y
theorem qTo_rg (hM : ∀ a, a ≠ 22 → M1 a = M a) (hg : qRg M1 21 (qg A)) (ht : qTo M 10 A) : qTo M1 10 A := by
  obtain ⟨h1, ⟨h2, h3, h4⟩, h5, h6⟩ := ht
  refine ⟨qTw_x (fun a x y => hM a (by omega)) h1, ⟨hg, ?_, ?_⟩, qSp_x (fun a x y => hM a (by omega)) h5, h6⟩
  · rw [hM _ (by decide)]; exact h3
  · rw [hM _ (by decide)]; exact h4
theorem vx_give (hF : qFx S R) (ht : qTo M 10 A) {o y p : Nat} (ho : (o : Int) < A 0) (hy : y < 24) (hp : (p : Int) < A 1) (h0 : A (11 + 24 * o + y) ≠ 0) (h2 : A (11 + 24 * o + y) ≠ 2) : ∃ M', zcal zPP (d + 3) 139 [zA 21, zI o, zI y, zI p] (n, s, S, R, M) = some (zU, (n, s, S, R, M')) ∧ qTo M' 10 (qup A (11 + 24 * o + y) (3 + p)) ∧ ∀ a, a ≠ 22 → M' a = M a := by
  have hA := ht.2.2.2
  have hA5 := hA.1.2
  have hp5 := hA.2.1.2
  obtain ⟨M2, g1, g2, g3⟩ := kr_give (n := n) (s := s) (d := d) (M := M) hF.1.2.1.1.2.2.1 ht.2.1.1 (show o < 5 by omega) hy (show p < 5 by omega) (by rw [qg_in ho]; exact h2)
  refine ⟨M2, g1, qTo_put (M := M) ho hy h0 ⟨by omega, by omega⟩ (fun a a1 _ => g3 a a1) (qRg_cong (fun o' y' h1 h2 => ?_) g2) ht, g3⟩
  rw [qg_put ho (show o < 5 by omega) hy o' y' h1 h2]
theorem vx_bring (hF : qFx S R) (ht : qTo M 10 A) {o y : Nat} (ho : (o : Int) < A 0) (hy : y < 24) : ∃ M', zcal zPP (d + 2) 140 [zA 21, zI o, zI y] (n, s, S, R, M) = some (zU, (n, s, S, R, M')) ∧ qTo M' 10 (if 3 ≤ A (11 + 24 * o + y) then qup A (11 + 24 * o + y) 1 else A) ∧ ∀ a, a ≠ 22 → M' a = M a := by
  have hA := ht.2.2.2
  have hA5 := hA.1.2
  have hp0 := hA.2.1.1
  obtain ⟨M2, g1, g2, g3⟩ := kr_bring (n := n) (s := s) (d := d) (M := M) hF.1.2.1.1.2.2.1 ht.2.1.1 (show o < 5 by omega) hy
  have g3 : ∀ a, a ≠ 22 → M2 a = M a := g3
  by_cases h3 : 3 ≤ A (11 + 24 * o + y)
  · rw [if_pos h3]
    refine ⟨M2, g1, qTo_put (M := M) ho hy (by omega) ⟨by omega, by omega⟩ (fun a a1 _ => g3 a a1) (qRg_cong (fun o' y' h1 h2 => ?_) g2) ht, g3⟩
    rw [qg_put ho (show o < 5 by omega) hy o' y' h1 h2]
    by_cases h : o' = o ∧ y' = y
    · rw [if_pos h, if_pos ⟨h.1, h.2, by rw [qg_in ho]; exact h3⟩]
    · rw [if_neg h, if_neg (fun z => h ⟨z.1, z.2.1⟩)]
  · rw [if_neg h3]
    refine ⟨M2, g1, qTo_rg g3 (qRg_cong (fun o' y' h1 h2 => ?_) g2) ht, g3⟩
    rw [if_neg (fun z => h3 (by rw [qg_in ho] at z; exact z.2.2))]
noncomputable def qgv (c : Prop) (A : Nat → Int) (k : Nat) (v : Int) : Nat → Int := @ite _ c (Classical.propDecidable c) (qup A k v) A
theorem qgv_y {c : Prop} {k : Nat} {v : Int} (h : c) : qgv c A k v = qup A k v := by unfold qgv; exact if_pos h
theorem qgv_n {c : Prop} {k : Nat} {v : Int} (h : ¬ c) : qgv c A k v = A := by unfold qgv; exact if_neg h
/-- what a draw of WINTERS does to RINGS -/
noncomputable def qwr (w : qWt) (x : Nat) (A : Nat → Int) : Nat → Int :=
  if A 0 = 0 then A
  else if x % 6 = 3 then (if 3 ≤ A (11 + 24 * (x % (A 0).toNat) + x / 6 % 24) then qup A (11 + 24 * (x % (A 0).toNat) + x / 6 % 24) 1 else A)
  else if A 1 = 0 then A
  else if x % 6 = 4 then qgv (qcP A w ((x % (A 0).toNat : Nat) : Int) ((x / 6 % 24 : Nat) : Int) ((x / 5 % (A 1).toNat : Nat) : Int)) A (11 + 24 * (x % (A 0).toNat) + x / 6 % 24) (3 + ((x / 5 % (A 1).toNat : Nat) : Int))
  else qgv (qcL A w ((x % (A 0).toNat : Nat) : Int) ((x / 6 % 24 : Nat) : Int) ((x % (A 1).toNat : Nat) : Int)) A (11 + 24 * (x % (A 0).toNat) + x / 6 % 24) (3 + ((x % (A 1).toNat : Nat) : Int))
noncomputable def qwn (w : qWt) (x : Nat) (A : Nat → Int) : Nat → Int := if x % 6 = 5 then (if 9999 < A 7 + 30 then A else (qdn w true 30 (A, 0)).1) else qwr w x A
noncomputable def qws (w : qWt) : Nat → (Nat → Int) → (Nat → Int)
  | 0, A => A
  | k + 1, A => qwn w (qws w k A 9).toNat (qup (qws w k A) 9 (qnx (qws w k A 9)))
theorem qKs_put (hI : qIn A) {o y : Nat} {v : Int} (ho : o < 5) (hy : y < 24) (h0 : A (11 + 24 * o + y) ≠ 0) (hv : 1 ≤ v ∧ v < 3 + A 1) : qKs A (qup A (11 + 24 * o + y) v) := by
  have e : ∀ k, k ≠ 11 + 24 * o + y → qup A (11 + 24 * o + y) v k = A k := fun k hk => qup_ne hk
  refine ⟨fun k a b c d f g => e k (by omega), fun o' y' h1 h2 => ?_, ?_⟩
  · by_cases h : 11 + 24 * o' + y' = 11 + 24 * o + y
    · rw [h, qup_at]
      constructor
      · intro h; omega
      · intro h; exact absurd h h0
    · rw [e _ h]
  · refine qIn_cong (fun k a b c => e k (by omega)) (by rw [e 4 (by omega)]; exact hI.2.2.2.2.1) (by rw [e 7 (by omega)]; exact hI.2.2.2.2.2.2.2.1) (by rw [e 8 (by omega)]; exact hI.2.2.2.2.2.2.2.2.1) (by rw [e 9 (by omega)]; exact hI.2.2.2.2.2.2.2.2.2.1) (by rw [e 10 (by omega)]; exact hI.2.2.2.2.2.2.2.2.2.2.1) (fun o' y' h1 h2 => ?_) hI
    by_cases h : 11 + 24 * o' + y' = 11 + 24 * o + y
    · rw [h, qup_at]; omega
    · rw [e _ h]; exact hI.2.2.2.2.2.2.2.2.2.2.2.1 o' y' h1 h2
theorem qwr_Ks (hI : qIn A) (x : Nat) : qKs A (qwr w x A) := by
  have hA := hI.1
  have hp := hI.2.1
  unfold qwr
  by_cases h0 : A 0 = 0
  · rw [if_pos h0]; exact qKs_r hI
  rw [if_neg h0]
  have ho : x % (A 0).toNat < (A 0).toNat := Nat.mod_lt _ (by omega)
  have hy : x / 6 % 24 < 24 := Nat.mod_lt _ (by decide)
  generalize x % (A 0).toNat = o at *
  generalize x / 6 % 24 = y at *
  by_cases h3 : x % 6 = 3
  · rw [if_pos h3]
    by_cases h4 : 3 ≤ A (11 + 24 * o + y)
    · rw [if_pos h4]; exact qKs_put hI (by omega) hy (by omega) (by omega)
    · rw [if_neg h4]; exact qKs_r hI
  rw [if_neg h3]
  by_cases h1 : A 1 = 0
  · rw [if_pos h1]; exact qKs_r hI
  rw [if_neg h1]
  have hp1 : x / 5 % (A 1).toNat < (A 1).toNat := Nat.mod_lt _ (by omega)
  have hp2 : x % (A 1).toNat < (A 1).toNat := Nat.mod_lt _ (by omega)
  generalize x / 5 % (A 1).toNat = p1 at *
  generalize x % (A 1).toNat = p2 at *
  by_cases h4 : x % 6 = 4
  · rw [if_pos h4]
    by_cases hc : qcP A w (o : Nat) (y : Nat) (p1 : Nat)
    · rw [qgv_y hc]
      have := hc.1.2.2
      rw [Int.toNat_natCast, Int.toNat_natCast] at this
      exact qKs_put hI (by omega) hy (by omega) (by omega)
    · rw [qgv_n hc]; exact qKs_r hI
  · rw [if_neg h4]
    by_cases hc : qcL A w (o : Nat) (y : Nat) (p2 : Nat)
    · rw [qgv_y hc]
      have := hc.2.2.2.1
      rw [Int.toNat_natCast, Int.toNat_natCast] at this
      exact qKs_put hI (by omega) hy (by omega) (by omega)
    · rw [qgv_n hc]; exact qKs_r hI
theorem qwn_Ks (hI : qIn A) (x : Nat) : qKs A (qwn w x A) := by
  unfold qwn
  split
  · split
    · exact qKs_r hI
    · exact (qdn_Ks (w := w) (fl := true) (X := (A, 0)) hI 30 (by show A 7 + _ ≤ _; omega)).1
  · exact qwr_Ks hI x
theorem qKs_9 (hI : qIn A) {v : Int} (hv : 0 ≤ v ∧ v < 30689) : qKs A (qup A 9 v) := by
  have e : ∀ k, k ≠ 9 → qup A 9 v k = A k := fun k hk => qup_ne hk
  refine ⟨fun k a b c d f g => e k c, fun o' y' h1 h2 => by rw [e _ (by omega)], ?_⟩
  exact qIn_cong (fun k a b c => e k (by omega)) (by rw [e 4 (by omega)]; exact hI.2.2.2.2.1) (by rw [e 7 (by omega)]; exact hI.2.2.2.2.2.2.2.1) (by rw [e 8 (by omega)]; exact hI.2.2.2.2.2.2.2.2.1) (by rw [qup_at]; exact hv) (by rw [e 10 (by omega)]; exact hI.2.2.2.2.2.2.2.2.2.2.1) (fun o' y' h1 h2 => by rw [e _ (by omega)]; exact hI.2.2.2.2.2.2.2.2.2.2.2.1 o' y' h1 h2) hI
theorem qws_Ks (hI : qIn A) : ∀ k, qKs A (qws w k A)
  | 0 => qKs_r hI
  | k + 1 => by
    have h := qws_Ks hI k
    have h9 := qKs_9 h.2.2 (qnx_in h.2.2.2.2.2.2.2.2.2.2.2.1.1)
    exact qKs_t h (qKs_t h9 (qwn_Ks h9.2.2 _))
theorem qmod (x a : Nat) : ((x : Nat) : Int).tmod ((a : Nat) : Int) = ((x % a : Nat) : Int) := rfl
/-- one draw of the class -/
theorem kx_winterRing (hF : qFx S R) (hS : qSt M) (hq : qTn S R M (qVr R A) w) (ht : qTo M 10 A) {x : Nat} (hx : x < 30689) (h5 : x % 6 ≠ 5) :
    ∃ M', zcal zPP (d + 8) 40 [zA 9, zI x] (n, s, S, R, M) = some (zU, (n, s, S, R, M')) ∧ qTo M' 10 (qwr w x A) ∧ qXt M M' := by
  have hA := ht.2.2.2
  obtain ⟨a, ha⟩ := Int.eq_ofNat_of_zero_le hA.1.1
  obtain ⟨b, hb⟩ := Int.eq_ofNat_of_zero_le hA.2.1.1
  have e12 : M 10 12 = a := by rw [← ha]; exact ht.1.1.1
  have e13 : M 10 13 = b := by rw [← hb]; exact ht.1.1.2.1
  have t6 : ((x : Nat) : Int).tmod 6 = ((x % 6 : Nat) : Int) := rfl
  have t24 : ((x / 6 : Nat) : Int).tmod 24 = ((x / 6 % 24 : Nat) : Int) := rfl
  have hy : x / 6 % 24 < 24 := Nat.mod_lt _ (by decide)
  unfold qwr
  by_cases h0 : A 0 = 0
  · rw [if_pos h0]
    refine ⟨M, ?_, ht, fun _ _ _ _ => rfl⟩
    rw [c_X_winterRing]
    simp only [qff hF, if_true, e12]
    rw [if_pos (by omega)]
  rw [if_neg h0, ha, Int.toNat_natCast]
  have ho : x % a < a := Nat.mod_lt _ (by omega)
  have hma : ((x : Nat) : Int).tmod ((a : Nat) : Int) = ((x % a : Nat) : Int) := rfl
  generalize x % a = o at *
  generalize x / 6 % 24 = y at *
  by_cases h3 : x % 6 = 3
  · rw [if_pos h3]
    obtain ⟨M1, m1, m2, m3⟩ := vx_bring (n := n) (s := s) (d := d + 5) hF ht (show (o : Int) < A 0 by omega) hy
    refine ⟨M1, ?_, m2, fun a a1 a2 a3 => m3 a (by omega)⟩
    rw [c_X_winterRing]
    simp (disch := omega) only [e12, hma, qwd6 hx, t24, t6, m1, qff hF, qltT, qltF, qleT, qleF, qeqT, qeqF, Int.reduceEq, Int.reduceNe, Int.reduceLT, Int.reduceLE, Int.reduceToNat, Int.reduceAdd, Int.reduceSub, Int.reduceMul, Int.reduceNeg, Nat.reduceAdd, Nat.reduceMul, Nat.reduceEqDiff, Nat.reduceLT, Int.cast_ofNat_Int, Int.lt_irrefl, Bool.false_eq_true, ↓reduceIte, ↓reduceDIte, zbI, zbL, zbA, zbV, qrg, qrg2, qnn, qz, zup_at, zup_r, zup_ne, true_and, and_true, true_or, or_true, and_self, or_self, false_or, or_false, false_and, and_false, Int.toNat_natCast, Int.toNat_add, Int.toNat_mul, Int.toNat_zero, Int.toNat_one, qtn, Int.natCast_add, qnat1, qnat0, ne_eq, not_true_eq_false, not_false_eq_true, eq_self, qbool]
  rw [if_neg h3]
  by_cases h1 : A 1 = 0
  · rw [if_pos h1]
    refine ⟨M, ?_, ht, fun _ _ _ _ => rfl⟩
    rw [c_X_winterRing]
    simp (disch := omega) only [e12, hma, qwd6 hx, t24, t6, e13, qff hF, qltT, qltF, qleT, qleF, qeqT, qeqF, Int.reduceEq, Int.reduceNe, Int.reduceLT, Int.reduceLE, Int.reduceToNat, Int.reduceAdd, Int.reduceSub, Int.reduceMul, Int.reduceNeg, Nat.reduceAdd, Nat.reduceMul, Nat.reduceEqDiff, Nat.reduceLT, Int.cast_ofNat_Int, Int.lt_irrefl, Bool.false_eq_true, ↓reduceIte, ↓reduceDIte, zbI, zbL, zbA, zbV, qrg, qrg2, qnn, qz, zup_at, zup_r, zup_ne, true_and, and_true, true_or, or_true, and_self, or_self, false_or, or_false, false_and, and_false, Int.toNat_natCast, Int.toNat_add, Int.toNat_mul, Int.toNat_zero, Int.toNat_one, qtn, Int.natCast_add, qnat1, qnat0, ne_eq, not_true_eq_false, not_false_eq_true, eq_self, qbool]
  rw [if_neg h1, hb, Int.toNat_natCast]
  have hp1 : x / 5 % b < b := Nat.mod_lt _ (by omega)
  have hp2 : x % b < b := Nat.mod_lt _ (by omega)
  have hm1 : ((x / 5 : Nat) : Int).tmod ((b : Nat) : Int) = ((x / 5 % b : Nat) : Int) := rfl
  have hm2 : ((x : Nat) : Int).tmod ((b : Nat) : Int) = ((x % b : Nat) : Int) := rfl
  generalize x / 5 % b = p1 at *
  generalize x % b = p2 at *
  by_cases h4 : x % 6 = 4
  · rw [if_pos h4]
    have hR : zcal zPP (d + 8) 40 [zA 9, zI x] (n, s, S, R, M) = zR zPP (d + 7) 40 60 [zA 9, zI x, zI o, zI y, zI 1, zU] [zI p1] (n, s, S, R, M) := by
      rw [c_X_winterRing]
      simp (disch := omega) only [e12, hma, qwd6 hx, t24, t6, e13, qff hF, qltT, qltF, qleT, qleF, qeqT, qeqF, Int.reduceEq, Int.reduceNe, Int.reduceLT, Int.reduceLE, Int.reduceToNat, Int.reduceAdd, Int.reduceSub, Int.reduceMul, Int.reduceNeg, Nat.reduceAdd, Nat.reduceMul, Nat.reduceEqDiff, Nat.reduceLT, Int.cast_ofNat_Int, Int.lt_irrefl, Bool.false_eq_true, ↓reduceIte, ↓reduceDIte, zbI, zbL, zbA, zbV, qrg, qrg2, qnn, qz, zup_at, zup_r, zup_ne, true_and, and_true, true_or, or_true, and_self, or_self, false_or, or_false, false_and, and_false, Int.toNat_natCast, Int.toNat_add, Int.toNat_mul, Int.toNat_zero, Int.toNat_one, qtn, Int.natCast_add, qnat1, qnat0, ne_eq, not_true_eq_false, not_false_eq_true, eq_self, qbool]
      rw [e_X_winterRing_44]
      simp (disch := omega) only [e13, qwd5 hx, hm1, qff hF, qltT, qltF, qleT, qleF, qeqT, qeqF, Int.reduceEq, Int.reduceNe, Int.reduceLT, Int.reduceLE, Int.reduceToNat, Int.reduceAdd, Int.reduceSub, Int.reduceMul, Int.reduceNeg, Nat.reduceAdd, Nat.reduceMul, Nat.reduceEqDiff, Nat.reduceLT, Int.cast_ofNat_Int, Int.lt_irrefl, Bool.false_eq_true, ↓reduceIte, ↓reduceDIte, zbI, zbL, zbA, zbV, qrg, qrg2, qnn, qz, zup_at, zup_r, zup_ne, true_and, and_true, true_or, or_true, and_self, or_self, false_or, or_false, false_and, and_false, Int.toNat_natCast, Int.toNat_add, Int.toNat_mul, Int.toNat_zero, Int.toNat_one, qtn, Int.natCast_add, qnat1, qnat0, ne_eq, not_true_eq_false, not_false_eq_true, eq_self, qbool]
    obtain ⟨M1, c1, c2, c3⟩ := vx_canPass (n := n) (s := s) (d := d) hF hS hq ht (o : Int) (y : Int) (p1 : Int)
    by_cases hc : qcP A w (o : Nat) (y : Nat) (p1 : Nat)
    · have hr := hc.1.2.2
      rw [Int.toNat_natCast, Int.toNat_natCast] at hr
      obtain ⟨M2, g1, g2, g3⟩ := vx_give (n := n) (s := s) (d := d + 4) (p := p1) hF (qTo_X2 c1 ht) (show (o : Int) < A 0 by omega) hy (by omega) (by omega) (by omega)
      rw [qgv_y hc]
      refine ⟨M2, ?_, g2, qXt_t (qXt_X2 c1) (fun a a1 a2 a3 => g3 a (by omega))⟩
      rw [hR, e_X_winterRing_60]
      simp (disch := omega) only [c2 hc, qff hF, qltT, qltF, qleT, qleF, qeqT, qeqF, Int.reduceEq, Int.reduceNe, Int.reduceLT, Int.reduceLE, Int.reduceToNat, Int.reduceAdd, Int.reduceSub, Int.reduceMul, Int.reduceNeg, Nat.reduceAdd, Nat.reduceMul, Nat.reduceEqDiff, Nat.reduceLT, Int.cast_ofNat_Int, Int.lt_irrefl, Bool.false_eq_true, ↓reduceIte, ↓reduceDIte, zbI, zbL, zbA, zbV, qrg, qrg2, qnn, qz, zup_at, zup_r, zup_ne, true_and, and_true, true_or, or_true, and_self, or_self, false_or, or_false, false_and, and_false, Int.toNat_natCast, Int.toNat_add, Int.toNat_mul, Int.toNat_zero, Int.toNat_one, qtn, Int.natCast_add, qnat1, qnat0, ne_eq, not_true_eq_false, not_false_eq_true, eq_self, qbool]
      rw [e_X_winterRing_76]
      simp (disch := omega) only [g1, qff hF, qltT, qltF, qleT, qleF, qeqT, qeqF, Int.reduceEq, Int.reduceNe, Int.reduceLT, Int.reduceLE, Int.reduceToNat, Int.reduceAdd, Int.reduceSub, Int.reduceMul, Int.reduceNeg, Nat.reduceAdd, Nat.reduceMul, Nat.reduceEqDiff, Nat.reduceLT, Int.cast_ofNat_Int, Int.lt_irrefl, Bool.false_eq_true, ↓reduceIte, ↓reduceDIte, zbI, zbL, zbA, zbV, qrg, qrg2, qnn, qz, zup_at, zup_r, zup_ne, true_and, and_true, true_or, or_true, and_self, or_self, false_or, or_false, false_and, and_false, Int.toNat_natCast, Int.toNat_add, Int.toNat_mul, Int.toNat_zero, Int.toNat_one, qtn, Int.natCast_add, qnat1, qnat0, ne_eq, not_true_eq_false, not_false_eq_true, eq_self, qbool]
      rw [e_X_winterRing_83]
    · rw [qgv_n hc]
      refine ⟨M1, ?_, qTo_X2 c1 ht, qXt_X2 c1⟩
      rw [hR, e_X_winterRing_60]
      simp (disch := omega) only [c3 hc, qff hF, qltT, qltF, qleT, qleF, qeqT, qeqF, Int.reduceEq, Int.reduceNe, Int.reduceLT, Int.reduceLE, Int.reduceToNat, Int.reduceAdd, Int.reduceSub, Int.reduceMul, Int.reduceNeg, Nat.reduceAdd, Nat.reduceMul, Nat.reduceEqDiff, Nat.reduceLT, Int.cast_ofNat_Int, Int.lt_irrefl, Bool.false_eq_true, ↓reduceIte, ↓reduceDIte, zbI, zbL, zbA, zbV, qrg, qrg2, qnn, qz, zup_at, zup_r, zup_ne, true_and, and_true, true_or, or_true, and_self, or_self, false_or, or_false, false_and, and_false, Int.toNat_natCast, Int.toNat_add, Int.toNat_mul, Int.toNat_zero, Int.toNat_one, qtn, Int.natCast_add, qnat1, qnat0, ne_eq, not_true_eq_false, not_false_eq_true, eq_self, qbool]
      rw [e_X_winterRing_83]
  · rw [if_neg h4]
    have hR : zcal zPP (d + 8) 40 [zA 9, zI x] (n, s, S, R, M) = zR zPP (d + 7) 40 60 [zA 9, zI x, zI o, zI y, zI 0, zU] [zI p2] (n, s, S, R, M) := by
      rw [c_X_winterRing]
      simp (disch := omega) only [e12, hma, qwd6 hx, t24, t6, e13, qff hF, qltT, qltF, qleT, qleF, qeqT, qeqF, Int.reduceEq, Int.reduceNe, Int.reduceLT, Int.reduceLE, Int.reduceToNat, Int.reduceAdd, Int.reduceSub, Int.reduceMul, Int.reduceNeg, Nat.reduceAdd, Nat.reduceMul, Nat.reduceEqDiff, Nat.reduceLT, Int.cast_ofNat_Int, Int.lt_irrefl, Bool.false_eq_true, ↓reduceIte, ↓reduceDIte, zbI, zbL, zbA, zbV, qrg, qrg2, qnn, qz, zup_at, zup_r, zup_ne, true_and, and_true, true_or, or_true, and_self, or_self, false_or, or_false, false_and, and_false, Int.toNat_natCast, Int.toNat_add, Int.toNat_mul, Int.toNat_zero, Int.toNat_one, qtn, Int.natCast_add, qnat1, qnat0, ne_eq, not_true_eq_false, not_false_eq_true, eq_self, qbool]
      rw [e_X_winterRing_44]
      simp (disch := omega) only [e13, hm2, qff hF, qltT, qltF, qleT, qleF, qeqT, qeqF, Int.reduceEq, Int.reduceNe, Int.reduceLT, Int.reduceLE, Int.reduceToNat, Int.reduceAdd, Int.reduceSub, Int.reduceMul, Int.reduceNeg, Nat.reduceAdd, Nat.reduceMul, Nat.reduceEqDiff, Nat.reduceLT, Int.cast_ofNat_Int, Int.lt_irrefl, Bool.false_eq_true, ↓reduceIte, ↓reduceDIte, zbI, zbL, zbA, zbV, qrg, qrg2, qnn, qz, zup_at, zup_r, zup_ne, true_and, and_true, true_or, or_true, and_self, or_self, false_or, or_false, false_and, and_false, Int.toNat_natCast, Int.toNat_add, Int.toNat_mul, Int.toNat_zero, Int.toNat_one, qtn, Int.natCast_add, qnat1, qnat0, ne_eq, not_true_eq_false, not_false_eq_true, eq_self, qbool]
    obtain ⟨M1, c1, c2, c3⟩ := vx_canLend (n := n) (s := s) (d := d) hF hS hq ht (o : Int) (y : Int) (p2 : Int)
    by_cases hc : qcL A w (o : Nat) (y : Nat) (p2 : Nat)
    · have hr := hc.2.2.2.1
      rw [Int.toNat_natCast, Int.toNat_natCast] at hr
      obtain ⟨M2, g1, g2, g3⟩ := vx_give (n := n) (s := s) (d := d + 4) (p := p2) hF (qTo_X2 c1 ht) (show (o : Int) < A 0 by omega) hy (by omega) (by omega) (by omega)
      rw [qgv_y hc]
      refine ⟨M2, ?_, g2, qXt_t (qXt_X2 c1) (fun a a1 a2 a3 => g3 a (by omega))⟩
      rw [hR, e_X_winterRing_60]
      simp (disch := omega) only [c2 hc, qff hF, qltT, qltF, qleT, qleF, qeqT, qeqF, Int.reduceEq, Int.reduceNe, Int.reduceLT, Int.reduceLE, Int.reduceToNat, Int.reduceAdd, Int.reduceSub, Int.reduceMul, Int.reduceNeg, Nat.reduceAdd, Nat.reduceMul, Nat.reduceEqDiff, Nat.reduceLT, Int.cast_ofNat_Int, Int.lt_irrefl, Bool.false_eq_true, ↓reduceIte, ↓reduceDIte, zbI, zbL, zbA, zbV, qrg, qrg2, qnn, qz, zup_at, zup_r, zup_ne, true_and, and_true, true_or, or_true, and_self, or_self, false_or, or_false, false_and, and_false, Int.toNat_natCast, Int.toNat_add, Int.toNat_mul, Int.toNat_zero, Int.toNat_one, qtn, Int.natCast_add, qnat1, qnat0, ne_eq, not_true_eq_false, not_false_eq_true, eq_self, qbool]
      rw [e_X_winterRing_76]
      simp (disch := omega) only [g1, qff hF, qltT, qltF, qleT, qleF, qeqT, qeqF, Int.reduceEq, Int.reduceNe, Int.reduceLT, Int.reduceLE, Int.reduceToNat, Int.reduceAdd, Int.reduceSub, Int.reduceMul, Int.reduceNeg, Nat.reduceAdd, Nat.reduceMul, Nat.reduceEqDiff, Nat.reduceLT, Int.cast_ofNat_Int, Int.lt_irrefl, Bool.false_eq_true, ↓reduceIte, ↓reduceDIte, zbI, zbL, zbA, zbV, qrg, qrg2, qnn, qz, zup_at, zup_r, zup_ne, true_and, and_true, true_or, or_true, and_self, or_self, false_or, or_false, false_and, and_false, Int.toNat_natCast, Int.toNat_add, Int.toNat_mul, Int.toNat_zero, Int.toNat_one, qtn, Int.natCast_add, qnat1, qnat0, ne_eq, not_true_eq_false, not_false_eq_true, eq_self, qbool]
      rw [e_X_winterRing_83]
    · rw [qgv_n hc]
      refine ⟨M1, ?_, qTo_X2 c1 ht, qXt_X2 c1⟩
      rw [hR, e_X_winterRing_60]
      simp (disch := omega) only [c3 hc, qff hF, qltT, qltF, qleT, qleF, qeqT, qeqF, Int.reduceEq, Int.reduceNe, Int.reduceLT, Int.reduceLE, Int.reduceToNat, Int.reduceAdd, Int.reduceSub, Int.reduceMul, Int.reduceNeg, Nat.reduceAdd, Nat.reduceMul, Nat.reduceEqDiff, Nat.reduceLT, Int.cast_ofNat_Int, Int.lt_irrefl, Bool.false_eq_true, ↓reduceIte, ↓reduceDIte, zbI, zbL, zbA, zbV, qrg, qrg2, qnn, qz, zup_at, zup_r, zup_ne, true_and, and_true, true_or, or_true, and_self, or_self, false_or, or_false, false_and, and_false, Int.toNat_natCast, Int.toNat_add, Int.toNat_mul, Int.toNat_zero, Int.toNat_one, qtn, Int.natCast_add, qnat1, qnat0, ne_eq, not_true_eq_false, not_false_eq_true, eq_self, qbool]
      rw [e_X_winterRing_83]
/-- one draw of the model -/
theorem qX5_3 (h : qX3 M M1) : qX5 M M1 := ⟨fun a _ _ a1 a2 a3 => h a a1 a2 a3, fun k _ => by rw [h 305 (by decide) (by decide) (by decide)]⟩
theorem qX5_p (h : qX5 M M1) {k : Nat} {v : Int} : qX5 M (zup M1 306 k v) := ⟨fun a a1 a2 a3 a4 a5 => by rw [zup_rw a2]; exact h.1 a a1 a2 a3 a4 a5, fun k hk => by rw [zup_rw (by decide)]; exact h.2 k hk⟩
theorem km_happens (hF : qFx S R) (hA : qIn (M 306)) (ht : qTN (M 308) (M 306 3) w) (hfl : M 305 23 = 1) {x : Nat} (hx : x < 30689) :
    ∃ M', zcal zPP (d + 11) 266 [zA 305, zI x] (n, s, S, R, M) = some (zU, (n, s, S, R, M')) ∧ M' 306 = qwn w x (M 306) ∧ qX5 M M' := by
  obtain ⟨a, ha⟩ := Int.eq_ofNat_of_zero_le hA.1.1
  obtain ⟨b, hb⟩ := Int.eq_ofNat_of_zero_le hA.2.1.1
  have h7 := hA.2.2.2.2.2.2.2.1
  have t6 : ((x : Nat) : Int).tmod 6 = ((x % 6 : Nat) : Int) := rfl
  have t24 : ((x / 6 : Nat) : Int).tmod 24 = ((x / 6 % 24 : Nat) : Int) := rfl
  have hy : x / 6 % 24 < 24 := Nat.mod_lt _ (by decide)
  unfold qwn
  by_cases h5 : x % 6 = 5
  · rw [if_pos h5]
    have hz7 : zw32 (M 306 7 + 30) = M 306 7 + 30 := qz (by omega) (by omega)
    by_cases h9 : 9999 < M 306 7 + 30
    · rw [if_pos h9]
      refine ⟨M, ?_, rfl, qX5_r M⟩
      rw [c_M_happens]
      simp (disch := omega) only [t6, hz7, qff hF, qltT, qltF, qleT, qleF, qeqT, qeqF, Int.reduceEq, Int.reduceNe, Int.reduceLT, Int.reduceLE, Int.reduceToNat, Int.reduceAdd, Int.reduceSub, Int.reduceMul, Int.reduceNeg, Nat.reduceAdd, Nat.reduceMul, Nat.reduceEqDiff, Nat.reduceLT, Int.cast_ofNat_Int, Int.lt_irrefl, Bool.false_eq_true, ↓reduceIte, ↓reduceDIte, zbI, zbL, zbA, zbV, qrg, qrg2, qnn, qz, zup_at, zup_r, zup_ne, true_and, and_true, true_or, or_true, and_self, or_self, false_or, or_false, false_and, and_false, Int.toNat_natCast, Int.toNat_add, Int.toNat_mul, Int.toNat_zero, Int.toNat_one, qtn, Int.natCast_add, qnat1, qnat0, ne_eq, not_true_eq_false, not_false_eq_true, eq_self, qbool]
    · rw [if_neg h9]
      have L := qlpI (E := fun i M1 => M1 306 = (qdn w true i (M 306, 0)).1 ∧ qX5 M M1) (P := fun i M1 => zR zPP (d + 10) 266 16 [zA 305, zI x, zI (i : Nat), zU, zU] [] (n, s, S, R, M1)) (N := 30) (fun i M1 hi hx' => by
        obtain ⟨e1, e2⟩ := hx'
        obtain ⟨t1, t2, t3⟩ := qdn_Ks (w := w) (fl := true) (X := (M 306, 0)) hA i (by show M 306 7 + _ ≤ _; omega)
        have t1 : qKs (M 306) (qdn w true i (M 306, 0)).1 := t1
        have t2 : (qdn w true i (M 306, 0)).1 7 = M 306 7 + i := t2
        have k3 : (qdn w true i (M 306, 0)).1 3 = M 306 3 := t1.1 3 (by decide) (by decide) (by decide) (by decide) (by decide) (by decide)
        obtain ⟨M2, m1, m2, m3, m4⟩ := km_passDay (n := n) (s := s) (d := d) (M := M1) (w := w) (fl := true) hF (by rw [e1]; exact t1.2.2) (by rw [e1, k3, e2.1 308 (by decide) (by decide) (by decide) (by decide) (by decide)]; exact ht) (by rw [e2.2 23 (by decide)]; exact hfl) (by rw [e1, t2]; omega)
        rw [e1] at m2
        have es : qdn w true (i + 1) (M 306, 0) = ((qdy w true ((qdn w true i (M 306, 0)).1, 0)).1, (qdn w true i (M 306, 0)).2 + (qdy w true ((qdn w true i (M 306, 0)).1, 0)).2) := qdy_0 w true _ _
        refine ⟨M2, ⟨by rw [es]; exact m2, qX5_t e2 m4⟩, ?_⟩
        show zR _ _ _ _ _ _ _ = zR _ _ _ _ _ _ _
        rw [e_M_happens_16, if_pos (by omega), m1]
        simp only [zbV]
        rw [qw1 (show i < 100000 by omega)]) M ⟨rfl, qX5_r M⟩
      obtain ⟨M1, ⟨e1, e2⟩, L⟩ := L
      refine ⟨M1, ?_, e1, e2⟩
      rw [c_M_happens]
      simp (disch := omega) only [t6, hz7, qff hF, qltT, qltF, qleT, qleF, qeqT, qeqF, Int.reduceEq, Int.reduceNe, Int.reduceLT, Int.reduceLE, Int.reduceToNat, Int.reduceAdd, Int.reduceSub, Int.reduceMul, Int.reduceNeg, Nat.reduceAdd, Nat.reduceMul, Nat.reduceEqDiff, Nat.reduceLT, Int.cast_ofNat_Int, Int.lt_irrefl, Bool.false_eq_true, ↓reduceIte, ↓reduceDIte, zbI, zbL, zbA, zbV, qrg, qrg2, qnn, qz, zup_at, zup_r, zup_ne, true_and, and_true, true_or, or_true, and_self, or_self, false_or, or_false, false_and, and_false, Int.toNat_natCast, Int.toNat_add, Int.toNat_mul, Int.toNat_zero, Int.toNat_one, qtn, Int.natCast_add, qnat1, qnat0, ne_eq, not_true_eq_false, not_false_eq_true, eq_self, qbool]
      refine Eq.trans L ?_
      show zR _ _ _ _ _ _ _ = _
      rw [e_M_happens_16, if_neg (by decide)]
  rw [if_neg h5]
  unfold qwr
  by_cases h0 : M 306 0 = 0
  · rw [if_pos h0]
    refine ⟨M, ?_, rfl, qX5_r M⟩
    rw [c_M_happens]
    simp (disch := omega) only [t6, h0, qff hF, qltT, qltF, qleT, qleF, qeqT, qeqF, Int.reduceEq, Int.reduceNe, Int.reduceLT, Int.reduceLE, Int.reduceToNat, Int.reduceAdd, Int.reduceSub, Int.reduceMul, Int.reduceNeg, Nat.reduceAdd, Nat.reduceMul, Nat.reduceEqDiff, Nat.reduceLT, Int.cast_ofNat_Int, Int.lt_irrefl, Bool.false_eq_true, ↓reduceIte, ↓reduceDIte, zbI, zbL, zbA, zbV, qrg, qrg2, qnn, qz, zup_at, zup_r, zup_ne, true_and, and_true, true_or, or_true, and_self, or_self, false_or, or_false, false_and, and_false, Int.toNat_natCast, Int.toNat_add, Int.toNat_mul, Int.toNat_zero, Int.toNat_one, qtn, Int.natCast_add, qnat1, qnat0, ne_eq, not_true_eq_false, not_false_eq_true, eq_self, qbool]
  rw [if_neg h0, ha, Int.toNat_natCast]
  have ho : x % a < a := Nat.mod_lt _ (by omega)
  have hma : ((x : Nat) : Int).tmod ((a : Nat) : Int) = ((x % a : Nat) : Int) := rfl
  generalize x % a = o at *
  generalize x / 6 % 24 = y at *
  have hA5 := hA.1.2
  have hp5 := hA.2.1.2
  have c00 : M 306 (Int.toNat 0) = a := ha
  have c01 : M 306 (Int.toNat 1) = b := hb
  rw [c_M_happens]
  simp only [qff hF, if_true, t6, qwd6 hx, t24, c00, c01, hma, true_or, true_and]
  rw [if_neg (show ¬ (6 : Int) = 0 by decide), if_neg (show ¬ ((x % 6 : Nat) : Int) = 5 by omega), if_pos (show 0 ≤ (0 : Int) ∧ (0 : Int) < ((4880 : Nat) : Int) by decide), if_neg (show ¬ (a : Int) = 0 by omega), if_pos (show 0 ≤ (0 : Int) ∧ (0 : Int) < ((4880 : Nat) : Int) by decide), if_neg (show ¬ (a : Int) = 0 by omega), if_neg (show ¬ (6 : Int) = 0 by decide), if_neg (show ¬ (24 : Int) = 0 by decide), if_neg (show ¬ (6 : Int) = 0 by decide)]
  by_cases h3 : x % 6 = 3
  · rw [if_pos h3, if_pos (show ((x % 6 : Nat) : Int) = 3 by omega)]
    obtain ⟨y2, y3⟩ := km_isLent (n := n) (s := s) (d := d + 6) (M := M) hF hA (o : Int) (y : Int)
    by_cases h4 : 3 ≤ M 306 (11 + 24 * o + y)
    · rw [if_pos h4, y2 ⟨by omega, by omega, by rw [Int.toNat_natCast, Int.toNat_natCast]; exact h4⟩]
      simp only [zbI]
      rw [if_neg (by decide), km_put hF (show o < 5 by omega) hy]
      simp only [zbV]
      rw [e_M_happens_58]
      exact ⟨_, rfl, qup_zup _ _ _ _, qX5_p (qX5_r M)⟩
    · rw [if_neg h4, y3 (fun z => h4 (by have := z.2.2; rw [Int.toNat_natCast, Int.toNat_natCast] at this; exact this))]
      simp only [zbI, if_true]
      rw [e_M_happens_58]
      exact ⟨M, rfl, rfl, qX5_r M⟩
  rw [if_neg h3, if_neg (show ¬ ((x % 6 : Nat) : Int) = 3 by omega), if_pos (show 0 ≤ (1 : Int) ∧ (1 : Int) < ((4880 : Nat) : Int) by decide)]
  by_cases h1 : M 306 1 = 0
  · rw [if_pos h1, if_pos (show (b : Int) = 0 by omega)]
    exact ⟨M, rfl, rfl, qX5_r M⟩
  rw [if_neg h1, if_neg (show ¬ (b : Int) = 0 by omega), if_neg (show ¬ (6 : Int) = 0 by decide), hb, Int.toNat_natCast]
  have hp1 : x / 5 % b < b := Nat.mod_lt _ (by omega)
  have hp2 : x % b < b := Nat.mod_lt _ (by omega)
  have hm1 : ((x / 5 : Nat) : Int).tmod ((b : Nat) : Int) = ((x / 5 % b : Nat) : Int) := rfl
  have hm2 : ((x : Nat) : Int).tmod ((b : Nat) : Int) = ((x % b : Nat) : Int) := rfl
  generalize x / 5 % b = p1 at *
  generalize x % b = p2 at *
  by_cases h4 : x % 6 = 4
  · rw [if_pos h4, if_pos (show ((x % 6 : Nat) : Int) = 4 by omega), if_neg (show ¬ (5 : Int) = 0 by decide), qwd5 hx, e_M_happens_75]
    simp only [qff hF, if_true, t6, c01, hm1, true_or, true_and]
    rw [if_pos (show 0 ≤ (1 : Int) ∧ (1 : Int) < ((4880 : Nat) : Int) by decide), if_neg (show ¬ (b : Int) = 0 by omega), if_neg (show ¬ (6 : Int) = 0 by decide), if_pos (show ((x % 6 : Nat) : Int) = 4 by omega)]
    obtain ⟨M1, c1, c2, c3⟩ := km_canPass (n := n) (s := s) (d := d + 1) hF hA ht (o : Int) (y : Int) (p1 : Int)
    by_cases hc : qcP (M 306) w (o : Nat) (y : Nat) (p1 : Nat)
    · rw [qgv_y hc, c2 hc]
      simp only [zbI]
      have hz3 : zw32 (3 + (p1 : Int)) = 3 + p1 := qz (by omega) (by omega)
      rw [if_neg (by decide), e_M_happens_99, hz3, km_put hF (show o < 5 by omega) hy]
      simp only [zbV]
      rw [e_M_happens_106]
      exact ⟨_, rfl, by rw [qup_zup, c1 306 (by decide) (by decide) (by decide)], qX5_p (qX5_3 c1)⟩
    · rw [qgv_n hc, c3 hc]
      simp only [zbI, if_true]
      rw [e_M_happens_106]
      exact ⟨M1, rfl, c1 306 (by decide) (by decide) (by decide), qX5_3 c1⟩
  · rw [if_neg h4, if_neg (show ¬ ((x % 6 : Nat) : Int) = 4 by omega), e_M_happens_75]
    simp only [qff hF, if_true, t6, c01, hm2, true_or, true_and]
    rw [if_pos (show 0 ≤ (1 : Int) ∧ (1 : Int) < ((4880 : Nat) : Int) by decide), if_neg (show ¬ (b : Int) = 0 by omega), if_neg (show ¬ (6 : Int) = 0 by decide), if_neg (show ¬ ((x % 6 : Nat) : Int) = 4 by omega)]
    obtain ⟨M1, c1, c2, c3⟩ := km_canLend (n := n) (s := s) (d := d + 1) hF hA ht (o : Int) (y : Int) (p2 : Int)
    by_cases hc : qcL (M 306) w (o : Nat) (y : Nat) (p2 : Nat)
    · rw [qgv_y hc, c2 hc]
      simp only [zbI]
      have hz3 : zw32 (3 + (p2 : Int)) = 3 + p2 := qz (by omega) (by omega)
      rw [if_neg (by decide), e_M_happens_99, hz3, km_put hF (show o < 5 by omega) hy]
      simp only [zbV]
      rw [e_M_happens_106]
      exact ⟨_, rfl, by rw [qup_zup, c1 306 (by decide) (by decide) (by decide)], qX5_p (qX5_3 c1)⟩
    · rw [qgv_n hc, c3 hc]
      simp only [zbI, if_true]
      rw [e_M_happens_106]
      exact ⟨M1, rfl, c1 306 (by decide) (by decide) (by decide), qX5_3 c1⟩
end QF
