/-! QUERIES THAT ASK A TEXT: of, lends, pays, eldest, whose -/
def qWr (W : Nat → qWt) (t : Int) : qWt := if t < 0 then fun _ => none else W t.toNat
def qX2 (M M' : Nat → Nat → Int) : Prop := ∀ a, a ≠ 284 → a ≠ 285 → M' a = M a
theorem qX2_r (M : Nat → Nat → Int) : qX2 M M := fun _ _ _ => rfl
theorem qX3_r (M : Nat → Nat → Int) : qX3 M M := fun _ _ _ _ => rfl
theorem qX2_t {M M1 M2 : Nat → Nat → Int} (h1 : qX2 M M1) (h2 : qX2 M1 M2) : qX2 M M2 := fun a x y => (h2 a x y).trans (h1 a x y)
theorem qX2_e {M M' : Nat → Nat → Int} (h : qX2 M M') : qEq M M' := qEq_rows fun a ha => h a (by unfold qY at ha; omega) (by unfold qY at ha; omega)
theorem qX3_e {M M' : Nat → Nat → Int} (h : qX3 M M') : qEq M M' := qEq_rows fun a ha => h a (by unfold qY at ha; omega) (by unfold qY at ha; omega) (by unfold qY at ha; omega)
section QF
variable {S : Nat → Nat × Nat} {R : Nat → Nat → Nat} {M M' M1 : Nat → Nat → Int} {n s d : Nat} {A : Nat → Int} {W : Nat → qWt}
theorem qBo_q {j jm : Nat} {as : List zV} {v : zV} (hw : qWd n S R M W) (hX : ∃ M1, zcal zPP 100 j (zA 9 :: as) (n, s, S, R, M) = some (v, (n, s, S, R, M1)) ∧ qEq M M1)
    (hM : ∀ M1, qWd n S R M1 W → M1 306 = M 306 → ∃ M2, zcal zPP 100 jm (zA 305 :: as) (n, s, S, R, M1) = some (v, (n, s, S, R, M2)) ∧ qEq M1 M2) : qBo j jm as n s S R M := by
  obtain ⟨M1, h1, h2⟩ := hX
  obtain ⟨M2, h3, h4⟩ := hM M1 (qWd_x h2 hw) (h2.1 306 (by decide) (by unfold qY; omega))
  exact qBo_rows h1 h3 (qWd_x (qEq_t h2 h4) hw) ((qEq_t h2 h4).1 1 (by decide) (by unfold qY; omega))
theorem wx_textAt (hw : qWd n S R M W) {t : Int} (ht : -1 ≤ t ∧ t < M 306 2) : ∃ q, (∀ d M1, M1 10 = M 10 → zcal zPP (d + 1) 165 [zA 10, zI t] (n, s, S, R, M1) = some (zA q, (n, s, S, R, M1))) ∧ qTn S R M q (qWr W t) := by
  have hF := hw.1.2.1
  have hA := hw.2.1.2.2.2
  have h2 := hA.2.2.1
  have h14 : M 10 14 = M 306 2 := hw.2.1.1.1.2.2.1
  by_cases h0 : t < 0
  · refine ⟨0, fun d M1 e => ?_, Or.inl ⟨rfl, fun L => ?_⟩⟩
    · simp (disch := omega) only [c_Town_textAt, qff hF, qltT, qltF, qleT, qleF, qeqT, qeqF, Int.reduceEq, Int.reduceNe, Int.reduceLT, Int.reduceLE, Int.reduceToNat, Int.reduceAdd, Int.reduceSub, Int.reduceMul, Int.reduceNeg, Nat.reduceAdd, Nat.reduceMul, Nat.reduceEqDiff, Nat.reduceLT, Int.cast_ofNat_Int, Int.lt_irrefl, ↓reduceIte, ↓reduceDIte, zbI, zbL, zbA, zbV, qrg, qrg2, qnn, qz, zup_at, zup_r, zup_ne, true_and, and_true, true_or, or_true, and_self, or_self, false_or, or_false, false_and, and_false, Int.toNat_natCast, Int.toNat_add, Int.toNat_mul, Int.toNat_zero, Int.toNat_one, qtn, Int.natCast_add, qnat1, qnat0, ne_eq, not_true_eq_false, not_false_eq_true, eq_self, qbool]
    · unfold qWr
      rw [if_pos h0]
  · obtain ⟨t, rfl⟩ := Int.eq_ofNat_of_zero_le (show 0 ≤ t by omega)
    have hte := hw.2.2.2.1.1 t ht.2
    refine ⟨R 14 t, fun d M1 e => ?_, Or.inr ⟨?_, ?_⟩⟩
    · have h14' : M1 10 14 = M 306 2 := by rw [e]; exact h14
      simp (disch := omega) only [c_Town_textAt, h14', qff hF, qltT, qltF, qleT, qleF, qeqT, qeqF, Int.reduceEq, Int.reduceNe, Int.reduceLT, Int.reduceLE, Int.reduceToNat, Int.reduceAdd, Int.reduceSub, Int.reduceMul, Int.reduceNeg, Nat.reduceAdd, Nat.reduceMul, Nat.reduceEqDiff, Nat.reduceLT, Int.cast_ofNat_Int, Int.lt_irrefl, ↓reduceIte, ↓reduceDIte, zbI, zbL, zbA, zbV, qrg, qrg2, qnn, qz, zup_at, zup_r, zup_ne, true_and, and_true, true_or, or_true, and_self, or_self, false_or, or_false, false_and, and_false, Int.toNat_natCast, Int.toNat_add, Int.toNat_mul, Int.toNat_zero, Int.toNat_one, qtn, Int.natCast_add, qnat1, qnat0, ne_eq, not_true_eq_false, not_false_eq_true, eq_self, qbool]
    · obtain ⟨-, -, -, -, -, ⟨O, len, lo, hi, hq, -⟩, -⟩ := hte
      have := hq.2.1.1
      omega
    · unfold qWr
      rw [if_neg (by omega), Int.toNat_natCast]
      exact hte.2.2.2.2.2.1
theorem wx_ruler (hw : qWd n S R M W) : ∃ q, (∀ d M1, M1 10 = M 10 → zcal zPP (d + 2) 171 [zA 10] (n, s, S, R, M1) = some (zA q, (n, s, S, R, M1))) ∧ qTn S R M q (qWr W (M 306 3)) := by
  have hF := hw.1.2.1
  have hA := hw.2.1.2.2.2
  obtain ⟨q, h1, h2⟩ := wx_textAt (s := s) hw hA.2.2.2.1
  refine ⟨q, fun d M1 e => ?_, h2⟩
  have h15 : M1 10 15 = M 306 3 := by rw [e]; exact hw.2.1.1.1.2.2.2.1
  have := h1 d M1 e
  simp (disch := omega) only [c_Town_ruler, h15, this, qff hF, qltT, qltF, qleT, qleF, qeqT, qeqF, Int.reduceEq, Int.reduceNe, Int.reduceLT, Int.reduceLE, Int.reduceToNat, Int.reduceAdd, Int.reduceSub, Int.reduceMul, Int.reduceNeg, Nat.reduceAdd, Nat.reduceMul, Nat.reduceEqDiff, Nat.reduceLT, Int.cast_ofNat_Int, Int.lt_irrefl, ↓reduceIte, ↓reduceDIte, zbI, zbL, zbA, zbV, qrg, qrg2, qnn, qz, zup_at, zup_r, zup_ne, true_and, and_true, true_or, or_true, and_self, or_self, false_or, or_false, false_and, and_false, Int.toNat_natCast, Int.toNat_add, Int.toNat_mul, Int.toNat_zero, Int.toNat_one, qtn, Int.natCast_add, qnat1, qnat0, ne_eq, not_true_eq_false, not_false_eq_true, eq_self, qbool]
theorem wm_text (hw : qWd n S R M W) {t : Int} (ht : -1 ≤ t ∧ t < M 306 2) : qTN (M 308) t (qWr W t) := by
  have hA := hw.2.1.2.2.2
  have h2 := hA.2.2.1
  by_cases h0 : t < 0
  · refine Or.inl ⟨by omega, fun L => ?_⟩
    unfold qWr
    rw [if_pos h0]
  · obtain ⟨t, rfl⟩ := Int.eq_ofNat_of_zero_le (show 0 ≤ t by omega)
    refine Or.inr ⟨t, rfl, by omega, ?_⟩
    unfold qWr
    rw [if_neg (by omega), Int.toNat_natCast]
    exact (hw.2.2.2.1.1 t ht.2).2.2.2.2.2.2.1
theorem wx_CE (hw : qWd n S R M W) : qCE S R M 21 (M 306) := ⟨hw.2.1.1, hw.2.1.2.2.2, Or.inl rfl, hw.1.2.1.1.2.1.1.2.2.1, hw.2.1.2.1.1, hw.2.1.2.1.2.1.2.2.1⟩
theorem wx_age {q : Nat} {w : qWt} (hw : qWd n S R M W) (hq : qTn S R M q w) {p : Nat} (hp : (p : Int) < M 306 1) (h1 : qX2 M M1) : ∃ M2, zcal zPP (d + 7) 43 [zA 9, zA 21, zA q, zI p] (n, s, S, R, M1) = some (zI (qAge (M 306) w p), (n, s, S, R, M2)) ∧ qX2 M M2 := by
  obtain ⟨M2, h2, h3⟩ := kx_ageOf (n := n) (s := s) (d := d) (M := M1) hw.1.2.1 (qSt_x (fun a ha => h1 a (by omega) (by omega)) hw.1.2.2) (qTn_x (fun a ha => h1 a (by omega) (by omega)) hq) (qCE_x h1 (wx_CE hw)) hp
  exact ⟨M2, h2, qX2_t h1 h3⟩
theorem wm_age (hw : qWd n S R M W) {t : Int} (ht : -1 ≤ t ∧ t < M 306 2) {p : Nat} (hp : (p : Int) < M 306 1) (h1 : qX3 M M1) : ∃ M2, zcal zPP (d + 9) 268 [zA 305, zI t, zI p] (n, s, S, R, M1) = some (zI (qAge (M 306) (qWr W t) p), (n, s, S, R, M2)) ∧ qX3 M M2 := by
  have h6 : M1 306 = M 306 := h1 306 (by decide) (by decide) (by decide)
  have h8 : M1 308 = M 308 := h1 308 (by decide) (by decide) (by decide)
  obtain ⟨M2, h2, h3⟩ := km_ageOf (n := n) (s := s) (d := d) (S := S) (R := R) (M := M1) (w := qWr W t) (p := p) (t := t) hw.1.2.1 (by rw [h6]; exact hw.2.1.2.2.2) (by rw [h6]; exact hp) (by rw [h8]; exact wm_text hw ht)
  rw [h6] at h2
  exact ⟨M2, h2, qX3_t h1 h3⟩
theorem qb_of (hw : qWd n S R M W) (v w : Int) : qBo 42 267 [zI v, zI w] n s S R M := by
  have hA := hw.2.1.2.2.2
  have hF := hw.1.2.1
  have hT := hw.2.1.1
  have hg : qRg M 21 (qg (M 306)) := hw.2.1.2.1.1
  have hp5 := hA.2.1.2
  by_cases hv : 0 ≤ v ∧ v < M 306 1
  · obtain ⟨p, rfl⟩ := Int.eq_ofNat_of_zero_le hv.1
    have hown := hT.2.2.2.1 p (by omega)
    by_cases h0 : w = 0
    · have hX : zcal zPP 100 42 [zA 9, zI p, zI w] (n, s, S, R, M) = some (zI (M 306 (131 + p)), (n, s, S, R, M)) := by
        rw [c_X_of]
        simp (disch := omega) only [kx_hasPerson hF hT hA, hv, hown, qff hF, qltT, qltF, qleT, qleF, qeqT, qeqF, Int.reduceEq, Int.reduceNe, Int.reduceLT, Int.reduceLE, Int.reduceToNat, Int.reduceAdd, Int.reduceSub, Int.reduceMul, Int.reduceNeg, Nat.reduceAdd, Nat.reduceMul, Nat.reduceEqDiff, Nat.reduceLT, Int.cast_ofNat_Int, Int.lt_irrefl, ↓reduceIte, ↓reduceDIte, zbI, zbL, zbA, zbV, qrg, qrg2, qnn, qz, zup_at, zup_r, zup_ne, true_and, and_true, true_or, or_true, and_self, or_self, false_or, or_false, false_and, and_false, Int.toNat_natCast, Int.toNat_add, Int.toNat_mul, Int.toNat_zero, Int.toNat_one, qtn, Int.natCast_add, qnat1, qnat0, ne_eq, not_true_eq_false, not_false_eq_true, eq_self, qbool]
      have hM : zcal zPP 100 267 [zA 305, zI p, zI w] (n, s, S, R, M) = some (zI (M 306 (131 + p)), (n, s, S, R, M)) := by
        rw [c_M_of]
        simp (disch := omega) only [km_isPerson hF hA, hv, qff hF, qltT, qltF, qleT, qleF, qeqT, qeqF, Int.reduceEq, Int.reduceNe, Int.reduceLT, Int.reduceLE, Int.reduceToNat, Int.reduceAdd, Int.reduceSub, Int.reduceMul, Int.reduceNeg, Nat.reduceAdd, Nat.reduceMul, Nat.reduceEqDiff, Nat.reduceLT, Int.cast_ofNat_Int, Int.lt_irrefl, ↓reduceIte, ↓reduceDIte, zbI, zbL, zbA, zbV, qrg, qrg2, qnn, qz, zup_at, zup_r, zup_ne, true_and, and_true, true_or, or_true, and_self, or_self, false_or, or_false, false_and, and_false, Int.toNat_natCast, Int.toNat_add, Int.toNat_mul, Int.toNat_zero, Int.toNat_one, qtn, Int.natCast_add, qnat1, qnat0, ne_eq, not_true_eq_false, not_false_eq_true, eq_self, qbool]
      exact qBo_same hw hX hM
    by_cases h1 : w = 1
    · refine qBo_q (v := zI (qAge (M 306) (qWr W (M 306 3)) p)) hw ?_ ?_
      · obtain ⟨q, hq1, hq2⟩ := wx_ruler (s := s) hw
        obtain ⟨M2, h2, h3⟩ := wx_age (s := s) (d := 92) hw hq2 hv.2 (qX2_r M)
        refine ⟨M2, ?_, qX2_e h3⟩
        rw [c_X_of]
        simp (disch := omega) only [kx_hasPerson hF hT hA, hv, hq1 97 M rfl, h2, qff hF, qltT, qltF, qleT, qleF, qeqT, qeqF, Int.reduceEq, Int.reduceNe, Int.reduceLT, Int.reduceLE, Int.reduceToNat, Int.reduceAdd, Int.reduceSub, Int.reduceMul, Int.reduceNeg, Nat.reduceAdd, Nat.reduceMul, Nat.reduceEqDiff, Nat.reduceLT, Int.cast_ofNat_Int, Int.lt_irrefl, ↓reduceIte, ↓reduceDIte, zbI, zbL, zbA, zbV, qrg, qrg2, qnn, qz, zup_at, zup_r, zup_ne, true_and, and_true, true_or, or_true, and_self, or_self, false_or, or_false, false_and, and_false, Int.toNat_natCast, Int.toNat_add, Int.toNat_mul, Int.toNat_zero, Int.toNat_one, qtn, Int.natCast_add, qnat1, qnat0, ne_eq, not_true_eq_false, not_false_eq_true, eq_self, qbool]
      · intro M1 hw1 e6
        obtain ⟨M2, h2, h3⟩ := wm_age (s := s) (d := 90) hw1 (t := M 306 3) (by rw [e6]; exact hA.2.2.2.1) (p := p) (by rw [e6]; exact hv.2) (qX3_r M1)
        rw [e6] at h2
        refine ⟨M2, ?_, qX3_e h3⟩
        rw [c_M_of]
        simp (disch := omega) only [km_isPerson hF hw1.2.1.2.2.2, e6, hv, h2, qff hF, qltT, qltF, qleT, qleF, qeqT, qeqF, Int.reduceEq, Int.reduceNe, Int.reduceLT, Int.reduceLE, Int.reduceToNat, Int.reduceAdd, Int.reduceSub, Int.reduceMul, Int.reduceNeg, Nat.reduceAdd, Nat.reduceMul, Nat.reduceEqDiff, Nat.reduceLT, Int.cast_ofNat_Int, Int.lt_irrefl, ↓reduceIte, ↓reduceDIte, zbI, zbL, zbA, zbV, qrg, qrg2, qnn, qz, zup_at, zup_r, zup_ne, true_and, and_true, true_or, or_true, and_self, or_self, false_or, or_false, false_and, and_false, Int.toNat_natCast, Int.toNat_add, Int.toNat_mul, Int.toNat_zero, Int.toNat_one, qtn, Int.natCast_add, qnat1, qnat0, ne_eq, not_true_eq_false, not_false_eq_true, eq_self, qbool]
    by_cases h2 : w = 2
    · have hX : zcal zPP 100 42 [zA 9, zI p, zI w] (n, s, S, R, M) = some (zI (qhb (M 306) p : Nat), (n, s, S, R, M)) := by
        rw [c_X_of]
        simp (disch := omega) only [kx_hasPerson hF hT hA, hv, kx_heldBy hF hg (show p < 5 by omega), qff hF, qltT, qltF, qleT, qleF, qeqT, qeqF, Int.reduceEq, Int.reduceNe, Int.reduceLT, Int.reduceLE, Int.reduceToNat, Int.reduceAdd, Int.reduceSub, Int.reduceMul, Int.reduceNeg, Nat.reduceAdd, Nat.reduceMul, Nat.reduceEqDiff, Nat.reduceLT, Int.cast_ofNat_Int, Int.lt_irrefl, ↓reduceIte, ↓reduceDIte, zbI, zbL, zbA, zbV, qrg, qrg2, qnn, qz, zup_at, zup_r, zup_ne, true_and, and_true, true_or, or_true, and_self, or_self, false_or, or_false, false_and, and_false, Int.toNat_natCast, Int.toNat_add, Int.toNat_mul, Int.toNat_zero, Int.toNat_one, qtn, Int.natCast_add, qnat1, qnat0, ne_eq, not_true_eq_false, not_false_eq_true, eq_self, qbool]
      have hM : zcal zPP 100 267 [zA 305, zI p, zI w] (n, s, S, R, M) = some (zI (qhb (M 306) p : Nat), (n, s, S, R, M)) := by
        rw [c_M_of]
        simp (disch := omega) only [km_isPerson hF hA, hv, km_heldBy hF hA (show p < 5 by omega), qff hF, qltT, qltF, qleT, qleF, qeqT, qeqF, Int.reduceEq, Int.reduceNe, Int.reduceLT, Int.reduceLE, Int.reduceToNat, Int.reduceAdd, Int.reduceSub, Int.reduceMul, Int.reduceNeg, Nat.reduceAdd, Nat.reduceMul, Nat.reduceEqDiff, Nat.reduceLT, Int.cast_ofNat_Int, Int.lt_irrefl, ↓reduceIte, ↓reduceDIte, zbI, zbL, zbA, zbV, qrg, qrg2, qnn, qz, zup_at, zup_r, zup_ne, true_and, and_true, true_or, or_true, and_self, or_self, false_or, or_false, false_and, and_false, Int.toNat_natCast, Int.toNat_add, Int.toNat_mul, Int.toNat_zero, Int.toNat_one, qtn, Int.natCast_add, qnat1, qnat0, ne_eq, not_true_eq_false, not_false_eq_true, eq_self, qbool]
      exact qBo_same hw hX hM
    by_cases h3 : w = 3
    · have hX : zcal zPP 100 42 [zA 9, zI p, zI w] (n, s, S, R, M) = some (zI (zsn (qyb (M 306) p) 24 : Nat), (n, s, S, R, M)) := by
        rw [c_X_of]
        simp (disch := omega) only [kx_hasPerson hF hT hA, hv, kx_yearsOf hF hg (show p < 5 by omega), qff hF, qltT, qltF, qleT, qleF, qeqT, qeqF, Int.reduceEq, Int.reduceNe, Int.reduceLT, Int.reduceLE, Int.reduceToNat, Int.reduceAdd, Int.reduceSub, Int.reduceMul, Int.reduceNeg, Nat.reduceAdd, Nat.reduceMul, Nat.reduceEqDiff, Nat.reduceLT, Int.cast_ofNat_Int, Int.lt_irrefl, ↓reduceIte, ↓reduceDIte, zbI, zbL, zbA, zbV, qrg, qrg2, qnn, qz, zup_at, zup_r, zup_ne, true_and, and_true, true_or, or_true, and_self, or_self, false_or, or_false, false_and, and_false, Int.toNat_natCast, Int.toNat_add, Int.toNat_mul, Int.toNat_zero, Int.toNat_one, qtn, Int.natCast_add, qnat1, qnat0, ne_eq, not_true_eq_false, not_false_eq_true, eq_self, qbool]
      have hM : zcal zPP 100 267 [zA 305, zI p, zI w] (n, s, S, R, M) = some (zI (zsn (qyb (M 306) p) 24 : Nat), (n, s, S, R, M)) := by
        rw [c_M_of]
        simp (disch := omega) only [km_isPerson hF hA, hv, km_yearsBy hF hA (show p < 5 by omega), qff hF, qltT, qltF, qleT, qleF, qeqT, qeqF, Int.reduceEq, Int.reduceNe, Int.reduceLT, Int.reduceLE, Int.reduceToNat, Int.reduceAdd, Int.reduceSub, Int.reduceMul, Int.reduceNeg, Nat.reduceAdd, Nat.reduceMul, Nat.reduceEqDiff, Nat.reduceLT, Int.cast_ofNat_Int, Int.lt_irrefl, ↓reduceIte, ↓reduceDIte, zbI, zbL, zbA, zbV, qrg, qrg2, qnn, qz, zup_at, zup_r, zup_ne, true_and, and_true, true_or, or_true, and_self, or_self, false_or, or_false, false_and, and_false, Int.toNat_natCast, Int.toNat_add, Int.toNat_mul, Int.toNat_zero, Int.toNat_one, qtn, Int.natCast_add, qnat1, qnat0, ne_eq, not_true_eq_false, not_false_eq_true, eq_self, qbool]
      exact qBo_same hw hX hM
    by_cases h4 : w = 4
    · have hX : zcal zPP 100 42 [zA 9, zI p, zI w] (n, s, S, R, M) = some (zI (zsn (qks (M 306) (qyb (M 306) p) 24) 4 : Nat), (n, s, S, R, M)) := by
        rw [c_X_of]
        simp (disch := omega) only [kx_hasPerson hF hT hA, hv, kx_yearsOf hF hg (show p < 5 by omega), kx_kindsOf hF hT hA, qff hF, qltT, qltF, qleT, qleF, qeqT, qeqF, Int.reduceEq, Int.reduceNe, Int.reduceLT, Int.reduceLE, Int.reduceToNat, Int.reduceAdd, Int.reduceSub, Int.reduceMul, Int.reduceNeg, Nat.reduceAdd, Nat.reduceMul, Nat.reduceEqDiff, Nat.reduceLT, Int.cast_ofNat_Int, Int.lt_irrefl, ↓reduceIte, ↓reduceDIte, zbI, zbL, zbA, zbV, qrg, qrg2, qnn, qz, zup_at, zup_r, zup_ne, true_and, and_true, true_or, or_true, and_self, or_self, false_or, or_false, false_and, and_false, Int.toNat_natCast, Int.toNat_add, Int.toNat_mul, Int.toNat_zero, Int.toNat_one, qtn, Int.natCast_add, qnat1, qnat0, ne_eq, not_true_eq_false, not_false_eq_true, eq_self, qbool]
      have hM : zcal zPP 100 267 [zA 305, zI p, zI w] (n, s, S, R, M) = some (zI (zsn (qks (M 306) (qyb (M 306) p) 24) 4 : Nat), (n, s, S, R, M)) := by
        rw [c_M_of]
        simp (disch := omega) only [km_isPerson hF hA, hv, km_yearsBy hF hA (show p < 5 by omega), km_kindsOf hF hA, qff hF, qltT, qltF, qleT, qleF, qeqT, qeqF, Int.reduceEq, Int.reduceNe, Int.reduceLT, Int.reduceLE, Int.reduceToNat, Int.reduceAdd, Int.reduceSub, Int.reduceMul, Int.reduceNeg, Nat.reduceAdd, Nat.reduceMul, Nat.reduceEqDiff, Nat.reduceLT, Int.cast_ofNat_Int, Int.lt_irrefl, ↓reduceIte, ↓reduceDIte, zbI, zbL, zbA, zbV, qrg, qrg2, qnn, qz, zup_at, zup_r, zup_ne, true_and, and_true, true_or, or_true, and_self, or_self, false_or, or_false, false_and, and_false, Int.toNat_natCast, Int.toNat_add, Int.toNat_mul, Int.toNat_zero, Int.toNat_one, qtn, Int.natCast_add, qnat1, qnat0, ne_eq, not_true_eq_false, not_false_eq_true, eq_self, qbool]
      exact qBo_same hw hX hM
    · have hX : zcal zPP 100 42 [zA 9, zI p, zI w] (n, s, S, R, M) = some (zI (-1), (n, s, S, R, M)) := by
        rw [c_X_of]
        simp (disch := omega) only [kx_hasPerson hF hT hA, hv, qff hF, qltT, qltF, qleT, qleF, qeqT, qeqF, Int.reduceEq, Int.reduceNe, Int.reduceLT, Int.reduceLE, Int.reduceToNat, Int.reduceAdd, Int.reduceSub, Int.reduceMul, Int.reduceNeg, Nat.reduceAdd, Nat.reduceMul, Nat.reduceEqDiff, Nat.reduceLT, Int.cast_ofNat_Int, Int.lt_irrefl, ↓reduceIte, ↓reduceDIte, zbI, zbL, zbA, zbV, qrg, qrg2, qnn, qz, zup_at, zup_r, zup_ne, true_and, and_true, true_or, or_true, and_self, or_self, false_or, or_false, false_and, and_false, Int.toNat_natCast, Int.toNat_add, Int.toNat_mul, Int.toNat_zero, Int.toNat_one, qtn, Int.natCast_add, qnat1, qnat0, ne_eq, not_true_eq_false, not_false_eq_true, eq_self, qbool]
      have hM : zcal zPP 100 267 [zA 305, zI p, zI w] (n, s, S, R, M) = some (zI (-1), (n, s, S, R, M)) := by
        rw [c_M_of]
        simp (disch := omega) only [km_isPerson hF hA, hv, qff hF, qltT, qltF, qleT, qleF, qeqT, qeqF, Int.reduceEq, Int.reduceNe, Int.reduceLT, Int.reduceLE, Int.reduceToNat, Int.reduceAdd, Int.reduceSub, Int.reduceMul, Int.reduceNeg, Nat.reduceAdd, Nat.reduceMul, Nat.reduceEqDiff, Nat.reduceLT, Int.cast_ofNat_Int, Int.lt_irrefl, ↓reduceIte, ↓reduceDIte, zbI, zbL, zbA, zbV, qrg, qrg2, qnn, qz, zup_at, zup_r, zup_ne, true_and, and_true, true_or, or_true, and_self, or_self, false_or, or_false, false_and, and_false, Int.toNat_natCast, Int.toNat_add, Int.toNat_mul, Int.toNat_zero, Int.toNat_one, qtn, Int.natCast_add, qnat1, qnat0, ne_eq, not_true_eq_false, not_false_eq_true, eq_self, qbool]
      exact qBo_same hw hX hM
  · have hX : zcal zPP 100 42 [zA 9, zI v, zI w] (n, s, S, R, M) = some (zI (-1), (n, s, S, R, M)) := by
      rw [c_X_of]
      simp only [qff hF, if_true, kx_hasPerson hF hT hA, zbI, if_neg hv]
    have hM : zcal zPP 100 267 [zA 305, zI v, zI w] (n, s, S, R, M) = some (zI (-1), (n, s, S, R, M)) := by
      rw [c_M_of]
      simp only [qff hF, if_true, km_isPerson hF hA, zbI, if_neg hv]
    exact qBo_same hw hX hM
theorem kx_hadRing (hF : qFx S R) (hT : qTw M 10 A) (hA : qIn A) (o y : Int) : zcal zPP (d + 2) 166 [zA 10, zI o, zI y] (n, s, S, R, M) = some (zI (if (0 ≤ o ∧ o < A 0) ∧ (0 ≤ y ∧ y < 24) ∧ A (11 + 24 * o.toNat + y.toNat) ≠ 0 then 1 else 0), (n, s, S, R, M)) := k_hadRing hF.1.2.1.1 hT hA o y
theorem qb_lends (hw : qWd n S R M W) (v w u : Int) : qBo 46 275 [zI v, zI w, zI u] n s S R M := by
  have hA := hw.2.1.2.2.2
  have hF := hw.1.2.1
  have hT := hw.2.1.1
  by_cases hv : (0 ≤ v ∧ v < M 306 0) ∧ (0 ≤ w ∧ w < 24) ∧ M 306 (11 + 24 * v.toNat + w.toNat) ≠ 0
  · by_cases hu : 0 ≤ u ∧ u < M 306 1
    · obtain ⟨o, rfl⟩ := Int.eq_ofNat_of_zero_le hv.1.1
      obtain ⟨y, rfl⟩ := Int.eq_ofNat_of_zero_le hv.2.1.1
      obtain ⟨p, rfl⟩ := Int.eq_ofNat_of_zero_le hu.1
      have hy : y < 24 := by omega
      refine qBo_q (v := zI (qLaw (qWr W (M 306 3)) (qEn (M 306) o y p) 0 (M 306 (136 + y)))) hw ?_ ?_
      · obtain ⟨q, hq1, hq2⟩ := wx_ruler (s := s) hw
        obtain ⟨M2, h2, h3⟩ := kj_says (n := n) (s := s) (d := 93) hF hw.1.2.2 hq2 (wx_CE hw) (L := 0) (by decide) hv.1.2 hy hu.2
        have h2' : zcal zPP 99 96 [zA 284, zI 0, zA q, zA 21, zI o, zI y, zI p] (n, s, S, R, M) = some (zI (qLaw (qWr W (M 306 3)) (qEn (M 306) o y p) 0 (M 306 (136 + y))), (n, s, S, R, M2)) := h2
        refine ⟨M2, ?_, qX2_e h3⟩
        rw [c_X_lends]
        simp only [qff hF, if_true]
        rw [kx_hadRing hF hT hA, if_pos hv]
        simp (disch := omega) only [kx_hasPerson hF hT hA, hu, hq1 97 M rfl, h2', qff hF, qltT, qltF, qleT, qleF, qeqT, qeqF, Int.reduceEq, Int.reduceNe, Int.reduceLT, Int.reduceLE, Int.reduceToNat, Int.reduceAdd, Int.reduceSub, Int.reduceMul, Int.reduceNeg, Nat.reduceAdd, Nat.reduceMul, Nat.reduceEqDiff, Nat.reduceLT, Int.cast_ofNat_Int, Int.lt_irrefl, ↓reduceIte, ↓reduceDIte, zbI, zbL, zbA, zbV, qrg, qrg2, qnn, qz, zup_at, zup_r, zup_ne, true_and, and_true, true_or, or_true, and_self, or_self, false_or, or_false, false_and, and_false, Int.toNat_natCast, Int.toNat_add, Int.toNat_mul, Int.toNat_zero, Int.toNat_one, qtn, Int.natCast_add, qnat1, qnat0, ne_eq, not_true_eq_false, not_false_eq_true, eq_self, qbool]
      · intro M1 hw1 e6
        have hA1 := hw1.2.1.2.2.2
        obtain ⟨M2, h2, h3⟩ := km_lendsOf (n := n) (s := s) (d := 91) (M := M1) (o := o) (y := y) (p := p) hF hA1 (by rw [e6]; exact hv.1.2) hy (by rw [e6]; exact hu.2) (wm_text hw1 hA1.2.2.2.1)
        rw [e6] at h2
        refine ⟨M2, ?_, qX3_e h3⟩
        rw [c_M_lends]
        simp only [qff hF, if_true]
        rw [km_isRing hF hA1, e6, if_pos hv]
        simp (disch := omega) only [km_isPerson hF hA1, e6, hu, h2, qff hF, qltT, qltF, qleT, qleF, qeqT, qeqF, Int.reduceEq, Int.reduceNe, Int.reduceLT, Int.reduceLE, Int.reduceToNat, Int.reduceAdd, Int.reduceSub, Int.reduceMul, Int.reduceNeg, Nat.reduceAdd, Nat.reduceMul, Nat.reduceEqDiff, Nat.reduceLT, Int.cast_ofNat_Int, Int.lt_irrefl, ↓reduceIte, ↓reduceDIte, zbI, zbL, zbA, zbV, qrg, qrg2, qnn, qz, zup_at, zup_r, zup_ne, true_and, and_true, true_or, or_true, and_self, or_self, false_or, or_false, false_and, and_false, Int.toNat_natCast, Int.toNat_add, Int.toNat_mul, Int.toNat_zero, Int.toNat_one, qtn, Int.natCast_add, qnat1, qnat0, ne_eq, not_true_eq_false, not_false_eq_true, eq_self, qbool]
    · have hX : zcal zPP 100 46 [zA 9, zI v, zI w, zI u] (n, s, S, R, M) = some (zI (-100), (n, s, S, R, M)) := by
        rw [c_X_lends]
        simp only [qff hF, if_true, kx_hadRing hF hT hA, if_pos hv, zbI]
        rw [if_neg (by decide)]
        simp only [kx_hasPerson hF hT hA, zbI, if_neg hu, if_true]
      have hM : zcal zPP 100 275 [zA 305, zI v, zI w, zI u] (n, s, S, R, M) = some (zI (-100), (n, s, S, R, M)) := by
        rw [c_M_lends]
        simp only [qff hF, if_true, km_isRing hF hA, if_pos hv, zbI]
        rw [if_neg (by decide)]
        simp only [km_isPerson hF hA, zbI, if_neg hu, if_true]
      exact qBo_same hw hX hM
  · have hX : zcal zPP 100 46 [zA 9, zI v, zI w, zI u] (n, s, S, R, M) = some (zI (-100), (n, s, S, R, M)) := by
      rw [c_X_lends]
      simp only [qff hF, if_true, kx_hadRing hF hT hA, if_neg hv, zbI]
    have hM : zcal zPP 100 275 [zA 305, zI v, zI w, zI u] (n, s, S, R, M) = some (zI (-100), (n, s, S, R, M)) := by
      rw [c_M_lends]
      simp only [qff hF, if_true, km_isRing hF hA, if_neg hv, zbI]
    exact qBo_same hw hX hM
theorem qb_pays (hw : qWd n S R M W) (v w u : Int) : qBo 47 276 [zI v, zI w, zI u] n s S R M := by
  have hA := hw.2.1.2.2.2
  have hF := hw.1.2.1
  have hT := hw.2.1.1
  by_cases hv : (0 ≤ v ∧ v < M 306 0) ∧ (0 ≤ w ∧ w < 24) ∧ M 306 (11 + 24 * v.toNat + w.toNat) ≠ 0
  · by_cases hu : 0 ≤ u ∧ u < M 306 1
    · obtain ⟨o, rfl⟩ := Int.eq_ofNat_of_zero_le hv.1.1
      obtain ⟨y, rfl⟩ := Int.eq_ofNat_of_zero_le hv.2.1.1
      obtain ⟨p, rfl⟩ := Int.eq_ofNat_of_zero_le hu.1
      have hy : y < 24 := by omega
      refine qBo_q (v := zI (qLaw (qWr W (M 306 3)) (qEn (M 306) o y p) 2 (M 306 (136 + y)))) hw ?_ ?_
      · obtain ⟨q, hq1, hq2⟩ := wx_ruler (s := s) hw
        obtain ⟨M2, h2, h3⟩ := kj_says (n := n) (s := s) (d := 93) hF hw.1.2.2 hq2 (wx_CE hw) (L := 2) (by decide) hv.1.2 hy hu.2
        have h2' : zcal zPP 99 96 [zA 284, zI 2, zA q, zA 21, zI o, zI y, zI p] (n, s, S, R, M) = some (zI (qLaw (qWr W (M 306 3)) (qEn (M 306) o y p) 2 (M 306 (136 + y))), (n, s, S, R, M2)) := h2
        refine ⟨M2, ?_, qX2_e h3⟩
        rw [c_X_pays]
        simp only [qff hF, if_true]
        rw [kx_hadRing hF hT hA, if_pos hv]
        simp (disch := omega) only [kx_hasPerson hF hT hA, hu, hq1 97 M rfl, h2', qff hF, qltT, qltF, qleT, qleF, qeqT, qeqF, Int.reduceEq, Int.reduceNe, Int.reduceLT, Int.reduceLE, Int.reduceToNat, Int.reduceAdd, Int.reduceSub, Int.reduceMul, Int.reduceNeg, Nat.reduceAdd, Nat.reduceMul, Nat.reduceEqDiff, Nat.reduceLT, Int.cast_ofNat_Int, Int.lt_irrefl, ↓reduceIte, ↓reduceDIte, zbI, zbL, zbA, zbV, qrg, qrg2, qnn, qz, zup_at, zup_r, zup_ne, true_and, and_true, true_or, or_true, and_self, or_self, false_or, or_false, false_and, and_false, Int.toNat_natCast, Int.toNat_add, Int.toNat_mul, Int.toNat_zero, Int.toNat_one, qtn, Int.natCast_add, qnat1, qnat0, ne_eq, not_true_eq_false, not_false_eq_true, eq_self, qbool]
      · intro M1 hw1 e6
        have hA1 := hw1.2.1.2.2.2
        obtain ⟨M2, h2, h3⟩ := km_paysOf (n := n) (s := s) (d := 91) (M := M1) (o := o) (y := y) (p := p) hF hA1 (by rw [e6]; exact hv.1.2) hy (by rw [e6]; exact hu.2) (wm_text hw1 hA1.2.2.2.1)
        rw [e6] at h2
        refine ⟨M2, ?_, qX3_e h3⟩
        rw [c_M_pays]
        simp only [qff hF, if_true]
        rw [km_isRing hF hA1, e6, if_pos hv]
        simp (disch := omega) only [km_isPerson hF hA1, e6, hu, h2, qff hF, qltT, qltF, qleT, qleF, qeqT, qeqF, Int.reduceEq, Int.reduceNe, Int.reduceLT, Int.reduceLE, Int.reduceToNat, Int.reduceAdd, Int.reduceSub, Int.reduceMul, Int.reduceNeg, Nat.reduceAdd, Nat.reduceMul, Nat.reduceEqDiff, Nat.reduceLT, Int.cast_ofNat_Int, Int.lt_irrefl, ↓reduceIte, ↓reduceDIte, zbI, zbL, zbA, zbV, qrg, qrg2, qnn, qz, zup_at, zup_r, zup_ne, true_and, and_true, true_or, or_true, and_self, or_self, false_or, or_false, false_and, and_false, Int.toNat_natCast, Int.toNat_add, Int.toNat_mul, Int.toNat_zero, Int.toNat_one, qtn, Int.natCast_add, qnat1, qnat0, ne_eq, not_true_eq_false, not_false_eq_true, eq_self, qbool]
    · have hX : zcal zPP 100 47 [zA 9, zI v, zI w, zI u] (n, s, S, R, M) = some (zI (-100), (n, s, S, R, M)) := by
        rw [c_X_pays]
        simp only [qff hF, if_true, kx_hadRing hF hT hA, if_pos hv, zbI]
        rw [if_neg (by decide)]
        simp only [kx_hasPerson hF hT hA, zbI, if_neg hu, if_true]
      have hM : zcal zPP 100 276 [zA 305, zI v, zI w, zI u] (n, s, S, R, M) = some (zI (-100), (n, s, S, R, M)) := by
        rw [c_M_pays]
        simp only [qff hF, if_true, km_isRing hF hA, if_pos hv, zbI]
        rw [if_neg (by decide)]
        simp only [km_isPerson hF hA, zbI, if_neg hu, if_true]
      exact qBo_same hw hX hM
  · have hX : zcal zPP 100 47 [zA 9, zI v, zI w, zI u] (n, s, S, R, M) = some (zI (-100), (n, s, S, R, M)) := by
      rw [c_X_pays]
      simp only [qff hF, if_true, kx_hadRing hF hT hA, if_neg hv, zbI]
    have hM : zcal zPP 100 276 [zA 305, zI v, zI w, zI u] (n, s, S, R, M) = some (zI (-100), (n, s, S, R, M)) := by
      rw [c_M_pays]
      simp only [qff hF, if_true, km_isRing hF hA, if_neg hv, zbI]
    exact qBo_same hw hX hM
end QF
