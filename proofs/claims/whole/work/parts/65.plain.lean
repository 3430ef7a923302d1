/-! QUERIES WITHOUT TEXTS, both sides -/
section QF
variable {S : Nat → Nat × Nat} {R : Nat → Nat → Nat} {M M' : Nat → Nat → Int} {n s d : Nat} {A : Nat → Int} {W : Nat → qWt}
theorem qb_about (hw : qWd n S R M W) (v : Int) : qBo 85 328 [zI v] n s S R M := by
  have hX := k_about (n := n) (s := s) (d := 99) (M := M) hw.1.2.1.1 v
  have hM := k_aboutM (n := n) (s := s) (d := 98) (M := M) hw.1.2.1.2.1 v
  obtain ⟨a1, a2, a3, a4, a5, a6⟩ := hw.2.1.1.1
  have a7 : M (10 + 15) 2 = M 306 4 := hw.2.1.2.2.1.1.1
  have a8 : M 305 4 = M 9 9 := hw.2.2.2.2.1.2.2
  rw [a1, a2, a3, a4, a5, a6, a7] at hX
  rw [a8] at hM
  exact qBo_same hw hX hM
theorem qb_is (hw : qWd n S R M W) (v : Int) : qBo 49 278 [zI v] n s S R M := by
  have hX := k_is (n := n) (s := s) (d := 99) (M := M) hw.1.2.1.1 v
  have hM := k_isM (n := n) (s := s) (d := 98) (M := M) hw.1.2.1.2.1 v
  obtain ⟨a1, a2, a3, a4⟩ := hw.2.1.2.1.2.1
  rw [a2, a3, a4] at hX
  exact qBo_same hw hX hM
theorem qb_kindOf (hw : qWd n S R M W) (v : Int) : qBo 48 277 [zI v] n s S R M := by
  have hX := k_kindOf (n := n) (s := s) (d := 98) (M := M) hw.1.2.1.1 v
  have hM := k_kindOfM (n := n) (s := s) (d := 97) (M := M) hw.1.2.1.2.1 v
  by_cases hc : 0 ≤ v ∧ v < 24
  · rw [if_pos hc] at hX hM
    rw [hw.2.1.1.2.2.1 v.toNat (by omega)] at hX
    exact qBo_same hw hX hM
  · rw [if_neg hc] at hX hM
    exact qBo_same hw hX hM
theorem qb_fault (hw : qWd n S R M W) (v : Int) : qBo 27 226 [zI v] n s S R M := by
  have hX := k_fault (n := n) (s := s) (d := 99) (M := M) hw.1.2.1.1 v
  have hM := k_faultM (n := n) (s := s) (d := 99) (M := M) hw.1.2.1.2.1 v
  rw [hw.2.2.2.2.2.1.1, hw.2.2.2.2.2.1.2] at hM
  exact qBo_same hw hX hM
theorem qb_ring (hw : qWd n S R M W) (v w : Int) : qBo 45 274 [zI v, zI w] n s S R M :=
  qBo_same hw (k_ring (n := n) (s := s) (d := 97) hw.1.2.1.1 hw.2.1.1 hw.2.1.2.2.2 hw.2.1.2.1.1 v w) (k_ringM (n := n) (s := s) (d := 96) hw.1.2.1.2.1 hw.2.1.2.2.2 v w)
theorem qb_same (hw : qWd n S R M W) (v w : Int) : qBo 52 290 [zI v, zI w] n s S R M :=
  qBo_same hw (k_same (n := n) (s := s) (d := 97) hw.1.2.1.1 hw.2.1.1 hw.2.1.2.2.2 hw.2.1.2.1.1 v w) (k_sameM (n := n) (s := s) (d := 96) hw.1.2.1.2.1 hw.2.1.2.2.2 v w)
theorem qb_earliest (hw : qWd n S R M W) (v : Int) : qBo 55 293 [zI v] n s S R M :=
  qBo_same hw (k_earliest (n := n) (s := s) (d := 97) hw.1.2.1.1 hw.2.1.2.2.2 hw.2.1.2.1.1 v) (k_earliestM (n := n) (s := s) (d := 96) hw.1.2.1.2.1 hw.2.1.2.2.2 v)
theorem qb_newest (hw : qWd n S R M W) (v : Int) : qBo 56 294 [zI v] n s S R M :=
  qBo_same hw (k_newest (n := n) (s := s) (d := 97) hw.1.2.1.1 hw.2.1.2.2.2 hw.2.1.2.1.1 v) (k_newestM (n := n) (s := s) (d := 96) hw.1.2.1.2.1 hw.2.1.2.2.2 v)
theorem qb_alike (hw : qWd n S R M W) (v w : Int) : qBo 68 314 [zI v, zI w] n s S R M :=
  qBo_same hw (k_alike (n := n) (s := s) (d := 97) hw.1.2.1.1 hw.2.1.1 hw.2.1.2.2.2 hw.2.1.2.1.1 v w) (k_alikeM (n := n) (s := s) (d := 97) hw.1.2.1.2.1 hw.2.1.2.2.2 v w)
theorem qb_left (hw : qWd n S R M W) (v : Int) : qBo 77 283 [zI v] n s S R M :=
  qBo_same hw (kx_left (n := n) (s := s) (d := 97) hw.1.2.1 hw.2.1.1 hw.2.1.2.2.2 hw.2.1.2.1.1 v) (km_left (n := n) (s := s) (d := 97) hw.1.2.1 hw.2.1.2.2.2 v)
theorem qb_count (hw : qWd n S R M W) (v : Int) : qBo 78 284 [zI v] n s S R M :=
  qBo_same hw (kx_count (n := n) (s := s) (d := 97) hw.1.2.1 hw.2.1.1 hw.2.1.2.2.2 hw.2.1.2.1.1 v) (km_count (n := n) (s := s) (d := 97) hw.1.2.1 hw.2.1.2.2.2 v)
theorem qb_bare (hw : qWd n S R M W) : qBo 80 287 [] n s S R M :=
  qBo_same hw (kx_bare (n := n) (s := s) (d := 97) hw.1.2.1 hw.2.1.1 hw.2.1.2.2.2 hw.2.1.2.1.1) (km_bare (n := n) (s := s) (d := 96) hw.1.2.1 hw.2.1.2.2.2)
theorem qb_fenced (hw : qWd n S R M W) : qBo 79 286 [] n s S R M := by
  obtain ⟨a, ha⟩ := Int.eq_ofNat_of_zero_le hw.2.1.2.2.2.1.1
  exact qBo_same hw (k_fenced (n := n) (s := s) (d := 96) hw.1.2.1.1 hw.2.1.1 hw.2.1.2.2.2 hw.2.1.2.1.1 ha) (k_fencedM (n := n) (s := s) (d := 96) hw.1.2.1.2.1 hw.2.1.2.2.2 ha)
/-! dated, nearest -/
def qunl (A : Nat → Int) (y : Nat) : Nat → Bool := fun k => decide (A (136 + y + k) ≠ A (174 + k))
theorem kx_unlike (hF : qFx S R) (hT : qTw M 10 A) (hA : qIn A) {y c : Nat} (hc : A 5 = c) (hy : y + c ≤ 24) : zcal zPP (d + 2) 175 [zA 10, zI y] (n, s, S, R, M) = some (zI (zct (qunl A y) c : Nat), (n, s, S, R, M)) := by
  have h10 := hA.2.2.2.2.2.1
  have L := qlp (P := fun i => zR zPP (d + 1) 175 4 [zA 10, zI y, zI (zct (qunl A y) i : Nat), zI i] [] (n, s, S, R, M)) (N := c) (fun i hi => by
    have hz := zct_le (qunl A y) i
    have e1 := hT.2.2.1 (y + i) (by omega)
    have e2 := hT.2.2.2.2.2.2.1 i (by omega)
    have e1' : M 12 (y + i) = A (136 + y + i) := by rw [Nat.add_assoc]; exact e1
    show zR _ _ _ _ _ _ _ = zR _ _ _ _ _ _ _
    rw [e_Town_unlikeFrom_4, zct_s]
    by_cases hq : A (136 + y + i) = A (174 + i)
    · rw [if_neg (show ¬ qunl A y i = true from fun z => of_decide_eq_true z hq)]
      simp (disch := omega) only [qtw hT, hc, k_isYearX, e1', e2, hq, qff hF, qltT, qltF, qleT, qleF, qeqT, qeqF, Int.reduceEq, Int.reduceNe, Int.reduceLT, Int.reduceLE, Int.reduceToNat, Int.reduceAdd, Int.reduceSub, Int.reduceMul, Int.reduceNeg, Nat.reduceAdd, Nat.reduceMul, Nat.reduceEqDiff, Nat.reduceLT, Int.cast_ofNat_Int, Int.lt_irrefl, ↓reduceIte, ↓reduceDIte, zbI, zbL, zbA, zbV, qrg, qrg2, qnn, qz, zup_at, zup_r, zup_ne, true_and, and_true, true_or, or_true, and_self, or_self, false_or, or_false, false_and, and_false, Int.toNat_natCast, Int.toNat_add, Int.toNat_mul, Int.toNat_zero, Int.toNat_one, qtn, Int.natCast_add, qnat1, qnat0, ne_eq, not_true_eq_false, not_false_eq_true, eq_self, qbool]
      rfl
    · rw [if_pos (show qunl A y i = true from decide_eq_true hq)]
      simp (disch := omega) only [qtw hT, hc, k_isYearX, e1', e2, hq, qff hF, qltT, qltF, qleT, qleF, qeqT, qeqF, Int.reduceEq, Int.reduceNe, Int.reduceLT, Int.reduceLE, Int.reduceToNat, Int.reduceAdd, Int.reduceSub, Int.reduceMul, Int.reduceNeg, Nat.reduceAdd, Nat.reduceMul, Nat.reduceEqDiff, Nat.reduceLT, Int.cast_ofNat_Int, Int.lt_irrefl, ↓reduceIte, ↓reduceDIte, zbI, zbL, zbA, zbV, qrg, qrg2, qnn, qz, zup_at, zup_r, zup_ne, true_and, and_true, true_or, or_true, and_self, or_self, false_or, or_false, false_and, and_false, Int.toNat_natCast, Int.toNat_add, Int.toNat_mul, Int.toNat_zero, Int.toNat_one, qtn, Int.natCast_add, qnat1, qnat0, ne_eq, not_true_eq_false, not_false_eq_true, eq_self, qbool])
  simp (disch := omega) only [c_Town_unlikeFrom, qff hF, qltT, qltF, qleT, qleF, qeqT, qeqF, Int.reduceEq, Int.reduceNe, Int.reduceLT, Int.reduceLE, Int.reduceToNat, Int.reduceAdd, Int.reduceSub, Int.reduceMul, Int.reduceNeg, Nat.reduceAdd, Nat.reduceMul, Nat.reduceEqDiff, Nat.reduceLT, Int.cast_ofNat_Int, Int.lt_irrefl, ↓reduceIte, ↓reduceDIte, zbI, zbL, zbA, zbV, qrg, qrg2, qnn, qz, zup_at, zup_r, zup_ne, true_and, and_true, true_or, or_true, and_self, or_self, false_or, or_false, false_and, and_false, Int.toNat_natCast, Int.toNat_add, Int.toNat_mul, Int.toNat_zero, Int.toNat_one, qtn, Int.natCast_add, qnat1, qnat0, ne_eq, not_true_eq_false, not_false_eq_true, eq_self, qbool]
  refine L.trans ?_
  show zR _ _ _ _ _ _ _ = _
  rw [e_Town_unlikeFrom_4]
  simp (disch := omega) only [qtw hT, hc, qff hF, qltT, qltF, qleT, qleF, qeqT, qeqF, Int.reduceEq, Int.reduceNe, Int.reduceLT, Int.reduceLE, Int.reduceToNat, Int.reduceAdd, Int.reduceSub, Int.reduceMul, Int.reduceNeg, Nat.reduceAdd, Nat.reduceMul, Nat.reduceEqDiff, Nat.reduceLT, Int.cast_ofNat_Int, Int.lt_irrefl, ↓reduceIte, ↓reduceDIte, zbI, zbL, zbA, zbV, qrg, qrg2, qnn, qz, zup_at, zup_r, zup_ne, true_and, and_true, true_or, or_true, and_self, or_self, false_or, or_false, false_and, and_false, Int.toNat_natCast, Int.toNat_add, Int.toNat_mul, Int.toNat_zero, Int.toNat_one, qtn, Int.natCast_add, qnat1, qnat0, ne_eq, not_true_eq_false, not_false_eq_true, eq_self, qbool]
theorem km_unlike (hF : qFx S R) (hA : qIn (M 306)) {y c : Nat} (hc : M 306 5 = c) (hy : y + c ≤ 24) : zcal zPP (d + 2) 311 [zA 305, zI y] (n, s, S, R, M) = some (zI (zct (qunl (M 306) y) c : Nat), (n, s, S, R, M)) := by
  have h10 := hA.2.2.2.2.2.1
  have L := qlp (P := fun i => zR zPP (d + 1) 311 4 [zA 305, zI y, zI (zct (qunl (M 306) y) i : Nat), zI i] [] (n, s, S, R, M)) (N := c) (fun i hi => by
    have hz := zct_le (qunl (M 306) y) i
    show zR _ _ _ _ _ _ _ = zR _ _ _ _ _ _ _
    rw [e_M_unlikeFrom_4, zct_s]
    by_cases hq : M 306 (136 + y + i) = M 306 (174 + i)
    · rw [if_neg (show ¬ qunl (M 306) y i = true from fun z => of_decide_eq_true z hq)]
      simp (disch := omega) only [hc, hq, qff hF, qltT, qltF, qleT, qleF, qeqT, qeqF, Int.reduceEq, Int.reduceNe, Int.reduceLT, Int.reduceLE, Int.reduceToNat, Int.reduceAdd, Int.reduceSub, Int.reduceMul, Int.reduceNeg, Nat.reduceAdd, Nat.reduceMul, Nat.reduceEqDiff, Nat.reduceLT, Int.cast_ofNat_Int, Int.lt_irrefl, ↓reduceIte, ↓reduceDIte, zbI, zbL, zbA, zbV, qrg, qrg2, qnn, qz, zup_at, zup_r, zup_ne, true_and, and_true, true_or, or_true, and_self, or_self, false_or, or_false, false_and, and_false, Int.toNat_natCast, Int.toNat_add, Int.toNat_mul, Int.toNat_zero, Int.toNat_one, qtn, Int.natCast_add, qnat1, qnat0, ne_eq, not_true_eq_false, not_false_eq_true, eq_self, qbool]
    · rw [if_pos (show qunl (M 306) y i = true from decide_eq_true hq)]
      simp (disch := omega) only [hc, hq, qff hF, qltT, qltF, qleT, qleF, qeqT, qeqF, Int.reduceEq, Int.reduceNe, Int.reduceLT, Int.reduceLE, Int.reduceToNat, Int.reduceAdd, Int.reduceSub, Int.reduceMul, Int.reduceNeg, Nat.reduceAdd, Nat.reduceMul, Nat.reduceEqDiff, Nat.reduceLT, Int.cast_ofNat_Int, Int.lt_irrefl, ↓reduceIte, ↓reduceDIte, zbI, zbL, zbA, zbV, qrg, qrg2, qnn, qz, zup_at, zup_r, zup_ne, true_and, and_true, true_or, or_true, and_self, or_self, false_or, or_false, false_and, and_false, Int.toNat_natCast, Int.toNat_add, Int.toNat_mul, Int.toNat_zero, Int.toNat_one, qtn, Int.natCast_add, qnat1, qnat0, ne_eq, not_true_eq_false, not_false_eq_true, eq_self, qbool])
  simp (disch := omega) only [c_M_unlikeFrom, qff hF, qltT, qltF, qleT, qleF, qeqT, qeqF, Int.reduceEq, Int.reduceNe, Int.reduceLT, Int.reduceLE, Int.reduceToNat, Int.reduceAdd, Int.reduceSub, Int.reduceMul, Int.reduceNeg, Nat.reduceAdd, Nat.reduceMul, Nat.reduceEqDiff, Nat.reduceLT, Int.cast_ofNat_Int, Int.lt_irrefl, ↓reduceIte, ↓reduceDIte, zbI, zbL, zbA, zbV, qrg, qrg2, qnn, qz, zup_at, zup_r, zup_ne, true_and, and_true, true_or, or_true, and_self, or_self, false_or, or_false, false_and, and_false, Int.toNat_natCast, Int.toNat_add, Int.toNat_mul, Int.toNat_zero, Int.toNat_one, qtn, Int.natCast_add, qnat1, qnat0, ne_eq, not_true_eq_false, not_false_eq_true, eq_self, qbool]
  refine L.trans ?_
  show zR _ _ _ _ _ _ _ = _
  rw [e_M_unlikeFrom_4]
  simp (disch := omega) only [hc, qff hF, qltT, qltF, qleT, qleF, qeqT, qeqF, Int.reduceEq, Int.reduceNe, Int.reduceLT, Int.reduceLE, Int.reduceToNat, Int.reduceAdd, Int.reduceSub, Int.reduceMul, Int.reduceNeg, Nat.reduceAdd, Nat.reduceMul, Nat.reduceEqDiff, Nat.reduceLT, Int.cast_ofNat_Int, Int.lt_irrefl, ↓reduceIte, ↓reduceDIte, zbI, zbL, zbA, zbV, qrg, qrg2, qnn, qz, zup_at, zup_r, zup_ne, true_and, and_true, true_or, or_true, and_self, or_self, false_or, or_false, false_and, and_false, Int.toNat_natCast, Int.toNat_add, Int.toNat_mul, Int.toNat_zero, Int.toNat_one, qtn, Int.natCast_add, qnat1, qnat0, ne_eq, not_true_eq_false, not_false_eq_true, eq_self, qbool]
def qdat (A : Nat → Int) (c : Nat) (u : Int) : Nat → Bool := fun y => decide (y + c ≤ 24) && decide ((zct (qunl A y) c : Int) ≤ u)
theorem kx_dated (hF : qFx S R) (hT : qTw M 10 A) (hA : qIn A) {c : Nat} (hc : A 5 = c) {u : Int} (hu : 0 ≤ u ∧ u ≤ 10) : zcal zPP (d + 3) 65 [zA 9, zI u] (n, s, S, R, M) = some (zI (zsn (qdat A c u) 24 : Nat), (n, s, S, R, M)) := by
  have h10 := hA.2.2.2.2.2.1
  have L := qlp (P := fun i => zR zPP (d + 2) 65 11 [zA 9, zI u, zI (zsn (qdat A c u) i : Nat), zI i] [] (n, s, S, R, M)) (N := 24) (fun i hi => by
    show zR _ _ _ _ _ _ _ = zR _ _ _ _ _ _ _
    rw [e_X_dated_11]
    by_cases h0 : c = 0
    · have hq : qdat A c u i = true := by
        subst h0
        unfold qdat
        rw [Bool.and_eq_true]
        exact ⟨decide_eq_true (by omega), decide_eq_true (by show ((0 : Nat) : Int) ≤ u; omega)⟩
      simp (disch := omega) only [qtw hT, hc, qff hF, qltT, qltF, qleT, qleF, qeqT, qeqF, Int.reduceEq, Int.reduceNe, Int.reduceLT, Int.reduceLE, Int.reduceToNat, Int.reduceAdd, Int.reduceSub, Int.reduceMul, Int.reduceNeg, Nat.reduceAdd, Nat.reduceMul, Nat.reduceEqDiff, Nat.reduceLT, Int.cast_ofNat_Int, Int.lt_irrefl, ↓reduceIte, ↓reduceDIte, zbI, zbL, zbA, zbV, qrg, qrg2, qnn, qz, zup_at, zup_r, zup_ne, true_and, and_true, true_or, or_true, and_self, or_self, false_or, or_false, false_and, and_false, Int.toNat_natCast, Int.toNat_add, Int.toNat_mul, Int.toNat_zero, Int.toNat_one, qtn, Int.natCast_add, qnat1, qnat0, ne_eq, not_true_eq_false, not_false_eq_true, eq_self, qbool]
      rw [zor_put (by omega) hq]
    · by_cases hy : i + c ≤ 24
      · simp (disch := omega) only [qtw hT, hc, c_Town_marksFit, kx_unlike hF hT hA hc hy, qff hF, qltT, qltF, qleT, qleF, qeqT, qeqF, Int.reduceEq, Int.reduceNe, Int.reduceLT, Int.reduceLE, Int.reduceToNat, Int.reduceAdd, Int.reduceSub, Int.reduceMul, Int.reduceNeg, Nat.reduceAdd, Nat.reduceMul, Nat.reduceEqDiff, Nat.reduceLT, Int.cast_ofNat_Int, Int.lt_irrefl, ↓reduceIte, ↓reduceDIte, zbI, zbL, zbA, zbV, qrg, qrg2, qnn, qz, zup_at, zup_r, zup_ne, true_and, and_true, true_or, or_true, and_self, or_self, false_or, or_false, false_and, and_false, Int.toNat_natCast, Int.toNat_add, Int.toNat_mul, Int.toNat_zero, Int.toNat_one, qtn, Int.natCast_add, qnat1, qnat0, ne_eq, not_true_eq_false, not_false_eq_true, eq_self, qbool]
        by_cases hl : u < (zct (qunl A i) c : Int)
        · rw [if_pos hl, zsn_no (by unfold qdat; rw [Bool.and_eq_false_iff]; exact Or.inr (decide_eq_false (by omega)))]
        · rw [if_neg hl, zor_put (by omega) (by unfold qdat; rw [Bool.and_eq_true]; exact ⟨decide_eq_true hy, decide_eq_true (by omega)⟩)]
      · simp (disch := omega) only [qtw hT, hc, c_Town_marksFit, qff hF, qltT, qltF, qleT, qleF, qeqT, qeqF, Int.reduceEq, Int.reduceNe, Int.reduceLT, Int.reduceLE, Int.reduceToNat, Int.reduceAdd, Int.reduceSub, Int.reduceMul, Int.reduceNeg, Nat.reduceAdd, Nat.reduceMul, Nat.reduceEqDiff, Nat.reduceLT, Int.cast_ofNat_Int, Int.lt_irrefl, ↓reduceIte, ↓reduceDIte, zbI, zbL, zbA, zbV, qrg, qrg2, qnn, qz, zup_at, zup_r, zup_ne, true_and, and_true, true_or, or_true, and_self, or_self, false_or, or_false, false_and, and_false, Int.toNat_natCast, Int.toNat_add, Int.toNat_mul, Int.toNat_zero, Int.toNat_one, qtn, Int.natCast_add, qnat1, qnat0, ne_eq, not_true_eq_false, not_false_eq_true, eq_self, qbool]
        rw [zsn_no (by unfold qdat; rw [Bool.and_eq_false_iff]; exact Or.inl (decide_eq_false hy))])
  simp (disch := omega) only [c_X_dated, qff hF, qltT, qltF, qleT, qleF, qeqT, qeqF, Int.reduceEq, Int.reduceNe, Int.reduceLT, Int.reduceLE, Int.reduceToNat, Int.reduceAdd, Int.reduceSub, Int.reduceMul, Int.reduceNeg, Nat.reduceAdd, Nat.reduceMul, Nat.reduceEqDiff, Nat.reduceLT, Int.cast_ofNat_Int, Int.lt_irrefl, ↓reduceIte, ↓reduceDIte, zbI, zbL, zbA, zbV, qrg, qrg2, qnn, qz, zup_at, zup_r, zup_ne, true_and, and_true, true_or, or_true, and_self, or_self, false_or, or_false, false_and, and_false, Int.toNat_natCast, Int.toNat_add, Int.toNat_mul, Int.toNat_zero, Int.toNat_one, qtn, Int.natCast_add, qnat1, qnat0, ne_eq, not_true_eq_false, not_false_eq_true, eq_self, qbool]
  refine L.trans ?_
  show zR _ _ _ _ _ _ _ = _
  rw [e_X_dated_11, if_neg (by decide)]
theorem zsn_stop {f : Nat → Bool} {a : Nat} : ∀ (k : Nat), (∀ i, a ≤ i → i < a + k → f i = false) → zsn f (a + k) = zsn f a
  | 0, _ => rfl
  | k + 1, h => by
    show zsn f (a + k + 1) = _
    rw [zsn_no (h (a + k) (by omega) (by omega))]
    exact zsn_stop k fun i h1 h2 => h i h1 (by omega)
theorem km_dated (hF : qFx S R) (hA : qIn (M 306)) {c : Nat} (hc : M 306 5 = c) {u : Int} (hu : 0 ≤ u ∧ u ≤ 10) : zcal zPP (d + 3) 310 [zA 305, zI u] (n, s, S, R, M) = some (zI (zsn (qdat (M 306) c u) 24 : Nat), (n, s, S, R, M)) := by
  have h10 := hA.2.2.2.2.2.1
  have hN : zsn (qdat (M 306) c u) 24 = zsn (qdat (M 306) c u) (min 24 (25 - c)) := by
    have := zsn_stop (f := qdat (M 306) c u) (a := min 24 (25 - c)) (24 - min 24 (25 - c)) (fun i h1 h2 => by unfold qdat; rw [Bool.and_eq_false_iff]; exact Or.inl (decide_eq_false (by omega)))
    rw [← this]
    congr 1
    omega
  have L := qlp (P := fun i => zR zPP (d + 2) 310 11 [zA 305, zI u, zI (zsn (qdat (M 306) c u) i : Nat), zI i] [] (n, s, S, R, M)) (N := min 24 (25 - c)) (fun i hi => by
    have hy : i + c ≤ 24 := by omega
    show zR _ _ _ _ _ _ _ = zR _ _ _ _ _ _ _
    rw [e_M_dated_11]
    simp (disch := omega) only [hc, km_unlike hF hA hc hy, qff hF, qltT, qltF, qleT, qleF, qeqT, qeqF, Int.reduceEq, Int.reduceNe, Int.reduceLT, Int.reduceLE, Int.reduceToNat, Int.reduceAdd, Int.reduceSub, Int.reduceMul, Int.reduceNeg, Nat.reduceAdd, Nat.reduceMul, Nat.reduceEqDiff, Nat.reduceLT, Int.cast_ofNat_Int, Int.lt_irrefl, ↓reduceIte, ↓reduceDIte, zbI, zbL, zbA, zbV, qrg, qrg2, qnn, qz, zup_at, zup_r, zup_ne, true_and, and_true, true_or, or_true, and_self, or_self, false_or, or_false, false_and, and_false, Int.toNat_natCast, Int.toNat_add, Int.toNat_mul, Int.toNat_zero, Int.toNat_one, qtn, Int.natCast_add, qnat1, qnat0, ne_eq, not_true_eq_false, not_false_eq_true, eq_self, qbool]
    by_cases hl : u < (zct (qunl (M 306) i) c : Int)
    · rw [if_pos hl, zor_zero (zsn_lt31 _ (by omega)), zsn_no (by unfold qdat; rw [Bool.and_eq_false_iff]; exact Or.inr (decide_eq_false (by omega)))]
    · rw [if_neg hl, zor_put (by omega) (by unfold qdat; rw [Bool.and_eq_true]; exact ⟨decide_eq_true hy, decide_eq_true (by omega)⟩)])
  simp (disch := omega) only [c_M_dated, k_isIn, qff hF, qltT, qltF, qleT, qleF, qeqT, qeqF, Int.reduceEq, Int.reduceNe, Int.reduceLT, Int.reduceLE, Int.reduceToNat, Int.reduceAdd, Int.reduceSub, Int.reduceMul, Int.reduceNeg, Nat.reduceAdd, Nat.reduceMul, Nat.reduceEqDiff, Nat.reduceLT, Int.cast_ofNat_Int, Int.lt_irrefl, ↓reduceIte, ↓reduceDIte, zbI, zbL, zbA, zbV, qrg, qrg2, qnn, qz, zup_at, zup_r, zup_ne, true_and, and_true, true_or, or_true, and_self, or_self, false_or, or_false, false_and, and_false, Int.toNat_natCast, Int.toNat_add, Int.toNat_mul, Int.toNat_zero, Int.toNat_one, qtn, Int.natCast_add, qnat1, qnat0, ne_eq, not_true_eq_false, not_false_eq_true, eq_self, qbool]
  refine L.trans ?_
  show zR _ _ _ _ _ _ _ = _
  rw [e_M_dated_11, hN]
  by_cases h24 : min 24 (25 - c) < 24
  · simp (disch := omega) only [hc, qff hF, qltT, qltF, qleT, qleF, qeqT, qeqF, Int.reduceEq, Int.reduceNe, Int.reduceLT, Int.reduceLE, Int.reduceToNat, Int.reduceAdd, Int.reduceSub, Int.reduceMul, Int.reduceNeg, Nat.reduceAdd, Nat.reduceMul, Nat.reduceEqDiff, Nat.reduceLT, Int.cast_ofNat_Int, Int.lt_irrefl, ↓reduceIte, ↓reduceDIte, zbI, zbL, zbA, zbV, qrg, qrg2, qnn, qz, zup_at, zup_r, zup_ne, true_and, and_true, true_or, or_true, and_self, or_self, false_or, or_false, false_and, and_false, Int.toNat_natCast, Int.toNat_add, Int.toNat_mul, Int.toNat_zero, Int.toNat_one, qtn, Int.natCast_add, qnat1, qnat0, ne_eq, not_true_eq_false, not_false_eq_true, eq_self, qbool]
  · simp (disch := omega) only [hc, qff hF, qltT, qltF, qleT, qleF, qeqT, qeqF, Int.reduceEq, Int.reduceNe, Int.reduceLT, Int.reduceLE, Int.reduceToNat, Int.reduceAdd, Int.reduceSub, Int.reduceMul, Int.reduceNeg, Nat.reduceAdd, Nat.reduceMul, Nat.reduceEqDiff, Nat.reduceLT, Int.cast_ofNat_Int, Int.lt_irrefl, ↓reduceIte, ↓reduceDIte, zbI, zbL, zbA, zbV, qrg, qrg2, qnn, qz, zup_at, zup_r, zup_ne, true_and, and_true, true_or, or_true, and_self, or_self, false_or, or_false, false_and, and_false, Int.toNat_natCast, Int.toNat_add, Int.toNat_mul, Int.toNat_zero, Int.toNat_one, qtn, Int.natCast_add, qnat1, qnat0, ne_eq, not_true_eq_false, not_false_eq_true, eq_self, qbool]
theorem qb_dated (hw : qWd n S R M W) (v : Int) : qBo 65 310 [zI v] n s S R M := by
  have hA := hw.2.1.2.2.2
  have hF := hw.1.2.1
  obtain ⟨c, hc⟩ := Int.eq_ofNat_of_zero_le hA.2.2.2.2.2.1.1
  by_cases hv : 0 ≤ v ∧ v ≤ 10
  · exact qBo_same hw (kx_dated (n := n) (s := s) (d := 97) hF hw.2.1.1 hA hc hv) (km_dated (n := n) (s := s) (d := 97) hF hA hc hv)
  · have hX : zcal zPP 100 65 [zA 9, zI v] (n, s, S, R, M) = some (zI (-1), (n, s, S, R, M)) := by
      by_cases h1 : v < 0
      · simp (disch := omega) only [c_X_dated, qff hF, qltT, qltF, qleT, qleF, qeqT, qeqF, Int.reduceEq, Int.reduceNe, Int.reduceLT, Int.reduceLE, Int.reduceToNat, Int.reduceAdd, Int.reduceSub, Int.reduceMul, Int.reduceNeg, Nat.reduceAdd, Nat.reduceMul, Nat.reduceEqDiff, Nat.reduceLT, Int.cast_ofNat_Int, Int.lt_irrefl, ↓reduceIte, ↓reduceDIte, zbI, zbL, zbA, zbV, qrg, qrg2, qnn, qz, zup_at, zup_r, zup_ne, true_and, and_true, true_or, or_true, and_self, or_self, false_or, or_false, false_and, and_false, Int.toNat_natCast, Int.toNat_add, Int.toNat_mul, Int.toNat_zero, Int.toNat_one, qtn, Int.natCast_add, qnat1, qnat0, ne_eq, not_true_eq_false, not_false_eq_true, eq_self, qbool]
      · simp (disch := omega) only [c_X_dated, qff hF, qltT, qltF, qleT, qleF, qeqT, qeqF, Int.reduceEq, Int.reduceNe, Int.reduceLT, Int.reduceLE, Int.reduceToNat, Int.reduceAdd, Int.reduceSub, Int.reduceMul, Int.reduceNeg, Nat.reduceAdd, Nat.reduceMul, Nat.reduceEqDiff, Nat.reduceLT, Int.cast_ofNat_Int, Int.lt_irrefl, ↓reduceIte, ↓reduceDIte, zbI, zbL, zbA, zbV, qrg, qrg2, qnn, qz, zup_at, zup_r, zup_ne, true_and, and_true, true_or, or_true, and_self, or_self, false_or, or_false, false_and, and_false, Int.toNat_natCast, Int.toNat_add, Int.toNat_mul, Int.toNat_zero, Int.toNat_one, qtn, Int.natCast_add, qnat1, qnat0, ne_eq, not_true_eq_false, not_false_eq_true, eq_self, qbool]
    have hM : zcal zPP 100 310 [zA 305, zI v] (n, s, S, R, M) = some (zI (-1), (n, s, S, R, M)) := by
      by_cases h1 : v < 0
      · simp (disch := omega) only [c_M_dated, k_isIn, qff hF, qltT, qltF, qleT, qleF, qeqT, qeqF, Int.reduceEq, Int.reduceNe, Int.reduceLT, Int.reduceLE, Int.reduceToNat, Int.reduceAdd, Int.reduceSub, Int.reduceMul, Int.reduceNeg, Nat.reduceAdd, Nat.reduceMul, Nat.reduceEqDiff, Nat.reduceLT, Int.cast_ofNat_Int, Int.lt_irrefl, ↓reduceIte, ↓reduceDIte, zbI, zbL, zbA, zbV, qrg, qrg2, qnn, qz, zup_at, zup_r, zup_ne, true_and, and_true, true_or, or_true, and_self, or_self, false_or, or_false, false_and, and_false, Int.toNat_natCast, Int.toNat_add, Int.toNat_mul, Int.toNat_zero, Int.toNat_one, qtn, Int.natCast_add, qnat1, qnat0, ne_eq, not_true_eq_false, not_false_eq_true, eq_self, qbool]
      · simp (disch := omega) only [c_M_dated, k_isIn, qff hF, qltT, qltF, qleT, qleF, qeqT, qeqF, Int.reduceEq, Int.reduceNe, Int.reduceLT, Int.reduceLE, Int.reduceToNat, Int.reduceAdd, Int.reduceSub, Int.reduceMul, Int.reduceNeg, Nat.reduceAdd, Nat.reduceMul, Nat.reduceEqDiff, Nat.reduceLT, Int.cast_ofNat_Int, Int.lt_irrefl, ↓reduceIte, ↓reduceDIte, zbI, zbL, zbA, zbV, qrg, qrg2, qnn, qz, zup_at, zup_r, zup_ne, true_and, and_true, true_or, or_true, and_self, or_self, false_or, or_false, false_and, and_false, Int.toNat_natCast, Int.toNat_add, Int.toNat_mul, Int.toNat_zero, Int.toNat_one, qtn, Int.natCast_add, qnat1, qnat0, ne_eq, not_true_eq_false, not_false_eq_true, eq_self, qbool]
    exact qBo_same hw hX hM
/-- the best of the years below n -/
def qnear (A : Nat → Int) (c : Nat) : Nat → Nat
  | 0 => 0
  | n + 1 => if n + 1 + c ≤ 24 ∧ zct (qunl A (n + 1)) c < zct (qunl A (qnear A c n)) c then n + 1 else qnear A c n
theorem qnear_in (A : Nat → Int) {c : Nat} (hc : c ≤ 24) : ∀ n, qnear A c n + c ≤ 24
  | 0 => by show 0 + c ≤ 24; omega
  | n + 1 => by
    have := qnear_in A hc n
    unfold qnear
    split <;> omega
theorem kx_nearest (hF : qFx S R) (hT : qTw M 10 A) (hA : qIn A) {c : Nat} (hc : A 5 = c) (h0 : c ≠ 0) : zcal zPP (d + 3) 66 [zA 9] (n, s, S, R, M) = some (zI (qnear A c 23 : Nat), (n, s, S, R, M)) := by
  have h10 := hA.2.2.2.2.2.1
  have L := qlp (P := fun i => zR zPP (d + 2) 66 10 [zA 9, zI (qnear A c i : Nat), zI ((i + 1 : Nat) : Int)] [] (n, s, S, R, M)) (N := 23) (fun i hi => by
    have hq := qnear_in A (c := c) (by omega) i
    show zR _ _ _ _ _ _ _ = zR _ _ _ _ _ _ _
    rw [e_X_nearest_10]
    by_cases hy : i + 1 + c ≤ 24
    · have e1 := kx_unlike (n := n) (s := s) (d := d) (M := M) hF hT hA hc hy
      simp (disch := omega) only [qtw hT, hc, c_Town_marksFit, kx_unlike hF hT hA hc hq, qff hF, qltT, qltF, qleT, qleF, qeqT, qeqF, Int.reduceEq, Int.reduceNe, Int.reduceLT, Int.reduceLE, Int.reduceToNat, Int.reduceAdd, Int.reduceSub, Int.reduceMul, Int.reduceNeg, Nat.reduceAdd, Nat.reduceMul, Nat.reduceEqDiff, Nat.reduceLT, Int.cast_ofNat_Int, Int.lt_irrefl, ↓reduceIte, ↓reduceDIte, zbI, zbL, zbA, zbV, qrg, qrg2, qnn, qz, zup_at, zup_r, zup_ne, true_and, and_true, true_or, or_true, and_self, or_self, false_or, or_false, false_and, and_false, Int.toNat_natCast, Int.toNat_add, Int.toNat_mul, Int.toNat_zero, Int.toNat_one, qtn, Int.natCast_add, qnat1, qnat0, ne_eq, not_true_eq_false, not_false_eq_true, eq_self, qbool]
      rw [show ((i : Int) + 1) = ((i + 1 : Nat) : Int) from rfl, e1]
      simp (disch := omega) only [kx_unlike hF hT hA hc hq, qff hF, qltT, qltF, qleT, qleF, qeqT, qeqF, Int.reduceEq, Int.reduceNe, Int.reduceLT, Int.reduceLE, Int.reduceToNat, Int.reduceAdd, Int.reduceSub, Int.reduceMul, Int.reduceNeg, Nat.reduceAdd, Nat.reduceMul, Nat.reduceEqDiff, Nat.reduceLT, Int.cast_ofNat_Int, Int.lt_irrefl, ↓reduceIte, ↓reduceDIte, zbI, zbL, zbA, zbV, qrg, qrg2, qnn, qz, zup_at, zup_r, zup_ne, true_and, and_true, true_or, or_true, and_self, or_self, false_or, or_false, false_and, and_false, Int.toNat_natCast, Int.toNat_add, Int.toNat_mul, Int.toNat_zero, Int.toNat_one, qtn, Int.natCast_add, qnat1, qnat0, ne_eq, not_true_eq_false, not_false_eq_true, eq_self, qbool]
      by_cases hl : zct (qunl A (i + 1)) c < zct (qunl A (qnear A c i)) c
      · rw [if_pos (by omega), show qnear A c (i + 1) = i + 1 from if_pos ⟨hy, hl⟩]
        rfl
      · rw [if_neg (by omega), show qnear A c (i + 1) = qnear A c i from if_neg (fun z => hl z.2)]
    · simp (disch := omega) only [qtw hT, hc, c_Town_marksFit, qff hF, qltT, qltF, qleT, qleF, qeqT, qeqF, Int.reduceEq, Int.reduceNe, Int.reduceLT, Int.reduceLE, Int.reduceToNat, Int.reduceAdd, Int.reduceSub, Int.reduceMul, Int.reduceNeg, Nat.reduceAdd, Nat.reduceMul, Nat.reduceEqDiff, Nat.reduceLT, Int.cast_ofNat_Int, Int.lt_irrefl, ↓reduceIte, ↓reduceDIte, zbI, zbL, zbA, zbV, qrg, qrg2, qnn, qz, zup_at, zup_r, zup_ne, true_and, and_true, true_or, or_true, and_self, or_self, false_or, or_false, false_and, and_false, Int.toNat_natCast, Int.toNat_add, Int.toNat_mul, Int.toNat_zero, Int.toNat_one, qtn, Int.natCast_add, qnat1, qnat0, ne_eq, not_true_eq_false, not_false_eq_true, eq_self, qbool]
      rw [show qnear A c (i + 1) = qnear A c i from if_neg (fun z => hy z.1)])
  simp (disch := omega) only [c_X_nearest, qtw hT, hc, qff hF, qltT, qltF, qleT, qleF, qeqT, qeqF, Int.reduceEq, Int.reduceNe, Int.reduceLT, Int.reduceLE, Int.reduceToNat, Int.reduceAdd, Int.reduceSub, Int.reduceMul, Int.reduceNeg, Nat.reduceAdd, Nat.reduceMul, Nat.reduceEqDiff, Nat.reduceLT, Int.cast_ofNat_Int, Int.lt_irrefl, ↓reduceIte, ↓reduceDIte, zbI, zbL, zbA, zbV, qrg, qrg2, qnn, qz, zup_at, zup_r, zup_ne, true_and, and_true, true_or, or_true, and_self, or_self, false_or, or_false, false_and, and_false, Int.toNat_natCast, Int.toNat_add, Int.toNat_mul, Int.toNat_zero, Int.toNat_one, qtn, Int.natCast_add, qnat1, qnat0, ne_eq, not_true_eq_false, not_false_eq_true, eq_self, qbool]
  refine L.trans ?_
  show zR _ _ _ _ _ _ _ = _
  rw [e_X_nearest_10, if_neg (by decide)]
theorem qnear_stop (A : Nat → Int) {c a : Nat} (ha : 24 ≤ a + c) : ∀ k, qnear A c (a + k) = qnear A c a
  | 0 => rfl
  | k + 1 => by
    show (if a + k + 1 + c ≤ 24 ∧ _ then _ else _) = _
    rw [if_neg (by omega)]
    exact qnear_stop A ha k
theorem km_nearest (hF : qFx S R) (hA : qIn (M 306)) {c : Nat} (hc : M 306 5 = c) (h0 : c ≠ 0) : zcal zPP (d + 3) 312 [zA 305] (n, s, S, R, M) = some (zI (qnear (M 306) c 23 : Nat), (n, s, S, R, M)) := by
  have h10 := hA.2.2.2.2.2.1
  have L := qlp (P := fun i => zR zPP (d + 2) 312 11 [zA 305, zI (qnear (M 306) c i : Nat), zI ((i + 1 : Nat) : Int)] [] (n, s, S, R, M)) (N := 24 - c) (fun i hi => by
    have hq := qnear_in (M 306) (c := c) (by omega) i
    have hy : i + 1 + c ≤ 24 := by omega
    have e1 := km_unlike (n := n) (s := s) (d := d) (M := M) hF hA hc hy
    show zR _ _ _ _ _ _ _ = zR _ _ _ _ _ _ _
    rw [e_M_nearest_11]
    simp (disch := omega) only [hc, km_unlike hF hA hc hq, qff hF, qltT, qltF, qleT, qleF, qeqT, qeqF, Int.reduceEq, Int.reduceNe, Int.reduceLT, Int.reduceLE, Int.reduceToNat, Int.reduceAdd, Int.reduceSub, Int.reduceMul, Int.reduceNeg, Nat.reduceAdd, Nat.reduceMul, Nat.reduceEqDiff, Nat.reduceLT, Int.cast_ofNat_Int, Int.lt_irrefl, ↓reduceIte, ↓reduceDIte, zbI, zbL, zbA, zbV, qrg, qrg2, qnn, qz, zup_at, zup_r, zup_ne, true_and, and_true, true_or, or_true, and_self, or_self, false_or, or_false, false_and, and_false, Int.toNat_natCast, Int.toNat_add, Int.toNat_mul, Int.toNat_zero, Int.toNat_one, qtn, Int.natCast_add, qnat1, qnat0, ne_eq, not_true_eq_false, not_false_eq_true, eq_self, qbool]
    rw [show ((i : Int) + 1) = ((i + 1 : Nat) : Int) from rfl, e1]
    simp (disch := omega) only [km_unlike hF hA hc hq, qff hF, qltT, qltF, qleT, qleF, qeqT, qeqF, Int.reduceEq, Int.reduceNe, Int.reduceLT, Int.reduceLE, Int.reduceToNat, Int.reduceAdd, Int.reduceSub, Int.reduceMul, Int.reduceNeg, Nat.reduceAdd, Nat.reduceMul, Nat.reduceEqDiff, Nat.reduceLT, Int.cast_ofNat_Int, Int.lt_irrefl, ↓reduceIte, ↓reduceDIte, zbI, zbL, zbA, zbV, qrg, qrg2, qnn, qz, zup_at, zup_r, zup_ne, true_and, and_true, true_or, or_true, and_self, or_self, false_or, or_false, false_and, and_false, Int.toNat_natCast, Int.toNat_add, Int.toNat_mul, Int.toNat_zero, Int.toNat_one, qtn, Int.natCast_add, qnat1, qnat0, ne_eq, not_true_eq_false, not_false_eq_true, eq_self, qbool]
    by_cases hl : zct (qunl (M 306) (i + 1)) c < zct (qunl (M 306) (qnear (M 306) c i)) c
    · rw [if_pos (by omega), show qnear (M 306) c (i + 1) = i + 1 from if_pos ⟨hy, hl⟩]
      rfl
    · rw [if_neg (by omega), show qnear (M 306) c (i + 1) = qnear (M 306) c i from if_neg (fun z => hl z.2)])
  simp (disch := omega) only [c_M_nearest, hc, qff hF, qltT, qltF, qleT, qleF, qeqT, qeqF, Int.reduceEq, Int.reduceNe, Int.reduceLT, Int.reduceLE, Int.reduceToNat, Int.reduceAdd, Int.reduceSub, Int.reduceMul, Int.reduceNeg, Nat.reduceAdd, Nat.reduceMul, Nat.reduceEqDiff, Nat.reduceLT, Int.cast_ofNat_Int, Int.lt_irrefl, ↓reduceIte, ↓reduceDIte, zbI, zbL, zbA, zbV, qrg, qrg2, qnn, qz, zup_at, zup_r, zup_ne, true_and, and_true, true_or, or_true, and_self, or_self, false_or, or_false, false_and, and_false, Int.toNat_natCast, Int.toNat_add, Int.toNat_mul, Int.toNat_zero, Int.toNat_one, qtn, Int.natCast_add, qnat1, qnat0, ne_eq, not_true_eq_false, not_false_eq_true, eq_self, qbool]
  refine L.trans ?_
  have e23 : qnear (M 306) c 23 = qnear (M 306) c (24 - c) := by
    have := qnear_stop (M 306) (c := c) (a := 24 - c) (by omega) (c - 1)
    rw [← this]
    congr 1
    omega
  show zR _ _ _ _ _ _ _ = _
  rw [e_M_nearest_11, e23]
  simp (disch := omega) only [hc, qff hF, qltT, qltF, qleT, qleF, qeqT, qeqF, Int.reduceEq, Int.reduceNe, Int.reduceLT, Int.reduceLE, Int.reduceToNat, Int.reduceAdd, Int.reduceSub, Int.reduceMul, Int.reduceNeg, Nat.reduceAdd, Nat.reduceMul, Nat.reduceEqDiff, Nat.reduceLT, Int.cast_ofNat_Int, Int.lt_irrefl, ↓reduceIte, ↓reduceDIte, zbI, zbL, zbA, zbV, qrg, qrg2, qnn, qz, zup_at, zup_r, zup_ne, true_and, and_true, true_or, or_true, and_self, or_self, false_or, or_false, false_and, and_false, Int.toNat_natCast, Int.toNat_add, Int.toNat_mul, Int.toNat_zero, Int.toNat_one, qtn, Int.natCast_add, qnat1, qnat0, ne_eq, not_true_eq_false, not_false_eq_true, eq_self, qbool]
theorem qb_nearest (hw : qWd n S R M W) : qBo 66 312 [] n s S R M := by
  have hA := hw.2.1.2.2.2
  have hF := hw.1.2.1
  have hT := hw.2.1.1
  obtain ⟨c, hc⟩ := Int.eq_ofNat_of_zero_le hA.2.2.2.2.2.1.1
  by_cases h0 : c = 0
  · subst h0
    have hX : zcal zPP 100 66 [zA 9] (n, s, S, R, M) = some (zI (-1), (n, s, S, R, M)) := by simp (disch := omega) only [c_X_nearest, qtw hT, hc, qff hF, qltT, qltF, qleT, qleF, qeqT, qeqF, Int.reduceEq, Int.reduceNe, Int.reduceLT, Int.reduceLE, Int.reduceToNat, Int.reduceAdd, Int.reduceSub, Int.reduceMul, Int.reduceNeg, Nat.reduceAdd, Nat.reduceMul, Nat.reduceEqDiff, Nat.reduceLT, Int.cast_ofNat_Int, Int.lt_irrefl, ↓reduceIte, ↓reduceDIte, zbI, zbL, zbA, zbV, qrg, qrg2, qnn, qz, zup_at, zup_r, zup_ne, true_and, and_true, true_or, or_true, and_self, or_self, false_or, or_false, false_and, and_false, Int.toNat_natCast, Int.toNat_add, Int.toNat_mul, Int.toNat_zero, Int.toNat_one, qtn, Int.natCast_add, qnat1, qnat0, ne_eq, not_true_eq_false, not_false_eq_true, eq_self, qbool]
    have hM : zcal zPP 100 312 [zA 305] (n, s, S, R, M) = some (zI (-1), (n, s, S, R, M)) := by simp (disch := omega) only [c_M_nearest, hc, qff hF, qltT, qltF, qleT, qleF, qeqT, qeqF, Int.reduceEq, Int.reduceNe, Int.reduceLT, Int.reduceLE, Int.reduceToNat, Int.reduceAdd, Int.reduceSub, Int.reduceMul, Int.reduceNeg, Nat.reduceAdd, Nat.reduceMul, Nat.reduceEqDiff, Nat.reduceLT, Int.cast_ofNat_Int, Int.lt_irrefl, ↓reduceIte, ↓reduceDIte, zbI, zbL, zbA, zbV, qrg, qrg2, qnn, qz, zup_at, zup_r, zup_ne, true_and, and_true, true_or, or_true, and_self, or_self, false_or, or_false, false_and, and_false, Int.toNat_natCast, Int.toNat_add, Int.toNat_mul, Int.toNat_zero, Int.toNat_one, qtn, Int.natCast_add, qnat1, qnat0, ne_eq, not_true_eq_false, not_false_eq_true, eq_self, qbool]
    exact qBo_same hw hX hM
  · exact qBo_same hw (kx_nearest (n := n) (s := s) (d := 97) hF hT hA hc h0) (km_nearest (n := n) (s := s) (d := 97) hF hA hc h0)
end QF
