/-! eldest, whose: both sides -/
def qeld (f : Nat → Int) : Nat → Int
  | 0 => -1
  | n + 1 => if qeld f n = -1 ∨ f (qeld f n).toNat < f n then (n : Int) else qeld f n
theorem qeld_in (f : Nat → Int) : ∀ n, -1 ≤ qeld f n ∧ qeld f n < n
  | 0 => ⟨Int.le_refl _, by show (-1 : Int) < ((0 : Nat) : Int); decide⟩
  | n + 1 => by
    have h := qeld_in f n
    unfold qeld
    split
    · omega
    · omega
def qmos (f : Nat → Int) (g : Int) : Int := if g = -1 then 0 else f g.toNat
def qbi (b : Bool) : Int := if b = true then 1 else 0
theorem qbi_t : qbi true = 1 := rfl
theorem qbi_f : qbi false = 0 := rfl
def qal (f : Nat → Bool) : Nat → Bool
  | 0 => true
  | n + 1 => qal f n && f n
section QF
variable {S : Nat → Nat × Nat} {R : Nat → Nat → Nat} {M M' M1 : Nat → Nat → Int} {n s d : Nat} {A : Nat → Int} {W : Nat → qWt}
theorem qb_eldest (hw : qWd n S R M W) : qBo 76 282 [] n s S R M := by
  have hA := hw.2.1.2.2.2
  have hF := hw.1.2.1
  have hT := hw.2.1.1
  have hp5 := hA.2.1.2
  obtain ⟨a, ha⟩ := Int.eq_ofNat_of_zero_le hA.2.1.1
  obtain ⟨q, hq1, hq2⟩ := wx_ruler (s := s) hw
  refine qBo_q (v := zI (qeld (qAge (M 306) (qWr W (M 306 3))) a)) hw ?_ ?_
  · have L := qlpE (E := fun x : (Nat → Nat → Int) × zV => qX2 M x.1) (P := fun i x => zR zPP 99 76 6 [zA 9, zI (qeld (qAge (M 306) (qWr W (M 306 3))) i), zI (qmos (qAge (M 306) (qWr W (M 306 3))) (qeld (qAge (M 306) (qWr W (M 306 3))) i)), zI (i : Nat), x.2] [] (n, s, S, R, x.1)) (N := a) (fun i x hi hx => by
      obtain ⟨M2, h2, h3⟩ := wx_age (s := s) (d := 92) hw hq2 (show (i : Int) < M 306 1 by omega) hx
      have hx10 : x.1 10 = M 10 := hx 10 (by decide) (by decide)
      have h13 : x.1 10 13 = a := by rw [hx10]; exact hT.1.2.1.trans ha
      have hin := qeld_in (qAge (M 306) (qWr W (M 306 3))) i
      have es : qeld (qAge (M 306) (qWr W (M 306 3))) (i + 1) = if qeld (qAge (M 306) (qWr W (M 306 3))) i = -1 ∨ qAge (M 306) (qWr W (M 306 3)) (qeld (qAge (M 306) (qWr W (M 306 3))) i).toNat < qAge (M 306) (qWr W (M 306 3)) i then (i : Int) else qeld (qAge (M 306) (qWr W (M 306 3))) i := rfl
      refine ⟨(M2, zI (qAge (M 306) (qWr W (M 306 3)) i)), h3, ?_⟩
      show zR _ _ _ _ _ _ _ = zR _ _ _ _ _ _ _
      rw [e_X_eldest_6]
      simp (disch := omega) only [h13, hq1 97 x.1 hx10, h2, qff hF, qltT, qltF, qleT, qleF, qeqT, qeqF, Int.reduceEq, Int.reduceNe, Int.reduceLT, Int.reduceLE, Int.reduceToNat, Int.reduceAdd, Int.reduceSub, Int.reduceMul, Int.reduceNeg, Nat.reduceAdd, Nat.reduceMul, Nat.reduceEqDiff, Nat.reduceLT, Int.cast_ofNat_Int, Int.lt_irrefl, ↓reduceIte, ↓reduceDIte, zbI, zbL, zbA, zbV, qrg, qrg2, qnn, qz, zup_at, zup_r, zup_ne, true_and, and_true, true_or, or_true, and_self, or_self, false_or, or_false, false_and, and_false, Int.toNat_natCast, Int.toNat_add, Int.toNat_mul, Int.toNat_zero, Int.toNat_one, qtn, Int.natCast_add, qnat1, qnat0, ne_eq, not_true_eq_false, not_false_eq_true, eq_self, qbool]
      rw [es]
      have eN : qmos (qAge (M 306) (qWr W (M 306 3))) (i : Int) = qAge (M 306) (qWr W (M 306 3)) i := by
        unfold qmos
        rw [if_neg (by omega), Int.toNat_natCast]
      by_cases c1 : qeld (qAge (M 306) (qWr W (M 306 3))) i = -1
      · rw [if_pos c1, if_pos (Or.inl c1), eN]
      · rw [if_neg c1]
        have eO : qmos (qAge (M 306) (qWr W (M 306 3))) (qeld (qAge (M 306) (qWr W (M 306 3))) i) = qAge (M 306) (qWr W (M 306 3)) (qeld (qAge (M 306) (qWr W (M 306 3))) i).toNat := if_neg c1
        by_cases c2 : qAge (M 306) (qWr W (M 306 3)) (qeld (qAge (M 306) (qWr W (M 306 3))) i).toNat < qAge (M 306) (qWr W (M 306 3)) i
        · rw [eO, if_pos c2, if_pos (Or.inr c2), eN]
        · rw [eO, if_neg c2, if_neg (not_or.mpr ⟨c1, c2⟩), eO]) (M, zU) (qX2_r M)
    obtain ⟨x, hx, L⟩ := L
    have h13 : x.1 10 13 = a := by rw [hx 10 (by decide) (by decide)]; exact hT.1.2.1.trans ha
    refine ⟨x.1, ?_, qX2_e hx⟩
    rw [c_X_eldest]
    simp (disch := omega) only [qff hF, qltT, qltF, qleT, qleF, qeqT, qeqF, Int.reduceEq, Int.reduceNe, Int.reduceLT, Int.reduceLE, Int.reduceToNat, Int.reduceAdd, Int.reduceSub, Int.reduceMul, Int.reduceNeg, Nat.reduceAdd, Nat.reduceMul, Nat.reduceEqDiff, Nat.reduceLT, Int.cast_ofNat_Int, Int.lt_irrefl, ↓reduceIte, ↓reduceDIte, zbI, zbL, zbA, zbV, qrg, qrg2, qnn, qz, zup_at, zup_r, zup_ne, true_and, and_true, true_or, or_true, and_self, or_self, false_or, or_false, false_and, and_false, Int.toNat_natCast, Int.toNat_add, Int.toNat_mul, Int.toNat_zero, Int.toNat_one, qtn, Int.natCast_add, qnat1, qnat0, ne_eq, not_true_eq_false, not_false_eq_true, eq_self, qbool]
    refine Eq.trans L ?_
    rw [e_X_eldest_6]
    simp (disch := omega) only [h13, qff hF, qltT, qltF, qleT, qleF, qeqT, qeqF, Int.reduceEq, Int.reduceNe, Int.reduceLT, Int.reduceLE, Int.reduceToNat, Int.reduceAdd, Int.reduceSub, Int.reduceMul, Int.reduceNeg, Nat.reduceAdd, Nat.reduceMul, Nat.reduceEqDiff, Nat.reduceLT, Int.cast_ofNat_Int, Int.lt_irrefl, ↓reduceIte, ↓reduceDIte, zbI, zbL, zbA, zbV, qrg, qrg2, qnn, qz, zup_at, zup_r, zup_ne, true_and, and_true, true_or, or_true, and_self, or_self, false_or, or_false, false_and, and_false, Int.toNat_natCast, Int.toNat_add, Int.toNat_mul, Int.toNat_zero, Int.toNat_one, qtn, Int.natCast_add, qnat1, qnat0, ne_eq, not_true_eq_false, not_false_eq_true, eq_self, qbool]
  · intro M1 hw1 e6
    have hA1 := hw1.2.1.2.2.2
    have L := qlpE (E := qX3 M1) (P := fun i M2 => zR zPP 99 282 4 [zA 305, zI (qeld (qAge (M 306) (qWr W (M 306 3))) i), zI (i : Nat)] [] (n, s, S, R, M2)) (N := a) (fun i M2 hi hx => by
      have hx6 : M2 306 = M 306 := (hx 306 (by decide) (by decide) (by decide)).trans e6
      have hin := qeld_in (qAge (M 306) (qWr W (M 306 3))) i
      have es : qeld (qAge (M 306) (qWr W (M 306 3))) (i + 1) = if qeld (qAge (M 306) (qWr W (M 306 3))) i = -1 ∨ qAge (M 306) (qWr W (M 306 3)) (qeld (qAge (M 306) (qWr W (M 306 3))) i).toNat < qAge (M 306) (qWr W (M 306 3)) i then (i : Int) else qeld (qAge (M 306) (qWr W (M 306 3))) i := rfl
      by_cases c1 : qeld (qAge (M 306) (qWr W (M 306 3))) i = -1
      · refine ⟨M2, hx, ?_⟩
        show zR _ _ _ _ _ _ _ = zR _ _ _ _ _ _ _
        rw [e_M_eldest_4, es, if_pos (Or.inl c1)]
        simp (disch := omega) only [hx6, ha, c1, qff hF, qltT, qltF, qleT, qleF, qeqT, qeqF, Int.reduceEq, Int.reduceNe, Int.reduceLT, Int.reduceLE, Int.reduceToNat, Int.reduceAdd, Int.reduceSub, Int.reduceMul, Int.reduceNeg, Nat.reduceAdd, Nat.reduceMul, Nat.reduceEqDiff, Nat.reduceLT, Int.cast_ofNat_Int, Int.lt_irrefl, ↓reduceIte, ↓reduceDIte, zbI, zbL, zbA, zbV, qrg, qrg2, qnn, qz, zup_at, zup_r, zup_ne, true_and, and_true, true_or, or_true, and_self, or_self, false_or, or_false, false_and, and_false, Int.toNat_natCast, Int.toNat_add, Int.toNat_mul, Int.toNat_zero, Int.toNat_one, qtn, Int.natCast_add, qnat1, qnat0, ne_eq, not_true_eq_false, not_false_eq_true, eq_self, qbool]
      · obtain ⟨f, hf⟩ := Int.eq_ofNat_of_zero_le (show 0 ≤ qeld (qAge (M 306) (qWr W (M 306 3))) i by omega)
        obtain ⟨M3, h2, h3⟩ := wm_age (s := s) (d := 90) hw1 (t := M 306 3) (by rw [e6]; exact hA.2.2.2.1) (p := i) (by rw [e6]; omega) hx
        obtain ⟨M4, h4, h5⟩ := wm_age (s := s) (d := 90) hw1 (t := M 306 3) (by rw [e6]; exact hA.2.2.2.1) (p := f) (by rw [e6]; omega) h3
        rw [e6] at h2 h4
        have hx6' : M3 306 = M 306 := (h3 306 (by decide) (by decide) (by decide)).trans e6
        refine ⟨M4, h5, ?_⟩
        show zR _ _ _ _ _ _ _ = zR _ _ _ _ _ _ _
        rw [hf] at es c1 ⊢
        rw [Int.toNat_natCast] at es
        rw [e_M_eldest_4, es]
        simp (disch := omega) only [hx6, hx6', ha, h2, h4, qff hF, qltT, qltF, qleT, qleF, qeqT, qeqF, Int.reduceEq, Int.reduceNe, Int.reduceLT, Int.reduceLE, Int.reduceToNat, Int.reduceAdd, Int.reduceSub, Int.reduceMul, Int.reduceNeg, Nat.reduceAdd, Nat.reduceMul, Nat.reduceEqDiff, Nat.reduceLT, Int.cast_ofNat_Int, Int.lt_irrefl, ↓reduceIte, ↓reduceDIte, zbI, zbL, zbA, zbV, qrg, qrg2, qnn, qz, zup_at, zup_r, zup_ne, true_and, and_true, true_or, or_true, and_self, or_self, false_or, or_false, false_and, and_false, Int.toNat_natCast, Int.toNat_add, Int.toNat_mul, Int.toNat_zero, Int.toNat_one, qtn, Int.natCast_add, qnat1, qnat0, ne_eq, not_true_eq_false, not_false_eq_true, eq_self, qbool]
        by_cases c2 : qAge (M 306) (qWr W (M 306 3)) f < qAge (M 306) (qWr W (M 306 3)) i
        · rw [if_pos c2, if_pos c2]
        · rw [if_neg c2, if_neg c2]) M1 (qX3_r M1)
    obtain ⟨M2, hx, L⟩ := L
    have hx6 : M2 306 = M 306 := (hx 306 (by decide) (by decide) (by decide)).trans e6
    refine ⟨M2, ?_, qX3_e hx⟩
    rw [c_M_eldest]
    simp (disch := omega) only [qff hF, qltT, qltF, qleT, qleF, qeqT, qeqF, Int.reduceEq, Int.reduceNe, Int.reduceLT, Int.reduceLE, Int.reduceToNat, Int.reduceAdd, Int.reduceSub, Int.reduceMul, Int.reduceNeg, Nat.reduceAdd, Nat.reduceMul, Nat.reduceEqDiff, Nat.reduceLT, Int.cast_ofNat_Int, Int.lt_irrefl, ↓reduceIte, ↓reduceDIte, zbI, zbL, zbA, zbV, qrg, qrg2, qnn, qz, zup_at, zup_r, zup_ne, true_and, and_true, true_or, or_true, and_self, or_self, false_or, or_false, false_and, and_false, Int.toNat_natCast, Int.toNat_add, Int.toNat_mul, Int.toNat_zero, Int.toNat_one, qtn, Int.natCast_add, qnat1, qnat0, ne_eq, not_true_eq_false, not_false_eq_true, eq_self, qbool]
    refine Eq.trans L ?_
    rw [e_M_eldest_4]
    simp (disch := omega) only [hx6, ha, qff hF, qltT, qltF, qleT, qleF, qeqT, qeqF, Int.reduceEq, Int.reduceNe, Int.reduceLT, Int.reduceLE, Int.reduceToNat, Int.reduceAdd, Int.reduceSub, Int.reduceMul, Int.reduceNeg, Nat.reduceAdd, Nat.reduceMul, Nat.reduceEqDiff, Nat.reduceLT, Int.cast_ofNat_Int, Int.lt_irrefl, ↓reduceIte, ↓reduceDIte, zbI, zbL, zbA, zbV, qrg, qrg2, qnn, qz, zup_at, zup_r, zup_ne, true_and, and_true, true_or, or_true, and_self, or_self, false_or, or_false, false_and, and_false, Int.toNat_natCast, Int.toNat_add, Int.toNat_mul, Int.toNat_zero, Int.toNat_one, qtn, Int.natCast_add, qnat1, qnat0, ne_eq, not_true_eq_false, not_false_eq_true, eq_self, qbool]
/-- whether all that is said is so by w, of the first k -/
def qsay (A : Nat → Int) (w : qWt) : Nat → Bool := qal fun k => decide (qAge A w (A (184 + 2 * k)).toNat = A (184 + 2 * k + 1))
theorem qb_whose (hw : qWd n S R M W) : qBo 75 325 [] n s S R M := by
  have hA := hw.2.1.2.2.2
  have hF := hw.1.2.1
  have hT := hw.2.1.1
  have hp5 := hA.2.1.2
  have h4 := hA.2.2.1
  have h8 := hA.2.2.2.2.2.2.1
  have hsd := hA.2.2.2.2.2.2.2.2.2.2.2.2.2.2.2.2.2.2
  obtain ⟨a, ha⟩ := Int.eq_ofNat_of_zero_le h4.1
  obtain ⟨c, hc⟩ := Int.eq_ofNat_of_zero_le h8.1
  refine qBo_q (v := zI (zsn (fun t => qsay (M 306) (W t) c) a : Nat)) hw ?_ ?_
  · have L2 : ∀ t, t < a → ∀ M1, qX2 M M1 → ∃ M2, qX2 M M2 ∧ zR zPP 99 75 13 [zA 9, zI (zsn (fun t => qsay (M 306) (W t) c) t : Nat), zI t, zI 1, zI 0] [] (n, s, S, R, M1) = zR zPP 99 75 13 [zA 9, zI (zsn (fun t => qsay (M 306) (W t) c) t : Nat), zI t, zI (qbi (qsay (M 306) (W t) c)), zI c] [] (n, s, S, R, M2) := by
      intro t ht M1 hM1
      obtain ⟨q, hq1, hq2⟩ := wx_textAt (s := s) hw (t := (t : Int)) (by omega)
      have eW : qWr W (t : Int) = W t := by unfold qWr; rw [if_neg (by omega), Int.toNat_natCast]
      rw [eW] at hq2
      exact qlpE (E := qX2 M) (P := fun k M1 => zR zPP 99 75 13 [zA 9, zI (zsn (fun t => qsay (M 306) (W t) c) t : Nat), zI t, zI (qbi (qsay (M 306) (W t) k)), zI (k : Nat)] [] (n, s, S, R, M1)) (N := c) (fun k M1 hk hx => by
        have hb := hsd k (by omega)
        obtain ⟨p, hp⟩ := Int.eq_ofNat_of_zero_le hb.1
        obtain ⟨M2, h2, h3⟩ := wx_age (s := s) (d := 92) hw hq2 (show (p : Int) < M 306 1 by omega) hx
        have hx10 : M1 10 = M 10 := hx 10 (by decide) (by decide)
        have h17 : M1 10 17 = c := by rw [hx10]; exact hT.1.2.2.2.2.2.trans hc
        have hs1 : M1 19 k = p := by rw [hx 19 (by decide) (by decide)]; exact (hT.2.2.2.2.2.2.2.2.1 k (by omega)).trans hp
        have hs2 : M2 20 k = M 306 (184 + 2 * k + 1) := by rw [h3 20 (by decide) (by decide)]; exact hT.2.2.2.2.2.2.2.2.2 k (by omega)
        have es : qsay (M 306) (W t) (k + 1) = (qsay (M 306) (W t) k && decide (qAge (M 306) (W t) (M 306 (184 + 2 * k)).toNat = M 306 (184 + 2 * k + 1))) := rfl
        refine ⟨M2, h3, ?_⟩
        show zR _ _ _ _ _ _ _ = zR _ _ _ _ _ _ _
        rw [e_X_whose_13, es, hp, Int.toNat_natCast]
        simp (disch := omega) only [h17, hq1 98 M1 hx10, hs1, h2, hs2, qff hF, qltT, qltF, qleT, qleF, qeqT, qeqF, Int.reduceEq, Int.reduceNe, Int.reduceLT, Int.reduceLE, Int.reduceToNat, Int.reduceAdd, Int.reduceSub, Int.reduceMul, Int.reduceNeg, Nat.reduceAdd, Nat.reduceMul, Nat.reduceEqDiff, Nat.reduceLT, Int.cast_ofNat_Int, Int.lt_irrefl, ↓reduceIte, ↓reduceDIte, zbI, zbL, zbA, zbV, qrg, qrg2, qnn, qz, zup_at, zup_r, zup_ne, true_and, and_true, true_or, or_true, and_self, or_self, false_or, or_false, false_and, and_false, Int.toNat_natCast, Int.toNat_add, Int.toNat_mul, Int.toNat_zero, Int.toNat_one, qtn, Int.natCast_add, qnat1, qnat0, ne_eq, not_true_eq_false, not_false_eq_true, eq_self, qbool]
        by_cases c2 : qAge (M 306) (W t) p = M 306 (184 + 2 * k + 1)
        · rw [if_pos c2, decide_eq_true c2, Bool.and_true]
        · rw [if_neg c2, decide_eq_false c2, Bool.and_false, qbi_f]) M1 hM1
    have L := qlpE (E := fun x : (Nat → Nat → Int) × zV × zV => qX2 M x.1) (P := fun t x => zR zPP 99 75 4 [zA 9, zI (zsn (fun t => qsay (M 306) (W t) c) t : Nat), zI (t : Nat), x.2.1, x.2.2] [] (n, s, S, R, x.1)) (N := a) (fun t x ht hx => by
      obtain ⟨M2, h2, h3⟩ := L2 t ht x.1 hx
      have h14 : x.1 10 14 = a := by rw [hx 10 (by decide) (by decide)]; exact hT.1.2.2.1.trans ha
      have h17 : M2 10 17 = c := by rw [h2 10 (by decide) (by decide)]; exact hT.1.2.2.2.2.2.trans hc
      refine ⟨(M2, zI (qbi (qsay (M 306) (W t) c)), zI (c : Nat)), h2, ?_⟩
      show zR _ _ _ _ _ _ _ = zR _ _ _ _ _ _ _
      rw [e_X_whose_4]
      simp (disch := omega) only [h14, qff hF, qltT, qltF, qleT, qleF, qeqT, qeqF, Int.reduceEq, Int.reduceNe, Int.reduceLT, Int.reduceLE, Int.reduceToNat, Int.reduceAdd, Int.reduceSub, Int.reduceMul, Int.reduceNeg, Nat.reduceAdd, Nat.reduceMul, Nat.reduceEqDiff, Nat.reduceLT, Int.cast_ofNat_Int, Int.lt_irrefl, ↓reduceIte, ↓reduceDIte, zbI, zbL, zbA, zbV, qrg, qrg2, qnn, qz, zup_at, zup_r, zup_ne, true_and, and_true, true_or, or_true, and_self, or_self, false_or, or_false, false_and, and_false, Int.toNat_natCast, Int.toNat_add, Int.toNat_mul, Int.toNat_zero, Int.toNat_one, qtn, Int.natCast_add, qnat1, qnat0, ne_eq, not_true_eq_false, not_false_eq_true, eq_self, qbool]
      rw [h3, e_X_whose_13]
      cases hq : qsay (M 306) (W t) c with
      | true =>
        rw [qbi_t]
        simp (disch := omega) only [h17, qff hF, qltT, qltF, qleT, qleF, qeqT, qeqF, Int.reduceEq, Int.reduceNe, Int.reduceLT, Int.reduceLE, Int.reduceToNat, Int.reduceAdd, Int.reduceSub, Int.reduceMul, Int.reduceNeg, Nat.reduceAdd, Nat.reduceMul, Nat.reduceEqDiff, Nat.reduceLT, Int.cast_ofNat_Int, Int.lt_irrefl, ↓reduceIte, ↓reduceDIte, zbI, zbL, zbA, zbV, qrg, qrg2, qnn, qz, zup_at, zup_r, zup_ne, true_and, and_true, true_or, or_true, and_self, or_self, false_or, or_false, false_and, and_false, Int.toNat_natCast, Int.toNat_add, Int.toNat_mul, Int.toNat_zero, Int.toNat_one, qtn, Int.natCast_add, qnat1, qnat0, ne_eq, not_true_eq_false, not_false_eq_true, eq_self, qbool]
        rw [zor_put (f := fun t => qsay (M 306) (W t) c) (by omega) hq]
      | false =>
        rw [qbi_f, zsn_no (f := fun t => qsay (M 306) (W t) c) hq]
        simp (disch := omega) only [h17, qff hF, qltT, qltF, qleT, qleF, qeqT, qeqF, Int.reduceEq, Int.reduceNe, Int.reduceLT, Int.reduceLE, Int.reduceToNat, Int.reduceAdd, Int.reduceSub, Int.reduceMul, Int.reduceNeg, Nat.reduceAdd, Nat.reduceMul, Nat.reduceEqDiff, Nat.reduceLT, Int.cast_ofNat_Int, Int.lt_irrefl, ↓reduceIte, ↓reduceDIte, zbI, zbL, zbA, zbV, qrg, qrg2, qnn, qz, zup_at, zup_r, zup_ne, true_and, and_true, true_or, or_true, and_self, or_self, false_or, or_false, false_and, and_false, Int.toNat_natCast, Int.toNat_add, Int.toNat_mul, Int.toNat_zero, Int.toNat_one, qtn, Int.natCast_add, qnat1, qnat0, ne_eq, not_true_eq_false, not_false_eq_true, eq_self, qbool]) (M, zU, zU) (qX2_r M)
    obtain ⟨x, hx, L⟩ := L
    have h14 : x.1 10 14 = a := by rw [hx 10 (by decide) (by decide)]; exact hT.1.2.2.1.trans ha
    refine ⟨x.1, ?_, qX2_e hx⟩
    rw [c_X_whose]
    simp (disch := omega) only [qff hF, qltT, qltF, qleT, qleF, qeqT, qeqF, Int.reduceEq, Int.reduceNe, Int.reduceLT, Int.reduceLE, Int.reduceToNat, Int.reduceAdd, Int.reduceSub, Int.reduceMul, Int.reduceNeg, Nat.reduceAdd, Nat.reduceMul, Nat.reduceEqDiff, Nat.reduceLT, Int.cast_ofNat_Int, Int.lt_irrefl, ↓reduceIte, ↓reduceDIte, zbI, zbL, zbA, zbV, qrg, qrg2, qnn, qz, zup_at, zup_r, zup_ne, true_and, and_true, true_or, or_true, and_self, or_self, false_or, or_false, false_and, and_false, Int.toNat_natCast, Int.toNat_add, Int.toNat_mul, Int.toNat_zero, Int.toNat_one, qtn, Int.natCast_add, qnat1, qnat0, ne_eq, not_true_eq_false, not_false_eq_true, eq_self, qbool]
    refine Eq.trans L ?_
    rw [e_X_whose_4]
    simp (disch := omega) only [h14, qff hF, qltT, qltF, qleT, qleF, qeqT, qeqF, Int.reduceEq, Int.reduceNe, Int.reduceLT, Int.reduceLE, Int.reduceToNat, Int.reduceAdd, Int.reduceSub, Int.reduceMul, Int.reduceNeg, Nat.reduceAdd, Nat.reduceMul, Nat.reduceEqDiff, Nat.reduceLT, Int.cast_ofNat_Int, Int.lt_irrefl, ↓reduceIte, ↓reduceDIte, zbI, zbL, zbA, zbV, qrg, qrg2, qnn, qz, zup_at, zup_r, zup_ne, true_and, and_true, true_or, or_true, and_self, or_self, false_or, or_false, false_and, and_false, Int.toNat_natCast, Int.toNat_add, Int.toNat_mul, Int.toNat_zero, Int.toNat_one, qtn, Int.natCast_add, qnat1, qnat0, ne_eq, not_true_eq_false, not_false_eq_true, eq_self, qbool]
  · intro M1 hw1 e6
    have L2 : ∀ t, t < a → ∀ M0, qX3 M1 M0 → ∃ M2, qX3 M1 M2 ∧ zR zPP 99 325 14 [zA 305, zI (zsn (fun t => qsay (M 306) (W t) c) t : Nat), zI t, zI 1, zI 0] [] (n, s, S, R, M0) = zR zPP 99 325 14 [zA 305, zI (zsn (fun t => qsay (M 306) (W t) c) t : Nat), zI t, zI (qbi (qsay (M 306) (W t) c)), zI c] [] (n, s, S, R, M2) := by
      intro t ht M0 hM0
      have eW : qWr W (t : Int) = W t := by unfold qWr; rw [if_neg (by omega), Int.toNat_natCast]
      exact qlpE (E := qX3 M1) (P := fun k M1 => zR zPP 99 325 14 [zA 305, zI (zsn (fun t => qsay (M 306) (W t) c) t : Nat), zI t, zI (qbi (qsay (M 306) (W t) k)), zI (k : Nat)] [] (n, s, S, R, M1)) (N := c) (fun k M0 hk hx => by
        have hb := hsd k (by omega)
        obtain ⟨p, hp⟩ := Int.eq_ofNat_of_zero_le hb.1
        have hx6 : M0 306 = M 306 := (hx 306 (by decide) (by decide) (by decide)).trans e6
        have es : qsay (M 306) (W t) (k + 1) = (qsay (M 306) (W t) k && decide (qAge (M 306) (W t) (M 306 (184 + 2 * k)).toNat = M 306 (184 + 2 * k + 1))) := rfl
        cases hq : qsay (M 306) (W t) k with
        | false =>
          refine ⟨M0, hx, ?_⟩
          show zR _ _ _ _ _ _ _ = zR _ _ _ _ _ _ _
          rw [e_M_whose_14, es, hq, Bool.false_and, qbi_f]
          simp (disch := omega) only [hx6, hc, qff hF, qltT, qltF, qleT, qleF, qeqT, qeqF, Int.reduceEq, Int.reduceNe, Int.reduceLT, Int.reduceLE, Int.reduceToNat, Int.reduceAdd, Int.reduceSub, Int.reduceMul, Int.reduceNeg, Nat.reduceAdd, Nat.reduceMul, Nat.reduceEqDiff, Nat.reduceLT, Int.cast_ofNat_Int, Int.lt_irrefl, ↓reduceIte, ↓reduceDIte, zbI, zbL, zbA, zbV, qrg, qrg2, qnn, qz, zup_at, zup_r, zup_ne, true_and, and_true, true_or, or_true, and_self, or_self, false_or, or_false, false_and, and_false, Int.toNat_natCast, Int.toNat_add, Int.toNat_mul, Int.toNat_zero, Int.toNat_one, qtn, Int.natCast_add, qnat1, qnat0, ne_eq, not_true_eq_false, not_false_eq_true, eq_self, qbool]
        | true =>
          obtain ⟨M2, h2, h3⟩ := wm_age (s := s) (d := 90) hw1 (t := (t : Int)) (by rw [e6]; omega) (p := p) (by rw [e6]; omega) hx
          rw [e6, eW] at h2
          have hx6' : M2 306 = M 306 := (h3 306 (by decide) (by decide) (by decide)).trans e6
          refine ⟨M2, h3, ?_⟩
          show zR _ _ _ _ _ _ _ = zR _ _ _ _ _ _ _
          rw [e_M_whose_14, es, hq, Bool.true_and, qbi_t, hp, Int.toNat_natCast]
          simp (disch := omega) only [hx6, hx6', hc, hp, h2, qff hF, qltT, qltF, qleT, qleF, qeqT, qeqF, Int.reduceEq, Int.reduceNe, Int.reduceLT, Int.reduceLE, Int.reduceToNat, Int.reduceAdd, Int.reduceSub, Int.reduceMul, Int.reduceNeg, Nat.reduceAdd, Nat.reduceMul, Nat.reduceEqDiff, Nat.reduceLT, Int.cast_ofNat_Int, Int.lt_irrefl, ↓reduceIte, ↓reduceDIte, zbI, zbL, zbA, zbV, qrg, qrg2, qnn, qz, zup_at, zup_r, zup_ne, true_and, and_true, true_or, or_true, and_self, or_self, false_or, or_false, false_and, and_false, Int.toNat_natCast, Int.toNat_add, Int.toNat_mul, Int.toNat_zero, Int.toNat_one, qtn, Int.natCast_add, qnat1, qnat0, ne_eq, not_true_eq_false, not_false_eq_true, eq_self, qbool]
          by_cases c2 : qAge (M 306) (W t) p = M 306 (184 + 2 * k + 1)
          · rw [if_pos c2, decide_eq_true c2, qbi_t]
          · rw [if_neg c2, decide_eq_false c2, qbi_f]) M0 hM0
    have L := qlpE (E := fun x : (Nat → Nat → Int) × zV × zV => qX3 M1 x.1) (P := fun t x => zR zPP 99 325 4 [zA 305, zI (zsn (fun t => qsay (M 306) (W t) c) t : Nat), zI (t : Nat), x.2.1, x.2.2] [] (n, s, S, R, x.1)) (N := a) (fun t x ht hx => by
      obtain ⟨M2, h2, h3⟩ := L2 t ht x.1 hx
      have hx6 : x.1 306 = M 306 := (hx 306 (by decide) (by decide) (by decide)).trans e6
      have hx6' : M2 306 = M 306 := (h2 306 (by decide) (by decide) (by decide)).trans e6
      refine ⟨(M2, zI (qbi (qsay (M 306) (W t) c)), zI (c : Nat)), h2, ?_⟩
      show zR _ _ _ _ _ _ _ = zR _ _ _ _ _ _ _
      rw [e_M_whose_4]
      simp (disch := omega) only [hx6, ha, qff hF, qltT, qltF, qleT, qleF, qeqT, qeqF, Int.reduceEq, Int.reduceNe, Int.reduceLT, Int.reduceLE, Int.reduceToNat, Int.reduceAdd, Int.reduceSub, Int.reduceMul, Int.reduceNeg, Nat.reduceAdd, Nat.reduceMul, Nat.reduceEqDiff, Nat.reduceLT, Int.cast_ofNat_Int, Int.lt_irrefl, ↓reduceIte, ↓reduceDIte, zbI, zbL, zbA, zbV, qrg, qrg2, qnn, qz, zup_at, zup_r, zup_ne, true_and, and_true, true_or, or_true, and_self, or_self, false_or, or_false, false_and, and_false, Int.toNat_natCast, Int.toNat_add, Int.toNat_mul, Int.toNat_zero, Int.toNat_one, qtn, Int.natCast_add, qnat1, qnat0, ne_eq, not_true_eq_false, not_false_eq_true, eq_self, qbool]
      rw [h3, e_M_whose_14]
      cases hq : qsay (M 306) (W t) c with
      | true =>
        rw [qbi_t]
        simp (disch := omega) only [hx6', hc, qff hF, qltT, qltF, qleT, qleF, qeqT, qeqF, Int.reduceEq, Int.reduceNe, Int.reduceLT, Int.reduceLE, Int.reduceToNat, Int.reduceAdd, Int.reduceSub, Int.reduceMul, Int.reduceNeg, Nat.reduceAdd, Nat.reduceMul, Nat.reduceEqDiff, Nat.reduceLT, Int.cast_ofNat_Int, Int.lt_irrefl, ↓reduceIte, ↓reduceDIte, zbI, zbL, zbA, zbV, qrg, qrg2, qnn, qz, zup_at, zup_r, zup_ne, true_and, and_true, true_or, or_true, and_self, or_self, false_or, or_false, false_and, and_false, Int.toNat_natCast, Int.toNat_add, Int.toNat_mul, Int.toNat_zero, Int.toNat_one, qtn, Int.natCast_add, qnat1, qnat0, ne_eq, not_true_eq_false, not_false_eq_true, eq_self, qbool]
        rw [zor_put (f := fun t => qsay (M 306) (W t) c) (by omega) hq]
      | false =>
        rw [qbi_f, zsn_no (f := fun t => qsay (M 306) (W t) c) hq]
        simp (disch := omega) only [hx6', hc, zor_zero (zsn_lt31 (fun t => qsay (M 306) (W t) c) (show t < 32 by omega)), qff hF, qltT, qltF, qleT, qleF, qeqT, qeqF, Int.reduceEq, Int.reduceNe, Int.reduceLT, Int.reduceLE, Int.reduceToNat, Int.reduceAdd, Int.reduceSub, Int.reduceMul, Int.reduceNeg, Nat.reduceAdd, Nat.reduceMul, Nat.reduceEqDiff, Nat.reduceLT, Int.cast_ofNat_Int, Int.lt_irrefl, ↓reduceIte, ↓reduceDIte, zbI, zbL, zbA, zbV, qrg, qrg2, qnn, qz, zup_at, zup_r, zup_ne, true_and, and_true, true_or, or_true, and_self, or_self, false_or, or_false, false_and, and_false, Int.toNat_natCast, Int.toNat_add, Int.toNat_mul, Int.toNat_zero, Int.toNat_one, qtn, Int.natCast_add, qnat1, qnat0, ne_eq, not_true_eq_false, not_false_eq_true, eq_self, qbool]) (M1, zU, zU) (qX3_r M1)
    obtain ⟨x, hx, L⟩ := L
    have hx6 : x.1 306 = M 306 := (hx 306 (by decide) (by decide) (by decide)).trans e6
    refine ⟨x.1, ?_, qX3_e hx⟩
    rw [c_M_whose]
    simp (disch := omega) only [qff hF, qltT, qltF, qleT, qleF, qeqT, qeqF, Int.reduceEq, Int.reduceNe, Int.reduceLT, Int.reduceLE, Int.reduceToNat, Int.reduceAdd, Int.reduceSub, Int.reduceMul, Int.reduceNeg, Nat.reduceAdd, Nat.reduceMul, Nat.reduceEqDiff, Nat.reduceLT, Int.cast_ofNat_Int, Int.lt_irrefl, ↓reduceIte, ↓reduceDIte, zbI, zbL, zbA, zbV, qrg, qrg2, qnn, qz, zup_at, zup_r, zup_ne, true_and, and_true, true_or, or_true, and_self, or_self, false_or, or_false, false_and, and_false, Int.toNat_natCast, Int.toNat_add, Int.toNat_mul, Int.toNat_zero, Int.toNat_one, qtn, Int.natCast_add, qnat1, qnat0, ne_eq, not_true_eq_false, not_false_eq_true, eq_self, qbool]
    refine Eq.trans L ?_
    rw [e_M_whose_4]
    simp (disch := omega) only [hx6, ha, qff hF, qltT, qltF, qleT, qleF, qeqT, qeqF, Int.reduceEq, Int.reduceNe, Int.reduceLT, Int.reduceLE, Int.reduceToNat, Int.reduceAdd, Int.reduceSub, Int.reduceMul, Int.reduceNeg, Nat.reduceAdd, Nat.reduceMul, Nat.reduceEqDiff, Nat.reduceLT, Int.cast_ofNat_Int, Int.lt_irrefl, ↓reduceIte, ↓reduceDIte, zbI, zbL, zbA, zbV, qrg, qrg2, qnn, qz, zup_at, zup_r, zup_ne, true_and, and_true, true_or, or_true, and_self, or_self, false_or, or_false, false_and, and_false, Int.toNat_natCast, Int.toNat_add, Int.toNat_mul, Int.toNat_zero, Int.toNat_one, qtn, Int.natCast_add, qnat1, qnat0, ne_eq, not_true_eq_false, not_false_eq_true, eq_self, qbool]
end QF
