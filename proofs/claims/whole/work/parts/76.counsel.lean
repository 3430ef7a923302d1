/-! COUNSEL: needs and rooms -/
def qnee (A : Nat → Int) (p : Nat) : Int := max 0 (A (160 + p) - A (131 + p) - (qhb A p : Nat))
def qnin (A : Nat → Int) (st : Nat) : Nat → Int := qS fun p => if st.testBit p = true then qnee A p else 0
def qro1 (A : Nat → Int) (K o : Nat) : Int := min (max 0 ((qic A o : Nat) - 9)) (zct (fun y => decide (A (11 + 24 * o + y) = 1) && qyk A K y) 24 : Nat)
def qroo (A : Nat → Int) (K : Nat) : Nat → Int := qS (qro1 A K)
def qkf (A : Nat → Int) (st : Nat) : Nat → Nat
  | 0 => 0
  | p + 1 => if st.testBit p = true then qkf A st p ||| (A (165 + p)).toNat else qkf A st p
theorem qnee_in {A : Nat → Int} (hA : qIn A) {p : Nat} (hp : p < 5) : 0 ≤ qnee A p ∧ qnee A p ≤ 99 := by
  have h1 := hA.2.2.2.2.2.2.2.2.2.2.2.2.2.1 p hp
  have h2 := hA.2.2.2.2.2.2.2.2.2.2.2.2.2.2.1 p hp
  unfold qnee
  omega
theorem qnin_in {A : Nat → Int} (hA : qIn A) (st : Nat) {n : Nat} (hn : n ≤ 5) : 0 * (n : Int) ≤ qnin A st n ∧ qnin A st n ≤ 99 * n := by
  refine ⟨qS_ge fun i hi => ?_, qS_le fun i hi => ?_⟩
  · have := qnee_in hA (p := i) (by omega); split <;> omega
  · have := qnee_in hA (p := i) (by omega); split <;> omega
theorem qro1_in (A : Nat → Int) (K o : Nat) : 0 ≤ qro1 A K o ∧ qro1 A K o ≤ 24 := by
  have h := zct_le (fun y => decide (A (11 + 24 * o + y) = 1) && qyk A K y) 24
  unfold qro1
  omega
theorem qroo_in (A : Nat → Int) (K n : Nat) : 0 * (n : Int) ≤ qroo A K n ∧ qroo A K n ≤ 24 * n :=
  ⟨qS_ge fun i _ => (qro1_in A K i).1, qS_le fun i _ => (qro1_in A K i).2⟩
theorem qkf_16 {A : Nat → Int} (hA : qIn A) (st : Nat) : ∀ n, n ≤ 5 → qkf A st n < 16
  | 0, _ => by show 0 < 16; decide
  | n + 1, hn => by
    have ih := qkf_16 hA st n (by omega)
    have h2 := hA.2.2.2.2.2.2.2.2.2.2.2.2.2.2.2.1 n (by omega)
    unfold qkf
    split
    · exact Nat.or_lt_two_pow (n := 4) ih (by show (A (165 + n)).toNat < 16; omega)
    · exact ih
/-- the class's counsel after it has measured -/
def qMe (M0 M : Nat → Nat → Int) (A : Nat → Int) (a : Nat) : Prop := qXc M0 M ∧ ∀ K, K < 16 → M 287 K = qroo A K a
section QF
variable {S : Nat → Nat × Nat} {R : Nat → Nat → Nat} {M M' M0 M1 : Nat → Nat → Int} {n s d : Nat} {A : Nat → Int} {W : Nat → qWt}
theorem wx_tw (hw : qWd n S R M W) (h : qXc M M1) : qTw M1 10 (M 306) ∧ qRg M1 21 (qg (M 306)) := ⟨qTw_x (fun a x y => h a (by omega)) hw.2.1.1, qRg_x (h _ (by omega)) (h _ (by omega)) hw.2.1.2.1.1⟩
theorem kx_measure (hw : qWd n S R M W) {a : Nat} (ha : M 306 0 = a) (h1 : qXc M M1) : ∃ M2, zcal zPP (d + 4) 88 [zA 286] (n, s, S, R, M1) = some (zU, (n, s, S, R, M2)) ∧ qMe M M2 (M 306) a := by
  have hA := hw.2.1.2.2.2
  have hF := hw.1.2.1
  have ha5 := hA.1.2
  have INN : ∀ (K : Nat), K < 16 → ∀ (M1 : Nat → Nat → Int) (g4 g5 : zV), qXc M M1 → M1 287 K = 0 → ∃ x : (Nat → Nat → Int) × zV × zV, (qXc M x.1 ∧ x.1 287 K = qroo (M 306) K a ∧ ∀ k, k ≠ K → x.1 287 k = M1 287 k) ∧ zR zPP (d + 3) 88 17 [zA 286, zI K, zI (zsn (qyk (M 306) K) 24 : Nat), zI 0, g4, g5] [] (n, s, S, R, M1) = zR zPP (d + 3) 88 17 [zA 286, zI K, zI (zsn (qyk (M 306) K) 24 : Nat), zI a, x.2.1, x.2.2] [] (n, s, S, R, x.1) := by
    intro K hK M1 g4 g5 hM1 h0
    exact qlpI (E := fun o (x : (Nat → Nat → Int) × zV × zV) => qXc M x.1 ∧ x.1 287 K = qroo (M 306) K o ∧ ∀ k, k ≠ K → x.1 287 k = M1 287 k)
      (P := fun o x => zR zPP (d + 3) 88 17 [zA 286, zI K, zI (zsn (qyk (M 306) K) 24 : Nat), zI (o : Nat), x.2.1, x.2.2] [] (n, s, S, R, x.1)) (N := a) (fun o x ho hx => by
        obtain ⟨e1, e2, e3⟩ := hx
        obtain ⟨t1, t2⟩ := wx_tw hw e1
        have h12 : x.1 10 12 = a := t1.1.1.trans ha
        have hi := kx_inOak (n := n) (s := s) (d := d + 1) (M := x.1) hF t1 hA t2 (show (o : Int) < M 306 0 by omega)
        have hb1 := qroo_in (M 306) K o
        have hb2 := qro1_in (M 306) K o
        have hic : qic (M 306) o ≤ 24 := zct_le _ 24
        have hz := zct_le (fun y => decide (M 306 (11 + 24 * o + y) = 1) && qyk (M 306) K y) 24
        have er : min (max 0 (((qic (M 306) o : Nat) : Int) - 9)) ((zct (fun y => decide (M 306 (11 + 24 * o + y) = 1) && qyk (M 306) K y) 24 : Nat) : Int) = qro1 (M 306) K o := rfl
        have hand : zand ((qin (M 306) o : Nat) : Int) ((zsn (qyk (M 306) K) 24 : Nat) : Int) = ((zsn (fun y => decide (M 306 (11 + 24 * o + y) = 1) && qyk (M 306) K y) 24 : Nat) : Int) := zsn_and24 _ _
        refine ⟨(zup x.1 287 K (qroo (M 306) K o + qro1 (M 306) K o), zI (qin (M 306) o : Nat), zI (max 0 (((qic (M 306) o : Nat) : Int) - 9))), ⟨fun q hq => ?_, zup_at, fun k hk => ?_⟩, ?_⟩
        · show zup x.1 287 K _ q = _
          rw [zup_rw (by omega)]; exact e1 q hq
        · show zup x.1 287 K _ 287 k = _
          rw [zup_ne hk]; exact e3 k hk
        · show zR _ _ _ _ _ _ _ = zR _ _ _ _ _ _ _
          rw [e_Counsel_measure_17]
          simp (disch := omega) only [h12, hi, k_bitIn, hand, k_bitCount, e2, er, qff hF, qltT, qltF, qleT, qleF, qeqT, qeqF, Int.reduceEq, Int.reduceNe, Int.reduceLT, Int.reduceLE, Int.reduceToNat, Int.reduceAdd, Int.reduceSub, Int.reduceMul, Int.reduceNeg, Nat.reduceAdd, Nat.reduceMul, Nat.reduceEqDiff, Nat.reduceLT, Int.cast_ofNat_Int, Int.lt_irrefl, Bool.false_eq_true, ↓reduceIte, ↓reduceDIte, zbI, zbL, zbA, zbV, qrg, qrg2, qnn, qz, zup_at, zup_r, zup_ne, true_and, and_true, true_or, or_true, and_self, or_self, false_or, or_false, false_and, and_false, Int.toNat_natCast, Int.toNat_add, Int.toNat_mul, Int.toNat_zero, Int.toNat_one, qtn, Int.natCast_add, qnat1, qnat0, ne_eq, not_true_eq_false, not_false_eq_true, eq_self, qbool]) (M1, g4, g5) ⟨hM1, h0, fun _ _ => rfl⟩
  have L := qlpI (E := fun K (x : (Nat → Nat → Int) × zV × zV × zV × zV) => qXc M x.1 ∧ ∀ k, k < K → x.1 287 k = qroo (M 306) k a)
    (P := fun K x => zR zPP (d + 3) 88 2 [zA 286, zI (K : Nat), x.2.1, x.2.2.1, x.2.2.2.1, x.2.2.2.2] [] (n, s, S, R, x.1)) (N := 16) (fun K x hK hx => by
      obtain ⟨e1, e2⟩ := hx
      obtain ⟨t1, t2⟩ := wx_tw hw e1
      have hk := kx_yearsOfKinds (n := n) (s := s) (d := d + 2) (M := x.1) hF t1 hA hK
      obtain ⟨y, ⟨y1, y2, y3⟩, h⟩ := INN K hK (zup x.1 287 K 0) x.2.2.2.1 x.2.2.2.2 (fun q hq => by rw [zup_rw (by omega)]; exact e1 q hq) zup_at
      have h12 : y.1 10 12 = a := (wx_tw hw y1).1.1.1.trans ha
      refine ⟨(y.1, zI (zsn (qyk (M 306) K) 24 : Nat), zI a, y.2.1, y.2.2), ⟨y1, fun k hkk => ?_⟩, ?_⟩
      · by_cases hkK : k = K
        · subst hkK; exact y2
        · show y.1 287 k = _
          rw [y3 k hkK, zup_ne hkK]
          exact e2 k (by omega)
      · show zR _ _ _ _ _ _ _ = zR _ _ _ _ _ _ _
        rw [e_Counsel_measure_2]
        simp (disch := omega) only [hk, qff hF, qltT, qltF, qleT, qleF, qeqT, qeqF, Int.reduceEq, Int.reduceNe, Int.reduceLT, Int.reduceLE, Int.reduceToNat, Int.reduceAdd, Int.reduceSub, Int.reduceMul, Int.reduceNeg, Nat.reduceAdd, Nat.reduceMul, Nat.reduceEqDiff, Nat.reduceLT, Int.cast_ofNat_Int, Int.lt_irrefl, Bool.false_eq_true, ↓reduceIte, ↓reduceDIte, zbI, zbL, zbA, zbV, qrg, qrg2, qnn, qz, zup_at, zup_r, zup_ne, true_and, and_true, true_or, or_true, and_self, or_self, false_or, or_false, false_and, and_false, Int.toNat_natCast, Int.toNat_add, Int.toNat_mul, Int.toNat_zero, Int.toNat_one, qtn, Int.natCast_add, qnat1, qnat0, ne_eq, not_true_eq_false, not_false_eq_true, eq_self, qbool]
        rw [h, e_Counsel_measure_17]
        simp (disch := omega) only [h12, qff hF, qltT, qltF, qleT, qleF, qeqT, qeqF, Int.reduceEq, Int.reduceNe, Int.reduceLT, Int.reduceLE, Int.reduceToNat, Int.reduceAdd, Int.reduceSub, Int.reduceMul, Int.reduceNeg, Nat.reduceAdd, Nat.reduceMul, Nat.reduceEqDiff, Nat.reduceLT, Int.cast_ofNat_Int, Int.lt_irrefl, Bool.false_eq_true, ↓reduceIte, ↓reduceDIte, zbI, zbL, zbA, zbV, qrg, qrg2, qnn, qz, zup_at, zup_r, zup_ne, true_and, and_true, true_or, or_true, and_self, or_self, false_or, or_false, false_and, and_false, Int.toNat_natCast, Int.toNat_add, Int.toNat_mul, Int.toNat_zero, Int.toNat_one, qtn, Int.natCast_add, qnat1, qnat0, ne_eq, not_true_eq_false, not_false_eq_true, eq_self, qbool]) (M1, zU, zU, zU, zU) ⟨h1, fun k hk => absurd hk (Nat.not_lt_zero k)⟩
  obtain ⟨x, ⟨e1, e2⟩, L⟩ := L
  refine ⟨x.1, ?_, e1, e2⟩
  rw [c_Counsel_measure]
  simp (disch := omega) only [qff hF, qltT, qltF, qleT, qleF, qeqT, qeqF, Int.reduceEq, Int.reduceNe, Int.reduceLT, Int.reduceLE, Int.reduceToNat, Int.reduceAdd, Int.reduceSub, Int.reduceMul, Int.reduceNeg, Nat.reduceAdd, Nat.reduceMul, Nat.reduceEqDiff, Nat.reduceLT, Int.cast_ofNat_Int, Int.lt_irrefl, Bool.false_eq_true, ↓reduceIte, ↓reduceDIte, zbI, zbL, zbA, zbV, qrg, qrg2, qnn, qz, zup_at, zup_r, zup_ne, true_and, and_true, true_or, or_true, and_self, or_self, false_or, or_false, false_and, and_false, Int.toNat_natCast, Int.toNat_add, Int.toNat_mul, Int.toNat_zero, Int.toNat_one, qtn, Int.natCast_add, qnat1, qnat0, ne_eq, not_true_eq_false, not_false_eq_true, eq_self, qbool]
  refine Eq.trans L ?_
  rw [e_Counsel_measure_2]
  simp (disch := omega) only [qff hF, qltT, qltF, qleT, qleF, qeqT, qeqF, Int.reduceEq, Int.reduceNe, Int.reduceLT, Int.reduceLE, Int.reduceToNat, Int.reduceAdd, Int.reduceSub, Int.reduceMul, Int.reduceNeg, Nat.reduceAdd, Nat.reduceMul, Nat.reduceEqDiff, Nat.reduceLT, Int.cast_ofNat_Int, Int.lt_irrefl, Bool.false_eq_true, ↓reduceIte, ↓reduceDIte, zbI, zbL, zbA, zbV, qrg, qrg2, qnn, qz, zup_at, zup_r, zup_ne, true_and, and_true, true_or, or_true, and_self, or_self, false_or, or_false, false_and, and_false, Int.toNat_natCast, Int.toNat_add, Int.toNat_mul, Int.toNat_zero, Int.toNat_one, qtn, Int.natCast_add, qnat1, qnat0, ne_eq, not_true_eq_false, not_false_eq_true, eq_self, qbool]
theorem kx_needOf (hw : qWd n S R M W) {P : Nat} (hP : M 306 1 = P) (h1 : qXc M M1) {st : Nat} (hst : st < 2147483648) : zcal zPP (d + 4) 89 [zA 286, zI st] (n, s, S, R, M1) = some (zI (qnin (M 306) st P), (n, s, S, R, M1)) := by
  have hA := hw.2.1.2.2.2
  have hF := hw.1.2.1
  have hp5 := hA.2.1.2
  obtain ⟨t1, t2⟩ := wx_tw hw h1
  have L := qlp (P := fun p => zR zPP (d + 3) 89 4 [zA 286, zI st, zI (qnin (M 306) st (min p P)), zI (p : Nat)] [] (n, s, S, R, M1)) (N := 5) (fun p hp => by
    have hh := kx_hasPerson (n := n) (s := s) (d := d + 2) (M := M1) hF t1 hA (p : Int)
    have hhe := kx_heldBy (n := n) (s := s) (d := d + 1) (M := M1) hF t2 hp
    have b1 := qnin_in hA st (n := min p P) (by omega)
    have b2 := qnee_in hA hp
    have w1 := t1.2.2.2.2.1 p hp
    have w2 := t1.2.2.2.1 p hp
    have i1 := hA.2.2.2.2.2.2.2.2.2.2.2.2.2.1 p hp
    have i2 := hA.2.2.2.2.2.2.2.2.2.2.2.2.2.2.1 p hp
    have i3 : qhb (M 306) p ≤ 24 * 5 := qhb_le (M 306) p 5
    have en : max 0 (M 306 (160 + p) - M 306 (131 + p) - ((qhb (M 306) p : Nat) : Int)) = qnee (M 306) p := rfl
    show zR _ _ _ _ _ _ _ = zR _ _ _ _ _ _ _
    rw [e_Counsel_needOf_4]
    by_cases hpP : p < P
    · have m1 : min p P = p := by omega
      have m2 : min (p + 1) P = p + 1 := by omega
      have es : qnin (M 306) st (p + 1) = qnin (M 306) st p + (if st.testBit p = true then qnee (M 306) p else 0) := rfl
      rw [m1] at b1
      rw [m1, m2, es]
      rw [if_pos (show 0 ≤ (p : Int) ∧ (p : Int) < M 306 1 by omega)] at hh
      by_cases hb : st.testBit p = true
      · have hz := zbit_nat hst (show p < 32 by omega)
        rw [if_pos hb] at hz
        rw [if_pos hb]
        simp (disch := omega) only [hh, hz, hhe, w1, w2, en, qff hF, qltT, qltF, qleT, qleF, qeqT, qeqF, Int.reduceEq, Int.reduceNe, Int.reduceLT, Int.reduceLE, Int.reduceToNat, Int.reduceAdd, Int.reduceSub, Int.reduceMul, Int.reduceNeg, Nat.reduceAdd, Nat.reduceMul, Nat.reduceEqDiff, Nat.reduceLT, Int.cast_ofNat_Int, Int.lt_irrefl, Bool.false_eq_true, ↓reduceIte, ↓reduceDIte, zbI, zbL, zbA, zbV, qrg, qrg2, qnn, qz, zup_at, zup_r, zup_ne, true_and, and_true, true_or, or_true, and_self, or_self, false_or, or_false, false_and, and_false, Int.toNat_natCast, Int.toNat_add, Int.toNat_mul, Int.toNat_zero, Int.toNat_one, qtn, Int.natCast_add, qnat1, qnat0, ne_eq, not_true_eq_false, not_false_eq_true, eq_self, qbool]
      · have hz := zbit_nat hst (show p < 32 by omega)
        rw [if_neg hb] at hz
        rw [if_neg hb, Int.add_zero]
        simp (disch := omega) only [hh, hz, qff hF, qltT, qltF, qleT, qleF, qeqT, qeqF, Int.reduceEq, Int.reduceNe, Int.reduceLT, Int.reduceLE, Int.reduceToNat, Int.reduceAdd, Int.reduceSub, Int.reduceMul, Int.reduceNeg, Nat.reduceAdd, Nat.reduceMul, Nat.reduceEqDiff, Nat.reduceLT, Int.cast_ofNat_Int, Int.lt_irrefl, Bool.false_eq_true, ↓reduceIte, ↓reduceDIte, zbI, zbL, zbA, zbV, qrg, qrg2, qnn, qz, zup_at, zup_r, zup_ne, true_and, and_true, true_or, or_true, and_self, or_self, false_or, or_false, false_and, and_false, Int.toNat_natCast, Int.toNat_add, Int.toNat_mul, Int.toNat_zero, Int.toNat_one, qtn, Int.natCast_add, qnat1, qnat0, ne_eq, not_true_eq_false, not_false_eq_true, eq_self, qbool]
    · have m1 : min p P = P := by omega
      have m2 : min (p + 1) P = P := by omega
      rw [m1, m2]
      rw [if_neg (show ¬ (0 ≤ (p : Int) ∧ (p : Int) < M 306 1) by omega)] at hh
      simp (disch := omega) only [hh, qff hF, qltT, qltF, qleT, qleF, qeqT, qeqF, Int.reduceEq, Int.reduceNe, Int.reduceLT, Int.reduceLE, Int.reduceToNat, Int.reduceAdd, Int.reduceSub, Int.reduceMul, Int.reduceNeg, Nat.reduceAdd, Nat.reduceMul, Nat.reduceEqDiff, Nat.reduceLT, Int.cast_ofNat_Int, Int.lt_irrefl, Bool.false_eq_true, ↓reduceIte, ↓reduceDIte, zbI, zbL, zbA, zbV, qrg, qrg2, qnn, qz, zup_at, zup_r, zup_ne, true_and, and_true, true_or, or_true, and_self, or_self, false_or, or_false, false_and, and_false, Int.toNat_natCast, Int.toNat_add, Int.toNat_mul, Int.toNat_zero, Int.toNat_one, qtn, Int.natCast_add, qnat1, qnat0, ne_eq, not_true_eq_false, not_false_eq_true, eq_self, qbool])
  rw [c_Counsel_needOf]
  simp (disch := omega) only [qff hF, qltT, qltF, qleT, qleF, qeqT, qeqF, Int.reduceEq, Int.reduceNe, Int.reduceLT, Int.reduceLE, Int.reduceToNat, Int.reduceAdd, Int.reduceSub, Int.reduceMul, Int.reduceNeg, Nat.reduceAdd, Nat.reduceMul, Nat.reduceEqDiff, Nat.reduceLT, Int.cast_ofNat_Int, Int.lt_irrefl, Bool.false_eq_true, ↓reduceIte, ↓reduceDIte, zbI, zbL, zbA, zbV, qrg, qrg2, qnn, qz, zup_at, zup_r, zup_ne, true_and, and_true, true_or, or_true, and_self, or_self, false_or, or_false, false_and, and_false, Int.toNat_natCast, Int.toNat_add, Int.toNat_mul, Int.toNat_zero, Int.toNat_one, qtn, Int.natCast_add, qnat1, qnat0, ne_eq, not_true_eq_false, not_false_eq_true, eq_self, qbool]
  have m5 : min 5 P = P := by omega
  have m0 : min 0 P = 0 := by omega
  rw [m0] at L
  refine Eq.trans L ?_
  show zR _ _ _ _ _ _ _ = _
  rw [e_Counsel_needOf_4, if_neg (by decide), m5]
theorem kx_roomOf (hw : qWd n S R M W) {a P : Nat} (hP : M 306 1 = P) (h1 : qMe M M1 (M 306) a) {st : Nat} (hst : st < 2 ^ P) : zcal zPP (d + 1) 90 [zA 286, zI st] (n, s, S, R, M1) = some (zI (qroo (M 306) (qkf (M 306) st P) a), (n, s, S, R, M1)) := by
  have hA := hw.2.1.2.2.2
  have hF := hw.1.2.1
  have hp5 := hA.2.1.2
  obtain ⟨t1, t2⟩ := wx_tw hw h1.1
  have hst32 : st < 32 := Nat.lt_of_lt_of_le hst (Nat.pow_le_pow_right (n := 2) (by decide) (show P ≤ 5 by omega))
  have L := qlp (P := fun p => zR zPP d 90 4 [zA 286, zI st, zI (qkf (M 306) st (min p P) : Nat), zI (p : Nat)] [] (n, s, S, R, M1)) (N := 5) (fun p hp => by
    have w1 := t1.2.2.2.2.2.1 p hp
    have i1 := hA.2.2.2.2.2.2.2.2.2.2.2.2.2.2.2.1 p hp
    obtain ⟨tk, htk⟩ := Int.eq_ofNat_of_zero_le i1.1
    have hk16 := qkf_16 hA st (min p P) (by omega)
    have hz := zbit_nat (a := st) (by omega) (show p < 32 by omega)
    show zR _ _ _ _ _ _ _ = zR _ _ _ _ _ _ _
    rw [e_Counsel_roomOf_4]
    by_cases hb : st.testBit p = true
    · have hpP : p < P := by
        apply Classical.byContradiction
        intro hn
        have := Nat.testBit_lt_two_pow (Nat.lt_of_lt_of_le hst (Nat.pow_le_pow_right (n := 2) (by decide) (show P ≤ p by omega)))
        rw [this] at hb
        cases hb
      have m1 : min p P = p := by omega
      have m2 : min (p + 1) P = p + 1 := by omega
      have es : qkf (M 306) st (p + 1) = qkf (M 306) st p ||| (M 306 (165 + p)).toNat := if_pos hb
      rw [if_pos hb] at hz
      rw [m1] at hk16
      rw [m1, m2, es, htk, Int.toNat_natCast]
      simp (disch := omega) only [hz, w1, htk, qff hF, qltT, qltF, qleT, qleF, qeqT, qeqF, Int.reduceEq, Int.reduceNe, Int.reduceLT, Int.reduceLE, Int.reduceToNat, Int.reduceAdd, Int.reduceSub, Int.reduceMul, Int.reduceNeg, Nat.reduceAdd, Nat.reduceMul, Nat.reduceEqDiff, Nat.reduceLT, Int.cast_ofNat_Int, Int.lt_irrefl, Bool.false_eq_true, ↓reduceIte, ↓reduceDIte, zbI, zbL, zbA, zbV, qrg, qrg2, qnn, qz, zup_at, zup_r, zup_ne, true_and, and_true, true_or, or_true, and_self, or_self, false_or, or_false, false_and, and_false, Int.toNat_natCast, Int.toNat_add, Int.toNat_mul, Int.toNat_zero, Int.toNat_one, qtn, Int.natCast_add, qnat1, qnat0, ne_eq, not_true_eq_false, not_false_eq_true, eq_self, qbool]
      rw [zor_nat (by omega) (by omega)]
    · have es : qkf (M 306) st (min (p + 1) P) = qkf (M 306) st (min p P) := by
        by_cases hpP : p < P
        · rw [show min (p + 1) P = p + 1 by omega, show min p P = p by omega]
          exact if_neg hb
        · rw [show min (p + 1) P = P by omega, show min p P = P by omega]
      rw [if_neg hb] at hz
      rw [es]
      simp (disch := omega) only [hz, qff hF, qltT, qltF, qleT, qleF, qeqT, qeqF, Int.reduceEq, Int.reduceNe, Int.reduceLT, Int.reduceLE, Int.reduceToNat, Int.reduceAdd, Int.reduceSub, Int.reduceMul, Int.reduceNeg, Nat.reduceAdd, Nat.reduceMul, Nat.reduceEqDiff, Nat.reduceLT, Int.cast_ofNat_Int, Int.lt_irrefl, Bool.false_eq_true, ↓reduceIte, ↓reduceDIte, zbI, zbL, zbA, zbV, qrg, qrg2, qnn, qz, zup_at, zup_r, zup_ne, true_and, and_true, true_or, or_true, and_self, or_self, false_or, or_false, false_and, and_false, Int.toNat_natCast, Int.toNat_add, Int.toNat_mul, Int.toNat_zero, Int.toNat_one, qtn, Int.natCast_add, qnat1, qnat0, ne_eq, not_true_eq_false, not_false_eq_true, eq_self, qbool])
  rw [c_Counsel_roomOf]
  simp (disch := omega) only [qff hF, qltT, qltF, qleT, qleF, qeqT, qeqF, Int.reduceEq, Int.reduceNe, Int.reduceLT, Int.reduceLE, Int.reduceToNat, Int.reduceAdd, Int.reduceSub, Int.reduceMul, Int.reduceNeg, Nat.reduceAdd, Nat.reduceMul, Nat.reduceEqDiff, Nat.reduceLT, Int.cast_ofNat_Int, Int.lt_irrefl, Bool.false_eq_true, ↓reduceIte, ↓reduceDIte, zbI, zbL, zbA, zbV, qrg, qrg2, qnn, qz, zup_at, zup_r, zup_ne, true_and, and_true, true_or, or_true, and_self, or_self, false_or, or_false, false_and, and_false, Int.toNat_natCast, Int.toNat_add, Int.toNat_mul, Int.toNat_zero, Int.toNat_one, qtn, Int.natCast_add, qnat1, qnat0, ne_eq, not_true_eq_false, not_false_eq_true, eq_self, qbool]
  have m5 : min 5 P = P := by omega
  have m0 : min 0 P = 0 := by omega
  have hk16 := qkf_16 hA st P (by omega)
  rw [m0] at L
  refine Eq.trans L ?_
  show zR _ _ _ _ _ _ _ = _
  rw [e_Counsel_roomOf_4, m5]
  simp (disch := omega) only [h1.2 _ hk16, qff hF, qltT, qltF, qleT, qleF, qeqT, qeqF, Int.reduceEq, Int.reduceNe, Int.reduceLT, Int.reduceLE, Int.reduceToNat, Int.reduceAdd, Int.reduceSub, Int.reduceMul, Int.reduceNeg, Nat.reduceAdd, Nat.reduceMul, Nat.reduceEqDiff, Nat.reduceLT, Int.cast_ofNat_Int, Int.lt_irrefl, Bool.false_eq_true, ↓reduceIte, ↓reduceDIte, zbI, zbL, zbA, zbV, qrg, qrg2, qnn, qz, zup_at, zup_r, zup_ne, true_and, and_true, true_or, or_true, and_self, or_self, false_or, or_false, false_and, and_false, Int.toNat_natCast, Int.toNat_add, Int.toNat_mul, Int.toNat_zero, Int.toNat_one, qtn, Int.natCast_add, qnat1, qnat0, ne_eq, not_true_eq_false, not_false_eq_true, eq_self, qbool]
end QF
