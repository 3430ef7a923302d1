/-! DAYS: counts add up -/
theorem qst_c (w : qWt) (fl : Bool) (o y : Nat) (A : Nat → Int) (c : Nat) : qst w fl o y (A, c) = ((qst w fl o y (A, 0)).1, c + (qst w fl o y (A, 0)).2) := by
  unfold qst
  by_cases h : (A 9).tmod 10 < qLaw w (qEn A o y (A (11 + 24 * o + y) - 3).toNat) 2 (A (136 + y))
  · simp only [h, if_true]
    rfl
  · simp only [h, if_false]
theorem qst_c2 (w : qWt) (fl : Bool) (o y : Nat) (X : (Nat → Int) × Nat) (c : Nat) : qst w fl o y (X.1, c + X.2) = ((qst w fl o y X).1, c + (qst w fl o y X).2) := by
  obtain ⟨A, k⟩ := X
  rw [qst_c w fl o y A (c + k), qst_c w fl o y A k, Nat.add_assoc]
theorem qsy_c (w : qWt) (fl : Bool) (o : Nat) (X : (Nat → Int) × Nat) (c : Nat) : ∀ y, qsy w fl o y (X.1, c + X.2) = ((qsy w fl o y X).1, c + (qsy w fl o y X).2)
  | 0 => rfl
  | y + 1 => by
    rw [qsy_s, qsy_s, qsy_c w fl o X c y]
    by_cases h : 3 ≤ (qsy w fl o y X).1 (11 + 24 * o + y)
    · rw [if_pos h, if_pos h, qst_c2]
    · rw [if_neg h, if_neg h]
theorem qso_c (w : qWt) (fl : Bool) (X : (Nat → Int) × Nat) (c : Nat) : ∀ o, qso w fl o (X.1, c + X.2) = ((qso w fl o X).1, c + (qso w fl o X).2)
  | 0 => rfl
  | o + 1 => by rw [qso_s, qso_s, qso_c w fl X c o, qsy_c]
theorem qdy_c (w : qWt) (fl : Bool) (X : (Nat → Int) × Nat) (c : Nat) : qdy w fl (X.1, c + X.2) = ((qdy w fl X).1, c + (qdy w fl X).2) := by
  unfold qdy
  by_cases h : (X.1 7 + 1).tmod 30 = 0
  · rw [if_pos h, if_pos h]
    exact qso_c w fl (qup X.1 7 (X.1 7 + 1), X.2) c _
  · rw [if_neg h, if_neg h]
theorem qdy_0 (w : qWt) (fl : Bool) (A : Nat → Int) (c : Nat) : qdy w fl (A, c) = ((qdy w fl (A, 0)).1, c + (qdy w fl (A, 0)).2) := qdy_c w fl (A, 0) c
theorem qdn_Ks {w : qWt} {fl : Bool} {X : (Nat → Int) × Nat} (hI : qIn X.1) : ∀ k : Nat, X.1 7 + k ≤ 9999 → qKs X.1 (qdn w fl k X).1 ∧ (qdn w fl k X).1 7 = X.1 7 + k ∧ (qdn w fl k X).2 ≤ X.2 + 120 * k
  | 0, _ => ⟨qKs_r hI, by show X.1 7 = _; omega, Nat.le_refl _⟩
  | k + 1, h => by
    obtain ⟨h1, h2, h3⟩ := qdn_Ks (w := w) (fl := fl) hI k (by omega)
    obtain ⟨g1, g2, g3⟩ := qdy_Ks (w := w) (fl := fl) h1.2.2 (by rw [h2]; omega)
    refine ⟨qKs_t h1 g1, ?_, ?_⟩
    · show (qdy w fl (qdn w fl k X)).1 7 = _
      rw [g2, h2]; omega
    · show (qdy w fl (qdn w fl k X)).2 ≤ _
      omega
theorem qpg5 {A : Nat → Int} {p o y : Nat} (h7 : 0 ≤ A 7 ∧ A 7 ≤ 9999) (ho : o < 5) (hy : y < 24) (hp : p < 5) : zw32 (zw32 (zw32 (zw32 (zw32 (zw32 (A 7 * 5) + p) * 5) + o) * 24) + y) = qpu A p o y := by
  rw [qz (x := A 7 * 5) (by omega) (by omega), qz (x := A 7 * 5 + p) (by omega) (by omega), qz (x := (A 7 * 5 + p) * 5) (by omega) (by omega), qz (x := (A 7 * 5 + p) * 5 + o) (by omega) (by omega), qz (x := ((A 7 * 5 + p) * 5 + o) * 24) (by omega) (by omega), qz (x := ((A 7 * 5 + p) * 5 + o) * 24 + y) (by omega) (by omega)]
  rfl
theorem zw32_z (a b : Int) : zw32 (zw32 a + b) = zw32 (a + b) := by unfold zw32; omega
theorem qwr1 {i : Nat} (h : i < 29) : zw32 ((4850 : Int) + ((i : Int) + 1)) = ((4850 + (i + 1) : Nat) : Int) := by unfold zw32; omega
theorem qwr2 {i : Nat} (h : i < 29) : zw32 (((4850 + (i + 1) : Nat) : Int) - 1) = ((4850 + i : Nat) : Int) := by unfold zw32; omega
theorem qwr3 {i : Nat} (h : i < 29) : zw32 (((i : Int) + 1) + 1) = (((i + 1) + 1 : Nat) : Int) := by unfold zw32; omega
/-! DAYS of the model -/
/-- rows but those that a day of the model writes -/
def qX5 (M M' : Nat → Nat → Int) : Prop := (∀ a, a ≠ 305 → a ≠ 306 → a ≠ 311 → a ≠ 312 → a ≠ 313 → M' a = M a) ∧ ∀ k, k ≠ 24 → M' 305 k = M 305 k
theorem qX5_r (M : Nat → Nat → Int) : qX5 M M := ⟨fun _ _ _ _ _ _ => rfl, fun _ _ => rfl⟩
theorem qX5_t {M M1 M2 : Nat → Nat → Int} (h1 : qX5 M M1) (h2 : qX5 M1 M2) : qX5 M M2 := ⟨fun a x y z u v => (h2.1 a x y z u v).trans (h1.1 a x y z u v), fun k hk => (h2.2 k hk).trans (h1.2 k hk)⟩
section QF
variable {S : Nat → Nat × Nat} {R : Nat → Nat → Nat} {M M' M0 M1 : Nat → Nat → Int} {n s d r : Nat} {A : Nat → Int} {W : Nat → qWt} {w : qWt} {fl : Bool}
theorem km_anew (hF : qFx S R) (h9 : 0 ≤ M 306 9 ∧ M 306 9 < 30689) : zcal zPP (d + 1) 261 [zA 305] (n, s, S, R, M) = some (zU, (n, s, S, R, zup M 306 9 (qnx (M 306 9)))) := by
  have h1 : zw64 (zw64 (M 306 9 * 499) + 383) = M 306 9 * 499 + 383 := by unfold zw64; omega
  have h2 : zw32 ((M 306 9 * 499 + 383).tmod 30689) = qnx (M 306 9) := by
    have := qnx_in h9.1
    show zw32 (qnx (M 306 9)) = _
    exact qz (by omega) (by omega)
  rw [c_M_anew]
  simp (disch := omega) only [h1, h2, qff hF, qltT, qltF, qleT, qleF, qeqT, qeqF, Int.reduceEq, Int.reduceNe, Int.reduceLT, Int.reduceLE, Int.reduceToNat, Int.reduceAdd, Int.reduceSub, Int.reduceMul, Int.reduceNeg, Nat.reduceAdd, Nat.reduceMul, Nat.reduceEqDiff, Nat.reduceLT, Int.cast_ofNat_Int, Int.lt_irrefl, Bool.false_eq_true, ↓reduceIte, ↓reduceDIte, zbI, zbL, zbA, zbV, qrg, qrg2, qnn, qz, zup_at, zup_r, zup_ne, true_and, and_true, true_or, or_true, and_self, or_self, false_or, or_false, false_and, and_false, Int.toNat_natCast, Int.toNat_add, Int.toNat_mul, Int.toNat_zero, Int.toNat_one, qtn, Int.natCast_add, qnat1, qnat0, ne_eq, not_true_eq_false, not_false_eq_true, eq_self, qbool]
theorem km_write (hF : qFx S R) (hfl : M 305 23 = if fl = true then 1 else 0) (h10 : 0 ≤ M 306 10 ∧ M 306 10 ≤ 30) (h7 : 0 ≤ M 306 7 ∧ M 306 7 ≤ 9999) {o y p : Nat} (ho : o < 5) (hy : y < 24) (hp : p < 5) :
    ∃ M', zcal zPP (d + 1) 262 [zA 305, zI p, zI o, zI y] (n, s, S, R, M) = some (zU, (n, s, S, R, M')) ∧ M' 306 = qkp fl (M 306) (qpu (M 306) p o y) ∧ ∀ a, a ≠ 306 → M' a = M a := by
  cases fl with
  | false =>
    have h23 : M 305 23 = 0 := hfl
    refine ⟨M, ?_, rfl, fun _ _ => rfl⟩
    rw [c_M_write]
    simp (disch := omega) only [h23, qff hF, qltT, qltF, qleT, qleF, qeqT, qeqF, Int.reduceEq, Int.reduceNe, Int.reduceLT, Int.reduceLE, Int.reduceToNat, Int.reduceAdd, Int.reduceSub, Int.reduceMul, Int.reduceNeg, Nat.reduceAdd, Nat.reduceMul, Nat.reduceEqDiff, Nat.reduceLT, Int.cast_ofNat_Int, Int.lt_irrefl, Bool.false_eq_true, ↓reduceIte, ↓reduceDIte, zbI, zbL, zbA, zbV, qrg, qrg2, qnn, qz, zup_at, zup_r, zup_ne, true_and, and_true, true_or, or_true, and_self, or_self, false_or, or_false, false_and, and_false, Int.toNat_natCast, Int.toNat_add, Int.toNat_mul, Int.toNat_zero, Int.toNat_one, qtn, Int.natCast_add, qnat1, qnat0, ne_eq, not_true_eq_false, not_false_eq_true, eq_self, qbool]
  | true =>
    have h23 : M 305 23 = 1 := hfl
    by_cases h30 : M 306 10 = 30
    · have L := qlpI (E := fun i M2 => (∀ a, a ≠ 306 → M2 a = M a) ∧ (∀ k, k < i → M2 306 (4850 + k) = M 306 (4851 + k)) ∧ ∀ k, k < 4850 ∨ 4850 + i ≤ k → M2 306 k = M 306 k) (P := fun i M2 => zR zPP d 262 12 [zA 305, zI p, zI o, zI y, zI ((i + 1 : Nat) : Int)] [] (n, s, S, R, M2)) (N := 29) (fun i M2 hi hx => by
        obtain ⟨e1, e2, e3⟩ := hx
        have e4 : M2 306 (4850 + (i + 1)) = M 306 (4851 + i) := by rw [e3 _ (by omega)]; congr 1; omega
        refine ⟨zup M2 306 (4850 + i) (M 306 (4851 + i)), ⟨fun a ha => by rw [zup_rw ha]; exact e1 a ha, fun k hk => ?_, fun k hk => ?_⟩, ?_⟩
        · by_cases hki : k = i
          · subst hki; exact zup_at
          · rw [zup_ne (by omega)]; exact e2 k (by omega)
        · rw [zup_ne (by omega)]; exact e3 k (by omega)
        · show zR _ _ _ _ _ _ _ = zR _ _ _ _ _ _ _
          have c1 : (((i + 1 : Nat) : Int)) = (i : Int) + 1 := by omega
          rw [e_M_write_12, c1, if_pos (by omega), qwr1 hi, qwr2 hi, qwr3 hi]
          simp only [qff hF, if_true, Int.toNat_natCast, e4, true_or, true_and]
          rw [if_pos (by omega), if_pos (by omega)]) M ⟨fun _ _ => rfl, fun k hk => absurd hk (Nat.not_lt_zero k), fun _ _ => rfl⟩
      obtain ⟨M2, ⟨e1, e2, e3⟩, L⟩ := L
      have m10 : M2 306 10 = 30 := (e3 10 (by omega)).trans h30
      have m7 : M2 306 7 = M 306 7 := e3 7 (by omega)
      have t4879 : Int.toNat 4879 = 4879 := rfl
      have z4879 : zw32 ((4850 : Int) + 29) = 4879 := by decide
      have z29 : zw32 ((30 : Int) - 1) = 29 := by decide
      have z30 : zw32 ((29 : Int) + 1) = 30 := by decide
      refine ⟨zup (zup (zup M2 306 10 29) 306 4879 (qpu (M 306) p o y)) 306 10 30, ?_, ?_, fun a ha => by rw [zup_rw ha, zup_rw ha, zup_rw ha]; exact e1 a ha⟩
      · rw [c_M_write]
        simp (disch := omega) only [h23, h30, qff hF, qltT, qltF, qleT, qleF, qeqT, qeqF, Int.reduceEq, Int.reduceNe, Int.reduceLT, Int.reduceLE, Int.reduceToNat, Int.reduceAdd, Int.reduceSub, Int.reduceMul, Int.reduceNeg, Nat.reduceAdd, Nat.reduceMul, Nat.reduceEqDiff, Nat.reduceLT, Int.cast_ofNat_Int, Int.lt_irrefl, Bool.false_eq_true, ↓reduceIte, ↓reduceDIte, zbI, zbL, zbA, zbV, qrg, qrg2, qnn, qz, zup_at, zup_r, zup_ne, true_and, and_true, true_or, or_true, and_self, or_self, false_or, or_false, false_and, and_false, Int.toNat_natCast, Int.toNat_add, Int.toNat_mul, Int.toNat_zero, Int.toNat_one, qtn, Int.natCast_add, qnat1, qnat0, ne_eq, not_true_eq_false, not_false_eq_true, eq_self, qbool]
        refine Eq.trans L ?_
        show zR _ _ _ _ _ _ _ = _
        rw [e_M_write_12]
        simp (disch := omega) only [m10, z29, z4879, t4879, m7, qpg5 h7 ho hy hp, z30, qff hF, qltT, qltF, qleT, qleF, qeqT, qeqF, Int.reduceEq, Int.reduceNe, Int.reduceLT, Int.reduceLE, Int.reduceToNat, Int.reduceAdd, Int.reduceSub, Int.reduceMul, Int.reduceNeg, Nat.reduceAdd, Nat.reduceMul, Nat.reduceEqDiff, Nat.reduceLT, Int.cast_ofNat_Int, Int.lt_irrefl, Bool.false_eq_true, ↓reduceIte, ↓reduceDIte, zbI, zbL, zbA, zbV, qrg, qrg2, qnn, qz, zup_at, zup_r, zup_ne, true_and, and_true, true_or, or_true, and_self, or_self, false_or, or_false, false_and, and_false, Int.toNat_natCast, Int.toNat_add, Int.toNat_mul, Int.toNat_zero, Int.toNat_one, qtn, Int.natCast_add, qnat1, qnat0, ne_eq, not_true_eq_false, not_false_eq_true, eq_self, qbool]
        rfl
      · rw [qup_zup, qup_zup, qup_zup]
        unfold qkp qbw
        rw [if_pos rfl, if_pos h30]
        funext k
        by_cases k10 : k = 10
        · subst k10
          rw [qup_at, if_neg (by decide), if_neg (by decide), h30]
        · rw [qup_ne k10]
          by_cases k79 : k = 4879
          · subst k79
            rw [qup_at, if_neg (by decide), if_pos rfl]
          · rw [qup_ne k79, qup_ne k10, if_neg k79]
            by_cases hk : 4850 ≤ k ∧ k < 4879
            · rw [if_pos hk]
              have := e2 (k - 4850) (by omega)
              rw [show 4850 + (k - 4850) = k by omega, show 4851 + (k - 4850) = k + 1 by omega] at this
              exact this
            · rw [if_neg hk]
              exact e3 k (by omega)
    · obtain ⟨z, hz⟩ := Int.eq_ofNat_of_zero_le h10.1
      refine ⟨zup (zup M 306 (4850 + z) (qpu (M 306) p o y)) 306 10 ((z : Int) + 1), ?_, ?_, fun a ha => by rw [zup_rw ha, zup_rw ha]⟩
      · rw [c_M_write]
        have h30' : ¬ (z : Int) = 30 := by omega
        simp (disch := omega) only [h23, hz, qpg5 h7 ho hy hp, qff hF, qltT, qltF, qleT, qleF, qeqT, qeqF, Int.reduceEq, Int.reduceNe, Int.reduceLT, Int.reduceLE, Int.reduceToNat, Int.reduceAdd, Int.reduceSub, Int.reduceMul, Int.reduceNeg, Nat.reduceAdd, Nat.reduceMul, Nat.reduceEqDiff, Nat.reduceLT, Int.cast_ofNat_Int, Int.lt_irrefl, Bool.false_eq_true, ↓reduceIte, ↓reduceDIte, zbI, zbL, zbA, zbV, qrg, qrg2, qnn, qz, zup_at, zup_r, zup_ne, true_and, and_true, true_or, or_true, and_self, or_self, false_or, or_false, false_and, and_false, Int.toNat_natCast, Int.toNat_add, Int.toNat_mul, Int.toNat_zero, Int.toNat_one, qtn, Int.natCast_add, qnat1, qnat0, ne_eq, not_true_eq_false, not_false_eq_true, eq_self, qbool]
        rfl
      · rw [qup_zup, qup_zup]
        unfold qkp qbw
        rw [if_pos rfl, if_neg h30, hz, Int.toNat_natCast]
theorem zw32_i (a : Int) : zw32 (zw32 a) = zw32 a := by unfold zw32; omega
theorem km_settle (hF : qFx S R) (hA : qIn (M 306)) (ht : qTN (M 308) (M 306 3) w) (hfl : M 305 23 = if fl = true then 1 else 0) {o y : Nat} (ho : (o : Int) < M 306 0) (hy : y < 24) (h3 : 3 ≤ M 306 (11 + 24 * o + y)) :
    ∃ M', zcal zPP (d + 9) 259 [zA 305, zI o, zI y] (n, s, S, R, M) = some (zU, (n, s, S, R, M')) ∧ M' 306 = (qst w fl o y (M 306, 0)).1 ∧ (zw32 (M 305 24) = M 305 24 → M' 305 24 = zw32 (M 305 24 + ((qst w fl o y (M 306, 0)).2 : Nat))) ∧ qX5 M M' := by
  have hA5 := hA.1.2
  have hp5 := hA.2.1.2
  have h7 := hA.2.2.2.2.2.2.2.1
  have h8 := hA.2.2.2.2.2.2.2.2.1
  have h9 := hA.2.2.2.2.2.2.2.2.2.1
  have h10 := hA.2.2.2.2.2.2.2.2.2.2.1
  have hb := hA.2.2.2.2.2.2.2.2.2.2.2.1 o y (by omega) hy
  obtain ⟨p, hp⟩ := Int.eq_ofNat_of_zero_le (show 0 ≤ M 306 (11 + 24 * o + y) - 3 by omega)
  have hpn : (M 306 (11 + 24 * o + y) - 3).toNat = p := by rw [hp, Int.toNat_natCast]
  have hz3 : zw32 (M 306 (11 + 24 * o + y) - 3) = p := by rw [hp]; exact qz (by omega) (by omega)
  have hgt := km_get (n := n) (s := s) (d := d + 7) (M := M) hF (show o < 5 by omega) hy
  obtain ⟨M1, j1, j2⟩ := km_paysOf (n := n) (s := s) (d := d) (M := M) (o := o) (y := y) (p := p) hF hA ho hy (by omega) ht
  have m6 : M1 306 = M 306 := j2 306 (by decide) (by decide) (by decide)
  have m5 : M1 305 = M 305 := j2 305 (by decide) (by decide) (by decide)
  have han := km_anew (n := n) (s := s) (d := d + 7) (M := M1) hF (by rw [m6]; exact h9)
  rw [m6] at han
  have hpt := fun v => km_put (n := n) (s := s) (d := d + 7) (M := zup M1 306 9 (qnx (M 306 9))) hF (show o < 5 by omega) hy v
  have r306 : ∀ v, zup (zup M1 306 9 (qnx (M 306 9))) 306 (11 + 24 * o + y) v 306 = qup (qup (M 306) 9 (qnx (M 306 9))) (11 + 24 * o + y) v := fun v => by rw [qup_zup, qup_zup, m6]
  by_cases hpay : (M 306 9).tmod 10 < qLaw w (qEn (M 306) o y p) 2 (M 306 (136 + y))
  · have eX : qst w fl o y (M 306, 0) = (qup (qup (M 306) 9 (qnx (M 306 9))) (11 + 24 * o + y) 1, 0) := by
      unfold qst
      show (if (M 306 9).tmod 10 < qLaw w (qEn (M 306) o y (M 306 (11 + 24 * o + y) - 3).toNat) 2 (M 306 (136 + y)) then _ else _) = _
      rw [hpn, if_pos hpay]
    refine ⟨zup (zup M1 306 9 (qnx (M 306 9))) 306 (11 + 24 * o + y) 1, ?_, by rw [eX]; exact r306 1, fun hz => ?_, fun a a1 a2 a3 a4 a5 => ?_, fun k hk => ?_⟩
    · rw [c_M_settleRing]
      simp only [hgt, zbI, qff hF, if_true]
      rw [if_pos (by decide), if_neg (by decide), hz3, j1]
      have h9' : M 306 (Int.toNat 9) = M 306 9 := rfl
      simp only [zbI, h9']
      rw [if_pos hpay, e_M_settleRing_22, han]
      simp only [zbV]
      rw [if_neg (by decide), e_M_settleRing_33, hpt]
      simp only [zbV]
      rw [if_neg (by decide)]
    · rw [eX, zup_rw (by decide), zup_rw (by decide), m5]
      show _ = zw32 (M 305 24 + 0)
      rw [Int.add_zero, hz]
    · rw [zup_rw a2, zup_rw a2]; exact j2 a a3 a4 a5
    · rw [zup_rw (by decide), zup_rw (by decide), m5]
  · have eX : qst w fl o y (M 306, 0) = (qkp fl (qup (qup (qup (M 306) 9 (qnx (M 306 9))) (11 + 24 * o + y) 2) 8 (qcut (M 306 8 + 1) 0 9999)) (qpu (M 306) p o y), 1) := by
      unfold qst
      show (if (M 306 9).tmod 10 < qLaw w (qEn (M 306) o y (M 306 (11 + 24 * o + y) - 3).toNat) 2 (M 306 (136 + y)) then _ else _) = _
      rw [hpn, if_neg hpay]
    have m8 : zup (zup M1 306 9 (qnx (M 306 9))) 306 (11 + 24 * o + y) 2 306 8 = M 306 8 := by rw [zup_ne (by omega), zup_ne (by decide), m6]
    have hz8 : zw32 (M 306 8 + 1) = M 306 8 + 1 := qz (by omega) (by omega)
    have hcut := km_cut (d := d + 7) (M 306 8 + 1) 0 9999 (by decide) (n, s, S, R, zup (zup M1 306 9 (qnx (M 306 9))) 306 (11 + 24 * o + y) 2)
    generalize hM4 : zup (zup (zup (zup M1 306 9 (qnx (M 306 9))) 306 (11 + 24 * o + y) 2) 306 8 (qcut (M 306 8 + 1) 0 9999)) 305 24 (zw32 (M 305 24 + 1)) = M4
    have x6 : M4 306 = qup (qup (qup (M 306) 9 (qnx (M 306 9))) (11 + 24 * o + y) 2) 8 (qcut (M 306 8 + 1) 0 9999) := by rw [← hM4, zup_rw (by decide), qup_zup, r306]
    have x5 : ∀ k, k ≠ 24 → M4 305 k = M 305 k := fun k hk => by rw [← hM4, zup_ne hk, zup_rw (by decide), zup_rw (by decide), zup_rw (by decide), m5]
    have x524 : M4 305 24 = zw32 (M 305 24 + 1) := by rw [← hM4, zup_at]
    obtain ⟨M5, w1, w2, w3⟩ := km_write (n := n) (s := s) (d := d + 7) (M := M4) (fl := fl) (o := o) (y := y) (p := p) hF (by rw [x5 23 (by decide)]; exact hfl) (by rw [x6, qup_ne (by decide), qup_ne (by omega), qup_ne (by decide)]; exact h10) (by rw [x6, qup_ne (by decide), qup_ne (by omega), qup_ne (by decide)]; exact h7) (by omega) hy (by omega)
    have hpu : qpu (M4 306) p o y = qpu (M 306) p o y := by
      unfold qpu
      rw [x6, qup_ne (by decide), qup_ne (by omega), qup_ne (by decide)]
    refine ⟨M5, ?_, by rw [w2, hpu, x6, eX], fun hz => ?_, fun a a1 a2 a3 a4 a5 => ?_, fun k hk => ?_⟩
    · rw [c_M_settleRing]
      simp only [hgt, zbI, qff hF, if_true]
      rw [if_pos (by decide), if_neg (by decide), hz3, j1]
      have h9' : M 306 (Int.toNat 9) = M 306 9 := rfl
      have h8' : zup (zup M1 306 9 (qnx (M 306 9))) 306 (11 + 24 * o + y) 2 306 (Int.toNat 8) = M 306 8 := m8
      have m24 : zup (zup (zup M1 306 9 (qnx (M 306 9))) 306 (11 + 24 * o + y) 2) 306 8 (qcut (M 306 8 + 1) 0 9999) 305 24 = M 305 24 := by rw [zup_rw (by decide), zup_rw (by decide), zup_rw (by decide), m5]
      have t8 : Int.toNat 8 = 8 := rfl
      simp only [zbI, h9']
      rw [if_neg hpay, e_M_settleRing_22, han]
      simp only [zbV]
      rw [if_pos trivial, e_M_settleRing_33, hpt]
      simp only [zbV, qff hF, if_true, h8', hz8]
      rw [if_pos (by decide), hcut]
      simp only [zbI, qff hF, if_true, t8, m24, hM4]
      rw [if_pos (by decide), w1]
    · rw [w3 305 (by decide), x524, eX]
      rfl
    · rw [w3 a a2, ← hM4, zup_rw a1, zup_rw a2, zup_rw a2, zup_rw a2]; exact j2 a a3 a4 a5
    · rw [w3 305 (by decide)]; exact x5 k hk
/-- one OAK at MIDSUMMER -/
theorem km_mid2 (hF : qFx S R) (hA : qIn (M 306)) (ht : qTN (M 308) (M 306 3) w) (hfl : M 305 23 = if fl = true then 1 else 0) {o : Nat} (ho : (o : Int) < M 306 0) :
    ∃ M', zR zPP (d + 9) 258 26 [zA 305, zI o, zI 0] [] (n, s, S, R, M) = zR zPP (d + 9) 258 26 [zA 305, zI o, zI ((24 : Nat) : Int)] [] (n, s, S, R, M') ∧ M' 306 = (qsy w fl o 24 (M 306, 0)).1 ∧ (zw32 (M 305 24) = M 305 24 → M' 305 24 = zw32 (M 305 24 + ((qsy w fl o 24 (M 306, 0)).2 : Nat))) ∧ qX5 M M' := by
  have hA5 := hA.1.2
  have L := qlpI (E := fun y M2 => M2 306 = (qsy w fl o y (M 306, 0)).1 ∧ (zw32 (M 305 24) = M 305 24 → M2 305 24 = zw32 (M 305 24 + ((qsy w fl o y (M 306, 0)).2 : Nat))) ∧ qX5 M M2)
    (P := fun y M2 => zR zPP (d + 9) 258 26 [zA 305, zI o, zI (y : Nat)] [] (n, s, S, R, M2)) (N := 24) (fun y M2 hy hx => by
      obtain ⟨e1, e2, e3⟩ := hx
      obtain ⟨t1, t2, t3, t4⟩ := qsy_Ks (w := w) (fl := fl) (o := o) (X := (M 306, 0)) hA ho y (by omega)
      have t1 : qKs (M 306) (qsy w fl o y (M 306, 0)).1 := t1
      have k0 : (qsy w fl o y (M 306, 0)).1 0 = M 306 0 := t1.1 0 (by decide) (by decide) (by decide) (by decide) (by decide) (by decide)
      have k3 : (qsy w fl o y (M 306, 0)).1 3 = M 306 3 := t1.1 3 (by decide) (by decide) (by decide) (by decide) (by decide) (by decide)
      have hgt := km_get (n := n) (s := s) (d := d + 8) (M := M2) hF (show o < 5 by omega) hy
      by_cases h : 3 ≤ (qsy w fl o y (M 306, 0)).1 (11 + 24 * o + y)
      · obtain ⟨M3, m1, m2, m3, m4⟩ := km_settle (n := n) (s := s) (d := d) (M := M2) (w := w) (fl := fl) (o := o) (y := y) hF (by rw [e1]; exact t1.2.2) (by rw [e1, k3, e3.1 308 (by decide) (by decide) (by decide) (by decide) (by decide)]; exact ht) (by rw [e3.2 23 (by decide)]; exact hfl) (by rw [e1, k0]; exact ho) hy (by rw [e1]; exact h)
        rw [e1] at m2 m3
        have es : qsy w fl o (y + 1) (M 306, 0) = ((qst w fl o y ((qsy w fl o y (M 306, 0)).1, 0)).1, (qsy w fl o y (M 306, 0)).2 + (qst w fl o y ((qsy w fl o y (M 306, 0)).1, 0)).2) := by
          rw [qsy_s, if_pos h]
          exact qst_c w fl o y _ _
        refine ⟨M3, ⟨by rw [es]; exact m2, fun hz => ?_, qX5_t e3 m4⟩, ?_⟩
        · rw [m3 (by rw [e2 hz, zw32_i]), e2 hz, es, zw32_z]
          show zw32 _ = zw32 (_ + (((qsy w fl o y (M 306, 0)).2 + (qst w fl o y ((qsy w fl o y (M 306, 0)).1, 0)).2 : Nat) : Int))
          rw [Int.natCast_add, Int.add_assoc]
        · show zR _ _ _ _ _ _ _ = zR _ _ _ _ _ _ _
          rw [e_M_passDay_26, if_pos (by omega), hgt]
          simp only [zbI]
          rw [e1, if_neg (by omega), m1]
          simp only [zbV]
          rw [qw1 (show y < 100000 by omega)]
      · have es : qsy w fl o (y + 1) (M 306, 0) = qsy w fl o y (M 306, 0) := by rw [qsy_s, if_neg h]
        refine ⟨M2, ⟨by rw [es]; exact e1, by rw [es]; exact e2, e3⟩, ?_⟩
        show zR _ _ _ _ _ _ _ = zR _ _ _ _ _ _ _
        rw [e_M_passDay_26, if_pos (by omega), hgt]
        simp only [zbI]
        rw [e1, if_pos (by omega), qw1 (show y < 100000 by omega)]) M ⟨rfl, fun hz => by
          show _ = zw32 (M 305 24 + 0)
          rw [Int.add_zero, hz], qX5_r M⟩
  obtain ⟨M2, ⟨e1, e2, e3⟩, L⟩ := L
  exact ⟨M2, L, e1, e2, e3⟩
theorem km_passDay (hF : qFx S R) (hA : qIn (M 306)) (ht : qTN (M 308) (M 306 3) w) (hfl : M 305 23 = if fl = true then 1 else 0) (h7 : M 306 7 < 9999) :
    ∃ M', zcal zPP (d + 10) 258 [zA 305] (n, s, S, R, M) = some (zU, (n, s, S, R, M')) ∧ M' 306 = (qdy w fl (M 306, 0)).1 ∧ (zw32 (M 305 24) = M 305 24 → M' 305 24 = zw32 (M 305 24 + ((qdy w fl (M 306, 0)).2 : Nat))) ∧ qX5 M M' := by
  have h70 := hA.2.2.2.2.2.2.2.1
  have hd := qIn_day hA h7
  have e6 : zup M 306 7 (M 306 7 + 1) 306 = qup (M 306) 7 (M 306 7 + 1) := qup_zup _ _ _ _
  have x5 : qX5 M (zup M 306 7 (M 306 7 + 1)) := ⟨fun a a1 a2 a3 a4 a5 => zup_rw a2, fun k hk => by rw [zup_rw (by decide)]⟩
  have hz7 : zw32 (M 306 7 + 1) = M 306 7 + 1 := qz (by omega) (by omega)
  by_cases h30 : (M 306 7 + 1).tmod 30 = 0
  · have eX : qdy w fl (M 306, 0) = qso w fl (M 306 0).toNat (qup (M 306) 7 (M 306 7 + 1), 0) := by
      unfold qdy
      rw [if_pos h30]
    have k0 : qup (M 306) 7 (M 306 7 + 1) 0 = M 306 0 := qup_ne (by decide)
    have hA5 := hA.1.2
    obtain ⟨N, hN⟩ := Int.eq_ofNat_of_zero_le hA.1.1
    have L := qlpI (E := fun o (x : (Nat → Nat → Int) × zV) => x.1 306 = (qso w fl o (qup (M 306) 7 (M 306 7 + 1), 0)).1 ∧ (zw32 (M 305 24) = M 305 24 → x.1 305 24 = zw32 (M 305 24 + ((qso w fl o (qup (M 306) 7 (M 306 7 + 1), 0)).2 : Nat))) ∧ qX5 M x.1)
      (P := fun o x => zR zPP (d + 9) 258 18 [zA 305, zI (o : Nat), x.2] [] (n, s, S, R, x.1)) (N := N) (fun o x ho hx => by
        obtain ⟨M2, g2⟩ := x
        obtain ⟨e1, e2, e3⟩ := hx
        have e1 : M2 306 = (qso w fl o (qup (M 306) 7 (M 306 7 + 1), 0)).1 := e1
        have e2 : zw32 (M 305 24) = M 305 24 → M2 305 24 = zw32 (M 305 24 + ((qso w fl o (qup (M 306) 7 (M 306 7 + 1), 0)).2 : Nat)) := e2
        have e3 : qX5 M M2 := e3
        obtain ⟨t1, t2, t3⟩ := qso_Ks (w := w) (fl := fl) (X := (qup (M 306) 7 (M 306 7 + 1), 0)) hd.2.2 o (by show _ ≤ qup (M 306) 7 (M 306 7 + 1) 0; rw [k0]; omega)
        have t1 : qKs (qup (M 306) 7 (M 306 7 + 1)) (qso w fl o (qup (M 306) 7 (M 306 7 + 1), 0)).1 := t1
        have r0 : M2 306 0 = M 306 0 := by rw [e1, t1.1 0 (by decide) (by decide) (by decide) (by decide) (by decide) (by decide)]; exact k0
        have r3 : M2 306 3 = M 306 3 := by rw [e1, t1.1 3 (by decide) (by decide) (by decide) (by decide) (by decide) (by decide)]; exact qup_ne (by decide)
        obtain ⟨M3, m1, m2, m3, m4⟩ := km_mid2 (n := n) (s := s) (d := d) (M := M2) (w := w) (fl := fl) (o := o) hF (by rw [e1]; exact t1.2.2) (by rw [r3, e3.1 308 (by decide) (by decide) (by decide) (by decide) (by decide)]; exact ht) (by rw [e3.2 23 (by decide)]; exact hfl) (by rw [r0]; omega)
        rw [e1] at m2 m3
        have es : qso w fl (o + 1) (qup (M 306) 7 (M 306 7 + 1), 0) = ((qsy w fl o 24 ((qso w fl o (qup (M 306) 7 (M 306 7 + 1), 0)).1, 0)).1, (qso w fl o (qup (M 306) 7 (M 306 7 + 1), 0)).2 + (qsy w fl o 24 ((qso w fl o (qup (M 306) 7 (M 306 7 + 1), 0)).1, 0)).2) := by
          rw [qso_s]
          exact qsy_c w fl o ((qso w fl o (qup (M 306) 7 (M 306 7 + 1), 0)).1, 0) _ 24
        refine ⟨(M3, zI ((24 : Nat) : Int)), ⟨by rw [es]; exact m2, fun hz => ?_, qX5_t e3 m4⟩, ?_⟩
        · show M3 305 24 = _
          rw [m3 (by rw [e2 hz, zw32_i]), e2 hz, es, zw32_z]
          show zw32 _ = zw32 (_ + (((qso w fl o (qup (M 306) 7 (M 306 7 + 1), 0)).2 + (qsy w fl o 24 ((qso w fl o (qup (M 306) 7 (M 306 7 + 1), 0)).1, 0)).2 : Nat) : Int))
          rw [Int.natCast_add, Int.add_assoc]
        · show zR _ _ _ _ _ _ _ = zR _ _ _ _ _ _ _
          rw [e_M_passDay_18]
          simp (disch := omega) only [r0, hN, qff hF, qltT, qltF, qleT, qleF, qeqT, qeqF, Int.reduceEq, Int.reduceNe, Int.reduceLT, Int.reduceLE, Int.reduceToNat, Int.reduceAdd, Int.reduceSub, Int.reduceMul, Int.reduceNeg, Nat.reduceAdd, Nat.reduceMul, Nat.reduceEqDiff, Nat.reduceLT, Int.cast_ofNat_Int, Int.lt_irrefl, Bool.false_eq_true, ↓reduceIte, ↓reduceDIte, zbI, zbL, zbA, zbV, qrg, qrg2, qnn, qz, zup_at, zup_r, zup_ne, true_and, and_true, true_or, or_true, and_self, or_self, false_or, or_false, false_and, and_false, Int.toNat_natCast, Int.toNat_add, Int.toNat_mul, Int.toNat_zero, Int.toNat_one, qtn, Int.natCast_add, qnat1, qnat0, ne_eq, not_true_eq_false, not_false_eq_true, eq_self, qbool]
          refine Eq.trans m1 ?_
          rw [e_M_passDay_26, if_neg (by decide), qw1 (show o < 100000 by omega)]
          rfl) (zup M 306 7 (M 306 7 + 1), zU) ⟨e6, fun hz => by
            show zup M 306 7 (M 306 7 + 1) 305 24 = zw32 (M 305 24 + 0)
            rw [zup_rw (by decide), Int.add_zero, hz], x5⟩
    obtain ⟨⟨M2, g2⟩, ⟨e1, e2, e3⟩, L⟩ := L
    have e1 : M2 306 = (qso w fl N (qup (M 306) 7 (M 306 7 + 1), 0)).1 := e1
    obtain ⟨t1, t2, t3⟩ := qso_Ks (w := w) (fl := fl) (X := (qup (M 306) 7 (M 306 7 + 1), 0)) hd.2.2 N (by show _ ≤ qup (M 306) 7 (M 306 7 + 1) 0; rw [k0]; omega)
    have r0 : M2 306 0 = M 306 0 := by rw [e1, t1.1 0 (by decide) (by decide) (by decide) (by decide) (by decide) (by decide)]; exact k0
    rw [eX, hN, Int.toNat_natCast]
    refine ⟨M2, ?_, e1, e2, e3⟩
    rw [c_M_passDay]
    simp (disch := omega) only [hz7, h30, qff hF, qltT, qltF, qleT, qleF, qeqT, qeqF, Int.reduceEq, Int.reduceNe, Int.reduceLT, Int.reduceLE, Int.reduceToNat, Int.reduceAdd, Int.reduceSub, Int.reduceMul, Int.reduceNeg, Nat.reduceAdd, Nat.reduceMul, Nat.reduceEqDiff, Nat.reduceLT, Int.cast_ofNat_Int, Int.lt_irrefl, Bool.false_eq_true, ↓reduceIte, ↓reduceDIte, zbI, zbL, zbA, zbV, qrg, qrg2, qnn, qz, zup_at, zup_r, zup_ne, true_and, and_true, true_or, or_true, and_self, or_self, false_or, or_false, false_and, and_false, Int.toNat_natCast, Int.toNat_add, Int.toNat_mul, Int.toNat_zero, Int.toNat_one, qtn, Int.natCast_add, qnat1, qnat0, ne_eq, not_true_eq_false, not_false_eq_true, eq_self, qbool]
    refine Eq.trans L ?_
    show zR _ _ _ _ _ _ _ = _
    rw [e_M_passDay_18]
    simp (disch := omega) only [r0, hN, qff hF, qltT, qltF, qleT, qleF, qeqT, qeqF, Int.reduceEq, Int.reduceNe, Int.reduceLT, Int.reduceLE, Int.reduceToNat, Int.reduceAdd, Int.reduceSub, Int.reduceMul, Int.reduceNeg, Nat.reduceAdd, Nat.reduceMul, Nat.reduceEqDiff, Nat.reduceLT, Int.cast_ofNat_Int, Int.lt_irrefl, Bool.false_eq_true, ↓reduceIte, ↓reduceDIte, zbI, zbL, zbA, zbV, qrg, qrg2, qnn, qz, zup_at, zup_r, zup_ne, true_and, and_true, true_or, or_true, and_self, or_self, false_or, or_false, false_and, and_false, Int.toNat_natCast, Int.toNat_add, Int.toNat_mul, Int.toNat_zero, Int.toNat_one, qtn, Int.natCast_add, qnat1, qnat0, ne_eq, not_true_eq_false, not_false_eq_true, eq_self, qbool]
  · have eX : qdy w fl (M 306, 0) = (qup (M 306) 7 (M 306 7 + 1), 0) := by
      unfold qdy
      rw [if_neg h30]
    refine ⟨zup M 306 7 (M 306 7 + 1), ?_, by rw [eX]; exact e6, fun hz => ?_, x5⟩
    · rw [c_M_passDay]
      simp (disch := omega) only [hz7, h30, qff hF, qltT, qltF, qleT, qleF, qeqT, qeqF, Int.reduceEq, Int.reduceNe, Int.reduceLT, Int.reduceLE, Int.reduceToNat, Int.reduceAdd, Int.reduceSub, Int.reduceMul, Int.reduceNeg, Nat.reduceAdd, Nat.reduceMul, Nat.reduceEqDiff, Nat.reduceLT, Int.cast_ofNat_Int, Int.lt_irrefl, Bool.false_eq_true, ↓reduceIte, ↓reduceDIte, zbI, zbL, zbA, zbV, qrg, qrg2, qnn, qz, zup_at, zup_r, zup_ne, true_and, and_true, true_or, or_true, and_self, or_self, false_or, or_false, false_and, and_false, Int.toNat_natCast, Int.toNat_add, Int.toNat_mul, Int.toNat_zero, Int.toNat_one, qtn, Int.natCast_add, qnat1, qnat0, ne_eq, not_true_eq_false, not_false_eq_true, eq_self, qbool]
    · rw [eX, zup_rw (by decide)]
      show _ = zw32 (M 305 24 + 0)
      rw [Int.add_zero, hz]
end QF
