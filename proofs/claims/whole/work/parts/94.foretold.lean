/-! FORETOLD: both sides -/
theorem qwf7 {i : Nat} (h : i < 124) : zw32 (((7 + i : Nat) : Int) + 1) = ((7 + (i + 1) : Nat) : Int) := by unfold zw32; omega
theorem qst_f {w : qWt} {o y : Nat} {X : (Nat → Int) × Nat} {k : Nat} (hk : k ≠ 8 ∧ k ≠ 9 ∧ k ≠ 11 + 24 * o + y) : (qst w false o y X).1 k = X.1 k := by
  unfold qst
  split
  · show qup _ _ _ k = _
    rw [qup_ne hk.2.2, qup_ne hk.2.1]
  · simp only [qkp, Bool.false_eq_true, if_false]
    rw [qup_ne hk.1, qup_ne hk.2.2, qup_ne hk.2.1]
theorem qsy_f {w : qWt} {o : Nat} {X : (Nat → Int) × Nat} {k : Nat} (ho : o < 5) (hk : k < 7 ∨ k = 10 ∨ 131 ≤ k) : ∀ y, y ≤ 24 → (qsy w false o y X).1 k = X.1 k
  | 0, _ => rfl
  | y + 1, h => by
    rw [qsy_s]
    split
    · rw [qst_f (by omega)]
      exact qsy_f ho hk y (by omega)
    · exact qsy_f ho hk y (by omega)
theorem qso_f {w : qWt} {X : (Nat → Int) × Nat} {k : Nat} (hk : k < 7 ∨ k = 10 ∨ 131 ≤ k) : ∀ o, o ≤ 5 → (qso w false o X).1 k = X.1 k
  | 0, _ => rfl
  | o + 1, h => by
    rw [qso_s, qsy_f (by omega) hk 24 (by decide)]
    exact qso_f hk o (by omega)
theorem qdy_f {w : qWt} {X : (Nat → Int) × Nat} {k : Nat} (h0 : X.1 0 ≤ 5) (hk : k < 7 ∨ k = 10 ∨ 131 ≤ k) : (qdy w false X).1 k = X.1 k := by
  unfold qdy
  split
  · rw [qso_f hk _ (by omega)]
    exact qup_ne (by omega)
  · exact qup_ne (by omega)
theorem qdn_f {w : qWt} {X : (Nat → Int) × Nat} {k : Nat} (h0 : X.1 0 ≤ 5) (hk : k < 7 ∨ k = 10 ∨ 131 ≤ k) : ∀ i, (qdn w false i X).1 k = X.1 k
  | 0 => rfl
  | i + 1 => by
    show (qdy w false (qdn w false i X)).1 k = _
    rw [qdy_f (by rw [qdn_f h0 (Or.inl (by decide)) i]; exact h0) hk]
    exact qdn_f h0 hk i
section QF
variable {S : Nat → Nat × Nat} {R : Nat → Nat → Nat} {M M' M0 M1 M2 M3 : Nat → Nat → Int} {n s d r : Nat} {A : Nat → Int} {W : Nat → qWt} {w0 w : qWt} {fl : Bool}
/-- what is foreseen -/
def qfs (A : Nat → Int) (w : qWt) (N : Nat) : Nat → Int := (qdn w false (min N (9999 - A 7).toNat) (A, 0)).1
theorem qfs_Ks (hA : qIn A) (N : Nat) : qKs A (qfs A w N) := by
  have h7 := hA.2.2.2.2.2.2.2.1
  exact (qdn_Ks (w := w) (fl := false) (X := (A, 0)) hA (min N (9999 - A 7).toNat) (by show A 7 + _ ≤ _; omega)).1
theorem kx_aheadR (hr1 : S r = (5, 7)) {x : Int} (h5 : M r 5 = x) (hx : 0 ≤ x ∧ x ≤ 9999) : zcal zPP (d + 1) 35 [zA r] (n, s, S, R, M) = some (zI (9999 - x), (n, s, S, R, M)) := by
  have hz : zw32 (9999 - x) = 9999 - x := qz (by omega) (by omega)
  rw [c_X_daysAhead]
  simp only [hr1, if_true, h5, hz]
theorem kx_fore (hw : qWd n S R M W) {N : Nat} (hN : 1 ≤ N ∧ N ≤ 60) (wh wi : Int) :
    ∃ (M1 M2 : Nat → Nat → Int) (c0 c : Int), zR zPP 99 51 21 [zA 9, zI N, zI wh, zI wi, zU, zU] [zI 1] (n, s, S, R, M) = zR zPP 99 51 51 [zA 9, zI N, zI wh, zI wi, zI 1, zI (9999 - M 306 7)] [zI c0, zA 291, zA 9] (n, s, S, R, M1) ∧
      zcal zPP 99 36 [zA 9, zA 291, zI c0, zI 0] (n, s, S, R, M1) = some (zI c, (n, s, S, R, M2)) ∧ qCr false M2 291 (qfs (M 306) (qWr W (M 306 3)) N) ∧ ∀ a, a ≠ 284 → a ≠ 285 → (a < 291 ∨ 294 < a) → M2 a = M a := by
  have hF := hw.1.2.1
  have ht := hw.2.1
  have hA := ht.2.2.2
  have h7 := hA.2.2.2.2.2.2.2.1
  have h10 := hA.2.2.2.2.2.2.2.2.2.2.1
  have hrl : qLR S R 21 := hF.1.2.1.1.2.2.1
  have hrf : qLR S R 291 := by
    have q := qff hF
    exact ⟨by simp only [q], by simp only [q], by simp only [q], by simp only [q], by simp only [q], by simp only [q], by simp only [q]⟩
  obtain ⟨M1, b1, b2⟩ := kr_becomes (n := n) (s := s) (d := 98) (M := M) hrf hrl (Or.inr (by decide))
  obtain ⟨g, ⟨f1, f2, f3, f4⟩, pg⟩ := qCp_Rs b2 (by exact h10.2) ht.2.1
  have hC : qCr false M1 291 (M 306) := ⟨qTw_x (fun a x y => b2.1 a (by omega)) ht.1, hA, g, ⟨f2, f3, f4⟩, by rw [f1]; exact h10, fun h => by cases h⟩
  have hah := kx_aheadR (n := n) (s := s) (R := R) (d := 98) (M := M1) hrf.1 f3 h7
  obtain ⟨M2, y1, y2, y3⟩ := kx_daysPass0 (n := n) (s := s) (d := 91) (M := M1) (fl := false) (N := min N (9999 - M 306 7).toNat) hF (qSt_x (fun a ha => b2.1 a (by omega)) hw.1.2.2) (Or.inr rfl) hrf (qTn_x (fun a ha => b2.1 a (by omega)) (qTn_wd hw)) hC (by omega) (by omega)
  refine ⟨M1, M2, _, _, ?_, y1, y2, fun a a1 a2 a3 => by rw [y3 a a1 a2 a3, b2.1 a a3]⟩
  rw [e_X_foretold_21]
  by_cases h : (N : Int) < 9999 - M 306 7
  · have e : min N (9999 - M 306 7).toNat = N := by omega
    rw [e]
    simp (disch := omega) only [b1, hah, qff hF, qltT, qltF, qleT, qleF, qeqT, qeqF, Int.reduceEq, Int.reduceNe, Int.reduceLT, Int.reduceLE, Int.reduceToNat, Int.reduceAdd, Int.reduceSub, Int.reduceMul, Int.reduceNeg, Nat.reduceAdd, Nat.reduceMul, Nat.reduceEqDiff, Nat.reduceLT, Int.cast_ofNat_Int, Int.lt_irrefl, Bool.false_eq_true, ↓reduceIte, ↓reduceDIte, zbI, zbL, zbA, zbV, qrg, qrg2, qnn, qz, zup_at, zup_r, zup_ne, true_and, and_true, true_or, or_true, and_self, or_self, false_or, or_false, false_and, and_false, Int.toNat_natCast, Int.toNat_add, Int.toNat_mul, Int.toNat_zero, Int.toNat_one, qtn, Int.natCast_add, qnat1, qnat0, ne_eq, not_true_eq_false, not_false_eq_true, eq_self, qbool]
  · have e : ((min N (9999 - M 306 7).toNat : Nat) : Int) = 9999 - M 306 7 := by omega
    rw [e]
    simp (disch := omega) only [b1, hah, qff hF, qltT, qltF, qleT, qleF, qeqT, qeqF, Int.reduceEq, Int.reduceNe, Int.reduceLT, Int.reduceLE, Int.reduceToNat, Int.reduceAdd, Int.reduceSub, Int.reduceMul, Int.reduceNeg, Nat.reduceAdd, Nat.reduceMul, Nat.reduceEqDiff, Nat.reduceLT, Int.cast_ofNat_Int, Int.lt_irrefl, Bool.false_eq_true, ↓reduceIte, ↓reduceDIte, zbI, zbL, zbA, zbV, qrg, qrg2, qnn, qz, zup_at, zup_r, zup_ne, true_and, and_true, true_or, or_true, and_self, or_self, false_or, or_false, false_and, and_false, Int.toNat_natCast, Int.toNat_add, Int.toNat_mul, Int.toNat_zero, Int.toNat_one, qtn, Int.natCast_add, qnat1, qnat0, ne_eq, not_true_eq_false, not_false_eq_true, eq_self, qbool]
/-- the model's row laid aside, days passed -/
theorem km_fore (hF : qFx S R) (hA : qIn (M 306)) (ht : qTN (M 308) (M 306 3) w) {N : Nat} (hN : 1 ≤ N ∧ N ≤ 60) (wh wi : Int) :
    ∃ M2, zR zPP 99 289 28 [zA 305, zI N, zI wh, zI wi, zI 7, zU] [] (n, s, S, R, M) = zR zPP 99 289 46 [zA 305, zI N, zI wh, zI wi, zI N, zU] [] (n, s, S, R, M2) ∧ M2 306 = qfs (M 306) w N ∧ (∀ j, 7 ≤ j → j < 131 → M2 314 j = M 306 j) ∧ (∀ a, a ≠ 305 → a ≠ 306 → a ≠ 311 → a ≠ 312 → a ≠ 313 → a ≠ 314 → M2 a = M a) ∧ ∀ k, k ≠ 23 → k ≠ 24 → M2 305 k = M 305 k := by
  have h7 := hA.2.2.2.2.2.2.2.1
  have L := qlpI (E := fun i M1 => (∀ a, a ≠ 314 → M1 a = M a) ∧ ∀ j, 7 ≤ j → j < 7 + i → M1 314 j = M 306 j) (P := fun i M1 => zR zPP 99 289 28 [zA 305, zI N, zI wh, zI wi, zI ((7 + i : Nat) : Int), zU] [] (n, s, S, R, M1)) (N := 124) (fun i M1 hi hx => by
    obtain ⟨e1, e2⟩ := hx
    have e6 : M1 306 = M 306 := e1 306 (by decide)
    refine ⟨zup M1 314 (7 + i) (M 306 (7 + i)), ⟨fun a ha => by rw [zup_rw ha]; exact e1 a ha, fun j h1 h2 => ?_⟩, ?_⟩
    · by_cases hj : j = 7 + i
      · subst hj; exact zup_at
      · rw [zup_ne hj]; exact e2 j h1 (by omega)
    · show zR _ _ _ _ _ _ _ = zR _ _ _ _ _ _ _
      rw [e_M_foretold_28, if_pos (by omega), qwf7 hi]
      simp only [qff hF, if_true, true_or, true_and, Int.toNat_natCast, e6]
      rw [if_pos (by omega), if_pos (by omega)]) M ⟨fun _ _ => rfl, fun j h1 h2 => by omega⟩
  obtain ⟨M1, ⟨e1, e2⟩, L⟩ := L
  have e6 : M1 306 = M 306 := e1 306 (by decide)
  have e5 : M1 305 = M 305 := e1 305 (by decide)
  have L2 := qlpI (E := fun i M3 => M3 306 = qfs (M 306) w i ∧ qX5 (zup M1 305 23 0) M3) (P := fun i M3 => zR zPP 99 289 46 [zA 305, zI N, zI wh, zI wi, zI (i : Nat), zU] [] (n, s, S, R, M3)) (N := N) (fun i M3 hi hx => by
    obtain ⟨x1, x2⟩ := hx
    obtain ⟨t1, t2, t3⟩ := qdn_Ks (w := w) (fl := false) (X := (M 306, 0)) hA (min i (9999 - M 306 7).toNat) (by show M 306 7 + _ ≤ _; omega)
    have t1 : qKs (M 306) (qfs (M 306) w i) := t1
    have t2 : qfs (M 306) w i 7 = M 306 7 + (min i (9999 - M 306 7).toNat : Nat) := t2
    have k3 : qfs (M 306) w i 3 = M 306 3 := t1.1 3 (by decide) (by decide) (by decide) (by decide) (by decide) (by decide)
    have r7 : M3 306 7 = M 306 7 + (min i (9999 - M 306 7).toNat : Nat) := by rw [x1]; exact t2
    by_cases h : i < (9999 - M 306 7).toNat
    · obtain ⟨M4, m1, m2, m3, m4⟩ := km_passDay (n := n) (s := s) (d := 89) (M := M3) (w := w) (fl := false) hF (by rw [x1]; exact t1.2.2) (by rw [x1, k3, x2.1 308 (by decide) (by decide) (by decide) (by decide) (by decide), zup_rw (by decide), e1 308 (by decide)]; exact ht) (by rw [x2.2 23 (by decide), zup_at]; rfl) (by rw [r7]; omega)
      rw [x1] at m2
      have es : qfs (M 306) w (i + 1) = (qdy w false (qfs (M 306) w i, 0)).1 := by
        have a1 : min (i + 1) (9999 - M 306 7).toNat = min i (9999 - M 306 7).toNat + 1 := by omega
        show (qdn w false (min (i + 1) (9999 - M 306 7).toNat) (M 306, 0)).1 = _
        rw [a1]
        show (qdy w false (qdn w false (min i (9999 - M 306 7).toNat) (M 306, 0))).1 = _
        have := qdy_0 w false (qdn w false (min i (9999 - M 306 7).toNat) (M 306, 0)).1 (qdn w false (min i (9999 - M 306 7).toNat) (M 306, 0)).2
        have h2 := congrArg Prod.fst this
        exact h2
      refine ⟨M4, ⟨by rw [es]; exact m2, qX5_t x2 m4⟩, ?_⟩
      show zR _ _ _ _ _ _ _ = zR _ _ _ _ _ _ _
      have r7' : M3 306 7 < 9999 := by rw [r7]; omega
      rw [e_M_foretold_46, if_pos (by omega)]
      simp (disch := omega) only [r7', m1, qw1 (k := i) (by omega), qff hF, qltT, qltF, qleT, qleF, qeqT, qeqF, Int.reduceEq, Int.reduceNe, Int.reduceLT, Int.reduceLE, Int.reduceToNat, Int.reduceAdd, Int.reduceSub, Int.reduceMul, Int.reduceNeg, Nat.reduceAdd, Nat.reduceMul, Nat.reduceEqDiff, Nat.reduceLT, Int.cast_ofNat_Int, Int.lt_irrefl, Bool.false_eq_true, ↓reduceIte, ↓reduceDIte, zbI, zbL, zbA, zbV, qrg, qrg2, qnn, qz, zup_at, zup_r, zup_ne, true_and, and_true, true_or, or_true, and_self, or_self, false_or, or_false, false_and, and_false, Int.toNat_natCast, Int.toNat_add, Int.toNat_mul, Int.toNat_zero, Int.toNat_one, qtn, Int.natCast_add, qnat1, qnat0, ne_eq, not_true_eq_false, not_false_eq_true, eq_self, qbool]
    · have es : qfs (M 306) w (i + 1) = qfs (M 306) w i := by
        have a1 : min (i + 1) (9999 - M 306 7).toNat = min i (9999 - M 306 7).toNat := by omega
        show (qdn w false (min (i + 1) (9999 - M 306 7).toNat) (M 306, 0)).1 = _
        rw [a1]
        rfl
      refine ⟨M3, ⟨by rw [es]; exact x1, x2⟩, ?_⟩
      show zR _ _ _ _ _ _ _ = zR _ _ _ _ _ _ _
      have r7' : ¬ M3 306 7 < 9999 := by rw [r7]; omega
      rw [e_M_foretold_46, if_pos (by omega)]
      simp (disch := omega) only [r7', qw1 (k := i) (by omega), qff hF, qltT, qltF, qleT, qleF, qeqT, qeqF, Int.reduceEq, Int.reduceNe, Int.reduceLT, Int.reduceLE, Int.reduceToNat, Int.reduceAdd, Int.reduceSub, Int.reduceMul, Int.reduceNeg, Nat.reduceAdd, Nat.reduceMul, Nat.reduceEqDiff, Nat.reduceLT, Int.cast_ofNat_Int, Int.lt_irrefl, Bool.false_eq_true, ↓reduceIte, ↓reduceDIte, zbI, zbL, zbA, zbV, qrg, qrg2, qnn, qz, zup_at, zup_r, zup_ne, true_and, and_true, true_or, or_true, and_self, or_self, false_or, or_false, false_and, and_false, Int.toNat_natCast, Int.toNat_add, Int.toNat_mul, Int.toNat_zero, Int.toNat_one, qtn, Int.natCast_add, qnat1, qnat0, ne_eq, not_true_eq_false, not_false_eq_true, eq_self, qbool]) (zup M1 305 23 0) ⟨by
        show zup M1 305 23 0 306 = (qdn w false (min 0 (9999 - M 306 7).toNat) (M 306, 0)).1
        rw [Nat.zero_min, zup_rw (by decide), e6]
        rfl, qX5_r _⟩
  obtain ⟨M3, ⟨x1, x2⟩, L2⟩ := L2
  refine ⟨M3, ?_, x1, fun j h1 h2 => ?_, fun a a1 a2 a3 a4 a5 a6 => ?_, fun k k1 k2 => ?_⟩
  · refine Eq.trans L ?_
    show zR _ _ _ _ _ _ _ = _
    rw [e_M_foretold_28, if_neg (by decide)]
    simp (disch := omega) only [qff hF, qltT, qltF, qleT, qleF, qeqT, qeqF, Int.reduceEq, Int.reduceNe, Int.reduceLT, Int.reduceLE, Int.reduceToNat, Int.reduceAdd, Int.reduceSub, Int.reduceMul, Int.reduceNeg, Nat.reduceAdd, Nat.reduceMul, Nat.reduceEqDiff, Nat.reduceLT, Int.cast_ofNat_Int, Int.lt_irrefl, Bool.false_eq_true, ↓reduceIte, ↓reduceDIte, zbI, zbL, zbA, zbV, qrg, qrg2, qnn, qz, zup_at, zup_r, zup_ne, true_and, and_true, true_or, or_true, and_self, or_self, false_or, or_false, false_and, and_false, Int.toNat_natCast, Int.toNat_add, Int.toNat_mul, Int.toNat_zero, Int.toNat_one, qtn, Int.natCast_add, qnat1, qnat0, ne_eq, not_true_eq_false, not_false_eq_true, eq_self, qbool]
    exact L2
  · rw [x2.1 314 (by decide) (by decide) (by decide) (by decide) (by decide), zup_rw (by decide)]
    exact e2 j h1 (by omega)
  · rw [x2.1 a a1 a2 a3 a4 a5, zup_rw a1]
    exact e1 a a6
  · rw [x2.2 k k2, zup_ne k1, e5]
/-- and laid back -/
theorem km_rest (hF : qFx S R) {B : Nat → Int} (hB : ∀ j, 7 ≤ j → j < 131 → M 314 j = B j) (N wh wi v : Int) :
    ∃ M2, zR zPP 99 289 83 [zA 305, zI N, zI wh, zI wi, zI v, zI 7] [] (n, s, S, R, M) = some (zI v, (n, s, S, R, M2)) ∧ (∀ j, 7 ≤ j → j < 131 → M2 306 j = B j) ∧ (∀ j, j < 7 ∨ 131 ≤ j → M2 306 j = M 306 j) ∧ (∀ a, a ≠ 305 → a ≠ 306 → M2 a = M a) ∧ (∀ k, k ≠ 23 → M2 305 k = M 305 k) ∧ M2 305 23 = 1 := by
  have L := qlpI (E := fun i M1 => (∀ a, a ≠ 306 → M1 a = M a) ∧ (∀ j, 7 ≤ j → j < 7 + i → M1 306 j = B j) ∧ ∀ j, j < 7 ∨ 131 ≤ j → M1 306 j = M 306 j) (P := fun i M1 => zR zPP 99 289 83 [zA 305, zI N, zI wh, zI wi, zI v, zI ((7 + i : Nat) : Int)] [] (n, s, S, R, M1)) (N := 124) (fun i M1 hi hx => by
    obtain ⟨e1, e2, e3⟩ := hx
    have e4 : M1 314 (7 + i) = B (7 + i) := by rw [e1 314 (by decide)]; exact hB _ (by omega) (by omega)
    refine ⟨zup M1 306 (7 + i) (B (7 + i)), ⟨fun a ha => by rw [zup_rw ha]; exact e1 a ha, fun j h1 h2 => ?_, fun j h1 => ?_⟩, ?_⟩
    · by_cases hj : j = 7 + i
      · subst hj; exact zup_at
      · rw [zup_ne hj]; exact e2 j h1 (by omega)
    · rw [zup_ne (by omega)]; exact e3 j h1
    · show zR _ _ _ _ _ _ _ = zR _ _ _ _ _ _ _
      rw [e_M_foretold_83, if_pos (by omega), qwf7 hi]
      simp only [qff hF, if_true, true_or, true_and, Int.toNat_natCast, e4]
      rw [if_pos (by omega), if_pos (by omega)]) M ⟨fun _ _ => rfl, fun j h1 h2 => by omega, fun _ _ => rfl⟩
  obtain ⟨M1, ⟨e1, e2, e3⟩, L⟩ := L
  refine ⟨zup M1 305 23 1, ?_, fun j h1 h2 => ?_, fun j h1 => ?_, fun a a1 a2 => ?_, fun k hk => ?_, zup_at⟩
  · refine Eq.trans L ?_
    show zR _ _ _ _ _ _ _ = _
    rw [e_M_foretold_83, if_neg (by decide)]
    simp (disch := omega) only [qff hF, qltT, qltF, qleT, qleF, qeqT, qeqF, Int.reduceEq, Int.reduceNe, Int.reduceLT, Int.reduceLE, Int.reduceToNat, Int.reduceAdd, Int.reduceSub, Int.reduceMul, Int.reduceNeg, Nat.reduceAdd, Nat.reduceMul, Nat.reduceEqDiff, Nat.reduceLT, Int.cast_ofNat_Int, Int.lt_irrefl, Bool.false_eq_true, ↓reduceIte, ↓reduceDIte, zbI, zbL, zbA, zbV, qrg, qrg2, qnn, qz, zup_at, zup_r, zup_ne, true_and, and_true, true_or, or_true, and_self, or_self, false_or, or_false, false_and, and_false, Int.toNat_natCast, Int.toNat_add, Int.toNat_mul, Int.toNat_zero, Int.toNat_one, qtn, Int.natCast_add, qnat1, qnat0, ne_eq, not_true_eq_false, not_false_eq_true, eq_self, qbool]
  · rw [zup_rw (by decide)]; exact e2 j h1 (by omega)
  · rw [zup_rw (by decide)]; exact e3 j h1
  · rw [zup_rw a1]; exact e1 a a2
  · rw [zup_ne hk, e1 305 (by decide)]
theorem km_foreq (hA : qIn (M 306)) {N : Nat} (h6 : M2 306 = qfs (M 306) w N) (hr : ∀ a, a ≠ 305 → a ≠ 306 → a ≠ 311 → a ≠ 312 → a ≠ 313 → a ≠ 314 → M2 a = M a) (h5 : ∀ k, k ≠ 23 → k ≠ 24 → M2 305 k = M 305 k) (h3 : qX3 M2 M3) (g1 : ∀ j, 7 ≤ j → j < 131 → M' 306 j = M 306 j) (g2 : ∀ j, j < 7 ∨ 131 ≤ j → M' 306 j = M3 306 j) (g3 : ∀ a, a ≠ 305 → a ≠ 306 → M' a = M3 a) (g4 : ∀ k, k ≠ 23 → M' 305 k = M3 305 k) (g5 : M' 305 23 = 1) (h1 : M 305 23 = 1) : qEq M M' := by
  have e5 : M3 305 = M2 305 := h3 305 (by decide) (by decide) (by decide)
  have e6 : M3 306 = M2 306 := h3 306 (by decide) (by decide) (by decide)
  refine ⟨fun a a1 a2 => ?_, ?_, ?_, ?_, by rw [g5, h1]⟩
  · unfold qY at a2
    by_cases h : a = 306
    · subst h
      funext j
      by_cases hj : 7 ≤ j ∧ j < 131
      · exact g1 j hj.1 hj.2
      · rw [g2 j (by omega), e6, h6]
        exact qdn_f (X := (M 306, 0)) hA.1.2 (by omega) _
    · rw [g3 a a1 h, h3 a (by omega) (by omega) (by omega), hr a a1 h (by omega) (by omega) (by omega) (by omega)]
  · rw [g4 4 (by decide), e5, h5 4 (by decide) (by decide)]
  · rw [g4 5 (by decide), e5, h5 5 (by decide) (by decide)]
  · rw [g4 6 (by decide), e5, h5 6 (by decide) (by decide)]
theorem qb_foretold (hw : qWd n S R M W) (v u t : Int) : qBo 51 289 [zI v, zI u, zI t] n s S R M := by
  have hF := hw.1.2.1
  have hA := hw.2.1.2.2.2
  have hT := hw.2.1.1
  have hA5 := hA.1.2
  have hp5 := hA.2.1.2
  by_cases hv : 1 ≤ v ∧ v ≤ 60
  · obtain ⟨N, rfl⟩ := Int.eq_ofNat_of_zero_le (show 0 ≤ v by omega)
    obtain ⟨M1, M2, c0, c, y1, y2, y3, y4⟩ := kx_fore (s := s) hw (N := N) (by omega) u t
    have hK := qfs_Ks (w := qWr W (M 306 3)) hA N
    have q0 : qfs (M 306) (qWr W (M 306 3)) N 0 = M 306 0 := hK.1 0 (by decide) (by decide) (by decide) (by decide) (by decide) (by decide)
    have q1 : qfs (M 306) (qWr W (M 306 3)) N 1 = M 306 1 := hK.1 1 (by decide) (by decide) (by decide) (by decide) (by decide) (by decide)
    have q3 : qfs (M 306) (qWr W (M 306 3)) N 3 = M 306 3 := hK.1 3 (by decide) (by decide) (by decide) (by decide) (by decide) (by decide)
    have hE2 : ∀ M3, (∀ a, a ≠ 284 → a ≠ 285 → (a < 291 ∨ 294 < a) → M3 a = M a) → qEq M M3 := fun M3 h => qEq_rows (fun a ha => by unfold qY at ha; exact h a (by omega) (by omega) (by omega))
    by_cases hu0 : u = 0
    · subst hu0
      have c8 : M2 291 4 = qfs (M 306) (qWr W (M 306 3)) N 8 := y3.2.2.2.1.1
      refine qBo_q (v := zI (qfs (M 306) (qWr W (M 306 3)) N 8)) hw ⟨M2, ?_, hE2 M2 y4⟩ fun M3 hw3 h306 => ?_
      · rw [c_X_foretold]
        simp only [qff hF, if_true]
        rw [e_X_foretold_18]
        refine Eq.trans y1 ?_
        rw [e_X_foretold_51, y2]
        simp (disch := omega) only [c8, qff hF, qltT, qltF, qleT, qleF, qeqT, qeqF, Int.reduceEq, Int.reduceNe, Int.reduceLT, Int.reduceLE, Int.reduceToNat, Int.reduceAdd, Int.reduceSub, Int.reduceMul, Int.reduceNeg, Nat.reduceAdd, Nat.reduceMul, Nat.reduceEqDiff, Nat.reduceLT, Int.cast_ofNat_Int, Int.lt_irrefl, Bool.false_eq_true, ↓reduceIte, ↓reduceDIte, zbI, zbL, zbA, zbV, qrg, qrg2, qnn, qz, zup_at, zup_r, zup_ne, true_and, and_true, true_or, or_true, and_self, or_self, false_or, or_false, false_and, and_false, Int.toNat_natCast, Int.toNat_add, Int.toNat_mul, Int.toNat_zero, Int.toNat_one, qtn, Int.natCast_add, qnat1, qnat0, ne_eq, not_true_eq_false, not_false_eq_true, eq_self, qbool]
      · have ht3 := wm_text hw3 hw3.2.1.2.2.2.2.2.2.1
        obtain ⟨M4, z1, z2, z3, z4, z5⟩ := km_fore (n := n) (s := s) (M := M3) hF hw3.2.1.2.2.2 ht3 (N := N) (by omega) 0 t
        obtain ⟨M5, g0, g1, g2, g3, g4, g5⟩ := km_rest (n := n) (s := s) (M := M4) hF z3 N 0 t (qfs (M3 306) (qWr W (M3 306 3)) N 8)
        refine ⟨M5, ?_, km_foreq hw3.2.1.2.2.2 z2 z4 z5 (fun _ _ _ _ => rfl) g1 g2 g3 g4 g5 hw3.2.2.2.2.2.2.1⟩
        rw [h306] at z2 g0
        rw [c_M_foretold]
        simp (disch := omega) only [k_isIn, hv, qff hF, qltT, qltF, qleT, qleF, qeqT, qeqF, Int.reduceEq, Int.reduceNe, Int.reduceLT, Int.reduceLE, Int.reduceToNat, Int.reduceAdd, Int.reduceSub, Int.reduceMul, Int.reduceNeg, Nat.reduceAdd, Nat.reduceMul, Nat.reduceEqDiff, Nat.reduceLT, Int.cast_ofNat_Int, Int.lt_irrefl, Bool.false_eq_true, ↓reduceIte, ↓reduceDIte, zbI, zbL, zbA, zbV, qrg, qrg2, qnn, qz, zup_at, zup_r, zup_ne, true_and, and_true, true_or, or_true, and_self, or_self, false_or, or_false, false_and, and_false, Int.toNat_natCast, Int.toNat_add, Int.toNat_mul, Int.toNat_zero, Int.toNat_one, qtn, Int.natCast_add, qnat1, qnat0, ne_eq, not_true_eq_false, not_false_eq_true, eq_self, qbool]
        refine Eq.trans z1 ?_
        rw [e_M_foretold_46, if_neg (by omega), if_pos rfl]
        simp (disch := omega) only [z2, qff hF, qltT, qltF, qleT, qleF, qeqT, qeqF, Int.reduceEq, Int.reduceNe, Int.reduceLT, Int.reduceLE, Int.reduceToNat, Int.reduceAdd, Int.reduceSub, Int.reduceMul, Int.reduceNeg, Nat.reduceAdd, Nat.reduceMul, Nat.reduceEqDiff, Nat.reduceLT, Int.cast_ofNat_Int, Int.lt_irrefl, Bool.false_eq_true, ↓reduceIte, ↓reduceDIte, zbI, zbL, zbA, zbV, qrg, qrg2, qnn, qz, zup_at, zup_r, zup_ne, true_and, and_true, true_or, or_true, and_self, or_self, false_or, or_false, false_and, and_false, Int.toNat_natCast, Int.toNat_add, Int.toNat_mul, Int.toNat_zero, Int.toNat_one, qtn, Int.natCast_add, qnat1, qnat0, ne_eq, not_true_eq_false, not_false_eq_true, eq_self, qbool]
        exact g0
    · by_cases hu1 : u = 1
      · subst hu1
        by_cases hp : 0 ≤ t ∧ t < M 306 1
        · obtain ⟨p, rfl⟩ := Int.eq_ofNat_of_zero_le hp.1
          have hp1 := kx_hasPerson (n := n) (s := s) (d := 98) (M := M) hF hT hA (p : Int)
          rw [if_pos hp] at hp1
          have hru := vx_ruler (n := n) (s := s) (d := 97) (M := M2) hF y3.1 hK.2.2
          rw [qVr_e q3] at hru
          have hCE : qCE S R M2 291 (qfs (M 306) (qWr W (M 306 3)) N) := ⟨y3.1, hK.2.2, Or.inr rfl, by
            have q := qff hF
            exact ⟨by simp only [q], by simp only [q], by simp only [q], by simp only [q], by simp only [q], by simp only [q], by simp only [q]⟩, y3.2.2.1, y3.2.2.2.1.2.1⟩
          obtain ⟨M3, x1, x2⟩ := kx_ageOf (n := n) (s := s) (d := 92) (M := M2) (q := qVr R (M 306)) (w := qWr W (M 306 3)) hF (qSt_x (fun a ha => y4 a (by omega) (by omega) (by omega)) hw.1.2.2) (qTn_x (fun a ha => y4 a (by omega) (by omega) (by omega)) (qTn_wd hw)) hCE (p := p) (by rw [q1]; exact hp.2)
          refine qBo_q (v := zI (qAge (qfs (M 306) (qWr W (M 306 3)) N) (qWr W (M 306 3)) p)) hw ⟨M3, ?_, hE2 M3 (fun a a1 a2 a3 => by rw [x2 a a1 a2]; exact y4 a a1 a2 a3)⟩ fun M3 hw3 h306 => ?_
          · rw [c_X_foretold]
            simp (disch := omega) only [hp1, qff hF, qltT, qltF, qleT, qleF, qeqT, qeqF, Int.reduceEq, Int.reduceNe, Int.reduceLT, Int.reduceLE, Int.reduceToNat, Int.reduceAdd, Int.reduceSub, Int.reduceMul, Int.reduceNeg, Nat.reduceAdd, Nat.reduceMul, Nat.reduceEqDiff, Nat.reduceLT, Int.cast_ofNat_Int, Int.lt_irrefl, Bool.false_eq_true, ↓reduceIte, ↓reduceDIte, zbI, zbL, zbA, zbV, qrg, qrg2, qnn, qz, zup_at, zup_r, zup_ne, true_and, and_true, true_or, or_true, and_self, or_self, false_or, or_false, false_and, and_false, Int.toNat_natCast, Int.toNat_add, Int.toNat_mul, Int.toNat_zero, Int.toNat_one, qtn, Int.natCast_add, qnat1, qnat0, ne_eq, not_true_eq_false, not_false_eq_true, eq_self, qbool]
            rw [e_X_foretold_18]
            refine Eq.trans y1 ?_
            rw [e_X_foretold_51, y2]
            simp (disch := omega) only [hru, x1, qff hF, qltT, qltF, qleT, qleF, qeqT, qeqF, Int.reduceEq, Int.reduceNe, Int.reduceLT, Int.reduceLE, Int.reduceToNat, Int.reduceAdd, Int.reduceSub, Int.reduceMul, Int.reduceNeg, Nat.reduceAdd, Nat.reduceMul, Nat.reduceEqDiff, Nat.reduceLT, Int.cast_ofNat_Int, Int.lt_irrefl, Bool.false_eq_true, ↓reduceIte, ↓reduceDIte, zbI, zbL, zbA, zbV, qrg, qrg2, qnn, qz, zup_at, zup_r, zup_ne, true_and, and_true, true_or, or_true, and_self, or_self, false_or, or_false, false_and, and_false, Int.toNat_natCast, Int.toNat_add, Int.toNat_mul, Int.toNat_zero, Int.toNat_one, qtn, Int.natCast_add, qnat1, qnat0, ne_eq, not_true_eq_false, not_false_eq_true, eq_self, qbool]
          · have ht3 := wm_text hw3 hw3.2.1.2.2.2.2.2.2.1
            obtain ⟨M4, z1, z2, z3, z4, z5⟩ := km_fore (n := n) (s := s) (M := M3) hF hw3.2.1.2.2.2 ht3 (N := N) (by omega) 1 p
            have ht4 : qTN (M4 308) (M4 306 3) (qWr W (M 306 3)) := by
              rw [z4 308 (by decide) (by decide) (by decide) (by decide) (by decide) (by decide), z2, h306, q3]
              rw [h306] at ht3
              exact ht3
            obtain ⟨M6, a1, a2⟩ := km_ageOf (n := n) (s := s) (d := 90) (M := M4) (w := qWr W (M 306 3)) hF (by rw [z2, h306]; exact hK.2.2) (p := p) (by rw [z2, h306, q1]; exact hp.2) ht4
            obtain ⟨M5, g0, g1, g2, g3, g4, g5⟩ := km_rest (n := n) (s := s) (M := M6) hF (B := M3 306) (fun j h1 h2 => by rw [a2 314 (by decide) (by decide) (by decide)]; exact z3 j h1 h2) N 1 p (qAge (M4 306) (qWr W (M 306 3)) p)
            refine ⟨M5, ?_, km_foreq hw3.2.1.2.2.2 z2 z4 z5 a2 g1 g2 g3 g4 g5 hw3.2.2.2.2.2.2.1⟩
            have hp2 := km_isPerson (n := n) (s := s) (d := 97) (M := M3) hF hw3.2.1.2.2.2 (p : Int)
            rw [h306, if_pos hp] at hp2
            rw [z2, h306] at g0 a1
            rw [c_M_foretold]
            simp (disch := omega) only [k_isIn, hv, hp2, qff hF, qltT, qltF, qleT, qleF, qeqT, qeqF, Int.reduceEq, Int.reduceNe, Int.reduceLT, Int.reduceLE, Int.reduceToNat, Int.reduceAdd, Int.reduceSub, Int.reduceMul, Int.reduceNeg, Nat.reduceAdd, Nat.reduceMul, Nat.reduceEqDiff, Nat.reduceLT, Int.cast_ofNat_Int, Int.lt_irrefl, Bool.false_eq_true, ↓reduceIte, ↓reduceDIte, zbI, zbL, zbA, zbV, qrg, qrg2, qnn, qz, zup_at, zup_r, zup_ne, true_and, and_true, true_or, or_true, and_self, or_self, false_or, or_false, false_and, and_false, Int.toNat_natCast, Int.toNat_add, Int.toNat_mul, Int.toNat_zero, Int.toNat_one, qtn, Int.natCast_add, qnat1, qnat0, ne_eq, not_true_eq_false, not_false_eq_true, eq_self, qbool]
            refine Eq.trans z1 ?_
            rw [e_M_foretold_46, if_neg (by omega), if_neg (by decide), if_pos rfl]
            have z23 : M4 306 3 = M 306 3 := by rw [z2, h306, q3]
            rw [q3] at a1
            simp (disch := omega) only [z23, a1, qff hF, qltT, qltF, qleT, qleF, qeqT, qeqF, Int.reduceEq, Int.reduceNe, Int.reduceLT, Int.reduceLE, Int.reduceToNat, Int.reduceAdd, Int.reduceSub, Int.reduceMul, Int.reduceNeg, Nat.reduceAdd, Nat.reduceMul, Nat.reduceEqDiff, Nat.reduceLT, Int.cast_ofNat_Int, Int.lt_irrefl, Bool.false_eq_true, ↓reduceIte, ↓reduceDIte, zbI, zbL, zbA, zbV, qrg, qrg2, qnn, qz, zup_at, zup_r, zup_ne, true_and, and_true, true_or, or_true, and_self, or_self, false_or, or_false, false_and, and_false, Int.toNat_natCast, Int.toNat_add, Int.toNat_mul, Int.toNat_zero, Int.toNat_one, qtn, Int.natCast_add, qnat1, qnat0, ne_eq, not_true_eq_false, not_false_eq_true, eq_self, qbool]
            exact g0
        · refine qBo_same hw (v := zI (-1)) ?_ ?_
          · have hp1 := kx_hasPerson (n := n) (s := s) (d := 98) (M := M) hF hT hA t
            rw [if_neg hp] at hp1
            rw [c_X_foretold]
            simp (disch := omega) only [hp1, qff hF, qltT, qltF, qleT, qleF, qeqT, qeqF, Int.reduceEq, Int.reduceNe, Int.reduceLT, Int.reduceLE, Int.reduceToNat, Int.reduceAdd, Int.reduceSub, Int.reduceMul, Int.reduceNeg, Nat.reduceAdd, Nat.reduceMul, Nat.reduceEqDiff, Nat.reduceLT, Int.cast_ofNat_Int, Int.lt_irrefl, Bool.false_eq_true, ↓reduceIte, ↓reduceDIte, zbI, zbL, zbA, zbV, qrg, qrg2, qnn, qz, zup_at, zup_r, zup_ne, true_and, and_true, true_or, or_true, and_self, or_self, false_or, or_false, false_and, and_false, Int.toNat_natCast, Int.toNat_add, Int.toNat_mul, Int.toNat_zero, Int.toNat_one, qtn, Int.natCast_add, qnat1, qnat0, ne_eq, not_true_eq_false, not_false_eq_true, eq_self, qbool]
            rw [e_X_foretold_10, if_neg (by decide), e_X_foretold_20, e_X_foretold_21, if_neg (by omega), if_neg (by omega), if_pos rfl, e_X_foretold_30]
          · have hp2 := km_isPerson (n := n) (s := s) (d := 97) (M := M) hF hA t
            rw [if_neg hp] at hp2
            rw [c_M_foretold]
            simp (disch := omega) only [k_isIn, hv, hp2, qff hF, qltT, qltF, qleT, qleF, qeqT, qeqF, Int.reduceEq, Int.reduceNe, Int.reduceLT, Int.reduceLE, Int.reduceToNat, Int.reduceAdd, Int.reduceSub, Int.reduceMul, Int.reduceNeg, Nat.reduceAdd, Nat.reduceMul, Nat.reduceEqDiff, Nat.reduceLT, Int.cast_ofNat_Int, Int.lt_irrefl, Bool.false_eq_true, ↓reduceIte, ↓reduceDIte, zbI, zbL, zbA, zbV, qrg, qrg2, qnn, qz, zup_at, zup_r, zup_ne, true_and, and_true, true_or, or_true, and_self, or_self, false_or, or_false, false_and, and_false, Int.toNat_natCast, Int.toNat_add, Int.toNat_mul, Int.toNat_zero, Int.toNat_one, qtn, Int.natCast_add, qnat1, qnat0, ne_eq, not_true_eq_false, not_false_eq_true, eq_self, qbool]
      · by_cases hu2 : u = 2
        · subst hu2
          by_cases hp : 0 ≤ t ∧ t < M 306 0
          · obtain ⟨o, rfl⟩ := Int.eq_ofNat_of_zero_le hp.1
            have ho1 := kx_hasOak (n := n) (s := s) (d := 98) (M := M) hF hT hA (o : Int)
            rw [if_pos hp] at ho1
            have hrf : qLR S R 291 := by
              have q := qff hF
              exact ⟨by simp only [q], by simp only [q], by simp only [q], by simp only [q], by simp only [q], by simp only [q], by simp only [q]⟩
            have hin := k_inOak (n := n) (s := s) (d := 97) (M := M2) hF.1.2.1.1 y3.1 hK.2.2 hrf y3.2.2.1 (show (o : Int) < qfs (M 306) (qWr W (M 306 3)) N 0 by rw [q0]; exact hp.2)
            rw [qin_of hK.2.2 (show (o : Int) < qfs (M 306) (qWr W (M 306 3)) N 0 by rw [q0]; exact hp.2)] at hin
            have hbc : zcal zPP 99 1 [zI (qin (qfs (M 306) (qWr W (M 306 3)) N) o : Nat)] (n, s, S, R, M2) = some (zI (qic (qfs (M 306) (qWr W (M 306 3)) N) o : Nat), (n, s, S, R, M2)) := k_bitCount _ 98 _
            refine qBo_q (v := zI (qic (qfs (M 306) (qWr W (M 306 3)) N) o : Nat)) hw ⟨M2, ?_, hE2 M2 y4⟩ fun M3 hw3 h306 => ?_
            · rw [c_X_foretold]
              simp only [qff hF, if_true]
              rw [if_neg (by decide), if_neg (by decide), e_X_foretold_10]
              simp (disch := omega) only [ho1, qff hF, qltT, qltF, qleT, qleF, qeqT, qeqF, Int.reduceEq, Int.reduceNe, Int.reduceLT, Int.reduceLE, Int.reduceToNat, Int.reduceAdd, Int.reduceSub, Int.reduceMul, Int.reduceNeg, Nat.reduceAdd, Nat.reduceMul, Nat.reduceEqDiff, Nat.reduceLT, Int.cast_ofNat_Int, Int.lt_irrefl, Bool.false_eq_true, ↓reduceIte, ↓reduceDIte, zbI, zbL, zbA, zbV, qrg, qrg2, qnn, qz, zup_at, zup_r, zup_ne, true_and, and_true, true_or, or_true, and_self, or_self, false_or, or_false, false_and, and_false, Int.toNat_natCast, Int.toNat_add, Int.toNat_mul, Int.toNat_zero, Int.toNat_one, qtn, Int.natCast_add, qnat1, qnat0, ne_eq, not_true_eq_false, not_false_eq_true, eq_self, qbool]
              rw [e_X_foretold_18]
              refine Eq.trans y1 ?_
              rw [e_X_foretold_51, y2]
              simp (disch := omega) only [hin, hbc, qff hF, qltT, qltF, qleT, qleF, qeqT, qeqF, Int.reduceEq, Int.reduceNe, Int.reduceLT, Int.reduceLE, Int.reduceToNat, Int.reduceAdd, Int.reduceSub, Int.reduceMul, Int.reduceNeg, Nat.reduceAdd, Nat.reduceMul, Nat.reduceEqDiff, Nat.reduceLT, Int.cast_ofNat_Int, Int.lt_irrefl, Bool.false_eq_true, ↓reduceIte, ↓reduceDIte, zbI, zbL, zbA, zbV, qrg, qrg2, qnn, qz, zup_at, zup_r, zup_ne, true_and, and_true, true_or, or_true, and_self, or_self, false_or, or_false, false_and, and_false, Int.toNat_natCast, Int.toNat_add, Int.toNat_mul, Int.toNat_zero, Int.toNat_one, qtn, Int.natCast_add, qnat1, qnat0, ne_eq, not_true_eq_false, not_false_eq_true, eq_self, qbool]
            · have ht3 := wm_text hw3 hw3.2.1.2.2.2.2.2.2.1
              obtain ⟨M4, z1, z2, z3, z4, z5⟩ := km_fore (n := n) (s := s) (M := M3) hF hw3.2.1.2.2.2 ht3 (N := N) (by omega) 2 o
              obtain ⟨M5, g0, g1, g2, g3, g4, g5⟩ := km_rest (n := n) (s := s) (M := M4) hF z3 N 2 o (qic (M4 306) o : Nat)
              refine ⟨M5, ?_, km_foreq hw3.2.1.2.2.2 z2 z4 z5 (fun _ _ _ _ => rfl) g1 g2 g3 g4 g5 hw3.2.2.2.2.2.2.1⟩
              have hp2 := km_isOak (n := n) (s := s) (d := 97) (M := M3) hF hw3.2.1.2.2.2 (o : Int)
              rw [h306, if_pos hp] at hp2
              have hi2 := km_inside (n := n) (s := s) (d := 96) (M := M4) hF (show o < 5 by omega)
              rw [z2, h306] at g0 hi2
              rw [c_M_foretold]
              simp (disch := omega) only [k_isIn, hv, hp2, qff hF, qltT, qltF, qleT, qleF, qeqT, qeqF, Int.reduceEq, Int.reduceNe, Int.reduceLT, Int.reduceLE, Int.reduceToNat, Int.reduceAdd, Int.reduceSub, Int.reduceMul, Int.reduceNeg, Nat.reduceAdd, Nat.reduceMul, Nat.reduceEqDiff, Nat.reduceLT, Int.cast_ofNat_Int, Int.lt_irrefl, Bool.false_eq_true, ↓reduceIte, ↓reduceDIte, zbI, zbL, zbA, zbV, qrg, qrg2, qnn, qz, zup_at, zup_r, zup_ne, true_and, and_true, true_or, or_true, and_self, or_self, false_or, or_false, false_and, and_false, Int.toNat_natCast, Int.toNat_add, Int.toNat_mul, Int.toNat_zero, Int.toNat_one, qtn, Int.natCast_add, qnat1, qnat0, ne_eq, not_true_eq_false, not_false_eq_true, eq_self, qbool]
              refine Eq.trans z1 ?_
              rw [e_M_foretold_46, if_neg (by omega), if_neg (by decide), if_neg (by decide)]
              simp (disch := omega) only [hi2, qff hF, qltT, qltF, qleT, qleF, qeqT, qeqF, Int.reduceEq, Int.reduceNe, Int.reduceLT, Int.reduceLE, Int.reduceToNat, Int.reduceAdd, Int.reduceSub, Int.reduceMul, Int.reduceNeg, Nat.reduceAdd, Nat.reduceMul, Nat.reduceEqDiff, Nat.reduceLT, Int.cast_ofNat_Int, Int.lt_irrefl, Bool.false_eq_true, ↓reduceIte, ↓reduceDIte, zbI, zbL, zbA, zbV, qrg, qrg2, qnn, qz, zup_at, zup_r, zup_ne, true_and, and_true, true_or, or_true, and_self, or_self, false_or, or_false, false_and, and_false, Int.toNat_natCast, Int.toNat_add, Int.toNat_mul, Int.toNat_zero, Int.toNat_one, qtn, Int.natCast_add, qnat1, qnat0, ne_eq, not_true_eq_false, not_false_eq_true, eq_self, qbool]
              exact g0
          · refine qBo_same hw (v := zI (-1)) ?_ ?_
            · have ho1 := kx_hasOak (n := n) (s := s) (d := 98) (M := M) hF hT hA t
              rw [if_neg hp] at ho1
              rw [c_X_foretold]
              simp only [qff hF, if_true]
              rw [if_neg (by decide), if_neg (by decide), e_X_foretold_10]
              simp (disch := omega) only [ho1, qff hF, qltT, qltF, qleT, qleF, qeqT, qeqF, Int.reduceEq, Int.reduceNe, Int.reduceLT, Int.reduceLE, Int.reduceToNat, Int.reduceAdd, Int.reduceSub, Int.reduceMul, Int.reduceNeg, Nat.reduceAdd, Nat.reduceMul, Nat.reduceEqDiff, Nat.reduceLT, Int.cast_ofNat_Int, Int.lt_irrefl, Bool.false_eq_true, ↓reduceIte, ↓reduceDIte, zbI, zbL, zbA, zbV, qrg, qrg2, qnn, qz, zup_at, zup_r, zup_ne, true_and, and_true, true_or, or_true, and_self, or_self, false_or, or_false, false_and, and_false, Int.toNat_natCast, Int.toNat_add, Int.toNat_mul, Int.toNat_zero, Int.toNat_one, qtn, Int.natCast_add, qnat1, qnat0, ne_eq, not_true_eq_false, not_false_eq_true, eq_self, qbool]
              rw [e_X_foretold_20, e_X_foretold_21, if_neg (by omega), if_neg (by omega), if_pos rfl, e_X_foretold_30]
            · have hp2 := km_isOak (n := n) (s := s) (d := 97) (M := M) hF hA t
              rw [if_neg hp] at hp2
              rw [c_M_foretold]
              simp (disch := omega) only [k_isIn, hv, hp2, qff hF, qltT, qltF, qleT, qleF, qeqT, qeqF, Int.reduceEq, Int.reduceNe, Int.reduceLT, Int.reduceLE, Int.reduceToNat, Int.reduceAdd, Int.reduceSub, Int.reduceMul, Int.reduceNeg, Nat.reduceAdd, Nat.reduceMul, Nat.reduceEqDiff, Nat.reduceLT, Int.cast_ofNat_Int, Int.lt_irrefl, Bool.false_eq_true, ↓reduceIte, ↓reduceDIte, zbI, zbL, zbA, zbV, qrg, qrg2, qnn, qz, zup_at, zup_r, zup_ne, true_and, and_true, true_or, or_true, and_self, or_self, false_or, or_false, false_and, and_false, Int.toNat_natCast, Int.toNat_add, Int.toNat_mul, Int.toNat_zero, Int.toNat_one, qtn, Int.natCast_add, qnat1, qnat0, ne_eq, not_true_eq_false, not_false_eq_true, eq_self, qbool]
        · refine qBo_same hw (v := zI (-1)) ?_ ?_
          · rw [c_X_foretold]
            simp only [qff hF, if_true]
            rw [if_neg hu0, if_neg hu1, e_X_foretold_10, if_neg hu2, e_X_foretold_20, e_X_foretold_21, if_neg (by omega), if_neg (by omega), if_pos rfl, e_X_foretold_30]
          · have h2 : ¬ (0 ≤ u ∧ u ≤ 2) := by omega
            rw [c_M_foretold]
            simp (disch := omega) only [k_isIn, hv, h2, qff hF, qltT, qltF, qleT, qleF, qeqT, qeqF, Int.reduceEq, Int.reduceNe, Int.reduceLT, Int.reduceLE, Int.reduceToNat, Int.reduceAdd, Int.reduceSub, Int.reduceMul, Int.reduceNeg, Nat.reduceAdd, Nat.reduceMul, Nat.reduceEqDiff, Nat.reduceLT, Int.cast_ofNat_Int, Int.lt_irrefl, Bool.false_eq_true, ↓reduceIte, ↓reduceDIte, zbI, zbL, zbA, zbV, qrg, qrg2, qnn, qz, zup_at, zup_r, zup_ne, true_and, and_true, true_or, or_true, and_self, or_self, false_or, or_false, false_and, and_false, Int.toNat_natCast, Int.toNat_add, Int.toNat_mul, Int.toNat_zero, Int.toNat_one, qtn, Int.natCast_add, qnat1, qnat0, ne_eq, not_true_eq_false, not_false_eq_true, eq_self, qbool]
  · -- a wrong number of days
    refine qBo_same hw (v := zI (-1)) ?_ ?_
    · have hend : ∀ s0 : Int, zR zPP 99 51 21 [zA 9, zI v, zI u, zI t, zU, zU] [zI s0] (n, s, S, R, M) = some (zI (-1), (n, s, S, R, M)) := fun s0 => by
        rw [e_X_foretold_21]
        by_cases h : v < 1
        · rw [if_pos h, e_X_foretold_30]
        · rw [if_neg h, if_pos (by omega), e_X_foretold_30]
      have h10 : zR zPP 99 51 10 [zA 9, zI v, zI u, zI t, zU, zU] [] (n, s, S, R, M) = some (zI (-1), (n, s, S, R, M)) := by
        rw [e_X_foretold_10]
        by_cases hu2 : u = 2
        · rw [if_pos hu2]
          simp only [qff hF, if_true, kx_hasOak hF hT hA, zbI]
          by_cases hp : 0 ≤ t ∧ t < M 306 0
          · rw [if_pos hp, if_neg (by decide), e_X_foretold_18, hend]
          · rw [if_neg hp, if_pos rfl, e_X_foretold_20, hend]
        · rw [if_neg hu2, e_X_foretold_20, hend]
      rw [c_X_foretold]
      simp only [qff hF, if_true]
      by_cases hu0 : u = 0
      · rw [if_pos hu0, e_X_foretold_18, hend]
      · rw [if_neg hu0]
        by_cases hu1 : u = 1
        · rw [if_pos hu1]
          simp only [qff hF, if_true, kx_hasPerson hF hT hA, zbI]
          by_cases hp : 0 ≤ t ∧ t < M 306 1
          · rw [if_pos hp, if_neg (by decide), e_X_foretold_18, hend]
          · rw [if_neg hp, if_pos rfl, h10]
        · rw [if_neg hu1, h10]
    · rw [c_M_foretold]
      simp (disch := omega) only [k_isIn, hv, qff hF, qltT, qltF, qleT, qleF, qeqT, qeqF, Int.reduceEq, Int.reduceNe, Int.reduceLT, Int.reduceLE, Int.reduceToNat, Int.reduceAdd, Int.reduceSub, Int.reduceMul, Int.reduceNeg, Nat.reduceAdd, Nat.reduceMul, Nat.reduceEqDiff, Nat.reduceLT, Int.cast_ofNat_Int, Int.lt_irrefl, Bool.false_eq_true, ↓reduceIte, ↓reduceDIte, zbI, zbL, zbA, zbV, qrg, qrg2, qnn, qz, zup_at, zup_r, zup_ne, true_and, and_true, true_or, or_true, and_self, or_self, false_or, or_false, false_and, and_false, Int.toNat_natCast, Int.toNat_add, Int.toNat_mul, Int.toNat_zero, Int.toNat_one, qtn, Int.natCast_add, qnat1, qnat0, ne_eq, not_true_eq_false, not_false_eq_true, eq_self, qbool]
end QF
