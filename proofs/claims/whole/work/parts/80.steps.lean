/-! STEPS: rings copied, the class's push, the model's keep -/
theorem zrow_self {M : Nat → Nat → Int} {a : Nat} {f : Nat → Int} : zrow M a f a = f := by
  funext j
  exact if_pos rfl
theorem zrow_rw {M : Nat → Nat → Int} {a q : Nat} {f : Nat → Int} (h : q ≠ a) : zrow M a f q = M q := by
  funext j
  exact if_neg h
theorem qRs_cong {M : Nat → Nat → Int} {r : Nat} {A A' : Nat → Int} (h0 : A' 0 = A 0) (h : ∀ k, 7 ≤ k → k < 131 → A' k = A k) (hb : ∀ i, i < 30 → A' (4850 + i) = A (4850 + i)) (h30 : A 10 ≤ 30) (hr : qRs M r A) : qRs M r A' := by
  obtain ⟨h1, h2, h3⟩ := hr
  refine ⟨qRg_g (fun o y ho hy => Or.inl ?_) h1, ?_, fun i hi => ?_⟩
  · unfold qg
    rw [h0, h _ (by omega) (by omega)]
  · rw [h 10 (by decide) (by decide), h 8 (by decide) (by decide), h 7 (by decide) (by decide), h 9 (by decide) (by decide)]
    exact h2
  · rw [h 10 (by decide) (by decide)] at hi
    rw [hb _ (by omega)]
    exact h3 i hi
/-- row r is now what row q was -/
def qCp (M M' : Nat → Nat → Int) (r q : Nat) : Prop := (∀ a, a < r ∨ r + 3 < a → M' a = M a) ∧ (∀ i, i < 25 → M' (r + 1) i = M (q + 1) i) ∧ (∀ i, i < 5 → M' (r + 2) i = M (q + 2) i) ∧ (∀ i, i < 30 → M' (r + 3) i = M (q + 3) i) ∧ M' r 3 = M q 3 ∧ M' r 4 = M q 4 ∧ M' r 5 = M q 5 ∧ M' r 6 = M q 6
theorem qCp_Rs {M M' : Nat → Nat → Int} {r q : Nat} {A : Nat → Int} (h : qCp M M' r q) (h30 : A 10 ≤ 30) (hq : qRs M q A) : qRs M' r A := by
  obtain ⟨-, c1, c2, c3, c4, c5, c6, c7⟩ := h
  obtain ⟨⟨g1, g2⟩, h2, h3⟩ := hq
  refine ⟨⟨fun o p ho hp => by rw [c1 _ (by omega)]; exact g1 o p ho hp, fun o ho => by rw [c2 _ ho]; exact g2 o ho⟩, by rw [c4, c5, c6, c7]; exact h2, fun i hi => by rw [c3 i (by omega)]; exact h3 i hi⟩
section QF
variable {S : Nat → Nat × Nat} {R : Nat → Nat → Nat} {M M' M0 M1 : Nat → Nat → Int} {n s d : Nat} {A : Nat → Int} {W : Nat → qWt}
theorem kr_becomes {r q : Nat} (hr : qLR S R r) (hq : qLR S R q) (hap : r + 3 < q ∨ q + 3 < r) : ∃ M', zcal zPP (d + 1) 138 [zA r, zA q] (n, s, S, R, M) = some (zU, (n, s, S, R, M')) ∧ qCp M M' r q := by
  obtain ⟨r1, r2, r3, r4, r5, r6, r7⟩ := hr
  obtain ⟨q1, q2, q3, q4, q5, q6, q7⟩ := hq
  have c25 : (25 : Int).toNat = 25 := rfl
  have c5 : (5 : Int).toNat = 5 := rfl
  have c30 : (30 : Int).toNat = 30 := rfl
  have c0 : (0 : Int).toNat = 0 := rfl
  have e := c_Rings_becomes d r q (n, s, S, R, M)
  simp only [r1, r2, r5, q1, q2, q5, if_true, c25, c0] at e
  rw [if_pos (by decide), e_Rings_becomes_8] at e
  simp only [r1, r3, r6, q1, q3, q6, if_true, c5, c0] at e
  rw [if_pos (by decide), e_Rings_becomes_16] at e
  simp only [r1, r4, r7, q1, q4, q7, if_true, c30, c0] at e
  rw [if_pos (by decide), e_Rings_becomes_24] at e
  simp only [r1, q1, if_true] at e
  refine ⟨_, e, ?_⟩
  · have hne : ∀ i j : Nat, i ≤ 3 → j ≤ 3 → q + i ≠ r + j := fun i j h1 h2 => by omega
    have hq0 : ∀ j : Nat, j ≤ 3 → q ≠ r + j := fun j hj => by omega
    have hqr : q ≠ r := by omega
    refine ⟨fun a ha => ?_, fun i hi => ?_, fun i hi => ?_, fun i hi => ?_, ?_, ?_, ?_, ?_⟩
    · rw [zup_rw (by omega), zup_rw (by omega), zup_rw (by omega), zup_rw (by omega), zrow_rw (by omega), zrow_rw (by omega), zrow_rw (by omega)]
    · rw [zup_rw (by omega), zup_rw (by omega), zup_rw (by omega), zup_rw (by omega), zrow_rw (by omega), zrow_rw (by omega), zrow_self]
      unfold va_cpy
      rw [if_pos (by omega), Nat.sub_zero i, Nat.zero_add i]
    · rw [zup_rw (by omega), zup_rw (by omega), zup_rw (by omega), zup_rw (by omega), zrow_rw (by omega), zrow_self]
      unfold va_cpy
      rw [if_pos (by omega), Nat.sub_zero i, Nat.zero_add i, zrow_rw (hne 2 1 (by decide) (by decide))]
    · rw [zup_rw (by omega), zup_rw (by omega), zup_rw (by omega), zup_rw (by omega), zrow_self]
      unfold va_cpy
      rw [if_pos (by omega), Nat.sub_zero i, Nat.zero_add i, zrow_rw (hne 3 2 (by decide) (by decide)), zrow_rw (hne 3 1 (by decide) (by decide))]
    · rw [zup_ne (by decide), zup_ne (by decide), zup_ne (by decide), zup_at, zrow_rw (hq0 3 (by decide)), zrow_rw (hq0 2 (by decide)), zrow_rw (hq0 1 (by decide))]
    · rw [zup_ne (by decide), zup_ne (by decide), zup_at, zup_r hqr, zrow_rw (hq0 3 (by decide)), zrow_rw (hq0 2 (by decide)), zrow_rw (hq0 1 (by decide))]
    · rw [zup_ne (by decide), zup_at, zup_r hqr, zup_r hqr, zrow_rw (hq0 3 (by decide)), zrow_rw (hq0 2 (by decide)), zrow_rw (hq0 1 (by decide))]
    · rw [zup_at, zup_r hqr, zup_r hqr, zup_r hqr, zrow_rw (hq0 3 (by decide)), zrow_rw (hq0 2 (by decide)), zrow_rw (hq0 1 (by decide))]
/-- the row of a Steps at q -/
theorem kr_rowAt {q : Nat} (h1 : S q = (6, 3)) (h2 : S (q + 1) = (24, 30)) (h3 : R q 0 = q + 1) (hR : ∀ i, i < 30 → R (q + 1) i = q + 2 + 4 * i) {f i : Nat} (hf : M q 1 = f) (hfi : f + i < 100000) : zcal zPP (d + 1) 154 [zA q, zI i] (n, s, S, R, M) = some (zA (q + 2 + 4 * ((f + i) % 30)), (n, s, S, R, M)) := by
  have hm : ((f : Int) + i).tmod 30 = (((f + i) % 30 : Nat) : Int) := rfl
  have hlt : (f + i) % 30 < 30 := Nat.mod_lt _ (by decide)
  rw [c_Steps_rowAt]
  simp only [h1, h2, h3, if_true, hf]
  rw [if_neg (by decide), qz (x := (f : Int) + i) (by omega) (by omega), hm]
  rw [if_neg (by omega), if_pos (by omega)]
  simp only [Int.toNat_natCast]
  rw [if_pos ⟨by decide, by omega, by omega⟩, hR _ hlt]
/-- what the model's keep makes of the row -/
def qKp (A A' : Nat → Int) (z : Nat) : Prop :=
  A' 4 = ((min z 29 + 1 : Nat) : Int) ∧ (∀ i k, i < min z 29 → k < 155 → A' (qsx i + k) = A (qsx (i + (z - min z 29)) + k)) ∧
  (A' (qsx (min z 29)) = A 0 ∧ (∀ k, k < 124 → A' (qsx (min z 29) + 1 + k) = A (7 + k)) ∧ (∀ k, k < 30 → A' (qsx (min z 29) + 125 + k) = A (4850 + k)) ∧ (z < 30 → ∀ k, qsx z + 155 ≤ k → A' k = A k)) ∧ ∀ k, k ≠ 4 → k < 200 ∨ 4850 ≤ k → A' k = A k
theorem km_keep (hF : qFx S R) {z : Nat} (hz : M 306 4 = z) (hz30 : z ≤ 30) : ∃ M2, zcal zPP (d + 1) 251 [zA 305] (n, s, S, R, M) = some (zU, (n, s, S, R, M2)) ∧ (∀ a, a ≠ 306 → M2 a = M a) ∧ qKp (M 306) (M2 306) z := by
  -- from the step's own row on
  have TAIL : ∀ (x : Nat) (M1 : Nat → Nat → Int) (w : Nat), x = qsx w → w ≤ 29 → M1 306 4 = w → (∀ a, a ≠ 306 → M1 a = M a) → ∃ M2, zR zPP d 251 52 [zA 305, zI x, zI 0] [] (n, s, S, R, M1) = some (zU, (n, s, S, R, M2)) ∧ (∀ a, a ≠ 306 → M2 a = M a) ∧ M2 306 4 = ((w + 1 : Nat) : Int) ∧ (∀ k, k < 124 → M2 306 (x + 1 + k) = M1 306 (7 + k)) ∧ (∀ k, k < 30 → M2 306 (x + 125 + k) = M1 306 (4850 + k)) ∧ ∀ k, k ≠ 4 → k < x + 1 ∨ x + 155 ≤ k → M2 306 k = M1 306 k := by
    intro x M1 w hx hw h4 hrow
    have hx1 : 200 ≤ x ∧ x + 155 ≤ 4850 := by unfold qsx at hx; omega
    have LA := qlpI (E := fun i M2 => (∀ a, a ≠ 306 → M2 a = M a) ∧ (∀ k, k < i → M2 306 (x + 1 + k) = M1 306 (7 + k)) ∧ ∀ k, k < x + 1 ∨ x + 1 + i ≤ k → M2 306 k = M1 306 k) (P := fun i M2 => zR zPP d 251 52 [zA 305, zI x, zI (i : Nat)] [] (n, s, S, R, M2)) (N := 124) (fun i M2 hi hx' => by
      obtain ⟨e1, e2, e3⟩ := hx'
      have h7 : M2 306 (7 + i) = M1 306 (7 + i) := e3 _ (by omega)
      refine ⟨zup M2 306 (x + 1 + i) (M1 306 (7 + i)), ⟨fun a ha => by rw [zup_rw ha]; exact e1 a ha, fun k hk => ?_, fun k hk => ?_⟩, ?_⟩
      · by_cases hki : k = i
        · subst hki; exact zup_at
        · rw [zup_ne (by omega)]; exact e2 k (by omega)
      · rw [zup_ne (by omega)]; exact e3 k (by omega)
      · show zR _ _ _ _ _ _ _ = zR _ _ _ _ _ _ _
        rw [e_M_keep_52]
        simp (disch := omega) only [h7, qff hF, qltT, qltF, qleT, qleF, qeqT, qeqF, Int.reduceEq, Int.reduceNe, Int.reduceLT, Int.reduceLE, Int.reduceToNat, Int.reduceAdd, Int.reduceSub, Int.reduceMul, Int.reduceNeg, Nat.reduceAdd, Nat.reduceMul, Nat.reduceEqDiff, Nat.reduceLT, Int.cast_ofNat_Int, Int.lt_irrefl, Bool.false_eq_true, ↓reduceIte, ↓reduceDIte, zbI, zbL, zbA, zbV, qrg, qrg2, qnn, qz, zup_at, zup_r, zup_ne, true_and, and_true, true_or, or_true, and_self, or_self, false_or, or_false, false_and, and_false, Int.toNat_natCast, Int.toNat_add, Int.toNat_mul, Int.toNat_zero, Int.toNat_one, qtn, Int.natCast_add, qnat1, qnat0, ne_eq, not_true_eq_false, not_false_eq_true, eq_self, qbool]) M1 ⟨hrow, fun k hk => absurd hk (Nat.not_lt_zero k), fun _ _ => rfl⟩
    obtain ⟨M2, ⟨e1, e2, e3⟩, LA⟩ := LA
    have LB := qlpI (E := fun i M3 => (∀ a, a ≠ 306 → M3 a = M a) ∧ (∀ k, k < i → M3 306 (x + 125 + k) = M1 306 (4850 + k)) ∧ ∀ k, k < x + 125 ∨ x + 125 + i ≤ k → M3 306 k = M2 306 k) (P := fun i M3 => zR zPP d 251 73 [zA 305, zI x, zI (i : Nat)] [] (n, s, S, R, M3)) (N := 30) (fun i M3 hi hx' => by
      obtain ⟨f1, f2, f3⟩ := hx'
      have h7 : M3 306 (4850 + i) = M1 306 (4850 + i) := (f3 _ (by omega)).trans (e3 _ (by omega))
      refine ⟨zup M3 306 (x + 125 + i) (M1 306 (4850 + i)), ⟨fun a ha => by rw [zup_rw ha]; exact f1 a ha, fun k hk => ?_, fun k hk => ?_⟩, ?_⟩
      · by_cases hki : k = i
        · subst hki; exact zup_at
        · rw [zup_ne (by omega)]; exact f2 k (by omega)
      · rw [zup_ne (by omega)]; exact f3 k (by omega)
      · show zR _ _ _ _ _ _ _ = zR _ _ _ _ _ _ _
        rw [e_M_keep_73]
        simp (disch := omega) only [h7, qff hF, qltT, qltF, qleT, qleF, qeqT, qeqF, Int.reduceEq, Int.reduceNe, Int.reduceLT, Int.reduceLE, Int.reduceToNat, Int.reduceAdd, Int.reduceSub, Int.reduceMul, Int.reduceNeg, Nat.reduceAdd, Nat.reduceMul, Nat.reduceEqDiff, Nat.reduceLT, Int.cast_ofNat_Int, Int.lt_irrefl, Bool.false_eq_true, ↓reduceIte, ↓reduceDIte, zbI, zbL, zbA, zbV, qrg, qrg2, qnn, qz, zup_at, zup_r, zup_ne, true_and, and_true, true_or, or_true, and_self, or_self, false_or, or_false, false_and, and_false, Int.toNat_natCast, Int.toNat_add, Int.toNat_mul, Int.toNat_zero, Int.toNat_one, qtn, Int.natCast_add, qnat1, qnat0, ne_eq, not_true_eq_false, not_false_eq_true, eq_self, qbool]) M2 ⟨e1, fun k hk => absurd hk (Nat.not_lt_zero k), fun _ _ => rfl⟩
    obtain ⟨M3, ⟨f1, f2, f3⟩, LB⟩ := LB
    have h4' : M3 306 4 = w := by rw [f3 4 (by omega), e3 4 (by omega)]; exact h4
    refine ⟨zup M3 306 4 ((w + 1 : Nat) : Int), ?_, fun a ha => by rw [zup_rw ha]; exact f1 a ha, zup_at, fun k hk => ?_, fun k hk => ?_, fun k hk4 hk => ?_⟩
    · refine Eq.trans LA ?_
      rw [e_M_keep_52, if_neg (by decide)]
      refine Eq.trans LB ?_
      rw [e_M_keep_73]
      simp (disch := omega) only [h4', qff hF, qltT, qltF, qleT, qleF, qeqT, qeqF, Int.reduceEq, Int.reduceNe, Int.reduceLT, Int.reduceLE, Int.reduceToNat, Int.reduceAdd, Int.reduceSub, Int.reduceMul, Int.reduceNeg, Nat.reduceAdd, Nat.reduceMul, Nat.reduceEqDiff, Nat.reduceLT, Int.cast_ofNat_Int, Int.lt_irrefl, Bool.false_eq_true, ↓reduceIte, ↓reduceDIte, zbI, zbL, zbA, zbV, qrg, qrg2, qnn, qz, zup_at, zup_r, zup_ne, true_and, and_true, true_or, or_true, and_self, or_self, false_or, or_false, false_and, and_false, Int.toNat_natCast, Int.toNat_add, Int.toNat_mul, Int.toNat_zero, Int.toNat_one, qtn, Int.natCast_add, qnat1, qnat0, ne_eq, not_true_eq_false, not_false_eq_true, eq_self, qbool]
    · rw [zup_ne (by omega), f3 _ (by omega)]; exact e2 k hk
    · rw [zup_ne (by omega)]; exact f2 k hk
    · rw [zup_ne hk4, f3 _ (by omega), e3 _ (by omega)]
  by_cases h30 : z = 30
  · have LS := qlpI (E := fun i M2 => (∀ a, a ≠ 306 → M2 a = M a) ∧ (∀ k, k < i → M2 306 (200 + k) = M 306 (355 + k)) ∧ ∀ k, k < 200 ∨ 200 + i ≤ k → M2 306 k = M 306 k) (P := fun i M2 => zR zPP d 251 8 [zA 305, zI (i : Nat), zU] [] (n, s, S, R, M2)) (N := 4495) (fun i M2 hi hx' => by
      obtain ⟨e1, e2, e3⟩ := hx'
      have h7 : M2 306 (355 + i) = M 306 (355 + i) := e3 _ (by omega)
      have t355 : Int.toNat 355 = 355 := rfl
      refine ⟨zup M2 306 (200 + i) (M 306 (355 + i)), ⟨fun a ha => by rw [zup_rw ha]; exact e1 a ha, fun k hk => ?_, fun k hk => ?_⟩, ?_⟩
      · by_cases hki : k = i
        · subst hki; exact zup_at
        · rw [zup_ne (by omega)]; exact e2 k (by omega)
      · rw [zup_ne (by omega)]; exact e3 k (by omega)
      · show zR _ _ _ _ _ _ _ = zR _ _ _ _ _ _ _
        rw [e_M_keep_8]
        simp (disch := omega) only [h7, t355, qff hF, qltT, qltF, qleT, qleF, qeqT, qeqF, Int.reduceEq, Int.reduceNe, Int.reduceLT, Int.reduceLE, Int.reduceToNat, Int.reduceAdd, Int.reduceSub, Int.reduceMul, Int.reduceNeg, Nat.reduceAdd, Nat.reduceMul, Nat.reduceEqDiff, Nat.reduceLT, Int.cast_ofNat_Int, Int.lt_irrefl, Bool.false_eq_true, ↓reduceIte, ↓reduceDIte, zbI, zbL, zbA, zbV, qrg, qrg2, qnn, qz, zup_at, zup_r, zup_ne, true_and, and_true, true_or, or_true, and_self, or_self, false_or, or_false, false_and, and_false, Int.toNat_natCast, Int.toNat_add, Int.toNat_mul, Int.toNat_zero, Int.toNat_one, qtn, Int.natCast_add, qnat1, qnat0, ne_eq, not_true_eq_false, not_false_eq_true, eq_self, qbool]) M ⟨fun _ _ => rfl, fun k hk => absurd hk (Nat.not_lt_zero k), fun _ _ => rfl⟩
    obtain ⟨M2, ⟨e1, e2, e3⟩, LS⟩ := LS
    have h4 : M2 306 4 = 30 := by rw [e3 4 (by omega), hz, h30]; rfl
    have h0 : M2 306 0 = M 306 0 := e3 0 (by omega)
    obtain ⟨M3, t1, t2, t3, t4, t5, t6⟩ := TAIL 4695 (zup (zup M2 306 4 29) 306 4695 (M 306 0)) 29 rfl (Nat.le_refl _) (by rw [zup_ne (by decide), zup_at]; rfl) (fun a ha => by rw [zup_rw ha, zup_rw ha]; exact e1 a ha)
    have hz4 : M 306 4 = 30 := by rw [hz, h30]; rfl
    have mz : min z 29 = 29 := by omega
    have t4695 : Int.toNat 4695 = 4695 := rfl
    refine ⟨M3, ?_, t2, ?_, ?_, ?_, ?_⟩
    · rw [c_M_keep]
      simp (disch := omega) only [hz4, qff hF, qltT, qltF, qleT, qleF, qeqT, qeqF, Int.reduceEq, Int.reduceNe, Int.reduceLT, Int.reduceLE, Int.reduceToNat, Int.reduceAdd, Int.reduceSub, Int.reduceMul, Int.reduceNeg, Nat.reduceAdd, Nat.reduceMul, Nat.reduceEqDiff, Nat.reduceLT, Int.cast_ofNat_Int, Int.lt_irrefl, Bool.false_eq_true, ↓reduceIte, ↓reduceDIte, zbI, zbL, zbA, zbV, qrg, qrg2, qnn, qz, zup_at, zup_r, zup_ne, true_and, and_true, true_or, or_true, and_self, or_self, false_or, or_false, false_and, and_false, Int.toNat_natCast, Int.toNat_add, Int.toNat_mul, Int.toNat_zero, Int.toNat_one, qtn, Int.natCast_add, qnat1, qnat0, ne_eq, not_true_eq_false, not_false_eq_true, eq_self, qbool]
      refine Eq.trans LS ?_
      rw [e_M_keep_8]
      simp (disch := omega) only [h4, h0, t4695, qff hF, qltT, qltF, qleT, qleF, qeqT, qeqF, Int.reduceEq, Int.reduceNe, Int.reduceLT, Int.reduceLE, Int.reduceToNat, Int.reduceAdd, Int.reduceSub, Int.reduceMul, Int.reduceNeg, Nat.reduceAdd, Nat.reduceMul, Nat.reduceEqDiff, Nat.reduceLT, Int.cast_ofNat_Int, Int.lt_irrefl, Bool.false_eq_true, ↓reduceIte, ↓reduceDIte, zbI, zbL, zbA, zbV, qrg, qrg2, qnn, qz, zup_at, zup_r, zup_ne, true_and, and_true, true_or, or_true, and_self, or_self, false_or, or_false, false_and, and_false, Int.toNat_natCast, Int.toNat_add, Int.toNat_mul, Int.toNat_zero, Int.toNat_one, qtn, Int.natCast_add, qnat1, qnat0, ne_eq, not_true_eq_false, not_false_eq_true, eq_self, qbool]
      exact t1
    · rw [mz]; exact t3
    · intro i k hi hk
      rw [mz] at hi
      rw [mz, show z - 29 = 1 by omega, t6 _ (by unfold qsx; omega) (by unfold qsx; omega), zup_ne (by unfold qsx; omega), zup_ne (by unfold qsx; omega)]
      have := e2 (155 * i + k) (by omega)
      rw [show 200 + (155 * i + k) = qsx i + k by unfold qsx; omega, show 355 + (155 * i + k) = qsx (i + 1) + k by unfold qsx; omega] at this
      exact this
    · rw [mz]
      refine ⟨?_, fun k hk => ?_, fun k hk => ?_, fun h => absurd h (by omega)⟩
      · show M3 306 4695 = _
        rw [t6 4695 (by decide) (by omega), zup_at]
      · rw [show qsx 29 + 1 + k = 4695 + 1 + k from rfl, t4 k hk, zup_ne (by omega), zup_ne (by omega)]
        exact e3 _ (by omega)
      · rw [show qsx 29 + 125 + k = 4695 + 125 + k from rfl, t5 k hk, zup_ne (by omega), zup_ne (by omega)]
        exact e3 _ (by omega)
    · intro k hk4 hk
      rw [t6 k hk4 (by omega), zup_ne (by omega), zup_ne hk4]
      exact e3 k (by omega)
  · have hne : ¬ (z : Int) = 30 := by omega
    have mz : min z 29 = z := by omega
    have hx : 200 + 155 * z = qsx z := rfl
    obtain ⟨M3, t1, t2, t3, t4, t5, t6⟩ := TAIL (200 + 155 * z) (zup M 306 (200 + 155 * z) (M 306 0)) z rfl (by omega) (by rw [zup_ne (by omega)]; exact hz) (fun a ha => by rw [zup_rw ha])
    refine ⟨M3, ?_, t2, ?_, ?_, ?_, ?_⟩
    · rw [c_M_keep]
      simp (disch := omega) only [hz, qff hF, qltT, qltF, qleT, qleF, qeqT, qeqF, Int.reduceEq, Int.reduceNe, Int.reduceLT, Int.reduceLE, Int.reduceToNat, Int.reduceAdd, Int.reduceSub, Int.reduceMul, Int.reduceNeg, Nat.reduceAdd, Nat.reduceMul, Nat.reduceEqDiff, Nat.reduceLT, Int.cast_ofNat_Int, Int.lt_irrefl, Bool.false_eq_true, ↓reduceIte, ↓reduceDIte, zbI, zbL, zbA, zbV, qrg, qrg2, qnn, qz, zup_at, zup_r, zup_ne, true_and, and_true, true_or, or_true, and_self, or_self, false_or, or_false, false_and, and_false, Int.toNat_natCast, Int.toNat_add, Int.toNat_mul, Int.toNat_zero, Int.toNat_one, qtn, Int.natCast_add, qnat1, qnat0, ne_eq, not_true_eq_false, not_false_eq_true, eq_self, qbool]
      exact t1
    · rw [mz]; exact t3
    · intro i k hi hk
      rw [mz] at hi
      rw [mz, show z - z = 0 by omega, Nat.add_zero, t6 _ (by unfold qsx; omega) (by unfold qsx; omega), zup_ne (by unfold qsx; omega)]
    · rw [mz, ← hx]
      refine ⟨?_, fun k hk => ?_, fun k hk => ?_, fun _ k hk => by rw [t6 k (by omega) (by omega), zup_ne (by omega)]⟩
      · rw [t6 _ (by omega) (by omega), zup_at]
      · rw [t4 k hk, zup_ne (by omega)]
      · rw [t5 k hk, zup_ne (by omega)]
    · intro k hk4 hk
      rw [t6 k hk4 (by omega), zup_ne (by omega)]
end QF
