/-! count, bare on both sides -/
def qkd (A : Nat → Int) (o k y : Nat) : Bool := decide (A (11 + 24 * o + y) = 1) && decide (A (136 + y) = k)
def qCount (A : Nat → Int) (k : Int) : Int := if 0 ≤ k ∧ k < 4 then (qsm (fun o => zct (qkd A o k.toNat) 24) (A 0).toNat : Nat) else -1
theorem qyk_one {A : Nat → Int} (hA : qIn A) {k y : Nat} (hy : y < 24) : qyk A (2 ^ k) y = decide (A (136 + y) = k) := by
  have hb := hA.2.2.2.2.2.2.2.2.2.2.2.2.1 y hy
  unfold qyk
  rw [Nat.testBit_two_pow, Bool.eq_iff_iff, decide_eq_true_iff, decide_eq_true_iff]
  omega
theorem qsm_s (f : Nat → Nat) (n : Nat) : qsm f (n + 1) = qsm f n + f n := rfl
theorem zct_s (f : Nat → Bool) (n : Nat) : zct f (n + 1) = zct f n + (if f n then 1 else 0) := rfl
theorem qsm24 (f : Nat → Nat → Bool) (i : Nat) : qsm (fun o => zct (f o) 24) i ≤ 24 * i := qsm_le (fun o => zct_le _ _) i
section QF
variable {S : Nat → Nat × Nat} {R : Nat → Nat → Nat} {M : Nat → Nat → Int} {n s d : Nat} {A : Nat → Int}
theorem kx_count (hF : qFx S R) (hT : qTw M 10 A) (hA : qIn A) (hg : qRg M 21 (qg A)) (v : Int) : zcal zPP (d + 3) 78 [zA 9, zI v] (n, s, S, R, M) = some (zI (qCount A v), (n, s, S, R, M)) := by
  unfold qCount
  by_cases hv : 0 ≤ v ∧ v < 4
  · obtain ⟨k, rfl⟩ := Int.eq_ofNat_of_zero_le hv.1
    obtain ⟨a, ha⟩ := Int.eq_ofNat_of_zero_le hA.1.1
    have ha5 := hA.1.2
    have hk : k < 4 := by omega
    have hk2 : 2 ^ k < 16 := Nat.pow_lt_pow_right (n := 4) (by decide) hk
    have L := qlp (P := fun i => zR zPP (d + 2) 78 16 [zA 9, zI k, zI (zsn (qyk A (2 ^ k)) 24 : Nat), zI (qsm (fun o => zct (qkd A o k) 24) i : Nat), zI i] [] (n, s, S, R, M)) (N := a) (fun i hi => by
      have hi5 : (i : Int) < A 0 := by omega
      have h24 := qsm24 (fun o => qkd A o k) i
      have hc := zct_le (qkd A i k) 24
      show zR _ _ _ _ _ _ _ = zR _ _ _ _ _ _ _
      rw [e_X_count_16]
      simp (disch := omega) only [qtw hT, hi5, kx_inOak hF hT hA hg hi5, qin, zsn_and24, k_bitCount, qff hF, Int.lt_irrefl, ↓reduceIte, ↓reduceDIte, zbI, zbL, zbA, zbV, qrg, qrg2, qz, true_and, and_true, true_or, or_true, and_self, or_self, false_or, or_false, false_and, and_false, Int.toNat_natCast, Int.toNat_add, Int.toNat_mul, Int.toNat_zero, Int.toNat_one, qtn, Int.natCast_add, qnat1, qnat0, ne_eq, not_true_eq_false, not_false_eq_true, eq_self, qbool]
      have he : zct (fun y => decide (A (11 + 24 * i + y) = 1) && qyk A (2 ^ k) y) 24 = zct (qkd A i k) 24 := zct_cong fun y hy => by rw [qyk_one hA hy]; rfl
      rw [he, qz (by omega) (by omega), qsm_s]
      rfl)
    simp (disch := omega) only [c_X_count, k_isKind, hv, (show ¬ ((1 : Int) = 0) by decide), zshl_one (show k < 31 by omega), kx_yearsOfKinds hF hT hA hk2, qff hF, Int.lt_irrefl, ↓reduceIte, ↓reduceDIte, zbI, zbL, zbA, zbV, qrg, qrg2, qz, true_and, and_true, true_or, or_true, and_self, or_self, false_or, or_false, false_and, and_false, Int.toNat_natCast, Int.toNat_add, Int.toNat_mul, Int.toNat_zero, Int.toNat_one, qtn, Int.natCast_add, qnat1, qnat0, ne_eq, not_true_eq_false, not_false_eq_true, eq_self, qbool]
    refine L.trans ?_
    show zR _ _ _ _ _ _ _ = _
    rw [e_X_count_16]
    have : ¬ (a : Int) < A 0 := by omega
    simp (disch := omega) only [qtw hT, this, ha, qff hF, Int.lt_irrefl, ↓reduceIte, ↓reduceDIte, zbI, zbL, zbA, zbV, qrg, qrg2, qz, true_and, and_true, true_or, or_true, and_self, or_self, false_or, or_false, false_and, and_false, Int.toNat_natCast, Int.toNat_add, Int.toNat_mul, Int.toNat_zero, Int.toNat_one, qtn, Int.natCast_add, qnat1, qnat0, ne_eq, not_true_eq_false, not_false_eq_true, eq_self, qbool]
  · simp (disch := omega) only [c_X_count, k_isKind, hv, qff hF, Int.lt_irrefl, ↓reduceIte, ↓reduceDIte, zbI, zbL, zbA, zbV, qrg, qrg2, qz, true_and, and_true, true_or, or_true, and_self, or_self, false_or, or_false, false_and, and_false, Int.toNat_natCast, Int.toNat_add, Int.toNat_mul, Int.toNat_zero, Int.toNat_one, qtn, Int.natCast_add, qnat1, qnat0, ne_eq, not_true_eq_false, not_false_eq_true, eq_self, qbool]
theorem km_ofKind (hF : qFx S R) (hA : qIn (M 306)) {o k : Nat} (ho : o < 5) : zcal zPP (d + 2) 285 [zA 305, zI o, zI k] (n, s, S, R, M) = some (zI (zct (qkd (M 306) o k) 24 : Nat), (n, s, S, R, M)) := by
  have L := qlp (P := fun i => zR zPP (d + 1) 285 4 [zA 305, zI o, zI k, zI (zct (qkd (M 306) o k) i : Nat), zI i] [] (n, s, S, R, M)) (N := 24) (fun i hi => by
    have hc := zct_le (qkd (M 306) o k) i
    have hi' : (i : Int) < 24 := by omega
    show zR _ _ _ _ _ _ _ = zR _ _ _ _ _ _ _
    rw [e_M_ofKind_4]
    simp (disch := omega) only [km_get hF ho hi, hi', qff hF, Int.lt_irrefl, ↓reduceIte, ↓reduceDIte, zbI, zbL, zbA, zbV, qrg, qrg2, qz, true_and, and_true, true_or, or_true, and_self, or_self, false_or, or_false, false_and, and_false, Int.toNat_natCast, Int.toNat_add, Int.toNat_mul, Int.toNat_zero, Int.toNat_one, qtn, Int.natCast_add, qnat1, qnat0, ne_eq, not_true_eq_false, not_false_eq_true, eq_self, qbool]
    rw [zct_s]
    unfold qkd
    by_cases h1 : M 306 (11 + 24 * o + i) = 1
    · by_cases h2 : M 306 (136 + i) = k
      · simp (disch := omega) only [h1, h2, decide_true, Bool.and_self, qff hF, Int.lt_irrefl, ↓reduceIte, ↓reduceDIte, zbI, zbL, zbA, zbV, qrg, qrg2, qz, true_and, and_true, true_or, or_true, and_self, or_self, false_or, or_false, false_and, and_false, Int.toNat_natCast, Int.toNat_add, Int.toNat_mul, Int.toNat_zero, Int.toNat_one, qtn, Int.natCast_add, qnat1, qnat0, ne_eq, not_true_eq_false, not_false_eq_true, eq_self, qbool]
      · simp (disch := omega) only [h1, h2, decide_true, decide_false, Bool.and_false, qff hF, Int.lt_irrefl, ↓reduceIte, ↓reduceDIte, zbI, zbL, zbA, zbV, qrg, qrg2, qz, true_and, and_true, true_or, or_true, and_self, or_self, false_or, or_false, false_and, and_false, Int.toNat_natCast, Int.toNat_add, Int.toNat_mul, Int.toNat_zero, Int.toNat_one, qtn, Int.natCast_add, qnat1, qnat0, ne_eq, not_true_eq_false, not_false_eq_true, eq_self, qbool]
        rfl
    · simp (disch := omega) only [h1, decide_false, Bool.false_and, qff hF, Int.lt_irrefl, ↓reduceIte, ↓reduceDIte, zbI, zbL, zbA, zbV, qrg, qrg2, qz, true_and, and_true, true_or, or_true, and_self, or_self, false_or, or_false, false_and, and_false, Int.toNat_natCast, Int.toNat_add, Int.toNat_mul, Int.toNat_zero, Int.toNat_one, qtn, Int.natCast_add, qnat1, qnat0, ne_eq, not_true_eq_false, not_false_eq_true, eq_self, qbool]
      rfl)
  simp (disch := omega) only [c_M_ofKind, qff hF, Int.lt_irrefl, ↓reduceIte, ↓reduceDIte, zbI, zbL, zbA, zbV, qrg, qrg2, qz, true_and, and_true, true_or, or_true, and_self, or_self, false_or, or_false, false_and, and_false, Int.toNat_natCast, Int.toNat_add, Int.toNat_mul, Int.toNat_zero, Int.toNat_one, qtn, Int.natCast_add, qnat1, qnat0, ne_eq, not_true_eq_false, not_false_eq_true, eq_self, qbool]
  refine L.trans ?_
  show zR _ _ _ _ _ _ _ = _
  rw [e_M_ofKind_4, if_neg (by decide)]
theorem km_count (hF : qFx S R) (hA : qIn (M 306)) (v : Int) : zcal zPP (d + 3) 284 [zA 305, zI v] (n, s, S, R, M) = some (zI (qCount (M 306) v), (n, s, S, R, M)) := by
  unfold qCount
  by_cases hv : 0 ≤ v ∧ v < 4
  · obtain ⟨k, rfl⟩ := Int.eq_ofNat_of_zero_le hv.1
    obtain ⟨a, ha⟩ := Int.eq_ofNat_of_zero_le hA.1.1
    have ha5 := hA.1.2
    have L := qlp (P := fun i => zR zPP (d + 2) 284 11 [zA 305, zI k, zI (qsm (fun o => zct (qkd (M 306) o k) 24) i : Nat), zI i] [] (n, s, S, R, M)) (N := a) (fun i hi => by
      have hi5 : (i : Int) < M 306 0 := by omega
      have h24 := qsm24 (fun o => qkd (M 306) o k) i
      have hc := zct_le (qkd (M 306) i k) 24
      show zR _ _ _ _ _ _ _ = zR _ _ _ _ _ _ _
      rw [e_M_count_11]
      simp (disch := omega) only [km_ofKind hF hA (show i < 5 by omega), hi5, qff hF, Int.lt_irrefl, ↓reduceIte, ↓reduceDIte, zbI, zbL, zbA, zbV, qrg, qrg2, qz, true_and, and_true, true_or, or_true, and_self, or_self, false_or, or_false, false_and, and_false, Int.toNat_natCast, Int.toNat_add, Int.toNat_mul, Int.toNat_zero, Int.toNat_one, qtn, Int.natCast_add, qnat1, qnat0, ne_eq, not_true_eq_false, not_false_eq_true, eq_self, qbool]
      rw [qsm_s]
      rfl)
    simp (disch := omega) only [c_M_count, k_isIn, hv, (show (k : Int) ≤ 3 by omega), (show ¬ ((1 : Int) = 0) by decide), qff hF, Int.lt_irrefl, ↓reduceIte, ↓reduceDIte, zbI, zbL, zbA, zbV, qrg, qrg2, qz, true_and, and_true, true_or, or_true, and_self, or_self, false_or, or_false, false_and, and_false, Int.toNat_natCast, Int.toNat_add, Int.toNat_mul, Int.toNat_zero, Int.toNat_one, qtn, Int.natCast_add, qnat1, qnat0, ne_eq, not_true_eq_false, not_false_eq_true, eq_self, qbool]
    refine L.trans ?_
    show zR _ _ _ _ _ _ _ = _
    rw [e_M_count_11]
    have : ¬ (a : Int) < M 306 0 := by omega
    simp (disch := omega) only [this, ha, qff hF, Int.lt_irrefl, ↓reduceIte, ↓reduceDIte, zbI, zbL, zbA, zbV, qrg, qrg2, qz, true_and, and_true, true_or, or_true, and_self, or_self, false_or, or_false, false_and, and_false, Int.toNat_natCast, Int.toNat_add, Int.toNat_mul, Int.toNat_zero, Int.toNat_one, qtn, Int.natCast_add, qnat1, qnat0, ne_eq, not_true_eq_false, not_false_eq_true, eq_self, qbool]
  · simp (disch := omega) only [c_M_count, k_isIn, hv, (show (0 ≤ v ∧ v ≤ 3) = False from eq_false (by omega)), qff hF, Int.lt_irrefl, ↓reduceIte, ↓reduceDIte, zbI, zbL, zbA, zbV, qrg, qrg2, qz, true_and, and_true, true_or, or_true, and_self, or_self, false_or, or_false, false_and, and_false, Int.toNat_natCast, Int.toNat_add, Int.toNat_mul, Int.toNat_zero, Int.toNat_one, qtn, Int.natCast_add, qnat1, qnat0, ne_eq, not_true_eq_false, not_false_eq_true, eq_self, qbool]
/-- the oak with the fewest of the first n -/
def qbar (A : Nat → Int) : Nat → Int
  | 0 => -1
  | n + 1 => if qbar A n = -1 ∨ qic A n < qic A (qbar A n).toNat then (n : Int) else qbar A n
theorem qbar_in (A : Nat → Int) : ∀ n, -1 ≤ qbar A n ∧ qbar A n < n ∧ (0 < n → 0 ≤ qbar A n)
  | 0 => by simp [qbar]
  | n + 1 => by
    have h := qbar_in A n
    unfold qbar
    split
    · omega
    · rename_i hc
      rw [not_or] at hc
      omega
def qfew (A : Nat → Int) (f : Int) : Int := if f = -1 then 0 else (qic A f.toNat : Nat)
theorem kx_bare (hF : qFx S R) (hT : qTw M 10 A) (hA : qIn A) (hg : qRg M 21 (qg A)) : zcal zPP (d + 3) 80 [zA 9] (n, s, S, R, M) = some (zI (qbar A (A 0).toNat), (n, s, S, R, M)) := by
  obtain ⟨a, ha⟩ := Int.eq_ofNat_of_zero_le hA.1.1
  have ha5 := hA.1.2
  have L : ∀ (j i : Nat) (g : zV), i + j = a → zR zPP (d + 2) 80 6 [zA 9, zI (qbar A i), zI (qfew A (qbar A i)), zI i, g] [] (n, s, S, R, M) = some (zI (qbar A a), (n, s, S, R, M)) := by
    intro j
    induction j with
    | zero =>
      intro i g hi
      have : ¬ (i : Int) < A 0 := by omega
      rw [e_X_bare_6]
      simp (disch := omega) only [qtw hT, this, qff hF, Int.lt_irrefl, ↓reduceIte, ↓reduceDIte, zbI, zbL, zbA, zbV, qrg, qrg2, qz, true_and, and_true, true_or, or_true, and_self, or_self, false_or, or_false, false_and, and_false, Int.toNat_natCast, Int.toNat_add, Int.toNat_mul, Int.toNat_zero, Int.toNat_one, qtn, Int.natCast_add, qnat1, qnat0, ne_eq, not_true_eq_false, not_false_eq_true, eq_self, qbool]
      rw [show i = a by omega]
    | succ j ih =>
      intro i g hi
      have hi5 : (i : Int) < A 0 := by omega
      rw [e_X_bare_6]
      simp (disch := omega) only [qtw hT, hi5, kx_inOak hF hT hA hg hi5, k_bitIn, qff hF, Int.lt_irrefl, ↓reduceIte, ↓reduceDIte, zbI, zbL, zbA, zbV, qrg, qrg2, qz, true_and, and_true, true_or, or_true, and_self, or_self, false_or, or_false, false_and, and_false, Int.toNat_natCast, Int.toNat_add, Int.toNat_mul, Int.toNat_zero, Int.toNat_one, qtn, Int.natCast_add, qnat1, qnat0, ne_eq, not_true_eq_false, not_false_eq_true, eq_self, qbool]
      by_cases h1 : qbar A i = -1
      · have hb : qbar A (i + 1) = i := if_pos (Or.inl h1)
        have hf : qfew A (qbar A (i + 1)) = (qic A i : Nat) := by rw [hb]; unfold qfew; rw [if_neg (by omega), Int.toNat_natCast]
        have := ih (i + 1) (zI (qic A i : Nat)) (by omega)
        rw [hf, hb] at this
        rw [if_pos h1]
        exact this
      · rw [if_neg h1]
        have hq : qfew A (qbar A i) = (qic A (qbar A i).toNat : Nat) := if_neg h1
        rw [hq]
        by_cases h2 : qic A i < qic A (qbar A i).toNat
        · have hb : qbar A (i + 1) = i := if_pos (Or.inr h2)
          have hf : qfew A (qbar A (i + 1)) = (qic A i : Nat) := by rw [hb]; unfold qfew; rw [if_neg (by omega), Int.toNat_natCast]
          have := ih (i + 1) (zI (qic A i : Nat)) (by omega)
          rw [hf, hb] at this
          rw [if_pos (by omega)]
          exact this
        · have hb : qbar A (i + 1) = qbar A i := if_neg (not_or.mpr ⟨h1, h2⟩)
          have := ih (i + 1) (zI (qic A i : Nat)) (by omega)
          rw [hb, hq] at this
          rw [if_neg (by omega)]
          exact this
  simp (disch := omega) only [c_X_bare, ha, qff hF, Int.lt_irrefl, ↓reduceIte, ↓reduceDIte, zbI, zbL, zbA, zbV, qrg, qrg2, qz, true_and, and_true, true_or, or_true, and_self, or_self, false_or, or_false, false_and, and_false, Int.toNat_natCast, Int.toNat_add, Int.toNat_mul, Int.toNat_zero, Int.toNat_one, qtn, Int.natCast_add, qnat1, qnat0, ne_eq, not_true_eq_false, not_false_eq_true, eq_self, qbool]
  exact L a 0 zU (by omega)
theorem km_bare (hF : qFx S R) (hA : qIn (M 306)) : zcal zPP (d + 4) 287 [zA 305] (n, s, S, R, M) = some (zI (qbar (M 306) (M 306 0).toNat), (n, s, S, R, M)) := by
  obtain ⟨a, ha⟩ := Int.eq_ofNat_of_zero_le hA.1.1
  have ha5 := hA.1.2
  have L := qlp (P := fun i => zR zPP (d + 3) 287 4 [zA 305, zI (qbar (M 306) i), zI i] [] (n, s, S, R, M)) (N := a) (fun i hi => by
      have hi5 : (i : Int) < M 306 0 := by omega
      have hb := qbar_in (M 306) i
      show zR _ _ _ _ _ _ _ = zR _ _ _ _ _ _ _
      rw [e_M_bare_4]
      simp (disch := omega) only [hi5, qff hF, Int.lt_irrefl, ↓reduceIte, ↓reduceDIte, zbI, zbL, zbA, zbV, qrg, qrg2, qz, true_and, and_true, true_or, or_true, and_self, or_self, false_or, or_false, false_and, and_false, Int.toNat_natCast, Int.toNat_add, Int.toNat_mul, Int.toNat_zero, Int.toNat_one, qtn, Int.natCast_add, qnat1, qnat0, ne_eq, not_true_eq_false, not_false_eq_true, eq_self, qbool]
      by_cases h1 : qbar (M 306) i = -1
      · rw [if_pos h1, show qbar (M 306) (i + 1) = i from if_pos (Or.inl h1)]
      · have hq : qbar (M 306) i = ((qbar (M 306) i).toNat : Int) := by omega
        rw [if_neg h1, km_inside hF (show i < 5 by omega)]
        simp (disch := omega) only [qff hF, Int.lt_irrefl, ↓reduceIte, ↓reduceDIte, zbI, zbL, zbA, zbV, qrg, qrg2, qz, true_and, and_true, true_or, or_true, and_self, or_self, false_or, or_false, false_and, and_false, Int.toNat_natCast, Int.toNat_add, Int.toNat_mul, Int.toNat_zero, Int.toNat_one, qtn, Int.natCast_add, qnat1, qnat0, ne_eq, not_true_eq_false, not_false_eq_true, eq_self, qbool]
        rw [hq, km_inside hF (show (qbar (M 306) i).toNat < 5 by omega)]
        simp (disch := omega) only [qff hF, Int.lt_irrefl, ↓reduceIte, ↓reduceDIte, zbI, zbL, zbA, zbV, qrg, qrg2, qz, true_and, and_true, true_or, or_true, and_self, or_self, false_or, or_false, false_and, and_false, Int.toNat_natCast, Int.toNat_add, Int.toNat_mul, Int.toNat_zero, Int.toNat_one, qtn, Int.natCast_add, qnat1, qnat0, ne_eq, not_true_eq_false, not_false_eq_true, eq_self, qbool]
        by_cases h2 : qic (M 306) i < qic (M 306) (qbar (M 306) i).toNat
        · rw [if_pos (by omega), show qbar (M 306) (i + 1) = i from if_pos (Or.inr h2)]
        · rw [if_neg (by omega), show qbar (M 306) (i + 1) = qbar (M 306) i from if_neg (not_or.mpr ⟨h1, h2⟩), ← hq])
  simp (disch := omega) only [c_M_bare, ha, qff hF, Int.lt_irrefl, ↓reduceIte, ↓reduceDIte, zbI, zbL, zbA, zbV, qrg, qrg2, qz, true_and, and_true, true_or, or_true, and_self, or_self, false_or, or_false, false_and, and_false, Int.toNat_natCast, Int.toNat_add, Int.toNat_mul, Int.toNat_zero, Int.toNat_one, qtn, Int.natCast_add, qnat1, qnat0, ne_eq, not_true_eq_false, not_false_eq_true, eq_self, qbool]
  refine L.trans ?_
  show zR _ _ _ _ _ _ _ = _
  rw [e_M_bare_4]
  have : ¬ (a : Int) < M 306 0 := by omega
  simp (disch := omega) only [this, ha, qff hF, Int.lt_irrefl, ↓reduceIte, ↓reduceDIte, zbI, zbL, zbA, zbV, qrg, qrg2, qz, true_and, and_true, true_or, or_true, and_self, or_self, false_or, or_false, false_and, and_false, Int.toNat_natCast, Int.toNat_add, Int.toNat_mul, Int.toNat_zero, Int.toNat_one, qtn, Int.natCast_add, qnat1, qnat0, ne_eq, not_true_eq_false, not_false_eq_true, eq_self, qbool]
end QF
