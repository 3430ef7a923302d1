/-! fires, twins, run, book, ledger, owed: both sides -/
theorem qz0 (f : Nat → Bool) : (((zsn f 24 : Nat) : Int) = 0) = (qan f 24 = false) := by
  apply propext
  constructor
  · intro h
    have h0 : zsn f 24 = 0 := by omega
    rw [Bool.eq_false_iff]
    intro hq
    obtain ⟨i, h1, h2⟩ := (qan_iff f 24).mp hq
    rw [(zsn_eq0 f 24).mp h0 i h1] at h2
    cases h2
  · intro h
    have h0 : zsn f 24 = 0 := (zsn_eq0 f 24).mpr fun i hi => by
      rw [← Bool.not_eq_true]
      intro hq
      rw [(qan_iff f 24).mpr ⟨i, hi, hq⟩] at h
      cases h
    rw [h0]
    rfl
theorem qan_cong {f g : Nat → Bool} : ∀ {n : Nat}, (∀ i, i < n → f i = g i) → qan f n = qan g n
  | 0, _ => rfl
  | n + 1, h => by
    unfold qan
    rw [qan_cong (fun i hi => h i (by omega)), h n (by omega)]
/-- the kinds of some years -/
def qks (A : Nat → Int) (f : Nat → Bool) (n : Nat) : Nat → Bool := fun k => qan (fun y => f y && decide (A (136 + y) = k)) n
theorem qks_yes {A : Nat → Int} {f : Nat → Bool} {i k : Nat} (hf : f i = true) (hk : A (136 + i) = k) (h4 : k < 4) : zor (zsn (qks A f i) 4 : Nat) (zshl 1 (k : Int)) = (zsn (qks A f (i + 1)) 4 : Nat) := by
  have h2 : 2 ^ k < 2147483648 := Nat.lt_of_lt_of_le (Nat.pow_lt_pow_right (by decide) (show k < 31 by omega)) (Nat.le_refl (2 ^ 31))
  rw [zshl_one (by omega), zor_nat (zsn_lt31 _ (by decide)) h2, zsn_put _ h4]
  refine congrArg (fun x : Nat => (x : Int)) (zsn_cong fun j hj => ?_)
  show (qks A f i j || decide (j = k)) = (qks A f i j || (f i && decide (A (136 + i) = j)))
  rw [hf, hk, Bool.true_and]
  congr 1
  rw [Bool.eq_iff_iff, decide_eq_true_iff, decide_eq_true_iff]
  omega
theorem qks_no {A : Nat → Int} {f : Nat → Bool} {i : Nat} (hf : f i = false) : zsn (qks A f i) 4 = zsn (qks A f (i + 1)) 4 := by
  refine zsn_cong fun j hj => ?_
  show qks A f i j = (qks A f i j || (f i && decide (A (136 + i) = j)))
  rw [hf, Bool.false_and, Bool.or_false]
theorem qks_0 (A : Nat → Int) (f : Nat → Bool) : zsn (qks A f 0) 4 = 0 := rfl
section QF
variable {S : Nat → Nat × Nat} {R : Nat → Nat → Nat} {M M' : Nat → Nat → Int} {n s d : Nat} {A : Nat → Int} {W : Nat → qWt}
theorem kx_kindsOf (hF : qFx S R) (hT : qTw M 10 A) (hA : qIn A) (f : Nat → Bool) : zcal zPP (d + 1) 172 [zA 10, zI (zsn f 24 : Nat)] (n, s, S, R, M) = some (zI (zsn (qks A f 24) 4 : Nat), (n, s, S, R, M)) := by
  have L := qlp (P := fun i => zR zPP d 172 4 [zA 10, zI (zsn f 24 : Nat), zI (zsn (qks A f i) 4 : Nat), zI i] [] (n, s, S, R, M)) (N := 24) (fun i hi => by
    have hk := hT.2.2.1 i hi
    have hb := hA.2.2.2.2.2.2.2.2.2.2.2.2.1 i hi
    obtain ⟨k, hk2⟩ := Int.eq_ofNat_of_zero_le hb.1
    show zR _ _ _ _ _ _ _ = zR _ _ _ _ _ _ _
    rw [e_Town_kindsOf_4, zsn_bit24 _ hi]
    by_cases hf : f i = true
    · rw [if_pos hf]
      simp (disch := omega) only [hk, qff hF, qltT, qltF, qleT, qleF, qeqT, qeqF, Int.reduceEq, Int.reduceNe, Int.reduceLT, Int.reduceLE, Int.reduceToNat, Int.reduceAdd, Int.reduceSub, Int.reduceMul, Int.reduceNeg, Nat.reduceAdd, Nat.reduceMul, Nat.reduceEqDiff, Nat.reduceLT, Int.cast_ofNat_Int, Int.lt_irrefl, ↓reduceIte, ↓reduceDIte, zbI, zbL, zbA, zbV, qrg, qrg2, qnn, qz, zup_at, zup_r, zup_ne, true_and, and_true, true_or, or_true, and_self, or_self, false_or, or_false, false_and, and_false, Int.toNat_natCast, Int.toNat_add, Int.toNat_mul, Int.toNat_zero, Int.toNat_one, qtn, Int.natCast_add, qnat1, qnat0, ne_eq, not_true_eq_false, not_false_eq_true, eq_self, qbool]
      rw [hk2, qks_yes hf hk2 (by omega)]
    · rw [if_neg hf, qks_no (A := A) (by simpa using hf)]
      simp (disch := omega) only [qff hF, qltT, qltF, qleT, qleF, qeqT, qeqF, Int.reduceEq, Int.reduceNe, Int.reduceLT, Int.reduceLE, Int.reduceToNat, Int.reduceAdd, Int.reduceSub, Int.reduceMul, Int.reduceNeg, Nat.reduceAdd, Nat.reduceMul, Nat.reduceEqDiff, Nat.reduceLT, Int.cast_ofNat_Int, Int.lt_irrefl, ↓reduceIte, ↓reduceDIte, zbI, zbL, zbA, zbV, qrg, qrg2, qnn, qz, zup_at, zup_r, zup_ne, true_and, and_true, true_or, or_true, and_self, or_self, false_or, or_false, false_and, and_false, Int.toNat_natCast, Int.toNat_add, Int.toNat_mul, Int.toNat_zero, Int.toNat_one, qtn, Int.natCast_add, qnat1, qnat0, ne_eq, not_true_eq_false, not_false_eq_true, eq_self, qbool])
  simp (disch := omega) only [c_Town_kindsOf, qff hF, qltT, qltF, qleT, qleF, qeqT, qeqF, Int.reduceEq, Int.reduceNe, Int.reduceLT, Int.reduceLE, Int.reduceToNat, Int.reduceAdd, Int.reduceSub, Int.reduceMul, Int.reduceNeg, Nat.reduceAdd, Nat.reduceMul, Nat.reduceEqDiff, Nat.reduceLT, Int.cast_ofNat_Int, Int.lt_irrefl, ↓reduceIte, ↓reduceDIte, zbI, zbL, zbA, zbV, qrg, qrg2, qnn, qz, zup_at, zup_r, zup_ne, true_and, and_true, true_or, or_true, and_self, or_self, false_or, or_false, false_and, and_false, Int.toNat_natCast, Int.toNat_add, Int.toNat_mul, Int.toNat_zero, Int.toNat_one, qtn, Int.natCast_add, qnat1, qnat0, ne_eq, not_true_eq_false, not_false_eq_true, eq_self, qbool]
  rw [qks_0] at L
  refine Eq.trans L ?_
  show zR _ _ _ _ _ _ _ = _
  rw [e_Town_kindsOf_4, if_neg (by decide)]
theorem km_kindsOf (hF : qFx S R) (hA : qIn (M 306)) (f : Nat → Bool) : zcal zPP (d + 2) 271 [zA 305, zI (zsn f 24 : Nat)] (n, s, S, R, M) = some (zI (zsn (qks (M 306) f 24) 4 : Nat), (n, s, S, R, M)) := by
  have L := qlp (P := fun i => zR zPP (d + 1) 271 4 [zA 305, zI (zsn f 24 : Nat), zI (zsn (qks (M 306) f i) 4 : Nat), zI i] [] (n, s, S, R, M)) (N := 24) (fun i hi => by
    have hb := hA.2.2.2.2.2.2.2.2.2.2.2.2.1 i hi
    obtain ⟨k, hk2⟩ := Int.eq_ofNat_of_zero_le hb.1
    have hl := zsn_24 f
    show zR _ _ _ _ _ _ _ = zR _ _ _ _ _ _ _
    rw [e_M_kindsOf_4, if_pos (show (i : Int) < 24 by omega), k_has hl (by omega), zsn_bit]
    simp only [zbI, hi, decide_true, Bool.true_and]
    by_cases hf : f i = true
    · rw [if_pos hf]
      simp (disch := omega) only [hk2, qff hF, qltT, qltF, qleT, qleF, qeqT, qeqF, Int.reduceEq, Int.reduceNe, Int.reduceLT, Int.reduceLE, Int.reduceToNat, Int.reduceAdd, Int.reduceSub, Int.reduceMul, Int.reduceNeg, Nat.reduceAdd, Nat.reduceMul, Nat.reduceEqDiff, Nat.reduceLT, Int.cast_ofNat_Int, Int.lt_irrefl, ↓reduceIte, ↓reduceDIte, zbI, zbL, zbA, zbV, qrg, qrg2, qnn, qz, zup_at, zup_r, zup_ne, true_and, and_true, true_or, or_true, and_self, or_self, false_or, or_false, false_and, and_false, Int.toNat_natCast, Int.toNat_add, Int.toNat_mul, Int.toNat_zero, Int.toNat_one, qtn, Int.natCast_add, qnat1, qnat0, ne_eq, not_true_eq_false, not_false_eq_true, eq_self, qbool]
      rw [qks_yes hf hk2 (by omega)]
    · rw [if_neg hf, if_pos rfl, zor_zero (zsn_lt31 _ (by decide)), qks_no (A := M 306) (by simpa using hf)]
      simp (disch := omega) only [qff hF, qltT, qltF, qleT, qleF, qeqT, qeqF, Int.reduceEq, Int.reduceNe, Int.reduceLT, Int.reduceLE, Int.reduceToNat, Int.reduceAdd, Int.reduceSub, Int.reduceMul, Int.reduceNeg, Nat.reduceAdd, Nat.reduceMul, Nat.reduceEqDiff, Nat.reduceLT, Int.cast_ofNat_Int, Int.lt_irrefl, ↓reduceIte, ↓reduceDIte, zbI, zbL, zbA, zbV, qrg, qrg2, qnn, qz, zup_at, zup_r, zup_ne, true_and, and_true, true_or, or_true, and_self, or_self, false_or, or_false, false_and, and_false, Int.toNat_natCast, Int.toNat_add, Int.toNat_mul, Int.toNat_zero, Int.toNat_one, qtn, Int.natCast_add, qnat1, qnat0, ne_eq, not_true_eq_false, not_false_eq_true, eq_self, qbool])
  simp (disch := omega) only [c_M_kindsOf, qff hF, qltT, qltF, qleT, qleF, qeqT, qeqF, Int.reduceEq, Int.reduceNe, Int.reduceLT, Int.reduceLE, Int.reduceToNat, Int.reduceAdd, Int.reduceSub, Int.reduceMul, Int.reduceNeg, Nat.reduceAdd, Nat.reduceMul, Nat.reduceEqDiff, Nat.reduceLT, Int.cast_ofNat_Int, Int.lt_irrefl, ↓reduceIte, ↓reduceDIte, zbI, zbL, zbA, zbV, qrg, qrg2, qnn, qz, zup_at, zup_r, zup_ne, true_and, and_true, true_or, or_true, and_self, or_self, false_or, or_false, false_and, and_false, Int.toNat_natCast, Int.toNat_add, Int.toNat_mul, Int.toNat_zero, Int.toNat_one, qtn, Int.natCast_add, qnat1, qnat0, ne_eq, not_true_eq_false, not_false_eq_true, eq_self, qbool]
  rw [qks_0] at L
  refine Eq.trans L ?_
  show zR _ _ _ _ _ _ _ = _
  rw [e_M_kindsOf_4, if_neg (by decide)]
def qfir (A : Nat → Int) : Nat → Bool := fun p => qks A (qyb A p) 24 3
theorem qb_fires (hw : qWd n S R M W) : qBo 81 288 [] n s S R M := by
  have hA := hw.2.1.2.2.2
  have hF := hw.1.2.1
  have hT := hw.2.1.1
  have hg := hw.2.1.2.1.1
  have hp5 := hA.2.1.2
  obtain ⟨a, ha⟩ := Int.eq_ofNat_of_zero_le hA.2.1.1
  have e3 : ∀ p, (qan (fun y => qyb (M 306) p y && qyk (M 306) (2 ^ 3) y) 24) = qfir (M 306) p := fun p => qan_cong fun y hy => by rw [qyk_one hA hy]
  have LX := qlp (P := fun i => zR zPP 99 81 9 [zA 9, zI (zsn (qyk (M 306) 8) 24 : Nat), zI (zsn (qfir (M 306)) i : Nat), zI i] [] (n, s, S, R, M)) (N := a) (fun i hi => by
    show zR _ _ _ _ _ _ _ = zR _ _ _ _ _ _ _
    rw [e_X_fires_9]
    simp (disch := omega) only [qtw hT, ha, kx_yearsOf hF hg (show i < 5 by omega), zsn_and24, qz0, qff hF, qltT, qltF, qleT, qleF, qeqT, qeqF, Int.reduceEq, Int.reduceNe, Int.reduceLT, Int.reduceLE, Int.reduceToNat, Int.reduceAdd, Int.reduceSub, Int.reduceMul, Int.reduceNeg, Nat.reduceAdd, Nat.reduceMul, Nat.reduceEqDiff, Nat.reduceLT, Int.cast_ofNat_Int, Int.lt_irrefl, ↓reduceIte, ↓reduceDIte, zbI, zbL, zbA, zbV, qrg, qrg2, qnn, qz, zup_at, zup_r, zup_ne, true_and, and_true, true_or, or_true, and_self, or_self, false_or, or_false, false_and, and_false, Int.toNat_natCast, Int.toNat_add, Int.toNat_mul, Int.toNat_zero, Int.toNat_one, qtn, Int.natCast_add, qnat1, qnat0, ne_eq, not_true_eq_false, not_false_eq_true, eq_self, qbool]
    rw [show (8 : Nat) = 2 ^ 3 from rfl, e3]
    cases hq : qfir (M 306) i with
    | true => rw [if_neg (by decide), zor_put (by omega) hq]
    | false => rw [if_pos rfl, zsn_no hq])
  have hX : zcal zPP 100 81 [zA 9] (n, s, S, R, M) = some (zI (zsn (qfir (M 306)) a : Nat), (n, s, S, R, M)) := by
    have hk := kx_yearsOfKinds (n := n) (s := s) (d := 98) (M := M) hF hT hA (k := 8) (by decide)
    have hk' : zcal zPP 99 173 [zA 10, zI 8] (n, s, S, R, M) = some (zI (zsn (qyk (M 306) 8) 24 : Nat), (n, s, S, R, M)) := hk
    rw [c_X_fires]
    simp (disch := omega) only [hk', qff hF, qltT, qltF, qleT, qleF, qeqT, qeqF, Int.reduceEq, Int.reduceNe, Int.reduceLT, Int.reduceLE, Int.reduceToNat, Int.reduceAdd, Int.reduceSub, Int.reduceMul, Int.reduceNeg, Nat.reduceAdd, Nat.reduceMul, Nat.reduceEqDiff, Nat.reduceLT, Int.cast_ofNat_Int, Int.lt_irrefl, ↓reduceIte, ↓reduceDIte, zbI, zbL, zbA, zbV, qrg, qrg2, qnn, qz, zup_at, zup_r, zup_ne, true_and, and_true, true_or, or_true, and_self, or_self, false_or, or_false, false_and, and_false, Int.toNat_natCast, Int.toNat_add, Int.toNat_mul, Int.toNat_zero, Int.toNat_one, qtn, Int.natCast_add, qnat1, qnat0, ne_eq, not_true_eq_false, not_false_eq_true, eq_self, qbool]
    refine LX.trans ?_
    show zR _ _ _ _ _ _ _ = _
    rw [e_X_fires_9]
    simp (disch := omega) only [qtw hT, ha, qff hF, qltT, qltF, qleT, qleF, qeqT, qeqF, Int.reduceEq, Int.reduceNe, Int.reduceLT, Int.reduceLE, Int.reduceToNat, Int.reduceAdd, Int.reduceSub, Int.reduceMul, Int.reduceNeg, Nat.reduceAdd, Nat.reduceMul, Nat.reduceEqDiff, Nat.reduceLT, Int.cast_ofNat_Int, Int.lt_irrefl, ↓reduceIte, ↓reduceDIte, zbI, zbL, zbA, zbV, qrg, qrg2, qnn, qz, zup_at, zup_r, zup_ne, true_and, and_true, true_or, or_true, and_self, or_self, false_or, or_false, false_and, and_false, Int.toNat_natCast, Int.toNat_add, Int.toNat_mul, Int.toNat_zero, Int.toNat_one, qtn, Int.natCast_add, qnat1, qnat0, ne_eq, not_true_eq_false, not_false_eq_true, eq_self, qbool]
  have LM := qlp (P := fun i => zR zPP 99 288 4 [zA 305, zI (zsn (qfir (M 306)) i : Nat), zI i] [] (n, s, S, R, M)) (N := a) (fun i hi => by
    have hl : zsn (qks (M 306) (qyb (M 306) i) 24) 4 < 2147483648 := zsn_lt31 _ (by decide)
    have hh := fun σ => k_has (d := 98) (a := zsn (qks (M 306) (qyb (M 306) i) 24) 4) (k := 3) hl (by decide) σ
    rw [zsn_bit] at hh
    have hh' : ∀ σ, zcal zPP 99 181 [zI (zsn (qks (M 306) (qyb (M 306) i) 24) 4 : Nat), zI 3] σ = some (zI (if qfir (M 306) i = true then 1 else 0), σ) := hh
    show zR _ _ _ _ _ _ _ = zR _ _ _ _ _ _ _
    rw [e_M_fires_4]
    simp (disch := omega) only [ha, km_yearsBy hF hA (show i < 5 by omega), km_kindsOf hF hA, hh', qff hF, qltT, qltF, qleT, qleF, qeqT, qeqF, Int.reduceEq, Int.reduceNe, Int.reduceLT, Int.reduceLE, Int.reduceToNat, Int.reduceAdd, Int.reduceSub, Int.reduceMul, Int.reduceNeg, Nat.reduceAdd, Nat.reduceMul, Nat.reduceEqDiff, Nat.reduceLT, Int.cast_ofNat_Int, Int.lt_irrefl, ↓reduceIte, ↓reduceDIte, zbI, zbL, zbA, zbV, qrg, qrg2, qnn, qz, zup_at, zup_r, zup_ne, true_and, and_true, true_or, or_true, and_self, or_self, false_or, or_false, false_and, and_false, Int.toNat_natCast, Int.toNat_add, Int.toNat_mul, Int.toNat_zero, Int.toNat_one, qtn, Int.natCast_add, qnat1, qnat0, ne_eq, not_true_eq_false, not_false_eq_true, eq_self, qbool]
    by_cases hq : qfir (M 306) i = true
    · rw [if_pos hq, if_neg (by decide), zor_put (by omega) hq]
    · rw [if_neg hq, if_pos rfl, zor_zero (zsn_lt31 _ (by omega)), zsn_no (by simpa using hq)])
  have hM : zcal zPP 100 288 [zA 305] (n, s, S, R, M) = some (zI (zsn (qfir (M 306)) a : Nat), (n, s, S, R, M)) := by
    rw [c_M_fires]
    simp (disch := omega) only [qff hF, qltT, qltF, qleT, qleF, qeqT, qeqF, Int.reduceEq, Int.reduceNe, Int.reduceLT, Int.reduceLE, Int.reduceToNat, Int.reduceAdd, Int.reduceSub, Int.reduceMul, Int.reduceNeg, Nat.reduceAdd, Nat.reduceMul, Nat.reduceEqDiff, Nat.reduceLT, Int.cast_ofNat_Int, Int.lt_irrefl, ↓reduceIte, ↓reduceDIte, zbI, zbL, zbA, zbV, qrg, qrg2, qnn, qz, zup_at, zup_r, zup_ne, true_and, and_true, true_or, or_true, and_self, or_self, false_or, or_false, false_and, and_false, Int.toNat_natCast, Int.toNat_add, Int.toNat_mul, Int.toNat_zero, Int.toNat_one, qtn, Int.natCast_add, qnat1, qnat0, ne_eq, not_true_eq_false, not_false_eq_true, eq_self, qbool]
    refine LM.trans ?_
    show zR _ _ _ _ _ _ _ = _
    rw [e_M_fires_4]
    simp (disch := omega) only [ha, qff hF, qltT, qltF, qleT, qleF, qeqT, qeqF, Int.reduceEq, Int.reduceNe, Int.reduceLT, Int.reduceLE, Int.reduceToNat, Int.reduceAdd, Int.reduceSub, Int.reduceMul, Int.reduceNeg, Nat.reduceAdd, Nat.reduceMul, Nat.reduceEqDiff, Nat.reduceLT, Int.cast_ofNat_Int, Int.lt_irrefl, ↓reduceIte, ↓reduceDIte, zbI, zbL, zbA, zbV, qrg, qrg2, qnn, qz, zup_at, zup_r, zup_ne, true_and, and_true, true_or, or_true, and_self, or_self, false_or, or_false, false_and, and_false, Int.toNat_natCast, Int.toNat_add, Int.toNat_mul, Int.toNat_zero, Int.toNat_one, qtn, Int.natCast_add, qnat1, qnat0, ne_eq, not_true_eq_false, not_false_eq_true, eq_self, qbool]
  exact qBo_same hw hX hM
/-! twins -/
def qadj (A : Nat → Int) (p q : Nat) : Bool := qan (fun y => qyb A p y && qyb A q y) 24
def qtwi (A : Nat → Int) (a p : Nat) : Nat := zct (fun t => qadj A p (p + 1 + t)) (a - (p + 1))
theorem qb_twins (hw : qWd n S R M W) : qBo 54 292 [] n s S R M := by
  have hA := hw.2.1.2.2.2
  have hF := hw.1.2.1
  have hT := hw.2.1.1
  have hg := hw.2.1.2.1.1
  have hp5 := hA.2.1.2
  obtain ⟨a, ha⟩ := Int.eq_ofNat_of_zero_le hA.2.1.1
  have hbd : ∀ i, i ≤ a → qsm (qtwi (M 306) a) i ≤ 5 * i := fun i _ => qsm_le (fun p => Nat.le_trans (zct_le _ _) (by omega)) i
  have LX2 : ∀ p, p < a → zR zPP 99 54 13 [zA 9, zI (qsm (qtwi (M 306) a) p : Nat), zI p, zI ((p + 1 : Nat) : Int)] [] (n, s, S, R, M) = zR zPP 99 54 13 [zA 9, zI (qsm (qtwi (M 306) a) (p + 1) : Nat), zI p, zI (a : Nat)] [] (n, s, S, R, M) := by
    intro p hp
    have hb := hbd p (by omega)
    have := qlp (P := fun t => zR zPP 99 54 13 [zA 9, zI ((qsm (qtwi (M 306) a) p + zct (fun t => qadj (M 306) p (p + 1 + t)) t : Nat) : Int), zI p, zI ((p + 1 + t : Nat) : Int)] [] (n, s, S, R, M)) (N := a - (p + 1)) (fun t ht => by
      have hz := zct_le (fun t => qadj (M 306) p (p + 1 + t)) t
      have e1 := kx_yearsOf (n := n) (s := s) (d := 97) (M := M) hF hg (show p + 1 + t < 5 by omega)
      have e1' : zcal zPP 99 145 [zA 21, zI ((p : Int) + 1 + t)] (n, s, S, R, M) = some (zI (zsn (qyb (M 306) (p + 1 + t)) 24 : Nat), (n, s, S, R, M)) := e1
      show zR _ _ _ _ _ _ _ = zR _ _ _ _ _ _ _
      rw [e_X_twins_13, zct_s]
      simp (disch := omega) only [qtw hT, ha, kx_yearsOf hF hg (show p < 5 by omega), e1', zsn_and24, qz0, qff hF, qltT, qltF, qleT, qleF, qeqT, qeqF, Int.reduceEq, Int.reduceNe, Int.reduceLT, Int.reduceLE, Int.reduceToNat, Int.reduceAdd, Int.reduceSub, Int.reduceMul, Int.reduceNeg, Nat.reduceAdd, Nat.reduceMul, Nat.reduceEqDiff, Nat.reduceLT, Int.cast_ofNat_Int, Int.lt_irrefl, ↓reduceIte, ↓reduceDIte, zbI, zbL, zbA, zbV, qrg, qrg2, qnn, qz, zup_at, zup_r, zup_ne, true_and, and_true, true_or, or_true, and_self, or_self, false_or, or_false, false_and, and_false, Int.toNat_natCast, Int.toNat_add, Int.toNat_mul, Int.toNat_zero, Int.toNat_one, qtn, Int.natCast_add, qnat1, qnat0, ne_eq, not_true_eq_false, not_false_eq_true, eq_self, qbool]
      cases hq : qadj (M 306) p (p + 1 + t) with
      | true => rw [if_neg (by unfold qadj at hq; rw [hq]; decide), if_pos rfl]; rfl
      | false => rw [if_pos (by unfold qadj at hq; exact hq), if_neg (by decide)]; rfl)
    refine this.trans ?_
    show zR _ _ _ _ _ _ _ = _
    rw [show p + 1 + (a - (p + 1)) = a by omega]
    rfl
  have LX : ∀ (j p : Nat) (g : zV), p + j = a → zR zPP 99 54 4 [zA 9, zI (qsm (qtwi (M 306) a) p : Nat), zI p, g] [] (n, s, S, R, M) = some (zI (qsm (qtwi (M 306) a) a : Nat), (n, s, S, R, M)) := by
    intro j
    induction j with
    | zero =>
      intro p g hp
      rw [e_X_twins_4]
      simp (disch := omega) only [qtw hT, ha, qff hF, qltT, qltF, qleT, qleF, qeqT, qeqF, Int.reduceEq, Int.reduceNe, Int.reduceLT, Int.reduceLE, Int.reduceToNat, Int.reduceAdd, Int.reduceSub, Int.reduceMul, Int.reduceNeg, Nat.reduceAdd, Nat.reduceMul, Nat.reduceEqDiff, Nat.reduceLT, Int.cast_ofNat_Int, Int.lt_irrefl, ↓reduceIte, ↓reduceDIte, zbI, zbL, zbA, zbV, qrg, qrg2, qnn, qz, zup_at, zup_r, zup_ne, true_and, and_true, true_or, or_true, and_self, or_self, false_or, or_false, false_and, and_false, Int.toNat_natCast, Int.toNat_add, Int.toNat_mul, Int.toNat_zero, Int.toNat_one, qtn, Int.natCast_add, qnat1, qnat0, ne_eq, not_true_eq_false, not_false_eq_true, eq_self, qbool]
      rw [show p = a by omega]
    | succ j ih =>
      intro p g hp
      rw [e_X_twins_4]
      simp (disch := omega) only [qtw hT, ha, qff hF, qltT, qltF, qleT, qleF, qeqT, qeqF, Int.reduceEq, Int.reduceNe, Int.reduceLT, Int.reduceLE, Int.reduceToNat, Int.reduceAdd, Int.reduceSub, Int.reduceMul, Int.reduceNeg, Nat.reduceAdd, Nat.reduceMul, Nat.reduceEqDiff, Nat.reduceLT, Int.cast_ofNat_Int, Int.lt_irrefl, ↓reduceIte, ↓reduceDIte, zbI, zbL, zbA, zbV, qrg, qrg2, qnn, qz, zup_at, zup_r, zup_ne, true_and, and_true, true_or, or_true, and_self, or_self, false_or, or_false, false_and, and_false, Int.toNat_natCast, Int.toNat_add, Int.toNat_mul, Int.toNat_zero, Int.toNat_one, qtn, Int.natCast_add, qnat1, qnat0, ne_eq, not_true_eq_false, not_false_eq_true, eq_self, qbool]
      have := LX2 p (by omega)
      refine Eq.trans this ?_
      rw [e_X_twins_13]
      simp (disch := omega) only [qtw hT, ha, qff hF, qltT, qltF, qleT, qleF, qeqT, qeqF, Int.reduceEq, Int.reduceNe, Int.reduceLT, Int.reduceLE, Int.reduceToNat, Int.reduceAdd, Int.reduceSub, Int.reduceMul, Int.reduceNeg, Nat.reduceAdd, Nat.reduceMul, Nat.reduceEqDiff, Nat.reduceLT, Int.cast_ofNat_Int, Int.lt_irrefl, ↓reduceIte, ↓reduceDIte, zbI, zbL, zbA, zbV, qrg, qrg2, qnn, qz, zup_at, zup_r, zup_ne, true_and, and_true, true_or, or_true, and_self, or_self, false_or, or_false, false_and, and_false, Int.toNat_natCast, Int.toNat_add, Int.toNat_mul, Int.toNat_zero, Int.toNat_one, qtn, Int.natCast_add, qnat1, qnat0, ne_eq, not_true_eq_false, not_false_eq_true, eq_self, qbool]
      exact ih (p + 1) _ (by omega)
  have hX : zcal zPP 100 54 [zA 9] (n, s, S, R, M) = some (zI (qsm (qtwi (M 306) a) a : Nat), (n, s, S, R, M)) := by
    rw [c_X_twins]
    simp (disch := omega) only [qff hF, qltT, qltF, qleT, qleF, qeqT, qeqF, Int.reduceEq, Int.reduceNe, Int.reduceLT, Int.reduceLE, Int.reduceToNat, Int.reduceAdd, Int.reduceSub, Int.reduceMul, Int.reduceNeg, Nat.reduceAdd, Nat.reduceMul, Nat.reduceEqDiff, Nat.reduceLT, Int.cast_ofNat_Int, Int.lt_irrefl, ↓reduceIte, ↓reduceDIte, zbI, zbL, zbA, zbV, qrg, qrg2, qnn, qz, zup_at, zup_r, zup_ne, true_and, and_true, true_or, or_true, and_self, or_self, false_or, or_false, false_and, and_false, Int.toNat_natCast, Int.toNat_add, Int.toNat_mul, Int.toNat_zero, Int.toNat_one, qtn, Int.natCast_add, qnat1, qnat0, ne_eq, not_true_eq_false, not_false_eq_true, eq_self, qbool]
    exact LX a 0 zU (by omega)
  have LM2 : ∀ p, p < a → zR zPP 99 292 14 [zA 305, zI (qsm (qtwi (M 306) a) p : Nat), zI p, zI ((p + 1 : Nat) : Int)] [] (n, s, S, R, M) = zR zPP 99 292 14 [zA 305, zI (qsm (qtwi (M 306) a) (p + 1) : Nat), zI p, zI (a : Nat)] [] (n, s, S, R, M) := by
    intro p hp
    have hb := hbd p (by omega)
    have := qlp (P := fun t => zR zPP 99 292 14 [zA 305, zI ((qsm (qtwi (M 306) a) p + zct (fun t => qadj (M 306) p (p + 1 + t)) t : Nat) : Int), zI p, zI ((p + 1 + t : Nat) : Int)] [] (n, s, S, R, M)) (N := a - (p + 1)) (fun t ht => by
      have hz := zct_le (fun t => qadj (M 306) p (p + 1 + t)) t
      have e1 := km_yearsBy (n := n) (s := s) (d := 96) (M := M) hF hA (show p + 1 + t < 5 by omega)
      have e1' : zcal zPP 99 270 [zA 305, zI ((p : Int) + 1 + t)] (n, s, S, R, M) = some (zI (zsn (qyb (M 306) (p + 1 + t)) 24 : Nat), (n, s, S, R, M)) := e1
      show zR _ _ _ _ _ _ _ = zR _ _ _ _ _ _ _
      rw [e_M_twins_14, zct_s]
      simp (disch := omega) only [ha, km_yearsBy hF hA (show p < 5 by omega), e1', zsn_and24, qz0, qff hF, qltT, qltF, qleT, qleF, qeqT, qeqF, Int.reduceEq, Int.reduceNe, Int.reduceLT, Int.reduceLE, Int.reduceToNat, Int.reduceAdd, Int.reduceSub, Int.reduceMul, Int.reduceNeg, Nat.reduceAdd, Nat.reduceMul, Nat.reduceEqDiff, Nat.reduceLT, Int.cast_ofNat_Int, Int.lt_irrefl, ↓reduceIte, ↓reduceDIte, zbI, zbL, zbA, zbV, qrg, qrg2, qnn, qz, zup_at, zup_r, zup_ne, true_and, and_true, true_or, or_true, and_self, or_self, false_or, or_false, false_and, and_false, Int.toNat_natCast, Int.toNat_add, Int.toNat_mul, Int.toNat_zero, Int.toNat_one, qtn, Int.natCast_add, qnat1, qnat0, ne_eq, not_true_eq_false, not_false_eq_true, eq_self, qbool]
      cases hq : qadj (M 306) p (p + 1 + t) with
      | true => rw [if_neg (by unfold qadj at hq; rw [hq]; decide), if_pos rfl]; rfl
      | false => rw [if_pos (by unfold qadj at hq; exact hq), if_neg (by decide)]; rfl)
    refine this.trans ?_
    show zR _ _ _ _ _ _ _ = _
    rw [show p + 1 + (a - (p + 1)) = a by omega]
    rfl
  have LM : ∀ (j p : Nat) (g : zV), p + j = a → zR zPP 99 292 4 [zA 305, zI (qsm (qtwi (M 306) a) p : Nat), zI p, g] [] (n, s, S, R, M) = some (zI (qsm (qtwi (M 306) a) a : Nat), (n, s, S, R, M)) := by
    intro j
    induction j with
    | zero =>
      intro p g hp
      rw [e_M_twins_4]
      simp (disch := omega) only [ha, qff hF, qltT, qltF, qleT, qleF, qeqT, qeqF, Int.reduceEq, Int.reduceNe, Int.reduceLT, Int.reduceLE, Int.reduceToNat, Int.reduceAdd, Int.reduceSub, Int.reduceMul, Int.reduceNeg, Nat.reduceAdd, Nat.reduceMul, Nat.reduceEqDiff, Nat.reduceLT, Int.cast_ofNat_Int, Int.lt_irrefl, ↓reduceIte, ↓reduceDIte, zbI, zbL, zbA, zbV, qrg, qrg2, qnn, qz, zup_at, zup_r, zup_ne, true_and, and_true, true_or, or_true, and_self, or_self, false_or, or_false, false_and, and_false, Int.toNat_natCast, Int.toNat_add, Int.toNat_mul, Int.toNat_zero, Int.toNat_one, qtn, Int.natCast_add, qnat1, qnat0, ne_eq, not_true_eq_false, not_false_eq_true, eq_self, qbool]
      rw [show p = a by omega]
    | succ j ih =>
      intro p g hp
      rw [e_M_twins_4]
      simp (disch := omega) only [ha, qff hF, qltT, qltF, qleT, qleF, qeqT, qeqF, Int.reduceEq, Int.reduceNe, Int.reduceLT, Int.reduceLE, Int.reduceToNat, Int.reduceAdd, Int.reduceSub, Int.reduceMul, Int.reduceNeg, Nat.reduceAdd, Nat.reduceMul, Nat.reduceEqDiff, Nat.reduceLT, Int.cast_ofNat_Int, Int.lt_irrefl, ↓reduceIte, ↓reduceDIte, zbI, zbL, zbA, zbV, qrg, qrg2, qnn, qz, zup_at, zup_r, zup_ne, true_and, and_true, true_or, or_true, and_self, or_self, false_or, or_false, false_and, and_false, Int.toNat_natCast, Int.toNat_add, Int.toNat_mul, Int.toNat_zero, Int.toNat_one, qtn, Int.natCast_add, qnat1, qnat0, ne_eq, not_true_eq_false, not_false_eq_true, eq_self, qbool]
      have := LM2 p (by omega)
      refine Eq.trans this ?_
      rw [e_M_twins_14]
      simp (disch := omega) only [ha, qff hF, qltT, qltF, qleT, qleF, qeqT, qeqF, Int.reduceEq, Int.reduceNe, Int.reduceLT, Int.reduceLE, Int.reduceToNat, Int.reduceAdd, Int.reduceSub, Int.reduceMul, Int.reduceNeg, Nat.reduceAdd, Nat.reduceMul, Nat.reduceEqDiff, Nat.reduceLT, Int.cast_ofNat_Int, Int.lt_irrefl, ↓reduceIte, ↓reduceDIte, zbI, zbL, zbA, zbV, qrg, qrg2, qnn, qz, zup_at, zup_r, zup_ne, true_and, and_true, true_or, or_true, and_self, or_self, false_or, or_false, false_and, and_false, Int.toNat_natCast, Int.toNat_add, Int.toNat_mul, Int.toNat_zero, Int.toNat_one, qtn, Int.natCast_add, qnat1, qnat0, ne_eq, not_true_eq_false, not_false_eq_true, eq_self, qbool]
      exact ih (p + 1) _ (by omega)
  have hM : zcal zPP 100 292 [zA 305] (n, s, S, R, M) = some (zI (qsm (qtwi (M 306) a) a : Nat), (n, s, S, R, M)) := by
    rw [c_M_twins]
    simp (disch := omega) only [qff hF, qltT, qltF, qleT, qleF, qeqT, qeqF, Int.reduceEq, Int.reduceNe, Int.reduceLT, Int.reduceLE, Int.reduceToNat, Int.reduceAdd, Int.reduceSub, Int.reduceMul, Int.reduceNeg, Nat.reduceAdd, Nat.reduceMul, Nat.reduceEqDiff, Nat.reduceLT, Int.cast_ofNat_Int, Int.lt_irrefl, ↓reduceIte, ↓reduceDIte, zbI, zbL, zbA, zbV, qrg, qrg2, qnn, qz, zup_at, zup_r, zup_ne, true_and, and_true, true_or, or_true, and_self, or_self, false_or, or_false, false_and, and_false, Int.toNat_natCast, Int.toNat_add, Int.toNat_mul, Int.toNat_zero, Int.toNat_one, qtn, Int.natCast_add, qnat1, qnat0, ne_eq, not_true_eq_false, not_false_eq_true, eq_self, qbool]
    exact LM a 0 zU (by omega)
  exact qBo_same hw hX hM
end QF
