/-! THE MODEL'S STACK MACHINE as a plain function -/
def qask (o : Nat) (a b : Int) : Int := if o = 10 then (if a < b then 1 else 0) else if o = 11 then (if a ≤ b then 1 else 0) else if o = 12 then (if b < a then 1 else 0) else if o = 13 then (if b ≤ a then 1 else 0) else if o = 14 then (if a = b then 1 else 0) else (if a = b then 0 else 1)
def qmt (o : Nat) (a b : Int) : Int := if o = 6 then qclip (a + b) else if o = 7 then qclip (a - b) else if o = 8 then qclip (a * b) else if b = 0 then 0 else qclip (a.tdiv b)
def qmo (E : qE) (o : Nat) (v : Int) : Int := if o = 5 then -v else if o = 4 then qroot v else E.2 v
def qjn (o : Nat) (a b : Int) : Int := if o = 21 then (if a = 0 then 0 else b) else (if a = 0 then b else 1)
def qm1 (E : qE) (o : Nat) (v : Int) (vs ts : List Int) : Option (List Int × List Int) :=
  if o ≤ 1 then (if vs.length < 330 then some ((if o = 0 then v else E.1 v.toNat) :: vs, ts) else none)
  else if o = 3 then (match vs, ts with
    | b :: a :: vs', c :: ts' => some ((if c = 0 then b else a) :: vs', ts')
    | _, _ => none)
  else if o ≤ 5 then (match vs with
    | w :: vs' => some (qmo E o w :: vs', ts)
    | [] => none)
  else if o < 10 then (match vs with
    | b :: a :: vs' => some (qmt o a b :: vs', ts)
    | _ => none)
  else if o < 20 then (match vs with
    | b :: a :: vs' => if ts.length < 330 then some (vs', qask o a b :: ts) else none
    | _ => none)
  else if o = 20 then (match ts with
    | c :: ts' => some (vs, (if c = 0 then 1 else 0) :: ts')
    | [] => none)
  else (match ts with
    | c2 :: c1 :: ts' => some (vs, qjn o c1 c2 :: ts')
    | _ => none)
def qmr (E : qE) (C : Nat → Nat × Int) : Nat → Nat → List Int → List Int → Option (List Int × List Int)
  | 0, _, vs, ts => some (vs, ts)
  | m + 1, i, vs, ts => match qm1 E (C i).1 (C i).2 vs ts with
    | some c => qmr E C m (i + 1) c.1 c.2
    | none => none
theorem qrt_sq (v : Int) : ∀ (k : Nat) (r : Int), 0 ≤ r → r * r ≤ v → v < (r + (2 ^ k : Nat)) * (r + (2 ^ k : Nat)) → qrt v k r * qrt v k r ≤ v ∧ v < (qrt v k r + 1) * (qrt v k r + 1)
  | 0, r, _, h1, h2 => ⟨h1, h2⟩
  | k + 1, r, h0, h1, h2 => by
    have h3 : ((2 ^ (k + 1) : Nat) : Int) = (2 ^ k : Nat) + (2 ^ k : Nat) := by rw [Nat.pow_succ 2 k]; omega
    have h4 : (0 : Int) ≤ ((2 ^ k : Nat) : Int) := Int.natCast_nonneg _
    unfold qrt
    split
    · rename_i h
      refine qrt_sq v k _ (by omega) h ?_
      rw [Int.add_assoc, ← h3]
      exact h2
    · exact qrt_sq v k r h0 h1 (by omega)
theorem qrt_neg {v : Int} (hv : v < 0) : ∀ (k : Nat) (r : Int), qrt v k r = r
  | 0, r => rfl
  | k + 1, r => by
    unfold qrt
    have h : 0 ≤ (r + (2 ^ k : Nat)) * (r + (2 ^ k : Nat)) := by
      rcases Int.le_total 0 (r + (2 ^ k : Nat)) with h | h
      · exact Int.mul_nonneg h h
      · exact Int.mul_nonneg_of_nonpos_of_nonpos h h
    rw [if_neg (by omega)]
    exact qrt_neg hv k r
theorem qroot_sq {v : Int} (h0 : 0 ≤ v) (h1 : v < 1048576) : qroot v * qroot v ≤ v ∧ v < (qroot v + 1) * (qroot v + 1) := qrt_sq v 10 0 (by decide) (by omega) (by
  show v < (0 + 1024) * (0 + 1024)
  omega)
section QF
variable {S : Nat → Nat × Nat} {R : Nat → Nat → Nat} {M M0 : Nat → Nat → Int} {n s d : Nat}
theorem km_rootOf {v : Int} (h1 : v < 1048576) (σ : zS) : zcal zPP (d + 1) 244 [zL v] σ = some (zL (qroot v), σ) := by
  have hr := qroot_in v
  have L : ∀ (j : Nat) (r : Int), r + j = qroot v → 0 ≤ r → zR zPP d 244 2 [zL v, zU, zL r, zU] [] σ = some (zL (qroot v), σ) := by
    intro j
    induction j with
    | zero =>
      intro r hj h0
      have e : r = qroot v := by omega
      subst e
      have h2 : (qroot v + 1) * (qroot v + 1) ≤ 1024 * 1024 := Int.mul_le_mul (by omega) (by omega) (by omega) (by omega)
      have h3 : 0 ≤ (qroot v + 1) * (qroot v + 1) := Int.mul_nonneg (by omega) (by omega)
      have h4 : v < (qroot v + 1) * (qroot v + 1) := by
        by_cases hv : v < 0
        · omega
        · exact (qroot_sq (by omega) h1).2
      rw [e_M_rootOf_2]
      simp only [zcmp_gt]
      rw [qz64 (x := qroot v + 1) (by omega) (by omega), qz64 (x := (qroot v + 1) * (qroot v + 1)) (by omega) (by omega), if_pos h4]
    | succ j ih =>
      intro r hj h0
      have h2 : (r + 1) * (r + 1) ≤ qroot v * qroot v := Int.mul_le_mul (by omega) (by omega) (by omega) (by omega)
      have h3 : 0 ≤ (r + 1) * (r + 1) := Int.mul_nonneg (by omega) (by omega)
      have hv : 0 ≤ v := by
        apply Classical.byContradiction
        intro hv
        have : qroot v = 0 := qrt_neg (by omega) 10 0
        omega
      have h4 := (qroot_sq hv h1).1
      rw [e_M_rootOf_2]
      simp only [zcmp_gt]
      rw [qz64 (x := r + 1) (by omega) (by omega), qz64 (x := (r + 1) * (r + 1)) (by omega) (by omega), if_neg (by omega)]
      exact ih (r + 1) (by omega) (by omega)
  rw [c_M_rootOf]
  exact L (qroot v).toNat 0 (by omega) (by decide)
theorem km_clip (v : Int) (σ : zS) : zcal zPP (d + 1) 247 [zL v] σ = some (zL (qclip v), σ) := by
  rw [c_M_clip]
  simp only [zcmp_gt, zcmp_lt]
  unfold qclip
  by_cases h1 : 1000000 < v
  · rw [if_pos h1, if_pos h1]
  · rw [if_neg h1, if_neg h1]
    by_cases h2 : v < -1000000
    · rw [if_pos h2, if_pos h2]
    · rw [if_neg h2, if_neg h2]
theorem km_two {o : Nat} {a b : Int} (ha : -1000000 ≤ a ∧ a ≤ 1000000) (hb : -1000000 ≤ b ∧ b ≤ 1000000) (σ : zS) : zcal zPP (d + 2) 246 [zI o, zL a, zL b] σ = some (zL (qmt o a b), σ) := by
  have hm := qmul62 (a := a) (b := b) (by omega) (by omega)
  have hd : -1000000 ≤ a.tdiv b ∧ a.tdiv b ≤ 1000000 := by
    have h1 : (a.tdiv b).natAbs = a.natAbs / b.natAbs := Int.natAbs_tdiv a b
    have h2 : a.natAbs / b.natAbs ≤ a.natAbs := Nat.div_le_self _ _
    omega
  rw [c_M_two]
  unfold qmt
  by_cases h6 : o = 6
  · rw [if_pos (by omega), if_pos h6, qz64 (by omega) (by omega), km_clip]
    rfl
  rw [if_neg (by omega), if_neg h6]
  by_cases h7 : o = 7
  · rw [if_pos (by omega), if_pos h7, qz64 (by omega) (by omega), km_clip]
    rfl
  rw [if_neg (by omega), if_neg h7]
  by_cases h8 : o = 8
  · rw [if_pos (by omega), if_pos h8, qz64 (by omega) (by omega), km_clip]
    rfl
  rw [if_neg (by omega), if_neg h8]
  simp only [zcmp_eq]
  by_cases h0 : b = 0
  · rw [if_pos h0, if_pos h0]
  · rw [if_neg h0, if_neg h0, if_neg h0, qz64 (by omega) (by omega), km_clip]
    rfl
theorem km_isAsked (o : Nat) (a b : Int) (σ : zS) : zcal zPP (d + 1) 248 [zI o, zL a, zL b] σ = some (zI (qask o a b), σ) := by
  rw [c_M_isAsked]
  simp only [zcmp_gt, zcmp_lt, zcmp_eq]
  unfold qask
  by_cases h : o = 10
  · rw [if_pos (by omega), if_pos h]
    by_cases hc : a < b
    · rw [if_pos hc, if_pos hc]
    · rw [if_neg hc, if_neg hc]
  rw [if_neg (by omega), if_neg h]
  by_cases h : o = 11
  · rw [if_pos (by omega), if_pos h]
    by_cases hc : a ≤ b
    · rw [if_neg (by omega), if_pos hc]
    · rw [if_pos (by omega), if_neg hc]
  rw [if_neg (by omega), if_neg h]
  by_cases h : o = 12
  · rw [if_pos (by omega), if_pos h]
    by_cases hc : b < a
    · rw [if_pos hc, if_pos hc]
    · rw [if_neg hc, if_neg hc]
  rw [if_neg (by omega), if_neg h]
  by_cases h : o = 13
  · rw [if_pos (by omega), if_pos h]
    by_cases hc : b ≤ a
    · rw [if_neg (by omega), if_pos hc]
    · rw [if_pos (by omega), if_neg hc]
  rw [if_neg (by omega), if_neg h]
  by_cases h : o = 14
  · rw [if_pos (by omega), if_pos h]
    by_cases hc : a = b
    · rw [if_pos hc, if_pos hc]
    · rw [if_neg hc, if_neg hc]
  rw [if_neg (by omega), if_neg h]
  by_cases hc : a = b
  · rw [if_pos hc, if_pos hc]
  · rw [if_neg hc, if_neg hc]
theorem km_joined (o : Nat) {a b : Int} (ha : a = 0 ∨ a = 1) (hb : b = 0 ∨ b = 1) (σ : zS) : zcal zPP (d + 1) 249 [zI o, zI a, zI b] σ = some (zI (qjn o a b), σ) := by
  rw [c_M_joined]
  unfold qjn
  by_cases h : o = 21
  · rw [if_pos (by omega), if_pos h]
    rcases ha with ha | ha <;> rcases hb with hb | hb <;> subst ha <;> subst hb <;> rfl
  · rw [if_neg (by omega), if_neg h]
    rcases ha with ha | ha <;> rcases hb with hb | hb <;> subst ha <;> subst hb <;> rfl
theorem km_ofOne (hF : qFx S R) (hA : qIn (M 306)) {o y p o1 : Nat} {v : Int} (hv : -1000000 ≤ v ∧ v ≤ 1000000) : zcal zPP (d + 5) 243 [zA 305, zI o1, zL v] (n, s, S, R, M) = some (zL (qmo (qEn (M 306) o y p) o1 v), (n, s, S, R, M)) := by
  have h5 := hA.1.2
  unfold qmo
  by_cases h : o1 = 5
  · have h' : (o1 : Int) = 5 := by omega
    simp (disch := omega) only [c_M_ofOne, h', qz64, qff hF, qltT, qltF, qleT, qleF, qeqT, qeqF, Int.reduceEq, Int.reduceNe, Int.reduceLT, Int.reduceLE, Int.reduceToNat, Int.reduceAdd, Int.reduceSub, Int.reduceMul, Int.reduceNeg, Nat.reduceAdd, Nat.reduceMul, Nat.reduceEqDiff, Nat.reduceLT, Int.cast_ofNat_Int, Int.lt_irrefl, ↓reduceIte, ↓reduceDIte, zbI, zbL, zbA, zbV, qrg, qrg2, qnn, qz, zup_at, zup_r, zup_ne, true_and, and_true, true_or, or_true, and_self, or_self, false_or, or_false, false_and, and_false, Int.toNat_natCast, Int.toNat_add, Int.toNat_mul, Int.toNat_zero, Int.toNat_one, qtn, Int.natCast_add, qnat1, qnat0, ne_eq, not_true_eq_false, not_false_eq_true, eq_self, qbool]
    rw [if_pos h]
  · have h' : ¬ (o1 : Int) = 5 := by omega
    rw [if_neg h]
    by_cases h4 : o1 = 4
    · have h4' : (o1 : Int) = 4 := by omega
      rw [if_pos h4]
      simp (disch := omega) only [c_M_ofOne, h4', km_rootOf, qff hF, qltT, qltF, qleT, qleF, qeqT, qeqF, Int.reduceEq, Int.reduceNe, Int.reduceLT, Int.reduceLE, Int.reduceToNat, Int.reduceAdd, Int.reduceSub, Int.reduceMul, Int.reduceNeg, Nat.reduceAdd, Nat.reduceMul, Nat.reduceEqDiff, Nat.reduceLT, Int.cast_ofNat_Int, Int.lt_irrefl, ↓reduceIte, ↓reduceDIte, zbI, zbL, zbA, zbV, qrg, qrg2, qnn, qz, zup_at, zup_r, zup_ne, true_and, and_true, true_or, or_true, and_self, or_self, false_or, or_false, false_and, and_false, Int.toNat_natCast, Int.toNat_add, Int.toNat_mul, Int.toNat_zero, Int.toNat_one, qtn, Int.natCast_add, qnat1, qnat0, ne_eq, not_true_eq_false, not_false_eq_true, eq_self, qbool]
    · have h4' : ¬ (o1 : Int) = 4 := by omega
      rw [if_neg h4]
      show _ = some (zL (if 0 ≤ v ∧ v < M 306 0 then ((qic (M 306) v.toNat : Nat) : Int) else 0), (n, s, S, R, M))
      by_cases c1 : v < 0
      · simp (disch := omega) only [c_M_ofOne, h', h4', c_M_ringsOf, zcmp_lt, c1, qff hF, qltT, qltF, qleT, qleF, qeqT, qeqF, Int.reduceEq, Int.reduceNe, Int.reduceLT, Int.reduceLE, Int.reduceToNat, Int.reduceAdd, Int.reduceSub, Int.reduceMul, Int.reduceNeg, Nat.reduceAdd, Nat.reduceMul, Nat.reduceEqDiff, Nat.reduceLT, Int.cast_ofNat_Int, Int.lt_irrefl, ↓reduceIte, ↓reduceDIte, zbI, zbL, zbA, zbV, qrg, qrg2, qnn, qz, zup_at, zup_r, zup_ne, true_and, and_true, true_or, or_true, and_self, or_self, false_or, or_false, false_and, and_false, Int.toNat_natCast, Int.toNat_add, Int.toNat_mul, Int.toNat_zero, Int.toNat_one, qtn, Int.natCast_add, qnat1, qnat0, ne_eq, not_true_eq_false, not_false_eq_true, eq_self, qbool]
      · by_cases c2 : v < M 306 0
        · obtain ⟨v, rfl⟩ := Int.eq_ofNat_of_zero_le (show 0 ≤ v by omega)
          simp (disch := omega) only [c_M_ofOne, h', h4', c_M_ringsOf, zcmp_lt, c1, c2, km_inside hF (show v < 5 by omega), qff hF, qltT, qltF, qleT, qleF, qeqT, qeqF, Int.reduceEq, Int.reduceNe, Int.reduceLT, Int.reduceLE, Int.reduceToNat, Int.reduceAdd, Int.reduceSub, Int.reduceMul, Int.reduceNeg, Nat.reduceAdd, Nat.reduceMul, Nat.reduceEqDiff, Nat.reduceLT, Int.cast_ofNat_Int, Int.lt_irrefl, ↓reduceIte, ↓reduceDIte, zbI, zbL, zbA, zbV, qrg, qrg2, qnn, qz, zup_at, zup_r, zup_ne, true_and, and_true, true_or, or_true, and_self, or_self, false_or, or_false, false_and, and_false, Int.toNat_natCast, Int.toNat_add, Int.toNat_mul, Int.toNat_zero, Int.toNat_one, qtn, Int.natCast_add, qnat1, qnat0, ne_eq, not_true_eq_false, not_false_eq_true, eq_self, qbool]
        · simp (disch := omega) only [c_M_ofOne, h', h4', c_M_ringsOf, zcmp_lt, c1, c2, qff hF, qltT, qltF, qleT, qleF, qeqT, qeqF, Int.reduceEq, Int.reduceNe, Int.reduceLT, Int.reduceLE, Int.reduceToNat, Int.reduceAdd, Int.reduceSub, Int.reduceMul, Int.reduceNeg, Nat.reduceAdd, Nat.reduceMul, Nat.reduceEqDiff, Nat.reduceLT, Int.cast_ofNat_Int, Int.lt_irrefl, ↓reduceIte, ↓reduceDIte, zbI, zbL, zbA, zbV, qrg, qrg2, qnn, qz, zup_at, zup_r, zup_ne, true_and, and_true, true_or, or_true, and_self, or_self, false_or, or_false, false_and, and_false, Int.toNat_natCast, Int.toNat_add, Int.toNat_mul, Int.toNat_zero, Int.toNat_one, qtn, Int.natCast_add, qnat1, qnat0, ne_eq, not_true_eq_false, not_false_eq_true, eq_self, qbool]
end QF
