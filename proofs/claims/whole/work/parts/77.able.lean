/-! able, needs, block, plan: both sides -/
def qcmp (all st : Nat) : Nat := all &&& (4294967295 ^^^ st)
def qabf (A : Nat → Int) (P a all st : Nat) : Int := qnin A (qcmp all st) P + qroo A (qkf A st P) a
def qabl (A : Nat → Int) (P a all : Nat) : Nat → Int
  | 0 => qabf A P a all 0
  | n + 1 => min (qabl A P a all n) (qabf A P a all (n + 1))
theorem qkf_0 (A : Nat → Int) : ∀ P, qkf A 0 P = 0
  | 0 => rfl
  | P + 1 => by
    unfold qkf
    rw [if_neg (by simp)]
    exact qkf_0 A P
theorem qroo_0 (A : Nat → Int) : ∀ a, qroo A 0 a = 0
  | 0 => rfl
  | a + 1 => by
    show qroo A 0 a + qro1 A 0 a = 0
    have e : zct (fun y => decide (A (11 + 24 * a + y) = 1) && qyk A 0 y) 24 = 0 := by
      rw [zct_cong (g := fun _ => false) (fun y _ => by unfold qyk; simp)]
      exact zct_0 24
    have : qro1 A 0 a = 0 := by
      unfold qro1
      rw [e]
      omega
    rw [qroo_0 A a, this]
    rfl
theorem qcmp_0 {all : Nat} (h : all < 32) : qcmp all 0 = all := by
  have : ∀ all, all < 32 → qcmp all 0 = all := by decide
  exact this all h
theorem qcmp_le (all st : Nat) : qcmp all st ≤ all := Nat.and_le_left
theorem qskip : ∀ m, m < 6 → ∀ st, st < 2 ^ m → st &&& (4294967295 ^^^ (2 ^ m - 1)) = 0 := by decide +kernel
theorem qabf_in {A : Nat → Int} (hA : qIn A) {P a : Nat} (hP : P ≤ 5) (ha : a ≤ 5) (all st : Nat) : 0 ≤ qabf A P a all st ∧ qabf A P a all st ≤ 700 := by
  have h1 := qnin_in hA (qcmp all st) hP
  have h2 := qroo_in A (qkf A st P) a
  unfold qabf
  omega
theorem qabl_in {A : Nat → Int} (hA : qIn A) {P a : Nat} (hP : P ≤ 5) (ha : a ≤ 5) (all : Nat) : ∀ n, 0 ≤ qabl A P a all n ∧ qabl A P a all n ≤ 700
  | 0 => qabf_in hA hP ha all 0
  | n + 1 => by
    have h1 := qabl_in hA hP ha all n
    have h2 := qabf_in hA hP ha all (n + 1)
    unfold qabl
    omega
def qblk (A : Nat → Int) (P a : Nat) : Nat → Int × Int
  | 0 => (0, -1)
  | n + 1 => if (qblk A P a n).1 < qnin A (n + 1) P - qroo A (qkf A (n + 1) P) a then (qnin A (n + 1) P - qroo A (qkf A (n + 1) P) a, ((n + 1 : Nat) : Int)) else qblk A P a n
/-- kinds one by one -/
theorem qkinds {A : Nat → Int} (hA : qIn A) {K : Nat} (hK : K < 16) (o : Nat) : ∀ n, n ≤ 24 → qsm (fun k => if K.testBit k = true then zct (qkd A o k) n else 0) 4 = zct (fun y => decide (A (11 + 24 * o + y) = 1) && qyk A K y) n
  | 0, _ => by
    show (((0 + (if K.testBit 0 = true then 0 else 0)) + (if K.testBit 1 = true then 0 else 0)) + (if K.testBit 2 = true then 0 else 0)) + (if K.testBit 3 = true then 0 else 0) = 0
    simp
  | n + 1, hn => by
    have ih := qkinds hA hK o n (by omega)
    have hk := hA.2.2.2.2.2.2.2.2.2.2.2.2.1 n (by omega)
    obtain ⟨k, hk2⟩ := Int.eq_ofNat_of_zero_le hk.1
    have hk4 : k < 4 := by omega
    rw [zct_s, ← ih]
    have u : ∀ m, qsm (fun k => if K.testBit k = true then zct (qkd A o k) m else 0) 4 = (((0 + (if K.testBit 0 = true then zct (qkd A o 0) m else 0)) + (if K.testBit 1 = true then zct (qkd A o 1) m else 0)) + (if K.testBit 2 = true then zct (qkd A o 2) m else 0)) + (if K.testBit 3 = true then zct (qkd A o 3) m else 0) := fun m => rfl
    rw [u, u, zct_s, zct_s, zct_s, zct_s]
    have hq : qyk A K n = K.testBit k := by unfold qyk; rw [hk2]; rfl
    have hd : ∀ j : Nat, (qkd A o j n = true) = (A (11 + 24 * o + n) = 1 ∧ j = k) := fun j => by
      apply propext
      unfold qkd
      rw [Bool.and_eq_true, decide_eq_true_iff, decide_eq_true_iff, hk2]
      constructor
      · rintro ⟨h1, h2⟩; exact ⟨h1, by omega⟩
      · rintro ⟨h1, h2⟩; exact ⟨h1, by omega⟩
    simp only [hd]
    rw [hq]
    by_cases hin : A (11 + 24 * o + n) = 1
    · have h4 : k = 0 ∨ k = 1 ∨ k = 2 ∨ k = 3 := by omega
      rcases h4 with h | h | h | h <;> subst h <;> simp only [hin, true_and, decide_true, Bool.true_and] <;> generalize K.testBit 0 = t0 <;> generalize K.testBit 1 = t1 <;> generalize K.testBit 2 = t2 <;> generalize K.testBit 3 = t3 <;> cases t0 <;> cases t1 <;> cases t2 <;> cases t3 <;> (try simp) <;> (try omega)
    · simp [hin]
section QF
variable {S : Nat → Nat × Nat} {R : Nat → Nat → Nat} {M M' M0 M1 : Nat → Nat → Int} {n s d : Nat} {A : Nat → Int} {W : Nat → qWt}
theorem q2m {m : Nat} (h : m ≤ 5) : 1 ≤ 2 ^ m ∧ 2 ^ m ≤ 32 := ⟨Nat.pow_pos (by decide), Nat.pow_le_pow_right (n := 2) (by decide) h⟩
theorem kx_lendable (hw : qWd n S R M W) {a P m : Nat} (ha : M 306 0 = a) (hP : M 306 1 = P) (hm : m ≤ P) (h1 : qXc M M1) : ∃ M2, zcal zPP (d + 6) 87 [zA 286, zI m] (n, s, S, R, M1) = some (zI (qabl (M 306) P a (2 ^ m - 1) (2 ^ m - 1)), (n, s, S, R, M2)) ∧ qXc M M2 := by
  have hA := hw.2.1.2.2.2
  have hF := hw.1.2.1
  have ha5 := hA.1.2
  have hp5 := hA.2.1.2
  have h2m := q2m (show m ≤ 5 by omega)
  have h2P : 2 ^ m ≤ 2 ^ P := Nat.pow_le_pow_right (by decide) hm
  obtain ⟨M2, e1, e2⟩ := kx_measure (s := s) (d := d + 1) hw ha h1
  refine ⟨M2, ?_, e2.1⟩
  have hall : zw32 (zshl 1 (m : Int) - 1) = ((2 ^ m - 1 : Nat) : Int) := by
    rw [zshl_one (by omega), qz (by omega) (by omega)]
    omega
  have hn0 := kx_needOf (s := s) (d := d + 1) (M1 := M2) hw hP e2.1 (st := 2 ^ m - 1) (by omega)
  have hf0 : qnin (M 306) (2 ^ m - 1) P = qabl (M 306) P a (2 ^ m - 1) 0 := by
    show _ = qabf (M 306) P a (2 ^ m - 1) 0
    unfold qabf
    rw [qcmp_0 (by omega), qkf_0, qroo_0, Int.add_zero]
  have L := qlp (P := fun i => zR zPP (d + 5) 87 14 [zA 286, zI m, zI (2 ^ m - 1 : Nat), zI (qabl (M 306) P a (2 ^ m - 1) i), zI ((i + 1 : Nat) : Int)] [] (n, s, S, R, M2)) (N := 2 ^ m - 1) (fun i hi => by
    have hb1 := qabf_in hA (P := P) (a := a) (by omega) (by omega) (2 ^ m - 1) (i + 1)
    have hcl := qcmp_le (2 ^ m - 1) (i + 1)
    have hz : zand ((2 ^ m - 1 : Nat) : Int) (zxor ((i + 1 : Nat) : Int) (-1)) = (qcmp (2 ^ m - 1) (i + 1) : Nat) := zandn_nat (by omega)
    have hn := kx_needOf (s := s) (d := d + 1) (M1 := M2) hw hP e2.1 (st := qcmp (2 ^ m - 1) (i + 1)) (by omega)
    have hr := kx_roomOf (n := n) (s := s) (d := d + 4) hw hP e2 (st := i + 1) (by omega)
    have es : qabl (M 306) P a (2 ^ m - 1) (i + 1) = min (qabl (M 306) P a (2 ^ m - 1) i) (qabf (M 306) P a (2 ^ m - 1) (i + 1)) := rfl
    have ef : qnin (M 306) (qcmp (2 ^ m - 1) (i + 1)) P + qroo (M 306) (qkf (M 306) (i + 1) P) a = qabf (M 306) P a (2 ^ m - 1) (i + 1) := rfl
    show zR _ _ _ _ _ _ _ = zR _ _ _ _ _ _ _
    rw [e_Counsel_lendable_14, if_neg (by omega), hz, hn]
    simp only [zbI]
    rw [hr]
    simp only [zbI]
    rw [ef, es, qz (by omega) (by omega), qw1 (show i + 1 < 100000 by omega)])
  rw [c_Counsel_lendable]
  simp only [qff hF, if_true, e1, zbV]
  rw [hall, hn0, hf0]
  simp only [zbI]
  refine Eq.trans L ?_
  show zR _ _ _ _ _ _ _ = _
  rw [e_Counsel_lendable_14, if_pos (by omega)]
/-- what the model lays -/
def qMm (M0 M : Nat → Nat → Int) (A : Nat → Int) (P a : Nat) : Prop := qXm M0 M ∧ (∀ p, p < P → M 315 p = qnee A p) ∧ ∀ K, K < 16 → M 316 K = qroo A K a
theorem km_needOf (hF : qFx S R) (hA : qIn (M 306)) {p : Nat} (hp : p < 5) : zcal zPP (d + 4) 299 [zA 305, zI p] (n, s, S, R, M) = some (zI (qnee (M 306) p), (n, s, S, R, M)) := by
  have i1 := hA.2.2.2.2.2.2.2.2.2.2.2.2.2.1 p hp
  have i2 := hA.2.2.2.2.2.2.2.2.2.2.2.2.2.2.1 p hp
  have i3 : qhb (M 306) p ≤ 24 * 5 := qhb_le (M 306) p 5
  have en : qnee (M 306) p = max 0 (M 306 (160 + p) - M 306 (131 + p) - ((qhb (M 306) p : Nat) : Int)) := rfl
  rw [c_M_needOf, en]
  by_cases hc : 0 < M 306 (160 + p) - M 306 (131 + p) - ((qhb (M 306) p : Nat) : Int)
  · have e : max 0 (M 306 (160 + p) - M 306 (131 + p) - ((qhb (M 306) p : Nat) : Int)) = M 306 (160 + p) - M 306 (131 + p) - ((qhb (M 306) p : Nat) : Int) := by omega
    rw [e]
    simp (disch := omega) only [km_heldBy hF hA hp, qff hF, qltT, qltF, qleT, qleF, qeqT, qeqF, Int.reduceEq, Int.reduceNe, Int.reduceLT, Int.reduceLE, Int.reduceToNat, Int.reduceAdd, Int.reduceSub, Int.reduceMul, Int.reduceNeg, Nat.reduceAdd, Nat.reduceMul, Nat.reduceEqDiff, Nat.reduceLT, Int.cast_ofNat_Int, Int.lt_irrefl, Bool.false_eq_true, ↓reduceIte, ↓reduceDIte, zbI, zbL, zbA, zbV, qrg, qrg2, qnn, qz, zup_at, zup_r, zup_ne, true_and, and_true, true_or, or_true, and_self, or_self, false_or, or_false, false_and, and_false, Int.toNat_natCast, Int.toNat_add, Int.toNat_mul, Int.toNat_zero, Int.toNat_one, qtn, Int.natCast_add, qnat1, qnat0, ne_eq, not_true_eq_false, not_false_eq_true, eq_self, qbool]
  · have e : max 0 (M 306 (160 + p) - M 306 (131 + p) - ((qhb (M 306) p : Nat) : Int)) = 0 := by omega
    rw [e]
    simp (disch := omega) only [km_heldBy hF hA hp, qff hF, qltT, qltF, qleT, qleF, qeqT, qeqF, Int.reduceEq, Int.reduceNe, Int.reduceLT, Int.reduceLE, Int.reduceToNat, Int.reduceAdd, Int.reduceSub, Int.reduceMul, Int.reduceNeg, Nat.reduceAdd, Nat.reduceMul, Nat.reduceEqDiff, Nat.reduceLT, Int.cast_ofNat_Int, Int.lt_irrefl, Bool.false_eq_true, ↓reduceIte, ↓reduceDIte, zbI, zbL, zbA, zbV, qrg, qrg2, qnn, qz, zup_at, zup_r, zup_ne, true_and, and_true, true_or, or_true, and_self, or_self, false_or, or_false, false_and, and_false, Int.toNat_natCast, Int.toNat_add, Int.toNat_mul, Int.toNat_zero, Int.toNat_one, qtn, Int.natCast_add, qnat1, qnat0, ne_eq, not_true_eq_false, not_false_eq_true, eq_self, qbool]
theorem km_lentOf (hF : qFx S R) (hA : qIn (M 306)) {a K : Nat} (ha : M 306 0 = a) (hK : K < 16) : zcal zPP (d + 4) 300 [zA 305, zI K] (n, s, S, R, M) = some (zI (qroo (M 306) K a), (n, s, S, R, M)) := by
  have ha5 := hA.1.2
  have L2 : ∀ o, o < a → zR zPP (d + 3) 300 14 [zA 305, zI K, zI (qroo (M 306) K o), zI o, zI 0, zI 0] [] (n, s, S, R, M) = zR zPP (d + 3) 300 14 [zA 305, zI K, zI (qroo (M 306) K o), zI o, zI (zct (fun y => decide (M 306 (11 + 24 * o + y) = 1) && qyk (M 306) K y) 24 : Nat), zI 4] [] (n, s, S, R, M) := by
    intro o ho
    have := qlp (P := fun k => zR zPP (d + 3) 300 14 [zA 305, zI K, zI (qroo (M 306) K o), zI o, zI (qsm (fun k => if K.testBit k = true then zct (qkd (M 306) o k) 24 else 0) k : Nat), zI (k : Nat)] [] (n, s, S, R, M)) (N := 4) (fun k hk => by
      have hsm : qsm (fun k => if K.testBit k = true then zct (qkd (M 306) o k) 24 else 0) k ≤ 24 * k := qsm_le (fun i => by have := zct_le (qkd (M 306) o i) 24; split <;> omega) k
      have hz := zct_le (qkd (M 306) o k) 24
      have hh := k_has (d := d + 2) (a := K) (k := k) (by omega) (by omega) (n, s, S, R, M)
      have hok := km_ofKind (n := n) (s := s) (d := d + 1) (M := M) (o := o) (k := k) hF hA (by omega)
      show zR _ _ _ _ _ _ _ = zR _ _ _ _ _ _ _
      rw [e_M_lentOf_14, qsm_s]
      by_cases hb : K.testBit k = true
      · rw [if_pos hb] at hh
        rw [if_pos hb]
        simp (disch := omega) only [hh, hok, qff hF, qltT, qltF, qleT, qleF, qeqT, qeqF, Int.reduceEq, Int.reduceNe, Int.reduceLT, Int.reduceLE, Int.reduceToNat, Int.reduceAdd, Int.reduceSub, Int.reduceMul, Int.reduceNeg, Nat.reduceAdd, Nat.reduceMul, Nat.reduceEqDiff, Nat.reduceLT, Int.cast_ofNat_Int, Int.lt_irrefl, Bool.false_eq_true, ↓reduceIte, ↓reduceDIte, zbI, zbL, zbA, zbV, qrg, qrg2, qnn, qz, zup_at, zup_r, zup_ne, true_and, and_true, true_or, or_true, and_self, or_self, false_or, or_false, false_and, and_false, Int.toNat_natCast, Int.toNat_add, Int.toNat_mul, Int.toNat_zero, Int.toNat_one, qtn, Int.natCast_add, qnat1, qnat0, ne_eq, not_true_eq_false, not_false_eq_true, eq_self, qbool]
      · rw [if_neg hb] at hh
        rw [if_neg hb, Nat.add_zero]
        simp (disch := omega) only [hh, Int.add_zero, qff hF, qltT, qltF, qleT, qleF, qeqT, qeqF, Int.reduceEq, Int.reduceNe, Int.reduceLT, Int.reduceLE, Int.reduceToNat, Int.reduceAdd, Int.reduceSub, Int.reduceMul, Int.reduceNeg, Nat.reduceAdd, Nat.reduceMul, Nat.reduceEqDiff, Nat.reduceLT, Int.cast_ofNat_Int, Int.lt_irrefl, Bool.false_eq_true, ↓reduceIte, ↓reduceDIte, zbI, zbL, zbA, zbV, qrg, qrg2, qnn, qz, zup_at, zup_r, zup_ne, true_and, and_true, true_or, or_true, and_self, or_self, false_or, or_false, false_and, and_false, Int.toNat_natCast, Int.toNat_add, Int.toNat_mul, Int.toNat_zero, Int.toNat_one, qtn, Int.natCast_add, qnat1, qnat0, ne_eq, not_true_eq_false, not_false_eq_true, eq_self, qbool])
    rw [qkinds hA hK o 24 (Nat.le_refl _)] at this
    exact this
  have L := qlpE (E := fun _ : zV × zV => True) (P := fun o g => zR zPP (d + 3) 300 4 [zA 305, zI K, zI (qroo (M 306) K o), zI (o : Nat), g.1, g.2] [] (n, s, S, R, M)) (N := a) (fun o g ho _ => by
    have hic : qic (M 306) o ≤ 24 := zct_le _ 24
    have hz := zct_le (fun y => decide (M 306 (11 + 24 * o + y) = 1) && qyk (M 306) K y) 24
    have hb1 := qroo_in (M 306) K o
    have hin := km_inside (n := n) (s := s) (d := d) (M := M) hF (show o < 5 by omega)
    have es : qroo (M 306) K (o + 1) = qroo (M 306) K o + min (max 0 (((qic (M 306) o : Nat) : Int) - 9)) ((zct (fun y => decide (M 306 (11 + 24 * o + y) = 1) && qyk (M 306) K y) 24 : Nat) : Int) := rfl
    have h2 := L2 o ho
    generalize hzz : zct (fun y => decide (M 306 (11 + 24 * o + y) = 1) && qyk (M 306) K y) 24 = z at *
    by_cases c1 : (z : Int) < ((qic (M 306) o : Nat) : Int) - 9
    · refine ⟨(zI z, zI (((qic (M 306) o : Nat) : Int) - 9)), trivial, ?_⟩
      show zR _ _ _ _ _ _ _ = zR _ _ _ _ _ _ _
      have em : min (max 0 (((qic (M 306) o : Nat) : Int) - 9)) (z : Int) = z := by omega
      rw [es, em, e_M_lentOf_4]
      simp (disch := omega) only [ha, qff hF, qltT, qltF, qleT, qleF, qeqT, qeqF, Int.reduceEq, Int.reduceNe, Int.reduceLT, Int.reduceLE, Int.reduceToNat, Int.reduceAdd, Int.reduceSub, Int.reduceMul, Int.reduceNeg, Nat.reduceAdd, Nat.reduceMul, Nat.reduceEqDiff, Nat.reduceLT, Int.cast_ofNat_Int, Int.lt_irrefl, Bool.false_eq_true, ↓reduceIte, ↓reduceDIte, zbI, zbL, zbA, zbV, qrg, qrg2, qnn, qz, zup_at, zup_r, zup_ne, true_and, and_true, true_or, or_true, and_self, or_self, false_or, or_false, false_and, and_false, Int.toNat_natCast, Int.toNat_add, Int.toNat_mul, Int.toNat_zero, Int.toNat_one, qtn, Int.natCast_add, qnat1, qnat0, ne_eq, not_true_eq_false, not_false_eq_true, eq_self, qbool]
      rw [h2, e_M_lentOf_14]
      by_cases c2 : 0 < (z : Int)
      · simp (disch := omega) only [hin, c1, c2, qff hF, qltT, qltF, qleT, qleF, qeqT, qeqF, Int.reduceEq, Int.reduceNe, Int.reduceLT, Int.reduceLE, Int.reduceToNat, Int.reduceAdd, Int.reduceSub, Int.reduceMul, Int.reduceNeg, Nat.reduceAdd, Nat.reduceMul, Nat.reduceEqDiff, Nat.reduceLT, Int.cast_ofNat_Int, Int.lt_irrefl, Bool.false_eq_true, ↓reduceIte, ↓reduceDIte, zbI, zbL, zbA, zbV, qrg, qrg2, qnn, qz, zup_at, zup_r, zup_ne, true_and, and_true, true_or, or_true, and_self, or_self, false_or, or_false, false_and, and_false, Int.toNat_natCast, Int.toNat_add, Int.toNat_mul, Int.toNat_zero, Int.toNat_one, qtn, Int.natCast_add, qnat1, qnat0, ne_eq, not_true_eq_false, not_false_eq_true, eq_self, qbool]
      · have z0 : z = 0 := by omega
        subst z0
        simp (disch := omega) only [hin, c1, qff hF, qltT, qltF, qleT, qleF, qeqT, qeqF, Int.reduceEq, Int.reduceNe, Int.reduceLT, Int.reduceLE, Int.reduceToNat, Int.reduceAdd, Int.reduceSub, Int.reduceMul, Int.reduceNeg, Nat.reduceAdd, Nat.reduceMul, Nat.reduceEqDiff, Nat.reduceLT, Int.cast_ofNat_Int, Int.lt_irrefl, Bool.false_eq_true, ↓reduceIte, ↓reduceDIte, zbI, zbL, zbA, zbV, qrg, qrg2, qnn, qz, zup_at, zup_r, zup_ne, true_and, and_true, true_or, or_true, and_self, or_self, false_or, or_false, false_and, and_false, Int.toNat_natCast, Int.toNat_add, Int.toNat_mul, Int.toNat_zero, Int.toNat_one, qtn, Int.natCast_add, qnat1, qnat0, ne_eq, not_true_eq_false, not_false_eq_true, eq_self, qbool]
    · refine ⟨(zI (((qic (M 306) o : Nat) : Int) - 9), zI (((qic (M 306) o : Nat) : Int) - 9)), trivial, ?_⟩
      show zR _ _ _ _ _ _ _ = zR _ _ _ _ _ _ _
      rw [es, e_M_lentOf_4]
      simp (disch := omega) only [ha, qff hF, qltT, qltF, qleT, qleF, qeqT, qeqF, Int.reduceEq, Int.reduceNe, Int.reduceLT, Int.reduceLE, Int.reduceToNat, Int.reduceAdd, Int.reduceSub, Int.reduceMul, Int.reduceNeg, Nat.reduceAdd, Nat.reduceMul, Nat.reduceEqDiff, Nat.reduceLT, Int.cast_ofNat_Int, Int.lt_irrefl, Bool.false_eq_true, ↓reduceIte, ↓reduceDIte, zbI, zbL, zbA, zbV, qrg, qrg2, qnn, qz, zup_at, zup_r, zup_ne, true_and, and_true, true_or, or_true, and_self, or_self, false_or, or_false, false_and, and_false, Int.toNat_natCast, Int.toNat_add, Int.toNat_mul, Int.toNat_zero, Int.toNat_one, qtn, Int.natCast_add, qnat1, qnat0, ne_eq, not_true_eq_false, not_false_eq_true, eq_self, qbool]
      rw [h2, e_M_lentOf_14]
      by_cases c2 : 0 < ((qic (M 306) o : Nat) : Int) - 9
      · have em : min (max 0 (((qic (M 306) o : Nat) : Int) - 9)) (z : Int) = ((qic (M 306) o : Nat) : Int) - 9 := by omega
        rw [em]
        simp (disch := omega) only [hin, c1, c2, qff hF, qltT, qltF, qleT, qleF, qeqT, qeqF, Int.reduceEq, Int.reduceNe, Int.reduceLT, Int.reduceLE, Int.reduceToNat, Int.reduceAdd, Int.reduceSub, Int.reduceMul, Int.reduceNeg, Nat.reduceAdd, Nat.reduceMul, Nat.reduceEqDiff, Nat.reduceLT, Int.cast_ofNat_Int, Int.lt_irrefl, Bool.false_eq_true, ↓reduceIte, ↓reduceDIte, zbI, zbL, zbA, zbV, qrg, qrg2, qnn, qz, zup_at, zup_r, zup_ne, true_and, and_true, true_or, or_true, and_self, or_self, false_or, or_false, false_and, and_false, Int.toNat_natCast, Int.toNat_add, Int.toNat_mul, Int.toNat_zero, Int.toNat_one, qtn, Int.natCast_add, qnat1, qnat0, ne_eq, not_true_eq_false, not_false_eq_true, eq_self, qbool]
      · have em : min (max 0 (((qic (M 306) o : Nat) : Int) - 9)) (z : Int) = 0 := by omega
        rw [em]
        simp (disch := omega) only [hin, c1, c2, qff hF, qltT, qltF, qleT, qleF, qeqT, qeqF, Int.reduceEq, Int.reduceNe, Int.reduceLT, Int.reduceLE, Int.reduceToNat, Int.reduceAdd, Int.reduceSub, Int.reduceMul, Int.reduceNeg, Nat.reduceAdd, Nat.reduceMul, Nat.reduceEqDiff, Nat.reduceLT, Int.cast_ofNat_Int, Int.lt_irrefl, Bool.false_eq_true, ↓reduceIte, ↓reduceDIte, zbI, zbL, zbA, zbV, qrg, qrg2, qnn, qz, zup_at, zup_r, zup_ne, true_and, and_true, true_or, or_true, and_self, or_self, false_or, or_false, false_and, and_false, Int.toNat_natCast, Int.toNat_add, Int.toNat_mul, Int.toNat_zero, Int.toNat_one, qtn, Int.natCast_add, qnat1, qnat0, ne_eq, not_true_eq_false, not_false_eq_true, eq_self, qbool]) (zU, zU) trivial
  obtain ⟨g, -, L⟩ := L
  rw [c_M_lentOf]
  simp (disch := omega) only [qff hF, qltT, qltF, qleT, qleF, qeqT, qeqF, Int.reduceEq, Int.reduceNe, Int.reduceLT, Int.reduceLE, Int.reduceToNat, Int.reduceAdd, Int.reduceSub, Int.reduceMul, Int.reduceNeg, Nat.reduceAdd, Nat.reduceMul, Nat.reduceEqDiff, Nat.reduceLT, Int.cast_ofNat_Int, Int.lt_irrefl, Bool.false_eq_true, ↓reduceIte, ↓reduceDIte, zbI, zbL, zbA, zbV, qrg, qrg2, qnn, qz, zup_at, zup_r, zup_ne, true_and, and_true, true_or, or_true, and_self, or_self, false_or, or_false, false_and, and_false, Int.toNat_natCast, Int.toNat_add, Int.toNat_mul, Int.toNat_zero, Int.toNat_one, qtn, Int.natCast_add, qnat1, qnat0, ne_eq, not_true_eq_false, not_false_eq_true, eq_self, qbool]
  refine Eq.trans L ?_
  rw [e_M_lentOf_4]
  simp (disch := omega) only [ha, qff hF, qltT, qltF, qleT, qleF, qeqT, qeqF, Int.reduceEq, Int.reduceNe, Int.reduceLT, Int.reduceLE, Int.reduceToNat, Int.reduceAdd, Int.reduceSub, Int.reduceMul, Int.reduceNeg, Nat.reduceAdd, Nat.reduceMul, Nat.reduceEqDiff, Nat.reduceLT, Int.cast_ofNat_Int, Int.lt_irrefl, Bool.false_eq_true, ↓reduceIte, ↓reduceDIte, zbI, zbL, zbA, zbV, qrg, qrg2, qnn, qz, zup_at, zup_r, zup_ne, true_and, and_true, true_or, or_true, and_self, or_self, false_or, or_false, false_and, and_false, Int.toNat_natCast, Int.toNat_add, Int.toNat_mul, Int.toNat_zero, Int.toNat_one, qtn, Int.natCast_add, qnat1, qnat0, ne_eq, not_true_eq_false, not_false_eq_true, eq_self, qbool]
theorem km_layNeeds (hw : qWd n S R M W) {a P : Nat} (ha : M 306 0 = a) (hP : M 306 1 = P) (h1 : qXm M M1) : ∃ M2, zcal zPP (d + 6) 298 [zA 305] (n, s, S, R, M1) = some (zU, (n, s, S, R, M2)) ∧ qMm M M2 (M 306) P a := by
  have hA := hw.2.1.2.2.2
  have hF := hw.1.2.1
  have hp5 := hA.2.1.2
  have LA := qlpI (E := fun p M2 => qXm M M2 ∧ ∀ q, q < p → M2 315 q = qnee (M 306) q) (P := fun p M2 => zR zPP (d + 5) 298 2 [zA 305, zI (p : Nat)] [] (n, s, S, R, M2)) (N := P) (fun p M2 hp hx => by
    obtain ⟨e1, e2⟩ := hx
    have h6 : M2 306 = M 306 := e1 306 (by omega)
    have hn := km_needOf (n := n) (s := s) (d := d + 1) (M := M2) hF (by rw [h6]; exact hA) (show p < 5 by omega)
    rw [h6] at hn
    refine ⟨zup M2 315 p (qnee (M 306) p), ⟨fun q hq => by rw [zup_rw (by omega)]; exact e1 q hq, fun q hq => ?_⟩, ?_⟩
    · by_cases hqp : q = p
      · subst hqp; exact zup_at
      · rw [zup_ne hqp]; exact e2 q (by omega)
    · show zR _ _ _ _ _ _ _ = zR _ _ _ _ _ _ _
      rw [e_M_layNeeds_2]
      simp (disch := omega) only [h6, hP, hn, qff hF, qltT, qltF, qleT, qleF, qeqT, qeqF, Int.reduceEq, Int.reduceNe, Int.reduceLT, Int.reduceLE, Int.reduceToNat, Int.reduceAdd, Int.reduceSub, Int.reduceMul, Int.reduceNeg, Nat.reduceAdd, Nat.reduceMul, Nat.reduceEqDiff, Nat.reduceLT, Int.cast_ofNat_Int, Int.lt_irrefl, Bool.false_eq_true, ↓reduceIte, ↓reduceDIte, zbI, zbL, zbA, zbV, qrg, qrg2, qnn, qz, zup_at, zup_r, zup_ne, true_and, and_true, true_or, or_true, and_self, or_self, false_or, or_false, false_and, and_false, Int.toNat_natCast, Int.toNat_add, Int.toNat_mul, Int.toNat_zero, Int.toNat_one, qtn, Int.natCast_add, qnat1, qnat0, ne_eq, not_true_eq_false, not_false_eq_true, eq_self, qbool]) M1 ⟨h1, fun q hq => absurd hq (Nat.not_lt_zero q)⟩
  obtain ⟨M2, ⟨e1, e2⟩, LA⟩ := LA
  have LB := qlpI (E := fun K M3 => (qXm M M3 ∧ ∀ q, q < P → M3 315 q = qnee (M 306) q) ∧ ∀ q, q < K → M3 316 q = qroo (M 306) q a) (P := fun K M3 => zR zPP (d + 5) 298 19 [zA 305, zI (K : Nat)] [] (n, s, S, R, M3)) (N := 16) (fun K M3 hK hx => by
    obtain ⟨⟨e1, e2⟩, e3⟩ := hx
    have h6 : M3 306 = M 306 := e1 306 (by omega)
    have hn := km_lentOf (n := n) (s := s) (d := d + 1) (M := M3) (a := a) hF (by rw [h6]; exact hA) (by rw [h6]; exact ha) hK
    rw [h6] at hn
    refine ⟨zup M3 316 K (qroo (M 306) K a), ⟨⟨fun q hq => by rw [zup_rw (by omega)]; exact e1 q hq, fun q hq => by rw [zup_r (by decide)]; exact e2 q hq⟩, fun q hq => ?_⟩, ?_⟩
    · by_cases hqp : q = K
      · subst hqp; exact zup_at
      · rw [zup_ne hqp]; exact e3 q (by omega)
    · show zR _ _ _ _ _ _ _ = zR _ _ _ _ _ _ _
      rw [e_M_layNeeds_19]
      simp (disch := omega) only [hn, qff hF, qltT, qltF, qleT, qleF, qeqT, qeqF, Int.reduceEq, Int.reduceNe, Int.reduceLT, Int.reduceLE, Int.reduceToNat, Int.reduceAdd, Int.reduceSub, Int.reduceMul, Int.reduceNeg, Nat.reduceAdd, Nat.reduceMul, Nat.reduceEqDiff, Nat.reduceLT, Int.cast_ofNat_Int, Int.lt_irrefl, Bool.false_eq_true, ↓reduceIte, ↓reduceDIte, zbI, zbL, zbA, zbV, qrg, qrg2, qnn, qz, zup_at, zup_r, zup_ne, true_and, and_true, true_or, or_true, and_self, or_self, false_or, or_false, false_and, and_false, Int.toNat_natCast, Int.toNat_add, Int.toNat_mul, Int.toNat_zero, Int.toNat_one, qtn, Int.natCast_add, qnat1, qnat0, ne_eq, not_true_eq_false, not_false_eq_true, eq_self, qbool]) M2 ⟨⟨e1, e2⟩, fun q hq => absurd hq (Nat.not_lt_zero q)⟩
  obtain ⟨M3, ⟨⟨f1, f2⟩, f3⟩, LB⟩ := LB
  have h6 : M2 306 = M 306 := e1 306 (by omega)
  refine ⟨M3, ?_, f1, f2, f3⟩
  rw [c_M_layNeeds]
  simp (disch := omega) only [qff hF, qltT, qltF, qleT, qleF, qeqT, qeqF, Int.reduceEq, Int.reduceNe, Int.reduceLT, Int.reduceLE, Int.reduceToNat, Int.reduceAdd, Int.reduceSub, Int.reduceMul, Int.reduceNeg, Nat.reduceAdd, Nat.reduceMul, Nat.reduceEqDiff, Nat.reduceLT, Int.cast_ofNat_Int, Int.lt_irrefl, Bool.false_eq_true, ↓reduceIte, ↓reduceDIte, zbI, zbL, zbA, zbV, qrg, qrg2, qnn, qz, zup_at, zup_r, zup_ne, true_and, and_true, true_or, or_true, and_self, or_self, false_or, or_false, false_and, and_false, Int.toNat_natCast, Int.toNat_add, Int.toNat_mul, Int.toNat_zero, Int.toNat_one, qtn, Int.natCast_add, qnat1, qnat0, ne_eq, not_true_eq_false, not_false_eq_true, eq_self, qbool]
  refine Eq.trans LA ?_
  rw [e_M_layNeeds_2]
  simp (disch := omega) only [h6, hP, qff hF, qltT, qltF, qleT, qleF, qeqT, qeqF, Int.reduceEq, Int.reduceNe, Int.reduceLT, Int.reduceLE, Int.reduceToNat, Int.reduceAdd, Int.reduceSub, Int.reduceMul, Int.reduceNeg, Nat.reduceAdd, Nat.reduceMul, Nat.reduceEqDiff, Nat.reduceLT, Int.cast_ofNat_Int, Int.lt_irrefl, Bool.false_eq_true, ↓reduceIte, ↓reduceDIte, zbI, zbL, zbA, zbV, qrg, qrg2, qnn, qz, zup_at, zup_r, zup_ne, true_and, and_true, true_or, or_true, and_self, or_self, false_or, or_false, false_and, and_false, Int.toNat_natCast, Int.toNat_add, Int.toNat_mul, Int.toNat_zero, Int.toNat_one, qtn, Int.natCast_add, qnat1, qnat0, ne_eq, not_true_eq_false, not_false_eq_true, eq_self, qbool]
  refine Eq.trans LB ?_
  rw [e_M_layNeeds_19]
  simp (disch := omega) only [qff hF, qltT, qltF, qleT, qleF, qeqT, qeqF, Int.reduceEq, Int.reduceNe, Int.reduceLT, Int.reduceLE, Int.reduceToNat, Int.reduceAdd, Int.reduceSub, Int.reduceMul, Int.reduceNeg, Nat.reduceAdd, Nat.reduceMul, Nat.reduceEqDiff, Nat.reduceLT, Int.cast_ofNat_Int, Int.lt_irrefl, Bool.false_eq_true, ↓reduceIte, ↓reduceDIte, zbI, zbL, zbA, zbV, qrg, qrg2, qnn, qz, zup_at, zup_r, zup_ne, true_and, and_true, true_or, or_true, and_self, or_self, false_or, or_false, false_and, and_false, Int.toNat_natCast, Int.toNat_add, Int.toNat_mul, Int.toNat_zero, Int.toNat_one, qtn, Int.natCast_add, qnat1, qnat0, ne_eq, not_true_eq_false, not_false_eq_true, eq_self, qbool]
theorem km_needIn (hw : qWd n S R M W) {a P : Nat} (hP : M 306 1 = P) (hm : qMm M M1 (M 306) P a) {st : Nat} (hst : st < 2147483648) : zcal zPP (d + 2) 303 [zA 305, zI st] (n, s, S, R, M1) = some (zI (qnin (M 306) st P), (n, s, S, R, M1)) := by
  have hA := hw.2.1.2.2.2
  have hF := hw.1.2.1
  have hp5 := hA.2.1.2
  have h6 : M1 306 = M 306 := hm.1 306 (by omega)
  have L := qlp (P := fun p => zR zPP (d + 1) 303 4 [zA 305, zI st, zI (qnin (M 306) st p), zI (p : Nat)] [] (n, s, S, R, M1)) (N := P) (fun p hp => by
    have b1 := qnin_in hA st (n := p) (by omega)
    have b2 := qnee_in hA (p := p) (by omega)
    have hh := k_has (d := d) (a := st) (k := p) hst (by omega) (n, s, S, R, M1)
    have hne := hm.2.1 p hp
    have es : qnin (M 306) st (p + 1) = qnin (M 306) st p + (if st.testBit p = true then qnee (M 306) p else 0) := rfl
    show zR _ _ _ _ _ _ _ = zR _ _ _ _ _ _ _
    rw [e_M_needIn_4, es]
    by_cases hb : st.testBit p = true
    · rw [if_pos hb] at hh
      rw [if_pos hb]
      simp (disch := omega) only [h6, hP, hh, hne, qff hF, qltT, qltF, qleT, qleF, qeqT, qeqF, Int.reduceEq, Int.reduceNe, Int.reduceLT, Int.reduceLE, Int.reduceToNat, Int.reduceAdd, Int.reduceSub, Int.reduceMul, Int.reduceNeg, Nat.reduceAdd, Nat.reduceMul, Nat.reduceEqDiff, Nat.reduceLT, Int.cast_ofNat_Int, Int.lt_irrefl, Bool.false_eq_true, ↓reduceIte, ↓reduceDIte, zbI, zbL, zbA, zbV, qrg, qrg2, qnn, qz, zup_at, zup_r, zup_ne, true_and, and_true, true_or, or_true, and_self, or_self, false_or, or_false, false_and, and_false, Int.toNat_natCast, Int.toNat_add, Int.toNat_mul, Int.toNat_zero, Int.toNat_one, qtn, Int.natCast_add, qnat1, qnat0, ne_eq, not_true_eq_false, not_false_eq_true, eq_self, qbool]
    · rw [if_neg hb] at hh
      rw [if_neg hb]
      simp (disch := omega) only [h6, hP, hh, qff hF, qltT, qltF, qleT, qleF, qeqT, qeqF, Int.reduceEq, Int.reduceNe, Int.reduceLT, Int.reduceLE, Int.reduceToNat, Int.reduceAdd, Int.reduceSub, Int.reduceMul, Int.reduceNeg, Nat.reduceAdd, Nat.reduceMul, Nat.reduceEqDiff, Nat.reduceLT, Int.cast_ofNat_Int, Int.lt_irrefl, Bool.false_eq_true, ↓reduceIte, ↓reduceDIte, zbI, zbL, zbA, zbV, qrg, qrg2, qnn, qz, zup_at, zup_r, zup_ne, true_and, and_true, true_or, or_true, and_self, or_self, false_or, or_false, false_and, and_false, Int.toNat_natCast, Int.toNat_add, Int.toNat_mul, Int.toNat_zero, Int.toNat_one, qtn, Int.natCast_add, qnat1, qnat0, ne_eq, not_true_eq_false, not_false_eq_true, eq_self, qbool])
  rw [c_M_needIn]
  simp (disch := omega) only [qff hF, qltT, qltF, qleT, qleF, qeqT, qeqF, Int.reduceEq, Int.reduceNe, Int.reduceLT, Int.reduceLE, Int.reduceToNat, Int.reduceAdd, Int.reduceSub, Int.reduceMul, Int.reduceNeg, Nat.reduceAdd, Nat.reduceMul, Nat.reduceEqDiff, Nat.reduceLT, Int.cast_ofNat_Int, Int.lt_irrefl, Bool.false_eq_true, ↓reduceIte, ↓reduceDIte, zbI, zbL, zbA, zbV, qrg, qrg2, qnn, qz, zup_at, zup_r, zup_ne, true_and, and_true, true_or, or_true, and_self, or_self, false_or, or_false, false_and, and_false, Int.toNat_natCast, Int.toNat_add, Int.toNat_mul, Int.toNat_zero, Int.toNat_one, qtn, Int.natCast_add, qnat1, qnat0, ne_eq, not_true_eq_false, not_false_eq_true, eq_self, qbool]
  refine Eq.trans L ?_
  show zR _ _ _ _ _ _ _ = _
  rw [e_M_needIn_4]
  simp (disch := omega) only [h6, hP, qff hF, qltT, qltF, qleT, qleF, qeqT, qeqF, Int.reduceEq, Int.reduceNe, Int.reduceLT, Int.reduceLE, Int.reduceToNat, Int.reduceAdd, Int.reduceSub, Int.reduceMul, Int.reduceNeg, Nat.reduceAdd, Nat.reduceMul, Nat.reduceEqDiff, Nat.reduceLT, Int.cast_ofNat_Int, Int.lt_irrefl, Bool.false_eq_true, ↓reduceIte, ↓reduceDIte, zbI, zbL, zbA, zbV, qrg, qrg2, qnn, qz, zup_at, zup_r, zup_ne, true_and, and_true, true_or, or_true, and_self, or_self, false_or, or_false, false_and, and_false, Int.toNat_natCast, Int.toNat_add, Int.toNat_mul, Int.toNat_zero, Int.toNat_one, qtn, Int.natCast_add, qnat1, qnat0, ne_eq, not_true_eq_false, not_false_eq_true, eq_self, qbool]
theorem km_couldFor (hw : qWd n S R M W) {a P : Nat} (hP : M 306 1 = P) (hm : qMm M M1 (M 306) P a) {st : Nat} (hst : st < 2147483648) : zcal zPP (d + 2) 304 [zA 305, zI st] (n, s, S, R, M1) = some (zI (qroo (M 306) (qkf (M 306) st P) a), (n, s, S, R, M1)) := by
  have hA := hw.2.1.2.2.2
  have hF := hw.1.2.1
  have hp5 := hA.2.1.2
  have h6 : M1 306 = M 306 := hm.1 306 (by omega)
  have L := qlp (P := fun p => zR zPP (d + 1) 304 4 [zA 305, zI st, zI (qkf (M 306) st p : Nat), zI (p : Nat)] [] (n, s, S, R, M1)) (N := P) (fun p hp => by
    have hk16 := qkf_16 hA st p (by omega)
    have i1 := hA.2.2.2.2.2.2.2.2.2.2.2.2.2.2.2.1 p (by omega)
    obtain ⟨tk, htk⟩ := Int.eq_ofNat_of_zero_le i1.1
    have hh := k_has (d := d) (a := st) (k := p) hst (by omega) (n, s, S, R, M1)
    show zR _ _ _ _ _ _ _ = zR _ _ _ _ _ _ _
    rw [e_M_couldFor_4]
    by_cases hb : st.testBit p = true
    · have es : qkf (M 306) st (p + 1) = qkf (M 306) st p ||| (M 306 (165 + p)).toNat := if_pos hb
      rw [if_pos hb] at hh
      rw [es, htk, Int.toNat_natCast]
      simp (disch := omega) only [h6, hP, hh, htk, qff hF, qltT, qltF, qleT, qleF, qeqT, qeqF, Int.reduceEq, Int.reduceNe, Int.reduceLT, Int.reduceLE, Int.reduceToNat, Int.reduceAdd, Int.reduceSub, Int.reduceMul, Int.reduceNeg, Nat.reduceAdd, Nat.reduceMul, Nat.reduceEqDiff, Nat.reduceLT, Int.cast_ofNat_Int, Int.lt_irrefl, Bool.false_eq_true, ↓reduceIte, ↓reduceDIte, zbI, zbL, zbA, zbV, qrg, qrg2, qnn, qz, zup_at, zup_r, zup_ne, true_and, and_true, true_or, or_true, and_self, or_self, false_or, or_false, false_and, and_false, Int.toNat_natCast, Int.toNat_add, Int.toNat_mul, Int.toNat_zero, Int.toNat_one, qtn, Int.natCast_add, qnat1, qnat0, ne_eq, not_true_eq_false, not_false_eq_true, eq_self, qbool]
      rw [zor_nat (by omega) (by omega)]
    · have es : qkf (M 306) st (p + 1) = qkf (M 306) st p := if_neg hb
      rw [if_neg hb] at hh
      rw [es]
      simp (disch := omega) only [h6, hP, hh, zor_zero (show qkf (M 306) st p < 2147483648 by omega), qff hF, qltT, qltF, qleT, qleF, qeqT, qeqF, Int.reduceEq, Int.reduceNe, Int.reduceLT, Int.reduceLE, Int.reduceToNat, Int.reduceAdd, Int.reduceSub, Int.reduceMul, Int.reduceNeg, Nat.reduceAdd, Nat.reduceMul, Nat.reduceEqDiff, Nat.reduceLT, Int.cast_ofNat_Int, Int.lt_irrefl, Bool.false_eq_true, ↓reduceIte, ↓reduceDIte, zbI, zbL, zbA, zbV, qrg, qrg2, qnn, qz, zup_at, zup_r, zup_ne, true_and, and_true, true_or, or_true, and_self, or_self, false_or, or_false, false_and, and_false, Int.toNat_natCast, Int.toNat_add, Int.toNat_mul, Int.toNat_zero, Int.toNat_one, qtn, Int.natCast_add, qnat1, qnat0, ne_eq, not_true_eq_false, not_false_eq_true, eq_self, qbool])
  have hk16 := qkf_16 hA st P (by omega)
  rw [c_M_couldFor]
  simp (disch := omega) only [qff hF, qltT, qltF, qleT, qleF, qeqT, qeqF, Int.reduceEq, Int.reduceNe, Int.reduceLT, Int.reduceLE, Int.reduceToNat, Int.reduceAdd, Int.reduceSub, Int.reduceMul, Int.reduceNeg, Nat.reduceAdd, Nat.reduceMul, Nat.reduceEqDiff, Nat.reduceLT, Int.cast_ofNat_Int, Int.lt_irrefl, Bool.false_eq_true, ↓reduceIte, ↓reduceDIte, zbI, zbL, zbA, zbV, qrg, qrg2, qnn, qz, zup_at, zup_r, zup_ne, true_and, and_true, true_or, or_true, and_self, or_self, false_or, or_false, false_and, and_false, Int.toNat_natCast, Int.toNat_add, Int.toNat_mul, Int.toNat_zero, Int.toNat_one, qtn, Int.natCast_add, qnat1, qnat0, ne_eq, not_true_eq_false, not_false_eq_true, eq_self, qbool]
  refine Eq.trans L ?_
  show zR _ _ _ _ _ _ _ = _
  rw [e_M_couldFor_4]
  simp (disch := omega) only [h6, hP, hm.2.2 _ hk16, qff hF, qltT, qltF, qleT, qleF, qeqT, qeqF, Int.reduceEq, Int.reduceNe, Int.reduceLT, Int.reduceLE, Int.reduceToNat, Int.reduceAdd, Int.reduceSub, Int.reduceMul, Int.reduceNeg, Nat.reduceAdd, Nat.reduceMul, Nat.reduceEqDiff, Nat.reduceLT, Int.cast_ofNat_Int, Int.lt_irrefl, Bool.false_eq_true, ↓reduceIte, ↓reduceDIte, zbI, zbL, zbA, zbV, qrg, qrg2, qnn, qz, zup_at, zup_r, zup_ne, true_and, and_true, true_or, or_true, and_self, or_self, false_or, or_false, false_and, and_false, Int.toNat_natCast, Int.toNat_add, Int.toNat_mul, Int.toNat_zero, Int.toNat_one, qtn, Int.natCast_add, qnat1, qnat0, ne_eq, not_true_eq_false, not_false_eq_true, eq_self, qbool]
theorem km_ableOf (hw : qWd n S R M W) {a P m : Nat} (ha : M 306 0 = a) (hP : M 306 1 = P) (hmP : m ≤ P) (hm : qMm M M1 (M 306) P a) : zcal zPP (d + 4) 302 [zA 305, zI (2 ^ m - 1 : Nat)] (n, s, S, R, M1) = some (zI (qabl (M 306) P a (2 ^ m - 1) (2 ^ m - 1)), (n, s, S, R, M1)) := by
  have hA := hw.2.1.2.2.2
  have hF := hw.1.2.1
  have ha5 := hA.1.2
  have hp5 := hA.2.1.2
  have h2m := q2m (show m ≤ 5 by omega)
  have STEP : ∀ (st : Nat) (l2 : Int) (g : zV), st < 2 ^ m → -1000000 ≤ l2 ∧ l2 ≤ 1000000 → ∃ g' : zV, zR zPP (d + 3) 302 4 [zA 305, zI (2 ^ m - 1 : Nat), zI l2, zI st, g] [] (n, s, S, R, M1) = zR zPP (d + 3) 302 4 [zA 305, zI (2 ^ m - 1 : Nat), zI (min l2 (qabf (M 306) P a (2 ^ m - 1) st)), zI ((st + 1 : Nat) : Int), g'] [] (n, s, S, R, M1) := by
    intro st l2 g hst hl2
    have hsk : zand (st : Int) (zxor ((2 ^ m - 1 : Nat) : Int) (-1)) = 0 := by
      rw [zandn_nat (by omega), qskip m (by omega) st hst]
      rfl
    have hb1 := qabf_in hA (P := P) (a := a) (by omega) (by omega) (2 ^ m - 1) st
    have hcl := qcmp_le (2 ^ m - 1) st
    have hz : zand ((2 ^ m - 1 : Nat) : Int) (zxor (st : Int) (-1)) = (qcmp (2 ^ m - 1) st : Nat) := zandn_nat (by omega)
    have hn := km_needIn (n := n) (s := s) (d := d + 1) hw hP hm (st := qcmp (2 ^ m - 1) st) (by omega)
    have hr := km_couldFor (n := n) (s := s) (d := d + 1) hw hP hm (st := st) (by omega)
    have ef : qnin (M 306) (qcmp (2 ^ m - 1) st) P + qroo (M 306) (qkf (M 306) st P) a = qabf (M 306) P a (2 ^ m - 1) st := rfl
    refine ⟨zI (qabf (M 306) P a (2 ^ m - 1) st), ?_⟩
    rw [e_M_ableOf_4, if_neg (show ¬ ((2 ^ m - 1 : Nat) : Int) < (st : Int) by omega)]
    try simp only [qff hF, if_true]
    rw [hsk, if_pos rfl, hz, hn]
    simp only [zbI]
    rw [hr]
    simp only [zbI]
    rw [ef, qz (by omega) (by omega), qw1 (show st < 100000 by omega)]
    by_cases hc : qabf (M 306) P a (2 ^ m - 1) st < l2
    · rw [if_pos hc, show min l2 (qabf (M 306) P a (2 ^ m - 1) st) = qabf (M 306) P a (2 ^ m - 1) st by omega]
    · rw [if_neg hc, show min l2 (qabf (M 306) P a (2 ^ m - 1) st) = l2 by omega]
  obtain ⟨g0, h0⟩ := STEP 0 1000000 zU (by omega) (by omega)
  have hb0 := qabf_in hA (P := P) (a := a) (by omega) (by omega) (2 ^ m - 1) 0
  have L := qlpE (E := fun _ : zV => True) (P := fun i g => zR zPP (d + 3) 302 4 [zA 305, zI (2 ^ m - 1 : Nat), zI (qabl (M 306) P a (2 ^ m - 1) i), zI ((i + 1 : Nat) : Int), g] [] (n, s, S, R, M1)) (N := 2 ^ m - 1) (fun i g hi _ => by
    have hb := qabl_in hA (P := P) (a := a) (by omega) (by omega) (2 ^ m - 1) i
    obtain ⟨g', h⟩ := STEP (i + 1) (qabl (M 306) P a (2 ^ m - 1) i) g (by omega) (by omega)
    exact ⟨g', trivial, h⟩) g0 trivial
  obtain ⟨g, -, L⟩ := L
  rw [c_M_ableOf]
  simp only [qff hF, if_true]
  refine Eq.trans h0 ?_
  rw [show min 1000000 (qabf (M 306) P a (2 ^ m - 1) 0) = qabl (M 306) P a (2 ^ m - 1) 0 from by show min 1000000 (qabf (M 306) P a (2 ^ m - 1) 0) = qabf (M 306) P a (2 ^ m - 1) 0; omega]
  refine Eq.trans L ?_
  rw [e_M_ableOf_4, if_pos (by omega)]
theorem qb_able (hw : qWd n S R M W) : qBo 59 297 [] n s S R M := by
  have hA := hw.2.1.2.2.2
  have hF := hw.1.2.1
  have hT := hw.2.1.1
  have hp5 := hA.2.1.2
  obtain ⟨a, ha⟩ := Int.eq_ofNat_of_zero_le hA.1.1
  obtain ⟨P, hP⟩ := Int.eq_ofNat_of_zero_le hA.2.1.1
  have h2m := q2m (show P ≤ 5 by omega)
  refine qBo_q (v := zI (qabl (M 306) P a (2 ^ P - 1) (2 ^ P - 1))) hw ?_ ?_
  · obtain ⟨M2, h1, h2⟩ := kx_lendable (s := s) (d := 93) hw ha hP (Nat.le_refl P) (fun _ _ => rfl)
    refine ⟨M2, ?_, qXc_e h2⟩
    have h13 : M 10 13 = P := hT.1.2.1.trans hP
    rw [c_X_able]
    simp only [qff hF, if_true, h13, h1, zbI]
  · intro M1 hw1 e6
    obtain ⟨M2, h1, h2⟩ := km_layNeeds (s := s) (d := 93) hw1 (a := a) (P := P) (by rw [e6]; exact ha) (by rw [e6]; exact hP) (fun _ _ => rfl)
    have h3 := km_ableOf (n := n) (s := s) (d := 95) (m := P) hw1 (a := a) (P := P) (by rw [e6]; exact ha) (by rw [e6]; exact hP) (Nat.le_refl P) h2
    rw [e6] at h3
    have h6 : M2 306 1 = P := by rw [h2.1 306 (by omega), e6]; exact hP
    have hall : zw32 (zshl 1 (P : Int) - 1) = ((2 ^ P - 1 : Nat) : Int) := by
      rw [zshl_one (by omega), qz (by omega) (by omega)]
      omega
    refine ⟨M2, ?_, qXm_e h2.1⟩
    rw [c_M_able]
    simp only [qff hF, if_true, h1, zbV]
    simp (disch := omega) only [c_M_allPersons, h6, qff hF, qltT, qltF, qleT, qleF, qeqT, qeqF, Int.reduceEq, Int.reduceNe, Int.reduceLT, Int.reduceLE, Int.reduceToNat, Int.reduceAdd, Int.reduceSub, Int.reduceMul, Int.reduceNeg, Nat.reduceAdd, Nat.reduceMul, Nat.reduceEqDiff, Nat.reduceLT, Int.cast_ofNat_Int, Int.lt_irrefl, Bool.false_eq_true, ↓reduceIte, ↓reduceDIte, zbI, zbL, zbA, zbV, qrg, qrg2, qnn, qz, zup_at, zup_r, zup_ne, true_and, and_true, true_or, or_true, and_self, or_self, false_or, or_false, false_and, and_false, Int.toNat_natCast, Int.toNat_add, Int.toNat_mul, Int.toNat_zero, Int.toNat_one, qtn, Int.natCast_add, qnat1, qnat0, ne_eq, not_true_eq_false, not_false_eq_true, eq_self, qbool]
    rw [hall, h3]
theorem qb_needs (hw : qWd n S R M W) : qBo 60 305 [] n s S R M := by
  have hA := hw.2.1.2.2.2
  have hF := hw.1.2.1
  have hT := hw.2.1.1
  have hp5 := hA.2.1.2
  obtain ⟨a, ha⟩ := Int.eq_ofNat_of_zero_le hA.1.1
  obtain ⟨P, hP⟩ := Int.eq_ofNat_of_zero_le hA.2.1.1
  have h2m := q2m (show P ≤ 5 by omega)
  have hall : zw32 (zshl 1 (P : Int) - 1) = ((2 ^ P - 1 : Nat) : Int) := by
    rw [zshl_one (by omega), qz (by omega) (by omega)]
    omega
  refine qBo_q (v := zI (qnin (M 306) (2 ^ P - 1) P)) hw ?_ ?_
  · have h1 := kx_needOf (n := n) (s := s) (d := 95) (M1 := M) hw hP (fun _ _ => rfl) (st := 2 ^ P - 1) (by omega)
    refine ⟨M, ?_, qEq_r M⟩
    have h13 : M 10 13 = P := hT.1.2.1.trans hP
    rw [c_X_needs]
    simp only [qff hF, if_true, h13, hall, h1, zbI]
  · intro M1 hw1 e6
    obtain ⟨M2, h1, h2⟩ := km_layNeeds (s := s) (d := 93) hw1 (a := a) (P := P) (by rw [e6]; exact ha) (by rw [e6]; exact hP) (fun _ _ => rfl)
    have h3 := km_needIn (n := n) (s := s) (d := 97) hw1 (P := P) (by rw [e6]; exact hP) h2 (st := 2 ^ P - 1) (by omega)
    rw [e6] at h3
    have h6 : M2 306 1 = P := by rw [h2.1 306 (by omega), e6]; exact hP
    refine ⟨M2, ?_, qXm_e h2.1⟩
    rw [c_M_needs]
    simp only [qff hF, if_true, h1, zbV]
    simp (disch := omega) only [c_M_allPersons, h6, qff hF, qltT, qltF, qleT, qleF, qeqT, qeqF, Int.reduceEq, Int.reduceNe, Int.reduceLT, Int.reduceLE, Int.reduceToNat, Int.reduceAdd, Int.reduceSub, Int.reduceMul, Int.reduceNeg, Nat.reduceAdd, Nat.reduceMul, Nat.reduceEqDiff, Nat.reduceLT, Int.cast_ofNat_Int, Int.lt_irrefl, Bool.false_eq_true, ↓reduceIte, ↓reduceDIte, zbI, zbL, zbA, zbV, qrg, qrg2, qnn, qz, zup_at, zup_r, zup_ne, true_and, and_true, true_or, or_true, and_self, or_self, false_or, or_false, false_and, and_false, Int.toNat_natCast, Int.toNat_add, Int.toNat_mul, Int.toNat_zero, Int.toNat_one, qtn, Int.natCast_add, qnat1, qnat0, ne_eq, not_true_eq_false, not_false_eq_true, eq_self, qbool]
    rw [hall, h3]
theorem qb_plan (hw : qWd n S R M W) (v : Int) : qBo 62 307 [zI v] n s S R M := by
  have hA := hw.2.1.2.2.2
  have hF := hw.1.2.1
  have hT := hw.2.1.1
  have hp5 := hA.2.1.2
  have ha5 := hA.1.2
  obtain ⟨a, ha⟩ := Int.eq_ofNat_of_zero_le hA.1.1
  obtain ⟨P, hP⟩ := Int.eq_ofNat_of_zero_le hA.2.1.1
  by_cases hv : 0 ≤ v ∧ v < M 306 1
  · obtain ⟨p, rfl⟩ := Int.eq_ofNat_of_zero_le hv.1
    have hpP : p < P := by omega
    have h2m := q2m (show p ≤ 5 by omega)
    have h2m' := q2m (show p + 1 ≤ 5 by omega)
    have hb1 := qabl_in hA (P := P) (a := a) (by omega) (by omega) (2 ^ (p + 1) - 1) (2 ^ (p + 1) - 1)
    have hb2 := qabl_in hA (P := P) (a := a) (by omega) (by omega) (2 ^ p - 1) (2 ^ p - 1)
    refine qBo_q (v := zI (qabl (M 306) P a (2 ^ (p + 1) - 1) (2 ^ (p + 1) - 1) - qabl (M 306) P a (2 ^ p - 1) (2 ^ p - 1))) hw ?_ ?_
    · obtain ⟨M2, h1, h2⟩ := kx_lendable (s := s) (d := 93) (m := p + 1) hw ha hP (by omega) (fun _ _ => rfl)
      obtain ⟨M3, h3, h4⟩ := kx_lendable (s := s) (d := 93) (m := p) hw ha hP (by omega) h2
      have h1' : zcal zPP 99 87 [zA 286, zI ((p : Int) + 1)] (n, s, S, R, M) = some (zI (qabl (M 306) P a (2 ^ (p + 1) - 1) (2 ^ (p + 1) - 1)), (n, s, S, R, M2)) := h1
      refine ⟨M3, ?_, qXc_e h4⟩
      have hh := kx_hasPerson (n := n) (s := s) (d := 98) (M := M) hF hT hA (p : Int)
      rw [if_pos hv] at hh
      rw [c_X_plan]
      simp only [qff hF, if_true, hh, zbI]
      rw [if_neg (by decide), qz (x := (p : Int) + 1) (by omega) (by omega), h1']
      simp only [zbI, qff hF, if_true]
      rw [h3]
      simp only [zbI]
      rw [qz (by omega) (by omega)]
    · intro M1 hw1 e6
      have hA1 := hw1.2.1.2.2.2
      obtain ⟨M2, h1, h2⟩ := km_layNeeds (s := s) (d := 93) hw1 (a := a) (P := P) (by rw [e6]; exact ha) (by rw [e6]; exact hP) (fun _ _ => rfl)
      have h3 := km_ableOf (n := n) (s := s) (d := 95) (m := p + 1) hw1 (a := a) (P := P) (by rw [e6]; exact ha) (by rw [e6]; exact hP) (by omega) h2
      have h4 := km_ableOf (n := n) (s := s) (d := 95) (m := p) hw1 (a := a) (P := P) (by rw [e6]; exact ha) (by rw [e6]; exact hP) (by omega) h2
      rw [e6] at h3 h4
      have hall : zw32 (zshl 1 (p : Int) - 1) = ((2 ^ p - 1 : Nat) : Int) := by
        rw [zshl_one (by omega), qz (by omega) (by omega)]
        omega
      have hall2 : zw32 (zshl 2 (p : Int) - 1) = ((2 ^ (p + 1) - 1 : Nat) : Int) := by
        rw [zshl_two (by omega), qz (by omega) (by omega)]
        omega
      have hh := km_isPerson (n := n) (s := s) (d := 97) (M := M1) hF hA1 (p : Int)
      rw [e6, if_pos hv] at hh
      refine ⟨M2, ?_, qXm_e h2.1⟩
      rw [c_M_plan]
      simp only [qff hF, if_true, hh, zbI]
      rw [if_neg (by decide), h1]
      simp only [zbV, qff hF, if_true]
      rw [hall2, h3]
      simp only [zbI]
      rw [hall, h4]
      simp only [zbI]
      rw [qz (by omega) (by omega)]
  · have hX : zcal zPP 100 62 [zA 9, zI v] (n, s, S, R, M) = some (zI (-1), (n, s, S, R, M)) := by
      rw [c_X_plan]
      simp only [qff hF, if_true, kx_hasPerson hF hT hA, zbI, if_neg hv]
    have hM : zcal zPP 100 307 [zA 305, zI v] (n, s, S, R, M) = some (zI (-1), (n, s, S, R, M)) := by
      rw [c_M_plan]
      simp only [qff hF, if_true, km_isPerson hF hA, zbI, if_neg hv]
    exact qBo_same hw hX hM
theorem qblk_in {A : Nat → Int} (hA : qIn A) {P a : Nat} (hP : P ≤ 5) (ha : a ≤ 5) : ∀ n, 0 ≤ (qblk A P a n).1 ∧ (qblk A P a n).1 ≤ 500
  | 0 => by show 0 ≤ (0 : Int) ∧ (0 : Int) ≤ 500; decide
  | n + 1 => by
    have ih := qblk_in hA hP ha n
    have h1 := qnin_in hA (n + 1) hP
    have h2 := qroo_in A (qkf A (n + 1) P) a
    unfold qblk
    split
    · show 0 ≤ qnin A (n + 1) P - qroo A (qkf A (n + 1) P) a ∧ qnin A (n + 1) P - qroo A (qkf A (n + 1) P) a ≤ 500
      omega
    · exact ih
theorem qb_block (hw : qWd n S R M W) : qBo 61 306 [] n s S R M := by
  have hA := hw.2.1.2.2.2
  have hF := hw.1.2.1
  have hT := hw.2.1.1
  have hp5 := hA.2.1.2
  have ha5 := hA.1.2
  obtain ⟨a, ha⟩ := Int.eq_ofNat_of_zero_le hA.1.1
  obtain ⟨P, hP⟩ := Int.eq_ofNat_of_zero_le hA.2.1.1
  have h2m := q2m (show P ≤ 5 by omega)
  have hall : zw32 (zshl 1 (P : Int) - 1) = ((2 ^ P - 1 : Nat) : Int) := by
    rw [zshl_one (by omega), qz (by omega) (by omega)]
    omega
  refine qBo_q (v := zI (qblk (M 306) P a (2 ^ P - 1)).2) hw ?_ ?_
  · obtain ⟨M2, h1, h2⟩ := kx_measure (s := s) (d := 94) hw ha (M1 := M) (fun _ _ => rfl)
    have h13 : M2 10 13 = P := (wx_tw hw h2.1).1.1.2.1.trans hP
    have L := qlpE (E := fun _ : zV => True) (P := fun i g => zR zPP 98 91 16 [zA 286, zI (2 ^ P - 1 : Nat), zI (qblk (M 306) P a i).1, zI (qblk (M 306) P a i).2, zI ((i + 1 : Nat) : Int), g] [] (n, s, S, R, M2)) (N := 2 ^ P - 1) (fun i g hi _ => by
      have hb1 := qnin_in hA (i + 1) (n := P) (by omega)
      have hb2 := qroo_in (M 306) (qkf (M 306) (i + 1) P) a
      have hn := kx_needOf (n := n) (s := s) (d := 94) (M1 := M2) hw hP h2.1 (st := i + 1) (by omega)
      have hr := kx_roomOf (n := n) (s := s) (d := 97) hw hP h2 (st := i + 1) (by omega)
      refine ⟨zI (qnin (M 306) (i + 1) P - qroo (M 306) (qkf (M 306) (i + 1) P) a), trivial, ?_⟩
      show zR _ _ _ _ _ _ _ = zR _ _ _ _ _ _ _
      have es : qblk (M 306) P a (i + 1) = if (qblk (M 306) P a i).1 < qnin (M 306) (i + 1) P - qroo (M 306) (qkf (M 306) (i + 1) P) a then (qnin (M 306) (i + 1) P - qroo (M 306) (qkf (M 306) (i + 1) P) a, ((i + 1 : Nat) : Int)) else qblk (M 306) P a i := rfl
      rw [es, e_Counsel_inTheWay_16, if_neg (by omega), hn]
      simp only [zbI]
      rw [hr]
      simp only [zbI]
      rw [qz (x := qnin (M 306) (i + 1) P - qroo (M 306) (qkf (M 306) (i + 1) P) a) (by omega) (by omega), qw1 (show i + 1 < 100000 by omega)]
      by_cases hc : (qblk (M 306) P a i).1 < qnin (M 306) (i + 1) P - qroo (M 306) (qkf (M 306) (i + 1) P) a
      · rw [if_pos hc, if_pos hc]
      · rw [if_neg hc, if_neg hc]) zU trivial
    obtain ⟨g, -, L⟩ := L
    refine ⟨M2, ?_, qXc_e h2.1⟩
    rw [c_X_block, c_Counsel_inTheWay]
    simp only [qff hF, if_true, h1, zbV, h13, hall]
    have L' : zR zPP 98 91 16 [zA 286, zI (2 ^ P - 1 : Nat), zI 0, zI (-1), zI 1, zU] [] (n, s, S, R, M2) = _ := L
    rw [L', e_Counsel_inTheWay_16, if_pos (by omega)]
    simp only [zbI]
  · intro M1 hw1 e6
    obtain ⟨M2, h1, h2⟩ := km_layNeeds (s := s) (d := 93) hw1 (a := a) (P := P) (by rw [e6]; exact ha) (by rw [e6]; exact hP) (fun _ _ => rfl)
    have h6 : M2 306 1 = P := by rw [h2.1 306 (by omega), e6]; exact hP
    have hap : zcal zPP 99 301 [zA 305] (n, s, S, R, M2) = some (zI (2 ^ P - 1 : Nat), (n, s, S, R, M2)) := by
      simp (disch := omega) only [c_M_allPersons, h6, qff hF, qltT, qltF, qleT, qleF, qeqT, qeqF, Int.reduceEq, Int.reduceNe, Int.reduceLT, Int.reduceLE, Int.reduceToNat, Int.reduceAdd, Int.reduceSub, Int.reduceMul, Int.reduceNeg, Nat.reduceAdd, Nat.reduceMul, Nat.reduceEqDiff, Nat.reduceLT, Int.cast_ofNat_Int, Int.lt_irrefl, Bool.false_eq_true, ↓reduceIte, ↓reduceDIte, zbI, zbL, zbA, zbV, qrg, qrg2, qnn, qz, zup_at, zup_r, zup_ne, true_and, and_true, true_or, or_true, and_self, or_self, false_or, or_false, false_and, and_false, Int.toNat_natCast, Int.toNat_add, Int.toNat_mul, Int.toNat_zero, Int.toNat_one, qtn, Int.natCast_add, qnat1, qnat0, ne_eq, not_true_eq_false, not_false_eq_true, eq_self, qbool]
      rw [hall]
    have L := qlpE (E := fun _ : zV => True) (P := fun i g => zR zPP 99 306 8 [zA 305, zI (qblk (M 306) P a i).2, zI (qblk (M 306) P a i).1, zI ((i + 1 : Nat) : Int), g] [] (n, s, S, R, M2)) (N := 2 ^ P - 1) (fun i g hi _ => by
      have hb1 := qnin_in hA (i + 1) (n := P) (by omega)
      have hb2 := qroo_in (M 306) (qkf (M 306) (i + 1) P) a
      have hn := km_needIn (n := n) (s := s) (d := 97) hw1 (P := P) (by rw [e6]; exact hP) h2 (st := i + 1) (by omega)
      have hr := km_couldFor (n := n) (s := s) (d := 97) hw1 (P := P) (by rw [e6]; exact hP) h2 (st := i + 1) (by omega)
      rw [e6] at hn hr
      refine ⟨zI (qnin (M 306) (i + 1) P - qroo (M 306) (qkf (M 306) (i + 1) P) a), trivial, ?_⟩
      show zR _ _ _ _ _ _ _ = zR _ _ _ _ _ _ _
      have es : qblk (M 306) P a (i + 1) = if (qblk (M 306) P a i).1 < qnin (M 306) (i + 1) P - qroo (M 306) (qkf (M 306) (i + 1) P) a then (qnin (M 306) (i + 1) P - qroo (M 306) (qkf (M 306) (i + 1) P) a, ((i + 1 : Nat) : Int)) else qblk (M 306) P a i := rfl
      rw [es, e_M_block_8]
      simp only [qff hF, if_true, hap, zbI]
      rw [if_neg (by omega), hn]
      simp only [zbI]
      rw [hr]
      simp only [zbI]
      rw [qz (x := qnin (M 306) (i + 1) P - qroo (M 306) (qkf (M 306) (i + 1) P) a) (by omega) (by omega), qw1 (show i + 1 < 100000 by omega)]
      by_cases hc : (qblk (M 306) P a i).1 < qnin (M 306) (i + 1) P - qroo (M 306) (qkf (M 306) (i + 1) P) a
      · rw [if_pos hc, if_pos hc]
      · rw [if_neg hc, if_neg hc]) zU trivial
    obtain ⟨g, -, L⟩ := L
    refine ⟨M2, ?_, qXm_e h2.1⟩
    have L' : zR zPP 99 306 8 [zA 305, zI (-1), zI 0, zI 1, zU] [] (n, s, S, R, M2) = _ := L
    rw [c_M_block]
    simp only [qff hF, if_true, h1, zbV]
    rw [L', e_M_block_8]
    simp only [qff hF, if_true, hap, zbI]
    rw [if_pos (by omega)]
end QF
