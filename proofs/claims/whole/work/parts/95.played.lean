/-! PLAYED: a clause, both sides -/
noncomputable def qci {α : Type} (c : Prop) (a b : α) : α := @ite α c (Classical.propDecidable c) a b
theorem qci_y {α : Type} {c : Prop} {a b : α} (h : c) : qci c a b = a := by unfold qci; exact if_pos h
theorem qci_n {α : Type} {c : Prop} {a b : α} (h : ¬ c) : qci c a b = b := by unfold qci; exact if_neg h
def qoakA (A : Nat → Int) (v : Nat) : Nat → Int := fun k => if k = 0 then A 0 + 1 else if 11 + 24 * (A 0).toNat ≤ k ∧ k < 11 + 24 * (A 0).toNat + 24 then (if v.testBit (k - (11 + 24 * (A 0).toNat)) then 1 else 0) else A k
/-- a clause -/
noncomputable def qpd (w : qWt) (A : Nat → Int) (e : Nat) (x y z : Int) : (Nat → Int) × Bool :=
  if e = 3 then qci ((0 ≤ x ∧ x ≤ 16777215) ∧ A 0 < 5) (qoakA A x.toNat, true) (A, false)
  else if e = 4 then qci ((0 ≤ x ∧ x < 24) ∧ 0 ≤ y ∧ y < 4) (qup A (136 + x.toNat) y, true) (A, false)
  else if e = 5 then qci ((0 ≤ x ∧ x ≤ 99) ∧ A 1 < 5) (qup (qup A (131 + (A 1).toNat) x) 1 (A 1 + 1), true) (A, false)
  else if e = 6 then qci (qcL A w y x z) (qup (qkeep A) (11 + 24 * y.toNat + x.toNat) (3 + z), true) (A, false)
  else if e = 7 then qci (qLent A y x) (qup (qkeep A) (11 + 24 * y.toNat + x.toNat) 1, true) (A, false)
  else if e = 8 then qci (qcP A w y x z) (qup (qkeep A) (11 + 24 * y.toNat + x.toNat) (3 + z), true) (A, false)
  else if e = 9 then ((qdS w (min x.toNat (9999 - A 7).toNat) (A, 0)).1, decide (x ≤ 9999 - A 7))
  else (A, true)
theorem qpd3 (w : qWt) (A : Nat → Int) (x y z : Int) : qpd w A 3 x y z = qci ((0 ≤ x ∧ x ≤ 16777215) ∧ A 0 < 5) (qoakA A x.toNat, true) (A, false) := rfl
theorem qpd4 (w : qWt) (A : Nat → Int) (x y z : Int) : qpd w A 4 x y z = qci ((0 ≤ x ∧ x < 24) ∧ 0 ≤ y ∧ y < 4) (qup A (136 + x.toNat) y, true) (A, false) := rfl
theorem qpd5 (w : qWt) (A : Nat → Int) (x y z : Int) : qpd w A 5 x y z = qci ((0 ≤ x ∧ x ≤ 99) ∧ A 1 < 5) (qup (qup A (131 + (A 1).toNat) x) 1 (A 1 + 1), true) (A, false) := rfl
theorem qpd6 (w : qWt) (A : Nat → Int) (x y z : Int) : qpd w A 6 x y z = qci (qcL A w y x z) (qup (qkeep A) (11 + 24 * y.toNat + x.toNat) (3 + z), true) (A, false) := rfl
theorem qpd7 (w : qWt) (A : Nat → Int) (x y z : Int) : qpd w A 7 x y z = qci (qLent A y x) (qup (qkeep A) (11 + 24 * y.toNat + x.toNat) 1, true) (A, false) := rfl
theorem qpd8 (w : qWt) (A : Nat → Int) (x y z : Int) : qpd w A 8 x y z = qci (qcP A w y x z) (qup (qkeep A) (11 + 24 * y.toNat + x.toNat) (3 + z), true) (A, false) := rfl
theorem qpd9 (w : qWt) (A : Nat → Int) (x y z : Int) : qpd w A 9 x y z = ((qdS w (min x.toNat (9999 - A 7).toNat) (A, 0)).1, decide (x ≤ 9999 - A 7)) := rfl
theorem qpd_law (w : qWt) (A : Nat → Int) {e : Nat} (he : e < 3) (x y z : Int) : qpd w A e x y z = (A, true) := by
  unfold qpd
  rw [if_neg (by omega), if_neg (by omega), if_neg (by omega), if_neg (by omega), if_neg (by omega), if_neg (by omega), if_neg (by omega)]
def q01 (b : Bool) : Int := if b = true then 1 else 0
section QF
variable {S : Nat → Nat × Nat} {R : Nat → Nat → Nat} {M M' M0 M1 M2 M3 : Nat → Nat → Int} {n s d r : Nat} {A : Nat → Int} {W : Nat → qWt} {w0 w : qWt} {fl : Bool}
theorem vx_step (hF : qFx S R) (ht : qTo M 10 A) : ∃ M2, zcal zPP (d + 2) 153 [zA 25, zA 21] (n, s, S, R, M) = some (zU, (n, s, S, R, M2)) ∧ qTo M2 10 (qkeep A) ∧ ∀ a, a < 10 ∨ 147 ≤ a → M2 a = M a := by
  have hI := ht.2.2.2
  obtain ⟨⟨s1, s2, s3⟩, -⟩ := ht.2.2.1
  obtain ⟨f, hf⟩ := Int.eq_ofNat_of_zero_le s2
  obtain ⟨z, hz⟩ := Int.eq_ofNat_of_zero_le hI.2.2.2.2.1.1
  have hf : M 25 1 = f := hf
  have s3 : M 25 1 < 30 := s3
  have s1 : M 25 2 = A 4 := s1
  have hz30 : z ≤ 30 := by have := hI.2.2.2.2.1.2; omega
  obtain ⟨M1, p1, p2⟩ := kx_push (n := n) (s := s) (d := d) (M := M) hF hf (z := z) (by rw [s1, hz]) (by omega) hz30
  exact ⟨M1, p1, qTo_push hf hz hz30 p2 (qkeep_K hz hz30) ht, fun a ha => qPu_rw p2 (by omega)⟩
theorem vx_lend (hF : qFx S R) (hS : qSt M) (hq : qTn S R M (qVr R A) w) (ht : qTo M 10 A) (v u t : Int) : ∃ M', zcal zPP (d + 8) 29 [zA 9, zI v, zI u, zI t] (n, s, S, R, M) = some (zI (q01 (qpd w A 6 u v t).2), (n, s, S, R, M')) ∧ qTo M' 10 (qpd w A 6 u v t).1 ∧ qXt M M' := by
  obtain ⟨M1, x1, x2, x3⟩ := vx_canLend (n := n) (s := s) (d := d) hF hS hq ht v u t
  have ht1 := qTo_X2 x1 ht
  rw [qpd6]
  by_cases hc : qcL A w v u t
  · rw [qci_y hc]
    obtain ⟨c1, c2, c3, c4, c5⟩ := id hc
    obtain ⟨o, rfl⟩ := Int.eq_ofNat_of_zero_le c1.1.1
    obtain ⟨y, rfl⟩ := Int.eq_ofNat_of_zero_le c1.2.1.1
    obtain ⟨p, rfl⟩ := Int.eq_ofNat_of_zero_le c2.1
    have hy : y < 24 := by have := c1.2.1.2; omega
    have hA5 := ht.2.2.2.1.2
    have ho5 : o < 5 := by have := c1.1.2; omega
    rw [Int.toNat_natCast, Int.toNat_natCast] at c4 ⊢
    obtain ⟨M2, p1, p2, p3⟩ := vx_step (n := n) (s := s) (d := d + 5) hF ht1
    have k0 : qkeep A 0 = A 0 := qkeep_k (by decide) (by decide)
    have k1 : qkeep A 1 = A 1 := qkeep_k (by decide) (by decide)
    have ki : qkeep A (11 + 24 * o + y) = 1 := by rw [qkeep_k (by omega) (by omega)]; exact c4
    obtain ⟨M3, g1, g2, g3⟩ := vx_give (n := n) (s := s) (d := d + 4) (p := p) hF p2 (by rw [k0]; exact c1.1.2) hy (by rw [k1]; exact c2.2) (by rw [ki]; decide) (by rw [ki]; decide)
    refine ⟨M3, ?_, g2, qXt_t (qXt_X2 x1) (fun a a1 a2 a3 => by rw [g3 a (by omega), p3 a a1])⟩
    rw [c_X_lend]
    simp (disch := omega) only [x2 hc, p1, g1, qff hF, qltT, qltF, qleT, qleF, qeqT, qeqF, Int.reduceEq, Int.reduceNe, Int.reduceLT, Int.reduceLE, Int.reduceToNat, Int.reduceAdd, Int.reduceSub, Int.reduceMul, Int.reduceNeg, Nat.reduceAdd, Nat.reduceMul, Nat.reduceEqDiff, Nat.reduceLT, Int.cast_ofNat_Int, Int.lt_irrefl, Bool.false_eq_true, ↓reduceIte, ↓reduceDIte, zbI, zbL, zbA, zbV, qrg, qrg2, qnn, qz, zup_at, zup_r, zup_ne, true_and, and_true, true_or, or_true, and_self, or_self, false_or, or_false, false_and, and_false, Int.toNat_natCast, Int.toNat_add, Int.toNat_mul, Int.toNat_zero, Int.toNat_one, qtn, Int.natCast_add, qnat1, qnat0, ne_eq, not_true_eq_false, not_false_eq_true, eq_self, qbool]
    rfl
  · rw [qci_n hc]
    refine ⟨M1, ?_, ht1, qXt_X2 x1⟩
    rw [c_X_lend]
    simp (disch := omega) only [x3 hc, qff hF, qltT, qltF, qleT, qleF, qeqT, qeqF, Int.reduceEq, Int.reduceNe, Int.reduceLT, Int.reduceLE, Int.reduceToNat, Int.reduceAdd, Int.reduceSub, Int.reduceMul, Int.reduceNeg, Nat.reduceAdd, Nat.reduceMul, Nat.reduceEqDiff, Nat.reduceLT, Int.cast_ofNat_Int, Int.lt_irrefl, Bool.false_eq_true, ↓reduceIte, ↓reduceDIte, zbI, zbL, zbA, zbV, qrg, qrg2, qnn, qz, zup_at, zup_r, zup_ne, true_and, and_true, true_or, or_true, and_self, or_self, false_or, or_false, false_and, and_false, Int.toNat_natCast, Int.toNat_add, Int.toNat_mul, Int.toNat_zero, Int.toNat_one, qtn, Int.natCast_add, qnat1, qnat0, ne_eq, not_true_eq_false, not_false_eq_true, eq_self, qbool]
    rfl
theorem vx_pass (hF : qFx S R) (hS : qSt M) (hq : qTn S R M (qVr R A) w) (ht : qTo M 10 A) (v u t : Int) : ∃ M', zcal zPP (d + 8) 32 [zA 9, zI v, zI u, zI t] (n, s, S, R, M) = some (zI (q01 (qpd w A 8 u v t).2), (n, s, S, R, M')) ∧ qTo M' 10 (qpd w A 8 u v t).1 ∧ qXt M M' := by
  obtain ⟨M1, x1, x2, x3⟩ := vx_canPass (n := n) (s := s) (d := d) hF hS hq ht v u t
  have ht1 := qTo_X2 x1 ht
  rw [qpd8]
  by_cases hc : qcP A w v u t
  · rw [qci_y hc]
    obtain ⟨c1, c2, c3, c5⟩ := id hc
    have c4 := c1.2.2
    obtain ⟨o, rfl⟩ := Int.eq_ofNat_of_zero_le c1.1.1
    obtain ⟨y, rfl⟩ := Int.eq_ofNat_of_zero_le c1.2.1.1
    obtain ⟨p, rfl⟩ := Int.eq_ofNat_of_zero_le c2.1
    have hy : y < 24 := by have := c1.2.1.2; omega
    have hA5 := ht.2.2.2.1.2
    have ho5 : o < 5 := by have := c1.1.2; omega
    rw [Int.toNat_natCast, Int.toNat_natCast] at c4 ⊢
    obtain ⟨M2, p1, p2, p3⟩ := vx_step (n := n) (s := s) (d := d + 5) hF ht1
    have k0 : qkeep A 0 = A 0 := qkeep_k (by decide) (by decide)
    have k1 : qkeep A 1 = A 1 := qkeep_k (by decide) (by decide)
    have ki : qkeep A (11 + 24 * o + y) = A (11 + 24 * o + y) := qkeep_k (by omega) (by omega)
    obtain ⟨M3, g1, g2, g3⟩ := vx_give (n := n) (s := s) (d := d + 4) (p := p) hF p2 (by rw [k0]; exact c1.1.2) hy (by rw [k1]; exact c2.2) (by rw [ki]; omega) (by rw [ki]; omega)
    refine ⟨M3, ?_, g2, qXt_t (qXt_X2 x1) (fun a a1 a2 a3 => by rw [g3 a (by omega), p3 a a1])⟩
    rw [c_X_pass]
    simp (disch := omega) only [x2 hc, p1, g1, qff hF, qltT, qltF, qleT, qleF, qeqT, qeqF, Int.reduceEq, Int.reduceNe, Int.reduceLT, Int.reduceLE, Int.reduceToNat, Int.reduceAdd, Int.reduceSub, Int.reduceMul, Int.reduceNeg, Nat.reduceAdd, Nat.reduceMul, Nat.reduceEqDiff, Nat.reduceLT, Int.cast_ofNat_Int, Int.lt_irrefl, Bool.false_eq_true, ↓reduceIte, ↓reduceDIte, zbI, zbL, zbA, zbV, qrg, qrg2, qnn, qz, zup_at, zup_r, zup_ne, true_and, and_true, true_or, or_true, and_self, or_self, false_or, or_false, false_and, and_false, Int.toNat_natCast, Int.toNat_add, Int.toNat_mul, Int.toNat_zero, Int.toNat_one, qtn, Int.natCast_add, qnat1, qnat0, ne_eq, not_true_eq_false, not_false_eq_true, eq_self, qbool]
    rfl
  · rw [qci_n hc]
    refine ⟨M1, ?_, ht1, qXt_X2 x1⟩
    rw [c_X_pass]
    simp (disch := omega) only [x3 hc, qff hF, qltT, qltF, qleT, qleF, qeqT, qeqF, Int.reduceEq, Int.reduceNe, Int.reduceLT, Int.reduceLE, Int.reduceToNat, Int.reduceAdd, Int.reduceSub, Int.reduceMul, Int.reduceNeg, Nat.reduceAdd, Nat.reduceMul, Nat.reduceEqDiff, Nat.reduceLT, Int.cast_ofNat_Int, Int.lt_irrefl, Bool.false_eq_true, ↓reduceIte, ↓reduceDIte, zbI, zbL, zbA, zbV, qrg, qrg2, qnn, qz, zup_at, zup_r, zup_ne, true_and, and_true, true_or, or_true, and_self, or_self, false_or, or_false, false_and, and_false, Int.toNat_natCast, Int.toNat_add, Int.toNat_mul, Int.toNat_zero, Int.toNat_one, qtn, Int.natCast_add, qnat1, qnat0, ne_eq, not_true_eq_false, not_false_eq_true, eq_self, qbool]
    rfl
theorem vx_returned (hF : qFx S R) (ht : qTo M 10 A) (v u t : Int) : ∃ M', zcal zPP (d + 8) 31 [zA 9, zI v, zI u] (n, s, S, R, M) = some (zI (q01 (qpd w A 7 u v t).2), (n, s, S, R, M')) ∧ qTo M' 10 (qpd w A 7 u v t).1 ∧ qXt M M' := by
  obtain ⟨x2, x3⟩ := kx_holder (n := n) (s := s) (d := d + 5) (M := M) hF ht.2.2.2 ht.2.1.1 v u
  rw [qpd7]
  by_cases hc : qLent A v u
  · rw [qci_y hc]
    have x2' := x2 hc
    have c1 := hc.1
    have c2 := hc.2.1
    have c4 := hc.2.2
    obtain ⟨o, rfl⟩ := Int.eq_ofNat_of_zero_le c1.1
    obtain ⟨y, rfl⟩ := Int.eq_ofNat_of_zero_le c2.1
    have hy : y < 24 := by omega
    have hA5 := ht.2.2.2.1.2
    have ho5 : o < 5 := by omega
    rw [Int.toNat_natCast, Int.toNat_natCast] at c4 x2' ⊢
    obtain ⟨M2, p1, p2, p3⟩ := vx_step (n := n) (s := s) (d := d + 5) hF ht
    have k0 : qkeep A 0 = A 0 := qkeep_k (by decide) (by decide)
    have ki : qkeep A (11 + 24 * o + y) = A (11 + 24 * o + y) := qkeep_k (by omega) (by omega)
    obtain ⟨M3, g1, g2, g3⟩ := vx_bring (n := n) (s := s) (d := d + 5) hF p2 (o := o) (y := y) (by rw [k0]; exact c1.2) hy
    rw [ki, if_pos c4] at g2
    refine ⟨M3, ?_, g2, fun a a1 a2 a3 => by rw [g3 a (by omega), p3 a a1]⟩
    rw [c_X_returned]
    simp (disch := omega) only [x2', p1, g1, qff hF, qltT, qltF, qleT, qleF, qeqT, qeqF, Int.reduceEq, Int.reduceNe, Int.reduceLT, Int.reduceLE, Int.reduceToNat, Int.reduceAdd, Int.reduceSub, Int.reduceMul, Int.reduceNeg, Nat.reduceAdd, Nat.reduceMul, Nat.reduceEqDiff, Nat.reduceLT, Int.cast_ofNat_Int, Int.lt_irrefl, Bool.false_eq_true, ↓reduceIte, ↓reduceDIte, zbI, zbL, zbA, zbV, qrg, qrg2, qnn, qz, zup_at, zup_r, zup_ne, true_and, and_true, true_or, or_true, and_self, or_self, false_or, or_false, false_and, and_false, Int.toNat_natCast, Int.toNat_add, Int.toNat_mul, Int.toNat_zero, Int.toNat_one, qtn, Int.natCast_add, qnat1, qnat0, ne_eq, not_true_eq_false, not_false_eq_true, eq_self, qbool]
    rfl
  · rw [qci_n hc]
    refine ⟨M, ?_, ht, fun _ _ _ _ => rfl⟩
    rw [c_X_returned]
    simp (disch := omega) only [x3 hc, qff hF, qltT, qltF, qleT, qleF, qeqT, qeqF, Int.reduceEq, Int.reduceNe, Int.reduceLT, Int.reduceLE, Int.reduceToNat, Int.reduceAdd, Int.reduceSub, Int.reduceMul, Int.reduceNeg, Nat.reduceAdd, Nat.reduceMul, Nat.reduceEqDiff, Nat.reduceLT, Int.cast_ofNat_Int, Int.lt_irrefl, Bool.false_eq_true, ↓reduceIte, ↓reduceDIte, zbI, zbL, zbA, zbV, qrg, qrg2, qnn, qz, zup_at, zup_r, zup_ne, true_and, and_true, true_or, or_true, and_self, or_self, false_or, or_false, false_and, and_false, Int.toNat_natCast, Int.toNat_add, Int.toNat_mul, Int.toNat_zero, Int.toNat_one, qtn, Int.natCast_add, qnat1, qnat0, ne_eq, not_true_eq_false, not_false_eq_true, eq_self, qbool]
    rfl
theorem vx_oak (hF : qFx S R) (ht : qTo M 10 A) (x y z : Int) : ∃ M' r, zcal zPP (d + 2) 16 [zA 9, zI x] (n, s, S, R, M) = some (zI r, (n, s, S, R, M')) ∧ (r = -1 ∨ 0 ≤ r) ∧ (qpd w A 3 x y z).2 = decide (0 ≤ r) ∧ qTo M' 10 (qpd w A 3 x y z).1 ∧ qXt M M' := by
  have hA := ht.2.2.2
  obtain ⟨O, hO⟩ := Int.eq_ofNat_of_zero_le hA.1.1
  have hO5 := hA.1.2
  have hX := k_oak (n := n) (s := s) (d := d) (M := M) hF.1 (O := O) (by rw [← hO]; exact ht.1.1.1) (by omega) x
  rw [qpd3]
  by_cases hc : (0 ≤ x ∧ x ≤ 16777215) ∧ O < 5
  · rw [qci_y ⟨hc.1, by omega⟩]
    rw [if_pos hc] at hX
    obtain ⟨v, rfl⟩ := Int.eq_ofNat_of_zero_le hc.1.1
    have hv24 : v < 2 ^ 24 := by
      have : (2 : Nat) ^ 24 = 16777216 := rfl
      omega
    rw [Int.toNat_natCast]
    refine ⟨_, _, hX, Or.inr (by omega), (decide_eq_true (by omega)).symm, ?_, fun a a1 a2 a3 => by rw [zup_rw (by omega), zup_rw (by omega)]⟩
    have hn : (A 0).toNat = O := by omega
    refine qTo_oak hO hc.2 hv24 ?_ (fun y hy => ?_) (fun k k0 k1 => ?_) ht
    · show qoakA A v 0 = _
      unfold qoakA
      rw [if_pos rfl, hO]
    · show qoakA A v (11 + 24 * O + y) = _
      unfold qoakA
      rw [if_neg (by omega), if_pos (by omega), hn, Nat.add_sub_cancel_left]
    · show qoakA A v k = _
      unfold qoakA
      rw [if_neg k0, if_neg (by omega)]
  · rw [qci_n (fun h => hc ⟨h.1, by omega⟩)]
    rw [if_neg hc] at hX
    exact ⟨M, _, hX, Or.inl rfl, rfl, ht, fun _ _ _ _ => rfl⟩
theorem vx_year (hF : qFx S R) (ht : qTo M 10 A) (x y z : Int) : ∃ M', zcal zPP (d + 2) 18 [zA 9, zI x, zI y] (n, s, S, R, M) = some (zI (q01 (qpd w A 4 x y z).2), (n, s, S, R, M')) ∧ qTo M' 10 (qpd w A 4 x y z).1 ∧ qXt M M' := by
  have hX := k_year (n := n) (s := s) (d := d) (M := M) hF.1 x y
  rw [qpd4]
  by_cases hc : (0 ≤ x ∧ x < 24) ∧ 0 ≤ y ∧ y < 4
  · rw [if_pos hc] at hX
    rw [qci_y hc]
    exact ⟨_, hX, qTo_cell (by decide) (by omega) (by omega) (qTw_r12 (by omega) y ht.1) (qIn_r12 (by omega) (by omega) ht.2.2.2) ht, fun a a1 a2 a3 => zup_rw (by omega)⟩
  · rw [if_neg hc] at hX
    rw [qci_n hc]
    exact ⟨M, hX, ht, fun _ _ _ _ => rfl⟩
theorem vx_person (hF : qFx S R) (ht : qTo M 10 A) (x y z : Int) : ∃ M' r, zcal zPP (d + 2) 21 [zA 9, zI x] (n, s, S, R, M) = some (zI r, (n, s, S, R, M')) ∧ (r = -1 ∨ 0 ≤ r) ∧ (qpd w A 5 x y z).2 = decide (0 ≤ r) ∧ qTo M' 10 (qpd w A 5 x y z).1 ∧ qXt M M' := by
  have hA := ht.2.2.2
  have hp := hA.2.1
  obtain ⟨P, hP⟩ := Int.eq_ofNat_of_zero_le hp.1
  have hX := k_person (n := n) (s := s) (d := d) (M := M) hF.1 (P := P) (by rw [← hP]; exact ht.1.1.2.1) (by omega) x
  rw [qpd5]
  by_cases hc : (0 ≤ x ∧ x ≤ 99) ∧ P < 5
  · rw [if_pos hc] at hX
    rw [qci_y ⟨hc.1, by omega⟩]
    have hq1 := qIn_r13 (y := P) (by omega) hc.1 hA
    have e1 : qup A (131 + P) x 1 = P := by rw [qup_ne (by omega)]; exact hP
    refine ⟨_, _, hX, Or.inr (by omega), (decide_eq_true (by omega)).symm, ?_, fun a a1 a2 a3 => by rw [zup_rw (by omega), zup_rw (by omega)]⟩
    have hn : (A 1).toNat = P := by omega
    have hn1 : A 1 + 1 = ((P + 1 : Nat) : Int) := by omega
    show qTo _ 10 (qup (qup A (131 + (A 1).toNat) x) 1 (A 1 + 1))
    rw [hn, hn1]
    exact qTo_cell (by decide) (by omega) (fun _ => by rw [e1]; omega) (qTw_f13 _ (qTw_r13 (by omega) x ht.1)) (qIn_f13 (by rw [e1]; omega) hq1) (qTo_cell (by decide) (by omega) (by omega) (qTw_r13 (by omega) x ht.1) hq1 ht)
  · rw [qci_n (fun h => hc ⟨h.1, by omega⟩)]
    rw [if_neg hc] at hX
    exact ⟨M, _, hX, Or.inl rfl, rfl, ht, fun _ _ _ _ => rfl⟩
/-! the model -/
theorem km_lendA (hF : qFx S R) (hA : qIn (M 306)) (ht : qTN (M 308) (M 306 3) w) (v u t : Int) : ∃ M', zcal zPP (d + 10) 230 [zA 305, zI v, zI u, zI t] (n, s, S, R, M) = some (zI (q01 (qpd w (M 306) 6 u v t).2), (n, s, S, R, M')) ∧ M' 306 = (qpd w (M 306) 6 u v t).1 ∧ qX5 M M' := by
  obtain ⟨M1, x1, x2, x3⟩ := km_canLend (n := n) (s := s) (d := d) (M := M) hF hA ht v u t
  have e6 : M1 306 = M 306 := x1 306 (by decide) (by decide) (by decide)
  rw [qpd6]
  by_cases hc : qcL (M 306) w v u t
  · rw [qci_y hc]
    obtain ⟨c1, c2, c3, c4, c5⟩ := id hc
    obtain ⟨o, rfl⟩ := Int.eq_ofNat_of_zero_le c1.1.1
    obtain ⟨y, rfl⟩ := Int.eq_ofNat_of_zero_le c1.2.1.1
    obtain ⟨p, rfl⟩ := Int.eq_ofNat_of_zero_le c2.1
    have hy : y < 24 := by have := c1.2.1.2; omega
    have hA5 := hA.1.2
    have hp5 := hA.2.1.2
    have ho5 : o < 5 := by have := c1.1.2; omega
    have hpp := c2.2
    rw [Int.toNat_natCast, Int.toNat_natCast] at c4 ⊢
    obtain ⟨M2, a1, a2, a3⟩ := km_keepF (n := n) (s := s) (d := d + 8) (M := M1) hF (by rw [e6]; exact hA)
    rw [e6] at a3
    have hz3 : zw32 (3 + (p : Int)) = 3 + p := qz (by omega) (by omega)
    have hpt := km_put (n := n) (s := s) (d := d + 8) (M := M2) hF ho5 hy (3 + p)
    refine ⟨_, ?_, by rw [qup_zup, a3], qX5_t (qX5_3 x1) (qX5_p ⟨fun a _ h _ _ _ => a2 a h, fun k _ => by rw [a2 305 (by decide)]⟩)⟩
    rw [c_M_lend]
    simp (disch := omega) only [x2 hc, a1, hz3, hpt, qff hF, qltT, qltF, qleT, qleF, qeqT, qeqF, Int.reduceEq, Int.reduceNe, Int.reduceLT, Int.reduceLE, Int.reduceToNat, Int.reduceAdd, Int.reduceSub, Int.reduceMul, Int.reduceNeg, Nat.reduceAdd, Nat.reduceMul, Nat.reduceEqDiff, Nat.reduceLT, Int.cast_ofNat_Int, Int.lt_irrefl, Bool.false_eq_true, ↓reduceIte, ↓reduceDIte, zbI, zbL, zbA, zbV, qrg, qrg2, qnn, qz, zup_at, zup_r, zup_ne, true_and, and_true, true_or, or_true, and_self, or_self, false_or, or_false, false_and, and_false, Int.toNat_natCast, Int.toNat_add, Int.toNat_mul, Int.toNat_zero, Int.toNat_one, qtn, Int.natCast_add, qnat1, qnat0, ne_eq, not_true_eq_false, not_false_eq_true, eq_self, qbool]
    rfl
  · rw [qci_n hc]
    refine ⟨M1, ?_, e6, qX5_3 x1⟩
    rw [c_M_lend]
    simp (disch := omega) only [x3 hc, qff hF, qltT, qltF, qleT, qleF, qeqT, qeqF, Int.reduceEq, Int.reduceNe, Int.reduceLT, Int.reduceLE, Int.reduceToNat, Int.reduceAdd, Int.reduceSub, Int.reduceMul, Int.reduceNeg, Nat.reduceAdd, Nat.reduceMul, Nat.reduceEqDiff, Nat.reduceLT, Int.cast_ofNat_Int, Int.lt_irrefl, Bool.false_eq_true, ↓reduceIte, ↓reduceDIte, zbI, zbL, zbA, zbV, qrg, qrg2, qnn, qz, zup_at, zup_r, zup_ne, true_and, and_true, true_or, or_true, and_self, or_self, false_or, or_false, false_and, and_false, Int.toNat_natCast, Int.toNat_add, Int.toNat_mul, Int.toNat_zero, Int.toNat_one, qtn, Int.natCast_add, qnat1, qnat0, ne_eq, not_true_eq_false, not_false_eq_true, eq_self, qbool]
    rfl
theorem km_passA (hF : qFx S R) (hA : qIn (M 306)) (ht : qTN (M 308) (M 306 3) w) (v u t : Int) : ∃ M', zcal zPP (d + 10) 254 [zA 305, zI v, zI u, zI t] (n, s, S, R, M) = some (zI (q01 (qpd w (M 306) 8 u v t).2), (n, s, S, R, M')) ∧ M' 306 = (qpd w (M 306) 8 u v t).1 ∧ qX5 M M' := by
  obtain ⟨M1, x1, x2, x3⟩ := km_canPass (n := n) (s := s) (d := d) (M := M) hF hA ht v u t
  have e6 : M1 306 = M 306 := x1 306 (by decide) (by decide) (by decide)
  rw [qpd8]
  by_cases hc : qcP (M 306) w v u t
  · rw [qci_y hc]
    obtain ⟨c1, c2, c3, c5⟩ := id hc
    obtain ⟨o, rfl⟩ := Int.eq_ofNat_of_zero_le c1.1.1
    obtain ⟨y, rfl⟩ := Int.eq_ofNat_of_zero_le c1.2.1.1
    obtain ⟨p, rfl⟩ := Int.eq_ofNat_of_zero_le c2.1
    have hy : y < 24 := by have := c1.2.1.2; omega
    have hA5 := hA.1.2
    have hp5 := hA.2.1.2
    have ho5 : o < 5 := by have := c1.1.2; omega
    have hpp := c2.2
    rw [Int.toNat_natCast, Int.toNat_natCast]
    obtain ⟨M2, a1, a2, a3⟩ := km_keepF (n := n) (s := s) (d := d + 8) (M := M1) hF (by rw [e6]; exact hA)
    rw [e6] at a3
    have hz3 : zw32 (3 + (p : Int)) = 3 + p := qz (by omega) (by omega)
    have hpt := km_put (n := n) (s := s) (d := d + 8) (M := M2) hF ho5 hy (3 + p)
    refine ⟨_, ?_, by rw [qup_zup, a3], qX5_t (qX5_3 x1) (qX5_p ⟨fun a _ h _ _ _ => a2 a h, fun k _ => by rw [a2 305 (by decide)]⟩)⟩
    rw [c_M_pass]
    simp (disch := omega) only [x2 hc, a1, hz3, hpt, qff hF, qltT, qltF, qleT, qleF, qeqT, qeqF, Int.reduceEq, Int.reduceNe, Int.reduceLT, Int.reduceLE, Int.reduceToNat, Int.reduceAdd, Int.reduceSub, Int.reduceMul, Int.reduceNeg, Nat.reduceAdd, Nat.reduceMul, Nat.reduceEqDiff, Nat.reduceLT, Int.cast_ofNat_Int, Int.lt_irrefl, Bool.false_eq_true, ↓reduceIte, ↓reduceDIte, zbI, zbL, zbA, zbV, qrg, qrg2, qnn, qz, zup_at, zup_r, zup_ne, true_and, and_true, true_or, or_true, and_self, or_self, false_or, or_false, false_and, and_false, Int.toNat_natCast, Int.toNat_add, Int.toNat_mul, Int.toNat_zero, Int.toNat_one, qtn, Int.natCast_add, qnat1, qnat0, ne_eq, not_true_eq_false, not_false_eq_true, eq_self, qbool]
    rfl
  · rw [qci_n hc]
    refine ⟨M1, ?_, e6, qX5_3 x1⟩
    rw [c_M_pass]
    simp (disch := omega) only [x3 hc, qff hF, qltT, qltF, qleT, qleF, qeqT, qeqF, Int.reduceEq, Int.reduceNe, Int.reduceLT, Int.reduceLE, Int.reduceToNat, Int.reduceAdd, Int.reduceSub, Int.reduceMul, Int.reduceNeg, Nat.reduceAdd, Nat.reduceMul, Nat.reduceEqDiff, Nat.reduceLT, Int.cast_ofNat_Int, Int.lt_irrefl, Bool.false_eq_true, ↓reduceIte, ↓reduceDIte, zbI, zbL, zbA, zbV, qrg, qrg2, qnn, qz, zup_at, zup_r, zup_ne, true_and, and_true, true_or, or_true, and_self, or_self, false_or, or_false, false_and, and_false, Int.toNat_natCast, Int.toNat_add, Int.toNat_mul, Int.toNat_zero, Int.toNat_one, qtn, Int.natCast_add, qnat1, qnat0, ne_eq, not_true_eq_false, not_false_eq_true, eq_self, qbool]
    rfl
theorem km_returnedA (hF : qFx S R) (hA : qIn (M 306)) (v u t : Int) : ∃ M', zcal zPP (d + 10) 252 [zA 305, zI v, zI u] (n, s, S, R, M) = some (zI (q01 (qpd w (M 306) 7 u v t).2), (n, s, S, R, M')) ∧ M' 306 = (qpd w (M 306) 7 u v t).1 ∧ qX5 M M' := by
  obtain ⟨x2, x3⟩ := km_isLent (n := n) (s := s) (d := d + 5) (M := M) hF hA v u
  rw [qpd7]
  by_cases hc : qLent (M 306) v u
  · rw [qci_y hc]
    have x2' := x2 hc
    have c1 := hc.1
    have c2 := hc.2.1
    obtain ⟨o, rfl⟩ := Int.eq_ofNat_of_zero_le c1.1
    obtain ⟨y, rfl⟩ := Int.eq_ofNat_of_zero_le c2.1
    have hy : y < 24 := by omega
    have hA5 := hA.1.2
    have ho5 : o < 5 := by omega
    rw [Int.toNat_natCast, Int.toNat_natCast]
    obtain ⟨M2, a1, a2, a3⟩ := km_keepF (n := n) (s := s) (d := d + 8) (M := M) hF hA
    have hpt := km_put (n := n) (s := s) (d := d + 8) (M := M2) hF ho5 hy 1
    refine ⟨_, ?_, by rw [qup_zup, a3], qX5_p ⟨fun a _ h _ _ _ => a2 a h, fun k _ => by rw [a2 305 (by decide)]⟩⟩
    rw [c_M_returned]
    simp (disch := omega) only [x2', a1, hpt, qff hF, qltT, qltF, qleT, qleF, qeqT, qeqF, Int.reduceEq, Int.reduceNe, Int.reduceLT, Int.reduceLE, Int.reduceToNat, Int.reduceAdd, Int.reduceSub, Int.reduceMul, Int.reduceNeg, Nat.reduceAdd, Nat.reduceMul, Nat.reduceEqDiff, Nat.reduceLT, Int.cast_ofNat_Int, Int.lt_irrefl, Bool.false_eq_true, ↓reduceIte, ↓reduceDIte, zbI, zbL, zbA, zbV, qrg, qrg2, qnn, qz, zup_at, zup_r, zup_ne, true_and, and_true, true_or, or_true, and_self, or_self, false_or, or_false, false_and, and_false, Int.toNat_natCast, Int.toNat_add, Int.toNat_mul, Int.toNat_zero, Int.toNat_one, qtn, Int.natCast_add, qnat1, qnat0, ne_eq, not_true_eq_false, not_false_eq_true, eq_self, qbool]
    rfl
  · rw [qci_n hc]
    refine ⟨M, ?_, rfl, qX5_r M⟩
    rw [c_M_returned]
    simp (disch := omega) only [x3 hc, qff hF, qltT, qltF, qleT, qleF, qeqT, qeqF, Int.reduceEq, Int.reduceNe, Int.reduceLT, Int.reduceLE, Int.reduceToNat, Int.reduceAdd, Int.reduceSub, Int.reduceMul, Int.reduceNeg, Nat.reduceAdd, Nat.reduceMul, Nat.reduceEqDiff, Nat.reduceLT, Int.cast_ofNat_Int, Int.lt_irrefl, Bool.false_eq_true, ↓reduceIte, ↓reduceDIte, zbI, zbL, zbA, zbV, qrg, qrg2, qnn, qz, zup_at, zup_r, zup_ne, true_and, and_true, true_or, or_true, and_self, or_self, false_or, or_false, false_and, and_false, Int.toNat_natCast, Int.toNat_add, Int.toNat_mul, Int.toNat_zero, Int.toNat_one, qtn, Int.natCast_add, qnat1, qnat0, ne_eq, not_true_eq_false, not_false_eq_true, eq_self, qbool]
    rfl
theorem km_oakA (hF : qFx S R) (hA : qIn (M 306)) (x y z : Int) : ∃ M' r, zcal zPP (d + 2) 179 [zA 305, zI x] (n, s, S, R, M) = some (zI r, (n, s, S, R, M')) ∧ (qpd w (M 306) 3 x y z).2 = decide (0 ≤ r) ∧ M' 306 = (qpd w (M 306) 3 x y z).1 ∧ qX5 M M' := by
  obtain ⟨O, hO⟩ := Int.eq_ofNat_of_zero_le hA.1.1
  have hO5 := hA.1.2
  have hX := k_oakM (n := n) (s := s) (d := d) (M := M) hF.2.1 (O := O) hO (by omega) x
  rw [qpd3]
  by_cases hc : (0 ≤ x ∧ x ≤ 16777215) ∧ O < 5
  · rw [qci_y ⟨hc.1, by omega⟩]
    rw [if_pos hc] at hX
    have hn : (M 306 0).toNat = O := by omega
    refine ⟨_, _, hX, (decide_eq_true (by omega)).symm, ?_, fun a a1 a2 a3 a4 a5 => ?_, fun k hk => ?_⟩
    · funext k
      show _ = (if k = 0 then M 306 0 + 1 else if 11 + 24 * (M 306 0).toNat ≤ k ∧ k < 11 + 24 * (M 306 0).toNat + 24 then (if x.toNat.testBit (k - (11 + 24 * (M 306 0).toNat)) then (1 : Int) else 0) else M 306 k)
      rw [hn]
      by_cases k0 : k = 0
      · subst k0
        rw [if_pos rfl, hO]
        exact zup_at
      · rw [if_neg k0]
        show zup (qfill M 306 (11 + 24 * O) 24 fun y => if x.toNat.testBit y then 1 else 0) 306 0 ((O + 1 : Nat) : Int) 306 k = _
        rw [zup_ne k0]
        show (if 306 = 306 ∧ 11 + 24 * O ≤ k ∧ k < 11 + 24 * O + 24 then _ else _) = _
        by_cases hk : 11 + 24 * O ≤ k ∧ k < 11 + 24 * O + 24
        · rw [if_pos ⟨rfl, hk⟩, if_pos hk]
        · rw [if_neg (fun h => hk h.2), if_neg hk]
    · show zup (qfill M 306 (11 + 24 * O) 24 fun y => if x.toNat.testBit y then 1 else 0) 306 0 ((O + 1 : Nat) : Int) a = _
      rw [zup_rw a2]
      funext k
      exact qfill_out (by omega)
    · show zup (qfill M 306 (11 + 24 * O) 24 fun y => if x.toNat.testBit y then 1 else 0) 306 0 ((O + 1 : Nat) : Int) 305 k = _
      rw [zup_rw (by decide)]
      exact qfill_out (by omega)
  · rw [qci_n (fun h => hc ⟨h.1, by omega⟩)]
    rw [if_neg hc] at hX
    exact ⟨M, _, hX, rfl, rfl, qX5_r M⟩
theorem km_yearA (hF : qFx S R) (x y z : Int) : ∃ M', zcal zPP (d + 3) 183 [zA 305, zI x, zI y] (n, s, S, R, M) = some (zI (q01 (qpd w (M 306) 4 x y z).2), (n, s, S, R, M')) ∧ M' 306 = (qpd w (M 306) 4 x y z).1 ∧ qX5 M M' := by
  have hX := k_yearM (n := n) (s := s) (d := d) (M := M) hF.2.1 x y
  rw [qpd4]
  by_cases hc : (0 ≤ x ∧ x < 24) ∧ 0 ≤ y ∧ y < 4
  · rw [if_pos hc] at hX
    rw [qci_y hc]
    exact ⟨_, hX, qup_zup _ _ _ _, qX5_p (qX5_r M)⟩
  · rw [if_neg hc] at hX
    rw [qci_n hc]
    exact ⟨M, hX, rfl, qX5_r M⟩
theorem km_personA (hF : qFx S R) (hA : qIn (M 306)) (x y z : Int) : ∃ M' r, zcal zPP (d + 2) 185 [zA 305, zI x] (n, s, S, R, M) = some (zI r, (n, s, S, R, M')) ∧ (qpd w (M 306) 5 x y z).2 = decide (0 ≤ r) ∧ M' 306 = (qpd w (M 306) 5 x y z).1 ∧ qX5 M M' := by
  have hp := hA.2.1
  obtain ⟨P, hP⟩ := Int.eq_ofNat_of_zero_le hp.1
  have hX := k_personM (n := n) (s := s) (d := d) (M := M) hF.2.1 (P := P) hP (by omega) x
  rw [qpd5]
  by_cases hc : (0 ≤ x ∧ x ≤ 99) ∧ P < 5
  · rw [if_pos hc] at hX
    rw [qci_y ⟨hc.1, by omega⟩]
    have hn : (M 306 1).toNat = P := by omega
    have hn1 : M 306 1 + 1 = ((P + 1 : Nat) : Int) := by omega
    refine ⟨_, _, hX, (decide_eq_true (by omega)).symm, ?_, qX5_p (qX5_p (qX5_r M))⟩
    show zup (zup M 306 (131 + P) x) 306 1 ((P + 1 : Nat) : Int) 306 = qup (qup (M 306) (131 + (M 306 1).toNat) x) 1 (M 306 1 + 1)
    rw [hn, hn1, qup_zup, qup_zup]
  · rw [qci_n (fun h => hc ⟨h.1, by omega⟩)]
    rw [if_neg hc] at hX
    exact ⟨M, _, hX, rfl, rfl, qX5_r M⟩
theorem km_daysA (hF : qFx S R) (hA : qIn (M 306)) (ht : qTN (M 308) (M 306 3) w) (hfl : M 305 23 = 1) {x : Int} (hx : 1 ≤ x ∧ x ≤ 60) (y z : Int) : ∃ M', zcal zPP (d + 11) 257 [zA 305, zI x] (n, s, S, R, M) = some (zI (q01 (qpd w (M 306) 9 x y z).2), (n, s, S, R, M')) ∧ M' 306 = (qpd w (M 306) 9 x y z).1 ∧ qX5 M M' := by
  have h70 := hA.2.2.2.2.2.2.2.1
  obtain ⟨N, rfl⟩ := Int.eq_ofNat_of_zero_le (show 0 ≤ x by omega)
  have z6 : zup M 305 24 0 306 = M 306 := by rw [zup_rw (by decide)]
  obtain ⟨M2, m1, m2, m3, m4⟩ := km_days (n := n) (s := s) (d := d) (M := zup M 305 24 0) (w := w) (N := N) (K := min N (9999 - M 306 7).toNat) hF (by rw [z6]; exact hA) (by rw [z6, zup_rw (by decide)]; exact ht) (by rw [zup_ne (by decide)]; exact hfl) zup_at (Nat.min_le_left _ _) (by omega) (by rw [z6]; omega)
  rw [z6] at m2
  rw [qpd9, Int.toNat_natCast]
  refine ⟨M2, ?_, m2, qX5_t ⟨fun a h _ _ _ _ => zup_rw h, fun k hk => zup_ne hk⟩ m4⟩
  rw [c_M_arePassed]
  simp only [qff hF, if_true]
  rw [m1, e_M_arePassed_5]
  by_cases h : (N : Int) ≤ 9999 - M 306 7
  · rw [if_neg (by omega)]
    show _ = some (zI (if decide ((N : Int) ≤ 9999 - M 306 7) = true then 1 else 0), _)
    rw [if_pos (decide_eq_true h)]
    try simp only [true_or, or_true, if_true]
  · rw [if_pos (by omega)]
    have t2 := (qdS_Kt (w := w) (X := (M 306, 0)) hA (min N (9999 - M 306 7).toNat) (by show M 306 7 + _ ≤ _; omega)).2.1
    have t2 : (qdS w (min N (9999 - M 306 7).toNat) (M 306, 0)).1 7 = M 306 7 + (min N (9999 - M 306 7).toNat : Nat) := t2
    have e7 : M2 306 7 = 9999 := by rw [m2, t2]; omega
    show _ = some (zI (if decide ((N : Int) ≤ 9999 - M 306 7) = true then 1 else 0), _)
    rw [if_neg (show ¬ decide ((N : Int) ≤ 9999 - M 306 7) = true by rw [decide_eq_true_eq]; exact h)]
    simp (disch := omega) only [e7, qff hF, qltT, qltF, qleT, qleF, qeqT, qeqF, Int.reduceEq, Int.reduceNe, Int.reduceLT, Int.reduceLE, Int.reduceToNat, Int.reduceAdd, Int.reduceSub, Int.reduceMul, Int.reduceNeg, Nat.reduceAdd, Nat.reduceMul, Nat.reduceEqDiff, Nat.reduceLT, Int.cast_ofNat_Int, Int.lt_irrefl, Bool.false_eq_true, ↓reduceIte, ↓reduceDIte, zbI, zbL, zbA, zbV, qrg, qrg2, qnn, qz, zup_at, zup_r, zup_ne, true_and, and_true, true_or, or_true, and_self, or_self, false_or, or_false, false_and, and_false, Int.toNat_natCast, Int.toNat_add, Int.toNat_mul, Int.toNat_zero, Int.toNat_one, qtn, Int.natCast_add, qnat1, qnat0, ne_eq, not_true_eq_false, not_false_eq_true, eq_self, qbool]
end QF
