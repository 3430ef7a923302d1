/-! cheapest, whole -/
section QF
variable {S : Nat → Nat × Nat} {R : Nat → Nat → Nat} {M M' M0 M1 : Nat → Nat → Int} {n s d : Nat} {A : Nat → Int} {W : Nat → qWt}
theorem qdgc {t w o z : Nat} (ht : t ≤ 9) (hw : w ≤ 9) (ho : o ≤ 9) (hz : z ≤ 9) : qdg (1000 * t + 100 * w + 10 * o + z) 0 = z ∧ qdg (1000 * t + 100 * w + 10 * o + z) 1 = o ∧ qdg (1000 * t + 100 * w + 10 * o + z) 2 = w ∧ qdg (1000 * t + 100 * w + 10 * o + z) 3 = t := by
  refine ⟨?_, ?_, ?_, ?_⟩
  · show (1000 * t + 100 * w + 10 * o + z) % 10 = z
    omega
  · show (1000 * t + 100 * w + 10 * o + z) / 10 % 10 = o
    omega
  · show (1000 * t + 100 * w + 10 * o + z) / 100 % 10 = w
    omega
  · show (1000 * t + 100 * w + 10 * o + z) / 1000 = t
    omega
theorem qdgs (c : Nat) : qdg c 0 + qdg c 1 + qdg c 2 + qdg c 3 = c % 10 + c / 10 % 10 + c / 100 % 10 + c / 1000 := rfl
theorem qdsum {t w o z : Nat} (ht : t ≤ 9) (hw : w ≤ 9) (ho : o ≤ 9) (hz : z ≤ 9) : qdg (1000 * t + 100 * w + 10 * o + z) 0 + qdg (1000 * t + 100 * w + 10 * o + z) 1 + qdg (1000 * t + 100 * w + 10 * o + z) 2 + qdg (1000 * t + 100 * w + 10 * o + z) 3 = z + o + w + t := by
  obtain ⟨h1, h2, h3, h4⟩ := qdgc ht hw ho hz
  rw [h1, h2, h3, h4]
theorem qsk1 {t x o N i : Nat} (ht : t ≤ 9) (hx : x ≤ 9) (hN : N < t + x + o) (h1 : 1000 * t + 100 * x + 10 * o ≤ i) (h2 : i < 1000 * t + 100 * (x + 1)) : qdg i 0 + qdg i 1 + qdg i 2 + qdg i 3 ≠ N := by
  have e : i = 1000 * t + 100 * x + 10 * ((i - 1000 * t - 100 * x) / 10) + (i - 1000 * t - 100 * x) % 10 := by omega
  have := qdsum (t := t) (w := x) (o := (i - 1000 * t - 100 * x) / 10) (z := (i - 1000 * t - 100 * x) % 10) ht hx (by omega) (by omega)
  rw [← e] at this
  omega
theorem qsk2 {t x o z N i : Nat} (ht : t ≤ 9) (hx : x ≤ 9) (ho : o ≤ 9) (hN : t + x + o + z = N) (hz : z ≤ 9) (h1 : 1000 * t + 100 * x + 10 * o ≤ i) (h2 : i < 1000 * t + 100 * x + 10 * o + z) : qdg i 0 + qdg i 1 + qdg i 2 + qdg i 3 ≠ N := by
  have e : i = 1000 * t + 100 * x + 10 * o + (i - (1000 * t + 100 * x + 10 * o)) := by omega
  have := qdsum (t := t) (w := x) (o := o) (z := i - (1000 * t + 100 * x + 10 * o)) ht hx ho (by omega)
  rw [← e] at this
  omega
theorem qsk3 {t x o z N i : Nat} (ht : t ≤ 9) (hx : x ≤ 9) (ho : o ≤ 9) (hN : t + x + o + z = N) (hz : z ≤ 9) (h1 : 1000 * t + 100 * x + 10 * o + z + 1 ≤ i) (h2 : i < 1000 * t + 100 * x + 10 * o + z + 1 + (9 - z)) : qdg i 0 + qdg i 1 + qdg i 2 + qdg i 3 ≠ N := by
  have e : i = 1000 * t + 100 * x + 10 * o + (i - (1000 * t + 100 * x + 10 * o)) := by omega
  have := qdsum (t := t) (w := x) (o := o) (z := i - (1000 * t + 100 * x + 10 * o)) ht hx ho (by omega)
  rw [← e] at this
  omega
theorem qsk4 {t x N i : Nat} (ht : t ≤ 9) (hN : N < t + x) (h1 : 1000 * t + 100 * x ≤ i) (h2 : i < 1000 * (t + 1)) : qdg i 0 + qdg i 1 + qdg i 2 + qdg i 3 ≠ N := by
  have e : i = 1000 * t + 100 * ((i - 1000 * t) / 100) + 10 * ((i - 1000 * t) % 100 / 10) + (i - 1000 * t) % 100 % 10 := by omega
  have := qdsum (t := t) (w := (i - 1000 * t) / 100) (o := (i - 1000 * t) % 100 / 10) (z := (i - 1000 * t) % 100 % 10) ht (by omega) (by omega) (by omega)
  rw [← e] at this
  omega
theorem qsk5 {t N i : Nat} (hN : N < t) (h1 : 1000 * t ≤ i) : qdg i 0 + qdg i 1 + qdg i 2 + qdg i 3 ≠ N := by
  have e : qdg i 3 = i / 1000 := rfl
  have : t ≤ i / 1000 := by omega
  rw [e]
  generalize qdg i 0 = q0
  generalize qdg i 1 = q1
  generalize qdg i 2 = q2
  omega
set_option maxHeartbeats 4000000 in
theorem qb_cheapest (hw : qWd n S R M W) (v w u : Int) : qBo 73 320 [zI v, zI w, zI u] n s S R M := by
  have hA := hw.2.1.2.2.2
  have hF := hw.1.2.1
  have hT := hw.2.1.1
  have hp5 := hA.2.1.2
  have ha5 := hA.1.2
  obtain ⟨a, ha⟩ := Int.eq_ofNat_of_zero_le hA.1.1
  obtain ⟨P, hP⟩ := Int.eq_ofNat_of_zero_le hA.2.1.1
  by_cases hv : 0 ≤ v ∧ v < M 306 1
  · obtain ⟨p, rfl⟩ := Int.eq_ofNat_of_zero_le hv.1
    have i1 := hA.2.2.2.2.2.2.2.2.2.2.2.2.2.2.2.1 p (by omega)
    obtain ⟨T, hTk⟩ := Int.eq_ofNat_of_zero_le i1.1
    have hT16 : T < 16 := by omega
    by_cases hn : 1 ≤ w ∧ w ≤ 9
    · obtain ⟨N, rfl⟩ := Int.eq_ofNat_of_zero_le (show 0 ≤ w by omega)
      have hbi := qbst_in (M 306) T a N 10000
      refine qBo_q (v := zI (if qbst (M 306) T a N 10000 = -1 then -1 else if u = 0 then qbst (M 306) T a N 10000 else qpr (M 306) (qbst (M 306) T a N 10000).toNat 4)) hw ?_ ?_
      · obtain ⟨M0, m1, m2⟩ := kx_measure (s := s) (d := 94) hw ha (M1 := M) (fun _ _ => rfl)
        -- by ones
        have L1 : ∀ (t x : Nat), t + x ≤ N → ∀ (j o : Nat) (M1 : Nat → Nat → Int), t + x + o + j = N + 1 → qMe M M1 (M 306) a → qbp M1 (M 306) (qbst (M 306) T a N (1000 * t + 100 * x + 10 * o)) → ∃ M2, qMe M M2 (M 306) a ∧ qbp M2 (M 306) (qbst (M 306) T a N (1000 * t + 100 * (x + 1))) ∧
            zR zPP 98 92 22 [zA 286, zI T, zI N, zI t, zI x, zI o] [] (n, s, S, R, M1) = zR zPP 98 92 15 [zA 286, zI T, zI N, zI t, zI ((x + 1 : Nat) : Int), zI ((N - t - x + 1 : Nat) : Int)] [] (n, s, S, R, M2) := by
          intro t x htx j
          induction j with
          | zero =>
            intro o M1 ho e1 e2
            refine ⟨M1, e1, ?_, ?_⟩
            · have hsk := qbst_skip (M 306) T a N (1000 * t + 100 * x + 10 * o) (100 - 10 * o) (fun i i1 i2 => qsk1 (t := t) (x := x) (o := o) (by omega) (by omega) (by omega) i1 (by omega))
              rw [show 1000 * t + 100 * x + 10 * o + (100 - 10 * o) = 1000 * t + 100 * (x + 1) by omega] at hsk
              rw [hsk]
              exact e2
            · have ho' : o = N - t - x + 1 := by omega
              rw [e_Counsel_shop_22, ho']
              simp (disch := omega) only [qff hF, qltT, qltF, qleT, qleF, qeqT, qeqF, Int.reduceEq, Int.reduceNe, Int.reduceLT, Int.reduceLE, Int.reduceToNat, Int.reduceAdd, Int.reduceSub, Int.reduceMul, Int.reduceNeg, Nat.reduceAdd, Nat.reduceMul, Nat.reduceEqDiff, Nat.reduceLT, Int.cast_ofNat_Int, Int.lt_irrefl, Bool.false_eq_true, ↓reduceIte, ↓reduceDIte, zbI, zbL, zbA, zbV, qrg, qrg2, qnn, qz, zup_at, zup_r, zup_ne, true_and, and_true, true_or, or_true, and_self, or_self, false_or, or_false, false_and, and_false, Int.toNat_natCast, Int.toNat_add, Int.toNat_mul, Int.toNat_zero, Int.toNat_one, qtn, Int.natCast_add, qnat1, qnat0, ne_eq, not_true_eq_false, not_false_eq_true, eq_self, qbool]
          | succ j ih =>
            intro o M1 ho e1 e2
            have hz : N - t - x - o ≤ 9 := by omega
            obtain ⟨d0, d1, d2, d3⟩ := qdgc (t := t) (w := x) (o := o) (z := N - t - x - o) (by omega) (by omega) (by omega) hz
            have hc : 1000 * t + 100 * x + 10 * o + (N - t - x - o) < 10000 := by omega
            have hsk := qbst_skip (M 306) T a N (1000 * t + 100 * x + 10 * o) (N - t - x - o) (fun i i1 i2 => qsk2 (t := t) (x := x) (o := o) (z := N - t - x - o) (by omega) (by omega) (by omega) (by omega) hz i1 i2)
            have f1 : qMe M (zup (zup (zup (zup M1 288 0 ((N - t - x - o : Nat) : Int)) 288 1 o) 288 2 x) 288 3 t) (M 306) a := ⟨fun q hq => by rw [zup_rw (by omega), zup_rw (by omega), zup_rw (by omega), zup_rw (by omega)]; exact e1.1 q hq, fun K hK => by rw [zup_r (by decide), zup_r (by decide), zup_r (by decide), zup_r (by decide)]; exact e1.2 K hK⟩
            have f2 : qbk (zup (zup (zup (zup M1 288 0 ((N - t - x - o : Nat) : Int)) 288 1 o) 288 2 x) 288 3 t) (1000 * t + 100 * x + 10 * o + (N - t - x - o)) := fun k hk => by
              have h : k = 0 ∨ k = 1 ∨ k = 2 ∨ k = 3 := by omega
              rcases h with h | h | h | h <;> subst h
              · rw [d0, zup_ne (by decide), zup_ne (by decide), zup_ne (by decide), zup_at]
              · rw [d1, zup_ne (by decide), zup_ne (by decide), zup_at]
              · rw [d2, zup_ne (by decide), zup_at]
              · rw [d3, zup_at]
            have f3 : qbp (zup (zup (zup (zup M1 288 0 ((N - t - x - o : Nat) : Int)) 288 1 o) 288 2 x) 288 3 t) (M 306) (qbst (M 306) T a N (1000 * t + 100 * x + 10 * o + (N - t - x - o))) := by
              rw [hsk]
              refine ⟨?_, ?_⟩
              · rw [zup_r (by decide), zup_r (by decide), zup_r (by decide), zup_r (by decide)]; exact e2.1
              · rw [zup_r (by decide), zup_r (by decide), zup_r (by decide), zup_r (by decide)]; exact e2.2
            obtain ⟨M2, g1, g2, g3⟩ := kx_weigh (s := s) (d := 94) hw hT16 hc (N := N) (by omega) f1 f2 f3
            have hsk2 := qbst_skip (M 306) T a N (1000 * t + 100 * x + 10 * o + (N - t - x - o) + 1) (9 - (N - t - x - o)) (fun i i1 i2 => qsk3 (t := t) (x := x) (o := o) (z := N - t - x - o) (by omega) (by omega) (by omega) (by omega) hz i1 i2)
            rw [show 1000 * t + 100 * x + 10 * o + (N - t - x - o) + 1 + (9 - (N - t - x - o)) = 1000 * t + 100 * x + 10 * (o + 1) by omega] at hsk2
            rw [← hsk2] at g3
            obtain ⟨M3, q1, q2, q3⟩ := ih (o + 1) M2 (by omega) g2 g3
            refine ⟨M3, q1, q2, ?_⟩
            rw [← q3, e_Counsel_shop_22]
            have ez : (N : Int) - t - x - o = ((N - t - x - o : Nat) : Int) := by omega
            simp (disch := omega) only [ez, g1, qff hF, qltT, qltF, qleT, qleF, qeqT, qeqF, Int.reduceEq, Int.reduceNe, Int.reduceLT, Int.reduceLE, Int.reduceToNat, Int.reduceAdd, Int.reduceSub, Int.reduceMul, Int.reduceNeg, Nat.reduceAdd, Nat.reduceMul, Nat.reduceEqDiff, Nat.reduceLT, Int.cast_ofNat_Int, Int.lt_irrefl, Bool.false_eq_true, ↓reduceIte, ↓reduceDIte, zbI, zbL, zbA, zbV, qrg, qrg2, qnn, qz, zup_at, zup_r, zup_ne, true_and, and_true, true_or, or_true, and_self, or_self, false_or, or_false, false_and, and_false, Int.toNat_natCast, Int.toNat_add, Int.toNat_mul, Int.toNat_zero, Int.toNat_one, qtn, Int.natCast_add, qnat1, qnat0, ne_eq, not_true_eq_false, not_false_eq_true, eq_self, qbool]
        have L2 : ∀ (t : Nat), t ≤ N → ∀ (j x : Nat) (M1 : Nat → Nat → Int) (g5 : zV), t + x + j = N + 1 → qMe M M1 (M 306) a → qbp M1 (M 306) (qbst (M 306) T a N (1000 * t + 100 * x)) → ∃ (M2 : Nat → Nat → Int) (g : zV), qMe M M2 (M 306) a ∧ qbp M2 (M 306) (qbst (M 306) T a N (1000 * (t + 1))) ∧
            zR zPP 98 92 15 [zA 286, zI T, zI N, zI t, zI x, g5] [] (n, s, S, R, M1) = zR zPP 98 92 10 [zA 286, zI T, zI N, zI ((t + 1 : Nat) : Int), zI ((N - t + 1 : Nat) : Int), g] [] (n, s, S, R, M2) := by
          intro t ht j
          induction j with
          | zero =>
            intro x M1 g5 hx e1 e2
            refine ⟨M1, g5, e1, ?_, ?_⟩
            · have hsk := qbst_skip (M 306) T a N (1000 * t + 100 * x) (1000 - 100 * x) (fun i i1 i2 => qsk4 (t := t) (x := x) (by omega) (by omega) i1 (by omega))
              rw [show 1000 * t + 100 * x + (1000 - 100 * x) = 1000 * (t + 1) by omega] at hsk
              rw [hsk]
              exact e2
            · have hx' : x = N - t + 1 := by omega
              rw [e_Counsel_shop_15, hx']
              simp (disch := omega) only [qff hF, qltT, qltF, qleT, qleF, qeqT, qeqF, Int.reduceEq, Int.reduceNe, Int.reduceLT, Int.reduceLE, Int.reduceToNat, Int.reduceAdd, Int.reduceSub, Int.reduceMul, Int.reduceNeg, Nat.reduceAdd, Nat.reduceMul, Nat.reduceEqDiff, Nat.reduceLT, Int.cast_ofNat_Int, Int.lt_irrefl, Bool.false_eq_true, ↓reduceIte, ↓reduceDIte, zbI, zbL, zbA, zbV, qrg, qrg2, qnn, qz, zup_at, zup_r, zup_ne, true_and, and_true, true_or, or_true, and_self, or_self, false_or, or_false, false_and, and_false, Int.toNat_natCast, Int.toNat_add, Int.toNat_mul, Int.toNat_zero, Int.toNat_one, qtn, Int.natCast_add, qnat1, qnat0, ne_eq, not_true_eq_false, not_false_eq_true, eq_self, qbool]
          | succ j ih =>
            intro x M1 g5 hx e1 e2
            obtain ⟨M2, q1, q2, q3⟩ := L1 t x (by omega) (N + 1 - t - x) 0 M1 (by omega) e1 e2
            obtain ⟨M3, g, r1, r2, r3⟩ := ih (x + 1) M2 _ (by omega) q1 q2
            refine ⟨M3, g, r1, r2, ?_⟩
            rw [← r3, ← q3, e_Counsel_shop_15]
            simp (disch := omega) only [qff hF, qltT, qltF, qleT, qleF, qeqT, qeqF, Int.reduceEq, Int.reduceNe, Int.reduceLT, Int.reduceLE, Int.reduceToNat, Int.reduceAdd, Int.reduceSub, Int.reduceMul, Int.reduceNeg, Nat.reduceAdd, Nat.reduceMul, Nat.reduceEqDiff, Nat.reduceLT, Int.cast_ofNat_Int, Int.lt_irrefl, Bool.false_eq_true, ↓reduceIte, ↓reduceDIte, zbI, zbL, zbA, zbV, qrg, qrg2, qnn, qz, zup_at, zup_r, zup_ne, true_and, and_true, true_or, or_true, and_self, or_self, false_or, or_false, false_and, and_false, Int.toNat_natCast, Int.toNat_add, Int.toNat_mul, Int.toNat_zero, Int.toNat_one, qtn, Int.natCast_add, qnat1, qnat0, ne_eq, not_true_eq_false, not_false_eq_true, eq_self, qbool]
        have L3 : ∀ (j t : Nat) (M1 : Nat → Nat → Int) (g4 g5 : zV), t + j = N + 1 → qMe M M1 (M 306) a → qbp M1 (M 306) (qbst (M 306) T a N (1000 * t)) → ∃ M2, qMe M M2 (M 306) a ∧ qbp M2 (M 306) (qbst (M 306) T a N 10000) ∧
            zR zPP 98 92 10 [zA 286, zI T, zI N, zI t, g4, g5] [] (n, s, S, R, M1) = some (zU, (n, s, S, R, M2)) := by
          intro j
          induction j with
          | zero =>
            intro t M1 g4 g5 ht e1 e2
            refine ⟨M1, e1, ?_, ?_⟩
            · have hsk := qbst_skip (M 306) T a N (1000 * t) (10000 - 1000 * t) (fun i i1 i2 => qsk5 (t := t) (by omega) i1)
              rw [show 1000 * t + (10000 - 1000 * t) = 10000 by omega] at hsk
              rw [hsk]
              exact e2
            · rw [e_Counsel_shop_10, if_pos (by omega)]
          | succ j ih =>
            intro t M1 g4 g5 ht e1 e2
            obtain ⟨M2, g, q1, q2, q3⟩ := L2 t (by omega) (N + 1 - t) 0 M1 g5 (by omega) e1 e2
            obtain ⟨M3, r1, r2, r3⟩ := ih (t + 1) M2 _ g (by omega) q1 q2
            refine ⟨M3, r1, r2, ?_⟩
            rw [← r3, ← q3, e_Counsel_shop_10, if_neg (by omega)]
            rfl
        obtain ⟨M2, q1, q2, q3⟩ := L3 (N + 1) 0 (zup (zup M0 286 3 (-1)) 286 4 (-1)) zU zU (by omega) ⟨fun q hq => by rw [zup_rw (by omega), zup_rw (by omega)]; exact m2.1 q hq, fun K hK => by rw [zup_r (by decide), zup_r (by decide)]; exact m2.2 K hK⟩ ⟨by rw [zup_ne (by decide), zup_at]; rfl, by rw [zup_at]; rfl⟩
        have htk : M 16 p = T := (hT.2.2.2.2.2.1 p (by omega)).trans hTk
        have hh := kx_hasPerson (n := n) (s := s) (d := 98) (M := M) hF hT hA (p : Int)
        rw [if_pos hv] at hh
        have q3' : zR zPP 98 92 10 [zA 286, zI T, zI N, zI 0, zU, zU] [] (n, s, S, R, zup (zup M0 286 3 (-1)) 286 4 (-1)) = _ := q3
        refine ⟨M2, ?_, qXc_e q1.1⟩
        rw [c_X_cheapest]
        by_cases hu : u = 0
        · simp (disch := omega) only [hh, htk, c_Counsel_shop, m1, q3', q2.1, qff hF, qltT, qltF, qleT, qleF, qeqT, qeqF, Int.reduceEq, Int.reduceNe, Int.reduceLT, Int.reduceLE, Int.reduceToNat, Int.reduceAdd, Int.reduceSub, Int.reduceMul, Int.reduceNeg, Nat.reduceAdd, Nat.reduceMul, Nat.reduceEqDiff, Nat.reduceLT, Int.cast_ofNat_Int, Int.lt_irrefl, Bool.false_eq_true, ↓reduceIte, ↓reduceDIte, zbI, zbL, zbA, zbV, qrg, qrg2, qnn, qz, zup_at, zup_r, zup_ne, true_and, and_true, true_or, or_true, and_self, or_self, false_or, or_false, false_and, and_false, Int.toNat_natCast, Int.toNat_add, Int.toNat_mul, Int.toNat_zero, Int.toNat_one, qtn, Int.natCast_add, qnat1, qnat0, ne_eq, not_true_eq_false, not_false_eq_true, eq_self, qbool]
          by_cases hb1 : qbst (M 306) T a N 10000 = -1
          · rw [if_pos hb1, hb1]
          · rw [if_neg hb1]
        · simp (disch := omega) only [hh, htk, c_Counsel_shop, m1, q3', q2.2, qff hF, qltT, qltF, qleT, qleF, qeqT, qeqF, Int.reduceEq, Int.reduceNe, Int.reduceLT, Int.reduceLE, Int.reduceToNat, Int.reduceAdd, Int.reduceSub, Int.reduceMul, Int.reduceNeg, Nat.reduceAdd, Nat.reduceMul, Nat.reduceEqDiff, Nat.reduceLT, Int.cast_ofNat_Int, Int.lt_irrefl, Bool.false_eq_true, ↓reduceIte, ↓reduceDIte, zbI, zbL, zbA, zbV, qrg, qrg2, qnn, qz, zup_at, zup_r, zup_ne, true_and, and_true, true_or, or_true, and_self, or_self, false_or, or_false, false_and, and_false, Int.toNat_natCast, Int.toNat_add, Int.toNat_mul, Int.toNat_zero, Int.toNat_one, qtn, Int.natCast_add, qnat1, qnat0, ne_eq, not_true_eq_false, not_false_eq_true, eq_self, qbool]
      · intro M1 hw1 e6
        have hA1 := hw1.2.1.2.2.2
        obtain ⟨M2, m1, m2⟩ := km_layNeeds (s := s) (d := 93) hw1 (a := a) (P := P) (by rw [e6]; exact ha) (by rw [e6]; exact hP) (fun _ _ => rfl)
        rw [e6] at m2
        have h6 : M2 306 = M 306 := by rw [m2.1 306 (by omega)]; exact e6
        have L := qlp (P := fun c => zR zPP 99 320 17 [zA 305, zI p, zI N, zI u, zI (qbst (M 306) T a N c), zI (c : Nat)] [] (n, s, S, R, M2)) (N := 10000) (fun c hc => by
          have hin := qbst_in (M 306) T a N c
          have hd0 := qdg_9 hc 0
          have hd1 := qdg_9 hc 1
          have hd2 := qdg_9 hc 2
          have hd3 := qdg_9 hc 3
          have g0 : ∀ σ, zcal zPP 99 321 [zI c, zI 0] σ = some (zI (qdg c 0 : Nat), σ) := fun σ => km_digit (d := 98) (c := c) (k := 0) (by decide) hc σ
          have g1 : ∀ σ, zcal zPP 99 321 [zI c, zI 1] σ = some (zI (qdg c 1 : Nat), σ) := fun σ => km_digit (d := 98) (c := c) (k := 1) (by decide) hc σ
          have g2 : ∀ σ, zcal zPP 99 321 [zI c, zI 2] σ = some (zI (qdg c 2 : Nat), σ) := fun σ => km_digit (d := 98) (c := c) (k := 2) (by decide) hc σ
          have g3 : ∀ σ, zcal zPP 99 321 [zI c, zI 3] σ = some (zI (qdg c 3 : Nat), σ) := fun σ => km_digit (d := 98) (c := c) (k := 3) (by decide) hc σ
          have hth := km_isThere (n := n) (s := s) (d := 97) (M := M2) (A := M 306) (T := T) (a := a) (c := c) hF hT16 hc m2.2.2
          have hpr : ∀ c : Nat, c < 10000 → zcal zPP 99 323 [zA 305, zI c] (n, s, S, R, M2) = some (zI (qpr (M 306) c 4), (n, s, S, R, M2)) := fun c hc => by
            have := km_price (n := n) (s := s) (d := 97) (M := M2) (c := c) hF (by rw [h6]; exact hA) hc
            rw [h6] at this
            exact this
          have es : qbst (M 306) T a N (c + 1) = if qok1 (M 306) T a N c = true ∧ (qbst (M 306) T a N c = -1 ∨ qpr (M 306) c 4 < qpr (M 306) (qbst (M 306) T a N c).toNat 4) then (c : Int) else qbst (M 306) T a N c := rfl
          show zR _ _ _ _ _ _ _ = zR _ _ _ _ _ _ _
          rw [e_M_cheapest_17]
          by_cases hs : qdg c 0 + qdg c 1 + qdg c 2 + qdg c 3 = N
          · have hok : qok1 (M 306) T a N c = qthr (M 306) T a c 15 := by unfold qok1; rw [decide_eq_true hs, Bool.true_and]
            cases hq : qthr (M 306) T a c 15 with
            | false =>
              rw [es.trans (if_neg (fun z => by rw [hok, hq] at z; exact absurd z.1 (by decide)))]
              rw [hq, qbi_f] at hth
              simp (disch := omega) only [g0, g1, g2, g3, h6, hTk, hth, qff hF, qltT, qltF, qleT, qleF, qeqT, qeqF, Int.reduceEq, Int.reduceNe, Int.reduceLT, Int.reduceLE, Int.reduceToNat, Int.reduceAdd, Int.reduceSub, Int.reduceMul, Int.reduceNeg, Nat.reduceAdd, Nat.reduceMul, Nat.reduceEqDiff, Nat.reduceLT, Int.cast_ofNat_Int, Int.lt_irrefl, Bool.false_eq_true, ↓reduceIte, ↓reduceDIte, zbI, zbL, zbA, zbV, qrg, qrg2, qnn, qz, zup_at, zup_r, zup_ne, true_and, and_true, true_or, or_true, and_self, or_self, false_or, or_false, false_and, and_false, Int.toNat_natCast, Int.toNat_add, Int.toNat_mul, Int.toNat_zero, Int.toNat_one, qtn, Int.natCast_add, qnat1, qnat0, ne_eq, not_true_eq_false, not_false_eq_true, eq_self, qbool]
            | true =>
              rw [hq, qbi_t] at hth
              by_cases hb1 : qbst (M 306) T a N c = -1
              · rw [es.trans (if_pos ⟨by rw [hok, hq], Or.inl hb1⟩)]
                simp (disch := omega) only [g0, g1, g2, g3, h6, hTk, hth, qff hF, qltT, qltF, qleT, qleF, qeqT, qeqF, Int.reduceEq, Int.reduceNe, Int.reduceLT, Int.reduceLE, Int.reduceToNat, Int.reduceAdd, Int.reduceSub, Int.reduceMul, Int.reduceNeg, Nat.reduceAdd, Nat.reduceMul, Nat.reduceEqDiff, Nat.reduceLT, Int.cast_ofNat_Int, Int.lt_irrefl, Bool.false_eq_true, ↓reduceIte, ↓reduceDIte, zbI, zbL, zbA, zbV, qrg, qrg2, qnn, qz, zup_at, zup_r, zup_ne, true_and, and_true, true_or, or_true, and_self, or_self, false_or, or_false, false_and, and_false, Int.toNat_natCast, Int.toNat_add, Int.toNat_mul, Int.toNat_zero, Int.toNat_one, qtn, Int.natCast_add, qnat1, qnat0, ne_eq, not_true_eq_false, not_false_eq_true, eq_self, qbool]
              · obtain ⟨b, hb⟩ := Int.eq_ofNat_of_zero_le (show 0 ≤ qbst (M 306) T a N c by omega)
                have hpb := hpr b (by omega)
                have hpc := hpr c hc
                rw [hb, Int.toNat_natCast] at es
                by_cases hlt : qpr (M 306) c 4 < qpr (M 306) b 4
                · rw [es.trans (if_pos ⟨by rw [hok, hq], Or.inr hlt⟩), hb]
                  simp (disch := omega) only [g0, g1, g2, g3, h6, hTk, hth, hpb, hpc, hlt, qff hF, qltT, qltF, qleT, qleF, qeqT, qeqF, Int.reduceEq, Int.reduceNe, Int.reduceLT, Int.reduceLE, Int.reduceToNat, Int.reduceAdd, Int.reduceSub, Int.reduceMul, Int.reduceNeg, Nat.reduceAdd, Nat.reduceMul, Nat.reduceEqDiff, Nat.reduceLT, Int.cast_ofNat_Int, Int.lt_irrefl, Bool.false_eq_true, ↓reduceIte, ↓reduceDIte, zbI, zbL, zbA, zbV, qrg, qrg2, qnn, qz, zup_at, zup_r, zup_ne, true_and, and_true, true_or, or_true, and_self, or_self, false_or, or_false, false_and, and_false, Int.toNat_natCast, Int.toNat_add, Int.toNat_mul, Int.toNat_zero, Int.toNat_one, qtn, Int.natCast_add, qnat1, qnat0, ne_eq, not_true_eq_false, not_false_eq_true, eq_self, qbool]
                · rw [es.trans (if_neg (fun z => by rcases z.2 with z | z; omega; exact hlt z)), hb]
                  simp (disch := omega) only [g0, g1, g2, g3, h6, hTk, hth, hpb, hpc, hlt, qff hF, qltT, qltF, qleT, qleF, qeqT, qeqF, Int.reduceEq, Int.reduceNe, Int.reduceLT, Int.reduceLE, Int.reduceToNat, Int.reduceAdd, Int.reduceSub, Int.reduceMul, Int.reduceNeg, Nat.reduceAdd, Nat.reduceMul, Nat.reduceEqDiff, Nat.reduceLT, Int.cast_ofNat_Int, Int.lt_irrefl, Bool.false_eq_true, ↓reduceIte, ↓reduceDIte, zbI, zbL, zbA, zbV, qrg, qrg2, qnn, qz, zup_at, zup_r, zup_ne, true_and, and_true, true_or, or_true, and_self, or_self, false_or, or_false, false_and, and_false, Int.toNat_natCast, Int.toNat_add, Int.toNat_mul, Int.toNat_zero, Int.toNat_one, qtn, Int.natCast_add, qnat1, qnat0, ne_eq, not_true_eq_false, not_false_eq_true, eq_self, qbool]
          · rw [es.trans (if_neg (fun z => by unfold qok1 at z; rw [Bool.and_eq_true] at z; exact hs (of_decide_eq_true z.1.1)))]
            simp (disch := omega) only [g0, g1, g2, g3, qff hF, qltT, qltF, qleT, qleF, qeqT, qeqF, Int.reduceEq, Int.reduceNe, Int.reduceLT, Int.reduceLE, Int.reduceToNat, Int.reduceAdd, Int.reduceSub, Int.reduceMul, Int.reduceNeg, Nat.reduceAdd, Nat.reduceMul, Nat.reduceEqDiff, Nat.reduceLT, Int.cast_ofNat_Int, Int.lt_irrefl, Bool.false_eq_true, ↓reduceIte, ↓reduceDIte, zbI, zbL, zbA, zbV, qrg, qrg2, qnn, qz, zup_at, zup_r, zup_ne, true_and, and_true, true_or, or_true, and_self, or_self, false_or, or_false, false_and, and_false, Int.toNat_natCast, Int.toNat_add, Int.toNat_mul, Int.toNat_zero, Int.toNat_one, qtn, Int.natCast_add, qnat1, qnat0, ne_eq, not_true_eq_false, not_false_eq_true, eq_self, qbool])
        have hh := km_isPerson (n := n) (s := s) (d := 97) (M := M1) hF hA1 (p : Int)
        rw [e6, if_pos hv] at hh
        refine ⟨M2, ?_, qXm_e m2.1⟩
        rw [c_M_cheapest]
        simp (disch := omega) only [hh, k_isIn, m1, qff hF, qltT, qltF, qleT, qleF, qeqT, qeqF, Int.reduceEq, Int.reduceNe, Int.reduceLT, Int.reduceLE, Int.reduceToNat, Int.reduceAdd, Int.reduceSub, Int.reduceMul, Int.reduceNeg, Nat.reduceAdd, Nat.reduceMul, Nat.reduceEqDiff, Nat.reduceLT, Int.cast_ofNat_Int, Int.lt_irrefl, Bool.false_eq_true, ↓reduceIte, ↓reduceDIte, zbI, zbL, zbA, zbV, qrg, qrg2, qnn, qz, zup_at, zup_r, zup_ne, true_and, and_true, true_or, or_true, and_self, or_self, false_or, or_false, false_and, and_false, Int.toNat_natCast, Int.toNat_add, Int.toNat_mul, Int.toNat_zero, Int.toNat_one, qtn, Int.natCast_add, qnat1, qnat0, ne_eq, not_true_eq_false, not_false_eq_true, eq_self, qbool]
        refine Eq.trans L ?_
        show zR _ _ _ _ _ _ _ = _
        rw [e_M_cheapest_17, if_neg (by decide)]
        by_cases hb1 : qbst (M 306) T a N 10000 = -1
        · rw [if_pos hb1, if_pos hb1]
        · rw [if_neg hb1, if_neg hb1]
          by_cases hu : u = 0
          · rw [if_pos hu, if_pos hu]
          · rw [if_neg hu, if_neg hu]
            obtain ⟨b, hb⟩ := Int.eq_ofNat_of_zero_le (show 0 ≤ qbst (M 306) T a N 10000 by omega)
            have hpb := km_price (n := n) (s := s) (d := 97) (M := M2) (c := b) hF (by rw [h6]; exact hA) (by omega)
            rw [h6] at hpb
            rw [hb, Int.toNat_natCast, hpb]
            simp only [zbI]
    · have hX : zcal zPP 100 73 [zA 9, zI p, zI w, zI u] (n, s, S, R, M) = some (zI (-1), (n, s, S, R, M)) := by
        rw [c_X_cheapest]
        by_cases h1 : w < 1
        · simp (disch := omega) only [kx_hasPerson hF hT hA, hv, qff hF, qltT, qltF, qleT, qleF, qeqT, qeqF, Int.reduceEq, Int.reduceNe, Int.reduceLT, Int.reduceLE, Int.reduceToNat, Int.reduceAdd, Int.reduceSub, Int.reduceMul, Int.reduceNeg, Nat.reduceAdd, Nat.reduceMul, Nat.reduceEqDiff, Nat.reduceLT, Int.cast_ofNat_Int, Int.lt_irrefl, Bool.false_eq_true, ↓reduceIte, ↓reduceDIte, zbI, zbL, zbA, zbV, qrg, qrg2, qnn, qz, zup_at, zup_r, zup_ne, true_and, and_true, true_or, or_true, and_self, or_self, false_or, or_false, false_and, and_false, Int.toNat_natCast, Int.toNat_add, Int.toNat_mul, Int.toNat_zero, Int.toNat_one, qtn, Int.natCast_add, qnat1, qnat0, ne_eq, not_true_eq_false, not_false_eq_true, eq_self, qbool]
        · simp (disch := omega) only [kx_hasPerson hF hT hA, hv, qff hF, qltT, qltF, qleT, qleF, qeqT, qeqF, Int.reduceEq, Int.reduceNe, Int.reduceLT, Int.reduceLE, Int.reduceToNat, Int.reduceAdd, Int.reduceSub, Int.reduceMul, Int.reduceNeg, Nat.reduceAdd, Nat.reduceMul, Nat.reduceEqDiff, Nat.reduceLT, Int.cast_ofNat_Int, Int.lt_irrefl, Bool.false_eq_true, ↓reduceIte, ↓reduceDIte, zbI, zbL, zbA, zbV, qrg, qrg2, qnn, qz, zup_at, zup_r, zup_ne, true_and, and_true, true_or, or_true, and_self, or_self, false_or, or_false, false_and, and_false, Int.toNat_natCast, Int.toNat_add, Int.toNat_mul, Int.toNat_zero, Int.toNat_one, qtn, Int.natCast_add, qnat1, qnat0, ne_eq, not_true_eq_false, not_false_eq_true, eq_self, qbool]
      have hM : zcal zPP 100 320 [zA 305, zI p, zI w, zI u] (n, s, S, R, M) = some (zI (-1), (n, s, S, R, M)) := by
        rw [c_M_cheapest]
        by_cases h1 : w < 1
        · simp (disch := omega) only [km_isPerson hF hA, hv, k_isIn, qff hF, qltT, qltF, qleT, qleF, qeqT, qeqF, Int.reduceEq, Int.reduceNe, Int.reduceLT, Int.reduceLE, Int.reduceToNat, Int.reduceAdd, Int.reduceSub, Int.reduceMul, Int.reduceNeg, Nat.reduceAdd, Nat.reduceMul, Nat.reduceEqDiff, Nat.reduceLT, Int.cast_ofNat_Int, Int.lt_irrefl, Bool.false_eq_true, ↓reduceIte, ↓reduceDIte, zbI, zbL, zbA, zbV, qrg, qrg2, qnn, qz, zup_at, zup_r, zup_ne, true_and, and_true, true_or, or_true, and_self, or_self, false_or, or_false, false_and, and_false, Int.toNat_natCast, Int.toNat_add, Int.toNat_mul, Int.toNat_zero, Int.toNat_one, qtn, Int.natCast_add, qnat1, qnat0, ne_eq, not_true_eq_false, not_false_eq_true, eq_self, qbool]
        · simp (disch := omega) only [km_isPerson hF hA, hv, k_isIn, qff hF, qltT, qltF, qleT, qleF, qeqT, qeqF, Int.reduceEq, Int.reduceNe, Int.reduceLT, Int.reduceLE, Int.reduceToNat, Int.reduceAdd, Int.reduceSub, Int.reduceMul, Int.reduceNeg, Nat.reduceAdd, Nat.reduceMul, Nat.reduceEqDiff, Nat.reduceLT, Int.cast_ofNat_Int, Int.lt_irrefl, Bool.false_eq_true, ↓reduceIte, ↓reduceDIte, zbI, zbL, zbA, zbV, qrg, qrg2, qnn, qz, zup_at, zup_r, zup_ne, true_and, and_true, true_or, or_true, and_self, or_self, false_or, or_false, false_and, and_false, Int.toNat_natCast, Int.toNat_add, Int.toNat_mul, Int.toNat_zero, Int.toNat_one, qtn, Int.natCast_add, qnat1, qnat0, ne_eq, not_true_eq_false, not_false_eq_true, eq_self, qbool]
      exact qBo_same hw hX hM
  · have hX : zcal zPP 100 73 [zA 9, zI v, zI w, zI u] (n, s, S, R, M) = some (zI (-1), (n, s, S, R, M)) := by
      rw [c_X_cheapest]
      simp only [qff hF, if_true, kx_hasPerson hF hT hA, zbI, if_neg hv]
    have hM : zcal zPP 100 320 [zA 305, zI v, zI w, zI u] (n, s, S, R, M) = some (zI (-1), (n, s, S, R, M)) := by
      rw [c_M_cheapest]
      simp only [qff hF, if_true, km_isPerson hF hA, zbI, if_neg hv]
    exact qBo_same hw hX hM
end QF
