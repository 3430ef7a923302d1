/-! undo: both sides -/
/-- what the model's undo makes of the row, z steps being left -/
def qUn (A A' : Nat → Int) (z : Nat) : Prop :=
  A' 4 = z ∧ (∀ k, k < 4 → A' (7 + k) = A (qsx z + 1 + k)) ∧
  (∀ o y : Nat, (o : Int) < A 0 → y < 24 → A' (11 + 24 * o + y) = if (o : Int) < A (qsx z) then A (qsx z + 5 + 24 * o + y) else if A (11 + 24 * o + y) = 0 then 0 else 1) ∧
  (∀ i, i < 30 → A' (4850 + i) = A (qsx z + 125 + i)) ∧
  ∀ k, k ≠ 4 → (k < 7 ∨ 11 + 24 * (A 0).toNat ≤ k) → (k < 4850 ∨ 4880 ≤ k) → A' k = A k
theorem qTo_undo {M M2 : Nat → Nat → Int} {A A' : Nat → Int} {z f : Nat} (hf : M 25 1 = f) (hz : A 4 = ((z + 1 : Nat) : Int)) (hU : qUn A A' z) (hc : qCp (zup M 25 2 z) M2 21 (27 + 4 * ((f + z) % 30))) (ht : qTo M 10 A) : qTo M2 10 A' := by
  obtain ⟨hT, hR, hS, hI⟩ := ht
  obtain ⟨u1, u2, u3, u4, u5⟩ := hU
  have hA5 := hI.1.2
  have hA0 := hI.1.1
  have hz30 : z < 30 := by have := hI.2.2.2.2.1.2; omega
  obtain ⟨⟨s1, s2, s3⟩, s4⟩ := hS
  have s2 : 0 ≤ M 25 1 := s2
  have s3 : M 25 1 < 30 := s3
  have hf30 : f < 30 := by omega
  obtain ⟨o1, o2⟩ := s4 z (by omega)
  have ho : qrw M 25 z = 27 + 4 * ((f + z) % 30) := by
    unfold qrw
    rw [hf, Int.toNat_natCast]
  rw [show (10 + 15 : Nat) = 25 from rfl, ho] at o1
  have hlt : (f + z) % 30 < 30 := Nat.mod_lt _ (by decide)
  have q30 : qsn A (qsx z) 10 ≤ 30 := by
    show (if (10 : Nat) = 0 then _ else if 7 ≤ 10 ∧ 10 < 131 then A (qsx z + 1 + (10 - 7)) else _) ≤ 30
    rw [if_neg (by decide), if_pos (by decide)]
    exact o2.2.2.2.2.1.2
  have hrow : ∀ a, a ≠ 25 → (a < 21 ∨ 24 < a) → M2 a = M a := fun a h1 h2 => by
    rw [hc.1 a (by omega), zup_rw h1]
  have g := qCp_Rs hc q30 (qRs_x (fun a x y => zup_rw (by omega)) o1)
  obtain ⟨o2a, o2b, o2c, o2d, o2e, o2f⟩ := o2
  have hx : 200 ≤ qsx z ∧ qsx z + 155 ≤ 4850 := by unfold qsx; omega
  have hzr : ∀ o y : Nat, o < 5 → y < 24 → (A' (11 + 24 * o + y) = 0 ↔ A (11 + 24 * o + y) = 0) := fun o y ho hy => by
    by_cases h0 : (o : Int) < A 0
    · rw [u3 o y h0 hy]
      by_cases h1 : (o : Int) < A (qsx z)
      · rw [if_pos h1]; exact (o2f o y h1 hy).2.2
      · rw [if_neg h1]
        by_cases h2 : A (11 + 24 * o + y) = 0
        · rw [if_pos h2, h2]
        · rw [if_neg h2]
          exact ⟨fun h => absurd h (by decide), fun h => absurd h h2⟩
    · rw [u5 _ (by omega) (by omega) (by omega)]
  have hlow : ∀ k, k ≠ 4 → k < 200 → (k < 7 ∨ 131 ≤ k) → A' k = A k := fun k h1 h2 h3 => u5 k h1 (by omega) (by omega)
  have e7 : A' 7 = A (qsx z + 1) := u2 0 (by decide)
  have e8 : A' 8 = A (qsx z + 2) := u2 1 (by decide)
  have e9 : A' 9 = A (qsx z + 3) := u2 2 (by decide)
  have e10 : A' 10 = A (qsx z + 4) := u2 3 (by decide)
  have e0 : A' 0 = A 0 := hlow 0 (by decide) (by decide) (by decide)
  have e1 : A' 1 = A 1 := hlow 1 (by decide) (by decide) (by decide)
  refine ⟨?_, ⟨?_, ?_, fun i hi => ?_⟩, ⟨⟨?_, ?_, ?_⟩, fun i hi => ?_⟩, ?_⟩
  · exact qTw_x (fun a x y => hrow a (by omega) (by omega)) (qTw_cong hlow hzr hT)
  · refine qRg_g (g := qg (qsn A (qsx z))) (fun o y ho hy => ?_) g.1
    have q0 : qsn A (qsx z) 0 = A (qsx z) := rfl
    have qk : qsn A (qsx z) (11 + 24 * o + y) = A (qsx z + 5 + 24 * o + y) := by
      unfold qsn
      rw [if_neg (by omega), if_pos (by omega)]
      congr 1
      omega
    unfold qg
    rw [q0, qk, e0]
    by_cases h0 : (o : Int) < A 0
    · rw [if_pos h0, u3 o y h0 hy]
      by_cases h1 : (o : Int) < A (qsx z)
      · rw [if_pos h1, if_pos h1]; exact Or.inl rfl
      · rw [if_neg h1, if_neg h1]
        refine Or.inr ⟨by decide, ?_⟩
        split <;> decide
    · rw [if_neg h0, if_neg (by omega)]; exact Or.inl rfl
  · have g2 := g.2.1
    have k10 : qsn A (qsx z) 10 = A (qsx z + 4) := rfl
    have k8 : qsn A (qsx z) 8 = A (qsx z + 2) := rfl
    have k7 : qsn A (qsx z) 7 = A (qsx z + 1) := rfl
    have k9 : qsn A (qsx z) 9 = A (qsx z + 3) := rfl
    rw [k10, k8, k7, k9] at g2
    rw [e10, e8, e7, e9]
    exact g2
  · have k10 : qsn A (qsx z) 10 = A (qsx z + 4) := rfl
    rw [e10] at hi
    have g3 := g.2.2 i (by rw [k10]; exact hi)
    have kb : qsn A (qsx z) (4850 + i) = A (qsx z + 125 + i) := by
      unfold qsn
      rw [if_neg (by omega), if_neg (by omega), if_pos (by omega), show 4850 + i - 4850 = i by omega]
    rw [kb] at g3
    rw [u4 i (by omega)]
    exact g3
  · show M2 25 2 = A' 4
    rw [hc.1 25 (by omega), zup_at, u1]
  · show 0 ≤ M2 25 1
    rw [hc.1 25 (by omega), zup_ne (by decide)]; exact s2
  · show M2 25 1 < 30
    rw [hc.1 25 (by omega), zup_ne (by decide)]; exact s3
  · rw [u1] at hi
    have hf2 : M2 25 1 = f := by rw [hc.1 25 (by omega), zup_ne (by decide)]; exact hf
    obtain ⟨p1, p2⟩ := s4 i (by omega)
    have hw1 : qrw M2 25 i = qrw M 25 i := by
      unfold qrw
      rw [hf2, hf]
    have hb := qrw_in M 25 i
    show qRs M2 (qrw M2 25 i) _ ∧ _
    rw [hw1]
    have hk : ∀ k, k < 155 → A' (qsx i + k) = A (qsx i + k) := fun k hk => u5 _ (by unfold qsx; omega) (by unfold qsx; omega) (by unfold qsx; omega)
    have hq := qsn_eq hk
    refine ⟨qRs_cong (hq 0 (Or.inl rfl)) (fun k a b => hq k (Or.inr (Or.inl ⟨a, b⟩))) (fun j hj => hq _ (Or.inr (Or.inr ⟨by omega, by omega⟩))) ?_ (qRs_x (fun a x y => hrow a (by omega) (by omega)) p1), qSi_eq e0 e1 hzr hA5 hk p2⟩
    show (if (10 : Nat) = 0 then _ else if 7 ≤ 10 ∧ 10 < 131 then A (qsx i + 1 + (10 - 7)) else _) ≤ 30
    rw [if_neg (by decide), if_pos (by decide)]
    exact p2.2.2.2.2.1.2
  · refine qIn_cong hlow (by rw [u1]; omega) (by rw [e7]; exact o2b) (by rw [e8]; exact o2c) (by rw [e9]; exact o2d) (by rw [e10]; exact o2e) (fun o y ho hy => ?_) hI
    have hb := hI.2.2.2.2.2.2.2.2.2.2.2.1 o y ho hy
    have h1 := hI.2.1.1
    by_cases h0 : (o : Int) < A 0
    · rw [u3 o y h0 hy]
      by_cases h1 : (o : Int) < A (qsx z)
      · rw [if_pos h1]
        have := o2f o y h1 hy
        exact ⟨this.1, this.2.1⟩
      · rw [if_neg h1]
        split <;> omega
    · rw [u5 _ (by omega) (by omega) (by omega)]
      exact hb
section QF
variable {S : Nat → Nat × Nat} {R : Nat → Nat → Nat} {M M' M0 M1 : Nat → Nat → Int} {n s d : Nat} {A : Nat → Int} {W : Nat → qWt}
theorem kx_pop (hF : qFx S R) {f z : Nat} (hf : M 25 1 = f) (hz : M 25 2 = ((z + 1 : Nat) : Int)) (hf30 : f < 30) (hz30 : z < 30) : ∃ M2, zcal zPP (d + 2) 155 [zA 25, zA 21] (n, s, S, R, M) = some (zI 1, (n, s, S, R, M2)) ∧ qCp (zup M 25 2 z) M2 21 (27 + 4 * ((f + z) % 30)) := by
  have hL : qLT S R 10 := hF.1.2.1.1
  have hlt : (f + z) % 30 < 30 := Nat.mod_lt _ (by decide)
  have hrw : zcal zPP (d + 1) 154 [zA 25, zI z] (n, s, S, R, zup M 25 2 z) = some (zA (27 + 4 * ((f + z) % 30)), (n, s, S, R, zup M 25 2 z)) := kr_rowAt (n := n) (s := s) (d := d) (M := zup M 25 2 z) (S := S) (R := R) (q := 25) hL.2.2.2.1.1 hL.2.2.2.1.2.1 hL.2.2.2.1.2.2 (fun i hi => (hL.2.2.2.2 i hi).1) (f := f) (by rw [zup_ne (by decide)]; exact hf) (i := z) (by omega)
  have hrl : qLR S R (27 + 4 * ((f + z) % 30)) := (hL.2.2.2.2 _ hlt).2
  obtain ⟨M2, b1, b2⟩ := kr_becomes (n := n) (s := s) (d := d) (M := zup M 25 2 z) hL.2.2.1 hrl (by omega)
  have b1' : zcal zPP (d + 1) 138 [zA 21, zA (27 + 4 * ((f + z) % 30))] (n, s, S, R, zup M 25 2 z) = some (zU, (n, s, S, R, M2)) := b1
  have hS5 : S (27 + 4 * ((f + z) % 30)) = (5, 7) := hrl.1
  have h1 : zw32 (((z + 1 : Nat) : Int) - 1) = z := by unfold zw32; omega
  refine ⟨M2, ?_, b2⟩
  rw [c_Steps_pop]
  simp only [qff hF, if_true, hz]
  rw [if_pos (by omega), h1, zup_at, hrw]
  simp only [zbA, qff hF, if_true]
  rw [if_neg (by omega), if_neg (show ¬ (S (27 + 4 * ((f + z) % 30))).1 = 0 by rw [hS5]; decide), b1']
  simp only [zbV, true_or, or_true, if_true]
theorem km_undo (hF : qFx S R) (hA : qIn (M 306)) {z : Nat} (hz : M 306 4 = ((z + 1 : Nat) : Int)) : ∃ M2, zcal zPP (d + 2) 228 [zA 305] (n, s, S, R, M) = some (zI z, (n, s, S, R, M2)) ∧ (∀ a, a ≠ 306 → M2 a = M a) ∧ qUn (M 306) (M2 306) z := by
  have hA5 := hA.1.2
  have hA4 := hA.2.2.2.2.1.2
  have hz30 : z < 30 := by omega
  obtain ⟨c, hc⟩ := Int.eq_ofNat_of_zero_le hA.1.1
  have MAIN : ∀ x : Nat, x = qsx z → ∃ M2, zR zPP (d + 1) 228 26 [zA 305, zI x, zI 0, zU] [] (n, s, S, R, zup M 306 4 z) = some (zI z, (n, s, S, R, M2)) ∧ (∀ a, a ≠ 306 → M2 a = M a) ∧ qUn (M 306) (M2 306) z := by
    intro x hx
    have hxb : 200 ≤ x ∧ x + 155 ≤ 4850 := by rw [hx]; unfold qsx; omega
    have L1 := qlpI (E := fun i (M2 : Nat → Nat → Int) => (∀ a, a ≠ 306 → M2 a = M a) ∧ (∀ k, k < i → M2 306 (7 + k) = M 306 (x + 1 + k)) ∧ M2 306 4 = ((z : Nat) : Int) ∧ ∀ k, k ≠ 4 → k < 7 ∨ 7 + i ≤ k → M2 306 k = M 306 k) (P := fun i M2 => zR zPP (d + 1) 228 26 [zA 305, zI x, zI (i : Nat), zU] [] (n, s, S, R, M2)) (N := 4) (fun i M2 hi hx' => by
      obtain ⟨e1, e2, e3, e4⟩ := hx'
      have h7 : M2 306 (x + 1 + i) = M 306 (x + 1 + i) := e4 _ (by omega) (by omega)
      refine ⟨zup M2 306 (7 + i) (M 306 (x + 1 + i)), ⟨fun a ha => by rw [zup_rw ha]; exact e1 a ha, fun k hk => ?_, ?_, fun k h4 hk => ?_⟩, ?_⟩
      · by_cases hki : k = i
        · subst hki; exact zup_at
        · rw [zup_ne (by omega)]; exact e2 k (by omega)
      · rw [zup_ne (by omega)]; exact e3
      · rw [zup_ne (by omega)]; exact e4 k h4 (by omega)
      · show zR _ _ _ _ _ _ _ = zR _ _ _ _ _ _ _
        rw [e_M_undo_26]
        simp (disch := omega) only [h7, qff hF, qltT, qltF, qleT, qleF, qeqT, qeqF, Int.reduceEq, Int.reduceNe, Int.reduceLT, Int.reduceLE, Int.reduceToNat, Int.reduceAdd, Int.reduceSub, Int.reduceMul, Int.reduceNeg, Nat.reduceAdd, Nat.reduceMul, Nat.reduceEqDiff, Nat.reduceLT, Int.cast_ofNat_Int, Int.lt_irrefl, Bool.false_eq_true, ↓reduceIte, ↓reduceDIte, zbI, zbL, zbA, zbV, qrg, qrg2, qnn, qz, zup_at, zup_r, zup_ne, true_and, and_true, true_or, or_true, and_self, or_self, false_or, or_false, false_and, and_false, Int.toNat_natCast, Int.toNat_add, Int.toNat_mul, Int.toNat_zero, Int.toNat_one, qtn, Int.natCast_add, qnat1, qnat0, ne_eq, not_true_eq_false, not_false_eq_true, eq_self, qbool]) (zup M 306 4 z) ⟨fun a ha => zup_rw ha, fun k hk => absurd hk (Nat.not_lt_zero k), zup_at, fun k h4 _ => zup_ne h4⟩
    obtain ⟨M1, ⟨a1, a2, a3, a4⟩, L1⟩ := L1
    have V : ∀ o y : Nat, ∃ v : Int, v = if (o : Int) < M 306 x then M 306 (x + 5 + 24 * o + y) else if M 306 (11 + 24 * o + y) = 0 then 0 else 1 := fun o y => ⟨_, rfl⟩
    have L2 : ∀ o : Nat, o < c → ∀ M2 : Nat → Nat → Int, (∀ a, a ≠ 306 → M2 a = M a) → (∀ k, k < 11 ∨ 11 + 24 * o ≤ k → M2 306 k = M1 306 k) → ∃ M3, ((∀ a, a ≠ 306 → M3 a = M a) ∧ (∀ y : Nat, y < 24 → M3 306 (11 + 24 * o + y) = if (o : Int) < M 306 x then M 306 (x + 5 + 24 * o + y) else if M 306 (11 + 24 * o + y) = 0 then 0 else 1) ∧ ∀ k, k < 11 + 24 * o ∨ 11 + 24 * o + 24 ≤ k → M3 306 k = M2 306 k) ∧
        zR zPP (d + 1) 228 55 [zA 305, zI x, zI o, zI 0] [] (n, s, S, R, M2) = zR zPP (d + 1) 228 55 [zA 305, zI x, zI o, zI ((24 : Nat) : Int)] [] (n, s, S, R, M3) := by
      intro o ho M2 b1 b2
      exact qlpI (E := fun i (M3 : Nat → Nat → Int) => (∀ a, a ≠ 306 → M3 a = M a) ∧ (∀ y : Nat, y < i → M3 306 (11 + 24 * o + y) = if (o : Int) < M 306 x then M 306 (x + 5 + 24 * o + y) else if M 306 (11 + 24 * o + y) = 0 then 0 else 1) ∧ ∀ k, k < 11 + 24 * o ∨ 11 + 24 * o + i ≤ k → M3 306 k = M2 306 k) (P := fun i M3 => zR zPP (d + 1) 228 55 [zA 305, zI x, zI o, zI (i : Nat)] [] (n, s, S, R, M3)) (N := 24) (fun i M3 hi hx' => by
        obtain ⟨e1, e2, e3⟩ := hx'
        have hx0 : M3 306 x = M 306 x := by rw [e3 x (by omega), b2 x (by omega), a4 x (by omega) (by omega)]
        have hx5 : M3 306 (x + 5 + 24 * o + i) = M 306 (x + 5 + 24 * o + i) := by rw [e3 _ (by omega), b2 _ (by omega), a4 _ (by omega) (by omega)]
        have hr : M3 306 (11 + 24 * o + i) = M 306 (11 + 24 * o + i) := by rw [e3 _ (by omega), b2 _ (by omega), a4 _ (by omega) (by omega)]
        have hg := km_get (n := n) (s := s) (d := d) (M := M3) hF (show o < 5 by omega) hi
        rw [hr] at hg
        have hp := fun v => km_put (n := n) (s := s) (d := d) (M := M3) hF (show o < 5 by omega) hi v
        refine ⟨zup M3 306 (11 + 24 * o + i) (if (o : Int) < M 306 x then M 306 (x + 5 + 24 * o + i) else if M 306 (11 + 24 * o + i) = 0 then 0 else 1), ⟨fun a ha => by rw [zup_rw ha]; exact e1 a ha, fun y hy => ?_, fun k hk => ?_⟩, ?_⟩
        · by_cases hyi : y = i
          · subst hyi; exact zup_at
          · rw [zup_ne (by omega)]; exact e2 y (by omega)
        · rw [zup_ne (by omega)]; exact e3 k (by omega)
        · show zR _ _ _ _ _ _ _ = zR _ _ _ _ _ _ _
          rw [e_M_undo_55]
          by_cases h1 : (o : Int) < M 306 x
          · simp (disch := omega) only [hx0, h1, hx5, hp, qff hF, qltT, qltF, qleT, qleF, qeqT, qeqF, Int.reduceEq, Int.reduceNe, Int.reduceLT, Int.reduceLE, Int.reduceToNat, Int.reduceAdd, Int.reduceSub, Int.reduceMul, Int.reduceNeg, Nat.reduceAdd, Nat.reduceMul, Nat.reduceEqDiff, Nat.reduceLT, Int.cast_ofNat_Int, Int.lt_irrefl, Bool.false_eq_true, ↓reduceIte, ↓reduceDIte, zbI, zbL, zbA, zbV, qrg, qrg2, qnn, qz, zup_at, zup_r, zup_ne, true_and, and_true, true_or, or_true, and_self, or_self, false_or, or_false, false_and, and_false, Int.toNat_natCast, Int.toNat_add, Int.toNat_mul, Int.toNat_zero, Int.toNat_one, qtn, Int.natCast_add, qnat1, qnat0, ne_eq, not_true_eq_false, not_false_eq_true, eq_self, qbool]
          · by_cases h2 : M 306 (11 + 24 * o + i) = 0
            · simp (disch := omega) only [hx0, h1, hg, h2, hp, qff hF, qltT, qltF, qleT, qleF, qeqT, qeqF, Int.reduceEq, Int.reduceNe, Int.reduceLT, Int.reduceLE, Int.reduceToNat, Int.reduceAdd, Int.reduceSub, Int.reduceMul, Int.reduceNeg, Nat.reduceAdd, Nat.reduceMul, Nat.reduceEqDiff, Nat.reduceLT, Int.cast_ofNat_Int, Int.lt_irrefl, Bool.false_eq_true, ↓reduceIte, ↓reduceDIte, zbI, zbL, zbA, zbV, qrg, qrg2, qnn, qz, zup_at, zup_r, zup_ne, true_and, and_true, true_or, or_true, and_self, or_self, false_or, or_false, false_and, and_false, Int.toNat_natCast, Int.toNat_add, Int.toNat_mul, Int.toNat_zero, Int.toNat_one, qtn, Int.natCast_add, qnat1, qnat0, ne_eq, not_true_eq_false, not_false_eq_true, eq_self, qbool]
            · simp (disch := omega) only [hx0, h1, hg, h2, hp, qff hF, qltT, qltF, qleT, qleF, qeqT, qeqF, Int.reduceEq, Int.reduceNe, Int.reduceLT, Int.reduceLE, Int.reduceToNat, Int.reduceAdd, Int.reduceSub, Int.reduceMul, Int.reduceNeg, Nat.reduceAdd, Nat.reduceMul, Nat.reduceEqDiff, Nat.reduceLT, Int.cast_ofNat_Int, Int.lt_irrefl, Bool.false_eq_true, ↓reduceIte, ↓reduceDIte, zbI, zbL, zbA, zbV, qrg, qrg2, qnn, qz, zup_at, zup_r, zup_ne, true_and, and_true, true_or, or_true, and_self, or_self, false_or, or_false, false_and, and_false, Int.toNat_natCast, Int.toNat_add, Int.toNat_mul, Int.toNat_zero, Int.toNat_one, qtn, Int.natCast_add, qnat1, qnat0, ne_eq, not_true_eq_false, not_false_eq_true, eq_self, qbool]) M2 ⟨b1, fun y hy => absurd hy (Nat.not_lt_zero y), fun _ _ => rfl⟩
    have L3 := qlpI (E := fun o (w : (Nat → Nat → Int) × zV) => (∀ a, a ≠ 306 → w.1 a = M a) ∧ (∀ o' y : Nat, o' < o → y < 24 → w.1 306 (11 + 24 * o' + y) = if (o' : Int) < M 306 x then M 306 (x + 5 + 24 * o' + y) else if M 306 (11 + 24 * o' + y) = 0 then 0 else 1) ∧ ∀ k, k < 11 ∨ 11 + 24 * o ≤ k → w.1 306 k = M1 306 k)
      (P := fun o w => zR zPP (d + 1) 228 47 [zA 305, zI x, zI (o : Nat), w.2] [] (n, s, S, R, w.1)) (N := c) (fun o w ho hw => by
        obtain ⟨M2, g3⟩ := w
        obtain ⟨e1, e2, e3⟩ := hw
        have e1 : ∀ a, a ≠ 306 → M2 a = M a := e1
        have e3 : ∀ k, k < 11 ∨ 11 + 24 * o ≤ k → M2 306 k = M1 306 k := e3
        obtain ⟨M3, ⟨f1, f2, f3⟩, f4⟩ := L2 o ho M2 e1 e3
        have h0 : M2 306 0 = c := by rw [e3 0 (by omega), a4 0 (by decide) (by decide), hc]
        refine ⟨(M3, zI ((24 : Nat) : Int)), ⟨f1, fun o' y ho' hy => ?_, fun k hk => ?_⟩, ?_⟩
        · show M3 306 _ = _
          by_cases hoo : o' = o
          · subst hoo; exact f2 y hy
          · rw [f3 _ (by omega)]; exact e2 o' y (by omega) hy
        · show M3 306 k = _
          rw [f3 k (by omega)]; exact e3 k (by omega)
        · show zR _ _ _ _ _ _ _ = zR _ _ _ _ _ _ _
          rw [e_M_undo_47]
          simp (disch := omega) only [h0, qff hF, qltT, qltF, qleT, qleF, qeqT, qeqF, Int.reduceEq, Int.reduceNe, Int.reduceLT, Int.reduceLE, Int.reduceToNat, Int.reduceAdd, Int.reduceSub, Int.reduceMul, Int.reduceNeg, Nat.reduceAdd, Nat.reduceMul, Nat.reduceEqDiff, Nat.reduceLT, Int.cast_ofNat_Int, Int.lt_irrefl, Bool.false_eq_true, ↓reduceIte, ↓reduceDIte, zbI, zbL, zbA, zbV, qrg, qrg2, qnn, qz, zup_at, zup_r, zup_ne, true_and, and_true, true_or, or_true, and_self, or_self, false_or, or_false, false_and, and_false, Int.toNat_natCast, Int.toNat_add, Int.toNat_mul, Int.toNat_zero, Int.toNat_one, qtn, Int.natCast_add, qnat1, qnat0, ne_eq, not_true_eq_false, not_false_eq_true, eq_self, qbool]
          refine Eq.trans f4 ?_
          rw [e_M_undo_55, if_neg (by decide), qw1 (by omega)]
          rfl) (M1, zU) ⟨a1, fun o' y h => absurd h (Nat.not_lt_zero o'), fun _ _ => rfl⟩
    obtain ⟨⟨M2, g3⟩, ⟨b1, b2, b3⟩, L3⟩ := L3
    have b1 : ∀ a, a ≠ 306 → M2 a = M a := b1
    have b3 : ∀ k, k < 11 ∨ 11 + 24 * c ≤ k → M2 306 k = M1 306 k := b3
    have L4 := qlpI (E := fun i (M3 : Nat → Nat → Int) => (∀ a, a ≠ 306 → M3 a = M a) ∧ (∀ k, k < i → M3 306 (4850 + k) = M 306 (x + 125 + k)) ∧ ∀ k, k < 4850 ∨ 4850 + i ≤ k → M3 306 k = M2 306 k) (P := fun i M3 => zR zPP (d + 1) 228 95 [zA 305, zI x, zI (i : Nat), g3] [] (n, s, S, R, M3)) (N := 30) (fun i M3 hi hx' => by
      obtain ⟨e1, e2, e3⟩ := hx'
      have h7 : M3 306 (x + 125 + i) = M 306 (x + 125 + i) := by rw [e3 _ (by omega), b3 _ (by omega), a4 _ (by omega) (by omega)]
      refine ⟨zup M3 306 (4850 + i) (M 306 (x + 125 + i)), ⟨fun a ha => by rw [zup_rw ha]; exact e1 a ha, fun k hk => ?_, fun k hk => ?_⟩, ?_⟩
      · by_cases hki : k = i
        · subst hki; exact zup_at
        · rw [zup_ne (by omega)]; exact e2 k (by omega)
      · rw [zup_ne (by omega)]; exact e3 k (by omega)
      · show zR _ _ _ _ _ _ _ = zR _ _ _ _ _ _ _
        rw [e_M_undo_95]
        simp (disch := omega) only [h7, qff hF, qltT, qltF, qleT, qleF, qeqT, qeqF, Int.reduceEq, Int.reduceNe, Int.reduceLT, Int.reduceLE, Int.reduceToNat, Int.reduceAdd, Int.reduceSub, Int.reduceMul, Int.reduceNeg, Nat.reduceAdd, Nat.reduceMul, Nat.reduceEqDiff, Nat.reduceLT, Int.cast_ofNat_Int, Int.lt_irrefl, Bool.false_eq_true, ↓reduceIte, ↓reduceDIte, zbI, zbL, zbA, zbV, qrg, qrg2, qnn, qz, zup_at, zup_r, zup_ne, true_and, and_true, true_or, or_true, and_self, or_self, false_or, or_false, false_and, and_false, Int.toNat_natCast, Int.toNat_add, Int.toNat_mul, Int.toNat_zero, Int.toNat_one, qtn, Int.natCast_add, qnat1, qnat0, ne_eq, not_true_eq_false, not_false_eq_true, eq_self, qbool]) M2 ⟨b1, fun k hk => absurd hk (Nat.not_lt_zero k), fun _ _ => rfl⟩
    obtain ⟨M3, ⟨c1, c2, c3⟩, L4⟩ := L4
    have h0 : M2 306 0 = c := by rw [b3 0 (by omega), a4 0 (by decide) (by decide), hc]
    have h4 : M3 306 4 = z := by rw [c3 4 (by omega), b3 4 (by omega), a3]
    subst hx
    refine ⟨M3, ?_, c1, h4, fun k hk => ?_, fun o y ho hy => ?_, fun i hi => c2 i hi, fun k h1 h2 h3 => ?_⟩
    · refine Eq.trans L1 ?_
      show zR _ _ _ _ _ _ _ = _
      rw [e_M_undo_26, if_neg (by decide)]
      refine Eq.trans L3 ?_
      show zR _ _ _ _ _ _ _ = _
      rw [e_M_undo_47]
      simp (disch := omega) only [h0, qff hF, qltT, qltF, qleT, qleF, qeqT, qeqF, Int.reduceEq, Int.reduceNe, Int.reduceLT, Int.reduceLE, Int.reduceToNat, Int.reduceAdd, Int.reduceSub, Int.reduceMul, Int.reduceNeg, Nat.reduceAdd, Nat.reduceMul, Nat.reduceEqDiff, Nat.reduceLT, Int.cast_ofNat_Int, Int.lt_irrefl, Bool.false_eq_true, ↓reduceIte, ↓reduceDIte, zbI, zbL, zbA, zbV, qrg, qrg2, qnn, qz, zup_at, zup_r, zup_ne, true_and, and_true, true_or, or_true, and_self, or_self, false_or, or_false, false_and, and_false, Int.toNat_natCast, Int.toNat_add, Int.toNat_mul, Int.toNat_zero, Int.toNat_one, qtn, Int.natCast_add, qnat1, qnat0, ne_eq, not_true_eq_false, not_false_eq_true, eq_self, qbool]
      refine Eq.trans L4 ?_
      show zR _ _ _ _ _ _ _ = _
      rw [e_M_undo_95]
      simp (disch := omega) only [h4, qff hF, qltT, qltF, qleT, qleF, qeqT, qeqF, Int.reduceEq, Int.reduceNe, Int.reduceLT, Int.reduceLE, Int.reduceToNat, Int.reduceAdd, Int.reduceSub, Int.reduceMul, Int.reduceNeg, Nat.reduceAdd, Nat.reduceMul, Nat.reduceEqDiff, Nat.reduceLT, Int.cast_ofNat_Int, Int.lt_irrefl, Bool.false_eq_true, ↓reduceIte, ↓reduceDIte, zbI, zbL, zbA, zbV, qrg, qrg2, qnn, qz, zup_at, zup_r, zup_ne, true_and, and_true, true_or, or_true, and_self, or_self, false_or, or_false, false_and, and_false, Int.toNat_natCast, Int.toNat_add, Int.toNat_mul, Int.toNat_zero, Int.toNat_one, qtn, Int.natCast_add, qnat1, qnat0, ne_eq, not_true_eq_false, not_false_eq_true, eq_self, qbool]
    · rw [c3 _ (by omega), b3 _ (by omega), a2 k hk]
    · rw [c3 _ (by omega)]
      exact b2 o y (by omega) hy
    · rw [hc, Int.toNat_natCast] at h2
      by_cases hk : k < 4850
      · rw [c3 k (by omega), b3 k (by omega), a4 k h1 (by omega)]
      · rw [c3 k (by omega), b3 k (by omega), a4 k h1 (by omega)]
  obtain ⟨M2, m1, m2, m3⟩ := MAIN (200 + 155 * z) rfl
  refine ⟨M2, ?_, m2, m3⟩
  have h1 : zw32 (((z + 1 : Nat) : Int) - 1) = z := by unfold zw32; omega
  have h1' : (z : Int) + 1 - 1 = z := by omega
  rw [c_M_undo]
  simp (disch := omega) only [hz, h1, h1', qff hF, qltT, qltF, qleT, qleF, qeqT, qeqF, Int.reduceEq, Int.reduceNe, Int.reduceLT, Int.reduceLE, Int.reduceToNat, Int.reduceAdd, Int.reduceSub, Int.reduceMul, Int.reduceNeg, Nat.reduceAdd, Nat.reduceMul, Nat.reduceEqDiff, Nat.reduceLT, Int.cast_ofNat_Int, Int.lt_irrefl, Bool.false_eq_true, ↓reduceIte, ↓reduceDIte, zbI, zbL, zbA, zbV, qrg, qrg2, qnn, qz, zup_at, zup_r, zup_ne, true_and, and_true, true_or, or_true, and_self, or_self, false_or, or_false, false_and, and_false, Int.toNat_natCast, Int.toNat_add, Int.toNat_mul, Int.toNat_zero, Int.toNat_one, qtn, Int.natCast_add, qnat1, qnat0, ne_eq, not_true_eq_false, not_false_eq_true, eq_self, qbool]
  exact m1
theorem qb_undo (hw : qWd n S R M W) : qBo 41 228 [] n s S R M := by
  have hF := hw.1.2.1
  have hA := hw.2.1.2.2.2
  obtain ⟨f, z, hf, hz, hz4, hf30, hz30⟩ := qWd_fz hw
  cases z with
  | zero =>
    have h2 : M 25 2 = 0 := hz
    have h4 : M 306 4 = 0 := hz4
    refine qBo_same hw (v := zI (-1)) ?_ ?_
    · have hp : zcal zPP 99 155 [zA 25, zA 21] (n, s, S, R, M) = some (zI 0, (n, s, S, R, M)) := by
        rw [c_Steps_pop]
        simp (disch := omega) only [h2, qff hF, qltT, qltF, qleT, qleF, qeqT, qeqF, Int.reduceEq, Int.reduceNe, Int.reduceLT, Int.reduceLE, Int.reduceToNat, Int.reduceAdd, Int.reduceSub, Int.reduceMul, Int.reduceNeg, Nat.reduceAdd, Nat.reduceMul, Nat.reduceEqDiff, Nat.reduceLT, Int.cast_ofNat_Int, Int.lt_irrefl, Bool.false_eq_true, ↓reduceIte, ↓reduceDIte, zbI, zbL, zbA, zbV, qrg, qrg2, qnn, qz, zup_at, zup_r, zup_ne, true_and, and_true, true_or, or_true, and_self, or_self, false_or, or_false, false_and, and_false, Int.toNat_natCast, Int.toNat_add, Int.toNat_mul, Int.toNat_zero, Int.toNat_one, qtn, Int.natCast_add, qnat1, qnat0, ne_eq, not_true_eq_false, not_false_eq_true, eq_self, qbool]
      rw [c_X_undo]
      simp (disch := omega) only [hp, qff hF, qltT, qltF, qleT, qleF, qeqT, qeqF, Int.reduceEq, Int.reduceNe, Int.reduceLT, Int.reduceLE, Int.reduceToNat, Int.reduceAdd, Int.reduceSub, Int.reduceMul, Int.reduceNeg, Nat.reduceAdd, Nat.reduceMul, Nat.reduceEqDiff, Nat.reduceLT, Int.cast_ofNat_Int, Int.lt_irrefl, Bool.false_eq_true, ↓reduceIte, ↓reduceDIte, zbI, zbL, zbA, zbV, qrg, qrg2, qnn, qz, zup_at, zup_r, zup_ne, true_and, and_true, true_or, or_true, and_self, or_self, false_or, or_false, false_and, and_false, Int.toNat_natCast, Int.toNat_add, Int.toNat_mul, Int.toNat_zero, Int.toNat_one, qtn, Int.natCast_add, qnat1, qnat0, ne_eq, not_true_eq_false, not_false_eq_true, eq_self, qbool]
    · rw [c_M_undo]
      simp (disch := omega) only [h4, qff hF, qltT, qltF, qleT, qleF, qeqT, qeqF, Int.reduceEq, Int.reduceNe, Int.reduceLT, Int.reduceLE, Int.reduceToNat, Int.reduceAdd, Int.reduceSub, Int.reduceMul, Int.reduceNeg, Nat.reduceAdd, Nat.reduceMul, Nat.reduceEqDiff, Nat.reduceLT, Int.cast_ofNat_Int, Int.lt_irrefl, Bool.false_eq_true, ↓reduceIte, ↓reduceDIte, zbI, zbL, zbA, zbV, qrg, qrg2, qnn, qz, zup_at, zup_r, zup_ne, true_and, and_true, true_or, or_true, and_self, or_self, false_or, or_false, false_and, and_false, Int.toNat_natCast, Int.toNat_add, Int.toNat_mul, Int.toNat_zero, Int.toNat_one, qtn, Int.natCast_add, qnat1, qnat0, ne_eq, not_true_eq_false, not_false_eq_true, eq_self, qbool]
  | succ z =>
    obtain ⟨M1, p1, p2⟩ := kx_pop (n := n) (s := s) (d := 97) hF hf hz hf30 (by omega)
    have h25 : M1 25 2 = z := by rw [p2.1 25 (by omega), zup_at]
    have hX : zcal zPP 100 41 [zA 9] (n, s, S, R, M) = some (zI z, (n, s, S, R, M1)) := by
      rw [c_X_undo]
      simp (disch := omega) only [p1, h25, qff hF, qltT, qltF, qleT, qleF, qeqT, qeqF, Int.reduceEq, Int.reduceNe, Int.reduceLT, Int.reduceLE, Int.reduceToNat, Int.reduceAdd, Int.reduceSub, Int.reduceMul, Int.reduceNeg, Nat.reduceAdd, Nat.reduceMul, Nat.reduceEqDiff, Nat.reduceLT, Int.cast_ofNat_Int, Int.lt_irrefl, Bool.false_eq_true, ↓reduceIte, ↓reduceDIte, zbI, zbL, zbA, zbV, qrg, qrg2, qnn, qz, zup_at, zup_r, zup_ne, true_and, and_true, true_or, or_true, and_self, or_self, false_or, or_false, false_and, and_false, Int.toNat_natCast, Int.toNat_add, Int.toNat_mul, Int.toNat_zero, Int.toNat_one, qtn, Int.natCast_add, qnat1, qnat0, ne_eq, not_true_eq_false, not_false_eq_true, eq_self, qbool]
    have hrow1 : ∀ a, a < 10 ∨ 147 ≤ a → M1 a = M a := fun a ha => by rw [p2.1 a (by omega), zup_rw (by omega)]
    have e6 : M1 306 = M 306 := hrow1 306 (by omega)
    obtain ⟨M2, m1, m2, m3⟩ := km_undo (n := n) (s := s) (d := 98) (M := M1) hF (by rw [e6]; exact hA) (z := z) (by rw [e6]; exact hz4)
    rw [e6] at m3
    have ht := qTo_undo hf hz4 m3 p2 hw.2.1
    have hrow : ∀ a, a < 10 ∨ 147 ≤ a → a ≠ 306 → M2 a = M a := fun a h1 h2 => by rw [m2 a h2, hrow1 a h1]
    have e2 : M2 306 2 = M 306 2 := m3.2.2.2.2 2 (by decide) (Or.inl (by decide)) (Or.inl (by decide))
    refine qBo_rows (W := W) hX m1 (qWd_to2 hw (fun a x1 x2 x3 _ => hrow a x1 x2) ?_ ?_ e2) (hrow 1 (by omega) (by decide))
    · rw [hrow 305 (by omega) (by decide)]; exact ⟨rfl, rfl, rfl, rfl⟩
    · exact qTo_x (fun a x y => m2 a (by omega)) ht
end QF
