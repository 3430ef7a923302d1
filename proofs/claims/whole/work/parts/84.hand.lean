/-! lend, returned, pass: the calls -/
section QF
variable {S : Nat → Nat × Nat} {R : Nat → Nat → Nat} {M M' M0 M1 M2 M3 M6 : Nat → Nat → Int} {n s d : Nat} {A A1 : Nat → Int} {W : Nat → qWt}
theorem qWd_to2 (hw : qWd n S R M W) (hM : ∀ a, (a < 10 ∨ 147 ≤ a) → a ≠ 306 → a ≠ 305 → ¬ qY a → M' a = M a) (h5 : M' 305 4 = M 305 4 ∧ M' 305 5 = M 305 5 ∧ M' 305 6 = M 305 6 ∧ M' 305 23 = M 305 23) (ht : qTo M' 10 (M' 306)) (h2 : M' 306 2 = M 306 2) : qWd n S R M' W := by
  obtain ⟨⟨h1, h2', h3⟩, h4, h5', h6, h7⟩ := hw
  have hY : ∀ a, a < 284 ∨ (303 < a ∧ a < 310) ∨ 318 < a → ¬ qY a := fun a ha => by unfold qY; omega
  have e7 : M' 307 = M 307 := hM 307 (by omega) (by decide) (by decide) (hY _ (by omega))
  refine ⟨⟨h1, h2', qSt_x (fun a ha => hM a (by omega) (by omega) (by omega) (hY _ (by omega))) h3⟩, ht, ?_, qTt_x (fun a ha => hM a (by omega) (by omega) (by omega) (hY _ (by omega))) (hM 308 (by omega) (by decide) (by decide) (hY _ (by omega))) h2 (by rw [e7]) h6, qTp_x (hM 9 (by omega) (by decide) (by decide) (hY _ (by omega))) (hM 304 (by omega) (by decide) (by decide) (hY _ (by omega))) (hM 309 (by omega) (by decide) (by decide) (hY _ (by omega))) h5 h7⟩
  rw [e7]
  exact qTo_x (fun a x y => hM a (by omega) (by omega) (by omega) (hY _ (by omega))) h5'
theorem qWd_fz (hw : qWd n S R M W) : ∃ f z : Nat, M 25 1 = f ∧ M 25 2 = z ∧ M 306 4 = z ∧ f < 30 ∧ z ≤ 30 := by
  have hs := hw.2.1.2.2.1.1
  have h4 := hw.2.1.2.2.2.2.2.2.2.1
  have s1 : M 25 2 = M 306 4 := hs.1
  have s2 : 0 ≤ M 25 1 := hs.2.1
  have s3 : M 25 1 < 30 := hs.2.2
  exact ⟨(M 25 1).toNat, (M 25 2).toNat, by omega, by omega, by omega, by omega, by omega⟩
/-- a step and one ring elsewhere -/
theorem qWd_step (hw : qWd n S R M W) {f z : Nat} (hf : M 25 1 = f) (hz : M 306 4 = z) (hz30 : z ≤ 30) (hP : qPu M M2 f z) (hK : qKp (M 306) A1 z) {o y : Nat} {v : Int} (ho : (o : Int) < M 306 0) (hy : y < 24) (hold : M 306 (11 + 24 * o + y) ≠ 0) (hv : 1 ≤ v ∧ v < 3 + M 306 1) (hM3 : ∀ a, a ≠ 22 → M3 a = M2 a) (hg : qRg M3 21 (qg (qup A1 (11 + 24 * o + y) v))) (h6 : M6 306 = qup A1 (11 + 24 * o + y) v) (h6' : ∀ a, a ≠ 306 → ¬ qY a → M6 a = M3 a) : qWd n S R M6 W ∧ M6 1 = M 1 := by
  have hA5 := hw.2.1.2.2.2.1.2
  have k6 := hK.2.2.2
  have t1 : qTo M2 10 A1 := qTo_push hf hz hz30 hP hK hw.2.1
  have e0 : A1 0 = M 306 0 := k6 0 (by decide) (by decide)
  have e1 : A1 1 = M 306 1 := k6 1 (by decide) (by decide)
  have e2 : A1 2 = M 306 2 := k6 2 (by decide) (by decide)
  have ei : A1 (11 + 24 * o + y) = M 306 (11 + 24 * o + y) := k6 _ (by omega) (by omega)
  have t2 : qTo M3 10 (qup A1 (11 + 24 * o + y) v) := qTo_put (by rw [e0]; exact ho) hy (by rw [ei]; exact hold) (by rw [e1]; exact hv) (fun a a1 _ => hM3 a a1) hg t1
  have hY : ∀ a, a < 284 ∨ (303 < a ∧ a < 310) ∨ 318 < a → ¬ qY a := fun a ha => by unfold qY; omega
  obtain ⟨M0, c, e⟩ := hP
  have hlt : (f + z) % 30 < 30 := Nat.mod_lt _ (by decide)
  have hrow : ∀ a, a < 10 ∨ 147 ≤ a → M2 a = M a := fun a ha => by
    rw [e]
    split
    · rw [zup_rw (by omega)]; exact c.1 a (by omega)
    · rw [zup_rw (by omega)]; exact c.1 a (by omega)
  have hrow6 : ∀ a, a < 10 ∨ 147 ≤ a → a ≠ 306 → ¬ qY a → M6 a = M a := fun a ha h1 h2 => by rw [h6' a h1 h2, hM3 a (by omega), hrow a ha]
  have h305 : M6 305 = M 305 := hrow6 305 (by omega) (by decide) (hY _ (by omega))
  refine ⟨qWd_to2 hw (fun a x1 x2 _ x4 => hrow6 a x1 x2 x4) ⟨by rw [h305], by rw [h305], by rw [h305], by rw [h305]⟩ ?_ ?_, hrow6 1 (by omega) (by decide) (hY _ (by omega))⟩
  · rw [h6]
    exact qTo_x (fun a x1 x2 => h6' a (by omega) (hY _ (by omega))) t2
  · rw [h6, qup_ne (by omega), e2]
/-- the row of rings after one is put elsewhere -/
theorem qg_put {o y : Nat} {v : Int} (ho : (o : Int) < A 0) (ho5 : o < 5) (hy : y < 24) : ∀ o' y', o' < 5 → y' < 24 → qg (qup A (11 + 24 * o + y) v) o' y' = if o' = o ∧ y' = y then v else qg A o' y' := fun o' y' h1 h2 => by
  have e0 : qup A (11 + 24 * o + y) v 0 = A 0 := qup_ne (by omega)
  unfold qg
  rw [e0]
  by_cases h : o' = o ∧ y' = y
  · obtain ⟨rfl, rfl⟩ := h
    rw [if_pos ho, if_pos ⟨rfl, rfl⟩, qup_at]
  · rw [if_neg h]
    by_cases hoA : (o' : Int) < A 0
    · rw [if_pos hoA, if_pos hoA, qup_ne (by omega)]
    · rw [if_neg hoA, if_neg hoA]
theorem qRg_cong {r : Nat} {g g' : Nat → Nat → Int} (h : ∀ o y, o < 5 → y < 24 → g' o y = g o y) (hr : qRg M r g) : qRg M r g' := qRg_g (fun o y ho hy => Or.inl (h o y ho hy)) hr
theorem km_put (hF : qFx S R) {o y : Nat} (ho : o < 5) (hy : y < 24) (v : Int) : zcal zPP (d + 1) 182 [zA 305, zI o, zI y, zI v] (n, s, S, R, M) = some (zU, (n, s, S, R, zup M 306 (11 + 24 * o + y) v)) := k_put hF.2.1 ho hy v
/-- the class's step and gift -/
theorem kx_stepgive (hw : qWd n S R M W) {f z : Nat} (hf : M 25 1 = f) (hz : M 25 2 = z) (hz4 : M 306 4 = z) (hf30 : f < 30) (hz30 : z ≤ 30) {o y p : Nat} (ho : (o : Int) < M 306 0) (hy : y < 24) (hp : (p : Int) < M 306 1) (h2 : M 306 (11 + 24 * o + y) ≠ 2) :
    ∃ M2 M3, zcal zPP 99 153 [zA 25, zA 21] (n, s, S, R, M) = some (zU, (n, s, S, R, M2)) ∧ zcal zPP 99 139 [zA 21, zI o, zI y, zI p] (n, s, S, R, M2) = some (zU, (n, s, S, R, M3)) ∧ qPu M M2 f z ∧ (∀ a, a ≠ 22 → M3 a = M2 a) ∧ qRg M3 21 (fun o' y' => if o' = o ∧ y' = y then 3 + p else qg (M 306) o' y') := by
  have hF := hw.1.2.1
  have hA := hw.2.1.2.2.2
  obtain ⟨M2, p1, p2⟩ := kx_push (n := n) (s := s) (d := 97) (M := M) hF hf hz hf30 hz30
  have hlt : (f + z) % 30 < 30 := Nat.mod_lt _ (by decide)
  have hrow : ∀ a, 21 ≤ a → a ≤ 24 → M2 a = M a := fun a h1 h3 => by
    obtain ⟨M0, c, e⟩ := p2
    rw [e]
    split
    · rw [zup_rw (by omega)]; exact c.1 a (by omega)
    · rw [zup_rw (by omega)]; exact c.1 a (by omega)
  have hg : qRg M2 21 (qg (M 306)) := qRg_x (hrow _ (by decide) (by decide)) (hrow _ (by decide) (by decide)) hw.2.1.2.1.1
  have hA5 := hA.1.2
  have hp5 := hA.2.1.2
  obtain ⟨M3, g1, g2, g3⟩ := kr_give (n := n) (s := s) (d := 96) (M := M2) hF.1.2.1.1.2.2.1 hg (show o < 5 by omega) hy (show p < 5 by omega) (by rw [qg_in ho]; exact h2)
  exact ⟨M2, M3, p1, g1, p2, g3, g2⟩
theorem qPu_rw {f z : Nat} (hP : qPu M M2 f z) {a : Nat} (ha : a < 10 ∨ 147 ≤ a ∨ (21 ≤ a ∧ a ≤ 24)) : M2 a = M a := by
  have hlt : (f + z) % 30 < 30 := Nat.mod_lt _ (by decide)
  obtain ⟨M0, c, e⟩ := hP
  rw [e]
  split
  · rw [zup_rw (by omega)]; exact c.1 a (by omega)
  · rw [zup_rw (by omega)]; exact c.1 a (by omega)
/-- the class's step and return -/
theorem kx_stepbring (hw : qWd n S R M W) {f z : Nat} (hf : M 25 1 = f) (hz : M 25 2 = z) (hf30 : f < 30) (hz30 : z ≤ 30) {o y : Nat} (ho : (o : Int) < M 306 0) (hy : y < 24) (h3 : 3 ≤ M 306 (11 + 24 * o + y)) :
    ∃ M2 M3, zcal zPP 99 153 [zA 25, zA 21] (n, s, S, R, M) = some (zU, (n, s, S, R, M2)) ∧ zcal zPP 99 140 [zA 21, zI o, zI y] (n, s, S, R, M2) = some (zU, (n, s, S, R, M3)) ∧ qPu M M2 f z ∧ (∀ a, a ≠ 22 → M3 a = M2 a) ∧ qRg M3 21 (fun o' y' => if o' = o ∧ y' = y then 1 else qg (M 306) o' y') := by
  have hF := hw.1.2.1
  have hA := hw.2.1.2.2.2
  obtain ⟨M2, p1, p2⟩ := kx_push (n := n) (s := s) (d := 97) (M := M) hF hf hz hf30 hz30
  have hg : qRg M2 21 (qg (M 306)) := qRg_x (qPu_rw p2 (by omega)) (qPu_rw p2 (by omega)) hw.2.1.2.1.1
  have hA5 := hA.1.2
  obtain ⟨M3, g1, g2, g3⟩ := kr_bring (n := n) (s := s) (d := 97) (M := M2) hF.1.2.1.1.2.2.1 hg (show o < 5 by omega) hy
  refine ⟨M2, M3, p1, g1, p2, g3, qRg_cong (fun o' y' _ _ => ?_) g2⟩
  by_cases h : o' = o ∧ y' = y
  · rw [if_pos h, if_pos ⟨h.1, h.2, by rw [qg_in ho]; exact h3⟩]
  · rw [if_neg h, if_neg (fun z => h ⟨z.1, z.2.1⟩)]
/-- the model's step and ring, after the class's -/
theorem km_stepput (hw : qWd n S R M W) {f z : Nat} (hf : M 25 1 = f) (hz : M 25 2 = z) (hz4 : M 306 4 = z) (hz30 : z ≤ 30) {o y : Nat} {v : Int} (ho : (o : Int) < M 306 0) (hy : y < 24) (hold : M 306 (11 + 24 * o + y) ≠ 0) (hv : 1 ≤ v ∧ v < 3 + M 306 1)
    (s3 : qPu M M2 f z) (s4 : ∀ a, a ≠ 22 → M3 a = M2 a) (s5 : qRg M3 21 (fun o' y' => if o' = o ∧ y' = y then v else qg (M 306) o' y')) {M4 : Nat → Nat → Int} (x4 : qX3 M3 M4) :
    ∃ M5 M6, zcal zPP 99 251 [zA 305] (n, s, S, R, M4) = some (zU, (n, s, S, R, M5)) ∧ zcal zPP 99 182 [zA 305, zI o, zI y, zI v] (n, s, S, R, M5) = some (zU, (n, s, S, R, M6)) ∧ qWd n S R M6 W ∧ M6 1 = M 1 := by
  have hF := hw.1.2.1
  have hA5 := hw.2.1.2.2.2.1.2
  have e4 : M4 306 = M 306 := by rw [x4 306 (by decide) (by decide) (by decide), s4 306 (by decide), qPu_rw s3 (by omega)]
  obtain ⟨M5, k1, k2, k3⟩ := km_keep (n := n) (s := s) (d := 98) (M := M4) hF (z := z) (by rw [e4]; exact hz4) hz30
  rw [e4] at k3
  have p1 := km_put (n := n) (s := s) (d := 98) (M := M5) hF (show o < 5 by omega) hy v
  have e0 : M5 306 0 = M 306 0 := k3.2.2.2 0 (by decide) (by decide)
  have hA1 : ∀ k, k ≠ 4 → k < 200 → M5 306 k = M 306 k := fun k h1 h2 => k3.2.2.2 k h1 (Or.inl h2)
  have W6 := qWd_step (M6 := zup M5 306 (11 + 24 * o + y) v) hw hf hz4 hz30 s3 k3 ho hy hold hv s4
    (qRg_cong (fun o' y' h1 h2 => by
      have g1 := qg_put (A := M5 306) (v := v) (by rw [e0]; exact ho) (show o < 5 by omega) hy o' y' h1 h2
      rw [g1]
      by_cases h : o' = o ∧ y' = y
      · rw [if_pos h, if_pos h]
      · rw [if_neg h, if_neg h]
        unfold qg
        rw [e0, hA1 (11 + 24 * o' + y') (by omega) (by omega)]) s5)
    (qup_zup M5 306 _ v)
    (fun a h1 h2 => by rw [zup_rw (by omega), k2 a h1]; unfold qY at h2; exact x4 a (by omega) (by omega) (by omega))
  exact ⟨M5, _, k1, p1, W6.1, W6.2⟩
theorem qb_lend (hw : qWd n S R M W) (v w u : Int) : qBo 29 230 [zI v, zI w, zI u] n s S R M := by
  have hF := hw.1.2.1
  have hA := hw.2.1.2.2.2
  have hA5 := hA.1.2
  have hp5 := hA.2.1.2
  obtain ⟨M1, x1, x2, x3⟩ := kx_canLend (s := s) (d := 92) hw v w u
  have hw1 : qWd n S R M1 W := qWd_x (qX2_e x1) hw
  have e16 : M1 306 = M 306 := x1 306 (by decide) (by decide)
  have e11 : M1 1 = M 1 := x1 1 (by decide) (by decide)
  by_cases hc : qcL (M 306) (qWr W (M 306 3)) v w u
  · obtain ⟨f, z, hf, hz, hz4, hf30, hz30⟩ := qWd_fz hw1
    have hc' := hc
    obtain ⟨c1, c2, c3, c4, -⟩ := hc'
    obtain ⟨o, rfl⟩ := Int.eq_ofNat_of_zero_le c1.1.1
    obtain ⟨y, rfl⟩ := Int.eq_ofNat_of_zero_le c1.2.1.1
    obtain ⟨p, rfl⟩ := Int.eq_ofNat_of_zero_le c2.1
    rw [Int.toNat_natCast, Int.toNat_natCast] at c4
    have hy : y < 24 := by have := c1.2.1.2; omega
    obtain ⟨M2, M3, s1, s2, s3, s4, s5⟩ := kx_stepgive (s := s) hw1 hf hz hz4 hf30 hz30 (o := o) (y := y) (p := p) (by rw [e16]; exact c1.1.2) hy (by rw [e16]; exact c2.2) (by rw [e16, c4]; decide)
    have h306 : M3 306 = M 306 := by rw [s4 306 (by decide), qPu_rw s3 (by omega), e16]
    have h308 : M3 308 = M 308 := by rw [s4 308 (by decide), qPu_rw s3 (by omega), x1 308 (by decide) (by decide)]
    have hX : zcal zPP 100 29 [zA 9, zI o, zI y, zI p] (n, s, S, R, M) = some (zI 1, (n, s, S, R, M3)) := by
      rw [c_X_lend]
      simp (disch := omega) only [x2 hc, s1, s2, qff hF, qltT, qltF, qleT, qleF, qeqT, qeqF, Int.reduceEq, Int.reduceNe, Int.reduceLT, Int.reduceLE, Int.reduceToNat, Int.reduceAdd, Int.reduceSub, Int.reduceMul, Int.reduceNeg, Nat.reduceAdd, Nat.reduceMul, Nat.reduceEqDiff, Nat.reduceLT, Int.cast_ofNat_Int, Int.lt_irrefl, Bool.false_eq_true, ↓reduceIte, ↓reduceDIte, zbI, zbL, zbA, zbV, qrg, qrg2, qnn, qz, zup_at, zup_r, zup_ne, true_and, and_true, true_or, or_true, and_self, or_self, false_or, or_false, false_and, and_false, Int.toNat_natCast, Int.toNat_add, Int.toNat_mul, Int.toNat_zero, Int.toNat_one, qtn, Int.natCast_add, qnat1, qnat0, ne_eq, not_true_eq_false, not_false_eq_true, eq_self, qbool]
    obtain ⟨M4, y1, y2, y3⟩ := km_canLend (n := n) (s := s) (d := 90) (M := M3) hF (by rw [h306]; exact hA) (w0 := qWr W (M 306 3)) (by rw [h306, h308]; exact wm_text hw hA.2.2.2.1) (o : Int) (y : Int) (p : Int)
    rw [h306] at y2
    obtain ⟨M5, M6, k1, k2, k3, k4⟩ := km_stepput (s := s) hw1 hf hz hz4 hz30 (v := 3 + p) (by rw [e16]; exact c1.1.2) hy (by rw [e16, c4]; decide) ⟨by omega, by rw [e16]; have := c2.2; omega⟩ s3 s4 s5 y1
    refine qBo_rows hX ?_ k3 (k4.trans e11)
    rw [c_M_lend]
    simp (disch := omega) only [y2 hc, k1, k2, qff hF, qltT, qltF, qleT, qleF, qeqT, qeqF, Int.reduceEq, Int.reduceNe, Int.reduceLT, Int.reduceLE, Int.reduceToNat, Int.reduceAdd, Int.reduceSub, Int.reduceMul, Int.reduceNeg, Nat.reduceAdd, Nat.reduceMul, Nat.reduceEqDiff, Nat.reduceLT, Int.cast_ofNat_Int, Int.lt_irrefl, Bool.false_eq_true, ↓reduceIte, ↓reduceDIte, zbI, zbL, zbA, zbV, qrg, qrg2, qnn, qz, zup_at, zup_r, zup_ne, true_and, and_true, true_or, or_true, and_self, or_self, false_or, or_false, false_and, and_false, Int.toNat_natCast, Int.toNat_add, Int.toNat_mul, Int.toNat_zero, Int.toNat_one, qtn, Int.natCast_add, qnat1, qnat0, ne_eq, not_true_eq_false, not_false_eq_true, eq_self, qbool]
  · have hX : zcal zPP 100 29 [zA 9, zI v, zI w, zI u] (n, s, S, R, M) = some (zI 0, (n, s, S, R, M1)) := by
      rw [c_X_lend]
      simp (disch := omega) only [x3 hc, qff hF, qltT, qltF, qleT, qleF, qeqT, qeqF, Int.reduceEq, Int.reduceNe, Int.reduceLT, Int.reduceLE, Int.reduceToNat, Int.reduceAdd, Int.reduceSub, Int.reduceMul, Int.reduceNeg, Nat.reduceAdd, Nat.reduceMul, Nat.reduceEqDiff, Nat.reduceLT, Int.cast_ofNat_Int, Int.lt_irrefl, Bool.false_eq_true, ↓reduceIte, ↓reduceDIte, zbI, zbL, zbA, zbV, qrg, qrg2, qnn, qz, zup_at, zup_r, zup_ne, true_and, and_true, true_or, or_true, and_self, or_self, false_or, or_false, false_and, and_false, Int.toNat_natCast, Int.toNat_add, Int.toNat_mul, Int.toNat_zero, Int.toNat_one, qtn, Int.natCast_add, qnat1, qnat0, ne_eq, not_true_eq_false, not_false_eq_true, eq_self, qbool]
    refine qBo_q hw ⟨M1, hX, qX2_e x1⟩ fun M3 hw3 h306 => ?_
    obtain ⟨M4, y1, y2, y3⟩ := km_canLend (n := n) (s := s) (d := 90) (M := M3) hF hw3.2.1.2.2.2 (wm_text hw3 hw3.2.1.2.2.2.2.2.2.1) v w u
    rw [h306] at y3
    refine ⟨M4, ?_, qX3_e y1⟩
    rw [c_M_lend]
    simp (disch := omega) only [y3 hc, qff hF, qltT, qltF, qleT, qleF, qeqT, qeqF, Int.reduceEq, Int.reduceNe, Int.reduceLT, Int.reduceLE, Int.reduceToNat, Int.reduceAdd, Int.reduceSub, Int.reduceMul, Int.reduceNeg, Nat.reduceAdd, Nat.reduceMul, Nat.reduceEqDiff, Nat.reduceLT, Int.cast_ofNat_Int, Int.lt_irrefl, Bool.false_eq_true, ↓reduceIte, ↓reduceDIte, zbI, zbL, zbA, zbV, qrg, qrg2, qnn, qz, zup_at, zup_r, zup_ne, true_and, and_true, true_or, or_true, and_self, or_self, false_or, or_false, false_and, and_false, Int.toNat_natCast, Int.toNat_add, Int.toNat_mul, Int.toNat_zero, Int.toNat_one, qtn, Int.natCast_add, qnat1, qnat0, ne_eq, not_true_eq_false, not_false_eq_true, eq_self, qbool]
theorem qb_pass (hw : qWd n S R M W) (v w u : Int) : qBo 32 254 [zI v, zI w, zI u] n s S R M := by
  have hF := hw.1.2.1
  have hA := hw.2.1.2.2.2
  have hA5 := hA.1.2
  have hp5 := hA.2.1.2
  obtain ⟨M1, x1, x2, x3⟩ := kx_canPass (s := s) (d := 92) hw v w u
  have hw1 : qWd n S R M1 W := qWd_x (qX2_e x1) hw
  have e16 : M1 306 = M 306 := x1 306 (by decide) (by decide)
  have e11 : M1 1 = M 1 := x1 1 (by decide) (by decide)
  by_cases hc : qcP (M 306) (qWr W (M 306 3)) v w u
  · obtain ⟨f, z, hf, hz, hz4, hf30, hz30⟩ := qWd_fz hw1
    have hc' := hc
    obtain ⟨c1, c2, c3, -⟩ := hc'
    have c4 := c1.2.2
    obtain ⟨o, rfl⟩ := Int.eq_ofNat_of_zero_le c1.1.1
    obtain ⟨y, rfl⟩ := Int.eq_ofNat_of_zero_le c1.2.1.1
    obtain ⟨p, rfl⟩ := Int.eq_ofNat_of_zero_le c2.1
    rw [Int.toNat_natCast, Int.toNat_natCast] at c4
    have hy : y < 24 := by have := c1.2.1.2; omega
    obtain ⟨M2, M3, s1, s2, s3, s4, s5⟩ := kx_stepgive (s := s) hw1 hf hz hz4 hf30 hz30 (o := o) (y := y) (p := p) (by rw [e16]; exact c1.1.2) hy (by rw [e16]; exact c2.2) (by rw [e16]; omega)
    have h306 : M3 306 = M 306 := by rw [s4 306 (by decide), qPu_rw s3 (by omega), e16]
    have h308 : M3 308 = M 308 := by rw [s4 308 (by decide), qPu_rw s3 (by omega), x1 308 (by decide) (by decide)]
    have hX : zcal zPP 100 32 [zA 9, zI o, zI y, zI p] (n, s, S, R, M) = some (zI 1, (n, s, S, R, M3)) := by
      rw [c_X_pass]
      simp (disch := omega) only [x2 hc, s1, s2, qff hF, qltT, qltF, qleT, qleF, qeqT, qeqF, Int.reduceEq, Int.reduceNe, Int.reduceLT, Int.reduceLE, Int.reduceToNat, Int.reduceAdd, Int.reduceSub, Int.reduceMul, Int.reduceNeg, Nat.reduceAdd, Nat.reduceMul, Nat.reduceEqDiff, Nat.reduceLT, Int.cast_ofNat_Int, Int.lt_irrefl, Bool.false_eq_true, ↓reduceIte, ↓reduceDIte, zbI, zbL, zbA, zbV, qrg, qrg2, qnn, qz, zup_at, zup_r, zup_ne, true_and, and_true, true_or, or_true, and_self, or_self, false_or, or_false, false_and, and_false, Int.toNat_natCast, Int.toNat_add, Int.toNat_mul, Int.toNat_zero, Int.toNat_one, qtn, Int.natCast_add, qnat1, qnat0, ne_eq, not_true_eq_false, not_false_eq_true, eq_self, qbool]
    obtain ⟨M4, y1, y2, y3⟩ := km_canPass (n := n) (s := s) (d := 90) (M := M3) hF (by rw [h306]; exact hA) (w0 := qWr W (M 306 3)) (by rw [h306, h308]; exact wm_text hw hA.2.2.2.1) (o : Int) (y : Int) (p : Int)
    rw [h306] at y2
    obtain ⟨M5, M6, k1, k2, k3, k4⟩ := km_stepput (s := s) hw1 hf hz hz4 hz30 (v := 3 + p) (by rw [e16]; exact c1.1.2) hy (by rw [e16]; omega) ⟨by omega, by rw [e16]; have := c2.2; omega⟩ s3 s4 s5 y1
    refine qBo_rows hX ?_ k3 (k4.trans e11)
    rw [c_M_pass]
    simp (disch := omega) only [y2 hc, k1, k2, qff hF, qltT, qltF, qleT, qleF, qeqT, qeqF, Int.reduceEq, Int.reduceNe, Int.reduceLT, Int.reduceLE, Int.reduceToNat, Int.reduceAdd, Int.reduceSub, Int.reduceMul, Int.reduceNeg, Nat.reduceAdd, Nat.reduceMul, Nat.reduceEqDiff, Nat.reduceLT, Int.cast_ofNat_Int, Int.lt_irrefl, Bool.false_eq_true, ↓reduceIte, ↓reduceDIte, zbI, zbL, zbA, zbV, qrg, qrg2, qnn, qz, zup_at, zup_r, zup_ne, true_and, and_true, true_or, or_true, and_self, or_self, false_or, or_false, false_and, and_false, Int.toNat_natCast, Int.toNat_add, Int.toNat_mul, Int.toNat_zero, Int.toNat_one, qtn, Int.natCast_add, qnat1, qnat0, ne_eq, not_true_eq_false, not_false_eq_true, eq_self, qbool]
  · have hX : zcal zPP 100 32 [zA 9, zI v, zI w, zI u] (n, s, S, R, M) = some (zI 0, (n, s, S, R, M1)) := by
      rw [c_X_pass]
      simp (disch := omega) only [x3 hc, qff hF, qltT, qltF, qleT, qleF, qeqT, qeqF, Int.reduceEq, Int.reduceNe, Int.reduceLT, Int.reduceLE, Int.reduceToNat, Int.reduceAdd, Int.reduceSub, Int.reduceMul, Int.reduceNeg, Nat.reduceAdd, Nat.reduceMul, Nat.reduceEqDiff, Nat.reduceLT, Int.cast_ofNat_Int, Int.lt_irrefl, Bool.false_eq_true, ↓reduceIte, ↓reduceDIte, zbI, zbL, zbA, zbV, qrg, qrg2, qnn, qz, zup_at, zup_r, zup_ne, true_and, and_true, true_or, or_true, and_self, or_self, false_or, or_false, false_and, and_false, Int.toNat_natCast, Int.toNat_add, Int.toNat_mul, Int.toNat_zero, Int.toNat_one, qtn, Int.natCast_add, qnat1, qnat0, ne_eq, not_true_eq_false, not_false_eq_true, eq_self, qbool]
    refine qBo_q hw ⟨M1, hX, qX2_e x1⟩ fun M3 hw3 h306 => ?_
    obtain ⟨M4, y1, y2, y3⟩ := km_canPass (n := n) (s := s) (d := 90) (M := M3) hF hw3.2.1.2.2.2 (wm_text hw3 hw3.2.1.2.2.2.2.2.2.1) v w u
    rw [h306] at y3
    refine ⟨M4, ?_, qX3_e y1⟩
    rw [c_M_pass]
    simp (disch := omega) only [y3 hc, qff hF, qltT, qltF, qleT, qleF, qeqT, qeqF, Int.reduceEq, Int.reduceNe, Int.reduceLT, Int.reduceLE, Int.reduceToNat, Int.reduceAdd, Int.reduceSub, Int.reduceMul, Int.reduceNeg, Nat.reduceAdd, Nat.reduceMul, Nat.reduceEqDiff, Nat.reduceLT, Int.cast_ofNat_Int, Int.lt_irrefl, Bool.false_eq_true, ↓reduceIte, ↓reduceDIte, zbI, zbL, zbA, zbV, qrg, qrg2, qnn, qz, zup_at, zup_r, zup_ne, true_and, and_true, true_or, or_true, and_self, or_self, false_or, or_false, false_and, and_false, Int.toNat_natCast, Int.toNat_add, Int.toNat_mul, Int.toNat_zero, Int.toNat_one, qtn, Int.natCast_add, qnat1, qnat0, ne_eq, not_true_eq_false, not_false_eq_true, eq_self, qbool]
theorem qb_returned (hw : qWd n S R M W) (v w : Int) : qBo 31 252 [zI v, zI w] n s S R M := by
  have hF := hw.1.2.1
  have hA := hw.2.1.2.2.2
  have hA5 := hA.1.2
  have hp5 := hA.2.1.2
  have hp0 := hA.2.1.1
  have hg : qRg M 21 (qg (M 306)) := hw.2.1.2.1.1
  obtain ⟨x2, x3⟩ := kx_holder (n := n) (s := s) (d := 97) (M := M) hF hA hg v w
  by_cases hc : qLent (M 306) v w
  · obtain ⟨f, z, hf, hz, hz4, hf30, hz30⟩ := qWd_fz hw
    have x2' := x2 hc
    have c1 := hc.1
    have c2 := hc.2.1
    have c4 := hc.2.2
    obtain ⟨o, rfl⟩ := Int.eq_ofNat_of_zero_le c1.1
    obtain ⟨y, rfl⟩ := Int.eq_ofNat_of_zero_le c2.1
    rw [Int.toNat_natCast, Int.toNat_natCast] at c4 x2'
    have hy : y < 24 := by omega
    obtain ⟨M2, M3, s1, s2, s3, s4, s5⟩ := kx_stepbring (s := s) hw hf hz hf30 hz30 (o := o) (y := y) c1.2 hy c4
    have h306 : M3 306 = M 306 := by rw [s4 306 (by decide), qPu_rw s3 (by omega)]
    have hX : zcal zPP 100 31 [zA 9, zI o, zI y] (n, s, S, R, M) = some (zI 1, (n, s, S, R, M3)) := by
      rw [c_X_returned]
      simp (disch := omega) only [x2', s1, s2, qff hF, qltT, qltF, qleT, qleF, qeqT, qeqF, Int.reduceEq, Int.reduceNe, Int.reduceLT, Int.reduceLE, Int.reduceToNat, Int.reduceAdd, Int.reduceSub, Int.reduceMul, Int.reduceNeg, Nat.reduceAdd, Nat.reduceMul, Nat.reduceEqDiff, Nat.reduceLT, Int.cast_ofNat_Int, Int.lt_irrefl, Bool.false_eq_true, ↓reduceIte, ↓reduceDIte, zbI, zbL, zbA, zbV, qrg, qrg2, qnn, qz, zup_at, zup_r, zup_ne, true_and, and_true, true_or, or_true, and_self, or_self, false_or, or_false, false_and, and_false, Int.toNat_natCast, Int.toNat_add, Int.toNat_mul, Int.toNat_zero, Int.toNat_one, qtn, Int.natCast_add, qnat1, qnat0, ne_eq, not_true_eq_false, not_false_eq_true, eq_self, qbool]
    obtain ⟨y2, y3⟩ := km_isLent (n := n) (s := s) (d := 95) (M := M3) hF (by rw [h306]; exact hA) (o : Int) (y : Int)
    rw [h306] at y2
    obtain ⟨M5, M6, k1, k2, k3, k4⟩ := km_stepput (s := s) hw hf hz hz4 hz30 (v := 1) c1.2 hy (by omega) ⟨by omega, by omega⟩ s3 s4 s5 (qX3_r M3)
    refine qBo_rows hX ?_ k3 k4
    rw [c_M_returned]
    simp (disch := omega) only [y2 hc, k1, k2, qff hF, qltT, qltF, qleT, qleF, qeqT, qeqF, Int.reduceEq, Int.reduceNe, Int.reduceLT, Int.reduceLE, Int.reduceToNat, Int.reduceAdd, Int.reduceSub, Int.reduceMul, Int.reduceNeg, Nat.reduceAdd, Nat.reduceMul, Nat.reduceEqDiff, Nat.reduceLT, Int.cast_ofNat_Int, Int.lt_irrefl, Bool.false_eq_true, ↓reduceIte, ↓reduceDIte, zbI, zbL, zbA, zbV, qrg, qrg2, qnn, qz, zup_at, zup_r, zup_ne, true_and, and_true, true_or, or_true, and_self, or_self, false_or, or_false, false_and, and_false, Int.toNat_natCast, Int.toNat_add, Int.toNat_mul, Int.toNat_zero, Int.toNat_one, qtn, Int.natCast_add, qnat1, qnat0, ne_eq, not_true_eq_false, not_false_eq_true, eq_self, qbool]
  · have hX : zcal zPP 100 31 [zA 9, zI v, zI w] (n, s, S, R, M) = some (zI 0, (n, s, S, R, M)) := by
      rw [c_X_returned]
      simp (disch := omega) only [x3 hc, qff hF, qltT, qltF, qleT, qleF, qeqT, qeqF, Int.reduceEq, Int.reduceNe, Int.reduceLT, Int.reduceLE, Int.reduceToNat, Int.reduceAdd, Int.reduceSub, Int.reduceMul, Int.reduceNeg, Nat.reduceAdd, Nat.reduceMul, Nat.reduceEqDiff, Nat.reduceLT, Int.cast_ofNat_Int, Int.lt_irrefl, Bool.false_eq_true, ↓reduceIte, ↓reduceDIte, zbI, zbL, zbA, zbV, qrg, qrg2, qnn, qz, zup_at, zup_r, zup_ne, true_and, and_true, true_or, or_true, and_self, or_self, false_or, or_false, false_and, and_false, Int.toNat_natCast, Int.toNat_add, Int.toNat_mul, Int.toNat_zero, Int.toNat_one, qtn, Int.natCast_add, qnat1, qnat0, ne_eq, not_true_eq_false, not_false_eq_true, eq_self, qbool]
    refine qBo_same hw hX ?_
    rw [c_M_returned]
    simp (disch := omega) only [(km_isLent (n := n) (s := s) (d := 95) (M := M) hF hA v w).2 hc, qff hF, qltT, qltF, qleT, qleF, qeqT, qeqF, Int.reduceEq, Int.reduceNe, Int.reduceLT, Int.reduceLE, Int.reduceToNat, Int.reduceAdd, Int.reduceSub, Int.reduceMul, Int.reduceNeg, Nat.reduceAdd, Nat.reduceMul, Nat.reduceEqDiff, Nat.reduceLT, Int.cast_ofNat_Int, Int.lt_irrefl, Bool.false_eq_true, ↓reduceIte, ↓reduceDIte, zbI, zbL, zbA, zbV, qrg, qrg2, qnn, qz, zup_at, zup_r, zup_ne, true_and, and_true, true_or, or_true, and_self, or_self, false_or, or_false, false_and, and_false, Int.toNat_natCast, Int.toNat_add, Int.toNat_mul, Int.toNat_zero, Int.toNat_one, qtn, Int.natCast_add, qnat1, qnat0, ne_eq, not_true_eq_false, not_false_eq_true, eq_self, qbool]
end QF
