/-! DAYS of the class -/
/-- THE TEXT's object -/
def qVr (R : Nat → Nat → Nat) (A : Nat → Int) : Nat := if A 3 < 0 then 0 else R 14 (A 3).toNat
theorem qVr_e {R : Nat → Nat → Nat} {A A' : Nat → Int} (h : A' 3 = A 3) : qVr R A' = qVr R A := by
  unfold qVr
  rw [h]
theorem qRg_cut {M M' : Nat → Nat → Int} {r o y : Nat} {g : Nat → Nat → Int} (hy : y < 24) (h1 : M' (r + 1) = M (r + 1)) (h2 : ∀ k, k ≠ o → M' (r + 2) k = M (r + 2) k) (h3 : M' (r + 2) o = zor (M (r + 2) o) (zshl 1 y)) (h4 : g o y < 3) (ho : o < 5) (hg : qRg M r g) : qRg M' r (fun o' y' => if o' = o ∧ y' = y then 2 else g o' y') := by
  refine ⟨fun o' p ho' hp => ?_, fun o' ho' => ?_⟩
  · rw [h1, hg.1 o' p ho' hp]
    refine congrArg (fun x : Nat => (x : Int)) (zsn_cong fun y' hy' => ?_)
    by_cases h : o' = o ∧ y' = y
    · obtain ⟨rfl, rfl⟩ := h
      simp only [and_self, if_true]
      rw [decide_eq_false (by omega), decide_eq_false (by omega)]
    · simp only [h, if_false]
  · by_cases hoo : o' = o
    · subst hoo
      rw [h3, hg.2 o' ho', zsn_put24 _ hy]
      refine congrArg (fun x : Nat => (x : Int)) (zsn_cong fun y' hy' => ?_)
      by_cases hyy : y' = y
      · subst hyy
        simp
      · simp [hyy]
    · rw [h2 o' hoo, hg.2 o' ho']
      refine congrArg (fun x : Nat => (x : Int)) (zsn_cong fun y' hy' => ?_)
      simp only [hoo, false_and, if_false]
theorem qg_9 {A : Nat → Int} {v : Int} {o y : Nat} : qg (qup A 9 v) o y = qg A o y := by
  unfold qg
  rw [qup_ne (by decide), qup_ne (by omega)]
section QF
variable {S : Nat → Nat × Nat} {R : Nat → Nat → Nat} {M M' M0 M1 : Nat → Nat → Int} {n s d r : Nat} {A : Nat → Int} {W : Nat → qWt} {w : qWt} {fl : Bool}
theorem vx_ruler (hF : qFx S R) (hT : qTw M 10 A) (hA : qIn A) : zcal zPP (d + 2) 171 [zA 10] (n, s, S, R, M) = some (zA (qVr R A), (n, s, S, R, M)) := by
  have h2 := hA.2.2.1
  have h3 := hA.2.2.2.1
  have h14 : M 10 14 = A 2 := hT.1.2.2.1
  have h15 : M 10 15 = A 3 := hT.1.2.2.2.1
  unfold qVr
  by_cases h0 : A 3 < 0
  · rw [if_pos h0]
    simp (disch := omega) only [c_Town_ruler, h15, c_Town_textAt, qff hF, qltT, qltF, qleT, qleF, qeqT, qeqF, Int.reduceEq, Int.reduceNe, Int.reduceLT, Int.reduceLE, Int.reduceToNat, Int.reduceAdd, Int.reduceSub, Int.reduceMul, Int.reduceNeg, Nat.reduceAdd, Nat.reduceMul, Nat.reduceEqDiff, Nat.reduceLT, Int.cast_ofNat_Int, Int.lt_irrefl, Bool.false_eq_true, ↓reduceIte, ↓reduceDIte, zbI, zbL, zbA, zbV, qrg, qrg2, qnn, qz, zup_at, zup_r, zup_ne, true_and, and_true, true_or, or_true, and_self, or_self, false_or, or_false, false_and, and_false, Int.toNat_natCast, Int.toNat_add, Int.toNat_mul, Int.toNat_zero, Int.toNat_one, qtn, Int.natCast_add, qnat1, qnat0, ne_eq, not_true_eq_false, not_false_eq_true, eq_self, qbool]
  · rw [if_neg h0]
    obtain ⟨t, ht⟩ := Int.eq_ofNat_of_zero_le (show 0 ≤ A 3 by omega)
    rw [ht] at h15 h3 ⊢
    simp (disch := omega) only [c_Town_ruler, h15, c_Town_textAt, h14, qff hF, qltT, qltF, qleT, qleF, qeqT, qeqF, Int.reduceEq, Int.reduceNe, Int.reduceLT, Int.reduceLE, Int.reduceToNat, Int.reduceAdd, Int.reduceSub, Int.reduceMul, Int.reduceNeg, Nat.reduceAdd, Nat.reduceMul, Nat.reduceEqDiff, Nat.reduceLT, Int.cast_ofNat_Int, Int.lt_irrefl, Bool.false_eq_true, ↓reduceIte, ↓reduceDIte, zbI, zbL, zbA, zbV, qrg, qrg2, qnn, qz, zup_at, zup_r, zup_ne, true_and, and_true, true_or, or_true, and_self, or_self, false_or, or_false, false_and, and_false, Int.toNat_natCast, Int.toNat_add, Int.toNat_mul, Int.toNat_zero, Int.toNat_one, qtn, Int.natCast_add, qnat1, qnat0, ne_eq, not_true_eq_false, not_false_eq_true, eq_self, qbool]
/-- one RING with a PERSON, at MIDSUMMER -/
theorem kx_mid1 (hF : qFx S R) (hS : qSt M) (hr : r = 21 ∨ r = 291) (hrl : qLR S R r) {c : Nat} (hq : qTn S R M (qVr R A) w) (hC : qCr fl M r A) {o y : Nat} (ho : (o : Int) < A 0) (hy : y < 24) (h3 : 3 ≤ A (11 + 24 * o + y)) {L : Nat → Bool} (hL : L y = true) (hc : c < 100000) (g6 g7 : zV) :
    ∃ M' g6' g7', zR zPP (d + 6) 37 15 [zA 9, zA r, zI c, zI o, zI (zsn L 24 : Nat), zI y, g6, g7] [] (n, s, S, R, M) = zR zPP (d + 6) 37 15 [zA 9, zA r, zI ((qst w fl o y (A, c)).2 : Nat), zI o, zI (zsn L 24 : Nat), zI ((y + 1 : Nat) : Int), g6', g7'] [] (n, s, S, R, M') ∧ qCr fl M' r (qst w fl o y (A, c)).1 ∧ ∀ a, a ≠ 284 → a ≠ 285 → (a < r ∨ r + 3 < a) → M' a = M a := by
  obtain ⟨hT, hA, hg, ⟨f4, f5, f6⟩, f3, fp⟩ := hC
  have hA5 := hA.1.2
  have hp5 := hA.2.1.2
  have h7 := hA.2.2.2.2.2.2.2.1
  have h8 := hA.2.2.2.2.2.2.2.2.1
  have h9 := hA.2.2.2.2.2.2.2.2.2.1
  have h10 := hA.2.2.2.2.2.2.2.2.2.2.1
  have hb := hA.2.2.2.2.2.2.2.2.2.2.2.1 o y (by omega) hy
  obtain ⟨p, hp⟩ := Int.eq_ofNat_of_zero_le (show 0 ≤ A (11 + 24 * o + y) - 3 by omega)
  have hpn : (A (11 + 24 * o + y) - 3).toNat = p := by rw [hp, Int.toNat_natCast]
  have hp1 : (p : Int) < A 1 := by omega
  obtain ⟨dd, hdd⟩ := Int.eq_ofNat_of_zero_le h7.1
  -- who has it
  have hh := k_holder (n := n) (s := s) (d := d + 4) (M := M) hrl hg (show o < 5 by omega) hy
  rw [qg_in ho, if_pos (by omega), hp] at hh
  have hru := vx_ruler (n := n) (s := s) (d := d + 4) (M := M) hF hT hA
  obtain ⟨M1, j1, j2⟩ := kj_says (n := n) (s := s) (d := d) (L := 2) (o := o) (y := y) (p := p) hF hS hq ⟨hT, hA, hr, hrl, hg, f5⟩ (by decide) ho hy hp1
  have j1' : zcal zPP (d + 6) 96 [zA 284, zI 2, zA (qVr R A), zA r, zI o, zI y, zI p] (n, s, S, R, M) = some (zI (qLaw w (qEn A o y p) 2 (A (136 + y))), (n, s, S, R, M1)) := j1
  have hg1 : qRg M1 r (qg A) := qRg_x (j2 _ (by omega) (by omega)) (j2 _ (by omega) (by omega)) hg
  obtain ⟨M2, b1, b2, b3⟩ := kr_bring (n := n) (s := s) (d := d + 4) (M := M1) hrl hg1 (show o < 5 by omega) hy
  have hr1 : S r = (5, 7) := hrl.1
  have m6 : M2 r 6 = A 9 := by rw [b3 r (by omega), j2 r (by omega) (by omega)]; exact f6
  have hx : zw32 (zw32 (A 9 * 499) + 383) = A 9 * 499 + 383 := by unfold zw32; omega
  have hdr : zcal zPP (d + 6) 143 [zA r] (n, s, S, R, M2) = some (zI (A 9), (n, s, S, R, zup M2 r 6 (qnx (A 9)))) := by
    rw [c_Rings_drawn]
    simp only [hr1, if_true, m6, hx]
    rw [if_neg (by decide)]
    rfl
  -- where the RINGS are
  have g2 : qRg M2 r (fun o' y' => if o' = o ∧ y' = y then 1 else qg A o' y') := qRg_cong (fun o' y' _ _ => by
    by_cases h : o' = o ∧ y' = y
    · rw [if_pos h, if_pos ⟨h.1, h.2, by rw [qg_in ho]; exact h3⟩]
    · rw [if_neg h, if_neg (fun z => h ⟨z.1, z.2.1⟩)]) b2
  have g3 : qRg (zup M2 r 6 (qnx (A 9))) r (fun o' y' => if o' = o ∧ y' = y then 1 else qg A o' y') := qRg_x (by rw [zup_rw (by omega)]) (by rw [zup_rw (by omega)]) g2
  have hrow3 : ∀ a, a ≠ 284 → a ≠ 285 → (a < r ∨ r + 3 < a) → zup M2 r 6 (qnx (A 9)) a = M a := fun a a1 a2 a3 => by rw [zup_rw (by omega), b3 a (by omega), j2 a a1 a2]
  have e3 : zup M2 r 6 (qnx (A 9)) r 3 = M r 3 := by rw [zup_ne (by decide), b3 r (by omega), j2 r (by omega) (by omega)]
  have e4 : zup M2 r 6 (qnx (A 9)) r 4 = A 8 := by rw [zup_ne (by decide), b3 r (by omega), j2 r (by omega) (by omega)]; exact f4
  have e5 : zup M2 r 6 (qnx (A 9)) r 5 = A 7 := by rw [zup_ne (by decide), b3 r (by omega), j2 r (by omega) (by omega)]; exact f5
  have e6 : zup M2 r 6 (qnx (A 9)) r 6 = qnx (A 9) := zup_at
  have ep : zup M2 r 6 (qnx (A 9)) (r + 3) = M (r + 3) := by rw [zup_rw (by omega), b3 _ (by omega), j2 _ (by omega) (by omega)]
  have hKs := qst_Ks (w := w) (fl := fl) (o := o) (y := y) (X := (A, c)) hA ho hy h3
  have hTw : ∀ M4 : Nat → Nat → Int, (∀ a, a ≠ 284 → a ≠ 285 → (a < r ∨ r + 3 < a) → M4 a = M a) → qTw M4 10 (qst w fl o y (A, c)).1 := fun M4 h => qTw_Ks hKs.1 (qTw_x (fun a x z => h a (by omega) (by omega) (by omega)) hT)
  have hput : ∀ v o' y' : _, o' < 5 → y' < 24 → qg (qup (qup A 9 (qnx (A 9))) (11 + 24 * o + y) v) o' y' = if o' = o ∧ y' = y then v else qg A o' y' := fun v o' y' h1 h2 => by
    rw [qg_put (A := qup A 9 (qnx (A 9))) (by rw [qup_ne (by decide)]; exact ho) (show o < 5 by omega) hy o' y' h1 h2]
    by_cases h : o' = o ∧ y' = y
    · rw [if_pos h, if_pos h]
    · rw [if_neg h, if_neg h, qg_9]
  have hbit : zand (zshr (zsn L 24 : Nat) y) 1 = 1 := by rw [zsn_bit24 _ hy, if_pos hL]
  rw [e_X_midsummer_15, if_pos (by omega), hbit, if_neg (by decide), hh]
  simp only [zbI, qff hF, if_true]
  rw [hru]
  simp only [zbA, qff hF, if_true]
  rw [j1']
  simp only [zbI]
  rw [b1]
  simp only [zbV]
  rw [hdr]
  simp only [zbI]
  rw [if_neg (by decide)]
  by_cases hpay : (A 9).tmod 10 < qLaw w (qEn A o y p) 2 (A (136 + y))
  · have eX : qst w fl o y (A, c) = (qup (qup A 9 (qnx (A 9))) (11 + 24 * o + y) 1, c) := by
      unfold qst
      show (if (A 9).tmod 10 < qLaw w (qEn A o y (A (11 + 24 * o + y) - 3).toNat) 2 (A (136 + y)) then _ else _) = _
      rw [hpn, if_pos hpay]
    rw [if_pos hpay, qw1 (show y < 100000 by omega)]
    refine ⟨_, _, _, by rw [eX], ⟨hTw _ hrow3, hKs.1.2.2, ?_, ?_, ?_, fun hfl => ?_⟩, hrow3⟩
    · rw [eX]
      exact qRg_cong (fun o' y' h1 h2 => hput 1 o' y' h1 h2) g3
    · rw [eX]
      show _ = qup _ _ _ 8 ∧ _ = qup _ _ _ 7 ∧ _ = qup _ _ _ 9
      rw [qup_ne (by omega), qup_ne (by omega), qup_ne (by omega), qup_ne (by omega), qup_ne (by omega), qup_at]
      exact ⟨e4, e5, e6⟩
    · rw [e3]; exact f3
    · obtain ⟨p1, p2⟩ := fp hfl
      rw [eX]
      show _ = qup _ _ _ 10 ∧ ∀ i : Nat, (i : Int) < qup _ _ _ 10 → qPg _ (qup _ _ _ (4850 + i))
      rw [qup_ne (by omega), qup_ne (by decide)]
      refine ⟨by rw [e3]; exact p1, fun i hi => ?_⟩
      rw [qup_ne (by omega), qup_ne (by omega), ep]
      exact p2 i hi
  · obtain ⟨M4, k1, k2, k3, k4, k5, ⟨k6, k7, k8⟩, k9, k10⟩ := kr_cutOff (n := n) (s := s) (d := d + 4) (M := zup M2 r 6 (qnx (A 9))) (dd := dd) hrl (show o < 5 by omega) hy (show p < 5 by omega) (by rw [e3]; exact f3) (by rw [e4]; exact h8) (by rw [e5]; exact hdd) (by omega)
    have hrow4 : ∀ a, a ≠ 284 → a ≠ 285 → (a < r ∨ r + 3 < a) → M4 a = M a := fun a a1 a2 a3 => by rw [k2 a a3]; exact hrow3 a a1 a2 a3
    have eX : qst w fl o y (A, c) = (qkp fl (qup (qup (qup A 9 (qnx (A 9))) (11 + 24 * o + y) 2) 8 (qcut (A 8 + 1) 0 9999)) (qpu A p o y), c + 1) := by
      unfold qst
      show (if (A 9).tmod 10 < qLaw w (qEn A o y (A (11 + 24 * o + y) - 3).toNat) 2 (A (136 + y)) then _ else _) = _
      rw [hpn, if_neg hpay]
    have x10 : qup (qup (qup A 9 (qnx (A 9))) (11 + 24 * o + y) 2) 8 (qcut (A 8 + 1) 0 9999) 10 = A 10 := by rw [qup_ne (by decide), qup_ne (by omega), qup_ne (by decide)]
    have xk : ∀ k, k ≠ 10 → k < 4850 → (qst w fl o y (A, c)).1 k = qup (qup (qup A 9 (qnx (A 9))) (11 + 24 * o + y) 2) 8 (qcut (A 8 + 1) 0 9999) k := fun k a b => by
      rw [eX]
      exact qkp_k a b (by rw [x10]; exact h10.1)
    rw [if_neg hpay, k1]
    simp only [zbV]
    rw [qw1 (show y < 100000 by omega), qw1 hc]
    refine ⟨_, _, _, by rw [eX], ⟨hTw _ hrow4, hKs.1.2.2, ?_, ?_, ?_, fun hfl => ?_⟩, hrow4⟩
    · have := qRg_cut (o := o) (y := y) hy k3 k4 k5 (by simp) (show o < 5 by omega) g3
      refine qRg_cong (fun o' y' h1 h2 => ?_) this
      have e0 : (qst w fl o y (A, c)).1 0 = A 0 := by rw [xk 0 (by decide) (by decide), qup_ne (by decide), qup_ne (by omega), qup_ne (by decide)]
      have er := xk (11 + 24 * o' + y') (by omega) (by omega)
      have h2' := hput 2 o' y' h1 h2
      unfold qg at h2' ⊢
      rw [e0, er, qup_ne (by omega)]
      rw [qup_ne (show 0 ≠ 11 + 24 * o + y by omega), qup_ne (show 0 ≠ 9 by decide)] at h2'
      rw [h2']
      by_cases h : o' = o ∧ y' = y
      · rw [if_pos h, if_pos h]
      · rw [if_neg h, if_neg h, if_neg h]
    · rw [xk 8 (by decide) (by decide), xk 7 (by decide) (by decide), xk 9 (by decide) (by decide), qup_at, qup_ne (show 7 ≠ 8 by decide), qup_ne (show 7 ≠ 11 + 24 * o + y by omega), qup_ne (show 7 ≠ 9 by decide), qup_ne (show 9 ≠ 8 by decide), qup_ne (show 9 ≠ 11 + 24 * o + y by omega), qup_at]
      exact ⟨by rw [k6, e4], by rw [k7, e5], by rw [k8, e6]⟩
    · rw [e3] at k9 k10
      by_cases h30 : M r 3 = 30
      · rw [(k9 h30).1]; decide
      · rw [(k10 (by omega)).1]; omega
    · obtain ⟨p1, p2⟩ := fp hfl
      rw [eX, hfl]
      show _ = qkp true _ _ 10 ∧ ∀ i : Nat, (i : Int) < qkp true _ _ 10 → qPg _ (qkp true _ _ (4850 + i))
      unfold qkp
      rw [if_pos rfl]
      have hnew : qPg ((((dd * 8 + p) * 8 + o) * 32 + y : Nat) : Int) (qpu A p o y) := ⟨dd, p, o, y, by omega, by omega, by omega, hy, rfl, by unfold qpu; rw [hdd]; omega⟩
      have hold : ∀ i, qup (qup (qup A 9 (qnx (A 9))) (11 + 24 * o + y) 2) 8 (qcut (A 8 + 1) 0 9999) (4850 + i) = A (4850 + i) := fun i => by rw [qup_ne (by omega), qup_ne (by omega), qup_ne (by omega)]
      rw [e3] at k9 k10
      by_cases h30 : A 10 = 30
      · obtain ⟨q1, q2, q3⟩ := k9 (by rw [p1]; exact h30)
        unfold qbw
        rw [x10, if_pos h30]
        have z10 : (if 4850 ≤ 10 ∧ 10 < 4879 then qup (qup (qup A 9 (qnx (A 9))) (11 + 24 * o + y) 2) 8 (qcut (A 8 + 1) 0 9999) (10 + 1) else if 10 = 4879 then qpu A p o y else qup (qup (qup A 9 (qnx (A 9))) (11 + 24 * o + y) 2) 8 (qcut (A 8 + 1) 0 9999) 10) = (30 : Int) := by
          rw [if_neg (by decide), if_neg (by decide), x10, h30]
        simp only [z10]
        refine ⟨q1, fun i hi => ?_⟩
        by_cases hi29 : i < 29
        · rw [if_pos (by omega), q2 i hi29, ep, show 4850 + i + 1 = 4850 + (i + 1) by omega, hold]
          exact p2 (i + 1) (by omega)
        · have : i = 29 := by omega
          subst this
          rw [if_neg (by omega), if_pos rfl, q3]
          exact hnew
      · obtain ⟨q1, q2, q3⟩ := k10 (by rw [p1]; omega)
        unfold qbw
        rw [x10, if_neg h30, qup_at]
        obtain ⟨z, hz⟩ := Int.eq_ofNat_of_zero_le h10.1
        rw [p1, hz, Int.toNat_natCast] at q2
        rw [p1] at q1 q3
        refine ⟨q1, fun i hi => ?_⟩
        rw [hz, Int.toNat_natCast, qup_ne (by omega)]
        by_cases hiz : i = z
        · subst hiz
          rw [qup_at, q2]
          exact hnew
        · rw [qup_ne (by omega), hold, q3 i (by omega), ep]
          exact p2 i (by omega)
/-- one OAK at MIDSUMMER -/
theorem kx_mid2 (hF : qFx S R) (hS : qSt M) (hr : r = 21 ∨ r = 291) (hrl : qLR S R r) {c : Nat} (hq : qTn S R M (qVr R A) w) (hC : qCr fl M r A) {o : Nat} (ho : (o : Int) < A 0) (hc : c < 90000) (g6 g7 : zV) :
    ∃ M' g6' g7', zR zPP (d + 6) 37 15 [zA 9, zA r, zI c, zI o, zI (zsn (fun y => decide (3 ≤ qg A o y) && decide (qg A o y < 8)) 24 : Nat), zI 0, g6, g7] [] (n, s, S, R, M) = zR zPP (d + 6) 37 15 [zA 9, zA r, zI ((qsy w fl o 24 (A, c)).2 : Nat), zI o, zI (zsn (fun y => decide (3 ≤ qg A o y) && decide (qg A o y < 8)) 24 : Nat), zI ((24 : Nat) : Int), g6', g7'] [] (n, s, S, R, M') ∧ qCr fl M' r (qsy w fl o 24 (A, c)).1 ∧ ∀ a, a ≠ 284 → a ≠ 285 → (a < r ∨ r + 3 < a) → M' a = M a := by
  have hA := hC.2.1
  have hA5 := hA.1.2
  have hp5 := hA.2.1.2
  have L := qlpI (E := fun y (x : (Nat → Nat → Int) × zV × zV) => qCr fl x.1 r (qsy w fl o y (A, c)).1 ∧ ∀ a, a ≠ 284 → a ≠ 285 → (a < r ∨ r + 3 < a) → x.1 a = M a)
    (P := fun y x => zR zPP (d + 6) 37 15 [zA 9, zA r, zI ((qsy w fl o y (A, c)).2 : Nat), zI o, zI (zsn (fun y => decide (3 ≤ qg A o y) && decide (qg A o y < 8)) 24 : Nat), zI (y : Nat), x.2.1, x.2.2] [] (n, s, S, R, x.1)) (N := 24) (fun y x hy hx => by
      obtain ⟨M1, h6, h7⟩ := x
      obtain ⟨e1, e2⟩ := hx
      have e1 : qCr fl M1 r (qsy w fl o y (A, c)).1 := e1
      have e2 : ∀ a, a ≠ 284 → a ≠ 285 → (a < r ∨ r + 3 < a) → M1 a = M a := e2
      obtain ⟨t1, t2, t3, t4⟩ := qsy_Ks (w := w) (fl := fl) (o := o) (X := (A, c)) hA ho y (by omega)
      have t1 : qKs A (qsy w fl o y (A, c)).1 := t1
      have t3 : (qsy w fl o y (A, c)).2 ≤ c + y := t3
      have t4 : (qsy w fl o y (A, c)).1 (11 + 24 * o + y) = A (11 + 24 * o + y) := t4 o y (by omega) hy (Or.inr (Nat.le_refl y))
      have k0 : (qsy w fl o y (A, c)).1 0 = A 0 := t1.1 0 (by decide) (by decide) (by decide) (by decide) (by decide) (by decide)
      have k3 : (qsy w fl o y (A, c)).1 3 = A 3 := t1.1 3 (by decide) (by decide) (by decide) (by decide) (by decide) (by decide)
      have hb := hA.2.2.2.2.2.2.2.2.2.2.2.1 o y (by omega) hy
      by_cases h : 3 ≤ A (11 + 24 * o + y)
      · obtain ⟨M2, i6, i7, m1, m2, m3⟩ := kx_mid1 (n := n) (s := s) (d := d) (M := M1) (A := (qsy w fl o y (A, c)).1) (c := (qsy w fl o y (A, c)).2) (fl := fl) (w := w) (o := o) (y := y) (L := fun y => decide (3 ≤ qg A o y) && decide (qg A o y < 8)) hF (qSt_x (fun a ha => e2 a (by omega) (by omega) (by omega)) hS) hr hrl (by rw [qVr_e k3]; exact qTn_x (fun a ha => e2 a (by omega) (by omega) (by omega)) hq) e1 (by rw [k0]; exact ho) hy (by rw [t4]; exact h) (by
          show (decide (3 ≤ qg A o y) && decide (qg A o y < 8)) = true
          rw [qg_in ho, decide_eq_true h, decide_eq_true (by omega)]; rfl) (by omega) h6 h7
        have es : qsy w fl o (y + 1) (A, c) = qst w fl o y ((qsy w fl o y (A, c)).1, (qsy w fl o y (A, c)).2) := by
          rw [qsy_s, if_pos (by rw [t4]; exact h)]
        refine ⟨(M2, i6, i7), ⟨?_, fun a a1 a2 a3 => ?_⟩, ?_⟩
        · show qCr fl M2 r _
          rw [es]; exact m2
        · show M2 a = _
          rw [m3 a a1 a2 a3]; exact e2 a a1 a2 a3
        · show zR _ _ _ _ _ _ _ = zR _ _ _ _ _ _ _
          rw [es]; exact m1
      · have es : qsy w fl o (y + 1) (A, c) = qsy w fl o y (A, c) := by
          rw [qsy_s, if_neg (by rw [t4]; exact h)]
        refine ⟨(M1, h6, h7), ⟨by rw [es]; exact e1, e2⟩, ?_⟩
        show zR _ _ _ _ _ _ _ = zR _ _ _ _ _ _ _
        rw [es, e_X_midsummer_15, if_pos (show (y : Int) < 24 by omega), zsn_bit24 _ hy, if_neg (show ¬ ((decide (3 ≤ qg A o y) && decide (qg A o y < 8)) = true) by rw [qg_in ho, decide_eq_false h, Bool.false_and]; decide), if_pos rfl, qw1 (show y < 100000 by omega)]) (M, g6, g7) ⟨hC, fun _ _ _ _ => rfl⟩
  obtain ⟨⟨M1, h6, h7⟩, ⟨e1, e2⟩, L⟩ := L
  exact ⟨M1, h6, h7, L, e1, e2⟩
theorem kx_midsummer (hF : qFx S R) (hS : qSt M) (hr : r = 21 ∨ r = 291) (hrl : qLR S R r) (hq : qTn S R M (qVr R A) w) (hC : qCr fl M r A) :
    ∃ M', zcal zPP (d + 7) 37 [zA 9, zA r] (n, s, S, R, M) = some (zI ((qso w fl (A 0).toNat (A, 0)).2 : Nat), (n, s, S, R, M')) ∧ qCr fl M' r (qso w fl (A 0).toNat (A, 0)).1 ∧ ∀ a, a ≠ 284 → a ≠ 285 → (a < r ∨ r + 3 < a) → M' a = M a := by
  have hA := hC.2.1
  have hA5 := hA.1.2
  obtain ⟨N, hN⟩ := Int.eq_ofNat_of_zero_le hA.1.1
  rw [hN, Int.toNat_natCast]
  have L := qlpI (E := fun o (x : (Nat → Nat → Int) × zV × zV × zV × zV) => qCr fl x.1 r (qso w fl o (A, 0)).1 ∧ ∀ a, a ≠ 284 → a ≠ 285 → (a < r ∨ r + 3 < a) → x.1 a = M a)
    (P := fun o x => zR zPP (d + 6) 37 4 [zA 9, zA r, zI ((qso w fl o (A, 0)).2 : Nat), zI (o : Nat), x.2.1, x.2.2.1, x.2.2.2.1, x.2.2.2.2] [] (n, s, S, R, x.1)) (N := N) (fun o x ho hx => by
      obtain ⟨M1, h4, h5, h6, h7⟩ := x
      obtain ⟨e1, e2⟩ := hx
      have e1 : qCr fl M1 r (qso w fl o (A, 0)).1 := e1
      have e2 : ∀ a, a ≠ 284 → a ≠ 285 → (a < r ∨ r + 3 < a) → M1 a = M a := e2
      obtain ⟨t1, t2, t3⟩ := qso_Ks (w := w) (fl := fl) (X := (A, 0)) hA o (by show _ ≤ A 0; omega)
      have t1 : qKs A (qso w fl o (A, 0)).1 := t1
      have t3 : (qso w fl o (A, 0)).2 ≤ 0 + 24 * o := t3
      have k0 : (qso w fl o (A, 0)).1 0 = A 0 := t1.1 0 (by decide) (by decide) (by decide) (by decide) (by decide) (by decide)
      have k3 : (qso w fl o (A, 0)).1 3 = A 3 := t1.1 3 (by decide) (by decide) (by decide) (by decide) (by decide) (by decide)
      have hl := k_lentOf (n := n) (s := s) (d := d + 4) (M := M1) hrl e1.2.2.1 (show o < 5 by omega)
      obtain ⟨M2, i6, i7, m1, m2, m3⟩ := kx_mid2 (n := n) (s := s) (d := d) (M := M1) (A := (qso w fl o (A, 0)).1) (c := (qso w fl o (A, 0)).2) (fl := fl) (w := w) (o := o) hF (qSt_x (fun a ha => e2 a (by omega) (by omega) (by omega)) hS) hr hrl (by rw [qVr_e k3]; exact qTn_x (fun a ha => e2 a (by omega) (by omega) (by omega)) hq) e1 (by rw [k0]; omega) (by omega) h6 h7
      have h12 : M1 10 12 = A 0 := by rw [← k0]; exact e1.1.1.1
      refine ⟨(M2, zI (zsn (fun y => decide (3 ≤ qg (qso w fl o (A, 0)).1 o y) && decide (qg (qso w fl o (A, 0)).1 o y < 8)) 24 : Nat), zI ((24 : Nat) : Int), i6, i7), ⟨m2, fun a a1 a2 a3 => ?_⟩, ?_⟩
      · show M2 a = _
        rw [m3 a a1 a2 a3]; exact e2 a a1 a2 a3
      · show zR _ _ _ _ _ _ _ = zR _ _ _ _ _ _ _
        rw [e_X_midsummer_4]
        simp only [qff hF, if_true, h12]
        rw [if_pos (by omega), hl]
        simp only [zbI]
        rw [m1, e_X_midsummer_15, if_neg (by decide), qw1 (show o < 100000 by omega)]
        rfl) (M, zU, zU, zU, zU) ⟨hC, fun _ _ _ _ => rfl⟩
  obtain ⟨⟨M1, h4, h5, h6, h7⟩, ⟨e1, e2⟩, L⟩ := L
  have e1 : qCr fl M1 r (qso w fl N (A, 0)).1 := e1
  have e2 : ∀ a, a ≠ 284 → a ≠ 285 → (a < r ∨ r + 3 < a) → M1 a = M a := e2
  have t1 : qKs A (qso w fl N (A, 0)).1 := (qso_Ks (w := w) (fl := fl) (X := (A, 0)) hA N (by show _ ≤ A 0; omega)).1
  have k0 : (qso w fl N (A, 0)).1 0 = A 0 := t1.1 0 (by decide) (by decide) (by decide) (by decide) (by decide) (by decide)
  have h12 : M1 10 12 = A 0 := by rw [← k0]; exact e1.1.1.1
  refine ⟨M1, ?_, e1, e2⟩
  rw [c_X_midsummer]
  simp only [qff hF, if_true]
  refine Eq.trans L ?_
  show zR _ _ _ _ _ _ _ = _
  rw [e_X_midsummer_4]
  simp only [qff hF, if_true, h12]
  rw [if_neg (by omega)]
end QF
