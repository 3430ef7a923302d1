/-! WINTERS: the call -/
section QF
variable {S : Nat → Nat × Nat} {R : Nat → Nat → Nat} {M M' M0 M1 : Nat → Nat → Int} {n s d r : Nat} {A : Nat → Int} {W : Nat → qWt} {w0 w : qWt} {fl : Bool}
theorem qTo_9 (ht : qTo M 10 A) {v : Int} (hv : 0 ≤ v ∧ v < 30689) : qTo (zup M 21 6 v) 10 (qup A 9 v) := by
  have hd := qKs_9 ht.2.2.2 hv
  obtain ⟨c1, c2, c3, ⟨c4, c5, c6⟩, c7, c8⟩ := qCr_of ht
  refine qTo_of hd ⟨qTw_Ks hd (qTw_x (fun a x y => zup_rw (by omega)) c1), hd.2.2, ?_, ⟨?_, ?_, ?_⟩, ?_, fun h => ?_⟩ (fun a x y => zup_rw (by omega)) ht
  · exact qRg_cong (fun o y _ _ => qg_9) (qRg_x (by rw [zup_rw (by omega)]) (by rw [zup_rw (by omega)]) c3)
  · rw [zup_ne (by decide), qup_ne (by decide)]; exact c4
  · rw [zup_ne (by decide), qup_ne (by decide)]; exact c5
  · rw [zup_at, qup_at]
  · rw [zup_ne (by decide)]; exact c7
  · obtain ⟨p1, p2⟩ := c8 h
    refine ⟨by rw [zup_ne (by decide), qup_ne (by decide)]; exact p1, fun i hi => ?_⟩
    rw [qup_ne (by decide)] at hi
    rw [zup_rw (by omega), qup_ne (by omega)]
    exact p2 i hi
theorem kx_drawn (hr1 : S r = (5, 7)) {x : Int} (h6 : M r 6 = x) (hx : 0 ≤ x ∧ x < 30689) : zcal zPP (d + 1) 143 [zA r] (n, s, S, R, M) = some (zI x, (n, s, S, R, zup M r 6 (qnx x))) := by
  have hz : zw32 (zw32 (x * 499) + 383) = x * 499 + 383 := by unfold zw32; omega
  rw [c_Rings_drawn]
  simp only [hr1, if_true, h6, hz]
  rw [if_neg (by decide)]
  rfl
theorem kx_ahead (hF : qFx S R) {x : Int} (h5 : M 21 5 = x) (hx : 0 ≤ x ∧ x ≤ 9999) : zcal zPP (d + 1) 35 [zA 21] (n, s, S, R, M) = some (zI (9999 - x), (n, s, S, R, M)) := by
  have hz : zw32 (9999 - x) = 9999 - x := qz (by omega) (by omega)
  rw [c_X_daysAhead]
  simp (disch := omega) only [h5, hz, qff hF, qltT, qltF, qleT, qleF, qeqT, qeqF, Int.reduceEq, Int.reduceNe, Int.reduceLT, Int.reduceLE, Int.reduceToNat, Int.reduceAdd, Int.reduceSub, Int.reduceMul, Int.reduceNeg, Nat.reduceAdd, Nat.reduceMul, Nat.reduceEqDiff, Nat.reduceLT, Int.cast_ofNat_Int, Int.lt_irrefl, Bool.false_eq_true, ↓reduceIte, ↓reduceDIte, zbI, zbL, zbA, zbV, qrg, qrg2, qnn, qz, zup_at, zup_r, zup_ne, true_and, and_true, true_or, or_true, and_self, or_self, false_or, or_false, false_and, and_false, Int.toNat_natCast, Int.toNat_add, Int.toNat_mul, Int.toNat_zero, Int.toNat_one, qtn, Int.natCast_add, qnat1, qnat0, ne_eq, not_true_eq_false, not_false_eq_true, eq_self, qbool]
/-- one draw, the class -/
theorem kx_winter1 (hF : qFx S R) (hS : qSt M) (hq : qTn S R M (qVr R A) w) (ht : qTo M 10 A) {N i : Nat} (hi : i < N) (hN : N < 1000) (sd : Int) (g : zV) :
    ∃ M' g', zR zPP (d + 8) 39 31 [zA 9, zI sd, zI N, zA 21, zI i, g] [] (n, s, S, R, M) = zR zPP (d + 8) 39 31 [zA 9, zI sd, zI N, zA 21, zI ((i + 1 : Nat) : Int), g'] [] (n, s, S, R, M') ∧ qTo M' 10 (qwn w (A 9).toNat (qup A 9 (qnx (A 9)))) ∧ qXt M M' := by
  have hI := ht.2.2.2
  have h7 := hI.2.2.2.2.2.2.2.1
  have h9 := hI.2.2.2.2.2.2.2.2.2.1
  obtain ⟨x, hx⟩ := Int.eq_ofNat_of_zero_le h9.1
  have e6 : M 21 6 = A 9 := ht.2.1.2.1.2.2.2
  have hrl : qLR S R 21 := hF.1.2.1.1.2.2.1
  have hdr := kx_drawn (n := n) (s := s) (R := R) (d := d + 7) (M := M) hrl.1 e6 h9
  have ht1 := qTo_9 ht (qnx_in h9.1)
  rw [hx, Int.toNat_natCast]
  rw [hx] at e6 hdr ht1
  have hrow1 : ∀ a, a ≠ 21 → zup M 21 6 (qnx (x : Int)) a = M a := fun a h => zup_rw h
  have hS1 : qSt (zup M 21 6 (qnx (x : Int))) := qSt_x (fun a ha => hrow1 a (by omega)) hS
  have hq1 : qTn S R (zup M 21 6 (qnx (x : Int))) (qVr R (qup A 9 (qnx (x : Int)))) w := by
    rw [qVr_e (qup_ne (by decide))]
    exact qTn_x (fun a ha => hrow1 a (by omega)) hq
  have hX1 : qXt M (zup M 21 6 (qnx (x : Int))) := fun a a1 a2 a3 => hrow1 a (by omega)
  generalize hA1 : qup A 9 (qnx (x : Int)) = A1 at *
  generalize zup M 21 6 (qnx (x : Int)) = M1 at *
  have t6 : ((x : Nat) : Int).tmod 6 = ((x % 6 : Nat) : Int) := rfl
  unfold qwn
  by_cases h5 : x % 6 = 5
  · rw [if_pos h5]
    have a7 : A1 7 = A 7 := by rw [← hA1]; exact qup_ne (by decide)
    have e5 : M1 21 5 = A1 7 := ht1.2.1.2.1.2.2.1
    have hah := kx_ahead (n := n) (s := s) (d := d + 7) (M := M1) hF e5 (by rw [a7]; exact h7)
    by_cases h30 : 9999 < A1 7 + 30
    · rw [if_pos h30]
      refine ⟨M1, zI x, ?_, ht1, hX1⟩
      rw [e_X_winters_31, if_pos (by omega)]
      simp (disch := omega) only [hdr, e6, t6, hah, qw1 (k := i) (by omega), qff hF, qltT, qltF, qleT, qleF, qeqT, qeqF, Int.reduceEq, Int.reduceNe, Int.reduceLT, Int.reduceLE, Int.reduceToNat, Int.reduceAdd, Int.reduceSub, Int.reduceMul, Int.reduceNeg, Nat.reduceAdd, Nat.reduceMul, Nat.reduceEqDiff, Nat.reduceLT, Int.cast_ofNat_Int, Int.lt_irrefl, Bool.false_eq_true, ↓reduceIte, ↓reduceDIte, zbI, zbL, zbA, zbV, qrg, qrg2, qnn, qz, zup_at, zup_r, zup_ne, true_and, and_true, true_or, or_true, and_self, or_self, false_or, or_false, false_and, and_false, Int.toNat_natCast, Int.toNat_add, Int.toNat_mul, Int.toNat_zero, Int.toNat_one, qtn, Int.natCast_add, qnat1, qnat0, ne_eq, not_true_eq_false, not_false_eq_true, eq_self, qbool]
    · rw [if_neg h30]
      obtain ⟨M2, y1, y2, y3⟩ := kx_daysPass0 (n := n) (s := s) (d := d) (M := M1) (fl := true) (N := 30) hF hS1 (Or.inl rfl) hrl hq1 (qCr_of ht1) (by omega) (by decide)
      have y1' : zcal zPP (d + 8) 36 [zA 9, zA 21, zI 30, zI 0] (n, s, S, R, M1) = some (zI ((qdn w true 30 (A1, 0)).2 : Nat), (n, s, S, R, M2)) := y1
      have hK := qdn_Ks (w := w) (fl := true) (X := (A1, 0)) ht1.2.2.2 30 (by show A1 7 + _ ≤ _; omega)
      refine ⟨M2, zI x, ?_, qTo_of hK.1 y2 (fun a a1 a2 => y3 a (by omega) (by omega) (by omega)) ht1, qXt_t hX1 (fun a a1 a2 a3 => y3 a a2 a3 (by omega))⟩
      rw [e_X_winters_31, if_pos (by omega)]
      simp (disch := omega) only [hdr, e6, t6, hah, y1', qw1 (k := i) (by omega), qff hF, qltT, qltF, qleT, qleF, qeqT, qeqF, Int.reduceEq, Int.reduceNe, Int.reduceLT, Int.reduceLE, Int.reduceToNat, Int.reduceAdd, Int.reduceSub, Int.reduceMul, Int.reduceNeg, Nat.reduceAdd, Nat.reduceMul, Nat.reduceEqDiff, Nat.reduceLT, Int.cast_ofNat_Int, Int.lt_irrefl, Bool.false_eq_true, ↓reduceIte, ↓reduceDIte, zbI, zbL, zbA, zbV, qrg, qrg2, qnn, qz, zup_at, zup_r, zup_ne, true_and, and_true, true_or, or_true, and_self, or_self, false_or, or_false, false_and, and_false, Int.toNat_natCast, Int.toNat_add, Int.toNat_mul, Int.toNat_zero, Int.toNat_one, qtn, Int.natCast_add, qnat1, qnat0, ne_eq, not_true_eq_false, not_false_eq_true, eq_self, qbool]
  · rw [if_neg h5]
    obtain ⟨M2, y1, y2, y3⟩ := kx_winterRing (n := n) (s := s) (d := d) (M := M1) hF hS1 hq1 ht1 (x := x) (by omega) h5
    refine ⟨M2, zI x, ?_, y2, qXt_t hX1 y3⟩
    rw [e_X_winters_31, if_pos (by omega)]
    simp (disch := omega) only [hdr, e6, t6, y1, qw1 (k := i) (by omega), qff hF, qltT, qltF, qleT, qleF, qeqT, qeqF, Int.reduceEq, Int.reduceNe, Int.reduceLT, Int.reduceLE, Int.reduceToNat, Int.reduceAdd, Int.reduceSub, Int.reduceMul, Int.reduceNeg, Nat.reduceAdd, Nat.reduceMul, Nat.reduceEqDiff, Nat.reduceLT, Int.cast_ofNat_Int, Int.lt_irrefl, Bool.false_eq_true, ↓reduceIte, ↓reduceDIte, zbI, zbL, zbA, zbV, qrg, qrg2, qnn, qz, zup_at, zup_r, zup_ne, true_and, and_true, true_or, or_true, and_self, or_self, false_or, or_false, false_and, and_false, Int.toNat_natCast, Int.toNat_add, Int.toNat_mul, Int.toNat_zero, Int.toNat_one, qtn, Int.natCast_add, qnat1, qnat0, ne_eq, not_true_eq_false, not_false_eq_true, eq_self, qbool]
/-- one draw, the model -/
theorem km_winter1 (hF : qFx S R) (hA : qIn (M 306)) (ht : qTN (M 308) (M 306 3) w) (hfl : M 305 23 = 1) {N i : Nat} (hi : i < N) (hN : N < 1000) (sd : Int) (g : zV) :
    ∃ M' g', zR zPP (d + 11) 265 25 [zA 305, zI sd, zI N, zI i, g] [] (n, s, S, R, M) = zR zPP (d + 11) 265 25 [zA 305, zI sd, zI N, zI ((i + 1 : Nat) : Int), g'] [] (n, s, S, R, M') ∧ M' 306 = qwn w (M 306 9).toNat (qup (M 306) 9 (qnx (M 306 9))) ∧ qX5 M M' := by
  have h9 := hA.2.2.2.2.2.2.2.2.2.1
  obtain ⟨x, hx⟩ := Int.eq_ofNat_of_zero_le h9.1
  have han := km_anew (n := n) (s := s) (d := d + 10) (M := M) hF h9
  rw [hx, Int.toNat_natCast]
  rw [hx] at han
  have e1 : zup M 306 9 (qnx (x : Int)) 306 = qup (M 306) 9 (qnx (x : Int)) := qup_zup _ _ _ _
  have hK := qKs_9 hA (qnx_in (x := (x : Int)) (by omega))
  obtain ⟨M2, y1, y2, y3⟩ := km_happens (n := n) (s := s) (d := d) (M := zup M 306 9 (qnx (x : Int))) (w := w) hF (by rw [e1]; exact hK.2.2) (by rw [zup_rw (show (308 : Nat) ≠ 306 by decide), zup_ne (by decide)]; exact ht) (by rw [zup_rw (by decide)]; exact hfl) (x := x) (by omega)
  rw [e1] at y2
  refine ⟨M2, zI x, ?_, y2, qX5_t ⟨fun a _ h _ _ _ => zup_rw h, fun k _ => by rw [zup_rw (by decide)]⟩ y3⟩
  rw [e_M_winters_25, if_pos (by omega)]
  simp (disch := omega) only [hx, han, y1, qw1 (k := i) (by omega), qff hF, qltT, qltF, qleT, qleF, qeqT, qeqF, Int.reduceEq, Int.reduceNe, Int.reduceLT, Int.reduceLE, Int.reduceToNat, Int.reduceAdd, Int.reduceSub, Int.reduceMul, Int.reduceNeg, Nat.reduceAdd, Nat.reduceMul, Nat.reduceEqDiff, Nat.reduceLT, Int.cast_ofNat_Int, Int.lt_irrefl, Bool.false_eq_true, ↓reduceIte, ↓reduceDIte, zbI, zbL, zbA, zbV, qrg, qrg2, qnn, qz, zup_at, zup_r, zup_ne, true_and, and_true, true_or, or_true, and_self, or_self, false_or, or_false, false_and, and_false, Int.toNat_natCast, Int.toNat_add, Int.toNat_mul, Int.toNat_zero, Int.toNat_one, qtn, Int.natCast_add, qnat1, qnat0, ne_eq, not_true_eq_false, not_false_eq_true, eq_self, qbool]
theorem qb_winters (hw : qWd n S R M W) (v u : Int) : qBo 39 265 [zI v, zI u] n s S R M := by
  have hF := hw.1.2.1
  have hA := hw.2.1.2.2.2
  by_cases h1 : (0 ≤ v ∧ v ≤ 9999) ∧ 1 ≤ u ∧ u ≤ 40
  · obtain ⟨N, rfl⟩ := Int.eq_ofNat_of_zero_le (show 0 ≤ u by omega)
    obtain ⟨f, z, hf, hz, hz4, hf30, hz30⟩ := qWd_fz hw
    obtain ⟨M1, p1, p2⟩ := kx_push (n := n) (s := s) (d := 97) (M := M) hF hf hz hf30 hz30
    have ht1 := qTo_push hf hz4 hz30 p2 (qkeep_K hz4 hz30) hw.2.1
    have hv2 : zw32 (v * 2) = v * 2 := qz (by omega) (by omega)
    have hv3 : zw32 (v * 2 + 257) = v * 2 + 257 := qz (by omega) (by omega)
    have ht2 := qTo_9 ht1 (v := v * 2 + 257) (by omega)
    have hrow2 : ∀ a, a ≠ 21 → zup M1 21 6 (v * 2 + 257) a = M1 a := fun a h => zup_rw h
    have hI0 := ht2.2.2.2
    have hb3 : qup (qkeep (M 306)) 9 (v * 2 + 257) 3 = M 306 3 := by rw [qup_ne (by decide), qkeep_k (by decide) (by decide)]
    have hS2 : qSt (zup M1 21 6 (v * 2 + 257)) := qSt_x (fun a ha => by rw [hrow2 a (by omega), qPu_rw p2 (by omega)]) hw.1.2.2
    have hq2 : qTn S R (zup M1 21 6 (v * 2 + 257)) (qVr R (qup (qkeep (M 306)) 9 (v * 2 + 257))) (qWr W (M 306 3)) := by
      rw [qVr_e hb3]
      exact qTn_x (fun a ha => by rw [hrow2 a (by omega), qPu_rw p2 (by omega)]) (qTn_wd hw)
    have hX2 : qXt M (zup M1 21 6 (v * 2 + 257)) := fun a a1 a2 a3 => by rw [hrow2 a (by omega), qPu_rw p2 (by omega)]
    generalize hB : qup (qkeep (M 306)) 9 (v * 2 + 257) = B at *
    generalize hM2 : zup M1 21 6 (v * 2 + 257) = M2 at *
    have L := qlpI (E := fun i (x : (Nat → Nat → Int) × zV) => qTo x.1 10 (qws (qWr W (M 306 3)) i B) ∧ qXt M2 x.1)
      (P := fun i x => zR zPP 99 39 31 [zA 9, zI v, zI N, zA 21, zI (i : Nat), x.2] [] (n, s, S, R, x.1)) (N := N) (fun i x hi hx => by
        obtain ⟨M3, g⟩ := x
        obtain ⟨e1, e2⟩ := hx
        have e1 : qTo M3 10 (qws (qWr W (M 306 3)) i B) := e1
        have e2 : qXt M2 M3 := e2
        have hK := qws_Ks (w := qWr W (M 306 3)) hI0 i
        have k3 : qws (qWr W (M 306 3)) i B 3 = B 3 := hK.1 3 (by decide) (by decide) (by decide) (by decide) (by decide) (by decide)
        obtain ⟨M4, g', m1, m2, m3⟩ := kx_winter1 (n := n) (s := s) (d := 91) (M := M3) (w := qWr W (M 306 3)) hF (qSt_x (fun a ha => e2 a (by omega) (by omega) (by omega)) hS2) (by rw [qVr_e k3]; exact qTn_x (fun a ha => e2 a (by omega) (by omega) (by omega)) hq2) e1 hi (by omega) v g
        exact ⟨(M4, g'), ⟨m2, qXt_t e2 m3⟩, m1⟩) (M2, zU) ⟨ht2, fun _ _ _ _ => rfl⟩
    obtain ⟨⟨M3, g3⟩, ⟨x1, x2⟩, L⟩ := L
    have x1 : qTo M3 10 (qws (qWr W (M 306 3)) N B) := x1
    have x2 : qXt M2 M3 := x2
    have hK := qws_Ks (w := qWr W (M 306 3)) hI0 N
    have c5 : M3 21 5 = qws (qWr W (M 306 3)) N B 7 := x1.2.1.2.1.2.2.1
    have hX : zcal zPP 100 39 [zA 9, zI v, zI N] (n, s, S, R, M) = some (zI (qws (qWr W (M 306 3)) N B 7), (n, s, S, R, M3)) := by
      rw [c_X_winters]
      simp (disch := omega) only [p1, hv2, hv3, hM2, qff hF, qltT, qltF, qleT, qleF, qeqT, qeqF, Int.reduceEq, Int.reduceNe, Int.reduceLT, Int.reduceLE, Int.reduceToNat, Int.reduceAdd, Int.reduceSub, Int.reduceMul, Int.reduceNeg, Nat.reduceAdd, Nat.reduceMul, Nat.reduceEqDiff, Nat.reduceLT, Int.cast_ofNat_Int, Int.lt_irrefl, Bool.false_eq_true, ↓reduceIte, ↓reduceDIte, zbI, zbL, zbA, zbV, qrg, qrg2, qnn, qz, zup_at, zup_r, zup_ne, true_and, and_true, true_or, or_true, and_self, or_self, false_or, or_false, false_and, and_false, Int.toNat_natCast, Int.toNat_add, Int.toNat_mul, Int.toNat_zero, Int.toNat_one, qtn, Int.natCast_add, qnat1, qnat0, ne_eq, not_true_eq_false, not_false_eq_true, eq_self, qbool]
      refine Eq.trans L ?_
      show zR _ _ _ _ _ _ _ = _
      rw [e_X_winters_31, if_neg (by omega)]
      simp (disch := omega) only [c5, qff hF, qltT, qltF, qleT, qleF, qeqT, qeqF, Int.reduceEq, Int.reduceNe, Int.reduceLT, Int.reduceLE, Int.reduceToNat, Int.reduceAdd, Int.reduceSub, Int.reduceMul, Int.reduceNeg, Nat.reduceAdd, Nat.reduceMul, Nat.reduceEqDiff, Nat.reduceLT, Int.cast_ofNat_Int, Int.lt_irrefl, Bool.false_eq_true, ↓reduceIte, ↓reduceDIte, zbI, zbL, zbA, zbV, qrg, qrg2, qnn, qz, zup_at, zup_r, zup_ne, true_and, and_true, true_or, or_true, and_self, or_self, false_or, or_false, false_and, and_false, Int.toNat_natCast, Int.toNat_add, Int.toNat_mul, Int.toNat_zero, Int.toNat_one, qtn, Int.natCast_add, qnat1, qnat0, ne_eq, not_true_eq_false, not_false_eq_true, eq_self, qbool]
    have hX3 : qXt M M3 := qXt_t hX2 x2
    have e305 : M3 305 = M 305 := hX3 305 (by omega) (by decide) (by decide)
    have e306 : M3 306 = M 306 := hX3 306 (by omega) (by decide) (by decide)
    have e308 : M3 308 = M 308 := hX3 308 (by omega) (by decide) (by decide)
    obtain ⟨M4, k1, k2, k3⟩ := km_keepF (n := n) (s := s) (d := 98) (M := M3) hF (by rw [e306]; exact hA)
    rw [e306] at k3
    have e6 : zup M4 306 9 (v * 2 + 257) 306 = B := by rw [qup_zup, k3, hB]
    have X5 : qX5 M3 (zup M4 306 9 (v * 2 + 257)) := ⟨fun a _ h _ _ _ => by rw [zup_rw h, k2 a h], fun k _ => by rw [zup_rw (by decide), k2 305 (by decide)]⟩
    generalize hM5 : zup M4 306 9 (v * 2 + 257) = M5 at *
    have hfl5 : M5 305 23 = 1 := by rw [X5.2 23 (by decide), e305]; exact hw.2.2.2.2.2.2.1
    have ht5 : qTN (M5 308) (M 306 3) (qWr W (M 306 3)) := by
      rw [X5.1 308 (by decide) (by decide) (by decide) (by decide) (by decide), e308]
      exact wm_text hw hA.2.2.2.1
    have L2 := qlpI (E := fun i (x : (Nat → Nat → Int) × zV) => x.1 306 = qws (qWr W (M 306 3)) i B ∧ qX5 M5 x.1)
      (P := fun i x => zR zPP 99 265 25 [zA 305, zI v, zI N, zI (i : Nat), x.2] [] (n, s, S, R, x.1)) (N := N) (fun i x hi hx => by
        obtain ⟨M6, g⟩ := x
        obtain ⟨e1, e2⟩ := hx
        have e1 : M6 306 = qws (qWr W (M 306 3)) i B := e1
        have e2 : qX5 M5 M6 := e2
        have hK := qws_Ks (w := qWr W (M 306 3)) hI0 i
        have k3 : M6 306 3 = M 306 3 := by rw [e1, hK.1 3 (by decide) (by decide) (by decide) (by decide) (by decide) (by decide)]; exact hb3
        obtain ⟨M7, g', m1, m2, m3⟩ := km_winter1 (n := n) (s := s) (d := 88) (M := M6) (w := qWr W (M 306 3)) hF (by rw [e1]; exact hK.2.2) (by rw [k3, e2.1 308 (by decide) (by decide) (by decide) (by decide) (by decide)]; exact ht5) (by rw [e2.2 23 (by decide)]; exact hfl5) hi (by omega) v g
        rw [e1] at m2
        exact ⟨(M7, g'), ⟨m2, qX5_t e2 m3⟩, m1⟩) (M5, zU) ⟨e6, qX5_r M5⟩
    obtain ⟨⟨M6, g6⟩, ⟨y1, y2⟩, L2⟩ := L2
    have y1 : M6 306 = qws (qWr W (M 306 3)) N B := y1
    have y2 : qX5 M5 M6 := y2
    have hM : zcal zPP 100 265 [zA 305, zI v, zI N] (n, s, S, R, M3) = some (zI (qws (qWr W (M 306 3)) N B 7), (n, s, S, R, M6)) := by
      rw [c_M_winters]
      simp (disch := omega) only [k_isIn, h1, k1, hv2, hv3, hM5, qff hF, qltT, qltF, qleT, qleF, qeqT, qeqF, Int.reduceEq, Int.reduceNe, Int.reduceLT, Int.reduceLE, Int.reduceToNat, Int.reduceAdd, Int.reduceSub, Int.reduceMul, Int.reduceNeg, Nat.reduceAdd, Nat.reduceMul, Nat.reduceEqDiff, Nat.reduceLT, Int.cast_ofNat_Int, Int.lt_irrefl, Bool.false_eq_true, ↓reduceIte, ↓reduceDIte, zbI, zbL, zbA, zbV, qrg, qrg2, qnn, qz, zup_at, zup_r, zup_ne, true_and, and_true, true_or, or_true, and_self, or_self, false_or, or_false, false_and, and_false, Int.toNat_natCast, Int.toNat_add, Int.toNat_mul, Int.toNat_zero, Int.toNat_one, qtn, Int.natCast_add, qnat1, qnat0, ne_eq, not_true_eq_false, not_false_eq_true, eq_self, qbool]
      refine Eq.trans L2 ?_
      show zR _ _ _ _ _ _ _ = _
      rw [e_M_winters_25, if_neg (by omega)]
      simp (disch := omega) only [y1, qff hF, qltT, qltF, qleT, qleF, qeqT, qeqF, Int.reduceEq, Int.reduceNe, Int.reduceLT, Int.reduceLE, Int.reduceToNat, Int.reduceAdd, Int.reduceSub, Int.reduceMul, Int.reduceNeg, Nat.reduceAdd, Nat.reduceMul, Nat.reduceEqDiff, Nat.reduceLT, Int.cast_ofNat_Int, Int.lt_irrefl, Bool.false_eq_true, ↓reduceIte, ↓reduceDIte, zbI, zbL, zbA, zbV, qrg, qrg2, qnn, qz, zup_at, zup_r, zup_ne, true_and, and_true, true_or, or_true, and_self, or_self, false_or, or_false, false_and, and_false, Int.toNat_natCast, Int.toNat_add, Int.toNat_mul, Int.toNat_zero, Int.toNat_one, qtn, Int.natCast_add, qnat1, qnat0, ne_eq, not_true_eq_false, not_false_eq_true, eq_self, qbool]
    have y3 := qX5_t X5 y2
    have hrow : ∀ a, a < 10 ∨ 147 ≤ a → a ≠ 306 → a ≠ 305 → ¬ qY a → M6 a = M a := fun a a1 a2 a3 a4 => by
      unfold qY at a4
      rw [y3.1 a a3 a2 (by omega) (by omega) (by omega), hX3 a a1 (by omega) (by omega)]
    have h5k : ∀ k, k ≠ 24 → M6 305 k = M 305 k := fun k hk => by rw [y3.2 k hk, e305]
    refine qBo_rows (W := W) hX hM (qWd_to2 hw hrow ⟨h5k 4 (by decide), h5k 5 (by decide), h5k 6 (by decide), h5k 23 (by decide)⟩ ?_ ?_) (hrow 1 (by omega) (by decide) (by decide) (by unfold qY; omega))
    · rw [y1]
      exact qTo_x (fun a a1 a2 => y3.1 a (by omega) (by omega) (by omega) (by omega) (by omega)) x1
    · rw [y1, hK.1 2 (by decide) (by decide) (by decide) (by decide) (by decide) (by decide), ← hB, qup_ne (by decide), qkeep_k (by decide) (by decide)]
  · refine qBo_same hw (v := zI (-1)) ?_ ?_
    · rw [c_X_winters]
      simp only [qff hF, if_true]
      by_cases h2 : v < 0
      · rw [if_pos h2]
      · rw [if_neg h2]
        by_cases h3 : 9999 < v
        · rw [if_pos h3]
        · rw [if_neg h3]
          by_cases h4 : u < 1
          · rw [if_pos h4]
          · rw [if_neg h4, if_pos (by omega)]
    · rw [c_M_winters]
      by_cases h2 : 0 ≤ v ∧ v ≤ 9999
      · have h3 : ¬ (1 ≤ u ∧ u ≤ 40) := fun z => h1 ⟨h2, z⟩
        simp (disch := omega) only [k_isIn, h2, h3, qff hF, qltT, qltF, qleT, qleF, qeqT, qeqF, Int.reduceEq, Int.reduceNe, Int.reduceLT, Int.reduceLE, Int.reduceToNat, Int.reduceAdd, Int.reduceSub, Int.reduceMul, Int.reduceNeg, Nat.reduceAdd, Nat.reduceMul, Nat.reduceEqDiff, Nat.reduceLT, Int.cast_ofNat_Int, Int.lt_irrefl, Bool.false_eq_true, ↓reduceIte, ↓reduceDIte, zbI, zbL, zbA, zbV, qrg, qrg2, qnn, qz, zup_at, zup_r, zup_ne, true_and, and_true, true_or, or_true, and_self, or_self, false_or, or_false, false_and, and_false, Int.toNat_natCast, Int.toNat_add, Int.toNat_mul, Int.toNat_zero, Int.toNat_one, qtn, Int.natCast_add, qnat1, qnat0, ne_eq, not_true_eq_false, not_false_eq_true, eq_self, qbool]
      · simp (disch := omega) only [k_isIn, h2, qff hF, qltT, qltF, qleT, qleF, qeqT, qeqF, Int.reduceEq, Int.reduceNe, Int.reduceLT, Int.reduceLE, Int.reduceToNat, Int.reduceAdd, Int.reduceSub, Int.reduceMul, Int.reduceNeg, Nat.reduceAdd, Nat.reduceMul, Nat.reduceEqDiff, Nat.reduceLT, Int.cast_ofNat_Int, Int.lt_irrefl, Bool.false_eq_true, ↓reduceIte, ↓reduceDIte, zbI, zbL, zbA, zbV, qrg, qrg2, qnn, qz, zup_at, zup_r, zup_ne, true_and, and_true, true_or, or_true, and_self, or_self, false_or, or_false, false_and, and_false, Int.toNat_natCast, Int.toNat_add, Int.toNat_mul, Int.toNat_zero, Int.toNat_one, qtn, Int.natCast_add, qnat1, qnat0, ne_eq, not_true_eq_false, not_false_eq_true, eq_self, qbool]
end QF
