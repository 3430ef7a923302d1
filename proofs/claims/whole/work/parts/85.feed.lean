/-! feed: both sides -/
/-- a byte of a number, k bits from the right -/
def qby (x : Int) (k : Nat) : Int := zand (zushr x k) 255
theorem qby_bv (x : Int) {k : Nat} (hk : k ≤ 24) : zand (zshr x k) 255 = qby x k ∧ 0 ≤ qby x k ∧ qby x k < 256 := by
  have e1 : qby x k = (((Int32.ofInt x).toBitVec >>> k) &&& 255#32).toInt := by
    unfold qby zand zushr
    rw [Int32.ofInt_toInt]
    show ((((Int32.ofInt x).toUInt32 >>> ((Int32.ofInt (k : Int)).toUInt32 &&& 31)).toInt32 &&& Int32.ofInt 255)).toBitVec.toInt = _
    rw [Int32.toBitVec_and]
    show (((Int32.ofInt x).toUInt32 >>> ((Int32.ofInt (k : Int)).toUInt32 &&& 31)).toBitVec &&& 255#32).toInt = _
    rw [UInt32.toBitVec_shiftRight]
    have h1 : (((Int32.ofInt (k : Int)).toUInt32 &&& 31).toBitVec % 32).toNat = k := by
      have : ∀ k : Nat, k < 32 → (((Int32.ofInt (k : Int)).toUInt32 &&& 31).toBitVec % 32).toNat = k := by decide +kernel
      exact this k (by omega)
    rw [BitVec.ushiftRight_eq', h1]
    rfl
  have e2 : zand (zshr x k) 255 = ((BitVec.sshiftRight (Int32.ofInt x).toBitVec k) &&& 255#32).toInt := by
    unfold zand zshr
    rw [Int32.ofInt_toInt]
    show ((Int32.ofInt x >>> (Int32.ofInt k &&& 31)) &&& Int32.ofInt 255).toBitVec.toInt = _
    rw [Int32.toBitVec_and, Int32.toBitVec_shiftRight]
    have h1 : ((Int32.ofInt (k : Int) &&& 31).toBitVec.smod 32).toNat = k := by
      have : ∀ k : Nat, k < 32 → ((Int32.ofInt (k : Int) &&& 31).toBitVec.smod 32).toNat = k := by decide +kernel
      exact this k (by omega)
    show ((BitVec.sshiftRight _ ((Int32.ofInt (k : Int) &&& 31).toBitVec.smod 32).toNat) &&& 255#32).toInt = _
    rw [h1]
  have e3 : BitVec.sshiftRight (Int32.ofInt x).toBitVec k &&& 255#32 = ((Int32.ofInt x).toBitVec >>> k) &&& 255#32 := by
    apply BitVec.eq_of_getLsbD_eq
    intro i hi
    rw [BitVec.getLsbD_and, BitVec.getLsbD_and, BitVec.getLsbD_sshiftRight, BitVec.getLsbD_ushiftRight]
    by_cases h8 : i < 8
    · rw [if_pos (by omega)]
      rw [decide_eq_false (show ¬ 32 ≤ i by omega), Bool.not_false, Bool.true_and]
    · have h0 : (255#32).getLsbD i = false := by
        have : ∀ i, i < 32 → 8 ≤ i → (255#32).getLsbD i = false := by decide
        exact this i hi (by omega)
      rw [h0, Bool.and_false, Bool.and_false]
  have e4 : (((Int32.ofInt x).toBitVec >>> k) &&& 255#32).toNat < 256 := by
    rw [BitVec.toNat_and]
    exact Nat.lt_of_le_of_lt Nat.and_le_right (by decide)
  have e5 : (((Int32.ofInt x).toBitVec >>> k) &&& 255#32).toInt = ((((Int32.ofInt x).toBitVec >>> k) &&& 255#32).toNat : Int) := by
    rw [BitVec.toInt_eq_toNat_cond, if_pos (by omega)]
  refine ⟨by rw [e1, e2, e3], ?_, ?_⟩
  · rw [e1, e5]; omega
  · rw [e1, e5]; omega
/-- m bytes more on the tape a, counted at b c, from t on -/
def qFd (a b c : Nat) (M M' : Nat → Nat → Int) (t m : Nat) (f : Nat → Int) : Prop := (∀ q, q ≠ a → q ≠ b → M' q = M q) ∧ M' b c = ((t + m : Nat) : Int) ∧ (∀ k, k ≠ c → M' b k = M b k) ∧ (∀ j, j < t → M' a j = M a j) ∧ ∀ i, i < m → M' a (t + i) = f i
theorem qFd_s {a b c t m : Nat} {M M' : Nat → Nat → Int} {f : Nat → Int} {v : Int} (hab : a ≠ b) (h : qFd a b c M M' t m f) (hv : f m = v) : qFd a b c M (zup (zup M' a (t + m) v) b c (((t + m : Nat) : Int) + 1)) t (m + 1) f := by
  obtain ⟨h1, h2, h3, h4, h5⟩ := h
  refine ⟨fun q x y => ?_, ?_, fun k hk => ?_, fun j hj => ?_, fun i hi => ?_⟩
  · rw [zup_rw y, zup_rw x]; exact h1 q x y
  · rw [zup_at]; omega
  · rw [zup_ne hk, zup_rw (Ne.symm hab)]; exact h3 k hk
  · rw [zup_rw hab, zup_ne (by omega)]; exact h4 j hj
  · rw [zup_rw hab]
    by_cases e : i = m
    · rw [e, zup_at, hv]
    · rw [zup_ne (by omega)]; exact h5 i (by omega)
section QF
variable {S : Nat → Nat × Nat} {R : Nat → Nat → Nat} {M M' M0 M1 M2 M3 : Nat → Nat → Int} {n s d : Nat} {W : Nat → qWt}
theorem kx_byte (hF : qFx S R) {t k : Nat} (ht : M 9 9 = t) (h300 : t < 300) (hk : k ≤ 24) (x : Int) : zR zPP (d + 1) 24 2 [zA 9, zI x, zI k] [] (n, s, S, R, M) = zR zPP (d + 1) 24 2 [zA 9, zI x, zI ((k : Int) + -8)] [] (n, s, S, R, zup (zup M 304 t (qby x k)) 9 9 ((t : Int) + 1)) := by
  obtain ⟨-, b1, b2⟩ := qby_bv x hk
  have hr := k_hasRoom (d := d) (t : Int) 300 (n, s, S, R, M)
  rw [if_pos (by omega)] at hr
  have hb : zand (zushr x k) 255 % 65536 = qby x k := by
    show qby x k % 65536 = qby x k
    omega
  rw [e_X_putOnTape_2]
  have hz : zup M 304 t (qby x k) 9 9 = t := by rw [zup_rw (by decide)]; exact ht
  simp (disch := omega) only [ht, hr, hb, hz, qff hF, qltT, qltF, qleT, qleF, qeqT, qeqF, Int.reduceEq, Int.reduceNe, Int.reduceLT, Int.reduceLE, Int.reduceToNat, Int.reduceAdd, Int.reduceSub, Int.reduceMul, Int.reduceNeg, Nat.reduceAdd, Nat.reduceMul, Nat.reduceEqDiff, Nat.reduceLT, Int.cast_ofNat_Int, Int.lt_irrefl, Bool.false_eq_true, ↓reduceIte, ↓reduceDIte, zbI, zbL, zbA, zbV, qrg, qrg2, qnn, qz, zup_at, zup_r, zup_ne, true_and, and_true, true_or, or_true, and_self, or_self, false_or, or_false, false_and, and_false, Int.toNat_natCast, Int.toNat_add, Int.toNat_mul, Int.toNat_zero, Int.toNat_one, qtn, Int.natCast_add, qnat1, qnat0, ne_eq, not_true_eq_false, not_false_eq_true, eq_self, qbool]
theorem km_byte (hF : qFx S R) {t k : Nat} (ht : M 305 4 = t) (h300 : t < 300) (hk : k ≤ 24) (x : Int) : zR zPP d 187 2 [zA 305, zI x, zI k] [] (n, s, S, R, M) = zR zPP d 187 2 [zA 305, zI x, zI ((k : Int) + -8)] [] (n, s, S, R, zup (zup M 309 t (qby x k)) 305 4 ((t : Int) + 1)) := by
  obtain ⟨b0, b1, b2⟩ := qby_bv x hk
  rw [e_M_four_2]
  have hz : zup M 309 t (qby x k) 305 4 = t := by rw [zup_rw (by decide)]; exact ht
  simp (disch := omega) only [ht, b0, hz, qff hF, qltT, qltF, qleT, qleF, qeqT, qeqF, Int.reduceEq, Int.reduceNe, Int.reduceLT, Int.reduceLE, Int.reduceToNat, Int.reduceAdd, Int.reduceSub, Int.reduceMul, Int.reduceNeg, Nat.reduceAdd, Nat.reduceMul, Nat.reduceEqDiff, Nat.reduceLT, Int.cast_ofNat_Int, Int.lt_irrefl, Bool.false_eq_true, ↓reduceIte, ↓reduceDIte, zbI, zbL, zbA, zbV, qrg, qrg2, qnn, qz, zup_at, zup_r, zup_ne, true_and, and_true, true_or, or_true, and_self, or_self, false_or, or_false, false_and, and_false, Int.toNat_natCast, Int.toNat_add, Int.toNat_mul, Int.toNat_zero, Int.toNat_one, qtn, Int.natCast_add, qnat1, qnat0, ne_eq, not_true_eq_false, not_false_eq_true, eq_self, qbool]
theorem kx_put4 (hF : qFx S R) {t m : Nat} {f : Nat → Int} (h : qFd 304 9 9 M0 M t m f) (hm : t + m + 4 ≤ 300) {x : Int} (f0 : f m = qby x 24) (f1 : f (m + 1) = qby x 16) (f2 : f (m + 2) = qby x 8) (f3 : f (m + 3) = qby x 0) : ∃ M', zcal zPP (d + 2) 24 [zA 9, zI x] (n, s, S, R, M) = some (zU, (n, s, S, R, M')) ∧ qFd 304 9 9 M0 M' t (m + 4) f := by
  have g1 := qFd_s (by decide) h f0
  have g2 := qFd_s (by decide) g1 f1
  have g3 := qFd_s (by decide) g2 f2
  have g4 := qFd_s (by decide) g3 f3
  refine ⟨_, ?_, g4⟩
  rw [c_X_putOnTape]
  simp only [qff hF, if_true]
  refine (kx_byte (k := 24) hF h.2.1 (by omega) (by decide) x).trans ?_
  refine (kx_byte (k := 16) hF g1.2.1 (by omega) (by decide) x).trans ?_
  refine (kx_byte (k := 8) hF g2.2.1 (by omega) (by decide) x).trans ?_
  refine (kx_byte (k := 0) hF g3.2.1 (by omega) (by decide) x).trans ?_
  rw [e_X_putOnTape_2]
  exact if_pos (by decide)
theorem km_put4 (hF : qFx S R) {t m : Nat} {f : Nat → Int} (h : qFd 309 305 4 M0 M t m f) (hm : t + m + 4 ≤ 300) {x : Int} (f0 : f m = qby x 24) (f1 : f (m + 1) = qby x 16) (f2 : f (m + 2) = qby x 8) (f3 : f (m + 3) = qby x 0) : ∃ M', zcal zPP (d + 1) 187 [zA 305, zI x] (n, s, S, R, M) = some (zU, (n, s, S, R, M')) ∧ qFd 309 305 4 M0 M' t (m + 4) f := by
  have g1 := qFd_s (by decide) h f0
  have g2 := qFd_s (by decide) g1 f1
  have g3 := qFd_s (by decide) g2 f2
  have g4 := qFd_s (by decide) g3 f3
  refine ⟨_, ?_, g4⟩
  rw [c_M_four]
  simp only [qff hF, if_true]
  refine (km_byte (k := 24) hF h.2.1 (by omega) (by decide) x).trans ?_
  refine (km_byte (k := 16) hF g1.2.1 (by omega) (by decide) x).trans ?_
  refine (km_byte (k := 8) hF g2.2.1 (by omega) (by decide) x).trans ?_
  refine (km_byte (k := 0) hF g3.2.1 (by omega) (by decide) x).trans ?_
  rw [e_M_four_2]
  exact if_pos (by decide)
/-- the twenty bytes -/
def qfd (x1 x2 x3 x4 x5 : Int) (i : Nat) : Int := qby (if i < 4 then x1 else if i < 8 then x2 else if i < 12 then x3 else if i < 16 then x4 else x5) (24 - 8 * (i % 4))
theorem qFd_0 {a b c t : Nat} {f : Nat → Int} (h : M b c = t) : qFd a b c M M t 0 f := ⟨fun _ _ _ => rfl, h, fun _ _ => rfl, fun _ _ => rfl, fun i hi => absurd hi (by omega)⟩
theorem qb_feed (hw : qWd n S R M W) (x1 x2 x3 x4 x5 : Int) : qBo 23 186 [zI x1, zI x2, zI x3, zI x4, zI x5] n s S R M := by
  have hF := hw.1.2.1
  have hp := hw.2.2.2.2
  have e305 := hp.1.2.2
  obtain ⟨t, ht⟩ := Int.eq_ofNat_of_zero_le hp.1.1
  have ht' : M 305 4 = t := e305.trans ht
  have h300 : t ≤ 300 := by have := hp.1.2.1; omega
  by_cases h : 280 < t
  · refine qBo_same hw (v := zI (-1)) ?_ ?_
    · rw [c_X_feed]
      simp (disch := omega) only [ht, qff hF, qltT, qltF, qleT, qleF, qeqT, qeqF, Int.reduceEq, Int.reduceNe, Int.reduceLT, Int.reduceLE, Int.reduceToNat, Int.reduceAdd, Int.reduceSub, Int.reduceMul, Int.reduceNeg, Nat.reduceAdd, Nat.reduceMul, Nat.reduceEqDiff, Nat.reduceLT, Int.cast_ofNat_Int, Int.lt_irrefl, Bool.false_eq_true, ↓reduceIte, ↓reduceDIte, zbI, zbL, zbA, zbV, qrg, qrg2, qnn, qz, zup_at, zup_r, zup_ne, true_and, and_true, true_or, or_true, and_self, or_self, false_or, or_false, false_and, and_false, Int.toNat_natCast, Int.toNat_add, Int.toNat_mul, Int.toNat_zero, Int.toNat_one, qtn, Int.natCast_add, qnat1, qnat0, ne_eq, not_true_eq_false, not_false_eq_true, eq_self, qbool]
    · rw [c_M_feed]
      simp (disch := omega) only [ht', qff hF, qltT, qltF, qleT, qleF, qeqT, qeqF, Int.reduceEq, Int.reduceNe, Int.reduceLT, Int.reduceLE, Int.reduceToNat, Int.reduceAdd, Int.reduceSub, Int.reduceMul, Int.reduceNeg, Nat.reduceAdd, Nat.reduceMul, Nat.reduceEqDiff, Nat.reduceLT, Int.cast_ofNat_Int, Int.lt_irrefl, Bool.false_eq_true, ↓reduceIte, ↓reduceDIte, zbI, zbL, zbA, zbV, qrg, qrg2, qnn, qz, zup_at, zup_r, zup_ne, true_and, and_true, true_or, or_true, and_self, or_self, false_or, or_false, false_and, and_false, Int.toNat_natCast, Int.toNat_add, Int.toNat_mul, Int.toNat_zero, Int.toNat_one, qtn, Int.natCast_add, qnat1, qnat0, ne_eq, not_true_eq_false, not_false_eq_true, eq_self, qbool]
  · have gx0 : qFd 304 9 9 M M t 0 (qfd x1 x2 x3 x4 x5) := qFd_0 ht
    obtain ⟨M1, a1, gx1⟩ := kx_put4 (n := n) (s := s) (d := 97) hF gx0 (by omega) (x := x1) rfl rfl rfl rfl
    obtain ⟨M2, a2, gx2⟩ := kx_put4 (n := n) (s := s) (d := 97) hF gx1 (by omega) (x := x2) rfl rfl rfl rfl
    obtain ⟨M3, a3, gx3⟩ := kx_put4 (n := n) (s := s) (d := 97) hF gx2 (by omega) (x := x3) rfl rfl rfl rfl
    obtain ⟨M4, a4, gx4⟩ := kx_put4 (n := n) (s := s) (d := 97) hF gx3 (by omega) (x := x4) rfl rfl rfl rfl
    obtain ⟨M5, a5, gx5⟩ := kx_put4 (n := n) (s := s) (d := 97) hF gx4 (by omega) (x := x5) rfl rfl rfl rfl
    obtain ⟨p1, p2, p3, p4, p5⟩ := gx5
    have hX : zcal zPP 100 23 [zA 9, zI x1, zI x2, zI x3, zI x4, zI x5] (n, s, S, R, M) = some (zI ((t + 20 : Nat) : Int), (n, s, S, R, M5)) := by
      rw [c_X_feed]
      simp (disch := omega) only [ht, a1, a2, a3, a4, a5, p2, qff hF, qltT, qltF, qleT, qleF, qeqT, qeqF, Int.reduceEq, Int.reduceNe, Int.reduceLT, Int.reduceLE, Int.reduceToNat, Int.reduceAdd, Int.reduceSub, Int.reduceMul, Int.reduceNeg, Nat.reduceAdd, Nat.reduceMul, Nat.reduceEqDiff, Nat.reduceLT, Int.cast_ofNat_Int, Int.lt_irrefl, Bool.false_eq_true, ↓reduceIte, ↓reduceDIte, zbI, zbL, zbA, zbV, qrg, qrg2, qnn, qz, zup_at, zup_r, zup_ne, true_and, and_true, true_or, or_true, and_self, or_self, false_or, or_false, false_and, and_false, Int.toNat_natCast, Int.toNat_add, Int.toNat_mul, Int.toNat_zero, Int.toNat_one, qtn, Int.natCast_add, qnat1, qnat0, ne_eq, not_true_eq_false, not_false_eq_true, eq_self, qbool]
    have gy0 : qFd 309 305 4 M5 M5 t 0 (qfd x1 x2 x3 x4 x5) := qFd_0 (by rw [p1 305 (by decide) (by decide)]; exact ht')
    obtain ⟨N1, b1, gy1⟩ := km_put4 (n := n) (s := s) (d := 98) hF gy0 (by omega) (x := x1) rfl rfl rfl rfl
    obtain ⟨N2, b2, gy2⟩ := km_put4 (n := n) (s := s) (d := 98) hF gy1 (by omega) (x := x2) rfl rfl rfl rfl
    obtain ⟨N3, b3, gy3⟩ := km_put4 (n := n) (s := s) (d := 98) hF gy2 (by omega) (x := x3) rfl rfl rfl rfl
    obtain ⟨N4, b4, gy4⟩ := km_put4 (n := n) (s := s) (d := 98) hF gy3 (by omega) (x := x4) rfl rfl rfl rfl
    obtain ⟨N5, b5, gy5⟩ := km_put4 (n := n) (s := s) (d := 98) hF gy4 (by omega) (x := x5) rfl rfl rfl rfl
    obtain ⟨r1, r2, r3, r4, r5⟩ := gy5
    have e5 : M5 305 4 = t := by rw [p1 305 (by decide) (by decide)]; exact ht'
    have hN : zcal zPP 100 186 [zA 305, zI x1, zI x2, zI x3, zI x4, zI x5] (n, s, S, R, M5) = some (zI ((t + 20 : Nat) : Int), (n, s, S, R, N5)) := by
      rw [c_M_feed]
      simp (disch := omega) only [e5, b1, b2, b3, b4, b5, r2, qff hF, qltT, qltF, qleT, qleF, qeqT, qeqF, Int.reduceEq, Int.reduceNe, Int.reduceLT, Int.reduceLE, Int.reduceToNat, Int.reduceAdd, Int.reduceSub, Int.reduceMul, Int.reduceNeg, Nat.reduceAdd, Nat.reduceMul, Nat.reduceEqDiff, Nat.reduceLT, Int.cast_ofNat_Int, Int.lt_irrefl, Bool.false_eq_true, ↓reduceIte, ↓reduceDIte, zbI, zbL, zbA, zbV, qrg, qrg2, qnn, qz, zup_at, zup_r, zup_ne, true_and, and_true, true_or, or_true, and_self, or_self, false_or, or_false, false_and, and_false, Int.toNat_natCast, Int.toNat_add, Int.toNat_mul, Int.toNat_zero, Int.toNat_one, qtn, Int.natCast_add, qnat1, qnat0, ne_eq, not_true_eq_false, not_false_eq_true, eq_self, qbool]
    have hrow : ∀ a, a ≠ 304 → a ≠ 9 → a ≠ 309 → a ≠ 305 → N5 a = M a := fun a z1 z2 z3 z4 => (r1 a z3 z4).trans (p1 a z1 z2)
    refine qBo_rows hX hN (W := W) ?_ (hrow 1 (by decide) (by decide) (by decide) (by decide))
    have e9 : ∀ k, k ≠ 9 → N5 9 k = M 9 k := fun k hk => by rw [r1 9 (by decide) (by decide)]; exact p3 k hk
    have e99 : N5 9 9 = ((t + 20 : Nat) : Int) := by rw [r1 9 (by decide) (by decide)]; exact p2
    have e35 : ∀ k, k ≠ 4 → N5 305 k = M 305 k := fun k hk => by rw [r3 k hk, p1 305 (by decide) (by decide)]
    have e34 : N5 304 = M5 304 := r1 304 (by decide) (by decide)
    have e39 : M5 309 = M 309 := p1 309 (by decide) (by decide)
    have hTp : qTp N5 := by
      refine ⟨⟨by rw [e99]; omega, by rw [e99]; omega, by rw [e99]; exact r2⟩, ⟨?_, ?_⟩, ?_, fun k hk => ?_⟩
      · rw [e35 5 (by decide), e9 10 (by decide)]; exact hp.2.1.1
      · rw [e35 6 (by decide), e9 11 (by decide)]; exact hp.2.1.2
      · rw [e35 23 (by decide)]; exact hp.2.2.1
      · rw [e99] at hk
        by_cases hkt : k < t
        · rw [e34, p4 k hkt, r4 k hkt, e39]
          exact hp.2.2.2 k (by rw [ht]; omega)
        · obtain ⟨i, rfl⟩ : ∃ i, k = t + i := ⟨k - t, by omega⟩
          rw [e34, p5 i (by omega), r5 i (by omega)]
          have := qby_bv (if i < 4 then x1 else if i < 8 then x2 else if i < 12 then x3 else if i < 16 then x4 else x5) (k := 24 - 8 * (i % 4)) (by omega)
          exact ⟨rfl, this.2.1, this.2.2⟩
    obtain ⟨⟨h1, h2, h3⟩, h4, h5, h6, h7⟩ := hw
    have e7 : N5 307 = M 307 := hrow 307 (by decide) (by decide) (by decide) (by decide)
    have e6 : N5 306 = M 306 := hrow 306 (by decide) (by decide) (by decide) (by decide)
    refine ⟨⟨h1, h2, qSt_x (fun a ha => hrow a (by omega) (by omega) (by omega) (by omega)) h3⟩, ?_, ?_, qTt_x (fun a ha => hrow a (by omega) (by omega) (by omega) (by omega)) (hrow 308 (by decide) (by decide) (by decide) (by decide)) (by rw [e6]) (by rw [e7]) h6, hTp⟩
    · rw [e6]; exact qTo_x (fun a x y => hrow a (by omega) (by omega) (by omega) (by omega)) h4
    · rw [e7]; exact qTo_x (fun a x y => hrow a (by omega) (by omega) (by omega) (by omega)) h5
end QF
