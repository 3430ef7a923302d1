/-! THE CLASS'S JUDGE: what it says, by the plain function -/
/-- a Text object at q -/
def qTC (S : Nat → Nat × Nat) (R : Nat → Nat → Nat) (M : Nat → Nat → Int) (q : Nat) (O : Nat → Nat × Nat) (len : Nat) (lo hi : Nat → Int) : Prop :=
  (S q = (7, 4) ∧ S (R q 0) = (20, len) ∧ S (R q 2) = (20, 3) ∧ S (R q 3) = (20, 3)) ∧ (319 ≤ q ∧ 319 ≤ R q 0 ∧ 319 ≤ R q 2 ∧ 319 ≤ R q 3) ∧ len ≤ 300 ∧
  (∀ k, k < len → M (R q 0) k = (((O k).1 * 16384 + (O k).2 : Nat) : Int) ∧ (O k).2 < 16384 ∧ (O k).1 < 100) ∧ (∀ L, L < 3 → M (R q 2) L = lo L ∧ M (R q 3) L = hi L)
/-- what a law's look at the town needs -/
def qCE (S : Nat → Nat × Nat) (R : Nat → Nat → Nat) (M : Nat → Nat → Int) (r : Nat) (A : Nat → Int) : Prop := qTw M 10 A ∧ qIn A ∧ (r = 21 ∨ r = 291) ∧ qLR S R r ∧ qRg M r (qg A) ∧ M r 5 = A 7
def qJS (M0 M : Nat → Nat → Int) (st : List Int) : Prop := (∀ a, a ≠ 284 → a ≠ 285 → M a = M0 a) ∧ M 284 2 = st.length ∧ qsk (M 285) st ∧ qib st ∧ st.length ≤ 80
theorem qTw_x {M M' : Nat → Nat → Int} {t : Nat} {A : Nat → Int} (h : ∀ a, t ≤ a → a ≤ t + 10 → M' a = M a) (hT : qTw M t A) : qTw M' t A := by
  unfold qTw at *
  rw [h t (by omega) (by omega), h (t + 1) (by omega) (by omega), h (t + 2) (by omega) (by omega), h (t + 3) (by omega) (by omega), h (t + 5) (by omega) (by omega), h (t + 6) (by omega) (by omega), h (t + 7) (by omega) (by omega), h (t + 8) (by omega) (by omega), h (t + 9) (by omega) (by omega), h (t + 10) (by omega) (by omega)]
  exact hT
theorem qRg_x {M M' : Nat → Nat → Int} {r : Nat} {g : Nat → Nat → Int} (h1 : M' (r + 1) = M (r + 1)) (h2 : M' (r + 2) = M (r + 2)) (hg : qRg M r g) : qRg M' r g := by
  unfold qRg at *
  rw [h1, h2]
  exact hg
theorem qCE_x {S : Nat → Nat × Nat} {R : Nat → Nat → Nat} {M M' : Nat → Nat → Int} {r : Nat} {A : Nat → Int} (h : ∀ a, a ≠ 284 → a ≠ 285 → M' a = M a) (hC : qCE S R M r A) : qCE S R M' r A := by
  obtain ⟨h1, h2, h3, h4, h5, h6⟩ := hC
  exact ⟨qTw_x (fun a _ _ => h a (by omega) (by omega)) h1, h2, h3, h4, qRg_x (h _ (by omega) (by omega)) (h _ (by omega) (by omega)) h5, by rw [h r (by omega) (by omega)]; exact h6⟩
theorem qJS_x {M0 M : Nat → Nat → Int} {st : List Int} (h : qJS M0 M st) : ∀ a, a ≠ 284 → a ≠ 285 → M a = M0 a := h.1
theorem qJS_top {M0 M : Nat → Nat → Int} {v : Int} {st : List Int} (h : qJS M0 M (v :: st)) : M 285 st.length = v ∧ -2147483648 ≤ v ∧ v < 2147483648 := ⟨h.2.2.1.1, h.2.2.2.1 v (List.mem_cons_self ..)⟩
theorem qJS_push {M0 M : Nat → Nat → Int} {st : List Int} (h : qJS M0 M st) {v : Int} (hv : -2147483648 ≤ v ∧ v < 2147483648) (hl : st.length < 80) : qJS M0 (zup (zup M 285 st.length v) 284 2 ((st.length : Int) + 1)) (v :: st) := by
  obtain ⟨h1, h2, h3, h4, h5⟩ := h
  refine ⟨fun a ha hb => ?_, zup_at, ⟨?_, ?_⟩, ?_, ?_⟩
  · funext k
    rw [zup_r ha, zup_r hb, h1 a ha hb]
  · rw [zup_r (by decide), zup_at]
  · exact qsk_low (fun k hk => by rw [zup_r (by decide), zup_ne (by omega)]) h3
  · intro x hx
    cases hx with
    | head => exact hv
    | tail _ hx => exact h4 x hx
  · show st.length + 1 ≤ 80
    omega
theorem qJS_pop {M0 M : Nat → Nat → Int} {v : Int} {st : List Int} (h : qJS M0 M (v :: st)) : qJS M0 (zup M 284 2 (st.length : Int)) st := by
  obtain ⟨h1, h2, h3, h4, h5⟩ := h
  refine ⟨fun a ha hb => ?_, zup_at, ?_, fun x hx => h4 x (List.mem_cons_of_mem _ hx), by simp only [List.length_cons] at h5; omega⟩
  · funext k
    rw [zup_r ha, h1 a ha hb]
  · exact qsk_low (fun k hk => by rw [zup_r (by decide)]) h3.2
section QF
variable {S : Nat → Nat × Nat} {R : Nat → Nat → Nat} {M M0 : Nat → Nat → Int} {n s d : Nat} {A : Nat → Int} {q len : Nat} {O : Nat → Nat × Nat} {lo hi : Nat → Int} {r : Nat}
theorem kj_push (hF : qFx S R) {st : List Int} (hJ : qJS M0 M st) (hl : st.length < 80) (v : Int) : zcal zPP (d + 1) 99 [zA 284, zI v] (n, s, S, R, M) = some (zU, (n, s, S, R, zup (zup M 285 st.length v) 284 2 ((st.length : Int) + 1))) := by
  have h2 := hJ.2.1
  have h3 : ¬ (st.length : Int) < 0 := by omega
  have h4 : (st.length : Int) < 80 := by omega
  simp (disch := omega) only [c_Judge_push, h2, h3, h4, qff hF, qltT, qltF, qleT, qleF, qeqT, qeqF, Int.reduceEq, Int.reduceNe, Int.reduceLT, Int.reduceLE, Int.reduceToNat, Int.reduceAdd, Int.reduceSub, Int.reduceMul, Int.reduceNeg, Nat.reduceAdd, Nat.reduceMul, Nat.reduceEqDiff, Nat.reduceLT, Int.cast_ofNat_Int, Int.lt_irrefl, ↓reduceIte, ↓reduceDIte, zbI, zbL, zbA, zbV, qrg, qrg2, qnn, qz, zup_at, zup_r, zup_ne, true_and, and_true, true_or, or_true, and_self, or_self, false_or, or_false, false_and, and_false, Int.toNat_natCast, Int.toNat_add, Int.toNat_mul, Int.toNat_zero, Int.toNat_one, qtn, Int.natCast_add, qnat1, qnat0, ne_eq, not_true_eq_false, not_false_eq_true, eq_self, qbool]
theorem kj_pop (hF : qFx S R) {v : Int} {st : List Int} (hJ : qJS M0 M (v :: st)) : zcal zPP (d + 1) 100 [zA 284] (n, s, S, R, M) = some (zI v, (n, s, S, R, zup M 284 2 (st.length : Int))) := by
  have h2 : M 284 2 = (st.length : Int) + 1 := hJ.2.1
  have h5 : st.length + 1 ≤ 80 := hJ.2.2.2.2
  have h3 : 0 < (st.length : Int) + 1 := by omega
  have h4 : ¬ 80 < (st.length : Int) + 1 := by omega
  have h6 : (st.length : Int) + 1 - 1 = st.length := by omega
  simp (disch := omega) only [c_Judge_pop, h2, h3, h4, h6, (qJS_top hJ).1, qff hF, qltT, qltF, qleT, qleF, qeqT, qeqF, Int.reduceEq, Int.reduceNe, Int.reduceLT, Int.reduceLE, Int.reduceToNat, Int.reduceAdd, Int.reduceSub, Int.reduceMul, Int.reduceNeg, Nat.reduceAdd, Nat.reduceMul, Nat.reduceEqDiff, Nat.reduceLT, Int.cast_ofNat_Int, Int.lt_irrefl, ↓reduceIte, ↓reduceDIte, zbI, zbL, zbA, zbV, qrg, qrg2, qnn, qz, zup_at, zup_r, zup_ne, true_and, and_true, true_or, or_true, and_self, or_self, false_or, or_false, false_and, and_false, Int.toNat_natCast, Int.toNat_add, Int.toNat_mul, Int.toNat_zero, Int.toNat_one, qtn, Int.natCast_add, qnat1, qnat0, ne_eq, not_true_eq_false, not_false_eq_true, eq_self, qbool]
theorem kt_sign (hq : qTC S R M q O len lo hi) {k : Nat} (hk : k < len) : zcal zPP (d + 1) 160 [zA q, zI k] (n, s, S, R, M) = some (zI (O k).1, (n, s, S, R, M)) := by
  obtain ⟨⟨a1, a2, a3, a4⟩, a5, a6, a7, a8⟩ := hq
  obtain ⟨b1, b2, b3⟩ := a7 k hk
  have h1 : ¬ (k : Int) < 0 := by omega
  have h2 : (k : Int) < (len : Int) := by omega
  have e : zw32 (((((O k).1 * 16384 + (O k).2 : Nat) : Int)).tdiv 16384) = (O k).1 := by
    have : (((O k).1 * 16384 + (O k).2 : Nat) : Int).tdiv 16384 = ((((O k).1 * 16384 + (O k).2) / 16384 : Nat) : Int) := rfl
    rw [this, qz (by omega) (by omega)]
    omega
  rw [c_Text_sign]
  simp only [a1, a2, if_true, if_neg h1, if_pos h2, Int.toNat_natCast, b1, e]
  rw [if_pos (by decide), if_pos ⟨Or.inl trivial, by omega, h2⟩, if_neg (by decide)]
theorem kt_worth (hq : qTC S R M q O len lo hi) {k : Nat} (hk : k < len) : zcal zPP (d + 1) 161 [zA q, zI k] (n, s, S, R, M) = some (zI (O k).2, (n, s, S, R, M)) := by
  obtain ⟨⟨a1, a2, a3, a4⟩, a5, a6, a7, a8⟩ := hq
  obtain ⟨b1, b2, b3⟩ := a7 k hk
  have h1 : ¬ (k : Int) < 0 := by omega
  have h2 : (k : Int) < (len : Int) := by omega
  have e : ((((O k).1 * 16384 + (O k).2 : Nat) : Int)).tmod 16384 = (O k).2 := by
    have : (((O k).1 * 16384 + (O k).2 : Nat) : Int).tmod 16384 = ((((O k).1 * 16384 + (O k).2) % 16384 : Nat) : Int) := rfl
    rw [this]
    omega
  rw [c_Text_worth]
  simp only [a1, a2, if_true, if_neg h1, if_pos h2, Int.toNat_natCast, b1, e]
  rw [if_pos (by decide), if_pos ⟨Or.inl trivial, by omega, h2⟩, if_neg (by decide)]
theorem kt_start (hq : qTC S R M q O len lo hi) {L : Nat} (hL : L < 3) : zcal zPP (d + 1) 158 [zA q, zI L] (n, s, S, R, M) = some (zI (lo L), (n, s, S, R, M)) := by
  obtain ⟨⟨a1, a2, a3, a4⟩, a5, a6, a7, a8⟩ := hq
  have h1 : ¬ (L : Int) < 0 := by omega
  have h2 : (L : Int) < ((3 : Nat) : Int) := by omega
  rw [c_Text_start]
  simp only [a1, a3, if_true, if_neg h1, if_pos h2, Int.toNat_natCast, (a8 L hL).1]
  rw [if_pos (by decide), if_pos ⟨Or.inl trivial, by omega, h2⟩]
theorem kt_stop (hq : qTC S R M q O len lo hi) {L : Nat} (hL : L < 3) : zcal zPP (d + 1) 159 [zA q, zI L] (n, s, S, R, M) = some (zI (hi L), (n, s, S, R, M)) := by
  obtain ⟨⟨a1, a2, a3, a4⟩, a5, a6, a7, a8⟩ := hq
  have h1 : ¬ (L : Int) < 0 := by omega
  have h2 : (L : Int) < ((3 : Nat) : Int) := by omega
  rw [c_Text_stop]
  simp only [a1, a4, if_true, if_neg h1, if_pos h2, Int.toNat_natCast, (a8 L hL).2]
  rw [if_pos (by decide), if_pos ⟨Or.inl trivial, by omega, h2⟩]
theorem kj_inOak (hF : qFx S R) (hC : qCE S R M r A) (v : Int) : zcal zPP (d + 2) 170 [zA 10, zA r, zI v] (n, s, S, R, M) = some (zI (if 0 ≤ v ∧ v < A 0 then (qin A v.toNat : Nat) else 0), (n, s, S, R, M)) := by
  obtain ⟨h1, h2, h3, h4, h5, h6⟩ := hC
  by_cases hv : 0 ≤ v ∧ v < A 0
  · obtain ⟨v, rfl⟩ := Int.eq_ofNat_of_zero_le hv.1
    rw [if_pos hv, Int.toNat_natCast]
    have := k_inOak (n := n) (s := s) (d := d) hF.1.2.1.1 h1 h2 h4 h5 hv.2
    rw [qin_of h2 hv.2] at this
    exact this
  · rw [if_neg hv]
    exact k_inOak_no hF.1.2.1.1 h1 h2 hv
theorem k_bit0 (σ : zS) : zcal zPP (d + 1) 1 [zI 0] σ = some (zI 0, σ) := zbc_val (x := 0) (by decide) d σ
theorem kj_ringsIn (hF : qFx S R) (hC : qCE S R M r A) (v : Int) : (zbI (zcal zPP (d + 2) 170 [zA 10, zA r, zI v] (n, s, S, R, M)) fun x q1 => zcal zPP (d + 2) 1 [zI x] q1) = some (zI (if 0 ≤ v ∧ v < A 0 then (qic A v.toNat : Nat) else 0), (n, s, S, R, M)) := by
  rw [kj_inOak hF hC]
  by_cases hv : 0 ≤ v ∧ v < A 0
  · rw [if_pos hv, if_pos hv]
    exact k_bitIn A v.toNat _
  · rw [if_neg hv, if_neg hv]
    exact k_bit0 _
theorem kj_named (hF : qFx S R) (hC : qCE S R M r A) {s0 o y p : Nat} (hs : qisn s0 = true) (ho : (o : Int) < A 0) (hy : y < 24) (hp : (p : Int) < A 1) : zcal zPP (d + 3) 101 [zA 284, zI s0, zA r, zI o, zI y, zI p] (n, s, S, R, M) = some (zI ((qEn A o y p).1 (qnm s0)), (n, s, S, R, M)) := by
  have hp5 := hC.2.1.2.1.2
  have h0 := kj_ringsIn (n := n) (s := s) (d := d) hF hC o
  obtain ⟨h1, h2, h3, h4, h5, h6⟩ := hC
  have hs' : s0 = 3 ∨ s0 = 4 ∨ s0 = 9 ∨ s0 = 10 ∨ s0 = 11 ∨ s0 = 12 ∨ s0 = 13 ∨ s0 = 14 := by
    unfold qisn at hs
    simp only [Bool.or_eq_true, Bool.and_eq_true, decide_eq_true_iff] at hs
    omega
  have hy' : (0 ≤ (y : Int) ∧ (y : Int) < 24) = True := eq_true (by omega)
  rcases hs' with h | h | h | h | h | h | h | h <;> subst h
  · simp (disch := omega) only [c_Judge_named, qff hF, qltT, qltF, qleT, qleF, qeqT, qeqF, Int.reduceEq, Int.reduceNe, Int.reduceLT, Int.reduceLE, Int.reduceToNat, Int.reduceAdd, Int.reduceSub, Int.reduceMul, Int.reduceNeg, Nat.reduceAdd, Nat.reduceMul, Nat.reduceEqDiff, Nat.reduceLT, Int.cast_ofNat_Int, Int.lt_irrefl, ↓reduceIte, ↓reduceDIte, zbI, zbL, zbA, zbV, qrg, qrg2, qnn, qz, zup_at, zup_r, zup_ne, true_and, and_true, true_or, or_true, and_self, or_self, false_or, or_false, false_and, and_false, Int.toNat_natCast, Int.toNat_add, Int.toNat_mul, Int.toNat_zero, Int.toNat_one, qtn, Int.natCast_add, qnat1, qnat0, ne_eq, not_true_eq_false, not_false_eq_true, eq_self, qbool]; rfl
  · simp (disch := omega) only [c_Judge_named, qff hF, qltT, qltF, qleT, qleF, qeqT, qeqF, Int.reduceEq, Int.reduceNe, Int.reduceLT, Int.reduceLE, Int.reduceToNat, Int.reduceAdd, Int.reduceSub, Int.reduceMul, Int.reduceNeg, Nat.reduceAdd, Nat.reduceMul, Nat.reduceEqDiff, Nat.reduceLT, Int.cast_ofNat_Int, Int.lt_irrefl, ↓reduceIte, ↓reduceDIte, zbI, zbL, zbA, zbV, qrg, qrg2, qnn, qz, zup_at, zup_r, zup_ne, true_and, and_true, true_or, or_true, and_self, or_self, false_or, or_false, false_and, and_false, Int.toNat_natCast, Int.toNat_add, Int.toNat_mul, Int.toNat_zero, Int.toNat_one, qtn, Int.natCast_add, qnat1, qnat0, ne_eq, not_true_eq_false, not_false_eq_true, eq_self, qbool]; rfl
  · simp (disch := omega) only [c_Judge_named, h4.1, h6, qff hF, qltT, qltF, qleT, qleF, qeqT, qeqF, Int.reduceEq, Int.reduceNe, Int.reduceLT, Int.reduceLE, Int.reduceToNat, Int.reduceAdd, Int.reduceSub, Int.reduceMul, Int.reduceNeg, Nat.reduceAdd, Nat.reduceMul, Nat.reduceEqDiff, Nat.reduceLT, Int.cast_ofNat_Int, Int.lt_irrefl, ↓reduceIte, ↓reduceDIte, zbI, zbL, zbA, zbV, qrg, qrg2, qnn, qz, zup_at, zup_r, zup_ne, true_and, and_true, true_or, or_true, and_self, or_self, false_or, or_false, false_and, and_false, Int.toNat_natCast, Int.toNat_add, Int.toNat_mul, Int.toNat_zero, Int.toNat_one, qtn, Int.natCast_add, qnat1, qnat0, ne_eq, not_true_eq_false, not_false_eq_true, eq_self, qbool]; rfl
  · simp (disch := omega) only [c_Judge_named, k_isYearX, h1.2.2.1 y hy, (show ¬ (1 : Int) = 0 by decide), qff hF, qltT, qltF, qleT, qleF, qeqT, qeqF, Int.reduceEq, Int.reduceNe, Int.reduceLT, Int.reduceLE, Int.reduceToNat, Int.reduceAdd, Int.reduceSub, Int.reduceMul, Int.reduceNeg, Nat.reduceAdd, Nat.reduceMul, Nat.reduceEqDiff, Nat.reduceLT, Int.cast_ofNat_Int, Int.lt_irrefl, ↓reduceIte, ↓reduceDIte, zbI, zbL, zbA, zbV, qrg, qrg2, qnn, qz, zup_at, zup_r, zup_ne, true_and, and_true, true_or, or_true, and_self, or_self, false_or, or_false, false_and, and_false, Int.toNat_natCast, Int.toNat_add, Int.toNat_mul, Int.toNat_zero, Int.toNat_one, qtn, Int.natCast_add, qnat1, qnat0, ne_eq, not_true_eq_false, not_false_eq_true, eq_self, qbool]; rfl
  · simp (disch := omega) only [c_Judge_named, kx_hasPerson hF h1 h2, h1.2.2.2.1 p (show p < 5 by omega), hp, (show 0 ≤ (p : Int) by omega), (show ¬ (1 : Int) = 0 by decide), qff hF, qltT, qltF, qleT, qleF, qeqT, qeqF, Int.reduceEq, Int.reduceNe, Int.reduceLT, Int.reduceLE, Int.reduceToNat, Int.reduceAdd, Int.reduceSub, Int.reduceMul, Int.reduceNeg, Nat.reduceAdd, Nat.reduceMul, Nat.reduceEqDiff, Nat.reduceLT, Int.cast_ofNat_Int, Int.lt_irrefl, ↓reduceIte, ↓reduceDIte, zbI, zbL, zbA, zbV, qrg, qrg2, qnn, qz, zup_at, zup_r, zup_ne, true_and, and_true, true_or, or_true, and_self, or_self, false_or, or_false, false_and, and_false, Int.toNat_natCast, Int.toNat_add, Int.toNat_mul, Int.toNat_zero, Int.toNat_one, qtn, Int.natCast_add, qnat1, qnat0, ne_eq, not_true_eq_false, not_false_eq_true, eq_self, qbool]; rfl
  · simp (disch := omega) only [c_Judge_named, k_heldBy h4 h5 (show p < 5 by omega), qff hF, qltT, qltF, qleT, qleF, qeqT, qeqF, Int.reduceEq, Int.reduceNe, Int.reduceLT, Int.reduceLE, Int.reduceToNat, Int.reduceAdd, Int.reduceSub, Int.reduceMul, Int.reduceNeg, Nat.reduceAdd, Nat.reduceMul, Nat.reduceEqDiff, Nat.reduceLT, Int.cast_ofNat_Int, Int.lt_irrefl, ↓reduceIte, ↓reduceDIte, zbI, zbL, zbA, zbV, qrg, qrg2, qnn, qz, zup_at, zup_r, zup_ne, true_and, and_true, true_or, or_true, and_self, or_self, false_or, or_false, false_and, and_false, Int.toNat_natCast, Int.toNat_add, Int.toNat_mul, Int.toNat_zero, Int.toNat_one, qtn, Int.natCast_add, qnat1, qnat0, ne_eq, not_true_eq_false, not_false_eq_true, eq_self, qbool]; rfl
  · simp (disch := omega) only [c_Judge_named, qff hF, qltT, qltF, qleT, qleF, qeqT, qeqF, Int.reduceEq, Int.reduceNe, Int.reduceLT, Int.reduceLE, Int.reduceToNat, Int.reduceAdd, Int.reduceSub, Int.reduceMul, Int.reduceNeg, Nat.reduceAdd, Nat.reduceMul, Nat.reduceEqDiff, Nat.reduceLT, Int.cast_ofNat_Int, Int.lt_irrefl, ↓reduceIte, ↓reduceDIte, zbI, zbL, zbA, zbV, qrg, qrg2, qnn, qz, zup_at, zup_r, zup_ne, true_and, and_true, true_or, or_true, and_self, or_self, false_or, or_false, false_and, and_false, Int.toNat_natCast, Int.toNat_add, Int.toNat_mul, Int.toNat_zero, Int.toNat_one, qtn, Int.natCast_add, qnat1, qnat0, ne_eq, not_true_eq_false, not_false_eq_true, eq_self, qbool]; rfl
  · have hv : 0 ≤ (o : Int) ∧ (o : Int) < A 0 := ⟨by omega, ho⟩
    rw [kj_inOak hF ⟨h1, h2, h3, h4, h5, h6⟩, if_pos hv, if_pos hv] at h0
    simp only [zbI] at h0
    simp (disch := omega) only [c_Judge_named, kj_inOak hF ⟨h1, h2, h3, h4, h5, h6⟩, hv, qff hF, qltT, qltF, qleT, qleF, qeqT, qeqF, Int.reduceEq, Int.reduceNe, Int.reduceLT, Int.reduceLE, Int.reduceToNat, Int.reduceAdd, Int.reduceSub, Int.reduceMul, Int.reduceNeg, Nat.reduceAdd, Nat.reduceMul, Nat.reduceEqDiff, Nat.reduceLT, Int.cast_ofNat_Int, Int.lt_irrefl, ↓reduceIte, ↓reduceDIte, zbI, zbL, zbA, zbV, qrg, qrg2, qnn, qz, zup_at, zup_r, zup_ne, true_and, and_true, true_or, or_true, and_self, or_self, false_or, or_false, false_and, and_false, Int.toNat_natCast, Int.toNat_add, Int.toNat_mul, Int.toNat_zero, Int.toNat_one, qtn, Int.natCast_add, qnat1, qnat0, ne_eq, not_true_eq_false, not_false_eq_true, eq_self, qbool]
    rw [k_bitIn]
    rfl
theorem kj_one (hF : qFx S R) (hC : qCE S R M r A) {s0 o y p : Nat} (hs : qiso s0 = true) (v : Int) : zcal zPP (d + 3) 102 [zA 284, zI s0, zI v, zA r] (n, s, S, R, M) = some (zI (qone (qEn A o y p) s0 v), (n, s, S, R, M)) := by
  have hs' : s0 = 42 ∨ s0 = 26 ∨ s0 = 18 ∨ s0 = 19 := by
    unfold qiso at hs
    simp only [Bool.or_eq_true, decide_eq_true_iff] at hs
    omega
  have h0 := kj_ringsIn (n := n) (s := s) (d := d) hF hC v
  rcases hs' with h | h | h | h <;> subst h
  · simp (disch := omega) only [c_Judge_one, qff hF, qltT, qltF, qleT, qleF, qeqT, qeqF, Int.reduceEq, Int.reduceNe, Int.reduceLT, Int.reduceLE, Int.reduceToNat, Int.reduceAdd, Int.reduceSub, Int.reduceMul, Int.reduceNeg, Nat.reduceAdd, Nat.reduceMul, Nat.reduceEqDiff, Nat.reduceLT, Int.cast_ofNat_Int, Int.lt_irrefl, ↓reduceIte, ↓reduceDIte, zbI, zbL, zbA, zbV, qrg, qrg2, qnn, qz, zup_at, zup_r, zup_ne, true_and, and_true, true_or, or_true, and_self, or_self, false_or, or_false, false_and, and_false, Int.toNat_natCast, Int.toNat_add, Int.toNat_mul, Int.toNat_zero, Int.toNat_one, qtn, Int.natCast_add, qnat1, qnat0, ne_eq, not_true_eq_false, not_false_eq_true, eq_self, qbool]
    rfl
  · simp (disch := omega) only [c_Judge_one, qff hF, qltT, qltF, qleT, qleF, qeqT, qeqF, Int.reduceEq, Int.reduceNe, Int.reduceLT, Int.reduceLE, Int.reduceToNat, Int.reduceAdd, Int.reduceSub, Int.reduceMul, Int.reduceNeg, Nat.reduceAdd, Nat.reduceMul, Nat.reduceEqDiff, Nat.reduceLT, Int.cast_ofNat_Int, Int.lt_irrefl, ↓reduceIte, ↓reduceDIte, zbI, zbL, zbA, zbV, qrg, qrg2, qnn, qz, zup_at, zup_r, zup_ne, true_and, and_true, true_or, or_true, and_self, or_self, false_or, or_false, false_and, and_false, Int.toNat_natCast, Int.toNat_add, Int.toNat_mul, Int.toNat_zero, Int.toNat_one, qtn, Int.natCast_add, qnat1, qnat0, ne_eq, not_true_eq_false, not_false_eq_true, eq_self, qbool]
    show _ = some (zI (if v = 0 then 1 else 0), (n, s, S, R, M))
    by_cases h : v = 0
    · rw [if_pos h, if_pos h]
    · rw [if_neg h, if_neg h]
  · simp (disch := omega) only [c_Judge_one, k_root, qff hF, qltT, qltF, qleT, qleF, qeqT, qeqF, Int.reduceEq, Int.reduceNe, Int.reduceLT, Int.reduceLE, Int.reduceToNat, Int.reduceAdd, Int.reduceSub, Int.reduceMul, Int.reduceNeg, Nat.reduceAdd, Nat.reduceMul, Nat.reduceEqDiff, Nat.reduceLT, Int.cast_ofNat_Int, Int.lt_irrefl, ↓reduceIte, ↓reduceDIte, zbI, zbL, zbA, zbV, qrg, qrg2, qnn, qz, zup_at, zup_r, zup_ne, true_and, and_true, true_or, or_true, and_self, or_self, false_or, or_false, false_and, and_false, Int.toNat_natCast, Int.toNat_add, Int.toNat_mul, Int.toNat_zero, Int.toNat_one, qtn, Int.natCast_add, qnat1, qnat0, ne_eq, not_true_eq_false, not_false_eq_true, eq_self, qbool]
    rfl
  · rw [kj_inOak hF hC] at h0
    simp only [zbI] at h0
    simp (disch := omega) only [c_Judge_one, kj_inOak hF hC, h0, qff hF, qltT, qltF, qleT, qleF, qeqT, qeqF, Int.reduceEq, Int.reduceNe, Int.reduceLT, Int.reduceLE, Int.reduceToNat, Int.reduceAdd, Int.reduceSub, Int.reduceMul, Int.reduceNeg, Nat.reduceAdd, Nat.reduceMul, Nat.reduceEqDiff, Nat.reduceLT, Int.cast_ofNat_Int, Int.lt_irrefl, ↓reduceIte, ↓reduceDIte, zbI, zbL, zbA, zbV, qrg, qrg2, qnn, qz, zup_at, zup_r, zup_ne, true_and, and_true, true_or, or_true, and_self, or_self, false_or, or_false, false_and, and_false, Int.toNat_natCast, Int.toNat_add, Int.toNat_mul, Int.toNat_zero, Int.toNat_one, qtn, Int.natCast_add, qnat1, qnat0, ne_eq, not_true_eq_false, not_false_eq_true, eq_self, qbool]
    rfl
end QF
