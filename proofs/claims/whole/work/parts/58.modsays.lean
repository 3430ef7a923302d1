/-! THE MODEL: what a law says -/
/-- a text of the model, at its place, means w -/
def qTx (T : Nat → Int) (b : Nat) (w : qWt) : Prop :=
  ∃ c : Nat, T b = c ∧ c ≤ 24 ∧ ∀ L, L < 3 → match w L with
    | none => ∀ k, k < c → T (b + 1 + 4 * k) ≠ L
    | some D => ∃ k, k < c ∧ T (b + 1 + 4 * k) = L ∧ (∀ k', k' < k → T (b + 1 + 4 * k') ≠ L) ∧ ∃ (C : Nat → Nat × Int) (i j : Nat), T (b + 1 + 4 * k + 1) = i ∧ T (b + 1 + 4 * k + 2) = j ∧ i ≤ j ∧ j ≤ 304 ∧
        (∀ x, i ≤ x → x < j → T (b + 97 + 2 * x) = (C x).1 ∧ T (b + 97 + 2 * x + 1) = (C x).2 ∧ ((C x).1 = 0 → 0 ≤ (C x).2 ∧ (C x).2 ≤ 9999) ∧ ((C x).1 = 1 → 0 ≤ (C x).2 ∧ (C x).2 < 8)) ∧ ∀ E, qGE E → qmr E C (j - i) i [] [] = some ([D E], [])
def qMB (vs : List Int) : Prop := ∀ v ∈ vs, -1000000 ≤ v ∧ v ≤ 1000000
def qMT (ts : List Int) : Prop := ∀ v ∈ ts, v = 0 ∨ v = 1
def qMS (M0 M : Nat → Nat → Int) (vs ts : List Int) : Prop := (∀ a, a ≠ 312 → a ≠ 313 → M a = M0 a) ∧ (qsk (M 312) vs ∧ qMB vs ∧ vs.length ≤ 330) ∧ (qsk (M 313) ts ∧ qMT ts ∧ ts.length ≤ 330)
theorem qMS_push {M0 M : Nat → Nat → Int} {vs ts : List Int} (h : qMS M0 M vs ts) {v : Int} (hv : -1000000 ≤ v ∧ v ≤ 1000000) (hl : vs.length < 330) : qMS M0 (zup M 312 vs.length v) (v :: vs) ts := by
  obtain ⟨h1, ⟨h2, h3, h4⟩, h5, h6, h7⟩ := h
  refine ⟨fun a ha hb => ?_, ⟨⟨zup_at, qsk_low (fun k hk => zup_ne (by omega)) h2⟩, ?_, ?_⟩, ?_, h6, h7⟩
  · funext k
    rw [zup_r ha, h1 a ha hb]
  · intro x hx
    cases hx with
    | head => exact hv
    | tail _ hx => exact h3 x hx
  · show vs.length + 1 ≤ 330
    omega
  · exact qsk_low (fun k hk => zup_r (by decide)) h5
theorem qMS_pop {M0 M : Nat → Nat → Int} {v : Int} {vs ts : List Int} (h : qMS M0 M (v :: vs) ts) : qMS M0 M vs ts := by
  obtain ⟨h1, ⟨h2, h3, h4⟩, h5⟩ := h
  exact ⟨h1, ⟨h2.2, fun x hx => h3 x (List.mem_cons_of_mem _ hx), by simp only [List.length_cons] at h4; omega⟩, h5⟩
theorem qMS_pusht {M0 M : Nat → Nat → Int} {vs ts : List Int} (h : qMS M0 M vs ts) {v : Int} (hv : v = 0 ∨ v = 1) (hl : ts.length < 330) : qMS M0 (zup M 313 ts.length v) vs (v :: ts) := by
  obtain ⟨h1, ⟨h2, h3, h4⟩, h5, h6, h7⟩ := h
  refine ⟨fun a ha hb => ?_, ⟨?_, h3, h4⟩, ⟨zup_at, qsk_low (fun k hk => zup_ne (by omega)) h5⟩, ?_, ?_⟩
  · funext k
    rw [zup_r hb, h1 a ha hb]
  · exact qsk_low (fun k hk => zup_r (by decide)) h2
  · intro x hx
    cases hx with
    | head => exact hv
    | tail _ hx => exact h6 x hx
  · show ts.length + 1 ≤ 330
    omega
theorem qMS_popt {M0 M : Nat → Nat → Int} {v : Int} {vs ts : List Int} (h : qMS M0 M vs (v :: ts)) : qMS M0 M vs ts := by
  obtain ⟨h1, h2, h3, h4, h5⟩ := h
  exact ⟨h1, h2, h3.2, fun x hx => h4 x (List.mem_cons_of_mem _ hx), by simp only [List.length_cons] at h5; omega⟩
theorem qask_in (o : Nat) (a b : Int) : qask o a b = 0 ∨ qask o a b = 1 := by
  unfold qask
  repeat' split
  all_goals omega
theorem qmt_in (o : Nat) (a b : Int) : -1000000 ≤ qmt o a b ∧ qmt o a b ≤ 1000000 := by
  have h1 := qclip_in (a + b)
  have h2 := qclip_in (a - b)
  have h3 := qclip_in (a * b)
  have h4 := qclip_in (a.tdiv b)
  unfold qmt
  repeat' split
  all_goals omega
theorem qmo_in {E : qE} (hE : qGE E) (o : Nat) {v : Int} (hv : -1000000 ≤ v ∧ v ≤ 1000000) : -1000000 ≤ qmo E o v ∧ qmo E o v ≤ 1000000 := by
  have h1 := qroot_in v
  have h2 := hE.2 v
  unfold qmo
  repeat' split
  all_goals omega
theorem qjn_in (o : Nat) {a b : Int} (hb : b = 0 ∨ b = 1) : qjn o a b = 0 ∨ qjn o a b = 1 := by
  unfold qjn
  repeat' split
  all_goals omega
theorem qite1 (c : Prop) [Decidable c] : ((if c then (1 : Int) else 0) = 0) = ¬ c := by by_cases h : c <;> simp [h]
theorem qsome {α β : Type} {a c : α} {b d : β} (h : some (a, b) = some (c, d)) : a = c ∧ b = d := by
  cases h
  exact ⟨rfl, rfl⟩
section QF
variable {S : Nat → Nat × Nat} {R : Nat → Nat → Nat} {M M0 : Nat → Nat → Int} {n s d : Nat} {w : qWt}
theorem km_sum_loop (hF : qFx S R) (hA : qIn (M0 306)) {o y p : Nat} (ho : (o : Int) < M0 306 0) (hy : y < 24) (hp : (p : Int) < M0 306 1) (hN : ∀ k, k < 8 → M0 311 k = (qEn (M0 306) o y p).1 k) {C : Nat → Nat × Int} {b x i0 stop : Nat} (hb : b + 97 + 2 * stop ≤ 2820) (hx : x + 2 < 2820) (hst : M0 308 (x + 2) = stop)
    (hC : ∀ z, i0 ≤ z → z < stop → M0 308 (b + 97 + 2 * z) = (C z).1 ∧ M0 308 (b + 97 + 2 * z + 1) = (C z).2 ∧ ((C z).1 = 0 → 0 ≤ (C z).2 ∧ (C z).2 ≤ 9999) ∧ ((C z).1 = 1 → 0 ≤ (C z).2 ∧ (C z).2 < 8)) {t k : Int} {v : Int} :
    ∀ (m i : Nat) (vs ts : List Int) (M : Nat → Nat → Int) (g8 g9 : zV), qmr (qEn (M0 306) o y p) C m i vs ts = some ([v], []) → i0 ≤ i → i + m = stop → qMS M0 M vs ts →
    ∃ M', zR zPP (d + 5) 242 27 [zA 305, zI t, zI k, zI x, zI ((b + 97 : Nat) : Int), zI vs.length, zI ts.length, zI i, g8, g9] [] (n, s, S, R, M) = some (zL v, (n, s, S, R, M')) ∧ qMS M0 M' [v] [] := by
  have hE := qEn_G hA ho hy hp
  intro m
  induction m with
  | zero =>
    intro i vs ts M g8 g9 h hi0 hi hJ
    cases h
    refine ⟨M, ?_, hJ⟩
    have h308 : M 308 (x + 2) = stop := by rw [hJ.1 308 (by decide) (by decide)]; exact hst
    have h0 : M 312 0 = v := hJ.2.1.1.1
    have his : ¬ (i : Int) < stop := by omega
    rw [e_M_summedUp_27]
    simp (disch := omega) only [h308, his, h0, qff hF, qltT, qltF, qleT, qleF, qeqT, qeqF, Int.reduceEq, Int.reduceNe, Int.reduceLT, Int.reduceLE, Int.reduceToNat, Int.reduceAdd, Int.reduceSub, Int.reduceMul, Int.reduceNeg, Nat.reduceAdd, Nat.reduceMul, Nat.reduceEqDiff, Nat.reduceLT, Int.cast_ofNat_Int, Int.lt_irrefl, ↓reduceIte, ↓reduceDIte, zbI, zbL, zbA, zbV, qrg, qrg2, qnn, qz, zup_at, zup_r, zup_ne, true_and, and_true, true_or, or_true, and_self, or_self, false_or, or_false, false_and, and_false, Int.toNat_natCast, Int.toNat_add, Int.toNat_mul, Int.toNat_zero, Int.toNat_one, qtn, Int.natCast_add, qnat1, qnat0, ne_eq, not_true_eq_false, not_false_eq_true, eq_self, qbool]
  | succ m ih =>
    intro i vs ts M g8 g9 h hi0 hi hJ
    have h308 : M 308 (x + 2) = stop := by rw [hJ.1 308 (by decide) (by decide)]; exact hst
    have his : (i : Int) < stop := by omega
    have hCi := hC i hi0 (by omega)
    have hc1 : M 308 (b + 97 + 2 * i) = (C i).1 := by rw [hJ.1 308 (by decide) (by decide)]; exact hCi.1
    have hc2 : M 308 (b + 97 + 2 * i + 1) = (C i).2 := by rw [hJ.1 308 (by decide) (by decide)]; exact hCi.2.1
    have hl1 := hJ.2.1.2.2
    have hl2 := hJ.2.2.2.2
    unfold qmr at h
    cases hq : qm1 (qEn (M0 306) o y p) (C i).1 (C i).2 vs ts with
    | none => rw [hq] at h; cases h
    | some u =>
      rw [hq] at h
      obtain ⟨vs', ts'⟩ := u
      have h : qmr (qEn (M0 306) o y p) C m (i + 1) vs' ts' = some ([v], []) := h
      have ih' := ih (i + 1) vs' ts'
      have e1 : ((b + 97 + 2 * i : Nat) : Int) = ((b + 97 : Nat) : Int) + 2 * (i : Int) := by omega
      unfold qm1 at hq
      have hCi' := hCi.2.2
      generalize (C i).1 = o1 at *
      generalize (C i).2 = v1 at *
      have hpos : ∀ v vs0, vs = v :: vs0 → -1000000 ≤ v ∧ v ≤ 1000000 := fun v vs0 e => hJ.2.1.2.1 v (by rw [e]; exact List.mem_cons_self ..)
      have hpost : ∀ v ts0, ts = v :: ts0 → v = 0 ∨ v = 1 := fun v ts0 e => hJ.2.2.2.1 v (by rw [e]; exact List.mem_cons_self ..)
      by_cases c1 : o1 ≤ 1
      · rw [if_pos c1] at hq
        by_cases hl : vs.length < 330
        · rw [if_pos hl] at hq
          obtain ⟨rfl, rfl⟩ := qsome hq
          by_cases c0 : o1 = 0
          · have hv1 := hCi'.1 c0
            rw [if_pos c0] at h ih'
            rw [e_M_summedUp_27]
            simp (disch := omega) only [h308, his, hc1, hc2, e_M_summedUp_71, e_M_summedUp_198, qff hF, qltT, qltF, qleT, qleF, qeqT, qeqF, Int.reduceEq, Int.reduceNe, Int.reduceLT, Int.reduceLE, Int.reduceToNat, Int.reduceAdd, Int.reduceSub, Int.reduceMul, Int.reduceNeg, Nat.reduceAdd, Nat.reduceMul, Nat.reduceEqDiff, Nat.reduceLT, Int.cast_ofNat_Int, Int.lt_irrefl, ↓reduceIte, ↓reduceDIte, zbI, zbL, zbA, zbV, qrg, qrg2, qnn, qz, zup_at, zup_r, zup_ne, true_and, and_true, true_or, or_true, and_self, or_self, false_or, or_false, false_and, and_false, Int.toNat_natCast, Int.toNat_add, Int.toNat_mul, Int.toNat_zero, Int.toNat_one, qtn, Int.natCast_add, qnat1, qnat0, ne_eq, not_true_eq_false, not_false_eq_true, eq_self, qbool]
            exact ih' _ _ _ h (by omega) (by omega) (qMS_push hJ (by omega) hl)
          · have hv1 := hCi'.2 (by omega)
            rw [if_neg c0] at h ih'
            obtain ⟨v2, rfl⟩ := Int.eq_ofNat_of_zero_le hv1.1
            have hn : M 311 v2 = (qEn (M0 306) o y p).1 v2 := by rw [hJ.1 311 (by decide) (by decide)]; exact hN v2 (by omega)
            have hin := hE.1 v2
            rw [e_M_summedUp_27]
            simp (disch := omega) only [h308, his, hc1, hc2, e_M_summedUp_71, e_M_summedUp_198, hn, qff hF, qltT, qltF, qleT, qleF, qeqT, qeqF, Int.reduceEq, Int.reduceNe, Int.reduceLT, Int.reduceLE, Int.reduceToNat, Int.reduceAdd, Int.reduceSub, Int.reduceMul, Int.reduceNeg, Nat.reduceAdd, Nat.reduceMul, Nat.reduceEqDiff, Nat.reduceLT, Int.cast_ofNat_Int, Int.lt_irrefl, ↓reduceIte, ↓reduceDIte, zbI, zbL, zbA, zbV, qrg, qrg2, qnn, qz, zup_at, zup_r, zup_ne, true_and, and_true, true_or, or_true, and_self, or_self, false_or, or_false, false_and, and_false, Int.toNat_natCast, Int.toNat_add, Int.toNat_mul, Int.toNat_zero, Int.toNat_one, qtn, Int.natCast_add, qnat1, qnat0, ne_eq, not_true_eq_false, not_false_eq_true, eq_self, qbool]
            exact ih' _ _ _ h (by omega) (by omega) (qMS_push hJ hin hl)
        · rw [if_neg hl] at hq; cases hq
      rw [if_neg c1] at hq
      by_cases c3 : o1 = 3
      · rw [if_pos c3] at hq
        cases vs with
        | nil => cases hq
        | cons v2 vs =>
        cases vs with
        | nil => cases hq
        | cons v3 vs =>
        cases ts with
        | nil => cases hq
        | cons t1 ts =>
        obtain ⟨rfl, rfl⟩ := qsome hq
        have t0 : M 313 ts.length = t1 := hJ.2.2.1.1
        have s0 : M 312 (vs.length + 1) = v2 := hJ.2.1.1.1
        have ht1 := hpost t1 ts rfl
        have hv2 := hpos v2 _ rfl
        have hJ2 := qMS_pop (qMS_popt hJ)
        simp only [List.length_cons] at hl1 hl2
        have z1 : (vs.length : Int) + 1 + 1 + -1 = (vs.length : Int) + 1 := by omega
        have z2 : (vs.length : Int) + 1 - 1 = (vs.length : Int) := by omega
        have z3 : (ts.length : Int) + 1 + -1 = (ts.length : Int) := by omega
        by_cases ht : t1 = 0
        · rw [if_pos ht] at h ih'
          rw [e_M_summedUp_27]
          simp (disch := omega) only [h308, his, hc1, hc2, e_M_summedUp_198, List.length_cons, z1, z2, z3, t0, s0, qff hF, qltT, qltF, qleT, qleF, qeqT, qeqF, Int.reduceEq, Int.reduceNe, Int.reduceLT, Int.reduceLE, Int.reduceToNat, Int.reduceAdd, Int.reduceSub, Int.reduceMul, Int.reduceNeg, Nat.reduceAdd, Nat.reduceMul, Nat.reduceEqDiff, Nat.reduceLT, Int.cast_ofNat_Int, Int.lt_irrefl, ↓reduceIte, ↓reduceDIte, zbI, zbL, zbA, zbV, qrg, qrg2, qnn, qz, zup_at, zup_r, zup_ne, true_and, and_true, true_or, or_true, and_self, or_self, false_or, or_false, false_and, and_false, Int.toNat_natCast, Int.toNat_add, Int.toNat_mul, Int.toNat_zero, Int.toNat_one, qtn, Int.natCast_add, qnat1, qnat0, ne_eq, not_true_eq_false, not_false_eq_true, eq_self, qbool]
          exact ih' _ _ _ h (by omega) (by omega) (qMS_push (qMS_pop hJ2) hv2 (by omega))
        · rw [if_neg ht] at h ih'
          rw [e_M_summedUp_27]
          simp (disch := omega) only [h308, his, hc1, hc2, e_M_summedUp_198, List.length_cons, z1, z2, z3, t0, s0, qff hF, qltT, qltF, qleT, qleF, qeqT, qeqF, Int.reduceEq, Int.reduceNe, Int.reduceLT, Int.reduceLE, Int.reduceToNat, Int.reduceAdd, Int.reduceSub, Int.reduceMul, Int.reduceNeg, Nat.reduceAdd, Nat.reduceMul, Nat.reduceEqDiff, Nat.reduceLT, Int.cast_ofNat_Int, Int.lt_irrefl, ↓reduceIte, ↓reduceDIte, zbI, zbL, zbA, zbV, qrg, qrg2, qnn, qz, zup_at, zup_r, zup_ne, true_and, and_true, true_or, or_true, and_self, or_self, false_or, or_false, false_and, and_false, Int.toNat_natCast, Int.toNat_add, Int.toNat_mul, Int.toNat_zero, Int.toNat_one, qtn, Int.natCast_add, qnat1, qnat0, ne_eq, not_true_eq_false, not_false_eq_true, eq_self, qbool]
          exact ih' _ _ _ h (by omega) (by omega) hJ2
      rw [if_neg c3] at hq
      by_cases c5 : o1 ≤ 5
      · rw [if_pos c5] at hq
        cases vs with
        | nil => cases hq
        | cons v2 vs =>
        obtain ⟨rfl, rfl⟩ := qsome hq
        have s0 : M 312 vs.length = v2 := hJ.2.1.1.1
        have hv2 := hpos v2 _ rfl
        have h306 : M 306 = M0 306 := hJ.1 306 (by decide) (by decide)
        have hof := km_ofOne (n := n) (s := s) (d := d) (S := S) (R := R) (M := M) (o := o) (y := y) (p := p) (o1 := o1) hF (by rw [h306]; exact hA) hv2
        rw [h306] at hof
        simp only [List.length_cons] at hl1
        have z2 : (vs.length : Int) + 1 - 1 = (vs.length : Int) := by omega
        rw [e_M_summedUp_27]
        simp (disch := omega) only [h308, his, hc1, hc2, e_M_summedUp_198, List.length_cons, z2, s0, hof, qff hF, qltT, qltF, qleT, qleF, qeqT, qeqF, Int.reduceEq, Int.reduceNe, Int.reduceLT, Int.reduceLE, Int.reduceToNat, Int.reduceAdd, Int.reduceSub, Int.reduceMul, Int.reduceNeg, Nat.reduceAdd, Nat.reduceMul, Nat.reduceEqDiff, Nat.reduceLT, Int.cast_ofNat_Int, Int.lt_irrefl, ↓reduceIte, ↓reduceDIte, zbI, zbL, zbA, zbV, qrg, qrg2, qnn, qz, zup_at, zup_r, zup_ne, true_and, and_true, true_or, or_true, and_self, or_self, false_or, or_false, false_and, and_false, Int.toNat_natCast, Int.toNat_add, Int.toNat_mul, Int.toNat_zero, Int.toNat_one, qtn, Int.natCast_add, qnat1, qnat0, ne_eq, not_true_eq_false, not_false_eq_true, eq_self, qbool]
        exact ih' _ _ _ h (by omega) (by omega) (qMS_push (qMS_pop hJ) (qmo_in hE o1 hv2) (by omega))
      rw [if_neg c5] at hq
      by_cases c10 : o1 < 10
      · rw [if_pos c10] at hq
        cases vs with
        | nil => cases hq
        | cons v2 vs =>
        cases vs with
        | nil => cases hq
        | cons v3 vs =>
        obtain ⟨rfl, rfl⟩ := qsome hq
        have s0 : M 312 (vs.length + 1) = v2 := hJ.2.1.1.1
        have s1 : M 312 vs.length = v3 := hJ.2.1.1.2.1
        have hv2 := hpos v2 _ rfl
        have hv3 := (qMS_pop hJ).2.1.2.1 v3 (List.mem_cons_self ..)
        simp only [List.length_cons] at hl1
        have z1 : (vs.length : Int) + 1 + 1 + -1 = (vs.length : Int) + 1 := by omega
        have z2 : (vs.length : Int) + 1 - 1 = (vs.length : Int) := by omega
        rw [e_M_summedUp_27]
        simp (disch := omega) only [h308, his, hc1, hc2, e_M_summedUp_198, List.length_cons, z1, z2, s0, s1, km_two hv3 hv2, qff hF, qltT, qltF, qleT, qleF, qeqT, qeqF, Int.reduceEq, Int.reduceNe, Int.reduceLT, Int.reduceLE, Int.reduceToNat, Int.reduceAdd, Int.reduceSub, Int.reduceMul, Int.reduceNeg, Nat.reduceAdd, Nat.reduceMul, Nat.reduceEqDiff, Nat.reduceLT, Int.cast_ofNat_Int, Int.lt_irrefl, ↓reduceIte, ↓reduceDIte, zbI, zbL, zbA, zbV, qrg, qrg2, qnn, qz, zup_at, zup_r, zup_ne, true_and, and_true, true_or, or_true, and_self, or_self, false_or, or_false, false_and, and_false, Int.toNat_natCast, Int.toNat_add, Int.toNat_mul, Int.toNat_zero, Int.toNat_one, qtn, Int.natCast_add, qnat1, qnat0, ne_eq, not_true_eq_false, not_false_eq_true, eq_self, qbool]
        exact ih' _ _ _ h (by omega) (by omega) (qMS_push (qMS_pop (qMS_pop hJ)) (qmt_in o1 v3 v2) (by omega))
      rw [if_neg c10] at hq
      by_cases c20 : o1 < 20
      · rw [if_pos c20] at hq
        cases vs with
        | nil => cases hq
        | cons v2 vs =>
        cases vs with
        | nil => cases hq
        | cons v3 vs =>
        by_cases hl : ts.length < 330
        · replace hq : some (vs, qask o1 v3 v2 :: ts) = some (vs', ts') := by
            rw [← hq]
            exact (if_pos hl).symm
          obtain ⟨rfl, rfl⟩ := qsome hq
          have s0 : M 312 (vs.length + 1) = v2 := hJ.2.1.1.1
          have s1 : M 312 vs.length = v3 := hJ.2.1.1.2.1
          have hk := qask_in o1 v3 v2
          simp only [List.length_cons] at hl1
          have z1 : (vs.length : Int) + 1 + 1 + -2 = (vs.length : Int) := by omega
          rw [e_M_summedUp_27]
          simp (disch := omega) only [h308, his, hc1, hc2, e_M_summedUp_198, List.length_cons, z1, s0, s1, km_isAsked, hk, qff hF, qltT, qltF, qleT, qleF, qeqT, qeqF, Int.reduceEq, Int.reduceNe, Int.reduceLT, Int.reduceLE, Int.reduceToNat, Int.reduceAdd, Int.reduceSub, Int.reduceMul, Int.reduceNeg, Nat.reduceAdd, Nat.reduceMul, Nat.reduceEqDiff, Nat.reduceLT, Int.cast_ofNat_Int, Int.lt_irrefl, ↓reduceIte, ↓reduceDIte, zbI, zbL, zbA, zbV, qrg, qrg2, qnn, qz, zup_at, zup_r, zup_ne, true_and, and_true, true_or, or_true, and_self, or_self, false_or, or_false, false_and, and_false, Int.toNat_natCast, Int.toNat_add, Int.toNat_mul, Int.toNat_zero, Int.toNat_one, qtn, Int.natCast_add, qnat1, qnat0, ne_eq, not_true_eq_false, not_false_eq_true, eq_self, qbool]
          exact ih' _ _ _ h (by omega) (by omega) (qMS_pusht (qMS_pop (qMS_pop hJ)) hk hl)
        · replace hq : none = some (vs', ts') := by
            rw [← hq]
            exact (if_neg hl).symm
          cases hq
      rw [if_neg c20] at hq
      by_cases c21 : o1 = 20
      · rw [if_pos c21] at hq
        cases ts with
        | nil => cases hq
        | cons t1 ts =>
        obtain ⟨rfl, rfl⟩ := qsome hq
        have t0 : M 313 ts.length = t1 := hJ.2.2.1.1
        simp only [List.length_cons] at hl2
        have z3 : (ts.length : Int) + 1 - 1 = (ts.length : Int) := by omega
        have hJ2 := qMS_popt hJ
        by_cases ht : t1 = 0
        · rw [if_pos ht] at h ih'
          rw [e_M_summedUp_27]
          simp (disch := omega) only [h308, his, hc1, hc2, e_M_summedUp_177, e_M_summedUp_198, List.length_cons, z3, t0, qff hF, qltT, qltF, qleT, qleF, qeqT, qeqF, Int.reduceEq, Int.reduceNe, Int.reduceLT, Int.reduceLE, Int.reduceToNat, Int.reduceAdd, Int.reduceSub, Int.reduceMul, Int.reduceNeg, Nat.reduceAdd, Nat.reduceMul, Nat.reduceEqDiff, Nat.reduceLT, Int.cast_ofNat_Int, Int.lt_irrefl, ↓reduceIte, ↓reduceDIte, zbI, zbL, zbA, zbV, qrg, qrg2, qnn, qz, zup_at, zup_r, zup_ne, true_and, and_true, true_or, or_true, and_self, or_self, false_or, or_false, false_and, and_false, Int.toNat_natCast, Int.toNat_add, Int.toNat_mul, Int.toNat_zero, Int.toNat_one, qtn, Int.natCast_add, qnat1, qnat0, ne_eq, not_true_eq_false, not_false_eq_true, eq_self, qbool]
          exact ih' _ _ _ h (by omega) (by omega) (qMS_pusht hJ2 (Or.inr rfl) (by omega))
        · rw [if_neg ht] at h ih'
          rw [e_M_summedUp_27]
          simp (disch := omega) only [h308, his, hc1, hc2, e_M_summedUp_177, e_M_summedUp_198, List.length_cons, z3, t0, qff hF, qltT, qltF, qleT, qleF, qeqT, qeqF, Int.reduceEq, Int.reduceNe, Int.reduceLT, Int.reduceLE, Int.reduceToNat, Int.reduceAdd, Int.reduceSub, Int.reduceMul, Int.reduceNeg, Nat.reduceAdd, Nat.reduceMul, Nat.reduceEqDiff, Nat.reduceLT, Int.cast_ofNat_Int, Int.lt_irrefl, ↓reduceIte, ↓reduceDIte, zbI, zbL, zbA, zbV, qrg, qrg2, qnn, qz, zup_at, zup_r, zup_ne, true_and, and_true, true_or, or_true, and_self, or_self, false_or, or_false, false_and, and_false, Int.toNat_natCast, Int.toNat_add, Int.toNat_mul, Int.toNat_zero, Int.toNat_one, qtn, Int.natCast_add, qnat1, qnat0, ne_eq, not_true_eq_false, not_false_eq_true, eq_self, qbool]
          exact ih' _ _ _ h (by omega) (by omega) (qMS_pusht hJ2 (Or.inl rfl) (by omega))
      rw [if_neg c21] at hq
      cases ts with
      | nil => cases hq
      | cons t2 ts =>
      cases ts with
      | nil => cases hq
      | cons t1 ts =>
      obtain ⟨rfl, rfl⟩ := qsome hq
      have t0 : M 313 (ts.length + 1) = t2 := hJ.2.2.1.1
      have t0' : M 313 ts.length = t1 := hJ.2.2.1.2.1
      have ht2 := hpost t2 _ rfl
      have ht1 := (qMS_popt hJ).2.2.2.1 t1 (List.mem_cons_self ..)
      have hk := qjn_in o1 (a := t1) ht2
      simp only [List.length_cons] at hl2
      have z1 : (ts.length : Int) + 1 + 1 + -1 = (ts.length : Int) + 1 := by omega
      have z3 : (ts.length : Int) + 1 - 1 = (ts.length : Int) := by omega
      rw [e_M_summedUp_27]
      simp (disch := omega) only [h308, his, hc1, hc2, e_M_summedUp_198, List.length_cons, z1, z3, t0, t0', km_joined o1 ht1 ht2, hk, qff hF, qltT, qltF, qleT, qleF, qeqT, qeqF, Int.reduceEq, Int.reduceNe, Int.reduceLT, Int.reduceLE, Int.reduceToNat, Int.reduceAdd, Int.reduceSub, Int.reduceMul, Int.reduceNeg, Nat.reduceAdd, Nat.reduceMul, Nat.reduceEqDiff, Nat.reduceLT, Int.cast_ofNat_Int, Int.lt_irrefl, ↓reduceIte, ↓reduceDIte, zbI, zbL, zbA, zbV, qrg, qrg2, qnn, qz, zup_at, zup_r, zup_ne, true_and, and_true, true_or, or_true, and_self, or_self, false_or, or_false, false_and, and_false, Int.toNat_natCast, Int.toNat_add, Int.toNat_mul, Int.toNat_zero, Int.toNat_one, qtn, Int.natCast_add, qnat1, qnat0, ne_eq, not_true_eq_false, not_false_eq_true, eq_self, qbool]
      exact ih' _ _ _ h (by omega) (by omega) (qMS_pusht (qMS_popt (qMS_popt hJ)) hk (by omega))
end QF
