/-! WHAT A LAW SAYS, WHAT AN AGE IS: the class -/
theorem qlpE {α : Type} {E : α → Prop} {P : Nat → α → zO} {N : Nat} (hs : ∀ i x, i < N → E x → ∃ y, E y ∧ P i x = P (i + 1) y) (x : α) (h0 : E x) : ∃ y, E y ∧ P 0 x = P N y := by
  have : ∀ k, k ≤ N → ∃ y, E y ∧ P 0 x = P k y := by
    intro k
    induction k with
    | zero => intro _; exact ⟨x, h0, rfl⟩
    | succ k ih =>
      intro h
      obtain ⟨y, hy, e⟩ := ih (by omega)
      obtain ⟨z, hz, e2⟩ := hs k y (by omega) hy
      exact ⟨z, hz, e.trans e2⟩
  exact this N (Nat.le_refl N)
abbrev qWt : Type := Nat → Option (qE → Int)
def qGE (E : qE) : Prop := (∀ k, -1000000 ≤ E.1 k ∧ E.1 k ≤ 1000000) ∧ ∀ v, 0 ≤ E.2 v ∧ E.2 v ≤ 24
def qLaw (w : qWt) (E : qE) (L : Nat) (k : Int) : Int := match w L with
  | none => qwo L k
  | some D => qcl L (D E)
/-- a Text of the class means w -/
def qTm (S : Nat → Nat × Nat) (R : Nat → Nat → Nat) (M : Nat → Nat → Int) (q : Nat) (w : qWt) : Prop :=
  ∃ (O : Nat → Nat × Nat) (len : Nat) (lo hi : Nat → Int), qTC S R M q O len lo hi ∧ ∀ L, L < 3 → match w L with
    | none => lo L = -1
    | some D => ∃ i j : Nat, lo L = i ∧ hi L = j ∧ j ≤ len ∧ ∀ E, qGE E → ∃ m, qcr E O j m i [] = some (j, [D E])
def qTn (S : Nat → Nat × Nat) (R : Nat → Nat → Nat) (M : Nat → Nat → Int) (q : Nat) (w : qWt) : Prop := (q = 0 ∧ ∀ L, w L = none) ∨ (q ≠ 0 ∧ qTm S R M q w)
/-- the constants -/
def qSt (M : Nat → Nat → Int) : Prop := (∀ j, M 2 j = znth 0 [-99, -9, 0] j) ∧ (∀ j, M 3 j = znth 0 [99, 99, 10] j) ∧ (∀ j, M 6 j = znth 0 zb0 j) ∧ (∀ j, M 7 j = znth 0 zb1 j) ∧ M 4 1 = 0 ∧ M 5 1 = 0
theorem qTm_x {S : Nat → Nat × Nat} {R : Nat → Nat → Nat} {M M' : Nat → Nat → Int} {q : Nat} {w : qWt} (h : ∀ a, 319 ≤ a → M' a = M a) (hq : qTm S R M q w) : qTm S R M' q w := by
  obtain ⟨O, len, lo, hi, h1, h2⟩ := hq
  exact ⟨O, len, lo, hi, qTC_x h h1, h2⟩
theorem qTn_x {S : Nat → Nat × Nat} {R : Nat → Nat → Nat} {M M' : Nat → Nat → Int} {q : Nat} {w : qWt} (h : ∀ a, 319 ≤ a → M' a = M a) (hq : qTn S R M q w) : qTn S R M' q w := by
  rcases hq with h1 | ⟨h1, h2⟩
  · exact Or.inl h1
  · exact Or.inr ⟨h1, qTm_x h h2⟩
theorem qEn_G {A : Nat → Int} (hA : qIn A) {o y p : Nat} (ho : (o : Int) < A 0) (hy : y < 24) (hp : (p : Int) < A 1) : qGE (qEn A o y p) := by
  refine ⟨fun k => ?_, fun v => ?_⟩
  · have := qEn_in hA ho hy hp k
    omega
  · show 0 ≤ (if 0 ≤ v ∧ v < A 0 then ((qic A v.toNat : Nat) : Int) else 0) ∧ (if 0 ≤ v ∧ v < A 0 then ((qic A v.toNat : Nat) : Int) else 0) ≤ 24
    have : qic A v.toNat ≤ 24 := zct_le _ 24
    split <;> omega
theorem qcl_eq (L : Nat) (v : Int) : (if v < znth 0 [-99, -9, 0] L then znth 0 [-99, -9, 0] L else if znth 0 [99, 99, 10] L < v then znth 0 [99, 99, 10] L else v) = qcl L v := rfl
theorem qLaw1 (w : qWt) (E : qE) (k : Int) : -9 ≤ qLaw w E 1 k ∧ qLaw w E 1 k ≤ 99 := by
  unfold qLaw
  cases w 1 with
  | none =>
    show -9 ≤ qwo 1 k ∧ qwo 1 k ≤ 99
    unfold qwo
    repeat' split
    all_goals omega
  | some D =>
    show -9 ≤ qcl 1 (D E) ∧ qcl 1 (D E) ≤ 99
    show -9 ≤ (if D E < -9 then -9 else if 99 < D E then 99 else D E) ∧ (if D E < -9 then -9 else if 99 < D E then 99 else D E) ≤ 99
    repeat' split
    all_goals omega
theorem qLaw2 (w : qWt) (E : qE) (k : Int) : 0 ≤ qLaw w E 2 k ∧ qLaw w E 2 k ≤ 10 := by
  unfold qLaw
  cases w 2 with
  | none =>
    show 0 ≤ (7 : Int) ∧ (7 : Int) ≤ 10
    decide
  | some D =>
    show 0 ≤ (if D E < 0 then 0 else if 10 < D E then 10 else D E) ∧ (if D E < 0 then 0 else if 10 < D E then 10 else D E) ≤ 10
    repeat' split
    all_goals omega
/-- what the rings of oak o, years below n, put on the age of p -/
def qag (A : Nat → Int) (w : qWt) (p o : Nat) : Nat → Int := qS (fun y => if A (11 + 24 * o + y) = 3 + p then qLaw w (qEn A o y p) 1 (A (136 + y)) else 0)
def qAge (A : Nat → Int) (w : qWt) (p : Nat) : Int := A (131 + p) + qS (fun o => qag A w p o 24) (A 0).toNat
theorem qag_in (A : Nat → Int) (w : qWt) (p o n : Nat) : -9 * n ≤ qag A w p o n ∧ qag A w p o n ≤ 99 * n := by
  have h : ∀ y, -9 ≤ (if A (11 + 24 * o + y) = 3 + p then qLaw w (qEn A o y p) 1 (A (136 + y)) else 0) ∧ (if A (11 + 24 * o + y) = 3 + p then qLaw w (qEn A o y p) 1 (A (136 + y)) else 0) ≤ 99 := fun y => by
    have := qLaw1 w (qEn A o y p) (A (136 + y))
    split <;> omega
  exact ⟨qS_ge fun i _ => (h i).1, qS_le fun i _ => (h i).2⟩
theorem qagS_in (A : Nat → Int) (w : qWt) (p n : Nat) : -216 * n ≤ qS (fun o => qag A w p o 24) n ∧ qS (fun o => qag A w p o 24) n ≤ 2376 * n := by
  refine ⟨qS_ge fun i _ => ?_, qS_le fun i _ => ?_⟩
  · have := (qag_in A w p i 24).1; omega
  · have := (qag_in A w p i 24).2; omega
section QF
variable {S : Nat → Nat × Nat} {R : Nat → Nat → Nat} {M : Nat → Nat → Int} {n s d : Nat} {A : Nat → Int} {q r : Nat} {w : qWt}
theorem k_without (L : Nat) (k : Int) (σ : zS) : zcal zPP (d + 1) 97 [zI L, zI k] σ = some (zI (qwo L k), σ) := by
  rw [c_Judge_without]
  unfold qwo
  by_cases h2 : L = 2
  · rw [if_pos (by omega), if_pos h2]
  · rw [if_neg (by omega), if_neg h2]
    by_cases h0 : L = 0
    · rw [if_pos (by omega), if_pos h0]
    · rw [if_neg (by omega), if_neg h0]
      by_cases h3 : k = 1
      · rw [if_pos h3, if_pos h3]
      · rw [if_neg h3, if_neg h3]
        by_cases h4 : k = 2
        · rw [if_pos h4, if_pos h4]
        · rw [if_neg h4, if_neg h4]
theorem kj_says (hF : qFx S R) (hS : qSt M) (hq : qTn S R M q w) (hC : qCE S R M r A) {L o y p : Nat} (hL : L < 3) (ho : (o : Int) < A 0) (hy : y < 24) (hp : (p : Int) < A 1) :
    ∃ M', zcal zPP (d + 6) 96 [zA 284, zI L, zA q, zA r, zI o, zI y, zI p] (n, s, S, R, M) = some (zI (qLaw w (qEn A o y p) L (A (136 + y))), (n, s, S, R, M')) ∧ ∀ a, a ≠ 284 → a ≠ 285 → M' a = M a := by
  have hk : M 12 y = A (136 + y) := hC.1.2.2.1 y hy
  rcases hq with ⟨hq0, hw⟩ | ⟨hq0, O, len, lo, hi, h1, h2⟩
  · refine ⟨M, ?_, fun _ _ _ => rfl⟩
    subst hq0
    have e : qLaw w (qEn A o y p) L (A (136 + y)) = qwo L (A (136 + y)) := by unfold qLaw; rw [hw L]
    simp (disch := omega) only [c_Judge_says, k_isYearX, hk, k_without, e, qff hF, qltT, qltF, qleT, qleF, qeqT, qeqF, Int.reduceEq, Int.reduceNe, Int.reduceLT, Int.reduceLE, Int.reduceToNat, Int.reduceAdd, Int.reduceSub, Int.reduceMul, Int.reduceNeg, Nat.reduceAdd, Nat.reduceMul, Nat.reduceEqDiff, Nat.reduceLT, Int.cast_ofNat_Int, Int.lt_irrefl, ↓reduceIte, ↓reduceDIte, zbI, zbL, zbA, zbV, qrg, qrg2, qnn, qz, zup_at, zup_r, zup_ne, true_and, and_true, true_or, or_true, and_self, or_self, false_or, or_false, false_and, and_false, Int.toNat_natCast, Int.toNat_add, Int.toNat_mul, Int.toNat_zero, Int.toNat_one, qtn, Int.natCast_add, qnat1, qnat0, ne_eq, not_true_eq_false, not_false_eq_true, eq_self, qbool]
  · have h2L := h2 L hL
    have hS7 := h1.1.1
    cases hw : w L with
    | none =>
      refine ⟨M, ?_, fun _ _ _ => rfl⟩
      rw [hw] at h2L
      have h2L : lo L = -1 := h2L
      have e : qLaw w (qEn A o y p) L (A (136 + y)) = qwo L (A (136 + y)) := by unfold qLaw; rw [hw]
      simp (disch := omega) only [c_Judge_says, hq0, hS7, kt_start h1 hL, h2L, k_isYearX, hk, k_without, e, qff hF, qltT, qltF, qleT, qleF, qeqT, qeqF, Int.reduceEq, Int.reduceNe, Int.reduceLT, Int.reduceLE, Int.reduceToNat, Int.reduceAdd, Int.reduceSub, Int.reduceMul, Int.reduceNeg, Nat.reduceAdd, Nat.reduceMul, Nat.reduceEqDiff, Nat.reduceLT, Int.cast_ofNat_Int, Int.lt_irrefl, ↓reduceIte, ↓reduceDIte, zbI, zbL, zbA, zbV, qrg, qrg2, qnn, qz, zup_at, zup_r, zup_ne, true_and, and_true, true_or, or_true, and_self, or_self, false_or, or_false, false_and, and_false, Int.toNat_natCast, Int.toNat_add, Int.toNat_mul, Int.toNat_zero, Int.toNat_one, qtn, Int.natCast_add, qnat1, qnat0, ne_eq, not_true_eq_false, not_false_eq_true, eq_self, qbool]
    | some D =>
      rw [hw] at h2L
      obtain ⟨i, j, e1, e2, e3, e4⟩ : ∃ i j : Nat, lo L = i ∧ hi L = j ∧ j ≤ len ∧ ∀ E, qGE E → ∃ m, qcr E O j m i [] = some (j, [D E]) := h2L
      obtain ⟨m, hm⟩ := e4 (qEn A o y p) (qEn_G hC.2.1 ho hy hp)
      have hJ : qJS M (zup M 284 2 0) [] := ⟨fun a h _ => by funext k; exact zup_r h, zup_at, trivial, fun _ h => absurd h (List.not_mem_nil), by decide⟩
      obtain ⟨M', h3, h4⟩ := kj_loop (n := n) (s := s) (d := d) (law := L) hF h1 hC ho hy hp e3 m i [] 0 _ zU zU zU hm hJ (Nat.zero_le _)
      refine ⟨M', ?_, h4.1⟩
      have hm2 : M' 2 L = znth 0 [-99, -9, 0] L := by rw [h4.1 2 (by decide) (by decide)]; exact hS.1 L
      have hm3 : M' 3 L = znth 0 [99, 99, 10] L := by rw [h4.1 3 (by decide) (by decide)]; exact hS.2.1 L
      have e : qLaw w (qEn A o y p) L (A (136 + y)) = qcl L (D (qEn A o y p)) := by unfold qLaw; rw [hw]
      have i0 : ((0 : Nat) : Int) = 0 := rfl
      rw [i0] at h3
      simp (disch := omega) only [c_Judge_says, c_Judge_valueOf, hq0, hS7, kt_start h1 hL, kt_stop h1 hL, e1, e2, h3, hm2, hm3, e, qff hF, qltT, qltF, qleT, qleF, qeqT, qeqF, Int.reduceEq, Int.reduceNe, Int.reduceLT, Int.reduceLE, Int.reduceToNat, Int.reduceAdd, Int.reduceSub, Int.reduceMul, Int.reduceNeg, Nat.reduceAdd, Nat.reduceMul, Nat.reduceEqDiff, Nat.reduceLT, Int.cast_ofNat_Int, Int.lt_irrefl, ↓reduceIte, ↓reduceDIte, zbI, zbL, zbA, zbV, qrg, qrg2, qnn, qz, zup_at, zup_r, zup_ne, true_and, and_true, true_or, or_true, and_self, or_self, false_or, or_false, false_and, and_false, Int.toNat_natCast, Int.toNat_add, Int.toNat_mul, Int.toNat_zero, Int.toNat_one, qtn, Int.natCast_add, qnat1, qnat0, ne_eq, not_true_eq_false, not_false_eq_true, eq_self, qbool]
      show _ = some (zI (if D (qEn A o y p) < znth 0 [-99, -9, 0] L then znth 0 [-99, -9, 0] L else if znth 0 [99, 99, 10] L < D (qEn A o y p) then znth 0 [99, 99, 10] L else D (qEn A o y p)), _)
      by_cases c1 : D (qEn A o y p) < znth 0 [-99, -9, 0] L
      · rw [if_pos c1, if_pos c1]
      · rw [if_neg c1, if_neg c1]
        by_cases c2 : znth 0 [99, 99, 10] L < D (qEn A o y p)
        · rw [if_pos c2, if_pos c2]
        · rw [if_neg c2, if_neg c2]
theorem qSt_x {M M' : Nat → Nat → Int} (h : ∀ a, a < 9 → M' a = M a) (hS : qSt M) : qSt M' := by
  unfold qSt at *
  rw [h 2 (by decide), h 3 (by decide), h 4 (by decide), h 5 (by decide), h 6 (by decide), h 7 (by decide)]
  exact hS
theorem kx_ageOf (hF : qFx S R) (hS : qSt M) (hq : qTn S R M q w) (hC : qCE S R M r A) {p : Nat} (hp : (p : Int) < A 1) :
    ∃ M', zcal zPP (d + 7) 43 [zA 9, zA r, zA q, zI p] (n, s, S, R, M) = some (zI (qAge A w p), (n, s, S, R, M')) ∧ ∀ a, a ≠ 284 → a ≠ 285 → M' a = M a := by
  have hT := hC.1
  have hA := hC.2.1
  have hp5 := hA.2.1.2
  have ha5 := hA.1.2
  have how := hA.2.2.2.2.2.2.2.2.2.2.2.2.2.1 p (by omega)
  obtain ⟨a, ha⟩ := Int.eq_ofNat_of_zero_le hA.1.1
  have L2 : ∀ (o : Nat), (o : Int) < A 0 → ∀ M1, (∀ a, a ≠ 284 → a ≠ 285 → M1 a = M a) → ∃ M2, (∀ a, a ≠ 284 → a ≠ 285 → M2 a = M a) ∧
      zR zPP (d + 6) 43 27 [zA 9, zA r, zA q, zI p, zI (A (131 + p) + qS (fun o => qag A w p o 24) o), zI o, zI (zsn (fun y => decide (qg A o y = 3 + p)) 24 : Nat), zI 0] [] (n, s, S, R, M1) =
      zR zPP (d + 6) 43 27 [zA 9, zA r, zA q, zI p, zI (A (131 + p) + qS (fun o => qag A w p o 24) o + qag A w p o 24), zI o, zI (zsn (fun y => decide (qg A o y = 3 + p)) 24 : Nat), zI ((24 : Nat) : Int)] [] (n, s, S, R, M2) := by
    intro o ho M1 hM1
    have := qlpE (E := fun M1 : Nat → Nat → Int => ∀ a, a ≠ 284 → a ≠ 285 → M1 a = M a)
      (P := fun y M1 => zR zPP (d + 6) 43 27 [zA 9, zA r, zA q, zI p, zI (A (131 + p) + qS (fun o => qag A w p o 24) o + qag A w p o y), zI o, zI (zsn (fun y => decide (qg A o y = 3 + p)) 24 : Nat), zI (y : Nat)] [] (n, s, S, R, M1)) (N := 24) (fun y M1 hy hM1 => by
        have b1 := qagS_in A w p o
        have b2 := qag_in A w p o y
        have b3 := qLaw1 w (qEn A o y p) (A (136 + y))
        have e0 : qag A w p o (y + 1) = qag A w p o y + (if A (11 + 24 * o + y) = 3 + p then qLaw w (qEn A o y p) 1 (A (136 + y)) else 0) := rfl
        by_cases hc : A (11 + 24 * o + y) = 3 + p
        · obtain ⟨M2, h1, h2⟩ := kj_says (n := n) (s := s) (d := d) hF (qSt_x (fun a ha => hM1 a (by omega) (by omega)) hS) (qTn_x (fun a ha => hM1 a (by omega) (by omega)) hq) (qCE_x hM1 hC) (L := 1) (by decide) ho hy hp
          refine ⟨M2, fun a x1 x2 => (h2 a x1 x2).trans (hM1 a x1 x2), ?_⟩
          have h1' : zcal zPP (d + 6) 96 [zA 284, zI 1, zA q, zA r, zI o, zI y, zI p] (n, s, S, R, M1) = some (zI (qLaw w (qEn A o y p) 1 (A (136 + y))), (n, s, S, R, M2)) := h1
          show zR _ _ _ _ _ _ _ = zR _ _ _ _ _ _ _
          rw [e_X_ageOf_27, if_pos (show (y : Int) < 24 by omega), zsn_bit24 _ hy, if_pos (show decide (qg A o y = 3 + (p : Int)) = true from decide_eq_true (by rw [qg_in ho]; exact hc)), if_pos rfl]
          simp only [qff hF, if_true, h1', zbI]
          rw [e0, if_pos hc, qw1 (show y < 100000 by omega), qz (by omega) (by omega), Int.add_assoc]
        · refine ⟨M1, hM1, ?_⟩
          show zR _ _ _ _ _ _ _ = zR _ _ _ _ _ _ _
          rw [e_X_ageOf_27, if_pos (show (y : Int) < 24 by omega), zsn_bit24 _ hy, if_neg (show ¬ decide (qg A o y = 3 + (p : Int)) = true from fun z => hc (by rw [← qg_in ho]; exact of_decide_eq_true z)), if_neg (by decide), e0, if_neg hc, qw1 (show y < 100000 by omega), Int.add_zero]) M1 hM1
    obtain ⟨M2, h1, h2⟩ := this
    exact ⟨M2, h1, (show _ from by
      have e : qag A w p o 0 = 0 := rfl
      simp only [e, Int.add_zero] at h2
      exact h2)⟩
  have L1 := qlpE (E := fun x : (Nat → Nat → Int) × zV × zV => ∀ a, a ≠ 284 → a ≠ 285 → x.1 a = M a)
      (P := fun o x => zR zPP (d + 6) 43 15 [zA 9, zA r, zA q, zI p, zI (A (131 + p) + qS (fun o => qag A w p o 24) o), zI (o : Nat), x.2.1, x.2.2] [] (n, s, S, R, x.1)) (N := a) (fun o x ho hx => by
        have hoA : (o : Int) < A 0 := by omega
        have hT1 := (qCE_x hx hC).1.1.1
        obtain ⟨M2, h1, h2⟩ := L2 o hoA x.1 hx
        have hgo := (qCE_x hx hC).2.2.2.2.1.1 o p (by omega) (by omega)
        refine ⟨(M2, zI (zsn (fun y => decide (qg A o y = 3 + (p : Int))) 24 : Nat), zI ((24 : Nat) : Int)), h1, ?_⟩
        show zR _ _ _ _ _ _ _ = zR _ _ _ _ _ _ _
        rw [e_X_ageOf_15]
        simp (disch := omega) only [hT1, k_with hC.2.2.2.1 (show o < 5 by omega) (show p < 5 by omega), hgo, qff hF, qltT, qltF, qleT, qleF, qeqT, qeqF, Int.reduceEq, Int.reduceNe, Int.reduceLT, Int.reduceLE, Int.reduceToNat, Int.reduceAdd, Int.reduceSub, Int.reduceMul, Int.reduceNeg, Nat.reduceAdd, Nat.reduceMul, Nat.reduceEqDiff, Nat.reduceLT, Int.cast_ofNat_Int, Int.lt_irrefl, ↓reduceIte, ↓reduceDIte, zbI, zbL, zbA, zbV, qrg, qrg2, qnn, qz, zup_at, zup_r, zup_ne, true_and, and_true, true_or, or_true, and_self, or_self, false_or, or_false, false_and, and_false, Int.toNat_natCast, Int.toNat_add, Int.toNat_mul, Int.toNat_zero, Int.toNat_one, qtn, Int.natCast_add, qnat1, qnat0, ne_eq, not_true_eq_false, not_false_eq_true, eq_self, qbool]
        rw [h2, e_X_ageOf_27, if_neg (by decide), qw1 (show o < 100000 by omega), qS_s, Int.add_assoc]
        rfl) (M, zU, zU) (fun _ _ _ => rfl)
  obtain ⟨x, hx, e⟩ := L1
  refine ⟨x.1, ?_, hx⟩
  have hpo := hT.2.2.2.1 p (show p < 5 by omega)
  have hT1 : x.1 10 12 = A 0 := (qCE_x hx hC).1.1.1
  have e' : zR zPP (d + 6) 43 15 [zA 9, zA r, zA q, zI p, zI (A (131 + p)), zI 0, zU, zU] [] (n, s, S, R, M) = zR zPP (d + 6) 43 15 [zA 9, zA r, zA q, zI p, zI (A (131 + p) + qS (fun o => qag A w p o 24) a), zI (a : Nat), x.2.1, x.2.2] [] (n, s, S, R, x.1) := by
    have z : A (131 + p) + qS (fun o => qag A w p o 24) 0 = A (131 + p) := Int.add_zero _
    rw [← e, z]
    rfl
  simp (disch := omega) only [c_X_ageOf, kx_hasPerson hF hT hA, hpo, qff hF, qltT, qltF, qleT, qleF, qeqT, qeqF, Int.reduceEq, Int.reduceNe, Int.reduceLT, Int.reduceLE, Int.reduceToNat, Int.reduceAdd, Int.reduceSub, Int.reduceMul, Int.reduceNeg, Nat.reduceAdd, Nat.reduceMul, Nat.reduceEqDiff, Nat.reduceLT, Int.cast_ofNat_Int, Int.lt_irrefl, ↓reduceIte, ↓reduceDIte, zbI, zbL, zbA, zbV, qrg, qrg2, qnn, qz, zup_at, zup_r, zup_ne, true_and, and_true, true_or, or_true, and_self, or_self, false_or, or_false, false_and, and_false, Int.toNat_natCast, Int.toNat_add, Int.toNat_mul, Int.toNat_zero, Int.toNat_one, qtn, Int.natCast_add, qnat1, qnat0, ne_eq, not_true_eq_false, not_false_eq_true, eq_self, qbool]
  rw [e', e_X_ageOf_15]
  simp (disch := omega) only [hT1, ha, qff hF, qltT, qltF, qleT, qleF, qeqT, qeqF, Int.reduceEq, Int.reduceNe, Int.reduceLT, Int.reduceLE, Int.reduceToNat, Int.reduceAdd, Int.reduceSub, Int.reduceMul, Int.reduceNeg, Nat.reduceAdd, Nat.reduceMul, Nat.reduceEqDiff, Nat.reduceLT, Int.cast_ofNat_Int, Int.lt_irrefl, ↓reduceIte, ↓reduceDIte, zbI, zbL, zbA, zbV, qrg, qrg2, qnn, qz, zup_at, zup_r, zup_ne, true_and, and_true, true_or, or_true, and_self, or_self, false_or, or_false, false_and, and_false, Int.toNat_natCast, Int.toNat_add, Int.toNat_mul, Int.toNat_zero, Int.toNat_one, qtn, Int.natCast_add, qnat1, qnat0, ne_eq, not_true_eq_false, not_false_eq_true, eq_self, qbool]
  unfold qAge
  rw [ha]
  rfl
end QF
