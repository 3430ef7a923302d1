/-! stands: both sides -/
def qXc (M M' : Nat → Nat → Int) : Prop := ∀ a, a < 284 ∨ 303 < a → M' a = M a
def qXm (M M' : Nat → Nat → Int) : Prop := ∀ a, a < 310 ∨ 318 < a → M' a = M a
theorem qXc_e {M M' : Nat → Nat → Int} (h : qXc M M') : qEq M M' := qEq_rows fun a ha => h a (by unfold qY at ha; omega)
theorem qXm_e {M M' : Nat → Nat → Int} (h : qXm M M') : qEq M M' := qEq_rows fun a ha => h a (by unfold qY at ha; omega)
theorem qX2_c {M M' : Nat → Nat → Int} (h : qX2 M M') : qXc M M' := fun a ha => h a (by omega) (by omega)
theorem qX3_m {M M' : Nat → Nat → Int} (h : qX3 M M') : qXm M M' := fun a ha => h a (by omega) (by omega) (by omega)
theorem qXc_t {M M1 M2 : Nat → Nat → Int} (h1 : qXc M M1) (h2 : qXc M1 M2) : qXc M M2 := fun a x => (h2 a x).trans (h1 a x)
theorem qXm_t {M M1 M2 : Nat → Nat → Int} (h1 : qXm M M1) (h2 : qXm M1 M2) : qXm M M2 := fun a x => (h2 a x).trans (h1 a x)
def qwst (f : Nat → Int) (p : Int) : Nat → Int := fun i => f i * (10 - p) + (match i with
  | 0 => 0
  | i + 1 => f i * p)
def qpy (A : Nat → Int) (w : qWt) (o y : Nat) : Int := qLaw w (qEn A o y (A (11 + 24 * o + y) - 3).toNat) 2 (A (136 + y))
def qwy (A : Nat → Int) (w : qWt) (o : Nat) : Nat → Nat → Int
  | 0 => fun i => if i = 0 then 1 else 0
  | y + 1 => if qlen A o y = true then qwst (qwy A w o y) (qpy A w o y) else qwy A w o y
theorem qwst_in {f : Nat → Int} {p B : Int} (hp : 0 ≤ p ∧ p ≤ 10) (hf : ∀ i, 0 ≤ f i ∧ f i ≤ B) (i : Nat) : 0 ≤ qwst f p i ∧ qwst f p i ≤ B * 10 := by
  have h1 := hf i
  have m1 : 0 ≤ f i * (10 - p) := Int.mul_nonneg h1.1 (by omega)
  have m2 : f i * (10 - p) ≤ B * (10 - p) := Int.mul_le_mul_of_nonneg_right h1.2 (by omega)
  have e : B * 10 = B * (10 - p) + B * p := by rw [← Int.mul_add]; congr 1; omega
  cases i with
  | zero =>
    have m3 : 0 ≤ B * p := Int.mul_nonneg (by omega) hp.1
    show 0 ≤ f 0 * (10 - p) + 0 ∧ f 0 * (10 - p) + 0 ≤ B * 10
    omega
  | succ j =>
    have h2 := hf j
    have m3 : 0 ≤ f j * p := Int.mul_nonneg h2.1 hp.1
    have m4 : f j * p ≤ B * p := Int.mul_le_mul_of_nonneg_right h2.2 hp.1
    show 0 ≤ f (j + 1) * (10 - p) + f j * p ∧ f (j + 1) * (10 - p) + f j * p ≤ B * 10
    omega
theorem qwy_in (A : Nat → Int) (w : qWt) (o : Nat) : ∀ y i, 0 ≤ qwy A w o y i ∧ qwy A w o y i ≤ ((10 ^ zct (qlen A o) y : Nat) : Int)
  | 0, i => by
    show 0 ≤ (if i = 0 then (1 : Int) else 0) ∧ (if i = 0 then (1 : Int) else 0) ≤ ((1 : Nat) : Int)
    split <;> omega
  | y + 1, i => by
    have ih := qwy_in A w o y
    rw [zct_s]
    by_cases h : qlen A o y = true
    · have e : qwy A w o (y + 1) = qwst (qwy A w o y) (qpy A w o y) := if_pos h
      have := qwst_in (qLaw2 w (qEn A o y (A (11 + 24 * o + y) - 3).toNat) (A (136 + y))) ih i
      rw [e, if_pos h, Nat.pow_succ]
      exact this
    · have e : qwy A w o (y + 1) = qwy A w o y := if_neg h
      rw [e, if_neg h]
      exact ih i
theorem qwy_0 (A : Nat → Int) (w : qWt) (o : Nat) : ∀ y i, zct (qlen A o) y < i → qwy A w o y i = 0
  | 0, i, hi => if_neg (by have : zct (qlen A o) 0 = 0 := rfl; omega)
  | y + 1, i, hi => by
    have ih := qwy_0 A w o y
    rw [zct_s] at hi
    by_cases h : qlen A o y = true
    · have e : qwy A w o (y + 1) = qwst (qwy A w o y) (qpy A w o y) := if_pos h
      rw [if_pos h] at hi
      rw [e]
      cases i with
      | zero => omega
      | succ j =>
        show qwy A w o y (j + 1) * _ + qwy A w o y j * _ = 0
        rw [ih (j + 1) (by omega), ih j (by omega)]
        simp
    · have e : qwy A w o (y + 1) = qwy A w o y := if_neg h
      rw [if_neg h] at hi
      rw [e]
      exact ih i (by omega)
theorem qp15 {c : Nat} (h : c ≤ 15) : 10 ^ c ≤ 1000000000000000 := Nat.pow_le_pow_right (n := 10) (by decide) h
/-- the sum from place b on -/
def qtl (f : Nat → Int) (b : Int) : Nat → Int := qS fun i => if b ≤ i then f i else 0
theorem qtl_in {f : Nat → Int} {B : Int} (hB : 0 ≤ B) (hf : ∀ i, 0 ≤ f i ∧ f i ≤ B) (b : Int) (n : Nat) : 0 * (n : Int) ≤ qtl f b n ∧ qtl f b n ≤ B * n := by
  refine ⟨qS_ge fun i _ => ?_, qS_le fun i _ => ?_⟩
  · have := hf i; split <;> omega
  · have := hf i; split <;> omega
section QF
variable {S : Nat → Nat × Nat} {R : Nat → Nat → Nat} {M M' M1 : Nat → Nat → Int} {n s d : Nat} {A : Nat → Int} {W : Nat → qWt}
theorem wx_says {q : Nat} {w : qWt} (hw : qWd n S R M W) (hq : qTn S R M q w) (h1 : qXc M M1) {L o y p : Nat} (hL : L < 3) (ho : (o : Int) < M 306 0) (hy : y < 24) (hp : (p : Int) < M 306 1) :
    ∃ M2, zcal zPP (d + 6) 96 [zA 284, zI L, zA q, zA 21, zI o, zI y, zI p] (n, s, S, R, M1) = some (zI (qLaw w (qEn (M 306) o y p) L (M 306 (136 + y))), (n, s, S, R, M2)) ∧ qX2 M1 M2 := by
  have hC := wx_CE hw
  obtain ⟨c1, c2, c3, c4, c5, c6⟩ := hC
  exact kj_says hw.1.2.1 (qSt_x (fun a ha => h1 a (by omega)) hw.1.2.2) (qTn_x (fun a ha => h1 a (by omega)) hq) ⟨qTw_x (fun a x y => h1 a (by omega)) c1, c2, c3, c4, qRg_x (h1 _ (by omega)) (h1 _ (by omega)) c5, by rw [h1 21 (by omega)]; exact c6⟩ hL ho hy hp
theorem wm_pays (hw : qWd n S R M W) (h1 : qXm M M1) {o y p : Nat} (ho : (o : Int) < M 306 0) (hy : y < 24) (hp : (p : Int) < M 306 1) :
    ∃ M2, zcal zPP (d + 8) 260 [zA 305, zI o, zI y, zI p] (n, s, S, R, M1) = some (zI (qLaw (qWr W (M 306 3)) (qEn (M 306) o y p) 2 (M 306 (136 + y))), (n, s, S, R, M2)) ∧ qX3 M1 M2 := by
  have h6 : M1 306 = M 306 := h1 306 (by omega)
  have h8 : M1 308 = M 308 := h1 308 (by omega)
  obtain ⟨M2, h2, h3⟩ := km_paysOf (n := n) (s := s) (d := d) (M := M1) (S := S) (R := R) (w := qWr W (M 306 3)) (o := o) (y := y) (p := p) hw.1.2.1 (by rw [h6]; exact hw.2.1.2.2.2) (by rw [h6]; exact ho) hy (by rw [h6]; exact hp) (by rw [h6, h8]; exact wm_text hw hw.2.1.2.2.2.2.2.2.1)
  rw [h6] at h2
  exact ⟨M2, h2, h3⟩
/-- a draw, the class's odds -/
theorem k_draw (hF : qFx S R) {f : Nat → Int} {c : Nat} {p : Int} (hp : 0 ≤ p ∧ p ≤ 10) (hc : c < 15) (hf : ∀ i, 0 ≤ f i ∧ f i ≤ ((10 ^ c : Nat) : Int)) (hz : ∀ i, c < i → f i = 0) (hM : ∀ i, i < 16 → M 290 i = f i) (h1 : M 289 1 = ((10 ^ c : Nat) : Int)) (h2 : M 289 2 = c) :
    ∃ M', zcal zPP (d + 1) 108 [zA 289, zI p] (n, s, S, R, M) = some (zU, (n, s, S, R, M')) ∧ (∀ i, i < 16 → M' 290 i = qwst f p i) ∧ M' 289 1 = ((10 ^ (c + 1) : Nat) : Int) ∧ M' 289 2 = ((c + 1 : Nat) : Int) ∧ ∀ a, a ≠ 289 → a ≠ 290 → M' a = M a := by
  have hB := qp15 (show c ≤ 15 by omega)
  have hbd : ∀ i, (0 ≤ f i * (10 - p) ∧ f i * (10 - p) ≤ 10000000000000000) ∧ 0 ≤ f i * p ∧ f i * p ≤ 10000000000000000 := fun i => by
    have hi := hf i
    generalize 10 ^ c = B at *
    have m1 : 0 ≤ f i * (10 - p) := Int.mul_nonneg hi.1 (by omega)
    have m2 : f i * (10 - p) ≤ 1000000000000000 * 10 := Int.mul_le_mul (by omega) (by omega) (by omega) (by decide)
    have m3 : 0 ≤ f i * p := Int.mul_nonneg hi.1 hp.1
    have m4 : f i * p ≤ 1000000000000000 * 10 := Int.mul_le_mul (by omega) (by omega) (by omega) (by decide)
    omega
  have hzn : ∀ i, c + 1 < i → qwst f p i = 0 := fun i hi => by
    cases i with
    | zero => omega
    | succ j =>
      show f (j + 1) * _ + f j * _ = 0
      rw [hz (j + 1) (by omega), hz j (by omega)]
      simp
  have hs10 : ((10 ^ (c + 1) : Nat) : Int) = ((10 ^ c : Nat) : Int) * 10 := by rw [Nat.pow_succ]; rfl
  have L : ∀ (l : Nat) (M1 : Nat → Nat → Int), l ≤ c + 1 → (∀ i, i < 16 → M1 290 i = if l < i then qwst f p i else f i) → M1 289 1 = ((10 ^ c : Nat) : Int) → M1 289 2 = ((c + 1 : Nat) : Int) → (∀ a, a ≠ 289 → a ≠ 290 → M1 a = M a) →
      ∃ M', zR zPP d 108 17 [zA 289, zI p, zI l] [] (n, s, S, R, M1) = some (zU, (n, s, S, R, M')) ∧ (∀ i, i < 16 → M' 290 i = qwst f p i) ∧ M' 289 1 = ((10 ^ (c + 1) : Nat) : Int) ∧ M' 289 2 = ((c + 1 : Nat) : Int) ∧ ∀ a, a ≠ 289 → a ≠ 290 → M' a = M a := by
    intro l
    induction l with
    | zero =>
      intro M1 hl hm g1 g2 g3
      have m0 : M1 290 0 = f 0 := hm 0 (by decide)
      have b0 := (hbd 0).1
      have e0 : qwst f p 0 = f 0 * (10 - p) := Int.add_zero _
      refine ⟨zup (zup M1 290 0 (f 0 * (10 - p))) 289 1 (((10 ^ c : Nat) : Int) * 10), ?_, fun i hi => ?_, ?_, ?_, fun a ha hb => ?_⟩
      · rw [e_Odds_draw_17]
        have z1 : zw64 (((10 ^ c : Nat) : Int) * 10) = ((10 ^ c : Nat) : Int) * 10 := by
          generalize 10 ^ c = B at *
          exact qz64 (by omega) (by omega)
        have z2 : zw64 (f 0 * (10 - p)) = f 0 * (10 - p) := qz64 (by omega) (by omega)
        simp (disch := omega) only [m0, g1, z1, z2, qff hF, qltT, qltF, qleT, qleF, qeqT, qeqF, Int.reduceEq, Int.reduceNe, Int.reduceLT, Int.reduceLE, Int.reduceToNat, Int.reduceAdd, Int.reduceSub, Int.reduceMul, Int.reduceNeg, Nat.reduceAdd, Nat.reduceMul, Nat.reduceEqDiff, Nat.reduceLT, Int.cast_ofNat_Int, Int.lt_irrefl, ↓reduceIte, ↓reduceDIte, zbI, zbL, zbA, zbV, qrg, qrg2, qnn, qz, zup_at, zup_r, zup_ne, true_and, and_true, true_or, or_true, and_self, or_self, false_or, or_false, false_and, and_false, Int.toNat_natCast, Int.toNat_add, Int.toNat_mul, Int.toNat_zero, Int.toNat_one, qtn, Int.natCast_add, qnat1, qnat0, ne_eq, not_true_eq_false, not_false_eq_true, eq_self, qbool]
      · rw [zup_r (by decide)]
        by_cases hi0 : i = 0
        · subst hi0
          rw [zup_at, e0]
        · rw [zup_ne hi0, hm i hi, if_pos (by omega)]
      · rw [zup_at, hs10]
      · rw [zup_ne (by decide), zup_r (by decide)]
        exact g2
      · rw [zup_rw ha, zup_rw hb, g3 a ha hb]
    | succ l ih =>
      intro M1 hl hm g1 g2 g3
      have m0 : M1 290 (l + 1) = f (l + 1) := by rw [hm _ (by omega), if_neg (by omega)]
      have m1 : M1 290 l = f l := by rw [hm _ (by omega), if_neg (by omega)]
      have b0 := (hbd (l + 1)).1
      have b1 := (hbd l).2
      have e0 : qwst f p (l + 1) = f (l + 1) * (10 - p) + f l * p := rfl
      have z1 : (l : Int) + 1 - 1 = l := by omega
      have z2 : (l : Int) + 1 + -1 = l := by omega
      rw [e_Odds_draw_17]
      simp (disch := omega) only [m0, m1, z1, z2, qz64, qff hF, qltT, qltF, qleT, qleF, qeqT, qeqF, Int.reduceEq, Int.reduceNe, Int.reduceLT, Int.reduceLE, Int.reduceToNat, Int.reduceAdd, Int.reduceSub, Int.reduceMul, Int.reduceNeg, Nat.reduceAdd, Nat.reduceMul, Nat.reduceEqDiff, Nat.reduceLT, Int.cast_ofNat_Int, Int.lt_irrefl, ↓reduceIte, ↓reduceDIte, zbI, zbL, zbA, zbV, qrg, qrg2, qnn, qz, zup_at, zup_r, zup_ne, true_and, and_true, true_or, or_true, and_self, or_self, false_or, or_false, false_and, and_false, Int.toNat_natCast, Int.toNat_add, Int.toNat_mul, Int.toNat_zero, Int.toNat_one, qtn, Int.natCast_add, qnat1, qnat0, ne_eq, not_true_eq_false, not_false_eq_true, eq_self, qbool]
      refine ih _ (by omega) (fun i hi => ?_) ?_ ?_ fun a ha hb => ?_
      · by_cases hi1 : i = l + 1
        · subst hi1
          rw [zup_at, if_pos (by omega), e0]
        · rw [zup_ne hi1, hm i hi]
          by_cases h : l < i
          · rw [if_pos h, if_pos (by omega)]
          · rw [if_neg h, if_neg (by omega)]
      · rw [zup_r (by decide)]; exact g1
      · rw [zup_r (by decide)]; exact g2
      · rw [zup_rw hb]; exact g3 a ha hb
  have := L (c + 1) (zup M 289 2 ((c + 1 : Nat) : Int)) (Nat.le_refl _) (fun i hi => ?_) ?_ zup_at fun a ha hb => zup_rw ha
  · obtain ⟨M', h, h'⟩ := this
    refine ⟨M', ?_, h'⟩
    rw [← h]
    simp (disch := omega) only [c_Odds_draw, h2, qff hF, qltT, qltF, qleT, qleF, qeqT, qeqF, Int.reduceEq, Int.reduceNe, Int.reduceLT, Int.reduceLE, Int.reduceToNat, Int.reduceAdd, Int.reduceSub, Int.reduceMul, Int.reduceNeg, Nat.reduceAdd, Nat.reduceMul, Nat.reduceEqDiff, Nat.reduceLT, Int.cast_ofNat_Int, Int.lt_irrefl, ↓reduceIte, ↓reduceDIte, zbI, zbL, zbA, zbV, qrg, qrg2, qnn, qz, zup_at, zup_r, zup_ne, true_and, and_true, true_or, or_true, and_self, or_self, false_or, or_false, false_and, and_false, Int.toNat_natCast, Int.toNat_add, Int.toNat_mul, Int.toNat_zero, Int.toNat_one, qtn, Int.natCast_add, qnat1, qnat0, ne_eq, not_true_eq_false, not_false_eq_true, eq_self, qbool]
  · rw [zup_r (by decide), hM i hi]
    by_cases h : c + 1 < i
    · rw [if_pos h, hzn i h, hz i (by omega)]
    · rw [if_neg h]
  · rw [zup_ne (by decide)]
    exact h1
/-- a draw, the model's -/
theorem km_draw (hF : qFx S R) {f : Nat → Int} {c : Nat} {p : Int} (hp : 0 ≤ p ∧ p ≤ 10) (hc : c < 15) (hf : ∀ i, 0 ≤ f i ∧ f i ≤ ((10 ^ c : Nat) : Int)) (hM : ∀ i, i < 16 → M 318 i = f i) (l1 l2 l3 : Int) {y : Nat} (hy : y < 24) :
    ∃ M', zR zPP d 315 59 [zA 305, zI l1, zI l2, zI l3, zL (10 ^ c : Nat), zU, zI y, zI p, zI 15] [] (n, s, S, R, M) = zR zPP d 315 36 [zA 305, zI l1, zI l2, zI l3, zL (10 ^ (c + 1) : Nat), zU, zI ((y + 1 : Nat) : Int), zI p, zI (-1)] [] (n, s, S, R, M') ∧ (∀ i, i < 16 → M' 318 i = qwst f p i) ∧ ∀ a, a ≠ 318 → M' a = M a := by
  have hB := qp15 (show c ≤ 15 by omega)
  have hbd : ∀ i, (0 ≤ f i * (10 - p) ∧ f i * (10 - p) ≤ 10000000000000000) ∧ 0 ≤ f i * p ∧ f i * p ≤ 10000000000000000 := fun i => by
    have hi := hf i
    generalize 10 ^ c = B at *
    have m1 : 0 ≤ f i * (10 - p) := Int.mul_nonneg hi.1 (by omega)
    have m2 : f i * (10 - p) ≤ 1000000000000000 * 10 := Int.mul_le_mul (by omega) (by omega) (by omega) (by decide)
    have m3 : 0 ≤ f i * p := Int.mul_nonneg hi.1 hp.1
    have m4 : f i * p ≤ 1000000000000000 * 10 := Int.mul_le_mul (by omega) (by omega) (by omega) (by decide)
    omega
  have hs10 : ((10 ^ (c + 1) : Nat) : Int) = ((10 ^ c : Nat) : Int) * 10 := by rw [Nat.pow_succ]; rfl
  have z1 : zw64 (((10 ^ c : Nat) : Int) * 10) = ((10 ^ c : Nat) : Int) * 10 := by
    generalize 10 ^ c = B at *
    exact qz64 (by omega) (by omega)
  have L : ∀ (l : Nat) (M1 : Nat → Nat → Int), l ≤ 16 → (∀ i, i < 16 → M1 318 i = if l ≤ i then qwst f p i else f i) → (∀ a, a ≠ 318 → M1 a = M a) →
      ∃ M', zR zPP d 315 59 [zA 305, zI l1, zI l2, zI l3, zL (10 ^ c : Nat), zU, zI y, zI p, zI ((l : Int) - 1)] [] (n, s, S, R, M1) = zR zPP d 315 36 [zA 305, zI l1, zI l2, zI l3, zL (10 ^ (c + 1) : Nat), zU, zI ((y + 1 : Nat) : Int), zI p, zI (-1)] [] (n, s, S, R, M') ∧ (∀ i, i < 16 → M' 318 i = qwst f p i) ∧ ∀ a, a ≠ 318 → M' a = M a := by
    intro l
    induction l with
    | zero =>
      intro M1 hl hm g3
      refine ⟨M1, ?_, fun i hi => by rw [hm i hi, if_pos (Nat.zero_le _)], g3⟩
      have e1 : ((0 : Nat) : Int) - 1 = -1 := rfl
      rw [e1, e_M_stands_59, if_pos (by decide), z1, hs10, qw1 (show y < 100000 by omega)]
    | succ l ih =>
      intro M1 hl hm g3
      have m0 : M1 318 l = f l := by rw [hm _ (by omega), if_neg (by omega)]
      have b0 := (hbd l).1
      have e1 : ((l + 1 : Nat) : Int) - 1 = l := by omega
      rw [e1, e_M_stands_59]
      cases l with
      | zero =>
        have e0 : qwst f p 0 = f 0 * (10 - p) := Int.add_zero _
        have z3 : zw64 (f 0 * (10 - p)) = f 0 * (10 - p) := qz64 (by omega) (by omega)
        have z4 : zw64 (f 0 * (10 - p) + 0) = f 0 * (10 - p) := by rw [Int.add_zero]; exact z3
        simp (disch := omega) only [m0, z3, z4, qff hF, qltT, qltF, qleT, qleF, qeqT, qeqF, Int.reduceEq, Int.reduceNe, Int.reduceLT, Int.reduceLE, Int.reduceToNat, Int.reduceAdd, Int.reduceSub, Int.reduceMul, Int.reduceNeg, Nat.reduceAdd, Nat.reduceMul, Nat.reduceEqDiff, Nat.reduceLT, Int.cast_ofNat_Int, Int.lt_irrefl, ↓reduceIte, ↓reduceDIte, zbI, zbL, zbA, zbV, qrg, qrg2, qnn, qz, zup_at, zup_r, zup_ne, true_and, and_true, true_or, or_true, and_self, or_self, false_or, or_false, false_and, and_false, Int.toNat_natCast, Int.toNat_add, Int.toNat_mul, Int.toNat_zero, Int.toNat_one, qtn, Int.natCast_add, qnat1, qnat0, ne_eq, not_true_eq_false, not_false_eq_true, eq_self, qbool]
        refine ih _ (by omega) (fun i hi => ?_) fun a ha => ?_
        · by_cases hi1 : i = 0
          · subst hi1
            rw [zup_at, if_pos (by omega), e0]
          · rw [zup_ne hi1, hm i hi, if_pos (by omega), if_pos (by omega)]
        · rw [zup_rw ha]; exact g3 a ha
      | succ k =>
        have m1 : M1 318 k = f k := by rw [hm _ (by omega), if_neg (by omega)]
        have b1 := (hbd k).2
        have e0 : qwst f p (k + 1) = f (k + 1) * (10 - p) + f k * p := rfl
        have z2 : (k : Int) + 1 - 1 = k := by omega
        have z3 : (k : Int) + 1 + -1 = ((k + 1 : Nat) : Int) - 1 := by omega
        simp (disch := omega) only [m0, m1, z2, qz64, qff hF, qltT, qltF, qleT, qleF, qeqT, qeqF, Int.reduceEq, Int.reduceNe, Int.reduceLT, Int.reduceLE, Int.reduceToNat, Int.reduceAdd, Int.reduceSub, Int.reduceMul, Int.reduceNeg, Nat.reduceAdd, Nat.reduceMul, Nat.reduceEqDiff, Nat.reduceLT, Int.cast_ofNat_Int, Int.lt_irrefl, ↓reduceIte, ↓reduceDIte, zbI, zbL, zbA, zbV, qrg, qrg2, qnn, qz, zup_at, zup_r, zup_ne, true_and, and_true, true_or, or_true, and_self, or_self, false_or, or_false, false_and, and_false, Int.toNat_natCast, Int.toNat_add, Int.toNat_mul, Int.toNat_zero, Int.toNat_one, qtn, Int.natCast_add, qnat1, qnat0, ne_eq, not_true_eq_false, not_false_eq_true, eq_self, qbool]
        rw [z3]
        refine ih _ (by omega) (fun i hi => ?_) fun a ha => ?_
        · by_cases hi1 : i = k + 1
          · subst hi1
            rw [zup_at, if_pos (by omega), e0]
          · rw [zup_ne hi1, hm i hi]
            by_cases h : k + 1 ≤ i
            · rw [if_pos (by omega), if_pos h]
            · rw [if_neg (by omega), if_neg h]
        · rw [zup_rw ha]; exact g3 a ha
  have := L 16 M (Nat.le_refl _) (fun i hi => by rw [hM i hi, if_neg (by omega)]) fun a _ => rfl
  exact this
end QF
