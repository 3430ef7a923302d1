/-! cheapest: both sides -/
def qdg (c k : Nat) : Nat := if k = 0 then c % 10 else if k = 1 then c / 10 % 10 else if k = 2 then c / 100 % 10 else c / 1000
def qpr (A : Nat → Int) (c : Nat) : Nat → Int := qS fun k => (qdg c k : Int) * A (170 + k)
def qds (c K : Nat) : Nat → Nat := qsm fun k => if K.testBit k = true then qdg c k else 0
/-- the model's test, the class's two -/
def qthr (A : Nat → Int) (T a c : Nat) : Nat → Bool := qal fun i => decide ((qds c (i + 1) 4 : Int) ≤ qroo A ((i + 1) &&& T) a)
def qth2 (A : Nat → Int) (a c : Nat) : Nat → Bool := qal fun i => decide ((qds c (i + 1) 4 : Int) ≤ qroo A (i + 1) a)
def qtak (T c : Nat) : Nat → Bool := qal fun k => decide (qdg c k = 0) || T.testBit k
theorem qal_iff (f : Nat → Bool) : ∀ n, qal f n = true ↔ ∀ i, i < n → f i = true
  | 0 => by simp [qal]
  | n + 1 => by
    unfold qal
    rw [Bool.and_eq_true, qal_iff f n]
    constructor
    · rintro ⟨h1, h2⟩ i hi
      by_cases h : i = n
      · subst h; exact h2
      · exact h1 i (by omega)
    · intro h
      exact ⟨fun i hi => h i (by omega), h n (by omega)⟩
theorem qsm_cong {f g : Nat → Nat} : ∀ {n : Nat}, (∀ i, i < n → f i = g i) → qsm f n = qsm g n
  | 0, _ => rfl
  | n + 1, h => by rw [qsm_s, qsm_s, qsm_cong fun i hi => h i (by omega), h n (by omega)]
theorem zct_mono {F G : Nat → Bool} (h : ∀ i, F i = true → G i = true) : ∀ n, zct F n ≤ zct G n
  | 0 => Nat.le_refl _
  | n + 1 => by
    have := zct_mono h n
    rw [zct_s, zct_s]
    by_cases hF : F n = true
    · rw [if_pos hF, if_pos (h n hF)]; omega
    · rw [if_neg hF]; split <;> omega
theorem qroo_mono (A : Nat → Int) (K T : Nat) : ∀ a, qroo A (K &&& T) a ≤ qroo A K a
  | 0 => Int.le_refl _
  | a + 1 => by
    have ih := qroo_mono A K T a
    have h := zct_mono (F := fun y => decide (A (11 + 24 * a + y) = 1) && qyk A (K &&& T) y) (G := fun y => decide (A (11 + 24 * a + y) = 1) && qyk A K y) (fun y hy => by
      rw [Bool.and_eq_true] at hy ⊢
      refine ⟨hy.1, ?_⟩
      have := hy.2
      unfold qyk at this ⊢
      rw [Nat.testBit_and, Bool.and_eq_true] at this
      exact this.1) 24
    show qroo A (K &&& T) a + qro1 A (K &&& T) a ≤ qroo A K a + qro1 A K a
    unfold qro1
    omega
theorem qds_one (c : Nat) : ∀ k, k < 4 → qds c (2 ^ k) 4 = qdg c k := by
  intro k hk
  have h : k = 0 ∨ k = 1 ∨ k = 2 ∨ k = 3 := by omega
  have u : ∀ K, qds c K 4 = (((0 + if K.testBit 0 = true then qdg c 0 else 0) + if K.testBit 1 = true then qdg c 1 else 0) + if K.testBit 2 = true then qdg c 2 else 0) + if K.testBit 3 = true then qdg c 3 else 0 := fun K => rfl
  rw [u]
  rcases h with h | h | h | h <;> subst h <;> simp [Nat.testBit, Nat.shiftRight_eq_div_pow]
theorem qds_zero (c : Nat) : qds c 0 4 = 0 := by
  have u : ∀ K, qds c K 4 = (((0 + if K.testBit 0 = true then qdg c 0 else 0) + if K.testBit 1 = true then qdg c 1 else 0) + if K.testBit 2 = true then qdg c 2 else 0) + if K.testBit 3 = true then qdg c 3 else 0 := fun K => rfl
  rw [u]
  simp
theorem qth_eq (A : Nat → Int) {T : Nat} (hT : T < 16) (a c : Nat) : qthr A T a c 15 = (qtak T c 4 && qth2 A a c 15) := by
  have hand : (qtak T c 4 = true) → ∀ K, qds c K 4 = qds c (K &&& T) 4 := fun h K => by
    refine qsm_cong fun k hk => ?_
    have := (qal_iff _ _).mp h k hk
    rw [Bool.or_eq_true, decide_eq_true_iff] at this
    rw [Nat.testBit_and]
    rcases this with h0 | h1
    · rw [h0]; simp
    · rw [h1, Bool.and_true]
  rw [Bool.eq_iff_iff, Bool.and_eq_true]
  constructor
  · intro h
    have h' := (qal_iff _ _).mp h
    have ht : qtak T c 4 = true := (qal_iff _ _).mpr fun k hk => by
      rw [Bool.or_eq_true, decide_eq_true_iff]
      by_cases hb : T.testBit k = true
      · exact Or.inr hb
      · left
        have h2k : 1 ≤ 2 ^ k := Nat.pow_pos (by decide)
        have h2k' : 2 ^ k ≤ 8 := Nat.pow_le_pow_right (n := 2) (by decide) (show k ≤ 3 by omega)
        have := of_decide_eq_true (h' (2 ^ k - 1) (by omega))
        rw [show 2 ^ k - 1 + 1 = 2 ^ k by omega, qds_one c k hk] at this
        have h0 : 2 ^ k &&& T = 0 := by
          refine Nat.eq_of_testBit_eq fun i => ?_
          rw [Nat.testBit_and, Nat.testBit_two_pow, Nat.zero_testBit]
          by_cases hi : k = i
          · subst hi
            rw [Bool.not_eq_true] at hb
            rw [hb, Bool.and_false]
          · rw [decide_eq_false hi, Bool.false_and]
        rw [h0, qroo_0] at this
        omega
    refine ⟨ht, (qal_iff _ _).mpr fun i hi => ?_⟩
    have h1 := of_decide_eq_true (h' i hi)
    have h2 := qroo_mono A (i + 1) T a
    exact decide_eq_true (by omega)
  · rintro ⟨ht, h2⟩
    refine (qal_iff _ _).mpr fun i hi => decide_eq_true ?_
    rw [hand ht (i + 1)]
    by_cases h0 : (i + 1) &&& T = 0
    · rw [h0, qds_zero, qroo_0]
      exact Int.le_refl _
    · have hle : (i + 1) &&& T ≤ i + 1 := Nat.and_le_left
      have := of_decide_eq_true ((qal_iff _ _).mp h2 (((i + 1) &&& T) - 1) (by omega))
      rw [show ((i + 1) &&& T) - 1 + 1 = (i + 1) &&& T by omega] at this
      exact this
def qok1 (A : Nat → Int) (T a n c : Nat) : Bool := decide (qdg c 0 + qdg c 1 + qdg c 2 + qdg c 3 = n) && qthr A T a c 15
/-- the best code of those below -/
def qbst (A : Nat → Int) (T a n : Nat) : Nat → Int
  | 0 => -1
  | c + 1 => if qok1 A T a n c = true ∧ (qbst A T a n c = -1 ∨ qpr A c 4 < qpr A (qbst A T a n c).toNat 4) then (c : Int) else qbst A T a n c
theorem qbst_in (A : Nat → Int) (T a n : Nat) : ∀ c, -1 ≤ qbst A T a n c ∧ qbst A T a n c < c
  | 0 => ⟨Int.le_refl _, by show (-1 : Int) < ((0 : Nat) : Int); decide⟩
  | c + 1 => by
    have := qbst_in A T a n c
    unfold qbst
    split <;> omega
theorem qbst_skip (A : Nat → Int) (T a n b : Nat) : ∀ k, (∀ i, b ≤ i → i < b + k → qdg i 0 + qdg i 1 + qdg i 2 + qdg i 3 ≠ n) → qbst A T a n (b + k) = qbst A T a n b
  | 0, _ => rfl
  | k + 1, h => by
    have e : qbst A T a n (b + k + 1) = if qok1 A T a n (b + k) = true ∧ (qbst A T a n (b + k) = -1 ∨ qpr A (b + k) 4 < qpr A (qbst A T a n (b + k)).toNat 4) then ((b + k : Nat) : Int) else qbst A T a n (b + k) := rfl
    rw [← Nat.add_assoc, e, if_neg]
    · exact qbst_skip A T a n b k fun i h1 h2 => h i h1 (by omega)
    · rintro ⟨h1, -⟩
      unfold qok1 at h1
      rw [Bool.and_eq_true] at h1
      exact h (b + k) (by omega) (by omega) (of_decide_eq_true h1.1)
theorem qpr_in {A : Nat → Int} (hA : qIn A) {c : Nat} (hc : c < 10000) {k : Nat} (hk : k ≤ 4) : 0 * (k : Int) ≤ qpr A c k ∧ qpr A c k ≤ 891 * k := by
  have h : ∀ i, i < k → 0 ≤ (qdg c i : Int) * A (170 + i) ∧ (qdg c i : Int) * A (170 + i) ≤ 891 := fun i hi => by
    have hp := hA.2.2.2.2.2.2.2.2.2.2.2.2.2.2.2.2.2.1 i (by omega)
    have hd : qdg c i ≤ 9 := by unfold qdg; (repeat' split) <;> omega
    exact ⟨Int.mul_nonneg (by omega) hp.1, by
      have := Int.mul_le_mul (show (qdg c i : Int) ≤ 9 by omega) hp.2 hp.1 (by decide)
      omega⟩
  exact ⟨qS_ge fun i hi => (h i hi).1, qS_le fun i hi => (h i hi).2⟩
theorem qdg_9 {c : Nat} (hc : c < 10000) (i : Nat) : qdg c i ≤ 9 := by unfold qdg; (repeat' split) <;> omega
theorem qds_in {c : Nat} (hc : c < 10000) (K n : Nat) : qds c K n ≤ 9 * n := qsm_le (fun i => by have := qdg_9 hc i; split <;> omega) n
section QF
variable {S : Nat → Nat × Nat} {R : Nat → Nat → Nat} {M M' M0 M1 : Nat → Nat → Int} {n s d : Nat} {A : Nat → Int} {W : Nat → qWt}
theorem km_digit {c k : Nat} (hk : k < 4) (hc : c < 10000) (σ : zS) : zcal zPP (d + 1) 321 [zI c, zI k] σ = some (zI (qdg c k : Nat), σ) := by
  have h : k = 0 ∨ k = 1 ∨ k = 2 ∨ k = 3 := by omega
  have t : ∀ a b : Nat, ((a : Int)).tdiv (b : Int) = ((a / b : Nat) : Int) := fun a b => rfl
  have m : ∀ a b : Nat, ((a : Int)).tmod (b : Int) = ((a % b : Nat) : Int) := fun a b => rfl
  have t10 : ((c : Int)).tdiv 10 = ((c / 10 : Nat) : Int) := rfl
  have t100 : ((c : Int)).tdiv 100 = ((c / 100 : Nat) : Int) := rfl
  have t1000 : ((c : Int)).tdiv 1000 = ((c / 1000 : Nat) : Int) := rfl
  have m10 : ∀ a : Nat, ((a : Int)).tmod 10 = ((a % 10 : Nat) : Int) := fun a => rfl
  rw [c_M_digitOf]
  rcases h with h | h | h | h <;> subst h
  · rw [if_pos (show ((0 : Nat) : Int) = 0 from rfl), if_neg (by decide), m10]
    rfl
  · rw [if_neg (by decide), if_pos (show ((1 : Nat) : Int) = 1 from rfl), if_neg (by decide), if_neg (by decide), t10, zw32_nat (by omega), m10]
    rfl
  · rw [if_neg (by decide), if_neg (by decide), if_pos (show ((2 : Nat) : Int) = 2 from rfl), if_neg (by decide), if_neg (by decide), t100, zw32_nat (by omega), m10]
    rfl
  · rw [if_neg (by decide), if_neg (by decide), if_neg (by decide), if_neg (by decide), t1000, zw32_nat (by omega)]
    rfl
theorem km_price (hF : qFx S R) (hA : qIn (M 306)) {c : Nat} (hc : c < 10000) : zcal zPP (d + 2) 323 [zA 305, zI c] (n, s, S, R, M) = some (zI (qpr (M 306) c 4), (n, s, S, R, M)) := by
  have L := qlp (P := fun k => zR zPP (d + 1) 323 4 [zA 305, zI c, zI (qpr (M 306) c k), zI (k : Nat)] [] (n, s, S, R, M)) (N := 4) (fun k hk => by
    have b1 := qpr_in hA hc (k := k) (by omega)
    have b2 := qpr_in hA hc (k := k + 1) (by omega)
    have hp := hA.2.2.2.2.2.2.2.2.2.2.2.2.2.2.2.2.2.1 k hk
    have hd := qdg_9 hc k
    have es : qpr (M 306) c (k + 1) = qpr (M 306) c k + (qdg c k : Int) * M 306 (170 + k) := rfl
    have hdig := fun σ => km_digit (d := d) (c := c) hk hc σ
    have m1 : 0 ≤ (qdg c k : Int) * M 306 (170 + k) := Int.mul_nonneg (by omega) hp.1
    have m2 : (qdg c k : Int) * M 306 (170 + k) ≤ 9 * 99 := Int.mul_le_mul (by omega) hp.2 hp.1 (by decide)
    show zR _ _ _ _ _ _ _ = zR _ _ _ _ _ _ _
    rw [e_M_priceOf_4, es]
    simp (disch := omega) only [hdig, qff hF, qltT, qltF, qleT, qleF, qeqT, qeqF, Int.reduceEq, Int.reduceNe, Int.reduceLT, Int.reduceLE, Int.reduceToNat, Int.reduceAdd, Int.reduceSub, Int.reduceMul, Int.reduceNeg, Nat.reduceAdd, Nat.reduceMul, Nat.reduceEqDiff, Nat.reduceLT, Int.cast_ofNat_Int, Int.lt_irrefl, Bool.false_eq_true, ↓reduceIte, ↓reduceDIte, zbI, zbL, zbA, zbV, qrg, qrg2, qnn, qz, zup_at, zup_r, zup_ne, true_and, and_true, true_or, or_true, and_self, or_self, false_or, or_false, false_and, and_false, Int.toNat_natCast, Int.toNat_add, Int.toNat_mul, Int.toNat_zero, Int.toNat_one, qtn, Int.natCast_add, qnat1, qnat0, ne_eq, not_true_eq_false, not_false_eq_true, eq_self, qbool])
  rw [c_M_priceOf]
  simp (disch := omega) only [qff hF, qltT, qltF, qleT, qleF, qeqT, qeqF, Int.reduceEq, Int.reduceNe, Int.reduceLT, Int.reduceLE, Int.reduceToNat, Int.reduceAdd, Int.reduceSub, Int.reduceMul, Int.reduceNeg, Nat.reduceAdd, Nat.reduceMul, Nat.reduceEqDiff, Nat.reduceLT, Int.cast_ofNat_Int, Int.lt_irrefl, Bool.false_eq_true, ↓reduceIte, ↓reduceDIte, zbI, zbL, zbA, zbV, qrg, qrg2, qnn, qz, zup_at, zup_r, zup_ne, true_and, and_true, true_or, or_true, and_self, or_self, false_or, or_false, false_and, and_false, Int.toNat_natCast, Int.toNat_add, Int.toNat_mul, Int.toNat_zero, Int.toNat_one, qtn, Int.natCast_add, qnat1, qnat0, ne_eq, not_true_eq_false, not_false_eq_true, eq_self, qbool]
  refine Eq.trans L ?_
  show zR _ _ _ _ _ _ _ = _
  rw [e_M_priceOf_4, if_neg (by decide)]
theorem qal_false {f : Nat → Bool} {n : Nat} : ∀ k, qal f n = false → qal f (n + k) = false
  | 0, h => h
  | k + 1, h => by
    show (qal f (n + k) && f (n + k)) = false
    rw [qal_false k h]
    rfl
theorem km_isThere (hF : qFx S R) {T a c : Nat} (hT : T < 16) (hc : c < 10000) (hM : ∀ K, K < 16 → M 316 K = qroo (A) K a) : zcal zPP (d + 2) 322 [zA 305, zI c, zI T] (n, s, S, R, M) = some (zI (qbi (qthr A T a c 15)), (n, s, S, R, M)) := by
  have L : ∀ (j i : Nat) (g4 g5 : zV), i + j = 15 → qthr A T a c i = true → zR zPP (d + 1) 322 2 [zA 305, zI c, zI T, zI ((i + 1 : Nat) : Int), g4, g5] [] (n, s, S, R, M) = some (zI (qbi (qthr A T a c 15)), (n, s, S, R, M)) := by
    intro j
    induction j with
    | zero =>
      intro i g4 g5 hi ht
      have : i = 15 := by omega
      subst this
      rw [e_M_isThere_2, if_neg (by decide), ht]
      rfl
    | succ j ih =>
      intro i g4 g5 hi ht
      have hI := qlp (P := fun k => zR zPP (d + 1) 322 9 [zA 305, zI c, zI T, zI ((i + 1 : Nat) : Int), zI (qds c (i + 1) k : Nat), zI (k : Nat)] [] (n, s, S, R, M)) (N := 4) (fun k hk => by
        have hs := qds_in hc (i + 1) k
        have hd := qdg_9 hc k
        have hh := k_has (d := d) (a := i + 1) (k := k) (by omega) (by omega) (n, s, S, R, M)
        have hdig := km_digit (d := d) (c := c) hk hc (n, s, S, R, M)
        have es : qds c (i + 1) (k + 1) = qds c (i + 1) k + (if (i + 1).testBit k = true then qdg c k else 0) := rfl
        show zR _ _ _ _ _ _ _ = zR _ _ _ _ _ _ _
        rw [e_M_isThere_9, if_pos (show (k : Int) < 4 by omega), hh, es]
        simp only [zbI]
        by_cases hb : (i + 1).testBit k = true
        · rw [if_pos hb, if_pos hb, if_neg (by decide), hdig]
          simp only [zbI]
          rw [qz (by omega) (by omega), qw1 (show k < 100000 by omega)]
          rfl
        · rw [if_neg hb, if_neg hb, if_pos rfl, Int.add_zero, qz (by omega) (by omega), qw1 (show k < 100000 by omega), Nat.add_zero (qds c (i + 1) k)])
      have hs4 := qds_in hc (i + 1) 4
      have hand : zand ((i + 1 : Nat) : Int) (T : Int) = (((i + 1) &&& T : Nat) : Int) := zand_nat (by omega)
      have hle : (i + 1) &&& T ≤ T := Nat.and_le_right
      have hr := hM ((i + 1) &&& T) (by omega)
      have e15 : qthr A T a c (i + 1) = (qthr A T a c i && decide ((qds c (i + 1) 4 : Int) ≤ qroo A ((i + 1) &&& T) a)) := rfl
      rw [e_M_isThere_2, if_pos (by omega)]
      refine Eq.trans hI ?_
      show zR _ _ _ _ _ _ _ = _
      rw [e_M_isThere_9, if_neg (by decide)]
      simp only [qff hF, if_true, hand, Int.toNat_natCast, hr]
      rw [if_pos ⟨Or.inl trivial, by omega, by omega⟩]
      by_cases hq : (qds c (i + 1) 4 : Int) ≤ qroo A ((i + 1) &&& T) a
      · rw [if_neg (by omega), qw1 (show i + 1 < 100000 by omega)]
        exact ih (i + 1) _ _ (by omega) (by rw [e15, ht, decide_eq_true hq]; rfl)
      · have hf : qthr A T a c (i + 1) = false := by rw [e15, decide_eq_false hq, Bool.and_false]
        have := qal_false j hf
        rw [show i + 1 + j = 15 by omega] at this
        rw [if_pos (by omega), show qthr A T a c 15 = false from this]
        rfl
  rw [c_M_isThere]
  simp (disch := omega) only [qff hF, qltT, qltF, qleT, qleF, qeqT, qeqF, Int.reduceEq, Int.reduceNe, Int.reduceLT, Int.reduceLE, Int.reduceToNat, Int.reduceAdd, Int.reduceSub, Int.reduceMul, Int.reduceNeg, Nat.reduceAdd, Nat.reduceMul, Nat.reduceEqDiff, Nat.reduceLT, Int.cast_ofNat_Int, Int.lt_irrefl, Bool.false_eq_true, ↓reduceIte, ↓reduceDIte, zbI, zbL, zbA, zbV, qrg, qrg2, qnn, qz, zup_at, zup_r, zup_ne, true_and, and_true, true_or, or_true, and_self, or_self, false_or, or_false, false_and, and_false, Int.toNat_natCast, Int.toNat_add, Int.toNat_mul, Int.toNat_zero, Int.toNat_one, qtn, Int.natCast_add, qnat1, qnat0, ne_eq, not_true_eq_false, not_false_eq_true, eq_self, qbool]
  exact L 15 0 zU zU rfl rfl
/-- the class's basket holds the digits of c -/
def qbk (M : Nat → Nat → Int) (c : Nat) : Prop := ∀ k, k < 4 → M 288 k = (qdg c k : Nat)
theorem kx_isThere (hF : qFx S R) {a c : Nat} (hc : c < 10000) (hM : ∀ K, K < 16 → M 287 K = qroo A K a) (hb : qbk M c) : zcal zPP (d + 2) 94 [zA 286] (n, s, S, R, M) = some (zI (qbi (qth2 A a c 15)), (n, s, S, R, M)) := by
  have L : ∀ (j i : Nat) (g4 g5 : zV), i + j = 15 → qth2 A a c i = true → zR zPP (d + 1) 94 2 [zA 286, zI ((i + 1 : Nat) : Int), g4, g5] [] (n, s, S, R, M) = some (zI (qbi (qth2 A a c 15)), (n, s, S, R, M)) := by
    intro j
    induction j with
    | zero =>
      intro i g4 g5 hi ht
      have : i = 15 := by omega
      subst this
      rw [e_Counsel_isThere_2, if_neg (by decide), ht]
      rfl
    | succ j ih =>
      intro i g4 g5 hi ht
      have hI := qlp (P := fun k => zR zPP (d + 1) 94 9 [zA 286, zI ((i + 1 : Nat) : Int), zI (qds c (i + 1) k : Nat), zI (k : Nat)] [] (n, s, S, R, M)) (N := 4) (fun k hk => by
        have hs := qds_in hc (i + 1) k
        have hd := qdg_9 hc k
        have hz := zbit_nat (a := i + 1) (by omega) (show k < 32 by omega)
        have hbk := hb k hk
        have es : qds c (i + 1) (k + 1) = qds c (i + 1) k + (if (i + 1).testBit k = true then qdg c k else 0) := rfl
        have hz' : zand (zshr ((i : Int) + 1) k) 1 = if (i + 1).testBit k = true then 1 else 0 := hz
        show zR _ _ _ _ _ _ _ = zR _ _ _ _ _ _ _
        rw [e_Counsel_isThere_9, es]
        by_cases hb : (i + 1).testBit k = true
        · rw [if_pos hb] at hz'
          rw [if_pos hb]
          simp (disch := omega) only [hz', hbk, Int.one_mul, qff hF, qltT, qltF, qleT, qleF, qeqT, qeqF, Int.reduceEq, Int.reduceNe, Int.reduceLT, Int.reduceLE, Int.reduceToNat, Int.reduceAdd, Int.reduceSub, Int.reduceMul, Int.reduceNeg, Nat.reduceAdd, Nat.reduceMul, Nat.reduceEqDiff, Nat.reduceLT, Int.cast_ofNat_Int, Int.lt_irrefl, Bool.false_eq_true, ↓reduceIte, ↓reduceDIte, zbI, zbL, zbA, zbV, qrg, qrg2, qnn, qz, zup_at, zup_r, zup_ne, true_and, and_true, true_or, or_true, and_self, or_self, false_or, or_false, false_and, and_false, Int.toNat_natCast, Int.toNat_add, Int.toNat_mul, Int.toNat_zero, Int.toNat_one, qtn, Int.natCast_add, qnat1, qnat0, ne_eq, not_true_eq_false, not_false_eq_true, eq_self, qbool]
        · rw [if_neg hb] at hz'
          rw [if_neg hb, Nat.add_zero]
          simp (disch := omega) only [hz', hbk, Int.zero_mul, Int.add_zero, qff hF, qltT, qltF, qleT, qleF, qeqT, qeqF, Int.reduceEq, Int.reduceNe, Int.reduceLT, Int.reduceLE, Int.reduceToNat, Int.reduceAdd, Int.reduceSub, Int.reduceMul, Int.reduceNeg, Nat.reduceAdd, Nat.reduceMul, Nat.reduceEqDiff, Nat.reduceLT, Int.cast_ofNat_Int, Int.lt_irrefl, Bool.false_eq_true, ↓reduceIte, ↓reduceDIte, zbI, zbL, zbA, zbV, qrg, qrg2, qnn, qz, zup_at, zup_r, zup_ne, true_and, and_true, true_or, or_true, and_self, or_self, false_or, or_false, false_and, and_false, Int.toNat_natCast, Int.toNat_add, Int.toNat_mul, Int.toNat_zero, Int.toNat_one, qtn, Int.natCast_add, qnat1, qnat0, ne_eq, not_true_eq_false, not_false_eq_true, eq_self, qbool])
      have hs4 := qds_in hc (i + 1) 4
      have hr := hM (i + 1) (by omega)
      have e15 : qth2 A a c (i + 1) = (qth2 A a c i && decide ((qds c (i + 1) 4 : Int) ≤ qroo A (i + 1) a)) := rfl
      rw [e_Counsel_isThere_2, if_pos (by omega)]
      refine Eq.trans hI ?_
      show zR _ _ _ _ _ _ _ = _
      rw [e_Counsel_isThere_9, if_neg (by decide)]
      simp only [qff hF, if_true, Int.toNat_natCast, hr]
      rw [if_pos ⟨Or.inl trivial, by omega, by omega⟩]
      by_cases hq : (qds c (i + 1) 4 : Int) ≤ qroo A (i + 1) a
      · rw [if_neg (by omega), qw1 (show i + 1 < 100000 by omega)]
        exact ih (i + 1) _ _ (by omega) (by rw [e15, ht, decide_eq_true hq]; rfl)
      · have hf : qth2 A a c (i + 1) = false := by rw [e15, decide_eq_false hq, Bool.and_false]
        have := qal_false j hf
        rw [show i + 1 + j = 15 by omega] at this
        rw [if_pos (by omega), show qth2 A a c 15 = false from this]
        rfl
  rw [c_Counsel_isThere]
  simp (disch := omega) only [qff hF, qltT, qltF, qleT, qleF, qeqT, qeqF, Int.reduceEq, Int.reduceNe, Int.reduceLT, Int.reduceLE, Int.reduceToNat, Int.reduceAdd, Int.reduceSub, Int.reduceMul, Int.reduceNeg, Nat.reduceAdd, Nat.reduceMul, Nat.reduceEqDiff, Nat.reduceLT, Int.cast_ofNat_Int, Int.lt_irrefl, Bool.false_eq_true, ↓reduceIte, ↓reduceDIte, zbI, zbL, zbA, zbV, qrg, qrg2, qnn, qz, zup_at, zup_r, zup_ne, true_and, and_true, true_or, or_true, and_self, or_self, false_or, or_false, false_and, and_false, Int.toNat_natCast, Int.toNat_add, Int.toNat_mul, Int.toNat_zero, Int.toNat_one, qtn, Int.natCast_add, qnat1, qnat0, ne_eq, not_true_eq_false, not_false_eq_true, eq_self, qbool]
  exact L 15 0 zU zU rfl rfl
/-- what the class knows of the best -/
def qbp (M : Nat → Nat → Int) (A : Nat → Int) (b : Int) : Prop := M 286 3 = b ∧ M 286 4 = if b = -1 then -1 else qpr A b.toNat 4
theorem kx_weigh (hw : qWd n S R M W) {a T c N : Nat} (hT : T < 16) (hc : c < 10000) (hN : qdg c 0 + qdg c 1 + qdg c 2 + qdg c 3 = N) (h1 : qMe M M1 (M 306) a) (hb : qbk M1 c) (hp : qbp M1 (M 306) (qbst (M 306) T a N c)) :
    ∃ M2, zcal zPP (d + 4) 93 [zA 286, zI T] (n, s, S, R, M1) = some (zU, (n, s, S, R, M2)) ∧ qMe M M2 (M 306) a ∧ qbp M2 (M 306) (qbst (M 306) T a N (c + 1)) := by
  have hA := hw.2.1.2.2.2
  have hF := hw.1.2.1
  obtain ⟨t1, t2⟩ := wx_tw hw h1.1
  have hin := qbst_in (M 306) T a N c
  have ec : qdg c 0 + 10 * qdg c 1 + 100 * qdg c 2 + 1000 * qdg c 3 = c := by
    show c % 10 + 10 * (c / 10 % 10) + 100 * (c / 100 % 10) + 1000 * (c / 1000) = c
    omega
  have es : qbst (M 306) T a N (c + 1) = if qok1 (M 306) T a N c = true ∧ (qbst (M 306) T a N c = -1 ∨ qpr (M 306) c 4 < qpr (M 306) (qbst (M 306) T a N c).toNat 4) then (c : Int) else qbst (M 306) T a N c := rfl
  have hok : qok1 (M 306) T a N c = (qtak T c 4 && qth2 (M 306) a c 15) := by
    unfold qok1
    rw [decide_eq_true hN, Bool.true_and, qth_eq (M 306) hT]
  -- through the kinds
  have KN : ∀ (j k : Nat), k + j = 4 → qtak T c k = true → (qtak T c 4 = true ∧ zR zPP (d + 3) 93 4 [zA 286, zI T, zI (qpr (M 306) c k), zI k] [] (n, s, S, R, M1) = zR zPP (d + 3) 93 4 [zA 286, zI T, zI (qpr (M 306) c 4), zI 4] [] (n, s, S, R, M1)) ∨ (qtak T c 4 = false ∧ zR zPP (d + 3) 93 4 [zA 286, zI T, zI (qpr (M 306) c k), zI k] [] (n, s, S, R, M1) = some (zU, (n, s, S, R, M1))) := by
    intro j
    induction j with
    | zero =>
      intro k hk ht
      have : k = 4 := by omega
      subst this
      exact Or.inl ⟨ht, rfl⟩
    | succ j ih =>
      intro k hk ht
      have hd := qdg_9 hc k
      have hbk := hb k (by omega)
      have hpk := t1.2.2.2.2.2.2.2.1 k (by omega)
      have hz := zbit_nat (a := T) (by omega) (show k < 32 by omega)
      have b1 := qpr_in hA hc (k := k) (by omega)
      have b2 := qpr_in hA hc (k := k + 1) (by omega)
      have epr : qpr (M 306) c (k + 1) = qpr (M 306) c k + (qdg c k : Int) * M 306 (170 + k) := rfl
      have hpr := hA.2.2.2.2.2.2.2.2.2.2.2.2.2.2.2.2.2.1 k (by omega)
      have m1 : 0 ≤ (qdg c k : Int) * M 306 (170 + k) := Int.mul_nonneg (by omega) hpr.1
      have m2 : (qdg c k : Int) * M 306 (170 + k) ≤ 9 * 99 := Int.mul_le_mul (by omega) hpr.2 hpr.1 (by decide)
      have etk : qtak T c (k + 1) = (qtak T c k && (decide (qdg c k = 0) || T.testBit k)) := rfl
      by_cases h0 : qdg c k = 0
      · have hn := ih (k + 1) (by omega) (by rw [etk, ht, decide_eq_true h0]; rfl)
        have hstep : zR zPP (d + 3) 93 4 [zA 286, zI T, zI (qpr (M 306) c k), zI k] [] (n, s, S, R, M1) = zR zPP (d + 3) 93 4 [zA 286, zI T, zI (qpr (M 306) c (k + 1)), zI ((k + 1 : Nat) : Int)] [] (n, s, S, R, M1) := by
          rw [e_Counsel_weigh_4, epr]
          simp (disch := omega) only [hbk, e_Counsel_weigh_19, hpk, qff hF, qltT, qltF, qleT, qleF, qeqT, qeqF, Int.reduceEq, Int.reduceNe, Int.reduceLT, Int.reduceLE, Int.reduceToNat, Int.reduceAdd, Int.reduceSub, Int.reduceMul, Int.reduceNeg, Nat.reduceAdd, Nat.reduceMul, Nat.reduceEqDiff, Nat.reduceLT, Int.cast_ofNat_Int, Int.lt_irrefl, Bool.false_eq_true, ↓reduceIte, ↓reduceDIte, zbI, zbL, zbA, zbV, qrg, qrg2, qnn, qz, zup_at, zup_r, zup_ne, true_and, and_true, true_or, or_true, and_self, or_self, false_or, or_false, false_and, and_false, Int.toNat_natCast, Int.toNat_add, Int.toNat_mul, Int.toNat_zero, Int.toNat_one, qtn, Int.natCast_add, qnat1, qnat0, ne_eq, not_true_eq_false, not_false_eq_true, eq_self, qbool]
        rw [hstep]
        exact hn
      · by_cases hbt : T.testBit k = true
        · have hn := ih (k + 1) (by omega) (by rw [etk, ht, hbt, Bool.or_true]; rfl)
          rw [if_pos hbt] at hz
          have hstep : zR zPP (d + 3) 93 4 [zA 286, zI T, zI (qpr (M 306) c k), zI k] [] (n, s, S, R, M1) = zR zPP (d + 3) 93 4 [zA 286, zI T, zI (qpr (M 306) c (k + 1)), zI ((k + 1 : Nat) : Int)] [] (n, s, S, R, M1) := by
            rw [e_Counsel_weigh_4, epr]
            simp (disch := omega) only [hbk, e_Counsel_weigh_19, hpk, hz, qff hF, qltT, qltF, qleT, qleF, qeqT, qeqF, Int.reduceEq, Int.reduceNe, Int.reduceLT, Int.reduceLE, Int.reduceToNat, Int.reduceAdd, Int.reduceSub, Int.reduceMul, Int.reduceNeg, Nat.reduceAdd, Nat.reduceMul, Nat.reduceEqDiff, Nat.reduceLT, Int.cast_ofNat_Int, Int.lt_irrefl, Bool.false_eq_true, ↓reduceIte, ↓reduceDIte, zbI, zbL, zbA, zbV, qrg, qrg2, qnn, qz, zup_at, zup_r, zup_ne, true_and, and_true, true_or, or_true, and_self, or_self, false_or, or_false, false_and, and_false, Int.toNat_natCast, Int.toNat_add, Int.toNat_mul, Int.toNat_zero, Int.toNat_one, qtn, Int.natCast_add, qnat1, qnat0, ne_eq, not_true_eq_false, not_false_eq_true, eq_self, qbool]
          rw [hstep]
          exact hn
        · rw [if_neg hbt] at hz
          have hf : qtak T c (k + 1) = false := by rw [etk, decide_eq_false h0]; simp [hbt]
          right
          refine ⟨?_, ?_⟩
          · have := qal_false (f := fun k => decide (qdg c k = 0) || T.testBit k) j hf
            rw [show k + 1 + j = 4 by omega] at this
            exact this
          · rw [e_Counsel_weigh_4]
            simp (disch := omega) only [hbk, hz, qff hF, qltT, qltF, qleT, qleF, qeqT, qeqF, Int.reduceEq, Int.reduceNe, Int.reduceLT, Int.reduceLE, Int.reduceToNat, Int.reduceAdd, Int.reduceSub, Int.reduceMul, Int.reduceNeg, Nat.reduceAdd, Nat.reduceMul, Nat.reduceEqDiff, Nat.reduceLT, Int.cast_ofNat_Int, Int.lt_irrefl, Bool.false_eq_true, ↓reduceIte, ↓reduceDIte, zbI, zbL, zbA, zbV, qrg, qrg2, qnn, qz, zup_at, zup_r, zup_ne, true_and, and_true, true_or, or_true, and_self, or_self, false_or, or_false, false_and, and_false, Int.toNat_natCast, Int.toNat_add, Int.toNat_mul, Int.toNat_zero, Int.toNat_one, qtn, Int.natCast_add, qnat1, qnat0, ne_eq, not_true_eq_false, not_false_eq_true, eq_self, qbool]
  have b4 := qpr_in hA hc (k := 4) (by omega)
  rcases KN 4 0 rfl rfl with ⟨k1, k2⟩ | ⟨k1, k2⟩
  · have hth := kx_isThere (n := n) (s := s) (d := d + 1) (M := M1) (A := M 306) hF hc h1.2 hb
    have k2' : zR zPP (d + 3) 93 4 [zA 286, zI T, zI 0, zI 0] [] (n, s, S, R, M1) = _ := k2
    have hbetter : (qbst (M 306) T a N c = -1 ∨ qpr (M 306) c 4 < qpr (M 306) (qbst (M 306) T a N c).toNat 4) → ∃ M2, zcal zPP (d + 4) 93 [zA 286, zI T] (n, s, S, R, M1) = some (zU, (n, s, S, R, M2)) ∧ qMe M M2 (M 306) a ∧ qbp M2 (M 306) (qbst (M 306) T a N (c + 1)) := by
      intro hc1
      have hgo : zcal zPP (d + 4) 93 [zA 286, zI T] (n, s, S, R, M1) = zR zPP (d + 3) 93 42 [zA 286, zI T, zI (qpr (M 306) c 4), zI 4] [] (n, s, S, R, M1) := by
        rw [c_Counsel_weigh]
        simp (disch := omega) only [qff hF, qltT, qltF, qleT, qleF, qeqT, qeqF, Int.reduceEq, Int.reduceNe, Int.reduceLT, Int.reduceLE, Int.reduceToNat, Int.reduceAdd, Int.reduceSub, Int.reduceMul, Int.reduceNeg, Nat.reduceAdd, Nat.reduceMul, Nat.reduceEqDiff, Nat.reduceLT, Int.cast_ofNat_Int, Int.lt_irrefl, Bool.false_eq_true, ↓reduceIte, ↓reduceDIte, zbI, zbL, zbA, zbV, qrg, qrg2, qnn, qz, zup_at, zup_r, zup_ne, true_and, and_true, true_or, or_true, and_self, or_self, false_or, or_false, false_and, and_false, Int.toNat_natCast, Int.toNat_add, Int.toNat_mul, Int.toNat_zero, Int.toNat_one, qtn, Int.natCast_add, qnat1, qnat0, ne_eq, not_true_eq_false, not_false_eq_true, eq_self, qbool]
        rw [k2', e_Counsel_weigh_4]
        rcases hc1 with hc1 | hc1
        · have h4 : M1 286 4 = -1 := by rw [hp.2, if_pos hc1]
          simp (disch := omega) only [h4, qff hF, qltT, qltF, qleT, qleF, qeqT, qeqF, Int.reduceEq, Int.reduceNe, Int.reduceLT, Int.reduceLE, Int.reduceToNat, Int.reduceAdd, Int.reduceSub, Int.reduceMul, Int.reduceNeg, Nat.reduceAdd, Nat.reduceMul, Nat.reduceEqDiff, Nat.reduceLT, Int.cast_ofNat_Int, Int.lt_irrefl, Bool.false_eq_true, ↓reduceIte, ↓reduceDIte, zbI, zbL, zbA, zbV, qrg, qrg2, qnn, qz, zup_at, zup_r, zup_ne, true_and, and_true, true_or, or_true, and_self, or_self, false_or, or_false, false_and, and_false, Int.toNat_natCast, Int.toNat_add, Int.toNat_mul, Int.toNat_zero, Int.toNat_one, qtn, Int.natCast_add, qnat1, qnat0, ne_eq, not_true_eq_false, not_false_eq_true, eq_self, qbool]
        · by_cases hc0 : qbst (M 306) T a N c = -1
          · have h4 : M1 286 4 = -1 := by rw [hp.2, if_pos hc0]
            simp (disch := omega) only [h4, qff hF, qltT, qltF, qleT, qleF, qeqT, qeqF, Int.reduceEq, Int.reduceNe, Int.reduceLT, Int.reduceLE, Int.reduceToNat, Int.reduceAdd, Int.reduceSub, Int.reduceMul, Int.reduceNeg, Nat.reduceAdd, Nat.reduceMul, Nat.reduceEqDiff, Nat.reduceLT, Int.cast_ofNat_Int, Int.lt_irrefl, Bool.false_eq_true, ↓reduceIte, ↓reduceDIte, zbI, zbL, zbA, zbV, qrg, qrg2, qnn, qz, zup_at, zup_r, zup_ne, true_and, and_true, true_or, or_true, and_self, or_self, false_or, or_false, false_and, and_false, Int.toNat_natCast, Int.toNat_add, Int.toNat_mul, Int.toNat_zero, Int.toNat_one, qtn, Int.natCast_add, qnat1, qnat0, ne_eq, not_true_eq_false, not_false_eq_true, eq_self, qbool]
          · have h4 : M1 286 4 = qpr (M 306) (qbst (M 306) T a N c).toNat 4 := by rw [hp.2, if_neg hc0]
            simp (disch := omega) only [h4, qff hF, qltT, qltF, qleT, qleF, qeqT, qeqF, Int.reduceEq, Int.reduceNe, Int.reduceLT, Int.reduceLE, Int.reduceToNat, Int.reduceAdd, Int.reduceSub, Int.reduceMul, Int.reduceNeg, Nat.reduceAdd, Nat.reduceMul, Nat.reduceEqDiff, Nat.reduceLT, Int.cast_ofNat_Int, Int.lt_irrefl, Bool.false_eq_true, ↓reduceIte, ↓reduceDIte, zbI, zbL, zbA, zbV, qrg, qrg2, qnn, qz, zup_at, zup_r, zup_ne, true_and, and_true, true_or, or_true, and_self, or_self, false_or, or_false, false_and, and_false, Int.toNat_natCast, Int.toNat_add, Int.toNat_mul, Int.toNat_zero, Int.toNat_one, qtn, Int.natCast_add, qnat1, qnat0, ne_eq, not_true_eq_false, not_false_eq_true, eq_self, qbool]
      cases hq : qth2 (M 306) a c 15 with
      | true =>
        have hd0 := qdg_9 hc 0
        have hd1 := qdg_9 hc 1
        have hd2 := qdg_9 hc 2
        have hd3 := qdg_9 hc 3
        have hb0 : M1 288 0 = (qdg c 0 : Nat) := hb 0 (by decide)
        have hb1 : M1 288 1 = (qdg c 1 : Nat) := hb 1 (by decide)
        have hb2 : M1 288 2 = (qdg c 2 : Nat) := hb 2 (by decide)
        have hb3 : M1 288 3 = (qdg c 3 : Nat) := hb 3 (by decide)
        refine ⟨zup (zup M1 286 4 (qpr (M 306) c 4)) 286 3 (c : Int), ?_, ⟨fun q hq => ?_, fun K hK => ?_⟩, ?_⟩
        · rw [hgo, e_Counsel_weigh_42, hth, hq]
          have hc' : ((qdg c 0 : Nat) : Int) + 10 * (qdg c 1 : Nat) + 100 * (qdg c 2 : Nat) + 1000 * (qdg c 3 : Nat) = c := by omega
          simp (disch := omega) only [qbi_t, hb0, hb1, hb2, hb3, hc', qff hF, qltT, qltF, qleT, qleF, qeqT, qeqF, Int.reduceEq, Int.reduceNe, Int.reduceLT, Int.reduceLE, Int.reduceToNat, Int.reduceAdd, Int.reduceSub, Int.reduceMul, Int.reduceNeg, Nat.reduceAdd, Nat.reduceMul, Nat.reduceEqDiff, Nat.reduceLT, Int.cast_ofNat_Int, Int.lt_irrefl, Bool.false_eq_true, ↓reduceIte, ↓reduceDIte, zbI, zbL, zbA, zbV, qrg, qrg2, qnn, qz, zup_at, zup_r, zup_ne, true_and, and_true, true_or, or_true, and_self, or_self, false_or, or_false, false_and, and_false, Int.toNat_natCast, Int.toNat_add, Int.toNat_mul, Int.toNat_zero, Int.toNat_one, qtn, Int.natCast_add, qnat1, qnat0, ne_eq, not_true_eq_false, not_false_eq_true, eq_self, qbool]
        · rw [zup_rw (by omega), zup_rw (by omega)]; exact h1.1 q hq
        · rw [zup_r (by decide), zup_r (by decide)]; exact h1.2 K hK
        · rw [es, if_pos ⟨by rw [hok, k1, hq]; rfl, hc1⟩]
          refine ⟨zup_at, ?_⟩
          rw [zup_ne (by decide), zup_at, if_neg (by omega), Int.toNat_natCast]
      | false =>
        refine ⟨M1, ?_, h1, ?_⟩
        · rw [hgo, e_Counsel_weigh_42, hth, hq]
          simp (disch := omega) only [qbi_f, e_Counsel_weigh_45, qff hF, qltT, qltF, qleT, qleF, qeqT, qeqF, Int.reduceEq, Int.reduceNe, Int.reduceLT, Int.reduceLE, Int.reduceToNat, Int.reduceAdd, Int.reduceSub, Int.reduceMul, Int.reduceNeg, Nat.reduceAdd, Nat.reduceMul, Nat.reduceEqDiff, Nat.reduceLT, Int.cast_ofNat_Int, Int.lt_irrefl, Bool.false_eq_true, ↓reduceIte, ↓reduceDIte, zbI, zbL, zbA, zbV, qrg, qrg2, qnn, qz, zup_at, zup_r, zup_ne, true_and, and_true, true_or, or_true, and_self, or_self, false_or, or_false, false_and, and_false, Int.toNat_natCast, Int.toNat_add, Int.toNat_mul, Int.toNat_zero, Int.toNat_one, qtn, Int.natCast_add, qnat1, qnat0, ne_eq, not_true_eq_false, not_false_eq_true, eq_self, qbool]
        · rw [es, if_neg (fun z => by rw [hok, k1, hq] at z; exact absurd z.1 (by decide))]
          exact hp
    by_cases hc1 : qbst (M 306) T a N c = -1 ∨ qpr (M 306) c 4 < qpr (M 306) (qbst (M 306) T a N c).toNat 4
    · exact hbetter hc1
    · rw [not_or] at hc1
      have h4 : M1 286 4 = qpr (M 306) (qbst (M 306) T a N c).toNat 4 := by rw [hp.2, if_neg hc1.1]
      have hb0 := qpr_in hA (c := (qbst (M 306) T a N c).toNat) (by omega) (k := 4) (by omega)
      refine ⟨M1, ?_, h1, ?_⟩
      · rw [c_Counsel_weigh]
        simp (disch := omega) only [qff hF, qltT, qltF, qleT, qleF, qeqT, qeqF, Int.reduceEq, Int.reduceNe, Int.reduceLT, Int.reduceLE, Int.reduceToNat, Int.reduceAdd, Int.reduceSub, Int.reduceMul, Int.reduceNeg, Nat.reduceAdd, Nat.reduceMul, Nat.reduceEqDiff, Nat.reduceLT, Int.cast_ofNat_Int, Int.lt_irrefl, Bool.false_eq_true, ↓reduceIte, ↓reduceDIte, zbI, zbL, zbA, zbV, qrg, qrg2, qnn, qz, zup_at, zup_r, zup_ne, true_and, and_true, true_or, or_true, and_self, or_self, false_or, or_false, false_and, and_false, Int.toNat_natCast, Int.toNat_add, Int.toNat_mul, Int.toNat_zero, Int.toNat_one, qtn, Int.natCast_add, qnat1, qnat0, ne_eq, not_true_eq_false, not_false_eq_true, eq_self, qbool]
        rw [k2', e_Counsel_weigh_4]
        simp (disch := omega) only [h4, e_Counsel_weigh_45, qff hF, qltT, qltF, qleT, qleF, qeqT, qeqF, Int.reduceEq, Int.reduceNe, Int.reduceLT, Int.reduceLE, Int.reduceToNat, Int.reduceAdd, Int.reduceSub, Int.reduceMul, Int.reduceNeg, Nat.reduceAdd, Nat.reduceMul, Nat.reduceEqDiff, Nat.reduceLT, Int.cast_ofNat_Int, Int.lt_irrefl, Bool.false_eq_true, ↓reduceIte, ↓reduceDIte, zbI, zbL, zbA, zbV, qrg, qrg2, qnn, qz, zup_at, zup_r, zup_ne, true_and, and_true, true_or, or_true, and_self, or_self, false_or, or_false, false_and, and_false, Int.toNat_natCast, Int.toNat_add, Int.toNat_mul, Int.toNat_zero, Int.toNat_one, qtn, Int.natCast_add, qnat1, qnat0, ne_eq, not_true_eq_false, not_false_eq_true, eq_self, qbool]
      · rw [es, if_neg (fun z => by rcases z.2 with z | z; exact hc1.1 z; exact hc1.2 z)]
        exact hp
  · refine ⟨M1, ?_, h1, ?_⟩
    · have k2' : zR zPP (d + 3) 93 4 [zA 286, zI T, zI 0, zI 0] [] (n, s, S, R, M1) = _ := k2
      rw [c_Counsel_weigh]
      simp (disch := omega) only [qff hF, qltT, qltF, qleT, qleF, qeqT, qeqF, Int.reduceEq, Int.reduceNe, Int.reduceLT, Int.reduceLE, Int.reduceToNat, Int.reduceAdd, Int.reduceSub, Int.reduceMul, Int.reduceNeg, Nat.reduceAdd, Nat.reduceMul, Nat.reduceEqDiff, Nat.reduceLT, Int.cast_ofNat_Int, Int.lt_irrefl, Bool.false_eq_true, ↓reduceIte, ↓reduceDIte, zbI, zbL, zbA, zbV, qrg, qrg2, qnn, qz, zup_at, zup_r, zup_ne, true_and, and_true, true_or, or_true, and_self, or_self, false_or, or_false, false_and, and_false, Int.toNat_natCast, Int.toNat_add, Int.toNat_mul, Int.toNat_zero, Int.toNat_one, qtn, Int.natCast_add, qnat1, qnat0, ne_eq, not_true_eq_false, not_false_eq_true, eq_self, qbool]
      rw [k2']
    · rw [es, if_neg (fun z => by rw [hok, k1] at z; exact absurd z.1 (by simp))]
      exact hp
end QF
