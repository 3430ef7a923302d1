/-! RINGS OF THE CLASS, by their base address r: what is asked of them -/
def qan (f : Nat → Bool) : Nat → Bool
  | 0 => false
  | n + 1 => qan f n || f n
def qsm (f : Nat → Nat) : Nat → Nat
  | 0 => 0
  | n + 1 => qsm f n + f n
theorem qsm_le {f : Nat → Nat} {b : Nat} (h : ∀ i, f i ≤ b) : ∀ n, qsm f n ≤ b * n
  | 0 => Nat.le_refl _
  | n + 1 => by
    have h1 := qsm_le h n
    have h2 := h n
    unfold qsm
    rw [Nat.mul_succ]
    omega
theorem qan_iff (f : Nat → Bool) : ∀ n, qan f n = true ↔ ∃ i, i < n ∧ f i = true
  | 0 => by simp [qan]
  | n + 1 => by
    unfold qan
    rw [Bool.or_eq_true, qan_iff f n]
    constructor
    · rintro (⟨i, h1, h2⟩ | h)
      · exact ⟨i, Nat.lt_succ_of_lt h1, h2⟩
      · exact ⟨n, Nat.lt_succ_self n, h⟩
    · rintro ⟨i, h1, h2⟩
      by_cases hi : i = n
      · subst hi; exact Or.inr h2
      · exact Or.inl ⟨i, by omega, h2⟩
/-- a Rings at r, with its three rows behind it -/
def qLR (S : Nat → Nat × Nat) (R : Nat → Nat → Nat) (r : Nat) : Prop := S r = (5, 7) ∧ S (r + 1) = (20, 25) ∧ S (r + 2) = (20, 5) ∧ S (r + 3) = (20, 30) ∧ R r 0 = r + 1 ∧ R r 1 = r + 2 ∧ R r 2 = r + 3
/-- where the rings are: k of oak o's ring y (2 cut, 3 + p with p), as the sets have it -/
def qRg (M : Nat → Nat → Int) (r : Nat) (g : Nat → Nat → Int) : Prop := (∀ o p, o < 5 → p < 5 → M (r + 1) (5 * o + p) = (zsn (fun y => decide (g o y = 3 + p)) 24 : Nat)) ∧ ∀ o, o < 5 → M (r + 2) o = (zsn (fun y => decide (g o y = 2)) 24 : Nat)
theorem q5 {o p : Nat} (ho : o < 5) (hp : p < 5) : zw32 ((zw32 ((o : Int) * 5)) + p) = ((5 * o + p : Nat) : Int) := by unfold zw32; omega
theorem qw1 {k : Nat} (h : k < 100000) : zw32 ((k : Int) + 1) = ((k + 1 : Nat) : Int) := by unfold zw32; omega
theorem qwa {a b : Nat} (h : a + b < 2147483648) : zw32 ((a : Int) + b) = ((a + b : Nat) : Int) := by unfold zw32; omega
/-- a place of a row of ints -/
theorem qok {k N : Nat} (h : k < N) : 0 ≤ (k : Int) ∧ (k : Int) < ((N : Nat) : Int) := ⟨by omega, by omega⟩
/-- five persons, one by one -/
theorem q5p {v : Int} : (qan (fun p => decide (v = 3 + (p : Int))) 5) = (decide (3 ≤ v) && decide (v < 8)) := by
  rw [Bool.eq_iff_iff, qan_iff, Bool.and_eq_true, decide_eq_true_iff, decide_eq_true_iff]
  constructor
  · rintro ⟨i, h1, h2⟩
    have := of_decide_eq_true h2
    omega
  · rintro ⟨h1, h2⟩
    exact ⟨(v - 3).toNat, by omega, decide_eq_true (by omega)⟩
section QR
variable {S : Nat → Nat × Nat} {R : Nat → Nat → Nat} {M : Nat → Nat → Int} {n s d r : Nat}
theorem k_with (h : qLR S R r) {o p : Nat} (ho : o < 5) (hp : p < 5) : zcal zPP (d + 1) 137 [zA r, zI o, zI p] (n, s, S, R, M) = some (zI (M (r + 1) (5 * o + p)), (n, s, S, R, M)) := by
  obtain ⟨h1, h2, h3, h4, h5, h6, h7⟩ := h
  have a1 : ¬ (o : Int) < 0 := by omega
  have a2 : (o : Int) < 5 := by omega
  have a3 : ¬ (p : Int) < 0 := by omega
  have a4 : (p : Int) < 5 := by omega
  rw [c_Rings_with]
  simp only [h1, h5, h2, if_pos, if_neg a1, if_pos a2, if_neg a3, if_pos a4, q5 ho hp, Int.toNat_natCast, true_or, true_and]
  rw [if_pos (qok (by omega))]
theorem k_with_no (h : qLR S R r) {o p : Int} (hop : o < 0 ∨ 5 ≤ o ∨ p < 0 ∨ 5 ≤ p) : zcal zPP (d + 1) 137 [zA r, zI o, zI p] (n, s, S, R, M) = some (zI 0, (n, s, S, R, M)) := by
  obtain ⟨h1, h2, h3, h4, h5, h6, h7⟩ := h
  rw [c_Rings_with]
  simp only [h1, if_true]
  by_cases a1 : o < 0
  · rw [if_pos a1]
  · rw [if_neg a1]
    by_cases a2 : o < 5
    · rw [if_pos a2]
      by_cases a3 : p < 0
      · rw [if_pos a3]
      · rw [if_neg a3, if_neg (by omega)]
    · rw [if_neg a2]
theorem k_lentOf_loop (h : qLR S R r) (f : Nat → Nat → Bool) {o : Nat} (ho : o < 5) (hM : ∀ p, p < 5 → M (r + 1) (5 * o + p) = (zsn (f p) 24 : Nat)) : ∀ (k i : Nat), i + k = 5 →
    zR zPP (d + 1) 142 4 [zA r, zI o, zI (zsn (fun y => qan (fun p => f p y) i) 24 : Nat), zI i] [] (n, s, S, R, M) = some (zI (zsn (fun y => qan (fun p => f p y) 5) 24 : Nat), (n, s, S, R, M))
  | 0, i, hi => by
    have : i = 5 := hi
    subst this
    rw [e_Rings_lentOf_4, if_neg (by decide)]
  | k + 1, i, hi => by
    rw [e_Rings_lentOf_4, if_pos (by omega), k_with h ho (by omega)]
    simp only [zbI]
    rw [hM i (by omega), zsn_or24, qw1 (by omega)]
    exact k_lentOf_loop h f ho hM k (i + 1) (by omega)
theorem k_lentOf (h : qLR S R r) {g : Nat → Nat → Int} (hg : qRg M r g) {o : Nat} (ho : o < 5) : zcal zPP (d + 2) 142 [zA r, zI o] (n, s, S, R, M) = some (zI (zsn (fun y => decide (3 ≤ g o y) && decide (g o y < 8)) 24 : Nat), (n, s, S, R, M)) := by
  rw [c_Rings_lentOf]
  simp only [h.1, if_true]
  have := k_lentOf_loop (n := n) (s := s) (d := d) h (fun p y => decide (g o y = 3 + p)) ho (fun p hp => hg.1 o p ho hp) 5 0 rfl
  simp only [qan, zsn_none] at this
  rw [show (0 : Int) = ((0 : Nat) : Int) from rfl, this]
  congr 4
  exact zsn_cong fun y hy => q5p
theorem k_goneFrom_loop (h : qLR S R r) (f : Nat → Nat → Bool) (c : Nat → Bool) {o : Nat} (ho : o < 5) (hM : ∀ p, p < 5 → M (r + 1) (5 * o + p) = (zsn (f p) 24 : Nat)) : ∀ (k i : Nat), i + k = 5 →
    zR zPP d 135 14 [zA r, zI o, zI (zsn (fun y => c y || qan (fun p => f p y) i) 24 : Nat), zI i] [] (n, s, S, R, M) = some (zI (zsn (fun y => c y || qan (fun p => f p y) 5) 24 : Nat), (n, s, S, R, M))
  | 0, i, hi => by
    have : i = 5 := hi
    subst this
    rw [e_Rings_goneFrom_14, if_neg (by decide)]
  | k + 1, i, hi => by
    rw [e_Rings_goneFrom_14, if_pos (by omega)]
    simp only [h.1, h.2.1, h.2.2.2.2.1, if_true, q5 ho (show i < 5 by omega), Int.toNat_natCast, true_or, true_and]
    rw [if_pos (qok (by omega)), hM i (by omega), zsn_or24, qw1 (by omega)]
    have := k_goneFrom_loop h f c ho hM k (i + 1) (by omega)
    rw [← this]
    congr 5
    refine congrArg (fun x : Nat => (x : Int)) (zsn_cong fun y hy => ?_)
    rw [Bool.or_assoc]
    rfl
theorem k_goneFrom (h : qLR S R r) {g : Nat → Nat → Int} (hg : qRg M r g) {o : Nat} (ho : o < 5) : zcal zPP (d + 1) 135 [zA r, zI o] (n, s, S, R, M) = some (zI (zsn (fun y => decide (2 ≤ g o y) && decide (g o y < 8)) 24 : Nat), (n, s, S, R, M)) := by
  rw [c_Rings_goneFrom]
  simp only [h.1, h.2.2.1, h.2.2.2.2.2.1, if_true, Int.toNat_natCast, true_or, true_and]
  rw [if_neg (by omega), if_pos (by omega), if_pos (qok ho), hg.2 o ho]
  have := k_goneFrom_loop (n := n) (s := s) (d := d) h (fun p y => decide (g o y = 3 + p)) (fun y => decide (g o y = 2)) ho (fun p hp => hg.1 o p ho hp) 5 0 rfl
  simp only [qan, Bool.or_false] at this
  rw [show (0 : Int) = ((0 : Nat) : Int) from rfl, this]
  congr 4
  refine zsn_cong fun y hy => ?_
  show (decide (g o y = 2) || qan (fun p => decide (g o y = 3 + (p : Int))) 5) = _
  rw [q5p]
  generalize g o y = v
  rw [Bool.eq_iff_iff]
  simp only [Bool.or_eq_true, Bool.and_eq_true, decide_eq_true_iff]
  omega
theorem k_yearsOf_loop (h : qLR S R r) (f : Nat → Nat → Bool) {p : Nat} (hp : p < 5) (hM : ∀ o, o < 5 → M (r + 1) (5 * o + p) = (zsn (f o) 24 : Nat)) : ∀ (k i : Nat), i + k = 5 →
    zR zPP (d + 1) 145 4 [zA r, zI p, zI (zsn (fun y => qan (fun o => f o y) i) 24 : Nat), zI i] [] (n, s, S, R, M) = some (zI (zsn (fun y => qan (fun o => f o y) 5) 24 : Nat), (n, s, S, R, M))
  | 0, i, hi => by
    have : i = 5 := hi
    subst this
    rw [e_Rings_yearsOf_4, if_neg (by decide)]
  | k + 1, i, hi => by
    rw [e_Rings_yearsOf_4, if_pos (by omega), k_with h (by omega) hp]
    simp only [zbI]
    rw [hM i (by omega), zsn_or24, qw1 (by omega)]
    exact k_yearsOf_loop h f hp hM k (i + 1) (by omega)
theorem k_yearsOf (h : qLR S R r) {g : Nat → Nat → Int} (hg : qRg M r g) {p : Nat} (hp : p < 5) : zcal zPP (d + 2) 145 [zA r, zI p] (n, s, S, R, M) = some (zI (zsn (fun y => qan (fun o => decide (g o y = 3 + p)) 5) 24 : Nat), (n, s, S, R, M)) := by
  rw [c_Rings_yearsOf]
  simp only [h.1, if_true]
  have := k_yearsOf_loop (n := n) (s := s) (d := d) h (fun o y => decide (g o y = 3 + p)) hp (fun o ho => hg.1 o p ho hp) 5 0 rfl
  simp only [qan, zsn_none] at this
  exact this
theorem k_yearsOf_no_loop (h : qLR S R r) {p : Int} (hp : p < 0 ∨ 5 ≤ p) : ∀ (k i : Nat), i + k = 5 →
    zR zPP (d + 1) 145 4 [zA r, zI p, zI 0, zI i] [] (n, s, S, R, M) = some (zI 0, (n, s, S, R, M))
  | 0, i, hi => by
    have : i = 5 := hi
    subst this
    rw [e_Rings_yearsOf_4, if_neg (by decide)]
  | k + 1, i, hi => by
    rw [e_Rings_yearsOf_4, if_pos (by omega), k_with_no h (Or.inr (Or.inr hp))]
    simp only [zbI]
    rw [show zor 0 0 = 0 by decide, qw1 (by omega)]
    exact k_yearsOf_no_loop h hp k (i + 1) (by omega)
theorem k_yearsOf_no (h : qLR S R r) {p : Int} (hp : p < 0 ∨ 5 ≤ p) : zcal zPP (d + 2) 145 [zA r, zI p] (n, s, S, R, M) = some (zI 0, (n, s, S, R, M)) := by
  rw [c_Rings_yearsOf]
  simp only [h.1, if_true]
  exact k_yearsOf_no_loop h hp 5 0 rfl
theorem k_heldBy_loop (h : qLR S R r) (f : Nat → Nat → Bool) {p : Nat} (hp : p < 5) (hM : ∀ o, o < 5 → M (r + 1) (5 * o + p) = (zsn (f o) 24 : Nat)) : ∀ (k i : Nat), i + k = 5 →
    zR zPP (d + 1) 136 4 [zA r, zI p, zI (qsm (fun o => zct (f o) 24) i : Nat), zI i] [] (n, s, S, R, M) = some (zI (qsm (fun o => zct (f o) 24) 5 : Nat), (n, s, S, R, M))
  | 0, i, hi => by
    have : i = 5 := hi
    subst this
    rw [e_Rings_heldBy_4, if_neg (by decide)]
  | k + 1, i, hi => by
    rw [e_Rings_heldBy_4, if_pos (by omega), k_with h (by omega) hp]
    simp only [zbI]
    rw [hM i (by omega), k_bitCount]
    simp only [zbI]
    have h1 := qsm_le (f := fun o => zct (f o) 24) (b := 24) (fun o => zct_le _ _) i
    have h2 := zct_le (f i) 24
    rw [qwa (by omega), qw1 (by omega)]
    exact k_heldBy_loop h f hp hM k (i + 1) (by omega)
theorem k_heldBy (h : qLR S R r) {g : Nat → Nat → Int} (hg : qRg M r g) {p : Nat} (hp : p < 5) : zcal zPP (d + 2) 136 [zA r, zI p] (n, s, S, R, M) = some (zI (qsm (fun o => zct (fun y => decide (g o y = 3 + p)) 24) 5 : Nat), (n, s, S, R, M)) := by
  rw [c_Rings_heldBy]
  simp only [h.1, if_true]
  exact k_heldBy_loop (n := n) (s := s) (d := d) h (fun o y => decide (g o y = 3 + p)) hp (fun o ho => hg.1 o p ho hp) 5 0 rfl
theorem k_isYear {y : Nat} (hy : y < 24) (σ : zS) : zcal zPP (d + 1) 19 [zI y] σ = some (zI 1, σ) := by
  rw [c_X_isYear, if_neg (by omega), if_pos (by omega)]
theorem k_isYear_no {y : Int} (hy : y < 0 ∨ 24 ≤ y) (σ : zS) : zcal zPP (d + 1) 19 [zI y] σ = some (zI 0, σ) := by
  rw [c_X_isYear]
  by_cases h : y < 0
  · rw [if_pos h]
  · rw [if_neg h, if_neg (by omega)]
theorem k_holder_loop (h : qLR S R r) {g : Nat → Nat → Int} (hg : qRg M r g) {o y : Nat} (ho : o < 5) (hy : y < 24) : ∀ (k i : Nat), i + k = 5 → (∀ p, p < i → g o y ≠ 3 + p) →
    zR zPP (d + 1) 141 7 [zA r, zI o, zI y, zI i] [] (n, s, S, R, M) = some (zI (if 3 ≤ g o y ∧ g o y < 8 then g o y - 3 else -1), (n, s, S, R, M))
  | 0, i, hi, hn => by
    have : i = 5 := hi
    subst this
    rw [e_Rings_holder_7, if_neg (by decide), if_neg]
    rintro ⟨h1, h2⟩
    exact hn (g o y - 3).toNat (by omega) (by omega)
  | k + 1, i, hi, hn => by
    rw [e_Rings_holder_7, if_pos (by omega), k_with h ho (by omega)]
    simp only [zbI]
    rw [hg.1 o i ho (by omega), zsn_bit24 _ hy]
    by_cases hb : g o y = 3 + i
    · rw [if_pos (by simp [hb]), if_pos (by omega)]
      congr 3
      omega
    · rw [if_neg (by simp [hb]), qw1 (by omega)]
      refine k_holder_loop h hg ho hy k (i + 1) (by omega) fun p hp => ?_
      by_cases hpi : p = i
      · subst hpi; exact hb
      · exact hn p (by omega)
theorem k_holder (h : qLR S R r) {g : Nat → Nat → Int} (hg : qRg M r g) {o y : Nat} (ho : o < 5) (hy : y < 24) : zcal zPP (d + 2) 141 [zA r, zI o, zI y] (n, s, S, R, M) = some (zI (if 3 ≤ g o y ∧ g o y < 8 then g o y - 3 else -1), (n, s, S, R, M)) := by
  rw [c_Rings_holder]
  simp only [h.1, if_true]
  rw [k_isYear hy]
  simp only [zbI]
  rw [if_neg (by decide)]
  exact k_holder_loop h hg ho hy 5 0 rfl (fun p hp => absurd hp (Nat.not_lt_zero p))
end QR
