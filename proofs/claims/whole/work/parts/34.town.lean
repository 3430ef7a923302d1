/-! A TOWN OF THE CLASS at t: its rows lie behind it in the order in which its constructor makes them -/
def qLT (S : Nat → Nat × Nat) (R : Nat → Nat → Nat) (t : Nat) : Prop :=
  (S t = (8, 18) ∧ S (t + 1) = (20, 5) ∧ S (t + 2) = (20, 24) ∧ S (t + 3) = (20, 5) ∧ S (t + 4) = (25, 4) ∧ S (t + 5) = (20, 5) ∧ S (t + 6) = (20, 5) ∧ S (t + 7) = (20, 10) ∧ S (t + 8) = (20, 4) ∧ S (t + 9) = (20, 8) ∧ S (t + 10) = (20, 8)) ∧
  (R t 0 = t + 1 ∧ R t 1 = t + 2 ∧ R t 2 = t + 3 ∧ R t 3 = t + 4 ∧ R t 4 = t + 5 ∧ R t 5 = t + 6 ∧ R t 6 = t + 7 ∧ R t 7 = t + 8 ∧ R t 8 = t + 9 ∧ R t 9 = t + 10 ∧ R t 10 = t + 11 ∧ R t 11 = t + 15) ∧
  qLR S R (t + 11) ∧ (S (t + 15) = (6, 3) ∧ S (t + 16) = (24, 30) ∧ R (t + 15) 0 = t + 16) ∧ ∀ i, i < 30 → R (t + 16) i = t + 17 + 4 * i ∧ qLR S R (t + 17 + 4 * i)
/-- the ring of the class out of the model's row: what no oak has yet is nowhere -/
def qg (A : Nat → Int) (o y : Nat) : Int := if (o : Int) < A 0 then A (11 + 24 * o + y) else 0
/-- what a Town keeps beside rings, steps and texts, out of the model's row -/
def qTw (M : Nat → Nat → Int) (t : Nat) (A : Nat → Int) : Prop :=
  (M t 12 = A 0 ∧ M t 13 = A 1 ∧ M t 14 = A 2 ∧ M t 15 = A 3 ∧ M t 16 = A 5 ∧ M t 17 = A 6) ∧
  (∀ o, o < 5 → M (t + 1) o = (zsn (fun y => decide (A (11 + 24 * o + y) ≠ 0)) 24 : Nat)) ∧ (∀ y, y < 24 → M (t + 2) y = A (136 + y)) ∧ (∀ p, p < 5 → M (t + 3) p = A (131 + p)) ∧
  (∀ p, p < 5 → M (t + 5) p = A (160 + p)) ∧ (∀ p, p < 5 → M (t + 6) p = A (165 + p)) ∧ (∀ k, k < 10 → M (t + 7) k = A (174 + k)) ∧ (∀ k, k < 4 → M (t + 8) k = A (170 + k)) ∧
  (∀ k, k < 8 → M (t + 9) k = A (184 + 2 * k)) ∧ (∀ k, k < 8 → M (t + 10) k = A (184 + 2 * k + 1))
/-- the bounds of the model's row that the calls keep -/
def qIn (A : Nat → Int) : Prop :=
  (0 ≤ A 0 ∧ A 0 ≤ 5) ∧ (0 ≤ A 1 ∧ A 1 ≤ 5) ∧ (0 ≤ A 2 ∧ A 2 ≤ 4) ∧ (-1 ≤ A 3 ∧ A 3 < A 2) ∧ (0 ≤ A 4 ∧ A 4 ≤ 30) ∧ (0 ≤ A 5 ∧ A 5 ≤ 10) ∧ (0 ≤ A 6 ∧ A 6 ≤ 8) ∧ (0 ≤ A 7 ∧ A 7 ≤ 9999) ∧ (0 ≤ A 8 ∧ A 8 ≤ 9999) ∧ (0 ≤ A 9 ∧ A 9 < 30689) ∧ (0 ≤ A 10 ∧ A 10 ≤ 30) ∧
  (∀ o y, o < 5 → y < 24 → 0 ≤ A (11 + 24 * o + y) ∧ A (11 + 24 * o + y) < 3 + A 1) ∧ (∀ y, y < 24 → 0 ≤ A (136 + y) ∧ A (136 + y) ≤ 3) ∧ (∀ p, p < 5 → 0 ≤ A (131 + p) ∧ A (131 + p) ≤ 99) ∧
  (∀ p, p < 5 → 0 ≤ A (160 + p) ∧ A (160 + p) ≤ 99) ∧ (∀ p, p < 5 → 0 ≤ A (165 + p) ∧ A (165 + p) ≤ 15) ∧ (∀ k, k < 10 → 0 ≤ A (174 + k) ∧ A (174 + k) ≤ 3) ∧ (∀ k, k < 4 → 0 ≤ A (170 + k) ∧ A (170 + k) ≤ 99) ∧
  (∀ k : Nat, (k : Int) < A 6 → 0 ≤ A (184 + 2 * k) ∧ A (184 + 2 * k) < A 1 ∧ -999 ≤ A (184 + 2 * k + 1) ∧ A (184 + 2 * k + 1) ≤ 9999)
section QT
variable {S : Nat → Nat × Nat} {R : Nat → Nat → Nat} {M : Nat → Nat → Int} {n s d t : Nat} {A : Nat → Int}
theorem k_hasOak (h : qLT S R t) (hT : qTw M t A) (hA : qIn A) (o : Int) : zcal zPP (d + 1) 167 [zA t, zI o] (n, s, S, R, M) = some (zI (if 0 ≤ o ∧ o < A 0 then 1 else 0), (n, s, S, R, M)) := by
  have h5 := hA.1.2
  rw [c_Town_hasOak]
  simp only [h.1.1, hT.1.1, if_true]
  by_cases h1 : o < 0
  · rw [if_pos h1, if_neg (by omega)]
  · rw [if_neg h1]
    by_cases h2 : o < A 0
    · rw [if_pos h2, if_pos (by omega), if_pos (by omega)]
    · rw [if_neg h2, if_neg (by omega)]
theorem k_hasPerson (h : qLT S R t) (hT : qTw M t A) (hA : qIn A) (o : Int) : zcal zPP (d + 1) 168 [zA t, zI o] (n, s, S, R, M) = some (zI (if 0 ≤ o ∧ o < A 1 then 1 else 0), (n, s, S, R, M)) := by
  have h5 := hA.2.1.2
  rw [c_Town_hasPerson]
  simp only [h.1.1, hT.1.2.1, if_true]
  by_cases h1 : o < 0
  · rw [if_pos h1, if_neg (by omega)]
  · rw [if_neg h1]
    by_cases h2 : o < A 1
    · rw [if_pos h2, if_pos (by omega), if_pos (by omega)]
    · rw [if_neg h2, if_neg (by omega)]
theorem k_hadRing (h : qLT S R t) (hT : qTw M t A) (hA : qIn A) (o y : Int) : zcal zPP (d + 2) 166 [zA t, zI o, zI y] (n, s, S, R, M) = some (zI (if (0 ≤ o ∧ o < A 0) ∧ (0 ≤ y ∧ y < 24) ∧ A (11 + 24 * o.toNat + y.toNat) ≠ 0 then 1 else 0), (n, s, S, R, M)) := by
  have h5 := hA.1.2
  rw [c_Town_hadRing]
  simp only [h.1.1, if_true]
  rw [k_hasOak h hT hA]
  simp only [zbI]
  by_cases h1 : 0 ≤ o ∧ o < A 0
  · rw [if_pos h1, if_neg (by decide)]
    by_cases h2 : 0 ≤ y ∧ y < 24
    · obtain ⟨y, rfl⟩ := Int.eq_ofNat_of_zero_le h2.1
      obtain ⟨o, rfl⟩ := Int.eq_ofNat_of_zero_le h1.1
      have hy : y < 24 := by omega
      have ho : o < 5 := by omega
      rw [k_isYear hy]
      simp only [zbI, h.1.1, h.2.1.1, h.1.2.1, if_true, true_or, true_and, Int.toNat_natCast]
      rw [if_neg (by decide), if_pos (qok ho), hT.2.1 o ho, zsn_bit24 _ hy]
      by_cases h3 : A (11 + 24 * o + y) = 0
      · rw [if_neg (by simp [h3]), if_neg (by simp [h3])]
      · rw [if_pos (by simp [h3]), if_pos ⟨h1, h2, h3⟩]
    · rw [k_isYear_no (by omega)]
      simp only [zbI, if_true]
      rw [if_neg (fun z => h2 z.2.1)]
  · rw [if_neg h1, if_pos rfl, if_neg (fun z => h1 z.1)]
theorem k_inOak (h : qLT S R t) (hT : qTw M t A) (hA : qIn A) {r : Nat} {g : Nat → Nat → Int} (hr : qLR S R r) (hg : qRg M r g) {o : Nat} (ho : (o : Int) < A 0) :
    zcal zPP (d + 2) 170 [zA t, zA r, zI o] (n, s, S, R, M) = some (zI (zsn (fun y => decide (A (11 + 24 * o + y) ≠ 0) && !(decide (2 ≤ g o y) && decide (g o y < 8))) 24 : Nat), (n, s, S, R, M)) := by
  have h5 := hA.1.2
  have ho5 : o < 5 := by omega
  rw [c_Town_inOak]
  simp only [h.1.1, if_true]
  rw [k_hasOak h hT hA, if_pos ⟨by omega, ho⟩]
  simp only [zbI, h.1.1, h.2.1.1, h.1.2.1, if_true, true_or, true_and, Int.toNat_natCast]
  rw [if_neg (by decide), if_pos (qok ho5), k_goneFrom hr hg ho5]
  simp only [zbI]
  rw [hT.2.1 o ho5, zsn_andn24]
theorem k_inOak_no (h : qLT S R t) (hT : qTw M t A) (hA : qIn A) {r : Nat} {o : Int} (ho : ¬ (0 ≤ o ∧ o < A 0)) : zcal zPP (d + 2) 170 [zA t, zA r, zI o] (n, s, S, R, M) = some (zI 0, (n, s, S, R, M)) := by
  rw [c_Town_inOak]
  simp only [h.1.1, if_true]
  rw [k_hasOak h hT hA, if_neg ho]
  simp only [zbI, if_true]
/-- the years in an oak -/
def qin (A : Nat → Int) (o : Nat) : Nat := zsn (fun y => decide (A (11 + 24 * o + y) = 1)) 24
theorem qin_of {A : Nat → Int} (hA : qIn A) {o : Nat} (ho : (o : Int) < A 0) : zsn (fun y => decide (A (11 + 24 * o + y) ≠ 0) && !(decide (2 ≤ qg A o y) && decide (qg A o y < 8))) 24 = qin A o := by
  refine zsn_cong fun y hy => ?_
  have h5 := hA.1.2
  have hp := hA.2.1.2
  have := hA.2.2.2.2.2.2.2.2.2.2.2.1 o y (by omega) hy
  unfold qg
  rw [if_pos ho, Bool.eq_iff_iff]
  simp only [Bool.and_eq_true, Bool.not_eq_true', decide_eq_true_iff, Bool.and_eq_false_iff, decide_eq_false_iff_not]
  omega
theorem k_inOakT (h : qLT S R t) (hT : qTw M t A) (hA : qIn A) (hg : qRg M (t + 11) (qg A)) {o : Nat} (ho : (o : Int) < A 0) : zcal zPP (d + 2) 170 [zA t, zA (t + 11), zI o] (n, s, S, R, M) = some (zI (qin A o : Nat), (n, s, S, R, M)) := by
  rw [k_inOak h hT hA h.2.2.1 hg ho, qin_of hA ho]
/-- how many are in an oak -/
def qic (A : Nat → Int) (o : Nat) : Nat := zct (fun y => decide (A (11 + 24 * o + y) = 1)) 24
theorem k_bitIn (A : Nat → Int) (o : Nat) (σ : zS) : zcal zPP (d + 1) 1 [zI (qin A o : Nat)] σ = some (zI (qic A o : Nat), σ) := k_bitCount _ _ _
theorem k_isFenced (h : qLT S R t) (hT : qTw M t A) (hA : qIn A) (hg : qRg M (t + 11) (qg A)) {o : Nat} (ho : (o : Int) < A 0) : zcal zPP (d + 3) 169 [zA t, zI o] (n, s, S, R, M) = some (zI (if qic A o ≤ 9 then 1 else 0), (n, s, S, R, M)) := by
  rw [c_Town_isFenced]
  simp only [h.1.1, h.2.1.2.2.2.2.2.2.2.2.2.2.1, if_true]
  rw [k_inOakT h hT hA hg ho]
  simp only [zbI]
  rw [k_bitIn]
  simp only [zbI]
  by_cases h9 : qic A o ≤ 9
  · rw [if_neg (by omega), if_pos h9]
  · rw [if_pos (by omega), if_neg h9]
/-- the years of some kinds -/
def qyk (A : Nat → Int) (k : Nat) : Nat → Bool := fun y => k.testBit (A (136 + y)).toNat
theorem k_yearsOfKinds_loop (h : qLT S R t) (hT : qTw M t A) (hA : qIn A) {k : Nat} (hk : k < 16) : ∀ (j i : Nat), i + j = 24 →
    zR zPP d 173 4 [zA t, zI k, zI (zsn (fun y => qyk A k y && decide (y < i)) 24 : Nat), zI i] [] (n, s, S, R, M) = some (zI (zsn (qyk A k) 24 : Nat), (n, s, S, R, M))
  | 0, i, hi => by
    have : i = 24 := hi
    subst this
    rw [e_Town_yearsOfKinds_4, if_neg (by decide)]
    congr 4
    exact zsn_cong fun y hy => by simp [hy]
  | j + 1, i, hi => by
    have hi24 : i < 24 := by omega
    have hb := hA.2.2.2.2.2.2.2.2.2.2.2.2.1 i hi24
    rw [e_Town_yearsOfKinds_4, if_pos (by omega)]
    simp only [h.1.1, h.2.1.2.1, h.1.2.2.1, if_true, true_or, true_and, Int.toNat_natCast]
    rw [if_pos (qok hi24), hT.2.2.1 i hi24]
    obtain ⟨v, hv⟩ := Int.eq_ofNat_of_zero_le hb.1
    have hq : qyk A k i = k.testBit v := by unfold qyk; rw [hv]; rfl
    have hv4 : v < 4 := by omega
    rw [hv, zbit_nat (by omega) (by omega), qw1 (by omega)]
    by_cases hc : k.testBit v = true
    · rw [if_pos hc, if_pos rfl, zsn_put24 _ hi24, ← k_yearsOfKinds_loop h hT hA hk j (i + 1) (by omega)]
      congr 4
      refine congrArg (fun x : Nat => zI (x : Int)) (zsn_cong fun y hy => ?_)
      rw [Bool.eq_iff_iff]
      simp only [Bool.or_eq_true, Bool.and_eq_true, decide_eq_true_iff]
      constructor
      · rintro (⟨h1, h2⟩ | rfl)
        · exact ⟨h1, by omega⟩
        · exact ⟨hq.trans hc, by omega⟩
      · rintro ⟨h1, h2⟩
        by_cases hy : y = i
        · exact Or.inr hy
        · exact Or.inl ⟨h1, by omega⟩
    · rw [if_neg hc, if_neg (by decide), ← k_yearsOfKinds_loop h hT hA hk j (i + 1) (by omega)]
      congr 4
      refine congrArg (fun x : Nat => zI (x : Int)) (zsn_cong fun y hy => ?_)
      rw [Bool.eq_iff_iff]
      simp only [Bool.and_eq_true, decide_eq_true_iff]
      constructor
      · rintro ⟨h1, h2⟩
        exact ⟨h1, by omega⟩
      · rintro ⟨h1, h2⟩
        refine ⟨h1, ?_⟩
        by_cases hy : y = i
        · subst hy; exact absurd (hq.symm.trans h1) hc
        · omega
theorem k_yearsOfKinds (h : qLT S R t) (hT : qTw M t A) (hA : qIn A) {k : Nat} (hk : k < 16) : zcal zPP (d + 1) 173 [zA t, zI k] (n, s, S, R, M) = some (zI (zsn (qyk A k) 24 : Nat), (n, s, S, R, M)) := by
  rw [c_Town_yearsOfKinds]
  simp only [h.1.1, if_true]
  have := k_yearsOfKinds_loop (n := n) (s := s) (d := d) h hT hA hk 24 0 rfl
  simp only [Nat.not_lt_zero, decide_false, Bool.and_false, zsn_none] at this
  exact this
end QT
