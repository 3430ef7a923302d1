/-! fenced on both sides -/
/-- places below i with a property, and the next one -/
theorem qput_yes {g : Nat → Bool} {i : Nat} (h : g i = true) : zsn (fun y => (g y && decide (y < i)) || decide (y = i)) 24 = zsn (fun y => g y && decide (y < i + 1)) 24 := zsn_cong fun y hy => by
  rw [Bool.eq_iff_iff]
  simp only [Bool.or_eq_true, Bool.and_eq_true, decide_eq_true_iff]
  constructor
  · rintro (⟨h1, h2⟩ | rfl)
    · exact ⟨h1, by omega⟩
    · exact ⟨h, by omega⟩
  · rintro ⟨h1, h2⟩
    by_cases hy : y = i
    · exact Or.inr hy
    · exact Or.inl ⟨h1, by omega⟩
theorem qput_no {g : Nat → Bool} {i : Nat} (h : ¬ g i = true) : zsn (fun y => g y && decide (y < i)) 24 = zsn (fun y => g y && decide (y < i + 1)) 24 := zsn_cong fun y hy => by
  rw [Bool.eq_iff_iff]
  simp only [Bool.and_eq_true, decide_eq_true_iff]
  constructor
  · rintro ⟨h1, h2⟩
    exact ⟨h1, by omega⟩
  · rintro ⟨h1, h2⟩
    refine ⟨h1, ?_⟩
    by_cases hy : y = i
    · subst hy; exact absurd h1 h
    · omega
theorem zor_0 (f : Nat → Bool) : zor (zsn f 24 : Nat) 0 = (zsn f 24 : Nat) := by rw [show (0 : Int) = ((0 : Nat) : Int) from rfl, zor_nat (zsn_24 _) (by decide), Nat.or_zero]
def qFen (A : Nat → Int) : Nat → Bool := fun o => decide (qic A o ≤ 9)
section QX
variable {S : Nat → Nat × Nat} {R : Nat → Nat → Nat} {M : Nat → Nat → Int} {n s d x t k j c o f r l p m : Nat} {A : Nat → Int}
theorem k_fenced (h : qLX S R x t k j c o f r l p) (hT : qTw M t A) (hA : qIn A) (hg : qRg M (t + 11) (qg A)) {a : Nat} (ha : A 0 = a) : zcal zPP (d + 4) 79 [zA x] (n, s, S, R, M) = some (zI (zsn (fun y => qFen A y && decide (y < a)) 24 : Nat), (n, s, S, R, M)) := by
  obtain ⟨⟨x1, x2, -⟩, ⟨ht, -⟩, -⟩ := h
  have h5 := hA.1.2
  rw [c_X_fenced]
  simp only [x1, if_true]
  have loop : ∀ (j i : Nat), i + j = a → zR zPP (d + 3) 79 4 [zA x, zI (zsn (fun y => qFen A y && decide (y < i)) 24 : Nat), zI i] [] (n, s, S, R, M) = some (zI (zsn (fun y => qFen A y && decide (y < a)) 24 : Nat), (n, s, S, R, M)) := by
    intro j
    induction j with
    | zero =>
      intro i hi
      have : i = a := hi
      subst this
      rw [e_X_fenced_4]
      simp only [x1, x2, ht.1.1, hT.1.1, if_true]
      rw [if_neg (by omega)]
    | succ j ih =>
      intro i hi
      rw [e_X_fenced_4]
      simp only [x1, x2, ht.1.1, hT.1.1, if_true]
      rw [if_pos (by omega), k_isFenced ht hT hA hg (by omega)]
      simp only [zbI]
      have hb : (qFen A i = true) ↔ qic A i ≤ 9 := decide_eq_true_iff
      by_cases h9 : qic A i ≤ 9
      · rw [if_pos h9, if_neg (by decide), zsn_put24 _ (by omega), qw1 (by omega), qput_yes (hb.mpr h9)]
        exact ih (i + 1) (by omega)
      · rw [if_neg h9, if_pos rfl, qw1 (by omega), qput_no (fun z => h9 (hb.mp z))]
        exact ih (i + 1) (by omega)
  have := loop a 0 (Nat.zero_add a)
  simp only [Nat.not_lt_zero, decide_false, Bool.and_false, zsn_none] at this
  exact this
theorem k_fencedM (h : qLM S R m) (hA : qIn (M (m + 1))) {a : Nat} (ha : M (m + 1) 0 = a) : zcal zPP (d + 4) 286 [zA m] (n, s, S, R, M) = some (zI (zsn (fun y => qFen (M (m + 1)) y && decide (y < a)) 24 : Nat), (n, s, S, R, M)) := by
  have h5 := hA.1.2
  have hd : (0 : Int) ≤ 0 ∧ (0 : Int) < ((4880 : Nat) : Int) := by decide
  have e0 : (0 : Int).toNat = 0 := rfl
  rw [c_M_fenced]
  simp only [h.1.1, if_true]
  have loop : ∀ (j i : Nat), i + j = a → zR zPP (d + 3) 286 4 [zA m, zI (zsn (fun y => qFen (M (m + 1)) y && decide (y < i)) 24 : Nat), zI i] [] (n, s, S, R, M) = some (zI (zsn (fun y => qFen (M (m + 1)) y && decide (y < a)) 24 : Nat), (n, s, S, R, M)) := by
    intro j
    induction j with
    | zero =>
      intro i hi
      have : i = a := hi
      subst this
      rw [e_M_fenced_4]
      simp only [h.1.1, h.1.2.1, h.2.1, if_true, true_or, true_and, e0, ha]
      rw [if_pos hd, if_neg (by omega)]
    | succ j ih =>
      intro i hi
      rw [e_M_fenced_4]
      simp only [h.1.1, h.1.2.1, h.2.1, if_true, true_or, true_and, e0, ha]
      rw [if_pos hd, if_pos (by omega), k_insideM h (by omega)]
      simp only [zbI]
      have hb : (qFen (M (m + 1)) i = true) ↔ qic (M (m + 1)) i ≤ 9 := decide_eq_true_iff
      by_cases h9 : qic (M (m + 1)) i ≤ 9
      · rw [if_neg (by omega), zsn_put24 _ (by omega), qw1 (by omega), qput_yes (hb.mpr h9)]
        exact ih (i + 1) (by omega)
      · rw [if_pos (by omega), zor_0, qw1 (by omega), qput_no (fun z => h9 (hb.mp z))]
        exact ih (i + 1) (by omega)
  have := loop a 0 (Nat.zero_add a)
  simp only [Nat.not_lt_zero, decide_false, Bool.and_false, zsn_none] at this
  exact this
end QX
