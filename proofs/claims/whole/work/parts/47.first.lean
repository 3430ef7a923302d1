/-! earliest and newest on both sides -/
def qfst (f : Nat → Bool) : Nat → Nat → Int
  | 0, _ => -1
  | j + 1, i => if f i then i else qfst f j (i + 1)
def qlst (f : Nat → Bool) : Nat → Int
  | 0 => -1
  | j + 1 => if f j then j else qlst f j
theorem qfst_no {f : Nat → Bool} (h : ∀ y, f y = false) : ∀ j i, qfst f j i = -1
  | 0, _ => rfl
  | j + 1, i => by unfold qfst; rw [h i, qfst_no h j]; rfl
theorem qlst_no {f : Nat → Bool} (h : ∀ y, f y = false) : ∀ j, qlst f j = -1
  | 0 => rfl
  | j + 1 => by unfold qlst; rw [h j, qlst_no h j]; rfl
/-- the years of a person, none of one who isn't there -/
def qyp (A : Nat → Int) (v : Int) : Nat → Bool := fun y => decide (0 ≤ v ∧ v < A 1) && qyb A v.toNat y
section QX
variable {S : Nat → Nat × Nat} {R : Nat → Nat → Nat} {M : Nat → Nat → Int} {n s d x t k j c o f r l p m : Nat} {A : Nat → Int}
theorem k_yearsOfP (h : qLT S R t) (hA : qIn A) (hg : qRg M (t + 11) (qg A)) (v : Int) : zcal zPP (d + 2) 145 [zA (t + 11), zI v] (n, s, S, R, M) = some (zI (zsn (qyp A v) 24 : Nat), (n, s, S, R, M)) := by
  have h5 := hA.2.1.2
  have h0 := hA.1
  by_cases h1 : 0 ≤ v ∧ v < 5
  · obtain ⟨v, rfl⟩ := Int.eq_ofNat_of_zero_le h1.1
    rw [k_yearsOfT h hg (show v < 5 by omega)]
    congr 4
    refine zsn_cong fun y hy => ?_
    unfold qyp
    by_cases h2 : (v : Int) < A 1
    · rw [decide_eq_true (show 0 ≤ (v : Int) ∧ (v : Int) < A 1 by omega)]
      rfl
    · rw [decide_eq_false (show ¬ (0 ≤ (v : Int) ∧ (v : Int) < A 1) by omega), Bool.false_and]
      unfold qyb
      rw [Bool.eq_false_iff]
      intro hq
      obtain ⟨i, hi, hq⟩ := (qan_iff _ _).mp hq
      have hq := of_decide_eq_true hq
      by_cases hi0 : (i : Int) < A 0
      · rw [qg_in hi0] at hq
        have := hA.2.2.2.2.2.2.2.2.2.2.2.1 i y hi hy
        omega
      · rw [qg_out hi0] at hq
        omega
  · rw [k_yearsOf_no h.2.2.1 (by omega), show zsn (qyp A v) 24 = zsn (fun _ => false) 24 from zsn_cong fun y hy => by
      unfold qyp
      rw [decide_eq_false (show ¬ (0 ≤ v ∧ v < A 1) by omega), Bool.false_and], zsn_none]
    rfl
theorem k_earliest_loop (l0 : Nat) (l1 : Int) (g : Nat → Bool) (σ : zS) : ∀ (j i : Nat), i + j = 24 → zR zPP d 55 8 [zA l0, zI l1, zI (zsn g 24 : Nat), zI i] [] σ = some (zI (qfst g j i), σ) := by
  intro j
  induction j with
  | zero =>
    intro i hi
    rw [e_X_earliest_8, if_neg (by omega)]
    rfl
  | succ j ih =>
    intro i hi
    rw [e_X_earliest_8, if_pos (by omega), zsn_bit24 _ (by omega)]
    unfold qfst
    by_cases hb : g i = true
    · rw [if_pos hb, if_pos rfl, if_pos hb]
    · rw [if_neg hb, if_neg (by decide), if_neg hb, qw1 (by omega)]
      exact ih (i + 1) (by omega)
theorem k_earliest (h : qLX S R x t k j c o f r l p) (hA : qIn A) (hg : qRg M (t + 11) (qg A)) (v : Int) : zcal zPP (d + 3) 55 [zA x, zI v] (n, s, S, R, M) = some (zI (qfst (qyp A v) 24 0), (n, s, S, R, M)) := by
  obtain ⟨⟨x1, x2, -⟩, ⟨ht, -⟩, -⟩ := h
  rw [c_X_earliest]
  simp only [x1, x2, ht.1.1, ht.2.1.2.2.2.2.2.2.2.2.2.2.1, if_true]
  rw [k_yearsOfP ht hA hg]
  simp only [zbI]
  exact k_earliest_loop _ _ _ _ 24 0 rfl
theorem k_newest_loop (l0 : Nat) (l1 : Int) (g : Nat → Bool) (σ : zS) : ∀ (j : Nat), j ≤ 24 → zR zPP d 56 8 [zA l0, zI l1, zI (zsn g 24 : Nat), zI ((j : Int) - 1)] [] σ = some (zI (qlst g j), σ) := by
  intro j
  induction j with
  | zero =>
    intro hi
    rw [e_X_newest_8, if_pos (by decide)]
    rfl
  | succ j ih =>
    intro hi
    rw [e_X_newest_8, if_neg (by omega), show ((j + 1 : Nat) : Int) - 1 = (j : Int) by omega, zsn_bit24 _ (by omega)]
    unfold qlst
    by_cases hb : g j = true
    · rw [if_pos hb, if_pos rfl, if_pos hb]
    · rw [if_neg hb, if_neg (by decide), if_neg hb, show zw32 ((j : Int) + -1) = (j : Int) - 1 by unfold zw32; omega]
      exact ih (by omega)
theorem k_newest (h : qLX S R x t k j c o f r l p) (hA : qIn A) (hg : qRg M (t + 11) (qg A)) (v : Int) : zcal zPP (d + 3) 56 [zA x, zI v] (n, s, S, R, M) = some (zI (qlst (qyp A v) 24), (n, s, S, R, M)) := by
  obtain ⟨⟨x1, x2, -⟩, ⟨ht, -⟩, -⟩ := h
  rw [c_X_newest]
  simp only [x1, x2, ht.1.1, ht.2.1.2.2.2.2.2.2.2.2.2.2.1, if_true]
  rw [k_yearsOfP ht hA hg]
  simp only [zbI]
  exact k_newest_loop _ _ _ _ 24 (Nat.le_refl _)
theorem qyp_in {A : Nat → Int} {v : Nat} (h : (v : Int) < A 1) : qyp A v = qyb A v := by
  funext y
  unfold qyp
  rw [decide_eq_true (show 0 ≤ (v : Int) ∧ (v : Int) < A 1 by omega)]
  rfl
theorem qyp_out {A : Nat → Int} {v : Int} (h : ¬ (0 ≤ v ∧ v < A 1)) (y : Nat) : qyp A v y = false := by
  unfold qyp
  rw [decide_eq_false h, Bool.false_and]
theorem k_earliestM (h : qLM S R m) (hA : qIn (M (m + 1))) (v : Int) : zcal zPP (d + 4) 293 [zA m, zI v] (n, s, S, R, M) = some (zI (qfst (qyp (M (m + 1)) v) 24 0), (n, s, S, R, M)) := by
  have h5 := hA.2.1.2
  rw [c_M_earliest]
  simp only [h.1.1, if_true]
  rw [k_isPersonM h hA]
  simp only [zbI]
  by_cases h1 : 0 ≤ v ∧ v < M (m + 1) 1
  · obtain ⟨v, rfl⟩ := Int.eq_ofNat_of_zero_le h1.1
    rw [if_pos h1, if_neg (by decide), qyp_in h1.2]
    have loop : ∀ (j i : Nat), i + j = 24 → zR zPP (d + 3) 293 8 [zA m, zI v, zI i] [] (n, s, S, R, M) = some (zI (qfst (qyb (M (m + 1)) v) j i), (n, s, S, R, M)) := by
      intro j
      induction j with
      | zero =>
        intro i hi
        rw [e_M_earliest_8, if_neg (by omega)]
        rfl
      | succ j ih =>
        intro i hi
        rw [e_M_earliest_8, if_pos (by omega), k_yearsByM h hA (show v < 5 by omega)]
        simp only [zbI]
        rw [k_has (zsn_24 _) (by omega), zsn_bit, decide_eq_true (show i < 24 by omega), Bool.true_and]
        simp only [zbI]
        unfold qfst
        by_cases hb : qyb (M (m + 1)) v i = true
        · rw [if_pos hb, if_neg (by decide), if_pos hb]
        · rw [if_neg hb, if_pos rfl, if_neg hb, qw1 (by omega)]
          exact ih (i + 1) (by omega)
    exact loop 24 0 rfl
  · rw [if_neg h1, if_pos rfl, qfst_no (qyp_out h1)]
theorem k_newestM (h : qLM S R m) (hA : qIn (M (m + 1))) (v : Int) : zcal zPP (d + 4) 294 [zA m, zI v] (n, s, S, R, M) = some (zI (qlst (qyp (M (m + 1)) v) 24), (n, s, S, R, M)) := by
  have h5 := hA.2.1.2
  rw [c_M_newest]
  simp only [h.1.1, if_true]
  rw [k_isPersonM h hA]
  simp only [zbI]
  by_cases h1 : 0 ≤ v ∧ v < M (m + 1) 1
  · obtain ⟨v, rfl⟩ := Int.eq_ofNat_of_zero_le h1.1
    rw [if_pos h1, if_neg (by decide), qyp_in h1.2]
    have loop : ∀ (j : Nat), j ≤ 24 → zR zPP (d + 3) 294 8 [zA m, zI v, zI ((j : Int) - 1)] [] (n, s, S, R, M) = some (zI (qlst (qyb (M (m + 1)) v) j), (n, s, S, R, M)) := by
      intro j
      induction j with
      | zero =>
        intro hi
        rw [e_M_newest_8, if_pos (by decide)]
        rfl
      | succ j ih =>
        intro hi
        rw [e_M_newest_8, if_neg (by omega), k_yearsByM h hA (show v < 5 by omega)]
        simp only [zbI]
        rw [show ((j + 1 : Nat) : Int) - 1 = (j : Int) by omega, k_has (zsn_24 _) (by omega), zsn_bit, decide_eq_true (show j < 24 by omega), Bool.true_and]
        simp only [zbI]
        unfold qlst
        by_cases hb : qyb (M (m + 1)) v j = true
        · rw [if_pos hb, if_neg (by decide), if_pos hb]
        · rw [if_neg hb, if_pos rfl, if_neg hb, show zw32 ((j : Int) + -1) = (j : Int) - 1 by unfold zw32; omega]
          exact ih (by omega)
    exact loop 24 (Nat.le_refl _)
  · rw [if_neg h1, if_pos rfl, qlst_no (qyp_out h1)]
end QX
