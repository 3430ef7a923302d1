/-! alike on both sides -/
def qAlike (A : Nat → Int) (v w : Int) : Int := if (0 ≤ v ∧ v < A 0) ∧ 0 ≤ w ∧ w < A 0 then 24 - (zct (fun y => decide (A (11 + 24 * v.toNat + y) = 1) ^^ decide (A (11 + 24 * w.toNat + y) = 1)) 24 : Nat) else -1
theorem qw24 {c : Nat} (h : c ≤ 24) : zw32 (24 - (c : Int)) = 24 - c := by unfold zw32; omega
section QX
variable {S : Nat → Nat × Nat} {R : Nat → Nat → Nat} {M : Nat → Nat → Int} {n s d x t k j c o f r l p m : Nat} {A : Nat → Int}
theorem k_alike (h : qLX S R x t k j c o f r l p) (hT : qTw M t A) (hA : qIn A) (hg : qRg M (t + 11) (qg A)) (v w : Int) : zcal zPP (d + 3) 68 [zA x, zI v, zI w] (n, s, S, R, M) = some (zI (qAlike A v w), (n, s, S, R, M)) := by
  obtain ⟨⟨x1, x2, -⟩, ⟨ht, -⟩, -⟩ := h
  unfold qAlike
  rw [c_X_alike]
  simp only [x1, x2, if_true]
  rw [k_hasOak ht hT hA]
  simp only [zbI]
  by_cases h1 : 0 ≤ v ∧ v < A 0
  · rw [if_pos h1, if_neg (by decide)]
    simp only [x1, x2, if_true]
    rw [k_hasOak ht hT hA]
    simp only [zbI]
    by_cases h2 : 0 ≤ w ∧ w < A 0
    · obtain ⟨v, rfl⟩ := Int.eq_ofNat_of_zero_le h1.1
      obtain ⟨w, rfl⟩ := Int.eq_ofNat_of_zero_le h2.1
      rw [if_pos h2, if_neg (by decide), if_pos (show (0 ≤ (v : Int) ∧ (v : Int) < A 0) ∧ 0 ≤ (w : Int) ∧ (w : Int) < A 0 from ⟨h1, h2⟩)]
      simp only [x1, x2, ht.1.1, ht.2.1.2.2.2.2.2.2.2.2.2.2.1, if_true]
      rw [k_inOakT ht hT hA hg h1.2]
      simp only [zbI, x1, x2, ht.1.1, ht.2.1.2.2.2.2.2.2.2.2.2.2.1, if_true]
      rw [k_inOakT ht hT hA hg h2.2]
      simp only [zbI]
      unfold qin
      rw [zsn_xor24, k_bitCount]
      simp only [zbI]
      rw [qw24 (zct_le _ _)]
      rfl
    · rw [if_neg h2, if_pos rfl, if_neg (fun z => h2 z.2)]
  · rw [if_neg h1, if_pos rfl, if_neg (fun z => h1 z.1)]
theorem k_alikeM (h : qLM S R m) (hA : qIn (M (m + 1))) (v w : Int) : zcal zPP (d + 3) 314 [zA m, zI v, zI w] (n, s, S, R, M) = some (zI (qAlike (M (m + 1)) v w), (n, s, S, R, M)) := by
  have h5 := hA.1.2
  unfold qAlike
  rw [c_M_alike]
  simp only [h.1.1, if_true]
  rw [k_isOakM h hA]
  simp only [zbI]
  by_cases h1 : 0 ≤ v ∧ v < M (m + 1) 0
  · rw [if_pos h1, if_neg (by decide), k_isOakM h hA]
    simp only [zbI]
    by_cases h2 : 0 ≤ w ∧ w < M (m + 1) 0
    · obtain ⟨v, rfl⟩ := Int.eq_ofNat_of_zero_le h1.1
      obtain ⟨w, rfl⟩ := Int.eq_ofNat_of_zero_le h2.1
      rw [if_pos h2, if_neg (by decide), if_pos (show (0 ≤ (v : Int) ∧ (v : Int) < M (m + 1) 0) ∧ 0 ≤ (w : Int) ∧ (w : Int) < M (m + 1) 0 from ⟨h1, h2⟩), k_yearsOfM h (show v < 5 by omega)]
      simp only [zbI]
      rw [k_yearsOfM h (show w < 5 by omega)]
      simp only [zbI]
      rw [zsn_xor24, k_bits]
      simp only [zbI]
      rw [qw24 (zct_le _ _)]
      rfl
    · rw [if_neg h2, if_pos rfl, if_neg (fun z => h2 z.2)]
  · rw [if_neg h1, if_pos rfl, if_neg (fun z => h1 z.1)]
end QX
