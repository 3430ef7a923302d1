/-! same and ring on both sides -/
/-- what 'ring' answers -/
def qRing (A : Nat → Int) (o y : Int) : Int := if (0 ≤ o ∧ o < A 0) ∧ (0 ≤ y ∧ y < 24) ∧ A (11 + 24 * o.toNat + y.toNat) ≠ 0 then (if A (11 + 24 * o.toNat + y.toNat) = 1 then -1 else if A (11 + 24 * o.toNat + y.toNat) = 2 then 9 else A (11 + 24 * o.toNat + y.toNat) - 3) else -100
/-- what 'same' answers -/
def qSame (A : Nat → Int) (v w : Int) : Int := if (0 ≤ v ∧ v < A 1) ∧ (0 ≤ w ∧ w < A 1) ∧ v ≠ w then (zsn (fun y => qyb A v.toNat y && qyb A w.toNat y) 24 : Nat) else -1
section QX
variable {S : Nat → Nat × Nat} {R : Nat → Nat → Nat} {M : Nat → Nat → Int} {n s d x t k j c o f r l p m : Nat} {A : Nat → Int}
theorem k_same (h : qLX S R x t k j c o f r l p) (hT : qTw M t A) (hA : qIn A) (hg : qRg M (t + 11) (qg A)) (v w : Int) : zcal zPP (d + 3) 52 [zA x, zI v, zI w] (n, s, S, R, M) = some (zI (qSame A v w), (n, s, S, R, M)) := by
  obtain ⟨⟨x1, x2, -⟩, ⟨ht, -⟩, -⟩ := h
  have h5 := hA.2.1.2
  unfold qSame
  rw [c_X_same]
  simp only [x1, x2, if_true]
  rw [k_hasPerson ht hT hA]
  simp only [zbI]
  by_cases h1 : 0 ≤ v ∧ v < A 1
  · rw [if_pos h1, if_neg (by decide)]
    simp only [x1, x2, if_true]
    rw [k_hasPerson ht hT hA]
    simp only [zbI]
    by_cases h2 : 0 ≤ w ∧ w < A 1
    · rw [if_pos h2, if_neg (by decide)]
      by_cases h3 : v = w
      · rw [if_pos h3, if_neg (fun z => z.2.2 h3)]
      · obtain ⟨v, rfl⟩ := Int.eq_ofNat_of_zero_le h1.1
        obtain ⟨w, rfl⟩ := Int.eq_ofNat_of_zero_le h2.1
        rw [if_neg h3, if_pos (show (0 ≤ (v : Int) ∧ (v : Int) < A 1) ∧ (0 ≤ (w : Int) ∧ (w : Int) < A 1) ∧ (v : Int) ≠ w from ⟨h1, h2, h3⟩)]
        simp only [x1, x2, ht.1.1, ht.2.1.2.2.2.2.2.2.2.2.2.2.1, if_true]
        rw [k_yearsOfT ht hg (show v < 5 by omega)]
        simp only [zbI, x1, x2, ht.1.1, ht.2.1.2.2.2.2.2.2.2.2.2.2.1, if_true]
        rw [k_yearsOfT ht hg (show w < 5 by omega)]
        simp only [zbI]
        rw [zsn_and24]
        rfl
    · rw [if_neg h2, if_pos rfl, if_neg (fun z => h2 z.2.1)]
  · rw [if_neg h1, if_pos rfl, if_neg (fun z => h1 z.1)]
theorem k_sameM (h : qLM S R m) (hA : qIn (M (m + 1))) (v w : Int) : zcal zPP (d + 4) 290 [zA m, zI v, zI w] (n, s, S, R, M) = some (zI (qSame (M (m + 1)) v w), (n, s, S, R, M)) := by
  have h5 := hA.2.1.2
  unfold qSame
  rw [c_M_same]
  simp only [h.1.1, if_true]
  rw [k_isPersonM h hA]
  simp only [zbI]
  by_cases h1 : 0 ≤ v ∧ v < M (m + 1) 1
  · rw [if_pos h1, if_neg (by decide), k_isPersonM h hA]
    simp only [zbI]
    by_cases h2 : 0 ≤ w ∧ w < M (m + 1) 1
    · rw [if_pos h2, if_neg (by decide)]
      by_cases h3 : v = w
      · rw [if_pos h3, if_neg (fun z => z.2.2 h3)]
      · obtain ⟨v, rfl⟩ := Int.eq_ofNat_of_zero_le h1.1
        obtain ⟨w, rfl⟩ := Int.eq_ofNat_of_zero_le h2.1
        rw [if_neg h3, if_pos (show (0 ≤ (v : Int) ∧ (v : Int) < M (m + 1) 1) ∧ (0 ≤ (w : Int) ∧ (w : Int) < M (m + 1) 1) ∧ (v : Int) ≠ w from ⟨h1, h2, h3⟩), k_yearsByM h hA (show v < 5 by omega)]
        simp only [zbI]
        rw [k_yearsByM h hA (show w < 5 by omega)]
        simp only [zbI]
        rw [zsn_and24]
        rfl
    · rw [if_neg h2, if_pos rfl, if_neg (fun z => h2 z.2.1)]
  · rw [if_neg h1, if_pos rfl, if_neg (fun z => h1 z.1)]
theorem k_ring (h : qLX S R x t k j c o f r l p) (hT : qTw M t A) (hA : qIn A) (hg : qRg M (t + 11) (qg A)) (v w : Int) : zcal zPP (d + 3) 45 [zA x, zI v, zI w] (n, s, S, R, M) = some (zI (qRing A v w), (n, s, S, R, M)) := by
  obtain ⟨⟨x1, x2, -⟩, ⟨ht, -⟩, -⟩ := h
  have h5 := hA.1.2
  have hp := hA.2.1.2
  unfold qRing
  rw [c_X_ring]
  simp only [x1, x2, if_true]
  rw [k_hadRing ht hT hA]
  simp only [zbI]
  by_cases h1 : (0 ≤ v ∧ v < A 0) ∧ (0 ≤ w ∧ w < 24) ∧ A (11 + 24 * v.toNat + w.toNat) ≠ 0
  · rw [if_pos h1, if_neg (by decide), if_pos h1]
    obtain ⟨v, rfl⟩ := Int.eq_ofNat_of_zero_le h1.1.1
    obtain ⟨w, rfl⟩ := Int.eq_ofNat_of_zero_le h1.2.1.1
    have hv : v < 5 := by omega
    have hw : w < 24 := by omega
    have hin := hA.2.2.2.2.2.2.2.2.2.2.2.1 v w hv hw
    have hgv : qg A v w = A (11 + 24 * v + w) := qg_in (by omega) w
    simp only [x1, x2, ht.1.1, ht.2.1.2.2.2.2.2.2.2.2.2.2.1, ht.2.2.1.1, ht.2.2.1.2.2.2.2.2.1, ht.2.2.1.2.2.1, if_true, true_or, true_and, Int.toNat_natCast]
    rw [if_pos (qok hv), hg.2 v hv, zsn_bit24 _ hw, hgv]
    by_cases h2 : A (11 + 24 * v + w) = 2
    · rw [if_pos (by simp [h2]), if_neg (by omega), if_pos h2]
    · rw [if_neg (by simp [h2]), k_holder ht.2.2.1 hg hv hw]
      simp only [zbI]
      rw [hgv]
      by_cases h3 : A (11 + 24 * v + w) = 1
      · rw [if_neg (by omega), if_pos h3]
      · have h0 := h1.2.2
        simp only [Int.toNat_natCast] at h0
        rw [if_pos (by omega), if_neg h3, if_neg h2]
  · rw [if_neg h1, if_pos rfl, if_neg h1]
theorem k_ringM (h : qLM S R m) (hA : qIn (M (m + 1))) (v w : Int) : zcal zPP (d + 4) 274 [zA m, zI v, zI w] (n, s, S, R, M) = some (zI (qRing (M (m + 1)) v w), (n, s, S, R, M)) := by
  have h5 := hA.1.2
  have hp := hA.2.1.2
  unfold qRing
  rw [c_M_ring]
  simp only [h.1.1, if_true]
  rw [k_isRingM h hA]
  simp only [zbI]
  by_cases h1 : (0 ≤ v ∧ v < M (m + 1) 0) ∧ (0 ≤ w ∧ w < 24) ∧ M (m + 1) (11 + 24 * v.toNat + w.toNat) ≠ 0
  · rw [if_pos h1, if_neg (by decide), if_pos h1]
    obtain ⟨v, rfl⟩ := Int.eq_ofNat_of_zero_le h1.1.1
    obtain ⟨w, rfl⟩ := Int.eq_ofNat_of_zero_le h1.2.1.1
    have hv : v < 5 := by omega
    have hw : w < 24 := by omega
    have hin := hA.2.2.2.2.2.2.2.2.2.2.2.1 v w hv hw
    rw [k_get h hv hw]
    simp only [zbI, Int.toNat_natCast]
    by_cases h3 : M (m + 1) (11 + 24 * v + w) = 1
    · rw [if_pos h3, if_pos h3]
    rw [if_neg h3, if_neg h3]
    by_cases h2 : M (m + 1) (11 + 24 * v + w) = 2
    · rw [if_pos h2, if_pos h2]
    rw [if_neg h2, if_neg h2, show zw32 (M (m + 1) (11 + 24 * v + w) - 3) = M (m + 1) (11 + 24 * v + w) - 3 by unfold zw32; omega]
  · rw [if_neg h1, if_pos rfl, if_neg h1]
end QX
