/-! said on both sides -/
section QX
variable {S : Nat → Nat × Nat} {R : Nat → Nat → Nat} {M : Nat → Nat → Int} {n s d x t k j c o f r l p m : Nat} {A : Nat → Int}
theorem k_said (h : qLX S R x t k j c o f r l p) (hT : qTw M t A) (hA : qIn A) {N : Nat} (hN : M t 17 = N) (h5 : N ≤ 8) (v w : Int) : zcal zPP (d + 2) 74 [zA x, zI v, zI w] (n, s, S, R, M) = some (if v = -1 then (zI 0, (n, s, S, R, zup M t 17 0)) else if (0 ≤ v ∧ v < A 1) ∧ (-999 ≤ w ∧ w ≤ 9999) ∧ N < 8 then (zI (N + 1 : Nat), (n, s, S, R, zup (zup (zup M (t + 9) N v) (t + 10) N w) t 17 ((N + 1 : Nat) : Int))) else (zI (-2), (n, s, S, R, M))) := by
  obtain ⟨⟨x1, x2, -⟩, ⟨ht, -⟩, -⟩ := h
  rw [c_X_said]
  simp only [x1, x2, ht.1.1, if_true]
  by_cases h0 : v = -1
  · rw [if_pos h0, if_pos h0]
  rw [if_neg h0, if_neg h0, k_hasPerson ht hT hA]
  simp only [zbI]
  by_cases h1 : 0 ≤ v ∧ v < A 1
  · rw [if_pos h1, if_neg (by decide)]
    by_cases h3 : w < -999
    · rw [if_pos h3, if_neg (by omega)]
    rw [if_neg h3]
    by_cases h4 : 9999 < w
    · rw [if_pos h4, if_neg (by omega)]
    rw [if_neg h4]
    simp only [x1, x2, ht.1.1, hN, if_true]
    rw [k_hasRoom]
    have e : zup M (t + 9) N v t 17 = N := by rw [zup_r (by omega), hN]
    have e' : zup (zup M (t + 9) N v) (t + 10) N w t 17 = N := by rw [zup_r (by omega), e]
    simp only [zbI, x1, x2, ht.1.1, ht.2.1.2.2.2.2.2.2.2.2.1, ht.1.2.2.2.2.2.2.2.2.2.1, ht.2.1.2.2.2.2.2.2.2.2.2.1, ht.1.2.2.2.2.2.2.2.2.2.2, hN, if_true, true_and, Int.toNat_natCast, e, e', zup_at]
    by_cases h2 : N < 8
    · rw [if_pos (show 0 ≤ (N : Int) ∧ (N : Int) < 8 by omega), if_neg (by decide), if_pos (qok h2), if_pos (qok h2), qw1 (by omega), if_pos (show (0 ≤ v ∧ v < A 1) ∧ (-999 ≤ w ∧ w ≤ 9999) ∧ N < 8 by omega)]
    · rw [if_neg (show ¬ (0 ≤ (N : Int) ∧ (N : Int) < 8) by omega), if_pos rfl, if_neg (fun z => h2 z.2.2)]
  · rw [if_neg h1, if_pos rfl, if_neg (fun z => h1 z.1)]
theorem k_saidM (h : qLM S R m) (hA : qIn (M (m + 1))) {N : Nat} (hN : M (m + 1) 6 = N) (h5 : N ≤ 8) (v w : Int) : zcal zPP (d + 3) 324 [zA m, zI v, zI w] (n, s, S, R, M) = some (if v = -1 then (zI 0, (n, s, S, R, zup M (m + 1) 6 0)) else if (0 ≤ v ∧ v < M (m + 1) 1) ∧ (-999 ≤ w ∧ w ≤ 9999) ∧ N < 8 then (zI (N + 1 : Nat), (n, s, S, R, zup (zup (zup M (m + 1) (184 + 2 * N) v) (m + 1) (184 + 2 * N + 1) w) (m + 1) 6 ((N + 1 : Nat) : Int))) else (zI (-2), (n, s, S, R, M))) := by
  have hd : (0 : Int) ≤ 6 ∧ (6 : Int) < ((4880 : Nat) : Int) := by decide
  have e6 : (6 : Int).toNat = 6 := rfl
  have e2 : zw32 (184 + (zw32 (2 * (N : Int)))) = ((184 + 2 * N : Nat) : Int) := by unfold zw32; omega
  have e3 : zw32 (((184 + 2 * N : Nat) : Int) + 1) = ((184 + 2 * N + 1 : Nat) : Int) := by unfold zw32; omega
  have e : zup M (m + 1) (184 + 2 * N) v (m + 1) 6 = N := by rw [zup_ne (by omega), hN]
  have e' : zup (zup M (m + 1) (184 + 2 * N) v) (m + 1) (184 + 2 * N + 1) w (m + 1) 6 = N := by rw [zup_ne (by omega), e]
  rw [c_M_said]
  simp only [h.1.1, h.1.2.1, h.2.1, if_true, true_and, e6]
  by_cases h0 : v = -1
  · rw [if_pos h0, if_pos h0, if_pos hd]
  rw [if_neg h0, if_neg h0, k_isPersonM h hA]
  simp only [zbI]
  by_cases h1 : 0 ≤ v ∧ v < M (m + 1) 1
  · rw [if_pos h1, if_neg (by decide), k_isIn]
    simp only [zbI, h.1.1, h.1.2.1, h.2.1, if_true, true_or, true_and, e6, hN, e2, e3, Int.toNat_natCast, e, e', zup_at]
    by_cases h3 : -999 ≤ w ∧ w ≤ 9999
    · rw [if_pos h3, if_neg (by decide), if_pos hd]
      by_cases h2 : N < 8
      · rw [if_neg (show ¬ (N : Int) = 8 by omega), if_pos (show (0 ≤ v ∧ v < M (m + 1) 1) ∧ (-999 ≤ w ∧ w ≤ 9999) ∧ N < 8 from ⟨h1, h3, h2⟩), qw1 (by omega)]
        simp only [if_pos hd, if_pos (qok (show 184 + 2 * N < 4880 by omega)), if_pos (qok (show 184 + 2 * N + 1 < 4880 by omega))]
      · rw [if_pos (show (N : Int) = 8 by omega), if_neg (fun z => h2 z.2.2)]
    · rw [if_neg h3, if_pos rfl, if_neg (fun z => h3 z.2.1)]
  · rw [if_neg h1, if_pos rfl, if_neg (fun z => h1 z.1)]
end QX
