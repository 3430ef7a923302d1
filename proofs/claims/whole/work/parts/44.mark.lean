/-! mark on both sides -/
section QX
variable {S : Nat → Nat × Nat} {R : Nat → Nat → Nat} {M : Nat → Nat → Int} {n s d x t k j c o f r l p m : Nat}
theorem k_mark (h : qLX S R x t k j c o f r l p) {N : Nat} (hN : M t 16 = N) (h5 : N ≤ 10) (v : Int) : zcal zPP (d + 2) 64 [zA x, zI v] (n, s, S, R, M) = some (if v = -1 then (zI 0, (n, s, S, R, zup M t 16 0)) else if (0 ≤ v ∧ v < 4) ∧ N < 10 then (zI (N + 1 : Nat), (n, s, S, R, zup (zup M (t + 7) N v) t 16 ((N + 1 : Nat) : Int))) else (zI (-2), (n, s, S, R, M))) := by
  obtain ⟨⟨x1, x2, -⟩, ⟨ht, -⟩, -⟩ := h
  rw [c_X_mark]
  simp only [x1, x2, ht.1.1, if_true]
  by_cases h0 : v = -1
  · rw [if_pos h0, if_pos h0]
  rw [if_neg h0, if_neg h0, k_isKind]
  simp only [zbI]
  by_cases h1 : 0 ≤ v ∧ v < 4
  · rw [if_pos h1, if_neg (by decide)]
    simp only [x1, x2, ht.1.1, hN, if_true]
    rw [k_hasRoom]
    have e : zup M (t + 7) N v t 16 = N := by rw [zup_r (by omega), hN]
    simp only [zbI, x1, x2, ht.1.1, ht.2.1.2.2.2.2.2.2.1, ht.1.2.2.2.2.2.2.2.1, hN, if_true, true_and, Int.toNat_natCast, e, zup_at]
    by_cases h2 : N < 10
    · rw [if_pos (show 0 ≤ (N : Int) ∧ (N : Int) < 10 by omega), if_neg (by decide), if_pos (qok h2), qw1 (by omega), if_pos (show (0 ≤ v ∧ v < 4) ∧ N < 10 from ⟨h1, h2⟩)]
    · rw [if_neg (show ¬ (0 ≤ (N : Int) ∧ (N : Int) < 10) by omega), if_pos rfl, if_neg (fun z => h2 z.2)]
  · rw [if_neg h1, if_pos rfl, if_neg (fun z => h1 z.1)]
theorem k_markM (h : qLM S R m) {N : Nat} (hN : M (m + 1) 5 = N) (h5 : N ≤ 10) (v : Int) : zcal zPP (d + 2) 309 [zA m, zI v] (n, s, S, R, M) = some (if v = -1 then (zI 0, (n, s, S, R, zup M (m + 1) 5 0)) else if (0 ≤ v ∧ v < 4) ∧ N < 10 then (zI (N + 1 : Nat), (n, s, S, R, zup (zup M (m + 1) (174 + N) v) (m + 1) 5 ((N + 1 : Nat) : Int))) else (zI (-2), (n, s, S, R, M))) := by
  have hd : (0 : Int) ≤ 5 ∧ (5 : Int) < ((4880 : Nat) : Int) := by decide
  have e5 : (5 : Int).toNat = 5 := rfl
  have e2 : zw32 (174 + (N : Int)) = ((174 + N : Nat) : Int) := by unfold zw32; omega
  have e : zup M (m + 1) (174 + N) v (m + 1) 5 = N := by rw [zup_ne (by omega), hN]
  rw [c_M_mark]
  simp only [h.1.1, h.1.2.1, h.2.1, if_true, true_and, e5]
  by_cases h0 : v = -1
  · rw [if_pos h0, if_pos h0, if_pos hd]
  rw [if_neg h0, if_neg h0, k_isIn]
  simp only [zbI, h.1.1, h.1.2.1, h.2.1, if_true, true_or, true_and, e5, hN, e2, Int.toNat_natCast, e, zup_at]
  by_cases h1 : 0 ≤ v ∧ v < 4
  · rw [if_pos (show 0 ≤ v ∧ v ≤ 3 by omega), if_neg (by decide), if_pos hd]
    by_cases h2 : N < 10
    · rw [if_neg (show ¬ (N : Int) = 10 by omega), if_pos (show (0 ≤ v ∧ v < 4) ∧ N < 10 from ⟨h1, h2⟩), qw1 (by omega)]
      simp only [if_pos hd, if_pos (qok (show 174 + N < 4880 by omega))]
    · rw [if_pos (show (N : Int) = 10 by omega), if_neg (fun z => h2 z.2)]
  · rw [if_neg (show ¬ (0 ≤ v ∧ v ≤ 3) by omega), if_pos rfl, if_neg (fun z => h1 z.1)]
end QX
