/-! writes, and the calls that write twice -/
theorem zup_at {M : Nat → Nat → Int} {a k : Nat} {x : Int} : zup M a k x a k = x := if_pos ⟨rfl, rfl⟩
theorem zup_r {M : Nat → Nat → Int} {a k q j : Nat} {x : Int} (h : q ≠ a) : zup M a k x q j = M q j := if_neg fun z => h z.1
theorem zup_ne {M : Nat → Nat → Int} {a k j : Nat} {x : Int} (h : j ≠ k) : zup M a k x a j = M a j := if_neg fun z => h z.2
theorem k_hasRoom {d : Nat} (v w : Int) (σ : zS) : zcal zPP (d + 1) 17 [zI v, zI w] σ = some (zI (if 0 ≤ v ∧ v < w then 1 else 0), σ) := by
  rw [c_X_hasRoom]
  by_cases h1 : v < 0
  · rw [if_pos h1, if_neg (by omega)]
  · rw [if_neg h1]
    by_cases h2 : v < w
    · rw [if_pos h2, if_pos (by omega)]
    · rw [if_neg h2, if_neg (by omega)]
section QX
variable {S : Nat → Nat × Nat} {R : Nat → Nat → Nat} {M : Nat → Nat → Int} {n s d x t k j c o f r l p m : Nat}
theorem k_person (h : qLX S R x t k j c o f r l p) {P : Nat} (hP : M t 13 = P) (h5 : P ≤ 5) (v : Int) : zcal zPP (d + 2) 21 [zA x, zI v] (n, s, S, R, M) = some (if (0 ≤ v ∧ v ≤ 99) ∧ P < 5 then (zI P, (n, s, S, R, zup (zup M (t + 3) P v) t 13 ((P + 1 : Nat) : Int))) else (zI (-1), (n, s, S, R, M))) := by
  obtain ⟨⟨x1, x2, -⟩, ⟨ht, -⟩, -⟩ := h
  rw [c_X_person]
  simp only [x1, if_true]
  rw [k_isAge]
  simp only [zbI]
  by_cases h1 : 0 ≤ v ∧ v ≤ 99
  · rw [if_pos h1, if_neg (by decide)]
    simp only [x1, x2, ht.1.1, ht.2.1.2.2.1, ht.1.2.2.2.1, hP, if_true, true_and, Int.toNat_natCast]
    rw [k_hasRoom]
    simp only [zbI, x1, x2, ht.1.1, ht.2.1.2.2.1, ht.1.2.2.2.1, hP, if_true, true_and, Int.toNat_natCast]
    by_cases h2 : P < 5
    · rw [if_pos (show 0 ≤ (P : Int) ∧ (P : Int) < 5 by omega), if_neg (by decide), if_pos (qok h2), qw1 (by omega), if_pos ⟨h1, h2⟩]
    · rw [if_neg (show ¬ (0 ≤ (P : Int) ∧ (P : Int) < 5) by omega), if_pos rfl, if_neg (fun z => h2 z.2)]
  · rw [if_neg h1, if_pos rfl, if_neg (fun z => h1 z.1)]
theorem k_personM (h : qLM S R m) {P : Nat} (hP : M (m + 1) 1 = P) (h5 : P ≤ 5) (v : Int) : zcal zPP (d + 2) 185 [zA m, zI v] (n, s, S, R, M) = some (if (0 ≤ v ∧ v ≤ 99) ∧ P < 5 then (zI P, (n, s, S, R, zup (zup M (m + 1) (131 + P) v) (m + 1) 1 ((P + 1 : Nat) : Int))) else (zI (-1), (n, s, S, R, M))) := by
  rw [c_M_person]
  simp only [h.1.1, if_true]
  rw [k_isIn]
  simp only [zbI]
  by_cases h1 : 0 ≤ v ∧ v ≤ 99
  · rw [if_pos h1, if_neg (by decide)]
    have e1 : (1 : Int).toNat = 1 := rfl
    have e2 : zw32 (131 + (P : Int)) = ((131 + P : Nat) : Int) := by unfold zw32; omega
    have e3 : (1 : Nat) ≠ 131 + P := by omega
    simp only [h.1.1, h.1.2.1, h.2.1, if_true, true_or, true_and, e1, hP, e2, Int.toNat_natCast]
    rw [if_pos (show (0 : Int) ≤ 1 ∧ (1 : Int) < ((4880 : Nat) : Int) by decide)]
    by_cases h2 : P < 5
    · have hd : (0 : Int) ≤ 1 ∧ (1 : Int) < ((4880 : Nat) : Int) := by decide
      rw [if_neg (show ¬ (P : Int) = 5 by omega), if_pos (qok (show 131 + P < 4880 by omega)), if_pos hd, if_pos hd, if_pos hd]
      rw [zup_ne e3, hP, qw1 (show P < 100000 by omega), zup_at, if_pos (show (0 ≤ v ∧ v ≤ 99) ∧ P < 5 from ⟨h1, h2⟩), show zw32 (((P + 1 : Nat) : Int) - 1) = P by unfold zw32; omega, if_pos hd]
    · rw [if_pos (show (P : Int) = 5 by omega), if_neg (fun z => h2 z.2)]
  · rw [if_neg h1, if_pos rfl, if_neg (fun z => h1 z.1)]
end QX
