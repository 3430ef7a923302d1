/-! rows that are filled place by place; oak -/
def qfill (M : Nat → Nat → Int) (a b i : Nat) (f : Nat → Int) : Nat → Nat → Int := fun q j => if q = a ∧ b ≤ j ∧ j < b + i then f (j - b) else M q j
theorem qfill_0 {M : Nat → Nat → Int} {a b : Nat} {f : Nat → Int} : qfill M a b 0 f = M := by
  funext q j
  exact if_neg (by omega)
theorem qfill_1 {M : Nat → Nat → Int} {a b i : Nat} {f : Nat → Int} : zup (qfill M a b i f) a (b + i) (f i) = qfill M a b (i + 1) f := by
  funext q j
  unfold zup qfill
  by_cases h : q = a ∧ j = b + i
  · obtain ⟨rfl, rfl⟩ := h
    rw [if_pos ⟨rfl, rfl⟩, if_pos ⟨rfl, by omega, by omega⟩, show b + i - b = i by omega]
  · rw [if_neg h]
    by_cases h2 : q = a ∧ b ≤ j ∧ j < b + i
    · rw [if_pos h2, if_pos ⟨h2.1, h2.2.1, by omega⟩]
    · rw [if_neg h2, if_neg (fun z => by
        by_cases hj : j = b + i
        · exact h ⟨z.1, hj⟩
        · exact h2 ⟨z.1, z.2.1, by omega⟩)]
theorem qfill_out {M : Nat → Nat → Int} {a b i q j : Nat} {f : Nat → Int} (h : ¬ (q = a ∧ b ≤ j ∧ j < b + i)) : qfill M a b i f q j = M q j := if_neg h
theorem qfill_in {M : Nat → Nat → Int} {a b i j : Nat} {f : Nat → Int} (h : j < i) : qfill M a b i f a (b + j) = f j := by
  unfold qfill
  rw [if_pos ⟨rfl, by omega, by omega⟩, show b + j - b = j by omega]
section QX
variable {S : Nat → Nat × Nat} {R : Nat → Nat → Nat} {M : Nat → Nat → Int} {n s d x t k j c o f r l p m : Nat}
theorem k_oak (h : qLX S R x t k j c o f r l p) {O : Nat} (hO : M t 12 = O) (h5 : O ≤ 5) (v : Int) : zcal zPP (d + 2) 16 [zA x, zI v] (n, s, S, R, M) = some (if (0 ≤ v ∧ v ≤ 16777215) ∧ O < 5 then (zI O, (n, s, S, R, zup (zup M (t + 1) O v) t 12 ((O + 1 : Nat) : Int))) else (zI (-1), (n, s, S, R, M))) := by
  obtain ⟨⟨x1, x2, -⟩, ⟨ht, -⟩, -⟩ := h
  rw [c_X_oak]
  simp only [x1, x2, ht.1.1, hO, if_true]
  by_cases h1 : v < 0
  · rw [if_pos h1, if_neg (by omega)]
  rw [if_neg h1]
  by_cases h3 : 16777215 < v
  · rw [if_pos h3, if_neg (by omega)]
  rw [if_neg h3, k_hasRoom]
  simp only [zbI, x1, x2, ht.1.1, ht.2.1.1, ht.1.2.1, hO, if_true, true_and, Int.toNat_natCast]
  by_cases h2 : O < 5
  · rw [if_pos (show 0 ≤ (O : Int) ∧ (O : Int) < 5 by omega), if_neg (by decide), if_pos (qok h2), qw1 (by omega), if_pos (show (0 ≤ v ∧ v ≤ 16777215) ∧ O < 5 by omega)]
  · rw [if_neg (show ¬ (0 ≤ (O : Int) ∧ (O : Int) < 5) by omega), if_pos rfl, if_neg (fun z => h2 z.2)]
theorem k_oakM_loop (h : qLM S R m) {O v : Nat} (hO : M (m + 1) 0 = O) (h5 : O < 5) (hv : v < 16777216) (g : Nat → Int) (hg : ∀ y, y < 24 → g y = if v.testBit y then 1 else 0) : ∀ (j i : Nat), i + j = 24 →
    zR zPP (d + 1) 179 20 [zA m, zI v, zI O, zI i] [] (n, s, S, R, qfill M (m + 1) (11 + 24 * O) i g) = some (zI O, (n, s, S, R, zup (qfill M (m + 1) (11 + 24 * O) 24 g) (m + 1) 0 ((O + 1 : Nat) : Int))) := by
  intro j
  induction j with
  | zero =>
    intro i hi
    have : i = 24 := hi
    subst this
    have hd : (0 : Int) ≤ 0 ∧ (0 : Int) < ((4880 : Nat) : Int) := by decide
    have e0 : (0 : Int).toNat = 0 := rfl
    have e1 : qfill M (m + 1) (11 + 24 * O) 24 g (m + 1) 0 = O := by rw [qfill_out (by omega), hO]
    rw [e_M_oak_20, if_neg (by decide)]
    simp only [h.1.1, h.1.2.1, h.2.1, if_true, true_or, true_and, e0, e1]
    rw [if_pos hd, if_pos hd, qw1 (by omega)]
  | succ j ih =>
    intro i hi
    have hi24 : i < 24 := by omega
    rw [e_M_oak_20, if_pos (by omega), k_has (by omega) (by omega)]
    simp only [zbI]
    have hgi := hg i hi24
    by_cases hb : v.testBit i = true
    · rw [if_pos hb] at hgi
      rw [if_pos hb, if_neg (by decide), k_put h h5 hi24]
      simp only [zbV]
      rw [qw1 (show i < 100000 by omega), ← hgi, qfill_1]
      exact ih (i + 1) (by omega)
    · rw [if_neg hb] at hgi
      rw [if_neg hb, if_pos rfl, k_put h h5 hi24]
      simp only [zbV]
      rw [qw1 (show i < 100000 by omega), ← hgi, qfill_1]
      exact ih (i + 1) (by omega)
theorem k_oakM (h : qLM S R m) {O : Nat} (hO : M (m + 1) 0 = O) (h5 : O ≤ 5) (v : Int) : zcal zPP (d + 2) 179 [zA m, zI v] (n, s, S, R, M) = some (if (0 ≤ v ∧ v ≤ 16777215) ∧ O < 5 then (zI O, (n, s, S, R, zup (qfill M (m + 1) (11 + 24 * O) 24 fun y => if v.toNat.testBit y then 1 else 0) (m + 1) 0 ((O + 1 : Nat) : Int))) else (zI (-1), (n, s, S, R, M))) := by
  have hd : (0 : Int) ≤ 0 ∧ (0 : Int) < ((4880 : Nat) : Int) := by decide
  have e0 : (0 : Int).toNat = 0 := rfl
  rw [c_M_oak]
  simp only [h.1.1, if_true]
  rw [k_isIn]
  simp only [zbI, h.1.1, h.1.2.1, h.2.1, if_true, true_or, true_and, e0, hO]
  by_cases h1 : 0 ≤ v ∧ v ≤ 16777215
  · obtain ⟨v, rfl⟩ := Int.eq_ofNat_of_zero_le h1.1
    rw [if_pos h1, if_neg (by decide), if_pos hd]
    by_cases h2 : O < 5
    · rw [if_neg (show ¬ (O : Int) = 5 by omega), if_pos (show (0 ≤ (v : Int) ∧ (v : Int) ≤ 16777215) ∧ O < 5 from ⟨h1, h2⟩)]
      have := k_oakM_loop (n := n) (s := s) (d := d) h hO h2 (show v < 16777216 by omega) (fun y => if v.testBit y then 1 else 0) (fun y _ => rfl) 24 0 rfl
      rw [qfill_0] at this
      rw [if_pos hd]
      exact this
    · rw [if_pos (show (O : Int) = 5 by omega), if_neg (fun z => h2 z.2)]
  · rw [if_neg h1, if_pos rfl, if_neg (fun z => h1 z.1)]
end QX
