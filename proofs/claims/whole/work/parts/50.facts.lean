/-! THE LAYOUT at its literal addresses, flat (by facts.py) -/
/-- the class's object at 9, the model at 305, the constants -/
def qFx (S : Nat → Nat × Nat) (R : Nat → Nat → Nat) : Prop := qLX S R 9 10 147 284 286 289 291 295 303 304 ∧ qLM S R 305 ∧ S 2 = (31, 3) ∧ S 3 = (31, 3) ∧ S 4 = (32, 0) ∧ S 5 = (32, 0) ∧ S 6 = (33, 189) ∧ S 7 = (33, 12) ∧ R 4 0 = 6 ∧ R 5 0 = 7
theorem qff {S : Nat → Nat × Nat} {R : Nat → Nat → Nat} (h : qFx S R) : S 9 = (9, 12) ∧ R 9 0 = 10 ∧ R 9 1 = 147 ∧ R 9 2 = 284 ∧ R 9 3 = 286 ∧ R 9 4 = 289 ∧ R 9 5 = 291 ∧ R 9 6 = 295 ∧ R 9 7 = 303 ∧ R 9 8 = 304 ∧ S 10 = (8, 18) ∧ S 11 = (20, 5) ∧ S 12 = (20, 24) ∧ S 13 = (20, 5) ∧ S 14 = (25, 4) ∧ S 15 = (20, 5) ∧ S 16 = (20, 5) ∧ S 17 = (20, 10) ∧ S 18 = (20, 4) ∧ S 19 = (20, 8) ∧ S 20 = (20, 8) ∧ R 10 0 = 11 ∧ R 10 1 = 12 ∧ R 10 2 = 13 ∧ R 10 3 = 14 ∧ R 10 4 = 15 ∧ R 10 5 = 16 ∧ R 10 6 = 17 ∧ R 10 7 = 18 ∧ R 10 8 = 19 ∧ R 10 9 = 20 ∧ R 10 10 = 21 ∧ R 10 11 = 25 ∧ S 21 = (5, 7) ∧ S 22 = (20, 25) ∧ S 23 = (20, 5) ∧ S 24 = (20, 30) ∧ R 21 0 = 22 ∧ R 21 1 = 23 ∧ R 21 2 = 24 ∧ S 25 = (6, 3) ∧ S 26 = (24, 30) ∧ R 25 0 = 26 ∧ S 147 = (8, 18) ∧ S 148 = (20, 5) ∧ S 149 = (20, 24) ∧ S 150 = (20, 5) ∧ S 151 = (25, 4) ∧ S 152 = (20, 5) ∧ S 153 = (20, 5) ∧ S 154 = (20, 10) ∧ S 155 = (20, 4) ∧ S 156 = (20, 8) ∧ S 157 = (20, 8) ∧ R 147 0 = 148 ∧ R 147 1 = 149 ∧ R 147 2 = 150 ∧ R 147 3 = 151 ∧ R 147 4 = 152 ∧ R 147 5 = 153 ∧ R 147 6 = 154 ∧ R 147 7 = 155 ∧ R 147 8 = 156 ∧ R 147 9 = 157 ∧ R 147 10 = 158 ∧ R 147 11 = 162 ∧ S 158 = (5, 7) ∧ S 159 = (20, 25) ∧ S 160 = (20, 5) ∧ S 161 = (20, 30) ∧ R 158 0 = 159 ∧ R 158 1 = 160 ∧ R 158 2 = 161 ∧ S 162 = (6, 3) ∧ S 163 = (24, 30) ∧ R 162 0 = 163 ∧ S 291 = (5, 7) ∧ S 292 = (20, 25) ∧ S 293 = (20, 5) ∧ S 294 = (20, 30) ∧ R 291 0 = 292 ∧ R 291 1 = 293 ∧ R 291 2 = 294 ∧ S 284 = (2, 3) ∧ S 285 = (20, 80) ∧ R 284 0 = 10 ∧ R 284 1 = 285 ∧ S 286 = (1, 5) ∧ S 287 = (20, 16) ∧ S 288 = (20, 4) ∧ R 286 0 = 10 ∧ R 286 1 = 287 ∧ R 286 2 = 288 ∧ S 289 = (3, 3) ∧ S 290 = (22, 16) ∧ R 289 0 = 290 ∧ S 295 = (4, 14) ∧ S 296 = (20, 301) ∧ S 297 = (20, 301) ∧ S 298 = (20, 301) ∧ S 299 = (20, 300) ∧ S 300 = (20, 96) ∧ S 301 = (20, 3) ∧ S 302 = (20, 3) ∧ R 295 0 = 296 ∧ R 295 1 = 297 ∧ R 295 2 = 298 ∧ R 295 3 = 299 ∧ R 295 4 = 300 ∧ R 295 5 = 301 ∧ R 295 6 = 302 ∧ S 303 = (20, 5) ∧ S 304 = (21, 300) ∧ S 305 = (10, 30) ∧ S 306 = (20, 4880) ∧ S 307 = (20, 4880) ∧ S 308 = (20, 2820) ∧ S 309 = (20, 300) ∧ S 310 = (20, 160) ∧ S 311 = (20, 8) ∧ S 312 = (22, 330) ∧ S 313 = (23, 330) ∧ S 314 = (20, 131) ∧ S 315 = (20, 5) ∧ S 316 = (20, 16) ∧ S 317 = (20, 5) ∧ S 318 = (22, 16) ∧ R 305 0 = 306 ∧ R 305 1 = 307 ∧ R 305 2 = 308 ∧ R 305 3 = 309 ∧ R 305 15 = 310 ∧ R 305 20 = 311 ∧ R 305 21 = 312 ∧ R 305 22 = 313 ∧ R 305 25 = 314 ∧ R 305 26 = 315 ∧ R 305 27 = 316 ∧ R 305 28 = 317 ∧ R 305 29 = 318 ∧ S 2 = (31, 3) ∧ S 3 = (31, 3) ∧ S 4 = (32, 0) ∧ S 5 = (32, 0) ∧ S 6 = (33, 189) ∧ S 7 = (33, 12) ∧ R 4 0 = 6 ∧ R 5 0 = 7 :=
  ⟨h.1.1.1, h.1.1.2.1, h.1.1.2.2.1, h.1.1.2.2.2.1, h.1.1.2.2.2.2.1, h.1.1.2.2.2.2.2.1, h.1.1.2.2.2.2.2.2.1, h.1.1.2.2.2.2.2.2.2.1, h.1.1.2.2.2.2.2.2.2.2.1, h.1.1.2.2.2.2.2.2.2.2.2, h.1.2.1.1.1.1, h.1.2.1.1.1.2.1, h.1.2.1.1.1.2.2.1, h.1.2.1.1.1.2.2.2.1, h.1.2.1.1.1.2.2.2.2.1, h.1.2.1.1.1.2.2.2.2.2.1, h.1.2.1.1.1.2.2.2.2.2.2.1, h.1.2.1.1.1.2.2.2.2.2.2.2.1, h.1.2.1.1.1.2.2.2.2.2.2.2.2.1, h.1.2.1.1.1.2.2.2.2.2.2.2.2.2.1, h.1.2.1.1.1.2.2.2.2.2.2.2.2.2.2, h.1.2.1.1.2.1.1, h.1.2.1.1.2.1.2.1, h.1.2.1.1.2.1.2.2.1, h.1.2.1.1.2.1.2.2.2.1, h.1.2.1.1.2.1.2.2.2.2.1, h.1.2.1.1.2.1.2.2.2.2.2.1, h.1.2.1.1.2.1.2.2.2.2.2.2.1, h.1.2.1.1.2.1.2.2.2.2.2.2.2.1, h.1.2.1.1.2.1.2.2.2.2.2.2.2.2.1, h.1.2.1.1.2.1.2.2.2.2.2.2.2.2.2.1, h.1.2.1.1.2.1.2.2.2.2.2.2.2.2.2.2.1, h.1.2.1.1.2.1.2.2.2.2.2.2.2.2.2.2.2, h.1.2.1.1.2.2.1.1, h.1.2.1.1.2.2.1.2.1, h.1.2.1.1.2.2.1.2.2.1, h.1.2.1.1.2.2.1.2.2.2.1, h.1.2.1.1.2.2.1.2.2.2.2.1, h.1.2.1.1.2.2.1.2.2.2.2.2.1, h.1.2.1.1.2.2.1.2.2.2.2.2.2, h.1.2.1.1.2.2.2.1.1, h.1.2.1.1.2.2.2.1.2.1, h.1.2.1.1.2.2.2.1.2.2, h.1.2.1.2.1.1.1, h.1.2.1.2.1.1.2.1, h.1.2.1.2.1.1.2.2.1, h.1.2.1.2.1.1.2.2.2.1, h.1.2.1.2.1.1.2.2.2.2.1, h.1.2.1.2.1.1.2.2.2.2.2.1, h.1.2.1.2.1.1.2.2.2.2.2.2.1, h.1.2.1.2.1.1.2.2.2.2.2.2.2.1, h.1.2.1.2.1.1.2.2.2.2.2.2.2.2.1, h.1.2.1.2.1.1.2.2.2.2.2.2.2.2.2.1, h.1.2.1.2.1.1.2.2.2.2.2.2.2.2.2.2, h.1.2.1.2.1.2.1.1, h.1.2.1.2.1.2.1.2.1, h.1.2.1.2.1.2.1.2.2.1, h.1.2.1.2.1.2.1.2.2.2.1, h.1.2.1.2.1.2.1.2.2.2.2.1, h.1.2.1.2.1.2.1.2.2.2.2.2.1, h.1.2.1.2.1.2.1.2.2.2.2.2.2.1, h.1.2.1.2.1.2.1.2.2.2.2.2.2.2.1, h.1.2.1.2.1.2.1.2.2.2.2.2.2.2.2.1, h.1.2.1.2.1.2.1.2.2.2.2.2.2.2.2.2.1, h.1.2.1.2.1.2.1.2.2.2.2.2.2.2.2.2.2.1, h.1.2.1.2.1.2.1.2.2.2.2.2.2.2.2.2.2.2, h.1.2.1.2.1.2.2.1.1, h.1.2.1.2.1.2.2.1.2.1, h.1.2.1.2.1.2.2.1.2.2.1, h.1.2.1.2.1.2.2.1.2.2.2.1, h.1.2.1.2.1.2.2.1.2.2.2.2.1, h.1.2.1.2.1.2.2.1.2.2.2.2.2.1, h.1.2.1.2.1.2.2.1.2.2.2.2.2.2, h.1.2.1.2.1.2.2.2.1.1, h.1.2.1.2.1.2.2.2.1.2.1, h.1.2.1.2.1.2.2.2.1.2.2, h.1.2.1.2.2.1, h.1.2.1.2.2.2.1, h.1.2.1.2.2.2.2.1, h.1.2.1.2.2.2.2.2.1, h.1.2.1.2.2.2.2.2.2.1, h.1.2.1.2.2.2.2.2.2.2.1, h.1.2.1.2.2.2.2.2.2.2.2, h.1.2.2.1.1, h.1.2.2.1.2.1, h.1.2.2.1.2.2.1, h.1.2.2.1.2.2.2, h.1.2.2.2.1.1, h.1.2.2.2.1.2.1, h.1.2.2.2.1.2.2.1, h.1.2.2.2.1.2.2.2.1, h.1.2.2.2.1.2.2.2.2.1, h.1.2.2.2.1.2.2.2.2.2, h.1.2.2.2.2.1.1, h.1.2.2.2.2.1.2.1, h.1.2.2.2.2.1.2.2, h.1.2.2.2.2.2.1.1, h.1.2.2.2.2.2.1.2.1, h.1.2.2.2.2.2.1.2.2.1, h.1.2.2.2.2.2.1.2.2.2.1, h.1.2.2.2.2.2.1.2.2.2.2.1, h.1.2.2.2.2.2.1.2.2.2.2.2.1, h.1.2.2.2.2.2.1.2.2.2.2.2.2.1, h.1.2.2.2.2.2.1.2.2.2.2.2.2.2.1, h.1.2.2.2.2.2.1.2.2.2.2.2.2.2.2.1, h.1.2.2.2.2.2.1.2.2.2.2.2.2.2.2.2.1, h.1.2.2.2.2.2.1.2.2.2.2.2.2.2.2.2.2.1, h.1.2.2.2.2.2.1.2.2.2.2.2.2.2.2.2.2.2.1, h.1.2.2.2.2.2.1.2.2.2.2.2.2.2.2.2.2.2.2.1, h.1.2.2.2.2.2.1.2.2.2.2.2.2.2.2.2.2.2.2.2.1, h.1.2.2.2.2.2.1.2.2.2.2.2.2.2.2.2.2.2.2.2.2, h.1.2.2.2.2.2.2.1, h.1.2.2.2.2.2.2.2, h.2.1.1.1, h.2.1.1.2.1, h.2.1.1.2.2.1, h.2.1.1.2.2.2.1, h.2.1.1.2.2.2.2.1, h.2.1.1.2.2.2.2.2.1, h.2.1.1.2.2.2.2.2.2.1, h.2.1.1.2.2.2.2.2.2.2.1, h.2.1.1.2.2.2.2.2.2.2.2.1, h.2.1.1.2.2.2.2.2.2.2.2.2.1, h.2.1.1.2.2.2.2.2.2.2.2.2.2.1, h.2.1.1.2.2.2.2.2.2.2.2.2.2.2.1, h.2.1.1.2.2.2.2.2.2.2.2.2.2.2.2.1, h.2.1.1.2.2.2.2.2.2.2.2.2.2.2.2.2, h.2.1.2.1, h.2.1.2.2.1, h.2.1.2.2.2.1, h.2.1.2.2.2.2.1, h.2.1.2.2.2.2.2.1, h.2.1.2.2.2.2.2.2.1, h.2.1.2.2.2.2.2.2.2.1, h.2.1.2.2.2.2.2.2.2.2.1, h.2.1.2.2.2.2.2.2.2.2.2.1, h.2.1.2.2.2.2.2.2.2.2.2.2.1, h.2.1.2.2.2.2.2.2.2.2.2.2.2.1, h.2.1.2.2.2.2.2.2.2.2.2.2.2.2.1, h.2.1.2.2.2.2.2.2.2.2.2.2.2.2.2, h.2.2.1, h.2.2.2.1, h.2.2.2.2.1, h.2.2.2.2.2.1, h.2.2.2.2.2.2.1, h.2.2.2.2.2.2.2.1, h.2.2.2.2.2.2.2.2.1, h.2.2.2.2.2.2.2.2.2⟩
theorem qz {x : Int} (h1 : -2147483648 ≤ x) (h2 : x < 2147483648) : zw32 x = x := by unfold zw32; omega
theorem qrg {i n : Int} (h1 : 0 ≤ i) (h2 : i < n) : (0 ≤ i ∧ i < n) = True := by simp [h1, h2]
theorem qrg2 {i n : Int} (h1 : 0 ≤ i) (h2 : i ≤ n) : (0 ≤ i ∧ i ≤ n) = True := by simp [h1, h2]
theorem qnn (n : Nat) : (0 ≤ (n : Int)) = True := eq_true (by omega)
theorem qltT {x y : Int} (h : x < y) : (x < y) = True := eq_true h
theorem qltF {x y : Int} (h : y ≤ x) : (x < y) = False := eq_false (by omega)
theorem qleT {x y : Int} (h : x ≤ y) : (x ≤ y) = True := eq_true h
theorem qleF {x y : Int} (h : y < x) : (x ≤ y) = False := eq_false (by omega)
theorem qeqT {x y : Int} (h : x = y) : (x = y) = True := eq_true h
theorem qeqF {x y : Int} (h : x ≠ y) : (x = y) = False := eq_false h
theorem qnat1 : ((1 : Nat) : Int) = 1 := rfl
theorem qtn : Int.toNat 2 = 2 ∧ Int.toNat 3 = 3 ∧ Int.toNat 4 = 4 ∧ Int.toNat 5 = 5 ∧ Int.toNat 6 = 6 ∧ Int.toNat 7 = 7 ∧ Int.toNat 8 = 8 ∧ Int.toNat 9 = 9 ∧ Int.toNat 10 = 10 ∧ Int.toNat 11 = 11 ∧ Int.toNat 12 = 12 ∧ Int.toNat 13 = 13 ∧ Int.toNat 14 = 14 ∧ Int.toNat 15 = 15 ∧ Int.toNat 16 = 16 ∧ Int.toNat 17 = 17 ∧ Int.toNat 18 = 18 ∧ Int.toNat 19 = 19 ∧ Int.toNat 20 = 20 ∧ Int.toNat 21 = 21 ∧ Int.toNat 22 = 22 ∧ Int.toNat 23 = 23 ∧ Int.toNat 24 = 24 ∧ Int.toNat 25 = 25 ∧ Int.toNat 26 = 26 ∧ Int.toNat 27 = 27 ∧ Int.toNat 28 = 28 ∧ Int.toNat 29 = 29 ∧ Int.toNat 30 = 30 ∧ Int.toNat 31 = 31 ∧ Int.toNat 32 = 32 ∧ Int.toNat 80 = 80 ∧ Int.toNat 97 = 97 ∧ Int.toNat 125 = 125 ∧ Int.toNat 131 = 131 ∧ Int.toNat 136 = 136 ∧ Int.toNat 155 = 155 ∧ Int.toNat 160 = 160 ∧ Int.toNat 165 = 165 ∧ Int.toNat 170 = 170 ∧ Int.toNat 174 = 174 ∧ Int.toNat 184 = 184 ∧ Int.toNat 200 = 200 ∧ Int.toNat 300 = 300 ∧ Int.toNat 330 = 330 ∧ Int.toNat 500 = 500 ∧ Int.toNat 512 = 512 ∧ Int.toNat 705 = 705 ∧ Int.toNat 4850 = 4850 ∧ Int.toNat 4880 = 4880 := by refine ⟨?_, ?_, ?_, ?_, ?_, ?_, ?_, ?_, ?_, ?_, ?_, ?_, ?_, ?_, ?_, ?_, ?_, ?_, ?_, ?_, ?_, ?_, ?_, ?_, ?_, ?_, ?_, ?_, ?_, ?_, ?_, ?_, ?_, ?_, ?_, ?_, ?_, ?_, ?_, ?_, ?_, ?_, ?_, ?_, ?_, ?_, ?_, ?_, ?_, ?_⟩ <;> rfl
theorem qnat0 : ((0 : Nat) : Int) = 0 := rfl
theorem qbool {x : Int} (h : x = 0 ∨ x = 1) : (x = 0 ∨ x = 1) = True := eq_true h
/-- a loop: each step goes on at the next -/
theorem qlp {P : Nat → zO} {N : Nat} (hs : ∀ i, i < N → P i = P (i + 1)) : P 0 = P N := by
  have : ∀ k, k ≤ N → P 0 = P k := by
    intro k
    induction k with
    | zero => intro _; rfl
    | succ k ih => intro h; rw [ih (by omega), hs k (by omega)]
  exact this N (Nat.le_refl N)
theorem zsn_yes {f : Nat → Bool} {i : Nat} (h : f i = true) : zsn f (i + 1) = zsn f i + 2 ^ i := by
  show zsn f i + (if f i then 2 ^ i else 0) = _
  rw [if_pos h]
theorem zsn_no {f : Nat → Bool} {i : Nat} (h : f i = false) : zsn f (i + 1) = zsn f i := by
  show zsn f i + (if f i then 2 ^ i else 0) = _
  rw [h]
  rfl
theorem zsn_lt31 (f : Nat → Bool) {i : Nat} (hi : i < 32) : zsn f i < 2147483648 := Nat.lt_of_lt_of_le (zsn_lt f i) (Nat.pow_le_pow_right (n := 2) (by decide) (show i ≤ 31 by omega))
theorem zor_zero {x : Nat} (h : x < 2147483648) : zor x 0 = x := by
  have := zor_nat h (show 0 < 2147483648 by decide)
  rw [Nat.or_zero] at this
  exact this
theorem zor_put {f : Nat → Bool} {i : Nat} (hi : i < 31) (hf : f i = true) : zor (zsn f i : Nat) (zshl 1 i) = (zsn f (i + 1) : Nat) := by
  have h2 : 2 ^ i < 2147483648 := Nat.lt_of_lt_of_le (Nat.pow_lt_pow_right (by decide) hi) (Nat.le_refl (2 ^ 31))
  rw [zshl_one hi, zor_nat (zsn_lt31 f (by omega)) h2]
  refine congrArg (fun x : Nat => (x : Int)) (znat_ext fun j => ?_)
  rw [Nat.testBit_or, zsn_bit, zsn_bit, Nat.testBit_two_pow]
  by_cases hj : j = i
  · subst hj; simp [hf]
  · by_cases hl : j < i
    · simp [hl, Nat.lt_succ_of_lt hl, show ¬ i = j by omega]
    · simp [hl, show ¬ j < i + 1 by omega, show ¬ i = j by omega]
theorem zshl_0 (i : Int) : zshl 0 i = 0 := by
  unfold zshl
  have : (Int32.ofInt 0) = 0 := rfl
  rw [this]
  have : ∀ b : Int32, (0 : Int32) <<< b = 0 := by
    intro b
    apply Int32.toBitVec_inj.mp
    simp
  rw [this]
  rfl
theorem zor_if {f : Nat → Bool} {i : Nat} (hi : i < 31) : zor (zsn f i : Nat) (zshl (if f i = true then 1 else 0) i) = (zsn f (i + 1) : Nat) := by
  by_cases h : f i = true
  · rw [if_pos h, zor_put hi h]
  · rw [if_neg h, zshl_0, zor_zero (zsn_lt31 f (by omega)), zsn_no (by simpa using h)]
theorem zct_yes {f : Nat → Bool} {i : Nat} (h : f i = true) : zct f (i + 1) = zct f i + 1 := by
  show zct f i + (if f i then 1 else 0) = _
  rw [if_pos h]
theorem zct_no {f : Nat → Bool} {i : Nat} (h : f i = false) : zct f (i + 1) = zct f i := by
  show zct f i + (if f i then 1 else 0) = _
  rw [h]
  rfl
/-- sums of ints -/
def qS (f : Nat → Int) : Nat → Int
  | 0 => 0
  | n + 1 => qS f n + f n
theorem qS_s (f : Nat → Int) (n : Nat) : qS f (n + 1) = qS f n + f n := rfl
theorem qS_le {f : Nat → Int} {b : Int} : ∀ {n : Nat}, (∀ i, i < n → f i ≤ b) → qS f n ≤ b * n
  | 0, _ => by simp [qS]
  | n + 1, h => by
    have h1 := qS_le (n := n) fun i hi => h i (by omega)
    have h2 := h n (by omega)
    rw [qS_s, Int.natCast_succ, Int.mul_add]
    omega
theorem qS_ge {f : Nat → Int} {b : Int} : ∀ {n : Nat}, (∀ i, i < n → b ≤ f i) → b * n ≤ qS f n
  | 0, _ => by simp [qS]
  | n + 1, h => by
    have h1 := qS_ge (n := n) fun i hi => h i (by omega)
    have h2 := h n (by omega)
    rw [qS_s, Int.natCast_succ, Int.mul_add]
    omega
theorem qS_cong {f g : Nat → Int} : ∀ {n : Nat}, (∀ i, i < n → f i = g i) → qS f n = qS g n
  | 0, _ => rfl
  | n + 1, h => by rw [qS_s, qS_s, qS_cong fun i hi => h i (by omega), h n (by omega)]
section QF
variable {S : Nat → Nat × Nat} {R : Nat → Nat → Nat} {M : Nat → Nat → Int} {n s d : Nat} {A : Nat → Int}
/-- what a Town keeps, to be read by simp -/
theorem qtw (h : qTw M 10 A) : M 10 12 = A 0 ∧ M 10 13 = A 1 ∧ M 10 14 = A 2 ∧ M 10 15 = A 3 ∧ M 10 16 = A 5 ∧ M 10 17 = A 6 := h.1
theorem kx_hasOak (hF : qFx S R) (hT : qTw M 10 A) (hA : qIn A) (o : Int) : zcal zPP (d + 1) 167 [zA 10, zI o] (n, s, S, R, M) = some (zI (if 0 ≤ o ∧ o < A 0 then 1 else 0), (n, s, S, R, M)) := k_hasOak hF.1.2.1.1 hT hA o
theorem kx_hasPerson (hF : qFx S R) (hT : qTw M 10 A) (hA : qIn A) (o : Int) : zcal zPP (d + 1) 168 [zA 10, zI o] (n, s, S, R, M) = some (zI (if 0 ≤ o ∧ o < A 1 then 1 else 0), (n, s, S, R, M)) := k_hasPerson hF.1.2.1.1 hT hA o
theorem kx_inOak (hF : qFx S R) (hT : qTw M 10 A) (hA : qIn A) (hg : qRg M 21 (qg A)) {o : Nat} (ho : (o : Int) < A 0) : zcal zPP (d + 2) 170 [zA 10, zA 21, zI o] (n, s, S, R, M) = some (zI (qin A o : Nat), (n, s, S, R, M)) := k_inOakT hF.1.2.1.1 hT hA hg ho
theorem kx_isFenced (hF : qFx S R) (hT : qTw M 10 A) (hA : qIn A) (hg : qRg M 21 (qg A)) {o : Nat} (ho : (o : Int) < A 0) : zcal zPP (d + 3) 169 [zA 10, zI o] (n, s, S, R, M) = some (zI (if qic A o ≤ 9 then 1 else 0), (n, s, S, R, M)) := k_isFenced hF.1.2.1.1 hT hA hg ho
theorem kx_yearsOfKinds (hF : qFx S R) (hT : qTw M 10 A) (hA : qIn A) {k : Nat} (hk : k < 16) : zcal zPP (d + 1) 173 [zA 10, zI k] (n, s, S, R, M) = some (zI (zsn (qyk A k) 24 : Nat), (n, s, S, R, M)) := k_yearsOfKinds hF.1.2.1.1 hT hA hk
theorem kx_yearsOf (hF : qFx S R) (hg : qRg M 21 (qg A)) {p : Nat} (hp : p < 5) : zcal zPP (d + 2) 145 [zA 21, zI p] (n, s, S, R, M) = some (zI (zsn (qyb A p) 24 : Nat), (n, s, S, R, M)) := k_yearsOfT hF.1.2.1.1 hg hp
theorem kx_heldBy (hF : qFx S R) (hg : qRg M 21 (qg A)) {p : Nat} (hp : p < 5) : zcal zPP (d + 2) 136 [zA 21, zI p] (n, s, S, R, M) = some (zI (qhb A p : Nat), (n, s, S, R, M)) := k_heldByT hF.1.2.1.1 hg hp
theorem km_get (hF : qFx S R) {o y : Nat} (ho : o < 5) (hy : y < 24) : zcal zPP (d + 1) 229 [zA 305, zI o, zI y] (n, s, S, R, M) = some (zI (M 306 (11 + 24 * o + y)), (n, s, S, R, M)) := k_get hF.2.1 ho hy
theorem km_yearsOf (hF : qFx S R) {o : Nat} (ho : o < 5) (w : Int) : zcal zPP (d + 2) 235 [zA 305, zI o, zI w] (n, s, S, R, M) = some (zI (zsn (fun y => decide (M 306 (11 + 24 * o + y) = w)) 24 : Nat), (n, s, S, R, M)) := k_yearsOfM hF.2.1 ho w
theorem km_inside (hF : qFx S R) {o : Nat} (ho : o < 5) : zcal zPP (d + 3) 234 [zA 305, zI o] (n, s, S, R, M) = some (zI (qic (M 306) o : Nat), (n, s, S, R, M)) := k_insideM hF.2.1 ho
theorem km_isOak (hF : qFx S R) (hA : qIn (M 306)) (o : Int) : zcal zPP (d + 2) 233 [zA 305, zI o] (n, s, S, R, M) = some (zI (if 0 ≤ o ∧ o < M 306 0 then 1 else 0), (n, s, S, R, M)) := k_isOakM hF.2.1 hA o
theorem km_isPerson (hF : qFx S R) (hA : qIn (M 306)) (o : Int) : zcal zPP (d + 2) 237 [zA 305, zI o] (n, s, S, R, M) = some (zI (if 0 ≤ o ∧ o < M 306 1 then 1 else 0), (n, s, S, R, M)) := k_isPersonM hF.2.1 hA o
theorem km_isRing (hF : qFx S R) (hA : qIn (M 306)) (o y : Int) : zcal zPP (d + 3) 232 [zA 305, zI o, zI y] (n, s, S, R, M) = some (zI (if (0 ≤ o ∧ o < M 306 0) ∧ (0 ≤ y ∧ y < 24) ∧ M 306 (11 + 24 * o.toNat + y.toNat) ≠ 0 then 1 else 0), (n, s, S, R, M)) := k_isRingM hF.2.1 hA o y
theorem km_heldBy (hF : qFx S R) (hA : qIn (M 306)) {p : Nat} (hp : p < 5) : zcal zPP (d + 3) 240 [zA 305, zI p] (n, s, S, R, M) = some (zI (qhb (M 306) p : Nat), (n, s, S, R, M)) := k_heldByM hF.2.1 hA hp
theorem km_yearsBy (hF : qFx S R) (hA : qIn (M 306)) {p : Nat} (hp : p < 5) : zcal zPP (d + 3) 270 [zA 305, zI p] (n, s, S, R, M) = some (zI (zsn (qyb (M 306) p) 24 : Nat), (n, s, S, R, M)) := k_yearsByM hF.2.1 hA hp
end QF
