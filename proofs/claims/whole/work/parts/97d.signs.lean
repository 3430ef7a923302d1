/-! TOKENS: what the model asks of them, by the class's signs -/
theorem yTS {B : Nat → Nat} {len i : Nat} (hB : ∀ k, k < len → B k < 256) : (ytk B len i = 0 ∧ ysg B len i = 43) ∨ (ytk B len i = 2 ∧ (ysg B len i < 27 ∨ ysg B len i = 44)) ∨ (ytk B len i = 1 ∧ ysg B len i = 41) ∨ (ytk B len i = 4 ∧ ysg B len i = 27) ∨ (ytk B len i = 5 ∧ ysg B len i = 28) ∨ (ytk B len i = 60 ∧ ysg B len i = 29) ∨ (ytk B len i = 62 ∧ ysg B len i = 30) ∨ (ytk B len i = 61 ∧ ysg B len i = 31) ∨ (ytk B len i = 35 ∧ ysg B len i = 32) ∨ (ytk B len i = 43 ∧ ysg B len i = 33) ∨ (ytk B len i = 45 ∧ ysg B len i = 34) ∨ (ytk B len i = 42 ∧ ysg B len i = 35) ∨ (ytk B len i = 47 ∧ ysg B len i = 36) ∨ (ytk B len i = 40 ∧ ysg B len i = 37) ∨ (ytk B len i = 41 ∧ ysg B len i = 38) ∨ (ytk B len i = 44 ∧ ysg B len i = 39) ∨ (ytk B len i = 59 ∧ ysg B len i = 40) ∨ (ytk B len i = 3 ∧ ysg B len i = 44) := by
  unfold ytk ysg
  generalize ypl B len i = q
  unfold ytk0 ysg0
  by_cases hq : q < len
  · rw [if_pos hq, if_pos hq]
    by_cases hL : qisL (B q) = true
    · rw [if_pos hL, if_pos hL]
      refine Or.inr (Or.inl ⟨rfl, ?_⟩)
      by_cases h7 : yend qisL B len q - q < 7
      · rw [if_pos h7]
        have : ∀ (l : List Nat) (v k : Nat), qfi v l k < k + l.length ∨ qfi v l k = 44 := by
          intro l
          induction l with
          | nil => intro v k; exact Or.inr rfl
          | cons c cs ih =>
            intro v k
            show (if v = c then k else qfi v cs (k + 1)) < k + (cs.length + 1) ∨ (if v = c then k else qfi v cs (k + 1)) = 44
            by_cases h : v = c
            · rw [if_pos h]; omega
            · rw [if_neg h]
              have := ih v (k + 1)
              omega
        exact this qwords _ 0
      · rw [if_neg h7]; exact Or.inr rfl
    · rw [if_neg hL, if_neg hL]
      by_cases hD : qisD (B q) = true
      · rw [if_pos hD, if_pos hD]
        exact Or.inr (Or.inr (Or.inl ⟨rfl, rfl⟩))
      · rw [if_neg hD, if_neg hD]
        by_cases hw : ywide B len q = true
        · rw [if_pos hw, if_pos hw]
          unfold ywide at hw
          simp at hw
          rcases hw.1 with h | h
          · rw [if_pos h, h]
            exact Or.inr (Or.inr (Or.inr (Or.inl ⟨rfl, rfl⟩)))
          · rw [if_neg (by omega), h]
            exact Or.inr (Or.inr (Or.inr (Or.inr (Or.inl ⟨rfl, rfl⟩))))
        · rw [if_neg hw, if_neg hw]
          have : ∀ c : Nat, c < 256 → (((if qfi c qmarks 29 = 44 then 3 else c) = 60 ∧ qfi c qmarks 29 = 29) ∨ ((if qfi c qmarks 29 = 44 then 3 else c) = 62 ∧ qfi c qmarks 29 = 30) ∨ ((if qfi c qmarks 29 = 44 then 3 else c) = 61 ∧ qfi c qmarks 29 = 31) ∨ ((if qfi c qmarks 29 = 44 then 3 else c) = 35 ∧ qfi c qmarks 29 = 32) ∨ ((if qfi c qmarks 29 = 44 then 3 else c) = 43 ∧ qfi c qmarks 29 = 33) ∨ ((if qfi c qmarks 29 = 44 then 3 else c) = 45 ∧ qfi c qmarks 29 = 34) ∨ ((if qfi c qmarks 29 = 44 then 3 else c) = 42 ∧ qfi c qmarks 29 = 35) ∨ ((if qfi c qmarks 29 = 44 then 3 else c) = 47 ∧ qfi c qmarks 29 = 36) ∨ ((if qfi c qmarks 29 = 44 then 3 else c) = 40 ∧ qfi c qmarks 29 = 37) ∨ ((if qfi c qmarks 29 = 44 then 3 else c) = 41 ∧ qfi c qmarks 29 = 38) ∨ ((if qfi c qmarks 29 = 44 then 3 else c) = 44 ∧ qfi c qmarks 29 = 39) ∨ ((if qfi c qmarks 29 = 44 then 3 else c) = 59 ∧ qfi c qmarks 29 = 40) ∨ ((if qfi c qmarks 29 = 44 then 3 else c) = 3 ∧ qfi c qmarks 29 = 44)) := by decide +kernel
          exact Or.inr (Or.inr (Or.inr (Or.inr (Or.inr (this (B q) (hB q hq))))))
  · rw [if_neg hq, if_neg hq]
    exact Or.inl ⟨rfl, rfl⟩
theorem qfi_at {v k : Nat} (hk : k < 27) : qfi v qwords 0 = k ↔ v = znth 0 qwords k := by
  have h1 : ∀ k, k < 27 → qfi (znth 0 qwords k) qwords 0 = k := by decide
  have h2 : ∀ (l : List Nat) (j : Nat), qfi v l j = 44 ∨ ∃ i, i < l.length ∧ qfi v l j = j + i ∧ v = znth 0 l i := by
    intro l
    induction l with
    | nil => intro j; exact Or.inl rfl
    | cons c cs ih =>
      intro j
      show (if v = c then j else qfi v cs (j + 1)) = 44 ∨ ∃ i, i < cs.length + 1 ∧ (if v = c then j else qfi v cs (j + 1)) = j + i ∧ v = znth 0 (c :: cs) i
      by_cases h : v = c
      · rw [if_pos h]; exact Or.inr ⟨0, by omega, rfl, h⟩
      · rw [if_neg h]
        rcases ih (j + 1) with h3 | ⟨i, i1, i2, i3⟩
        · exact Or.inl h3
        · exact Or.inr ⟨i + 1, by omega, by omega, i3⟩
  constructor
  · intro h
    rcases h2 qwords 0 with h3 | ⟨i, i1, i2, i3⟩
    · omega
    · have : i = k := by omega
      subst this
      exact i3
  · intro h
    rw [h]
    exact h1 k hk
/-- the model's word and the class's sign -/
theorem yword {B : Nat → Nat} {len i : Nat} (hB : ∀ k, k < len → B k < 256) (h2 : ytk B len i = 2) {k : Nat} (hk : k < 27) : (ypm B (ypl B len i) (ypos B len (i + 1) - ypl B len i) = znth 0 qwords k) ↔ ysg B len i = k := by
  have hpe : ypos B len (i + 1) = yE0 B len (ypl B len i) := rfl
  rw [hpe]
  unfold ytk at h2
  unfold ysg
  generalize ypl B len i = q at *
  unfold ytk0 at h2
  by_cases hq : q < len
  · rw [if_pos hq] at h2
    by_cases hL : qisL (B q) = true
    · have eE : yE0 B len q = yend qisL B len q := by unfold yE0; rw [if_pos hq, if_pos hL]
      have eG : ysg0 B len q = if yend qisL B len q - q < 7 then qfi (qpk (fun j => B (q + j)) (yend qisL B len q - q)) qwords 0 else 44 := by unfold ysg0; rw [if_pos hq, if_pos hL]
      have hall := (yend_in (P := qisL) (B := B) (len := len) (len - q) q rfl).2.2.1
      rw [eE, eG]
      generalize yend qisL B len q = e at *
      have hb : ∀ j, j < e - q → 65 ≤ B (q + j) ∧ B (q + j) ≤ 122 := fun j hj => qisL_in (hall (q + j) (by omega) (by omega)).2
      have hsame : ∀ l, l ≤ e - q → l ≤ 7 → ypm B q l = qpk (fun j => B (q + j)) l := by
        intro l
        induction l with
        | zero => intro _ _; rfl
        | succ l ih =>
          intro h1 h2
          have ih := ih (by omega) (by omega)
          show (if ypm B q l / 281474976710656 ≠ 0 then 1152921504606846976 else ypm B q l * 256 + B (q + l)) = qpk (fun j => B (q + j)) l * 256 + B (q + l)
          rw [ih]
          have hlt : qpk (fun j => B (q + j)) l < 281474976710656 := by
            cases l with
            | zero => exact (show (0 : Nat) < 281474976710656 by decide)
            | succ l =>
              have := (qpk_rg (b := fun j => B (q + j)) (k := l + 1) (fun j hj => by have := hb j (by omega); omega) (by omega)).2
              have h6 : 256 ^ (l + 1) ≤ 256 ^ 6 := Nat.pow_le_pow_right (by decide) (by omega)
              have e6 : 256 ^ 6 = 281474976710656 := by decide
              omega
          rw [if_neg (fun z => z (Nat.div_eq_of_lt hlt))]
      have hT : znth 0 qwords k < 281474976710656 := by
        have : ∀ k, k < 27 → znth 0 qwords k < 281474976710656 := by decide
        exact this k hk
      by_cases h7 : e - q < 7
      · rw [if_pos h7, hsame (e - q) (Nat.le_refl _) (by omega)]
        exact (qfi_at hk).symm
      · rw [if_neg h7]
        have hbig : ∀ m, 7 + m ≤ e - q → 281474976710656 ≤ ypm B q (7 + m) := by
          intro m
          induction m with
          | zero =>
            intro hm
            rw [hsame 7 hm (by omega)]
            have := (qpk_rg (b := fun j => B (q + j)) (k := 7) (fun j hj => by have := hb j (by omega); omega) (by omega)).1
            have e6 : 256 ^ (7 - 1) = 281474976710656 := by decide
            omega
          | succ m ih =>
            intro hm
            have ih := ih (by omega)
            show 281474976710656 ≤ (if ypm B q (7 + m) / 281474976710656 ≠ 0 then 1152921504606846976 else ypm B q (7 + m) * 256 + B (q + (7 + m)))
            rw [if_pos (by omega)]
            decide
        have := hbig (e - q - 7) (by omega)
        rw [show 7 + (e - q - 7) = e - q by omega] at this
        constructor
        · intro h; omega
        · intro h; omega
    · exfalso
      rw [if_neg hL] at h2
      by_cases hD : qisD (B q) = true
      · rw [if_pos hD] at h2; omega
      · rw [if_neg hD] at h2
        by_cases hw : ywide B len q = true
        · rw [if_pos hw] at h2
          split at h2 <;> omega
        · rw [if_neg hw] at h2
          have hge : ∀ c : Nat, c < 256 → (if qfi c qmarks 29 = 44 then 3 else c) ≠ 2 := by decide +kernel
          exact hge (B q) (hB q hq) h2
  · exfalso
    rw [if_neg hq] at h2
    cases h2
section QF
variable {S : Nat → Nat × Nat} {R : Nat → Nat → Nat} {M M' M0 M1 M2 M3 : Nat → Nat → Int} {n s d r : Nat} {B : Nat → Nat} {len i : Nat}
theorem yw_lends (σ : zS) : zcal zPP (d + 6) 198 [zI 108, zI 101, zI 110, zI 100, zI 115] σ = some (zL 465558201459, σ) := by
  have h : zlor (zlshl (zlor (zlshl (zlor (zlshl (zlor (zlshl 108 8) 101) 8) 110) 8) 100) 8) 115 = 465558201459 := by decide +kernel
  rw [c_M_w5, c_M_w4, c_M_w3, c_M_w2]
  simp only [zbL, h]
theorem yw_ages (σ : zS) : zcal zPP (d + 6) 199 [zI 97, zI 103, zI 101, zI 115] σ = some (zL 1634166131, σ) := by
  have h : zlor (zlshl (zlor (zlshl (zlor (zlshl 97 8) 103) 8) 101) 8) 115 = 1634166131 := by decide +kernel
  rw [c_M_w4, c_M_w3, c_M_w2]
  simp only [zbL, h]
theorem yw_pays (σ : zS) : zcal zPP (d + 6) 199 [zI 112, zI 97, zI 121, zI 115] σ = some (zL 1885436275, σ) := by
  have h : zlor (zlshl (zlor (zlshl (zlor (zlshl 112 8) 97) 8) 121) 8) 115 = 1885436275 := by decide +kernel
  rw [c_M_w4, c_M_w3, c_M_w2]
  simp only [zbL, h]
theorem yw_oak (σ : zS) : zcal zPP (d + 6) 200 [zI 111, zI 97, zI 107] σ = some (zL 7299435, σ) := by
  have h : zlor (zlshl (zlor (zlshl 111 8) 97) 8) 107 = 7299435 := by decide +kernel
  rw [c_M_w3, c_M_w2]
  simp only [zbL, h]
theorem yw_year (σ : zS) : zcal zPP (d + 6) 199 [zI 121, zI 101, zI 97, zI 114] σ = some (zL 2036687218, σ) := by
  have h : zlor (zlshl (zlor (zlshl (zlor (zlshl 121 8) 101) 8) 97) 8) 114 = 2036687218 := by decide +kernel
  rw [c_M_w4, c_M_w3, c_M_w2]
  simp only [zbL, h]
theorem yw_person (σ : zS) : zcal zPP (d + 6) 203 [zI 112, zI 101, zI 114, zI 115, zI 111, zI 110] σ = some (zL 123581014175598, σ) := by
  have h : zlor (zlshl (zlor (zlshl (zlor (zlshl (zlor (zlshl (zlor (zlshl 112 8) 101) 8) 114) 8) 115) 8) 111) 8) 110 = 123581014175598 := by decide +kernel
  rw [c_M_w6, c_M_w5, c_M_w4, c_M_w3, c_M_w2]
  simp only [zbL, h]
theorem yw_lend (σ : zS) : zcal zPP (d + 6) 199 [zI 108, zI 101, zI 110, zI 100] σ = some (zL 1818586724, σ) := by
  have h : zlor (zlshl (zlor (zlshl (zlor (zlshl 108 8) 101) 8) 110) 8) 100 = 1818586724 := by decide +kernel
  rw [c_M_w4, c_M_w3, c_M_w2]
  simp only [zbL, h]
theorem yw_back (σ : zS) : zcal zPP (d + 6) 199 [zI 98, zI 97, zI 99, zI 107] σ = some (zL 1650549611, σ) := by
  have h : zlor (zlshl (zlor (zlshl (zlor (zlshl 98 8) 97) 8) 99) 8) 107 = 1650549611 := by decide +kernel
  rw [c_M_w4, c_M_w3, c_M_w2]
  simp only [zbL, h]
theorem yw_pass (σ : zS) : zcal zPP (d + 6) 199 [zI 112, zI 97, zI 115, zI 115] σ = some (zL 1885434739, σ) := by
  have h : zlor (zlshl (zlor (zlshl (zlor (zlshl 112 8) 97) 8) 115) 8) 115 = 1885434739 := by decide +kernel
  rw [c_M_w4, c_M_w3, c_M_w2]
  simp only [zbL, h]
theorem yw_day (σ : zS) : zcal zPP (d + 6) 200 [zI 100, zI 97, zI 121] σ = some (zL 6578553, σ) := by
  have h : zlor (zlshl (zlor (zlshl 100 8) 97) 8) 121 = 6578553 := by decide +kernel
  rw [c_M_w3, c_M_w2]
  simp only [zbL, h]
theorem yw_kind (σ : zS) : zcal zPP (d + 6) 199 [zI 107, zI 105, zI 110, zI 100] σ = some (zL 1802071652, σ) := by
  have h : zlor (zlshl (zlor (zlshl (zlor (zlshl 107 8) 105) 8) 110) 8) 100 = 1802071652 := by decide +kernel
  rw [c_M_w4, c_M_w3, c_M_w2]
  simp only [zbL, h]
theorem yw_own (σ : zS) : zcal zPP (d + 6) 200 [zI 111, zI 119, zI 110] σ = some (zL 7305070, σ) := by
  have h : zlor (zlshl (zlor (zlshl 111 8) 119) 8) 110 = 7305070 := by decide +kernel
  rw [c_M_w3, c_M_w2]
  simp only [zbL, h]
theorem yw_held (σ : zS) : zcal zPP (d + 6) 199 [zI 104, zI 101, zI 108, zI 100] σ = some (zL 1751477348, σ) := by
  have h : zlor (zlshl (zlor (zlshl (zlor (zlshl 104 8) 101) 8) 108) 8) 100 = 1751477348 := by decide +kernel
  rw [c_M_w4, c_M_w3, c_M_w2]
  simp only [zbL, h]
theorem yw_who (σ : zS) : zcal zPP (d + 6) 200 [zI 119, zI 104, zI 111] σ = some (zL 7825519, σ) := by
  have h : zlor (zlshl (zlor (zlshl 119 8) 104) 8) 111 = 7825519 := by decide +kernel
  rw [c_M_w3, c_M_w2]
  simp only [zbL, h]
theorem yw_left (σ : zS) : zcal zPP (d + 6) 199 [zI 108, zI 101, zI 102, zI 116] σ = some (zL 1818584692, σ) := by
  have h : zlor (zlshl (zlor (zlshl (zlor (zlshl 108 8) 101) 8) 102) 8) 116 = 1818584692 := by decide +kernel
  rw [c_M_w4, c_M_w3, c_M_w2]
  simp only [zbL, h]
theorem yw_of (σ : zS) : zcal zPP (d + 6) 201 [zI 111, zI 102] σ = some (zL 28518, σ) := by
  have h : zlor (zlshl 111 8) 102 = 28518 := by decide +kernel
  rw [c_M_w2]
  simp only [zbL, h]
theorem yw_to (σ : zS) : zcal zPP (d + 6) 201 [zI 116, zI 111] σ = some (zL 29807, σ) := by
  have h : zlor (zlshl 116 8) 111 = 29807 := by decide +kernel
  rw [c_M_w2]
  simp only [zbL, h]
theorem yw_is (σ : zS) : zcal zPP (d + 6) 201 [zI 105, zI 115] σ = some (zL 26995, σ) := by
  have h : zlor (zlshl 105 8) 115 = 26995 := by decide +kernel
  rw [c_M_w2]
  simp only [zbL, h]
theorem yw_root (σ : zS) : zcal zPP (d + 6) 199 [zI 114, zI 111, zI 111, zI 116] σ = some (zL 1919905652, σ) := by
  have h : zlor (zlshl (zlor (zlshl (zlor (zlshl 114 8) 111) 8) 111) 8) 116 = 1919905652 := by decide +kernel
  rw [c_M_w4, c_M_w3, c_M_w2]
  simp only [zbL, h]
theorem yw_rings (σ : zS) : zcal zPP (d + 6) 198 [zI 114, zI 105, zI 110, zI 103, zI 115] σ = some (zL 491395114867, σ) := by
  have h : zlor (zlshl (zlor (zlshl (zlor (zlshl (zlor (zlshl 114 8) 105) 8) 110) 8) 103) 8) 115 = 491395114867 := by decide +kernel
  rw [c_M_w5, c_M_w4, c_M_w3, c_M_w2]
  simp only [zbL, h]
theorem yw_if (σ : zS) : zcal zPP (d + 6) 201 [zI 105, zI 102] σ = some (zL 26982, σ) := by
  have h : zlor (zlshl 105 8) 102 = 26982 := by decide +kernel
  rw [c_M_w2]
  simp only [zbL, h]
theorem yw_then (σ : zS) : zcal zPP (d + 6) 199 [zI 116, zI 104, zI 101, zI 110] σ = some (zL 1952998766, σ) := by
  have h : zlor (zlshl (zlor (zlshl (zlor (zlshl 116 8) 104) 8) 101) 8) 110 = 1952998766 := by decide +kernel
  rw [c_M_w4, c_M_w3, c_M_w2]
  simp only [zbL, h]
theorem yw_else (σ : zS) : zcal zPP (d + 6) 199 [zI 101, zI 108, zI 115, zI 101] σ = some (zL 1701606245, σ) := by
  have h : zlor (zlshl (zlor (zlshl (zlor (zlshl 101 8) 108) 8) 115) 8) 101 = 1701606245 := by decide +kernel
  rw [c_M_w4, c_M_w3, c_M_w2]
  simp only [zbL, h]
theorem yw_end (σ : zS) : zcal zPP (d + 6) 200 [zI 101, zI 110, zI 100] σ = some (zL 6647396, σ) := by
  have h : zlor (zlshl (zlor (zlshl 101 8) 110) 8) 100 = 6647396 := by decide +kernel
  rw [c_M_w3, c_M_w2]
  simp only [zbL, h]
theorem yw_or (σ : zS) : zcal zPP (d + 6) 201 [zI 111, zI 114] σ = some (zL 28530, σ) := by
  have h : zlor (zlshl 111 8) 114 = 28530 := by decide +kernel
  rw [c_M_w2]
  simp only [zbL, h]
theorem yw_and (σ : zS) : zcal zPP (d + 6) 200 [zI 97, zI 110, zI 100] σ = some (zL 6385252, σ) := by
  have h : zlor (zlshl (zlor (zlshl 97 8) 110) 8) 100 = 6385252 := by decide +kernel
  rw [c_M_w3, c_M_w2]
  simp only [zbL, h]
theorem yw_not (σ : zS) : zcal zPP (d + 6) 200 [zI 110, zI 111, zI 116] σ = some (zL 7237492, σ) := by
  have h : zlor (zlshl (zlor (zlshl 110 8) 111) 8) 116 = 7237492 := by decide +kernel
  rw [c_M_w3, c_M_w2]
  simp only [zbL, h]
theorem km_isWord (hF : qFx S R) (hB : ∀ k, k < len → B k < 256) (h : yNx B len M i) {k : Nat} (hk : k < 27) : zcal zPP (d + 1) 202 [zA 305, zL (znth 0 qwords k : Nat)] (n, s, S, R, M) = some (zI (if ysg B len i = k then 1 else 0), (n, s, S, R, M)) := by
  obtain ⟨-, -, h9, -, h11⟩ := h
  have hts := yTS (i := i) hB
  rw [c_M_isWord]
  simp only [qff hF, if_true, h9, zcmp_eq]
  by_cases h2 : ytk B len i = 2
  · rw [if_pos (by omega), h11 h2]
    have := yword hB h2 hk
    by_cases hs : ysg B len i = k
    · rw [if_pos (by rw [this.mpr hs]), if_pos hs]
    · rw [if_neg (fun z : ((ypm B (ypl B len i) (ypos B len (i + 1) - ypl B len i) : Nat) : Int) = ((znth 0 qwords k : Nat) : Int) => hs (this.mp (Int.ofNat.inj z))), if_neg hs]
  · rw [if_neg (by omega), if_neg (by omega)]
theorem yi_lends (hF : qFx S R) (hB : ∀ k, k < len → B k < 256) (h : yNx B len M i) : zcal zPP (d + 1) 202 [zA 305, zL 465558201459] (n, s, S, R, M) = some (zI (if ysg B len i = 0 then 1 else 0), (n, s, S, R, M)) := km_isWord hF hB h (show 0 < 27 by decide)
theorem yi_ages (hF : qFx S R) (hB : ∀ k, k < len → B k < 256) (h : yNx B len M i) : zcal zPP (d + 1) 202 [zA 305, zL 1634166131] (n, s, S, R, M) = some (zI (if ysg B len i = 1 then 1 else 0), (n, s, S, R, M)) := km_isWord hF hB h (show 1 < 27 by decide)
theorem yi_pays (hF : qFx S R) (hB : ∀ k, k < len → B k < 256) (h : yNx B len M i) : zcal zPP (d + 1) 202 [zA 305, zL 1885436275] (n, s, S, R, M) = some (zI (if ysg B len i = 2 then 1 else 0), (n, s, S, R, M)) := km_isWord hF hB h (show 2 < 27 by decide)
theorem yi_oak (hF : qFx S R) (hB : ∀ k, k < len → B k < 256) (h : yNx B len M i) : zcal zPP (d + 1) 202 [zA 305, zL 7299435] (n, s, S, R, M) = some (zI (if ysg B len i = 3 then 1 else 0), (n, s, S, R, M)) := km_isWord hF hB h (show 3 < 27 by decide)
theorem yi_year (hF : qFx S R) (hB : ∀ k, k < len → B k < 256) (h : yNx B len M i) : zcal zPP (d + 1) 202 [zA 305, zL 2036687218] (n, s, S, R, M) = some (zI (if ysg B len i = 4 then 1 else 0), (n, s, S, R, M)) := km_isWord hF hB h (show 4 < 27 by decide)
theorem yi_person (hF : qFx S R) (hB : ∀ k, k < len → B k < 256) (h : yNx B len M i) : zcal zPP (d + 1) 202 [zA 305, zL 123581014175598] (n, s, S, R, M) = some (zI (if ysg B len i = 5 then 1 else 0), (n, s, S, R, M)) := km_isWord hF hB h (show 5 < 27 by decide)
theorem yi_lend (hF : qFx S R) (hB : ∀ k, k < len → B k < 256) (h : yNx B len M i) : zcal zPP (d + 1) 202 [zA 305, zL 1818586724] (n, s, S, R, M) = some (zI (if ysg B len i = 6 then 1 else 0), (n, s, S, R, M)) := km_isWord hF hB h (show 6 < 27 by decide)
theorem yi_back (hF : qFx S R) (hB : ∀ k, k < len → B k < 256) (h : yNx B len M i) : zcal zPP (d + 1) 202 [zA 305, zL 1650549611] (n, s, S, R, M) = some (zI (if ysg B len i = 7 then 1 else 0), (n, s, S, R, M)) := km_isWord hF hB h (show 7 < 27 by decide)
theorem yi_pass (hF : qFx S R) (hB : ∀ k, k < len → B k < 256) (h : yNx B len M i) : zcal zPP (d + 1) 202 [zA 305, zL 1885434739] (n, s, S, R, M) = some (zI (if ysg B len i = 8 then 1 else 0), (n, s, S, R, M)) := km_isWord hF hB h (show 8 < 27 by decide)
theorem yi_day (hF : qFx S R) (hB : ∀ k, k < len → B k < 256) (h : yNx B len M i) : zcal zPP (d + 1) 202 [zA 305, zL 6578553] (n, s, S, R, M) = some (zI (if ysg B len i = 9 then 1 else 0), (n, s, S, R, M)) := km_isWord hF hB h (show 9 < 27 by decide)
theorem yi_kind (hF : qFx S R) (hB : ∀ k, k < len → B k < 256) (h : yNx B len M i) : zcal zPP (d + 1) 202 [zA 305, zL 1802071652] (n, s, S, R, M) = some (zI (if ysg B len i = 10 then 1 else 0), (n, s, S, R, M)) := km_isWord hF hB h (show 10 < 27 by decide)
theorem yi_own (hF : qFx S R) (hB : ∀ k, k < len → B k < 256) (h : yNx B len M i) : zcal zPP (d + 1) 202 [zA 305, zL 7305070] (n, s, S, R, M) = some (zI (if ysg B len i = 11 then 1 else 0), (n, s, S, R, M)) := km_isWord hF hB h (show 11 < 27 by decide)
theorem yi_held (hF : qFx S R) (hB : ∀ k, k < len → B k < 256) (h : yNx B len M i) : zcal zPP (d + 1) 202 [zA 305, zL 1751477348] (n, s, S, R, M) = some (zI (if ysg B len i = 12 then 1 else 0), (n, s, S, R, M)) := km_isWord hF hB h (show 12 < 27 by decide)
theorem yi_who (hF : qFx S R) (hB : ∀ k, k < len → B k < 256) (h : yNx B len M i) : zcal zPP (d + 1) 202 [zA 305, zL 7825519] (n, s, S, R, M) = some (zI (if ysg B len i = 13 then 1 else 0), (n, s, S, R, M)) := km_isWord hF hB h (show 13 < 27 by decide)
theorem yi_left (hF : qFx S R) (hB : ∀ k, k < len → B k < 256) (h : yNx B len M i) : zcal zPP (d + 1) 202 [zA 305, zL 1818584692] (n, s, S, R, M) = some (zI (if ysg B len i = 14 then 1 else 0), (n, s, S, R, M)) := km_isWord hF hB h (show 14 < 27 by decide)
theorem yi_of (hF : qFx S R) (hB : ∀ k, k < len → B k < 256) (h : yNx B len M i) : zcal zPP (d + 1) 202 [zA 305, zL 28518] (n, s, S, R, M) = some (zI (if ysg B len i = 15 then 1 else 0), (n, s, S, R, M)) := km_isWord hF hB h (show 15 < 27 by decide)
theorem yi_to (hF : qFx S R) (hB : ∀ k, k < len → B k < 256) (h : yNx B len M i) : zcal zPP (d + 1) 202 [zA 305, zL 29807] (n, s, S, R, M) = some (zI (if ysg B len i = 16 then 1 else 0), (n, s, S, R, M)) := km_isWord hF hB h (show 16 < 27 by decide)
theorem yi_is (hF : qFx S R) (hB : ∀ k, k < len → B k < 256) (h : yNx B len M i) : zcal zPP (d + 1) 202 [zA 305, zL 26995] (n, s, S, R, M) = some (zI (if ysg B len i = 17 then 1 else 0), (n, s, S, R, M)) := km_isWord hF hB h (show 17 < 27 by decide)
theorem yi_root (hF : qFx S R) (hB : ∀ k, k < len → B k < 256) (h : yNx B len M i) : zcal zPP (d + 1) 202 [zA 305, zL 1919905652] (n, s, S, R, M) = some (zI (if ysg B len i = 18 then 1 else 0), (n, s, S, R, M)) := km_isWord hF hB h (show 18 < 27 by decide)
theorem yi_rings (hF : qFx S R) (hB : ∀ k, k < len → B k < 256) (h : yNx B len M i) : zcal zPP (d + 1) 202 [zA 305, zL 491395114867] (n, s, S, R, M) = some (zI (if ysg B len i = 19 then 1 else 0), (n, s, S, R, M)) := km_isWord hF hB h (show 19 < 27 by decide)
theorem yi_if (hF : qFx S R) (hB : ∀ k, k < len → B k < 256) (h : yNx B len M i) : zcal zPP (d + 1) 202 [zA 305, zL 26982] (n, s, S, R, M) = some (zI (if ysg B len i = 20 then 1 else 0), (n, s, S, R, M)) := km_isWord hF hB h (show 20 < 27 by decide)
theorem yi_then (hF : qFx S R) (hB : ∀ k, k < len → B k < 256) (h : yNx B len M i) : zcal zPP (d + 1) 202 [zA 305, zL 1952998766] (n, s, S, R, M) = some (zI (if ysg B len i = 21 then 1 else 0), (n, s, S, R, M)) := km_isWord hF hB h (show 21 < 27 by decide)
theorem yi_else (hF : qFx S R) (hB : ∀ k, k < len → B k < 256) (h : yNx B len M i) : zcal zPP (d + 1) 202 [zA 305, zL 1701606245] (n, s, S, R, M) = some (zI (if ysg B len i = 22 then 1 else 0), (n, s, S, R, M)) := km_isWord hF hB h (show 22 < 27 by decide)
theorem yi_end (hF : qFx S R) (hB : ∀ k, k < len → B k < 256) (h : yNx B len M i) : zcal zPP (d + 1) 202 [zA 305, zL 6647396] (n, s, S, R, M) = some (zI (if ysg B len i = 23 then 1 else 0), (n, s, S, R, M)) := km_isWord hF hB h (show 23 < 27 by decide)
theorem yi_or (hF : qFx S R) (hB : ∀ k, k < len → B k < 256) (h : yNx B len M i) : zcal zPP (d + 1) 202 [zA 305, zL 28530] (n, s, S, R, M) = some (zI (if ysg B len i = 24 then 1 else 0), (n, s, S, R, M)) := km_isWord hF hB h (show 24 < 27 by decide)
theorem yi_and (hF : qFx S R) (hB : ∀ k, k < len → B k < 256) (h : yNx B len M i) : zcal zPP (d + 1) 202 [zA 305, zL 6385252] (n, s, S, R, M) = some (zI (if ysg B len i = 25 then 1 else 0), (n, s, S, R, M)) := km_isWord hF hB h (show 25 < 27 by decide)
theorem yi_not (hF : qFx S R) (hB : ∀ k, k < len → B k < 256) (h : yNx B len M i) : zcal zPP (d + 1) 202 [zA 305, zL 7237492] (n, s, S, R, M) = some (zI (if ysg B len i = 26 then 1 else 0), (n, s, S, R, M)) := km_isWord hF hB h (show 26 < 27 by decide)
/-- the number of a name; none -/
def ynm (g : Nat) : Int := if g = 9 then 0 else if g = 4 then 1 else if g = 10 then 2 else if g = 3 then 3 else if g = 11 then 4 else if g = 12 then 5 else if g = 13 then 6 else if g = 14 then 7 else -1
theorem km_nameOf (hF : qFx S R) (hB : ∀ k, k < len → B k < 256) (h : yNx B len M i) : zcal zPP (d + 7) 223 [zA 305] (n, s, S, R, M) = some (zI (ynm (ysg B len i)), (n, s, S, R, M)) := by
  obtain ⟨-, -, h9, -, h11⟩ := h
  have hts := yTS (i := i) hB
  rw [c_M_nameOf]
  simp only [qff hF, if_true, h9]
  unfold ynm
  by_cases h2 : ytk B len i = 2
  · rw [if_pos (by omega)]
    have hw := fun (k : Nat) (hk : k < 27) => yword (i := i) hB h2 hk
    have h11 := h11 h2
    generalize ysg B len i = g at *
    generalize ypm B (ypl B len i) (ypos B len (i + 1) - ypl B len i) = v at *
    have e9 : ((v : Int) = 6578553) = (g = 9) := propext ⟨fun z => (hw 9 (by decide)).mp (Int.ofNat.inj z), fun z => by rw [(hw 9 (by decide)).mpr z]; rfl⟩
    have e4 : ((v : Int) = 2036687218) = (g = 4) := propext ⟨fun z => (hw 4 (by decide)).mp (Int.ofNat.inj z), fun z => by rw [(hw 4 (by decide)).mpr z]; rfl⟩
    have e10 : ((v : Int) = 1802071652) = (g = 10) := propext ⟨fun z => (hw 10 (by decide)).mp (Int.ofNat.inj z), fun z => by rw [(hw 10 (by decide)).mpr z]; rfl⟩
    have e3 : ((v : Int) = 7299435) = (g = 3) := propext ⟨fun z => (hw 3 (by decide)).mp (Int.ofNat.inj z), fun z => by rw [(hw 3 (by decide)).mpr z]; rfl⟩
    have e11 : ((v : Int) = 7305070) = (g = 11) := propext ⟨fun z => (hw 11 (by decide)).mp (Int.ofNat.inj z), fun z => by rw [(hw 11 (by decide)).mpr z]; rfl⟩
    have e12 : ((v : Int) = 1751477348) = (g = 12) := propext ⟨fun z => (hw 12 (by decide)).mp (Int.ofNat.inj z), fun z => by rw [(hw 12 (by decide)).mpr z]; rfl⟩
    have e13 : ((v : Int) = 7825519) = (g = 13) := propext ⟨fun z => (hw 13 (by decide)).mp (Int.ofNat.inj z), fun z => by rw [(hw 13 (by decide)).mpr z]; rfl⟩
    have e14 : ((v : Int) = 1818584692) = (g = 14) := propext ⟨fun z => (hw 14 (by decide)).mp (Int.ofNat.inj z), fun z => by rw [(hw 14 (by decide)).mpr z]; rfl⟩
    rw [yw_day]
    simp only [zbL, zcmp_eq, qff hF, if_true, h11, e9]
    by_cases g9 : g = 9
    · rw [if_pos g9, if_pos g9]
    rw [if_neg g9]
    rw [yw_year]
    simp only [zbL, zcmp_eq, qff hF, if_true, h11, e4]
    by_cases g4 : g = 4
    · rw [if_pos g4, if_neg g9, if_pos g4]
    rw [if_neg g4]
    rw [yw_kind]
    simp only [zbL, zcmp_eq, qff hF, if_true, h11, e10]
    by_cases g10 : g = 10
    · rw [if_pos g10, if_neg g9, if_neg g4, if_pos g10]
    rw [if_neg g10]
    rw [yw_oak]
    simp only [zbL, zcmp_eq, qff hF, if_true, h11, e3]
    by_cases g3 : g = 3
    · rw [if_pos g3, if_neg g9, if_neg g4, if_neg g10, if_pos g3]
    rw [if_neg g3]
    rw [yw_own]
    simp only [zbL, zcmp_eq, qff hF, if_true, h11, e11]
    by_cases g11 : g = 11
    · rw [if_pos g11, if_neg g9, if_neg g4, if_neg g10, if_neg g3, if_pos g11]
    rw [if_neg g11]
    rw [yw_held]
    simp only [zbL, zcmp_eq, qff hF, if_true, h11, e12]
    by_cases g12 : g = 12
    · rw [if_pos g12, if_neg g9, if_neg g4, if_neg g10, if_neg g3, if_neg g11, if_pos g12]
    rw [if_neg g12]
    rw [yw_who]
    simp only [zbL, zcmp_eq, qff hF, if_true, h11, e13]
    by_cases g13 : g = 13
    · rw [if_pos g13, if_neg g9, if_neg g4, if_neg g10, if_neg g3, if_neg g11, if_neg g12, if_pos g13]
    rw [if_neg g13]
    rw [yw_left]
    simp only [zbL, zcmp_eq, qff hF, if_true, h11, e14]
    by_cases g14 : g = 14
    · rw [if_pos g14, if_neg g9, if_neg g4, if_neg g10, if_neg g3, if_neg g11, if_neg g12, if_neg g13, if_pos g14]
    rw [if_neg g14]
    rw [if_neg g9, if_neg g4, if_neg g10, if_neg g3, if_neg g11, if_neg g12, if_neg g13, if_neg g14]
  · rw [if_neg (by omega), if_neg (by omega), if_neg (by omega), if_neg (by omega), if_neg (by omega), if_neg (by omega), if_neg (by omega), if_neg (by omega), if_neg (by omega)]
theorem km_sortOf (hF : qFx S R) (hB : ∀ k, k < len → B k < 256) (h : yNx B len M i) : zcal zPP (d + 7) 197 [zA 305] (n, s, S, R, M) = some (zI (if ysg B len i < 10 then ((ysg B len i : Nat) : Int) else -1), (n, s, S, R, M)) := by
  have hi : ∀ k : Nat, ∀ v : Int, True := fun _ _ => trivial
  rw [c_M_sortOf]
  simp only [qff hF, if_true]
  rw [yw_lends]
  simp only [zbL]
  rw [yi_lends (d := d + 5) hF hB h]
  simp only [zbI]
  by_cases g0 : ysg B len i = 0
  · rw [if_pos g0, if_neg (by decide), if_pos (by omega), g0]
    rfl
  rw [if_neg g0, if_pos (by trivial)]
  rw [yw_ages]
  simp only [zbL]
  rw [yi_ages (d := d + 5) hF hB h]
  simp only [zbI]
  by_cases g1 : ysg B len i = 1
  · rw [if_pos g1, if_neg (by decide), if_pos (by omega), g1]
    rfl
  rw [if_neg g1, if_pos (by trivial)]
  rw [yw_pays]
  simp only [zbL]
  rw [yi_pays (d := d + 5) hF hB h]
  simp only [zbI]
  by_cases g2 : ysg B len i = 2
  · rw [if_pos g2, if_neg (by decide), if_pos (by omega), g2]
    rfl
  rw [if_neg g2, if_pos (by trivial)]
  rw [yw_oak]
  simp only [zbL]
  rw [yi_oak (d := d + 5) hF hB h]
  simp only [zbI]
  by_cases g3 : ysg B len i = 3
  · rw [if_pos g3, if_neg (by decide), if_pos (by omega), g3]
    rfl
  rw [if_neg g3, if_pos (by trivial)]
  rw [yw_year]
  simp only [zbL]
  rw [yi_year (d := d + 5) hF hB h]
  simp only [zbI]
  by_cases g4 : ysg B len i = 4
  · rw [if_pos g4, if_neg (by decide), if_pos (by omega), g4]
    rfl
  rw [if_neg g4, if_pos (by trivial)]
  rw [yw_person]
  simp only [zbL]
  rw [yi_person (d := d + 5) hF hB h]
  simp only [zbI]
  by_cases g5 : ysg B len i = 5
  · rw [if_pos g5, if_neg (by decide), if_pos (by omega), g5]
    rfl
  rw [if_neg g5, if_pos (by trivial)]
  rw [yw_lend]
  simp only [zbL]
  rw [yi_lend (d := d + 5) hF hB h]
  simp only [zbI]
  by_cases g6 : ysg B len i = 6
  · rw [if_pos g6, if_neg (by decide), if_pos (by omega), g6]
    rfl
  rw [if_neg g6, if_pos (by trivial)]
  rw [yw_back]
  simp only [zbL]
  rw [yi_back (d := d + 5) hF hB h]
  simp only [zbI]
  by_cases g7 : ysg B len i = 7
  · rw [if_pos g7, if_neg (by decide), if_pos (by omega), g7]
    rfl
  rw [if_neg g7, if_pos (by trivial)]
  rw [yw_pass]
  simp only [zbL]
  rw [yi_pass (d := d + 5) hF hB h]
  simp only [zbI]
  by_cases g8 : ysg B len i = 8
  · rw [if_pos g8, if_neg (by decide), if_pos (by omega), g8]
    rfl
  rw [if_neg g8, if_pos (by trivial)]
  rw [yw_day]
  simp only [zbL]
  rw [yi_day (d := d + 5) hF hB h]
  simp only [zbI]
  by_cases g9 : ysg B len i = 9
  · rw [if_pos g9, if_neg (by decide), if_pos (by omega), g9]
    rfl
  rw [if_neg g9, if_pos (by trivial)]
  rw [if_neg (by omega)]
end QF
