/-! A TEXT: how both begin, and a text with a fault -/
def yE0' : yEv := fun _ => (0, 0, 0, 0)
def yw0 : yLw := fun _ => none
theorem yPI0 : yPI 0 0 [] [] yE0' yw0 := ⟨⟨Nat.le_refl _, Nat.le_refl _, by decide⟩, ⟨(fun e h => by cases h), (fun e h => by cases h)⟩, (fun x hx => absurd hx (by omega)), fun L _ x hx => absurd hx (by omega)⟩
section QF
variable {S : Nat → Nat × Nat} {R : Nat → Nat → Nat} {M M' M0 M1 : Nat → Nat → Int} {n s d t : Nat} {B : Nat → Nat} {len : Nat} {W : Nat → qWt}
theorem kx_start (hF : qFx S R) (hS : qSt M) (hB : ∀ k, k < len → M 304 k = B k ∧ B k < 256) (hl : len ≤ 300) :
    ∃ N M3, zcal zPP (d + 8) 112 [zA 295, zA 304, zI len] (n, s, S, R, M) = zR zPP (d + 7) 112 38 [zA 295, zA 304, zI len, zI ((0 : Nat) : Int)] [] (n, s, S, R, M3) ∧ yTk B len M3 (N + 1) ∧ N ≤ len ∧ len ≤ ypl B len N ∧ yCI M3 M3 0 0 [] yE0' yw0 ∧ ∀ a, a < 295 ∨ 302 < a → M3 a = M a := by
  obtain ⟨N, M1, q1, q2, q3, q4, -, q6, q7⟩ := kx_split (n := n) (s := s) (d := d + 1) hF hS hB hl
  have q1 : zcal zPP (d + 7) 113 [zA 295, zA 304, zI len] (n, s, S, R, M) = some (zU, (n, s, S, R, M1)) := q1
  generalize hM2 : zup (zup (zup (zup (zup M1 295 8 0) 295 9 0) 295 10 0) 295 12 0) 295 13 (-1) = M2
  have e2 : ∀ a, a ≠ 295 → M2 a = M1 a := fun a ha => by rw [← hM2, zup_rw ha, zup_rw ha, zup_rw ha, zup_rw ha, zup_rw ha]
  generalize hM3 : zup (zup (zup (zup (zup (zup M2 301 0 (-1)) 302 0 (-1)) 301 1 (-1)) 302 1 (-1)) 301 2 (-1)) 302 2 (-1) = M3
  have e3 : ∀ a, a ≠ 301 → a ≠ 302 → M3 a = M2 a := fun a h1 h2 => by rw [← hM3, zup_rw h2, zup_rw h1, zup_rw h2, zup_rw h1, zup_rw h2, zup_rw h1]
  refine ⟨N, M3, ?_, ?_, q3, q4, ⟨⟨?_, ?_, ?_, ?_⟩, fun _ _ _ _ _ _ => rfl, ⟨?_, trivial⟩, fun x hx => absurd hx (by omega), fun L hL => ?_⟩, fun a ha => by rw [e3 a (by omega) (by omega), e2 a (by omega), q6 a (by omega) (by omega) (by omega) (by omega)]⟩
  · rw [c_Reader_read]
    simp only [qff hF, if_true]
    rw [q1]
    simp only [zbV, qff hF, if_true, hM2]
    have r0 : 0 ≤ (0 : Int) ∧ (0 : Int) < ((3 : Nat) : Int) := by decide
    have r1 : 0 ≤ (1 : Int) ∧ (1 : Int) < ((3 : Nat) : Int) := by decide
    have r2 : 0 ≤ (2 : Int) ∧ (2 : Int) < ((3 : Nat) : Int) := by decide
    have z1 : zw32 ((0 : Int) + 1) = 1 := by decide
    have z2 : zw32 ((1 : Int) + 1) = 2 := by decide
    have z3 : zw32 ((2 : Int) + 1) = 3 := by decide
    rw [e_Reader_read_21, if_pos (by decide)]
    simp only [qff hF, if_true, true_and, if_pos r0, z1]
    rw [e_Reader_read_21, if_pos (by decide)]
    simp only [qff hF, if_true, true_and, if_pos r1, z2]
    rw [e_Reader_read_21, if_pos (by decide)]
    simp only [qff hF, if_true, true_and, if_pos r2, z3]
    rw [e_Reader_read_21, if_neg (by decide)]
    have : zup (zup (zup (zup (zup (zup M2 301 (0 : Int).toNat (-1)) 302 (0 : Int).toNat (-1)) 301 (1 : Int).toNat (-1)) 302 (1 : Int).toNat (-1)) 301 (2 : Int).toNat (-1)) 302 (2 : Int).toNat (-1) = M3 := hM3
    rw [this]
    rfl
  · intro k hk
    rw [e3 296 (by decide) (by decide), e3 297 (by decide) (by decide), e3 298 (by decide) (by decide), e2 296 (by decide), e2 297 (by decide), e2 298 (by decide)]
    exact q2 k hk
  · rw [e3 295 (by decide) (by decide), ← hM2, zup_ne (by decide), zup_ne (by decide), zup_ne (by decide), zup_ne (by decide), zup_at]; rfl
  · rw [e3 295 (by decide) (by decide), ← hM2, zup_ne (by decide), zup_ne (by decide), zup_ne (by decide), zup_at]; rfl
  · rw [e3 295 (by decide) (by decide), ← hM2, zup_ne (by decide), zup_ne (by decide), zup_at]; rfl
  · rw [e3 295 (by decide) (by decide), ← hM2, zup_ne (by decide), zup_at]
  · rw [e3 295 (by decide) (by decide), ← hM2, zup_at]
  · show M3 301 L = -1
    have : L = 0 ∨ L = 1 ∨ L = 2 := by omega
    rcases this with h | h | h <;> subst h
    · rw [← hM3, zup_rw (by decide), zup_ne (by decide), zup_rw (by decide), zup_ne (by decide), zup_rw (by decide), zup_at]
    · rw [← hM3, zup_rw (by decide), zup_ne (by decide), zup_rw (by decide), zup_at]
    · rw [← hM3, zup_rw (by decide), zup_at]
theorem mk_start (hF : qFx S R) (ht : yTa B len M) (h2 : M 306 2 = t) (ht4 : t < 4) : ∃ M', zcal zPP (d + 4) 190 [zA 305] (n, s, S, R, M) = zR zPP (d + 3) 190 25 [zA 305, zU] [] (n, s, S, R, M') ∧ yMI B len (705 * t) M M' 0 0 [] yE0' yw0 := by
  have p0 : 0 ≤ ((705 * t : Nat) : Int) ∧ ((705 * t : Nat) : Int) < ((2820 : Nat) : Int) := by omega
  have p2 : 0 ≤ (2 : Int) ∧ (2 : Int) < ((4880 : Nat) : Int) := by omega
  generalize hM1 : zup (zup (zup (zup (zup M 305 12 ((705 * t : Nat) : Int)) 308 (705 * t) 0) 305 13 0) 305 19 0) 305 7 0 = M1
  have hR1 : yMR (705 * t) M M1 := by
    rw [← hM1]
    exact yMR_u (yMR_u (yMR_u (yMR_8 (yMR_u ⟨fun _ _ _ _ => rfl, fun _ _ => rfl, fun _ _ => rfl⟩ (by decide)) (by omega)) (by decide)) (by decide)) (by decide)
  obtain ⟨M', n1, n2, n3⟩ := km_next (n := n) (s := s) (d := d + 1) hF (yMR_ta ht hR1) (i := 0) (by rw [← hM1, zup_at]; rfl)
  have n1 : zcal zPP (d + 3) 191 [zA 305] (n, s, S, R, M1) = some (zU, (n, s, S, R, M')) := n1
  refine ⟨M', ?_, ⟨?_, ?_, ?_, ?_⟩, n2, trivial, yMR_t hR1 (yMR_x n3), fun x hx => absurd hx (by omega)⟩
  · rw [c_M_readText]
    have e2 : M 306 (2 : Int).toNat = t := h2
    simp only [qff hF, if_true, true_or, true_and, if_pos p2, e2, qwq5 (b := t) (by omega), zup_at, if_pos p0, Int.toNat_natCast, hM1]
    rw [n1]
    rfl
  · rw [n3.2 12 (by decide) (by decide) (by decide) (by decide) (by decide), ← hM1, zup_ne (by decide), zup_ne (by decide), zup_ne (by decide), zup_rw (by decide), zup_at]
  · rw [n3.2 13 (by decide) (by decide) (by decide) (by decide) (by decide), ← hM1, zup_ne (by decide), zup_ne (by decide), zup_at]; rfl
  · rw [n3.2 19 (by decide) (by decide) (by decide) (by decide) (by decide), ← hM1, zup_ne (by decide), zup_at]
    have : zsn (fun L => (yw0 L).isSome) 24 = 0 := by decide
    rw [this]; rfl
  · rw [n3.1 308 (by decide), ← hM1, zup_rw (by decide), zup_rw (by decide), zup_rw (by decide), zup_at]; rfl
end QF
