/-! A TEXT: new objects of the class -/
theorem qLR_n {S S1 : Nat → Nat × Nat} {R R1 : Nat → Nat → Nat} {r : Nat} (hS : ∀ a, a < 319 → S1 a = S a) (hR : ∀ a, a < 319 → a ≠ 14 → R1 a = R a) (hr : r + 3 < 319) (h14 : r ≠ 14) (h : qLR S R r) : qLR S1 R1 r := by
  unfold qLR at *
  rw [hS r (by omega), hS (r + 1) (by omega), hS (r + 2) (by omega), hS (r + 3) (by omega), hR r (by omega) h14]
  exact h
theorem qLT_n {S S1 : Nat → Nat × Nat} {R R1 : Nat → Nat → Nat} {t : Nat} (hS : ∀ a, a < 319 → S1 a = S a) (hR : ∀ a, a < 319 → a ≠ 14 → R1 a = R a) (ht : t = 10 ∨ t = 147) (h : qLT S R t) : qLT S1 R1 t := by
  have st : ∀ k, k ≤ 136 → S1 (t + k) = S (t + k) := fun k hk => hS _ (by omega)
  have rt : ∀ k, k ≤ 136 → k ≠ 4 → R1 (t + k) = R (t + k) := fun k hk h4 => hR _ (by omega) (by omega)
  have lt : ∀ k, k ≤ 133 → k ≠ 4 → qLR S R (t + k) → qLR S1 R1 (t + k) := fun k hk h4 => qLR_n hS hR (by omega) (by omega)
  clear ht hS hR
  obtain ⟨⟨g0, g1, g2, g3, g4, g5, g6, g7, g8, g9, g10⟩, h2, h3, ⟨h4, h4', h4''⟩, h5⟩ := h
  refine ⟨⟨(st 0 (by decide)).trans g0, (st 1 (by decide)).trans g1, (st 2 (by decide)).trans g2, (st 3 (by decide)).trans g3, (st 4 (by decide)).trans g4, (st 5 (by decide)).trans g5, (st 6 (by decide)).trans g6, (st 7 (by decide)).trans g7, (st 8 (by decide)).trans g8, (st 9 (by decide)).trans g9, (st 10 (by decide)).trans g10⟩, ?_, lt 11 (by decide) (by decide) h3, ⟨(st 15 (by decide)).trans h4, (st 16 (by decide)).trans h4', ?_⟩, fun i hi => ⟨?_, ?_⟩⟩
  · have e := rt 0 (by decide) (by decide)
    have e : R1 t = R t := e
    rw [e]; exact h2
  · rw [rt 15 (by decide) (by decide)]; exact h4''
  · rw [rt 16 (by decide) (by decide)]; exact (h5 i hi).1
  · have e := lt (17 + 4 * i) (by omega) (by omega)
    rw [← Nat.add_assoc] at e
    exact e (h5 i hi).2
theorem qFx_n {S S1 : Nat → Nat × Nat} {R R1 : Nat → Nat → Nat} (hS : ∀ a, a < 319 → S1 a = S a) (hR : ∀ a, a < 319 → a ≠ 14 → R1 a = R a) (hF : qFx S R) : qFx S1 R1 := by
  obtain ⟨⟨h1, ⟨h2, h3, h4⟩, h5, h6, h7, h8, h9, h10⟩, h11, h12⟩ := hF
  refine ⟨⟨?_, ⟨qLT_n hS hR (by decide) h2, qLT_n hS hR (by decide) h3, qLR_n hS hR (by decide) (by decide) h4⟩, ?_, ?_, ?_, ?_, ?_, ?_⟩, ?_, ?_⟩
  · rw [hS 9 (by decide), hR 9 (by decide) (by decide)]; exact h1
  · rw [hS 284 (by decide), hS (284 + 1) (by decide), hR 284 (by decide) (by decide)]; exact h5
  · rw [hS 286 (by decide), hS (286 + 1) (by decide), hS (286 + 2) (by decide), hR 286 (by decide) (by decide)]; exact h6
  · rw [hS 289 (by decide), hS (289 + 1) (by decide), hR 289 (by decide) (by decide)]; exact h7
  · rw [hS 295 (by decide), hS (295 + 1) (by decide), hS (295 + 2) (by decide), hS (295 + 3) (by decide), hS (295 + 4) (by decide), hS (295 + 5) (by decide), hS (295 + 6) (by decide), hS (295 + 7) (by decide), hR 295 (by decide) (by decide)]; exact h8
  · rw [hS 303 (by decide)]; exact h9
  · rw [hS 304 (by decide)]; exact h10
  · unfold qLM at *
    rw [hS 305 (by decide), hS (305 + 1) (by decide), hS (305 + 2) (by decide), hS (305 + 3) (by decide), hS (305 + 4) (by decide), hS (305 + 5) (by decide), hS (305 + 6) (by decide), hS (305 + 7) (by decide), hS (305 + 8) (by decide), hS (305 + 9) (by decide), hS (305 + 10) (by decide), hS (305 + 11) (by decide), hS (305 + 12) (by decide), hS (305 + 13) (by decide), hR 305 (by decide) (by decide)]
    exact h11
  · rw [hS 2 (by decide), hS 3 (by decide), hS 4 (by decide), hS 5 (by decide), hS 6 (by decide), hS 7 (by decide), hR 4 (by decide) (by decide), hR 5 (by decide) (by decide)]; exact h12
theorem zrow_ne {α : Type} {M : Nat → Nat → α} {a q : Nat} {f : Nat → α} (h : q ≠ a) : zrow M a f q = M q := by
  funext j
  exact if_neg h
theorem zupS_ne {M : Nat → Nat × Nat} {a q : Nat} {x : Nat × Nat} (h : q ≠ a) : zupS M a x q = M q := if_neg h
section QF
variable {S : Nat → Nat × Nat} {R : Nat → Nat → Nat} {M M' M0 M1 : Nat → Nat → Int} {n s d t b L N0 : Nat}
theorem kc_copy (hb : S b = (20, N0)) (hbn : b < n) (hL : L ≤ N0) (h100 : N0 ≤ 100000) : ∃ M', zcal zPP (d + 1) 13 [zA b, zI L] (n, s, S, R, M) = some (zA n, (n + 1, s + L, zupS S n (20, L), zrow R n (fun _ => 0), M')) ∧ (∀ a, a ≠ n → M' a = M a) ∧ ∀ x, x < L → M' n x = M b x := by
  rw [c_Arrays_copyOf]
  have e1 : (20 : Nat) ≤ 20 ∧ (20 : Nat) ≠ 32 := by decide
  simp only [hb, if_pos e1]
  by_cases h : L = N0
  · subst h
    refine ⟨zrow M n (M b), ?_, fun a ha => zrow_ne ha, fun x hx => by rw [zrow_at]⟩
    have e2 : (20 : Nat) = 20 ∧ (0 : Nat) ≤ 8 := by decide
    simp only [if_true, zupS_at, if_pos e2]
    rfl
  · have hne : ¬ (L : Int) = ((N0 : Nat) : Int) := by omega
    have e3 : 0 ≤ (L : Int) ∧ (L : Int) ≤ 100000 := by omega
    have e4 : zupS S n (20, L) b = (20, N0) := by rw [zupS_ne (by omega)]; exact hb
    have emin : min ((N0 : Nat) : Int) (L : Int) = (L : Int) := by omega
    refine ⟨zrow (zrow M n (fun _ => 0)) n (va_cpy (zrow M n (fun _ => 0) b) (zrow M n (fun _ => 0) n) (0 : Int).toNat (0 : Int).toNat L), ?_, fun a ha => by rw [zrow_ne ha, zrow_ne ha], fun x hx => ?_⟩
    · simp only [if_neg hne, if_pos e3, Int.toNat_natCast, e4, if_pos e1, zupS_at, emin, true_and, and_true]
      rw [if_pos (by omega)]
    rw [zrow_at]
    have e0 : (0 : Int).toNat = 0 := rfl
    rw [e0, va_cpy0 hx, zrow_ne (by omega)]
end QF
