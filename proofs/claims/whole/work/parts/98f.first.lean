/-! THE WORLD BEHIND BOTH CONSTRUCTORS -/
theorem q0_z {k : Nat} (h3 : k ≠ 3) (h9 : k ≠ 9) (h : k < 165 ∨ 174 ≤ k) : q0 k = 0 := by
  unfold q0
  rw [if_neg (by omega), if_neg (by omega), if_neg h9, if_neg h3]
theorem q0_15 {k : Nat} (h : 165 ≤ k ∧ k < 170) : q0 k = 15 := if_pos h
theorem q0_10 {k : Nat} (h : 170 ≤ k ∧ k < 174) : q0 k = 10 := by
  unfold q0
  rw [if_neg (by omega), if_pos h]
theorem qIn_0 {A : Nat → Int} (hA : ∀ k, k < 4880 → A k = q0 k) : qIn A := by
  have z : ∀ k, k < 4880 → k ≠ 3 → k ≠ 9 → (k < 165 ∨ 174 ≤ k) → A k = 0 := fun k hk h3 h9 h => (hA k hk).trans (q0_z h3 h9 h)
  have a3 : A 3 = -1 := (hA 3 (by decide)).trans rfl
  have a9 : A 9 = 257 := (hA 9 (by decide)).trans rfl
  unfold qIn
  rw [a3, a9, z 0 (by decide) (by decide) (by decide) (by decide), z 1 (by decide) (by decide) (by decide) (by decide), z 2 (by decide) (by decide) (by decide) (by decide), z 4 (by decide) (by decide) (by decide) (by decide), z 5 (by decide) (by decide) (by decide) (by decide), z 6 (by decide) (by decide) (by decide) (by decide), z 7 (by decide) (by decide) (by decide) (by decide), z 8 (by decide) (by decide) (by decide) (by decide), z 10 (by decide) (by decide) (by decide) (by decide)]
  refine ⟨by decide, by decide, by decide, by decide, by decide, by decide, by decide, by decide, by decide, by decide, by decide, fun o y ho hy => ?_, fun y hy => ?_, fun p hp => ?_, fun p hp => ?_, fun p hp => ?_, fun k hk => ?_, fun k hk => ?_, fun k hk => ?_⟩
  · rw [z _ (by omega) (by omega) (by omega) (by omega)]; decide
  · rw [z _ (by omega) (by omega) (by omega) (by omega)]; decide
  · rw [z _ (by omega) (by omega) (by omega) (by omega)]; decide
  · rw [z _ (by omega) (by omega) (by omega) (by omega)]; decide
  · rw [hA _ (by omega), q0_15 (by omega)]; decide
  · rw [z _ (by omega) (by omega) (by omega) (by omega)]; decide
  · rw [hA _ (by omega), q0_10 (by omega)]; decide
  · omega
theorem qTo_0 {t : Nat} {R : Nat → Nat → Nat} {M : Nat → Nat → Int} {A : Nat → Int} (hT : qTM t R M) (hA : ∀ k, k < 4880 → A k = q0 k) : qTo M t A := by
  have z : ∀ k, k < 4880 → k ≠ 3 → k ≠ 9 → (k < 165 ∨ 174 ≤ k) → A k = 0 := fun k hk h3 h9 h => (hA k hk).trans (q0_z h3 h9 h)
  have a3 : A 3 = -1 := (hA 3 (by decide)).trans rfl
  have a9 : A 9 = 257 := (hA 9 (by decide)).trans rfl
  have a0 : A 0 = 0 := z 0 (by decide) (by decide) (by decide) (by decide)
  have a4 : A 4 = 0 := z 4 (by decide) (by decide) (by decide) (by decide)
  have a10 : A 10 = 0 := z 10 (by decide) (by decide) (by decide) (by decide)
  obtain ⟨h1, h2, h3, h4, h5, h6⟩ := hT
  have hg : ∀ o y, qg A o y = 0 := fun o y => if_neg (by rw [a0]; omega)
  refine ⟨⟨⟨?_, ?_, ?_, ?_, ?_, ?_⟩, fun o ho => ?_, fun y hy => ?_, fun p hp => ?_, fun p hp => ?_, fun p hp => ?_, fun k hk => ?_, fun k hk => ?_, fun k hk => ?_, fun k hk => ?_⟩, ⟨⟨fun o p ho hp => ?_, fun o ho => ?_⟩, ⟨?_, ?_, ?_, ?_⟩, fun i hi => ?_⟩, ⟨⟨?_, ?_, ?_⟩, fun i hi => ?_⟩, qIn_0 hA⟩
  · rw [h2, a0]; rfl
  · rw [h2, z 1 (by decide) (by decide) (by decide) (by decide)]; rfl
  · rw [h2, z 2 (by decide) (by decide) (by decide) (by decide)]; rfl
  · rw [h2, a3]; rfl
  · rw [h2, z 5 (by decide) (by decide) (by decide) (by decide)]; rfl
  · rw [h2, z 6 (by decide) (by decide) (by decide) (by decide)]; rfl
  · rw [h3 1 (by decide), zsn_cong (g := fun _ => false) (fun y hy => decide_eq_false (by rw [z _ (by omega) (by omega) (by omega) (by omega)]; decide)), zsn_none]; rfl
  · rw [h3 2 (by decide), z _ (by omega) (by omega) (by omega) (by omega)]
  · rw [h3 3 (by decide), z _ (by omega) (by omega) (by omega) (by omega)]
  · rw [h3 5 (by decide), z _ (by omega) (by omega) (by omega) (by omega)]
  · rw [h4 p hp, hA _ (by omega), q0_15 (by omega)]
  · rw [h3 7 (by decide), z _ (by omega) (by omega) (by omega) (by omega)]
  · rw [h5 k hk, hA _ (by omega), q0_10 (by omega)]
  · rw [h3 9 (by decide), z _ (by omega) (by omega) (by omega) (by omega)]
  · rw [h3 10 (by decide), z _ (by omega) (by omega) (by omega) (by omega)]
  · rw [Nat.add_assoc, h3 (11 + 1) (by decide), zsn_cong (g := fun _ => false) (fun y hy => decide_eq_false (by rw [hg]; omega)), zsn_none]; rfl
  · rw [Nat.add_assoc, h3 (11 + 2) (by decide), zsn_cong (g := fun _ => false) (fun y hy => decide_eq_false (by rw [hg]; decide)), zsn_none]; rfl
  · rw [h6, a10]; rfl
  · rw [h6, z 8 (by decide) (by decide) (by decide) (by decide)]; rfl
  · rw [h6, z 7 (by decide) (by decide) (by decide) (by decide)]; rfl
  · rw [h6, a9]; rfl
  · rw [a10] at hi; omega
  · rw [h3 15 (by decide), a4]
  · rw [h3 15 (by decide)]; decide
  · rw [h3 15 (by decide)]; decide
  · rw [a4] at hi; omega
theorem qLX_y {S S1 : Nat → Nat × Nat} {R R1 : Nat → Nat → Nat} (hS : ∀ a, a < 305 → S1 a = S a) (hR : ∀ a, a < 305 → R1 a = R a) (h : qLX S R 9 10 147 284 286 289 291 295 303 304) : qLX S1 R1 9 10 147 284 286 289 291 295 303 304 := by
  obtain ⟨h1, ⟨h2, h3, h4⟩, h5, h6, h7, h8, h9, h10⟩ := h
  refine ⟨?_, ⟨qLT_y (fun q a b => hS q (by omega)) (fun q a b => hR q (by omega)) h2, qLT_y (fun q a b => hS q (by omega)) (fun q a b => hR q (by omega)) h3, qLR_x (fun q a b => hS q (by omega)) (hR _ (by omega)) h4⟩, ?_, ?_, ?_, ?_, ?_, ?_⟩
  · rw [hS 9 (by decide), hR 9 (by decide)]; exact h1
  · rw [hS 284 (by decide), hS (284 + 1) (by decide), hR 284 (by decide)]; exact h5
  · rw [hS 286 (by decide), hS (286 + 1) (by decide), hS (286 + 2) (by decide), hR 286 (by decide)]; exact h6
  · rw [hS 289 (by decide), hS (289 + 1) (by decide), hR 289 (by decide)]; exact h7
  · rw [hS 295 (by decide), hS (295 + 1) (by decide), hS (295 + 2) (by decide), hS (295 + 3) (by decide), hS (295 + 4) (by decide), hS (295 + 5) (by decide), hS (295 + 6) (by decide), hS (295 + 7) (by decide), hR 295 (by decide)]; exact h8
  · rw [hS 303 (by decide)]; exact h9
  · rw [hS 304 (by decide)]; exact h10
theorem qWd_first {L : Nat} {xs : Nat → Int} {S S' : Nat → Nat × Nat} {R R' : Nat → Nat → Nat} {M M' : Nat → Nat → Int} (hX : qPX (zB L xs).2.2.1 (zB L xs).2.2.2.1 (zB L xs).2.2.2.2 S R M) (hM : qPM S R M S' R' M') : qWd 319 S' R' M' (fun _ _ => none) := by
  obtain ⟨x1, x2, x3, x4, x5, x6, x7⟩ := hX
  obtain ⟨m1, m2, ⟨m3, m4, m5, m6⟩, m7⟩ := hM
  have eS : ∀ q, q < 9 → S' q = (zB L xs).2.2.1 q := fun q hq => (m1 q (by omega)).1.trans (x1 q hq).1
  have eR : ∀ q, q < 9 → R' q = (zB L xs).2.2.2.1 q := fun q hq => (m1 q (by omega)).2.1.trans (x1 q hq).2.1
  have eM : ∀ q, q < 9 → M' q = (zB L xs).2.2.2.2 q := fun q hq => (m1 q (by omega)).2.2.trans (x1 q hq).2.2
  have t1 : qTM 10 R' M' := qTM_x (fun q a b => (m1 q (by omega)).2) x3
  have t2 : qTM 147 R' M' := qTM_x (fun q a b => (m1 q (by omega)).2) x4
  have A6 : ∀ k, k < 4880 → M' 306 k = q0 k := fun k hk => (m7 k hk).1
  have A7 : ∀ k, k < 4880 → M' 307 k = q0 k := fun k hk => (m7 k hk).2
  have b6 : M' 306 2 = 0 := (A6 2 (by decide)).trans rfl
  have b7 : M' 307 2 = 0 := (A7 2 (by decide)).trans rfl
  have e9 : M' 9 = M 9 := (m1 9 (by decide)).2.2
  refine ⟨⟨Nat.le_refl _, ⟨qLX_y (fun q hq => (m1 q hq).1) (fun q hq => (m1 q hq).2.1) x2, m2, ?_, ?_, ?_, ?_, ?_, ?_, ?_, ?_⟩, ⟨fun j => ?_, fun j => ?_, fun j => ?_, fun j => ?_, ?_, ?_⟩⟩, qTo_0 t1 A6, qTo_0 t2 A7, ⟨fun t ht => ?_, fun t ht => ?_, ?_, fun t ht => ⟨Or.inl (t1.1 t), Or.inl (t2.1 t)⟩⟩, ⟨⟨?_, ?_, ?_⟩, ⟨?_, ?_⟩, m6, fun k hk => ?_⟩⟩
  · rw [eS 2 (by decide)]; rfl
  · rw [eS 3 (by decide)]; rfl
  · rw [eS 4 (by decide)]; rfl
  · rw [eS 5 (by decide)]; rfl
  · rw [eS 6 (by decide)]; rfl
  · rw [eS 7 (by decide)]; rfl
  · rw [eR 4 (by decide)]; rfl
  · rw [eR 5 (by decide)]; rfl
  · rw [eM 2 (by decide)]; rfl
  · rw [eM 3 (by decide)]; rfl
  · rw [eM 6 (by decide)]; rfl
  · rw [eM 7 (by decide)]; rfl
  · rw [eM 4 (by decide)]; rfl
  · rw [eM 5 (by decide)]; rfl
  · rw [b6] at ht; omega
  · rw [b7] at ht; omega
  · rw [b6, b7]; decide
  · rw [e9, x5]; decide
  · rw [e9, x5]; decide
  · rw [e9, x5]; exact m3
  · rw [e9, x6]; exact m4
  · rw [e9, x7]; exact m5
  · rw [e9, x5] at hk; omega
