/-! DEEDS: an oak's years, both sides -/
def yput (f : Nat → Bool) (w : Nat) : Nat → Bool := fun x => f x || decide (x = w)
def yoak (B : Nat → Nat) (len : Nat) : Nat → (Nat → Bool) → Nat → (Nat × Nat) ⊕ (Nat × (Nat → Bool))
  | 0, _, i => .inl (1, i)
  | u + 1, f, i => if ysg B len i = 41 then (if ywo B len i ≤ 23 then (if f (ywo B len i) = true then .inl (7, i) else if ysg B len (i + 1) = 39 then yoak B len u (yput f (ywo B len i)) (i + 2) else .inr (i + 1, yput f (ywo B len i))) else .inl (2, i)) else .inl (1, i)
theorem ybit0 {f : Nat → Bool} {k : Nat} (hk : k < 24) : zand (zsn f 24 : Nat) (zshl 1 (k : Int)) = 0 ↔ f k = false := by
  have h1 := zsn_bit24 f hk
  rw [zbit_nat (zsn_24 f) (by omega)] at h1
  have h2 : (zsn f 24).testBit k = f k := by
    cases h3 : (zsn f 24).testBit k <;> cases h4 : f k <;> simp [h3, h4] at h1 <;> rfl
  rw [zshl_one (by omega), zand_nat (zsn_24 f)]
  constructor
  · intro h
    have h : (zsn f 24) &&& 2 ^ k = 0 := by omega
    have h5 : ((zsn f 24) &&& 2 ^ k).testBit k = false := by rw [h]; exact Nat.zero_testBit k
    rw [Nat.testBit_and, Nat.testBit_two_pow_self, h2] at h5
    simpa using h5
  · intro h
    have : (zsn f 24) &&& 2 ^ k = 0 := by
      apply Nat.eq_of_testBit_eq
      intro j
      rw [Nat.testBit_and, Nat.zero_testBit, Nat.testBit_two_pow]
      by_cases hj : k = j
      · subst hj; rw [h2, h]; rfl
      · rw [decide_eq_false hj, Bool.and_false]
    omega
section QF
variable {S : Nat → Nat × Nat} {R : Nat → Nat → Nat} {M M' M0 M1 M2 M3 : Nat → Nat → Int} {n s d r : Nat} {B : Nat → Nat} {len N i j c k p b q : Nat}
theorem ylt (hN : ysg B len N = 43) {i g : Nat} (hi : i ≤ N) (h : ysg B len i = g) (hg : g ≠ 43) : i < N := by
  rcases Nat.lt_or_ge i N with h1 | h1
  · exact h1
  · have : i = N := by omega
    rw [this, hN] at h
    exact absurd h.symm hg
theorem kd_oak (hF : qFx S R) (h0 : yD0 B len N M0 c k) (hN : ysg B len N = 43) : ∀ (u i cnt : Nat) (f : Nat → Bool) (M : Nat → Nat → Int) (g : zV), N - i < u → i ≤ N → cnt < i → yDs M0 M k i →
    (∀ t f', yoak B len u f i = .inl (f', t) → ∃ M', zR zPP (d + 2) 132 19 [zA 295, zI ((4 * k + 1 : Nat) : Int), zI (zsn f 24 : Nat), zI 1, zI cnt, g] [] (n, s, S, R, M) = some (zU, (n, s, S, R, M')) ∧ yDb M0 M' k f' (ypl B len t)) ∧
    ∀ j f', yoak B len u f i = .inr (j, f') → j ≤ N ∧ i < j ∧ ∃ M', zR zPP (d + 2) 132 19 [zA 295, zI ((4 * k + 1 : Nat) : Int), zI (zsn f 24 : Nat), zI 1, zI cnt, g] [] (n, s, S, R, M) = some (zU, (n, s, S, R, M')) ∧ yDs M0 M' k j ∧ M' 300 (4 * k + 1) = (zsn f' 24 : Nat)
  | 0, i, cnt, f, M, g, hu, _, _, _ => absurd hu (by omega)
  | u + 1, i, cnt, f, M, g, hu, hi, hc, h => by
    have hk24 := h0.2.2.2.1
    have hN300 := h0.2.2.2.2.2
    obtain ⟨k1, k2⟩ := kd_it (n := n) (s := s) (d := d) hF h0 h hi (it := (0, 1, 0, 23)) (fun _ => by decide)
    have ei : ∀ σ, yic (d + 2) (0, 1, 0, 23) σ = zcal zPP (d + 2) 133 [zA 295, zI 1, zI 0, zI 23] σ := fun σ => rfl
    rw [ei] at k1 k2
    have hr0 : 0 ≤ ((4 * k + 1 : Nat) : Int) ∧ ((4 * k + 1 : Nat) : Int) < ((96 : Nat) : Int) := by omega
    have e : yoak B len (u + 1) f i = if ysg B len i = 41 then (if ywo B len i ≤ 23 then (if f (ywo B len i) = true then .inl (7, i) else if ysg B len (i + 1) = 39 then yoak B len u (yput f (ywo B len i)) (i + 2) else .inr (i + 1, yput f (ywo B len i))) else .inl (2, i)) else .inl (1, i) := rfl
    have ey : yit B len (0, 1, 0, 23) i = if ysg B len i = 41 then (if ywo B len i ≤ 23 then none else some 2) else some 1 := by
      unfold yit
      rw [if_pos rfl]
      by_cases h1 : ysg B len i = 41
      · rw [if_pos h1, if_pos h1]
        by_cases h2 : ywo B len i ≤ 23
        · rw [if_pos h2, if_pos ⟨Nat.zero_le _, h2⟩]
        · rw [if_neg h2, if_neg (fun z => h2 z.2)]
      · rw [if_neg h1, if_neg h1]
    rw [ey] at k1 k2
    rw [e, e_Reader_readOak_19, if_pos (show (cnt : Int) < 300 by omega), if_neg (show ¬ (1 : Int) = 0 by decide)]
    have hbad : ∀ f', (∃ M', zcal zPP (d + 2) 133 [zA 295, zI 1, zI 0, zI 23] (n, s, S, R, M) = some (zU, (n, s, S, R, M')) ∧ yDb M0 M' k f' (ypl B len i)) → ∀ K : zS → zO, (∀ M' : Nat → Nat → Int, M' 295 12 ≠ 0 → K (n, s, S, R, M') = some (zU, (n, s, S, R, M'))) → ∃ M', zbV (zcal zPP (d + 2) 133 [zA 295, zI 1, zI 0, zI 23] (n, s, S, R, M)) K = some (zU, (n, s, S, R, M')) ∧ yDb M0 M' k f' (ypl B len i) := fun f' ⟨M', q1, q2⟩ K hK => by
      refine ⟨M', ?_, q2⟩
      rw [q1]
      exact hK M' (by rw [q2.1]; have := q2.2.1; omega)
    by_cases h41 : ysg B len i = 41
    · simp only [if_pos h41] at k1 k2 ⊢
      by_cases h23 : ywo B len i ≤ 23
      · simp only [if_pos h23] at k1 k2 ⊢
        obtain ⟨M1, q1, q2, q3⟩ := k1 trivial
        have hiN := ylt hN hi h41 (by decide)
        have hv : M1 300 (4 * k + 1) = (ywo B len i : Nat) := by rw [q3]; show (if 4 * k + 1 = 4 * k + 1 then _ else _) = _; rw [if_pos rfl]
        rw [q1]
        simp only [zbV, qff hF, if_true, q2.2.1, true_or, true_and, if_pos hr0, Int.toNat_natCast, hv]
        have hb := ybit0 (f := f) (k := ywo B len i) (by omega)
        by_cases hf : f (ywo B len i) = true
        · rw [if_pos hf]
          refine ⟨fun t f' h' => ?_, fun j f' h' => (by cases h')⟩
          cases h'
          rw [if_neg (fun z => by rw [hb.mp z] at hf; cases hf)]
          have h8 : M1 295 8 = ((i + 1 : Nat) : Int) := q2.1
          rw [h8, qwq9 (k := i) (by omega)]
          have hs : yDs M0 (zup M1 295 8 (i : Int)) k i := ⟨zup_at, by rw [zup_ne (by decide)]; exact q2.2.1, fun a a1 a2 => by rw [zup_rw a1]; exact q2.2.2.1 a a1 a2, fun x x1 x2 x3 => by rw [zup_ne (by omega)]; exact q2.2.2.2.1 x x1 x2 x3, fun x hx => by rw [zup_rw (by decide)]; exact q2.2.2.2.2 x hx⟩
          obtain ⟨M2, p1, p2⟩ := kd_fails (n := n) (s := s) (d := d + 1) hF h0 hs hi (f := 7) (by decide)
          have p1 : zcal zPP (d + 2) 119 [zA 295, zI 7] (n, s, S, R, zup M1 295 8 (i : Int)) = some (zU, (n, s, S, R, M2)) := p1
          rw [p1]
          exact ⟨M2, rfl, p2⟩
        · rw [if_neg hf, if_pos (hb.mpr (by simpa using hf))]
          obtain ⟨c1, c2⟩ := yDs_Cp h0 q2
          have eh := kx_here (n := n) (s := s) (d := d + 1) (S := S) (R := R) (M := M1) hF c2 hN300 c1 (by omega)
          have eh : zcal zPP (d + 2) 117 [zA 295] (n, s, S, R, M1) = some (zI (ysg B len (i + 1) : Nat), (n, s, S, R, M1)) := eh
          rw [eh]
          have h8 : M1 295 8 = ((i + 1 : Nat) : Int) := q2.1
          have hput : zor (zsn f 24 : Nat) (zshl 1 (ywo B len i : Nat)) = (zsn (yput f (ywo B len i)) 24 : Nat) := zsn_put24 f (by omega)
          simp only [zbI, qff hF, if_true, h8, hput]
          by_cases h39 : ysg B len (i + 1) = 39
          · have hiN2 := ylt hN (i := i + 1) (by omega) h39 (by decide)
            have c39 : ((ysg B len (i + 1) : Nat) : Int) = 39 := by omega
            rw [if_pos c39, if_pos h39, if_neg (by decide), qw1 (k := i + 1) (by omega), qw1 (k := cnt) (by omega)]
            have hs : yDs M0 (zup M1 295 8 ((i + 1 + 1 : Nat) : Int)) k (i + 2) := ⟨zup_at, by rw [zup_ne (by decide)]; exact q2.2.1, fun a a1 a2 => by rw [zup_rw a1]; exact q2.2.2.1 a a1 a2, fun x x1 x2 x3 => by rw [zup_ne (by omega)]; exact q2.2.2.2.1 x x1 x2 x3, fun x hx => by rw [zup_rw (by decide)]; exact q2.2.2.2.2 x hx⟩
            obtain ⟨a1, a2⟩ := kd_oak hF h0 hN u (i + 2) (cnt + 1) (yput f (ywo B len i)) _ (zI (zshl 1 (ywo B len i : Nat))) (by omega) (by omega) (by omega) hs
            refine ⟨a1, fun j f' h' => ?_⟩
            obtain ⟨b1, b2, b3⟩ := a2 j f' h'
            exact ⟨b1, by omega, b3⟩
          · have c39 : ¬ ((ysg B len (i + 1) : Nat) : Int) = 39 := by omega
            rw [if_neg c39, if_neg h39, show zw32 (((i + 1 : Nat) : Int) + 0) = ((i + 1 : Nat) : Int) by rw [qz (by omega) (by omega)]; omega, qw1 (k := cnt) (by omega)]
            refine ⟨fun t f' h' => (by cases h'), fun j f' h' => ?_⟩
            cases h'
            refine ⟨by omega, by omega, zup (zup M1 295 8 ((i + 1 : Nat) : Int)) 300 (4 * k + 1) (zsn (yput f (ywo B len i)) 24 : Nat), ?_, ⟨?_, ?_, fun a a1 a2 => ?_, fun x x1 x2 x3 => ?_, fun x hx => ?_⟩, zup_at⟩
            · rw [e_Reader_readOak_19]
              simp only [qff hF, if_true, true_or, true_and, if_pos hr0, Int.toNat_natCast]
              split
              · rfl
              · rfl
            · rw [zup_rw (by decide)]; exact zup_at
            · rw [zup_rw (by decide), zup_ne (by decide)]; exact q2.2.1
            · rw [zup_rw a2, zup_rw a1]; exact q2.2.2.1 a a1 a2
            · rw [zup_rw (by decide), zup_ne (by omega)]; exact q2.2.2.2.1 x x1 x2 x3
            · rw [zup_ne (by omega), zup_rw (by decide)]; exact q2.2.2.2.2 x hx
      · simp only [if_neg h23] at k1 k2 ⊢
        refine ⟨fun t f' h' => ?_, fun j f' h' => (by cases h')⟩
        cases h'
        exact hbad 2 (k2 2 rfl) _ (fun M' h12 => by simp only [qff hF, if_true, if_neg h12])
    · simp only [if_neg h41] at k1 k2 ⊢
      refine ⟨fun t f' h' => ?_, fun j f' h' => (by cases h')⟩
      cases h'
      exact hbad 1 (k2 1 rfl) _ (fun M' h12 => by simp only [qff hF, if_true, if_neg h12])
theorem km_oak (hF : qFx S R) (ht : yTa B len M0) (hq : q ≤ 2210) (hN : ysg B len N = 43) : ∀ (u i : Nat) (f : Nat → Bool) (M : Nat → Nat → Int) (g : zV), N - i < u → i ≤ N → yMs B len q M0 M i →
    (∀ t f', yoak B len u f i = .inl (f', t) → ∃ M', zR zPP (d + 3) 205 2 [zA 305, zI (q : Int), zI (zsn f 24 : Nat), g] [] (n, s, S, R, M) = some (zI f', (n, s, S, R, M')) ∧ yMs B len q M0 M' t) ∧
    ∀ j f', yoak B len u f i = .inr (j, f') → ∃ M', zR zPP (d + 3) 205 2 [zA 305, zI (q : Int), zI (zsn f 24 : Nat), g] [] (n, s, S, R, M) = some (zI 0, (n, s, S, R, M')) ∧ yMs B len q M0 M' j ∧ M' 308 (q + 1) = (zsn f' 24 : Nat)
  | 0, i, f, M, g, hu, _, _ => absurd hu (by omega)
  | u + 1, i, f, M, g, hu, hi, h => by
    have hBs : ∀ k, k < len → B k < 256 := fun k hk => (ht.2.2 k hk).2
    have hts := yTS (i := i) hBs
    have hts2 := yTS (i := i + 1) hBs
    have h9 := h.2.2.2.1
    have h10 := h.2.2.2.2.1
    obtain ⟨k1, k2⟩ := km_fig (n := n) (s := s) (d := d) hF ht h hq (p := 1) (by decide) (lo := 0) (hi := 23) (by decide)
    have e1 : yfst B len [(0, 1, 0, 23)] i = match yit B len (0, 1, 0, 23) i with | some f => some (f, i) | none => none := rfl
    have e : yoak B len (u + 1) f i = if ysg B len i = 41 then (if ywo B len i ≤ 23 then (if f (ywo B len i) = true then .inl (7, i) else if ysg B len (i + 1) = 39 then yoak B len u (yput f (ywo B len i)) (i + 2) else .inr (i + 1, yput f (ywo B len i))) else .inl (2, i)) else .inl (1, i) := rfl
    have ey : yit B len (0, 1, 0, 23) i = if ysg B len i = 41 then (if ywo B len i ≤ 23 then none else some 2) else some 1 := by
      unfold yit
      rw [if_pos rfl]
      by_cases h1 : ysg B len i = 41
      · rw [if_pos h1, if_pos h1]
        by_cases h2 : ywo B len i ≤ 23
        · rw [if_pos h2, if_pos ⟨Nat.zero_le _, h2⟩]
        · rw [if_neg h2, if_neg (fun z => h2 z.2)]
      · rw [if_neg h1, if_neg h1]
    rw [e1, ey] at k1 k2
    have hr0 : 0 ≤ ((q + 1 : Nat) : Int) ∧ ((q + 1 : Nat) : Int) < ((2820 : Nat) : Int) := by omega
    rw [e, e_M_oakClause_2]
    simp only [qff hF, if_true, qw1 (k := q) (by omega), h9]
    by_cases h41 : ysg B len i = 41
    · have htk : ytk B len i = 1 := by omega
      have hw := yact hBs htk
      have hc1 : ((ytk B len i : Nat) : Int) = 1 := by omega
      simp only [if_pos h41] at k1 k2 ⊢
      simp only [if_pos hc1, h10 htk]
      generalize hv : ynu B (ypl B len i) (ypos B len (i + 1) - ypl B len i) = v at *
      by_cases h23 : ywo B len i ≤ 23
      · simp only [if_pos h23] at k1 k2 ⊢
        have hv2 : ywo B len i = v := by omega
        have hv24 : v < 24 := by omega
        have hc2 : (v : Int) < 24 := by omega
        simp only [if_pos hc2]
        rw [c_M_has, zsn_bit24 f hv24]
        rw [hv2]
        by_cases hf : f v = true
        · rw [if_pos hf]
          refine ⟨fun t f' h' => ?_, fun j f' h' => (by cases h')⟩
          cases h'
          refine ⟨M, ?_, h⟩
          rw [if_pos hf, if_pos rfl]
          rfl
        · rw [if_neg hf]
          obtain ⟨M1, q1, q2, q3⟩ := k1 trivial
          have q2 : yMs B len q M0 M1 (i + 1) := q2
          have q1 : zcal zPP (d + 3) 206 [zA 305, zI ((q + 1 : Nat) : Int), zI 0, zI 23] (n, s, S, R, M) = some (zI 0, (n, s, S, R, M1)) := q1
          rw [if_neg hf, if_neg (show ¬ (0 : Int) = 1 by decide)]
          simp only [zbI, if_true]
          rw [q1]
          have hvv : M1 308 (q + 1) = (v : Nat) := by
            rw [q3]
            show (if q + 1 = q + 1 then ((ywo B len i : Nat) : Int) else _) = _
            rw [if_pos rfl, hv2]
          have hput : zor (zsn f 24 : Nat) (zshl 1 (v : Nat)) = (zsn (yput f v) 24 : Nat) := zsn_put24 f (by omega)
          simp only [if_true, qff hF, true_or, true_and, if_pos hr0, Int.toNat_natCast, hvv, hput, q2.2.2.2.1]
          by_cases h39 : ysg B len (i + 1) = 39
          · have c44 : ((ytk B len (i + 1) : Nat) : Int) = 44 := by omega
            have hiN2 := ylt hN (i := i + 1) (by have := ylt hN hi h41 (by decide); omega) h39 (by decide)
            rw [if_pos c44, if_pos h39]
            obtain ⟨M2, n1, n2, n3⟩ := km_next (n := n) (s := s) (d := d + 1) hF (yMs_ta q2.1 ht) (i := i + 1 + 1) q2.2.1
            rw [n1]
            exact km_oak hF ht hq hN u (i + 2) (yput f v) M2 (zI 0) (by omega) (by omega) ⟨⟨fun a a1 a2 => by rw [n3.1 a a1]; exact q2.1.1 a a1 a2, fun x x1 x2 x3 x4 x5 => by rw [n3.2 x x1 x2 x3 x4 x5]; exact q2.1.2.1 x x1 x2 x3 x4 x5, fun x hx => by rw [n3.1 308 (by decide)]; exact q2.1.2.2 x hx⟩, n2⟩
          · have c44 : ¬ ((ytk B len (i + 1) : Nat) : Int) = 44 := by omega
            rw [if_neg c44, if_neg h39]
            refine ⟨fun t f' h' => (by cases h'), fun j f' h' => ?_⟩
            cases h'
            refine ⟨_, rfl, ⟨⟨fun a a1 a2 => ?_, fun x x1 x2 x3 x4 x5 => ?_, fun x hx => ?_⟩, ?_⟩, zup_at⟩
            · rw [zup_rw a2]; exact q2.1.1 a a1 a2
            · rw [zup_rw (by decide)]; exact q2.1.2.1 x x1 x2 x3 x4 x5
            · rw [zup_ne (by omega)]; exact q2.1.2.2 x hx
            · unfold yNx
              rw [zup_rw (by decide)]
              exact q2.2
      · have hc2 : ¬ (v : Int) < 24 := by omega
        simp only [if_neg h23] at k1 k2 ⊢
        refine ⟨fun t f' h' => ?_, fun j f' h' => (by cases h')⟩
        cases h'
        obtain ⟨M1, q1, q2⟩ := k2 2 i rfl
        have q1 : zcal zPP (d + 3) 206 [zA 305, zI ((q + 1 : Nat) : Int), zI 0, zI 23] (n, s, S, R, M) = some (zI 2, (n, s, S, R, M1)) := q1
        refine ⟨M1, ?_, q2⟩
        rw [if_neg hc2, q1]
        rfl
    · simp only [if_neg h41] at k1 k2 ⊢
      refine ⟨fun t f' h' => ?_, fun j f' h' => (by cases h')⟩
      cases h'
      obtain ⟨M1, q1, q2⟩ := k2 1 i rfl
      have q1 : zcal zPP (d + 3) 206 [zA 305, zI ((q + 1 : Nat) : Int), zI 0, zI 23] (n, s, S, R, M) = some (zI 1, (n, s, S, R, M1)) := q1
      refine ⟨M1, ?_, q2⟩
      rw [if_neg (by omega), q1]
      rfl
end QF
