/-! PLAYED: the loops, the call -/
theorem qwq2 {b : Nat} (h : b < 100000) : zw32 ((b : Int) + 2) = ((b + 2 : Nat) : Int) := by unfold zw32; omega
theorem qwq3 {b : Nat} (h : b < 100000) : zw32 ((b : Int) + 3) = ((b + 3 : Nat) : Int) := by unfold zw32; omega
theorem qwq4 {b k : Nat} (h : b < 1000) (hk : k < 4) : zw32 (zw32 ((b : Int) * 4) + k) = ((4 * b + k : Nat) : Int) := by unfold zw32; omega
theorem qwq5 {b : Nat} (h : b < 1000) : zw32 (705 * (b : Int)) = ((705 * b : Nat) : Int) := by unfold zw32; omega
theorem qwq6 {b : Nat} (h : b < 1000) : zw32 (4 * (b : Int)) = ((4 * b : Nat) : Int) := by unfold zw32; omega
theorem qwq7 {b : Nat} (h : b < 1000) : zw32 (((4 * b : Nat) : Int).tdiv 4) = b := by
  have : ((4 * b : Nat) : Int).tdiv 4 = ((4 * b / 4 : Nat) : Int) := rfl
  rw [this, Nat.mul_div_cancel_left b (by decide)]
  exact qz (by omega) (by omega)
theorem qpd_rel (w : qWt) (A : Nat → Int) {e : Nat} (he : e ≤ 9) {x y z x' y' z' : Int} (hx : 3 ≤ e → x = x') (hy : e = 4 ∨ e = 6 ∨ e = 7 ∨ e = 8 → y = y') (hz : e = 6 ∨ e = 8 → z = z') : qpd w A e x y z = qpd w A e x' y' z' := by
  by_cases h : e < 3
  · rw [qpd_law w A h, qpd_law w A h]
  have hx := hx (by omega)
  subst hx
  by_cases h3 : e = 3
  · subst h3; rfl
  by_cases h5 : e = 5
  · subst h5; rfl
  by_cases h9 : e = 9
  · subst h9; rfl
  have hy := hy (by omega)
  subst hy
  by_cases h4 : e = 4
  · subst h4; rfl
  by_cases h7 : e = 7
  · subst h7; rfl
  have hz := hz (by omega)
  subst hz
  rfl
theorem qpd_23 {w : qWt} {A : Nat → Int} (hA : qIn A) {e : Nat} {x y z : Int} {j : Nat} (hj : j = 2 ∨ j = 3) : (qpd w A e x y z).1 j = A j := by
  have h0 := hA.1
  have h1 := hA.2.1
  have h7 := hA.2.2.2.2.2.2.2.1
  have hk : qkeep A j = A j := qkeep_k (by omega) (by omega)
  have hci : ∀ (c : Prop) (B : Nat → Int), B j = A j → (qci c (B, true) (A, false)).1 j = A j := fun c B h => by
    by_cases hc : c
    · rw [qci_y hc]; exact h
    · rw [qci_n hc]
  by_cases h3 : e = 3
  · subst h3
    refine hci _ _ ?_
    show (if j = 0 then _ else if 11 + 24 * (A 0).toNat ≤ j ∧ j < 11 + 24 * (A 0).toNat + 24 then _ else A j) = _
    rw [if_neg (by omega), if_neg (by omega)]
  by_cases h4 : e = 4
  · subst h4
    exact hci _ _ (qup_ne (by omega))
  by_cases h5 : e = 5
  · subst h5
    exact hci _ _ (by rw [qup_ne (by omega), qup_ne (by omega)])
  by_cases h6 : e = 6
  · subst h6
    exact hci _ _ (by rw [qup_ne (by omega)]; exact hk)
  by_cases h7' : e = 7
  · subst h7'
    exact hci _ _ (by rw [qup_ne (by omega)]; exact hk)
  by_cases h8 : e = 8
  · subst h8
    exact hci _ _ (by rw [qup_ne (by omega)]; exact hk)
  by_cases h9 : e = 9
  · subst h9
    rw [qpd9]
    exact (qdS_Kt (w := w) (X := (A, 0)) hA (min x.toNat (9999 - A 7).toNat) (by show A 7 + _ ≤ _; omega)).1.1 j (by omega) (by omega) (by omega) (by omega) (by omega) (by omega)
  unfold qpd
  rw [if_neg h3, if_neg h4, if_neg h5, if_neg h6, if_neg h7', if_neg h8, if_neg h9]
theorem q01_b (b : Bool) : q01 b = 0 ∨ q01 b = 1 := by cases b <;> simp [q01]
/-- k clauses -/
noncomputable def qps (w : qWt) (D : Nat → Nat × Int × Int × Int) (A : Nat → Int) : Nat → (Nat → Int) × Option Nat
  | 0 => (A, none)
  | k + 1 => match (qps w D A k).2 with
    | some j => ((qps w D A k).1, some j)
    | none => ((qpd w (qps w D A k).1 (D k).1 (D k).2.1 (D k).2.2.1 (D k).2.2.2).1, if (qpd w (qps w D A k).1 (D k).1 (D k).2.1 (D k).2.2.1 (D k).2.2.2).2 = true then none else some k)
theorem qps_some {w : qWt} {D : Nat → Nat × Int × Int × Int} {A : Nat → Int} {k j : Nat} (h : (qps w D A k).2 = some j) : qps w D A (k + 1) = ((qps w D A k).1, some j) := by
  show (match (qps w D A k).2 with | some j => ((qps w D A k).1, some j) | none => _) = _
  rw [h]
theorem qps_none {w : qWt} {D : Nat → Nat × Int × Int × Int} {A : Nat → Int} {k : Nat} (h : (qps w D A k).2 = none) : qps w D A (k + 1) = ((qpd w (qps w D A k).1 (D k).1 (D k).2.1 (D k).2.2.1 (D k).2.2.2).1, if (qpd w (qps w D A k).1 (D k).1 (D k).2.1 (D k).2.2.1 (D k).2.2.2).2 = true then none else some k) := by
  show (match (qps w D A k).2 with | some j => ((qps w D A k).1, some j) | none => _) = _
  rw [h]
section QF
variable {S : Nat → Nat × Nat} {R : Nat → Nat → Nat} {M M' M0 M1 M2 M3 : Nat → Nat → Int} {n s d r : Nat} {A : Nat → Int} {W : Nat → qWt} {w0 w : qWt} {fl : Bool}
theorem kx_part {q c : Nat} (hq : S q = (7, 4)) (hP : S (R q 1) = (20, 4 * c)) (hc : c ≤ 24) {i k : Nat} (hi : i < c) (hk : k < 4) : zcal zPP (d + 1) 163 [zA q, zI i, zI k] (n, s, S, R, M) = some (zI (M (R q 1) (4 * i + k)), (n, s, S, R, M)) := by
  rw [c_Text_part]
  simp only [hq, hP, qwq4 (b := i) (by omega) hk, if_true, true_or, true_and, Int.toNat_natCast]
  rw [if_neg (by omega), if_pos (by decide), if_pos (by omega), if_pos (by omega)]
/-- one clause, the class -/
theorem kx_play1 (hF : qFx S R) (hS : qSt M) (hq : qTn S R M (qVr R A) w) (ht : qTo M 10 A) {q c : Nat} (hq7 : S q = (7, 4)) (hP : S (R q 1) = (20, 4 * c)) (hc : c ≤ 24) {i : Nat} (hi : i < c) {e : Nat} (he : M (R q 1) (4 * i) = e) (he9 : e ≤ 9) (hday : e = 9 → 1 ≤ M (R q 1) (4 * i + 1) ∧ M (R q 1) (4 * i + 1) ≤ 60) (t : Int) (g5 g6 g7 g8 : zV) :
    ∃ M', zR zPP (d + 8) 38 14 [zA 9, zI t, zA q, zI c, zI i, g5, g6, g7, g8] [] (n, s, S, R, M) = zR zPP (d + 8) 38 109 [zA 9, zI t, zA q, zI c, zI i, zI (M (R q 1) (4 * i + 1)), zI (M (R q 1) (4 * i + 2)), zI (M (R q 1) (4 * i + 3)), zI (q01 (qpd w A e (M (R q 1) (4 * i + 1)) (M (R q 1) (4 * i + 2)) (M (R q 1) (4 * i + 3))).2)] [] (n, s, S, R, M') ∧
      qTo M' 10 (qpd w A e (M (R q 1) (4 * i + 1)) (M (R q 1) (4 * i + 2)) (M (R q 1) (4 * i + 3))).1 ∧ qXt M M' := by
  have p0 := kx_part (n := n) (s := s) (d := d + 7) (M := M) hq7 hP hc hi (show 0 < 4 by decide)
  have p1 := kx_part (n := n) (s := s) (d := d + 7) (M := M) hq7 hP hc hi (show 1 < 4 by decide)
  have p2 := kx_part (n := n) (s := s) (d := d + 7) (M := M) hq7 hP hc hi (show 2 < 4 by decide)
  have p3 := kx_part (n := n) (s := s) (d := d + 7) (M := M) hq7 hP hc hi (show 3 < 4 by decide)
  have p0 : zcal zPP (d + 8) 163 [zA q, zI i, zI 0] (n, s, S, R, M) = some (zI e, (n, s, S, R, M)) := by rw [← he]; exact p0
  have p1 : zcal zPP (d + 8) 163 [zA q, zI i, zI 1] (n, s, S, R, M) = some (zI (M (R q 1) (4 * i + 1)), (n, s, S, R, M)) := p1
  have p2 : zcal zPP (d + 8) 163 [zA q, zI i, zI 2] (n, s, S, R, M) = some (zI (M (R q 1) (4 * i + 2)), (n, s, S, R, M)) := p2
  have p3 : zcal zPP (d + 8) 163 [zA q, zI i, zI 3] (n, s, S, R, M) = some (zI (M (R q 1) (4 * i + 3)), (n, s, S, R, M)) := p3
  generalize M (R q 1) (4 * i + 1) = x at *
  generalize M (R q 1) (4 * i + 2) = y at *
  generalize M (R q 1) (4 * i + 3) = z at *
  have hil : (i : Int) < c := by omega
  rw [e_X_played_14, if_pos hil, p1]
  simp only [zbI]
  rw [p2]
  simp only [zbI]
  rw [p3]
  simp only [zbI]
  rw [p0]
  simp only [zbI]
  by_cases h3 : e = 3
  · subst h3
    obtain ⟨M1, r, y1, y2, y3, y4, y5⟩ := vx_oak (n := n) (s := s) (d := d + 6) (w := w) hF ht x y z
    refine ⟨M1, ?_, y4, y5⟩
    rw [if_pos (show ((3 : Nat) : Int) = 3 from rfl), y1]
    simp only [zbI]
    rw [y3]
    rcases y2 with h | h
    · rw [if_pos h, e_X_played_47, h]; rfl
    · rw [if_neg (by omega), e_X_played_47, decide_eq_true h]; rfl
  rw [if_neg (by omega)]
  by_cases h4 : e = 4
  · subst h4
    obtain ⟨M1, y1, y4, y5⟩ := vx_year (n := n) (s := s) (d := d + 6) (w := w) hF ht x y z
    refine ⟨M1, ?_, y4, y5⟩
    rw [if_pos (show ((4 : Nat) : Int) = 4 from rfl), y1]
    try rfl
  rw [if_neg (by omega)]
  by_cases h5 : e = 5
  · subst h5
    obtain ⟨M1, r, y1, y2, y3, y4, y5⟩ := vx_person (n := n) (s := s) (d := d + 6) (w := w) hF ht x y z
    refine ⟨M1, ?_, y4, y5⟩
    rw [if_pos (show ((5 : Nat) : Int) = 5 from rfl), y1]
    simp only [zbI]
    rw [y3]
    rcases y2 with h | h
    · rw [if_pos h, e_X_played_63, h]; rfl
    · rw [if_neg (by omega), e_X_played_63, decide_eq_true h]; rfl
  rw [if_neg (by omega)]
  by_cases h6 : e = 6
  · subst h6
    obtain ⟨M1, y1, y4, y5⟩ := vx_lend (n := n) (s := s) (d := d) hF hS hq ht y x z
    refine ⟨M1, ?_, y4, y5⟩
    rw [if_pos (show ((6 : Nat) : Int) = 6 from rfl), y1]
    try rfl
  rw [if_neg (by omega)]
  by_cases h7 : e = 7
  · subst h7
    obtain ⟨M1, y1, y4, y5⟩ := vx_returned (n := n) (s := s) (d := d) (w := w) hF ht y x z
    refine ⟨M1, ?_, y4, y5⟩
    rw [if_pos (show ((7 : Nat) : Int) = 7 from rfl), y1]
    try rfl
  rw [if_neg (by omega)]
  by_cases h8 : e = 8
  · subst h8
    obtain ⟨M1, y1, y4, y5⟩ := vx_pass (n := n) (s := s) (d := d) hF hS hq ht y x z
    refine ⟨M1, ?_, y4, y5⟩
    rw [if_pos (show ((8 : Nat) : Int) = 8 from rfl), y1]
    try rfl
  rw [if_neg (by omega)]
  by_cases h9 : e = 9
  · subst h9
    have hx := hday rfl
    have h7 := ht.2.2.2.2.2.2.2.2.2.2.1
    have hah := kx_ahead (n := n) (s := s) (d := d + 7) (M := M) hF (show M 21 5 = A 7 from ht.2.1.2.1.2.2.1) h7
    obtain ⟨N, rfl⟩ := Int.eq_ofNat_of_zero_le (show 0 ≤ x by omega)
    obtain ⟨M1, y1, y2, y3⟩ := kx_daysPass1 (n := n) (s := s) (d := d) (M := M) hF hS hq ht (N := min N (9999 - A 7).toNat) (by omega) (by omega)
    have hmin : min (N : Int) (9999 - A 7) = ((min N (9999 - A 7).toNat : Nat) : Int) := by omega
    rw [qpd9, Int.toNat_natCast]
    refine ⟨M1, ?_, y2, y3⟩
    rw [if_pos (show ((9 : Nat) : Int) = 9 from rfl)]
    simp only [qff hF, if_true]
    rw [hah]
    simp only [zbI]
    have h94 : ∀ s0 : Int, zR zPP (d + 8) 38 94 [zA 9, zI t, zA q, zI c, zI i, zI N, zI y, zI z, zI 1] [zI s0] (n, s, S, R, M) = zR zPP (d + 8) 38 109 [zA 9, zI t, zA q, zI c, zI i, zI N, zI y, zI z, zI s0] [] (n, s, S, R, M1) := fun s0 => by
      rw [e_X_played_94]
      simp only [qff hF, if_true]
      rw [hah]
      simp only [zbI]
      rw [hmin, y1]
    rw [h94, h94]
    by_cases h : 9999 - A 7 < (N : Int)
    · have hd : decide ((N : Int) ≤ 9999 - A 7) = false := decide_eq_false (by omega)
      rw [if_pos h]
      simp only [hd]
      try rfl
    · have hd : decide ((N : Int) ≤ 9999 - A 7) = true := decide_eq_true (by omega)
      rw [if_neg h]
      simp only [hd]
      try rfl
  rw [if_neg (by omega)]
  have e3 : e < 3 := by omega
  rw [qpd_law w A e3]
  exact ⟨M, rfl, ht, fun _ _ _ _ => rfl⟩
theorem kx_play (hF : qFx S R) (hS : qSt M) (hq : qTn S R M (qVr R A) w) (ht : qTo M 10 A) {q c : Nat} (hq7 : S q = (7, 4)) (hP : S (R q 1) = (20, 4 * c)) (hc : c ≤ 24) (h319 : 319 ≤ R q 1) {D : Nat → Nat × Int × Int × Int} (hD : ∀ k, k < c → M (R q 1) (4 * k) = (D k).1 ∧ M (R q 1) (4 * k + 1) = (D k).2.1 ∧ M (R q 1) (4 * k + 2) = (D k).2.2.1 ∧ M (R q 1) (4 * k + 3) = (D k).2.2.2 ∧ (D k).1 ≤ 9 ∧ ((D k).1 = 9 → 1 ≤ (D k).2.1 ∧ (D k).2.1 ≤ 60)) (t : Int) (g5 g6 g7 g8 : zV) :
    ∀ k, k ≤ c → ∃ M', (match (qps w D A k).2 with
      | some j => zR zPP (d + 8) 38 14 [zA 9, zI t, zA q, zI c, zI 0, g5, g6, g7, g8] [] (n, s, S, R, M) = some (zI (j : Nat), (n, s, S, R, M'))
      | none => ∃ h5 h6 h7 h8, zR zPP (d + 8) 38 14 [zA 9, zI t, zA q, zI c, zI 0, g5, g6, g7, g8] [] (n, s, S, R, M) = zR zPP (d + 8) 38 14 [zA 9, zI t, zA q, zI c, zI (k : Nat), h5, h6, h7, h8] [] (n, s, S, R, M')) ∧
      qTo M' 10 (qps w D A k).1 ∧ qXt M M' ∧ (qps w D A k).1 3 = A 3 ∧ (qps w D A k).1 2 = A 2
  | 0, _ => ⟨M, ⟨g5, g6, g7, g8, rfl⟩, ht, fun _ _ _ _ => rfl, rfl, rfl⟩
  | k + 1, hk => by
    obtain ⟨M1, r1, r2, r3, r4, r5⟩ := kx_play hF hS hq ht hq7 hP hc h319 hD t g5 g6 g7 g8 k (by omega)
    cases hs : (qps w D A k).2 with
    | some j =>
      rw [hs] at r1
      rw [qps_some hs]
      exact ⟨M1, r1, r2, r3, r4, r5⟩
    | none =>
      rw [hs] at r1
      obtain ⟨h5, h6, h7, h8, r1⟩ := r1
      have hrow : M1 (R q 1) = M (R q 1) := r3 _ (by omega) (by omega) (by omega)
      obtain ⟨d0, d1, d2, d3, d4, d5⟩ := hD k (by omega)
      obtain ⟨M2, y1, y2, y3⟩ := kx_play1 (n := n) (s := s) (d := d) (M := M1) (A := (qps w D A k).1) (w := w) (e := (D k).1) (i := k) hF (qSt_x (fun a ha => r3 a (by omega) (by omega) (by omega)) hS) (by rw [qVr_e r4]; exact qTn_x (fun a ha => r3 a (by omega) (by omega) (by omega)) hq) r2 hq7 hP hc (by omega) (by rw [hrow]; exact d0) d4 (by rw [hrow, d1]; exact d5) t h5 h6 h7 h8
      rw [hrow, d1, d2, d3] at y1 y2
      rw [qps_none hs]
      have q23 : ∀ j, j = 2 ∨ j = 3 → (qpd w (qps w D A k).1 (D k).1 (D k).2.1 (D k).2.2.1 (D k).2.2.2).1 j = (qps w D A k).1 j := fun j hj => qpd_23 r2.2.2.2 hj
      refine ⟨M2, ?_, y2, qXt_t r3 y3, (q23 3 (Or.inr rfl)).trans r4, (q23 2 (Or.inl rfl)).trans r5⟩
      cases hb : (qpd w (qps w D A k).1 (D k).1 (D k).2.1 (D k).2.2.1 (D k).2.2.2).2 with
      | true =>
        rw [hb] at y1
        simp only [if_true]
        refine ⟨zI (D k).2.1, zI (D k).2.2.1, zI (D k).2.2.2, zI (q01 true), r1.trans (y1.trans ?_)⟩
        rw [e_X_played_109, if_neg (by decide), qw1 (show k < 100000 by omega)]
      | false =>
        rw [hb] at y1
        simp only [Bool.false_eq_true, if_false]
        refine r1.trans (y1.trans ?_)
        rw [e_X_played_109, if_pos (show q01 false = 0 from rfl)]
/-- one clause, the model -/
theorem km_play1 (hF : qFx S R) (hA : qIn (M 306)) (ht : qTN (M 308) (M 306 3) w) (hfl : M 305 23 = 1) {b : Nat} (hb : b < 2800) {e : Nat} (he : M 308 b = e) (he9 : e ≤ 9) (hday : e = 9 → 1 ≤ M 308 (b + 1) ∧ M 308 (b + 1) ≤ 60) :
    ∃ M', zcal zPP (d + 12) 264 [zA 305, zI b] (n, s, S, R, M) = some (zI (q01 (qpd w (M 306) e (M 308 (b + 1)) (M 308 (b + 2)) (M 308 (b + 3))).2), (n, s, S, R, M')) ∧ M' 306 = (qpd w (M 306) e (M 308 (b + 1)) (M 308 (b + 2)) (M 308 (b + 3))).1 ∧ qX5 M M' := by
  have i0 : 0 ≤ (b : Int) ∧ (b : Int) < ((2820 : Nat) : Int) := by omega
  have i1 : 0 ≤ ((b + 1 : Nat) : Int) ∧ ((b + 1 : Nat) : Int) < ((2820 : Nat) : Int) := by omega
  have i2 : 0 ≤ ((b + 2 : Nat) : Int) ∧ ((b + 2 : Nat) : Int) < ((2820 : Nat) : Int) := by omega
  have i3 : 0 ≤ ((b + 3 : Nat) : Int) ∧ ((b + 3 : Nat) : Int) < ((2820 : Nat) : Int) := by omega
  have hlt : ∀ (r : Int) (σ : zS), (r = -1 ∨ 0 ≤ r) → (if r < 0 then some (zI 0, σ) else some (zI 1, σ)) = some (zI (q01 (decide (0 ≤ r))), σ) := fun r σ h => by
    rcases h with h | h
    · subst h; rfl
    · rw [if_neg (by omega), decide_eq_true h]; rfl
  have hlt : ∀ (r : Int) (σ : zS), (if r < 0 then some (zI 0, σ) else some (zI 1, σ)) = some (zI (q01 (decide (0 ≤ r))), σ) := fun r σ => by
    by_cases h : 0 ≤ r
    · rw [if_neg (by omega), decide_eq_true h]; rfl
    · rw [if_pos (by omega), decide_eq_false h]; rfl
  have ci : ∀ k : Nat, ((e : Int) = ((k : Nat) : Int)) = (e = k) := fun k => propext ⟨fun h => Int.ofNat.inj h, fun h => congrArg _ h⟩
  have c3 : ((e : Int) = 3) = (e = 3) := ci 3
  have c4 : ((e : Int) = 4) = (e = 4) := ci 4
  have c5 : ((e : Int) = 5) = (e = 5) := ci 5
  have c6 : ((e : Int) = 6) = (e = 6) := ci 6
  have c7 : ((e : Int) = 7) = (e = 7) := ci 7
  have c8 : ((e : Int) = 8) = (e = 8) := ci 8
  have c9 : ((e : Int) = 9) = (e = 9) := ci 9
  generalize hx : M 308 (b + 1) = x at *
  generalize hy : M 308 (b + 2) = y at *
  generalize hz : M 308 (b + 3) = z at *
  rw [c_M_isPlayed]
  simp only [qff hF, if_true, true_or, true_and, qw1 (k := b) (by omega), qwq2 (b := b) (by omega), qwq3 (b := b) (by omega), if_pos i0, if_pos i1, if_pos i2, if_pos i3, Int.toNat_natCast, he, hx, hy, hz, c3, c4, c5, c6, c7, c8, c9]
  by_cases h3 : e = 3
  · subst h3
    obtain ⟨M1, r, y1, y3, y4, y5⟩ := km_oakA (n := n) (s := s) (d := d + 9) (w := w) hF hA x y z
    refine ⟨M1, ?_, y4, y5⟩
    rw [if_pos rfl, y1]
    simp only [zbI]
    rw [y3, hlt]
  rw [if_neg h3]
  by_cases h4 : e = 4
  · subst h4
    obtain ⟨M1, y1, y4, y5⟩ := km_yearA (n := n) (s := s) (d := d + 8) (M := M) (w := w) hF x y z
    refine ⟨M1, ?_, y4, y5⟩
    rw [if_pos rfl, y1]
    simp only [zbI]
    rw [if_pos (Or.inl (q01_b _))]
  rw [if_neg h4]
  by_cases h5 : e = 5
  · subst h5
    obtain ⟨M1, r, y1, y3, y4, y5⟩ := km_personA (n := n) (s := s) (d := d + 9) (w := w) hF hA x y z
    refine ⟨M1, ?_, y4, y5⟩
    rw [if_pos rfl, y1]
    simp only [zbI]
    rw [y3, hlt]
  rw [if_neg h5]
  by_cases h6 : e = 6
  · subst h6
    obtain ⟨M1, y1, y4, y5⟩ := km_lendA (n := n) (s := s) (d := d + 1) hF hA ht y x z
    refine ⟨M1, ?_, y4, y5⟩
    rw [if_pos rfl, y1]
    simp only [zbI]
    rw [if_pos (Or.inl (q01_b _))]
  rw [if_neg h6]
  by_cases h7 : e = 7
  · subst h7
    obtain ⟨M1, y1, y4, y5⟩ := km_returnedA (n := n) (s := s) (d := d + 1) (w := w) hF hA y x z
    refine ⟨M1, ?_, y4, y5⟩
    rw [if_pos rfl, y1]
    simp only [zbI]
    rw [if_pos (Or.inl (q01_b _))]
  rw [if_neg h7]
  by_cases h8 : e = 8
  · subst h8
    obtain ⟨M1, y1, y4, y5⟩ := km_passA (n := n) (s := s) (d := d + 1) hF hA ht y x z
    refine ⟨M1, ?_, y4, y5⟩
    rw [if_pos rfl, y1]
    simp only [zbI]
    rw [if_pos (Or.inl (q01_b _))]
  rw [if_neg h8]
  by_cases h9 : e = 9
  · subst h9
    obtain ⟨M1, y1, y4, y5⟩ := km_daysA (n := n) (s := s) (d := d) hF hA ht hfl (hday rfl) y z
    refine ⟨M1, ?_, y4, y5⟩
    rw [if_pos rfl, y1]
    simp only [zbI]
    rw [if_pos (Or.inl (q01_b _))]
  rw [if_neg h9, qpd_law w (M 306) (show e < 3 by omega)]
  exact ⟨M, rfl, rfl, qX5_r M⟩
theorem km_play (hF : qFx S R) (ht : qTN (M 308) (M 306 3) w) (hfl : M 305 23 = 1) {t c : Nat} (ht4 : t < 4) (hc : c ≤ 24) (hc8 : M 308 (705 * t) = c) {D : Nat → Nat × Int × Int × Int} (hD : ∀ k, k < c → M 308 (705 * t + 1 + 4 * k) = (D k).1 ∧ (D k).1 ≤ 9 ∧ ((D k).1 = 9 → 1 ≤ M 308 (705 * t + 1 + 4 * k + 1) ∧ M 308 (705 * t + 1 + 4 * k + 1) ≤ 60) ∧ ∀ A', qpd w A' (D k).1 (M 308 (705 * t + 1 + 4 * k + 1)) (M 308 (705 * t + 1 + 4 * k + 2)) (M 308 (705 * t + 1 + 4 * k + 3)) = qpd w A' (D k).1 (D k).2.1 (D k).2.2.1 (D k).2.2.2)
    (hIn : ∀ k, k ≤ c → qIn (qps w D (M 306) k).1 ∧ (qps w D (M 306) k).1 3 = M 306 3) :
    ∀ k, k ≤ c → ∃ M', (match (qps w D (M 306) k).2 with
      | some j => zR zPP (d + 12) 263 14 [zA 305, zI t, zI 0] [] (n, s, S, R, M) = some (zI (j : Nat), (n, s, S, R, M'))
      | none => zR zPP (d + 12) 263 14 [zA 305, zI t, zI 0] [] (n, s, S, R, M) = zR zPP (d + 12) 263 14 [zA 305, zI t, zI (k : Nat)] [] (n, s, S, R, M')) ∧
      M' 306 = (qps w D (M 306) k).1 ∧ qX5 M M'
  | 0, _ => ⟨M, rfl, rfl, qX5_r M⟩
  | k + 1, hk => by
    obtain ⟨M1, r1, r2, r3⟩ := km_play hF ht hfl ht4 hc hc8 hD hIn k (by omega)
    cases hs : (qps w D (M 306) k).2 with
    | some j =>
      rw [hs] at r1
      rw [qps_some hs]
      exact ⟨M1, r1, r2, r3⟩
    | none =>
      rw [hs] at r1
      have r1 : zR zPP (d + 12) 263 14 [zA 305, zI t, zI 0] [] (n, s, S, R, M) = zR zPP (d + 12) 263 14 [zA 305, zI t, zI (k : Nat)] [] (n, s, S, R, M1) := r1
      have h308 : M1 308 = M 308 := r3.1 308 (by decide) (by decide) (by decide) (by decide) (by decide)
      obtain ⟨d0, d1, d2, d3⟩ := hD k (by omega)
      obtain ⟨i1, i2⟩ := hIn k (by omega)
      obtain ⟨M2, y1, y2, y3⟩ := km_play1 (n := n) (s := s) (d := d) (M := M1) (w := w) (b := 705 * t + 1 + 4 * k) (e := (D k).1) hF (by rw [r2]; exact i1) (by rw [r2, i2, h308]; exact ht) (by rw [r3.2 23 (by decide)]; exact hfl) (by omega) (by rw [h308]; exact d0) d1 (by rw [h308]; exact d2)
      rw [h308, r2, d3] at y1 y2
      rw [qps_none hs]
      have ib : 0 ≤ ((705 * t : Nat) : Int) ∧ ((705 * t : Nat) : Int) < ((2820 : Nat) : Int) := by omega
      have hstep : zR zPP (d + 12) 263 14 [zA 305, zI t, zI (k : Nat)] [] (n, s, S, R, M1) = if q01 (qpd w (qps w D (M 306) k).1 (D k).1 (D k).2.1 (D k).2.2.1 (D k).2.2.2).2 = 0 then some (zI (k : Nat), (n, s, S, R, M2)) else zR zPP (d + 12) 263 14 [zA 305, zI t, zI ((k + 1 : Nat) : Int)] [] (n, s, S, R, M2) := by
        rw [e_M_played_14]
        simp only [qff hF, if_true, true_or, true_and, qwq5 (b := t) (by omega), qw1 (k := 705 * t) (by omega), qwq6 (b := k) (by omega), qwa (a := 705 * t + 1) (b := 4 * k) (by omega), if_pos ib, Int.toNat_natCast, h308, hc8]
        rw [if_pos (show (k : Int) < c by omega), y1]
        simp only [zbI]
        rw [qw1 (show k < 100000 by omega)]
      refine ⟨M2, ?_, y2, qX5_t r3 y3⟩
      cases hb : (qpd w (qps w D (M 306) k).1 (D k).1 (D k).2.1 (D k).2.2.1 (D k).2.2.2).2 with
      | true =>
        rw [hb, if_neg (by decide)] at hstep
        simp only [if_true]
        exact r1.trans hstep
      | false =>
        rw [hb, if_pos (show q01 false = 0 from rfl)] at hstep
        simp only [Bool.false_eq_true, if_false]
        exact r1.trans hstep
theorem qb_played (hw : qWd n S R M W) (v : Int) : qBo 38 263 [zI v] n s S R M := by
  have hF := hw.1.2.1
  have hA := hw.2.1.2.2.2
  have h2 := hA.2.2.1
  have e14 : M 10 14 = M 306 2 := hw.2.1.1.1.2.2.1
  by_cases hv : 0 ≤ v ∧ v < M 306 2
  · obtain ⟨t, rfl⟩ := Int.eq_ofNat_of_zero_le hv.1
    have ht4 : t < 4 := by omega
    obtain ⟨-, -, -, -, -, hm, -, h319, c, c1, c2, c3, c4⟩ := hw.2.2.2.1.1 t hv.2
    have hq7 : S (R 14 t) = (7, 4) := by
      obtain ⟨O, len, lo, hi, hq, -⟩ := hm
      exact hq.1.1
    have hq0 : R 14 t ≠ 0 := by
      obtain ⟨O, len, lo, hi, hq, -⟩ := hm
      have := hq.2.1.1
      omega
    have hDe : ∃ e : Nat → Nat, ∀ k, k < c → e k ≤ 9 ∧ M (R (R 14 t) 1) (4 * k) = e k ∧ M 308 (705 * t + 1 + 4 * k) = e k ∧ (3 ≤ e k → M (R (R 14 t) 1) (4 * k + 1) = M 308 (705 * t + 1 + 4 * k + 1)) ∧ (e k = 4 ∨ e k = 6 ∨ e k = 7 ∨ e k = 8 → M (R (R 14 t) 1) (4 * k + 2) = M 308 (705 * t + 1 + 4 * k + 2)) ∧ (e k = 6 ∨ e k = 8 → M (R (R 14 t) 1) (4 * k + 3) = M 308 (705 * t + 1 + 4 * k + 3)) ∧ (e k = 9 → 1 ≤ M 308 (705 * t + 1 + 4 * k + 1) ∧ M 308 (705 * t + 1 + 4 * k + 1) ≤ 60) := by
      refine ⟨fun k => (M (R (R 14 t) 1) (4 * k)).toNat, fun k hk => ?_⟩
      obtain ⟨e, e1, e2, e3⟩ := c4 k hk
      have : (M (R (R 14 t) 1) (4 * k)).toNat = e := by rw [e2, Int.toNat_natCast]
      simp only [this]
      exact ⟨e1, e2, e3⟩
    obtain ⟨e, he⟩ := hDe
    have hD1 : ∀ k, k < c → M (R (R 14 t) 1) (4 * k) = ((fun k => ((e k, M (R (R 14 t) 1) (4 * k + 1), M (R (R 14 t) 1) (4 * k + 2), M (R (R 14 t) 1) (4 * k + 3)) : Nat × Int × Int × Int)) k).1 ∧ M (R (R 14 t) 1) (4 * k + 1) = ((fun k => ((e k, M (R (R 14 t) 1) (4 * k + 1), M (R (R 14 t) 1) (4 * k + 2), M (R (R 14 t) 1) (4 * k + 3)) : Nat × Int × Int × Int)) k).2.1 ∧ M (R (R 14 t) 1) (4 * k + 2) = ((fun k => ((e k, M (R (R 14 t) 1) (4 * k + 1), M (R (R 14 t) 1) (4 * k + 2), M (R (R 14 t) 1) (4 * k + 3)) : Nat × Int × Int × Int)) k).2.2.1 ∧ M (R (R 14 t) 1) (4 * k + 3) = ((fun k => ((e k, M (R (R 14 t) 1) (4 * k + 1), M (R (R 14 t) 1) (4 * k + 2), M (R (R 14 t) 1) (4 * k + 3)) : Nat × Int × Int × Int)) k).2.2.2 ∧ ((fun k => ((e k, M (R (R 14 t) 1) (4 * k + 1), M (R (R 14 t) 1) (4 * k + 2), M (R (R 14 t) 1) (4 * k + 3)) : Nat × Int × Int × Int)) k).1 ≤ 9 ∧ (((fun k => ((e k, M (R (R 14 t) 1) (4 * k + 1), M (R (R 14 t) 1) (4 * k + 2), M (R (R 14 t) 1) (4 * k + 3)) : Nat × Int × Int × Int)) k).1 = 9 → 1 ≤ ((fun k => ((e k, M (R (R 14 t) 1) (4 * k + 1), M (R (R 14 t) 1) (4 * k + 2), M (R (R 14 t) 1) (4 * k + 3)) : Nat × Int × Int × Int)) k).2.1 ∧ ((fun k => ((e k, M (R (R 14 t) 1) (4 * k + 1), M (R (R 14 t) 1) (4 * k + 2), M (R (R 14 t) 1) (4 * k + 3)) : Nat × Int × Int × Int)) k).2.1 ≤ 60) := fun k hk => by
      obtain ⟨a1, a2, a3, a4, a5, a6, a7⟩ := he k hk
      refine ⟨a2, rfl, rfl, rfl, a1, fun h9 => ?_⟩
      have h9 : e k = 9 := h9
      show 1 ≤ M (R (R 14 t) 1) (4 * k + 1) ∧ M (R (R 14 t) 1) (4 * k + 1) ≤ 60
      rw [a4 (by omega)]
      exact a7 h9
    have hD2 : ∀ k, k < c → M 308 (705 * t + 1 + 4 * k) = ((fun k => ((e k, M (R (R 14 t) 1) (4 * k + 1), M (R (R 14 t) 1) (4 * k + 2), M (R (R 14 t) 1) (4 * k + 3)) : Nat × Int × Int × Int)) k).1 ∧ ((fun k => ((e k, M (R (R 14 t) 1) (4 * k + 1), M (R (R 14 t) 1) (4 * k + 2), M (R (R 14 t) 1) (4 * k + 3)) : Nat × Int × Int × Int)) k).1 ≤ 9 ∧ (((fun k => ((e k, M (R (R 14 t) 1) (4 * k + 1), M (R (R 14 t) 1) (4 * k + 2), M (R (R 14 t) 1) (4 * k + 3)) : Nat × Int × Int × Int)) k).1 = 9 → 1 ≤ M 308 (705 * t + 1 + 4 * k + 1) ∧ M 308 (705 * t + 1 + 4 * k + 1) ≤ 60) ∧ ∀ A', qpd (qWr W (M 306 3)) A' ((fun k => ((e k, M (R (R 14 t) 1) (4 * k + 1), M (R (R 14 t) 1) (4 * k + 2), M (R (R 14 t) 1) (4 * k + 3)) : Nat × Int × Int × Int)) k).1 (M 308 (705 * t + 1 + 4 * k + 1)) (M 308 (705 * t + 1 + 4 * k + 2)) (M 308 (705 * t + 1 + 4 * k + 3)) = qpd (qWr W (M 306 3)) A' ((fun k => ((e k, M (R (R 14 t) 1) (4 * k + 1), M (R (R 14 t) 1) (4 * k + 2), M (R (R 14 t) 1) (4 * k + 3)) : Nat × Int × Int × Int)) k).1 ((fun k => ((e k, M (R (R 14 t) 1) (4 * k + 1), M (R (R 14 t) 1) (4 * k + 2), M (R (R 14 t) 1) (4 * k + 3)) : Nat × Int × Int × Int)) k).2.1 ((fun k => ((e k, M (R (R 14 t) 1) (4 * k + 1), M (R (R 14 t) 1) (4 * k + 2), M (R (R 14 t) 1) (4 * k + 3)) : Nat × Int × Int × Int)) k).2.2.1 ((fun k => ((e k, M (R (R 14 t) 1) (4 * k + 1), M (R (R 14 t) 1) (4 * k + 2), M (R (R 14 t) 1) (4 * k + 3)) : Nat × Int × Int × Int)) k).2.2.2 := fun k hk => by
      obtain ⟨a1, a2, a3, a4, a5, a6, a7⟩ := he k hk
      refine ⟨a3, a1, a7, fun A' => ?_⟩
      exact qpd_rel _ _ a1 (fun h => (a4 h).symm) (fun h => (a5 h).symm) (fun h => (a6 h).symm)
    generalize (fun k => ((e k, M (R (R 14 t) 1) (4 * k + 1), M (R (R 14 t) 1) (4 * k + 2), M (R (R 14 t) 1) (4 * k + 3)) : Nat × Int × Int × Int)) = D at hD1 hD2
    have K := kx_play (n := n) (s := s) (d := 91) (M := M) (A := M 306) (w := qWr W (M 306 3)) hF hw.1.2.2 (qTn_wd hw) hw.2.1 hq7 c3 c2 h319 hD1 t zU zU zU zU
    obtain ⟨M1, r1, r2, r3, r4, r5⟩ := K c (Nat.le_refl _)
    have e306 : M1 306 = M 306 := r3 306 (by omega) (by decide) (by decide)
    have e308 : M1 308 = M 308 := r3 308 (by omega) (by decide) (by decide)
    have e305 : M1 305 = M 305 := r3 305 (by omega) (by decide) (by decide)
    obtain ⟨M2, k1, k2, k3⟩ := km_play (n := n) (s := s) (d := 87) (M := M1) (w := qWr W (M 306 3)) (t := t) (c := c) (D := D) hF (by rw [e308, e306]; exact wm_text hw hA.2.2.2.1) (by rw [e305]; exact hw.2.2.2.2.2.2.1) ht4 c2 (by rw [e308]; exact c1) (by rw [e308]; exact hD2) (fun k hk => by
      rw [e306]
      obtain ⟨M4, s1, s2, s3, s4, s5⟩ := K k hk
      exact ⟨s2.2.2.2, s4⟩) c (Nat.le_refl _)
    rw [e306] at k1 k2
    have hta : zcal zPP 99 165 [zA 10, zI t] (n, s, S, R, M) = some (zA (R 14 t), (n, s, S, R, M)) := by
      rw [c_Town_textAt]
      simp (disch := omega) only [e14, qff hF, qltT, qltF, qleT, qleF, qeqT, qeqF, Int.reduceEq, Int.reduceNe, Int.reduceLT, Int.reduceLE, Int.reduceToNat, Int.reduceAdd, Int.reduceSub, Int.reduceMul, Int.reduceNeg, Nat.reduceAdd, Nat.reduceMul, Nat.reduceEqDiff, Nat.reduceLT, Int.cast_ofNat_Int, Int.lt_irrefl, Bool.false_eq_true, ↓reduceIte, ↓reduceDIte, zbI, zbL, zbA, zbV, qrg, qrg2, qnn, qz, zup_at, zup_r, zup_ne, true_and, and_true, true_or, or_true, and_self, or_self, false_or, or_false, false_and, and_false, Int.toNat_natCast, Int.toNat_add, Int.toNat_mul, Int.toNat_zero, Int.toNat_one, qtn, Int.natCast_add, qnat1, qnat0, ne_eq, not_true_eq_false, not_false_eq_true, eq_self, qbool]
    have hcc : zcal zPP 99 162 [zA (R 14 t)] (n, s, S, R, M) = some (zI c, (n, s, S, R, M)) := by
      rw [c_Text_clauseCount]
      simp only [hq7, c3, if_true, qwq7 (b := c) (by omega)]
      rw [if_pos (by decide), if_neg (by decide)]
    have hin : (if 0 ≤ (t : Int) ∧ (t : Int) ≤ M 306 2 - 1 then (1 : Int) else 0) = 1 := if_pos (by omega)
    have hz2 : zw32 (M 306 2 - 1) = M 306 2 - 1 := qz (by omega) (by omega)
    have c02 : M1 306 (Int.toNat 2) = M 306 2 := by rw [e306]; rfl
    have hrow : ∀ a, a < 10 ∨ 147 ≤ a → a ≠ 306 → a ≠ 305 → ¬ qY a → M2 a = M a := fun a a1 a2 a3 a4 => by
      unfold qY at a4
      rw [k3.1 a a3 a2 (by omega) (by omega) (by omega), r3 a a1 (by omega) (by omega)]
    have h5k : ∀ k, k ≠ 24 → M2 305 k = M 305 k := fun k hk => by rw [k3.2 k hk, e305]
    have hW : qWd n S R M2 W := by
      refine qWd_to2 hw hrow ⟨h5k 4 (by decide), h5k 5 (by decide), h5k 6 (by decide), h5k 23 (by decide)⟩ ?_ ?_
      · rw [k2]
        exact qTo_x (fun a a1 a2 => k3.1 a (by omega) (by omega) (by omega) (by omega) (by omega)) r2
      · rw [k2]; exact r5
    have hX : ∀ (v : Int), zR zPP 99 38 14 [zA 9, zI t, zA (R 14 t), zI c, zI 0, zU, zU, zU, zU] [] (n, s, S, R, M) = some (zI v, (n, s, S, R, M1)) → zcal zPP 100 38 [zA 9, zI t] (n, s, S, R, M) = some (zI v, (n, s, S, R, M1)) := fun v h => by
      rw [c_X_played]
      simp only [qff hF, if_true]
      rw [hta]
      simp only [zbA]
      rw [if_neg hq0]
      simp only [hq7]
      rw [if_neg (by decide), hcc]
      exact h
    have hM : ∀ (v : Int), zR zPP 99 263 14 [zA 305, zI t, zI 0] [] (n, s, S, R, M1) = some (zI v, (n, s, S, R, M2)) → zcal zPP 100 263 [zA 305, zI t] (n, s, S, R, M1) = some (zI v, (n, s, S, R, M2)) := fun v h => by
      rw [c_M_played]
      simp only [qff hF, if_true, true_or, true_and, c02, hz2]
      rw [if_pos (by decide), k_isIn, hin]
      simp only [zbI]
      rw [if_neg (by decide)]
      exact h
    cases hs : (qps (qWr W (M 306 3)) D (M 306) c).2 with
    | some j =>
      rw [hs] at r1 k1
      exact qBo_rows (hX _ r1) (hM _ k1) hW (hrow 1 (by omega) (by decide) (by decide) (by unfold qY; omega))
    | none =>
      rw [hs] at r1 k1
      obtain ⟨g5, g6, g7, g8, r1⟩ := r1
      have k1 : zR zPP 99 263 14 [zA 305, zI t, zI 0] [] (n, s, S, R, M1) = zR zPP 99 263 14 [zA 305, zI t, zI (c : Nat)] [] (n, s, S, R, M2) := k1
      have ib : 0 ≤ ((705 * t : Nat) : Int) ∧ ((705 * t : Nat) : Int) < ((2820 : Nat) : Int) := by omega
      have h308 : M2 308 (705 * t) = c := by rw [hrow 308 (by omega) (by decide) (by decide) (by unfold qY; omega)]; exact c1
      refine qBo_rows (hX (-1) (r1.trans ?_)) (hM (-1) (k1.trans ?_)) hW (hrow 1 (by omega) (by decide) (by decide) (by unfold qY; omega))
      · rw [e_X_played_14, if_neg (by omega)]
      · rw [e_M_played_14]
        simp only [qff hF, if_true, true_or, true_and, qwq5 (b := t) (by omega), if_pos ib, Int.toNat_natCast, h308]
        rw [if_neg (by omega)]
  · refine qBo_same hw (v := zI (-2)) ?_ ?_
    · have hta : zcal zPP 99 165 [zA 10, zI v] (n, s, S, R, M) = some (zA 0, (n, s, S, R, M)) := by
        rw [c_Town_textAt]
        simp only [qff hF, if_true, e14]
        by_cases h0 : v < 0
        · rw [if_pos h0]
        · rw [if_neg h0, if_neg (by omega)]
      rw [c_X_played]
      simp only [qff hF, if_true]
      rw [hta]
      simp only [zbA, if_true]
    · have hin : (if 0 ≤ v ∧ v ≤ M 306 2 - 1 then (1 : Int) else 0) = 0 := if_neg (by omega)
      have hz2 : zw32 (M 306 2 - 1) = M 306 2 - 1 := qz (by omega) (by omega)
      have c02 : M 306 (Int.toNat 2) = M 306 2 := rfl
      rw [c_M_played]
      simp only [qff hF, if_true, true_or, true_and, c02, hz2]
      rw [if_pos (by decide), k_isIn, hin]
      simp only [zbI, if_true]
end QF
