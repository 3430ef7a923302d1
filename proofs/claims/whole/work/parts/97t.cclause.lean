/-! A CLAUSE: the class -/
abbrev yLw : Type := Nat → Option (Nat × Nat × Nat × Nat × (qE → Int))
abbrev yEv : Type := Nat → Nat × Int × Int × Int
def yupd {α : Type} (f : Nat → α) (k : Nat) (v : α) : Nat → α := fun x => if x = k then v else f x
def yRw (M00 M : Nat → Nat → Int) : Prop := ∀ a, a ≠ 295 → a ≠ 299 → a ≠ 300 → a ≠ 301 → a ≠ 302 → M a = M00 a
def yCI (M00 M : Nat → Nat → Int) (i k : Nat) (O : List (Nat × Nat)) (E : yEv) (w : yLw) : Prop :=
  (M 295 8 = i ∧ M 295 9 = O.length ∧ M 295 10 = k ∧ M 295 12 = 0) ∧ yRw M00 M ∧ (M 295 13 = -1 ∧ yat (M 299) 0 (O.map yen)) ∧
  (∀ x, x < k → M 300 (4 * x) = (E x).1 ∧ (3 ≤ (E x).1 → yPv (E x).1 (M 300) (4 * x) (E x).2.1 (E x).2.2.1 (E x).2.2.2)) ∧
  ∀ L, L < 3 → match w L with
    | none => M 301 L = -1
    | some t => M 301 L = t.1 ∧ M 302 L = t.2.1
def yCF (M00 M : Nat → Nat → Int) (f p : Nat) : Prop := M 295 12 = f ∧ f ≠ 0 ∧ M 295 13 = p ∧ yRw M00 M
theorem qwh {k : Nat} (hk : k < 25) : zw32 ((k : Int) * 4) = ((4 * k : Nat) : Int) := by
  rw [qz (x := (k : Int) * 4) (by omega) (by omega)]
  omega
/-- the parts' row at its start, and past the sign -/
noncomputable def yh1 (M : Nat → Nat → Int) (k e i : Nat) : Nat → Nat → Int := zup (zup (zup (zup (zup M 300 (4 * k) (e : Nat)) 300 (4 * k + 1) 0) 300 (4 * k + 2) 0) 300 (4 * k + 3) 0) 295 8 ((i + 1 : Nat) : Int)
theorem yh1_r {M : Nat → Nat → Int} {k e i a : Nat} (h1 : a ≠ 300) (h2 : a ≠ 295) : yh1 M k e i a = M a := by
  unfold yh1
  rw [zup_rw h2, zup_rw h1, zup_rw h1, zup_rw h1, zup_rw h1]
theorem yh1_5 {M : Nat → Nat → Int} {k e i x : Nat} (h : x ≠ 8) : yh1 M k e i 295 x = M 295 x := by
  unfold yh1
  rw [zup_ne h, zup_rw (by decide), zup_rw (by decide), zup_rw (by decide), zup_rw (by decide)]
theorem yh1_8 {M : Nat → Nat → Int} {k e i : Nat} : yh1 M k e i 295 8 = ((i + 1 : Nat) : Int) := zup_at
theorem yh1_300 {M : Nat → Nat → Int} {k e i x : Nat} : (x < 4 * k → yh1 M k e i 300 x = M 300 x) ∧ yh1 M k e i 300 (4 * k) = (e : Nat) := by
  unfold yh1
  constructor
  · intro h
    rw [zup_rw (by decide), zup_ne (by omega), zup_ne (by omega), zup_ne (by omega), zup_ne (by omega)]
  · rw [zup_rw (by decide), zup_ne (by omega), zup_ne (by omega), zup_ne (by omega), zup_at]
section QF
variable {S : Nat → Nat × Nat} {R : Nat → Nat → Nat} {M M' M0 M00 M1 M2 M3 : Nat → Nat → Int} {n s d r : Nat} {B : Nat → Nat} {len N i j c k p b q e : Nat} {O : List (Nat × Nat)} {E : yEv} {w : yLw}
theorem yRw_tk (hk : yTk B len M00 (N + 1)) (h : yRw M00 M) : yTk B len M (N + 1) := by
  unfold yTk at hk ⊢
  rw [h 296 (by decide) (by decide) (by decide) (by decide) (by decide), h 297 (by decide) (by decide) (by decide) (by decide) (by decide), h 298 (by decide) (by decide) (by decide) (by decide) (by decide)]
  exact hk
theorem yRw_t (h1 : yRw M00 M) (h2 : yRw M M1) : yRw M00 M1 := fun a a1 a2 a3 a4 a5 => (h2 a a1 a2 a3 a4 a5).trans (h1 a a1 a2 a3 a4 a5)
theorem kc_fail (hF : qFx S R) (hk : yTk B len M00 (N + 1)) (hN : N ≤ 300) (hI : yCI M00 M i k O E w) (hi : i ≤ N) (hO : O.length ≤ 300) {f : Nat} (hf : f ≠ 0) : ∃ M', zcal zPP (d + 1) 119 [zA 295, zI f] (n, s, S, R, M) = some (zU, (n, s, S, R, M')) ∧ yCF M00 M' f (ypl B len i) := by
  obtain ⟨⟨h8, h9, h10, h12⟩, hr, -⟩ := hI
  have hC : yCp M M i O.length := ⟨h8, h9, h12, fun _ _ _ => rfl, fun _ _ _ _ _ => rfl⟩
  obtain ⟨M', q1, q2⟩ := kx_fails (n := n) (s := s) (d := d) hF (yRw_tk hk hr) hN hC hi hO hf
  obtain ⟨j1, j2, j3, j4, j5, j6⟩ := q2
  exact ⟨M', q1, j1, j2, j3, fun a a1 a2 a3 a4 a5 => (j5 a a1 a2).trans (hr a a1 a2 a3 a4 a5)⟩
theorem kc_here (hF : qFx S R) (hk : yTk B len M00 (N + 1)) (hN : N ≤ 300) (hI : yCI M00 M i k O E w) (hi : i ≤ N) : zcal zPP (d + 1) 117 [zA 295] (n, s, S, R, M) = some (zI (ysg B len i : Nat), (n, s, S, R, M)) := by
  obtain ⟨⟨h8, h9, h10, h12⟩, hr, -⟩ := hI
  have hC : yCp M M i O.length := ⟨h8, h9, h12, fun _ _ _ => rfl, fun _ _ _ _ _ => rfl⟩
  exact kx_here hF (yRw_tk hk hr) hN hC hi
theorem kc_bad (hF : qFx S R) (hk : yTk B len M00 (N + 1)) (hN : N ≤ 300) (hI : yCI M00 M i k O E w) (hi : i ≤ N) (hO : O.length ≤ 300) (hg : 9 < ysg B len i) : ∃ M', zcal zPP (d + 2) 118 [zA 295] (n, s, S, R, M) = some (zU, (n, s, S, R, M')) ∧ yCF M00 M' 1 (ypl B len i) := by
  obtain ⟨M', q1, q2⟩ := kc_fail (n := n) (s := s) (d := d) hF hk hN hI hi hO (f := 1) (by decide)
  refine ⟨M', ?_, q2⟩
  have q1 : zcal zPP (d + 1) 119 [zA 295, zI 1] (n, s, S, R, M) = some (zU, (n, s, S, R, M')) := q1
  rw [c_Reader_readClause]
  simp only [qff hF, if_true]
  rw [kc_here hF hk hN hI hi]
  simp only [zbI]
  rw [if_neg (by omega), if_pos (by omega), e_Reader_readClause_8, q1]
  rfl
/-- up to the room -/
theorem kc_31 (hF : qFx S R) (hk : yTk B len M00 (N + 1)) (hN : N ≤ 300) (hI : yCI M00 M i k O E w) (hi : i ≤ N) (he : ysg B len i = e) (h9 : e ≤ 9) (hw : e < 3 → w e = none) :
    zcal zPP (d + 2) 118 [zA 295] (n, s, S, R, M) = zR zPP (d + 1) 118 31 [zA 295, zI e, zI (if e < 3 then 1 else 0), zU] [] (n, s, S, R, M) := by
  rw [c_Reader_readClause]
  simp only [qff hF, if_true]
  rw [kc_here hF hk hN hI hi, he]
  simp only [zbI]
  rw [if_neg (by omega), if_neg (by omega)]
  by_cases h3 : e < 3
  · have hi0 : 0 ≤ (e : Int) ∧ (e : Int) < ((3 : Nat) : Int) := by omega
    rw [if_pos (by omega), if_pos h3, e_Reader_readClause_18, if_neg (by decide)]
    have h1 := hI.2.2.2.2 e h3
    rw [hw h3] at h1
    have h1 : M 301 e = -1 := h1
    simp only [qff hF, if_true, true_or, true_and, if_pos hi0, Int.toNat_natCast, h1]
  · rw [if_neg (by omega), if_neg h3, e_Reader_readClause_18, if_pos rfl]
theorem kc_twice (hF : qFx S R) (hk : yTk B len M00 (N + 1)) (hN : N ≤ 300) (hI : yCI M00 M i k O E w) (hi : i ≤ N) (hO : O.length ≤ 300) (he : ysg B len i = e) (h3 : e < 3) {t : Nat × Nat × Nat × Nat × (qE → Int)} (hw : w e = some t) : ∃ M', zcal zPP (d + 2) 118 [zA 295] (n, s, S, R, M) = some (zU, (n, s, S, R, M')) ∧ yCF M00 M' 4 (ypl B len i) := by
  obtain ⟨M', q1, q2⟩ := kc_fail (n := n) (s := s) (d := d) hF hk hN hI hi hO (f := 4) (by decide)
  refine ⟨M', ?_, q2⟩
  have q1 : zcal zPP (d + 1) 119 [zA 295, zI 4] (n, s, S, R, M) = some (zU, (n, s, S, R, M')) := q1
  have hi0 : 0 ≤ (e : Int) ∧ (e : Int) < ((3 : Nat) : Int) := by omega
  rw [c_Reader_readClause]
  simp only [qff hF, if_true]
  rw [kc_here hF hk hN hI hi, he]
  simp only [zbI]
  rw [if_neg (by omega), if_neg (by omega), if_pos (by omega), e_Reader_readClause_18, if_neg (by decide)]
  have h1 := hI.2.2.2.2 e h3
  rw [hw] at h1
  have h1 : M 301 e = t.1 ∧ M 302 e = t.2.1 := h1
  have hne : ¬ ((t.1 : Nat) : Int) = -1 := by omega
  simp only [qff hF, if_true, true_or, true_and, if_pos hi0, Int.toNat_natCast, h1.1, if_neg hne]
  rw [q1]
  rfl
theorem kc_full (hF : qFx S R) (hk : yTk B len M00 (N + 1)) (hN : N ≤ 300) (hI : yCI M00 M i 24 O E w) (hi : i ≤ N) (hO : O.length ≤ 300) (he : ysg B len i = e) (h9 : e ≤ 9) (hw : e < 3 → w e = none) : ∃ M', zcal zPP (d + 2) 118 [zA 295] (n, s, S, R, M) = some (zU, (n, s, S, R, M')) ∧ yCF M00 M' 6 (ypl B len i) := by
  obtain ⟨M', q1, q2⟩ := kc_fail (n := n) (s := s) (d := d) hF hk hN hI hi hO (f := 6) (by decide)
  refine ⟨M', ?_, q2⟩
  have q1 : zcal zPP (d + 1) 119 [zA 295, zI 6] (n, s, S, R, M) = some (zU, (n, s, S, R, M')) := q1
  rw [kc_31 hF hk hN hI hi he h9 hw, e_Reader_readClause_31]
  simp only [qff hF, if_true, hI.1.2.2.1]
  rw [if_neg (by decide), if_neg (by decide), e_Reader_readClause_38, q1]
  rfl
/-- behind the body: the stop -/
theorem kc_stop (hF : qFx S R) (hk : yTk B len M00 (N + 1)) (hN : N ≤ 300) (h : yCp M M j c) (h10 : M 295 10 = k) (hk24 : k < 24) (hr : yRw M00 M) (hj : j ≤ N) (hc : c ≤ 300) (l1 l2 l3 : Int) :
    (ysg B len j ≠ 40 → ∃ M', zR zPP (d + 2) 118 103 [zA 295, zI l1, zI l2, zI l3] [] (n, s, S, R, M) = some (zU, (n, s, S, R, M')) ∧ yCF M00 M' 1 (ypl B len j)) ∧
    (ysg B len j = 40 → zR zPP (d + 2) 118 103 [zA 295, zI l1, zI l2, zI l3] [] (n, s, S, R, M) = some (zU, (n, s, S, R, zup (zup M 295 8 ((j + 1 : Nat) : Int)) 295 10 ((k + 1 : Nat) : Int)))) := by
  have htk := yRw_tk hk hr
  rw [e_Reader_readClause_103]
  refine ⟨fun g => ?_, fun g => ?_⟩
  · obtain ⟨M', q1, q2⟩ := kx_expN (n := n) (s := s) (d := d) (M := M) hF htk hN h hj hc (g := 40) g
    have q1 : zcal zPP (d + 2) 125 [zA 295, zI 40] (n, s, S, R, M) = some (zU, (n, s, S, R, M')) := q1
    obtain ⟨j1, j2, j3, j4, j5, j6⟩ := q2
    refine ⟨_, by rw [q1]; simp only [zbV, qff hF, if_true]; rfl, ?_, j2, ?_, fun a a1 a2 a3 a4 a5 => ?_⟩
    · rw [zup_ne (by decide)]; exact j1
    · rw [zup_ne (by decide)]; exact j3
    · rw [zup_rw a1]; exact (j5 a a1 a2).trans (hr a a1 a2 a3 a4 a5)
  · have q1 := kx_exp (n := n) (s := s) (d := d) (M := M) hF htk hN h hj (g := 40) g
    have q1 : zcal zPP (d + 2) 125 [zA 295, zI 40] (n, s, S, R, M) = _ := q1
    rw [q1]
    have e10 : zup M 295 8 ((j + 1 : Nat) : Int) 295 10 = (k : Int) := by rw [zup_ne (by decide)]; exact h10
    simp only [zbV, qff hF, if_true, e10, qw1 (k := k) (by omega)]
theorem kc_junk (hF : qFx S R) {f : Nat} (h : yJu M M f p) (hr : yRw M00 M) (l1 l2 l3 : Int) :
    ∃ M', zR zPP (d + 2) 118 103 [zA 295, zI l1, zI l2, zI l3] [] (n, s, S, R, M) = some (zU, (n, s, S, R, M')) ∧ yCF M00 M' f p := by
  rw [e_Reader_readClause_103]
  have q1 := kx_expJ (n := n) (s := s) (d := d + 1) (M := M) hF h 40
  have q1 : zcal zPP (d + 2) 125 [zA 295, zI 40] (n, s, S, R, M) = some (zU, (n, s, S, R, M)) := q1
  obtain ⟨j1, j2, j3, j4, j5, j6⟩ := h
  refine ⟨_, by rw [q1]; simp only [zbV, qff hF, if_true]; rfl, ?_, j2, ?_, fun a a1 a2 a3 a4 a5 => ?_⟩
  · rw [zup_ne (by decide)]; exact j1
  · rw [zup_ne (by decide)]; exact j3
  · rw [zup_rw a1]; exact hr a a1 a2 a3 a4 a5
/-- a deed's clause -/
theorem kc_deed (hF : qFx S R) (hk : yTk B len M00 (N + 1)) (hN : ysg B len N = 43) (h300 : N ≤ 300) (hI : yCI M00 M i k O E w) (hi : i < N) (hO : O.length ≤ 300) (hk24 : k < 24) (he : ysg B len i = e) (h39 : 3 ≤ e ∧ e ≤ 9) :
    (∀ f t, ydo B len e (i + 1) = .inl (f, t) → ∃ M', zcal zPP (d + 6) 118 [zA 295] (n, s, S, R, M) = some (zU, (n, s, S, R, M')) ∧ yCF M00 M' f (ypl B len t)) ∧
    ∀ j v1 v2 v3, ydo B len e (i + 1) = .inr (j, v1, v2, v3) → i + 1 < j ∧ j ≤ N ∧ (e = 9 → 1 ≤ v1 ∧ v1 ≤ 60) ∧ (ysg B len j ≠ 40 → ∃ M', zcal zPP (d + 6) 118 [zA 295] (n, s, S, R, M) = some (zU, (n, s, S, R, M')) ∧ yCF M00 M' 1 (ypl B len j)) ∧
      (ysg B len j = 40 → ∃ M', zcal zPP (d + 6) 118 [zA 295] (n, s, S, R, M) = some (zU, (n, s, S, R, M')) ∧ yCI M00 M' (j + 1) (k + 1) O (yupd E k (e, v1, v2, v3)) w) := by
  have hI' := hI
  obtain ⟨⟨h8, h9, h10, h12⟩, hr, ho, hcl, hl⟩ := hI
  have hr1 : yRw M (yh1 M k e i) := fun a a1 a2 a3 a4 a5 => yh1_r a3 a1
  have h0 : yD0 B len N (yh1 M k e i) O.length k := ⟨by rw [yh1_5 (by decide)]; exact h9, hO, by rw [yh1_5 (by decide)]; exact h10, hk24, yRw_tk hk (yRw_t hr hr1), h300⟩
  have hs : yDs (yh1 M k e i) (yh1 M k e i) k (i + 1) := ⟨yh1_8, by rw [yh1_5 (by decide)]; exact h12, fun _ _ _ => rfl, fun _ _ _ _ => rfl, fun _ _ => rfl⟩
  have ec : zcal zPP (d + 6) 118 [zA 295] (n, s, S, R, M) = zbV (zcal zPP (d + 5) 131 [zA 295, zI e] (n, s, S, R, yh1 M k e i)) fun q1 => zR zPP (d + 5) 118 103 [zA 295, zI e, zI 0, zI ((4 * k : Nat) : Int)] [] q1 := by
    rw [kc_31 (d := d + 4) hF hk h300 hI' (by omega) he h39.2 (fun z => absurd z (by omega)), if_neg (by omega), e_Reader_readClause_31]
    have n1 : ¬ (k : Int) < 0 := by omega
    have n2 : (k : Int) < 24 := by omega
    have p0 : 0 ≤ ((4 * k : Nat) : Int) ∧ ((4 * k : Nat) : Int) < ((96 : Nat) : Int) := by omega
    have p1 : 0 ≤ ((4 * k + 1 : Nat) : Int) ∧ ((4 * k + 1 : Nat) : Int) < ((96 : Nat) : Int) := by omega
    have p2 : 0 ≤ ((4 * k + 2 : Nat) : Int) ∧ ((4 * k + 2 : Nat) : Int) < ((96 : Nat) : Int) := by omega
    have p3 : 0 ≤ ((4 * k + 3 : Nat) : Int) ∧ ((4 * k + 3 : Nat) : Int) < ((96 : Nat) : Int) := by omega
    have hi1 : i < 100000 := by omega
    simp only [qff hF, if_true, h10, if_neg n1, if_pos n2, true_or, true_and, qwh (k := k) (by omega), qw1 (k := 4 * k) (by omega), qwg2 (q := 4 * k) (by omega), qwg3 (q := 4 * k) (by omega), if_pos p0, if_pos p1, if_pos p2, if_pos p3, Int.toNat_natCast, zup_rw (show (295 : Nat) ≠ 300 by decide), h8, qw1 hi1]
    rfl
  obtain ⟨k1, k2⟩ := kd_deed (n := n) (s := s) (d := d + 1) hF h0 hN h39 hs (i := i + 1) (by omega)
  have hrw : ∀ M', (∀ a, a ≠ 295 → a ≠ 300 → M' a = yh1 M k e i a) → yRw M00 M' := fun M' hf a a1 a2 a3 a4 a5 => (hf a a1 a3).trans ((hr1 a a1 a2 a3 a4 a5).trans (hr a a1 a2 a3 a4 a5))
  refine ⟨fun f t hy => ?_, fun j v1 v2 v3 hy => ?_⟩
  · obtain ⟨hf0, M2, q1, q2⟩ := k1 f t hy
    rw [ec, q1]
    exact kc_junk (d := d + 3) hF (yDb_Ju h0 q2) (hrw _ q2.2.2.2.1) _ _ _
  · obtain ⟨j1, j2, j9, M2, q1, q2, q3⟩ := k2 j v1 v2 v3 hy
    obtain ⟨c1, c2⟩ := yDs_Cp h0 q2
    have c10 : M2 295 10 = k := by rw [q2.2.2.2.1 10 (by decide) (by decide) (by decide)]; exact h0.2.2.1
    obtain ⟨t1, t2⟩ := kc_stop (n := n) (s := s) (d := d + 3) (M := M2) hF hk h300 c1 c10 hk24 (hrw _ q2.2.2.1) j2 hO (e : Nat) 0 ((4 * k : Nat) : Int)
    rw [ec, q1]
    refine ⟨j1, j2, j9, fun g => t1 g, fun g => ⟨_, t2 g, ⟨?_, ?_, ?_, ?_⟩, fun a a1 a2 a3 a4 a5 => ?_, ?_, fun x hx => ?_, fun L hL => ?_⟩⟩
    · rw [zup_ne (by decide)]; exact zup_at
    · rw [zup_ne (by decide), zup_ne (by decide), q2.2.2.2.1 9 (by decide) (by decide) (by decide)]; exact h0.1
    · exact zup_at
    · rw [zup_ne (by decide), zup_ne (by decide)]; exact q2.2.1
    · rw [zup_rw a1, zup_rw a1]; exact hrw _ q2.2.2.1 a a1 a2 a3 a4 a5
    · refine ⟨?_, ?_⟩
      · rw [zup_ne (by decide), zup_ne (by decide), q2.2.2.2.1 13 (by decide) (by decide) (by decide), yh1_5 (by decide)]
        exact ho.1
      · rw [zup_rw (by decide), zup_rw (by decide), q2.2.2.1 299 (by decide) (by decide), yh1_r (by decide) (by decide)]
        exact ho.2
    · rw [zup_rw (by decide), zup_rw (by decide)]
      have f3 := q2.2.2.2.2
      by_cases hxk : x = k
      · subst hxk
        have ee : yupd E x (e, v1, v2, v3) x = (e, v1, v2, v3) := if_pos rfl
        rw [ee]
        exact ⟨by rw [f3 _ (by omega)]; exact (yh1_300 (x := 0)).2, fun _ => q3⟩
      · have ee : yupd E k (e, v1, v2, v3) x = E x := if_neg hxk
        have hxl : x < k := by omega
        have h3 : ∀ y, y < 4 * k → M2 300 y = M 300 y := fun y hy => by rw [f3 y (by omega)]; exact yh1_300.1 hy
        obtain ⟨b1, b2⟩ := hcl x hxl
        rw [ee]
        refine ⟨by rw [h3 _ (by omega)]; exact b1, fun h => ?_⟩
        obtain ⟨b3, b4, b5⟩ := b2 h
        exact ⟨by rw [h3 _ (by omega)]; exact b3, fun h' => by rw [h3 _ (by omega)]; exact b4 h', fun h' => by rw [h3 _ (by omega)]; exact b5 h'⟩
    · rw [zup_rw (by decide), zup_rw (by decide), zup_rw (by decide), zup_rw (by decide), q2.2.2.1 301 (by decide) (by decide), q2.2.2.1 302 (by decide) (by decide), yh1_r (by decide) (by decide), yh1_r (by decide) (by decide)]
      exact hl L hL
end QF
