/-! THE CLASS READS AS THE GRAMMAR SAYS -/
def ymt (m : Nat) : Nat := if m = 0 then 122 else if m = 1 then 129 else if m = 2 then 126 else if m = 3 then 121 else if m = 4 then 120 else if m = 5 then 128 else 127
def ynd (m o : Nat) : Nat := 8 * (8 - o) + (if m = 0 then 4 else if m = 3 ∨ m = 7 then 5 else if m = 4 ∨ m = 8 then 6 else if m = 1 then 7 else if m = 5 ∨ m = 9 then 8 else if m = 6 ∨ m = 10 then 9 else 10)
noncomputable def yhr (m x o nn : Nat) (g : zV) (σ : zS) : zO := if m = 7 then zR zPP x 121 5 [zA 295, zI o, zI nn, g] [] σ else if m = 8 then zR zPP x 120 5 [zA 295, zI o, zI nn, g] [] σ else if m = 9 then zR zPP x 128 5 [zA 295, zI o, zI nn] [] σ else zR zPP x 127 5 [zA 295, zI o, zI nn] [] σ
def yQc (n s : Nat) (S : Nat → Nat × Nat) (R : Nat → Nat → Nat) (B : Nat → Nat) (len : Nat) (M0 M : Nat → Nat → Int) (c : Nat) (h : zO) : yO → Prop
  | .inl (f, k) => ∃ M', h = some (zU, (n, s, S, R, M')) ∧ yJu M0 M' f (ypl B len k)
  | .inr (j, Lc, _, _) => ∃ M', h = some (zU, (n, s, S, R, M')) ∧ yOk M0 M c (Lc c) j M'
def yQC (n s : Nat) (S : Nat → Nat × Nat) (R : Nat → Nat → Nat) (B : Nat → Nat) (len : Nat) (M0 : Nat → Nat → Int) (m o i : Nat) (out : yO) : Prop :=
  if 7 ≤ m then ∀ x M c nn g, ynd m o ≤ x + 1 → yCp M0 M i c → c ≤ i → nn ≤ i → yQc n s S R B len M0 M c (yhr m x o nn g (n, s, S, R, M)) out
  else ∀ x M c, ynd m o ≤ x → yCp M0 M i c → c ≤ i → yQc n s S R B len M0 M c (zcal zPP x (ymt m) [zA 295, zI o] (n, s, S, R, M)) out
section QF
variable {S : Nat → Nat × Nat} {R : Nat → Nat → Nat} {M M' M0 M1 M2 M3 : Nat → Nat → Int} {n s d r : Nat} {B : Nat → Nat} {len N i j c o f p : Nat} {L : List (Nat × Nat)}
theorem yOk_cat {L2 : List (Nat × Nat)} (h : yOk M0 M c L i M1) (h2 : yOk M0 M1 (c + L.length) L2 j M2) : yOk M0 M c (L ++ L2) j M2 := by
  obtain ⟨a1, a2, a3⟩ := h
  obtain ⟨b1, b2, b3⟩ := h2
  have hl : (L.map yen).length = L.length := List.length_map _
  refine ⟨?_, fun k hk => by rw [b2 k (by omega)]; exact a2 k hk, ?_⟩
  · rw [List.length_append, ← Nat.add_assoc]; exact b1
  · rw [List.map_append, yat_app, hl]
    exact ⟨yat_cong (fun k h1 h2 => by rw [hl] at h2; exact b2 k h2) a3, b3⟩
theorem yOk_row (h : yOk M0 M1 c L j M2) (e : M1 299 = M 299) : yOk M0 M c L j M2 := ⟨h.1, fun k hk => by rw [← e]; exact h.2.1 k hk, h.2.2⟩
theorem ycp_le (h : yCp M0 M i c) : M 295 8 = i ∧ M 295 9 = c ∧ M 295 12 = 0 := ⟨h.1, h.2.1, h.2.2.1⟩
/-- readOne, up to what opens -/
theorem kx_one1 (hF : qFx S R) (hk : yTk B len M0 (N + 1)) (hN : N ≤ 300) (h : yCp M0 M i c) (hi : i ≤ N) (hg : ysg B len i = 41) (hw : ywo B len i ≤ 10000) (hc : c < 300) :
    (ywo B len i ≤ 9999 → ∃ M', zcal zPP (d + 4) 122 [zA 295, zI o] (n, s, S, R, M) = some (zU, (n, s, S, R, M')) ∧ yOk M0 M c [(41, ywo B len i)] (i + 1) M') ∧
    (¬ ywo B len i ≤ 9999 → ∃ M', zcal zPP (d + 4) 122 [zA 295, zI o] (n, s, S, R, M) = some (zU, (n, s, S, R, M')) ∧ yJu M0 M' 2 (ypl B len i)) := by
  have hh := kx_here (n := n) (s := s) (d := d + 2) hF hk hN h hi
  rw [hg] at hh
  obtain ⟨h8, h9, h12⟩ := ycp_le h
  have hs : M 297 i = ywo B len i := by rw [h.2.2.2.1 297 (by decide) (by decide)]; exact (hk i (by omega)).2.1
  have i1 : 0 ≤ (i : Int) ∧ (i : Int) < ((301 : Nat) : Int) := by omega
  constructor
  · intro hw9
    have ho := kx_order (n := n) (s := s) (d := d + 2) (S := S) (R := R) (M := M) hF h9 hc (g := 41) (w := ywo B len i) (by decide) (by omega)
    have ho : zcal zPP (d + 3) 123 [zA 295, zI 41, zI (ywo B len i : Nat)] (n, s, S, R, M) = some (zI c, (n, s, S, R, zup (zup M 299 c (yen (41, ywo B len i))) 295 9 ((c + 1 : Nat) : Int))) := ho
    have e8 : zup (zup M 299 c (yen (41, ywo B len i))) 295 9 ((c + 1 : Nat) : Int) 295 8 = i := by rw [zup_ne (by decide), zup_rw (by decide)]; exact h8
    refine ⟨zup (zup (zup M 299 c (yen (41, ywo B len i))) 295 9 ((c + 1 : Nat) : Int)) 295 8 ((i + 1 : Nat) : Int), ?_, yOk_at (yOk_order (yOk_0 h))⟩
    rw [c_Reader_readOne]
    simp only [qff hF, if_true]
    rw [hh]
    simp only [zbI, qff hF, if_true, h12, h8, true_or, true_and, if_pos i1, Int.toNat_natCast, hs]
    rw [if_neg (by omega), if_neg (by omega), if_pos (by decide), if_neg (by omega)]
    have e41 : ((41 : Nat) : Int) = 41 := rfl
    rw [e41, ho]
    simp only [qff hF, if_true, e8, qw1 (k := i) (by omega)]
  · intro hw9
    obtain ⟨M', e1, e2⟩ := kx_fails (n := n) (s := s) (d := d + 2) hF hk hN h hi (by omega) (f := 2) (by decide)
    have e1 : zcal zPP (d + 3) 119 [zA 295, zI 2] (n, s, S, R, M) = some (zU, (n, s, S, R, M')) := e1
    refine ⟨M', ?_, e2⟩
    rw [c_Reader_readOne]
    simp only [qff hF, if_true]
    rw [hh]
    simp only [zbI, qff hF, if_true, h12, h8, true_or, true_and, if_pos i1, Int.toNat_natCast, hs]
    rw [if_neg (by omega), if_neg (by omega), if_pos (by decide), if_pos (by omega), e1]
    rfl
theorem kx_one2 (hF : qFx S R) (hk : yTk B len M0 (N + 1)) (hN : N ≤ 300) (h : yCp M0 M i c) (hi : i ≤ N) (hg : qisn (ysg B len i) = true) (hc : c < 300) :
    (¬ (ysg B len i = 14 ∧ M0 295 11 = 1) → ∃ M', zcal zPP (d + 4) 122 [zA 295, zI o] (n, s, S, R, M) = some (zU, (n, s, S, R, M')) ∧ yOk M0 M c [(ysg B len i, 0)] (i + 1) M') ∧
    ((ysg B len i = 14 ∧ M0 295 11 = 1) → ∃ M', zcal zPP (d + 4) 122 [zA 295, zI o] (n, s, S, R, M) = some (zU, (n, s, S, R, M')) ∧ yJu M0 M' 5 (ypl B len i)) := by
  have hh := kx_here (n := n) (s := s) (d := d + 2) hF hk hN h hi
  obtain ⟨h8, h9, h12⟩ := ycp_le h
  have h11 : M 295 11 = M0 295 11 := h.2.2.2.2 11 (by decide) (by decide) (by decide) (by decide)
  have hn := kx_isName (d := d + 2) (g := ysg B len i) (n, s, S, R, M)
  rw [hg] at hn
  have hn : zcal zPP (d + 3) 149 [zI (ysg B len i : Nat)] (n, s, S, R, M) = some (zI 1, (n, s, S, R, M)) := hn
  have h41 : ysg B len i ≠ 41 := fun z => by rw [z] at hg; exact absurd hg (by decide)
  have h15 : ysg B len i < 15 := by
    unfold qisn at hg
    simp at hg
    omega
  have hhead : zcal zPP (d + 4) 122 [zA 295, zI o] (n, s, S, R, M) = if ((ysg B len i : Nat) : Int) = 14 then (if M0 295 11 = 1 then zbV (zcal zPP (d + 3) 119 [zA 295, zI 5] (n, s, S, R, M)) (fun q9 => some (zU, q9)) else zbI (zcal zPP (d + 3) 123 [zA 295, zI (ysg B len i : Nat), zI 0] (n, s, S, R, M)) fun _ q10 => if (q10.2.2.1 295).1 = 4 then (if (q10.2.2.1 295).1 = 4 then some (zU, (q10.1, q10.2.1, q10.2.2.1, q10.2.2.2.1, zup q10.2.2.2.2 295 8 (zw32 ((q10.2.2.2.2 295 8) + 1)))) else none) else none) else zbI (zcal zPP (d + 3) 123 [zA 295, zI (ysg B len i : Nat), zI 0] (n, s, S, R, M)) fun _ q10 => if (q10.2.2.1 295).1 = 4 then (if (q10.2.2.1 295).1 = 4 then some (zU, (q10.1, q10.2.1, q10.2.2.1, q10.2.2.2.1, zup q10.2.2.2.2 295 8 (zw32 ((q10.2.2.2.2 295 8) + 1)))) else none) else none := by
    rw [c_Reader_readOne]
    simp only [qff hF, if_true]
    rw [hh]
    simp only [zbI, qff hF, if_true, h12, h8, h11]
    rw [if_neg (by omega), if_neg (by omega), if_neg (by omega), hn]
    simp only [qff hF, if_true, h11]
    rw [if_neg (by decide)]
  constructor
  · intro hno
    have ho := kx_order (n := n) (s := s) (d := d + 2) (S := S) (R := R) (M := M) hF h9 hc (g := ysg B len i) (w := 0) (by omega) (by decide)
    have ho : zcal zPP (d + 3) 123 [zA 295, zI (ysg B len i : Nat), zI 0] (n, s, S, R, M) = some (zI c, (n, s, S, R, zup (zup M 299 c (yen (ysg B len i, 0))) 295 9 ((c + 1 : Nat) : Int))) := ho
    have e8 : zup (zup M 299 c (yen (ysg B len i, 0))) 295 9 ((c + 1 : Nat) : Int) 295 8 = i := by rw [zup_ne (by decide), zup_rw (by decide)]; exact h8
    refine ⟨zup (zup (zup M 299 c (yen (ysg B len i, 0))) 295 9 ((c + 1 : Nat) : Int)) 295 8 ((i + 1 : Nat) : Int), ?_, yOk_at (yOk_order (yOk_0 h))⟩
    rw [hhead]
    by_cases h14 : ysg B len i = 14
    · rw [if_pos (by omega), if_neg (fun z => hno ⟨h14, z⟩), ho]
      simp only [zbI, qff hF, if_true, e8, qw1 (k := i) (by omega)]
    · rw [if_neg (by omega), ho]
      simp only [zbI, qff hF, if_true, e8, qw1 (k := i) (by omega)]
  · intro hy
    obtain ⟨M', e1, e2⟩ := kx_fails (n := n) (s := s) (d := d + 2) hF hk hN h hi (by omega) (f := 5) (by decide)
    have e1 : zcal zPP (d + 3) 119 [zA 295, zI 5] (n, s, S, R, M) = some (zU, (n, s, S, R, M')) := e1
    refine ⟨M', ?_, e2⟩
    rw [hhead, if_pos (by omega), if_pos hy.2, e1]
    rfl
/-- readOne goes into readOpening -/
theorem kx_one3 (hF : qFx S R) (hk : yTk B len M0 (N + 1)) (hN : N ≤ 300) (h : yCp M0 M i c) (hi : i ≤ N) (h41 : ysg B len i ≠ 41) (hg : qisn (ysg B len i) = false) :
    zcal zPP (d + 4) 122 [zA 295, zI o] (n, s, S, R, M) = zbV (zR zPP (d + 2) 124 18 [zA 295, zI (ysg B len i : Nat), zI o, zU] [zI (q01 (yopn (ysg B len i)))] (n, s, S, R, M)) fun q => some (zU, q) := by
  have hh := kx_here (n := n) (s := s) (d := d + 2) hF hk hN h hi
  obtain ⟨h8, h9, h12⟩ := ycp_le h
  have hn := kx_isName (d := d + 2) (g := ysg B len i) (n, s, S, R, M)
  rw [hg] at hn
  have hn : zcal zPP (d + 3) 149 [zI (ysg B len i : Nat)] (n, s, S, R, M) = some (zI 0, (n, s, S, R, M)) := hn
  have hop : zcal zPP (d + 3) 124 [zA 295, zI (ysg B len i : Nat), zI o] (n, s, S, R, M) = zR zPP (d + 2) 124 18 [zA 295, zI (ysg B len i : Nat), zI o, zU] [zI (q01 (yopn (ysg B len i)))] (n, s, S, R, M) := by
    rw [c_Reader_readOpening]
    simp only [qff hF, if_true]
    unfold yopn
    generalize ysg B len i = g
    by_cases h1 : g = 37
    · rw [if_pos (by omega), e_Reader_readOpening_15, h1]; rfl
    rw [if_neg (by omega)]
    by_cases h2 : g = 34
    · rw [if_pos (by omega), e_Reader_readOpening_15, h2]; rfl
    rw [if_neg (by omega)]
    by_cases h3 : g = 18
    · rw [if_pos (by omega), e_Reader_readOpening_15, h3]; rfl
    rw [if_neg (by omega)]
    by_cases h4 : g = 19
    · rw [if_pos (by omega), e_Reader_readOpening_15, h4]; rfl
    rw [if_neg (by omega)]
    by_cases h5 : g = 20
    · rw [if_pos (by omega), e_Reader_readOpening_15, h5]; rfl
    rw [if_neg (by omega), decide_eq_false h1, decide_eq_false h2, decide_eq_false h3, decide_eq_false h4, decide_eq_false h5]
    rfl
  rw [c_Reader_readOne]
  simp only [qff hF, if_true]
  rw [hh]
  simp only [zbI, qff hF, if_true, h12, h8]
  rw [if_neg (by omega), if_neg (by omega), if_neg (by omega), hn]
  simp only []
  rw [if_pos (by trivial), hop]
/-! the rules of ONE -/
theorem yc1 (hF : qFx S R) (hk : yTk B len M0 (N + 1)) (hN : N ≤ 300) (hi : i < N) (hg : ysg B len i = 41) (hw : ywo B len i ≤ 10000) :
    (ywo B len i ≤ 9999 → yQC n s S R B len M0 0 o i (yok (i + 1) (fun _ => [(41, ywo B len i)]) [(0, (ywo B len i : Int))] (fun _ _ => (ywo B len i : Int)))) ∧ (¬ ywo B len i ≤ 9999 → yQC n s S R B len M0 0 o i (yft 2 i)) := by
  refine ⟨fun h9 => ?_, fun h9 => ?_⟩
  · unfold yQC
    rw [if_neg (by decide)]
    intro x M c hx hC hci
    have hx : 8 * (8 - o) + 4 ≤ x := hx
    obtain ⟨y, rfl⟩ : ∃ y, x = y + 4 := ⟨x - 4, by omega⟩
    exact (kx_one1 (n := n) (s := s) (d := y) (o := o) hF hk hN hC (by omega) hg hw (by omega)).1 h9
  · unfold yQC
    rw [if_neg (by decide)]
    intro x M c hx hC hci
    have hx : 8 * (8 - o) + 4 ≤ x := hx
    obtain ⟨y, rfl⟩ : ∃ y, x = y + 4 := ⟨x - 4, by omega⟩
    exact (kx_one1 (n := n) (s := s) (d := y) (o := o) hF hk hN hC (by omega) hg hw (by omega)).2 h9
theorem yc2 (hF : qFx S R) (hk : yTk B len M0 (N + 1)) (hN : N ≤ 300) (hi : i < N) (hg : qisn (ysg B len i) = true) :
    (¬ (ysg B len i = 14 ∧ M0 295 11 = 1) → yQC n s S R B len M0 0 o i (yok (i + 1) (fun _ => [(ysg B len i, 0)]) [(1, (qnm (ysg B len i) : Int))] (fun E _ => E.1 (qnm (ysg B len i))))) ∧ ((ysg B len i = 14 ∧ M0 295 11 = 1) → yQC n s S R B len M0 0 o i (yft 5 i)) := by
  refine ⟨fun h9 => ?_, fun h9 => ?_⟩
  · unfold yQC
    rw [if_neg (by decide)]
    intro x M c hx hC hci
    have hx : 8 * (8 - o) + 4 ≤ x := hx
    obtain ⟨y, rfl⟩ : ∃ y, x = y + 4 := ⟨x - 4, by omega⟩
    exact (kx_one2 (n := n) (s := s) (d := y) (o := o) hF hk hN hC (by omega) hg (by omega)).1 h9
  · unfold yQC
    rw [if_neg (by decide)]
    intro x M c hx hC hci
    have hx : 8 * (8 - o) + 4 ≤ x := hx
    obtain ⟨y, rfl⟩ : ∃ y, x = y + 4 := ⟨x - 4, by omega⟩
    exact (kx_one2 (n := n) (s := s) (d := y) (o := o) hF hk hN hC (by omega) hg (by omega)).2 h9
theorem yc34 (hF : qFx S R) (hk : yTk B len M0 (N + 1)) (hN : N ≤ 300) (hi : i ≤ N) (h41 : ysg B len i ≠ 41) (hg : qisn (ysg B len i) = false) :
    (yopn (ysg B len i) = false → yQC n s S R B len M0 0 o i (yft 1 i)) ∧ (yopn (ysg B len i) = true → 8 ≤ o → yQC n s S R B len M0 0 o i (yft 3 i)) := by
  refine ⟨fun h9 => ?_, fun h9 h8 => ?_⟩
  · unfold yQC
    rw [if_neg (by decide)]
    intro x M c hx hC hci
    have hx : 8 * (8 - o) + 4 ≤ x := hx
    obtain ⟨y, rfl⟩ : ∃ y, x = y + 4 := ⟨x - 4, by omega⟩
    obtain ⟨M', e1, e2⟩ := kx_fails (n := n) (s := s) (d := y + 1) hF hk hN hC hi (by omega) (f := 1) (by decide)
    have e1 : zcal zPP (y + 2) 119 [zA 295, zI 1] (n, s, S, R, M) = some (zU, (n, s, S, R, M')) := e1
    refine ⟨M', ?_, e2⟩
    have h3 := kx_one3 (n := n) (s := s) (d := y) (o := o) hF hk hN hC hi h41 hg
    rw [h9] at h3
    refine h3.trans ?_
    rw [e_Reader_readOpening_18, if_pos (show q01 false = 0 from rfl), e1]
    rfl
  · unfold yQC
    rw [if_neg (by decide)]
    intro x M c hx hC hci
    have hx : 8 * (8 - o) + 4 ≤ x := hx
    obtain ⟨y, rfl⟩ : ∃ y, x = y + 4 := ⟨x - 4, by omega⟩
    obtain ⟨M', e1, e2⟩ := kx_fails (n := n) (s := s) (d := y + 1) hF hk hN hC hi (by omega) (f := 3) (by decide)
    have e1 : zcal zPP (y + 2) 119 [zA 295, zI 3] (n, s, S, R, M) = some (zU, (n, s, S, R, M')) := e1
    refine ⟨M', ?_, e2⟩
    have h3 := kx_one3 (n := n) (s := s) (d := y) (o := o) hF hk hN hC hi h41 hg
    rw [h9] at h3
    refine h3.trans ?_
    rw [e_Reader_readOpening_18, if_neg (show ¬ q01 true = 0 by decide), if_neg (by omega), e1]
    rfl
/-- what opens: the head -/
theorem kx_opH (hF : qFx S R) (hk : yTk B len M0 (N + 1)) (hN : N ≤ 300) (h : yCp M0 M i c) (hi : i < N) (hg : yopn (ysg B len i) = true) (ho : o < 8) :
    zcal zPP (d + 4) 122 [zA 295, zI o] (n, s, S, R, M) = if ysg B len i = 37 then zbV (zcal zPP (d + 2) 120 [zA 295, zI ((o + 1 : Nat) : Int)] (n, s, S, R, zup M 295 8 ((i + 1 : Nat) : Int))) (fun q2 => zbV (zcal zPP (d + 2) 125 [zA 295, zI 38] q2) fun q3 => some (zU, q3)) else if ysg B len i = 20 then zbV (zcal zPP (d + 2) 126 [zA 295, zI ((o + 1 : Nat) : Int)] (n, s, S, R, zup M 295 8 ((i + 1 : Nat) : Int))) (fun q4 => some (zU, q4)) else zbV (zcal zPP (d + 2) 122 [zA 295, zI ((o + 1 : Nat) : Int)] (n, s, S, R, zup M 295 8 ((i + 1 : Nat) : Int))) fun q5 => zbI (zcal zPP (d + 2) 123 [zA 295, zI (ycs (ysg B len i) : Nat), zI 0] q5) fun _ q6 => some (zU, q6) := by
  have hop := yop_o hg
  have h41 : ysg B len i ≠ 41 := by omega
  have hn : qisn (ysg B len i) = false := by
    rcases hop with h | h | h | h | h <;> (rw [h]; rfl)
  have h3 := kx_one3 (n := n) (s := s) (d := d) (o := o) hF hk hN h (by omega) h41 hn
  rw [hg] at h3
  obtain ⟨h8, h9, h12⟩ := ycp_le h
  have hoo : zw32 ((o : Int) + 1) = ((o + 1 : Nat) : Int) := qw1 (by omega)
  have hii : zw32 ((i : Int) + 1) = ((i + 1 : Nat) : Int) := qw1 (by omega)
  have c0 : ¬ q01 true = 0 := by decide
  have c8 : (o : Int) < 8 := by omega
  have cc : ∀ k : Nat, (((ysg B len i : Nat) : Int) = (k : Nat)) = (ysg B len i = k) := fun k => propext ⟨fun z => Int.ofNat.inj z, fun z => congrArg _ z⟩
  have c37 : (((ysg B len i : Nat) : Int) = 37) = (ysg B len i = 37) := cc 37
  have c20 : (((ysg B len i : Nat) : Int) = 20) = (ysg B len i = 20) := cc 20
  have c34 : (((ysg B len i : Nat) : Int) = 34) = (ysg B len i = 34) := cc 34
  rw [h3, e_Reader_readOpening_18, if_neg c0, if_pos c8]
  simp only [qff hF, if_true, h8, hii, hoo, c37, c20, c34]
  clear hii hoo
  by_cases g37 : ysg B len i = 37
  · rw [if_pos g37, if_pos g37]
    cases hq : zcal zPP (d + 2) 120 [zA 295, zI ((o + 1 : Nat) : Int)] (n, s, S, R, zup M 295 8 ((i + 1 : Nat) : Int)) with
    | none => rfl
    | some v =>
      obtain ⟨v, q⟩ := v
      rcases v with v | v | v | v
      · rfl
      · rfl
      · rfl
      · simp only [zbV]
        cases hq2 : zcal zPP (d + 2) 125 [zA 295, zI 38] q with
        | none => rfl
        | some v =>
          obtain ⟨v, q⟩ := v
          rcases v with v | v | v | v
          · rfl
          · rfl
          · rfl
          · simp only [e_Reader_readOpening_74]
  rw [if_neg g37, if_neg g37]
  by_cases g20 : ysg B len i = 20
  · rw [if_pos g20, if_pos g20]
    cases hq : zcal zPP (d + 2) 126 [zA 295, zI ((o + 1 : Nat) : Int)] (n, s, S, R, zup M 295 8 ((i + 1 : Nat) : Int)) with
    | none => rfl
    | some v =>
      obtain ⟨v, q⟩ := v
      rcases v with v | v | v | v
      · rfl
      · rfl
      · rfl
      · simp only [zbV, e_Reader_readOpening_74]
  rw [if_neg g20, if_neg g20]
  have h71 : ∀ (g : Int) (q : zS), (zbV (zR zPP (d + 2) 124 71 [zA 295, zI (ysg B len i : Nat), zI o, zI (q01 true)] [zI g, zA 295] q) fun q => some (zU, q)) = zbI (zcal zPP (d + 2) 123 [zA 295, zI g, zI 0] q) fun _ q6 => some (zU, q6) := fun g q => by
    rw [e_Reader_readOpening_71]
    cases hq : zcal zPP (d + 2) 123 [zA 295, zI g, zI 0] q with
    | none => rfl
    | some v =>
      obtain ⟨v, q⟩ := v
      rcases v with v | v | v | v
      · simp only [zbI, zbV, e_Reader_readOpening_74]
      · rfl
      · rfl
      · rfl
  cases hq : zcal zPP (d + 2) 122 [zA 295, zI ((o + 1 : Nat) : Int)] (n, s, S, R, zup M 295 8 ((i + 1 : Nat) : Int)) with
  | none => rfl
  | some v =>
    obtain ⟨v, q⟩ := v
    rcases v with v | v | v | v
    · rfl
    · rfl
    · rfl
    · show zbV (if ysg B len i = 34 then zR zPP (d + 2) 124 71 [zA 295, zI (ysg B len i : Nat), zI o, zI (q01 true)] [zI 42, zA 295] q else zR zPP (d + 2) 124 71 [zA 295, zI (ysg B len i : Nat), zI o, zI (q01 true)] [zI (ysg B len i : Nat), zA 295] q) (fun q => some (zU, q)) = zbI (zcal zPP (d + 2) 123 [zA 295, zI (ycs (ysg B len i) : Nat), zI 0] q) fun _ q6 => some (zU, q6)
      unfold ycs
      by_cases g34 : ysg B len i = 34
      · rw [if_pos g34, if_pos g34]
        exact h71 42 q
      · rw [if_neg g34, if_neg g34]
        exact h71 _ q
theorem yc5 (hF : qFx S R) (hk : yTk B len M0 (N + 1)) (hN : N ≤ 300) {out : yO} (ho : o < 8) (hi : i < N) (hg : ysg B len i = 37) (hQ : yQC n s S R B len M0 4 (o + 1) (i + 1) out) :
    (∀ f k, out = yft f k → yQC n s S R B len M0 0 o i (yft f k)) ∧
    ∀ j Lc Lm D, out = yok j Lc Lm D → j ≤ N → (∀ c, (Lc c).length ≤ j - (i + 1)) → (ysg B len j = 38 → yQC n s S R B len M0 0 o i (yok (j + 1) Lc Lm D)) ∧ (ysg B len j ≠ 38 → yQC n s S R B len M0 0 o i (yft 1 j)) := by
  unfold yQC at hQ
  rw [if_neg (by decide)] at hQ
  have hop : yopn (ysg B len i) = true := by rw [hg]; rfl
  have key : ∀ y M c, 8 * (8 - o) + 4 ≤ y + 4 → yCp M0 M i c → c ≤ i → yQc n s S R B len M0 (zup M 295 8 ((i + 1 : Nat) : Int)) c (zcal zPP (y + 2) 120 [zA 295, zI ((o + 1 : Nat) : Int)] (n, s, S, R, zup M 295 8 ((i + 1 : Nat) : Int))) out := fun y M c hx hC hci => hQ (y + 2) _ c (by show 8 * (8 - (o + 1)) + 6 ≤ y + 2; omega) (yCp_at hC) (by omega)
  refine ⟨fun f k hout => ?_, fun j Lc Lm D hout hj hL => ⟨fun h38 => ?_, fun h38 => ?_⟩⟩
  · subst hout
    unfold yQC
    rw [if_neg (by decide)]
    intro x M c hx hC hci
    have hx : 8 * (8 - o) + 4 ≤ x := hx
    obtain ⟨y, rfl⟩ : ∃ y, x = y + 4 := ⟨x - 4, by omega⟩
    obtain ⟨M1, e1, e2⟩ := key y M c hx hC hci
    refine ⟨M1, ?_, e2⟩
    show zcal zPP (y + 4) 122 [zA 295, zI o] (n, s, S, R, M) = _
    rw [kx_opH hF hk hN hC hi hop ho, if_pos hg, e1]
    simp only [zbV]
    rw [kx_expJ (d := y + 1) hF e2]
  · subst hout
    unfold yQC
    rw [if_neg (by decide)]
    intro x M c hx hC hci
    have hx : 8 * (8 - o) + 4 ≤ x := hx
    obtain ⟨y, rfl⟩ : ∃ y, x = y + 4 := ⟨x - 4, by omega⟩
    obtain ⟨M1, e1, e2⟩ := key y M c hx hC hci
    have ex := kx_exp (n := n) (s := s) (d := y) (S := S) (R := R) (M := M1) hF hk hN e2.1 hj h38
    have ex : zcal zPP (y + 2) 125 [zA 295, zI 38] (n, s, S, R, M1) = some (zU, (n, s, S, R, zup M1 295 8 ((j + 1 : Nat) : Int))) := ex
    refine ⟨zup M1 295 8 ((j + 1 : Nat) : Int), ?_, yOk_row (yOk_at e2) (by rw [zup_rw (by decide)])⟩
    show zcal zPP (y + 4) 122 [zA 295, zI o] (n, s, S, R, M) = _
    rw [kx_opH hF hk hN hC hi hop ho, if_pos hg, e1]
    simp only [zbV]
    rw [ex]
  · subst hout
    unfold yQC
    rw [if_neg (by decide)]
    intro x M c hx hC hci
    have hx : 8 * (8 - o) + 4 ≤ x := hx
    obtain ⟨y, rfl⟩ : ∃ y, x = y + 4 := ⟨x - 4, by omega⟩
    obtain ⟨M1, e1, e2⟩ := key y M c hx hC hci
    have hLc := hL c
    obtain ⟨M2, ex, ej⟩ := kx_expN (n := n) (s := s) (d := y) (S := S) (R := R) (M := M1) hF hk hN e2.1 hj (by omega) h38
    have ex : zcal zPP (y + 2) 125 [zA 295, zI 38] (n, s, S, R, M1) = some (zU, (n, s, S, R, M2)) := ex
    refine ⟨M2, ?_, ej⟩
    show zcal zPP (y + 4) 122 [zA 295, zI o] (n, s, S, R, M) = _
    rw [kx_opH hF hk hN hC hi hop ho, if_pos hg, e1]
    simp only [zbV]
    rw [ex]
theorem yc6 (hF : qFx S R) (hk : yTk B len M0 (N + 1)) (hN : N ≤ 300) {out : yO} (ho : o < 8) (hi : i < N) (hg : ysg B len i = 34 ∨ ysg B len i = 18 ∨ ysg B len i = 19) (hQ : yQC n s S R B len M0 0 (o + 1) (i + 1) out) :
    (∀ f k, out = yft f k → yQC n s S R B len M0 0 o i (yft f k)) ∧
    ∀ j Lc Lm D Lm3 D3, out = yok j Lc Lm D → j ≤ N → (∀ c, (Lc c).length ≤ j - (i + 1)) → i + 1 < j → yQC n s S R B len M0 0 o i (yok j (fun c => Lc c ++ [(ycs (ysg B len i), 0)]) Lm3 D3) := by
  unfold yQC at hQ
  rw [if_neg (by decide)] at hQ
  have hop : yopn (ysg B len i) = true := by rcases hg with h | h | h <;> (rw [h]; rfl)
  have g37 : ¬ ysg B len i = 37 := by omega
  have g20 : ¬ ysg B len i = 20 := by omega
  have hcs : ycs (ysg B len i) < 100 := by rcases hg with h | h | h <;> (rw [h]; decide)
  have key : ∀ y M c, 8 * (8 - o) + 4 ≤ y + 4 → yCp M0 M i c → c ≤ i → yQc n s S R B len M0 (zup M 295 8 ((i + 1 : Nat) : Int)) c (zcal zPP (y + 2) 122 [zA 295, zI ((o + 1 : Nat) : Int)] (n, s, S, R, zup M 295 8 ((i + 1 : Nat) : Int))) out := fun y M c hx hC hci => hQ (y + 2) _ c (by show 8 * (8 - (o + 1)) + 4 ≤ y + 2; omega) (yCp_at hC) (by omega)
  refine ⟨fun f k hout => ?_, fun j Lc Lm D Lm3 D3 hout hj hL hij => ?_⟩
  · subst hout
    unfold yQC
    rw [if_neg (by decide)]
    intro x M c hx hC hci
    have hx : 8 * (8 - o) + 4 ≤ x := hx
    obtain ⟨y, rfl⟩ : ∃ y, x = y + 4 := ⟨x - 4, by omega⟩
    obtain ⟨M1, e1, e2⟩ := key y M c hx hC hci
    obtain ⟨v, M2, o1, o2, -⟩ := kx_orderJ (n := n) (s := s) (d := y + 1) hF e2 (ycs (ysg B len i) : Nat) 0
    refine ⟨M2, ?_, o2⟩
    show zcal zPP (y + 4) 122 [zA 295, zI o] (n, s, S, R, M) = _
    rw [kx_opH hF hk hN hC hi hop ho, if_neg g37, if_neg g20, e1]
    simp only [zbV]
    rw [o1]
    rfl
  · subst hout
    unfold yQC
    rw [if_neg (by decide)]
    intro x M c hx hC hci
    have hx : 8 * (8 - o) + 4 ≤ x := hx
    obtain ⟨y, rfl⟩ : ∃ y, x = y + 4 := ⟨x - 4, by omega⟩
    obtain ⟨M1, e1, e2⟩ := key y M c hx hC hci
    have hLc := hL c
    have o1 := kx_order (n := n) (s := s) (d := y + 1) (S := S) (R := R) (M := M1) hF e2.1.2.1 (by omega) (g := ycs (ysg B len i)) (w := 0) hcs (by decide)
    have o1 : zcal zPP (y + 2) 123 [zA 295, zI (ycs (ysg B len i) : Nat), zI 0] (n, s, S, R, M1) = _ := o1
    refine ⟨_, ?_, yOk_row (yOk_order e2) (by rw [zup_rw (by decide)])⟩
    show zcal zPP (y + 4) 122 [zA 295, zI o] (n, s, S, R, M) = _
    rw [kx_opH hF hk hN hC hi hop ho, if_neg g37, if_neg g20, e1]
    simp only [zbV]
    rw [o1]
    rfl
theorem yc7 (hF : qFx S R) (hk : yTk B len M0 (N + 1)) (hN : N ≤ 300) {out : yO} (ho : o < 8) (hi : i < N) (hg : ysg B len i = 20) (hQ : yQC n s S R B len M0 2 (o + 1) (i + 1) out) : yQC n s S R B len M0 0 o i out := by
  unfold yQC at hQ
  rw [if_neg (by decide)] at hQ
  have hop : yopn (ysg B len i) = true := by rw [hg]; rfl
  unfold yQC
  rw [if_neg (by decide)]
  intro x M c hx hC hci
  have hx : 8 * (8 - o) + 4 ≤ x := hx
  obtain ⟨y, rfl⟩ : ∃ y, x = y + 4 := ⟨x - 4, by omega⟩
  have q := hQ (y + 2) (zup M 295 8 ((i + 1 : Nat) : Int)) c (by show 8 * (8 - (o + 1)) + 10 ≤ y + 2; omega) (yCp_at hC) (by omega)
  have hh : zcal zPP (y + 4) 122 [zA 295, zI o] (n, s, S, R, M) = zbV (zcal zPP (y + 2) 126 [zA 295, zI ((o + 1 : Nat) : Int)] (n, s, S, R, zup M 295 8 ((i + 1 : Nat) : Int))) (fun q4 => some (zU, q4)) := by
    rw [kx_opH hF hk hN hC hi hop ho, if_neg (by omega), if_pos hg]
  show yQc n s S R B len M0 M c (zcal zPP (y + 4) 122 [zA 295, zI o] (n, s, S, R, M)) out
  rw [hh]
  cases out with
  | inl r =>
    obtain ⟨M1, e1, e2⟩ := q
    have e1 : zcal zPP (y + 2) 126 [zA 295, zI ((o + 1 : Nat) : Int)] (n, s, S, R, zup M 295 8 ((i + 1 : Nat) : Int)) = _ := e1
    exact ⟨M1, by rw [e1]; rfl, e2⟩
  | inr r =>
    obtain ⟨j, Lc, Lm, D⟩ := r
    obtain ⟨M1, e1, e2⟩ := q
    have e1 : zcal zPP (y + 2) 126 [zA 295, zI ((o + 1 : Nat) : Int)] (n, s, S, R, zup M 295 8 ((i + 1 : Nat) : Int)) = _ := e1
    exact ⟨M1, by rw [e1]; rfl, yOk_row e2 (by rw [zup_rw (by decide)])⟩
end QF
