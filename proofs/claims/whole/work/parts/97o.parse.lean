/-! BOTH SIDES: every text has one outcome, the class's and the model's -/
def yKc (L : List (Nat × Nat)) : Prop := ∀ e ∈ L, e.1 < 100 ∧ e.2 < 16384
def yKm (L : List (Nat × Int)) : Prop := ∀ e ∈ L, (e.1 = 0 → 0 ≤ e.2 ∧ e.2 ≤ 9999) ∧ (e.1 = 1 → 0 ≤ e.2 ∧ e.2 < 8)
/-- orders and codes are small -/
def yK (i : Nat) : yO → Prop
  | .inl ft => ft.1 ≠ 0
  | .inr (_, Lc, Lm, _) => (∀ c, c ≤ i → yKc (Lc c)) ∧ yKm Lm
theorem yKc_1 {g w : Nat} (hg : g < 100) (hw : w < 16384) : yKc [(g, w)] := fun e he => by
  cases he with
  | head => exact ⟨hg, hw⟩
  | tail _ h => cases h
theorem yKc_a {L L' : List (Nat × Nat)} (h : yKc L) (h' : yKc L') : yKc (L ++ L') := fun e he => (List.mem_append.mp he).elim (h e) (h' e)
theorem yKc_c {g w : Nat} {L : List (Nat × Nat)} (hg : g < 100) (hw : w < 16384) (h : yKc L) : yKc ((g, w) :: L) := yKc_a (yKc_1 hg hw) h
theorem yKm_1 {g : Nat} {w : Int} (hw : (g = 0 → 0 ≤ w ∧ w ≤ 9999) ∧ (g = 1 → 0 ≤ w ∧ w < 8)) : yKm [(g, w)] := fun e he => by
  cases he with
  | head => exact hw
  | tail _ h => cases h
theorem yKm_0 {g : Nat} : yKm [(g, 0)] := yKm_1 ⟨fun _ => by decide, fun _ => by decide⟩
theorem yKm_a {L L' : List (Nat × Int)} (h : yKm L) (h' : yKm L') : yKm (L ++ L') := fun e he => (List.mem_append.mp he).elim (h e) (h' e)
theorem yKm_c {g : Nat} {L : List (Nat × Int)} (h : yKm L) : yKm ((g, 0) :: L) := yKm_a yKm_0 h
theorem qisn_s {g : Nat} (h : qisn g = true) : g < 100 ∧ qnm g < 8 := by
  unfold qisn at h
  unfold qnm
  simp at h
  (repeat' split) <;> omega
theorem ycm_s {g : Nat} (h : ycm g = true) : g < 100 := by
  unfold ycm at h
  simp at h
  omega
def yBo (B : Nat → Nat) (len N : Nat) (ag : Bool) (m o i : Nat) (out : yO) : Prop :=
  yG N m i out ∧ (yN m o out ∧ yK i out) ∧
  (∀ n s S R d b M0, qFx S R → b ≤ 2115 → yTa B len M0 → (M0 305 14 = 1 ↔ ag = true) → yQM n s S R d B len b M0 m o i out) ∧
  (∀ n s S R M0, qFx S R → yTk B len M0 (N + 1) → (M0 295 11 = 1 ↔ ag = true) → yQC n s S R B len M0 m o i out)
theorem yGok {N m i j : Nat} {Lc : Nat → List (Nat × Nat)} {Lm : List (Nat × Int)} {D : qE → Int → Int} (h : yG N m i (yok j Lc Lm D)) : i ≤ j ∧ j ≤ N ∧ (m < 7 → i < j) ∧ (∀ c, (Lc c).length ≤ j - i) ∧ Lm.length ≤ j - i := h
theorem yparse {B : Nat → Nat} {len N : Nat} (ag : Bool) (hN : ysg B len N = 43) (h300 : N ≤ 300) (hw : ∀ i, ywo B len i ≤ 10000) :
    ∀ md, md < 11 → ∀ o, o ≤ 8 → ∀ i, i ≤ N → ∃ out, yBo B len N ag md o i out := by
  have hlt : ∀ j, j ≤ N → ysg B len j ≠ 43 → j < N := fun j h1 h2 => by
    rcases Nat.lt_or_ge j N with h | h
    · exact h
    · have : j = N := by omega
      rw [this, hN] at h2
      exact absurd rfl h2
  have hqn : ∀ g, qisn g = true → g ≠ 43 := fun g h z => by rw [z] at h; exact absurd h (by decide)
  have main := ytotal (Q := yBo B len N ag) (sg := ysg B len) (wo := ywo B len) (ag := ag) (N := N) hN (fun h => h.1)
    (fun {o i} ho hi hg hwo => by
      have hiN := hlt i hi (by omega)
      refine ⟨⟨by show i ≤ i + 1; omega, by show i + 1 ≤ N; omega, fun _ => by show i < i + 1; omega, fun c => by show 1 ≤ i + 1 - i; omega, by show 1 ≤ i + 1 - i; omega⟩, ⟨yn1 ho hwo, fun c hc => yKc_1 (by decide) (by omega), yKm_1 ⟨fun _ => by omega, fun z => by cases z⟩⟩, fun n s S R d b M0 hF hb ht ha => yq1 hF hb ht (by omega) hg hwo, fun n s S R M0 hF hk ha => (yc1 hF hk h300 hiN hg (hw i)).1 hwo⟩)
    (fun {o i} ho hi hg hwo => by
      have hiN := hlt i hi (by omega)
      exact ⟨trivial, ⟨trivial, by first | exact Nat.succ_ne_zero _ | exact hQ3.2.1.2 | exact hQ2.2.1.2 | exact hQ.2.1.2⟩, fun n s S R d b M0 hF hb ht ha => yqbad hF ht (.inl ⟨hg, hwo, rfl⟩), fun n s S R M0 hF hk ha => (yc1 hF hk h300 hiN hg (hw i)).2 hwo⟩)
    (fun {o i} ho hi hg h14 => by
      have hiN := hlt i hi (hqn _ hg)
      refine ⟨⟨by show i ≤ i + 1; omega, by show i + 1 ≤ N; omega, fun _ => by show i < i + 1; omega, fun c => by show 1 ≤ i + 1 - i; omega, by show 1 ≤ i + 1 - i; omega⟩, ⟨yn2 ho hg, fun c hc => yKc_1 (qisn_s hg).1 (by decide), yKm_1 ⟨(fun z => by cases z), fun _ => by have := (qisn_s hg).2; omega⟩⟩, fun n s S R d b M0 hF hb ht ha => yq2 hF hb ht (by omega) hg (fun z => h14 ⟨z.1, ha.mp z.2⟩), fun n s S R M0 hF hk ha => (yc2 hF hk h300 hiN hg).1 (fun z => h14 ⟨z.1, ha.mp z.2⟩)⟩)
    (fun {o i} ho hi hg h14 => by
      have hiN := hlt i hi (by omega)
      exact ⟨trivial, ⟨trivial, by first | exact Nat.succ_ne_zero _ | exact hQ3.2.1.2 | exact hQ2.2.1.2 | exact hQ.2.1.2⟩, fun n s S R d b M0 hF hb ht ha => yqbad hF ht (.inr (.inl ⟨hg, ha.mpr h14, rfl⟩)), fun n s S R M0 hF hk ha => (yc2 hF hk h300 hiN (by rw [hg]; decide)).2 ⟨hg, ha.mpr h14⟩⟩)
    (fun {o i} ho hi h41 hn hop => ⟨trivial, ⟨trivial, by first | exact Nat.succ_ne_zero _ | exact hQ3.2.1.2 | exact hQ2.2.1.2 | exact hQ.2.1.2⟩, fun n s S R d b M0 hF hb ht ha => yqbad hF ht (.inr (.inr ⟨h41, hn, hop, rfl⟩)), fun n s S R M0 hF hk ha => (yc34 hF hk h300 hi h41 hn).1 hop⟩)
    (fun {o i} ho hi hop h8 => by
      have hg := yop_o hop
      have h41 : ysg B len i ≠ 41 := by omega
      have hn : qisn (ysg B len i) = false := by rcases hg with h | h | h | h | h <;> (rw [h]; decide)
      have hiN := hlt i hi (by omega)
      exact ⟨trivial, ⟨trivial, by first | exact Nat.succ_ne_zero _ | exact hQ3.2.1.2 | exact hQ2.2.1.2 | exact hQ.2.1.2⟩, fun n s S R d b M0 hF hb ht ha => yq4 hF hb ht (by omega) hop (by omega), fun n s S R M0 hF hk ha => (yc34 hF hk h300 hi h41 hn).2 hop h8⟩)
    (fun {o i j Lc Lm D} ho hi hg hQ hj => by
      obtain ⟨g, ⟨mn, kn⟩, qm, qc⟩ := hQ
      obtain ⟨g1, g2, g3, g4, g5⟩ := yGok g
      have hjN := hlt j g2 (by omega)
      have g3 := g3 (by decide)
      refine ⟨⟨by show i ≤ j + 1; omega, by show j + 1 ≤ N; omega, fun _ => by show i < j + 1; omega, fun c => by have := g4 c; show (Lc c).length ≤ j + 1 - i; omega, by show Lm.length ≤ j + 1 - i; omega⟩, ⟨yn_up (m := 4) (m' := 0) (by decide) (by decide) rfl (by show 7 * o + 6 ≤ 7 * (o + 1) + 4; omega) mn, fun c hc => kn.1 c (by omega), kn.2⟩, fun n s S R d b M0 hF hb ht ha => (yq5 hF hb ht ho (by omega) hg (qm n s S R d b M0 hF hb ht ha)).1 (by omega) hj, fun n s S R M0 hF hk ha => ((yc5 hF hk h300 ho hi hg (qc n s S R M0 hF hk ha)).2 j Lc Lm D rfl g2 g4).1 hj⟩)
    (fun {o i j Lc Lm D} ho hi hg hQ hj => by
      obtain ⟨g, ⟨mn, kn⟩, qm, qc⟩ := hQ
      obtain ⟨g1, g2, g3, g4, g5⟩ := yGok g
      exact ⟨trivial, ⟨trivial, by first | exact Nat.succ_ne_zero _ | exact hQ3.2.1.2 | exact hQ2.2.1.2 | exact hQ.2.1.2⟩, fun n s S R d b M0 hF hb ht ha => (yq5 hF hb ht ho (by omega) hg (qm n s S R d b M0 hF hb ht ha)).2 hj, fun n s S R M0 hF hk ha => ((yc5 hF hk h300 ho hi hg (qc n s S R M0 hF hk ha)).2 j Lc Lm D rfl g2 g4).2 hj⟩)
    (fun {o i f k} ho hi hg hQ => ⟨trivial, ⟨trivial, by first | exact Nat.succ_ne_zero _ | exact hQ3.2.1.2 | exact hQ2.2.1.2 | exact hQ.2.1.2⟩, fun n s S R d b M0 hF hb ht ha => yq5f hF hb ht ho (by omega) hg (hQ.2.2.1 n s S R d b M0 hF hb ht ha), fun n s S R M0 hF hk ha => (yc5 hF hk h300 ho hi hg (hQ.2.2.2 n s S R M0 hF hk ha)).1 f k rfl⟩)
    (fun {o i j Lc Lm D} ho hi hg hQ => by
      obtain ⟨g, ⟨mn, kn⟩, qm, qc⟩ := hQ
      obtain ⟨g1, g2, g3, g4, g5⟩ := yGok g
      have g3 := g3 (by decide)
      refine ⟨⟨by show i ≤ j; omega, g2, fun _ => by show i < j; omega, fun c => by have := g4 c; show (Lc c ++ [_]).length ≤ j - i; rw [List.length_append]; show (Lc c).length + 1 ≤ j - i; omega, by show (Lm ++ [_]).length ≤ j - i; rw [List.length_append]; show Lm.length + 1 ≤ j - i; omega⟩, ⟨yn6 ho hg mn, fun c hc => yKc_a (kn.1 c (by omega)) (yKc_1 (by unfold ycs; split <;> omega) (by decide)), yKm_a kn.2 yKm_0⟩, fun n s S R d b M0 hF hb ht ha => yq6 hF hb ht ho (by omega) hg (qm n s S R d b M0 hF hb ht ha), fun n s S R M0 hF hk ha => (yc6 hF hk h300 ho hi hg (qc n s S R M0 hF hk ha)).2 j Lc Lm D _ _ rfl g2 g4 g3⟩)
    (fun {o i f k} ho hi hg hQ => ⟨trivial, ⟨trivial, by first | exact Nat.succ_ne_zero _ | exact hQ3.2.1.2 | exact hQ2.2.1.2 | exact hQ.2.1.2⟩, fun n s S R d b M0 hF hb ht ha => yq6 hF hb ht ho (by omega) hg (hQ.2.2.1 n s S R d b M0 hF hb ht ha), fun n s S R M0 hF hk ha => (yc6 hF hk h300 ho hi hg (hQ.2.2.2 n s S R M0 hF hk ha)).1 f k rfl⟩)
    (fun {o i j Lc Lm D} ho hi hg hQ => by
      obtain ⟨g, ⟨mn, kn⟩, qm, qc⟩ := hQ
      obtain ⟨g1, g2, g3, g4, g5⟩ := yGok g
      have g3 := g3 (by decide)
      exact ⟨⟨by show i ≤ j; omega, g2, fun _ => by show i < j; omega, fun c => by have := g4 c; show (Lc c).length ≤ j - i; omega, by show Lm.length ≤ j - i; omega⟩, ⟨yn_up (m := 2) (m' := 0) (by decide) (by decide) rfl (by show 7 * o + 6 ≤ 7 * (o + 1) + 1; omega) mn, fun c hc => kn.1 c (by omega), kn.2⟩, fun n s S R d b M0 hF hb ht ha => yq7 hF hb ht ho (by omega) hg (qm n s S R d b M0 hF hb ht ha), fun n s S R M0 hF hk ha => yc7 hF hk h300 ho hi hg (qc n s S R M0 hF hk ha)⟩)
    (fun {o i f k} ho hi hg hQ => ⟨trivial, ⟨trivial, by first | exact Nat.succ_ne_zero _ | exact hQ3.2.1.2 | exact hQ2.2.1.2 | exact hQ.2.1.2⟩, fun n s S R d b M0 hF hb ht ha => yq7 hF hb ht ho (by omega) hg (hQ.2.2.1 n s S R d b M0 hF hb ht ha), fun n s S R M0 hF hk ha => yc7 hF hk h300 ho hi hg (hQ.2.2.2 n s S R M0 hF hk ha)⟩)
    (fun {l o i} hl ho hi hg => ⟨⟨Nat.le_refl _, hi, fun z => absurd z (by omega), fun c => Nat.zero_le _, Nat.zero_le _⟩, ⟨ynr0 hl, (fun c hc e he => by cases he), (fun e he => by cases he)⟩, fun n s S R d b M0 hF hb ht ha => yqr0 hl hg, fun n s S R M0 hF hk ha => ycr0 hF hk h300 hl hi hg⟩)
    (fun {l o i j Lc Lm D k Lc2 Lm2 D2} hl ho hi hg hQ hQ2 => by
      obtain ⟨g, ⟨mn, kn⟩, qm, qc⟩ := hQ
      obtain ⟨g1, g2, g3, g4, g5⟩ := yGok g
      have g3 := g3 (yl_f hl).2.2.2.2.1
      obtain ⟨gg, ⟨mn2, kn2⟩, qm2, qc2⟩ := hQ2
      obtain ⟨p1, p2, p3, p4, p5⟩ := yGok gg
      refine ⟨⟨by show i ≤ k; omega, p2, fun z => absurd z (by omega), fun c => ?_, ?_⟩, ⟨ynr1 hl ho hg mn mn2, fun c hc => yKc_a (kn.1 c (by omega)) (yKc_c (yop_s hl hg) (by decide) (kn2.1 _ (by have := g4 c; omega))), yKm_a kn.2 (yKm_c kn2.2)⟩, fun n s S R d b M0 hF hb ht ha => ((yqr1 hF hb ht hl (by omega) hg (qm n s S R d b M0 hF hb ht ha)).2 j Lc Lm D rfl _ (qm2 n s S R d b M0 hF hb ht ha)).2 k Lc2 Lm2 D2 _ _ rfl, fun n s S R M0 hF hk ha => ((ycr1 hF hk h300 hl hi hg (qc n s S R M0 hF hk ha)).2 j Lc Lm D rfl g2 g3 g4 _ (qc2 n s S R M0 hF hk ha)).2 k Lc2 Lm2 D2 _ _ rfl⟩
      · show (Lc c ++ _ :: Lc2 (c + (Lc c).length + 1)).length ≤ k - i
        rw [List.length_append, List.length_cons]
        have := g4 c
        have := p4 (c + (Lc c).length + 1)
        omega
      · show (Lm ++ _ :: Lm2).length ≤ k - i
        rw [List.length_append, List.length_cons]
        omega)
    (fun {l o i f k} hl ho hi hg hQ => ⟨trivial, ⟨trivial, by first | exact Nat.succ_ne_zero _ | exact hQ3.2.1.2 | exact hQ2.2.1.2 | exact hQ.2.1.2⟩, fun n s S R d b M0 hF hb ht ha => (yqr1 hF hb ht hl (by omega) hg (hQ.2.2.1 n s S R d b M0 hF hb ht ha)).1 f k rfl, fun n s S R M0 hF hk ha => (ycr1 hF hk h300 hl hi hg (hQ.2.2.2 n s S R M0 hF hk ha)).1 f k rfl⟩)
    (fun {l o i j Lc Lm D f k} hl ho hi hg hQ hQ2 => by
      obtain ⟨g, ⟨mn, kn⟩, qm, qc⟩ := hQ
      obtain ⟨g1, g2, g3, g4, g5⟩ := yGok g
      have g3 := g3 (yl_f hl).2.2.2.2.1
      exact ⟨trivial, ⟨trivial, by first | exact Nat.succ_ne_zero _ | exact hQ3.2.1.2 | exact hQ2.2.1.2 | exact hQ.2.1.2⟩, fun n s S R d b M0 hF hb ht ha => ((yqr1 hF hb ht hl (by omega) hg (qm n s S R d b M0 hF hb ht ha)).2 j Lc Lm D rfl _ (hQ2.2.2.1 n s S R d b M0 hF hb ht ha)).1 f k rfl, fun n s S R M0 hF hk ha => ((ycr1 hF hk h300 hl hi hg (qc n s S R M0 hF hk ha)).2 j Lc Lm D rfl g2 g3 g4 _ (hQ2.2.2.2 n s S R M0 hF hk ha)).1 f k rfl⟩)
    (fun {l o i j Lc Lm D k Lc2 Lm2 D2} hl ho hi hQ hQ2 => by
      obtain ⟨g, ⟨mn, kn⟩, qm, qc⟩ := hQ
      obtain ⟨g1, g2, g3, g4, g5⟩ := yGok g
      have g3 := g3 (yl_f hl).2.2.2.2.1
      obtain ⟨gg, ⟨mn2, kn2⟩, qm2, qc2⟩ := hQ2
      obtain ⟨p1, p2, p3, p4, p5⟩ := yGok gg
      refine ⟨⟨by show i ≤ k; omega, p2, fun _ => by show i < k; omega, fun c => ?_, ?_⟩, ⟨ynt hl mn mn2, fun c hc => yKc_a (kn.1 c (by omega)) (kn2.1 _ (by have := g4 c; omega)), yKm_a kn.2 kn2.2⟩, fun n s S R d b M0 hF hb ht ha => ((yqt hl (qm n s S R d b M0 hF hb ht ha)).2 j Lc Lm D rfl _ (qm2 n s S R d b M0 hF hb ht ha)).2 k Lc2 Lm2 D2 _ _ rfl, fun n s S R M0 hF hk ha => ((yct hF hl (qc n s S R M0 hF hk ha)).2 j Lc Lm D rfl g1 g4 _ (qc2 n s S R M0 hF hk ha)).2 k Lc2 Lm2 D2 _ _ rfl⟩
      · show (Lc c ++ Lc2 (c + (Lc c).length)).length ≤ k - i
        rw [List.length_append]
        have := g4 c
        have := p4 (c + (Lc c).length)
        omega
      · show (Lm ++ Lm2).length ≤ k - i
        rw [List.length_append]
        omega)
    (fun {l o i f k} hl ho hi hQ => ⟨trivial, ⟨trivial, by first | exact Nat.succ_ne_zero _ | exact hQ3.2.1.2 | exact hQ2.2.1.2 | exact hQ.2.1.2⟩, fun n s S R d b M0 hF hb ht ha => (yqt hl (hQ.2.2.1 n s S R d b M0 hF hb ht ha)).1 f k rfl, fun n s S R M0 hF hk ha => (yct hF hl (hQ.2.2.2 n s S R M0 hF hk ha)).1 f k rfl⟩)
    (fun {l o i j Lc Lm D f k} hl ho hi hQ hQ2 => by
      obtain ⟨g, ⟨mn, kn⟩, qm, qc⟩ := hQ
      obtain ⟨g1, g2, g3, g4, g5⟩ := yGok g
      exact ⟨trivial, ⟨trivial, by first | exact Nat.succ_ne_zero _ | exact hQ3.2.1.2 | exact hQ2.2.1.2 | exact hQ.2.1.2⟩, fun n s S R d b M0 hF hb ht ha => ((yqt hl (qm n s S R d b M0 hF hb ht ha)).2 j Lc Lm D rfl _ (hQ2.2.2.1 n s S R d b M0 hF hb ht ha)).1 f k rfl, fun n s S R M0 hF hk ha => ((yct hF hl (qc n s S R M0 hF hk ha)).2 j Lc Lm D rfl g1 g4 _ (hQ2.2.2.2 n s S R M0 hF hk ha)).1 f k rfl⟩)
    (fun {o i j Lc Lm D} ho hi hg hQ => by
      obtain ⟨g, ⟨mn, kn⟩, qm, qc⟩ := hQ
      obtain ⟨g1, g2, g3, g4, g5⟩ := yGok g
      have g3 := g3 (by decide)
      refine ⟨⟨by show i ≤ j; omega, g2, fun _ => by show i < j; omega, fun c => by have := g4 c; show (Lc c ++ [_]).length ≤ j - i; rw [List.length_append]; show (Lc c).length + 1 ≤ j - i; omega, by show (Lm ++ [_]).length ≤ j - i; rw [List.length_append]; show Lm.length + 1 ≤ j - i; omega⟩, ⟨yna1 mn, fun c hc => yKc_a (kn.1 c (by omega)) (yKc_1 (by decide) (by decide)), yKm_a kn.2 yKm_0⟩, fun n s S R d b M0 hF hb ht ha => (yqa1 hF hb ht ho (by omega) hg (qm n s S R d b M0 hF hb ht ha)).2 j Lc Lm D _ _ rfl, fun n s S R M0 hF hk ha => (yca1 hF hk h300 ho hi hg (qc n s S R M0 hF hk ha)).2 j Lc Lm D _ _ rfl g2 g3 g4⟩)
    (fun {o i f k} ho hi hg hQ => ⟨trivial, ⟨trivial, by first | exact Nat.succ_ne_zero _ | exact hQ3.2.1.2 | exact hQ2.2.1.2 | exact hQ.2.1.2⟩, fun n s S R d b M0 hF hb ht ha => (yqa1 hF hb ht ho (by omega) hg (hQ.2.2.1 n s S R d b M0 hF hb ht ha)).1 f k rfl, fun n s S R M0 hF hk ha => (yca1 hF hk h300 ho hi hg (hQ.2.2.2 n s S R M0 hF hk ha)).1 f k rfl⟩)
    (fun {o i} ho hi h8 hg => ⟨trivial, ⟨trivial, by first | exact Nat.succ_ne_zero _ | exact hQ3.2.1.2 | exact hQ2.2.1.2 | exact hQ.2.1.2⟩, fun n s S R d b M0 hF hb ht ha => yqa2 hF hb ht (by omega) hg (by omega), fun n s S R M0 hF hk ha => yca2 hF hk h300 h8 hi hg⟩)
    (fun {o i j Lc Lm D k Lc2 Lm2 D2} ho hi hg hQ hj hc hQ2 => by
      obtain ⟨g, ⟨mn, kn⟩, qm, qc⟩ := hQ
      obtain ⟨g1, g2, g3, g4, g5⟩ := yGok g
      have g3 := g3 (by decide)
      obtain ⟨gg, ⟨mn2, kn2⟩, qm2, qc2⟩ := hQ2
      obtain ⟨p1, p2, p3, p4, p5⟩ := yGok gg
      have p3 := p3 (by decide)
      refine ⟨⟨by show i ≤ k; omega, p2, fun _ => by show i < k; omega, fun c => ?_, ?_⟩, ⟨yna3 ho hc mn mn2, fun c hcc => yKc_a (kn.1 c (by omega)) (yKc_a (kn2.1 _ (by have := g4 c; omega)) (yKc_1 (ycm_s hc) (by decide))), yKm_a kn.2 (yKm_a kn2.2 yKm_0)⟩, fun n s S R d b M0 hF hb ht ha => (((yqa3 hF hb ht hg (qm n s S R d b M0 hF hb ht ha)).2 j Lc Lm D rfl).2 hc (by omega) _ (qm2 n s S R d b M0 hF hb ht ha)).2 k Lc2 Lm2 D2 _ _ rfl, fun n s S R M0 hF hk ha => (((yca3 hF hk h300 hi hg (qc n s S R M0 hF hk ha)).2 j Lc Lm D rfl g2 g3 g4).2 hc hj _ (qc2 n s S R M0 hF hk ha)).2 k Lc2 Lm2 D2 _ _ rfl p2 p3 p4⟩
      · show (Lc c ++ (Lc2 (c + (Lc c).length) ++ [_])).length ≤ k - i
        rw [List.length_append, List.length_append]
        have := g4 c
        have := p4 (c + (Lc c).length)
        show (Lc c).length + ((Lc2 (c + (Lc c).length)).length + 1) ≤ k - i
        omega
      · show (Lm ++ (Lm2 ++ [_])).length ≤ k - i
        rw [List.length_append, List.length_append]
        show Lm.length + (Lm2.length + 1) ≤ k - i
        omega)
    (fun {o i f k} ho hi hg hQ => ⟨trivial, ⟨trivial, by first | exact Nat.succ_ne_zero _ | exact hQ3.2.1.2 | exact hQ2.2.1.2 | exact hQ.2.1.2⟩, fun n s S R d b M0 hF hb ht ha => (yqa3 hF hb ht hg (hQ.2.2.1 n s S R d b M0 hF hb ht ha)).1 f k rfl, fun n s S R M0 hF hk ha => (yca3 hF hk h300 hi hg (hQ.2.2.2 n s S R M0 hF hk ha)).1 f k rfl⟩)
    (fun {o i j Lc Lm D} ho hi hg hQ hc => by
      obtain ⟨g, ⟨mn, kn⟩, qm, qc⟩ := hQ
      obtain ⟨g1, g2, g3, g4, g5⟩ := yGok g
      have g3 := g3 (by decide)
      exact ⟨trivial, ⟨trivial, by first | exact Nat.succ_ne_zero _ | exact hQ3.2.1.2 | exact hQ2.2.1.2 | exact hQ.2.1.2⟩, fun n s S R d b M0 hF hb ht ha => ((yqa3 hF hb ht hg (qm n s S R d b M0 hF hb ht ha)).2 j Lc Lm D rfl).1 hc, fun n s S R M0 hF hk ha => ((yca3 hF hk h300 hi hg (qc n s S R M0 hF hk ha)).2 j Lc Lm D rfl g2 g3 g4).1 hc⟩)
    (fun {o i j Lc Lm D f k} ho hi hg hQ hj hc hQ2 => by
      obtain ⟨g, ⟨mn, kn⟩, qm, qc⟩ := hQ
      obtain ⟨g1, g2, g3, g4, g5⟩ := yGok g
      have g3 := g3 (by decide)
      exact ⟨trivial, ⟨trivial, by first | exact Nat.succ_ne_zero _ | exact hQ3.2.1.2 | exact hQ2.2.1.2 | exact hQ.2.1.2⟩, fun n s S R d b M0 hF hb ht ha => (((yqa3 hF hb ht hg (qm n s S R d b M0 hF hb ht ha)).2 j Lc Lm D rfl).2 hc (by omega) _ (hQ2.2.2.1 n s S R d b M0 hF hb ht ha)).1 f k rfl, fun n s S R M0 hF hk ha => (((yca3 hF hk h300 hi hg (qc n s S R M0 hF hk ha)).2 j Lc Lm D rfl g2 g3 g4).2 hc hj _ (hQ2.2.2.2 n s S R M0 hF hk ha)).1 f k rfl⟩)
    (fun {o i j L1 m1 D1 k L2 m2 D2 l L3 m3 D3} ho hi hQ hj h21 hQ2 hk hk22 hQ3 hl h23 => by
      obtain ⟨g, ⟨mn, kn⟩, qm, qc⟩ := hQ
      obtain ⟨g1, g2, g3, g4, g5⟩ := yGok g
      have g3 := g3 (by decide)
      obtain ⟨gg, ⟨mn2, kn2⟩, qm2, qc2⟩ := hQ2
      obtain ⟨p1, p2, p3, p4, p5⟩ := yGok gg
      have p3 := p3 (by decide)
      obtain ⟨ggg, ⟨mn3, kn3⟩, qm3, qc3⟩ := hQ3
      obtain ⟨r1, r2, r3, r4, r5⟩ := yGok ggg
      have r3 := r3 (by decide)
      refine ⟨⟨by show i ≤ l + 1; omega, by show l + 1 ≤ N; omega, fun _ => by show i < l + 1; omega, fun c => ?_, ?_⟩, ⟨ync ho mn mn2 mn3, fun c hc => ?_, yKm_a kn.2 (yKm_a kn2.2 (yKm_a kn3.2 yKm_0))⟩, fun n s S R d b M0 hF hb ht ha => ?_, fun n s S R M0 hF hkk ha => ?_⟩
      · show (yif L1 L2 L3 c).length ≤ l + 1 - i
        unfold yif
        rw [List.length_append, List.length_cons, List.length_append, List.length_cons]
        have := g4 c
        have := p4 (c + (L1 c).length + 1)
        have := r4 (c + (L1 c).length + 1 + (L2 (c + (L1 c).length + 1)).length + 1)
        omega
      · show (m1 ++ (m2 ++ (m3 ++ [_]))).length ≤ l + 1 - i
        rw [List.length_append, List.length_append, List.length_append]
        show m1.length + (m2.length + (m3.length + 1)) ≤ l + 1 - i
        omega
      · show yKc (yif L1 L2 L3 c)
        unfold yif
        have a1 := g4 c
        have a2 := p4 (c + (L1 c).length + 1)
        have a3 := r4 (c + (L1 c).length + 1 + (L2 (c + (L1 c).length + 1)).length + 1)
        exact yKc_a (kn.1 c (by omega)) (yKc_c (by decide) (by omega) (yKc_a (kn2.1 _ (by omega)) (yKc_c (by decide) (by omega) (kn3.1 _ (by omega)))))
      · exact (((((((yqc hF hb ht (qm n s S R d b M0 hF hb ht ha)).2 j L1 m1 D1 rfl).2 h21 (by omega) _ (qm2 n s S R d b M0 hF hb ht ha)).2 k L2 m2 D2 rfl).2 hk22 (by omega) _ (qm3 n s S R d b M0 hF hb ht ha)).2 l L3 m3 D3 rfl).2 h23 (by omega) _ _)
      · exact (((((((ycc hF hkk h300 (qc n s S R M0 hF hkk ha)).2 j L1 m1 D1 rfl g2 g3 g4).2 h21 hj _ (qc2 n s S R M0 hF hkk ha)).2 k L2 m2 D2 rfl p2 p3 p4).2 hk22 hk _ (qc3 n s S R M0 hF hkk ha)).2 l L3 m3 D3 rfl r2 r3 r4).2 h23 hl _ _))
    (fun {o i f k} ho hi hQ => ⟨trivial, ⟨trivial, by first | exact Nat.succ_ne_zero _ | exact hQ3.2.1.2 | exact hQ2.2.1.2 | exact hQ.2.1.2⟩, fun n s S R d b M0 hF hb ht ha => (yqc hF hb ht (hQ.2.2.1 n s S R d b M0 hF hb ht ha)).1 f k rfl, fun n s S R M0 hF hk ha => (ycc hF hk h300 (hQ.2.2.2 n s S R M0 hF hk ha)).1 f k rfl⟩)
    (fun {o i j L1 m1 D1} ho hi hQ h21 => by
      obtain ⟨g, ⟨mn, kn⟩, qm, qc⟩ := hQ
      obtain ⟨g1, g2, g3, g4, g5⟩ := yGok g
      have g3 := g3 (by decide)
      exact ⟨trivial, ⟨trivial, by first | exact Nat.succ_ne_zero _ | exact hQ3.2.1.2 | exact hQ2.2.1.2 | exact hQ.2.1.2⟩, fun n s S R d b M0 hF hb ht ha => ((yqc hF hb ht (qm n s S R d b M0 hF hb ht ha)).2 j L1 m1 D1 rfl).1 h21, fun n s S R M0 hF hk ha => ((ycc hF hk h300 (qc n s S R M0 hF hk ha)).2 j L1 m1 D1 rfl g2 g3 g4).1 h21⟩)
    (fun {o i j L1 m1 D1 f k} ho hi hQ hj h21 hQ2 => by
      obtain ⟨g, ⟨mn, kn⟩, qm, qc⟩ := hQ
      obtain ⟨g1, g2, g3, g4, g5⟩ := yGok g
      have g3 := g3 (by decide)
      exact ⟨trivial, ⟨trivial, by first | exact Nat.succ_ne_zero _ | exact hQ3.2.1.2 | exact hQ2.2.1.2 | exact hQ.2.1.2⟩, fun n s S R d b M0 hF hb ht ha => (((yqc hF hb ht (qm n s S R d b M0 hF hb ht ha)).2 j L1 m1 D1 rfl).2 h21 (by omega) _ (hQ2.2.2.1 n s S R d b M0 hF hb ht ha)).1 f k rfl, fun n s S R M0 hF hkk ha => (((ycc hF hkk h300 (qc n s S R M0 hF hkk ha)).2 j L1 m1 D1 rfl g2 g3 g4).2 h21 hj _ (hQ2.2.2.2 n s S R M0 hF hkk ha)).1 f k rfl⟩)
    (fun {o i j L1 m1 D1 k L2 m2 D2} ho hi hQ hj h21 hQ2 hk22 => by
      obtain ⟨g, ⟨mn, kn⟩, qm, qc⟩ := hQ
      obtain ⟨g1, g2, g3, g4, g5⟩ := yGok g
      have g3 := g3 (by decide)
      obtain ⟨gg, ⟨mn2, kn2⟩, qm2, qc2⟩ := hQ2
      obtain ⟨p1, p2, p3, p4, p5⟩ := yGok gg
      have p3 := p3 (by decide)
      exact ⟨trivial, ⟨trivial, by first | exact Nat.succ_ne_zero _ | exact hQ3.2.1.2 | exact hQ2.2.1.2 | exact hQ.2.1.2⟩, fun n s S R d b M0 hF hb ht ha => ((((yqc hF hb ht (qm n s S R d b M0 hF hb ht ha)).2 j L1 m1 D1 rfl).2 h21 (by omega) _ (qm2 n s S R d b M0 hF hb ht ha)).2 k L2 m2 D2 rfl).1 hk22, fun n s S R M0 hF hkk ha => ((((ycc hF hkk h300 (qc n s S R M0 hF hkk ha)).2 j L1 m1 D1 rfl g2 g3 g4).2 h21 hj _ (qc2 n s S R M0 hF hkk ha)).2 k L2 m2 D2 rfl p2 p3 p4).1 hk22⟩)
    (fun {o i j L1 m1 D1 k L2 m2 D2 f l} ho hi hQ hj h21 hQ2 hk hk22 hQ3 => by
      obtain ⟨g, ⟨mn, kn⟩, qm, qc⟩ := hQ
      obtain ⟨g1, g2, g3, g4, g5⟩ := yGok g
      have g3 := g3 (by decide)
      obtain ⟨gg, ⟨mn2, kn2⟩, qm2, qc2⟩ := hQ2
      obtain ⟨p1, p2, p3, p4, p5⟩ := yGok gg
      have p3 := p3 (by decide)
      exact ⟨trivial, ⟨trivial, by first | exact Nat.succ_ne_zero _ | exact hQ3.2.1.2 | exact hQ2.2.1.2 | exact hQ.2.1.2⟩, fun n s S R d b M0 hF hb ht ha => (((((yqc hF hb ht (qm n s S R d b M0 hF hb ht ha)).2 j L1 m1 D1 rfl).2 h21 (by omega) _ (qm2 n s S R d b M0 hF hb ht ha)).2 k L2 m2 D2 rfl).2 hk22 (by omega) _ (hQ3.2.2.1 n s S R d b M0 hF hb ht ha)).1 f l rfl, fun n s S R M0 hF hkk ha => (((((ycc hF hkk h300 (qc n s S R M0 hF hkk ha)).2 j L1 m1 D1 rfl g2 g3 g4).2 h21 hj _ (qc2 n s S R M0 hF hkk ha)).2 k L2 m2 D2 rfl p2 p3 p4).2 hk22 hk _ (hQ3.2.2.2 n s S R M0 hF hkk ha)).1 f l rfl⟩)
    (fun {o i j L1 m1 D1 k L2 m2 D2 l L3 m3 D3} ho hi hQ hj h21 hQ2 hk hk22 hQ3 h23 => by
      obtain ⟨g, ⟨mn, kn⟩, qm, qc⟩ := hQ
      obtain ⟨g1, g2, g3, g4, g5⟩ := yGok g
      have g3 := g3 (by decide)
      obtain ⟨gg, ⟨mn2, kn2⟩, qm2, qc2⟩ := hQ2
      obtain ⟨p1, p2, p3, p4, p5⟩ := yGok gg
      have p3 := p3 (by decide)
      obtain ⟨ggg, ⟨mn3, kn3⟩, qm3, qc3⟩ := hQ3
      obtain ⟨r1, r2, r3, r4, r5⟩ := yGok ggg
      have r3 := r3 (by decide)
      exact ⟨trivial, ⟨trivial, by first | exact Nat.succ_ne_zero _ | exact hQ3.2.1.2 | exact hQ2.2.1.2 | exact hQ.2.1.2⟩, fun n s S R d b M0 hF hb ht ha => ((((((yqc hF hb ht (qm n s S R d b M0 hF hb ht ha)).2 j L1 m1 D1 rfl).2 h21 (by omega) _ (qm2 n s S R d b M0 hF hb ht ha)).2 k L2 m2 D2 rfl).2 hk22 (by omega) _ (qm3 n s S R d b M0 hF hb ht ha)).2 l L3 m3 D3 rfl).1 h23, fun n s S R M0 hF hkk ha => ((((((ycc hF hkk h300 (qc n s S R M0 hF hkk ha)).2 j L1 m1 D1 rfl g2 g3 g4).2 h21 hj _ (qc2 n s S R M0 hF hkk ha)).2 k L2 m2 D2 rfl p2 p3 p4).2 hk22 hk _ (qc3 n s S R M0 hF hkk ha)).2 l L3 m3 D3 rfl r2 r3 r4).1 h23⟩)
  exact fun md hmd o ho i hi => main (N - i) i (Nat.le_refl _) hi md hmd o ho
