/-! DAYS: the row behind a RING settled, a MIDSUMMER, a DAY -/
def qnx (x : Int) : Int := (x * 499 + 383).tmod 30689
theorem qnx_in {x : Int} (h : 0 ≤ x) : 0 ≤ qnx x ∧ qnx x < 30689 := by
  unfold qnx
  rw [Int.tmod_eq_emod_of_nonneg (by omega)]
  omega
/-- a cut written down -/
def qbw (A : Nat → Int) (u : Int) : Nat → Int := if A 10 = 30 then fun k => if 4850 ≤ k ∧ k < 4879 then A (k + 1) else if k = 4879 then u else A k else qup (qup A (4850 + (A 10).toNat) u) 10 (A 10 + 1)
def qpu (A : Nat → Int) (p o y : Nat) : Int := ((A 7 * 5 + p) * 5 + o) * 24 + y
def qkp (fl : Bool) (A : Nat → Int) (u : Int) : Nat → Int := if fl = true then qbw A u else A
/-- a RING with a PERSON settled -/
def qst (w : qWt) (fl : Bool) (o y : Nat) (X : (Nat → Int) × Nat) : (Nat → Int) × Nat :=
  if (X.1 9).tmod 10 < qLaw w (qEn X.1 o y (X.1 (11 + 24 * o + y) - 3).toNat) 2 (X.1 (136 + y)) then (qup (qup X.1 9 (qnx (X.1 9))) (11 + 24 * o + y) 1, X.2)
  else (qkp fl (qup (qup (qup X.1 9 (qnx (X.1 9))) (11 + 24 * o + y) 2) 8 (qcut (X.1 8 + 1) 0 9999)) (qpu X.1 (X.1 (11 + 24 * o + y) - 3).toNat o y), X.2 + 1)
def qsy (w : qWt) (fl : Bool) (o : Nat) : Nat → (Nat → Int) × Nat → (Nat → Int) × Nat
  | 0, X => X
  | y + 1, X => if 3 ≤ (qsy w fl o y X).1 (11 + 24 * o + y) then qst w fl o y (qsy w fl o y X) else qsy w fl o y X
def qso (w : qWt) (fl : Bool) : Nat → (Nat → Int) × Nat → (Nat → Int) × Nat
  | 0, X => X
  | o + 1, X => qsy w fl o 24 (qso w fl o X)
def qdy (w : qWt) (fl : Bool) (X : (Nat → Int) × Nat) : (Nat → Int) × Nat :=
  if (X.1 7 + 1).tmod 30 = 0 then qso w fl (X.1 0).toNat (qup X.1 7 (X.1 7 + 1), X.2) else (qup X.1 7 (X.1 7 + 1), X.2)
def qdn (w : qWt) (fl : Bool) : Nat → (Nat → Int) × Nat → (Nat → Int) × Nat
  | 0, X => X
  | k + 1, X => qdy w fl (qdn w fl k X)
theorem qsy_s (w : qWt) (fl : Bool) (o y : Nat) (X : (Nat → Int) × Nat) : qsy w fl o (y + 1) X = if 3 ≤ (qsy w fl o y X).1 (11 + 24 * o + y) then qst w fl o y (qsy w fl o y X) else qsy w fl o y X := rfl
theorem qso_s (w : qWt) (fl : Bool) (o : Nat) (X : (Nat → Int) × Nat) : qso w fl (o + 1) X = qsy w fl o 24 (qso w fl o X) := rfl
/-- what may change: DAY, CUTS, X, WRITTEN, RINGS of PERSONS, the BOOK -/
def qKs (A A' : Nat → Int) : Prop := (∀ k, k ≠ 7 → k ≠ 8 → k ≠ 9 → k ≠ 10 → (k < 11 ∨ 131 ≤ k) → k < 4850 → A' k = A k) ∧ (∀ o y, o < 5 → y < 24 → (A' (11 + 24 * o + y) = 0 ↔ A (11 + 24 * o + y) = 0)) ∧ qIn A'
theorem qKs_r {A : Nat → Int} (h : qIn A) : qKs A A := ⟨fun _ _ _ _ _ _ _ => rfl, fun _ _ _ _ => Iff.rfl, h⟩
theorem qKs_t {A B C : Nat → Int} (h1 : qKs A B) (h2 : qKs B C) : qKs A C := ⟨fun k a b c d e f => (h2.1 k a b c d e f).trans (h1.1 k a b c d e f), fun o y ho hy => (h2.2.1 o y ho hy).trans (h1.2.1 o y ho hy), h2.2.2⟩
theorem qcut1 {v : Int} (h : 0 ≤ v ∧ v ≤ 9999) : 0 ≤ qcut (v + 1) 0 9999 ∧ qcut (v + 1) 0 9999 ≤ 9999 ∧ (v < 9999 → qcut (v + 1) 0 9999 = v + 1) ∧ (¬ v < 9999 → qcut (v + 1) 0 9999 = v) := by
  unfold qcut
  rw [if_neg (by omega)]
  by_cases h1 : 9999 < v + 1
  · rw [if_pos h1]; omega
  · rw [if_neg h1]; omega
/-- cells that a settling leaves -/
theorem qkp_k {fl : Bool} {A : Nat → Int} {u : Int} {k : Nat} (h : k ≠ 10) (hk : k < 4850) (hA : 0 ≤ A 10) : qkp fl A u k = A k := by
  unfold qkp
  split
  · unfold qbw
    split
    · show (if 4850 ≤ k ∧ k < 4879 then _ else if k = 4879 then _ else _) = _
      rw [if_neg (by omega), if_neg (by omega)]
    · rw [qup_ne h, qup_ne (by omega)]
  · rfl
theorem qkp_10 {fl : Bool} {A : Nat → Int} {u : Int} (hA : 0 ≤ A 10 ∧ A 10 ≤ 30) : 0 ≤ qkp fl A u 10 ∧ qkp fl A u 10 ≤ 30 ∧ (fl = false → qkp fl A u 10 = A 10) := by
  unfold qkp
  cases fl with
  | true =>
    rw [if_pos rfl]
    unfold qbw
    split
    · show 0 ≤ (if 4850 ≤ 10 ∧ 10 < 4879 then A (10 + 1) else if 10 = 4879 then u else A 10) ∧ (if 4850 ≤ 10 ∧ 10 < 4879 then A (10 + 1) else if 10 = 4879 then u else A 10) ≤ 30 ∧ _
      rw [if_neg (by decide), if_neg (by decide)]
      exact ⟨hA.1, hA.2, fun h => by cases h⟩
    · rw [qup_at]
      exact ⟨by omega, by omega, fun h => by cases h⟩
  | false =>
    rw [if_neg (by decide)]
    exact ⟨hA.1, hA.2, fun _ => rfl⟩
theorem qst_k {w : qWt} {fl : Bool} {o y : Nat} {X : (Nat → Int) × Nat} (h10 : 0 ≤ X.1 10) (ho : o < 5) (hy : y < 24) {k : Nat} (h8 : k ≠ 8) (h9 : k ≠ 9) (hk10 : k ≠ 10) (hr : k ≠ 11 + 24 * o + y) (hk : k < 4850) : (qst w fl o y X).1 k = X.1 k := by
  unfold qst
  split
  · show qup _ _ _ k = _
    rw [qup_ne hr, qup_ne h9]
  · show qkp _ _ _ k = _
    rw [qkp_k hk10 hk (by rw [qup_ne (by decide), qup_ne (by omega), qup_ne (by decide)]; exact h10), qup_ne h8, qup_ne hr, qup_ne h9]
theorem qst_Ks {w : qWt} {fl : Bool} {o y : Nat} {X : (Nat → Int) × Nat} (hI : qIn X.1) (ho : (o : Int) < X.1 0) (hy : y < 24) (h3 : 3 ≤ X.1 (11 + 24 * o + y)) : qKs X.1 (qst w fl o y X).1 ∧ (qst w fl o y X).1 7 = X.1 7 ∧ (qst w fl o y X).2 ≤ X.2 + 1 := by
  have hA5 := hI.1.2
  have hp0 := hI.2.1.1
  have h8 := hI.2.2.2.2.2.2.2.2.1
  have h9 := hI.2.2.2.2.2.2.2.2.2.1
  have h10 := hI.2.2.2.2.2.2.2.2.2.2.1
  have hK : ∀ k, k ≠ 8 → k ≠ 9 → k ≠ 10 → k ≠ 11 + 24 * o + y → k < 4850 → (qst w fl o y X).1 k = X.1 k := fun k a b c d e => qst_k h10.1 (by omega) hy a b c d e
  have hr : (qst w fl o y X).1 (11 + 24 * o + y) = 1 ∨ (qst w fl o y X).1 (11 + 24 * o + y) = 2 := by
    unfold qst
    split
    · exact Or.inl qup_at
    · refine Or.inr ?_
      show qkp _ _ _ _ = 2
      rw [qkp_k (by omega) (by omega) (by rw [qup_ne (by decide), qup_ne (by omega), qup_ne (by decide)]; exact h10.1), qup_ne (by omega), qup_at]
  have e8 : 0 ≤ (qst w fl o y X).1 8 ∧ (qst w fl o y X).1 8 ≤ 9999 := by
    unfold qst
    split
    · show 0 ≤ qup _ _ _ 8 ∧ qup _ _ _ 8 ≤ 9999
      rw [qup_ne (by omega), qup_ne (by decide)]; exact h8
    · show 0 ≤ qkp _ _ _ 8 ∧ qkp _ _ _ 8 ≤ 9999
      rw [qkp_k (by decide) (by decide) (by rw [qup_ne (by decide), qup_ne (by omega), qup_ne (by decide)]; exact h10.1), qup_at]
      have := qcut1 h8
      exact ⟨this.1, this.2.1⟩
  have e9 : 0 ≤ (qst w fl o y X).1 9 ∧ (qst w fl o y X).1 9 < 30689 := by
    have := qnx_in h9.1
    unfold qst
    split
    · show 0 ≤ qup _ _ _ 9 ∧ qup _ _ _ 9 < 30689
      rw [qup_ne (by omega), qup_at]; exact this
    · show 0 ≤ qkp _ _ _ 9 ∧ qkp _ _ _ 9 < 30689
      rw [qkp_k (by decide) (by decide) (by rw [qup_ne (by decide), qup_ne (by omega), qup_ne (by decide)]; exact h10.1), qup_ne (by decide), qup_ne (by omega), qup_at]
      exact this
  have e10 : 0 ≤ (qst w fl o y X).1 10 ∧ (qst w fl o y X).1 10 ≤ 30 := by
    unfold qst
    split
    · show 0 ≤ qup _ _ _ 10 ∧ qup _ _ _ 10 ≤ 30
      rw [qup_ne (by omega), qup_ne (by decide)]; exact h10
    · show 0 ≤ qkp _ _ _ 10 ∧ qkp _ _ _ 10 ≤ 30
      have := @qkp_10 fl (qup (qup (qup X.1 9 (qnx (X.1 9))) (11 + 24 * o + y) 2) 8 (qcut (X.1 8 + 1) 0 9999)) (qpu X.1 (X.1 (11 + 24 * o + y) - 3).toNat o y) (by rw [qup_ne (by decide), qup_ne (by omega), qup_ne (by decide)]; exact h10)
      exact ⟨this.1, this.2.1⟩
  have e7 := hK 7 (by decide) (by decide) (by decide) (by omega) (by decide)
  refine ⟨⟨fun k a b c d e f => hK k b c d (by omega) f, fun o' y' ho' hy' => ?_, ?_⟩, e7, ?_⟩
  · by_cases h : 11 + 24 * o' + y' = 11 + 24 * o + y
    · rw [h]
      constructor
      · intro h; omega
      · intro h; omega
    · rw [hK _ (by omega) (by omega) (by omega) h (by omega)]
  · refine qIn_cong (fun k a b c => ?_) (by rw [hK 4 (by decide) (by decide) (by decide) (by omega) (by decide)]; exact hI.2.2.2.2.1) (by rw [e7]; exact hI.2.2.2.2.2.2.2.1) e8 e9 e10 (fun o' y' ho' hy' => ?_) hI
    · exact hK k (by omega) (by omega) (by omega) (by omega) (by omega)
    · by_cases h : 11 + 24 * o' + y' = 11 + 24 * o + y
      · rw [h]; omega
      · rw [hK _ (by omega) (by omega) (by omega) h (by omega)]
        exact hI.2.2.2.2.2.2.2.2.2.2.2.1 o' y' ho' hy'
  · unfold qst
    split
    · exact Nat.le_succ _
    · exact Nat.le_refl _
theorem qsy_Ks {w : qWt} {fl : Bool} {o : Nat} {X : (Nat → Int) × Nat} (hI : qIn X.1) (ho : (o : Int) < X.1 0) : ∀ y : Nat, y ≤ 24 → qKs X.1 (qsy w fl o y X).1 ∧ (qsy w fl o y X).1 7 = X.1 7 ∧ (qsy w fl o y X).2 ≤ X.2 + y ∧ ∀ o' y', o' < 5 → y' < 24 → (o' ≠ o ∨ y ≤ y') → (qsy w fl o y X).1 (11 + 24 * o' + y') = X.1 (11 + 24 * o' + y')
  | 0, _ => ⟨qKs_r hI, rfl, Nat.le_refl _, fun _ _ _ _ _ => rfl⟩
  | y + 1, hy => by
    obtain ⟨h1, h2, h3, h4⟩ := qsy_Ks (w := w) (fl := fl) hI ho y (by omega)
    have hA5 := hI.1.2
    rw [qsy_s]
    by_cases h : 3 ≤ (qsy w fl o y X).1 (11 + 24 * o + y)
    · rw [if_pos h]
      have e0 : (qsy w fl o y X).1 0 = X.1 0 := h1.1 0 (by decide) (by decide) (by decide) (by decide) (by decide) (by decide)
      obtain ⟨g1, g2, g3⟩ := qst_Ks (w := w) (fl := fl) h1.2.2 (by rw [e0]; exact ho) (show y < 24 by omega) h
      refine ⟨qKs_t h1 g1, g2.trans h2, by omega, fun o' y' ho' hy' hne => ?_⟩
      rw [qst_k h1.2.2.2.2.2.2.2.2.2.2.2.2.1.1 (by omega) (by omega) (by omega) (by omega) (by omega) (by omega) (by omega)]
      exact h4 o' y' ho' hy' (by omega)
    · rw [if_neg h]
      exact ⟨h1, h2, by omega, fun o' y' ho' hy' hne => h4 o' y' ho' hy' (by omega)⟩
theorem qso_Ks {w : qWt} {fl : Bool} {X : (Nat → Int) × Nat} (hI : qIn X.1) : ∀ o : Nat, (o : Int) ≤ X.1 0 → qKs X.1 (qso w fl o X).1 ∧ (qso w fl o X).1 7 = X.1 7 ∧ (qso w fl o X).2 ≤ X.2 + 24 * o
  | 0, _ => ⟨qKs_r hI, rfl, Nat.le_refl _⟩
  | o + 1, ho => by
    obtain ⟨h1, h2, h3⟩ := qso_Ks (w := w) (fl := fl) hI o (by omega)
    have e0 : (qso w fl o X).1 0 = X.1 0 := h1.1 0 (by decide) (by decide) (by decide) (by decide) (by decide) (by decide)
    obtain ⟨g1, g2, g3, -⟩ := qsy_Ks (w := w) (fl := fl) h1.2.2 (show (o : Int) < (qso w fl o X).1 0 by rw [e0]; omega) 24 (Nat.le_refl _)
    rw [qso_s]
    exact ⟨qKs_t h1 g1, g2.trans h2, by omega⟩
theorem qIn_day {A : Nat → Int} (hI : qIn A) (h : A 7 < 9999) : qKs A (qup A 7 (A 7 + 1)) := by
  have hA5 := hI.1.2
  have e : ∀ k, k ≠ 7 → qup A 7 (A 7 + 1) k = A k := fun k hk => qup_ne hk
  refine ⟨fun k a _ _ _ _ _ => e k a, fun o y ho hy => by rw [e _ (by omega)], ?_⟩
  have e7 : qup A 7 (A 7 + 1) 7 = A 7 + 1 := qup_at
  have h7 := hI.2.2.2.2.2.2.2.1
  obtain ⟨a0, a1, a2, a3, a4, a5, a6, a7, a8, a9, a10, b1, b2, b3, b4, b5, b6, b7, b8⟩ := hI
  refine ⟨by rw [e 0 (by decide)]; exact a0, by rw [e 1 (by decide)]; exact a1, by rw [e 2 (by decide)]; exact a2, by rw [e 3 (by decide), e 2 (by decide)]; exact a3, by rw [e 4 (by decide)]; exact a4, by rw [e 5 (by decide)]; exact a5, by rw [e 6 (by decide)]; exact a6, by rw [e7]; omega, by rw [e 8 (by decide)]; exact a8, by rw [e 9 (by decide)]; exact a9, by rw [e 10 (by decide)]; exact a10, fun o z ho hz => ?_, fun i hi => ?_, fun i hi => ?_, fun i hi => ?_, fun i hi => ?_, fun i hi => ?_, fun i hi => ?_, fun i hi => ?_⟩
  · rw [e _ (by omega), e 1 (by decide)]; exact b1 o z ho hz
  · rw [e _ (by omega)]; exact b2 i hi
  · rw [e _ (by omega)]; exact b3 i hi
  · rw [e _ (by omega)]; exact b4 i hi
  · rw [e _ (by omega)]; exact b5 i hi
  · rw [e _ (by omega)]; exact b6 i hi
  · rw [e _ (by omega)]; exact b7 i hi
  · rw [e 6 (by decide)] at hi
    rw [e _ (by omega), e 1 (by decide), e _ (by omega)]; exact b8 i hi
theorem qdy_Ks {w : qWt} {fl : Bool} {X : (Nat → Int) × Nat} (hI : qIn X.1) (h : X.1 7 < 9999) : qKs X.1 (qdy w fl X).1 ∧ (qdy w fl X).1 7 = X.1 7 + 1 ∧ (qdy w fl X).2 ≤ X.2 + 120 := by
  have h1 := qIn_day hI h
  have hA := hI.1
  have e0 : qup X.1 7 (X.1 7 + 1) 0 = X.1 0 := qup_ne (by decide)
  unfold qdy
  split
  · obtain ⟨g1, g2, g3⟩ := qso_Ks (w := w) (fl := fl) (X := (qup X.1 7 (X.1 7 + 1), X.2)) h1.2.2 (X.1 0).toNat (by show _ ≤ qup X.1 7 (X.1 7 + 1) 0; rw [e0]; omega)
    have g2 : (qso w fl (X.1 0).toNat (qup X.1 7 (X.1 7 + 1), X.2)).1 7 = qup X.1 7 (X.1 7 + 1) 7 := g2
    refine ⟨qKs_t h1 g1, g2.trans qup_at, ?_⟩
    have g3 : _ ≤ X.2 + 24 * (X.1 0).toNat := g3
    omega
  · refine ⟨h1, ?_, Nat.le_add_right _ _⟩
    show qup X.1 7 (X.1 7 + 1) 7 = _
    exact qup_at
/-! the class's Rings at r, as the row A has them; fl: with its BOOK -/
def qCr (fl : Bool) (M : Nat → Nat → Int) (r : Nat) (A : Nat → Int) : Prop := qTw M 10 A ∧ qIn A ∧ qRg M r (qg A) ∧ (M r 4 = A 8 ∧ M r 5 = A 7 ∧ M r 6 = A 9) ∧ (0 ≤ M r 3 ∧ M r 3 ≤ 30) ∧ (fl = true → M r 3 = A 10 ∧ ∀ i : Nat, (i : Int) < A 10 → qPg (M (r + 3) i) (A (4850 + i)))
theorem qCr_x {fl : Bool} {M M' : Nat → Nat → Int} {r : Nat} {A : Nat → Int} (h : ∀ a, (10 ≤ a ∧ a ≤ 20) ∨ (r ≤ a ∧ a ≤ r + 3) → M' a = M a) (hc : qCr fl M r A) : qCr fl M' r A := by
  obtain ⟨c1, c2, c3, c4, c5, c6⟩ := hc
  refine ⟨qTw_x (fun a x y => h a (by omega)) c1, c2, qRg_x (h _ (by omega)) (h _ (by omega)) c3, ?_, ?_, ?_⟩
  · rw [h r (by omega)]; exact c4
  · rw [h r (by omega)]; exact c5
  · rw [h r (by omega), h (r + 3) (by omega)]; exact c6
theorem qTw_Ks {M : Nat → Nat → Int} {t : Nat} {A A' : Nat → Int} (h : qKs A A') (hT : qTw M t A) : qTw M t A' := qTw_cong (fun k a b c => h.1 k (by omega) (by omega) (by omega) (by omega) (by omega) (by omega)) h.2.1 hT
