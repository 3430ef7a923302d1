/-! THE MODEL READS AS THE GRAMMAR SAYS -/
def yr (m : Nat) : Nat := if m = 0 then 7 else if m = 1 then 3 else if m = 2 then 7 else if m = 3 ∨ m = 7 then 6 else if m = 4 ∨ m = 8 then 5 else if m = 5 ∨ m = 9 then 2 else 1
def yclr (m : Nat) : Nat := if m = 0 then 8 else if m = 1 then 4 else yr m
/-- what cannot stand behind -/
def yex (m g : Nat) : Bool := if m = 0 ∨ m = 2 then false else if m = 3 ∨ m = 7 then decide (g = 35) || decide (g = 36) else ((decide (33 ≤ g) && decide (g ≤ 36)) || ((decide (m = 5) || decide (m = 9)) && decide (g = 25)) || ((decide (m = 6) || decide (m = 10)) && (decide (g = 25) || decide (g = 24))))
noncomputable def yHd (n s : Nat) (S : Nat → Nat × Nat) (R : Nat → Nat → Nat) (d : Nat) (g : zV) (M : Nat → Nat → Int) : zO := zR zPP (d + 9) 211 9 [zA 305, g] [] (n, s, S, R, M)
def yRes (n s : Nat) (S : Nat → Nat × Nat) (R : Nat → Nat → Nat) (d : Nat) (B : Nat → Nat) (len b : Nat) (M0 : Nat → Nat → Int) (m r : Nat) (P0 : List Nat) (C0 : List (Nat × Int)) (h0 : zO) : yO → Prop
  | .inl (f, k) => ∃ M', h0 = some (zI f, (n, s, S, R, M')) ∧ yFt B len b M0 M' k
  | .inr (j, _, Lm, _) => ∃ M' g' P' C', h0 = yHd n s S R d g' M' ∧ yRp B len b M0 M' P' C' true j ∧ yst r P' C' = yst r P0 (C0 ++ Lm) ∧ yex m (ysg B len j) = false ∧ (yas m = true → ycp P' = true)
def yQM (n s : Nat) (S : Nat → Nat × Nat) (R : Nat → Nat → Nat) (d : Nat) (B : Nat → Nat) (len b : Nat) (M0 : Nat → Nat → Int) (m o i : Nat) (out : yO) : Prop :=
  if m = 2 then ∀ M P0 C g, yRp B len b M0 M (41 :: P0) C false i → yops (41 :: P0) = o → yRes n s S R d B len b M0 2 7 P0 C (yHd n s S R d g M) out
  else if 7 ≤ m then ∀ M P C P0 C0 g, yRp B len b M0 M P C true i → yst (yr m) P C = (P0, C0) → yops P0 = o → yex (ybs (m - 7)) (ysg B len i) = false → (yas m = true → ycp P = true ∧ yon P0 = 41) → yRes n s S R d B len b M0 m (yr m) P0 C0 (yHd n s S R d g M) out
  else ∀ M P C g, yRp B len b M0 M P C false i → yops P = o → ycl (yclr m) P → (m = 0 ∨ m = 3 ∨ m = 4 → yaa P = true → ysg B len i ≠ 26) → (yas m = true → yon P = 41) → yRes n s S R d B len b M0 m (yr m) P C (yHd n s S R d g M) out
theorem ycl_le {r r' : Nat} (h : r ≤ r') : ∀ {P : List Nat}, ycl r P → ycl r' P
  | [], _ => trivial
  | x :: P, hx => Nat.lt_of_lt_of_le hx h
theorem yaa_k {P : List Nat} (h : ycl 4 P) (h41 : yon P = 41) : yaa P = true ∧ ycp P = false := by
  cases P with
  | nil => exact absurd h41 (by decide)
  | cons x P =>
    have h : yrk x < 4 := h
    refine ⟨?_, ?_⟩
    · show (decide (yon (x :: P) = 41) && decide (yrk x ≤ 3)) = true
      rw [decide_eq_true h41, decide_eq_true (by omega)]; rfl
    · show (if 4 < yrk x then ycp P else decide (yrk x = 4)) = false
      rw [if_neg (by omega), decide_eq_false (by omega)]
theorem yaa_no {x : Nat} {P : List Nat} (h : yon (x :: P) ≠ 41 ∨ 3 < yrk x) : yaa (x :: P) = false := by
  show (decide (yon (x :: P) = 41) && decide (yrk x ≤ 3)) = false
  rcases h with h | h
  · rw [decide_eq_false h]; rfl
  · rw [decide_eq_false (show ¬ yrk x ≤ 3 by omega), Bool.and_false]
theorem ybw_ar {P : List Nat} {g : Nat} (h : yex 4 g = false) : ybw P g = (if yon P = 41 then (if ycp P = true then (if g = 25 then 21 else if g = 24 then 22 else -1) else (if ycm g = true then ((ymb g : Nat) : Int) else -1)) else -1 : Int) := by
  have : ¬ (33 ≤ g ∧ g ≤ 36) := fun z => by
    unfold yex at h
    rw [if_neg (by decide), if_neg (by decide)] at h
    simp at h
    omega
  unfold ybw
  rw [if_neg (by omega), if_neg (by omega), if_neg (by omega), if_neg (by omega)]
theorem yex_1 {g : Nat} : yex 1 g = yex 4 g := by
  unfold yex
  rw [if_neg (by decide), if_neg (by decide), if_neg (by decide), if_neg (by decide)]
  rfl
theorem yex_6 {g : Nat} (h : yex 6 g = false) : yex 4 g = false ∧ g ≠ 25 ∧ g ≠ 24 := by
  unfold yex at h ⊢
  rw [if_neg (by decide), if_neg (by decide)] at h ⊢
  simp at h ⊢
  omega
theorem yex_t {l g : Nat} (hl : l < 4) : yex (7 + l) g = yex (3 + l) g := by
  have : ∀ l, l < 4 → ∀ g, yex (7 + l) g = yex (3 + l) g := by
    intro l hl g
    by_cases h0 : l = 0
    · subst h0; rfl
    by_cases h1 : l = 1
    · subst h1; unfold yex; simp
    by_cases h2 : l = 2
    · subst h2; unfold yex; simp
    have h3 : l = 3 := by omega
    subst h3; unfold yex; simp
  exact this l hl g
/-- behind what goes on no more, neither -/
theorem yex_r {l g : Nat} (hl : l < 4) (h1 : yex (ybs l) g = false) (h2 : yop l g = false) : yex (7 + l) g = false := by
  by_cases h0 : l = 0
  · subst h0; exact h2
  by_cases h1' : l = 1
  · subst h1'
    have h1 : yex 3 g = false := h1
    unfold yex at h1 ⊢
    unfold yop at h2
    simp at h1 h2 ⊢
    omega
  by_cases h2' : l = 2
  · subst h2'
    have h1 : yex 1 g = false := h1
    unfold yex at h1 ⊢
    unfold yop at h2
    simp at h1 h2 ⊢
    omega
  have h3 : l = 3 := by omega
  subst h3
  have h1 : yex 5 g = false := h1
  unfold yex at h1 ⊢
  unfold yop at h2
  simp at h1 h2 ⊢
  omega
theorem yl_m {l : Nat} (hl : l < 4) : yr (7 + l) ≤ yr (ybs l) ∧ yr (7 + l) = yclr (3 + l) ∧ yr (3 + l) = yr (7 + l) ∧ yclr (3 + l) ≤ yclr (ybs l) ∧ yr (7 + l) < yclr (ybs l) ∧ 1 ≤ yr (7 + l) ∧ yr (7 + l) ≠ 4 ∧ (ybs l = 0 ∨ ybs l = 3 ∨ ybs l = 4 → l < 2 ∧ (3 + l = 0 ∨ 3 + l = 3 ∨ 3 + l = 4) ∧ 3 < yr (7 + l)) ∧ ybs l ≠ 2 ∧ 3 + l ≠ 2 ∧ 7 + l ≠ 2 := by
  have : ∀ l, l < 4 → yr (7 + l) ≤ yr (ybs l) ∧ yr (7 + l) = yclr (3 + l) ∧ yr (3 + l) = yr (7 + l) ∧ yclr (3 + l) ≤ yclr (ybs l) ∧ yr (7 + l) < yclr (ybs l) ∧ 1 ≤ yr (7 + l) ∧ yr (7 + l) ≠ 4 ∧ (ybs l = 0 ∨ ybs l = 3 ∨ ybs l = 4 → l < 2 ∧ (3 + l = 0 ∨ 3 + l = 3 ∨ 3 + l = 4) ∧ 3 < yr (7 + l)) ∧ ybs l ≠ 2 ∧ 3 + l ≠ 2 ∧ 7 + l ≠ 2 := by decide
  exact this l hl
theorem yop_m {l g : Nat} (hl : l < 4) (h : yop l g = true) : yrk (ymb g) = yr (7 + l) ∧ yio (ymb g) = false ∧ ymb g < 40 ∧ ∀ P, (2 ≤ l → yon P = 41 ∧ ycp P = true) → ybw P g = ymb g := by
  have hg := yop_g hl h
  unfold yop at h
  by_cases h0 : l = 0
  · subst h0
    simp at h
    rcases h with h | h
    · subst h; exact ⟨by decide, by decide, by decide, fun P _ => by unfold ybw; simp [ymb]⟩
    · subst h; exact ⟨by decide, by decide, by decide, fun P _ => by unfold ybw; simp [ymb]⟩
  by_cases h1 : l = 1
  · subst h1
    simp at h
    rcases h with h | h
    · subst h; exact ⟨by decide, by decide, by decide, fun P _ => by unfold ybw; simp [ymb]⟩
    · subst h; exact ⟨by decide, by decide, by decide, fun P _ => by unfold ybw; simp [ymb]⟩
  by_cases h2 : l = 2
  · subst h2
    simp at h
    subst h
    exact ⟨by decide, by decide, by decide, fun P hp => by obtain ⟨p1, p2⟩ := hp (by decide); unfold ybw; simp [ymb, p1, p2]⟩
  have h3 : l = 3 := by omega
  subst h3
  simp at h
  subst h
  exact ⟨by decide, by decide, by decide, fun P hp => by obtain ⟨p1, p2⟩ := hp (by decide); unfold ybw; simp [ymb, p1, p2]⟩
theorem yon_lt {x : Nat} {P : List Nat} (h : x < 40) : yon (x :: P) = yon P := if_neg (by omega)
theorem yops_n {x : Nat} {P : List Nat} (h : yio x = false) : yops (x :: P) = yops P := by show yops P + (if yio x = true then 1 else 0) = _; rw [h]; rfl
theorem yops_y {x : Nat} {P : List Nat} (h : yio x = true) : yops (x :: P) = yops P + 1 := by show yops P + (if yio x = true then 1 else 0) = _; rw [h]; rfl
section QF
variable {S : Nat → Nat × Nat} {R : Nat → Nat → Nat} {M0 : Nat → Nat → Int} {n s d : Nat} {B : Nat → Nat} {len b N : Nat}
theorem yRes_ft {m r m' r' : Nat} {P0 P0' : List Nat} {C0 C0' : List (Nat × Int)} {h0 : zO} {f k : Nat} (h : yRes n s S R d B len b M0 m r P0 C0 h0 (yft f k)) : yRes n s S R d B len b M0 m' r' P0' C0' h0 (yft f k) := h
theorem yq1 (hF : qFx S R) (hb : b ≤ 2115) (ht : yTa B len M0) {o i : Nat} (hi : i + 1 ≤ 300) (hg : ysg B len i = 41) (hw : ywo B len i ≤ 9999) : yQM n s S R d B len b M0 0 o i (yok (i + 1) (fun _ => [(41, ywo B len i)]) [(0, (ywo B len i : Int))] (fun _ _ => (ywo B len i : Int))) := by
  unfold yQM
  rw [if_neg (by decide), if_neg (by decide)]
  intro M P C g hR ho _ _ _
  obtain ⟨M', e1, e2⟩ := ys_num (n := n) (s := s) (d := d + 1) (g0 := 0) (v0 := (ywo B len i : Nat)) hF hb ht hR hi (Or.inl ⟨hg, hw, rfl, rfl⟩) g
  exact ⟨M', zI 0, _, _, e1, e2, yst_le (Nat.le_refl _) _ _, rfl, fun h => absurd h (by decide)⟩
theorem yq2 (hF : qFx S R) (hb : b ≤ 2115) (ht : yTa B len M0) {o i : Nat} (hi : i + 1 ≤ 300) (hg : qisn (ysg B len i) = true) (hw : ¬ (ysg B len i = 14 ∧ M0 305 14 = 1)) : yQM n s S R d B len b M0 0 o i (yok (i + 1) (fun _ => [(ysg B len i, 0)]) [(1, (qnm (ysg B len i) : Int))] (fun E _ => E.1 (qnm (ysg B len i)))) := by
  unfold yQM
  rw [if_neg (by decide), if_neg (by decide)]
  intro M P C g hR ho _ _ _
  obtain ⟨M', e1, e2⟩ := ys_num (n := n) (s := s) (d := d + 1) (g0 := 1) (v0 := (qnm (ysg B len i) : Nat)) hF hb ht hR hi (Or.inr ⟨hg, hw, rfl, rfl⟩) g
  exact ⟨M', zI 0, _, _, e1, e2, yst_le (Nat.le_refl _) _ _, rfl, fun h => absurd h (by decide)⟩
theorem yqbad (hF : qFx S R) (ht : yTa B len M0) {o i f : Nat} (hf : (ysg B len i = 41 ∧ ¬ ywo B len i ≤ 9999 ∧ f = 2) ∨ (ysg B len i = 14 ∧ M0 305 14 = 1 ∧ f = 5) ∨ (ysg B len i ≠ 41 ∧ qisn (ysg B len i) = false ∧ yopn (ysg B len i) = false ∧ f = 1)) : yQM n s S R d B len b M0 0 o i (yft f i) := by
  unfold yQM
  rw [if_neg (by decide), if_neg (by decide)]
  intro M P C g hR ho _ haa _
  have e1 := ys_bad (n := n) (s := s) (d := d + 1) (f := f) hF ht hR (by
    rcases hf with h | h | ⟨h1, h2, h3, h4⟩
    · exact Or.inl h
    · exact Or.inr (Or.inl h)
    · exact Or.inr (Or.inr ⟨h1, h2, h3, haa (Or.inl rfl), h4⟩)) g
  exact ⟨M, e1, yFt_p hR.1 hR.2.2.1⟩
theorem yop_o {g : Nat} (h : yopn g = true) : (g = 37 ∨ g = 34 ∨ g = 18 ∨ g = 19 ∨ g = 20) := by
  unfold yopn at h
  simp at h
  omega
theorem yq4 (hF : qFx S R) (hb : b ≤ 2115) (ht : yTa B len M0) {o i : Nat} (hi : i + 1 ≤ 300) (hg : yopn (ysg B len i) = true) (ho8 : o = 8) : yQM n s S R d B len b M0 0 o i (yft 3 i) := by
  unfold yQM
  rw [if_neg (by decide), if_neg (by decide)]
  intro M P C g hR ho _ haa _
  have hg' := yop_o hg
  have : ∃ p, (ysg B len i = 37 ∧ p = 40) ∨ (ysg B len i = 34 ∧ p = 5) ∨ (ysg B len i = 18 ∧ p = 4) ∨ (ysg B len i = 19 ∧ p = 2) ∨ (ysg B len i = 20 ∧ p = 41) ∨ (ysg B len i = 26 ∧ yaa P = true ∧ p = 20) := by
    rcases hg' with h | h | h | h | h
    · exact ⟨40, Or.inl ⟨h, rfl⟩⟩
    · exact ⟨5, Or.inr (Or.inl ⟨h, rfl⟩)⟩
    · exact ⟨4, Or.inr (Or.inr (Or.inl ⟨h, rfl⟩))⟩
    · exact ⟨2, Or.inr (Or.inr (Or.inr (Or.inl ⟨h, rfl⟩)))⟩
    · exact ⟨41, Or.inr (Or.inr (Or.inr (Or.inr (Or.inl ⟨h, rfl⟩))))⟩
  obtain ⟨p, hp⟩ := this
  have e1 := (ys_open (n := n) (s := s) (d := d + 1) hF hb ht hR hi hp g).1 (by omega)
  exact ⟨M, e1, yFt_p hR.1 hR.2.2.1⟩
/-- behind a SUM in brackets -/
theorem yq5 (hF : qFx S R) (hb : b ≤ 2115) (ht : yTa B len M0) {o i j : Nat} {Lc : Nat → List (Nat × Nat)} {Lm : List (Nat × Int)} {D : qE → Int → Int} (ho8 : o < 8) (hi : i + 1 ≤ 300) (hg : ysg B len i = 37) (hQ : yQM n s S R d B len b M0 4 (o + 1) (i + 1) (yok j Lc Lm D)) :
    (j + 1 ≤ 300 → ysg B len j = 38 → yQM n s S R d B len b M0 0 o i (yok (j + 1) Lc Lm D)) ∧ (ysg B len j ≠ 38 → yQM n s S R d B len b M0 0 o i (yft 1 j)) := by
  have key : ∀ M P C g, yRp B len b M0 M P C false i → yops P = o → ∃ M2 g2 P2 C2, yHd n s S R d g M = yHd n s S R d g2 M2 ∧ yRp B len b M0 M2 P2 C2 true j ∧ yst 5 P2 C2 = (40 :: P, C ++ Lm) ∧ yex 4 (ysg B len j) = false := fun M P C g hR ho => by
    obtain ⟨M1, e1, e2⟩ := (ys_open (n := n) (s := s) (d := d + 1) (o := 40) hF hb ht hR hi (Or.inl ⟨hg, rfl⟩) g).2 (by omega)
    have hQ' := hQ
    unfold yQM at hQ'
    rw [if_neg (by decide), if_neg (by decide)] at hQ'
    obtain ⟨M2, g2, P2, C2, q1, q2, q3, q4, -⟩ := hQ' M1 (40 :: P) C (zI 0) e2 (by rw [yops_y (by decide), ho]) (show yrk 40 < 5 by decide) (fun _ h => by
      rw [yaa_no (Or.inl (by show yon (40 :: P) ≠ 41; have : yon (40 :: P) = 40 := rfl; omega))] at h
      cases h) (fun h => absurd h (by decide))
    have q3 : yst 5 P2 C2 = yst 5 (40 :: P) (C ++ Lm) := q3
    rw [yst_cl (r := 5) (P := 40 :: P) (show yrk 40 < 5 by decide)] at q3
    exact ⟨M2, g2, P2, C2, Eq.trans e1 q1, q2, q3, q4⟩
  have kon : ∀ P2 C2 P X, yst 5 P2 C2 = (40 :: P, X) → yon P2 = 40 := fun P2 C2 P X h => by
    have := yon_st (r := 5) (by decide) P2 C2
    rw [h] at this
    exact this.symm
  constructor
  · intro hj g38
    unfold yQM
    rw [if_neg (by decide), if_neg (by decide)]
    intro M P C g hR ho _ _ _
    obtain ⟨M2, g2, P2, C2, q1, q2, q3, q4⟩ := key M P C g hR ho
    have h40 := kon _ _ _ _ q3
    have hs1 : yst 1 P2 C2 = (40 :: P, C ++ Lm) := by
      rw [← yst_le (show 1 ≤ 5 by decide) P2 C2, q3]
      exact yst_cl (r := 1) (P := 40 :: P) (show yrk 40 < 1 by decide)
    obtain ⟨M3, t1, t2⟩ := ys_shut (n := n) (s := s) (d := d) (l := 40) hF hb ht q2 hj (by rw [ybw_ar q4, if_neg (by omega)]) h40 (by rw [g38]; rfl) hs1 (by decide) g2
    exact ⟨M3, g2, _, _, Eq.trans q1 t1, t2, yst_le (Nat.le_refl _) _ _, rfl, fun h => absurd h (by decide)⟩
  · intro g38
    unfold yQM
    rw [if_neg (by decide), if_neg (by decide)]
    intro M P C g hR ho _ _ _
    obtain ⟨M2, g2, P2, C2, q1, q2, q3, q4⟩ := key M P C g hR ho
    have h40 := kon _ _ _ _ q3
    have t1 := (ys_stop (n := n) (s := s) (d := d) hF hb ht q2 (by rw [ybw_ar q4, if_neg (by omega)]) (by rw [h40]; unfold ypt; rw [if_pos rfl, if_neg g38]) g2).1 (by omega)
    exact ⟨M2, Eq.trans q1 t1, yFt_p q2.1 q2.2.2.1⟩
theorem yq5f (hF : qFx S R) (hb : b ≤ 2115) (ht : yTa B len M0) {o i f k : Nat} (ho8 : o < 8) (hi : i + 1 ≤ 300) (hg : ysg B len i = 37) (hQ : yQM n s S R d B len b M0 4 (o + 1) (i + 1) (yft f k)) : yQM n s S R d B len b M0 0 o i (yft f k) := by
  unfold yQM at hQ ⊢
  rw [if_neg (by decide), if_neg (by decide)] at hQ ⊢
  intro M P C g hR ho _ _ _
  obtain ⟨M1, e1, e2⟩ := (ys_open (n := n) (s := s) (d := d + 1) (o := 40) hF hb ht hR hi (Or.inl ⟨hg, rfl⟩) g).2 (by omega)
  obtain ⟨M2, q1, q2⟩ := hQ M1 (40 :: P) C (zI 0) e2 (by rw [yops_y (by decide), ho]) (show yrk 40 < 5 by decide) (fun _ h => by
    rw [yaa_no (Or.inl (by show yon (40 :: P) ≠ 41; have : yon (40 :: P) = 40 := rfl; omega))] at h
    cases h) (fun h => absurd h (by decide))
  exact ⟨M2, Eq.trans e1 q1, q2⟩
/-- - root rings -/
theorem yq6 (hF : qFx S R) (hb : b ≤ 2115) (ht : yTa B len M0) {o i : Nat} {out : yO} (ho8 : o < 8) (hi : i + 1 ≤ 300) (hg : ysg B len i = 34 ∨ ysg B len i = 18 ∨ ysg B len i = 19) (hQ : yQM n s S R d B len b M0 0 (o + 1) (i + 1) out) :
    yQM n s S R d B len b M0 0 o i (match out with | .inl r => .inl r | .inr r => yok r.1 (fun c => r.2.1 c ++ [(ycs (ysg B len i), 0)]) (r.2.2.1 ++ [(ymu (ysg B len i), 0)]) (fun E x => qone E (ycs (ysg B len i)) (r.2.2.2 E x))) := by
  have hmu : yrk (ymu (ysg B len i)) = 7 ∧ yio (ymu (ysg B len i)) = true := by
    rcases hg with h | h | h <;> (rw [h]; decide)
  have hop : (ysg B len i = 37 ∧ ymu (ysg B len i) = 40) ∨ (ysg B len i = 34 ∧ ymu (ysg B len i) = 5) ∨ (ysg B len i = 18 ∧ ymu (ysg B len i) = 4) ∨ (ysg B len i = 19 ∧ ymu (ysg B len i) = 2) ∨ (ysg B len i = 20 ∧ ymu (ysg B len i) = 41) ∨ (ysg B len i = 26 ∧ yaa [] = true ∧ ymu (ysg B len i) = 20) := by
    rcases hg with h | h | h
    · exact Or.inr (Or.inl ⟨h, by rw [h]; rfl⟩)
    · exact Or.inr (Or.inr (Or.inl ⟨h, by rw [h]; rfl⟩))
    · exact Or.inr (Or.inr (Or.inr (Or.inl ⟨h, by rw [h]; rfl⟩)))
  generalize ymu (ysg B len i) = p at *
  unfold yQM at hQ ⊢
  rw [if_neg (by decide), if_neg (by decide)] at hQ ⊢
  intro M P C g hR ho _ _ _
  obtain ⟨M1, e1, e2⟩ := (ys_open (n := n) (s := s) (d := d + 1) (o := p) hF hb ht hR hi (by
    rcases hop with h | h | h | h | h | h
    · exact Or.inl h
    · exact Or.inr (Or.inl h)
    · exact Or.inr (Or.inr (Or.inl h))
    · exact Or.inr (Or.inr (Or.inr (Or.inl h)))
    · exact Or.inr (Or.inr (Or.inr (Or.inr (Or.inl h))))
    · exact absurd h.2.1 (by decide)) g).2 (by omega)
  have q := hQ M1 (p :: P) C (zI 0) e2 (by rw [yops_y hmu.2, ho]) (show yrk p < 8 by omega) (fun _ h => by
    rw [yaa_no (Or.inr (by omega))] at h
    cases h) (fun h => absurd h (by decide))
  cases out with
  | inl r =>
    obtain ⟨M2, q1, q2⟩ := q
    exact ⟨M2, Eq.trans e1 q1, q2⟩
  | inr r =>
    obtain ⟨j, Lc, Lm, D⟩ := r
    obtain ⟨M2, g2, P2, C2, q1, q2, q3, q4, q5⟩ := q
    refine ⟨M2, g2, P2, C2, Eq.trans e1 q1, q2, ?_, q4, q5⟩
    have q3 : yst 7 P2 C2 = yst 7 (p :: P) (C ++ Lm) := q3
    rw [yst_k (by omega)] at q3
    show yst 7 P2 C2 = yst 7 P (C ++ (Lm ++ [(p, 0)]))
    rw [q3, List.append_assoc]
/-- a choice -/
theorem yq7 (hF : qFx S R) (hb : b ≤ 2115) (ht : yTa B len M0) {o i : Nat} {out : yO} (ho8 : o < 8) (hi : i + 1 ≤ 300) (hg : ysg B len i = 20) (hQ : yQM n s S R d B len b M0 2 (o + 1) (i + 1) out) : yQM n s S R d B len b M0 0 o i out := by
  unfold yQM at hQ ⊢
  rw [if_pos rfl] at hQ
  rw [if_neg (by decide), if_neg (by decide)]
  intro M P C g hR ho _ _ _
  obtain ⟨M1, e1, e2⟩ := (ys_open (n := n) (s := s) (d := d + 1) (o := 41) hF hb ht hR hi (Or.inr (Or.inr (Or.inr (Or.inr (Or.inl ⟨hg, rfl⟩))))) g).2 (by omega)
  have q := hQ M1 P C (zI 0) e2 (by rw [yops_y (by decide), ho])
  cases out with
  | inl r =>
    obtain ⟨M2, q1, q2⟩ := q
    exact ⟨M2, Eq.trans e1 q1, q2⟩
  | inr r =>
    obtain ⟨j, Lc, Lm, D⟩ := r
    obtain ⟨M2, g2, P2, C2, q1, q2, q3, q4, q5⟩ := q
    exact ⟨M2, g2, P2, C2, Eq.trans e1 q1, q2, q3, rfl, fun h => absurd h (by decide)⟩
/-- going on no more -/
theorem yqr0 {l o i : Nat} (hl : l < 4) (hg : yop l (ysg B len i) = false) : yQM n s S R d B len b M0 (7 + l) o i (yok i (fun _ => []) [] (fun _ x => x)) := by
  have hm := yl_m hl
  unfold yQM
  rw [if_neg hm.2.2.2.2.2.2.2.2.2.2, if_pos (by omega)]
  intro M P C P0 C0 g hR h0 ho hx ha
  have hcl := ycl_st (r := yr (7 + l)) P C
  rw [h0] at hcl
  have e7 : 7 + l - 7 = l := by omega
  rw [e7] at hx
  refine ⟨M, g, P, C, rfl, hR, ?_, yex_r hl hx hg, fun h => (ha h).1⟩
  rw [h0, List.append_nil]
  exact (yst_cl hcl).symm
/-- going on -/
theorem yqr1 (hF : qFx S R) (hb : b ≤ 2115) (ht : yTa B len M0) {l o i : Nat} {out : yO} (hl : l < 4) (hi : i + 1 ≤ 300) (hg : yop l (ysg B len i) = true) (hQ : yQM n s S R d B len b M0 (ybs l) o (i + 1) out) :
    (∀ f k, out = yft f k → yQM n s S R d B len b M0 (7 + l) o i (yft f k)) ∧
    ∀ j Lc Lm D, out = yok j Lc Lm D → ∀ out2, yQM n s S R d B len b M0 (7 + l) o j out2 →
      (∀ f k, out2 = yft f k → yQM n s S R d B len b M0 (7 + l) o i (yft f k)) ∧ ∀ k Lc2 Lm2 D2 Lc3 D3, out2 = yok k Lc2 Lm2 D2 → yQM n s S R d B len b M0 (7 + l) o i (yok k Lc3 (Lm ++ (ymb (ysg B len i), 0) :: Lm2) D3) := by
  have hm := yl_m hl
  have hf := yl_f hl
  obtain ⟨m1, m2, m3, m4, m5, m6, m7, m8, m9, m10, m11⟩ := hm
  obtain ⟨f1, f2, f3, f4, f5, f6, f7⟩ := hf
  obtain ⟨o1, o2, o3, o4⟩ := yop_m hl hg
  have e7 : 7 + l - 7 = l := by omega
  -- up to behind the second
  have key : ∀ M P C P0 C0 g, yRp B len b M0 M P C true i → yst (yr (7 + l)) P C = (P0, C0) → yops P0 = o → (yas (7 + l) = true → ycp P = true ∧ yon P0 = 41) → yRes n s S R d B len b M0 (ybs l) (yr (ybs l)) (ymb (ysg B len i) :: P0) C0 (yHd n s S R d g M) out := fun M P C P0 C0 g hR h0 ho ha => by
    have hon : 2 ≤ l → yon P = 41 ∧ ycp P = true := fun h => by
      obtain ⟨a1, a2⟩ := ha (f7.mpr h)
      have := yon_st (r := yr (7 + l)) m6 P C
      rw [h0] at this
      exact ⟨by rw [← this]; exact a2, a1⟩
    obtain ⟨M1, e1, e2⟩ := ys_btw (n := n) (s := s) (d := d) (o := ymb (ysg B len i)) hF hb ht hR hi (o4 P hon) o2 (by rw [o1]; exact m6) g
    rw [o1, if_neg m7, h0] at e2
    have e2 : yRp B len b M0 M1 (ymb (ysg B len i) :: P0) C0 false (i + 1) := e2
    have hQ' := hQ
    unfold yQM at hQ'
    rw [if_neg m9, if_neg (by omega)] at hQ'
    have q := hQ' M1 (ymb (ysg B len i) :: P0) C0 g e2 (by rw [yops_n o2, ho]) (by show yrk (ymb (ysg B len i)) < _; rw [o1]; exact m5) (fun h hh => by
      rw [yaa_no (Or.inr (by rw [o1]; exact (m8 h).2.2))] at hh
      cases hh) (fun h => by rw [yon_lt o3]; exact (ha (by rw [← f1]; exact h)).2)
    have e1 : yHd n s S R d g M = yHd n s S R d g M1 := e1
    rw [e1]
    exact q
  refine ⟨fun f k hout => ?_, fun j Lc Lm D hout out2 hQ2 => ?_⟩
  · subst hout
    unfold yQM
    rw [if_neg m11, if_pos (by omega)]
    intro M P C P0 C0 g hR h0 ho _ ha
    exact key M P C P0 C0 g hR h0 ho ha
  · subst hout
    have key2 : ∀ M P C P0 C0 g, yRp B len b M0 M P C true i → yst (yr (7 + l)) P C = (P0, C0) → yops P0 = o → (yas (7 + l) = true → ycp P = true ∧ yon P0 = 41) → yRes n s S R d B len b M0 (7 + l) (yr (7 + l)) P0 (C0 ++ Lm ++ [(ymb (ysg B len i), 0)]) (yHd n s S R d g M) out2 := fun M P C P0 C0 g hR h0 ho ha => by
      obtain ⟨M1, g1, P1, C1, q1, q2, q3, q4, q5⟩ := key M P C P0 C0 g hR h0 ho ha
      have hcl := ycl_st (r := yr (7 + l)) P C
      rw [h0] at hcl
      have hcl : ycl (yr (7 + l)) P0 := hcl
      have h1 : yst (yr (7 + l)) P1 C1 = (P0, C0 ++ Lm ++ [(ymb (ysg B len i), 0)]) := by
        rw [← yst_le m1 P1 C1, q3, yst_le m1, yst_k (by rw [o1]; exact Nat.le_refl _)]
        exact yst_cl hcl
      have hQ' := hQ2
      unfold yQM at hQ'
      rw [if_neg m11, if_pos (by omega)] at hQ'
      rw [q1]
      exact hQ' M1 P1 C1 P0 _ g1 q2 h1 ho (by rw [e7]; exact q4) (fun h => ⟨q5 (by rw [f1]; exact h), (ha h).2⟩)
    refine ⟨fun f k hout => ?_, fun k Lc2 Lm2 D2 Lc3 D3 hout => ?_⟩
    · subst hout
      unfold yQM
      rw [if_neg m11, if_pos (by omega)]
      intro M P C P0 C0 g hR h0 ho _ ha
      exact key2 M P C P0 C0 g hR h0 ho ha
    · subst hout
      unfold yQM
      rw [if_neg m11, if_pos (by omega)]
      intro M P C P0 C0 g hR h0 ho _ ha
      obtain ⟨M1, g1, P1, C1, q1, q2, q3, q4, q5⟩ := key2 M P C P0 C0 g hR h0 ho ha
      refine ⟨M1, g1, P1, C1, q1, q2, ?_, q4, q5⟩
      rw [q3]
      congr 1
      simp
/-- one, and what goes on -/
theorem yqt {l o i : Nat} {out : yO} (hl : l < 4) (hQ : yQM n s S R d B len b M0 (ybs l) o i out) :
    (∀ f k, out = yft f k → yQM n s S R d B len b M0 (3 + l) o i (yft f k)) ∧
    ∀ j Lc Lm D, out = yok j Lc Lm D → ∀ out2, yQM n s S R d B len b M0 (7 + l) o j out2 →
      (∀ f k, out2 = yft f k → yQM n s S R d B len b M0 (3 + l) o i (yft f k)) ∧ ∀ k Lc2 Lm2 D2 Lc3 D3, out2 = yok k Lc2 Lm2 D2 → yQM n s S R d B len b M0 (3 + l) o i (yok k Lc3 (Lm ++ Lm2) D3) := by
  obtain ⟨m1, m2, m3, m4, m5, m6, m7, m8, m9, m10, m11⟩ := yl_m hl
  obtain ⟨f1, f2, f3, f4, f5, f6, f7⟩ := yl_f hl
  have e7 : 7 + l - 7 = l := by omega
  have key : ∀ M P C g, yRp B len b M0 M P C false i → yops P = o → ycl (yclr (3 + l)) P → (3 + l = 0 ∨ 3 + l = 3 ∨ 3 + l = 4 → yaa P = true → ysg B len i ≠ 26) → (yas (3 + l) = true → yon P = 41) → yRes n s S R d B len b M0 (ybs l) (yr (ybs l)) P C (yHd n s S R d g M) out := fun M P C g hR ho hcl haa hon => by
    have hQ' := hQ
    unfold yQM at hQ'
    rw [if_neg m9, if_neg (by omega)] at hQ'
    exact hQ' M P C g hR ho (ycl_le m4 hcl) (fun h => haa (m8 h).2.1) (fun h => hon (by rw [f2, ← f1]; exact h))
  refine ⟨fun f k hout => ?_, fun j Lc Lm D hout out2 hQ2 => ?_⟩
  · subst hout
    unfold yQM
    rw [if_neg m10, if_neg (by omega)]
    intro M P C g hR ho hcl haa hon
    exact key M P C g hR ho hcl haa hon
  · subst hout
    have key2 : ∀ M P C g, yRp B len b M0 M P C false i → yops P = o → ycl (yclr (3 + l)) P → (3 + l = 0 ∨ 3 + l = 3 ∨ 3 + l = 4 → yaa P = true → ysg B len i ≠ 26) → (yas (3 + l) = true → yon P = 41) → yRes n s S R d B len b M0 (7 + l) (yr (7 + l)) P (C ++ Lm) (yHd n s S R d g M) out2 := fun M P C g hR ho hcl haa hon => by
      obtain ⟨M1, g1, P1, C1, q1, q2, q3, q4, q5⟩ := key M P C g hR ho hcl haa hon
      rw [← m2] at hcl
      have h1 : yst (yr (7 + l)) P1 C1 = (P, C ++ Lm) := by
        rw [← yst_le m1 P1 C1, q3, yst_le m1]
        exact yst_cl hcl
      have hQ' := hQ2
      unfold yQM at hQ'
      rw [if_neg m11, if_pos (by omega)] at hQ'
      rw [q1]
      exact hQ' M1 P1 C1 P _ g1 q2 h1 ho (by rw [e7]; exact q4) (fun h => ⟨q5 (by rw [f1]; exact h), hon (by rw [f2]; exact h)⟩)
    refine ⟨fun f k hout => ?_, fun k Lc2 Lm2 D2 Lc3 D3 hout => ?_⟩
    · subst hout
      unfold yQM
      rw [if_neg m10, if_neg (by omega)]
      intro M P C g hR ho hcl haa hon
      exact key2 M P C g hR ho hcl haa hon
    · subst hout
      unfold yQM
      rw [if_neg m10, if_neg (by omega)]
      intro M P C g hR ho hcl haa hon
      obtain ⟨M1, g1, P1, C1, q1, q2, q3, q4, q5⟩ := key2 M P C g hR ho hcl haa hon
      rw [← m3] at q3
      refine ⟨M1, g1, P1, C1, q1, q2, ?_, by rw [← yex_t hl]; exact q4, fun h => q5 (by rw [← f2]; exact h)⟩
      rw [q3, List.append_assoc]
/-- not -/
theorem yqa1 (hF : qFx S R) (hb : b ≤ 2115) (ht : yTa B len M0) {o i : Nat} {out : yO} (ho8 : o < 8) (hi : i + 1 ≤ 300) (hg : ysg B len i = 26) (hQ : yQM n s S R d B len b M0 1 (o + 1) (i + 1) out) :
    (∀ f k, out = yft f k → yQM n s S R d B len b M0 1 o i (yft f k)) ∧ ∀ j Lc Lm D Lc3 D3, out = yok j Lc Lm D → yQM n s S R d B len b M0 1 o i (yok j Lc3 (Lm ++ [(20, 0)]) D3) := by
  have key : ∀ M P C g, yRp B len b M0 M P C false i → yops P = o → ycl 4 P → yon P = 41 → yRes n s S R d B len b M0 1 3 (20 :: P) C (yHd n s S R d g M) out := fun M P C g hR ho hcl hon => by
    obtain ⟨M1, e1, e2⟩ := (ys_open (n := n) (s := s) (d := d + 1) (o := 20) hF hb ht hR hi (Or.inr (Or.inr (Or.inr (Or.inr (Or.inr ⟨hg, (yaa_k hcl hon).1, rfl⟩))))) g).2 (by omega)
    have e1 : yHd n s S R d g M = yHd n s S R d (zI 0) M1 := e1
    have hQ' := hQ
    unfold yQM at hQ'
    rw [if_neg (by decide), if_neg (by decide)] at hQ'
    rw [e1]
    exact hQ' M1 (20 :: P) C (zI 0) e2 (by rw [yops_y (by decide), ho]) (show yrk 20 < 4 by decide) (fun h => absurd h (by decide)) (fun _ => by rw [yon_lt (by decide)]; exact hon)
  refine ⟨fun f k hout => ?_, fun j Lc Lm D Lc3 D3 hout => ?_⟩
  · subst hout
    unfold yQM
    rw [if_neg (by decide), if_neg (by decide)]
    intro M P C g hR ho hcl _ hon
    exact key M P C g hR ho hcl (hon rfl)
  · subst hout
    unfold yQM
    rw [if_neg (by decide), if_neg (by decide)]
    intro M P C g hR ho hcl _ hon
    obtain ⟨M1, g1, P1, C1, q1, q2, q3, q4, q5⟩ := key M P C g hR ho hcl (hon rfl)
    refine ⟨M1, g1, P1, C1, q1, q2, ?_, q4, q5⟩
    have q3 : yst 3 P1 C1 = yst 3 (20 :: P) (C ++ Lm) := q3
    rw [yst_k (by decide)] at q3
    show yst 3 P1 C1 = yst 3 P (C ++ (Lm ++ [(20, 0)]))
    rw [q3, List.append_assoc]
theorem yqa2 (hF : qFx S R) (hb : b ≤ 2115) (ht : yTa B len M0) {o i : Nat} (hi : i + 1 ≤ 300) (hg : ysg B len i = 26) (ho8 : o = 8) : yQM n s S R d B len b M0 1 o i (yft 3 i) := by
  unfold yQM
  rw [if_neg (by decide), if_neg (by decide)]
  intro M P C g hR ho hcl _ hon
  have e1 := (ys_open (n := n) (s := s) (d := d + 1) (o := 20) hF hb ht hR hi (Or.inr (Or.inr (Or.inr (Or.inr (Or.inr ⟨hg, (yaa_k hcl (hon rfl)).1, rfl⟩))))) g).1 (by omega)
  exact ⟨M, e1, yFt_p hR.1 hR.2.2.1⟩
/-- a comparison -/
theorem yqa3 (hF : qFx S R) (hb : b ≤ 2115) (ht : yTa B len M0) {o i : Nat} {out : yO} (hg : ysg B len i ≠ 26) (hQ : yQM n s S R d B len b M0 4 o i out) :
    (∀ f k, out = yft f k → yQM n s S R d B len b M0 1 o i (yft f k)) ∧
    ∀ j Lc Lm D, out = yok j Lc Lm D → (ycm (ysg B len j) = false → yQM n s S R d B len b M0 1 o i (yft 1 j)) ∧
      (ycm (ysg B len j) = true → j + 1 ≤ 300 → ∀ out2, yQM n s S R d B len b M0 4 o (j + 1) out2 →
        (∀ f k, out2 = yft f k → yQM n s S R d B len b M0 1 o i (yft f k)) ∧ ∀ k Lc2 Lm2 D2 Lc3 D3, out2 = yok k Lc2 Lm2 D2 → yQM n s S R d B len b M0 1 o i (yok k Lc3 (Lm ++ (Lm2 ++ [(ymb (ysg B len j), 0)])) D3)) := by
  have key : ∀ M P C g, yRp B len b M0 M P C false i → yops P = o → ycl 4 P → yon P = 41 → yRes n s S R d B len b M0 4 5 P C (yHd n s S R d g M) out := fun M P C g hR ho hcl hon => by
    have hQ' := hQ
    unfold yQM at hQ'
    rw [if_neg (by decide), if_neg (by decide)] at hQ'
    exact hQ' M P C g hR ho (ycl_le (show 4 ≤ 5 by decide) hcl) (fun _ _ => hg) (fun h => absurd h (by decide))
  have hst : ∀ P C P1 C1 Lm, ycl 4 P → yon P = 41 → yst 5 P1 C1 = yst 5 P (C ++ Lm) → yst 5 P1 C1 = (P, C ++ Lm) ∧ yon P1 = 41 ∧ ycp P1 = false := fun P C P1 C1 Lm hcl hon h => by
    rw [yst_cl (ycl_le (show 4 ≤ 5 by decide) hcl)] at h
    have h1 := yon_st (r := 5) (by decide) P1 C1
    have h2 := ycp_st (r := 5) (by decide) P1 C1
    rw [h] at h1 h2
    exact ⟨h, by rw [← h1]; exact hon, by rw [← h2]; exact (yaa_k hcl hon).2⟩
  refine ⟨fun f k hout => ?_, fun j Lc Lm D hout => ⟨fun hcm => ?_, fun hcm hj out2 hQ2 => ?_⟩⟩
  · subst hout
    unfold yQM
    rw [if_neg (by decide), if_neg (by decide)]
    intro M P C g hR ho hcl _ hon
    exact key M P C g hR ho hcl (hon rfl)
  · subst hout
    unfold yQM
    rw [if_neg (by decide), if_neg (by decide)]
    intro M P C g hR ho hcl _ hon
    obtain ⟨M1, g1, P1, C1, q1, q2, q3, q4, -⟩ := key M P C g hR ho hcl (hon rfl)
    obtain ⟨-, h41, hcp⟩ := hst P C P1 C1 Lm hcl (hon rfl) q3
    have t1 := (ys_stop (n := n) (s := s) (d := d) hF hb ht q2 (by rw [ybw_ar q4, if_pos h41, hcp, hcm]; rfl) (by rw [h41]; unfold ypt; rw [if_neg (by decide), if_pos rfl, hcp, if_neg (fun z => by cases z.2)]) g1).1 (by omega)
    exact ⟨M1, Eq.trans q1 t1, yFt_p q2.1 q2.2.2.1⟩
  · subst hout
    have hb4 : yrk (ymb (ysg B len j)) = 4 ∧ yio (ymb (ysg B len j)) = false ∧ ymb (ysg B len j) < 40 := by
      have : ysg B len j = 27 ∨ ysg B len j = 28 ∨ ysg B len j = 29 ∨ ysg B len j = 30 ∨ ysg B len j = 31 ∨ ysg B len j = 32 := by
        unfold ycm at hcm
        simp at hcm
        omega
      rcases this with h | h | h | h | h | h <;> (rw [h]; decide)
    have key2 : ∀ M P C g, yRp B len b M0 M P C false i → yops P = o → ycl 4 P → yon P = 41 → yRes n s S R d B len b M0 4 5 (ymb (ysg B len j) :: P) (C ++ Lm) (yHd n s S R d g M) out2 := fun M P C g hR ho hcl hon => by
      obtain ⟨M1, g1, P1, C1, q1, q2, q3, q4, -⟩ := key M P C g hR ho hcl hon
      obtain ⟨h5, h41, hcp⟩ := hst P C P1 C1 Lm hcl hon q3
      obtain ⟨M2, e1, e2⟩ := ys_btw (n := n) (s := s) (d := d) (o := ymb (ysg B len j)) hF hb ht q2 hj (by rw [ybw_ar q4, if_pos h41, hcp, hcm]; rfl) hb4.2.1 (by rw [hb4.1]; decide) g1
      rw [hb4.1, if_pos rfl, h5] at e2
      have e1 : yHd n s S R d g1 M1 = yHd n s S R d g1 M2 := e1
      have hQ' := hQ2
      unfold yQM at hQ'
      rw [if_neg (by decide), if_neg (by decide)] at hQ'
      rw [q1, e1]
      exact hQ' M2 (ymb (ysg B len j) :: P) (C ++ Lm) g1 e2 (by rw [yops_n hb4.2.1, ho]) (by show yrk (ymb (ysg B len j)) < 5; rw [hb4.1]; decide) (fun _ h => by
        rw [yaa_no (Or.inr (by rw [hb4.1]; decide))] at h
        cases h) (fun h => absurd h (by decide))
    refine ⟨fun f k hout => ?_, fun k Lc2 Lm2 D2 Lc3 D3 hout => ?_⟩
    · subst hout
      unfold yQM
      rw [if_neg (by decide), if_neg (by decide)]
      intro M P C g hR ho hcl _ hon
      exact key2 M P C g hR ho hcl (hon rfl)
    · subst hout
      unfold yQM
      rw [if_neg (by decide), if_neg (by decide)]
      intro M P C g hR ho hcl _ hon
      obtain ⟨M1, g1, P1, C1, q1, q2, q3, q4, -⟩ := key2 M P C g hR ho hcl (hon rfl)
      have h5 : yst 5 P1 C1 = (ymb (ysg B len j) :: P, C ++ Lm ++ Lm2) := by rw [q3]; exact yst_cl (by show yrk _ < 5; rw [hb4.1]; decide)
      refine ⟨M1, g1, P1, C1, q1, q2, ?_, by rw [yex_1]; exact q4, fun _ => ?_⟩
      · show yst 3 P1 C1 = yst 3 P (C ++ (Lm ++ (Lm2 ++ [(ymb (ysg B len j), 0)])))
        rw [← yst_le (show 3 ≤ 5 by decide) P1 C1, h5]
        show yst 3 (ymb (ysg B len j) :: P) (C ++ Lm ++ Lm2) = _
        rw [yst_k (by rw [hb4.1]; decide)]
        congr 1
        simp
      · have h2 := ycp_st (r := 5) (by decide) P1 C1
        rw [h5] at h2
        rw [← h2]
        show (if 4 < yrk (ymb (ysg B len j)) then _ else decide (yrk (ymb (ysg B len j)) = 4)) = true
        rw [hb4.1]
        rfl
/-- a choice: EITHER then SUM else SUM end -/
theorem yqc (hF : qFx S R) (hb : b ≤ 2115) (ht : yTa B len M0) {o i : Nat} {out : yO} (hQ : yQM n s S R d B len b M0 6 o i out) :
    (∀ f k, out = yft f k → yQM n s S R d B len b M0 2 o i (yft f k)) ∧
    ∀ j Lc Lm D, out = yok j Lc Lm D → (ysg B len j ≠ 21 → yQM n s S R d B len b M0 2 o i (yft 1 j)) ∧
      (ysg B len j = 21 → j + 1 ≤ 300 → ∀ out2, yQM n s S R d B len b M0 4 o (j + 1) out2 →
        (∀ f k, out2 = yft f k → yQM n s S R d B len b M0 2 o i (yft f k)) ∧
        ∀ k Lc2 Lm2 D2, out2 = yok k Lc2 Lm2 D2 → (ysg B len k ≠ 22 → yQM n s S R d B len b M0 2 o i (yft 1 k)) ∧
          (ysg B len k = 22 → k + 1 ≤ 300 → ∀ out3, yQM n s S R d B len b M0 4 o (k + 1) out3 →
            (∀ f l, out3 = yft f l → yQM n s S R d B len b M0 2 o i (yft f l)) ∧
            ∀ l Lc3 Lm3 D3, out3 = yok l Lc3 Lm3 D3 → (ysg B len l ≠ 23 → yQM n s S R d B len b M0 2 o i (yft 1 l)) ∧
              (ysg B len l = 23 → l + 1 ≤ 300 → ∀ Lc4 D4, yQM n s S R d B len b M0 2 o i (yok (l + 1) Lc4 (Lm ++ (Lm2 ++ (Lm3 ++ [(3, 0)]))) D4)))) := by
  have c1 : ∀ p : Nat, p = 41 ∨ p = 42 ∨ p = 43 → ∀ (r : Nat) P, 1 ≤ r → ycl r (p :: P) := fun p hp r P hr => by
    show yrk p < r
    rcases hp with h | h | h <;> (rw [h]; exact hr)
  have key : ∀ M P C g, yRp B len b M0 M (41 :: P) C false i → yops (41 :: P) = o → yRes n s S R d B len b M0 6 1 (41 :: P) C (yHd n s S R d g M) out := fun M P C g hR ho => by
    have hQ' := hQ
    unfold yQM at hQ'
    rw [if_neg (by decide), if_neg (by decide)] at hQ'
    exact hQ' M (41 :: P) C g hR ho (c1 41 (Or.inl rfl) 1 P (Nat.le_refl _)) (fun h => absurd h (by decide)) (fun _ => rfl)
  have hon1 : ∀ p : Nat, p = 41 ∨ p = 42 ∨ p = 43 → ∀ (r : Nat), 1 ≤ r → ∀ P P1 C1 X, yst r P1 C1 = yst r (p :: P) X → yst r P1 C1 = (p :: P, X) ∧ yon P1 = p ∧ yst 1 P1 C1 = (p :: P, X) := fun p hp r hr P P1 C1 X h => by
    have hy : yon (p :: P) = p := if_pos (by omega)
    rw [yst_cl (c1 p hp r P hr)] at h
    have h1 := yon_st (r := r) hr P1 C1
    rw [h] at h1
    have h1 : yon (p :: P) = yon P1 := h1
    refine ⟨h, by rw [← h1, hy], ?_⟩
    rw [← yst_le hr P1 C1, h]
    exact yst_cl (c1 p hp 1 P (Nat.le_refl _))
  have hyo : ∀ P : List Nat, yops (42 :: P) = yops (41 :: P) ∧ yops (43 :: P) = yops (41 :: P) := fun P => by
    rw [yops_y (by decide), yops_y (by decide), yops_y (by decide)]
    exact ⟨rfl, rfl⟩
  have sumAt : ∀ p : Nat, p = 42 ∨ p = 43 → ∀ (out2 : yO) (t : Nat), yQM n s S R d B len b M0 4 o t out2 → ∀ M P C g, yRp B len b M0 M (p :: P) C false t → yops (41 :: P) = o → yRes n s S R d B len b M0 4 5 (p :: P) C (yHd n s S R d g M) out2 := fun p hp out2 t hq M P C g hR ho => by
    have hQ' := hq
    unfold yQM at hQ'
    rw [if_neg (by decide), if_neg (by decide)] at hQ'
    refine hQ' M (p :: P) C g hR ?_ (c1 p (Or.inr hp) 5 P (by decide)) (fun _ h => ?_) (fun h => absurd h (by decide))
    · rcases hp with h | h
      · rw [h, (hyo P).1, ho]
      · rw [h, (hyo P).2, ho]
    · rw [yaa_no (Or.inl (by
        have hy : yon (p :: P) = p := if_pos (by omega)
        rw [hy]; omega))] at h
      cases h
  refine ⟨fun f k hout => ?_, fun j Lc Lm D hout => ?_⟩
  · subst hout
    unfold yQM
    rw [if_pos rfl]
    intro M P C g hR ho
    exact key M P C g hR ho
  subst hout
  refine ⟨fun h21 => ?_, fun h21 hj out2 hQ2 => ?_⟩
  · unfold yQM
    rw [if_pos rfl]
    intro M P C g hR ho
    obtain ⟨M1, g1, P1, C1, q1, q2, q3, q4, q5⟩ := key M P C g hR ho
    obtain ⟨-, h41, -⟩ := hon1 41 (Or.inl rfl) 1 (Nat.le_refl _) P P1 C1 _ q3
    obtain ⟨x1, x2, x3⟩ := yex_6 q4
    have h41 : yon P1 = 41 := h41
    have t1 := (ys_stop (n := n) (s := s) (d := d) hF hb ht q2 (by rw [ybw_ar x1, if_pos h41, q5 rfl, if_pos rfl, if_neg x2, if_neg x3]) (by rw [h41]; unfold ypt; rw [if_neg (by decide), if_pos rfl, if_neg (fun z => h21 z.1)]) g1).1 (by omega)
    exact ⟨M1, Eq.trans q1 t1, yFt_p q2.1 q2.2.2.1⟩
  have key2 : ∀ M P C g, yRp B len b M0 M (41 :: P) C false i → yops (41 :: P) = o → yRes n s S R d B len b M0 4 5 (42 :: P) (C ++ Lm) (yHd n s S R d g M) out2 := fun M P C g hR ho => by
    obtain ⟨M1, g1, P1, C1, q1, q2, q3, q4, q5⟩ := key M P C g hR ho
    obtain ⟨-, h41, hs1⟩ := hon1 41 (Or.inl rfl) 1 (Nat.le_refl _) P P1 C1 _ q3
    obtain ⟨x1, x2, x3⟩ := yex_6 q4
    have h41' : yon P1 = 41 := h41
    obtain ⟨M2, e1, e2⟩ := ys_part (n := n) (s := s) (d := d) (l := 41) (p := 42) hF hb ht q2 hj (by rw [ybw_ar x1, if_pos h41', q5 rfl, if_pos rfl, if_neg x2, if_neg x3]) h41 (by show ypt P1 (ysg B len j) 41 = 42; unfold ypt; rw [if_neg (by decide), if_pos rfl, if_pos ⟨h21, q5 rfl⟩]) (by decide) hs1 (by decide) g1
    have e1 : yHd n s S R d g1 M1 = yHd n s S R d g1 M2 := e1
    rw [q1, e1]
    exact sumAt 42 (Or.inl rfl) out2 (j + 1) hQ2 M2 P (C ++ Lm) g1 e2 ho
  refine ⟨fun f k hout => ?_, fun k Lc2 Lm2 D2 hout => ?_⟩
  · subst hout
    unfold yQM
    rw [if_pos rfl]
    intro M P C g hR ho
    exact key2 M P C g hR ho
  subst hout
  refine ⟨fun h22 => ?_, fun h22 hk out3 hQ3 => ?_⟩
  · unfold yQM
    rw [if_pos rfl]
    intro M P C g hR ho
    obtain ⟨M1, g1, P1, C1, q1, q2, q3, q4, -⟩ := key2 M P C g hR ho
    obtain ⟨-, h42, -⟩ := hon1 42 (Or.inr (Or.inl rfl)) 5 (by decide) P P1 C1 _ q3
    have h42 : yon P1 = 42 := h42
    have t1 := (ys_stop (n := n) (s := s) (d := d) hF hb ht q2 (by rw [ybw_ar q4, if_neg (by omega)]) (by rw [h42]; unfold ypt; rw [if_neg (by decide), if_neg (by decide), if_pos rfl, if_neg h22]) g1).1 (by omega)
    exact ⟨M1, Eq.trans q1 t1, yFt_p q2.1 q2.2.2.1⟩
  have key3 : ∀ M P C g, yRp B len b M0 M (41 :: P) C false i → yops (41 :: P) = o → yRes n s S R d B len b M0 4 5 (43 :: P) (C ++ Lm ++ Lm2) (yHd n s S R d g M) out3 := fun M P C g hR ho => by
    obtain ⟨M1, g1, P1, C1, q1, q2, q3, q4, -⟩ := key2 M P C g hR ho
    obtain ⟨-, h42, hs1⟩ := hon1 42 (Or.inr (Or.inl rfl)) 5 (by decide) P P1 C1 _ q3
    have h42' : yon P1 = 42 := h42
    obtain ⟨M2, e1, e2⟩ := ys_part (n := n) (s := s) (d := d) (l := 42) (p := 43) hF hb ht q2 hk (by rw [ybw_ar q4, if_neg (by omega)]) h42 (by show ypt P1 (ysg B len k) 42 = 43; unfold ypt; rw [if_neg (by decide), if_neg (by decide), if_pos rfl, if_pos h22]) (by decide) hs1 (by decide) g1
    have e1 : yHd n s S R d g1 M1 = yHd n s S R d g1 M2 := e1
    rw [q1, e1]
    exact sumAt 43 (Or.inr rfl) out3 (k + 1) hQ3 M2 P (C ++ Lm ++ Lm2) g1 e2 ho
  refine ⟨fun f l hout => ?_, fun l Lc3 Lm3 D3 hout => ?_⟩
  · subst hout
    unfold yQM
    rw [if_pos rfl]
    intro M P C g hR ho
    exact key3 M P C g hR ho
  subst hout
  refine ⟨fun h23 => ?_, fun h23 hl Lc4 D4 => ?_⟩
  · unfold yQM
    rw [if_pos rfl]
    intro M P C g hR ho
    obtain ⟨M1, g1, P1, C1, q1, q2, q3, q4, -⟩ := key3 M P C g hR ho
    obtain ⟨-, h43, -⟩ := hon1 43 (Or.inr (Or.inr rfl)) 5 (by decide) P P1 C1 _ q3
    have h43 : yon P1 = 43 := h43
    have t1 := (ys_stop (n := n) (s := s) (d := d) hF hb ht q2 (by rw [ybw_ar q4, if_neg (by omega)]) (by rw [h43]; unfold ypt; rw [if_neg (by decide), if_neg (by decide), if_neg (by decide), if_pos rfl, if_neg h23]) g1).1 (by omega)
    exact ⟨M1, Eq.trans q1 t1, yFt_p q2.1 q2.2.2.1⟩
  · unfold yQM
    rw [if_pos rfl]
    intro M P C g hR ho
    obtain ⟨M1, g1, P1, C1, q1, q2, q3, q4, -⟩ := key3 M P C g hR ho
    obtain ⟨-, h43, hs1⟩ := hon1 43 (Or.inr (Or.inr rfl)) 5 (by decide) P P1 C1 _ q3
    have h43' : yon P1 = 43 := h43
    obtain ⟨M2, e1, e2⟩ := ys_shut (n := n) (s := s) (d := d) (l := 43) hF hb ht q2 hl (by rw [ybw_ar q4, if_neg (by omega)]) h43 (by show ypt P1 (ysg B len l) 43 = 0; unfold ypt; rw [if_neg (by decide), if_neg (by decide), if_neg (by decide), if_pos rfl, if_pos h23]) hs1 (by decide) g1
    refine ⟨M2, g1, _, _, Eq.trans q1 e1, e2, ?_, rfl, fun h => absurd h (by decide)⟩
    rw [if_pos rfl, yst_le (Nat.le_refl _)]
    congr 1
    simp
end QF
