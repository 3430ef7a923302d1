/-! DEEDS: figures and words in a row, both sides -/
/-- an item: (0, part, least, most) a figure, (1, sign, _, _) a sign -/
abbrev yI : Type := Nat × Nat × Nat × Nat
def yit (B : Nat → Nat) (len : Nat) (it : yI) (i : Nat) : Option Nat := if it.1 = 0 then (if ysg B len i = 41 then (if it.2.2.1 ≤ ywo B len i ∧ ywo B len i ≤ it.2.2.2 then none else some 2) else some 1) else (if ysg B len i = it.2.1 then none else some 1)
/-- the first fault, and its token -/
def yfst (B : Nat → Nat) (len : Nat) : List yI → Nat → Option (Nat × Nat)
  | [], _ => none
  | it :: l, i => match yit B len it i with
    | some f => some (f, i)
    | none => yfst B len l (i + 1)
/-- what lies in the row behind -/
def yvs (B : Nat → Nat) (len q : Nat) : List yI → Nat → (Nat → Int) → Nat → Int
  | [], _, F => F
  | it :: l, i, F => yvs B len q l (i + 1) (if it.1 = 0 then (fun x => if x = q + it.2.1 then (ywo B len i : Int) else F x) else F)
theorem yfst_app {B : Nat → Nat} {len : Nat} {b : List yI} : ∀ {a : List yI} {i : Nat}, yfst B len (a ++ b) i = match yfst B len a i with | some x => some x | none => yfst B len b (i + a.length)
  | [], i => rfl
  | it :: l, i => by
    show (match yit B len it i with | some f => some (f, i) | none => yfst B len (l ++ b) (i + 1)) = match (match yit B len it i with | some f => some (f, i) | none => yfst B len l (i + 1)) with | some x => some x | none => yfst B len b (i + (l.length + 1))
    cases yit B len it i with
    | some f => rfl
    | none =>
      show yfst B len (l ++ b) (i + 1) = _
      rw [yfst_app, show i + (l.length + 1) = i + 1 + l.length by omega]
theorem yvs_app {B : Nat → Nat} {len q : Nat} {b : List yI} : ∀ {a : List yI} {i : Nat} {F : Nat → Int}, yvs B len q (a ++ b) i F = yvs B len q b (i + a.length) (yvs B len q a i F)
  | [], i, F => rfl
  | it :: l, i, F => by
    show yvs B len q (l ++ b) (i + 1) _ = yvs B len q b (i + (l.length + 1)) _
    rw [yvs_app, show i + (l.length + 1) = i + 1 + l.length by omega]
    rfl
theorem yfst_in {B : Nat → Nat} {len N : Nat} (hN : ysg B len N = 43) : ∀ {a : List yI} {i : Nat}, (∀ it ∈ a, it.1 ≠ 0 → it.2.1 ≠ 43) → i ≤ N → (∀ f t, yfst B len a i = some (f, t) → t ≤ N ∧ f ≠ 0 ∧ f < 3 ∧ i ≤ t) ∧ (yfst B len a i = none → i + a.length ≤ N)
  | [], i, _, hi => ⟨fun f t h => (by cases h), fun _ => hi⟩
  | it :: l, i, hg, hi => by
    have e : yfst B len (it :: l) i = match yit B len it i with | some f => some (f, i) | none => yfst B len l (i + 1) := rfl
    rw [e]
    cases h : yit B len it i with
    | some f =>
      refine ⟨fun f' t h' => ?_, fun h' => by cases h'⟩
      cases h'
      refine ⟨hi, ?_, ?_, Nat.le_refl _⟩ <;> (unfold yit at h; (repeat' split at h) <;> simp at h <;> omega)
    | none =>
      have hiN : i < N := by
        rcases Nat.lt_or_ge i N with h1 | h1
        · exact h1
        · have : i = N := by omega
          rw [this] at h
          unfold yit at h
          rw [hN] at h
          have := hg it (List.mem_cons_self ..)
          by_cases h0 : it.1 = 0
          · rw [if_pos h0, if_neg (by decide)] at h; cases h
          · rw [if_neg h0, if_neg (fun z => this h0 z.symm)] at h; cases h
      obtain ⟨a1, a2⟩ := yfst_in hN (a := l) (i := i + 1) (fun it' h' => hg it' (List.mem_cons_of_mem _ h')) (by omega)
      refine ⟨fun f t h' => ?_, fun h' => ?_⟩
      · obtain ⟨b1, b2, b3, b4⟩ := a1 f t h'
        exact ⟨b1, b2, b3, by omega⟩
      · have := a2 h'
        show i + (l.length + 1) ≤ N
        omega
/-- the class's rows but what a deed writes -/
def yFc (k : Nat) (M0 M : Nat → Nat → Int) : Prop := (∀ a, a ≠ 295 → a ≠ 300 → M a = M0 a) ∧ (∀ x, x ≠ 8 → x ≠ 12 → x ≠ 13 → M 295 x = M0 295 x) ∧ ∀ x, x < 4 * k + 1 ∨ 4 * k + 3 < x → M 300 x = M0 300 x
def yFd (k : Nat) (M0 M : Nat → Nat → Int) : Prop := (∀ a, a ≠ 295 → a ≠ 300 → M a = M0 a) ∧ (∀ x, x ≠ 8 → x ≠ 12 → x ≠ 8 → M 295 x = M0 295 x) ∧ ∀ x, x < 4 * k + 1 ∨ 4 * k + 3 < x → M 300 x = M0 300 x
def yDs (M0 M : Nat → Nat → Int) (k i : Nat) : Prop := M 295 8 = i ∧ M 295 12 = 0 ∧ yFd k M0 M
def yDb (M0 M : Nat → Nat → Int) (k f p : Nat) : Prop := M 295 12 = f ∧ f ≠ 0 ∧ M 295 13 = p ∧ yFc k M0 M
def yD0 (B : Nat → Nat) (len N : Nat) (M0 : Nat → Nat → Int) (c k : Nat) : Prop := M0 295 9 = c ∧ c ≤ 300 ∧ M0 295 10 = k ∧ k < 24 ∧ yTk B len M0 (N + 1) ∧ N ≤ 300
theorem qwf {k p : Nat} (hk : k < 24) (hp : p ≤ 3) : zw32 (zw32 ((k : Int) * 4) + p) = ((4 * k + p : Nat) : Int) := by
  rw [qz (x := (k : Int) * 4) (by omega) (by omega), qz (by omega) (by omega)]
  omega
noncomputable def yic (d : Nat) (it : yI) (σ : zS) : zO := if it.1 = 0 then zcal zPP d 133 [zA 295, zI it.2.1, zI it.2.2.1, zI it.2.2.2] σ else zcal zPP d 125 [zA 295, zI it.2.1] σ
noncomputable def yicr (d : Nat) : List yI → zS → zO
  | [], σ => some (zU, σ)
  | it :: l, σ => zbV (yic d it σ) fun q => yicr d l q
section QF
variable {S : Nat → Nat × Nat} {R : Nat → Nat → Nat} {M M' M0 M1 M2 M3 : Nat → Nat → Int} {n s d r : Nat} {B : Nat → Nat} {len N i j c k f p b : Nat}
theorem yDs_Cp (h0 : yD0 B len N M0 c k) (h : yDs M0 M k i) : yCp M M i c ∧ yTk B len M (N + 1) := by
  obtain ⟨a1, a2, a3, a4, a5, a6⟩ := h0
  obtain ⟨b1, b2, b3, b4, b5⟩ := h
  refine ⟨⟨b1, by rw [b4 9 (by decide) (by decide) (by decide)]; exact a1, b2, fun _ _ _ => rfl, fun _ _ _ _ _ => rfl⟩, ?_⟩
  unfold yTk at a5 ⊢
  rw [b3 296 (by decide) (by decide), b3 297 (by decide) (by decide), b3 298 (by decide) (by decide)]
  exact a5
theorem yDb_Ju (h0 : yD0 B len N M0 c k) (h : yDb M0 M k f p) : yJu M M f p := by
  obtain ⟨a1, a2, a3, a4, a5, a6⟩ := h0
  obtain ⟨b1, b2, b3, b4, b5, b6⟩ := h
  have e9 : M 295 9 = c := by rw [b5 9 (by decide) (by decide) (by decide)]; exact a1
  exact ⟨b1, b2, b3, by omega, fun _ _ _ => rfl, fun _ _ _ _ _ => rfl⟩
theorem kd_fails (hF : qFx S R) (h0 : yD0 B len N M0 c k) (h : yDs M0 M k i) (hi : i ≤ N) (hf : f ≠ 0) : ∃ M', zcal zPP (d + 1) 119 [zA 295, zI f] (n, s, S, R, M) = some (zU, (n, s, S, R, M')) ∧ yDb M0 M' k f (ypl B len i) := by
  obtain ⟨h1, h2⟩ := yDs_Cp h0 h
  have hN := h0.2.2.2.2.2
  obtain ⟨h3, h4, f1, f2, f3⟩ := h
  have hk := h2 i (by omega)
  refine ⟨zup (zup M 295 12 f) 295 13 (ypl B len i), ?_, ?_, hf, zup_at, fun a a1 a2 => by rw [zup_rw a1, zup_rw a1]; exact f1 a a1 a2, fun x x1 x2 x3 => by rw [zup_ne (by omega), zup_ne (by omega)]; exact f2 x x1 x2 x1, fun x hx => by rw [zup_rw (by decide), zup_rw (by decide)]; exact f3 x hx⟩
  · have hi0 : 0 ≤ (i : Int) ∧ (i : Int) < ((301 : Nat) : Int) := by omega
    rw [c_Reader_fails]
    simp only [qff hF, if_true, h3, h4]
    rw [if_neg (by omega), if_neg (by omega)]
    have e1 : zup M 295 12 (f : Int) 295 8 = (i : Int) := by rw [zup_ne (by decide)]; exact h3
    simp only [e1, true_or, true_and, if_pos hi0, Int.toNat_natCast, zup_rw (show (298 : Nat) ≠ 295 by decide), hk.2.2]
  · rw [zup_ne (by decide)]; exact zup_at
theorem kd_it (hF : qFx S R) (h0 : yD0 B len N M0 c k) (h : yDs M0 M k i) (hi : i ≤ N) {it : yI} (hp : it.1 = 0 → 1 ≤ it.2.1 ∧ it.2.1 ≤ 3) :
    (yit B len it i = none → ∃ M', yic (d + 2) it (n, s, S, R, M) = some (zU, (n, s, S, R, M')) ∧ yDs M0 M' k (i + 1) ∧ M' 300 = (if it.1 = 0 then (fun x => if x = 4 * k + it.2.1 then (ywo B len i : Int) else M 300 x) else M 300)) ∧
    ∀ f, yit B len it i = some f → ∃ M', yic (d + 2) it (n, s, S, R, M) = some (zU, (n, s, S, R, M')) ∧ yDb M0 M' k f (ypl B len i) := by
  obtain ⟨kind, p, lo, hi'⟩ := it
  obtain ⟨h1, h2⟩ := yDs_Cp h0 h
  have hN := h0.2.2.2.2.2
  have hk24 := h0.2.2.2.1
  have h10 : M 295 10 = k := by rw [h.2.2.2.1 10 (by decide) (by decide) (by decide)]; exact h0.2.2.1
  have hFc := h.2.2
  by_cases hkd : kind = 0
  · subst hkd
    have hp := hp rfl
    have hp : 1 ≤ p ∧ p ≤ 3 := hp
    have ehere := kx_here (n := n) (s := s) (d := d) (S := S) (R := R) (M := M) hF h2 hN h1 hi
    have hw := (h2 i (by omega)).2.1
    have e8 := h1.1
    have e12 := h1.2.2.1
    have eh : yic (d + 2) (0, p, lo, hi') (n, s, S, R, M) = zcal zPP (d + 1 + 1) 133 [zA 295, zI p, zI lo, zI hi'] (n, s, S, R, M) := rfl
    rw [eh, c_Reader_expectNumber]
    have hi0 : 0 ≤ (i : Int) ∧ (i : Int) < ((301 : Nat) : Int) := by omega
    have hr0 : 0 ≤ ((4 * k + p : Nat) : Int) ∧ ((4 * k + p : Nat) : Int) < ((96 : Nat) : Int) := by omega
    have hn1 : ¬ (i : Int) < 0 := by omega
    have hn2 : ¬ 300 < (i : Int) := by omega
    have hn3 : ¬ ((4 * k + p : Nat) : Int) < 0 := by omega
    have hn4 : ((4 * k + p : Nat) : Int) < 96 := by omega
    simp only [qff hF, if_true, e8, e12, h10, qwf hk24 hp.2, if_neg hn1, if_neg hn2, if_neg hn3, if_pos hn4]
    rw [ehere]
    simp only [zbI]
    by_cases g41 : ysg B len i = 41
    · have c41 : ((ysg B len i : Nat) : Int) = 41 := by omega
      simp only [qff hF, if_true, e8, if_pos c41, true_or, true_and, if_pos hi0, Int.toNat_natCast, hw]
      by_cases hlo : lo ≤ ywo B len i
      · have n1 : ¬ ((ywo B len i : Nat) : Int) < lo := by omega
        simp only [if_neg n1]
        by_cases hhi : ywo B len i ≤ hi'
        · have n2 : ¬ (hi' : Int) < ((ywo B len i : Nat) : Int) := by omega
          have ey : yit B len (0, p, lo, hi') i = none := by unfold yit; rw [if_pos rfl, if_pos g41, if_pos ⟨hlo, hhi⟩]
          rw [ey]
          refine ⟨fun _ => ?_, fun f hf => by cases hf⟩
          refine ⟨zup (zup M 300 (4 * k + p) (ywo B len i)) 295 8 ((i + 1 : Nat) : Int), ?_, ⟨zup_at, ?_, fun a a1 a2 => ?_, fun x x1 x2 x3 => ?_, fun x hx => ?_⟩, ?_⟩
          · simp only [if_neg n2, if_pos hr0, zup_rw (show (295 : Nat) ≠ 300 by decide), e8, qw1 (k := i) (by omega)]
          · rw [zup_ne (by decide), zup_rw (by decide)]; exact e12
          · rw [zup_rw a1, zup_rw a2]; exact hFc.1 a a1 a2
          · rw [zup_ne (by omega), zup_rw (by decide)]; exact hFc.2.1 x x1 x2 x3
          · rw [zup_rw (by decide), zup_ne (by omega)]; exact hFc.2.2 x hx
          · rw [zup_rw (by decide)]
            show zup M 300 (4 * k + p) (ywo B len i) 300 = fun x => if x = 4 * k + p then (ywo B len i : Int) else M 300 x
            funext x
            by_cases hx : x = 4 * k + p
            · rw [hx, zup_at, if_pos rfl]
            · rw [zup_ne hx, if_neg hx]
        · have n2 : (hi' : Int) < ((ywo B len i : Nat) : Int) := by omega
          have ey : yit B len (0, p, lo, hi') i = some 2 := by unfold yit; rw [if_pos rfl, if_pos g41, if_neg (fun z => hhi z.2)]
          rw [ey]
          refine ⟨fun hf => (by cases hf), fun f hf => ?_⟩
          cases hf
          obtain ⟨M', q1, q2⟩ := kd_fails (n := n) (s := s) (d := d) hF h0 h hi (f := 2) (by decide)
          refine ⟨M', ?_, q2⟩
          simp only [if_pos n2]
          have q1 : zcal zPP (d + 1) 119 [zA 295, zI 2] (n, s, S, R, M) = some (zU, (n, s, S, R, M')) := q1
          rw [q1]
          rfl
      · have n1 : ((ywo B len i : Nat) : Int) < lo := by omega
        have ey : yit B len (0, p, lo, hi') i = some 2 := by unfold yit; rw [if_pos rfl, if_pos g41, if_neg (fun z => hlo z.1)]
        rw [ey]
        refine ⟨fun hf => (by cases hf), fun f hf => ?_⟩
        cases hf
        obtain ⟨M', q1, q2⟩ := kd_fails (n := n) (s := s) (d := d) hF h0 h hi (f := 2) (by decide)
        refine ⟨M', ?_, q2⟩
        simp only [if_pos n1]
        have q1 : zcal zPP (d + 1) 119 [zA 295, zI 2] (n, s, S, R, M) = some (zU, (n, s, S, R, M')) := q1
        rw [q1]
        rfl
    · have c41 : ¬ ((ysg B len i : Nat) : Int) = 41 := by omega
      have ey : yit B len (0, p, lo, hi') i = some 1 := by unfold yit; rw [if_pos rfl, if_neg g41]
      rw [ey]
      refine ⟨fun hf => (by cases hf), fun f hf => ?_⟩
      cases hf
      obtain ⟨M', q1, q2⟩ := kd_fails (n := n) (s := s) (d := d) hF h0 h hi (f := 1) (by decide)
      refine ⟨M', ?_, q2⟩
      simp only [if_neg c41]
      have q1 : zcal zPP (d + 1) 119 [zA 295, zI 1] (n, s, S, R, M) = some (zU, (n, s, S, R, M')) := q1
      rw [q1]
      rfl
  · have eh : yic (d + 2) (kind, p, lo, hi') (n, s, S, R, M) = zcal zPP (d + 2) 125 [zA 295, zI p] (n, s, S, R, M) := if_neg hkd
    rw [eh]
    by_cases hg : ysg B len i = p
    · have ey : yit B len (kind, p, lo, hi') i = none := by unfold yit; rw [if_neg hkd, if_pos hg]
      rw [ey]
      refine ⟨fun _ => ⟨_, kx_exp hF h2 hN h1 hi hg, ⟨zup_at, ?_, fun a a1 a2 => ?_, fun x x1 x2 x3 => ?_, fun x hx => ?_⟩, ?_⟩, fun f hf => by cases hf⟩
      · rw [zup_ne (by decide)]; exact h1.2.2.1
      · rw [zup_rw a1]; exact hFc.1 a a1 a2
      · rw [zup_ne (by omega)]; exact hFc.2.1 x x1 x2 x3
      · rw [zup_rw (by decide)]; exact hFc.2.2 x hx
      · rw [zup_rw (by decide), if_neg hkd]
    · have ey : yit B len (kind, p, lo, hi') i = some 1 := by unfold yit; rw [if_neg hkd, if_neg hg]
      rw [ey]
      refine ⟨fun hf => (by cases hf), fun f hf => ?_⟩
      cases hf
      obtain ⟨M', q1, q2⟩ := kd_fails (n := n) (s := s) (d := d) hF h0 h hi (f := 1) (by decide)
      refine ⟨M', ?_, q2⟩
      have ehere := kx_here (n := n) (s := s) (d := d) (S := S) (R := R) (M := M) hF h2 hN h1 hi
      have q1 : zcal zPP (d + 1) 119 [zA 295, zI 1] (n, s, S, R, M) = some (zU, (n, s, S, R, M')) := q1
      show zcal zPP (d + 1 + 1) 125 [zA 295, zI p] (n, s, S, R, M) = _
      rw [c_Reader_expect]
      simp only [qff hF, if_true, h1.2.2.1]
      rw [ehere]
      simp only [zbI]
      rw [if_neg (by omega), q1]
      rfl
theorem kd_itJ (hF : qFx S R) (h0 : yD0 B len N M0 c k) (h : yDb M0 M k f p) (it : yI) : yic (d + 1) it (n, s, S, R, M) = some (zU, (n, s, S, R, M)) := by
  unfold yic
  by_cases hk : it.1 = 0
  · rw [if_pos hk, c_Reader_expectNumber]
    have h12 : ¬ M 295 12 = 0 := by rw [h.1]; have := h.2.1; omega
    simp only [qff hF, if_true, if_neg h12]
  · rw [if_neg hk]
    exact kx_expJ hF (yDb_Ju h0 h) _
/-- the class goes through the items -/
theorem kd_its (hF : qFx S R) (h0 : yD0 B len N M0 c k) (hN : ysg B len N = 43) : ∀ {a : List yI} {i : Nat} {M : Nat → Nat → Int}, (∀ it ∈ a, (it.1 = 0 → 1 ≤ it.2.1 ∧ it.2.1 ≤ 3) ∧ (it.1 ≠ 0 → it.2.1 ≠ 43)) → yDs M0 M k i → i ≤ N →
    (yfst B len a i = none → ∃ M', yicr (d + 2) a (n, s, S, R, M) = some (zU, (n, s, S, R, M')) ∧ yDs M0 M' k (i + a.length) ∧ M' 300 = yvs B len (4 * k) a i (M 300)) ∧
    ∀ f t, yfst B len a i = some (f, t) → ∃ M', yicr (d + 2) a (n, s, S, R, M) = some (zU, (n, s, S, R, M')) ∧ yDb M0 M' k f (ypl B len t)
  | [], i, M, _, h, _ => ⟨fun _ => ⟨M, rfl, h, rfl⟩, fun f t h' => by cases h'⟩
  | it :: l, i, M, hg, h, hi => by
    have hJ : ∀ (l : List yI) (f p : Nat) (M : Nat → Nat → Int), yDb M0 M k f p → yicr (d + 2) l (n, s, S, R, M) = some (zU, (n, s, S, R, M)) := fun l => by
      induction l with
      | nil => intro f p M _; rfl
      | cons it l ih =>
        intro f p M hb
        show zbV (yic (d + 2) it (n, s, S, R, M)) (fun q => yicr (d + 2) l q) = _
        rw [kd_itJ (d := d + 1) hF h0 hb it]
        exact ih f p M hb
    have e : yfst B len (it :: l) i = match yit B len it i with | some f => some (f, i) | none => yfst B len l (i + 1) := rfl
    have ec : yicr (d + 2) (it :: l) (n, s, S, R, M) = zbV (yic (d + 2) it (n, s, S, R, M)) (fun q => yicr (d + 2) l q) := rfl
    obtain ⟨k1, k2⟩ := kd_it (n := n) (s := s) (d := d) hF h0 h hi (it := it) (hg it (List.mem_cons_self ..)).1
    have hin := (yfst_in hN (a := [it]) (i := i) (fun it' h' => by cases h' with | head => exact (hg it (List.mem_cons_self ..)).2 | tail _ h' => cases h') hi).2
    rw [e, ec]
    cases hy : yit B len it i with
    | some f =>
      refine ⟨fun h' => (by cases h'), fun f' t h' => ?_⟩
      cases h'
      obtain ⟨M', q1, q2⟩ := k2 f hy
      refine ⟨M', ?_, q2⟩
      rw [q1]
      exact hJ l f _ M' q2
    | none =>
      obtain ⟨M', q1, q2, q3⟩ := k1 hy
      have hiN : i + 1 ≤ N := hin (by show (match yit B len it i with | some f => some (f, i) | none => none) = none; rw [hy])
      obtain ⟨a1, a2⟩ := kd_its hF h0 hN (a := l) (i := i + 1) (M := M') (fun it' h' => hg it' (List.mem_cons_of_mem _ h')) q2 hiN
      rw [q1]
      refine ⟨fun h' => ?_, fun f t h' => ?_⟩
      · obtain ⟨M2, p1, p2, p3⟩ := a1 h'
        refine ⟨M2, p1, ?_, ?_⟩
        · show yDs M0 M2 k (i + (l.length + 1))
          rw [show i + (l.length + 1) = i + 1 + l.length by omega]
          exact p2
        · rw [p3, q3]
          rfl
      · exact a2 f t h'
end QF
