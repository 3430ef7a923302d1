/-! READING A TEXT: clause after clause, both sides -/
abbrev yLt : Type := Nat × Nat × Nat × Nat × (qE → Int)
def yWo (k : Nat) (O : List (Nat × Nat)) (C : List (Nat × Int)) (E : yEv) (L : Nat) : Option yLt → Prop
  | none => ∀ x, x < k → (E x).1 ≠ L
  | some t => t.2.1 ≤ O.length ∧ t.2.2.1 ≤ t.2.2.2.1 ∧ t.2.2.2.1 ≤ C.length ∧ (∃ x, x < k ∧ (E x).1 = L ∧ ∀ x', x' < x → (E x').1 ≠ L) ∧
      (∀ G, qGE G → ∀ F : Nat → Nat × Nat, yat F 0 O → ∃ m, qcr G F t.2.1 m t.1 [] = some (t.2.1, [t.2.2.2.2 G])) ∧
      ∀ G, qGE G → ∀ F : Nat → Nat × Int, yat F 0 C → qmr G F (t.2.2.2.1 - t.2.2.1) t.2.2.1 [] [] = some ([t.2.2.2.2 G], [])
def yPI (i k : Nat) (O : List (Nat × Nat)) (C : List (Nat × Int)) (E : yEv) (w : yLw) : Prop :=
  (O.length ≤ i ∧ C.length ≤ i ∧ k ≤ 24) ∧ (yKc O ∧ yKm C) ∧ (∀ x, x < k → (E x).1 ≤ 9 ∧ ((E x).1 = 9 → 1 ≤ (E x).2.1 ∧ (E x).2.1 ≤ 60)) ∧ ∀ L, L < 3 → yWo k O C E L (w L)
theorem yupd_at {α : Type} {f : Nat → α} {k : Nat} {v : α} : yupd f k v k = v := if_pos rfl
theorem yupd_ne {α : Type} {f : Nat → α} {k x : Nat} {v : α} (h : x ≠ k) : yupd f k v x = f x := if_neg h
theorem yWo_ext {k : Nat} {O O2 : List (Nat × Nat)} {C C2 : List (Nat × Int)} {E : yEv} {L : Nat} {o : Option yLt} {v : Nat × Int × Int × Int} (hv : v.1 ≠ L) (h : yWo k O C E L o) : yWo (k + 1) (O ++ O2) (C ++ C2) (yupd E k v) L o := by
  cases o with
  | none =>
    intro x hx
    by_cases hk : x = k
    · rw [hk, yupd_at]; exact hv
    · rw [yupd_ne hk]; exact h x (by omega)
  | some t =>
    obtain ⟨h1, h2, h3, ⟨x, x1, x2, x3⟩, h5, h6⟩ := h
    refine ⟨by rw [List.length_append]; omega, h2, by rw [List.length_append]; omega, ⟨x, by omega, by rw [yupd_ne (by omega)]; exact x2, fun x' hx' => by rw [yupd_ne (by omega)]; exact x3 x' hx'⟩, fun G hG F hF => h5 G hG F (yat_app.mp hF).1, fun G hG F hF => h6 G hG F (yat_app.mp hF).1⟩
theorem yWo_new {k e i N : Nat} {O : List (Nat × Nat)} {C : List (Nat × Int)} {E : yEv} {j : Nat} {Lc : Nat → List (Nat × Nat)} {Lm : List (Nat × Int)} {D : qE → Int → Int} (h : yWo k O C E e none) (hN : yNok 4 0 Lc Lm D) : yWo (k + 1) (O ++ Lc O.length) (C ++ Lm) (yupd E k (e, 0, 0, 0)) e (some (O.length, O.length + (Lc O.length).length, C.length, C.length + Lm.length, fun G => D G 0)) := by
  obtain ⟨n1, n2, -⟩ := hN
  refine ⟨by rw [List.length_append]; exact Nat.le_refl _, by show C.length ≤ C.length + Lm.length; omega, by rw [List.length_append]; exact Nat.le_refl _, ⟨k, by omega, by rw [yupd_at], fun x' hx' => by rw [yupd_ne (by omega)]; exact h x' hx'⟩, fun G hG F hF => ?_, fun G hG F hF => ?_⟩
  · have h2 := (yat_app.mp hF).2
    rw [Nat.zero_add] at h2
    obtain ⟨m, hm⟩ := n1 G hG F O.length (O.length + (Lc O.length).length) [] 0 h2 (Nat.le_refl _) (Nat.zero_le _) (yrg0 _)
    rw [if_neg (by decide)] at hm
    exact ⟨m, hm⟩
  · have h2 := (yat_app.mp hF).2
    rw [Nat.zero_add] at h2
    have hm := n2 G hG F C.length [] [] 0 h2 (Nat.zero_le _) (Nat.zero_le _) (yrg0 _)
    rw [if_neg (fun z => absurd z.1 (by decide)), if_neg (fun z => absurd z.1 (by decide)), if_neg (by decide)] at hm
    show qmr G F (C.length + Lm.length - C.length) C.length [] [] = _
    rw [show C.length + Lm.length - C.length = Lm.length by omega]
    exact hm
/-- both sides of one clause: a fault, or the next -/
def yCl (B : Nat → Nat) (len N i k : Nat) (O : List (Nat × Nat)) (C : List (Nat × Int)) (E : yEv) (w : yLw) : Prop :=
  (∃ f p, f ≠ 0 ∧ (∀ n s S R d M00 M, qFx S R → yTk B len M00 (N + 1) → yCI M00 M i k O E w → ∃ M', zcal zPP (d + 81) 118 [zA 295] (n, s, S, R, M) = some (zU, (n, s, S, R, M')) ∧ yCF M00 M' f p) ∧
    ∀ n s S R d b M00 M, qFx S R → b ≤ 2115 → yTa B len M00 → yMI B len b M00 M i k C E w → ∃ M', zcal zPP (d + 20) 196 [zA 305] (n, s, S, R, M) = some (zI f, (n, s, S, R, M')) ∧ yMF b M00 M' p) ∨
  (k < 24 ∧ ∃ i' O' C' E' w', i < i' ∧ i' ≤ N ∧ yPI i' (k + 1) O' C' E' w' ∧ (∀ n s S R d M00 M, qFx S R → yTk B len M00 (N + 1) → yCI M00 M i k O E w → ∃ M', zcal zPP (d + 81) 118 [zA 295] (n, s, S, R, M) = some (zU, (n, s, S, R, M')) ∧ yCI M00 M' i' (k + 1) O' E' w') ∧
    ∀ n s S R d b M00 M, qFx S R → b ≤ 2115 → yTa B len M00 → yMI B len b M00 M i k C E w → ∃ M', zcal zPP (d + 20) 196 [zA 305] (n, s, S, R, M) = some (zI 0, (n, s, S, R, M')) ∧ yMI B len b M00 M' i' (k + 1) C' E' w')
theorem yoak_in {B : Nat → Nat} {len N : Nat} (hN : ysg B len N = 43) : ∀ (u i : Nat) (f : Nat → Bool), N - i < u → i ≤ N → (∀ f' t, yoak B len u f i = .inl (f', t) → f' ≠ 0) ∧ ∀ j f', yoak B len u f i = .inr (j, f') → i < j ∧ j ≤ N
  | 0, i, f, hu, _ => absurd hu (by omega)
  | u + 1, i, f, hu, hi => by
    have e : yoak B len (u + 1) f i = if ysg B len i = 41 then (if ywo B len i ≤ 23 then (if f (ywo B len i) = true then .inl (7, i) else if ysg B len (i + 1) = 39 then yoak B len u (yput f (ywo B len i)) (i + 2) else .inr (i + 1, yput f (ywo B len i))) else .inl (2, i)) else .inl (1, i) := rfl
    rw [e]
    by_cases h41 : ysg B len i = 41
    · have hiN := ylt hN hi h41 (by decide)
      rw [if_pos h41]
      by_cases h23 : ywo B len i ≤ 23
      · rw [if_pos h23]
        by_cases hf : f (ywo B len i) = true
        · rw [if_pos hf]
          exact ⟨fun f' t h => by cases h; decide, fun j f' h => by cases h⟩
        · rw [if_neg hf]
          by_cases h39 : ysg B len (i + 1) = 39
          · have hiN2 := ylt hN (i := i + 1) (by omega) h39 (by decide)
            rw [if_pos h39]
            obtain ⟨a1, a2⟩ := yoak_in hN u (i + 2) (yput f (ywo B len i)) (by omega) (by omega)
            exact ⟨a1, fun j f' h => by have := a2 j f' h; omega⟩
          · rw [if_neg h39]
            refine ⟨(fun f' t h => by cases h), fun j f' h => ?_⟩
            cases h
            omega
      · rw [if_neg h23]
        exact ⟨fun f' t h => by cases h; decide, fun j f' h => by cases h⟩
    · rw [if_neg h41]
      exact ⟨fun f' t h => by cases h; decide, fun j f' h => by cases h⟩
theorem ydo_in {B : Nat → Nat} {len N e i : Nat} (hN : ysg B len N = 43) (he : 3 ≤ e ∧ e ≤ 9) (hi : i ≤ N ∧ N ≤ 300) : (∀ f t, ydo B len e i = .inl (f, t) → f ≠ 0) ∧ ∀ j v1 v2 v3, ydo B len e i = .inr (j, v1, v2, v3) → i < j ∧ j ≤ N ∧ (e = 9 → 1 ≤ v1 ∧ v1 ≤ 60) := by
  by_cases h3 : e = 3
  · subst h3
    have ed : ydo B len 3 i = (match yoak B len 302 (fun _ => false) i with | .inl ft => .inl ft | .inr jf => .inr (jf.1, (zsn jf.2 24 : Nat), 0, 0)) := if_pos rfl
    obtain ⟨a1, a2⟩ := yoak_in hN 302 i (fun _ => false) (by omega) hi.1
    rw [ed]
    cases hy : yoak B len 302 (fun _ => false) i with
    | inl ft =>
      obtain ⟨f, t⟩ := ft
      refine ⟨fun f' t' h => ?_, (fun j v1 v2 v3 h => by cases h)⟩
      cases h
      exact a1 _ _ hy
    | inr jf =>
      obtain ⟨j, f⟩ := jf
      refine ⟨(fun f' t' h => by cases h), fun j v1 v2 v3 h => ?_⟩
      cases h
      exact ⟨(a2 _ _ hy).1, (a2 _ _ hy).2, fun z => absurd z (by decide)⟩
  · have ed : ydo B len e i = (match yfst B len (yits e) i with | some ft => .inl ft | none => .inr (i + (yits e).length, (ywo B len i : Nat), (ywo B len (i + 2) : Nat), (ywo B len (i + 4) : Nat))) := if_neg h3
    have hin := yfst_in hN (a := yits e) (i := i) (fun it h' => (yits_g it h').2) hi.1
    have hlen : 0 < (yits e).length := by unfold yits; (repeat' split) <;> decide
    rw [ed]
    cases hy : yfst B len (yits e) i with
    | some ft =>
      obtain ⟨f, t⟩ := ft
      refine ⟨fun f' t' h => ?_, (fun j v1 v2 v3 h => by cases h)⟩
      cases h
      exact (hin.1 _ _ hy).2.1
    | none =>
      refine ⟨(fun f' t' h => by cases h), fun j v1 v2 v3 h => ?_⟩
      cases h
      have hl := hin.2 hy
      refine ⟨by omega, hl, fun z => ?_⟩
      subst z
      have := yits9 hy
      omega
theorem ystep {B : Nat → Nat} {len N i k : Nat} {O : List (Nat × Nat)} {C : List (Nat × Int)} {E : yEv} {w : yLw} (hN : ysg B len N = 43) (h300 : N ≤ 300) (hwo : ∀ i, ywo B len i ≤ 10000) (hP : yPI i k O C E w) (hi : i ≤ N) (hg : ysg B len i ≠ 43) : yCl B len N i k O C E w := by
  have hiN : i < N := by
    rcases Nat.lt_or_ge i N with h1 | h1
    · exact h1
    · have : i = N := by omega
      rw [this, hN] at hg
      exact absurd rfl hg
  obtain ⟨⟨hO, hC, hk⟩, ⟨hKc, hKm⟩, hE, hW⟩ := hP
  by_cases h9 : ysg B len i ≤ 9
  case neg =>
    exact Or.inl ⟨1, ypl B len i, by decide, fun n s S R d M00 M hF hk' hI => kc_bad (d := d + 79) hF hk' h300 hI hi (by omega) (by omega), fun n s S R d b M00 M hF hb ht hI => ⟨M, mk_bad (d := d + 12) hF ht hI (by omega)⟩⟩
  generalize he : ysg B len i = e at h9
  by_cases htw : e < 3 ∧ ∃ t, w e = some t
  · obtain ⟨h3, t, hw⟩ := htw
    exact Or.inl ⟨4, ypl B len i, by decide, fun n s S R d M00 M hF hk' hI => kc_twice (d := d + 79) hF hk' h300 hI hi (by omega) he h3 hw, fun n s S R d b M00 M hF hb ht hI => ⟨M, mk_twice (d := d + 12) hF ht hI he h3 hw⟩⟩
  have hw : e < 3 → w e = none := fun h3 => by
    cases h : w e with
    | none => rfl
    | some t => exact absurd ⟨h3, t, h⟩ htw
  by_cases hk24 : k < 24
  case neg =>
    have : k = 24 := by omega
    subst this
    exact Or.inl ⟨6, ypl B len i, by decide, fun n s S R d M00 M hF hk' hI => kc_full (d := d + 79) hF hk' h300 hI hi (by omega) he h9 hw, fun n s S R d b M00 M hF hb ht hI => ⟨M, mk_full (d := d + 12) hF hb ht hI he h9 hw⟩⟩
  by_cases h3 : e < 3
  · -- a law
    have hw := hw h3
    obtain ⟨out, hQ⟩ := yparse (decide (e = 1)) hN h300 hwo 4 (by decide) 0 (by decide) (i + 1) (by omega)
    cases out with
    | inl ft =>
      obtain ⟨f, t⟩ := ft
      have hf : f ≠ 0 := hQ.2.1.2
      exact Or.inl ⟨f, ypl B len t, hf, fun n s S R d M00 M hF hk' hI => (kc_law hF hk' hN h300 hI hiN hO hk24 he h3 hw hQ).1 f t rfl, fun n s S R d b M00 M hF hb ht hI => (mk_law hF hb ht hN h300 hI hiN hC hk24 he h3 hw (fun x hx => by have := hW e h3; rw [hw] at this; exact this x hx) hQ).1 f t rfl hf⟩
    | inr r =>
      obtain ⟨j, Lc, Lm, D⟩ := r
      obtain ⟨g1, g2, g3, g4, g5⟩ := yGok hQ.1
      have g3 := g3 (by decide)
      have hEe : ∀ x, x < k → (E x).1 ≠ e := fun x hx => by have := hW e h3; rw [hw] at this; exact this x hx
      by_cases h40 : ysg B len j = 40
      · have hj : j < N := by
          rcases Nat.lt_or_ge j N with h1 | h1
          · exact h1
          · have : j = N := by omega
            rw [this, hN] at h40
            exact absurd h40 (by decide)
        have hlc := g4 O.length
        refine Or.inr ⟨hk24, j + 1, O ++ Lc O.length, C ++ Lm, yupd E k (e, 0, 0, 0), yupd w e (some (O.length, O.length + (Lc O.length).length, C.length, C.length + Lm.length, fun G => D G 0)), by omega, by omega, ⟨⟨by rw [List.length_append]; omega, by rw [List.length_append]; omega, by omega⟩, ⟨yKc_a hKc (hQ.2.1.2.1 _ (by omega)), yKm_a hKm hQ.2.1.2.2⟩, fun x hx => ?_, fun L hL => ?_⟩, fun n s S R d M00 M hF hk' hI => ((kc_law hF hk' hN h300 hI hiN hO hk24 he h3 hw hQ).2 j Lc Lm D rfl).2 h40 _, fun n s S R d b M00 M hF hb ht hI => ((mk_law hF hb ht hN h300 hI hiN hC hk24 he h3 hw hEe hQ).2 j Lc Lm D rfl).2 h40 _ _ _⟩
        · by_cases hxk : x = k
          · rw [hxk, yupd_at]
            exact ⟨h9, fun h => absurd (show e = 9 from h) (by omega)⟩
          · rw [yupd_ne hxk]
            exact hE x (by omega)
        · by_cases hL' : L = e
          · subst hL'
            have h0 := hW L hL
            rw [hw] at h0
            rw [yupd_at]
            exact yWo_new (i := 0) (N := 0) (j := 0) h0 hQ.2.1.1
          · rw [yupd_ne hL']
            exact yWo_ext (fun z => hL' z.symm) (hW L hL)
      · exact Or.inl ⟨1, ypl B len j, by decide, fun n s S R d M00 M hF hk' hI => ((kc_law hF hk' hN h300 hI hiN hO hk24 he h3 hw hQ).2 j Lc Lm D rfl).1 h40, fun n s S R d b M00 M hF hb ht hI => ((mk_law hF hb ht hN h300 hI hiN hC hk24 he h3 hw hEe hQ).2 j Lc Lm D rfl).1 h40⟩
  · -- a deed
    have h39 : 3 ≤ e ∧ e ≤ 9 := by omega
    cases hy : ydo B len e (i + 1) with
    | inl ft =>
      obtain ⟨f, t⟩ := ft
      have hf := (ydo_in hN h39 (i := i + 1) (by omega)).1 f t hy
      exact Or.inl ⟨f, ypl B len t, hf, fun n s S R d M00 M hF hk' hI => (kc_deed (d := d + 75) hF hk' hN h300 hI hiN (by omega) hk24 he h39).1 f t hy, fun n s S R d b M00 M hF hb ht hI => (mk_deed hF hb ht hN h300 hI hiN hk24 he h39).1 f t hy hf⟩
    | inr r =>
      obtain ⟨j, v1, v2, v3⟩ := r
      · obtain ⟨j1, j2, j9⟩ := (ydo_in hN h39 (i := i + 1) (by omega)).2 j v1 v2 v3 hy
        by_cases h40 : ysg B len j = 40
        · have hj : j < N := by
            rcases Nat.lt_or_ge j N with h1 | h1
            · exact h1
            · have : j = N := by omega
              rw [this, hN] at h40
              exact absurd h40 (by decide)
          refine Or.inr ⟨hk24, j + 1, O, C, yupd E k (e, v1, v2, v3), w, by omega, by omega, ⟨⟨by omega, by omega, by omega⟩, ⟨hKc, hKm⟩, fun x hx => ?_, fun L hL => ?_⟩, fun n s S R d M00 M hF hk' hI => ((kc_deed (d := d + 75) hF hk' hN h300 hI hiN (by omega) hk24 he h39).2 j v1 v2 v3 hy).2.2.2.2 h40, fun n s S R d b M00 M hF hb ht hI => ((mk_deed hF hb ht hN h300 hI hiN hk24 he h39).2 j v1 v2 v3 hy).2 h40⟩
          · by_cases hxk : x = k
            · rw [hxk, yupd_at]
              exact ⟨h9, fun h => j9 h⟩
            · rw [yupd_ne hxk]
              exact hE x (by omega)
          · have := yWo_ext (O2 := []) (C2 := []) (v := (e, v1, v2, v3)) (show e ≠ L by omega) (hW L hL)
            rw [List.append_nil, List.append_nil] at this
            exact this
        · exact Or.inl ⟨1, ypl B len j, by decide, fun n s S R d M00 M hF hk' hI => ((kc_deed (d := d + 75) hF hk' hN h300 hI hiN (by omega) hk24 he h39).2 j v1 v2 v3 hy).2.2.2.1 h40, fun n s S R d b M00 M hF hb ht hI => ((mk_deed hF hb ht hN h300 hI hiN hk24 he h39).2 j v1 v2 v3 hy).1 h40⟩
