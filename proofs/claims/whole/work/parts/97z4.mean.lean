/-! A TEXT: what the new text means, on both sides -/
theorem yat_get {α β : Type} {G : Nat → β} {f : α → β} {z : α} : ∀ {L : List α} {c : Nat}, yat G c (L.map f) → ∀ x, x < L.length → G (c + x) = f (L.getD x z)
  | [], c, _, x, hx => absurd hx (Nat.not_lt_zero _)
  | a :: L, c, h, 0, _ => h.1
  | a :: L, c, h, x + 1, hx => by
    have := yat_get (z := z) h.2 x (Nat.lt_of_succ_lt_succ hx)
    rw [show c + (x + 1) = c + 1 + x by omega, this]
    rfl
theorem yat_of {α : Type} {z : α} {F : Nat → α} : ∀ {L : List α} {c : Nat}, (∀ x, x < L.length → F (c + x) = L.getD x z) → yat F c L
  | [], c, _ => trivial
  | a :: L, c, h => ⟨h 0 (Nat.zero_lt_succ _), yat_of (z := z) (fun x hx => by
      have := h (x + 1) (Nat.succ_lt_succ hx)
      rw [show c + 1 + x = c + (x + 1) by omega, this]
      rfl)⟩
theorem getD_mem {α : Type} {z : α} : ∀ {L : List α} {x : Nat}, x < L.length → L.getD x z ∈ L
  | [], x, hx => absurd hx (Nat.not_lt_zero _)
  | a :: L, 0, _ => List.mem_cons_self ..
  | a :: L, x + 1, hx => List.mem_cons_of_mem _ (getD_mem (Nat.lt_of_succ_lt_succ hx))
theorem qTe_new {n i k t : Nat} {S : Nat → Nat × Nat} {R : Nat → Nat → Nat} {M : Nat → Nat → Int} {O : List (Nat × Nat)} {C : List (Nat × Int)} {E : yEv} {w : yLw} (hn : 319 ≤ n) (hP : yPI i k O C E w) (hi : i ≤ 300)
    (hS : S n = (7, 4) ∧ S (n + 1) = (20, O.length) ∧ S (n + 2) = (20, 4 * k) ∧ S (n + 3) = (20, 3) ∧ S (n + 4) = (20, 3)) (hR : R n 0 = n + 1 ∧ R n 1 = n + 2 ∧ R n 2 = n + 3 ∧ R n 3 = n + 4)
    (ho : yat (M (n + 1)) 0 (O.map yen)) (hc : ∀ x, x < k → M (n + 2) (4 * x) = (E x).1 ∧ (3 ≤ (E x).1 → yPv (E x).1 (M (n + 2)) (4 * x) (E x).2.1 (E x).2.2.1 (E x).2.2.2))
    (hl : ∀ L, L < 3 → match w L with | none => M (n + 3) L = -1 | some t => M (n + 3) L = t.1 ∧ M (n + 4) L = t.2.1)
    (hk : M 308 (705 * t) = k) (hC : yat (ycf (M 308) (705 * t)) 0 (ycm' C))
    (hm : ∀ x, x < k → M 308 (705 * t + 1 + 4 * x) = (E x).1 ∧ (3 ≤ (E x).1 → yPv (E x).1 (M 308) (705 * t + 1 + 4 * x) (E x).2.1 (E x).2.2.1 (E x).2.2.2) ∧ ((E x).1 < 3 → ∃ u, w (E x).1 = some u ∧ M 308 (705 * t + 1 + 4 * x + 1) = u.2.2.1 ∧ M 308 (705 * t + 1 + 4 * x + 2) = u.2.2.2.1)) :
    qTe (n + 5) S R M n t (fun L => (w L).map fun u => u.2.2.2.2) := by
  obtain ⟨⟨hO, hCl, hk24⟩, ⟨hKc, hKm⟩, hE, hW⟩ := hP
  obtain ⟨s0, s1, s2, s3, s4⟩ := hS
  obtain ⟨r0, r1, r2, r3⟩ := hR
  refine ⟨by omega, by rw [r0]; omega, by rw [r1]; omega, by rw [r2]; omega, by rw [r3]; omega, ⟨fun x => O.getD x (0, 0), O.length, fun L => M (n + 3) L, fun L => M (n + 4) L, ⟨⟨s0, by rw [r0]; exact s1, by rw [r2]; exact s3, by rw [r3]; exact s4⟩, ⟨hn, by rw [r0]; omega, by rw [r2]; omega, by rw [r3]; omega⟩, by omega, fun x hx => ?_, fun L hL => ⟨by rw [r2], by rw [r3]⟩⟩, fun L hL => ?_⟩, ⟨k, hk, hk24, fun L hL => ?_⟩, ⟨by rw [r1]; omega, k, hk, hk24, by rw [r1]; exact s2, fun x hx => ?_⟩⟩
  · have h1 := yat_get (z := (0, 0)) ho x hx
    rw [Nat.zero_add] at h1
    have h2 := hKc _ (getD_mem (z := (0, 0)) hx)
    rw [r0]
    exact ⟨h1, h2.2, h2.1⟩
  · have h1 := hl L hL
    have h2 := hW L hL
    simp only []
    cases hw : w L with
    | none =>
      rw [hw] at h1
      simp only [Option.map_none]
      exact h1
    | some u =>
      rw [hw] at h1 h2
      simp only [Option.map_some]
      obtain ⟨a1, a2, a3, a4, a5, a6⟩ := h2
      exact ⟨u.1, u.2.1, h1.1, h1.2, a1, fun G hG => a5 G hG _ (yat_of (z := (0, 0)) (fun x hx => by rw [Nat.zero_add]))⟩
  · have h2 := hW L hL
    simp only []
    cases hw : w L with
    | none =>
      rw [hw] at h2
      simp only [Option.map_none]
      intro x hx
      rw [(hm x hx).1]
      have h2 : ∀ x, x < k → (E x).1 ≠ L := h2
      have := h2 x hx
      omega
    | some u =>
      rw [hw] at h2
      obtain ⟨a1, a2, a3, ⟨x, x1, x2, x3⟩, a5, a6⟩ := h2
      obtain ⟨m1, m2, m3⟩ := hm x x1
      obtain ⟨u', u1, u2, u3⟩ := m3 (by omega)
      rw [x2, hw] at u1
      cases u1
      simp only [Option.map_some]
      refine ⟨x, x1, by rw [m1, x2], fun x' hx' => by rw [(hm x' (by omega)).1]; have := x3 x' hx'; omega, fun y => C.getD y (0, 0), u.2.2.1, u.2.2.2.1, u2, u3, a2, by omega, fun y y1 y2 => ?_, fun G hG => a6 G hG _ (yat_of (z := (0, 0)) (fun x hx => by rw [Nat.zero_add]))⟩
      have hy : y < C.length := by omega
      have h1 := yat_get (f := fun e : Nat × Int => ((e.1 : Int), e.2)) (z := (0, 0)) hC y hy
      rw [Nat.zero_add] at h1
      have h1a : M 308 (705 * t + 97 + 2 * y) = ((C.getD y (0, 0)).1 : Int) := congrArg Prod.fst h1
      have h1b : M 308 (705 * t + 97 + 2 * y + 1) = (C.getD y (0, 0)).2 := congrArg Prod.snd h1
      have h3 := hKm _ (getD_mem (z := (0, 0)) hy)
      exact ⟨h1a, h1b, h3.1, h3.2⟩
  · obtain ⟨c1, c2⟩ := hc x hx
    obtain ⟨m1, m2, m3⟩ := hm x hx
    obtain ⟨e1, e2⟩ := hE x hx
    rw [r1]
    refine ⟨(E x).1, e1, c1, m1, fun h => ?_, fun h => ?_, fun h => ?_, fun h => ?_⟩
    · exact (c2 h).1.trans (m2 h).1.symm
    · exact ((c2 (by omega)).2.1 h).trans ((m2 (by omega)).2.1 h).symm
    · exact ((c2 (by omega)).2.2 h).trans ((m2 (by omega)).2.2 h).symm
    · have := e2 h
      rw [(m2 (by omega)).1]
      exact this
/-- an old text stays -/
theorem qTe_old {n n1 : Nat} {S S1 : Nat → Nat × Nat} {R R1 : Nat → Nat → Nat} {M M1 : Nat → Nat → Int} {q t : Nat} {w : qWt} (hn : n ≤ n1) (hS : ∀ a, a < n → S1 a = S a) (hR : ∀ a, 319 ≤ a → a < n → R1 a = R a) (hM : ∀ a, 319 ≤ a → a < n → M1 a = M a) (h8 : ∀ x, x < 705 * t + 705 → M1 308 x = M 308 x) (h : qTe n S R M q t w) : qTe n1 S1 R1 M1 q t w := by
  obtain ⟨h1, h2, h3, h4, h5, ⟨O, len, lo, hi, ⟨⟨c1, c2, c3, c4⟩, ⟨d1, d2, d3, d4⟩, cl, cO, cL⟩, hw⟩, hx, ⟨f1, c, f2, f3, f4, f5⟩⟩ := h
  have eR := hR q d1 h1
  refine ⟨by omega, by rw [eR]; omega, by rw [eR]; omega, by rw [eR]; omega, by rw [eR]; omega, ⟨O, len, lo, hi, ⟨⟨by rw [hS q h1]; exact c1, by rw [eR, hS _ h2]; exact c2, by rw [eR, hS _ h4]; exact c3, by rw [eR, hS _ h5]; exact c4⟩, ⟨d1, by rw [eR]; exact d2, by rw [eR]; exact d3, by rw [eR]; exact d4⟩, cl, by rw [eR, hM _ d2 h2]; exact cO, by rw [eR, hM _ d3 h4, hM _ d4 h5]; exact cL⟩, hw⟩, ?_, ⟨by rw [eR]; exact f1, c, by rw [h8 _ (by omega)]; exact f2, f3, by rw [eR, hS _ h3]; exact f4, fun k hk => ?_⟩⟩
  · obtain ⟨c', g1, g2, g3⟩ := hx
    refine ⟨c', by rw [h8 _ (by omega)]; exact g1, g2, fun L hL => ?_⟩
    have := g3 L hL
    cases hwL : w L with
    | none =>
      rw [hwL] at this
      intro k hk
      rw [h8 _ (by omega)]
      exact this k hk
    | some D =>
      rw [hwL] at this
      obtain ⟨k, k1, k2, k3, C, i, j, p1, p2, p3, p4, p5, p6⟩ := this
      exact ⟨k, k1, by rw [h8 _ (by omega)]; exact k2, fun k' hk' => by rw [h8 _ (by omega)]; exact k3 k' hk', C, i, j, by rw [h8 _ (by omega)]; exact p1, by rw [h8 _ (by omega)]; exact p2, p3, p4, fun x x1 x2 => by rw [h8 _ (by omega), h8 _ (by omega)]; exact p5 x x1 x2, p6⟩
  · obtain ⟨e, e1, e2, e3, e4, e5, e6, e7⟩ := f5 k hk
    rw [eR, hM _ f1 h3, h8 _ (by omega), h8 _ (by omega), h8 _ (by omega), h8 _ (by omega)]
    exact ⟨e, e1, e2, e3, e4, e5, e6, e7⟩
