/-! DAYS as STEPS: the row kept, as a function -/
def qkeep (A : Nat → Int) : Nat → Int := fun k =>
  if k = 4 then ((min (A 4).toNat 29 + 1 : Nat) : Int)
  else if k < 200 ∨ 4850 ≤ k then A k
  else if k < qsx (min (A 4).toNat 29) then A (k + 155 * ((A 4).toNat - min (A 4).toNat 29))
  else if k = qsx (min (A 4).toNat 29) then A 0
  else if k < qsx (min (A 4).toNat 29) + 125 then A (7 + (k - (qsx (min (A 4).toNat 29) + 1)))
  else if k < qsx (min (A 4).toNat 29) + 155 then A (4850 + (k - (qsx (min (A 4).toNat 29) + 125)))
  else A k
theorem qkeep_K {A : Nat → Int} {z : Nat} (hz : A 4 = z) (hz30 : z ≤ 30) : qKp A (qkeep A) z := by
  have hzn : (A 4).toNat = z := by rw [hz, Int.toNat_natCast]
  have hm : min z 29 ≤ 29 := Nat.min_le_right _ _
  obtain ⟨m, hmz⟩ : ∃ m, min z 29 = m := ⟨_, rfl⟩
  have e : ∀ k, qkeep A k = if k = 4 then ((m + 1 : Nat) : Int) else if k < 200 ∨ 4850 ≤ k then A k else if k < qsx m then A (k + 155 * (z - m)) else if k = qsx m then A 0 else if k < qsx m + 125 then A (7 + (k - (qsx m + 1))) else if k < qsx m + 155 then A (4850 + (k - (qsx m + 125))) else A k := fun k => by
    unfold qkeep
    rw [hzn, hmz]
  have hx : qsx m = 200 + 155 * m := rfl
  unfold qKp
  rw [hmz]
  rw [hmz] at hm
  refine ⟨?_, fun i k hi hk => ?_, ⟨?_, fun k hk => ?_, fun k hk => ?_, fun h k hk => ?_⟩, fun k hk4 hk => ?_⟩
  · rw [e, if_pos rfl]
  · have hi' : qsx i = 200 + 155 * i := rfl
    have hi2 : qsx (i + (z - m)) = 200 + 155 * (i + (z - m)) := rfl
    rw [e, if_neg (by omega), if_neg (by omega), if_pos (by omega)]
    exact congrArg A (by omega)
  · rw [e, if_neg (by omega), if_neg (by omega), if_neg (by omega), if_pos rfl]
  · rw [e, if_neg (by omega), if_neg (by omega), if_neg (by omega), if_neg (by omega), if_pos (by omega)]
    exact congrArg A (by omega)
  · rw [e, if_neg (by omega), if_neg (by omega), if_neg (by omega), if_neg (by omega), if_neg (by omega), if_pos (by omega)]
    exact congrArg A (by omega)
  · have h1 : z = m := by omega
    rw [h1] at hk
    rw [e, if_neg (by omega)]
    by_cases h2 : k < 200 ∨ 4850 ≤ k
    · rw [if_pos h2]
    · rw [if_neg h2, if_neg (by omega), if_neg (by omega), if_neg (by omega), if_neg (by omega)]
  · rw [e, if_neg hk4, if_pos hk]
theorem qKp_eq {A A1 A2 : Nat → Int} {z : Nat} (hz30 : z ≤ 30) (h1 : qKp A A1 z) (h2 : qKp A A2 z) : A1 = A2 := by
  obtain ⟨a1, a2, ⟨a3, a4, a5, a6⟩, a7⟩ := h1
  obtain ⟨b1, b2, ⟨b3, b4, b5, b6⟩, b7⟩ := h2
  have hm : min z 29 ≤ 29 := Nat.min_le_right _ _
  funext k
  by_cases h4 : k = 4
  · rw [h4, a1, b1]
  by_cases h5 : k < 200 ∨ 4850 ≤ k
  · rw [a7 k h4 h5, b7 k h4 h5]
  have hx : qsx (min z 29) = 200 + 155 * min z 29 := rfl
  by_cases h6 : k < qsx (min z 29)
  · have e : k = qsx ((k - 200) / 155) + (k - 200) % 155 := by unfold qsx; omega
    rw [e, a2 _ _ (by omega) (by omega), b2 _ _ (by omega) (by omega)]
  by_cases h7 : k = qsx (min z 29)
  · rw [h7, a3, b3]
  by_cases h8 : k < qsx (min z 29) + 125
  · have e : k = qsx (min z 29) + 1 + (k - (qsx (min z 29) + 1)) := by omega
    rw [e, a4 _ (by omega), b4 _ (by omega)]
  by_cases h9 : k < qsx (min z 29) + 155
  · have e : k = qsx (min z 29) + 125 + (k - (qsx (min z 29) + 125)) := by omega
    rw [e, a5 _ (by omega), b5 _ (by omega)]
  have hz : z < 30 := by omega
  have e : min z 29 = z := by omega
  rw [e] at h9
  rw [a6 hz k (by omega), b6 hz k (by omega)]
theorem qkeep_k {A : Nat → Int} {k : Nat} (h4 : k ≠ 4) (h : k < 200 ∨ 4850 ≤ k) : qkeep A k = A k := by
  unfold qkeep
  rw [if_neg h4, if_pos h]
theorem qkeep_In {A : Nat → Int} (hI : qIn A) : qIn (qkeep A) := by
  have h4 : qkeep A 4 = ((min (A 4).toNat 29 + 1 : Nat) : Int) := if_pos rfl
  refine qIn_cong (fun k a b _ => qkeep_k a (Or.inl b)) (by rw [h4]; omega) (by rw [qkeep_k (by decide) (by decide)]; exact hI.2.2.2.2.2.2.2.1) (by rw [qkeep_k (by decide) (by decide)]; exact hI.2.2.2.2.2.2.2.2.1) (by rw [qkeep_k (by decide) (by decide)]; exact hI.2.2.2.2.2.2.2.2.2.1) (by rw [qkeep_k (by decide) (by decide)]; exact hI.2.2.2.2.2.2.2.2.2.2.1) (fun o y ho hy => by rw [qkeep_k (by omega) (by omega)]; exact hI.2.2.2.2.2.2.2.2.2.2.2.1 o y ho hy) hI
def qdS (w : qWt) : Nat → (Nat → Int) × Nat → (Nat → Int) × Nat
  | 0, X => X
  | k + 1, X => qdy w true (qkeep (qdS w k X).1, (qdS w k X).2)
/-- what calls that make steps leave of the row -/
def qKt (A A' : Nat → Int) : Prop := (∀ k, k ≠ 4 → k ≠ 7 → k ≠ 8 → k ≠ 9 → k ≠ 10 → (k < 11 ∨ (131 ≤ k ∧ k < 200)) → A' k = A k) ∧ (∀ o y, o < 5 → y < 24 → (A' (11 + 24 * o + y) = 0 ↔ A (11 + 24 * o + y) = 0)) ∧ qIn A'
theorem qKt_r {A : Nat → Int} (h : qIn A) : qKt A A := ⟨fun _ _ _ _ _ _ _ => rfl, fun _ _ _ _ => Iff.rfl, h⟩
theorem qKt_t {A B C : Nat → Int} (h1 : qKt A B) (h2 : qKt B C) : qKt A C := ⟨fun k a b c d e f => (h2.1 k a b c d e f).trans (h1.1 k a b c d e f), fun o y ho hy => (h2.2.1 o y ho hy).trans (h1.2.1 o y ho hy), h2.2.2⟩
theorem qKt_s {A B : Nat → Int} (h : qKs A B) : qKt A B := ⟨fun k _ b c d e f => h.1 k b c d e (by omega) (by omega), h.2.1, h.2.2⟩
theorem qKt_k {A : Nat → Int} (h : qIn A) : qKt A (qkeep A) := ⟨fun k a _ _ _ _ f => qkeep_k a (by omega), fun o y ho hy => by rw [qkeep_k (by omega) (by omega)], qkeep_In h⟩
theorem qdS_Kt {w : qWt} {X : (Nat → Int) × Nat} (hI : qIn X.1) : ∀ k : Nat, X.1 7 + k ≤ 9999 → qKt X.1 (qdS w k X).1 ∧ (qdS w k X).1 7 = X.1 7 + k ∧ (qdS w k X).2 ≤ X.2 + 120 * k
  | 0, _ => ⟨qKt_r hI, by show X.1 7 = _; omega, Nat.le_refl _⟩
  | k + 1, h => by
    obtain ⟨h1, h2, h3⟩ := qdS_Kt (w := w) hI k (by omega)
    have h7 : qkeep (qdS w k X).1 7 = (qdS w k X).1 7 := qkeep_k (by decide) (by decide)
    obtain ⟨g1, g2, g3⟩ := qdy_Ks (w := w) (fl := true) (X := (qkeep (qdS w k X).1, (qdS w k X).2)) (qkeep_In h1.2.2) (by show qkeep (qdS w k X).1 7 < 9999; rw [h7, h2]; omega)
    have g2 : (qdS w (k + 1) X).1 7 = qkeep (qdS w k X).1 7 + 1 := g2
    have g3 : (qdS w (k + 1) X).2 ≤ (qdS w k X).2 + 120 := g3
    refine ⟨qKt_t (qKt_t h1 (qKt_k h1.2.2)) (qKt_s g1), ?_, ?_⟩
    · rw [g2, h7, h2]; omega
    · omega
theorem qdS_c (w : qWt) (k : Nat) (X : (Nat → Int) × Nat) : qdS w (k + 1) X = ((qdy w true (qkeep (qdS w k X).1, 0)).1, (qdS w k X).2 + (qdy w true (qkeep (qdS w k X).1, 0)).2) := qdy_0 w true _ _
theorem qCr_of {M : Nat → Nat → Int} {A : Nat → Int} (ht : qTo M 10 A) : qCr true M 21 A := by
  obtain ⟨hT, ⟨g, ⟨f1, f2, f3, f4⟩, pg⟩, -, hI⟩ := ht
  have h10 := hI.2.2.2.2.2.2.2.2.2.2.1
  have f1 : M 21 3 = A 10 := f1
  exact ⟨hT, hI, g, ⟨f2, f3, f4⟩, by rw [f1]; exact h10, fun _ => ⟨f1, pg⟩⟩
theorem qSp_Ks {M : Nat → Nat → Int} {q : Nat} {A A' : Nat → Int} (h : qKs A A') (hI : qIn A) (hS : qSp M q A) : qSp M q A' := by
  have e : ∀ k, k < 7 → A' k = A k := fun k hk => h.1 k (by omega) (by omega) (by omega) (by omega) (by omega) (by omega)
  have h4 := hI.2.2.2.2.1
  refine ⟨by rw [e 4 (by decide)]; exact hS.1, fun i hi => ?_⟩
  rw [e 4 (by decide)] at hi
  obtain ⟨o1, o2⟩ := hS.2 i hi
  have hk : ∀ k, k < 155 → A' (qsx i + k) = A (qsx i + k) := fun k hk => h.1 _ (by unfold qsx; omega) (by unfold qsx; omega) (by unfold qsx; omega) (by unfold qsx; omega) (by unfold qsx; omega) (by unfold qsx; omega)
  have hq := qsn_eq hk
  refine ⟨qRs_cong (hq 0 (Or.inl rfl)) (fun k a b => hq k (Or.inr (Or.inl ⟨a, b⟩))) (fun j hj => hq _ (Or.inr (Or.inr ⟨by omega, by omega⟩))) ?_ o1, qSi_eq (e 0 (by decide)) (e 1 (by decide)) h.2.1 hI.1.2 hk o2⟩
  show (if (10 : Nat) = 0 then _ else if 7 ≤ 10 ∧ 10 < 131 then A (qsx i + 1 + (10 - 7)) else _) ≤ 30
  rw [if_neg (by decide), if_pos (by decide)]
  exact o2.2.2.2.2.1.2
theorem qTo_of {M M' : Nat → Nat → Int} {A A' : Nat → Int} (hK : qKs A A') (hC : qCr true M' 21 A') (hrow : ∀ a, 25 ≤ a → a ≤ 146 → M' a = M a) (ht : qTo M 10 A) : qTo M' 10 A' := by
  obtain ⟨c1, c2, c3, ⟨c4, c5, c6⟩, -, c7⟩ := hC
  obtain ⟨p1, p2⟩ := c7 rfl
  exact ⟨c1, ⟨c3, ⟨p1, c4, c5, c6⟩, p2⟩, qSp_x (fun a x y => hrow a (by omega) (by omega)) (qSp_Ks hK ht.2.2.2 ht.2.2.1), c2⟩
section QF
variable {S : Nat → Nat × Nat} {R : Nat → Nat → Nat} {M M' M0 M1 : Nat → Nat → Int} {n s d r : Nat} {A : Nat → Int} {W : Nat → qWt} {w : qWt} {fl : Bool}
theorem qCr_day {h7 : A 7 < 9999} (hC : qCr fl M r A) (hr : r = 21 ∨ r = 291) : qCr fl (zup M r 5 (A 7 + 1)) r (qup A 7 (A 7 + 1)) := by
  obtain ⟨c1, c2, c3, ⟨c4, c5, c6⟩, c7, c8⟩ := hC
  have hd := qIn_day c2 h7
  refine ⟨qTw_Ks hd (qTw_x (fun a x y => zup_rw (by omega)) c1), hd.2.2, ?_, ⟨?_, ?_, ?_⟩, ?_, fun h => ?_⟩
  · refine qRg_cong (fun o y _ _ => ?_) (qRg_x (by rw [zup_rw (by omega)]) (by rw [zup_rw (by omega)]) c3)
    unfold qg
    rw [qup_ne (by decide), qup_ne (by omega)]
  · rw [zup_ne (by decide), qup_ne (by decide)]; exact c4
  · rw [zup_at, qup_at]
  · rw [zup_ne (by decide), qup_ne (by decide)]; exact c6
  · rw [zup_ne (by decide)]; exact c7
  · obtain ⟨p1, p2⟩ := c8 h
    refine ⟨by rw [zup_ne (by decide), qup_ne (by decide)]; exact p1, fun i hi => ?_⟩
    rw [qup_ne (by decide)] at hi
    rw [zup_rw (by omega), qup_ne (by omega)]
    exact p2 i hi
/-- a day of the class, no step -/
theorem kx_day0 (hF : qFx S R) (hS : qSt M) (hr : r = 21 ∨ r = 291) (hrl : qLR S R r) (hq : qTn S R M (qVr R A) w) (hC : qCr fl M r A) (h7 : A 7 < 9999) {N i c : Nat} (hi : i < N) (hN : N < 1000) (hc : c < 90000) :
    ∃ M', zR zPP (d + 7) 36 4 [zA 9, zA r, zI N, zI 0, zI c, zI i] [] (n, s, S, R, M) = zR zPP (d + 7) 36 4 [zA 9, zA r, zI N, zI 0, zI ((c + (qdy w fl (A, 0)).2 : Nat) : Int), zI ((i + 1 : Nat) : Int)] [] (n, s, S, R, M') ∧ qCr fl M' r (qdy w fl (A, 0)).1 ∧ ∀ a, a ≠ 284 → a ≠ 285 → (a < r ∨ r + 3 < a) → M' a = M a := by
  have hd := qCr_day (h7 := h7) hC hr
  have h70 := hC.2.1.2.2.2.2.2.2.2.1
  have f5 : M r 5 = A 7 := hC.2.2.2.1.2.1
  have hr1 : S r = (5, 7) := hrl.1
  have hz7 : zw32 (A 7 + 1) = A 7 + 1 := qz (by omega) (by omega)
  have hrow : ∀ a, a ≠ 284 → a ≠ 285 → (a < r ∨ r + 3 < a) → zup M r 5 (A 7 + 1) a = M a := fun a _ _ h => zup_rw (by omega)
  have hKs := qdy_Ks (w := w) (fl := fl) (X := (A, 0)) hC.2.1 h7
  have hle : (qdy w fl (A, 0)).2 ≤ 0 + 120 := hKs.2.2
  by_cases h30 : (A 7 + 1).tmod 30 = 0
  · have eX : qdy w fl (A, 0) = qso w fl (A 0).toNat (qup A 7 (A 7 + 1), 0) := by
      unfold qdy
      rw [if_pos h30]
    have e0 : qup A 7 (A 7 + 1) 0 = A 0 := qup_ne (by decide)
    obtain ⟨M1, m1, m2, m3⟩ := kx_midsummer (n := n) (s := s) (d := d) (M := zup M r 5 (A 7 + 1)) (A := qup A 7 (A 7 + 1)) (w := w) (fl := fl) hF (qSt_x (fun a ha => hrow a (by omega) (by omega) (by omega)) hS) hr hrl (by rw [qVr_e (qup_ne (by decide))]; exact qTn_x (fun a ha => hrow a (by omega) (by omega) (by omega)) hq) hd
    rw [e0, ← eX] at m1 m2
    refine ⟨M1, ?_, m2, fun a a1 a2 a3 => by rw [m3 a a1 a2 a3]; exact hrow a a1 a2 a3⟩
    rw [e_X_daysPass_4, if_pos (by omega), if_pos rfl]
    simp only [hr1, if_true, f5, hz7, zup_at]
    rw [if_neg (by decide), if_pos h30, m1]
    simp only [zbI]
    rw [qwa (show c + (qdy w fl (A, 0)).2 < 2147483648 by omega), qw1 (show i < 100000 by omega)]
  · have eX : qdy w fl (A, 0) = (qup A 7 (A 7 + 1), 0) := by
      unfold qdy
      rw [if_neg h30]
    refine ⟨zup M r 5 (A 7 + 1), ?_, by rw [eX]; exact hd, hrow⟩
    rw [e_X_daysPass_4, if_pos (by omega), if_pos rfl]
    simp only [hr1, if_true, f5, hz7, zup_at]
    rw [if_neg (by decide), if_neg h30, qw1 (show i < 100000 by omega), eX]
    rfl
theorem kx_daysPass0 (hF : qFx S R) (hS : qSt M) (hr : r = 21 ∨ r = 291) (hrl : qLR S R r) (hq : qTn S R M (qVr R A) w) (hC : qCr fl M r A) {N : Nat} (h7 : A 7 + N ≤ 9999) (hN : N ≤ 60) :
    ∃ M', zcal zPP (d + 8) 36 [zA 9, zA r, zI N, zI 0] (n, s, S, R, M) = some (zI ((qdn w fl N (A, 0)).2 : Nat), (n, s, S, R, M')) ∧ qCr fl M' r (qdn w fl N (A, 0)).1 ∧ ∀ a, a ≠ 284 → a ≠ 285 → (a < r ∨ r + 3 < a) → M' a = M a := by
  have L := qlpI (E := fun i M1 => qCr fl M1 r (qdn w fl i (A, 0)).1 ∧ ∀ a, a ≠ 284 → a ≠ 285 → (a < r ∨ r + 3 < a) → M1 a = M a)
    (P := fun i M1 => zR zPP (d + 7) 36 4 [zA 9, zA r, zI N, zI 0, zI ((qdn w fl i (A, 0)).2 : Nat), zI (i : Nat)] [] (n, s, S, R, M1)) (N := N) (fun i M1 hi hx => by
      obtain ⟨e1, e2⟩ := hx
      obtain ⟨t1, t2, t3⟩ := qdn_Ks (w := w) (fl := fl) (X := (A, 0)) hC.2.1 i (by show A 7 + _ ≤ _; omega)
      have t1 : qKs A (qdn w fl i (A, 0)).1 := t1
      have t2 : (qdn w fl i (A, 0)).1 7 = A 7 + i := t2
      have t3 : (qdn w fl i (A, 0)).2 ≤ 0 + 120 * i := t3
      have k3 : (qdn w fl i (A, 0)).1 3 = A 3 := t1.1 3 (by decide) (by decide) (by decide) (by decide) (by decide) (by decide)
      obtain ⟨M2, m1, m2, m3⟩ := kx_day0 (n := n) (s := s) (d := d) (M := M1) (A := (qdn w fl i (A, 0)).1) (w := w) (fl := fl) (N := N) (i := i) (c := (qdn w fl i (A, 0)).2) hF (qSt_x (fun a ha => e2 a (by omega) (by omega) (by omega)) hS) hr hrl (by rw [qVr_e k3]; exact qTn_x (fun a ha => e2 a (by omega) (by omega) (by omega)) hq) e1 (by rw [t2]; omega) hi (by omega) (by omega)
      have es : qdn w fl (i + 1) (A, 0) = ((qdy w fl ((qdn w fl i (A, 0)).1, 0)).1, (qdn w fl i (A, 0)).2 + (qdy w fl ((qdn w fl i (A, 0)).1, 0)).2) := qdy_0 w fl _ _
      refine ⟨M2, ⟨by rw [es]; exact m2, fun a a1 a2 a3 => by rw [m3 a a1 a2 a3]; exact e2 a a1 a2 a3⟩, ?_⟩
      show zR _ _ _ _ _ _ _ = zR _ _ _ _ _ _ _
      rw [es]; exact m1) M ⟨hC, fun _ _ _ _ => rfl⟩
  obtain ⟨M1, ⟨e1, e2⟩, L⟩ := L
  refine ⟨M1, ?_, e1, e2⟩
  rw [c_X_daysPass]
  simp only [qff hF, if_true]
  refine Eq.trans L ?_
  show zR _ _ _ _ _ _ _ = _
  rw [e_X_daysPass_4, if_neg (by omega)]
/-- rows that the class's calls on the town may write -/
def qXt (M M' : Nat → Nat → Int) : Prop := ∀ a, (a < 10 ∨ 147 ≤ a) → a ≠ 284 → a ≠ 285 → M' a = M a
theorem qXt_t {M M1 M2 : Nat → Nat → Int} (h1 : qXt M M1) (h2 : qXt M1 M2) : qXt M M2 := fun a x y z => (h2 a x y z).trans (h1 a x y z)
/-- a day of the class, a step -/
theorem kx_day1 (hF : qFx S R) (hS : qSt M) (hq : qTn S R M (qVr R A) w) (ht : qTo M 10 A) (h7 : A 7 < 9999) {N i c : Nat} (hi : i < N) (hN : N < 1000) (hc : c < 90000) :
    ∃ M', zR zPP (d + 7) 36 4 [zA 9, zA 21, zI N, zI 1, zI c, zI i] [] (n, s, S, R, M) = zR zPP (d + 7) 36 4 [zA 9, zA 21, zI N, zI 1, zI ((c + (qdy w true (qkeep A, 0)).2 : Nat) : Int), zI ((i + 1 : Nat) : Int)] [] (n, s, S, R, M') ∧ qTo M' 10 (qdy w true (qkeep A, 0)).1 ∧ qXt M M' := by
  have hI := ht.2.2.2
  have hrl : qLR S R 21 := hF.1.2.1.1.2.2.1
  obtain ⟨⟨s1, s2, s3⟩, -⟩ := ht.2.2.1
  obtain ⟨f, hf⟩ := Int.eq_ofNat_of_zero_le s2
  obtain ⟨z, hz⟩ := Int.eq_ofNat_of_zero_le hI.2.2.2.2.1.1
  have hf : M 25 1 = f := hf
  have s3 : M 25 1 < 30 := s3
  have s1 : M 25 2 = A 4 := s1
  have hz30 : z ≤ 30 := by have := hI.2.2.2.2.1.2; omega
  obtain ⟨M1, p1, p2⟩ := kx_push (n := n) (s := s) (d := d + 5) (M := M) hF hf (z := z) (by rw [s1, hz]) (by omega) hz30
  have hrow1 : ∀ a, a < 10 ∨ 147 ≤ a ∨ (21 ≤ a ∧ a ≤ 24) → M1 a = M a := fun a ha => qPu_rw p2 ha
  have ht1 : qTo M1 10 (qkeep A) := qTo_push hf hz hz30 p2 (qkeep_K hz hz30) ht
  have hC := qCr_of ht1
  have k7 : qkeep A 7 = A 7 := qkeep_k (by decide) (by decide)
  have k3 : qkeep A 3 = A 3 := qkeep_k (by decide) (by decide)
  have hd := qCr_day (h7 := by rw [k7]; exact h7) hC (Or.inl rfl)
  have h70 := hI.2.2.2.2.2.2.2.1
  have f5 : M1 21 5 = A 7 := by rw [← k7]; exact hC.2.2.2.1.2.1
  have hz7 : zw32 (A 7 + 1) = A 7 + 1 := qz (by omega) (by omega)
  have hrow : ∀ a, a ≠ 21 → zup M1 21 5 (A 7 + 1) a = M1 a := fun a h => zup_rw h
  have hKs := qdy_Ks (w := w) (fl := true) (X := (qkeep A, 0)) hC.2.1 (by show qkeep A 7 < _; rw [k7]; exact h7)
  have hle : (qdy w true (qkeep A, 0)).2 ≤ 0 + 120 := hKs.2.2
  rw [k7] at hd
  by_cases h30 : (A 7 + 1).tmod 30 = 0
  · have eX : qdy w true (qkeep A, 0) = qso w true (A 0).toNat (qup (qkeep A) 7 (A 7 + 1), 0) := by
      have k0 : qkeep A 0 = A 0 := qkeep_k (by decide) (by decide)
      unfold qdy
      show (if (qkeep A 7 + 1).tmod 30 = 0 then _ else _) = _
      rw [k7, if_pos h30]
      show qso w true (qkeep A 0).toNat (qup (qkeep A) 7 (qkeep A 7 + 1), 0) = _
      rw [k0, k7]
    have e0 : qup (qkeep A) 7 (A 7 + 1) 0 = A 0 := by rw [qup_ne (by decide), qkeep_k (by decide) (by decide)]
    obtain ⟨M2, m1, m2, m3⟩ := kx_midsummer (n := n) (s := s) (d := d) (M := zup M1 21 5 (A 7 + 1)) (A := qup (qkeep A) 7 (A 7 + 1)) (w := w) (fl := true) hF (qSt_x (fun a ha => by rw [hrow a (by omega), hrow1 a (by omega)]) hS) (Or.inl rfl) hrl (by rw [qVr_e (show qup (qkeep A) 7 (A 7 + 1) 3 = A 3 by rw [qup_ne (by decide), k3])]; exact qTn_x (fun a ha => by rw [hrow a (by omega), hrow1 a (by omega)]) hq) hd
    rw [e0, ← eX] at m1 m2
    refine ⟨M2, ?_, qTo_of hKs.1 m2 (fun a a1 a2 => by rw [m3 a (by omega) (by omega) (by omega)]; exact hrow a (by omega)) ht1, fun a a1 a2 a3 => by rw [m3 a a2 a3 (by omega), hrow a (by omega), hrow1 a (by omega)]⟩
    rw [e_X_daysPass_4, if_pos (by omega), if_neg (by decide)]
    simp only [qff hF, if_true]
    rw [p1]
    simp only [zbV, qff hF, if_true, f5, hz7, zup_at]
    rw [if_neg (by decide), if_pos h30, m1]
    simp only [zbI]
    rw [qwa (show c + (qdy w true (qkeep A, 0)).2 < 2147483648 by omega), qw1 (show i < 100000 by omega)]
  · have eX : qdy w true (qkeep A, 0) = (qup (qkeep A) 7 (A 7 + 1), 0) := by
      unfold qdy
      show (if (qkeep A 7 + 1).tmod 30 = 0 then _ else _) = _
      rw [k7, if_neg h30]
      show (qup (qkeep A) 7 (qkeep A 7 + 1), 0) = _
      rw [k7]
    refine ⟨zup M1 21 5 (A 7 + 1), ?_, qTo_of (A := qkeep A) (M := M1) hKs.1 (by rw [eX]; exact hd) (fun a a1 a2 => hrow a (by omega)) ht1, fun a a1 a2 a3 => by rw [hrow a (by omega), hrow1 a (by omega)]⟩
    rw [e_X_daysPass_4, if_pos (by omega), if_neg (by decide)]
    simp only [qff hF, if_true]
    rw [p1]
    simp only [zbV, qff hF, if_true, f5, hz7, zup_at]
    rw [if_neg (by decide), if_neg h30, qw1 (show i < 100000 by omega), eX]
    rfl
theorem kx_daysPass1 (hF : qFx S R) (hS : qSt M) (hq : qTn S R M (qVr R A) w) (ht : qTo M 10 A) {N : Nat} (h7 : A 7 + N ≤ 9999) (hN : N ≤ 60) :
    ∃ M', zcal zPP (d + 8) 36 [zA 9, zA 21, zI N, zI 1] (n, s, S, R, M) = some (zI ((qdS w N (A, 0)).2 : Nat), (n, s, S, R, M')) ∧ qTo M' 10 (qdS w N (A, 0)).1 ∧ qXt M M' := by
  have L := qlpI (E := fun i M1 => qTo M1 10 (qdS w i (A, 0)).1 ∧ qXt M M1)
    (P := fun i M1 => zR zPP (d + 7) 36 4 [zA 9, zA 21, zI N, zI 1, zI ((qdS w i (A, 0)).2 : Nat), zI (i : Nat)] [] (n, s, S, R, M1)) (N := N) (fun i M1 hi hx => by
      obtain ⟨e1, e2⟩ := hx
      obtain ⟨t1, t2, t3⟩ := qdS_Kt (w := w) (X := (A, 0)) ht.2.2.2 i (by show A 7 + _ ≤ _; omega)
      have t1 : qKt A (qdS w i (A, 0)).1 := t1
      have t2 : (qdS w i (A, 0)).1 7 = A 7 + i := t2
      have t3 : (qdS w i (A, 0)).2 ≤ 0 + 120 * i := t3
      have k3 : (qdS w i (A, 0)).1 3 = A 3 := t1.1 3 (by decide) (by decide) (by decide) (by decide) (by decide) (by decide)
      obtain ⟨M2, m1, m2, m3⟩ := kx_day1 (n := n) (s := s) (d := d) (M := M1) (A := (qdS w i (A, 0)).1) (w := w) (N := N) (i := i) (c := (qdS w i (A, 0)).2) hF (qSt_x (fun a ha => e2 a (by omega) (by omega) (by omega)) hS) (by rw [qVr_e k3]; exact qTn_x (fun a ha => e2 a (by omega) (by omega) (by omega)) hq) e1 (by rw [t2]; omega) hi (by omega) (by omega)
      refine ⟨M2, ⟨by rw [qdS_c]; exact m2, qXt_t e2 m3⟩, ?_⟩
      show zR _ _ _ _ _ _ _ = zR _ _ _ _ _ _ _
      rw [qdS_c]; exact m1) M ⟨ht, fun _ _ _ _ => rfl⟩
  obtain ⟨M1, ⟨e1, e2⟩, L⟩ := L
  refine ⟨M1, ?_, e1, e2⟩
  rw [c_X_daysPass]
  simp only [qff hF, if_true]
  refine Eq.trans L ?_
  show zR _ _ _ _ _ _ _ = _
  rw [e_X_daysPass_4, if_neg (by omega)]
/-- the model's days -/
theorem km_keepF (hF : qFx S R) (hA : qIn (M 306)) : ∃ M2, zcal zPP (d + 1) 251 [zA 305] (n, s, S, R, M) = some (zU, (n, s, S, R, M2)) ∧ (∀ a, a ≠ 306 → M2 a = M a) ∧ M2 306 = qkeep (M 306) := by
  obtain ⟨z, hz⟩ := Int.eq_ofNat_of_zero_le hA.2.2.2.2.1.1
  have hz30 : z ≤ 30 := by have := hA.2.2.2.2.1.2; omega
  obtain ⟨M2, m1, m2, m3⟩ := km_keep (n := n) (s := s) (d := d) (M := M) hF hz hz30
  exact ⟨M2, m1, m2, qKp_eq hz30 m3 (qkeep_K hz hz30)⟩
theorem km_days (hF : qFx S R) (hA : qIn (M 306)) (ht : qTN (M 308) (M 306 3) w) (hfl : M 305 23 = 1) (h24 : M 305 24 = 0) {N K : Nat} (hKN : K ≤ N) (hN : N < 1000) (h7 : M 306 7 + K ≤ 9999) :
    ∃ M', zR zPP (d + 10) 257 5 [zA 305, zI N, zI 0] [] (n, s, S, R, M) = zR zPP (d + 10) 257 5 [zA 305, zI N, zI K] [] (n, s, S, R, M') ∧ M' 306 = (qdS w K (M 306, 0)).1 ∧ M' 305 24 = zw32 ((qdS w K (M 306, 0)).2 : Nat) ∧ qX5 M M' := by
  have L := qlpI (E := fun i M1 => M1 306 = (qdS w i (M 306, 0)).1 ∧ M1 305 24 = zw32 ((qdS w i (M 306, 0)).2 : Nat) ∧ qX5 M M1)
    (P := fun i M1 => zR zPP (d + 10) 257 5 [zA 305, zI N, zI (i : Nat)] [] (n, s, S, R, M1)) (N := K) (fun i M1 hi hx => by
      obtain ⟨e1, e2, e3⟩ := hx
      obtain ⟨t1, t2, t3⟩ := qdS_Kt (w := w) (X := (M 306, 0)) hA i (by show M 306 7 + _ ≤ _; omega)
      have t1 : qKt (M 306) (qdS w i (M 306, 0)).1 := t1
      have t2 : (qdS w i (M 306, 0)).1 7 = M 306 7 + i := t2
      have k3 : (qdS w i (M 306, 0)).1 3 = M 306 3 := t1.1 3 (by decide) (by decide) (by decide) (by decide) (by decide) (by decide)
      obtain ⟨M2, a1, a2, a3⟩ := km_keepF (n := n) (s := s) (d := d + 9) (M := M1) hF (by rw [e1]; exact t1.2.2)
      rw [e1] at a3
      have b3 : M2 306 3 = M 306 3 := by rw [a3, qkeep_k (by decide) (by decide), k3]
      have b7 : M2 306 7 = M 306 7 + i := by rw [a3, qkeep_k (by decide) (by decide), t2]
      obtain ⟨M3, m1, m2, m3, m4⟩ := km_passDay (n := n) (s := s) (d := d) (M := M2) (w := w) (fl := true) hF (by rw [a3]; exact qkeep_In t1.2.2) (by rw [b3, a2 308 (by decide), e3.1 308 (by decide) (by decide) (by decide) (by decide) (by decide)]; exact ht) (by rw [a2 305 (by decide), e3.2 23 (by decide)]; exact hfl) (by rw [b7]; omega)
      have x24 : M2 305 24 = zw32 ((qdS w i (M 306, 0)).2 : Nat) := by rw [a2 305 (by decide)]; exact e2
      rw [a3] at m2 m3
      refine ⟨M3, ⟨by rw [qdS_c]; exact m2, ?_, qX5_t e3 (qX5_t ⟨fun a _ h _ _ _ => a2 a h, fun k _ => by rw [a2 305 (by decide)]⟩ m4)⟩, ?_⟩
      · rw [m3 (by rw [x24, zw32_i]), x24, qdS_c, zw32_z]
        show zw32 _ = zw32 (((qdS w i (M 306, 0)).2 + (qdy w true (qkeep (qdS w i (M 306, 0)).1, 0)).2 : Nat) : Int)
        rw [Int.natCast_add]
      · show zR _ _ _ _ _ _ _ = zR _ _ _ _ _ _ _
        have h7' : M1 306 7 = M 306 7 + i := by rw [e1]; exact t2
        rw [e_M_arePassed_5, if_pos (by omega)]
        simp (disch := omega) only [h7', a1, m1, qff hF, qltT, qltF, qleT, qleF, qeqT, qeqF, Int.reduceEq, Int.reduceNe, Int.reduceLT, Int.reduceLE, Int.reduceToNat, Int.reduceAdd, Int.reduceSub, Int.reduceMul, Int.reduceNeg, Nat.reduceAdd, Nat.reduceMul, Nat.reduceEqDiff, Nat.reduceLT, Int.cast_ofNat_Int, Int.lt_irrefl, Bool.false_eq_true, ↓reduceIte, ↓reduceDIte, zbI, zbL, zbA, zbV, qrg, qrg2, qnn, qz, zup_at, zup_r, zup_ne, true_and, and_true, true_or, or_true, and_self, or_self, false_or, or_false, false_and, and_false, Int.toNat_natCast, Int.toNat_add, Int.toNat_mul, Int.toNat_zero, Int.toNat_one, qtn, Int.natCast_add, qnat1, qnat0, ne_eq, not_true_eq_false, not_false_eq_true, eq_self, qbool]) M ⟨rfl, by rw [h24]; exact (show (0 : Int) = zw32 ((0 : Nat) : Int) by decide), qX5_r M⟩
  obtain ⟨M1, ⟨e1, e2, e3⟩, L⟩ := L
  exact ⟨M1, L, e1, e2, e3⟩
theorem qTn_wd (hw : qWd n S R M W) : qTn S R M (qVr R (M 306)) (qWr W (M 306 3)) := by
  have hA := hw.2.1.2.2.2
  have h2 := hA.2.2.1
  have h3 := hA.2.2.2.1
  unfold qVr qWr
  by_cases h0 : M 306 3 < 0
  · rw [if_pos h0, if_pos h0]
    exact Or.inl ⟨rfl, fun L => rfl⟩
  · rw [if_neg h0, if_neg h0]
    obtain ⟨t, ht⟩ := Int.eq_ofNat_of_zero_le (show 0 ≤ M 306 3 by omega)
    rw [ht, Int.toNat_natCast]
    have hte := hw.2.2.2.1.1 t (by omega)
    obtain ⟨-, -, -, -, -, hm, -⟩ := hte
    refine Or.inr ⟨?_, hm⟩
    obtain ⟨O, len, lo, hi, hq, -⟩ := hm
    have := hq.2.1.1
    omega
theorem qb_day (hw : qWd n S R M W) (v : Int) : qBo 34 256 [zI v] n s S R M := by
  have hF := hw.1.2.1
  have hA := hw.2.1.2.2.2
  have h70 := hA.2.2.2.2.2.2.2.1
  have h5 : M 21 5 = M 306 7 := hw.2.1.2.1.2.1.2.2.1
  have hz : zw32 (9999 - M 306 7) = 9999 - M 306 7 := qz (by omega) (by omega)
  by_cases h1 : 1 ≤ v ∧ v ≤ 60
  · have hah : ∀ d', zcal zPP (d' + 1) 35 [zA 21] (n, s, S, R, M) = some (zI (9999 - M 306 7), (n, s, S, R, M)) := fun d' => by
      rw [c_X_daysAhead]
      simp (disch := omega) only [h5, hz, qff hF, qltT, qltF, qleT, qleF, qeqT, qeqF, Int.reduceEq, Int.reduceNe, Int.reduceLT, Int.reduceLE, Int.reduceToNat, Int.reduceAdd, Int.reduceSub, Int.reduceMul, Int.reduceNeg, Nat.reduceAdd, Nat.reduceMul, Nat.reduceEqDiff, Nat.reduceLT, Int.cast_ofNat_Int, Int.lt_irrefl, Bool.false_eq_true, ↓reduceIte, ↓reduceDIte, zbI, zbL, zbA, zbV, qrg, qrg2, qnn, qz, zup_at, zup_r, zup_ne, true_and, and_true, true_or, or_true, and_self, or_self, false_or, or_false, false_and, and_false, Int.toNat_natCast, Int.toNat_add, Int.toNat_mul, Int.toNat_zero, Int.toNat_one, qtn, Int.natCast_add, qnat1, qnat0, ne_eq, not_true_eq_false, not_false_eq_true, eq_self, qbool]
    by_cases h2 : M 306 7 + v ≤ 9999
    · obtain ⟨N, rfl⟩ := Int.eq_ofNat_of_zero_le (show 0 ≤ v by omega)
      obtain ⟨M1, x1, x2, x3⟩ := kx_daysPass1 (n := n) (s := s) (d := 91) (M := M) hF hw.1.2.2 (qTn_wd hw) hw.2.1 (N := N) h2 (by omega)
      have hds := qdS_Kt (w := qWr W (M 306 3)) (X := (M 306, 0)) hA N h2
      have hle : (qdS (qWr W (M 306 3)) N (M 306, 0)).2 ≤ 0 + 120 * N := hds.2.2
      have hX : zcal zPP 100 34 [zA 9, zI N] (n, s, S, R, M) = some (zI ((qdS (qWr W (M 306 3)) N (M 306, 0)).2 : Nat), (n, s, S, R, M1)) := by
        rw [c_X_day]
        simp (disch := omega) only [hah, x1, qff hF, qltT, qltF, qleT, qleF, qeqT, qeqF, Int.reduceEq, Int.reduceNe, Int.reduceLT, Int.reduceLE, Int.reduceToNat, Int.reduceAdd, Int.reduceSub, Int.reduceMul, Int.reduceNeg, Nat.reduceAdd, Nat.reduceMul, Nat.reduceEqDiff, Nat.reduceLT, Int.cast_ofNat_Int, Int.lt_irrefl, Bool.false_eq_true, ↓reduceIte, ↓reduceDIte, zbI, zbL, zbA, zbV, qrg, qrg2, qnn, qz, zup_at, zup_r, zup_ne, true_and, and_true, true_or, or_true, and_self, or_self, false_or, or_false, false_and, and_false, Int.toNat_natCast, Int.toNat_add, Int.toNat_mul, Int.toNat_zero, Int.toNat_one, qtn, Int.natCast_add, qnat1, qnat0, ne_eq, not_true_eq_false, not_false_eq_true, eq_self, qbool]
      have e306 : M1 306 = M 306 := x3 306 (by omega) (by decide) (by decide)
      have e308 : M1 308 = M 308 := x3 308 (by omega) (by decide) (by decide)
      have e305 : M1 305 = M 305 := x3 305 (by omega) (by decide) (by decide)
      have z5 : ∀ k, zup M1 305 24 0 305 k = if k = 24 then 0 else M1 305 k := fun k => by
        by_cases h : k = 24
        · subst h; rw [zup_at, if_pos rfl]
        · rw [zup_ne h, if_neg h]
      have z6 : zup M1 305 24 0 306 = M 306 := by rw [zup_rw (by decide), e306]
      obtain ⟨M2, m1, m2, m3, m4⟩ := km_days (n := n) (s := s) (d := 88) (M := zup M1 305 24 0) (w := qWr W (M 306 3)) (N := N) (K := N) hF (by rw [z6]; exact hA) (by rw [z6, zup_rw (by decide), e308]; exact wm_text hw hA.2.2.2.1) (by rw [zup_ne (by decide), e305]; exact hw.2.2.2.2.2.2.1) zup_at (Nat.le_refl _) (by omega) (by rw [z6]; exact h2)
      rw [z6] at m2 m3
      have hz24 : zw32 ((qdS (qWr W (M 306 3)) N (M 306, 0)).2 : Nat) = ((qdS (qWr W (M 306 3)) N (M 306, 0)).2 : Nat) := qz (by omega) (by omega)
      rw [hz24] at m3
      have hap : zcal zPP 99 257 [zA 305, zI N] (n, s, S, R, M1) = some (zI 1, (n, s, S, R, M2)) := by
        rw [c_M_arePassed]
        simp only [qff hF, if_true]
        rw [m1, e_M_arePassed_5, if_neg (by omega)]
        try simp only [true_or, or_true, if_true]
      have hM : zcal zPP 100 256 [zA 305, zI N] (n, s, S, R, M1) = some (zI ((qdS (qWr W (M 306 3)) N (M 306, 0)).2 : Nat), (n, s, S, R, M2)) := by
        rw [c_M_day]
        have e7 : M1 306 7 = M 306 7 := by rw [e306]
        simp (disch := omega) only [k_isIn, h1, e7, hap, m3, qff hF, qltT, qltF, qleT, qleF, qeqT, qeqF, Int.reduceEq, Int.reduceNe, Int.reduceLT, Int.reduceLE, Int.reduceToNat, Int.reduceAdd, Int.reduceSub, Int.reduceMul, Int.reduceNeg, Nat.reduceAdd, Nat.reduceMul, Nat.reduceEqDiff, Nat.reduceLT, Int.cast_ofNat_Int, Int.lt_irrefl, Bool.false_eq_true, ↓reduceIte, ↓reduceDIte, zbI, zbL, zbA, zbV, qrg, qrg2, qnn, qz, zup_at, zup_r, zup_ne, true_and, and_true, true_or, or_true, and_self, or_self, false_or, or_false, false_and, and_false, Int.toNat_natCast, Int.toNat_add, Int.toNat_mul, Int.toNat_zero, Int.toNat_one, qtn, Int.natCast_add, qnat1, qnat0, ne_eq, not_true_eq_false, not_false_eq_true, eq_self, qbool]
      have hrow : ∀ a, a < 10 ∨ 147 ≤ a → a ≠ 306 → a ≠ 305 → ¬ qY a → M2 a = M a := fun a a1 a2 a3 a4 => by
        unfold qY at a4
        rw [m4.1 a a3 a2 (by omega) (by omega) (by omega), zup_rw a3, x3 a a1 (by omega) (by omega)]
      have h5k : ∀ k, k ≠ 24 → M2 305 k = M 305 k := fun k hk => by rw [m4.2 k hk, zup_ne hk, e305]
      refine qBo_rows (W := W) hX hM (qWd_to2 hw hrow ⟨h5k 4 (by decide), h5k 5 (by decide), h5k 6 (by decide), h5k 23 (by decide)⟩ ?_ ?_) (hrow 1 (by omega) (by decide) (by decide) (by unfold qY; omega))
      · rw [m2]
        exact qTo_x (fun a a1 a2 => by rw [m4.1 a (by omega) (by omega) (by omega) (by omega) (by omega), zup_rw (by omega)]) x2
      · rw [m2]
        exact hds.1.1 2 (by decide) (by decide) (by decide) (by decide) (by decide) (by decide)
    · refine qBo_same hw (v := zI (-1)) ?_ ?_
      · rw [c_X_day]
        simp (disch := omega) only [hah, qff hF, qltT, qltF, qleT, qleF, qeqT, qeqF, Int.reduceEq, Int.reduceNe, Int.reduceLT, Int.reduceLE, Int.reduceToNat, Int.reduceAdd, Int.reduceSub, Int.reduceMul, Int.reduceNeg, Nat.reduceAdd, Nat.reduceMul, Nat.reduceEqDiff, Nat.reduceLT, Int.cast_ofNat_Int, Int.lt_irrefl, Bool.false_eq_true, ↓reduceIte, ↓reduceDIte, zbI, zbL, zbA, zbV, qrg, qrg2, qnn, qz, zup_at, zup_r, zup_ne, true_and, and_true, true_or, or_true, and_self, or_self, false_or, or_false, false_and, and_false, Int.toNat_natCast, Int.toNat_add, Int.toNat_mul, Int.toNat_zero, Int.toNat_one, qtn, Int.natCast_add, qnat1, qnat0, ne_eq, not_true_eq_false, not_false_eq_true, eq_self, qbool]
      · rw [c_M_day]
        simp (disch := omega) only [k_isIn, h1, qff hF, qltT, qltF, qleT, qleF, qeqT, qeqF, Int.reduceEq, Int.reduceNe, Int.reduceLT, Int.reduceLE, Int.reduceToNat, Int.reduceAdd, Int.reduceSub, Int.reduceMul, Int.reduceNeg, Nat.reduceAdd, Nat.reduceMul, Nat.reduceEqDiff, Nat.reduceLT, Int.cast_ofNat_Int, Int.lt_irrefl, Bool.false_eq_true, ↓reduceIte, ↓reduceDIte, zbI, zbL, zbA, zbV, qrg, qrg2, qnn, qz, zup_at, zup_r, zup_ne, true_and, and_true, true_or, or_true, and_self, or_self, false_or, or_false, false_and, and_false, Int.toNat_natCast, Int.toNat_add, Int.toNat_mul, Int.toNat_zero, Int.toNat_one, qtn, Int.natCast_add, qnat1, qnat0, ne_eq, not_true_eq_false, not_false_eq_true, eq_self, qbool]
  · refine qBo_same hw (v := zI (-1)) ?_ ?_
    · rw [c_X_day]
      simp only [qff hF, if_true]
      by_cases h3 : v < 1
      · rw [if_pos h3]
      · rw [if_neg h3, if_pos (by omega)]
    · rw [c_M_day]
      simp (disch := omega) only [k_isIn, h1, qff hF, qltT, qltF, qleT, qleF, qeqT, qeqF, Int.reduceEq, Int.reduceNe, Int.reduceLT, Int.reduceLE, Int.reduceToNat, Int.reduceAdd, Int.reduceSub, Int.reduceMul, Int.reduceNeg, Nat.reduceAdd, Nat.reduceMul, Nat.reduceEqDiff, Nat.reduceLT, Int.cast_ofNat_Int, Int.lt_irrefl, Bool.false_eq_true, ↓reduceIte, ↓reduceDIte, zbI, zbL, zbA, zbV, qrg, qrg2, qnn, qz, zup_at, zup_r, zup_ne, true_and, and_true, true_or, or_true, and_self, or_self, false_or, or_false, false_and, and_false, Int.toNat_natCast, Int.toNat_add, Int.toNat_mul, Int.toNat_zero, Int.toNat_one, qtn, Int.natCast_add, qnat1, qnat0, ne_eq, not_true_eq_false, not_false_eq_true, eq_self, qbool]
end QF
