/-! RINGS GIVEN AND BROUGHT; who can be lent to -/
def qLent (A : Nat → Int) (o y : Int) : Prop := (0 ≤ o ∧ o < A 0) ∧ (0 ≤ y ∧ y < 24) ∧ 3 ≤ A (11 + 24 * o.toNat + y.toNat)
section QF
variable {S : Nat → Nat × Nat} {R : Nat → Nat → Nat} {M M' M0 M1 : Nat → Nat → Int} {n s d : Nat} {A : Nat → Int} {W : Nat → qWt}
theorem kr_bring {r o y : Nat} {g : Nat → Nat → Int} (hr : qLR S R r) (hg : qRg M r g) (ho : o < 5) (hy : y < 24) : ∃ M', zcal zPP (d + 2) 140 [zA r, zI o, zI y] (n, s, S, R, M) = some (zU, (n, s, S, R, M')) ∧ qRg M' r (fun o' y' => if o' = o ∧ y' = y ∧ 3 ≤ g o y then 1 else g o' y') ∧ ∀ a, a ≠ r + 1 → M' a = M a := by
  obtain ⟨r1, r2, r3, r4, r5, r6, r7⟩ := hr
  have L := qlpI (E := fun p (M1 : Nat → Nat → Int) => (∀ a, a ≠ r + 1 → M1 a = M a) ∧ (∀ q, q < p → M1 (r + 1) (5 * o + q) = (zsn (fun y' => decide (g o y' = 3 + q) && !decide (y' = y)) 24 : Nat)) ∧ ∀ k, k < 5 * o ∨ 5 * o + p ≤ k → M1 (r + 1) k = M (r + 1) k)
    (P := fun p M1 => zR zPP (d + 1) 140 11 [zA r, zI o, zI y, zI (p : Nat)] [] (n, s, S, R, M1)) (N := 5) (fun p M1 hp hx => by
      obtain ⟨e1, e2, e3⟩ := hx
      have h1 : M1 (r + 1) (5 * o + p) = (zsn (fun y' => decide (g o y' = 3 + p)) 24 : Nat) := (e3 _ (by omega)).trans (hg.1 o p ho hp)
      refine ⟨zup M1 (r + 1) (5 * o + p) (zsn (fun y' => decide (g o y' = 3 + p) && !decide (y' = y)) 24 : Nat), ⟨fun a ha => by rw [zup_rw ha]; exact e1 a ha, fun q hq => ?_, fun k hk => ?_⟩, ?_⟩
      · by_cases hqp : q = p
        · subst hqp; exact zup_at
        · rw [zup_ne (by omega)]; exact e2 q (by omega)
      · rw [zup_ne (by omega)]; exact e3 k (by omega)
      · show zR _ _ _ _ _ _ _ = zR _ _ _ _ _ _ _
        rw [e_Rings_bring_11, if_pos (show (p : Int) < 5 by omega)]
        simp only [r1, r2, r5, if_true, q5 ho hp, Int.toNat_natCast, h1, true_or, true_and]
        rw [if_pos (show 0 ≤ ((5 * o + p : Nat) : Int) ∧ ((5 * o + p : Nat) : Int) < ((25 : Nat) : Int) by omega), if_pos (show 0 ≤ ((5 * o + p : Nat) : Int) ∧ ((5 * o + p : Nat) : Int) < ((25 : Nat) : Int) by omega), zsn_del24 _ hy, qw1 (show p < 100000 by omega)]) M ⟨fun _ _ => rfl, fun q hq => absurd hq (Nat.not_lt_zero q), fun _ _ => rfl⟩
  obtain ⟨M1, ⟨e1, e2, e3⟩, L⟩ := L
  refine ⟨M1, ?_, ⟨fun o' p ho' hp => ?_, fun o' ho' => ?_⟩, e1⟩
  · rw [c_Rings_bring]
    simp only [r1, if_true]
    rw [if_neg (by omega), if_pos (by omega), k_isYear hy]
    simp only [zbI]
    rw [if_neg (by decide)]
    refine Eq.trans L ?_
    rw [e_Rings_bring_11, if_neg (by decide)]
  · by_cases hoo : o' = o
    · subst hoo
      rw [e2 p hp]
      refine congrArg (fun x : Nat => (x : Int)) (zsn_cong fun y' hy' => ?_)
      by_cases hyy : y' = y
      · subst hyy
        by_cases h3 : 3 ≤ g o' y'
        · simp only [true_and, h3, if_true]
          simp
          omega
        · simp only [true_and, h3, if_false]
          have : ¬ g o' y' = 3 + p := by omega
          simp [this]
      · simp only [hyy, false_and, and_false, if_false]
        simp
    · rw [e3 _ (by omega)]
      rw [hg.1 o' p ho' hp]
      refine congrArg (fun x : Nat => (x : Int)) (zsn_cong fun y' hy' => ?_)
      simp only [hoo, false_and, if_false]
  · rw [e1 _ (by omega), hg.2 o' ho']
    refine congrArg (fun x : Nat => (x : Int)) (zsn_cong fun y' hy' => ?_)
    by_cases h : o' = o ∧ y' = y ∧ 3 ≤ g o y
    · obtain ⟨rfl, rfl, h3⟩ := h
      simp only [true_and, h3, if_true]
      have : ¬ g o' y' = 2 := by omega
      simp [this]
    · simp only [h, if_false]
theorem kr_give {r o y p : Nat} {g : Nat → Nat → Int} (hr : qLR S R r) (hg : qRg M r g) (ho : o < 5) (hy : y < 24) (hp : p < 5) (h2 : g o y ≠ 2) : ∃ M', zcal zPP (d + 3) 139 [zA r, zI o, zI y, zI p] (n, s, S, R, M) = some (zU, (n, s, S, R, M')) ∧ qRg M' r (fun o' y' => if o' = o ∧ y' = y then 3 + p else g o' y') ∧ ∀ a, a ≠ r + 1 → M' a = M a := by
  obtain ⟨M1, b1, b2, b3⟩ := kr_bring (n := n) (s := s) (d := d) hr hg ho hy
  obtain ⟨r1, r2, r3, r4, r5, r6, r7⟩ := hr
  have h1 := b2.1 o p ho hp
  refine ⟨zup M1 (r + 1) (5 * o + p) (zsn (fun y' => (decide ((if o = o ∧ y' = y ∧ 3 ≤ g o y then 1 else g o y') = 3 + (p : Int))) || decide (y' = y)) 24 : Nat), ?_, ⟨fun o' q ho' hq => ?_, fun o' ho' => ?_⟩, fun a ha => by rw [zup_rw ha]; exact b3 a ha⟩
  · rw [c_Rings_give]
    simp only [r1, if_true, b1, zbV]
    rw [if_neg (by omega), if_pos (by omega), k_isYear hy]
    simp only [zbI]
    rw [if_neg (by decide), if_neg (by omega), if_pos (by omega)]
    simp only [r1, r2, r5, if_true, q5 ho hp, Int.toNat_natCast, h1, true_or, true_and]
    rw [if_pos (show 0 ≤ ((5 * o + p : Nat) : Int) ∧ ((5 * o + p : Nat) : Int) < ((25 : Nat) : Int) by omega), if_pos (show 0 ≤ ((5 * o + p : Nat) : Int) ∧ ((5 * o + p : Nat) : Int) < ((25 : Nat) : Int) by omega), zsn_put24 _ hy]
  · by_cases hoq : 5 * o' + q = 5 * o + p
    · have hoo : o' = o := by omega
      have hqp : q = p := by omega
      subst hoo
      subst hqp
      rw [zup_at]
      refine congrArg (fun x : Nat => (x : Int)) (zsn_cong fun y' hy' => ?_)
      by_cases hyy : y' = y
      · subst hyy; simp
      · simp [hyy]
    · rw [zup_ne hoq, b2.1 o' q ho' hq]
      refine congrArg (fun x : Nat => (x : Int)) (zsn_cong fun y' hy' => ?_)
      by_cases h : o' = o ∧ y' = y
      · obtain ⟨rfl, rfl⟩ := h
        have hqp : q ≠ p := by omega
        simp only [true_and, and_self, if_true]
        by_cases h3 : 3 ≤ g o' y'
        · rw [if_pos h3, decide_eq_false (by omega), decide_eq_false (by omega)]
        · rw [if_neg h3, decide_eq_false (by omega), decide_eq_false (by omega)]
      · have h' : ¬ (o' = o ∧ y' = y ∧ 3 ≤ g o y) := fun z => h ⟨z.1, z.2.1⟩
        simp only [h, h', if_false]
  · rw [zup_r (by omega), b2.2 o' ho']
    refine congrArg (fun x : Nat => (x : Int)) (zsn_cong fun y' hy' => ?_)
    by_cases h : o' = o ∧ y' = y
    · obtain ⟨rfl, rfl⟩ := h
      simp only [true_and, and_self, if_true]
      by_cases h3 : 3 ≤ g o' y'
      · rw [if_pos h3, decide_eq_false (by omega), decide_eq_false (by omega)]
      · rw [if_neg h3, decide_eq_false h2, decide_eq_false (by omega)]
    · have h' : ¬ (o' = o ∧ y' = y ∧ 3 ≤ g o y) := fun z => h ⟨z.1, z.2.1⟩
      simp only [h, h', if_false]
theorem qTo_put {o y : Nat} {v : Int} (ho : (o : Int) < A 0) (hy : y < 24) (hold : A (11 + 24 * o + y) ≠ 0) (hv : 1 ≤ v ∧ v < 3 + A 1) (hM : ∀ a, a ≠ 22 → a ≠ 23 → M' a = M a) (hg : qRg M' 21 (qg (qup A (11 + 24 * o + y) v))) (ht : qTo M 10 A) : qTo M' 10 (qup A (11 + 24 * o + y) v) := by
  obtain ⟨hT, hR, hS, hI⟩ := ht
  have hA5 := hI.1.2
  have e : ∀ k, k ≠ 11 + 24 * o + y → qup A (11 + 24 * o + y) v k = A k := fun k hk => qup_ne hk
  have hzr : ∀ o' y', o' < 5 → y' < 24 → (qup A (11 + 24 * o + y) v (11 + 24 * o' + y') = 0 ↔ A (11 + 24 * o' + y') = 0) := fun o' y' h1 h2 => by
    by_cases h : 11 + 24 * o' + y' = 11 + 24 * o + y
    · rw [h, qup_at]
      constructor
      · intro h; omega
      · intro h; exact absurd h hold
    · rw [e _ h]
  refine ⟨?_, ⟨hg, ?_, fun i hi => ?_⟩, ?_, ?_⟩
  · exact qTw_x (fun a x z => hM a (by omega) (by omega)) (qTw_cong (fun k a b c => e k (by omega)) hzr hT)
  · rw [hM 21 (by decide) (by decide), e 10 (by omega), e 8 (by omega), e 7 (by omega), e 9 (by omega)]
    exact hR.2.1
  · rw [e 10 (by omega)] at hi
    rw [hM 24 (by decide) (by decide), e _ (by omega)]
    exact hR.2.2 i hi
  · refine qSp_x (fun a x z => hM a (by omega) (by omega)) (qSp_told ?_ hA5 ?_ (e 4 (by omega)) (fun k hk => e k (by omega)) (fun o' y' h1 h2 => hzr o' y' (by omega) h2) hS)
    · rw [e 0 (by omega)]; exact Int.le_refl _
    · rw [e 1 (by omega)]; exact Int.le_refl _
  · refine qIn_cong (fun k a b c => e k (by omega)) (by rw [e 4 (by omega)]; exact hI.2.2.2.2.1) (by rw [e 7 (by omega)]; exact hI.2.2.2.2.2.2.2.1) (by rw [e 8 (by omega)]; exact hI.2.2.2.2.2.2.2.2.1) (by rw [e 9 (by omega)]; exact hI.2.2.2.2.2.2.2.2.2.1) (by rw [e 10 (by omega)]; exact hI.2.2.2.2.2.2.2.2.2.2.1) (fun o' y' h1 h2 => ?_) hI
    by_cases h : 11 + 24 * o' + y' = 11 + 24 * o + y
    · rw [h, qup_at]; omega
    · rw [e _ h]; exact hI.2.2.2.2.2.2.2.2.2.2.2.1 o' y' h1 h2
theorem kr_holder_no {r : Nat} (hr : qLR S R r) {o y : Int} (h : ¬ (0 ≤ o ∧ o < 5) ∨ ¬ (0 ≤ y ∧ y < 24)) : zcal zPP (d + 2) 141 [zA r, zI o, zI y] (n, s, S, R, M) = some (zI (-1), (n, s, S, R, M)) := by
  rw [c_Rings_holder]
  simp only [hr.1, if_true]
  rw [k_isYearX]
  simp only [zbI]
  by_cases hy : 0 ≤ y ∧ y < 24
  · have ho : ¬ (0 ≤ o ∧ o < 5) := by
      rcases h with h | h
      · exact h
      · exact absurd hy h
    rw [if_pos hy, if_neg (by decide)]
    obtain ⟨y, rfl⟩ := Int.eq_ofNat_of_zero_le hy.1
    have hz : zand (zshr 0 (y : Int)) 1 = 0 := by
      have := zbit_nat (a := 0) (by decide) (show y < 32 by omega)
      rw [Nat.zero_testBit, if_neg (by decide)] at this
      exact this
    have L := qlp (P := fun i => zR zPP (d + 1) 141 7 [zA r, zI o, zI y, zI (i : Nat)] [] (n, s, S, R, M)) (N := 5) (fun i hi => by
      show zR _ _ _ _ _ _ _ = zR _ _ _ _ _ _ _
      rw [e_Rings_holder_7, if_pos (by omega), k_with_no hr (by omega)]
      simp only [zbI]
      rw [hz, if_neg (by decide), qw1 (by omega)])
    refine Eq.trans L ?_
    show zR _ _ _ _ _ _ _ = _
    rw [e_Rings_holder_7, if_neg (by decide)]
  · rw [if_neg hy, if_pos rfl]
theorem kx_holder (hF : qFx S R) (hA : qIn A) (hg : qRg M 21 (qg A)) (o y : Int) : (qLent A o y → zcal zPP (d + 2) 141 [zA 21, zI o, zI y] (n, s, S, R, M) = some (zI (A (11 + 24 * o.toNat + y.toNat) - 3), (n, s, S, R, M))) ∧ (¬ qLent A o y → zcal zPP (d + 2) 141 [zA 21, zI o, zI y] (n, s, S, R, M) = some (zI (-1), (n, s, S, R, M))) := by
  have hr := hF.1.2.1.1.2.2.1
  have hA5 := hA.1.2
  have hp5 := hA.2.1.2
  by_cases hin : (0 ≤ o ∧ o < 5) ∧ 0 ≤ y ∧ y < 24
  · obtain ⟨o, rfl⟩ := Int.eq_ofNat_of_zero_le hin.1.1
    obtain ⟨y, rfl⟩ := Int.eq_ofNat_of_zero_le hin.2.1
    have h := k_holder (n := n) (s := s) (d := d) hr hg (show o < 5 by omega) (show y < 24 by omega)
    have hb := hA.2.2.2.2.2.2.2.2.2.2.2.1 o y (by omega) (by omega)
    unfold qLent
    rw [Int.toNat_natCast, Int.toNat_natCast]
    refine ⟨fun hl => ?_, fun hl => ?_⟩
    · rw [qg_in hl.1.2, if_pos (by omega)] at h
      exact h
    · by_cases hoA : (o : Int) < A 0
      · rw [qg_in hoA, if_neg (by omega)] at h
        exact h
      · rw [qg_out hoA, if_neg (by omega)] at h
        exact h
  · refine ⟨fun hl => ?_, fun _ => kr_holder_no hr (by omega)⟩
    have := hl.1
    have := hl.2.1
    omega
end QF
