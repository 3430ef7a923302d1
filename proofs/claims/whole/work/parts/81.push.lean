/-! A STEP KEPT on both sides: the world stands -/
theorem qTw_cong {M : Nat → Nat → Int} {t : Nat} {A A' : Nat → Int} (h : ∀ k, k ≠ 4 → k < 200 → (k < 7 ∨ 131 ≤ k) → A' k = A k) (hz : ∀ o y, o < 5 → y < 24 → (A' (11 + 24 * o + y) = 0 ↔ A (11 + 24 * o + y) = 0)) (hT : qTw M t A) : qTw M t A' := by
  obtain ⟨⟨a1, a2, a3, a4, a5, a6⟩, b1, b2, b3, b4, b5, b6, b7, b8, b9⟩ := hT
  refine ⟨⟨?_, ?_, ?_, ?_, ?_, ?_⟩, fun o ho => ?_, fun i hi => ?_, fun i hi => ?_, fun i hi => ?_, fun i hi => ?_, fun i hi => ?_, fun i hi => ?_, fun i hi => ?_, fun i hi => ?_⟩
  · rw [h 0 (by decide) (by decide) (by decide)]; exact a1
  · rw [h 1 (by decide) (by decide) (by decide)]; exact a2
  · rw [h 2 (by decide) (by decide) (by decide)]; exact a3
  · rw [h 3 (by decide) (by decide) (by decide)]; exact a4
  · rw [h 5 (by decide) (by decide) (by decide)]; exact a5
  · rw [h 6 (by decide) (by decide) (by decide)]; exact a6
  · rw [b1 o ho]
    refine congrArg (fun x : Nat => (x : Int)) (zsn_cong fun y hy => ?_)
    have := hz o y ho hy
    rw [Bool.eq_iff_iff, decide_eq_true_iff, decide_eq_true_iff, ne_eq, ne_eq, this]
  · rw [h _ (by omega) (by omega) (by omega)]; exact b2 i hi
  · rw [h _ (by omega) (by omega) (by omega)]; exact b3 i hi
  · rw [h _ (by omega) (by omega) (by omega)]; exact b4 i hi
  · rw [h _ (by omega) (by omega) (by omega)]; exact b5 i hi
  · rw [h _ (by omega) (by omega) (by omega)]; exact b6 i hi
  · rw [h _ (by omega) (by omega) (by omega)]; exact b7 i hi
  · rw [h _ (by omega) (by omega) (by omega)]; exact b8 i hi
  · rw [h _ (by omega) (by omega) (by omega)]; exact b9 i hi
/-- the bounds, when steps, day, cuts, x, written, rings change within theirs -/
theorem qIn_cong {A A' : Nat → Int} (h : ∀ k, k ≠ 4 → k < 200 → (k < 7 ∨ 131 ≤ k) → A' k = A k) (h4 : 0 ≤ A' 4 ∧ A' 4 ≤ 30) (h7 : 0 ≤ A' 7 ∧ A' 7 ≤ 9999) (h8 : 0 ≤ A' 8 ∧ A' 8 ≤ 9999) (h9 : 0 ≤ A' 9 ∧ A' 9 < 30689) (h10 : 0 ≤ A' 10 ∧ A' 10 ≤ 30) (hr : ∀ o y, o < 5 → y < 24 → 0 ≤ A' (11 + 24 * o + y) ∧ A' (11 + 24 * o + y) < 3 + A 1) (hi : qIn A) : qIn A' := by
  obtain ⟨a0, a1, a2, a3, a4, a5, a6, a7, a8, a9, a10, b1, b2, b3, b4, b5, b6, b7, b8⟩ := hi
  have e0 := h 0 (by decide) (by decide) (by decide)
  have e1 := h 1 (by decide) (by decide) (by decide)
  have e2 := h 2 (by decide) (by decide) (by decide)
  have e3 := h 3 (by decide) (by decide) (by decide)
  have e5 := h 5 (by decide) (by decide) (by decide)
  have e6 := h 6 (by decide) (by decide) (by decide)
  refine ⟨by rw [e0]; exact a0, by rw [e1]; exact a1, by rw [e2]; exact a2, by rw [e3, e2]; exact a3, h4, by rw [e5]; exact a5, by rw [e6]; exact a6, h7, h8, h9, h10, fun o z ho hz => ?_, fun i hi => ?_, fun i hi => ?_, fun i hi => ?_, fun i hi => ?_, fun i hi => ?_, fun i hi => ?_, fun i hi => ?_⟩
  · rw [e1]; exact hr o z ho hz
  · rw [h _ (by omega) (by omega) (by omega)]; exact b2 i hi
  · rw [h _ (by omega) (by omega) (by omega)]; exact b3 i hi
  · rw [h _ (by omega) (by omega) (by omega)]; exact b4 i hi
  · rw [h _ (by omega) (by omega) (by omega)]; exact b5 i hi
  · rw [h _ (by omega) (by omega) (by omega)]; exact b6 i hi
  · rw [h _ (by omega) (by omega) (by omega)]; exact b7 i hi
  · rw [e6] at hi
    rw [h _ (by omega) (by omega) (by omega), e1, h _ (by omega) (by omega) (by omega)]; exact b8 i hi
theorem qsn_eq {A A' : Nat → Int} {x x' : Nat} (h : ∀ k, k < 155 → A' (x' + k) = A (x + k)) : ∀ k, k = 0 ∨ (7 ≤ k ∧ k < 131) ∨ (4850 ≤ k ∧ k < 4880) → qsn A' x' k = qsn A x k := fun k hk => by
  unfold qsn
  by_cases h1 : k = 0
  · rw [if_pos h1, if_pos h1]; exact h 0 (by decide)
  · rw [if_neg h1, if_neg h1]
    by_cases h2 : 7 ≤ k ∧ k < 131
    · rw [if_pos h2, if_pos h2, Nat.add_assoc, Nat.add_assoc]; exact h _ (by omega)
    · rw [if_neg h2, if_neg h2, if_pos (by omega), if_pos (by omega), Nat.add_assoc, Nat.add_assoc]; exact h _ (by omega)
theorem qSi_eq {A A' : Nat → Int} {x x' : Nat} (h0 : A' 0 = A 0) (h1 : A' 1 = A 1) (hr : ∀ o y : Nat, o < 5 → y < 24 → (A' (11 + 24 * o + y) = 0 ↔ A (11 + 24 * o + y) = 0)) (h05 : A 0 ≤ 5) (h : ∀ k, k < 155 → A' (x' + k) = A (x + k)) (hs : qSi A x) : qSi A' x' := by
  obtain ⟨a1, a2, a3, a4, a5, a6⟩ := hs
  have e0 : A' x' = A x := h 0 (by decide)
  refine ⟨by rw [e0, h0]; exact a1, by rw [h 1 (by decide)]; exact a2, by rw [h 2 (by decide)]; exact a3, by rw [h 3 (by decide)]; exact a4, by rw [h 4 (by decide)]; exact a5, fun o y ho hy => ?_⟩
  rw [e0] at ho
  have := a6 o y ho hy
  have e := h (5 + 24 * o + y) (by omega)
  rw [show x' + (5 + 24 * o + y) = x' + 5 + 24 * o + y by omega, show x + (5 + 24 * o + y) = x + 5 + 24 * o + y by omega] at e
  rw [e, h1]
  exact ⟨this.1, this.2.1, this.2.2.trans (hr o y (by omega) hy).symm⟩
/-- what the class's push makes -/
def qPu (M M' : Nat → Nat → Int) (f z : Nat) : Prop := ∃ M0, qCp M M0 (27 + 4 * ((f + z) % 30)) 21 ∧ M' = if z < 30 then zup M0 25 2 ((z : Int) + 1) else zup M0 25 1 (((f + 1) % 30 : Nat) : Int)
section QF
variable {S : Nat → Nat × Nat} {R : Nat → Nat → Nat} {M M' M0 M1 : Nat → Nat → Int} {n s d : Nat} {A : Nat → Int} {W : Nat → qWt}
theorem kx_push (hF : qFx S R) {f z : Nat} (hf : M 25 1 = f) (hz : M 25 2 = z) (hf30 : f < 30) (hz30 : z ≤ 30) : ∃ M', zcal zPP (d + 2) 153 [zA 25, zA 21] (n, s, S, R, M) = some (zU, (n, s, S, R, M')) ∧ qPu M M' f z := by
  have hL : qLT S R 10 := hF.1.2.1.1
  have hrw := kr_rowAt (n := n) (s := s) (d := d) (M := M) (S := S) (R := R) (q := 25) hL.2.2.2.1.1 hL.2.2.2.1.2.1 hL.2.2.2.1.2.2 (fun i hi => (hL.2.2.2.2 i hi).1) hf (i := z) (by omega)
  have hlt : (f + z) % 30 < 30 := Nat.mod_lt _ (by decide)
  have hrl : qLR S R (27 + 4 * ((f + z) % 30)) := (hL.2.2.2.2 _ hlt).2
  obtain ⟨M0, b1, b2⟩ := kr_becomes (n := n) (s := s) (d := d) (M := M) hrl hL.2.2.1 (by omega)
  have h25 : M0 25 = M 25 := b2.1 25 (by omega)
  have hS5 : S (27 + 4 * ((f + z) % 30)) = (5, 7) := hrl.1
  have hm : ((f : Int) + 1).tmod 30 = (((f + 1) % 30 : Nat) : Int) := rfl
  have hrw' : zcal zPP (d + 1) 154 [zA 25, zI z] (n, s, S, R, M) = some (zA (27 + 4 * ((f + z) % 30)), (n, s, S, R, M)) := hrw
  have b1' : zcal zPP (d + 1) 138 [zA (27 + 4 * ((f + z) % 30)), zA 21] (n, s, S, R, M) = some (zU, (n, s, S, R, M0)) := b1
  have z1 : M0 25 1 = f := by rw [h25]; exact hf
  have z2 : M0 25 2 = z := by rw [h25]; exact hz
  refine ⟨_, ?_, M0, b2, rfl⟩
  rw [c_Steps_push]
  simp only [qff hF, if_true, hz, hrw', zbA]
  rw [if_neg (by omega), if_neg (show ¬ (S (27 + 4 * ((f + z) % 30))).1 = 0 by rw [hS5]; decide), b1']
  simp only [zbV, qff hF, if_true, z1, z2]
  by_cases h30 : z < 30
  · rw [if_pos h30, if_pos (by omega), qz (by omega) (by omega)]
  · rw [if_neg h30, if_neg (by omega), if_neg (by decide), qz (by omega) (by omega), hm]
theorem qTo_push {A A' : Nat → Int} {f z : Nat} (hf : M 25 1 = f) (hz : A 4 = z) (hz30 : z ≤ 30) (hP : qPu M M' f z) (hK : qKp A A' z) (ht : qTo M 10 A) : qTo M' 10 A' := by
  obtain ⟨hT, hR, ⟨⟨s1, s2, s3⟩, s4⟩, hI⟩ := ht
  obtain ⟨k1, k2, ⟨k3, k4, k5, -⟩, k6⟩ := hK
  obtain ⟨M0, c, rfl⟩ := hP
  have hA5 := hI.1.2
  have hf30 : f < 30 := by
    have s3' : M 25 1 < 30 := s3
    omega
  have hlt : (f + z) % 30 < 30 := Nat.mod_lt _ (by decide)
  have hrow : ∀ a, a ≠ 25 → (a < 27 + 4 * ((f + z) % 30) ∨ 27 + 4 * ((f + z) % 30) + 3 < a) → (if z < 30 then zup M0 25 2 ((z : Int) + 1) else zup M0 25 1 (((f + 1) % 30 : Nat) : Int)) a = M a := fun a h1 h2 => by
    split
    · rw [zup_rw h1]; exact c.1 a h2
    · rw [zup_rw h1]; exact c.1 a h2
  have hrow0 : ∀ a, a ≠ 25 → (if z < 30 then zup M0 25 2 ((z : Int) + 1) else zup M0 25 1 (((f + 1) % 30 : Nat) : Int)) a = M0 a := fun a h1 => by
    split <;> exact zup_rw h1
  have h0 : A' 0 = A 0 := k6 0 (by decide) (by decide)
  have h1 : A' 1 = A 1 := k6 1 (by decide) (by decide)
  have hlow : ∀ k, k ≠ 4 → k < 200 → A' k = A k := fun k hk h => k6 k hk (Or.inl h)
  have hzr : ∀ o y : Nat, o < 5 → y < 24 → (A' (11 + 24 * o + y) = 0 ↔ A (11 + 24 * o + y) = 0) := fun o y ho hy => by rw [hlow _ (by omega) (by omega)]
  have hI' : qIn A' := qIn_cong (fun k a b _ => hlow k a b) (by rw [k1]; omega) (by rw [hlow 7 (by decide) (by decide)]; exact hI.2.2.2.2.2.2.2.1) (by rw [hlow 8 (by decide) (by decide)]; exact hI.2.2.2.2.2.2.2.2.1) (by rw [hlow 9 (by decide) (by decide)]; exact hI.2.2.2.2.2.2.2.2.2.1) (by rw [hlow 10 (by decide) (by decide)]; exact hI.2.2.2.2.2.2.2.2.2.2.1) (fun o y ho hy => by rw [hlow _ (by omega) (by omega)]; exact hI.2.2.2.2.2.2.2.2.2.2.2.1 o y ho hy) hI
  refine ⟨?_, ?_, ⟨⟨?_, ?_, ?_⟩, fun i hi => ?_⟩, hI'⟩
  · exact qTw_x (fun a x y => hrow a (by omega) (by omega)) (qTw_cong (fun k a b _ => hlow k a b) hzr hT)
  · exact qRs_x (fun a x y => hrow a (by omega) (by omega)) (qRs_cong h0 (fun k a b => hlow k (by omega) (by omega)) (fun i hi => k6 _ (by omega) (by omega)) hI.2.2.2.2.2.2.2.2.2.2.1.2 hR)
  · show (if z < 30 then zup M0 25 2 ((z : Int) + 1) else zup M0 25 1 (((f + 1) % 30 : Nat) : Int)) 25 2 = A' 4
    rw [k1]
    by_cases h30 : z < 30
    · rw [if_pos h30, zup_at]; omega
    · rw [if_neg h30, zup_ne (by decide), c.1 25 (by omega)]
      have s1' : M 25 2 = A 4 := s1
      omega
  · show 0 ≤ (if z < 30 then zup M0 25 2 ((z : Int) + 1) else zup M0 25 1 (((f + 1) % 30 : Nat) : Int)) 25 1
    split
    · rw [zup_ne (by decide), c.1 25 (by omega), hf]; omega
    · rw [zup_at]; omega
  · show (if z < 30 then zup M0 25 2 ((z : Int) + 1) else zup M0 25 1 (((f + 1) % 30 : Nat) : Int)) 25 1 < 30
    split
    · rw [zup_ne (by decide), c.1 25 (by omega), hf]; omega
    · rw [zup_at]
      have := Nat.mod_lt (f + 1) (show 0 < 30 by decide)
      omega
  · rw [k1] at hi
    -- the row of step i
    have hrwi : qrw (if z < 30 then zup M0 25 2 ((z : Int) + 1) else zup M0 25 1 (((f + 1) % 30 : Nat) : Int)) 25 i = 27 + 4 * ((f + (z - min z 29) + i) % 30) := by
      unfold qrw
      by_cases h30 : z < 30
      · rw [if_pos h30, zup_ne (by decide), c.1 25 (by omega), hf, Int.toNat_natCast, show z - min z 29 = 0 by omega, Nat.add_zero f]
      · rw [if_neg h30, zup_at, Int.toNat_natCast, show z - min z 29 = 1 by omega]
        omega
    have hx : 200 ≤ qsx i := by unfold qsx; omega
    show qRs _ (qrw _ 25 i) _ ∧ _
    rw [hrwi]
    by_cases hiz : i < min z 29
    · obtain ⟨o1, o2⟩ := s4 (i + (z - min z 29)) (by omega)
      have ho : qrw M 25 (i + (z - min z 29)) = 27 + 4 * ((f + (z - min z 29) + i) % 30) := by
        unfold qrw
        rw [hf, Int.toNat_natCast]
        omega
      rw [show (10 + 15 : Nat) = 25 from rfl, ho] at o1
      have hne : (f + (z - min z 29) + i) % 30 ≠ (f + z) % 30 := by omega
      have hlt2 : (f + (z - min z 29) + i) % 30 < 30 := Nat.mod_lt _ (by decide)
      have hk : ∀ k, k < 155 → A' (qsx i + k) = A (qsx (i + (z - min z 29)) + k) := fun k hk => k2 i k hiz hk
      have hq := qsn_eq hk
      refine ⟨qRs_x (fun a x y => hrow a (by omega) (by omega)) (qRs_cong (hq 0 (Or.inl rfl)) (fun k a b => hq k (Or.inr (Or.inl ⟨a, b⟩))) (fun j hj => hq _ (Or.inr (Or.inr ⟨by omega, by omega⟩))) ?_ o1), qSi_eq h0 h1 hzr hA5 hk o2⟩
      show (if (10 : Nat) = 0 then _ else if 7 ≤ 10 ∧ 10 < 131 then A (qsx (i + (z - min z 29)) + 1 + (10 - 7)) else _) ≤ 30
      rw [if_neg (by decide), if_pos (by decide)]
      exact o2.2.2.2.2.1.2
    · have hiz' : i = min z 29 := by omega
      have hrr : (f + (z - min z 29) + i) % 30 = (f + z) % 30 := by rw [hiz']; congr 1; omega
      rw [hrr, hiz']
      have e0 : qsn A' (qsx (min z 29)) 0 = A 0 := k3
      have er : ∀ k, 7 ≤ k → k < 131 → qsn A' (qsx (min z 29)) k = A k := fun k a b => by
        unfold qsn
        rw [if_neg (by omega), if_pos ⟨a, b⟩, k4 _ (by omega), show 7 + (k - 7) = k by omega]
      have eb : ∀ j, j < 30 → qsn A' (qsx (min z 29)) (4850 + j) = A (4850 + j) := fun j hj => by
        unfold qsn
        rw [if_neg (by omega), if_neg (by omega), if_pos (by omega), k5 _ (by omega), show 4850 + (4850 + j - 4850) = 4850 + j by omega]
      refine ⟨qRs_cong e0 er eb hI.2.2.2.2.2.2.2.2.2.2.1.2 (qRs_x (fun a x y => hrow0 a (by omega)) (qCp_Rs c hI.2.2.2.2.2.2.2.2.2.2.1.2 hR)), ?_, ?_, ?_, ?_, ?_, fun o y ho hy => ?_⟩
      · rw [k3, h0]; exact ⟨hI.1.1, Int.le_refl _⟩
      · rw [show qsx (min z 29) + 1 = qsx (min z 29) + 1 + 0 from rfl, k4 0 (by decide)]; exact hI.2.2.2.2.2.2.2.1
      · rw [show qsx (min z 29) + 2 = qsx (min z 29) + 1 + 1 from rfl, k4 1 (by decide)]; exact hI.2.2.2.2.2.2.2.2.1
      · rw [show qsx (min z 29) + 3 = qsx (min z 29) + 1 + 2 from rfl, k4 2 (by decide)]; exact hI.2.2.2.2.2.2.2.2.2.1
      · rw [show qsx (min z 29) + 4 = qsx (min z 29) + 1 + 3 from rfl, k4 3 (by decide)]; exact hI.2.2.2.2.2.2.2.2.2.2.1
      · rw [k3] at ho
        have e := k4 (4 + 24 * o + y) (by omega)
        rw [show qsx (min z 29) + 1 + (4 + 24 * o + y) = qsx (min z 29) + 5 + 24 * o + y by omega, show 7 + (4 + 24 * o + y) = 11 + 24 * o + y by omega] at e
        have hb := hI.2.2.2.2.2.2.2.2.2.2.2.1 o y (by omega) hy
        rw [e, h1]
        exact ⟨hb.1, hb.2, (hzr o y (by omega) hy).symm⟩
end QF
