/-! WHAT THE CLASS'S CONSTRUCTORS MAKE: a Town -/
section QF
variable {d : Nat}
/-- what a new Town holds -/
def qTM (t : Nat) (R : Nat → Nat → Nat) (M : Nat → Nat → Int) : Prop :=
  (∀ k, R (t + 4) k = 0) ∧ (∀ k, M t k = if k = 15 then -1 else 0) ∧ (∀ j, (1 ≤ j ∧ j ≤ 3) ∨ j = 5 ∨ j = 7 ∨ (9 ≤ j ∧ j ≤ 10) ∨ (12 ≤ j ∧ j ≤ 15) → ∀ k, M (t + j) k = 0) ∧ (∀ k, k < 5 → M (t + 6) k = 15) ∧ (∀ k, k < 4 → M (t + 8) k = 10) ∧ ∀ k, M (t + 11) k = if k = 6 then 257 else 0
theorem qTM_x {t : Nat} {R R' : Nat → Nat → Nat} {M M' : Nat → Nat → Int} (h : ∀ q, t ≤ q → q ≤ t + 15 → R' q = R q ∧ M' q = M q) (hT : qTM t R M) : qTM t R' M' := by
  obtain ⟨h1, h2, h3, h4, h5, h6⟩ := hT
  refine ⟨fun k => ?_, fun k => ?_, fun j hj k => ?_, fun k hk => ?_, fun k hk => ?_, fun k => ?_⟩
  · rw [(h (t + 4) (by omega) (by omega)).1]; exact h1 k
  · rw [(h t (by omega) (by omega)).2]; exact h2 k
  · rw [(h (t + j) (by omega) (by omega)).2]; exact h3 j hj k
  · rw [(h (t + 6) (by omega) (by omega)).2]; exact h4 k hk
  · rw [(h (t + 8) (by omega) (by omega)).2]; exact h5 k hk
  · rw [(h (t + 11) (by omega) (by omega)).2]; exact h6 k
theorem qLT_y {S S' : Nat → Nat × Nat} {R R' : Nat → Nat → Nat} {t : Nat} (hS : ∀ q, t ≤ q → q ≤ t + 136 → S' q = S q) (hR : ∀ q, t ≤ q → q ≤ t + 136 → R' q = R q) (h : qLT S R t) : qLT S' R' t := by
  obtain ⟨h1, h2, h3, h4, h5⟩ := h
  refine ⟨?_, ?_, ?_, ?_, fun i hi => ⟨?_, ?_⟩⟩
  · rw [hS t (by omega) (by omega), hS (t + 1) (by omega) (by omega), hS (t + 2) (by omega) (by omega), hS (t + 3) (by omega) (by omega), hS (t + 4) (by omega) (by omega), hS (t + 5) (by omega) (by omega), hS (t + 6) (by omega) (by omega), hS (t + 7) (by omega) (by omega), hS (t + 8) (by omega) (by omega), hS (t + 9) (by omega) (by omega), hS (t + 10) (by omega) (by omega)]
    exact h1
  · rw [hR t (by omega) (by omega)]
    exact h2
  · exact qLR_x (fun q a b => hS q (by omega) (by omega)) (hR _ (by omega) (by omega)) h3
  · rw [hS (t + 15) (by omega) (by omega), hS (t + 16) (by omega) (by omega), hR (t + 15) (by omega) (by omega)]
    exact h4
  · rw [hR (t + 16) (by omega) (by omega)]
    exact (h5 i hi).1
  · exact qLR_x (fun q a b => hS q (by omega) (by omega)) (hR _ (by omega) (by omega)) (h5 i hi).2
/-- a Town, new -/
def qPT (t : Nat) (S : Nat → Nat × Nat) (R : Nat → Nat → Nat) (M : Nat → Nat → Int) (S' : Nat → Nat × Nat) (R' : Nat → Nat → Nat) (M' : Nat → Nat → Int) : Prop :=
  qOld t S S' R R' M M' ∧ qLT S' R' t ∧ qTM t R' M'
set_option maxHeartbeats 4000000 in
theorem kn_Town (t s : Nat) (S : Nat → Nat × Nat) (R : Nat → Nat → Nat) (M : Nat → Nat → Int) : qMade (t + 137) (s + 2206) (qPT t S R M) (zcal zPP (d + 3) 164 [zA t] (t + 1, s + 18, zupS S t (8, 18), zrow R t (fun _ => 0), zrow M t (fun _ => 0))) := by
  rw [c_Town_init]
  have t5 : (5 : Int).toNat = 5 := rfl
  have t24 : (24 : Int).toNat = 24 := rfl
  have t4 : (4 : Int).toNat = 4 := rfl
  have t10 : (10 : Int).toNat = 10 := rfl
  have t8 : (8 : Int).toNat = 8 := rfl
  have t0 : (0 : Int).toNat = 0 := rfl
  have t1 : (1 : Int).toNat = 1 := rfl
  have t2 : (2 : Int).toNat = 2 := rfl
  have t3 : (3 : Int).toNat = 3 := rfl
  simp only [t5, t24, t4, t10, t8, t0, t1, t2, t3]
  refine qMade_i (by simp (disch := omega) only [zupS_e, zupS_ne]) (qMade_i ⟨by rw [zupS_e rfl]; decide, Nat.zero_le _⟩ ?_)
  repeat
    refine qMade_i ?_ ?_
    · first
      | (simp (disch := omega) only [zupS_e, zupS_ne]; done)
      | (simp (disch := omega) only [zupS_e, zupS_ne]; decide)
  refine qMade_b (kn_Rings (t + 11) (s + 96) _ _ _) (fun s1 S1 R1 M1 hs1 hP1 => ?_)
  obtain ⟨g1, g2, g3, g4⟩ := hP1
  have st : (S1 t).1 = 8 := by
    rw [(g1 t (by omega)).1]
    simp (disch := omega) only [zupS_e, zupS_ne]
  refine qMade_i st ?_
  refine qMade_b (kn_Steps (t + 15) s1 S1 (zupR R1 t 10 (t + 11)) M1) (fun s2 S2 R2 M2 hs2 hP2 => ?_)
  obtain ⟨k1, ⟨k2, k3, k4⟩, k5, k6⟩ := hP2
  have st2 : (S2 t).1 = 8 := by
    rw [(k1 t (by omega)).1]
    exact st
  refine qMade_i st2 (qMade_i st2 (qMade_e (n1 := t + 15 + 122) (s1 := s2) (S1 := S2) (R1 := zupR R2 t 11 (t + 11 + 4)) (M1 := zup M2 t 15 (-1)) (by omega) (by omega) ?_))
  have r0 : ∀ q, q ≠ t → zupR R2 t 11 (t + 11 + 4) q = R2 q := fun q hq => zupR_rw hq
  have m0 : ∀ q, q ≠ t → zup M2 t 15 (-1) q = M2 q := fun q hq => zup_rw hq
  have m11 : M2 (t + 11) = M1 (t + 11) := (k1 _ (by omega)).2.2
  have r11 : zupR R2 t 11 (t + 11 + 4) (t + 11) = R1 (t + 11) := (r0 _ (by omega)).trans ((k1 (t + 11) (by omega)).2.1.trans (zupR_rw (by omega)))
  refine ⟨fun q hq => ⟨?_, ?_, ?_⟩, ⟨⟨?_, ?_, ?_, ?_, ?_, ?_, ?_, ?_, ?_, ?_, ?_⟩, ⟨?_, ?_, ?_, ?_, ?_, ?_, ?_, ?_, ?_, ?_, ?_, ?_⟩, ?_, ⟨k2, k3, (congrFun (r0 (t + 15) (by omega)) 0).trans k4⟩, fun i hi => ⟨?_, ?_⟩⟩, fun k => ?_, fun k => ?_, fun j hj k => ?_, fun k hk => ?_, fun k hk => ?_, fun k => ?_⟩
  · rw [(k1 q (by omega)).1, (g1 q (by omega)).1]
    simp (disch := omega) only [zupS_ne]
  · rw [r0 q (by omega), (k1 q (by omega)).2.1, zupR_rw (by omega), (g1 q (by omega)).2.1]
    simp (disch := omega) only [zupR_rw, zrow_ne]
  · rw [m0 q (by omega), (k1 q (by omega)).2.2, (g1 q (by omega)).2.2]
    simp (disch := omega) only [zup_rw, zrow_ne]
  · rw [(k1 t (by omega)).1, (g1 t (by omega)).1]
    simp (disch := omega) only [zupS_e, zupS_ne]
  · rw [(k1 (t + 1) (by omega)).1, (g1 (t + 1) (by omega)).1]
    simp (disch := omega) only [zupS_e, zupS_ne]
  · rw [(k1 (t + 2) (by omega)).1, (g1 (t + 2) (by omega)).1]
    simp (disch := omega) only [zupS_e, zupS_ne]
  · rw [(k1 (t + 3) (by omega)).1, (g1 (t + 3) (by omega)).1]
    simp (disch := omega) only [zupS_e, zupS_ne]
  · rw [(k1 (t + 4) (by omega)).1, (g1 (t + 4) (by omega)).1]
    simp (disch := omega) only [zupS_e, zupS_ne]
  · rw [(k1 (t + 5) (by omega)).1, (g1 (t + 5) (by omega)).1]
    simp (disch := omega) only [zupS_e, zupS_ne]
  · rw [(k1 (t + 6) (by omega)).1, (g1 (t + 6) (by omega)).1]
    simp (disch := omega) only [zupS_e, zupS_ne]
  · rw [(k1 (t + 7) (by omega)).1, (g1 (t + 7) (by omega)).1]
    simp (disch := omega) only [zupS_e, zupS_ne]
  · rw [(k1 (t + 8) (by omega)).1, (g1 (t + 8) (by omega)).1]
    simp (disch := omega) only [zupS_e, zupS_ne]
  · rw [(k1 (t + 9) (by omega)).1, (g1 (t + 9) (by omega)).1]
    simp (disch := omega) only [zupS_e, zupS_ne]
  · rw [(k1 (t + 10) (by omega)).1, (g1 (t + 10) (by omega)).1]
    simp (disch := omega) only [zupS_e, zupS_ne]
  · rw [zupR_ne (by decide), (k1 t (by omega)).2.1, zupR_ne (by decide), (g1 t (by omega)).2.1]
    simp (disch := omega) only [zupR_e, zupR_ne, zrow_ne]
  · rw [zupR_ne (by decide), (k1 t (by omega)).2.1, zupR_ne (by decide), (g1 t (by omega)).2.1]
    simp (disch := omega) only [zupR_e, zupR_ne, zrow_ne]
  · rw [zupR_ne (by decide), (k1 t (by omega)).2.1, zupR_ne (by decide), (g1 t (by omega)).2.1]
    simp (disch := omega) only [zupR_e, zupR_ne, zrow_ne]
  · rw [zupR_ne (by decide), (k1 t (by omega)).2.1, zupR_ne (by decide), (g1 t (by omega)).2.1]
    simp (disch := omega) only [zupR_e, zupR_ne, zrow_ne]
  · rw [zupR_ne (by decide), (k1 t (by omega)).2.1, zupR_ne (by decide), (g1 t (by omega)).2.1]
    simp (disch := omega) only [zupR_e, zupR_ne, zrow_ne]
  · rw [zupR_ne (by decide), (k1 t (by omega)).2.1, zupR_ne (by decide), (g1 t (by omega)).2.1]
    simp (disch := omega) only [zupR_e, zupR_ne, zrow_ne]
  · rw [zupR_ne (by decide), (k1 t (by omega)).2.1, zupR_ne (by decide), (g1 t (by omega)).2.1]
    simp (disch := omega) only [zupR_e, zupR_ne, zrow_ne]
  · rw [zupR_ne (by decide), (k1 t (by omega)).2.1, zupR_ne (by decide), (g1 t (by omega)).2.1]
    simp (disch := omega) only [zupR_e, zupR_ne, zrow_ne]
  · rw [zupR_ne (by decide), (k1 t (by omega)).2.1, zupR_ne (by decide), (g1 t (by omega)).2.1]
    simp (disch := omega) only [zupR_e, zupR_ne, zrow_ne]
  · rw [zupR_ne (by decide), (k1 t (by omega)).2.1, zupR_ne (by decide), (g1 t (by omega)).2.1]
    simp (disch := omega) only [zupR_e, zupR_ne, zrow_ne]
  · rw [zupR_ne (by decide), (k1 t (by omega)).2.1, zupR_e rfl rfl]
  · exact zupR_e rfl rfl
  · exact qLR_x (fun q h1 h2 => (k1 q (by omega)).1) r11 g2
  · rw [r0 _ (by omega)]
    exact (k5 i hi).1
  · exact qLR_x (fun _ _ _ => rfl) (r0 _ (by omega)) (k5 i hi).2
  · rw [r0 _ (by omega), (k1 (t + 4) (by omega)).2.1, zupR_rw (by omega), (g1 (t + 4) (by omega)).2.1]
    simp (disch := omega) only [zupR_rw, zrow_ne, zrow_e]
  · by_cases h : k = 15
    · rw [if_pos h, zup_e rfl h]
    · rw [if_neg h, zup_nk h, (k1 t (by omega)).2.2, (g1 t (by omega)).2.2]
      simp (disch := omega) only [zup_rw, zrow_ne, zrow_e]
  · rw [m0 _ (by omega)]
    by_cases h15 : j = 15
    · subst h15
      exact k6 k
    rw [(k1 (t + j) (by omega)).2.2]
    by_cases h12 : 12 ≤ j
    · exact g4 (t + j) (by omega) (by omega) k
    rw [(g1 (t + j) (by omega)).2.2]
    rcases (show j = 1 ∨ j = 2 ∨ j = 3 ∨ j = 5 ∨ j = 7 ∨ j = 9 ∨ j = 10 by omega) with rfl | rfl | rfl | rfl | rfl | rfl | rfl <;> simp (disch := omega) only [zup_rw, zrow_ne, zrow_e]
  · rw [m0 _ (by omega), (k1 (t + 6) (by omega)).2.2, (g1 (t + 6) (by omega)).2.2]
    rcases (show k = 0 ∨ k = 1 ∨ k = 2 ∨ k = 3 ∨ k = 4 by omega) with rfl | rfl | rfl | rfl | rfl <;> simp (disch := omega) only [zup_e, zup_nk, zup_rw, zrow_ne, zrow_e]
  · rw [m0 _ (by omega), (k1 (t + 8) (by omega)).2.2, (g1 (t + 8) (by omega)).2.2]
    rcases (show k = 0 ∨ k = 1 ∨ k = 2 ∨ k = 3 by omega) with rfl | rfl | rfl | rfl <;> simp (disch := omega) only [zup_e, zup_nk, zup_rw, zrow_ne, zrow_e]
  · rw [m0 _ (by omega), m11]
    exact g3 k
end QF
