/-! WHAT THE MODEL'S CONSTRUCTOR MAKES -/
section QF
variable {d : Nat}
theorem qMade_w {n n2 b b2 : Nat} {P P2 : (Nat → Nat × Nat) → (Nat → Nat → Nat) → (Nat → Nat → Int) → Prop} {o : zO} (h : qMade n b P o) (hP : ∀ S' R' M', P S' R' M' → P2 S' R' M') (hn : n = n2) (hb : b ≤ b2) : qMade n2 b2 P2 o := by
  obtain ⟨s', S', R', M', e, h1, h2⟩ := h
  exact ⟨s', S', R', M', by rw [e, hn], by omega, hP _ _ _ h2⟩
theorem kn_M75 {n s : Nat} {S : Nat → Nat × Nat} {R : Nat → Nat → Nat} (h1 : S 305 = (10, 30)) (h2 : S 306 = (20, 4880)) (h3 : R 305 0 = 306) : ∀ (m i : Nat), i + m = 5 → ∀ (M : Nat → Nat → Int), ∃ M', zR zPP d 177 75 [zA 305, zI (i : Nat)] [] (n, s, S, R, M) = zR zPP d 177 89 [zA 305, zI 0] [] (n, s, S, R, M') ∧ (∀ q, q ≠ 306 → M' q = M q) ∧ ∀ k, M' 306 k = if 165 + i ≤ k ∧ k < 170 then 15 else M 306 k := by
  intro m
  induction m with
  | zero =>
    intro i hi M
    rw [e_M_init_75, if_neg (by omega)]
    exact ⟨M, rfl, fun _ _ => rfl, fun k => (if_neg (by omega)).symm⟩
  | succ m ih =>
    intro i hi M
    rw [e_M_init_75]
    have ew : zw32 ((i : Int) + 1) = ((i + 1 : Nat) : Int) := qw1 (by omega)
    have ev : zw32 (165 + (i : Int)) = ((165 + i : Nat) : Int) := by unfold zw32; omega
    have et : (((165 + i : Nat) : Int)).toNat = 165 + i := Int.toNat_natCast _
    have c1 : (i : Int) < 5 := by omega
    have c2 : True ∧ 0 ≤ ((165 + i : Nat) : Int) ∧ ((165 + i : Nat) : Int) < ((4880 : Nat) : Int) := ⟨trivial, by omega, by omega⟩
    simp only [if_pos c1, h1, h2, h3, if_true, ew, ev, et]
    obtain ⟨M', e, k1, k2⟩ := ih (i + 1) (by omega) (zup M 306 (165 + i) 15)
    refine ⟨M', (if_pos c2).trans e, fun q hq => (k1 q hq).trans (zup_rw hq), fun k => ?_⟩
    rw [k2]
    by_cases hk : k = 165 + i
    · rw [if_neg (by omega), if_pos (by omega), zup_e rfl hk]
    · rw [zup_nk hk]
      by_cases hl : 165 + i + 1 ≤ k ∧ k < 170
      · rw [if_pos (by omega), if_pos (by omega)]
      · rw [if_neg (by omega), if_neg (by omega)]
theorem kn_M89 {n s : Nat} {S : Nat → Nat × Nat} {R : Nat → Nat → Nat} (h1 : S 305 = (10, 30)) (h2 : S 306 = (20, 4880)) (h3 : R 305 0 = 306) (h4 : R 305 1 = 307) : ∀ (m i : Nat), i + m = 4 → ∀ (M : Nat → Nat → Int), ∃ M', zR zPP d 177 89 [zA 305, zI (i : Nat)] [] (n, s, S, R, M) = zbV (zcal zPP d 178 [zA 306, zA 307] (n, s, S, R, M')) (fun q1 => some (zU, q1)) ∧ (∀ q, q ≠ 306 → M' q = M q) ∧ ∀ k, M' 306 k = if 170 + i ≤ k ∧ k < 174 then 10 else M 306 k := by
  intro m
  induction m with
  | zero =>
    intro i hi M
    rw [e_M_init_89, if_neg (by omega)]
    simp only [h1, h3, h4, if_true]
    exact ⟨M, rfl, fun _ _ => rfl, fun k => (if_neg (by omega)).symm⟩
  | succ m ih =>
    intro i hi M
    rw [e_M_init_89]
    have ew : zw32 ((i : Int) + 1) = ((i + 1 : Nat) : Int) := qw1 (by omega)
    have ev : zw32 (170 + (i : Int)) = ((170 + i : Nat) : Int) := by unfold zw32; omega
    have et : (((170 + i : Nat) : Int)).toNat = 170 + i := Int.toNat_natCast _
    have c1 : (i : Int) < 4 := by omega
    have c2 : True ∧ 0 ≤ ((170 + i : Nat) : Int) ∧ ((170 + i : Nat) : Int) < ((4880 : Nat) : Int) := ⟨trivial, by omega, by omega⟩
    simp only [if_pos c1, h1, h2, h3, if_true, ew, ev, et]
    obtain ⟨M', e, k1, k2⟩ := ih (i + 1) (by omega) (zup M 306 (170 + i) 10)
    refine ⟨M', (if_pos c2).trans e, fun q hq => (k1 q hq).trans (zup_rw hq), fun k => ?_⟩
    rw [k2]
    by_cases hk : k = 170 + i
    · rw [if_neg (by omega), if_pos (by omega), zup_e rfl hk]
    · rw [zup_nk hk]
      by_cases hl : 170 + i + 1 ≤ k ∧ k < 174
      · rw [if_pos (by omega), if_pos (by omega)]
      · rw [if_neg (by omega), if_neg (by omega)]
theorem kn_Mtail {n s : Nat} {S : Nat → Nat × Nat} {R : Nat → Nat → Nat} {M : Nat → Nat → Int} (h1 : S 305 = (10, 30)) (h2 : S 306 = (20, 4880)) (h2' : S 307 = (20, 4880)) (h3 : R 305 0 = 306) (h4 : R 305 1 = 307) :
    qMade n s (fun S' R' M' => S' = S ∧ R' = R ∧ (∀ q, q ≠ 306 → q ≠ 307 → M' q = M q) ∧ ∀ k, k < 4880 → M' 306 k = (if 165 ≤ k ∧ k < 170 then 15 else if 170 ≤ k ∧ k < 174 then 10 else M 306 k) ∧ M' 307 k = M' 306 k) (zR zPP (d + 1) 177 75 [zA 305, zI 0] [] (n, s, S, R, M)) := by
  obtain ⟨Ma, ea, a1, a2⟩ := kn_M75 (d := d + 1) (n := n) (s := s) h1 h2 h3 5 0 rfl M
  obtain ⟨Mb, eb, b1, b2⟩ := kn_M89 (d := d + 1) (n := n) (s := s) h1 h2 h3 h4 4 0 rfl Ma
  obtain ⟨Mc, ec, c1, c2⟩ := km_copy (d := d) (n := n) (s := s) (R := R) (M := Mb) h2 h2' (by decide)
  have e0 : ((0 : Nat) : Int) = 0 := rfl
  rw [e0] at ea eb
  refine ⟨s, S, R, Mc, ?_, Nat.le_refl _, rfl, rfl, fun q hq hq' => ?_, fun k hk => ?_⟩
  · rw [ea, eb, ec]
    rfl
  · rw [c2 q hq', b1 q hq, a1 q hq]
  · have e6 : Mc 306 = Mb 306 := c2 306 (by decide)
    refine ⟨?_, ?_⟩
    · rw [e6, b2, a2]
      by_cases hl : 170 ≤ k ∧ k < 174
      · rw [if_pos (by omega), if_neg (by omega), if_pos (by omega)]
      · rw [if_neg (by omega)]
        by_cases hm : 165 ≤ k ∧ k < 170
        · rw [if_pos (by omega), if_pos (by omega)]
        · rw [if_neg (by omega), if_neg (by omega), if_neg (by omega)]
    · rw [c1 k hk, e6]
/-- the model's row, new -/
def q0 (k : Nat) : Int := if 165 ≤ k ∧ k < 170 then 15 else if 170 ≤ k ∧ k < 174 then 10 else if k = 9 then 257 else if k = 3 then -1 else 0
/-- the model, new -/
def qPM (S : Nat → Nat × Nat) (R : Nat → Nat → Nat) (M : Nat → Nat → Int) (S' : Nat → Nat × Nat) (R' : Nat → Nat → Nat) (M' : Nat → Nat → Int) : Prop :=
  qOld 305 S S' R R' M M' ∧ qLM S' R' 305 ∧ (M' 305 4 = 0 ∧ M' 305 5 = -1 ∧ M' 305 6 = -1 ∧ M' 305 23 = 1) ∧ ∀ k, k < 4880 → M' 306 k = q0 k ∧ M' 307 k = q0 k
set_option maxHeartbeats 8000000 in
theorem kn_M (s : Nat) (S : Nat → Nat × Nat) (R : Nat → Nat → Nat) (M : Nat → Nat → Int) : qMade 319 (s + 15000) (qPM S R M) (zcal zPP (d + 2) 177 [zA 305] (305 + 1, s + 30, zupS S 305 (10, 30), zrow R 305 (fun _ => 0), zrow M 305 (fun _ => 0))) := by
  rw [c_M_init]
  have t0 : (0 : Int).toNat = 0 := rfl
  have t3 : (3 : Int).toNat = 3 := rfl
  have t5 : (5 : Int).toNat = 5 := rfl
  have t8 : (8 : Int).toNat = 8 := rfl
  have t9 : (9 : Int).toNat = 9 := rfl
  have t16 : (16 : Int).toNat = 16 := rfl
  have t131 : (131 : Int).toNat = 131 := rfl
  have t160 : (160 : Int).toNat = 160 := rfl
  have t300 : (300 : Int).toNat = 300 := rfl
  have t330 : (330 : Int).toNat = 330 := rfl
  have t2820 : (2820 : Int).toNat = 2820 := rfl
  have t4880 : (4880 : Int).toNat = 4880 := rfl
  simp only [t0, t3, t5, t8, t9, t16, t131, t160, t300, t330, t2820, t4880]
  repeat
    refine qMade_i ?_ ?_
    · first
      | (simp (disch := omega) only [zupS_e, zupS_ne]; done)
      | (simp (disch := omega) only [zupS_e, zupS_ne]; decide)
      | (simp (disch := omega) only [zupR_e, zupR_ne, zrow_ne, zupS_e, zupS_ne]; decide)
  refine qMade_w (kn_Mtail ?_ ?_ ?_ ?_ ?_) ?_ ?_ ?_
  · simp (disch := omega) only [zupS_e, zupS_ne]
  · simp (disch := omega) only [zupS_e, zupS_ne]
  · simp (disch := omega) only [zupS_e, zupS_ne]
  · simp (disch := omega) only [zupR_e, zupR_ne, zrow_ne]
  · simp (disch := omega) only [zupR_e, zupR_ne, zrow_ne]
  rotate_left
  · rfl
  · omega
  rintro S' R' M' ⟨rfl, rfl, h1, h2⟩
  refine ⟨fun q hq => ⟨?_, ?_, ?_⟩, ⟨⟨?_, ?_, ?_, ?_, ?_, ?_, ?_, ?_, ?_, ?_, ?_, ?_, ?_, ?_⟩, ⟨?_, ?_, ?_, ?_, ?_, ?_, ?_, ?_, ?_, ?_, ?_, ?_, ?_⟩⟩, ⟨?_, ?_, ?_, ?_⟩, fun k hk => ?_⟩
  · simp (disch := omega) only [zupS_ne]
  · simp (disch := omega) only [zupR_rw, zrow_ne]
  · rw [h1 q (by omega) (by omega)]
    simp (disch := omega) only [zup_rw, zrow_ne, zupR_e, zupR_ne]
  · simp (disch := omega) only [zupS_e, zupS_ne]
  · simp (disch := omega) only [zupS_e, zupS_ne]
  · simp (disch := omega) only [zupS_e, zupS_ne]
  · simp (disch := omega) only [zupS_e, zupS_ne]
  · simp (disch := omega) only [zupS_e, zupS_ne]
  · simp (disch := omega) only [zupS_e, zupS_ne]
  · simp (disch := omega) only [zupS_e, zupS_ne]
  · simp (disch := omega) only [zupS_e, zupS_ne]
  · simp (disch := omega) only [zupS_e, zupS_ne]
  · simp (disch := omega) only [zupS_e, zupS_ne]
  · simp (disch := omega) only [zupS_e, zupS_ne]
  · simp (disch := omega) only [zupS_e, zupS_ne]
  · simp (disch := omega) only [zupS_e, zupS_ne]
  · simp (disch := omega) only [zupS_e, zupS_ne]
  · simp (disch := omega) only [zupR_e, zupR_ne, zrow_ne]
  · simp (disch := omega) only [zupR_e, zupR_ne, zrow_ne]
  · simp (disch := omega) only [zupR_e, zupR_ne, zrow_ne]
  · simp (disch := omega) only [zupR_e, zupR_ne, zrow_ne]
  · simp (disch := omega) only [zupR_e, zupR_ne, zrow_ne]
  · simp (disch := omega) only [zupR_e, zupR_ne, zrow_ne]
  · simp (disch := omega) only [zupR_e, zupR_ne, zrow_ne]
  · simp (disch := omega) only [zupR_e, zupR_ne, zrow_ne]
  · simp (disch := omega) only [zupR_e, zupR_ne, zrow_ne]
  · simp (disch := omega) only [zupR_e, zupR_ne, zrow_ne]
  · simp (disch := omega) only [zupR_e, zupR_ne, zrow_ne]
  · simp (disch := omega) only [zupR_e, zupR_ne, zrow_ne]
  · simp (disch := omega) only [zupR_e, zupR_ne, zrow_ne]
  · rw [h1 305 (by decide) (by decide)]
    simp (disch := omega) only [zup_e, zup_nk, zup_rw, zrow_ne, zrow_e, zupR_e, zupR_ne]
  · rw [h1 305 (by decide) (by decide)]
    simp (disch := omega) only [zup_e, zup_nk, zup_rw, zrow_ne, zrow_e, zupR_e, zupR_ne]
  · rw [h1 305 (by decide) (by decide)]
    simp (disch := omega) only [zup_e, zup_nk, zup_rw, zrow_ne, zrow_e, zupR_e, zupR_ne]
  · rw [h1 305 (by decide) (by decide)]
    simp (disch := omega) only [zup_e, zup_nk, zup_rw, zrow_ne, zrow_e, zupR_e, zupR_ne]
  · have e : M' 306 k = q0 k := by
      rw [(h2 k hk).1]
      unfold q0
      split
      · rfl
      split
      · rfl
      by_cases h9 : k = 9
      · rw [if_pos h9]
        simp (disch := omega) only [zup_e, zup_nk, zup_rw, zrow_ne, zrow_e, zupR_e, zupR_ne]
      rw [if_neg h9]
      by_cases h3 : k = 3
      · rw [if_pos h3]
        simp (disch := omega) only [zup_e, zup_nk, zup_rw, zrow_ne, zrow_e, zupR_e, zupR_ne]
      rw [if_neg h3]
      simp (disch := omega) only [zup_e, zup_nk, zup_rw, zrow_ne, zrow_e, zupR_e, zupR_ne]
    exact ⟨e, (h2 k hk).2.trans e⟩
end QF
