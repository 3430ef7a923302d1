/-! WHAT THE CLASS'S CONSTRUCTORS MAKE -/
theorem zupS_e {M : Nat → Nat × Nat} {a q : Nat} {x : Nat × Nat} (h : q = a) : zupS M a x q = x := if_pos h
theorem zrow_e {α : Type} {M : Nat → Nat → α} {a q : Nat} {f : Nat → α} (h : q = a) : zrow M a f q = f := by
  funext j
  exact if_pos h
theorem zupR_e {M : Nat → Nat → Nat} {a q k j x : Nat} (h : q = a) (hj : j = k) : zupR M a k x q j = x := if_pos ⟨h, hj⟩
theorem zup_e {M : Nat → Nat → Int} {a q k j : Nat} {x : Int} (h : q = a) (hj : j = k) : zup M a k x q j = x := if_pos ⟨h, hj⟩
theorem zup_nk {M : Nat → Nat → Int} {a q k j : Nat} {x : Int} (h : j ≠ k) : zup M a k x q j = M q j := if_neg fun z => h z.2
/-- the objects below a are as they were -/
def qOld (a : Nat) (S S' : Nat → Nat × Nat) (R R' : Nat → Nat → Nat) (M M' : Nat → Nat → Int) : Prop := ∀ q, q < a → S' q = S q ∧ R' q = R q ∧ M' q = M q
theorem qOld_t {a b : Nat} {S S1 S2 : Nat → Nat × Nat} {R R1 R2 : Nat → Nat → Nat} {M M1 M2 : Nat → Nat → Int} (h1 : qOld a S S1 R R1 M M1) (h2 : qOld b S1 S2 R1 R2 M1 M2) (h : a ≤ b) : qOld a S S2 R R2 M M2 := fun q hq =>
  ⟨(h2 q (by omega)).1.trans (h1 q hq).1, (h2 q (by omega)).2.1.trans (h1 q hq).2.1, (h2 q (by omega)).2.2.trans (h1 q hq).2.2⟩
theorem qLR_x {S S' : Nat → Nat × Nat} {R R' : Nat → Nat → Nat} {r : Nat} (hS : ∀ q, r ≤ q → q ≤ r + 3 → S' q = S q) (hR : R' r = R r) (h : qLR S R r) : qLR S' R' r := by
  unfold qLR at *
  rw [hS r (by omega) (by omega), hS (r + 1) (by omega) (by omega), hS (r + 2) (by omega) (by omega), hS (r + 3) (by omega) (by omega), hR]
  exact h
/-- a constructor's call: what it leaves -/
def qMade (n' b : Nat) (P : (Nat → Nat × Nat) → (Nat → Nat → Nat) → (Nat → Nat → Int) → Prop) (o : zO) : Prop := ∃ s' S' R' M', o = some (zU, (n', s', S', R', M')) ∧ s' ≤ b ∧ P S' R' M'
theorem qMade_b {n' b n2 b2 : Nat} {P P2 : (Nat → Nat × Nat) → (Nat → Nat → Nat) → (Nat → Nat → Int) → Prop} {o : zO} {f : zS → zO} (h : qMade n' b P o) (k : ∀ s' S' R' M', s' ≤ b → P S' R' M' → qMade n2 b2 P2 (f (n', s', S', R', M'))) : qMade n2 b2 P2 (zbV o f) := by
  obtain ⟨s', S', R', M', e, h1, h2⟩ := h
  rw [e]
  exact k s' S' R' M' h1 h2
theorem qMade_i {n' b : Nat} {P : (Nat → Nat × Nat) → (Nat → Nat → Nat) → (Nat → Nat → Int) → Prop} {c : Prop} [Decidable c] {o1 o2 : zO} (hc : c) (h : qMade n' b P o1) : qMade n' b P (if c then o1 else o2) := by
  rw [if_pos hc]
  exact h
theorem qMade_e {n' b n1 s1 : Nat} {P : (Nat → Nat × Nat) → (Nat → Nat → Nat) → (Nat → Nat → Int) → Prop} {S1 : Nat → Nat × Nat} {R1 : Nat → Nat → Nat} {M1 : Nat → Nat → Int} (hn : n1 = n') (hs : s1 ≤ b) (h : P S1 R1 M1) : qMade n' b P (some (zU, (n1, s1, S1, R1, M1))) := ⟨s1, S1, R1, M1, by rw [hn], hs, h⟩
section QF
variable {d : Nat}
/-- a Rings -/
def qPR (a : Nat) (S : Nat → Nat × Nat) (R : Nat → Nat → Nat) (M : Nat → Nat → Int) (S' : Nat → Nat × Nat) (R' : Nat → Nat → Nat) (M' : Nat → Nat → Int) : Prop :=
  qOld a S S' R R' M M' ∧ qLR S' R' a ∧ (∀ k, M' a k = if k = 6 then 257 else 0) ∧ ∀ q, a < q → q < a + 4 → ∀ k, M' q k = 0
theorem kn_Rings (a s : Nat) (S : Nat → Nat × Nat) (R : Nat → Nat → Nat) (M : Nat → Nat → Int) : qMade (a + 4) (s + 67) (qPR a S R M) (zcal zPP (d + 1) 134 [zA a] (a + 1, s + 7, zupS S a (5, 7), zrow R a (fun _ => 0), zrow M a (fun _ => 0))) := by
  rw [c_Rings_init]
  have t25 : (25 : Int).toNat = 25 := rfl
  have t5 : (5 : Int).toNat = 5 := rfl
  have t30 : (30 : Int).toNat = 30 := rfl
  simp only [t25, t5, t30]
  have e1 : (zupS S a (5, 7) a).1 = 5 := by simp (disch := omega) only [zupS_e, zupS_ne]
  have e2 : (zupS (zupS S a (5, 7)) (a + 1) (20, 25) a).1 = 5 := by simp (disch := omega) only [zupS_e, zupS_ne]
  have e3 : (zupS (zupS (zupS S a (5, 7)) (a + 1) (20, 25)) (a + 1 + 1) (20, 5) a).1 = 5 := by simp (disch := omega) only [zupS_e, zupS_ne]
  have e4 : (zupS (zupS (zupS (zupS S a (5, 7)) (a + 1) (20, 25)) (a + 1 + 1) (20, 5)) (a + 1 + 1 + 1) (20, 30) a).1 = 5 := by simp (disch := omega) only [zupS_e, zupS_ne]
  refine qMade_i e1 (qMade_i ⟨by rw [e1]; decide, Nat.zero_le _⟩ (qMade_i e2 (qMade_i e3 (qMade_i e4 (qMade_i e4 (qMade_e rfl (by omega) ?_))))))
  refine ⟨fun q hq => ⟨?_, ?_, ?_⟩, ⟨?_, ?_, ?_, ?_, ?_, ?_, ?_⟩, fun k => ?_, fun q h1 h2 k => ?_⟩
  · simp (disch := omega) only [zupS_ne]
  · simp (disch := omega) only [zupR_rw, zrow_ne]
  · simp (disch := omega) only [zup_rw, zrow_ne]
  · simp (disch := omega) only [zupS_e, zupS_ne]
  · simp (disch := omega) only [zupS_e, zupS_ne]
  · simp (disch := omega) only [zupS_e, zupS_ne]
  · simp (disch := omega) only [zupS_e, zupS_ne]
  · simp (disch := omega) only [zupR_e, zupR_ne, zrow_ne]
  · simp (disch := omega) only [zupR_e, zupR_ne, zrow_ne]
  · simp (disch := omega) only [zupR_e, zupR_ne, zrow_ne]
  · by_cases hk : k = 6
    · rw [if_pos hk, zup_e rfl hk]
    · rw [if_neg hk, zup_nk hk]
      simp (disch := omega) only [zrow_ne, zrow_e]
  · rw [zup_r (by omega)]
    rcases (show q = a + 1 ∨ q = a + 1 + 1 ∨ q = a + 1 + 1 + 1 by omega) with rfl | rfl | rfl
    · simp (disch := omega) only [zrow_ne, zrow_e]
    · simp (disch := omega) only [zrow_ne, zrow_e]
    · simp (disch := omega) only [zrow_ne, zrow_e]
/-- the thirty Rings of a Steps -/
def qPL (a i : Nat) (S : Nat → Nat × Nat) (R : Nat → Nat → Nat) (M : Nat → Nat → Int) (S' : Nat → Nat × Nat) (R' : Nat → Nat → Nat) (M' : Nat → Nat → Int) : Prop :=
  (∀ q, q < a + 2 + 4 * i → S' q = S q ∧ (q ≠ a + 1 → R' q = R q) ∧ M' q = M q) ∧ ∀ k, k < 30 → R' (a + 1) k = a + 2 + 4 * k ∧ qLR S' R' (a + 2 + 4 * k)
theorem kn_Loop (a : Nat) : ∀ (m i : Nat), i + m = 30 → ∀ (s : Nat) (S : Nat → Nat × Nat) (R : Nat → Nat → Nat) (M : Nat → Nat → Int), S a = (6, 3) → S (a + 1) = (24, 30) → R a 0 = a + 1 → (∀ k, k < i → R (a + 1) k = a + 2 + 4 * k ∧ qLR S R (a + 2 + 4 * k)) →
    qMade (a + 122) (s + 67 * m) (qPL a i S R M) (zR zPP (d + 1) 152 8 [zA a, zI (i : Nat)] [] (a + 2 + 4 * i, s, S, R, M)) := by
  intro m
  induction m with
  | zero =>
    intro i hi s S R M h1 h2 h3 h4
    rw [e_Steps_init_8, if_neg (by omega)]
    exact qMade_e (by omega) (by omega) ⟨fun q _ => ⟨rfl, fun _ => rfl, rfl⟩, fun k hk => h4 k (by omega)⟩
  | succ m ih =>
    intro i hi s S R M h1 h2 h3 h4
    rw [e_Steps_init_8]
    refine qMade_i (show (i : Int) < 30 by omega) (qMade_i (show (S a).1 = 6 by rw [h1]) ?_)
    refine qMade_b (kn_Rings (a + 2 + 4 * i) s S R M) (fun s1 S1 R1 M1 hs hP => ?_)
    obtain ⟨g1, g2, g3, g4⟩ := hP
    have ea := g1 a (by omega)
    have eb := g1 (a + 1) (by omega)
    have hc : (((S1 (R a 0)).1 = 24 ∧ (a + 2 + 4 * i = 0 ∨ (S1 (a + 2 + 4 * i)).1 = 5)) ∨ ((S1 (R a 0)).1 = 25 ∧ (a + 2 + 4 * i = 0 ∨ (S1 (a + 2 + 4 * i)).1 = 7))) ∧ 0 ≤ (i : Int) ∧ (i : Int) < ((S1 (R a 0)).2 : Nat) := by
      rw [h3, eb.1, h2, g2.1]
      refine ⟨Or.inl ⟨rfl, Or.inr rfl⟩, by omega, ?_⟩
      show (i : Int) < ((30 : Nat) : Int)
      omega
    refine qMade_i hc ?_
    have ew : zw32 ((i : Int) + 1) = ((i + 1 : Nat) : Int) := qw1 (by omega)
    have et : ((i : Nat) : Int).toNat = i := Int.toNat_natCast i
    have ei : a + 2 + 4 * i + 4 = a + 2 + 4 * (i + 1) := by omega
    have K := ih (i + 1) (by omega) s1 S1 (zupR R1 (a + 1) i (a + 2 + 4 * i)) M1 (by rw [ea.1]; exact h1) (by rw [eb.1]; exact h2) (by rw [zupR_rw (by omega), ea.2.1]; exact h3) (fun k hk => by
      by_cases q : k = i
      · subst q
        exact ⟨zupR_e rfl rfl, qLR_x (fun _ _ _ => rfl) (zupR_rw (by omega)) g2⟩
      · rw [zupR_ne q, eb.2.1]
        obtain ⟨u1, u2⟩ := h4 k (by omega)
        exact ⟨u1, qLR_x (fun x hx hx' => (g1 x (by omega)).1) ((zupR_rw (by omega)).trans (g1 _ (by omega)).2.1) u2⟩)
    obtain ⟨s2, S2, R2, M2, k1, k2, k3, k4⟩ := K
    refine ⟨s2, S2, R2, M2, ?_, by omega, fun q hq => ?_, k4⟩
    · simp only [h3, et, ew, ei]
      exact k1
    · obtain ⟨u1, u2, u3⟩ := k3 q (by omega)
      obtain ⟨w1, w2, w3⟩ := g1 q hq
      exact ⟨u1.trans w1, fun hne => (u2 hne).trans ((zupR_rw hne).trans w2), u3.trans w3⟩
/-- a Steps -/
def qPS (a : Nat) (S : Nat → Nat × Nat) (R : Nat → Nat → Nat) (M : Nat → Nat → Int) (S' : Nat → Nat × Nat) (R' : Nat → Nat → Nat) (M' : Nat → Nat → Int) : Prop :=
  qOld a S S' R R' M M' ∧ (S' a = (6, 3) ∧ S' (a + 1) = (24, 30) ∧ R' a 0 = a + 1) ∧ (∀ k, k < 30 → R' (a + 1) k = a + 2 + 4 * k ∧ qLR S' R' (a + 2 + 4 * k)) ∧ ∀ k, M' a k = 0
theorem kn_Steps (a s : Nat) (S : Nat → Nat × Nat) (R : Nat → Nat → Nat) (M : Nat → Nat → Int) : qMade (a + 122) (s + 2043) (qPS a S R M) (zcal zPP (d + 2) 152 [zA a] (a + 1, s + 3, zupS S a (6, 3), zrow R a (fun _ => 0), zrow M a (fun _ => 0))) := by
  rw [c_Steps_init]
  have t30 : (30 : Int).toNat = 30 := rfl
  simp only [t30]
  have e1 : (zupS S a (6, 3) a).1 = 6 := by simp (disch := omega) only [zupS_e, zupS_ne]
  have e2 : (zupS (zupS S a (6, 3)) (a + 1) (24, 30) a).1 = 6 := by simp (disch := omega) only [zupS_e, zupS_ne]
  refine qMade_i e1 (qMade_i ⟨by rw [e1]; decide, Nat.zero_le _⟩ (qMade_i e2 ?_))
  obtain ⟨s2, S2, R2, M2, k1, k2, k3, k4⟩ := kn_Loop (d := d) a 30 0 rfl (s + 3 + 30) (zupS (zupS S a (6, 3)) (a + 1) (24, 30)) (zupR (zrow (zrow R a (fun _ => 0)) (a + 1) (fun _ => 0)) a 0 (a + 1)) (zrow (zrow M a (fun _ => 0)) (a + 1) (fun _ => 0)) (by simp (disch := omega) only [zupS_e, zupS_ne]) (by simp (disch := omega) only [zupS_e]) (by simp (disch := omega) only [zupR_e]) (fun k hk => by omega)
  refine ⟨s2, S2, R2, M2, k1, by omega, fun q hq => ?_, ⟨?_, ?_, ?_⟩, k4, fun k => ?_⟩
  · obtain ⟨u1, u2, u3⟩ := k3 q (by omega)
    rw [u1, u2 (by omega), u3]
    refine ⟨?_, ?_, ?_⟩
    · simp (disch := omega) only [zupS_ne]
    · simp (disch := omega) only [zupR_rw, zrow_ne]
    · simp (disch := omega) only [zrow_ne]
  · rw [(k3 a (by omega)).1]
    simp (disch := omega) only [zupS_e, zupS_ne]
  · rw [(k3 (a + 1) (by omega)).1]
    simp (disch := omega) only [zupS_e, zupS_ne]
  · rw [(k3 a (by omega)).2.1 (by omega)]
    simp (disch := omega) only [zupR_e]
  · rw [(k3 a (by omega)).2.2]
    simp (disch := omega) only [zrow_ne, zrow_e]
end QF
