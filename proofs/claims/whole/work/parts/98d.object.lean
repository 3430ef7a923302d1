/-! WHAT THE CLASS'S CONSTRUCTORS MAKE: the rest, and the class's object -/
section QF
variable {d : Nat}
/-- a Judge, new -/
def qPJudge (a b : Nat) (S : Nat → Nat × Nat) (R : Nat → Nat → Nat) (M : Nat → Nat → Int) (S' : Nat → Nat × Nat) (R' : Nat → Nat → Nat) (M' : Nat → Nat → Int) : Prop :=
  qOld a S S' R R' M M' ∧ S' a = (2, 3) ∧ S' (a + 1) = (20, 80) ∧ R' a 0 = b ∧ R' a 1 = a + 1
theorem kn_Judge (a b s : Nat) (S : Nat → Nat × Nat) (R : Nat → Nat → Nat) (M : Nat → Nat → Int) : qMade (a + 2) (s + 83) (qPJudge a b S R M) (zcal zPP (d + 1) 95 [zA a, zA b] (a + 1, s + 3, zupS S a (2, 3), zrow R a (fun _ => 0), zrow M a (fun _ => 0))) := by
  rw [c_Judge_init]
  have t80 : (80 : Int).toNat = 80 := rfl
  simp only [t80]
  refine qMade_i (by simp (disch := omega) only [zupS_e, zupS_ne]) (qMade_i ⟨by rw [zupS_e rfl]; decide, Nat.zero_le _⟩ ?_)
  repeat
    refine qMade_i ?_ ?_
    · simp (disch := omega) only [zupS_e, zupS_ne]
  refine qMade_e rfl (by omega) ?_
  refine ⟨fun q hq => ⟨?_, ?_, ?_⟩, ?_, ?_, ?_, ?_⟩
  · simp (disch := omega) only [zupS_ne]
  · simp (disch := omega) only [zupR_rw, zrow_ne]
  · simp (disch := omega) only [zup_rw, zrow_ne]
  · simp (disch := omega) only [zupS_e, zupS_ne]
  · simp (disch := omega) only [zupS_e, zupS_ne]
  · simp (disch := omega) only [zupR_e, zupR_ne, zrow_ne]
  · simp (disch := omega) only [zupR_e, zupR_ne, zrow_ne]
/-- a Counsel, new -/
def qPCounsel (a b : Nat) (S : Nat → Nat × Nat) (R : Nat → Nat → Nat) (M : Nat → Nat → Int) (S' : Nat → Nat × Nat) (R' : Nat → Nat → Nat) (M' : Nat → Nat → Int) : Prop :=
  qOld a S S' R R' M M' ∧ S' a = (1, 5) ∧ S' (a + 1) = (20, 16) ∧ S' (a + 2) = (20, 4) ∧ R' a 0 = b ∧ R' a 1 = a + 1 ∧ R' a 2 = a + 2
theorem kn_Counsel (a b s : Nat) (S : Nat → Nat × Nat) (R : Nat → Nat → Nat) (M : Nat → Nat → Int) : qMade (a + 3) (s + 25) (qPCounsel a b S R M) (zcal zPP (d + 1) 86 [zA a, zA b] (a + 1, s + 5, zupS S a (1, 5), zrow R a (fun _ => 0), zrow M a (fun _ => 0))) := by
  rw [c_Counsel_init]
  have t4 : (4 : Int).toNat = 4 := rfl
  have t16 : (16 : Int).toNat = 16 := rfl
  simp only [t4, t16]
  refine qMade_i (by simp (disch := omega) only [zupS_e, zupS_ne]) (qMade_i ⟨by rw [zupS_e rfl]; decide, Nat.zero_le _⟩ ?_)
  repeat
    refine qMade_i ?_ ?_
    · simp (disch := omega) only [zupS_e, zupS_ne]
  refine qMade_e rfl (by omega) ?_
  refine ⟨fun q hq => ⟨?_, ?_, ?_⟩, ?_, ?_, ?_, ?_, ?_, ?_⟩
  · simp (disch := omega) only [zupS_ne]
  · simp (disch := omega) only [zupR_rw, zrow_ne]
  · simp (disch := omega) only [zup_rw, zrow_ne]
  · simp (disch := omega) only [zupS_e, zupS_ne]
  · simp (disch := omega) only [zupS_e, zupS_ne]
  · simp (disch := omega) only [zupS_e, zupS_ne]
  · simp (disch := omega) only [zupR_e, zupR_ne, zrow_ne]
  · simp (disch := omega) only [zupR_e, zupR_ne, zrow_ne]
  · simp (disch := omega) only [zupR_e, zupR_ne, zrow_ne]
/-- a Odds, new -/
def qPOdds (a : Nat) (S : Nat → Nat × Nat) (R : Nat → Nat → Nat) (M : Nat → Nat → Int) (S' : Nat → Nat × Nat) (R' : Nat → Nat → Nat) (M' : Nat → Nat → Int) : Prop :=
  qOld a S S' R R' M M' ∧ S' a = (3, 3) ∧ S' (a + 1) = (22, 16) ∧ R' a 0 = a + 1
theorem kn_Odds (a s : Nat) (S : Nat → Nat × Nat) (R : Nat → Nat → Nat) (M : Nat → Nat → Int) : qMade (a + 2) (s + 19) (qPOdds a S R M) (zcal zPP (d + 1) 106 [zA a] (a + 1, s + 3, zupS S a (3, 3), zrow R a (fun _ => 0), zrow M a (fun _ => 0))) := by
  rw [c_Odds_init]
  have t16 : (16 : Int).toNat = 16 := rfl
  simp only [t16]
  refine qMade_i (by simp (disch := omega) only [zupS_e, zupS_ne]) (qMade_i ⟨by rw [zupS_e rfl]; decide, Nat.zero_le _⟩ ?_)
  repeat
    refine qMade_i ?_ ?_
    · simp (disch := omega) only [zupS_e, zupS_ne]
  refine qMade_e rfl (by omega) ?_
  refine ⟨fun q hq => ⟨?_, ?_, ?_⟩, ?_, ?_, ?_⟩
  · simp (disch := omega) only [zupS_ne]
  · simp (disch := omega) only [zupR_rw, zrow_ne]
  · simp (disch := omega) only [zup_rw, zrow_ne]
  · simp (disch := omega) only [zupS_e, zupS_ne]
  · simp (disch := omega) only [zupS_e, zupS_ne]
  · simp (disch := omega) only [zupR_e, zupR_ne, zrow_ne]
/-- a Reader, new -/
def qPReader (a : Nat) (S : Nat → Nat × Nat) (R : Nat → Nat → Nat) (M : Nat → Nat → Int) (S' : Nat → Nat × Nat) (R' : Nat → Nat → Nat) (M' : Nat → Nat → Int) : Prop :=
  qOld a S S' R R' M M' ∧ S' a = (4, 14) ∧ S' (a + 1) = (20, 301) ∧ S' (a + 2) = (20, 301) ∧ S' (a + 3) = (20, 301) ∧ S' (a + 4) = (20, 300) ∧ S' (a + 5) = (20, 96) ∧ S' (a + 6) = (20, 3) ∧ S' (a + 7) = (20, 3) ∧ R' a 0 = a + 1 ∧ R' a 1 = a + 2 ∧ R' a 2 = a + 3 ∧ R' a 3 = a + 4 ∧ R' a 4 = a + 5 ∧ R' a 5 = a + 6 ∧ R' a 6 = a + 7
theorem kn_Reader (a s : Nat) (S : Nat → Nat × Nat) (R : Nat → Nat → Nat) (M : Nat → Nat → Int) : qMade (a + 8) (s + 1319) (qPReader a S R M) (zcal zPP (d + 1) 111 [zA a] (a + 1, s + 14, zupS S a (4, 14), zrow R a (fun _ => 0), zrow M a (fun _ => 0))) := by
  rw [c_Reader_init]
  have t3 : (3 : Int).toNat = 3 := rfl
  have t96 : (96 : Int).toNat = 96 := rfl
  have t300 : (300 : Int).toNat = 300 := rfl
  have t301 : (301 : Int).toNat = 301 := rfl
  simp only [t3, t96, t300, t301]
  refine qMade_i (by simp (disch := omega) only [zupS_e, zupS_ne]) (qMade_i ⟨by rw [zupS_e rfl]; decide, Nat.zero_le _⟩ ?_)
  repeat
    refine qMade_i ?_ ?_
    · simp (disch := omega) only [zupS_e, zupS_ne]
  refine qMade_e rfl (by omega) ?_
  refine ⟨fun q hq => ⟨?_, ?_, ?_⟩, ?_, ?_, ?_, ?_, ?_, ?_, ?_, ?_, ?_, ?_, ?_, ?_, ?_, ?_, ?_⟩
  · simp (disch := omega) only [zupS_ne]
  · simp (disch := omega) only [zupR_rw, zrow_ne]
  · simp (disch := omega) only [zup_rw, zrow_ne]
  · simp (disch := omega) only [zupS_e, zupS_ne]
  · simp (disch := omega) only [zupS_e, zupS_ne]
  · simp (disch := omega) only [zupS_e, zupS_ne]
  · simp (disch := omega) only [zupS_e, zupS_ne]
  · simp (disch := omega) only [zupS_e, zupS_ne]
  · simp (disch := omega) only [zupS_e, zupS_ne]
  · simp (disch := omega) only [zupS_e, zupS_ne]
  · simp (disch := omega) only [zupS_e, zupS_ne]
  · simp (disch := omega) only [zupR_e, zupR_ne, zrow_ne]
  · simp (disch := omega) only [zupR_e, zupR_ne, zrow_ne]
  · simp (disch := omega) only [zupR_e, zupR_ne, zrow_ne]
  · simp (disch := omega) only [zupR_e, zupR_ne, zrow_ne]
  · simp (disch := omega) only [zupR_e, zupR_ne, zrow_ne]
  · simp (disch := omega) only [zupR_e, zupR_ne, zrow_ne]
  · simp (disch := omega) only [zupR_e, zupR_ne, zrow_ne]
/-- but for the class's object itself, what lies below a is as it was -/
def qO9 (a : Nat) (S S' : Nat → Nat × Nat) (R R' : Nat → Nat → Nat) (M M' : Nat → Nat → Int) : Prop := ∀ q, q < a → S' q = S q ∧ (q ≠ 9 → R' q = R q ∧ M' q = M q)
theorem qO9_s {a b k v : Nat} {S S1 S2 : Nat → Nat × Nat} {R R1 R2 : Nat → Nat → Nat} {M M1 M2 : Nat → Nat → Int} (g : qOld a S S1 (zupR R 9 k v) R1 M M1) (h : qO9 b S1 S2 R1 R2 M1 M2) (hab : a ≤ b) : qO9 a S S2 R R2 M M2 := fun q hq => by
  obtain ⟨g1, g2, g3⟩ := g q hq
  obtain ⟨h1, h2⟩ := h q (by omega)
  exact ⟨h1.trans g1, fun h9 => ⟨(h2 h9).1.trans (g2.trans (zupR_rw h9)), (h2 h9).2.trans g3⟩⟩
/-- the class's object, new -/
def qPX (S : Nat → Nat × Nat) (R : Nat → Nat → Nat) (M : Nat → Nat → Int) (S' : Nat → Nat × Nat) (R' : Nat → Nat → Nat) (M' : Nat → Nat → Int) : Prop :=
  qOld 9 S S' R R' M M' ∧ qLX S' R' 9 10 147 284 286 289 291 295 303 304 ∧ qTM 10 R' M' ∧ qTM 147 R' M' ∧ M' 9 9 = 0 ∧ M' 9 10 = -1 ∧ M' 9 11 = -1
set_option maxHeartbeats 4000000 in
theorem kn_X (s : Nat) (S : Nat → Nat × Nat) (R : Nat → Nat → Nat) (M : Nat → Nat → Int) : qMade 305 (s + 7000) (qPX S R M) (zcal zPP (d + 4) 15 [zA 9] (9 + 1, s + 12, zupS S 9 (9, 12), zrow R 9 (fun _ => 0), zrow M 9 (fun _ => 0))) := by
  rw [c_X_init]
  have t5 : (5 : Int).toNat = 5 := rfl
  have t300 : (300 : Int).toNat = 300 := rfl
  simp only [t5, t300]
  have s0 : (zupS S 9 (9, 12) 9).1 = 9 := by rw [zupS_e rfl]
  refine qMade_i s0 (qMade_i ⟨by rw [s0]; decide, Nat.zero_le _⟩ ?_)
  refine qMade_b (n' := 147) (kn_Town 10 (s + 12) (zupS S 9 (9, 12)) (zrow R 9 (fun _ => 0)) (zrow M 9 (fun _ => 0))) (fun s1 S1 R1 M1 hs1 hP1 => ?_)
  obtain ⟨g1, l1, m1⟩ := hP1
  have w1 : (S1 9).1 = 9 := by rw [(g1 9 (by decide)).1]; exact s0
  refine qMade_i w1 ?_
  refine qMade_b (n' := 284) (kn_Town 147 s1 S1 (zupR R1 9 0 10) M1) (fun s2 S2 R2 M2 hs2 hP2 => ?_)
  obtain ⟨g2, l2, m2⟩ := hP2
  have w2 : (S2 9).1 = 9 := by rw [(g2 9 (by decide)).1]; exact w1
  refine qMade_i w2 (qMade_i ?_ ?_)
  · show (zupS S2 284 (2, 3) 9).1 = 9
    rw [zupS_ne (by decide)]; exact w2
  refine qMade_b (n' := 286) (kn_Judge 284 (zrow (zupR R2 9 1 147) 284 (fun _ => 0) 9 0) s2 S2 (zupR R2 9 1 147) M2) (fun s3 S3 R3 M3 hs3 hP3 => ?_)
  obtain ⟨g3, j1, j2, j3, j4⟩ := hP3
  have w3 : (S3 9).1 = 9 := by rw [(g3 9 (by decide)).1]; exact w2
  refine qMade_i w3 (qMade_i ?_ ?_)
  · show (zupS S3 286 (1, 5) 9).1 = 9
    rw [zupS_ne (by decide)]; exact w3
  refine qMade_b (n' := 289) (kn_Counsel 286 (zrow (zupR R3 9 2 284) 286 (fun _ => 0) 9 0) s3 S3 (zupR R3 9 2 284) M3) (fun s4 S4 R4 M4 hs4 hP4 => ?_)
  obtain ⟨g4, c1, c2, c3, c4, c5, c6⟩ := hP4
  have w4 : (S4 9).1 = 9 := by rw [(g4 9 (by decide)).1]; exact w3
  refine qMade_i w4 ?_
  refine qMade_b (n' := 291) (kn_Odds 289 s4 S4 (zupR R4 9 3 286) M4) (fun s5 S5 R5 M5 hs5 hP5 => ?_)
  obtain ⟨g5, o1, o2, o3⟩ := hP5
  have w5 : (S5 9).1 = 9 := by rw [(g5 9 (by decide)).1]; exact w4
  refine qMade_i w5 ?_
  refine qMade_b (n' := 295) (kn_Rings 291 s5 S5 (zupR R5 9 4 289) M5) (fun s6 S6 R6 M6 hs6 hP6 => ?_)
  obtain ⟨g6, f1, -, -⟩ := hP6
  have w6 : (S6 9).1 = 9 := by rw [(g6 9 (by decide)).1]; exact w5
  refine qMade_i w6 ?_
  refine qMade_b (n' := 303) (kn_Reader 295 s6 S6 (zupR R6 9 5 291) M6) (fun s7 S7 R7 M7 hs7 hP7 => ?_)
  obtain ⟨g7, e1, e2, e3, e4, e5, e6, e7, e8, d1, d2, d3, d4, d5, d6, d7⟩ := hP7
  have w7 : (S7 9).1 = 9 := by rw [(g7 9 (by decide)).1]; exact w6
  have w8 : (zupS S7 303 (20, 5) 9).1 = 9 := by rw [zupS_ne (by decide)]; exact w7
  have w9 : (zupS (zupS S7 303 (20, 5)) 304 (21, 300) 9).1 = 9 := by rw [zupS_ne (by decide)]; exact w8
  refine qMade_i w7 (qMade_i w8 (qMade_i w9 (qMade_i w9 (qMade_i w9 (qMade_i w9 ?_)))))
  refine qMade_e (b := s + 7000) (n1 := 305) (s1 := s7 + 5 + 300) (S1 := zupS (zupS S7 303 (20, 5)) 304 (21, 300)) (R1 := zupR (zrow (zupR (zrow (zupR R7 9 6 295) 303 (fun _ => 0)) 9 7 303) 304 (fun _ => 0)) 9 8 304) (M1 := zup (zup (zup (zrow (zrow M7 303 (fun _ => 0)) 304 (fun _ => 0)) 9 9 0) 9 10 (-1)) 9 11 (-1)) rfl (by omega) ?_
  have h7 : qO9 303 S7 (zupS (zupS S7 303 (20, 5)) 304 (21, 300)) R7 (zupR (zrow (zupR (zrow (zupR R7 9 6 295) 303 (fun _ => 0)) 9 7 303) 304 (fun _ => 0)) 9 8 304) M7 (zup (zup (zup (zrow (zrow M7 303 (fun _ => 0)) 304 (fun _ => 0)) 9 9 0) 9 10 (-1)) 9 11 (-1)) := fun q hq => by
    refine ⟨?_, fun h9 => ⟨?_, ?_⟩⟩
    · simp (disch := omega) only [zupS_ne]
    · simp (disch := omega) only [zupR_rw, zrow_ne]
    · simp (disch := omega) only [zup_rw, zrow_ne]
  have q9 : zupR (zrow (zupR (zrow (zupR R7 9 6 295) 303 (fun _ => 0)) 9 7 303) 304 (fun _ => 0)) 9 8 304 9 = zupR (zupR (zupR R7 9 6 295) 9 7 303) 9 8 304 9 := by
    funext j
    by_cases h8 : j = 8
    · rw [zupR_e rfl h8, zupR_e rfl h8]
    rw [zupR_ne h8, zupR_ne h8, zrow_ne (by decide)]
    by_cases h7 : j = 7
    · rw [zupR_e rfl h7, zupR_e rfl h7]
    rw [zupR_ne h7, zupR_ne h7, zrow_ne (by decide)]
  have m9 : ∀ j, zup (zup (zup (zrow (zrow M7 303 (fun _ => 0)) 304 (fun _ => 0)) 9 9 0) 9 10 (-1)) 9 11 (-1) 9 j = if j = 11 then -1 else if j = 10 then -1 else if j = 9 then 0 else M7 9 j := fun j => by
    by_cases h1 : j = 11
    · rw [if_pos h1, zup_e rfl h1]
    rw [if_neg h1, zup_nk h1]
    by_cases h2 : j = 10
    · rw [if_pos h2, zup_e rfl h2]
    rw [if_neg h2, zup_nk h2]
    by_cases h3 : j = 9
    · rw [if_pos h3, zup_e rfl h3]
    rw [if_neg h3, zup_nk h3, zrow_ne (by decide), zrow_ne (by decide)]
  have z3 : zupS (zupS S7 303 (20, 5)) 304 (21, 300) 303 = (20, 5) := by rw [zupS_ne (by decide), zupS_e rfl]
  have z4 : zupS (zupS S7 303 (20, 5)) 304 (21, 300) 304 = (21, 300) := zupS_e rfl
  generalize zupS (zupS S7 303 (20, 5)) 304 (21, 300) = S' at h7 z3 z4 ⊢
  generalize zup (zup (zup (zrow (zrow M7 303 (fun _ => 0)) 304 (fun _ => 0)) 9 9 0) 9 10 (-1)) 9 11 (-1) = M' at h7 m9 ⊢
  generalize zupR (zrow (zupR (zrow (zupR R7 9 6 295) 303 (fun _ => 0)) 9 7 303) 304 (fun _ => 0)) 9 8 304 = R' at h7 q9 ⊢
  have h6 := qO9_s g7 h7 (by decide)
  have h5 := qO9_s g6 h6 (by decide)
  have h4 := qO9_s g5 h5 (by decide)
  have h3 := qO9_s g4 h4 (by decide)
  have h2 := qO9_s g3 h3 (by decide)
  have h1 := qO9_s g2 h2 (by decide)
  have x7 : R7 9 = zupR R6 9 5 291 9 := (g7 9 (by decide)).2.1
  have x6 : R6 9 = zupR R5 9 4 289 9 := (g6 9 (by decide)).2.1
  have x5 : R5 9 = zupR R4 9 3 286 9 := (g5 9 (by decide)).2.1
  have x4 : R4 9 = zupR R3 9 2 284 9 := (g4 9 (by decide)).2.1
  have x3 : R3 9 = zupR R2 9 1 147 9 := (g3 9 (by decide)).2.1
  have x2 : R2 9 = zupR R1 9 0 10 9 := (g2 9 (by decide)).2.1
  have y0 : R' 9 0 = 10 := by rw [q9, zupR_ne (by decide), zupR_ne (by decide), zupR_ne (by decide), x7, zupR_ne (by decide), x6, zupR_ne (by decide), x5, zupR_ne (by decide), x4, zupR_ne (by decide), x3, zupR_ne (by decide), x2, zupR_e rfl rfl]
  have y1 : R' 9 1 = 147 := by rw [q9, zupR_ne (by decide), zupR_ne (by decide), zupR_ne (by decide), x7, zupR_ne (by decide), x6, zupR_ne (by decide), x5, zupR_ne (by decide), x4, zupR_ne (by decide), x3, zupR_e rfl rfl]
  have y2 : R' 9 2 = 284 := by rw [q9, zupR_ne (by decide), zupR_ne (by decide), zupR_ne (by decide), x7, zupR_ne (by decide), x6, zupR_ne (by decide), x5, zupR_ne (by decide), x4, zupR_e rfl rfl]
  have y3 : R' 9 3 = 286 := by rw [q9, zupR_ne (by decide), zupR_ne (by decide), zupR_ne (by decide), x7, zupR_ne (by decide), x6, zupR_ne (by decide), x5, zupR_e rfl rfl]
  have y4 : R' 9 4 = 289 := by rw [q9, zupR_ne (by decide), zupR_ne (by decide), zupR_ne (by decide), x7, zupR_ne (by decide), x6, zupR_e rfl rfl]
  have y5 : R' 9 5 = 291 := by rw [q9, zupR_ne (by decide), zupR_ne (by decide), zupR_ne (by decide), x7, zupR_e rfl rfl]
  have y6 : R' 9 6 = 295 := by rw [q9, zupR_ne (by decide), zupR_ne (by decide), zupR_e rfl rfl]
  have y7 : R' 9 7 = 303 := by rw [q9, zupR_ne (by decide), zupR_e rfl rfl]
  have y8 : R' 9 8 = 304 := by rw [q9, zupR_e rfl rfl]
  have b2 : zrow (zupR R2 9 1 147) 284 (fun _ => 0) 9 0 = 10 := by rw [zrow_ne (by decide), zupR_ne (by decide), x2, zupR_e rfl rfl]
  have b3 : zrow (zupR R3 9 2 284) 286 (fun _ => 0) 9 0 = 10 := by rw [zrow_ne (by decide), zupR_ne (by decide), x3, zupR_ne (by decide), x2, zupR_e rfl rfl]
  have old : qOld 9 S S' R R' M M' := fun q hq => by
    obtain ⟨u1, u2⟩ := h1 q (by omega)
    obtain ⟨v1, v2, v3⟩ := g1 q (by omega)
    refine ⟨u1.trans (v1.trans (zupS_ne (by omega))), ((u2 (by omega)).1.trans v2).trans (zrow_ne (by omega)), ((u2 (by omega)).2.trans v3).trans (zrow_ne (by omega))⟩
  refine ⟨old, ⟨⟨?_, y0, y1, y2, y3, y4, y5, y6, y7, y8⟩, ⟨?_, ?_, ?_⟩, ⟨?_, ?_, ?_, ?_⟩, ⟨?_, ?_, ?_, ?_, ?_, ?_⟩, ⟨?_, ?_, ?_⟩, ⟨?_, ?_, ?_, ?_, ?_, ?_, ?_, ?_, ?_, ?_, ?_, ?_, ?_, ?_, ?_⟩, z3, z4⟩, ?_, ?_, ?_, ?_, ?_⟩
  · rw [(h1 9 (by decide)).1, (g1 9 (by decide)).1, zupS_e rfl]
  · exact qLT_y (fun q a b => (h1 q (by omega)).1) (fun q a b => ((h1 q (by omega)).2 (by omega)).1) l1
  · exact qLT_y (fun q a b => (h2 q (by omega)).1) (fun q a b => ((h2 q (by omega)).2 (by omega)).1) l2
  · exact qLR_x (fun q a b => (h6 q (by omega)).1) ((h6 291 (by decide)).2 (by decide)).1 f1
  · exact (h3 284 (by decide)).1.trans j1
  · exact (h3 285 (by decide)).1.trans j2
  · exact (congrFun ((h3 284 (by decide)).2 (by decide)).1 0).trans (j3.trans b2)
  · exact (congrFun ((h3 284 (by decide)).2 (by decide)).1 1).trans j4
  · exact (h4 286 (by decide)).1.trans c1
  · exact (h4 287 (by decide)).1.trans c2
  · exact (h4 288 (by decide)).1.trans c3
  · exact (congrFun ((h4 286 (by decide)).2 (by decide)).1 0).trans (c4.trans b3)
  · exact (congrFun ((h4 286 (by decide)).2 (by decide)).1 1).trans c5
  · exact (congrFun ((h4 286 (by decide)).2 (by decide)).1 2).trans c6
  · exact (h5 289 (by decide)).1.trans o1
  · exact (h5 290 (by decide)).1.trans o2
  · exact (congrFun ((h5 289 (by decide)).2 (by decide)).1 0).trans o3
  · exact (h7 295 (by decide)).1.trans e1
  · exact (h7 296 (by decide)).1.trans e2
  · exact (h7 297 (by decide)).1.trans e3
  · exact (h7 298 (by decide)).1.trans e4
  · exact (h7 299 (by decide)).1.trans e5
  · exact (h7 300 (by decide)).1.trans e6
  · exact (h7 301 (by decide)).1.trans e7
  · exact (h7 302 (by decide)).1.trans e8
  · exact (congrFun ((h7 295 (by decide)).2 (by decide)).1 0).trans d1
  · exact (congrFun ((h7 295 (by decide)).2 (by decide)).1 1).trans d2
  · exact (congrFun ((h7 295 (by decide)).2 (by decide)).1 2).trans d3
  · exact (congrFun ((h7 295 (by decide)).2 (by decide)).1 3).trans d4
  · exact (congrFun ((h7 295 (by decide)).2 (by decide)).1 4).trans d5
  · exact (congrFun ((h7 295 (by decide)).2 (by decide)).1 5).trans d6
  · exact (congrFun ((h7 295 (by decide)).2 (by decide)).1 6).trans d7
  · exact qTM_x (fun q a b => (h1 q (by omega)).2 (by omega)) m1
  · exact qTM_x (fun q a b => (h2 q (by omega)).2 (by omega)) m2
  · rw [m9]; rfl
  · rw [m9]; rfl
  · rw [m9]; rfl
end QF
