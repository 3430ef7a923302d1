/-! A CLAUSE: the model's deeds and laws -/
section QF
variable {S : Nat → Nat × Nat} {R : Nat → Nat → Nat} {M M' M0 M00 M1 M2 M3 M4 : Nat → Nat → Int} {n s d r : Nat} {B : Nat → Nat} {len N i j k p b q e : Nat} {C : List (Nat × Int)} {E : yEv} {w : yLw}
theorem mk_stop (hF : qFx S R) (hb : b ≤ 2115) (ht : yTa B len M4) (h12 : M4 305 12 = b) (h8 : M4 308 b = k) (hk : k < 24) (hn : yNx B len M4 j) :
    (ysg B len j ≠ 40 → ytl (d + 19) 0 (n, s, S, R, M4) = some (zI 1, (n, s, S, R, zup M4 308 b ((k + 1 : Nat) : Int)))) ∧
    (ysg B len j = 40 → ∃ M6, ytl (d + 19) 0 (n, s, S, R, M4) = some (zI 0, (n, s, S, R, M6)) ∧ yNx B len M6 (j + 1) ∧ yX (zup M4 308 b ((k + 1 : Nat) : Int)) M6) := by
  have p0 : 0 ≤ (b : Int) ∧ (b : Int) < ((2820 : Nat) : Int) := by omega
  have hts := yTS (i := j) (fun k hk => (ht.2.2 k hk).2)
  have h9 : zup M4 308 b ((k + 1 : Nat) : Int) 305 9 = (ytk B len j : Int) := by rw [zup_rw (by decide)]; exact hn.2.2.1
  have et : ytl (d + 19) 0 (n, s, S, R, M4) = if ((ytk B len j : Nat) : Int) = 59 then zbV (zcal zPP (d + 19) 191 [zA 305] (n, s, S, R, zup M4 308 b ((k + 1 : Nat) : Int))) (fun q4 => some (zI 0, q4)) else some (zI 1, (n, s, S, R, zup M4 308 b ((k + 1 : Nat) : Int))) := by
    unfold ytl
    simp only [qff hF, if_true, true_or, true_and, h12, if_pos p0, Int.toNat_natCast, h8, qw1 (k := k) (by omega), h9]
  rw [et]
  refine ⟨fun g => if_neg (by omega), fun g => ?_⟩
  obtain ⟨M6, n1, n2, n3⟩ := km_next (n := n) (s := s) (d := d + 17) (M := zup M4 308 b ((k + 1 : Nat) : Int)) hF ⟨by rw [zup_rw (by decide)]; exact ht.1, ht.2.1, by rw [zup_rw (by decide)]; exact ht.2.2⟩ (i := j + 1) (by rw [zup_rw (by decide)]; exact hn.1)
  have n1 : zcal zPP (d + 19) 191 [zA 305] (n, s, S, R, zup M4 308 b ((k + 1 : Nat) : Int)) = some (zU, (n, s, S, R, M6)) := n1
  refine ⟨M6, ?_, n2, n3⟩
  rw [if_pos (by omega), n1]
  rfl
theorem mk_deed (hF : qFx S R) (hb : b ≤ 2115) (ht : yTa B len M00) (hN : ysg B len N = 43) (h300 : N ≤ 300) (hI : yMI B len b M00 M i k C E w) (hi : i < N) (hk24 : k < 24) (he : ysg B len i = e) (h39 : 3 ≤ e ∧ e ≤ 9) :
    (∀ f t, ydo B len e (i + 1) = .inl (f, t) → f ≠ 0 → ∃ M', zcal zPP (d + 20) 196 [zA 305] (n, s, S, R, M) = some (zI f, (n, s, S, R, M')) ∧ yMF b M00 M' (ypl B len t)) ∧
    ∀ j v1 v2 v3, ydo B len e (i + 1) = .inr (j, v1, v2, v3) → (ysg B len j ≠ 40 → ∃ M', zcal zPP (d + 20) 196 [zA 305] (n, s, S, R, M) = some (zI 1, (n, s, S, R, M')) ∧ yMF b M00 M' (ypl B len j)) ∧
      (ysg B len j = 40 → ∃ M', zcal zPP (d + 20) 196 [zA 305] (n, s, S, R, M) = some (zI 0, (n, s, S, R, M')) ∧ yMI B len b M00 M' (j + 1) (k + 1) C (yupd E k (e, v1, v2, v3)) w) := by
  have hI' := hI
  obtain ⟨⟨h12, h13, h19, h8⟩, hn, hc, hR, hcl⟩ := hI
  obtain ⟨M3, m1, m2, m3, m4, m5, m6⟩ := mk_39 (n := n) (s := s) (d := d) hF hb ht h12 h8 hn hR hk24 h39.2
  have hR3 := yMR_t hR m3
  have p0 : 0 ≤ (b : Int) ∧ (b : Int) < ((2820 : Nat) : Int) := by omega
  have ec : zcal zPP (d + 20) 196 [zA 305] (n, s, S, R, M) = zbI (zcal zPP (d + 19) 204 [zA 305, zI e, zI ((b + 1 + 4 * k : Nat) : Int)] (n, s, S, R, M3)) fun x3 q2 => ytl (d + 19) x3 q2 := by
    have c24 : ¬ (k : Int) = 24 := by omega
    have c2 : (2 : Int) < e := by omega
    rw [mk_17 (d := d + 12) hF ht hI' he h39.2 (fun z => absurd z (by omega)), e_M_clause_17]
    simp only [qff hF, if_true, true_or, true_and, h12, if_pos p0, Int.toNat_natCast, h8, if_neg c24, if_pos c2]
    exact m1
  obtain ⟨k1, k2⟩ := km_deed (n := n) (s := s) (d := d + 11) (q := b + 1 + 4 * k) hF (yMR_ta ht hR3) hN h300 h39 (by omega) (i := i + 1) (M := M3) ⟨⟨fun _ _ _ => rfl, fun _ _ _ _ _ _ => rfl, fun _ _ => rfl⟩, m2⟩ (by omega)
  refine ⟨fun f t hy hf => ?_, fun j v1 v2 v3 hy => ?_⟩
  · obtain ⟨M4, q1, q2⟩ := k1 f t hy
    refine ⟨M4, ?_, q2.2.2.1, yMR_t hR3 (yMR_f q2.1 (by omega))⟩
    have q1 : zcal zPP (d + 19) 204 [zA 305, zI e, zI ((b + 1 + 4 * k : Nat) : Int)] (n, s, S, R, M3) = some (zI f, (n, s, S, R, M4)) := q1
    rw [ec, q1]
    show ytl (d + 19) (f : Int) (n, s, S, R, M4) = _
    unfold ytl
    rw [if_neg (by omega)]
  · obtain ⟨M4, q1, q2, q3⟩ := k2 j v1 v2 v3 hy
    have q1 : zcal zPP (d + 19) 204 [zA 305, zI e, zI ((b + 1 + 4 * k : Nat) : Int)] (n, s, S, R, M3) = some (zI 0, (n, s, S, R, M4)) := q1
    have hR4 := yMR_t hR3 (yMR_f q2.1 (show b ≤ b + 1 + 4 * k ∧ b + 1 + 4 * k + 3 < b + 705 by omega))
    have g5 : ∀ x, x = 12 ∨ x = 13 ∨ x = 19 → M4 305 x = M 305 x := fun x hx => by rw [q2.1.2.1 x (by omega) (by omega) (by omega) (by omega) (by omega), m4 x (by omega) (by omega) (by omega) (by omega) (by omega) (by omega)]
    have g8 : ∀ x, x < b + 1 + 4 * k ∨ b + 1 + 4 * k + 3 < x → M4 308 x = M 308 x := fun x hx => by rw [q2.1.2.2 x (by omega), m6, zup_ne (by omega)]
    obtain ⟨t1, t2⟩ := mk_stop (n := n) (s := s) (d := d) hF hb (yMR_ta ht hR4) (by rw [g5 12 (by decide)]; exact h12) (by rw [g8 b (by omega)]; exact h8) hk24 q2.2
    have ecc : zcal zPP (d + 20) 196 [zA 305] (n, s, S, R, M) = ytl (d + 19) 0 (n, s, S, R, M4) := by
      rw [ec, q1]
      rfl
    rw [ecc]
    refine ⟨fun g => ⟨_, t1 g, ?_, yMR_8 hR4 (by omega)⟩, fun g => ?_⟩
    · rw [zup_rw (by decide)]; exact q2.2.2.1
    · obtain ⟨M6, u1, u2, u3⟩ := t2 g
      have v5 : ∀ x, x = 12 ∨ x = 13 ∨ x = 19 → M6 305 x = M 305 x := fun x hx => by rw [u3.2 x (by omega) (by omega) (by omega) (by omega) (by omega), zup_rw (by decide)]; exact g5 x hx
      have v8 : ∀ x, x ≠ b → M6 308 x = M4 308 x := fun x hx => by rw [u3.1 308 (by decide), zup_ne hx]
      refine ⟨M6, u1, ⟨by rw [v5 12 (by decide)]; exact h12, by rw [v5 13 (by decide)]; exact h13, by rw [v5 19 (by decide)]; exact h19, by rw [u3.1 308 (by decide)]; exact zup_at⟩, u2, yat_cong (fun x h1 h2 => ?_) hc, yMR_t (yMR_8 hR4 (by omega)) (yMR_x u3), fun x hx => ?_⟩
      · show (M6 308 (b + 97 + 2 * x), M6 308 (b + 97 + 2 * x + 1)) = (M 308 (b + 97 + 2 * x), M 308 (b + 97 + 2 * x + 1))
        rw [v8 _ (by omega), v8 _ (by omega), g8 _ (by omega), g8 _ (by omega)]
      · by_cases hxk : x = k
        · subst hxk
          have ee : yupd E x (e, v1, v2, v3) x = (e, v1, v2, v3) := if_pos rfl
          rw [ee]
          refine ⟨by rw [v8 _ (by omega), q2.1.2.2 _ (by omega), m6, zup_at], fun _ => ?_, fun h => absurd (show e < 3 from h) (by omega)⟩
          obtain ⟨y1, y2, y3⟩ := q3
          exact ⟨by rw [v8 _ (by omega)]; exact y1, fun h => by rw [v8 _ (by omega)]; exact y2 h, fun h => by rw [v8 _ (by omega)]; exact y3 h⟩
        · have ee : yupd E k (e, v1, v2, v3) x = E x := if_neg hxk
          have hxl : x < k := by omega
          have v9 : ∀ y, b + 1 ≤ y → y < b + 1 + 4 * k → M6 308 y = M 308 y := fun y y1 y2 => by rw [v8 y (by omega)]; exact g8 y (by omega)
          obtain ⟨b1, b2, b3⟩ := hcl x hxl
          rw [ee]
          refine ⟨by rw [v9 _ (by omega) (by omega)]; exact b1, fun h => ?_, fun h => ?_⟩
          · obtain ⟨y1, y2, y3⟩ := b2 h
            exact ⟨by rw [v9 _ (by omega) (by omega)]; exact y1, fun h' => by rw [v9 _ (by omega) (by omega)]; exact y2 h', fun h' => by rw [v9 _ (by omega) (by omega)]; exact y3 h'⟩
          · obtain ⟨t, y1, y2, y3⟩ := b3 h
            exact ⟨t, y1, by rw [v9 _ (by omega) (by omega)]; exact y2, by rw [v9 _ (by omega) (by omega)]; exact y3⟩
theorem mk_law (hF : qFx S R) (hb : b ≤ 2115) (ht : yTa B len M00) (hN : ysg B len N = 43) (h300 : N ≤ 300) (hI : yMI B len b M00 M i k C E w) (hi : i < N) (hC : C.length ≤ i) (hk24 : k < 24) (he : ysg B len i = e) (h3 : e < 3) (hw : w e = none) (hE : ∀ x, x < k → (E x).1 ≠ e) {out : yO} (hQ : yBo B len N (decide (e = 1)) 4 0 (i + 1) out) :
    (∀ f t, out = yft f t → f ≠ 0 → ∃ M', zcal zPP (d + 20) 196 [zA 305] (n, s, S, R, M) = some (zI f, (n, s, S, R, M')) ∧ yMF b M00 M' (ypl B len t)) ∧
    ∀ j Lc Lm D, out = yok j Lc Lm D → (ysg B len j ≠ 40 → ∃ M', zcal zPP (d + 20) 196 [zA 305] (n, s, S, R, M) = some (zI 1, (n, s, S, R, M')) ∧ yMF b M00 M' (ypl B len j)) ∧
      (ysg B len j = 40 → ∀ (lo hi : Nat) (D' : qE → Int), ∃ M', zcal zPP (d + 20) 196 [zA 305] (n, s, S, R, M) = some (zI 0, (n, s, S, R, M')) ∧ yMI B len b M00 M' (j + 1) (k + 1) (C ++ Lm) (yupd E k (e, 0, 0, 0)) (yupd w e (some (lo, hi, C.length, C.length + Lm.length, D')))) := by
  have hI' := hI
  obtain ⟨⟨h12, h13, h19, h8⟩, hn, hc, hR, hcl⟩ := hI
  have hR1 : yMR b M00 (zup M 305 19 (zor (M 305 19) (zshl 1 (e : Int)))) := yMR_u hR (by decide)
  have hn1 : yNx B len (zup M 305 19 (zor (M 305 19) (zshl 1 (e : Int)))) i := by
    unfold yNx at hn ⊢
    rw [zup_ne (by decide), zup_ne (by decide), zup_ne (by decide), zup_ne (by decide), zup_ne (by decide)]
    exact hn
  obtain ⟨M3, m1, m2, m3, m4, m5, m6⟩ := mk_39 (n := n) (s := s) (d := d) (e := e) hF hb ht (M1 := zup M 305 19 (zor (M 305 19) (zshl 1 (e : Int)))) (by rw [zup_ne (by decide)]; exact h12) (by rw [zup_rw (by decide)]; exact h8) hn1 hR1 hk24 (by omega)
  have hR3 := yMR_t hR1 m3
  have p0 : 0 ≤ (b : Int) ∧ (b : Int) < ((2820 : Nat) : Int) := by omega
  have p1 : 0 ≤ ((b + 1 + 4 * k + 1 : Nat) : Int) ∧ ((b + 1 + 4 * k + 1 : Nat) : Int) < ((2820 : Nat) : Int) := by omega
  have p2 : 0 ≤ ((b + 1 + 4 * k + 2 : Nat) : Int) ∧ ((b + 1 + 4 * k + 2 : Nat) : Int) < ((2820 : Nat) : Int) := by omega
  have ec : zcal zPP (d + 20) 196 [zA 305] (n, s, S, R, M) = zbI (zcal zPP (d + 19) 204 [zA 305, zI e, zI ((b + 1 + 4 * k : Nat) : Int)] (n, s, S, R, M3)) fun x3 q2 => ytl (d + 19) x3 q2 := by
    have c24 : ¬ (k : Int) = 24 := by omega
    have c2 : ¬ (2 : Int) < e := by omega
    rw [mk_17 (d := d + 12) hF ht hI' he (by omega) (fun _ => hw), e_M_clause_17]
    simp only [qff hF, if_true, true_or, true_and, h12, if_pos p0, Int.toNat_natCast, h8, if_neg c24, if_neg c2]
    exact m1
  have g13 : M3 305 13 = (C.length : Int) := by rw [m4 13 (by decide) (by decide) (by decide) (by decide) (by decide) (by decide), zup_ne (by decide)]; exact h13
  have g12 : M3 305 12 = (b : Int) := by rw [m4 12 (by decide) (by decide) (by decide) (by decide) (by decide) (by decide), zup_ne (by decide)]; exact h12
  have g19 : M3 305 19 = zor (M 305 19) (zshl 1 (e : Int)) := by rw [m4 19 (by decide) (by decide) (by decide) (by decide) (by decide) (by decide), zup_at]
  generalize hM5 : zup (zup (zup (zup M3 308 (b + 1 + 4 * k + 1) (C.length : Int)) 305 16 0) 305 17 0) 305 18 0 = M5
  have eb : zcal zPP (d + 19) 204 [zA 305, zI e, zI ((b + 1 + 4 * k : Nat) : Int)] (n, s, S, R, M3) = zbI (zbI (yHd n s S R (d + 7) zU M5) fun x2 q1 => if (q1.2.2.1 305).1 = 10 then (if (q1.2.2.1 305).1 = 10 then (if (q1.2.2.1 (q1.2.2.2.1 305 2)).1 = 20 ∧ 0 ≤ ((b + 1 + 4 * k + 2 : Nat) : Int) ∧ ((b + 1 + 4 * k + 2 : Nat) : Int) < ((q1.2.2.1 (q1.2.2.2.1 305 2)).2 : Nat) then (some (zI x2, (q1.1, q1.2.1, q1.2.2.1, q1.2.2.2.1, zup q1.2.2.2.2 (q1.2.2.2.1 305 2) ((b + 1 + 4 * k + 2 : Nat) : Int).toNat (q1.2.2.2.2 305 13)))) else none) else none) else none) fun x20 q19 => some (zI x20, q19) := by
    rw [c_M_body]
    simp only [qff hF, if_true]
    rw [if_neg (by omega), if_neg (by omega), if_neg (by omega), if_neg (by omega), if_neg (by omega), if_neg (by omega), if_neg (by omega), c_M_lawClause]
    simp only [qff hF, if_true, true_and, qw1 (k := b + 1 + 4 * k) (by omega), qwg2 (q := b + 1 + 4 * k) (by omega), if_pos p1, Int.toNat_natCast, g13]
    rw [c_M_summed]
    simp only [qff hF, if_true, true_or, hM5]
    rfl
  have hx5 : ∀ x, x ≠ 16 → x ≠ 17 → x ≠ 18 → M5 305 x = M3 305 x := fun x x1 x2 x3 => by rw [← hM5, zup_ne (by omega), zup_ne (by omega), zup_ne (by omega), zup_rw (by decide)]
  have hx8 : M5 308 = zup M3 308 (b + 1 + 4 * k + 1) (C.length : Int) 308 := by rw [← hM5, zup_rw (by decide), zup_rw (by decide), zup_rw (by decide)]
  have hR35 : yMR b M3 M5 := by rw [← hM5]; exact yMR_u (yMR_u (yMR_u (yMR_8 ⟨fun _ _ _ _ => rfl, fun _ _ => rfl, fun _ _ => rfl⟩ (by omega)) (by decide)) (by decide)) (by decide)
  have hR5 := yMR_t hR3 hR35
  have h5c : ∀ x, b + 97 ≤ x → M5 308 x = M 308 x := fun x hx => by rw [hx8, zup_ne (by omega), m6, zup_ne (by omega), zup_rw (by decide)]
  have hRp : yRp B len b M5 M5 [] C false (i + 1) := by
    refine ⟨⟨⟨by rw [hx5 12 (by decide) (by decide) (by decide)]; exact g12, by rw [hx5 13 (by decide) (by decide) (by decide)]; exact g13, ?_, ?_⟩, trivial, yat_cong (fun x h1 h2 => ?_) hc, fun _ _ _ _ => rfl, fun _ _ _ _ _ _ _ _ _ _ => rfl, fun _ _ => rfl⟩, ?_, ?_, by decide, Nat.zero_le _, by show C.length + 0 ≤ i + 1; omega, by omega⟩
    · rw [← hM5, zup_ne (by decide), zup_ne (by decide), zup_at]; rfl
    · rw [← hM5, zup_ne (by decide), zup_at]; rfl
    · show (M5 308 (b + 97 + 2 * x), M5 308 (b + 97 + 2 * x + 1)) = (M 308 (b + 97 + 2 * x), M 308 (b + 97 + 2 * x + 1))
      rw [h5c _ (by omega), h5c _ (by omega)]
    · rw [← hM5, zup_at]; rfl
    · unfold yNx at m2 ⊢
      rw [hx5 7 (by decide) (by decide) (by decide), hx5 8 (by decide) (by decide) (by decide), hx5 9 (by decide) (by decide) (by decide), hx5 10 (by decide) (by decide) (by decide), hx5 11 (by decide) (by decide) (by decide)]
      exact m2
  have hq := hQ.2.2.1 n s S R (d + 7) b M5 hF hb (yMR_ta ht hR5) (by rw [hx5 14 (by decide) (by decide) (by decide), m5, decide_eq_true_iff]; omega)
  unfold yQM at hq
  rw [if_neg (by decide), if_neg (by decide)] at hq
  have hq := hq M5 [] C zU hRp rfl trivial (fun _ h => absurd h (by decide)) (fun h => absurd h (by decide))
  refine ⟨fun f t hout hf => ?_, fun j Lc Lm D hout => ?_⟩
  · subst hout
    obtain ⟨M6, q1, q2, q3, q4, q5⟩ := hq
    have hR6 : yMR b M5 M6 := ⟨q2, fun x hx => q3 x (by omega) (by omega) (by omega) (by omega) (by omega) (by omega) (by omega) (by omega) (by omega), fun x hx => q4 x (by omega)⟩
    refine ⟨zup M6 308 (b + 1 + 4 * k + 2) (M6 305 13), ?_, ?_, yMR_8 (yMR_t hR5 hR6) (by omega)⟩
    · rw [ec, eb, q1]
      simp only [zbI, qff hF, if_true, true_and, if_pos p2, Int.toNat_natCast]
      unfold ytl
      rw [if_neg (by omega)]
    · rw [zup_rw (by decide)]; exact q5
  · subst hout
    obtain ⟨g1, g2, g3, g4, g5⟩ := yGok hQ.1
    have g3 := g3 (by decide)
    obtain ⟨M6, g', P', C', q1, q2, q3, q4, -⟩ := hq
    have q3 : yst 5 P' C' = ([], C ++ Lm) := q3
    have q4 : yex 4 (ysg B len j) = false := q4
    have on1 : yon P' = -1 := by
      have := yon_st (r := 5) (by decide) P' C'
      rw [q3] at this
      exact this.symm
    have hs1 : yst 1 P' C' = ([], C ++ Lm) := by
      rw [← yst_le (show 1 ≤ 5 by decide) P' C', q3]
      rfl
    obtain ⟨M7, r1, r2, r3⟩ := (ys_stop (n := n) (s := s) (d := d + 7) hF hb (yMR_ta ht hR5) q2 (by rw [ybw_ar q4, on1, if_neg (by decide)]) (by rw [on1]; rfl) g').2 on1
    rw [hs1] at r2
    obtain ⟨⟨w1, w2, w3, w4⟩, w5, w6, w7, w8, w9⟩ := r2
    have hR57 : yMR b M5 M7 := ⟨w7, fun x hx => w8 x (by omega) (by omega) (by omega) (by omega) (by omega) (by omega) (by omega) (by omega) (by omega), fun x hx => w9 x (by omega)⟩
    generalize hM8 : zup M7 308 (b + 1 + 4 * k + 2) (M7 305 13) = M8
    have hR8 : yMR b M00 M8 := by rw [← hM8]; exact yMR_8 (yMR_t hR5 hR57) (by omega)
    have e85 : M8 305 = M7 305 := by rw [← hM8]; exact zup_rw (by decide)
    have e88 : ∀ x, x ≠ b + 1 + 4 * k + 2 → M8 308 x = M7 308 x := fun x hx => by rw [← hM8]; exact zup_ne hx
    have e8l : ∀ x, x < b + 1 + 4 * k → M8 308 x = M 308 x := fun x hx => by rw [e88 x (by omega), w9 x (by omega), hx8, zup_ne (by omega), m6, zup_ne (by omega), zup_rw (by decide)]
    have n8 : yNx B len M8 j := by
      unfold yNx at r3 ⊢
      rw [e85]
      exact r3
    obtain ⟨t1, t2⟩ := mk_stop (n := n) (s := s) (d := d) hF hb (yMR_ta ht hR8) (by rw [e85]; exact w1) (by rw [e8l b (by omega)]; exact h8) hk24 n8
    have ecc : zcal zPP (d + 20) 196 [zA 305] (n, s, S, R, M) = ytl (d + 19) 0 (n, s, S, R, M8) := by
      have q1 : yHd n s S R (d + 7) zU M5 = yHd n s S R (d + 7) g' M6 := q1
      have r1 : yHd n s S R (d + 7) g' M6 = some (zI 0, (n, s, S, R, M7)) := r1
      rw [ec, eb, q1, r1]
      simp only [zbI, qff hF, if_true, true_and, if_pos p2, Int.toNat_natCast, hM8]
    rw [ecc]
    refine ⟨fun g => ⟨_, t1 g, ?_, yMR_8 hR8 (by omega)⟩, fun g lo hi D' => ?_⟩
    · rw [zup_rw (by decide)]; exact n8.2.1
    · obtain ⟨M9, u1, u2, u3⟩ := t2 g
      have v5 : ∀ x, x = 12 ∨ x = 13 ∨ x = 19 → M9 305 x = M7 305 x := fun x hx => by rw [u3.2 x (by omega) (by omega) (by omega) (by omega) (by omega), zup_rw (by decide), e85]
      have v8 : ∀ x, x ≠ b → M9 308 x = M8 308 x := fun x hx => by rw [u3.1 308 (by decide), zup_ne hx]
      refine ⟨M9, u1, ⟨by rw [v5 12 (by decide)]; exact w1, by rw [v5 13 (by decide)]; exact w2, ?_, by rw [u3.1 308 (by decide)]; exact zup_at⟩, u2, yat_cong (fun x h1 h2 => ?_) w6, yMR_t (yMR_8 hR8 (by omega)) (yMR_x u3), fun x hx => ?_⟩
      · rw [v5 19 (by decide), w8 19 (by decide) (by decide) (by decide) (by decide) (by decide) (by decide) (by decide) (by decide) (by decide), hx5 19 (by decide) (by decide) (by decide), g19, h19, zsn_put24 _ (by omega)]
        congr 2
        funext L
        by_cases hL : L = e
        · subst hL
          have ee : yupd w L (some (lo, hi, C.length, C.length + Lm.length, D')) L = some (lo, hi, C.length, C.length + Lm.length, D') := if_pos rfl
          rw [ee, decide_eq_true rfl, Bool.or_true]
          rfl
        · have ee : yupd w e (some (lo, hi, C.length, C.length + Lm.length, D')) L = w L := if_neg hL
          rw [ee, decide_eq_false hL, Bool.or_false]
      · show (M9 308 (b + 97 + 2 * x), M9 308 (b + 97 + 2 * x + 1)) = (M7 308 (b + 97 + 2 * x), M7 308 (b + 97 + 2 * x + 1))
        rw [v8 _ (by omega), v8 _ (by omega), e88 _ (by omega), e88 _ (by omega)]
      · by_cases hxk : x = k
        · subst hxk
          have ee : yupd E x (e, (0 : Int), (0 : Int), (0 : Int)) x = (e, 0, 0, 0) := if_pos rfl
          have ew : yupd w e (some (lo, hi, C.length, C.length + Lm.length, D')) e = some (lo, hi, C.length, C.length + Lm.length, D') := if_pos rfl
          rw [ee]
          refine ⟨?_, fun h => absurd (show 3 ≤ e from h) (by omega), fun _ => ⟨_, ew, ?_, ?_⟩⟩
          · rw [v8 _ (by omega), e88 _ (by omega), w9 _ (by omega), hx8, zup_ne (by omega), m6, zup_at]
          · rw [v8 _ (by omega), e88 _ (by omega), w9 _ (by omega), hx8, zup_at]
          · rw [v8 _ (by omega), ← hM8, zup_at, w2, List.length_append]
        · have ee : yupd E k (e, (0 : Int), (0 : Int), (0 : Int)) x = E x := if_neg hxk
          have hxl : x < k := by omega
          have v9 : ∀ y, b + 1 ≤ y → y < b + 1 + 4 * k → M9 308 y = M 308 y := fun y y1 y2 => by rw [v8 y (by omega)]; exact e8l y (by omega)
          obtain ⟨b1, b2, b3⟩ := hcl x hxl
          rw [ee]
          refine ⟨by rw [v9 _ (by omega) (by omega)]; exact b1, fun h => ?_, fun h => ?_⟩
          · obtain ⟨y1, y2, y3⟩ := b2 h
            exact ⟨by rw [v9 _ (by omega) (by omega)]; exact y1, fun h' => by rw [v9 _ (by omega) (by omega)]; exact y2 h', fun h' => by rw [v9 _ (by omega) (by omega)]; exact y3 h'⟩
          · obtain ⟨t, y1, y2, y3⟩ := b3 h
            have ew : yupd w e (some (lo, hi, C.length, C.length + Lm.length, D')) (E x).1 = w (E x).1 := if_neg (hE x hxl)
            exact ⟨t, by rw [ew]; exact y1, by rw [v9 _ (by omega) (by omega)]; exact y2, by rw [v9 _ (by omega) (by omega)]; exact y3⟩
end QF
