/-! A CLAUSE: the class's law -/
section QF
variable {S : Nat → Nat × Nat} {R : Nat → Nat → Nat} {M M' M0 M00 M1 M2 M3 : Nat → Nat → Int} {n s d r : Nat} {B : Nat → Nat} {len N i j c k p b q e : Nat} {O : List (Nat × Nat)} {E : yEv} {w : yLw}
theorem kc_law (hF : qFx S R) (hk : yTk B len M00 (N + 1)) (hN : ysg B len N = 43) (h300 : N ≤ 300) (hI : yCI M00 M i k O E w) (hi : i < N) (hO : O.length ≤ i) (hk24 : k < 24) (he : ysg B len i = e) (h3 : e < 3) (hw : w e = none) {out : yO} (hQ : yBo B len N (decide (e = 1)) 4 0 (i + 1) out) :
    (∀ f t, out = yft f t → ∃ M', zcal zPP (d + 81) 118 [zA 295] (n, s, S, R, M) = some (zU, (n, s, S, R, M')) ∧ yCF M00 M' f (ypl B len t)) ∧
    ∀ j Lc Lm D, out = yok j Lc Lm D → (ysg B len j ≠ 40 → ∃ M', zcal zPP (d + 81) 118 [zA 295] (n, s, S, R, M) = some (zU, (n, s, S, R, M')) ∧ yCF M00 M' 1 (ypl B len j)) ∧
      (ysg B len j = 40 → ∀ t : Nat × Nat × (qE → Int), ∃ M', zcal zPP (d + 81) 118 [zA 295] (n, s, S, R, M) = some (zU, (n, s, S, R, M')) ∧ yCI M00 M' (j + 1) (k + 1) (O ++ Lc O.length) (yupd E k (e, 0, 0, 0)) (yupd w e (some (O.length, O.length + (Lc O.length).length, t)))) := by
  have hI' := hI
  obtain ⟨⟨h8, h9, h10, h12⟩, hr, ho, hcl, hl⟩ := hI
  have hr1 : yRw M (zup (zup (yh1 M k e i) 295 11 (e : Nat)) 301 e (O.length : Nat)) := fun a a1 a2 a3 a4 a5 => by rw [zup_rw a4, zup_rw a1]; exact yh1_r a3 a1
  have eh : zup (zup (yh1 M k e i) 295 11 (e : Nat)) 301 e (O.length : Nat) 295 = zup (yh1 M k e i) 295 11 (e : Nat) 295 := zup_rw (by decide)
  have ec : zcal zPP (d + 81) 118 [zA 295] (n, s, S, R, M) = zbV (zcal zPP (d + 80) 120 [zA 295, zI 0] (n, s, S, R, zup (zup (yh1 M k e i) 295 11 (e : Nat)) 301 e (O.length : Nat))) fun q2 => if (q2.2.2.1 295).1 = 4 then (if (q2.2.2.1 295).1 = 4 then (if (q2.2.2.1 (q2.2.2.2.1 295 6)).1 = 20 ∧ 0 ≤ (e : Int) ∧ (e : Int) < ((q2.2.2.1 (q2.2.2.2.1 295 6)).2 : Nat) then (zR zPP (d + 80) 118 103 [zA 295, zI e, zI 1, zI ((4 * k : Nat) : Int)] [] (q2.1, q2.2.1, q2.2.2.1, q2.2.2.2.1, zup q2.2.2.2.2 (q2.2.2.2.1 295 6) (e : Int).toNat (q2.2.2.2.2 295 9))) else none) else none) else none := by
    rw [kc_31 (d := d + 79) hF hk h300 hI' (by omega) he (by omega) (fun _ => hw), if_pos h3, e_Reader_readClause_31]
    have n1 : ¬ (k : Int) < 0 := by omega
    have n2 : (k : Int) < 24 := by omega
    have p0 : 0 ≤ ((4 * k : Nat) : Int) ∧ ((4 * k : Nat) : Int) < ((96 : Nat) : Int) := by omega
    have p1 : 0 ≤ ((4 * k + 1 : Nat) : Int) ∧ ((4 * k + 1 : Nat) : Int) < ((96 : Nat) : Int) := by omega
    have p2 : 0 ≤ ((4 * k + 2 : Nat) : Int) ∧ ((4 * k + 2 : Nat) : Int) < ((96 : Nat) : Int) := by omega
    have p3 : 0 ≤ ((4 * k + 3 : Nat) : Int) ∧ ((4 * k + 3 : Nat) : Int) < ((96 : Nat) : Int) := by omega
    have pe : 0 ≤ (e : Int) ∧ (e : Int) < ((3 : Nat) : Int) := by omega
    have hi1 : i < 100000 := by omega
    have e9 : zup (yh1 M k e i) 295 11 (e : Nat) 295 9 = (O.length : Int) := by rw [zup_ne (by decide), yh1_5 (by decide)]; exact h9
    unfold yh1 at e9
    have e10 : ¬ (1 : Int) = 0 := by decide
    simp only [qff hF, if_true, h10, if_neg n1, if_pos n2, true_or, true_and, qwh (k := k) (by omega), qw1 (k := 4 * k) (by omega), qwg2 (q := 4 * k) (by omega), qwg3 (q := 4 * k) (by omega), if_pos p0, if_pos p1, if_pos p2, if_pos p3, if_pos pe, Int.toNat_natCast, zup_rw (show (295 : Nat) ≠ 300 by decide), h8, qw1 hi1, e9, if_neg e10]
    rfl
  generalize hM1 : zup (zup (yh1 M k e i) 295 11 (e : Nat)) 301 e (O.length : Nat) = M1 at *
  have a8 : M1 295 8 = ((i + 1 : Nat) : Int) := by rw [eh, zup_ne (by decide)]; exact yh1_8
  have a9 : M1 295 9 = (O.length : Nat) := by rw [eh, zup_ne (by decide), yh1_5 (by decide)]; exact h9
  have a10 : M1 295 10 = k := by rw [eh, zup_ne (by decide), yh1_5 (by decide)]; exact h10
  have a11 : M1 295 11 = e := by rw [eh]; exact zup_at
  have a12 : M1 295 12 = 0 := by rw [eh, zup_ne (by decide), yh1_5 (by decide)]; exact h12
  have hC : yCp M1 M1 (i + 1) O.length := ⟨a8, a9, a12, fun _ _ _ => rfl, fun _ _ _ _ _ => rfl⟩
  have hq := hQ.2.2.2 n s S R M1 hF (yRw_tk hk (yRw_t hr hr1)) (by rw [a11, decide_eq_true_iff]; omega)
  unfold yQC at hq
  rw [if_neg (by decide)] at hq
  have hq := hq (d + 80) M1 O.length (by show 8 * (8 - 0) + 6 ≤ d + 80; omega) hC (by omega)
  have pe : 0 ≤ (e : Int) ∧ (e : Int) < ((3 : Nat) : Int) := by omega
  have hrw : ∀ M2, (∀ a, a ≠ 295 → a ≠ 299 → M2 a = M1 a) → ∀ v : Int, yRw M00 (zup M2 302 e v) := fun M2 hf v a a1 a2 a3 a4 a5 => by
    rw [zup_rw a5, hf a a1 a2, hr1 a a1 a2 a3 a4 a5]
    exact hr a a1 a2 a3 a4 a5
  refine ⟨fun f t hout => ?_, fun j Lc Lm D hout => ?_⟩
  · subst hout
    obtain ⟨M2, q1, q2⟩ := hq
    have q1 : zcal zPP (d + 80) 120 [zA 295, zI 0] (n, s, S, R, M1) = some (zU, (n, s, S, R, M2)) := q1
    obtain ⟨j1, j2, j3, j4, j5, j6⟩ := q2
    have er : ∀ v : Int, zup M2 302 e v 295 = M2 295 := fun v => zup_rw (by decide)
    have hJ : yJu (zup M2 302 e (M2 295 9)) (zup M2 302 e (M2 295 9)) f (ypl B len t) := ⟨by rw [er]; exact j1, j2, by rw [er]; exact j3, by rw [er]; exact j4, fun _ _ _ => rfl, fun _ _ _ _ _ => rfl⟩
    obtain ⟨M3, p1, p2⟩ := kc_junk (n := n) (s := s) (d := d + 78) hF hJ (hrw M2 j5 _) (e : Nat) 1 ((4 * k : Nat) : Int)
    refine ⟨M3, ?_, p2⟩
    rw [ec, q1]
    simp only [zbV, qff hF, if_true, true_and, if_pos pe, Int.toNat_natCast]
    exact p1
  · subst hout
    obtain ⟨g1, g2, g3, g4, g5⟩ := yGok hQ.1
    have g3 := g3 (by decide)
    obtain ⟨M2, q1, q2⟩ := hq
    have q1 : zcal zPP (d + 80) 120 [zA 295, zI 0] (n, s, S, R, M1) = some (zU, (n, s, S, R, M2)) := q1
    obtain ⟨⟨b8, b9, b12, brow, bf⟩, blow, bat⟩ := q2
    have hlc := g4 O.length
    have er : ∀ v : Int, zup M2 302 e v 295 = M2 295 := fun v => zup_rw (by decide)
    have hC2 : yCp (zup M2 302 e (M2 295 9)) (zup M2 302 e (M2 295 9)) j (O.length + (Lc O.length).length) := ⟨by rw [er]; exact b8, by rw [er]; exact b9, by rw [er]; exact b12, fun _ _ _ => rfl, fun _ _ _ _ _ => rfl⟩
    obtain ⟨t1, t2⟩ := kc_stop (n := n) (s := s) (d := d + 78) hF hk h300 hC2 (k := k) (by rw [er, bf 10 (by decide) (by decide) (by decide) (by decide)]; exact a10) hk24 (hrw M2 brow _) g2 (by omega) (e : Nat) 1 ((4 * k : Nat) : Int)
    have ecc : zcal zPP (d + 81) 118 [zA 295] (n, s, S, R, M) = zR zPP (d + 78 + 2) 118 103 [zA 295, zI e, zI 1, zI ((4 * k : Nat) : Int)] [] (n, s, S, R, zup M2 302 e (M2 295 9)) := by
      rw [ec, q1]
      simp only [zbV, qff hF, if_true, true_and, if_pos pe, Int.toNat_natCast]
    rw [ecc]
    refine ⟨fun g => t1 g, fun g t => ⟨_, t2 g, ⟨?_, ?_, ?_, ?_⟩, fun a a1 a2 a3 a4 a5 => ?_, ?_, fun x hx => ?_, fun L hL => ?_⟩⟩
    · rw [zup_ne (by decide)]; exact zup_at
    · rw [zup_ne (by decide), zup_ne (by decide), er, b9, List.length_append]
    · exact zup_at
    · rw [zup_ne (by decide), zup_ne (by decide), er]; exact b12
    · rw [zup_rw a1, zup_rw a1]; exact hrw M2 brow _ a a1 a2 a3 a4 a5
    · refine ⟨by rw [zup_ne (by decide), zup_ne (by decide), er, bf 13 (by decide) (by decide) (by decide) (by decide), eh, zup_ne (by decide), yh1_5 (by decide)]; exact ho.1, ?_⟩
      rw [zup_rw (by decide), zup_rw (by decide), zup_rw (by decide), List.map_append, yat_app, List.length_map, Nat.zero_add]
      refine ⟨yat_cong (fun x h1 h2 => ?_) ho.2, bat⟩
      rw [List.length_map] at h2
      rw [blow x (by omega), ← hM1, zup_rw (by decide), zup_rw (by decide), yh1_r (by decide) (by decide)]
    · have e3 : zup (zup (zup M2 302 e (M2 295 9)) 295 8 ((j + 1 : Nat) : Int)) 295 10 ((k + 1 : Nat) : Int) 300 = yh1 M k e i 300 := by
        rw [zup_rw (by decide), zup_rw (by decide), zup_rw (by decide), brow 300 (by decide) (by decide), ← hM1, zup_rw (by decide), zup_rw (by decide)]
      rw [e3]
      by_cases hxk : x = k
      · subst hxk
        have ee : yupd E x (e, (0 : Int), (0 : Int), (0 : Int)) x = (e, 0, 0, 0) := if_pos rfl
        rw [ee]
        exact ⟨(yh1_300 (x := 0)).2, fun h => absurd (show 3 ≤ e from h) (by omega)⟩
      · have ee : yupd E k (e, (0 : Int), (0 : Int), (0 : Int)) x = E x := if_neg hxk
        have hxl : x < k := by omega
        obtain ⟨b1, b2⟩ := hcl x hxl
        rw [ee]
        refine ⟨by rw [yh1_300.1 (by omega)]; exact b1, fun h => ?_⟩
        obtain ⟨b3, b4, b5⟩ := b2 h
        exact ⟨by rw [yh1_300.1 (by omega)]; exact b3, fun h' => by rw [yh1_300.1 (by omega)]; exact b4 h', fun h' => by rw [yh1_300.1 (by omega)]; exact b5 h'⟩
    · have e1 : zup (zup (zup M2 302 e (M2 295 9)) 295 8 ((j + 1 : Nat) : Int)) 295 10 ((k + 1 : Nat) : Int) 301 = zup M 301 e (O.length : Nat) 301 := by
        rw [zup_rw (by decide), zup_rw (by decide), zup_rw (by decide), brow 301 (by decide) (by decide), ← hM1]
        funext x
        by_cases hx : x = e
        · rw [hx, zup_at, zup_at]
        · rw [zup_ne hx, zup_ne hx, zup_rw (by decide), yh1_r (by decide) (by decide)]
      have e2 : zup (zup (zup M2 302 e (M2 295 9)) 295 8 ((j + 1 : Nat) : Int)) 295 10 ((k + 1 : Nat) : Int) 302 = zup M 302 e ((O.length + (Lc O.length).length : Nat) : Int) 302 := by
        rw [zup_rw (by decide), zup_rw (by decide), b9]
        funext x
        by_cases hx : x = e
        · rw [hx, zup_at, zup_at]
        · rw [zup_ne hx, zup_ne hx, brow 302 (by decide) (by decide), ← hM1, zup_rw (by decide), zup_rw (by decide), yh1_r (by decide) (by decide)]
      rw [e1, e2]
      by_cases hx : L = e
      · subst hx
        have ee : yupd w L (some (O.length, O.length + (Lc O.length).length, t)) L = some (O.length, O.length + (Lc O.length).length, t) := if_pos rfl
        rw [ee]
        exact ⟨zup_at, zup_at⟩
      · have ee : yupd w e (some (O.length, O.length + (Lc O.length).length, t)) L = w L := if_neg hx
        rw [ee, zup_ne hx, zup_ne hx]
        exact hl L hL
end QF
