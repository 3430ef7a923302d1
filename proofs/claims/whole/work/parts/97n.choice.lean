/-! THE CLASS: a choice; and both sides together -/
noncomputable def ych5 (x o : Nat) (x4 : Int) (σ : zS) : zO := zbV (zcal zPP x 125 [zA 295, zI 22] σ) fun q6 => zbI (zcal zPP x 123 [zA 295, zI 22, zI 0] q6) fun x8 q7 => zbV (zcal zPP x 130 [zA 295, zI x4] q7) fun q9 => zbV (zcal zPP x 120 [zA 295, zI o] q9) fun q10 => zbV (zcal zPP x 130 [zA 295, zI x8] q10) fun q11 => zbV (zcal zPP x 125 [zA 295, zI 23] q11) fun q12 => some (zU, q12)
section QF
variable {S : Nat → Nat × Nat} {R : Nat → Nat → Nat} {M M' M0 M1 M2 M3 : Nat → Nat → Int} {n s d r : Nat} {B : Nat → Nat} {len N i j c o f p : Nat} {L : List (Nat × Nat)}
theorem ych_head (hF : qFx S R) (o : Nat) (M : Nat → Nat → Int) : zcal zPP (d + 1) 126 [zA 295, zI o] (n, s, S, R, M) = zbV (zcal zPP d 127 [zA 295, zI o] (n, s, S, R, M)) fun q1 => zbV (zcal zPP d 125 [zA 295, zI 21] q1) fun q2 => zbI (zcal zPP d 123 [zA 295, zI 21, zI 0] q2) fun x4 q3 => zbV (zcal zPP d 120 [zA 295, zI o] q3) fun q5 => ych5 d o x4 q5 := by
  rw [c_Reader_readChoice]
  simp only [qff hF, if_true]
  rfl
theorem ych_J5 (hF : qFx S R) (h : yJu M0 M f p) (o : Nat) {v : Int} (hv : v < 300) : ∃ M', ych5 (d + 9) o v (n, s, S, R, M) = some (zU, (n, s, S, R, M')) ∧ yJu M0 M' f p := by
  obtain ⟨v8, M2, o1, o2, o3⟩ := kx_orderJ (n := n) (s := s) (d := d + 8) hF h 22 0
  obtain ⟨M3, s1, s2⟩ := kx_skipJ (n := n) (s := s) (d := d + 8) hF o2 hv
  obtain ⟨M4, t1, t2⟩ := kx_skipJ (n := n) (s := s) (d := d + 8) hF s2 o3
  refine ⟨M4, ?_, t2⟩
  unfold ych5
  rw [kx_expJ (d := d + 8) hF h]
  simp only [zbV]
  rw [o1]
  simp only [zbI]
  rw [s1]
  simp only []
  rw [kx_sumJ (d := d + 5) hF s2]
  simp only []
  rw [t1]
  simp only []
  rw [kx_expJ (d := d + 8) hF t2]
/-- a choice of the class -/
theorem ycc (hF : qFx S R) (hk : yTk B len M0 (N + 1)) (hN : N ≤ 300) {out : yO} (hQ : yQC n s S R B len M0 6 o i out) :
    (∀ f k, out = yft f k → yQC n s S R B len M0 2 o i (yft f k)) ∧
    ∀ j L1 m1 D1, out = yok j L1 m1 D1 → j ≤ N → i < j → (∀ c, (L1 c).length ≤ j - i) → (ysg B len j ≠ 21 → yQC n s S R B len M0 2 o i (yft 1 j)) ∧
      (ysg B len j = 21 → j < N → ∀ out2, yQC n s S R B len M0 4 o (j + 1) out2 →
        (∀ f k, out2 = yft f k → yQC n s S R B len M0 2 o i (yft f k)) ∧
        ∀ k L2 m2 D2, out2 = yok k L2 m2 D2 → k ≤ N → j + 1 < k → (∀ c, (L2 c).length ≤ k - (j + 1)) → (ysg B len k ≠ 22 → yQC n s S R B len M0 2 o i (yft 1 k)) ∧
          (ysg B len k = 22 → k < N → ∀ out3, yQC n s S R B len M0 4 o (k + 1) out3 →
            (∀ f l, out3 = yft f l → yQC n s S R B len M0 2 o i (yft f l)) ∧
            ∀ l L3 m3 D3, out3 = yok l L3 m3 D3 → l ≤ N → k + 1 < l → (∀ c, (L3 c).length ≤ l - (k + 1)) → (ysg B len l ≠ 23 → yQC n s S R B len M0 2 o i (yft 1 l)) ∧
              (ysg B len l = 23 → l < N → ∀ m4 D4, yQC n s S R B len M0 2 o i (yok (l + 1) (yif L1 L2 L3) m4 D4)))) := by
  unfold yQC at hQ
  rw [if_neg (by decide)] at hQ
  have key : ∀ y M c, 8 * (8 - o) + 10 ≤ y + 10 → yCp M0 M i c → c ≤ i → yQc n s S R B len M0 M c (zcal zPP (y + 9) 127 [zA 295, zI o] (n, s, S, R, M)) out := fun y M c hx hC hci => hQ (y + 9) M c (by show 8 * (8 - o) + 9 ≤ y + 9; omega) hC hci
  refine ⟨fun f k hout => ?_, fun j L1 m1 D1 hout hj hij hL1 => ?_⟩
  · subst hout
    unfold yQC
    rw [if_neg (by decide)]
    intro x M c hx hC hci
    have hx : 8 * (8 - o) + 10 ≤ x := hx
    obtain ⟨y, rfl⟩ : ∃ y, x = y + 10 := ⟨x - 10, by omega⟩
    obtain ⟨M1, e1, e2⟩ := key y M c hx hC hci
    obtain ⟨v4, M2, o1, o2, o3⟩ := kx_orderJ (n := n) (s := s) (d := y + 8) hF e2 21 0
    obtain ⟨M3, t1, t2⟩ := ych_J5 (n := n) (s := s) (d := y) hF o2 o o3
    refine ⟨M3, ?_, t2⟩
    refine (ych_head (d := y + 9) hF o M).trans ?_
    rw [e1]
    simp only [zbV]
    rw [kx_expJ (d := y + 8) hF e2]
    simp only []
    rw [o1]
    simp only [zbI]
    rw [kx_sumJ (d := y + 5) hF o2]
    exact t1
  subst hout
  refine ⟨fun h21 => ?_, fun h21 hjN out2 hQ2 => ?_⟩
  · unfold yQC
    rw [if_neg (by decide)]
    intro x M c hx hC hci
    have hx : 8 * (8 - o) + 10 ≤ x := hx
    obtain ⟨y, rfl⟩ : ∃ y, x = y + 10 := ⟨x - 10, by omega⟩
    obtain ⟨M1, e1, e2⟩ := key y M c hx hC hci
    have hLc := hL1 c
    obtain ⟨M2, f1, f2⟩ := kx_expN (n := n) (s := s) (d := y + 7) (S := S) (R := R) (M := M1) hF hk hN e2.1 hj (by omega) h21
    have f1 : zcal zPP (y + 9) 125 [zA 295, zI 21] (n, s, S, R, M1) = some (zU, (n, s, S, R, M2)) := f1
    obtain ⟨v4, M3, o1, o2, o3⟩ := kx_orderJ (n := n) (s := s) (d := y + 8) hF f2 21 0
    obtain ⟨M4, t1, t2⟩ := ych_J5 (n := n) (s := s) (d := y) hF o2 o o3
    refine ⟨M4, ?_, t2⟩
    refine (ych_head (d := y + 9) hF o M).trans ?_
    rw [e1]
    simp only [zbV]
    rw [f1]
    simp only []
    rw [o1]
    simp only [zbI]
    rw [kx_sumJ (d := y + 5) hF o2]
    exact t1
  unfold yQC at hQ2
  rw [if_neg (by decide)] at hQ2
  -- up to behind then
  have key2 : ∀ y M c, 8 * (8 - o) + 10 ≤ y + 10 → yCp M0 M i c → c ≤ i → ∃ M2, yOk M0 M c (L1 c ++ [(21, 0)]) (j + 1) M2 ∧ c + (L1 c).length < 300 ∧ c + (L1 c).length + 1 ≤ j + 1 ∧ M2 299 (c + (L1 c).length) = yen (21, 0) ∧
      (zcal zPP (y + 10) 126 [zA 295, zI o] (n, s, S, R, M) = zbV (zcal zPP (y + 9) 120 [zA 295, zI o] (n, s, S, R, M2)) fun q5 => ych5 (y + 9) o ((c + (L1 c).length : Nat) : Int) q5) ∧
      yQc n s S R B len M0 M2 (c + (L1 c).length + 1) (zcal zPP (y + 9) 120 [zA 295, zI o] (n, s, S, R, M2)) out2 := fun y M c hx hC hci => by
    obtain ⟨M1, e1, e2⟩ := key y M c hx hC hci
    have hLc := hL1 c
    have ex := kx_exp (n := n) (s := s) (d := y + 7) (S := S) (R := R) (M := M1) hF hk hN e2.1 hj h21
    have ex : zcal zPP (y + 9) 125 [zA 295, zI 21] (n, s, S, R, M1) = some (zU, (n, s, S, R, zup M1 295 8 ((j + 1 : Nat) : Int))) := ex
    have e3 : yOk M0 M c (L1 c) (j + 1) (zup M1 295 8 ((j + 1 : Nat) : Int)) := yOk_at e2
    have o1 := kx_order (n := n) (s := s) (d := y + 8) (S := S) (R := R) (M := zup M1 295 8 ((j + 1 : Nat) : Int)) hF e3.1.2.1 (by omega) (g := 21) (w := 0) (by decide) (by decide)
    have o1 : zcal zPP (y + 9) 123 [zA 295, zI 21, zI 0] (n, s, S, R, zup M1 295 8 ((j + 1 : Nat) : Int)) = _ := o1
    have e4 := yOk_order (g := 21) (w := 0) e3
    have ec : c + (L1 c ++ [(21, 0)]).length = c + (L1 c).length + 1 := by rw [List.length_append]; rfl
    have e5 := e4.1
    rw [ec] at e5
    refine ⟨_, e4, by omega, by omega, ?_, ?_, hQ2 (y + 9) _ _ (by show 8 * (8 - o) + 6 ≤ y + 9; omega) e5 (by omega)⟩
    · rw [zup_rw (by decide), zup_at]
    · refine (ych_head (d := y + 9) hF o M).trans ?_
      rw [e1]
      simp only [zbV]
      rw [ex]
      simp only []
      rw [o1]
      rfl
  refine ⟨fun f k hout => ?_, fun k L2 m2 D2 hout hkN hjk hL2 => ?_⟩
  · subst hout
    unfold yQC
    rw [if_neg (by decide)]
    intro x M c hx hC hci
    have hx : 8 * (8 - o) + 10 ≤ x := hx
    obtain ⟨y, rfl⟩ : ∃ y, x = y + 10 := ⟨x - 10, by omega⟩
    obtain ⟨M2, e2, c3, c4, -, hz, q⟩ := key2 y M c hx hC hci
    obtain ⟨M3, q1, q2⟩ := q
    obtain ⟨M4, t1, t2⟩ := ych_J5 (n := n) (s := s) (d := y) hF q2 o (v := ((c + (L1 c).length : Nat) : Int)) (by omega)
    refine ⟨M4, ?_, t2⟩
    refine hz.trans ?_
    rw [q1]
    exact t1
  subst hout
  refine ⟨fun h22 => ?_, fun h22 hkN' out3 hQ3 => ?_⟩
  · unfold yQC
    rw [if_neg (by decide)]
    intro x M c hx hC hci
    have hx : 8 * (8 - o) + 10 ≤ x := hx
    obtain ⟨y, rfl⟩ : ∃ y, x = y + 10 := ⟨x - 10, by omega⟩
    obtain ⟨M2, e2, c3, c4, -, hz, q⟩ := key2 y M c hx hC hci
    obtain ⟨M3, q1, q2⟩ := q
    have hLc := hL2 (c + (L1 c).length + 1)
    obtain ⟨M4, f1, f2⟩ := kx_expN (n := n) (s := s) (d := y + 7) (S := S) (R := R) (M := M3) hF hk hN q2.1 hkN (by omega) h22
    have f1 : zcal zPP (y + 9) 125 [zA 295, zI 22] (n, s, S, R, M3) = some (zU, (n, s, S, R, M4)) := f1
    obtain ⟨v8, M5, o1, o2, o3⟩ := kx_orderJ (n := n) (s := s) (d := y + 8) hF f2 22 0
    obtain ⟨M6, s1, s2⟩ := kx_skipJ (n := n) (s := s) (d := y + 8) hF o2 (v := ((c + (L1 c).length : Nat) : Int)) (by omega)
    obtain ⟨M7, t1, t2⟩ := kx_skipJ (n := n) (s := s) (d := y + 8) hF s2 o3
    refine ⟨M7, ?_, t2⟩
    refine hz.trans ?_
    rw [q1]
    simp only [zbV]
    unfold ych5
    rw [f1]
    simp only [zbV]
    rw [o1]
    simp only [zbI]
    rw [s1]
    simp only []
    rw [kx_sumJ (d := y + 5) hF s2]
    simp only []
    rw [t1]
    simp only []
    rw [kx_expJ (d := y + 8) hF t2]
  unfold yQC at hQ3
  rw [if_neg (by decide)] at hQ3
  -- up to behind else
  have key3 : ∀ y M c, 8 * (8 - o) + 10 ≤ y + 10 → yCp M0 M i c → c ≤ i → ∃ M5, yCp M0 M5 (k + 1) (c + (L1 c).length + 1 + (L2 (c + (L1 c).length + 1)).length + 1) ∧ (c + (L1 c).length + 1 + (L2 (c + (L1 c).length + 1)).length + 1 ≤ k + 1) ∧
      ((∀ q, q < c → M5 299 q = M 299 q) ∧ yat (M5 299) c ((L1 c).map yen) ∧ M5 299 (c + (L1 c).length) = yen (21, c + (L1 c).length + 1 + (L2 (c + (L1 c).length + 1)).length + 1) ∧ yat (M5 299) (c + (L1 c).length + 1) ((L2 (c + (L1 c).length + 1)).map yen) ∧ M5 299 (c + (L1 c).length + 1 + (L2 (c + (L1 c).length + 1)).length) = yen (22, 0)) ∧
      (zcal zPP (y + 10) 126 [zA 295, zI o] (n, s, S, R, M) = zbV (zcal zPP (y + 9) 120 [zA 295, zI o] (n, s, S, R, M5)) fun q10 => zbV (zcal zPP (y + 9) 130 [zA 295, zI ((c + (L1 c).length + 1 + (L2 (c + (L1 c).length + 1)).length : Nat) : Int)] q10) fun q11 => zbV (zcal zPP (y + 9) 125 [zA 295, zI 23] q11) fun q12 => some (zU, q12)) := fun y M c hx hC hci => by
    obtain ⟨M2, e2, c3, c4, hp1, hz, q⟩ := key2 y M c hx hC hci
    obtain ⟨M3, q1, q2⟩ := q
    have hLc := hL2 (c + (L1 c).length + 1)
    have hla : ((L1 c).map yen).length = (L1 c).length := List.length_map _
    have ya : yat (M2 299) c ((L1 c).map yen) := by
      have := e2.2.2
      rw [List.map_append, yat_app] at this
      exact this.1
    generalize hA : L1 c = a at *
    generalize hp : c + a.length = p1 at *
    generalize hB2 : L2 (p1 + 1) = b at *
    have hlb : (b.map yen).length = b.length := List.length_map _
    have ex := kx_exp (n := n) (s := s) (d := y + 7) (S := S) (R := R) (M := M3) hF hk hN q2.1 hkN h22
    have ex : zcal zPP (y + 9) 125 [zA 295, zI 22] (n, s, S, R, M3) = some (zU, (n, s, S, R, zup M3 295 8 ((k + 1 : Nat) : Int))) := ex
    have q3 : yOk M0 M2 (p1 + 1) b (k + 1) (zup M3 295 8 ((k + 1 : Nat) : Int)) := yOk_at (j := k + 1) q2
    have o1 := kx_order (n := n) (s := s) (d := y + 8) (S := S) (R := R) (M := zup M3 295 8 ((k + 1 : Nat) : Int)) hF q3.1.2.1 (by omega) (g := 22) (w := 0) (by decide) (by decide)
    have o1 : zcal zPP (y + 9) 123 [zA 295, zI 22, zI 0] (n, s, S, R, zup M3 295 8 ((k + 1 : Nat) : Int)) = _ := o1
    have q4 := yOk_order (g := 22) (w := 0) q3
    generalize hM4 : zup (zup (zup M3 295 8 ((k + 1 : Nat) : Int)) 299 (p1 + 1 + b.length) (yen (22, 0))) 295 9 ((p1 + 1 + b.length + 1 : Nat) : Int) = M4 at *
    obtain ⟨d1, d2, d3⟩ := q4
    have ec : p1 + 1 + (b ++ [(22, 0)]).length = p1 + 1 + b.length + 1 := by rw [List.length_append]; rfl
    rw [ec] at d1
    rw [List.map_append, yat_app, hlb] at d3
    have h1 : M4 299 p1 = yen (21, 0) := by rw [d2 p1 (by omega)]; exact hp1
    have hsk := kx_skip (n := n) (s := s) (d := y + 8) (S := S) (R := R) (M := M4) hF (k := p1) (g := 21) (q := p1 + 1 + b.length + 1) c3 (by decide) h1 d1.2.1 (by omega)
    refine ⟨zup M4 299 p1 (yen (21, p1 + 1 + b.length + 1)), ?_, by omega, ⟨fun q hq => ?_, ?_, zup_at, ?_, ?_⟩, ?_⟩
    · obtain ⟨x1, x2, x3, x4, x5⟩ := d1
      exact ⟨by rw [zup_rw (by decide)]; exact x1, by rw [zup_rw (by decide)]; exact x2, by rw [zup_rw (by decide)]; exact x3, fun a' a1 a2 => by rw [zup_rw a2]; exact x4 a' a1 a2, fun k' k1 k2 k3 k4 => by rw [zup_rw (by decide)]; exact x5 k' k1 k2 k3 k4⟩
    · rw [zup_ne (by omega), d2 q (by omega), e2.2.1 q hq]
    · refine yat_cong (fun q h1 h2 => ?_) ya
      rw [hla] at h2
      rw [zup_ne (by omega), d2 q (by omega)]
    · refine yat_cong (fun q h1 h2 => ?_) d3.1
      rw [zup_ne (by omega)]
    · rw [zup_ne (by omega)]; exact d3.2.1
    · refine hz.trans ?_
      rw [q1]
      simp only [zbV]
      unfold ych5
      rw [ex]
      simp only [zbV]
      rw [o1]
      simp only [zbI]
      rw [hsk]
  refine ⟨fun f l hout => ?_, fun l L3 m3 D3 hout hl hkl hL3 => ?_⟩
  · subst hout
    unfold yQC
    rw [if_neg (by decide)]
    intro x M c hx hC hci
    have hx : 8 * (8 - o) + 10 ≤ x := hx
    obtain ⟨y, rfl⟩ : ∃ y, x = y + 10 := ⟨x - 10, by omega⟩
    obtain ⟨M5, d1, d2, d3, hz⟩ := key3 y M c hx hC hci
    obtain ⟨M6, q1, q2⟩ := hQ3 (y + 9) M5 _ (by show 8 * (8 - o) + 6 ≤ y + 9; omega) d1 d2
    have q1 : zcal zPP (y + 9) 120 [zA 295, zI o] (n, s, S, R, M5) = _ := q1
    obtain ⟨M7, t1, t2⟩ := kx_skipJ (n := n) (s := s) (d := y + 8) hF q2 (v := ((c + (L1 c).length + 1 + (L2 (c + (L1 c).length + 1)).length : Nat) : Int)) (by omega)
    refine ⟨M7, ?_, t2⟩
    refine hz.trans ?_
    rw [q1]
    simp only [zbV]
    rw [t1]
    simp only []
    rw [kx_expJ (d := y + 8) hF t2]
  subst hout
  -- up to behind the second SUM
  have key4 : ∀ y M c, 8 * (8 - o) + 10 ≤ y + 10 → yCp M0 M i c → c ≤ i → ∃ M7, yOk M0 M c (yif L1 L2 L3 c) l M7 ∧ c + (yif L1 L2 L3 c).length ≤ l ∧
      (zcal zPP (y + 10) 126 [zA 295, zI o] (n, s, S, R, M) = zbV (zcal zPP (y + 9) 125 [zA 295, zI 23] (n, s, S, R, M7)) fun q12 => some (zU, q12)) := fun y M c hx hC hci => by
    obtain ⟨M5, d1, d2, ⟨x1, x2, x3, x4, x5⟩, hz⟩ := key3 y M c hx hC hci
    obtain ⟨M6, q1, q2⟩ := hQ3 (y + 9) M5 _ (by show 8 * (8 - o) + 6 ≤ y + 9; omega) d1 d2
    have q1 : zcal zPP (y + 9) 120 [zA 295, zI o] (n, s, S, R, M5) = _ := q1
    unfold yif
    have hLc := hL3 (c + (L1 c).length + 1 + (L2 (c + (L1 c).length + 1)).length + 1)
    have hla : ((L1 c).map yen).length = (L1 c).length := List.length_map _
    generalize hA : L1 c = a at *
    generalize hp : c + a.length = p1 at *
    generalize hB2 : L2 (p1 + 1) = b at *
    have hlb : (b.map yen).length = b.length := List.length_map _
    generalize hp2 : p1 + 1 + b.length = p2 at *
    generalize hE : L3 (p2 + 1) = e at *
    have q2 : yOk M0 M5 (p2 + 1) e l M6 := q2
    obtain ⟨y1, y2, y3⟩ := q2
    have hle : (e.map yen).length = e.length := List.length_map _
    have h1 : M6 299 p2 = yen (22, 0) := by rw [y2 p2 (by omega)]; exact x5
    have hsk := kx_skip (n := n) (s := s) (d := y + 8) (S := S) (R := R) (M := M6) hF (k := p2) (g := 22) (q := p2 + 1 + e.length) (by omega) (by decide) h1 y1.2.1 (by omega)
    have hlen : c + (a ++ (21, p2 + 1) :: (b ++ (22, p2 + 1 + e.length) :: e)).length = p2 + 1 + e.length := by
      rw [List.length_append, List.length_cons, List.length_append, List.length_cons]
      omega
    refine ⟨zup M6 299 p2 (yen (22, p2 + 1 + e.length)), ⟨?_, fun q hq => ?_, ?_⟩, by rw [hlen]; omega, ?_⟩
    · rw [hlen]
      obtain ⟨w1, w2, w3, w4, w5⟩ := y1
      exact ⟨by rw [zup_rw (by decide)]; exact w1, by rw [zup_rw (by decide)]; exact w2, by rw [zup_rw (by decide)]; exact w3, fun a' a1 a2 => by rw [zup_rw a2]; exact w4 a' a1 a2, fun k' k1 k2 k3 k4 => by rw [zup_rw (by decide)]; exact w5 k' k1 k2 k3 k4⟩
    · rw [zup_ne (by omega), y2 q (by omega), x1 q hq]
    · rw [List.map_append, List.map_cons, List.map_append, List.map_cons, yat_app, hla, hp]
      refine ⟨yat_cong (fun q h1 h2 => ?_) x2, ?_, ?_⟩
      · rw [hla] at h2
        rw [zup_ne (by omega), y2 q (by omega)]
      · rw [zup_ne (by omega), y2 p1 (by omega)]
        exact x3
      · rw [yat_app, hlb, hp2]
        refine ⟨yat_cong (fun q h1 h2 => ?_) x4, zup_at, yat_cong (fun q h1 h2 => ?_) y3⟩
        · rw [hlb] at h2
          rw [zup_ne (by omega), y2 q (by omega)]
        · rw [zup_ne (by omega)]
    · refine hz.trans ?_
      rw [q1]
      simp only [zbV]
      rw [hsk]
  refine ⟨fun h23 => ?_, fun h23 hlN m4 D4 => ?_⟩
  · unfold yQC
    rw [if_neg (by decide)]
    intro x M c hx hC hci
    have hx : 8 * (8 - o) + 10 ≤ x := hx
    obtain ⟨y, rfl⟩ : ∃ y, x = y + 10 := ⟨x - 10, by omega⟩
    obtain ⟨M7, e1, e2, hz⟩ := key4 y M c hx hC hci
    obtain ⟨M8, f1, f2⟩ := kx_expN (n := n) (s := s) (d := y + 7) (S := S) (R := R) (M := M7) hF hk hN e1.1 hl (by omega) h23
    have f1 : zcal zPP (y + 9) 125 [zA 295, zI 23] (n, s, S, R, M7) = some (zU, (n, s, S, R, M8)) := f1
    refine ⟨M8, ?_, f2⟩
    refine hz.trans ?_
    rw [f1]
    rfl
  · unfold yQC
    rw [if_neg (by decide)]
    intro x M c hx hC hci
    have hx : 8 * (8 - o) + 10 ≤ x := hx
    obtain ⟨y, rfl⟩ : ∃ y, x = y + 10 := ⟨x - 10, by omega⟩
    obtain ⟨M7, e1, e2, hz⟩ := key4 y M c hx hC hci
    have ex := kx_exp (n := n) (s := s) (d := y + 7) (S := S) (R := R) (M := M7) hF hk hN e1.1 hl h23
    have ex : zcal zPP (y + 9) 125 [zA 295, zI 23] (n, s, S, R, M7) = some (zU, (n, s, S, R, zup M7 295 8 ((l + 1 : Nat) : Int))) := ex
    refine ⟨_, ?_, yOk_at e1⟩
    refine hz.trans ?_
    rw [ex]
    rfl
end QF
