/-! A TEXT: a new text, and the call -/
section QF
variable {S : Nat → Nat × Nat} {R : Nat → Nat → Nat} {M M' M0 M1 M2 : Nat → Nat → Int} {n s d t : Nat} {W : Nat → qWt}
theorem qb_text_new (hw : qWd n S R M W) {t len N i k : Nat} (ht : M 306 2 = t) (ht4 : t < 4) (hlen : M 9 9 = len) (hl : len ≤ 300) {B : Nat → Nat} (hB9 : ∀ k, k < len → M 309 k = B k ∧ B k < 256) {M3 : Nat → Nat → Int} {O : List (Nat × Nat)} {C : List (Nat × Int)} {E : yEv} {w : yLw} (hi : i ≤ 300) (hP : yPI i k O C E w)
    (q1 : zcal zPP 99 112 [zA 295, zA 304, zI len] (n, s, S, R, M) = zR zPP 98 112 38 [zA 295, zA 304, zI len, zI ((0 : Nat) : Int)] [] (n, s, S, R, M3)) (q2 : yTk B len M3 (N + 1)) (q5 : yCI M3 M3 0 0 [] yE0' yw0) (q6 : ∀ a, a < 295 ∨ 302 < a → M3 a = M a)
    (hc : ∀ n s S R d M00 M l2, qFx S R → yTk B len M00 (N + 1) → yCI M00 M 0 0 [] yE0' yw0 → ∃ M' l3, zR zPP (d + 81) 112 38 [zA 295, zA 304, zI l2, zI ((0 : Nat) : Int)] [] (n, s, S, R, M) = zR zPP (d + 81) 112 52 [zA 295, zA 304, zI l2, zI l3] [] (n, s, S, R, M') ∧ yCI M00 M' i k O E w)
    (hm : ∀ n s S R d b M00 M g, qFx S R → b ≤ 2115 → yTa B len M00 → yMI B len b M00 M 0 0 [] yE0' yw0 → ∃ M', zR zPP (d + 20) 190 25 [zA 305, g] [] (n, s, S, R, M) = some (zI 0, (n, s, S, R, M')) ∧ yMI B len b M00 M' i k C E w) : qBo 26 189 [] n s S R M := by
  have hF := hw.1.2.1
  have hn := hw.1.1
  have hT := hw.2.1.1
  have hI := hw.2.1.2.2.2
  obtain ⟨M4, l3, r1, ⟨c8, c9, c10, c12⟩, crow, ⟨c13, co⟩, ccl, cl⟩ := hc n s S R 17 M3 M3 len hF q2 q5
  have hO : O.length ≤ 300 := by have := hP.1.1; omega
  obtain ⟨S1, R1, Ma, w1, wS, wR, wM, wS', wR', wo, wc, w3, w4⟩ := kc_made (n := n) (s := s) (d := 97) (M := M4) hF hn c12 c9 c10 hO hP.1.2.2 len l3
  have er : zcal zPP 99 112 [zA 295, zA 304, zI len] (n, s, S, R, M) = some (zA n, (n + 5, s + 4 + O.length + 4 * k + 3 + 3, S1, R1, Ma)) := q1.trans (Eq.trans r1 w1)
  have hF1 : qFx S1 R1 := qFx_n (fun a ha => wS a (by omega)) (fun a ha _ => wR a (by omega)) hF
  have m4 : ∀ a, (a < 295 ∨ 302 < a) → M4 a = M a := fun a ha => by rw [crow a (by omega) (by omega) (by omega) (by omega) (by omega), q6 a ha]
  have ma : ∀ a, (a < 295 ∨ 302 < a) → a < n → Ma a = M a := fun a ha hn' => by rw [wM a hn', m4 a ha]
  have hX := kx_text2 (t := t) hF (by rw [hT.1.2.2.1]; exact ht) ht4 hlen er hF1 (by omega) wS'.1 (by rw [ma 10 (by decide) (by omega), hT.1.2.2.1]; exact ht)
  generalize hM5 : zup (zup (zup (zup Ma 9 9 0) 9 10 (Ma 295 12)) 9 11 (Ma 295 13)) 10 14 ((t + 1 : Nat) : Int) = M5 at hX
  generalize hR2 : zupR R1 14 t n = R2 at hX
  have r2 : ∀ a, a ≠ 14 → R2 a = R1 a := fun a ha => by rw [← hR2]; exact zupR_rw ha
  have hF2 : qFx S1 R2 := qFx_n (S := S1) (R := R1) (fun a _ => rfl) (fun a _ ha => r2 a ha) hF1
  have e5 : ∀ a, a ≠ 9 → a ≠ 10 → M5 a = Ma a := fun a h9 h10 => by rw [← hM5, zup_rw h10, zup_rw h9, zup_rw h9, zup_rw h9]
  have e5' : ∀ a, a ≠ 9 → a ≠ 10 → (a < 295 ∨ 302 < a) → a < n → M5 a = M a := fun a h9 h10 ha hn' => by rw [e5 a h9 h10, ma a ha hn']
  have e305 := e5' 305 (by decide) (by decide) (by decide) (by omega)
  have e306 := e5' 306 (by decide) (by decide) (by decide) (by omega)
  have hta : yTa B len M5 := ⟨by rw [e305, hw.2.2.2.2.1.2.2]; exact hlen, hl, by rw [e5' 309 (by decide) (by decide) (by decide) (by omega)]; exact hB9⟩
  have ht5 : M5 306 2 = t := by rw [e306]; exact ht
  obtain ⟨M6, u1, u2⟩ := mk_start (n := n + 5) (s := s + 4 + O.length + 4 * k + 3 + 3) (d := 95) hF2 hta ht5 ht4
  obtain ⟨M7, v1, ⟨v12, v13, v19, v8⟩, vN, vC, vR, vcl⟩ := hm (n + 5) (s + 4 + O.length + 4 * k + 3 + 3) S1 R2 78 (705 * t) M5 M6 zU hF2 (by omega) hta u2
  have ht7 : M7 306 2 = t := by rw [vR.1 306 (by decide) (by decide) (by decide)]; exact ht5
  have hY := km_text2 hF2 ht5 ht4 ht7 (Eq.trans u1 v1)
  generalize hM8 : zup (zup (zup (zup M7 305 5 0) 305 6 (-1)) 305 4 0) 306 2 ((t + 1 : Nat) : Int) = M8 at hY
  have e8 : ∀ a, a ≠ 305 → a ≠ 306 → M8 a = M7 a := fun a ha h6 => by rw [← hM8, zup_rw h6, zup_rw ha, zup_rw ha, zup_rw ha]
  have f5 : ∀ a, a ≠ 305 → a ≠ 306 → a ≠ 308 → a ≠ 310 → M8 a = M5 a := fun a a1 a2 a3 a4 => by rw [e8 a a1 a2, vR.1 a a1 a3 a4]
  have hrow : ∀ a, a ≠ 9 → a ≠ 10 → a ≠ 305 → a ≠ 306 → a ≠ 308 → a ≠ 310 → (a < 295 ∨ 302 < a) → a < n → M8 a = M a := fun a a1 a2 a3 a4 a5 a6 a7 a8 => by rw [f5 a a3 a4 a5 a6, e5' a a1 a2 a7 a8]
  have e8r : M8 308 = M7 308 := e8 308 (by decide) (by decide)
  have h308 : ∀ x, x < 705 * t → M8 308 x = M 308 x := fun x hx => by rw [e8r, vR.2.2 x (Or.inl hx), e5' 308 (by decide) (by decide) (by decide) (by omega)]
  have e6 : M8 306 = qup (M 306) 2 ((t + 1 : Nat) : Int) := by
    rw [← hM8, qup_zup, zup_rw (by decide), zup_rw (by decide), zup_rw (by decide), vR.1 306 (by decide) (by decide) (by decide), e306]
  have e7 : M8 307 = M 307 := hrow 307 (by decide) (by decide) (by decide) (by decide) (by decide) (by decide) (by decide) (by omega)
  have hbig : ∀ a, n ≤ a → M8 a = Ma a := fun a ha => by rw [f5 a (by omega) (by omega) (by omega) (by omega), e5 a (by omega) (by omega)]
  have e10 : ∀ a, 10 ≤ a → a ≤ 20 → M8 a = zup M 10 14 ((t + 1 : Nat) : Int) a := fun a x y => by
    by_cases h : a = 10
    · subst h
      rw [f5 10 (by decide) (by decide) (by decide) (by decide), ← hM5]
      funext j
      by_cases hj : j = 14
      · rw [hj, zup_at, zup_at]
      · rw [zup_ne hj, zup_ne hj, zup_rw (by decide), zup_rw (by decide), zup_rw (by decide), ma 10 (by decide) (by omega)]
    · rw [hrow a (by omega) h (by omega) (by omega) (by omega) (by omega) (by omega) (by omega), zup_rw h]
  have hI2 : qIn (qup (M 306) 2 ((t + 1 : Nat) : Int)) := qIn_f14 (by rw [ht]; omega) hI
  have R14 : ∀ u, u ≠ t → R2 14 u = R 14 u := fun u hu => by rw [← hR2, zupR_ne hu, wR 14 (by omega)]
  have R14t : R2 14 t = n := by rw [← hR2]; exact zupR_at
  have R151 : R2 151 = R 151 := by rw [r2 151 (by decide), wR 151 (by omega)]
  obtain ⟨T1, T2, T3, T4⟩ := hw.2.2.2.1
  have old : ∀ q u, u < t → qTe n S R M q u (W u) → qTe (n + 5) S1 R2 M8 q u (W u) := fun q u hu h => qTe_old (by omega) wS (fun a a1 a2 => by rw [r2 a (by omega), wR a a2]) (fun a a1 a2 => hrow a (by omega) (by omega) (by omega) (by omega) (by omega) (by omega) (by omega) a2) (fun x hx => h308 x (by omega)) h
  have new : qTe (n + 5) S1 R2 M8 n t (fun L => (w L).map fun u => u.2.2.2.2) := by
    refine qTe_new (i := i) (O := O) (C := C) (E := E) (w := w) hn hP hi wS' (by rw [r2 n (by omega)]; exact wR') ?_ (fun x hx => ?_) (fun L hL => ?_) (by rw [e8r]; exact v8) (by rw [e8r]; exact vC) (fun x hx => by rw [e8r]; exact vcl x hx)
    · rw [hbig _ (by omega)]
      refine yat_cong (fun x h1 h2 => ?_) co
      rw [List.length_map] at h2
      exact wo x (by omega)
    · rw [hbig _ (by omega)]
      obtain ⟨b1, b2⟩ := ccl x hx
      refine ⟨by rw [wc _ (by omega)]; exact b1, fun h => ?_⟩
      obtain ⟨b3, b4, b5⟩ := b2 h
      exact ⟨by rw [wc _ (by omega)]; exact b3, fun h' => by rw [wc _ (by omega)]; exact b4 h', fun h' => by rw [wc _ (by omega)]; exact b5 h'⟩
    · rw [hbig _ (by omega), hbig _ (by omega), w3, w4]
      exact cl L hL
  refine ⟨_, _, _, S1, R2, M5, M8, yupd W t (fun L => (w L).map fun u => u.2.2.2.2), hX, hY, ⟨⟨by omega, hF2, qSt_x (fun a ha => hrow a (by omega) (by omega) (by omega) (by omega) (by omega) (by omega) (by omega) (by omega)) hw.1.2.2⟩, ?_, ?_, ⟨fun u hu => ?_, fun u hu => ?_, ?_, fun u hu => ?_⟩, ?_⟩, by omega, by have := hP.1.2.2; omega, wS 1 (by omega), hrow 1 (by decide) (by decide) (by decide) (by decide) (by decide) (by decide) (by decide) (by omega)⟩
  · rw [e6]
    exact qTo_told (M := M) (fun a x y => hrow a (by omega) (by omega) (by omega) (by omega) (by omega) (by omega) (by omega) (by omega)) (qup_ne (by decide)) (by rw [qup_ne (by decide)]; exact Int.le_refl _) (qup_ne (by decide)) (fun k a b => qup_ne (by omega)) (fun k a => qup_ne (by omega)) (qTw_x (fun a x y => e10 a x y) (qTw_f14 _ hT)) hI2 hw.2.1
  · rw [e7]
    exact qTo_x (fun a x y => hrow a (by omega) (by omega) (by omega) (by omega) (by omega) (by omega) (by omega) (by omega)) hw.2.2.1
  · have e2 : M8 306 2 = ((t + 1 : Nat) : Int) := by rw [← hM8, zup_at]
    rw [e2] at hu
    by_cases hut : u = t
    · rw [hut, R14t, yupd_at]; exact new
    · rw [R14 u hut, yupd_ne hut]
      exact old _ u (by omega) (T1 u (by rw [ht]; omega))
  · rw [e7] at hu
    have hut : u < t := by rw [ht] at T3; omega
    rw [R151, yupd_ne (by omega)]
    exact old _ u hut (T2 u hu)
  · have e2 : M8 306 2 = ((t + 1 : Nat) : Int) := by rw [← hM8, zup_at]
    rw [e7, e2]
    rw [ht] at T3
    omega
  · obtain ⟨x1, x2⟩ := T4 u hu
    refine ⟨?_, ?_⟩
    · by_cases hut : u = t
      · rw [hut, R14t]; exact Or.inr ⟨by omega, by rw [wS'.1]⟩
      · rw [R14 u hut]
        rcases x1 with h | ⟨h, h'⟩
        · exact Or.inl h
        · exact Or.inr ⟨by omega, by rw [wS _ h]; exact h'⟩
    · rw [R151]
      rcases x2 with h | ⟨h, h'⟩
      · exact Or.inl h
      · exact Or.inr ⟨by omega, by rw [wS _ h]; exact h'⟩
  · have e9 : M8 9 = M5 9 := f5 9 (by decide) (by decide) (by decide) (by decide)
    have z9 : M8 9 9 = 0 := by rw [e9, ← hM5, zup_rw (by decide), zup_ne (by decide), zup_ne (by decide), zup_at]
    have z10 : M8 9 10 = 0 := by rw [e9, ← hM5, zup_rw (by decide), zup_ne (by decide), zup_at, wM 295 (by omega)]; exact c12
    have z11 : M8 9 11 = -1 := by rw [e9, ← hM5, zup_rw (by decide), zup_at, wM 295 (by omega)]; exact c13
    have y4 : M8 305 4 = 0 := by rw [← hM8, zup_rw (by decide), zup_at]
    have y5 : M8 305 5 = 0 := by rw [← hM8, zup_rw (by decide), zup_ne (by decide), zup_ne (by decide), zup_at]
    have y6 : M8 305 6 = -1 := by rw [← hM8, zup_rw (by decide), zup_ne (by decide), zup_at]
    have y23 : M8 305 23 = 1 := by rw [← hM8, zup_rw (by decide), zup_ne (by decide), zup_ne (by decide), zup_ne (by decide), vR.2.1 23 (by decide), e305]; exact hw.2.2.2.2.2.2.1
    exact ⟨⟨by rw [z9]; decide, by rw [z9]; decide, by rw [y4, z9]⟩, ⟨by rw [y5, z10], by rw [y6, z11]⟩, y23, fun k hk => absurd hk (by rw [z9]; omega)⟩
theorem qb_text (hw : qWd n S R M W) : qBo 26 189 [] n s S R M := by
  have hF := hw.1.2.1
  have a2 : 0 ≤ M 306 2 ∧ M 306 2 ≤ 4 := hw.2.1.2.2.2.2.2.1
  obtain ⟨t, ht⟩ := Int.eq_ofNat_of_zero_le a2.1
  by_cases h4 : t = 4
  · exact qb_text_room hw (by rw [ht, h4]; rfl)
  obtain ⟨⟨p1, p2, p3⟩, -, -, p7⟩ := hw.2.2.2.2
  obtain ⟨len, hlen⟩ := Int.eq_ofNat_of_zero_le p1
  have hB : ∀ k, k < len → M 304 k = ((M 309 k).toNat : Nat) ∧ (M 309 k).toNat < 256 := fun k hk => by
    obtain ⟨b1, b2, b3⟩ := p7 k (by omega)
    omega
  have hB9 : ∀ k, k < len → M 309 k = ((M 309 k).toNat : Nat) ∧ (M 309 k).toNat < 256 := fun k hk => by
    obtain ⟨b1, b2, b3⟩ := p7 k (by omega)
    omega
  obtain ⟨N, M3, q1, q2, q3, q4, q5, q6⟩ := kx_start (n := n) (s := s) (d := 91) (B := fun k => (M 309 k).toNat) hF hw.1.2.2 hB (by omega)
  have hN := ysg_end (B := fun k => (M 309 k).toNat) (fun k hk => (hB k hk).2) q4
  rcases yread hN (by omega) (fun _ => ywo_le) (N + 1) 0 0 [] [] yE0' yw0 (by omega) (Nat.zero_le _) yPI0 with ⟨f, p, hf, hc, hm⟩ | ⟨i, k, O, C, E, w, hi, hP, hc, hm⟩
  · exact qb_text_fault hw ht (by omega) hlen (by omega) hB9 q1 q2 q5 q6 hf hc hm
  · exact qb_text_new hw ht (by omega) hlen (by omega) hB9 (by omega) hP q1 q2 q5 q6 hc hm
end QF
