/-! A TEXT: a fault leaves the world -/
section QF
variable {S : Nat → Nat × Nat} {R : Nat → Nat → Nat} {M M' M0 M1 M2 : Nat → Nat → Int} {n s d t : Nat} {W : Nat → qWt}
theorem qWd_fault (hw : qWd n S R M W) {t : Nat} (ht : M 306 2 = t) (hrow : ∀ a, a ≠ 9 → a ≠ 305 → a ≠ 308 → a ≠ 310 → (a < 295 ∨ 302 < a) → M1 a = M a) (h8 : ∀ x, x < 705 * t → M1 308 x = M 308 x) (hp : qTp M1) : qWd n S R M1 W := by
  obtain ⟨⟨h1, h2, h3⟩, h4, h5, ⟨t1, t2, t3, t4⟩, -⟩ := hw
  have e6 : M1 306 = M 306 := hrow 306 (by decide) (by decide) (by decide) (by decide) (by decide)
  have e7 : M1 307 = M 307 := hrow 307 (by decide) (by decide) (by decide) (by decide) (by decide)
  refine ⟨⟨h1, h2, qSt_x (fun a ha => hrow a (by omega) (by omega) (by omega) (by omega) (by omega)) h3⟩, ?_, ?_, ⟨fun u hu => ?_, fun u hu => ?_, ?_, t4⟩, hp⟩
  · rw [e6]; exact qTo_x (fun a x y => hrow a (by omega) (by omega) (by omega) (by omega) (by omega)) h4
  · rw [e7]; exact qTo_x (fun a x y => hrow a (by omega) (by omega) (by omega) (by omega) (by omega)) h5
  · rw [e6] at hu
    exact qTe_old (Nat.le_refl _) (fun _ _ => rfl) (fun _ _ _ => rfl) (fun a a1 a2 => hrow a (by omega) (by omega) (by omega) (by omega) (by omega)) (fun x hx => h8 x (by omega)) (t1 u hu)
  · rw [e7] at hu
    exact qTe_old (Nat.le_refl _) (fun _ _ => rfl) (fun _ _ _ => rfl) (fun a a1 a2 => hrow a (by omega) (by omega) (by omega) (by omega) (by omega)) (fun x hx => h8 x (by omega)) (t2 u hu)
  · rw [e6, e7]; exact t3
theorem qb_text_fault (hw : qWd n S R M W) {t len N f p : Nat} (ht : M 306 2 = t) (ht4 : t < 4) (hlen : M 9 9 = len) (hl : len ≤ 300) {B : Nat → Nat} (hB9 : ∀ k, k < len → M 309 k = B k ∧ B k < 256) {M3 : Nat → Nat → Int}
    (q1 : zcal zPP 99 112 [zA 295, zA 304, zI len] (n, s, S, R, M) = zR zPP 98 112 38 [zA 295, zA 304, zI len, zI ((0 : Nat) : Int)] [] (n, s, S, R, M3)) (q2 : yTk B len M3 (N + 1)) (q5 : yCI M3 M3 0 0 [] yE0' yw0) (q6 : ∀ a, a < 295 ∨ 302 < a → M3 a = M a) (hf : f ≠ 0)
    (hc : ∀ n s S R d M00 M l2, qFx S R → yTk B len M00 (N + 1) → yCI M00 M 0 0 [] yE0' yw0 → ∃ M' l3, zR zPP (d + 81) 112 38 [zA 295, zA 304, zI l2, zI ((0 : Nat) : Int)] [] (n, s, S, R, M) = zR zPP (d + 81) 112 52 [zA 295, zA 304, zI l2, zI l3] [] (n, s, S, R, M') ∧ yCF M00 M' f p)
    (hm : ∀ n s S R d b M00 M g, qFx S R → b ≤ 2115 → yTa B len M00 → yMI B len b M00 M 0 0 [] yE0' yw0 → ∃ M', zR zPP (d + 20) 190 25 [zA 305, g] [] (n, s, S, R, M) = some (zI f, (n, s, S, R, M')) ∧ yMF b M00 M' p) : qBo 26 189 [] n s S R M := by
  have hF := hw.1.2.1
  have hT := hw.2.1.1
  obtain ⟨M4, l3, r1, c12, -, c13, crow⟩ := hc n s S R 17 M3 M3 len hF q2 q5
  have h12 : ¬ M4 295 12 = 0 := by rw [c12]; omega
  have er : zcal zPP 99 112 [zA 295, zA 304, zI len] (n, s, S, R, M) = some (zA 0, (n, s, S, R, M4)) := by
    refine q1.trans (Eq.trans r1 ?_)
    rw [e_Reader_read_52]
    simp only [qff hF, if_true, if_neg h12]
    rw [e_Reader_read_61]
  have hX := kx_text1 hF (t := t) (by rw [hT.1.2.2.1]; exact ht) ht4 hlen er
  generalize hM5 : zup (zup (zup M4 9 9 0) 9 10 (M4 295 12)) 9 11 (M4 295 13) = M5 at hX
  have e5 : ∀ a, a ≠ 9 → (a < 295 ∨ 302 < a) → M5 a = M a := fun a h9 ha => by rw [← hM5, zup_rw h9, zup_rw h9, zup_rw h9, crow a (by omega) (by omega) (by omega) (by omega) (by omega), q6 a ha]
  have e305 := e5 305 (by decide) (by decide)
  have hta : yTa B len M5 := ⟨by rw [e305, hw.2.2.2.2.1.2.2]; exact hlen, hl, by rw [e5 309 (by decide) (by decide)]; exact hB9⟩
  have ht5 : M5 306 2 = t := by rw [e5 306 (by decide) (by decide)]; exact ht
  obtain ⟨M6, u1, u2⟩ := mk_start (n := n) (s := s) (d := 95) hF hta ht5 ht4
  obtain ⟨M7, v1, v8, vR⟩ := hm n s S R 78 (705 * t) M5 M6 zU hF (by omega) hta u2
  have hY := km_text1 hF ht5 ht4 hf (Eq.trans u1 v1)
  generalize hM8 : zup (zup (zup M7 305 5 (f : Int)) 305 6 (M7 305 8)) 305 4 0 = M8 at hY
  have e8 : ∀ a, a ≠ 305 → M8 a = M7 a := fun a ha => by rw [← hM8, zup_rw ha, zup_rw ha, zup_rw ha]
  refine ⟨_, n, s, S, R, M5, M8, W, hX, hY, qWd_fault hw ht (fun a a1 a2 a3 a4 a5 => by rw [e8 a a2, vR.1 a a2 a3 a4, e5 a a1 a5]) (fun x hx => by rw [e8 308 (by decide), vR.2.2 x (Or.inl hx), e5 308 (by decide) (by decide)]) ?_, by omega, by omega, rfl, by rw [e8 1 (by decide), vR.1 1 (by decide) (by decide) (by decide), e5 1 (by decide) (by decide)]⟩
  have e9 : M8 9 = M5 9 := by rw [e8 9 (by decide), vR.1 9 (by decide) (by decide) (by decide)]
  have z9 : M8 9 9 = 0 := by rw [e9, ← hM5, zup_ne (by decide), zup_ne (by decide), zup_at]
  have z10 : M8 9 10 = f := by rw [e9, ← hM5, zup_ne (by decide), zup_at]; exact c12
  have z11 : M8 9 11 = p := by rw [e9, ← hM5, zup_at]; exact c13
  have y4 : M8 305 4 = 0 := by rw [← hM8, zup_at]
  have y5 : M8 305 5 = f := by rw [← hM8, zup_ne (by decide), zup_ne (by decide), zup_at]
  have y6 : M8 305 6 = p := by rw [← hM8, zup_ne (by decide), zup_at]; exact v8
  have y23 : M8 305 23 = 1 := by rw [← hM8, zup_ne (by decide), zup_ne (by decide), zup_ne (by decide), vR.2.1 23 (by decide), e305]; exact hw.2.2.2.2.2.2.1
  exact ⟨⟨by rw [z9]; decide, by rw [z9]; decide, by rw [y4, z9]⟩, ⟨by rw [y5, z10], by rw [y6, z11]⟩, y23, fun k hk => absurd hk (by rw [z9]; omega)⟩
end QF
