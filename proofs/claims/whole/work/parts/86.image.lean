/-! image, back: a Town becomes another -/
theorem zupR_rw {R : Nat → Nat → Nat} {a k q x : Nat} (h : q ≠ a) : zupR R a k x q = R q := by
  funext j
  exact if_neg (fun z => h z.1)
theorem zupR_at {R : Nat → Nat → Nat} {a k x : Nat} : zupR R a k x a k = x := if_pos ⟨rfl, rfl⟩
theorem zupR_ne {R : Nat → Nat → Nat} {a k q j x : Nat} (h : j ≠ k) : zupR R a k x q j = R q j := if_neg (fun z => h z.2)
theorem qTo_cong {M : Nat → Nat → Int} {t : Nat} {A A' : Nat → Int} (h : ∀ k, k < 4880 → A' k = A k) (ht : qTo M t A) : qTo M t A' := by
  obtain ⟨hT, hR, hS, hI⟩ := ht
  have hA4 := hI.2.2.2.2.1
  have hzr : ∀ o y, o < 5 → y < 24 → (A' (11 + 24 * o + y) = 0 ↔ A (11 + 24 * o + y) = 0) := fun o y ho hy => by rw [h _ (by omega)]
  refine ⟨qTw_cong (fun k _ _ _ => h k (by omega)) hzr hT, qRs_cong (h 0 (by decide)) (fun k _ _ => h k (by omega)) (fun i _ => h _ (by omega)) hI.2.2.2.2.2.2.2.2.2.2.1.2 hR, ⟨by rw [h 4 (by decide)]; exact hS.1, fun i hi => ?_⟩, ?_⟩
  · rw [h 4 (by decide)] at hi
    obtain ⟨o1, o2⟩ := hS.2 i hi
    have hk : ∀ k, k < 155 → A' (qsx i + k) = A (qsx i + k) := fun k hk => h _ (by unfold qsx; omega)
    have hq := qsn_eq hk
    refine ⟨qRs_cong (hq 0 (Or.inl rfl)) (fun k a b => hq k (Or.inr (Or.inl ⟨a, b⟩))) (fun j hj => hq _ (Or.inr (Or.inr ⟨by omega, by omega⟩))) ?_ o1, qSi_eq (h 0 (by decide)) (h 1 (by decide)) hzr hI.1.2 hk o2⟩
    show (if (10 : Nat) = 0 then _ else if 7 ≤ 10 ∧ 10 < 131 then A (qsx i + 1 + (10 - 7)) else _) ≤ 30
    rw [if_neg (by decide), if_pos (by decide)]
    exact o2.2.2.2.2.1.2
  · refine qIn_cong (fun k _ _ _ => h k (by omega)) (by rw [h 4 (by decide)]; exact hI.2.2.2.2.1) (by rw [h 7 (by decide)]; exact hI.2.2.2.2.2.2.2.1) (by rw [h 8 (by decide)]; exact hI.2.2.2.2.2.2.2.2.1) (by rw [h 9 (by decide)]; exact hI.2.2.2.2.2.2.2.2.2.1) (by rw [h 10 (by decide)]; exact hI.2.2.2.2.2.2.2.2.2.2.1) (fun o' y' h1 h2 => ?_) hI
    rw [h _ (by omega)]
    exact hI.2.2.2.2.2.2.2.2.2.2.2.1 o' y' h1 h2
theorem qLT_R {S : Nat → Nat × Nat} {R R1 : Nat → Nat → Nat} {t : Nat} (h : ∀ a, t ≤ a → a ≤ t + 136 → a ≠ t + 4 → R1 a = R a) (ht : qLT S R t) : qLT S R1 t := by
  obtain ⟨h1, h2, h3, h4, h5⟩ := ht
  refine ⟨h1, ?_, ?_, ⟨h4.1, h4.2.1, ?_⟩, fun i hi => ⟨?_, ?_⟩⟩
  · rw [h t (by omega) (by omega) (by omega)]; exact h2
  · unfold qLR at *
    rw [h (t + 11) (by omega) (by omega) (by omega)]; exact h3
  · rw [h (t + 15) (by omega) (by omega) (by omega)]; exact h4.2.2
  · rw [h (t + 16) (by omega) (by omega) (by omega)]; exact (h5 i hi).1
  · have := (h5 i hi).2
    unfold qLR at *
    rw [h (t + 17 + 4 * i) (by omega) (by omega) (by omega)]; exact this
theorem qFx_R {S : Nat → Nat × Nat} {R R1 : Nat → Nat → Nat} (h : ∀ a, a ≠ 14 → a ≠ 151 → R1 a = R a) (hF : qFx S R) : qFx S R1 := by
  obtain ⟨⟨h1, ⟨h2, h3, h4⟩, h5, h6, h7, h8, h9, h10⟩, h11, h12⟩ := hF
  refine ⟨⟨?_, ⟨qLT_R (fun a _ _ x => h a (by omega) (by omega)) h2, qLT_R (fun a _ _ x => h a (by omega) (by omega)) h3, ?_⟩, ?_, ?_, ?_, ?_, h9, h10⟩, ?_, ?_⟩
  · rw [h 9 (by decide) (by decide)]; exact h1
  · unfold qLR at *
    rw [h 291 (by decide) (by decide)]; exact h4
  · rw [h 284 (by decide) (by decide)]; exact h5
  · rw [h 286 (by decide) (by decide)]; exact h6
  · rw [h 289 (by decide) (by decide)]; exact h7
  · rw [h 295 (by decide) (by decide)]; exact h8
  · unfold qLM at *
    rw [h 305 (by decide) (by decide)]; exact h11
  · rw [h 4 (by decide) (by decide), h 5 (by decide) (by decide)]; exact h12
theorem qTe_R {n : Nat} {S : Nat → Nat × Nat} {R R1 : Nat → Nat → Nat} {M : Nat → Nat → Int} {q t : Nat} {w : qWt} (h : ∀ a, 319 ≤ a → R1 a = R a) (ht : qTe n S R M q t w) : qTe n S R1 M q t w := by
  have hq : 319 ≤ q := by
    obtain ⟨-, -, -, -, -, ⟨O, len, lo, hi, hq, -⟩, -⟩ := ht
    exact hq.2.1.1
  have e := h q hq
  unfold qTe qTm qTC qDe at *
  rw [e]
  exact ht
section QF
variable {S : Nat → Nat × Nat} {R : Nat → Nat → Nat} {M M' M0 M1 : Nat → Nat → Int} {n s d : Nat} {A : Nat → Int} {W : Nat → qWt}
/-- the steps of one become those of another -/
theorem kr_stepsBecome {q u : Nat} (q1 : S q = (6, 3)) (q2 : S (q + 1) = (24, 30)) (q3 : R q 0 = q + 1) (q4 : ∀ i, i < 30 → R (q + 1) i = q + 2 + 4 * i ∧ qLR S R (q + 2 + 4 * i))
    (u1 : S u = (6, 3)) (u2 : S (u + 1) = (24, 30)) (u3 : R u 0 = u + 1) (u4 : ∀ i, i < 30 → R (u + 1) i = u + 2 + 4 * i ∧ qLR S R (u + 2 + 4 * i))
    (hap : q + 121 < u ∨ u + 121 < q) (hs : qSp M u A) (hA4 : 0 ≤ A 4 ∧ A 4 ≤ 30) : ∃ M', zcal zPP (d + 2) 156 [zA q, zA u] (n, s, S, R, M) = some (zU, (n, s, S, R, M')) ∧ qSp M' q A ∧ ∀ a, a < q ∨ q + 121 < a → M' a = M a := by
  obtain ⟨⟨s1, s2, s3⟩, s4⟩ := hs
  obtain ⟨f, hf⟩ := Int.eq_ofNat_of_zero_le s2
  obtain ⟨z, hz⟩ := Int.eq_ofNat_of_zero_le hA4.1
  have hf30 : f < 30 := by omega
  have L := qlpI (E := fun i (x : (Nat → Nat → Int) × zV × zV) => (∀ a, a < q ∨ q + 121 < a → x.1 a = M a) ∧ x.1 q 1 = f ∧ x.1 q 2 = z ∧ ∀ j, j < i → qRs x.1 (q + 2 + 4 * ((f + j) % 30)) (qsn A (qsx j)))
    (P := fun i x => zR zPP (d + 1) 156 10 [zA q, zA u, zI (i : Nat), x.2.1, x.2.2] [] (n, s, S, R, x.1)) (N := z) (fun i x hi hx => by
      obtain ⟨M1, g1, g2⟩ := x
      obtain ⟨e1, e2, e3, e4⟩ := hx
      have e1 : ∀ a, a < q ∨ q + 121 < a → M1 a = M a := e1
      have e2 : M1 q 1 = f := e2
      have e3 : M1 q 2 = z := e3
      have hlt : (f + i) % 30 < 30 := Nat.mod_lt _ (by decide)
      have a1 := kr_rowAt (n := n) (s := s) (d := d) (M := M1) q1 q2 q3 (fun i hi => (q4 i hi).1) e2 (i := i) (by omega)
      have a2 := kr_rowAt (n := n) (s := s) (d := d) (M := M1) u1 u2 u3 (fun i hi => (u4 i hi).1) (f := f) (by rw [e1 u (by omega)]; exact hf) (i := i) (by omega)
      obtain ⟨o1, o2⟩ := s4 i (by omega)
      have ho : qrw M u i = u + 2 + 4 * ((f + i) % 30) := by
        unfold qrw
        rw [hf, Int.toNat_natCast]
      rw [ho] at o1
      have o1' : qRs M1 (u + 2 + 4 * ((f + i) % 30)) (qsn A (qsx i)) := qRs_x (fun a x y => e1 a (by omega)) o1
      obtain ⟨M2, b1, b2⟩ := kr_becomes (n := n) (s := s) (d := d) (M := M1) (q4 _ hlt).2 (u4 _ hlt).2 (by omega)
      have hS1 := (q4 _ hlt).2.1
      have hS2 := (u4 _ hlt).2.1
      refine ⟨(M2, zA (q + 2 + 4 * ((f + i) % 30)), zA (u + 2 + 4 * ((f + i) % 30))), ⟨fun a ha => ?_, ?_, ?_, fun j hj => ?_⟩, ?_⟩
      · show M2 a = M a
        rw [b2.1 a (by omega)]; exact e1 a ha
      · show M2 q 1 = f
        rw [b2.1 q (by omega)]; exact e2
      · show M2 q 2 = z
        rw [b2.1 q (by omega)]; exact e3
      · show qRs M2 _ _
        by_cases hji : j = i
        · subst hji
          refine qCp_Rs b2 ?_ o1'
          show (if (10 : Nat) = 0 then _ else if 7 ≤ 10 ∧ 10 < 131 then A (qsx j + 1 + (10 - 7)) else _) ≤ 30
          rw [if_neg (by decide), if_pos (by decide)]
          exact o2.2.2.2.2.1.2
        · exact qRs_x (fun a x y => b2.1 a (by omega)) (e4 j (by omega))
      · show zR _ _ _ _ _ _ _ = zR _ _ _ _ _ _ _
        rw [e_Steps_becomes_10]
        simp only [q1, if_true, e3]
        rw [if_pos (by omega), a1]
        simp only [zbA]
        rw [a2]
        simp only [zbA]
        rw [if_neg (by omega), if_neg (show ¬ (S (q + 2 + 4 * ((f + i) % 30))).1 = 0 by rw [hS1]; decide), if_neg (by omega), if_neg (show ¬ (S (u + 2 + 4 * ((f + i) % 30))).1 = 0 by rw [hS2]; decide), b1]
        simp only [zbV]
        rw [qw1 (show i < 100000 by omega)]) (zup (zup M q 1 (M u 1)) q 2 (M u 2), zU, zU) ⟨fun a ha => by
          show zup (zup M q 1 (M u 1)) q 2 (M u 2) a = M a
          rw [zup_rw (by omega), zup_rw (by omega)], by
          show zup (zup M q 1 (M u 1)) q 2 (M u 2) q 1 = f
          rw [zup_ne (by decide), zup_at, hf], by
          show zup (zup M q 1 (M u 1)) q 2 (M u 2) q 2 = z
          rw [zup_at, s1, hz], fun j hj => absurd hj (Nat.not_lt_zero j)⟩
  obtain ⟨⟨M1, g1, g2⟩, ⟨e1, e2, e3, e4⟩, L⟩ := L
  have e1 : ∀ a, a < q ∨ q + 121 < a → M1 a = M a := e1
  have e2 : M1 q 1 = f := e2
  have e3 : M1 q 2 = z := e3
  have e4 : ∀ j, j < z → qRs M1 (q + 2 + 4 * ((f + j) % 30)) (qsn A (qsx j)) := e4
  refine ⟨M1, ?_, ⟨⟨by rw [e3, hz], by omega, by omega⟩, fun i hi => ⟨?_, (s4 i hi).2⟩⟩, e1⟩
  · rw [c_Steps_becomes]
    simp only [q1, u1, if_true]
    rw [zup_r (show u ≠ q by omega)]
    refine Eq.trans L ?_
    show zR _ _ _ _ _ _ _ = _
    rw [e_Steps_becomes_10]
    simp only [q1, if_true, e3]
    rw [if_neg (by omega)]
  · have := e4 i (by omega)
    unfold qrw
    rw [e2, Int.toNat_natCast]
    exact this
theorem va_cpy0 {f g : Nat → Int} {N i : Nat} (hi : i < N) : va_cpy f g 0 0 N i = f i := by
  unfold va_cpy
  rw [if_pos (by omega), Nat.sub_zero i, Nat.zero_add i]
/-- a row as another was -/
theorem qcp_r {a b N i : Nat} (hi : i < N) : zrow M a (va_cpy (M b) (M a) 0 0 N) a i = M b i := by
  rw [zrow_self]
  exact va_cpy0 hi
theorem qTw_of {t u : Nat} (h0 : ∀ k, 12 ≤ k → k ≤ 17 → M' t k = M u k) (h1 : ∀ i, i < 5 → M' (t + 1) i = M (u + 1) i) (h2 : ∀ i, i < 24 → M' (t + 2) i = M (u + 2) i) (h3 : ∀ i, i < 5 → M' (t + 3) i = M (u + 3) i) (h5 : ∀ i, i < 5 → M' (t + 5) i = M (u + 5) i) (h6 : ∀ i, i < 5 → M' (t + 6) i = M (u + 6) i) (h7 : ∀ i, i < 10 → M' (t + 7) i = M (u + 7) i) (h8 : ∀ i, i < 4 → M' (t + 8) i = M (u + 8) i) (h9 : ∀ i, i < 8 → M' (t + 9) i = M (u + 9) i) (h10 : ∀ i, i < 8 → M' (t + 10) i = M (u + 10) i) (hu : qTw M u A) : qTw M' t A := by
  obtain ⟨a, b1, b2, b3, b4, b5, b6, b7, b8, b9⟩ := hu
  refine ⟨?_, fun i hi => ?_, fun i hi => ?_, fun i hi => ?_, fun i hi => ?_, fun i hi => ?_, fun i hi => ?_, fun i hi => ?_, fun i hi => ?_, fun i hi => ?_⟩
  · rw [h0 12 (by decide) (by decide), h0 13 (by decide) (by decide), h0 14 (by decide) (by decide), h0 15 (by decide) (by decide), h0 16 (by decide) (by decide), h0 17 (by decide) (by decide)]; exact a
  · rw [h1 i hi]; exact b1 i hi
  · rw [h2 i hi]; exact b2 i hi
  · rw [h3 i hi]; exact b3 i hi
  · rw [h5 i hi]; exact b4 i hi
  · rw [h6 i hi]; exact b5 i hi
  · rw [h7 i hi]; exact b6 i hi
  · rw [h8 i hi]; exact b7 i hi
  · rw [h9 i hi]; exact b8 i hi
  · rw [h10 i hi]; exact b9 i hi
/-- rows copied -/
def qyr (M : Nat → Nat → Int) (a b N : Nat) : Nat → Nat → Int := zrow M a (va_cpy (M b) (M a) 0 0 N)
theorem qyr_rw {a b N q : Nat} (h : q ≠ a) : qyr M a b N q = M q := zrow_rw h
theorem qyr_at {a b N i : Nat} (hi : i < N) : qyr M a b N a i = M b i := qcp_r hi
def qTc (M : Nat → Nat → Int) (t u : Nat) : Nat → Nat → Int := qyr (qyr (qyr (qyr (qyr (qyr (qyr (qyr (qyr M (t + 1) (u + 1) 5) (t + 2) (u + 2) 24) (t + 3) (u + 3) 5) (t + 5) (u + 5) 5) (t + 6) (u + 6) 5) (t + 7) (u + 7) 10) (t + 8) (u + 8) 4) (t + 9) (u + 9) 8) (t + 10) (u + 10) 8
theorem qTc_row {t u : Nat} : ∀ a, a < t + 1 ∨ t + 10 < a → qTc M t u a = M a := fun a ha => by
  unfold qTc
  rw [qyr_rw (by omega), qyr_rw (by omega), qyr_rw (by omega), qyr_rw (by omega), qyr_rw (by omega), qyr_rw (by omega), qyr_rw (by omega), qyr_rw (by omega), qyr_rw (by omega)]
theorem qTc_k {t u : Nat} (hap : t + 136 < u ∨ u + 136 < t) : (∀ i, i < 5 → qTc M t u (t + 1) i = M (u + 1) i) ∧ (∀ i, i < 24 → qTc M t u (t + 2) i = M (u + 2) i) ∧ (∀ i, i < 5 → qTc M t u (t + 3) i = M (u + 3) i) ∧ (∀ i, i < 5 → qTc M t u (t + 5) i = M (u + 5) i) ∧ (∀ i, i < 5 → qTc M t u (t + 6) i = M (u + 6) i) ∧ (∀ i, i < 10 → qTc M t u (t + 7) i = M (u + 7) i) ∧ (∀ i, i < 4 → qTc M t u (t + 8) i = M (u + 8) i) ∧ (∀ i, i < 8 → qTc M t u (t + 9) i = M (u + 9) i) ∧ (∀ i, i < 8 → qTc M t u (t + 10) i = M (u + 10) i) := by
  unfold qTc
  refine ⟨fun i hi => ?_, fun i hi => ?_, fun i hi => ?_, fun i hi => ?_, fun i hi => ?_, fun i hi => ?_, fun i hi => ?_, fun i hi => ?_, fun i hi => ?_⟩
  · rw [qyr_rw (by omega), qyr_rw (by omega), qyr_rw (by omega), qyr_rw (by omega), qyr_rw (by omega), qyr_rw (by omega), qyr_rw (by omega), qyr_rw (by omega), qyr_at hi]
  · rw [qyr_rw (by omega), qyr_rw (by omega), qyr_rw (by omega), qyr_rw (by omega), qyr_rw (by omega), qyr_rw (by omega), qyr_rw (by omega), qyr_at hi, qyr_rw (by omega)]
  · rw [qyr_rw (by omega), qyr_rw (by omega), qyr_rw (by omega), qyr_rw (by omega), qyr_rw (by omega), qyr_rw (by omega), qyr_at hi, qyr_rw (by omega), qyr_rw (by omega)]
  · rw [qyr_rw (by omega), qyr_rw (by omega), qyr_rw (by omega), qyr_rw (by omega), qyr_rw (by omega), qyr_at hi, qyr_rw (by omega), qyr_rw (by omega), qyr_rw (by omega)]
  · rw [qyr_rw (by omega), qyr_rw (by omega), qyr_rw (by omega), qyr_rw (by omega), qyr_at hi, qyr_rw (by omega), qyr_rw (by omega), qyr_rw (by omega), qyr_rw (by omega)]
  · rw [qyr_rw (by omega), qyr_rw (by omega), qyr_rw (by omega), qyr_at hi, qyr_rw (by omega), qyr_rw (by omega), qyr_rw (by omega), qyr_rw (by omega), qyr_rw (by omega)]
  · rw [qyr_rw (by omega), qyr_rw (by omega), qyr_at hi, qyr_rw (by omega), qyr_rw (by omega), qyr_rw (by omega), qyr_rw (by omega), qyr_rw (by omega), qyr_rw (by omega)]
  · rw [qyr_rw (by omega), qyr_at hi, qyr_rw (by omega), qyr_rw (by omega), qyr_rw (by omega), qyr_rw (by omega), qyr_rw (by omega), qyr_rw (by omega), qyr_rw (by omega)]
  · rw [qyr_at hi, qyr_rw (by omega), qyr_rw (by omega), qyr_rw (by omega), qyr_rw (by omega), qyr_rw (by omega), qyr_rw (by omega), qyr_rw (by omega), qyr_rw (by omega)]
theorem kt_becomes1 {t u : Nat} (ht : qLT S R t) (hu : qLT S R u) (hap : t + 136 < u ∨ u + 136 < t) (hN : ∀ i, i < 4 → R (u + 4) i = 0 ∨ (S (R (u + 4) i)).1 = 7) :
    ∃ R1, zcal zPP (d + 3) 176 [zA t, zA u] (n, s, S, R, M) = zR zPP (d + 2) 176 87 [zA t, zA u, zI 4] [] (n, s, S, R1, qTc M t u) ∧ (∀ a, a ≠ t + 4 → R1 a = R a) ∧ ∀ i, i < 4 → R1 (t + 4) i = R (u + 4) i := by
  have ht0 := ht
  have hu0 := hu
  obtain ⟨⟨t0, t1, t2, t3, t4, t5, t6, t7, t8, t9, t10⟩, ⟨r0, r1, r2, r3, r4, r5, r6, r7, r8, r9, r10, r11⟩, -, -, -⟩ := ht
  obtain ⟨⟨u0, u1, u2, u3, u4, u5, u6, u7, u8, u9, u10⟩, ⟨v0, v1, v2, v3, v4, v5, v6, v7, v8, v9, v10, v11⟩, -, -, -⟩ := hu
  have c0 : (0 : Int).toNat = 0 := rfl
  have c4 : (4 : Int).toNat = 4 := rfl
  have c5 : (5 : Int).toNat = 5 := rfl
  have c8 : (8 : Int).toNat = 8 := rfl
  have c10 : (10 : Int).toNat = 10 := rfl
  have c24 : (24 : Int).toNat = 24 := rfl
  have e := c_Town_becomes (d + 2) t u (n, s, S, R, M)
  simp only [t0, t1, u0, u1, r0, v0, if_true, c0, c5] at e
  rw [if_pos (by decide)] at e
  generalize hMa : zrow M (t + 1) (va_cpy (M (u + 1)) (M (t + 1)) 0 0 5) = Ma at e
  rw [e_Town_becomes_8] at e
  simp only [t0, t2, u0, u2, r1, v1, if_true, c0, c24] at e
  rw [if_pos (by decide)] at e
  generalize hMb : zrow Ma (t + 2) (va_cpy (Ma (u + 2)) (Ma (t + 2)) 0 0 24) = Mb at e
  rw [e_Town_becomes_16] at e
  simp only [t0, t3, u0, u3, r2, v2, if_true, c0, c5] at e
  rw [if_pos (by decide)] at e
  generalize hMc : zrow Mb (t + 3) (va_cpy (Mb (u + 3)) (Mb (t + 3)) 0 0 5) = Mc at e
  rw [e_Town_becomes_24] at e
  have L := qlpI (E := fun i (R1 : Nat → Nat → Nat) => (∀ a, a ≠ t + 4 → R1 a = R a) ∧ ∀ j, j < i → R1 (t + 4) j = R (u + 4) j)
    (P := fun i R1 => zR zPP (d + 2) 176 26 [zA t, zA u, zI (i : Nat)] [] (n, s, S, R1, Mc)) (N := 4) (fun i R1 hi hx => by
      obtain ⟨x1, x2⟩ := hx
      have y1 : R1 t = R t := x1 t (by omega)
      have y2 : R1 u = R u := x1 u (by omega)
      have y3 : R1 (u + 4) = R (u + 4) := x1 _ (by omega)
      refine ⟨zupR R1 (t + 4) i (R (u + 4) i), ⟨fun a ha => by rw [zupR_rw ha]; exact x1 a ha, fun j hj => ?_⟩, ?_⟩
      · by_cases hji : j = i
        · subst hji; exact zupR_at
        · rw [zupR_ne hji]; exact x2 j (by omega)
      · show zR _ _ _ _ _ _ _ = zR _ _ _ _ _ _ _
        rw [e_Town_becomes_26, if_pos (by omega)]
        simp only [t0, t4, u0, u4, y1, y2, r3, v3, y3, if_true, Int.toNat_natCast]
        rw [if_pos (by refine ⟨Or.inr ?_, by omega, by omega⟩; first | trivial | rfl), if_pos (by refine ⟨Or.inr ⟨?_, hN i hi⟩, by omega, by omega⟩; first | trivial | rfl), qw1 (by omega)]) R ⟨fun _ _ => rfl, fun j hj => absurd hj (Nat.not_lt_zero j)⟩
  obtain ⟨R1, ⟨x1, x2⟩, L⟩ := L
  have L' : zR zPP (d + 2) 176 26 [zA t, zA u, zI 0] [] (n, s, S, R, Mc) = zR zPP (d + 2) 176 26 [zA t, zA u, zI 4] [] (n, s, S, R1, Mc) := L
  rw [L', e_Town_becomes_26, if_neg (by decide)] at e
  have y1 : R1 t = R t := x1 t (by omega)
  have y2 : R1 u = R u := x1 u (by omega)
  simp only [t0, t5, u0, u5, y1, y2, r4, v4, if_true, c0, c5] at e
  rw [if_pos (by decide)] at e
  generalize hMd : zrow Mc (t + 5) (va_cpy (Mc (u + 5)) (Mc (t + 5)) 0 0 5) = Md at e
  rw [e_Town_becomes_47] at e
  simp only [t0, t6, u0, u6, y1, y2, r5, v5, if_true, c0, c5] at e
  rw [if_pos (by decide)] at e
  generalize hMe : zrow Md (t + 6) (va_cpy (Md (u + 6)) (Md (t + 6)) 0 0 5) = Me at e
  rw [e_Town_becomes_55] at e
  simp only [t0, t7, u0, u7, y1, y2, r6, v6, if_true, c0, c10] at e
  rw [if_pos (by decide)] at e
  generalize hMf : zrow Me (t + 7) (va_cpy (Me (u + 7)) (Me (t + 7)) 0 0 10) = Mf at e
  rw [e_Town_becomes_63] at e
  simp only [t0, t8, u0, u8, y1, y2, r7, v7, if_true, c0, c4] at e
  rw [if_pos (by decide)] at e
  generalize hMg : zrow Mf (t + 8) (va_cpy (Mf (u + 8)) (Mf (t + 8)) 0 0 4) = Mg at e
  rw [e_Town_becomes_71] at e
  simp only [t0, t9, u0, u9, y1, y2, r8, v8, if_true, c0, c8] at e
  rw [if_pos (by decide)] at e
  generalize hMh : zrow Mg (t + 9) (va_cpy (Mg (u + 9)) (Mg (t + 9)) 0 0 8) = Mh at e
  rw [e_Town_becomes_79] at e
  simp only [t0, t10, u0, u10, y1, y2, r9, v9, if_true, c0, c8] at e
  rw [if_pos (by decide)] at e
  generalize hMi : zrow Mh (t + 10) (va_cpy (Mh (u + 10)) (Mh (t + 10)) 0 0 8) = Mi at e
  have hMz : Mi = qTc M t u := by rw [← hMi, ← hMh, ← hMg, ← hMf, ← hMe, ← hMd, ← hMc, ← hMb, ← hMa]; rfl
  rw [hMz] at e
  exact ⟨R1, e, x1, x2⟩
/-- a Town becomes another -/
theorem kt_becomes {t u : Nat} (ht : qLT S R t) (hu : qLT S R u) (hap : t + 136 < u ∨ u + 136 < t) (hA : qTo M u A) (hN : ∀ i, i < 4 → R (u + 4) i = 0 ∨ (S (R (u + 4) i)).1 = 7) :
    ∃ R1 M', zcal zPP (d + 3) 176 [zA t, zA u] (n, s, S, R, M) = some (zU, (n, s, S, R1, M')) ∧ qTo M' t A ∧ (∀ a, a < t ∨ t + 136 < a → M' a = M a) ∧ (∀ a, a ≠ t + 4 → R1 a = R a) ∧ ∀ i, i < 4 → R1 (t + 4) i = R (u + 4) i := by
  obtain ⟨R1, e, x1, x2⟩ := kt_becomes1 (n := n) (s := s) (d := d) (M := M) ht hu hap hN
  have ht1 : qLT S R1 t := qLT_R (fun a _ _ x => x1 a x) ht
  have hu1 : qLT S R1 u := qLT_R (fun a _ _ x => x1 a (by omega)) hu
  have hrow : ∀ a, a < t + 1 ∨ t + 10 < a → qTc M t u a = M a := qTc_row
  obtain ⟨k1, k2, k3, k5, k6, k7, k8, k9, k10⟩ := qTc_k (M := M) hap
  generalize qTc M t u = Mi at *
  obtain ⟨hT, hR, hS, hI⟩ := hA
  obtain ⟨Mj, b1, b2⟩ := kr_becomes (n := n) (s := s) (d := d + 1) (M := Mi) ht1.2.2.1 hu1.2.2.1 (by omega)
  have hSj : qSp Mj (u + 15) A := qSp_x (fun a x y => by rw [b2.1 a (by omega), hrow a (by omega)]) hS
  obtain ⟨Mk, s1, s2, s3⟩ := kr_stepsBecome (n := n) (s := s) (d := d) (M := Mj) (A := A) (q := t + 15) (u := u + 15) ht1.2.2.2.1.1 ht1.2.2.2.1.2.1 ht1.2.2.2.1.2.2 ht1.2.2.2.2 hu1.2.2.2.1.1 hu1.2.2.2.1.2.1 hu1.2.2.2.1.2.2 hu1.2.2.2.2 (by omega) hSj hI.2.2.2.2.1
  have hkt : ∀ a, a < t + 11 ∨ t + 136 < a → Mk a = Mi a := fun a ha => by rw [s3 a (by omega), b2.1 a (by omega)]
  rw [e_Town_becomes_87] at e
  simp only [ht1.1.1, hu1.1.1, ht1.2.1.2.2.2.2.2.2.2.2.2.2.1, ht1.2.1.2.2.2.2.2.2.2.2.2.2.2, hu1.2.1.2.2.2.2.2.2.2.2.2.2.1, hu1.2.1.2.2.2.2.2.2.2.2.2.2.2, if_true, b1, zbV, s1] at e
  have hut : u ≠ t := by omega
  refine ⟨R1, _, e, ⟨?_, ?_, ?_, hI⟩, fun a ha => ?_, x1, x2⟩
  · refine qTw_of (M := M) (u := u) (fun k a b => ?_) (fun i hi => ?_) (fun i hi => ?_) (fun i hi => ?_) (fun i hi => ?_) (fun i hi => ?_) (fun i hi => ?_) (fun i hi => ?_) (fun i hi => ?_) (fun i hi => ?_) hT
    · have hk : ∀ k, Mk u k = M u k := fun k => by rw [hkt u (by omega), hrow u (by omega)]
      by_cases h12 : k = 12
      · subst h12; simp only [zup, hut, false_and, true_and, if_false, Nat.reduceEqDiff, if_true, and_self]; exact hk 12
      by_cases h13 : k = 13
      · subst h13; simp only [zup, hut, false_and, true_and, if_false, Nat.reduceEqDiff, if_true, and_self]; exact hk 13
      by_cases h14 : k = 14
      · subst h14; simp only [zup, hut, false_and, true_and, if_false, Nat.reduceEqDiff, if_true, and_self]; exact hk 14
      by_cases h15 : k = 15
      · subst h15; simp only [zup, hut, false_and, true_and, if_false, Nat.reduceEqDiff, if_true, and_self]; exact hk 15
      by_cases h16 : k = 16
      · subst h16; simp only [zup, hut, false_and, true_and, if_false, Nat.reduceEqDiff, if_true, and_self]; exact hk 16
      by_cases h17 : k = 17
      · subst h17; simp only [zup, hut, false_and, true_and, if_false, Nat.reduceEqDiff, if_true, and_self]; exact hk 17
      omega
    · rw [zup_rw (by omega), zup_rw (by omega), zup_rw (by omega), zup_rw (by omega), zup_rw (by omega), zup_rw (by omega), hkt _ (by omega)]; exact k1 i hi
    · rw [zup_rw (by omega), zup_rw (by omega), zup_rw (by omega), zup_rw (by omega), zup_rw (by omega), zup_rw (by omega), hkt _ (by omega)]; exact k2 i hi
    · rw [zup_rw (by omega), zup_rw (by omega), zup_rw (by omega), zup_rw (by omega), zup_rw (by omega), zup_rw (by omega), hkt _ (by omega)]; exact k3 i hi
    · rw [zup_rw (by omega), zup_rw (by omega), zup_rw (by omega), zup_rw (by omega), zup_rw (by omega), zup_rw (by omega), hkt _ (by omega)]; exact k5 i hi
    · rw [zup_rw (by omega), zup_rw (by omega), zup_rw (by omega), zup_rw (by omega), zup_rw (by omega), zup_rw (by omega), hkt _ (by omega)]; exact k6 i hi
    · rw [zup_rw (by omega), zup_rw (by omega), zup_rw (by omega), zup_rw (by omega), zup_rw (by omega), zup_rw (by omega), hkt _ (by omega)]; exact k7 i hi
    · rw [zup_rw (by omega), zup_rw (by omega), zup_rw (by omega), zup_rw (by omega), zup_rw (by omega), zup_rw (by omega), hkt _ (by omega)]; exact k8 i hi
    · rw [zup_rw (by omega), zup_rw (by omega), zup_rw (by omega), zup_rw (by omega), zup_rw (by omega), zup_rw (by omega), hkt _ (by omega)]; exact k9 i hi
    · rw [zup_rw (by omega), zup_rw (by omega), zup_rw (by omega), zup_rw (by omega), zup_rw (by omega), zup_rw (by omega), hkt _ (by omega)]; exact k10 i hi
  · have hRi : qRs Mi (u + 11) A := qRs_x (fun a x y => hrow a (by omega)) hR
    have hRj : qRs Mj (t + 11) A := qCp_Rs b2 hI.2.2.2.2.2.2.2.2.2.2.1.2 hRi
    exact qRs_x (fun a x y => by rw [zup_rw (by omega), zup_rw (by omega), zup_rw (by omega), zup_rw (by omega), zup_rw (by omega), zup_rw (by omega), s3 a (by omega)]) hRj
  · exact qSp_x (fun a x y => by rw [zup_rw (by omega), zup_rw (by omega), zup_rw (by omega), zup_rw (by omega), zup_rw (by omega), zup_rw (by omega)]) s2
  · rw [zup_rw (by omega), zup_rw (by omega), zup_rw (by omega), zup_rw (by omega), zup_rw (by omega), zup_rw (by omega), hkt a (by omega), hrow a (by omega)]
/-- the model's row copied -/
theorem km_copy {a b : Nat} (ha : S a = (20, 4880)) (hb : S b = (20, 4880)) (hab : a ≠ b) : ∃ M', zcal zPP (d + 1) 178 [zA a, zA b] (n, s, S, R, M) = some (zU, (n, s, S, R, M')) ∧ (∀ k, k < 4880 → M' b k = M a k) ∧ ∀ q, q ≠ b → M' q = M q := by
  have L := qlpI (E := fun i M2 => (∀ q, q ≠ b → M2 q = M q) ∧ ∀ k, k < i → M2 b k = M a k) (P := fun i M2 => zR zPP d 178 2 [zA a, zA b, zI (i : Nat)] [] (n, s, S, R, M2)) (N := 4880) (fun i M2 hi hx => by
    obtain ⟨e1, e2⟩ := hx
    refine ⟨zup M2 b i (M a i), ⟨fun q hq => by rw [zup_rw hq]; exact e1 q hq, fun k hk => ?_⟩, ?_⟩
    · by_cases hki : k = i
      · subst hki; exact zup_at
      · rw [zup_ne (by omega)]; exact e2 k (by omega)
    · show zR _ _ _ _ _ _ _ = zR _ _ _ _ _ _ _
      rw [e_M_copy_2, if_pos (by omega)]
      simp only [ha, hb, Int.toNat_natCast, true_or, true_and]
      rw [if_pos (by omega), if_pos (by omega), qw1 (by omega), e1 a hab]) M ⟨fun _ _ => rfl, fun k hk => absurd hk (Nat.not_lt_zero k)⟩
  obtain ⟨M2, ⟨e1, e2⟩, L⟩ := L
  refine ⟨M2, ?_, e2, e1⟩
  rw [c_M_copy]
  refine Eq.trans L ?_
  show zR _ _ _ _ _ _ _ = _
  rw [e_M_copy_2, if_neg (by decide)]
theorem qb_image (hw : qWd n S R M W) : qBo 83 326 [] n s S R M := by
  have hF := hw.1.2.1
  have hA := hw.2.1.2.2.2
  obtain ⟨T1, T2, T3, T4⟩ := hw.2.2.2.1
  obtain ⟨R1, M1, c1, c2, c3, c4, c5⟩ := kt_becomes (n := n) (s := s) (d := 96) (t := 147) (u := 10) hF.1.2.1.2.1 hF.1.2.1.1 (by decide) hw.2.1 (fun i hi => (T4 i hi).1.imp id And.right)
  have hF1 : qFx S R1 := qFx_R (fun a _ x => c4 a x) hF
  have e5 : M1 21 5 = M 306 7 := by rw [c3 21 (by omega)]; exact hw.2.1.2.1.2.1.2.2.1
  have hX : zcal zPP 100 83 [zA 9] (n, s, S, R, M) = some (zI (M 306 7), (n, s, S, R1, M1)) := by
    have hR9 : R1 9 = R 9 := c4 9 (by decide)
    have hR10 : R1 10 = R 10 := c4 10 (by decide)
    rw [c_X_image]
    simp (disch := omega) only [c1, hR9, hR10, e5, qff hF, qltT, qltF, qleT, qleF, qeqT, qeqF, Int.reduceEq, Int.reduceNe, Int.reduceLT, Int.reduceLE, Int.reduceToNat, Int.reduceAdd, Int.reduceSub, Int.reduceMul, Int.reduceNeg, Nat.reduceAdd, Nat.reduceMul, Nat.reduceEqDiff, Nat.reduceLT, Int.cast_ofNat_Int, Int.lt_irrefl, Bool.false_eq_true, ↓reduceIte, ↓reduceDIte, zbI, zbL, zbA, zbV, qrg, qrg2, qnn, qz, zup_at, zup_r, zup_ne, true_and, and_true, true_or, or_true, and_self, or_self, false_or, or_false, false_and, and_false, Int.toNat_natCast, Int.toNat_add, Int.toNat_mul, Int.toNat_zero, Int.toNat_one, qtn, Int.natCast_add, qnat1, qnat0, ne_eq, not_true_eq_false, not_false_eq_true, eq_self, qbool]
  obtain ⟨M2, m1, m2, m3⟩ := km_copy (n := n) (s := s) (d := 98) (S := S) (R := R1) (M := M1) (a := 306) (b := 307) hF.2.1.1.2.1 hF.2.1.1.2.2.1 (by decide)
  have e6 : M1 306 = M 306 := c3 306 (by omega)
  have e7 : M2 306 7 = M 306 7 := by rw [m3 306 (by decide), e6]
  have hrow : ∀ a, a < 147 ∨ 283 < a → a ≠ 307 → M2 a = M a := fun a h1 h2 => by rw [m3 a h2, c3 a (by omega)]
  have e16 : M2 306 = M 306 := hrow 306 (by omega) (by decide)
  have hM : zcal zPP 100 326 [zA 305] (n, s, S, R1, M1) = some (zI (M 306 7), (n, s, S, R1, M2)) := by
    rw [c_M_image]
    simp (disch := omega) only [qff hF1, m1, e7, qff hF, qltT, qltF, qleT, qleF, qeqT, qeqF, Int.reduceEq, Int.reduceNe, Int.reduceLT, Int.reduceLE, Int.reduceToNat, Int.reduceAdd, Int.reduceSub, Int.reduceMul, Int.reduceNeg, Nat.reduceAdd, Nat.reduceMul, Nat.reduceEqDiff, Nat.reduceLT, Int.cast_ofNat_Int, Int.lt_irrefl, Bool.false_eq_true, ↓reduceIte, ↓reduceDIte, zbI, zbL, zbA, zbV, qrg, qrg2, qnn, qz, zup_at, zup_r, zup_ne, true_and, and_true, true_or, or_true, and_self, or_self, false_or, or_false, false_and, and_false, Int.toNat_natCast, Int.toNat_add, Int.toNat_mul, Int.toNat_zero, Int.toNat_one, qtn, Int.natCast_add, qnat1, qnat0, ne_eq, not_true_eq_false, not_false_eq_true, eq_self, qbool]
  have hk : ∀ k, k < 4880 → M2 307 k = M 306 k := fun k hk => by rw [m2 k hk, e6]
  refine ⟨_, n, s, S, R1, M1, M2, W, hX, hM, ⟨⟨hw.1.1, hF1, qSt_x (fun a ha => hrow a (by omega) (by omega)) hw.1.2.2⟩, ?_, ?_, ⟨fun t ht => ?_, fun t ht => ?_, ?_, fun t ht => ?_⟩, ?_⟩, by omega, by omega, rfl, hrow 1 (by decide) (by decide)⟩
  · rw [e16]
    exact qTo_x (fun a x y => hrow a (by omega) (by omega)) hw.2.1
  · exact qTo_cong hk (qTo_x (fun a x y => m3 a (by omega)) c2)
  · rw [e16] at ht
    rw [c4 14 (by decide)]
    exact qTe_x (fun a ha => hrow a (by omega) (by omega)) (hrow 308 (by decide) (by decide)) (qTe_R (fun a ha => c4 a (by omega)) (T1 t ht))
  · rw [hk 2 (by decide)] at ht
    have h4 := hA.2.2.1
    have e : R1 151 t = R 14 t := c5 t (by omega)
    rw [e]
    exact qTe_x (fun a ha => hrow a (by omega) (by omega)) (hrow 308 (by decide) (by decide)) (qTe_R (fun a ha => c4 a (by omega)) (T1 t ht))
  · rw [hk 2 (by decide), e16]; exact Int.le_refl _
  · have e : R1 151 t = R 14 t := c5 t ht
    rw [c4 14 (by decide), e]
    exact ⟨(T4 t ht).1, (T4 t ht).1⟩
  · exact qTp_x (hrow 9 (by decide) (by decide)) (hrow 304 (by decide) (by decide)) (hrow 309 (by decide) (by decide)) (by rw [hrow 305 (by decide) (by decide)]; exact ⟨rfl, rfl, rfl, rfl⟩) hw.2.2.2.2
theorem qb_back (hw : qWd n S R M W) : qBo 84 327 [] n s S R M := by
  have hF := hw.1.2.1
  have hA := hw.2.2.1.2.2.2
  obtain ⟨T1, T2, T3, T4⟩ := hw.2.2.2.1
  obtain ⟨R1, M1, c1, c2, c3, c4, c5⟩ := kt_becomes (n := n) (s := s) (d := 96) (t := 10) (u := 147) hF.1.2.1.1 hF.1.2.1.2.1 (by decide) hw.2.2.1 (fun i hi => (T4 i hi).2.imp id And.right)
  have hF1 : qFx S R1 := qFx_R (fun a x _ => c4 a x) hF
  have e5 : M1 21 5 = M 307 7 := c2.2.1.2.1.2.2.1
  have hX : zcal zPP 100 84 [zA 9] (n, s, S, R, M) = some (zI (M 307 7), (n, s, S, R1, M1)) := by
    have hR9 : R1 9 = R 9 := c4 9 (by decide)
    have hR10 : R1 10 = R 10 := c4 10 (by decide)
    rw [c_X_back]
    simp (disch := omega) only [c1, hR9, hR10, e5, qff hF, qltT, qltF, qleT, qleF, qeqT, qeqF, Int.reduceEq, Int.reduceNe, Int.reduceLT, Int.reduceLE, Int.reduceToNat, Int.reduceAdd, Int.reduceSub, Int.reduceMul, Int.reduceNeg, Nat.reduceAdd, Nat.reduceMul, Nat.reduceEqDiff, Nat.reduceLT, Int.cast_ofNat_Int, Int.lt_irrefl, Bool.false_eq_true, ↓reduceIte, ↓reduceDIte, zbI, zbL, zbA, zbV, qrg, qrg2, qnn, qz, zup_at, zup_r, zup_ne, true_and, and_true, true_or, or_true, and_self, or_self, false_or, or_false, false_and, and_false, Int.toNat_natCast, Int.toNat_add, Int.toNat_mul, Int.toNat_zero, Int.toNat_one, qtn, Int.natCast_add, qnat1, qnat0, ne_eq, not_true_eq_false, not_false_eq_true, eq_self, qbool]
  obtain ⟨M2, m1, m2, m3⟩ := km_copy (n := n) (s := s) (d := 98) (S := S) (R := R1) (M := M1) (a := 307) (b := 306) hF.2.1.1.2.2.1 hF.2.1.1.2.1 (by decide)
  have e6 : M1 307 = M 307 := c3 307 (by omega)
  have hk : ∀ k, k < 4880 → M2 306 k = M 307 k := fun k hk => by rw [m2 k hk, e6]
  have e7 : M2 306 7 = M 307 7 := hk 7 (by decide)
  have hrow : ∀ a, a < 10 ∨ 146 < a → a ≠ 306 → M2 a = M a := fun a h1 h2 => by rw [m3 a h2, c3 a (by omega)]
  have e17 : M2 307 = M 307 := hrow 307 (by omega) (by decide)
  have hM : zcal zPP 100 327 [zA 305] (n, s, S, R1, M1) = some (zI (M 307 7), (n, s, S, R1, M2)) := by
    rw [c_M_back]
    simp (disch := omega) only [qff hF1, m1, e7, qff hF, qltT, qltF, qleT, qleF, qeqT, qeqF, Int.reduceEq, Int.reduceNe, Int.reduceLT, Int.reduceLE, Int.reduceToNat, Int.reduceAdd, Int.reduceSub, Int.reduceMul, Int.reduceNeg, Nat.reduceAdd, Nat.reduceMul, Nat.reduceEqDiff, Nat.reduceLT, Int.cast_ofNat_Int, Int.lt_irrefl, Bool.false_eq_true, ↓reduceIte, ↓reduceDIte, zbI, zbL, zbA, zbV, qrg, qrg2, qnn, qz, zup_at, zup_r, zup_ne, true_and, and_true, true_or, or_true, and_self, or_self, false_or, or_false, false_and, and_false, Int.toNat_natCast, Int.toNat_add, Int.toNat_mul, Int.toNat_zero, Int.toNat_one, qtn, Int.natCast_add, qnat1, qnat0, ne_eq, not_true_eq_false, not_false_eq_true, eq_self, qbool]
  refine ⟨_, n, s, S, R1, M1, M2, W, hX, hM, ⟨⟨hw.1.1, hF1, qSt_x (fun a ha => hrow a (by omega) (by omega)) hw.1.2.2⟩, ?_, ?_, ⟨fun t ht => ?_, fun t ht => ?_, ?_, fun t ht => ?_⟩, ?_⟩, by omega, by omega, rfl, hrow 1 (by decide) (by decide)⟩
  · exact qTo_cong hk (qTo_x (fun a x y => m3 a (by omega)) c2)
  · rw [e17]
    exact qTo_x (fun a x y => hrow a (by omega) (by omega)) hw.2.2.1
  · rw [hk 2 (by decide)] at ht
    have h4 := hA.2.2.1
    have e : R1 14 t = R 151 t := c5 t (by omega)
    rw [e]
    exact qTe_x (fun a ha => hrow a (by omega) (by omega)) (hrow 308 (by decide) (by decide)) (qTe_R (fun a ha => c4 a (by omega)) (T2 t ht))
  · rw [e17] at ht
    rw [c4 151 (by decide)]
    exact qTe_x (fun a ha => hrow a (by omega) (by omega)) (hrow 308 (by decide) (by decide)) (qTe_R (fun a ha => c4 a (by omega)) (T2 t ht))
  · rw [hk 2 (by decide), e17]; exact Int.le_refl _
  · have e : R1 14 t = R 151 t := c5 t ht
    rw [c4 151 (by decide), e]
    exact ⟨(T4 t ht).2, (T4 t ht).2⟩
  · exact qTp_x (hrow 9 (by decide) (by decide)) (hrow 304 (by decide) (by decide)) (hrow 309 (by decide) (by decide)) (by rw [hrow 305 (by decide) (by decide)]; exact ⟨rfl, rfl, rfl, rfl⟩) hw.2.2.2.2
end QF
