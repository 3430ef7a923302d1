/-! stands, whole: both sides -/
theorem qlpI {α : Type} {E : Nat → α → Prop} {P : Nat → α → zO} {N : Nat} (hs : ∀ i x, i < N → E i x → ∃ y, E (i + 1) y ∧ P i x = P (i + 1) y) (x : α) (h0 : E 0 x) : ∃ y, E N y ∧ P 0 x = P N y := by
  have : ∀ k, k ≤ N → ∃ y, E k y ∧ P 0 x = P k y := by
    intro k
    induction k with
    | zero => intro _; exact ⟨x, h0, rfl⟩
    | succ k ih =>
      intro h
      obtain ⟨y, hy, e⟩ := ih (by omega)
      obtain ⟨z, hz, e2⟩ := hs k y (by omega) hy
      exact ⟨z, hz, e.trans e2⟩
  exact this N (Nat.le_refl N)
section QF
variable {S : Nat → Nat × Nat} {R : Nat → Nat → Nat} {M M' M1 : Nat → Nat → Int} {n s d : Nat} {A : Nat → Int} {W : Nat → qWt}
theorem k_begin (hF : qFx S R) : ∃ M', zcal zPP (d + 1) 107 [zA 289] (n, s, S, R, M) = some (zU, (n, s, S, R, M')) ∧ (∀ i, i < 16 → M' 290 i = if i = 0 then 1 else 0) ∧ M' 289 1 = 1 ∧ M' 289 2 = 0 ∧ ∀ a, a ≠ 289 → a ≠ 290 → M' a = M a := by
  have L := qlpE (E := fun M1 : Nat → Nat → Int => ∀ a, a ≠ 290 → M1 a = M a) (P := fun i M1 => zR zPP d 107 2 [zA 289, zI (i : Nat)] [] (n, s, S, R, M1)) (N := 16) (fun i M1 hi hx => by
    refine ⟨zup M1 290 i 0, fun a ha => by rw [zup_rw ha, hx a ha], ?_⟩
    show zR _ _ _ _ _ _ _ = zR _ _ _ _ _ _ _
    rw [e_Odds_begin_2]
    simp (disch := omega) only [qff hF, qltT, qltF, qleT, qleF, qeqT, qeqF, Int.reduceEq, Int.reduceNe, Int.reduceLT, Int.reduceLE, Int.reduceToNat, Int.reduceAdd, Int.reduceSub, Int.reduceMul, Int.reduceNeg, Nat.reduceAdd, Nat.reduceMul, Nat.reduceEqDiff, Nat.reduceLT, Int.cast_ofNat_Int, Int.lt_irrefl, ↓reduceIte, ↓reduceDIte, zbI, zbL, zbA, zbV, qrg, qrg2, qnn, qz, zup_at, zup_r, zup_ne, true_and, and_true, true_or, or_true, and_self, or_self, false_or, or_false, false_and, and_false, Int.toNat_natCast, Int.toNat_add, Int.toNat_mul, Int.toNat_zero, Int.toNat_one, qtn, Int.natCast_add, qnat1, qnat0, ne_eq, not_true_eq_false, not_false_eq_true, eq_self, qbool]) M (fun _ _ => rfl)
  have L0 : ∀ (j i : Nat) (M1 : Nat → Nat → Int), i + j = 16 → (∀ k, k < i → M1 290 k = 0) → (∀ a, a ≠ 290 → M1 a = M a) → ∃ M', zR zPP d 107 2 [zA 289, zI (i : Nat)] [] (n, s, S, R, M1) = some (zU, (n, s, S, R, M')) ∧ (∀ i, i < 16 → M' 290 i = if i = 0 then 1 else 0) ∧ M' 289 1 = 1 ∧ M' 289 2 = 0 ∧ ∀ a, a ≠ 289 → a ≠ 290 → M' a = M a := by
    intro j
    induction j with
    | zero =>
      intro i M1 hi hk hx
      refine ⟨zup (zup (zup M1 290 0 1) 289 1 1) 289 2 0, ?_, fun k hk1 => ?_, ?_, ?_, fun a ha hb => ?_⟩
      · rw [e_Odds_begin_2]
        simp (disch := omega) only [qff hF, qltT, qltF, qleT, qleF, qeqT, qeqF, Int.reduceEq, Int.reduceNe, Int.reduceLT, Int.reduceLE, Int.reduceToNat, Int.reduceAdd, Int.reduceSub, Int.reduceMul, Int.reduceNeg, Nat.reduceAdd, Nat.reduceMul, Nat.reduceEqDiff, Nat.reduceLT, Int.cast_ofNat_Int, Int.lt_irrefl, ↓reduceIte, ↓reduceDIte, zbI, zbL, zbA, zbV, qrg, qrg2, qnn, qz, zup_at, zup_r, zup_ne, true_and, and_true, true_or, or_true, and_self, or_self, false_or, or_false, false_and, and_false, Int.toNat_natCast, Int.toNat_add, Int.toNat_mul, Int.toNat_zero, Int.toNat_one, qtn, Int.natCast_add, qnat1, qnat0, ne_eq, not_true_eq_false, not_false_eq_true, eq_self, qbool]
      · rw [zup_r (by decide), zup_r (by decide)]
        by_cases h0 : k = 0
        · subst h0
          rw [zup_at, if_pos rfl]
        · rw [zup_ne h0, if_neg h0, hk k (by omega)]
      · rw [zup_ne (by decide), zup_at]
      · rw [zup_at]
      · rw [zup_rw ha, zup_rw ha, zup_rw hb, hx a hb]
    | succ j ih =>
      intro i M1 hi hk hx
      rw [e_Odds_begin_2]
      simp (disch := omega) only [qff hF, qltT, qltF, qleT, qleF, qeqT, qeqF, Int.reduceEq, Int.reduceNe, Int.reduceLT, Int.reduceLE, Int.reduceToNat, Int.reduceAdd, Int.reduceSub, Int.reduceMul, Int.reduceNeg, Nat.reduceAdd, Nat.reduceMul, Nat.reduceEqDiff, Nat.reduceLT, Int.cast_ofNat_Int, Int.lt_irrefl, ↓reduceIte, ↓reduceDIte, zbI, zbL, zbA, zbV, qrg, qrg2, qnn, qz, zup_at, zup_r, zup_ne, true_and, and_true, true_or, or_true, and_self, or_self, false_or, or_false, false_and, and_false, Int.toNat_natCast, Int.toNat_add, Int.toNat_mul, Int.toNat_zero, Int.toNat_one, qtn, Int.natCast_add, qnat1, qnat0, ne_eq, not_true_eq_false, not_false_eq_true, eq_self, qbool]
      refine ih (i + 1) _ (by omega) (fun k hk1 => ?_) fun a ha => by rw [zup_rw ha, hx a ha]
      by_cases h : k = i
      · subst h; exact zup_at
      · rw [zup_ne h, hk k (by omega)]
  obtain ⟨M', h, h'⟩ := L0 16 0 M rfl (fun k hk => absurd hk (Nat.not_lt_zero k)) fun _ _ => rfl
  refine ⟨M', ?_, h'⟩
  rw [← h]
  simp (disch := omega) only [c_Odds_begin, qff hF, qltT, qltF, qleT, qleF, qeqT, qeqF, Int.reduceEq, Int.reduceNe, Int.reduceLT, Int.reduceLE, Int.reduceToNat, Int.reduceAdd, Int.reduceSub, Int.reduceMul, Int.reduceNeg, Nat.reduceAdd, Nat.reduceMul, Nat.reduceEqDiff, Nat.reduceLT, Int.cast_ofNat_Int, Int.lt_irrefl, ↓reduceIte, ↓reduceDIte, zbI, zbL, zbA, zbV, qrg, qrg2, qnn, qz, zup_at, zup_r, zup_ne, true_and, and_true, true_or, or_true, and_self, or_self, false_or, or_false, false_and, and_false, Int.toNat_natCast, Int.toNat_add, Int.toNat_mul, Int.toNat_zero, Int.toNat_one, qtn, Int.natCast_add, qnat1, qnat0, ne_eq, not_true_eq_false, not_false_eq_true, eq_self, qbool]
theorem qtl_0 {f : Nat → Int} {b : Int} : ∀ k : Nat, (k : Int) ≤ b ∨ k = 0 → qtl f b k = 0
  | 0, _ => rfl
  | k + 1, h => by
    show qtl f b k + (if b ≤ k then f k else 0) = 0
    rw [qtl_0 k (by omega), if_neg (by omega)]
    rfl
theorem k_atLeast (hF : qFx S R) {f : Nat → Int} (hf : ∀ i, 0 ≤ f i ∧ f i ≤ 1000000000000000) (hM : ∀ i, i < 16 → M 290 i = f i) {b : Int} (hb : -1000 ≤ b ∧ b ≤ 1000) : zcal zPP (d + 1) 109 [zA 289, zI b] (n, s, S, R, M) = some (zL (qtl f b 16), (n, s, S, R, M)) := by
  have L : ∀ (j i : Nat), (i : Int) + j = max 16 b → b ≤ i → (i < 16 ∨ j = 0) → zR zPP d 109 6 [zA 289, zI b, zL (qtl f b (min i 16)), zU, zI i] [] (n, s, S, R, M) = some (zL (qtl f b 16), (n, s, S, R, M)) := by
    intro j
    induction j with
    | zero =>
      intro i hi hbi _
      rw [e_Odds_atLeast_6, if_pos (by omega), show min i 16 = 16 by omega]
    | succ j ih =>
      intro i hi hbi h16
      have h16' : i < 16 := by omega
      have q := qtl_in (f := f) (B := 1000000000000000) (by decide) hf b i
      have qi := hf i
      have es : qtl f b (i + 1) = qtl f b i + f i := by
        show qtl f b i + (if b ≤ i then f i else 0) = _
        rw [if_pos hbi]
      have z0 : min i 16 = i := by omega
      have z1 : min (i + 1) 16 = i + 1 := by omega
      have hi' := ih (i + 1) (by omega) (by omega) (by omega)
      rw [z1, es] at hi'
      rw [z0, e_Odds_atLeast_6]
      simp (disch := omega) only [hM i h16', qz64, qff hF, qltT, qltF, qleT, qleF, qeqT, qeqF, Int.reduceEq, Int.reduceNe, Int.reduceLT, Int.reduceLE, Int.reduceToNat, Int.reduceAdd, Int.reduceSub, Int.reduceMul, Int.reduceNeg, Nat.reduceAdd, Nat.reduceMul, Nat.reduceEqDiff, Nat.reduceLT, Int.cast_ofNat_Int, Int.lt_irrefl, ↓reduceIte, ↓reduceDIte, zbI, zbL, zbA, zbV, qrg, qrg2, qnn, qz, zup_at, zup_r, zup_ne, true_and, and_true, true_or, or_true, and_self, or_self, false_or, or_false, false_and, and_false, Int.toNat_natCast, Int.toNat_add, Int.toNat_mul, Int.toNat_zero, Int.toNat_one, qtn, Int.natCast_add, qnat1, qnat0, ne_eq, not_true_eq_false, not_false_eq_true, eq_self, qbool]
      exact hi'
  rw [c_Odds_atLeast]
  simp (disch := omega) only [qff hF, qltT, qltF, qleT, qleF, qeqT, qeqF, Int.reduceEq, Int.reduceNe, Int.reduceLT, Int.reduceLE, Int.reduceToNat, Int.reduceAdd, Int.reduceSub, Int.reduceMul, Int.reduceNeg, Nat.reduceAdd, Nat.reduceMul, Nat.reduceEqDiff, Nat.reduceLT, Int.cast_ofNat_Int, Int.lt_irrefl, ↓reduceIte, ↓reduceDIte, zbI, zbL, zbA, zbV, qrg, qrg2, qnn, qz, zup_at, zup_r, zup_ne, true_and, and_true, true_or, or_true, and_self, or_self, false_or, or_false, false_and, and_false, Int.toNat_natCast, Int.toNat_add, Int.toNat_mul, Int.toNat_zero, Int.toNat_one, qtn, Int.natCast_add, qnat1, qnat0, ne_eq, not_true_eq_false, not_false_eq_true, eq_self, qbool]
  obtain ⟨m, hm⟩ := Int.eq_ofNat_of_zero_le (show 0 ≤ max 0 b by omega)
  by_cases hm16 : m < 16
  · have := L (16 - m) m (by omega) (by omega) (Or.inl hm16)
    rw [show min m 16 = m by omega, qtl_0 m (by omega)] at this
    rw [hm]
    exact this
  · have := L 0 m (by omega) (by omega) (Or.inr rfl)
    rw [show min m 16 = 16 by omega] at this
    rw [hm, ← this, qtl_0 16 (by omega)]
theorem qb_stands (hw : qWd n S R M W) (v w u : Int) : qBo 69 315 [zI v, zI w, zI u] n s S R M := by
  have hA := hw.2.1.2.2.2
  have hF := hw.1.2.1
  have hT := hw.2.1.1
  have hg : qRg M 21 (qg (M 306)) := hw.2.1.2.1.1
  have ha5 := hA.1.2
  have hp5 := hA.2.1.2
  obtain ⟨q, hq1, hq2⟩ := wx_ruler (s := s) hw
  have hr := hF.1.2.1.1.2.2.1
  have h62 : (2 : Nat) ^ 62 = 4611686018427387904 := rfl
  by_cases hv : 0 ≤ v ∧ v < M 306 0
  · obtain ⟨o, rfl⟩ := Int.eq_ofNat_of_zero_le hv.1
    by_cases hn : 0 ≤ w ∧ w ≤ 24
    · by_cases h15 : zct (qlen (M 306) o) 24 ≤ 15
      · have hic : qic (M 306) o ≤ 24 := zct_le _ 24
        have hmono : ∀ y, y < 24 → qlen (M 306) o y = true → zct (qlen (M 306) o) y < 15 := fun y hy h => by
          have : ∀ k, y + 1 + k ≤ 24 → zct (qlen (M 306) o) (y + 1) ≤ zct (qlen (M 306) o) (y + 1 + k) := by
            intro k
            induction k with
            | zero => intro _; exact Nat.le_refl _
            | succ k ih =>
              intro hk
              have := ih (by omega)
              have e := zct_s (qlen (M 306) o) (y + 1 + k)
              rw [← Nat.add_assoc, e]
              split <;> omega
          have h1 := this (23 - y) (by omega)
          rw [show y + 1 + (23 - y) = 24 by omega, zct_s, if_pos h] at h1
          omega
        have hfin : ∀ i, 0 ≤ qwy (M 306) (qWr W (M 306 3)) o 24 i ∧ qwy (M 306) (qWr W (M 306 3)) o 24 i ≤ 1000000000000000 := fun i => by
          have h1 := qwy_in (M 306) (qWr W (M 306 3)) o 24 i
          have h2 := qp15 h15
          generalize 10 ^ zct (qlen (M 306) o) 24 = B at *
          omega
        have hup := qtl_in (f := qwy (M 306) (qWr W (M 306 3)) o 24) (B := 1000000000000000) (by decide) hfin (w - (qic (M 306) o : Nat)) 16
        obtain ⟨up, hupe⟩ := Int.eq_ofNat_of_zero_le (show 0 ≤ qtl (qwy (M 306) (qWr W (M 306 3)) o 24) (w - (qic (M 306) o : Nat)) 16 by omega)
        have hall := qp15 h15
        have hall0 : 0 < 10 ^ zct (qlen (M 306) o) 24 := Nat.pow_pos (by decide)
        refine qBo_q (v := zL (((if u = 0 then up else 10 ^ zct (qlen (M 306) o) 24) / Nat.gcd (10 ^ zct (qlen (M 306) o) 24) up : Nat) : Int)) hw ?_ ?_
        · obtain ⟨M1, b1, b2, b3, b4, b5⟩ := k_begin (n := n) (s := s) (d := 98) (M := M) hF
          have hM1 : qXc M M1 := fun a ha => b5 a (by omega) (by omega)
          have hl : ∀ M1, qXc M M1 → zcal zPP 99 142 [zA 21, zI o] (n, s, S, R, M1) = some (zI (zsn (qlen (M 306) o) 24 : Nat), (n, s, S, R, M1)) := fun M1 h => kx_lentOf (n := n) (s := s) (d := 97) (M := M1) hF hA (qRg_x (h _ (by omega)) (h _ (by omega)) hg) hv.2
          have L := qlpI (E := fun y (x : (Nat → Nat → Int) × zV) => qXc M x.1 ∧ (∀ i, i < 16 → x.1 290 i = qwy (M 306) (qWr W (M 306 3)) o y i) ∧ x.1 289 1 = ((10 ^ zct (qlen (M 306) o) y : Nat) : Int) ∧ x.1 289 2 = (zct (qlen (M 306) o) y : Nat))
            (P := fun y x => zR zPP 99 69 31 [zA 9, zI o, zI w, zI u, zI (zsn (qlen (M 306) o) 24 : Nat), zI (y : Nat), x.2] [] (n, s, S, R, x.1)) (N := 24) (fun t x hy hx => by
              obtain ⟨x1, g⟩ := x
              obtain ⟨e1, e2, e3, e4⟩ := hx
              have hb := hA.2.2.2.2.2.2.2.2.2.2.2.1 o t (by omega) hy
              by_cases hc : qlen (M 306) o t = true
              · have hc3 : 3 ≤ M 306 (11 + 24 * o + t) := of_decide_eq_true hc
                obtain ⟨p, hp⟩ := Int.eq_ofNat_of_zero_le (show 0 ≤ M 306 (11 + 24 * o + t) - 3 by omega)
                obtain ⟨M2, h2, h3⟩ := wx_says (s := s) (d := 93) hw hq2 e1 (L := 2) (by decide) hv.2 hy (show (p : Int) < M 306 1 by omega)
                have hx10 : x1 10 = M 10 := e1 10 (by omega)
                have h2' : zcal zPP 99 96 [zA 284, zI 2, zA q, zA 21, zI o, zI t, zI p] (n, s, S, R, x1) = some (zI (qpy (M 306) (qWr W (M 306 3)) o t), (n, s, S, R, M2)) := by
                  unfold qpy
                  rw [hp]
                  exact h2
                have hh := k_holder (n := n) (s := s) (d := 97) (M := x1) hr (qRg_x (e1 _ (by omega)) (e1 _ (by omega)) hg) (show o < 5 by omega) hy
                rw [qg_in hv.2, if_pos (show 3 ≤ M 306 (11 + 24 * o + t) ∧ M 306 (11 + 24 * o + t) < 8 by omega), hp] at hh
                have hh' : zcal zPP 99 141 [zA 21, zI o, zI t] (n, s, S, R, x1) = some (zI p, (n, s, S, R, x1)) := hh
                have hc15 := hmono t hy hc
                obtain ⟨M3, h4, h5, h6, h7, h8⟩ := k_draw (n := n) (s := s) (d := 98) (M := M2) (f := qwy (M 306) (qWr W (M 306 3)) o t) (c := zct (qlen (M 306) o) t) (p := qpy (M 306) (qWr W (M 306 3)) o t) hF (qLaw2 _ _ _) hc15 (qwy_in _ _ _ t) (qwy_0 _ _ _ t) (fun i hi => by rw [h3 290 (by decide) (by decide)]; exact e2 i hi) (by rw [h3 289 (by decide) (by decide)]; exact e3) (by rw [h3 289 (by decide) (by decide)]; exact e4)
                refine ⟨(M3, zI p), ⟨qXc_t e1 (qXc_t (qX2_c h3) fun a ha => h8 a (by omega) (by omega)), fun i hi => ?_, ?_, ?_⟩, ?_⟩
                · have e : qwy (M 306) (qWr W (M 306 3)) o (t + 1) = qwst (qwy (M 306) (qWr W (M 306 3)) o t) (qpy (M 306) (qWr W (M 306 3)) o t) := if_pos hc
                  rw [e]
                  exact h5 i hi
                · rw [zct_s, if_pos hc]; exact h6
                · rw [zct_s, if_pos hc]; exact h7
                · show zR _ _ _ _ _ _ _ = zR _ _ _ _ _ _ _
                  rw [e_X_stands_31, zsn_bit24 _ hy, if_pos hc]
                  simp (disch := omega) only [hh', hq1 97 x1 hx10, h2', h4, qff hF, qltT, qltF, qleT, qleF, qeqT, qeqF, Int.reduceEq, Int.reduceNe, Int.reduceLT, Int.reduceLE, Int.reduceToNat, Int.reduceAdd, Int.reduceSub, Int.reduceMul, Int.reduceNeg, Nat.reduceAdd, Nat.reduceMul, Nat.reduceEqDiff, Nat.reduceLT, Int.cast_ofNat_Int, Int.lt_irrefl, ↓reduceIte, ↓reduceDIte, zbI, zbL, zbA, zbV, qrg, qrg2, qnn, qz, zup_at, zup_r, zup_ne, true_and, and_true, true_or, or_true, and_self, or_self, false_or, or_false, false_and, and_false, Int.toNat_natCast, Int.toNat_add, Int.toNat_mul, Int.toNat_zero, Int.toNat_one, qtn, Int.natCast_add, qnat1, qnat0, ne_eq, not_true_eq_false, not_false_eq_true, eq_self, qbool]
              · refine ⟨(x1, g), ⟨e1, fun i hi => ?_, ?_, ?_⟩, ?_⟩
                · have e : qwy (M 306) (qWr W (M 306 3)) o (t + 1) = qwy (M 306) (qWr W (M 306 3)) o t := if_neg hc
                  rw [e]
                  exact e2 i hi
                · rw [zct_s, if_neg hc]; exact e3
                · rw [zct_s, if_neg hc]; exact e4
                · show zR _ _ _ _ _ _ _ = zR _ _ _ _ _ _ _
                  rw [e_X_stands_31, zsn_bit24 _ hy, if_neg hc]
                  simp (disch := omega) only [qff hF, qltT, qltF, qleT, qleF, qeqT, qeqF, Int.reduceEq, Int.reduceNe, Int.reduceLT, Int.reduceLE, Int.reduceToNat, Int.reduceAdd, Int.reduceSub, Int.reduceMul, Int.reduceNeg, Nat.reduceAdd, Nat.reduceMul, Nat.reduceEqDiff, Nat.reduceLT, Int.cast_ofNat_Int, Int.lt_irrefl, ↓reduceIte, ↓reduceDIte, zbI, zbL, zbA, zbV, qrg, qrg2, qnn, qz, zup_at, zup_r, zup_ne, true_and, and_true, true_or, or_true, and_self, or_self, false_or, or_false, false_and, and_false, Int.toNat_natCast, Int.toNat_add, Int.toNat_mul, Int.toNat_zero, Int.toNat_one, qtn, Int.natCast_add, qnat1, qnat0, ne_eq, not_true_eq_false, not_false_eq_true, eq_self, qbool]) (M1, zU) ⟨hM1, fun i hi => b2 i hi, b3, b4⟩
          obtain ⟨⟨x1, g⟩, ⟨e1, e2, e3, e4⟩, L⟩ := L
          refine ⟨x1, ?_, qXc_e e1⟩
          have hio := kx_inOak (n := n) (s := s) (d := 97) (M := x1) hF (qTw_x (fun a x y => e1 a (by omega)) hT) hA (qRg_x (e1 _ (by omega)) (e1 _ (by omega)) hg) hv.2
          have hal := k_atLeast (n := n) (s := s) (d := 98) (M := x1) hF hfin e2 (b := w - (qic (M 306) o : Nat)) (by omega)
          rw [hupe] at hal
          have e3' : x1 289 1 = ((10 ^ zct (qlen (M 306) o) 24 : Nat) : Int) := e3
          have hlow := k_lowest (d := 98) up (10 ^ zct (qlen (M 306) o) 24) (by omega) hall0 (by omega) u (n, s, S, R, x1)
          have h15' : ¬ 15 < ((zct (qlen (M 306) o) 24 : Nat) : Int) := by omega
          have ho := kx_hasOak (n := n) (s := s) (d := 98) (M := M) hF hT hA (o : Int)
          rw [if_pos hv] at ho
          generalize 10 ^ zct (qlen (M 306) o) 24 = B at *
          rw [c_X_stands]
          simp only [qff hF, if_true, ho, zbI]
          rw [if_neg (by decide), if_neg (by omega), if_neg (by omega)]
          simp only [qff hF, if_true, hl M (fun _ _ => rfl), zbI, k_bitCount]
          rw [if_neg h15']
          simp only [qff hF, if_true, b1, zbV, hl M1 hM1, zbI]
          refine Eq.trans L ?_
          rw [e_X_stands_31, if_neg (by decide)]
          simp only [qff hF, if_true, hio, zbI, k_bitIn]
          rw [qz (by omega) (by omega)]
          simp only [hal, zbL, e3', qff hF, if_true]
          rw [hlow]
        · intro M1 hw1 e6
          have hA1 := hw1.2.1.2.2.2
          have L0 : ∀ (j i : Nat) (M0 : Nat → Nat → Int), i + j = 16 → (∀ k, k < i → M0 318 k = if k = 0 then 1 else 0) → (∀ a, a ≠ 318 → M0 a = M1 a) → ∃ M', zR zPP 99 315 18 [zA 305, zI o, zI w, zI u, zI (i : Nat), zU, zU, zU, zU] [] (n, s, S, R, M0) = zR zPP 99 315 36 [zA 305, zI o, zI w, zI u, zL 1, zU, zI 0, zU, zU] [] (n, s, S, R, M') ∧ (∀ k, k < 16 → M' 318 k = if k = 0 then 1 else 0) ∧ ∀ a, a ≠ 318 → M' a = M1 a := by
            intro j
            induction j with
            | zero =>
              intro i M0 hi hk hx
              refine ⟨M0, ?_, fun k hk1 => hk k (by omega), hx⟩
              rw [e_M_stands_18]
              simp (disch := omega) only [qff hF, qltT, qltF, qleT, qleF, qeqT, qeqF, Int.reduceEq, Int.reduceNe, Int.reduceLT, Int.reduceLE, Int.reduceToNat, Int.reduceAdd, Int.reduceSub, Int.reduceMul, Int.reduceNeg, Nat.reduceAdd, Nat.reduceMul, Nat.reduceEqDiff, Nat.reduceLT, Int.cast_ofNat_Int, Int.lt_irrefl, ↓reduceIte, ↓reduceDIte, zbI, zbL, zbA, zbV, qrg, qrg2, qnn, qz, zup_at, zup_r, zup_ne, true_and, and_true, true_or, or_true, and_self, or_self, false_or, or_false, false_and, and_false, Int.toNat_natCast, Int.toNat_add, Int.toNat_mul, Int.toNat_zero, Int.toNat_one, qtn, Int.natCast_add, qnat1, qnat0, ne_eq, not_true_eq_false, not_false_eq_true, eq_self, qbool]
            | succ j ih =>
              intro i M0 hi hk hx
              rw [e_M_stands_18]
              by_cases h0 : i = 0
              · subst h0
                simp (disch := omega) only [qff hF, qltT, qltF, qleT, qleF, qeqT, qeqF, Int.reduceEq, Int.reduceNe, Int.reduceLT, Int.reduceLE, Int.reduceToNat, Int.reduceAdd, Int.reduceSub, Int.reduceMul, Int.reduceNeg, Nat.reduceAdd, Nat.reduceMul, Nat.reduceEqDiff, Nat.reduceLT, Int.cast_ofNat_Int, Int.lt_irrefl, ↓reduceIte, ↓reduceDIte, zbI, zbL, zbA, zbV, qrg, qrg2, qnn, qz, zup_at, zup_r, zup_ne, true_and, and_true, true_or, or_true, and_self, or_self, false_or, or_false, false_and, and_false, Int.toNat_natCast, Int.toNat_add, Int.toNat_mul, Int.toNat_zero, Int.toNat_one, qtn, Int.natCast_add, qnat1, qnat0, ne_eq, not_true_eq_false, not_false_eq_true, eq_self, qbool]
                refine ih 1 _ (by omega) (fun k hk1 => ?_) fun a ha => by rw [zup_rw ha, hx a ha]
                rw [show k = 0 by omega, zup_at, if_pos rfl]
              · simp (disch := omega) only [qff hF, qltT, qltF, qleT, qleF, qeqT, qeqF, Int.reduceEq, Int.reduceNe, Int.reduceLT, Int.reduceLE, Int.reduceToNat, Int.reduceAdd, Int.reduceSub, Int.reduceMul, Int.reduceNeg, Nat.reduceAdd, Nat.reduceMul, Nat.reduceEqDiff, Nat.reduceLT, Int.cast_ofNat_Int, Int.lt_irrefl, ↓reduceIte, ↓reduceDIte, zbI, zbL, zbA, zbV, qrg, qrg2, qnn, qz, zup_at, zup_r, zup_ne, true_and, and_true, true_or, or_true, and_self, or_self, false_or, or_false, false_and, and_false, Int.toNat_natCast, Int.toNat_add, Int.toNat_mul, Int.toNat_zero, Int.toNat_one, qtn, Int.natCast_add, qnat1, qnat0, ne_eq, not_true_eq_false, not_false_eq_true, eq_self, qbool]
                refine ih (i + 1) _ (by omega) (fun k hk1 => ?_) fun a ha => by rw [zup_rw ha, hx a ha]
                by_cases h : k = i
                · subst h
                  rw [zup_at, if_neg h0]
                · rw [zup_ne h, hk k (by omega)]
          obtain ⟨M2, b1, b2, b3⟩ := L0 16 0 M1 rfl (fun k hk => absurd hk (Nat.not_lt_zero k)) fun _ _ => rfl
          have hM2 : qXm M1 M2 := fun a ha => b3 a (by omega)
          have L := qlpI (E := fun y (x : (Nat → Nat → Int) × zV × zV) => qXm M1 x.1 ∧ ∀ i, i < 16 → x.1 318 i = qwy (M 306) (qWr W (M 306 3)) o y i)
            (P := fun y x => zR zPP 99 315 36 [zA 305, zI o, zI w, zI u, zL (10 ^ zct (qlen (M 306) o) y : Nat), zU, zI (y : Nat), x.2.1, x.2.2] [] (n, s, S, R, x.1)) (N := 24) (fun t x hy hx => by
              obtain ⟨x1, g, g'⟩ := x
              obtain ⟨e1, e2⟩ := hx
              have hb := hA.2.2.2.2.2.2.2.2.2.2.2.1 o t (by omega) hy
              have hx6 : x1 306 = M 306 := (e1 306 (by omega)).trans e6
              by_cases hc : qlen (M 306) o t = true
              · have hc3 : 3 ≤ M 306 (11 + 24 * o + t) := of_decide_eq_true hc
                obtain ⟨p, hp⟩ := Int.eq_ofNat_of_zero_le (show 0 ≤ M 306 (11 + 24 * o + t) - 3 by omega)
                obtain ⟨M3, h2, h3⟩ := wm_pays (s := s) (d := 91) hw1 e1 (o := o) (y := t) (p := p) (by rw [e6]; exact hv.2) hy (by rw [e6]; omega)
                rw [e6] at h2
                have h2' : zcal zPP 99 260 [zA 305, zI o, zI t, zI p] (n, s, S, R, x1) = some (zI (qpy (M 306) (qWr W (M 306 3)) o t), (n, s, S, R, M3)) := by
                  unfold qpy
                  rw [hp]
                  exact h2
                have hc15 := hmono t hy hc
                obtain ⟨M4, h4, h5, h6⟩ := km_draw (n := n) (s := s) (d := 99) (M := M3) (f := qwy (M 306) (qWr W (M 306 3)) o t) (c := zct (qlen (M 306) o) t) (p := qpy (M 306) (qWr W (M 306 3)) o t) hF (qLaw2 _ _ _) hc15 (qwy_in _ _ _ t) (fun i hi => by rw [h3 318 (by decide) (by decide) (by decide)]; exact e2 i hi) o w u hy
                refine ⟨(M4, zI (qpy (M 306) (qWr W (M 306 3)) o t), zI (-1)), ⟨qXm_t e1 (qXm_t (qX3_m h3) fun a ha => h6 a (by omega)), fun i hi => ?_⟩, ?_⟩
                · have e : qwy (M 306) (qWr W (M 306 3)) o (t + 1) = qwst (qwy (M 306) (qWr W (M 306 3)) o t) (qpy (M 306) (qWr W (M 306 3)) o t) := if_pos hc
                  rw [e]
                  exact h5 i hi
                · show zR _ _ _ _ _ _ _ = zR _ _ _ _ _ _ _
                  rw [zct_s, if_pos hc, ← h4, e_M_stands_36]
                  generalize 10 ^ zct (qlen (M 306) o) t = B at *
                  simp (disch := omega) only [km_get hF (show o < 5 by omega) hy, hx6, hp, h2', qff hF, qltT, qltF, qleT, qleF, qeqT, qeqF, Int.reduceEq, Int.reduceNe, Int.reduceLT, Int.reduceLE, Int.reduceToNat, Int.reduceAdd, Int.reduceSub, Int.reduceMul, Int.reduceNeg, Nat.reduceAdd, Nat.reduceMul, Nat.reduceEqDiff, Nat.reduceLT, Int.cast_ofNat_Int, Int.lt_irrefl, ↓reduceIte, ↓reduceDIte, zbI, zbL, zbA, zbV, qrg, qrg2, qnn, qz, zup_at, zup_r, zup_ne, true_and, and_true, true_or, or_true, and_self, or_self, false_or, or_false, false_and, and_false, Int.toNat_natCast, Int.toNat_add, Int.toNat_mul, Int.toNat_zero, Int.toNat_one, qtn, Int.natCast_add, qnat1, qnat0, ne_eq, not_true_eq_false, not_false_eq_true, eq_self, qbool]
              · have hc3 : ¬ 3 ≤ M 306 (11 + 24 * o + t) := fun z => hc (decide_eq_true z)
                refine ⟨(x1, g, g'), ⟨e1, fun i hi => ?_⟩, ?_⟩
                · have e : qwy (M 306) (qWr W (M 306 3)) o (t + 1) = qwy (M 306) (qWr W (M 306 3)) o t := if_neg hc
                  rw [e]
                  exact e2 i hi
                · show zR _ _ _ _ _ _ _ = zR _ _ _ _ _ _ _
                  rw [zct_s, if_neg hc, Nat.add_zero, e_M_stands_36]
                  generalize 10 ^ zct (qlen (M 306) o) t = B at *
                  simp (disch := omega) only [km_get hF (show o < 5 by omega) hy, hx6, qff hF, qltT, qltF, qleT, qleF, qeqT, qeqF, Int.reduceEq, Int.reduceNe, Int.reduceLT, Int.reduceLE, Int.reduceToNat, Int.reduceAdd, Int.reduceSub, Int.reduceMul, Int.reduceNeg, Nat.reduceAdd, Nat.reduceMul, Nat.reduceEqDiff, Nat.reduceLT, Int.cast_ofNat_Int, Int.lt_irrefl, ↓reduceIte, ↓reduceDIte, zbI, zbL, zbA, zbV, qrg, qrg2, qnn, qz, zup_at, zup_r, zup_ne, true_and, and_true, true_or, or_true, and_self, or_self, false_or, or_false, false_and, and_false, Int.toNat_natCast, Int.toNat_add, Int.toNat_mul, Int.toNat_zero, Int.toNat_one, qtn, Int.natCast_add, qnat1, qnat0, ne_eq, not_true_eq_false, not_false_eq_true, eq_self, qbool]) (M2, zU, zU) ⟨hM2, b2⟩
          obtain ⟨⟨x1, g, g'⟩, ⟨e1, e2⟩, L⟩ := L
          have hx6 : x1 306 = M 306 := (e1 306 (by omega)).trans e6
          refine ⟨x1, ?_, qXm_e e1⟩
          have L3 := qlp (P := fun i => zR zPP 99 315 100 [zA 305, zI o, zI w, zI u, zL (10 ^ zct (qlen (M 306) o) 24 : Nat), zU, zL (qtl (qwy (M 306) (qWr W (M 306 3)) o 24) (w - (qic (M 306) o : Nat)) i), zU, zI (i : Nat)] [] (n, s, S, R, x1)) (N := 16) (fun i hi => by
            have q := qtl_in (f := qwy (M 306) (qWr W (M 306 3)) o 24) (B := 1000000000000000) (by decide) hfin (w - (qic (M 306) o : Nat)) i
            have qi := hfin i
            have es : qtl (qwy (M 306) (qWr W (M 306 3)) o 24) (w - (qic (M 306) o : Nat)) (i + 1) = qtl (qwy (M 306) (qWr W (M 306 3)) o 24) (w - (qic (M 306) o : Nat)) i + (if w - (qic (M 306) o : Nat) ≤ i then qwy (M 306) (qWr W (M 306 3)) o 24 i else 0) := rfl
            have hin := km_inside (n := n) (s := s) (d := 96) (M := x1) hF (show o < 5 by omega)
            rw [hx6] at hin
            show zR _ _ _ _ _ _ _ = zR _ _ _ _ _ _ _
            rw [e_M_stands_100, es]
            generalize qtl (qwy (M 306) (qWr W (M 306 3)) o 24) (w - (qic (M 306) o : Nat)) i = Q at *
            have e2i : x1 318 i = _ := e2 i hi
            generalize qwy (M 306) (qWr W (M 306 3)) o 24 i = Qi at *
            generalize 10 ^ zct (qlen (M 306) o) 24 = B at *
            by_cases hl : (qic (M 306) o : Int) + i < w
            · have hl2 : ¬ w - (qic (M 306) o : Nat) ≤ i := by omega
              simp (disch := omega) only [hin, hl, hl2, qz64, qff hF, qltT, qltF, qleT, qleF, qeqT, qeqF, Int.reduceEq, Int.reduceNe, Int.reduceLT, Int.reduceLE, Int.reduceToNat, Int.reduceAdd, Int.reduceSub, Int.reduceMul, Int.reduceNeg, Nat.reduceAdd, Nat.reduceMul, Nat.reduceEqDiff, Nat.reduceLT, Int.cast_ofNat_Int, Int.lt_irrefl, ↓reduceIte, ↓reduceDIte, zbI, zbL, zbA, zbV, qrg, qrg2, qnn, qz, zup_at, zup_r, zup_ne, true_and, and_true, true_or, or_true, and_self, or_self, false_or, or_false, false_and, and_false, Int.toNat_natCast, Int.toNat_add, Int.toNat_mul, Int.toNat_zero, Int.toNat_one, qtn, Int.natCast_add, qnat1, qnat0, ne_eq, not_true_eq_false, not_false_eq_true, eq_self, qbool]
            · have hl2 : w - (qic (M 306) o : Nat) ≤ i := by omega
              simp (disch := omega) only [hin, hl, hl2, e2i, qz64, qff hF, qltT, qltF, qleT, qleF, qeqT, qeqF, Int.reduceEq, Int.reduceNe, Int.reduceLT, Int.reduceLE, Int.reduceToNat, Int.reduceAdd, Int.reduceSub, Int.reduceMul, Int.reduceNeg, Nat.reduceAdd, Nat.reduceMul, Nat.reduceEqDiff, Nat.reduceLT, Int.cast_ofNat_Int, Int.lt_irrefl, ↓reduceIte, ↓reduceDIte, zbI, zbL, zbA, zbV, qrg, qrg2, qnn, qz, zup_at, zup_r, zup_ne, true_and, and_true, true_or, or_true, and_self, or_self, false_or, or_false, false_and, and_false, Int.toNat_natCast, Int.toNat_add, Int.toNat_mul, Int.toNat_zero, Int.toNat_one, qtn, Int.natCast_add, qnat1, qnat0, ne_eq, not_true_eq_false, not_false_eq_true, eq_self, qbool])
          have hdv := km_divisor (d := 98) up (10 ^ zct (qlen (M 306) o) 24) (n, s, S, R, x1)
          rw [Nat.gcd_comm] at hdv
          have hgp : 0 < Nat.gcd (10 ^ zct (qlen (M 306) o) 24) up := Nat.gcd_pos_of_pos_left _ hall0
          have hlen := km_lent (n := n) (s := s) (d := 97) (M := M1) hF (show o < 5 by omega)
          rw [e6] at hlen
          have ho := km_isOak (n := n) (s := s) (d := 97) (M := M1) hF hA1 (o : Int)
          rw [e6, if_pos hv] at ho
          have h15' : ¬ 15 < ((zct (qlen (M 306) o) 24 : Nat) : Int) := by omega
          rw [c_M_stands]
          simp only [qff hF, if_true, ho, zbI]
          rw [if_neg (by decide), k_isIn, if_pos hn]
          simp only [zbI]
          rw [if_neg (by decide), hlen]
          simp only [zbI]
          rw [if_neg h15']
          refine Eq.trans b1 (Eq.trans L ?_)
          rw [e_M_stands_36, if_neg (by decide)]
          refine Eq.trans L3 ?_
          show zR _ _ _ _ _ _ _ = _
          rw [e_M_stands_100, if_neg (by decide), hupe, hdv]
          simp only [zbL]
          generalize Nat.gcd (10 ^ zct (qlen (M 306) o) 24) up = gg at *
          generalize 10 ^ zct (qlen (M 306) o) 24 = B at *
          have q1 : up / gg ≤ up := Nat.div_le_self _ _
          have q2 : B / gg ≤ B := Nat.div_le_self _ _
          have d1 : ((up : Int)).tdiv (gg : Int) = ((up / gg : Nat) : Int) := rfl
          have d2 : ((B : Int)).tdiv (gg : Int) = ((B / gg : Nat) : Int) := rfl
          have z1 : zw64 ((up / gg : Nat) : Int) = ((up / gg : Nat) : Int) := by
            generalize up / gg = e at *
            exact qz64 (by omega) (by omega)
          have z2 : zw64 ((B / gg : Nat) : Int) = ((B / gg : Nat) : Int) := by
            generalize B / gg = e at *
            exact qz64 (by omega) (by omega)
          have hg0 : ¬ (gg : Int) = 0 := by omega
          by_cases h0 : u = 0
          · rw [if_pos h0, if_pos h0, if_neg hg0, d1, z1]
          · rw [if_neg h0, if_neg h0, if_neg hg0, d2, z2]
      · have h15' : 15 < ((zct (qlen (M 306) o) 24 : Nat) : Int) := by omega
        have hX : zcal zPP 100 69 [zA 9, zI o, zI w, zI u] (n, s, S, R, M) = some (zL (-1), (n, s, S, R, M)) := by
          rw [c_X_stands]
          simp (disch := omega) only [kx_hasOak hF hT hA, hv, kx_lentOf hF hA hg hv.2, k_bitCount, qff hF, qltT, qltF, qleT, qleF, qeqT, qeqF, Int.reduceEq, Int.reduceNe, Int.reduceLT, Int.reduceLE, Int.reduceToNat, Int.reduceAdd, Int.reduceSub, Int.reduceMul, Int.reduceNeg, Nat.reduceAdd, Nat.reduceMul, Nat.reduceEqDiff, Nat.reduceLT, Int.cast_ofNat_Int, Int.lt_irrefl, ↓reduceIte, ↓reduceDIte, zbI, zbL, zbA, zbV, qrg, qrg2, qnn, qz, zup_at, zup_r, zup_ne, true_and, and_true, true_or, or_true, and_self, or_self, false_or, or_false, false_and, and_false, Int.toNat_natCast, Int.toNat_add, Int.toNat_mul, Int.toNat_zero, Int.toNat_one, qtn, Int.natCast_add, qnat1, qnat0, ne_eq, not_true_eq_false, not_false_eq_true, eq_self, qbool]
        have hM : zcal zPP 100 315 [zA 305, zI o, zI w, zI u] (n, s, S, R, M) = some (zL (-1), (n, s, S, R, M)) := by
          rw [c_M_stands]
          simp (disch := omega) only [km_isOak hF hA, hv, k_isIn, km_lent hF (show o < 5 by omega), qff hF, qltT, qltF, qleT, qleF, qeqT, qeqF, Int.reduceEq, Int.reduceNe, Int.reduceLT, Int.reduceLE, Int.reduceToNat, Int.reduceAdd, Int.reduceSub, Int.reduceMul, Int.reduceNeg, Nat.reduceAdd, Nat.reduceMul, Nat.reduceEqDiff, Nat.reduceLT, Int.cast_ofNat_Int, Int.lt_irrefl, ↓reduceIte, ↓reduceDIte, zbI, zbL, zbA, zbV, qrg, qrg2, qnn, qz, zup_at, zup_r, zup_ne, true_and, and_true, true_or, or_true, and_self, or_self, false_or, or_false, false_and, and_false, Int.toNat_natCast, Int.toNat_add, Int.toNat_mul, Int.toNat_zero, Int.toNat_one, qtn, Int.natCast_add, qnat1, qnat0, ne_eq, not_true_eq_false, not_false_eq_true, eq_self, qbool]
        exact qBo_same hw hX hM
    · have hX : zcal zPP 100 69 [zA 9, zI o, zI w, zI u] (n, s, S, R, M) = some (zL (-1), (n, s, S, R, M)) := by
        rw [c_X_stands]
        by_cases h1 : w < 0
        · simp (disch := omega) only [kx_hasOak hF hT hA, hv, qff hF, qltT, qltF, qleT, qleF, qeqT, qeqF, Int.reduceEq, Int.reduceNe, Int.reduceLT, Int.reduceLE, Int.reduceToNat, Int.reduceAdd, Int.reduceSub, Int.reduceMul, Int.reduceNeg, Nat.reduceAdd, Nat.reduceMul, Nat.reduceEqDiff, Nat.reduceLT, Int.cast_ofNat_Int, Int.lt_irrefl, ↓reduceIte, ↓reduceDIte, zbI, zbL, zbA, zbV, qrg, qrg2, qnn, qz, zup_at, zup_r, zup_ne, true_and, and_true, true_or, or_true, and_self, or_self, false_or, or_false, false_and, and_false, Int.toNat_natCast, Int.toNat_add, Int.toNat_mul, Int.toNat_zero, Int.toNat_one, qtn, Int.natCast_add, qnat1, qnat0, ne_eq, not_true_eq_false, not_false_eq_true, eq_self, qbool]
        · simp (disch := omega) only [kx_hasOak hF hT hA, hv, qff hF, qltT, qltF, qleT, qleF, qeqT, qeqF, Int.reduceEq, Int.reduceNe, Int.reduceLT, Int.reduceLE, Int.reduceToNat, Int.reduceAdd, Int.reduceSub, Int.reduceMul, Int.reduceNeg, Nat.reduceAdd, Nat.reduceMul, Nat.reduceEqDiff, Nat.reduceLT, Int.cast_ofNat_Int, Int.lt_irrefl, ↓reduceIte, ↓reduceDIte, zbI, zbL, zbA, zbV, qrg, qrg2, qnn, qz, zup_at, zup_r, zup_ne, true_and, and_true, true_or, or_true, and_self, or_self, false_or, or_false, false_and, and_false, Int.toNat_natCast, Int.toNat_add, Int.toNat_mul, Int.toNat_zero, Int.toNat_one, qtn, Int.natCast_add, qnat1, qnat0, ne_eq, not_true_eq_false, not_false_eq_true, eq_self, qbool]
      have hM : zcal zPP 100 315 [zA 305, zI o, zI w, zI u] (n, s, S, R, M) = some (zL (-1), (n, s, S, R, M)) := by
        rw [c_M_stands]
        by_cases h1 : w < 0
        · simp (disch := omega) only [km_isOak hF hA, hv, k_isIn, qff hF, qltT, qltF, qleT, qleF, qeqT, qeqF, Int.reduceEq, Int.reduceNe, Int.reduceLT, Int.reduceLE, Int.reduceToNat, Int.reduceAdd, Int.reduceSub, Int.reduceMul, Int.reduceNeg, Nat.reduceAdd, Nat.reduceMul, Nat.reduceEqDiff, Nat.reduceLT, Int.cast_ofNat_Int, Int.lt_irrefl, ↓reduceIte, ↓reduceDIte, zbI, zbL, zbA, zbV, qrg, qrg2, qnn, qz, zup_at, zup_r, zup_ne, true_and, and_true, true_or, or_true, and_self, or_self, false_or, or_false, false_and, and_false, Int.toNat_natCast, Int.toNat_add, Int.toNat_mul, Int.toNat_zero, Int.toNat_one, qtn, Int.natCast_add, qnat1, qnat0, ne_eq, not_true_eq_false, not_false_eq_true, eq_self, qbool]
        · simp (disch := omega) only [km_isOak hF hA, hv, k_isIn, qff hF, qltT, qltF, qleT, qleF, qeqT, qeqF, Int.reduceEq, Int.reduceNe, Int.reduceLT, Int.reduceLE, Int.reduceToNat, Int.reduceAdd, Int.reduceSub, Int.reduceMul, Int.reduceNeg, Nat.reduceAdd, Nat.reduceMul, Nat.reduceEqDiff, Nat.reduceLT, Int.cast_ofNat_Int, Int.lt_irrefl, ↓reduceIte, ↓reduceDIte, zbI, zbL, zbA, zbV, qrg, qrg2, qnn, qz, zup_at, zup_r, zup_ne, true_and, and_true, true_or, or_true, and_self, or_self, false_or, or_false, false_and, and_false, Int.toNat_natCast, Int.toNat_add, Int.toNat_mul, Int.toNat_zero, Int.toNat_one, qtn, Int.natCast_add, qnat1, qnat0, ne_eq, not_true_eq_false, not_false_eq_true, eq_self, qbool]
      exact qBo_same hw hX hM
  · have hX : zcal zPP 100 69 [zA 9, zI v, zI w, zI u] (n, s, S, R, M) = some (zL (-1), (n, s, S, R, M)) := by
      rw [c_X_stands]
      simp only [qff hF, if_true, kx_hasOak hF hT hA, zbI, if_neg hv]
    have hM : zcal zPP 100 315 [zA 305, zI v, zI w, zI u] (n, s, S, R, M) = some (zL (-1), (n, s, S, R, M)) := by
      rw [c_M_stands]
      simp only [qff hF, if_true, km_isOak hF hA, zbI, if_neg hv]
    exact qBo_same hw hX hM
end QF
