/-! lowest terms; expects: both sides -/
theorem qgcd (a b : Nat) : Nat.gcd a b = Nat.gcd b (a % b) := by
  rw [Nat.gcd_comm a b, Nat.gcd_rec b a, Nat.gcd_comm]
theorem qtm (a b : Nat) : ((a : Int)).tmod (b : Int) = ((a % b : Nat) : Int) := rfl
theorem qtdn (a b : Nat) : ((a : Int)).tdiv (b : Int) = ((a / b : Nat) : Int) := rfl
theorem qmod2 {a b k : Nat} (hb : 0 < b) (hk : b < 2 ^ (k + 1)) : b % (a % b) < 2 ^ k ∨ a % b = 0 := by
  have h2 : 2 ^ (k + 1) = 2 ^ k * 2 := Nat.pow_succ 2 k
  have hr : a % b < b := Nat.mod_lt _ hb
  by_cases h0 : a % b = 0
  · exact Or.inr h0
  · refine Or.inl ?_
    by_cases h : a % b < 2 ^ k
    · exact Nat.lt_of_lt_of_le (Nat.mod_lt _ (by omega)) (by omega)
    · have : b % (a % b) = b - a % b := by
        rw [Nat.mod_eq_sub_mod (by omega), Nat.mod_eq_of_lt (by omega)]
      omega
section QF
variable {S : Nat → Nat × Nat} {R : Nat → Nat → Nat} {M M' M1 : Nat → Nat → Int} {n s d : Nat} {A : Nat → Int} {W : Nat → qWt}
theorem k_lowest_end (u l c : Nat) (hl : 0 < c) (hu : u < 2 ^ 62) (hl2 : l < 2 ^ 62) (low : Int) (r : zO) (σ : zS) (hr : r = some (zL (((if low = 0 then u else l) / c : Nat) : Int), σ)) :
    (if zcmp (c : Int) 0 = 0 then some (zL 0, σ) else if low = 0 then if (c : Int) = 0 then none else some (zL (zw64 (((u : Int)).tdiv (c : Int))), σ) else if (c : Int) = 0 then none else some (zL (zw64 (((l : Int)).tdiv (c : Int))), σ)) = r := by
  have h62 : (2 : Nat) ^ 62 = 4611686018427387904 := rfl
  have hc0 : ¬ (c : Int) = 0 := by omega
  have h1 : u / c ≤ u := Nat.div_le_self _ _
  have h2 : l / c ≤ l := Nat.div_le_self _ _
  simp only [zcmp_eq, if_neg hc0, qtdn]
  rw [hr]
  have z1 : zw64 ((u / c : Nat) : Int) = ((u / c : Nat) : Int) := by
    generalize u / c = e at *
    exact qz64 (by omega) (by omega)
  have z2 : zw64 ((l / c : Nat) : Int) = ((l / c : Nat) : Int) := by
    generalize l / c = e at *
    exact qz64 (by omega) (by omega)
  by_cases h0 : low = 0
  · rw [if_pos h0, if_pos h0, z1]
  · rw [if_neg h0, if_neg h0, z2]
theorem k_lowest_loop (u l : Nat) (hu : u < 2 ^ 62) (hl2 : l < 2 ^ 62) (low : Int) (σ : zS) : ∀ (k a b i : Nat) (g : zV), b < 2 ^ k → i + 2 * k ≤ 999 → 0 < Nat.gcd a b → zR zPP d 110 6 [zL u, zU, zL l, zU, zI low, zL a, zU, zL b, zU, zI i, g, zU] [] σ = some (zL (((if low = 0 then u else l) / Nat.gcd a b : Nat) : Int), σ) := by
  intro k
  induction k with
  | zero =>
    intro a b i g hb hi hg
    have hb0 : b = 0 := by
      have : (2 : Nat) ^ 0 = 1 := rfl
      omega
    subst hb0
    rw [Nat.gcd_zero_right] at hg ⊢
    rw [e_Odds_lowest_6, if_pos (by omega)]
    simp only [zcmp_eq]
    rw [if_pos (show ((0 : Nat) : Int) = 0 from rfl)]
    have := k_lowest_end u l a hg hu hl2 low _ σ rfl
    simp only [zcmp_eq] at this
    exact this
  | succ k ih =>
    intro a b i g hb hi hg
    by_cases hb0 : b = 0
    · subst hb0
      rw [Nat.gcd_zero_right] at hg ⊢
      rw [e_Odds_lowest_6, if_pos (by omega)]
      simp only [zcmp_eq]
      rw [if_pos (show ((0 : Nat) : Int) = 0 from rfl)]
      have := k_lowest_end u l a hg hu hl2 low _ σ rfl
      simp only [zcmp_eq] at this
      exact this
    · have hbz : ¬ (b : Int) = 0 := by omega
      rw [e_Odds_lowest_6, if_pos (by omega)]
      simp only [zcmp_eq]
      rw [if_neg hbz, if_neg hbz, qtm, qw1 (show i < 100000 by omega)]
      rw [qgcd a b] at hg ⊢
      by_cases hr0 : a % b = 0
      · rw [hr0] at hg ⊢
        rw [Nat.gcd_zero_right] at hg ⊢
        rw [e_Odds_lowest_6, if_pos (by omega)]
        simp only [zcmp_eq]
        rw [if_pos (show ((0 : Nat) : Int) = 0 from rfl)]
        have := k_lowest_end u l b hg hu hl2 low _ σ rfl
        simp only [zcmp_eq] at this
        exact this
      · have hrz : ¬ ((a % b : Nat) : Int) = 0 := by omega
        rw [e_Odds_lowest_6, if_pos (by omega)]
        simp only [zcmp_eq]
        rw [if_neg hrz, if_neg hrz, qtm, qw1 (show i + 1 < 100000 by omega)]
        rw [qgcd b (a % b)] at hg ⊢
        refine ih _ _ _ _ ?_ (by omega) hg
        rcases qmod2 (a := a) (show 0 < b by omega) hb with h | h
        · exact h
        · exact absurd h hr0
theorem k_lowest (u l : Nat) (hu : u < 2 ^ 62) (hl : 0 < l) (hl2 : l < 2 ^ 62) (low : Int) (σ : zS) : zcal zPP (d + 1) 110 [zL u, zL l, zI low] σ = some (zL (((if low = 0 then u else l) / Nat.gcd l u : Nat) : Int), σ) := by
  rw [c_Odds_lowest]
  exact k_lowest_loop u l hu hl2 low σ 62 l u 0 zU hu (by decide) (Nat.gcd_pos_of_pos_left _ hl)
theorem km_divisor_loop (u l : Int) (σ : zS) : ∀ (b a : Nat) (g : zV), zR zPP d 316 4 [zL u, zU, zL l, zU, zL a, zU, zL b, zU, g, zU] [] σ = some (zL (Nat.gcd a b : Nat), σ) := by
  intro b
  induction b using Nat.strongRecOn with
  | ind b ih =>
    intro a g
    rw [e_M_divisor_4]
    simp only [zcmp_eq]
    by_cases hb0 : b = 0
    · subst hb0
      rw [if_pos (show ((0 : Nat) : Int) = 0 from rfl), Nat.gcd_zero_right]
    · have hbz : ¬ (b : Int) = 0 := by omega
      rw [if_neg hbz, if_neg hbz, qtm, ih (a % b) (Nat.mod_lt _ (by omega)), ← qgcd]
theorem km_divisor (u l : Nat) (σ : zS) : zcal zPP (d + 1) 316 [zL u, zL l] σ = some (zL (Nat.gcd u l : Nat), σ) := by
  rw [c_M_divisor]
  exact km_divisor_loop u l σ l u zU
/-! expects -/
def qex (A : Nat → Int) (w : qWt) (o : Nat) : Nat → Int := qS fun y => if 3 ≤ A (11 + 24 * o + y) then 10 - qLaw w (qEn A o y (A (11 + 24 * o + y) - 3).toNat) 2 (A (136 + y)) else 0
def qexs (A : Nat → Int) (w : qWt) : Nat → Int := qS fun o => qex A w o 24
theorem qex_in (A : Nat → Int) (w : qWt) (o n : Nat) : 0 * (n : Int) ≤ qex A w o n ∧ qex A w o n ≤ 10 * n := by
  have h : ∀ y, 0 ≤ (if 3 ≤ A (11 + 24 * o + y) then 10 - qLaw w (qEn A o y (A (11 + 24 * o + y) - 3).toNat) 2 (A (136 + y)) else 0) ∧ (if 3 ≤ A (11 + 24 * o + y) then 10 - qLaw w (qEn A o y (A (11 + 24 * o + y) - 3).toNat) 2 (A (136 + y)) else 0) ≤ 10 := fun y => by
    have := qLaw2 w (qEn A o y (A (11 + 24 * o + y) - 3).toNat) (A (136 + y))
    split <;> omega
  exact ⟨qS_ge fun i _ => (h i).1, qS_le fun i _ => (h i).2⟩
theorem qexs_in (A : Nat → Int) (w : qWt) (n : Nat) : 0 * (n : Int) ≤ qexs A w n ∧ qexs A w n ≤ 240 * n := by
  refine ⟨qS_ge fun i _ => ?_, qS_le fun i _ => ?_⟩
  · have := (qex_in A w i 24).1; omega
  · have := (qex_in A w i 24).2; omega
theorem qb_expects (hw : qWd n S R M W) (v : Int) : qBo 70 317 [zI v] n s S R M := by
  have hA := hw.2.1.2.2.2
  have hF := hw.1.2.1
  have hT := hw.2.1.1
  have hg : qRg M 21 (qg (M 306)) := hw.2.1.2.1.1
  have ha5 := hA.1.2
  have hp5 := hA.2.1.2
  obtain ⟨a, ha⟩ := Int.eq_ofNat_of_zero_le hA.1.1
  obtain ⟨q, hq1, hq2⟩ := wx_ruler (s := s) hw
  have hr := hF.1.2.1.1.2.2.1
  have hsum := qexs_in (M 306) (qWr W (M 306 3)) a
  obtain ⟨u, hu⟩ := Int.eq_ofNat_of_zero_le (show 0 ≤ qexs (M 306) (qWr W (M 306 3)) a by omega)
  have h62 : (2 : Nat) ^ 62 = 4611686018427387904 := rfl
  refine qBo_q (v := zL (((if v = 0 then u else 10) / Nat.gcd 10 u : Nat) : Int)) hw ?_ ?_
  · have L2 : ∀ o, o < a → ∀ (M1 : Nat → Nat → Int) (g7 : zV), qX2 M M1 → ∃ x : (Nat → Nat → Int) × zV, qX2 M x.1 ∧ zR zPP 99 70 17 [zA 9, zI v, zL (qexs (M 306) (qWr W (M 306 3)) o), zU, zI o, zI (zsn (qlen (M 306) o) 24 : Nat), zI 0, g7] [] (n, s, S, R, M1) = zR zPP 99 70 17 [zA 9, zI v, zL (qexs (M 306) (qWr W (M 306 3)) (o + 1)), zU, zI o, zI (zsn (qlen (M 306) o) 24 : Nat), zI ((24 : Nat) : Int), x.2] [] (n, s, S, R, x.1) := by
      intro o ho M1 g7 hM1
      have b0 := qexs_in (M 306) (qWr W (M 306 3)) o
      have := qlpE (E := fun x : (Nat → Nat → Int) × zV => qX2 M x.1) (P := fun y x => zR zPP 99 70 17 [zA 9, zI v, zL (qexs (M 306) (qWr W (M 306 3)) o + qex (M 306) (qWr W (M 306 3)) o y), zU, zI o, zI (zsn (qlen (M 306) o) 24 : Nat), zI (y : Nat), x.2] [] (n, s, S, R, x.1)) (N := 24) (fun y x hy hx => by
        have b1 := qex_in (M 306) (qWr W (M 306 3)) o y
        have hb := hA.2.2.2.2.2.2.2.2.2.2.2.1 o y (by omega) hy
        have es : qex (M 306) (qWr W (M 306 3)) o (y + 1) = qex (M 306) (qWr W (M 306 3)) o y + (if 3 ≤ M 306 (11 + 24 * o + y) then 10 - qLaw (qWr W (M 306 3)) (qEn (M 306) o y (M 306 (11 + 24 * o + y) - 3).toNat) 2 (M 306 (136 + y)) else 0) := rfl
        by_cases hc : 3 ≤ M 306 (11 + 24 * o + y)
        · obtain ⟨p, hp⟩ := Int.eq_ofNat_of_zero_le (show 0 ≤ M 306 (11 + 24 * o + y) - 3 by omega)
          have b2 := qLaw2 (qWr W (M 306 3)) (qEn (M 306) o y p) (M 306 (136 + y))
          obtain ⟨M2, h2, h3⟩ := kj_says (n := n) (s := s) (d := 93) (M := x.1) hF (qSt_x (fun a ha => hx a (by omega) (by omega)) hw.1.2.2) (qTn_x (fun a ha => hx a (by omega) (by omega)) hq2) (qCE_x hx (wx_CE hw)) (L := 2) (by decide) (show (o : Int) < M 306 0 by omega) hy (show (p : Int) < M 306 1 by omega)
          have h2' : zcal zPP 99 96 [zA 284, zI 2, zA q, zA 21, zI o, zI y, zI p] (n, s, S, R, x.1) = some (zI (qLaw (qWr W (M 306 3)) (qEn (M 306) o y p) 2 (M 306 (136 + y))), (n, s, S, R, M2)) := h2
          have hx10 : x.1 10 = M 10 := hx 10 (by decide) (by decide)
          have hh := k_holder (n := n) (s := s) (d := 97) (M := x.1) hr (qRg_x (hx _ (by decide) (by decide)) (hx _ (by decide) (by decide)) hg) (show o < 5 by omega) hy
          rw [qg_in (show (o : Int) < M 306 0 by omega), if_pos (show 3 ≤ M 306 (11 + 24 * o + y) ∧ M 306 (11 + 24 * o + y) < 8 by omega), hp] at hh
          have hh' : zcal zPP 99 141 [zA 21, zI o, zI y] (n, s, S, R, x.1) = some (zI p, (n, s, S, R, x.1)) := hh
          rw [if_pos hc, hp, Int.toNat_natCast] at es
          refine ⟨(M2, zI p), qX2_t hx h3, ?_⟩
          show zR _ _ _ _ _ _ _ = zR _ _ _ _ _ _ _
          rw [e_X_expects_17, es, zsn_bit24 _ hy, if_pos (show qlen (M 306) o y = true from decide_eq_true hc)]
          simp (disch := omega) only [hh', hq1 97 x.1 hx10, h2', qz64, qff hF, qltT, qltF, qleT, qleF, qeqT, qeqF, Int.reduceEq, Int.reduceNe, Int.reduceLT, Int.reduceLE, Int.reduceToNat, Int.reduceAdd, Int.reduceSub, Int.reduceMul, Int.reduceNeg, Nat.reduceAdd, Nat.reduceMul, Nat.reduceEqDiff, Nat.reduceLT, Int.cast_ofNat_Int, Int.lt_irrefl, ↓reduceIte, ↓reduceDIte, zbI, zbL, zbA, zbV, qrg, qrg2, qnn, qz, zup_at, zup_r, zup_ne, true_and, and_true, true_or, or_true, and_self, or_self, false_or, or_false, false_and, and_false, Int.toNat_natCast, Int.toNat_add, Int.toNat_mul, Int.toNat_zero, Int.toNat_one, qtn, Int.natCast_add, qnat1, qnat0, ne_eq, not_true_eq_false, not_false_eq_true, eq_self, qbool]
          rw [Int.add_assoc]
        · rw [if_neg hc, Int.add_zero] at es
          refine ⟨x, hx, ?_⟩
          show zR _ _ _ _ _ _ _ = zR _ _ _ _ _ _ _
          rw [e_X_expects_17, es, zsn_bit24 _ hy, if_neg (show ¬ qlen (M 306) o y = true from fun z => hc (of_decide_eq_true z))]
          simp (disch := omega) only [qff hF, qltT, qltF, qleT, qleF, qeqT, qeqF, Int.reduceEq, Int.reduceNe, Int.reduceLT, Int.reduceLE, Int.reduceToNat, Int.reduceAdd, Int.reduceSub, Int.reduceMul, Int.reduceNeg, Nat.reduceAdd, Nat.reduceMul, Nat.reduceEqDiff, Nat.reduceLT, Int.cast_ofNat_Int, Int.lt_irrefl, ↓reduceIte, ↓reduceDIte, zbI, zbL, zbA, zbV, qrg, qrg2, qnn, qz, zup_at, zup_r, zup_ne, true_and, and_true, true_or, or_true, and_self, or_self, false_or, or_false, false_and, and_false, Int.toNat_natCast, Int.toNat_add, Int.toNat_mul, Int.toNat_zero, Int.toNat_one, qtn, Int.natCast_add, qnat1, qnat0, ne_eq, not_true_eq_false, not_false_eq_true, eq_self, qbool]) (M1, g7) hM1
      obtain ⟨x, hx, h⟩ := this
      refine ⟨x, hx, ?_⟩
      have e0 : qexs (M 306) (qWr W (M 306 3)) o + qex (M 306) (qWr W (M 306 3)) o 0 = qexs (M 306) (qWr W (M 306 3)) o := Int.add_zero _
      have e4 : qexs (M 306) (qWr W (M 306 3)) o + qex (M 306) (qWr W (M 306 3)) o 24 = qexs (M 306) (qWr W (M 306 3)) (o + 1) := rfl
      simp only [e0, e4] at h
      exact h
    have L := qlpE (E := fun x : (Nat → Nat → Int) × zV × zV × zV => qX2 M x.1) (P := fun o x => zR zPP 99 70 4 [zA 9, zI v, zL (qexs (M 306) (qWr W (M 306 3)) o), zU, zI (o : Nat), x.2.1, x.2.2.1, x.2.2.2] [] (n, s, S, R, x.1)) (N := a) (fun o x ho hx => by
      obtain ⟨y, hy, h⟩ := L2 o ho x.1 x.2.2.2 hx
      have h12 : x.1 10 12 = a := by rw [hx 10 (by decide) (by decide)]; exact hT.1.1.trans ha
      have hl := kx_lentOf (n := n) (s := s) (d := 97) (M := x.1) hF hA (qRg_x (hx _ (by decide) (by decide)) (hx _ (by decide) (by decide)) hg) (show (o : Int) < M 306 0 by omega)
      refine ⟨(y.1, zI (zsn (qlen (M 306) o) 24 : Nat), zI ((24 : Nat) : Int), y.2), hy, ?_⟩
      show zR _ _ _ _ _ _ _ = zR _ _ _ _ _ _ _
      rw [e_X_expects_4]
      simp (disch := omega) only [h12, hl, qff hF, qltT, qltF, qleT, qleF, qeqT, qeqF, Int.reduceEq, Int.reduceNe, Int.reduceLT, Int.reduceLE, Int.reduceToNat, Int.reduceAdd, Int.reduceSub, Int.reduceMul, Int.reduceNeg, Nat.reduceAdd, Nat.reduceMul, Nat.reduceEqDiff, Nat.reduceLT, Int.cast_ofNat_Int, Int.lt_irrefl, ↓reduceIte, ↓reduceDIte, zbI, zbL, zbA, zbV, qrg, qrg2, qnn, qz, zup_at, zup_r, zup_ne, true_and, and_true, true_or, or_true, and_self, or_self, false_or, or_false, false_and, and_false, Int.toNat_natCast, Int.toNat_add, Int.toNat_mul, Int.toNat_zero, Int.toNat_one, qtn, Int.natCast_add, qnat1, qnat0, ne_eq, not_true_eq_false, not_false_eq_true, eq_self, qbool]
      rw [h, e_X_expects_17]
      simp (disch := omega) only [qff hF, qltT, qltF, qleT, qleF, qeqT, qeqF, Int.reduceEq, Int.reduceNe, Int.reduceLT, Int.reduceLE, Int.reduceToNat, Int.reduceAdd, Int.reduceSub, Int.reduceMul, Int.reduceNeg, Nat.reduceAdd, Nat.reduceMul, Nat.reduceEqDiff, Nat.reduceLT, Int.cast_ofNat_Int, Int.lt_irrefl, ↓reduceIte, ↓reduceDIte, zbI, zbL, zbA, zbV, qrg, qrg2, qnn, qz, zup_at, zup_r, zup_ne, true_and, and_true, true_or, or_true, and_self, or_self, false_or, or_false, false_and, and_false, Int.toNat_natCast, Int.toNat_add, Int.toNat_mul, Int.toNat_zero, Int.toNat_one, qtn, Int.natCast_add, qnat1, qnat0, ne_eq, not_true_eq_false, not_false_eq_true, eq_self, qbool]) (M, zU, zU, zU) (qX2_r M)
    obtain ⟨x, hx, L⟩ := L
    have h12 : x.1 10 12 = a := by rw [hx 10 (by decide) (by decide)]; exact hT.1.1.trans ha
    have hlow := k_lowest (d := 98) u 10 (by omega) (by decide) (by decide) v (n, s, S, R, x.1)
    have hlow' : zcal zPP 99 110 [zL u, zL 10, zI v] (n, s, S, R, x.1) = some (zL (((if v = 0 then u else 10) / Nat.gcd 10 u : Nat) : Int), (n, s, S, R, x.1)) := hlow
    refine ⟨x.1, ?_, qX2_e hx⟩
    rw [c_X_expects]
    simp (disch := omega) only [qff hF, qltT, qltF, qleT, qleF, qeqT, qeqF, Int.reduceEq, Int.reduceNe, Int.reduceLT, Int.reduceLE, Int.reduceToNat, Int.reduceAdd, Int.reduceSub, Int.reduceMul, Int.reduceNeg, Nat.reduceAdd, Nat.reduceMul, Nat.reduceEqDiff, Nat.reduceLT, Int.cast_ofNat_Int, Int.lt_irrefl, ↓reduceIte, ↓reduceDIte, zbI, zbL, zbA, zbV, qrg, qrg2, qnn, qz, zup_at, zup_r, zup_ne, true_and, and_true, true_or, or_true, and_self, or_self, false_or, or_false, false_and, and_false, Int.toNat_natCast, Int.toNat_add, Int.toNat_mul, Int.toNat_zero, Int.toNat_one, qtn, Int.natCast_add, qnat1, qnat0, ne_eq, not_true_eq_false, not_false_eq_true, eq_self, qbool]
    refine Eq.trans L ?_
    rw [e_X_expects_4, hu]
    simp (disch := omega) only [h12, hlow', qff hF, qltT, qltF, qleT, qleF, qeqT, qeqF, Int.reduceEq, Int.reduceNe, Int.reduceLT, Int.reduceLE, Int.reduceToNat, Int.reduceAdd, Int.reduceSub, Int.reduceMul, Int.reduceNeg, Nat.reduceAdd, Nat.reduceMul, Nat.reduceEqDiff, Nat.reduceLT, Int.cast_ofNat_Int, Int.lt_irrefl, ↓reduceIte, ↓reduceDIte, zbI, zbL, zbA, zbV, qrg, qrg2, qnn, qz, zup_at, zup_r, zup_ne, true_and, and_true, true_or, or_true, and_self, or_self, false_or, or_false, false_and, and_false, Int.toNat_natCast, Int.toNat_add, Int.toNat_mul, Int.toNat_zero, Int.toNat_one, qtn, Int.natCast_add, qnat1, qnat0, ne_eq, not_true_eq_false, not_false_eq_true, eq_self, qbool]
  · intro M1 hw1 e6
    have hA1 := hw1.2.1.2.2.2
    have L2 : ∀ o, o < a → ∀ (M0 : Nat → Nat → Int), qX3 M1 M0 → ∃ M2, qX3 M1 M2 ∧ zR zPP 99 317 12 [zA 305, zI v, zL (qexs (M 306) (qWr W (M 306 3)) o), zU, zI o, zI 0] [] (n, s, S, R, M0) = zR zPP 99 317 12 [zA 305, zI v, zL (qexs (M 306) (qWr W (M 306 3)) (o + 1)), zU, zI o, zI ((24 : Nat) : Int)] [] (n, s, S, R, M2) := by
      intro o ho M0 hM0
      have b0 := qexs_in (M 306) (qWr W (M 306 3)) o
      have := qlpE (E := qX3 M1) (P := fun y M0 => zR zPP 99 317 12 [zA 305, zI v, zL (qexs (M 306) (qWr W (M 306 3)) o + qex (M 306) (qWr W (M 306 3)) o y), zU, zI o, zI (y : Nat)] [] (n, s, S, R, M0)) (N := 24) (fun y M0 hy hx => by
        have b1 := qex_in (M 306) (qWr W (M 306 3)) o y
        have hb := hA.2.2.2.2.2.2.2.2.2.2.2.1 o y (by omega) hy
        have hx6 : M0 306 = M 306 := (hx 306 (by decide) (by decide) (by decide)).trans e6
        have hx8 : M0 308 = M1 308 := hx 308 (by decide) (by decide) (by decide)
        have es : qex (M 306) (qWr W (M 306 3)) o (y + 1) = qex (M 306) (qWr W (M 306 3)) o y + (if 3 ≤ M 306 (11 + 24 * o + y) then 10 - qLaw (qWr W (M 306 3)) (qEn (M 306) o y (M 306 (11 + 24 * o + y) - 3).toNat) 2 (M 306 (136 + y)) else 0) := rfl
        by_cases hc : 3 ≤ M 306 (11 + 24 * o + y)
        · obtain ⟨p, hp⟩ := Int.eq_ofNat_of_zero_le (show 0 ≤ M 306 (11 + 24 * o + y) - 3 by omega)
          have b2 := qLaw2 (qWr W (M 306 3)) (qEn (M 306) o y p) (M 306 (136 + y))
          obtain ⟨M2, h2, h3⟩ := km_paysOf (n := n) (s := s) (d := 91) (M := M0) (S := S) (R := R) (w := qWr W (M 306 3)) (o := o) (y := y) (p := p) hF (by rw [hx6]; exact hA) (by rw [hx6]; omega) hy (by rw [hx6]; omega) (by rw [hx6, hx8, ← e6]; exact wm_text hw1 hA1.2.2.2.1)
          rw [hx6] at h2
          rw [if_pos hc, hp, Int.toNat_natCast] at es
          refine ⟨M2, qX3_t hx h3, ?_⟩
          show zR _ _ _ _ _ _ _ = zR _ _ _ _ _ _ _
          rw [e_M_expects_12, es]
          simp (disch := omega) only [km_get hF (show o < 5 by omega) hy, hx6, hp, h2, qz64, qff hF, qltT, qltF, qleT, qleF, qeqT, qeqF, Int.reduceEq, Int.reduceNe, Int.reduceLT, Int.reduceLE, Int.reduceToNat, Int.reduceAdd, Int.reduceSub, Int.reduceMul, Int.reduceNeg, Nat.reduceAdd, Nat.reduceMul, Nat.reduceEqDiff, Nat.reduceLT, Int.cast_ofNat_Int, Int.lt_irrefl, ↓reduceIte, ↓reduceDIte, zbI, zbL, zbA, zbV, qrg, qrg2, qnn, qz, zup_at, zup_r, zup_ne, true_and, and_true, true_or, or_true, and_self, or_self, false_or, or_false, false_and, and_false, Int.toNat_natCast, Int.toNat_add, Int.toNat_mul, Int.toNat_zero, Int.toNat_one, qtn, Int.natCast_add, qnat1, qnat0, ne_eq, not_true_eq_false, not_false_eq_true, eq_self, qbool]
          rw [Int.add_assoc]
        · rw [if_neg hc, Int.add_zero] at es
          refine ⟨M0, hx, ?_⟩
          show zR _ _ _ _ _ _ _ = zR _ _ _ _ _ _ _
          rw [e_M_expects_12, es]
          simp (disch := omega) only [km_get hF (show o < 5 by omega) hy, hx6, qff hF, qltT, qltF, qleT, qleF, qeqT, qeqF, Int.reduceEq, Int.reduceNe, Int.reduceLT, Int.reduceLE, Int.reduceToNat, Int.reduceAdd, Int.reduceSub, Int.reduceMul, Int.reduceNeg, Nat.reduceAdd, Nat.reduceMul, Nat.reduceEqDiff, Nat.reduceLT, Int.cast_ofNat_Int, Int.lt_irrefl, ↓reduceIte, ↓reduceDIte, zbI, zbL, zbA, zbV, qrg, qrg2, qnn, qz, zup_at, zup_r, zup_ne, true_and, and_true, true_or, or_true, and_self, or_self, false_or, or_false, false_and, and_false, Int.toNat_natCast, Int.toNat_add, Int.toNat_mul, Int.toNat_zero, Int.toNat_one, qtn, Int.natCast_add, qnat1, qnat0, ne_eq, not_true_eq_false, not_false_eq_true, eq_self, qbool]) M0 hM0
      obtain ⟨x, hx, h⟩ := this
      refine ⟨x, hx, ?_⟩
      have e0 : qexs (M 306) (qWr W (M 306 3)) o + qex (M 306) (qWr W (M 306 3)) o 0 = qexs (M 306) (qWr W (M 306 3)) o := Int.add_zero _
      have e4 : qexs (M 306) (qWr W (M 306 3)) o + qex (M 306) (qWr W (M 306 3)) o 24 = qexs (M 306) (qWr W (M 306 3)) (o + 1) := rfl
      simp only [e0, e4] at h
      exact h
    have L := qlpE (E := fun x : (Nat → Nat → Int) × zV => qX3 M1 x.1) (P := fun o x => zR zPP 99 317 4 [zA 305, zI v, zL (qexs (M 306) (qWr W (M 306 3)) o), zU, zI (o : Nat), x.2] [] (n, s, S, R, x.1)) (N := a) (fun o x ho hx => by
      obtain ⟨M2, hy, h⟩ := L2 o ho x.1 hx
      have hx6 : x.1 306 = M 306 := (hx 306 (by decide) (by decide) (by decide)).trans e6
      refine ⟨(M2, zI ((24 : Nat) : Int)), hy, ?_⟩
      show zR _ _ _ _ _ _ _ = zR _ _ _ _ _ _ _
      rw [e_M_expects_4]
      simp (disch := omega) only [hx6, ha, qff hF, qltT, qltF, qleT, qleF, qeqT, qeqF, Int.reduceEq, Int.reduceNe, Int.reduceLT, Int.reduceLE, Int.reduceToNat, Int.reduceAdd, Int.reduceSub, Int.reduceMul, Int.reduceNeg, Nat.reduceAdd, Nat.reduceMul, Nat.reduceEqDiff, Nat.reduceLT, Int.cast_ofNat_Int, Int.lt_irrefl, ↓reduceIte, ↓reduceDIte, zbI, zbL, zbA, zbV, qrg, qrg2, qnn, qz, zup_at, zup_r, zup_ne, true_and, and_true, true_or, or_true, and_self, or_self, false_or, or_false, false_and, and_false, Int.toNat_natCast, Int.toNat_add, Int.toNat_mul, Int.toNat_zero, Int.toNat_one, qtn, Int.natCast_add, qnat1, qnat0, ne_eq, not_true_eq_false, not_false_eq_true, eq_self, qbool]
      rw [h, e_M_expects_12]
      simp (disch := omega) only [qff hF, qltT, qltF, qleT, qleF, qeqT, qeqF, Int.reduceEq, Int.reduceNe, Int.reduceLT, Int.reduceLE, Int.reduceToNat, Int.reduceAdd, Int.reduceSub, Int.reduceMul, Int.reduceNeg, Nat.reduceAdd, Nat.reduceMul, Nat.reduceEqDiff, Nat.reduceLT, Int.cast_ofNat_Int, Int.lt_irrefl, ↓reduceIte, ↓reduceDIte, zbI, zbL, zbA, zbV, qrg, qrg2, qnn, qz, zup_at, zup_r, zup_ne, true_and, and_true, true_or, or_true, and_self, or_self, false_or, or_false, false_and, and_false, Int.toNat_natCast, Int.toNat_add, Int.toNat_mul, Int.toNat_zero, Int.toNat_one, qtn, Int.natCast_add, qnat1, qnat0, ne_eq, not_true_eq_false, not_false_eq_true, eq_self, qbool]) (M1, zU) (qX3_r M1)
    obtain ⟨x, hx, L⟩ := L
    have hx6 : x.1 306 = M 306 := (hx 306 (by decide) (by decide) (by decide)).trans e6
    refine ⟨x.1, ?_, qX3_e hx⟩
    have hdv := km_divisor (d := 98) u 10 (n, s, S, R, x.1)
    have hdv' : zcal zPP 99 316 [zL u, zL 10] (n, s, S, R, x.1) = some (zL (Nat.gcd 10 u : Nat), (n, s, S, R, x.1)) := by rw [Nat.gcd_comm]; exact hdv
    have hgp : 0 < Nat.gcd 10 u := Nat.gcd_pos_of_pos_left _ (by decide)
    generalize Nat.gcd 10 u = gg at *
    have q1 : u / gg ≤ u := Nat.div_le_self _ _
    have q2 : 10 / gg ≤ 10 := Nat.div_le_self _ _
    have d1 : ((u : Int)).tdiv (gg : Int) = ((u / gg : Nat) : Int) := rfl
    have d2 : ((10 : Int)).tdiv (gg : Int) = ((10 / gg : Nat) : Int) := rfl
    have z1 : zw64 ((u / gg : Nat) : Int) = ((u / gg : Nat) : Int) := by
      generalize u / gg = e at *
      exact qz64 (by omega) (by omega)
    have z2 : zw64 ((10 / gg : Nat) : Int) = ((10 / gg : Nat) : Int) := by
      generalize 10 / gg = e at *
      exact qz64 (by omega) (by omega)
    rw [c_M_expects]
    simp (disch := omega) only [qff hF, qltT, qltF, qleT, qleF, qeqT, qeqF, Int.reduceEq, Int.reduceNe, Int.reduceLT, Int.reduceLE, Int.reduceToNat, Int.reduceAdd, Int.reduceSub, Int.reduceMul, Int.reduceNeg, Nat.reduceAdd, Nat.reduceMul, Nat.reduceEqDiff, Nat.reduceLT, Int.cast_ofNat_Int, Int.lt_irrefl, ↓reduceIte, ↓reduceDIte, zbI, zbL, zbA, zbV, qrg, qrg2, qnn, qz, zup_at, zup_r, zup_ne, true_and, and_true, true_or, or_true, and_self, or_self, false_or, or_false, false_and, and_false, Int.toNat_natCast, Int.toNat_add, Int.toNat_mul, Int.toNat_zero, Int.toNat_one, qtn, Int.natCast_add, qnat1, qnat0, ne_eq, not_true_eq_false, not_false_eq_true, eq_self, qbool]
    refine Eq.trans L ?_
    rw [e_M_expects_4, hu]
    by_cases h0 : v = 0
    · rw [if_pos h0]
      simp (disch := omega) only [hx6, ha, hdv', d1, z1, qff hF, qltT, qltF, qleT, qleF, qeqT, qeqF, Int.reduceEq, Int.reduceNe, Int.reduceLT, Int.reduceLE, Int.reduceToNat, Int.reduceAdd, Int.reduceSub, Int.reduceMul, Int.reduceNeg, Nat.reduceAdd, Nat.reduceMul, Nat.reduceEqDiff, Nat.reduceLT, Int.cast_ofNat_Int, Int.lt_irrefl, ↓reduceIte, ↓reduceDIte, zbI, zbL, zbA, zbV, qrg, qrg2, qnn, qz, zup_at, zup_r, zup_ne, true_and, and_true, true_or, or_true, and_self, or_self, false_or, or_false, false_and, and_false, Int.toNat_natCast, Int.toNat_add, Int.toNat_mul, Int.toNat_zero, Int.toNat_one, qtn, Int.natCast_add, qnat1, qnat0, ne_eq, not_true_eq_false, not_false_eq_true, eq_self, qbool]
    · rw [if_neg h0]
      simp (disch := omega) only [hx6, ha, hdv', d2, z2, qff hF, qltT, qltF, qleT, qleF, qeqT, qeqF, Int.reduceEq, Int.reduceNe, Int.reduceLT, Int.reduceLE, Int.reduceToNat, Int.reduceAdd, Int.reduceSub, Int.reduceMul, Int.reduceNeg, Nat.reduceAdd, Nat.reduceMul, Nat.reduceEqDiff, Nat.reduceLT, Int.cast_ofNat_Int, Int.lt_irrefl, ↓reduceIte, ↓reduceDIte, zbI, zbL, zbA, zbV, qrg, qrg2, qnn, qz, zup_at, zup_r, zup_ne, true_and, and_true, true_or, or_true, and_self, or_self, false_or, or_false, false_and, and_false, Int.toNat_natCast, Int.toNat_add, Int.toNat_mul, Int.toNat_zero, Int.toNat_one, qtn, Int.natCast_add, qnat1, qnat0, ne_eq, not_true_eq_false, not_false_eq_true, eq_self, qbool]
end QF
