/-! kin: the closure by two roads -/
/-- F is within the closure of person k under adj, among P -/
def qcI (adj : Nat → Nat → Bool) (P k : Nat) (F : Nat → Bool) : Prop := F k = true ∧ (∀ i, F i = true → i < P) ∧ ∀ C : Nat → Bool, C k = true → (∀ p q, p < P → q < P → C p = true → adj p q = true → C q = true) → ∀ i, F i = true → C i = true
def qcC (adj : Nat → Nat → Bool) (P : Nat) (F : Nat → Bool) : Prop := ∀ p q, p < P → q < P → F p = true → adj p q = true → F q = true
theorem qcu {adj : Nat → Nat → Bool} {P k : Nat} {F G : Nat → Bool} (h1 : qcI adj P k F) (h2 : qcI adj P k G) (c1 : qcC adj P F) (c2 : qcC adj P G) : F = G := by
  funext i
  rw [Bool.eq_iff_iff]
  exact ⟨h1.2.2 G h2.1 c2 i, h2.2.2 F h1.1 c1 i⟩
theorem qor_l {a b : Bool} (h : a = true) : (a || b) = true := by rw [h]; rfl
theorem qca {adj : Nat → Nat → Bool} {P k p q : Nat} {F : Nat → Bool} (h : qcI adj P k F) (hp : F p = true) (hq : q < P) (ha : adj p q = true) : qcI adj P k (fun i => F i || decide (i = q)) := by
  refine ⟨qor_l h.1, fun i hi => ?_, fun C c1 c2 i hi => ?_⟩
  · rw [Bool.or_eq_true, decide_eq_true_iff] at hi
    rcases hi with hi | hi
    · exact h.2.1 i hi
    · omega
  · rw [Bool.or_eq_true, decide_eq_true_iff] at hi
    rcases hi with hi | hi
    · exact h.2.2 C c1 c2 i hi
    · subst hi
      exact c2 p i (h.2.1 p hp) hq (h.2.2 C c1 c2 p hp) ha
theorem zct_lt {F G : Nat → Bool} (h : ∀ i, F i = true → G i = true) : ∀ n, (∃ i, i < n ∧ G i = true ∧ ¬ F i = true) → zct F n < zct G n
  | 0, ⟨i, hi, _⟩ => absurd hi (Nat.not_lt_zero i)
  | n + 1, ⟨i, hi, h1, h2⟩ => by
    have hle : ∀ n, zct F n ≤ zct G n := by
      intro n
      induction n with
      | zero => exact Nat.le_refl _
      | succ n ih =>
        rw [zct_s, zct_s]
        by_cases hF : F n = true
        · rw [if_pos hF, if_pos (h n hF)]; omega
        · rw [if_neg hF]; split <;> omega
    rw [zct_s, zct_s]
    by_cases hin : i = n
    · subst hin
      have := hle i
      rw [if_pos h1, if_neg h2]
      omega
    · have := zct_lt h n ⟨i, by omega, h1, h2⟩
      by_cases hF : F n = true
      · rw [if_pos hF, if_pos (h n hF)]; omega
      · rw [if_neg hF]; split <;> omega
/-- how far behind n rounds -/
def qcK (adj : Nat → Nat → Bool) (P k n : Nat) (F : Nat → Bool) : Prop := qcI adj P k F ∧ (qcC adj P F ∨ n + 1 ≤ zct F 5)
theorem qcK_step {adj : Nat → Nat → Bool} {P k n : Nat} (hP : P ≤ 5) {F G : Nat → Bool} (h : qcK adj P k n F) (hle : ∀ i, F i = true → G i = true) (hG : qcI adj P k G) (hc : (∀ i, G i = true → F i = true) → qcC adj P F) : qcK adj P k (n + 1) G := by
  refine ⟨hG, ?_⟩
  by_cases hF : qcC adj P F
  · left
    have : G = F := by
      funext i
      rw [Bool.eq_iff_iff]
      exact ⟨hG.2.2 F h.1.1 hF i, hle i⟩
    rw [this]
    exact hF
  · right
    have h1 : n + 1 ≤ zct F 5 := by
      rcases h.2 with h2 | h2
      · exact absurd h2 hF
      · exact h2
    have h2 : ∃ i, i < 5 ∧ G i = true ∧ ¬ F i = true := by
      apply Classical.byContradiction
      intro hno
      apply hF
      apply hc
      intro i hi
      apply Classical.byContradiction
      intro hn
      exact hno ⟨i, Nat.lt_of_lt_of_le (hG.2.1 i hi) hP, hi, hn⟩
    have := zct_lt hle 5 h2
    omega
theorem zct_bd {F : Nat → Bool} {P : Nat} (h : ∀ i, F i = true → i < P) : ∀ n, zct F n ≤ P
  | 0 => Nat.zero_le _
  | n + 1 => by
    by_cases hn : n < P
    · have := zct_le F (n + 1)
      omega
    · rw [zct_s, if_neg (fun z => hn (h n z))]
      exact zct_bd h n
theorem qcK_end {adj : Nat → Nat → Bool} {P k n : Nat} {F : Nat → Bool} (hn : P ≤ n) (h : qcK adj P k n F) : qcC adj P F := by
  rcases h.2 with h2 | h2
  · exact h2
  · have := zct_bd h.1.2.1 5
    omega
theorem qadj_sym (A : Nat → Int) (p q : Nat) : qadj A p q = qadj A q p := by
  unfold qadj
  exact qan_cong fun y _ => Bool.and_comm _ _
/-- the years of those of F -/
def qyF (A : Nat → Int) (F : Nat → Bool) : Nat → Bool := fun y => qan (fun q => F q && qyb A q y) 5
theorem qyF_hit (A : Nat → Int) (F : Nat → Bool) (p : Nat) : qan (fun y => qyb A p y && qyF A F y) 24 = qan (fun q => F q && qadj A q p) 5 := by
  rw [Bool.eq_iff_iff, qan_iff, qan_iff]
  constructor
  · rintro ⟨y, hy, h⟩
    rw [Bool.and_eq_true] at h
    obtain ⟨q, hq, h2⟩ := (qan_iff _ _).mp h.2
    rw [Bool.and_eq_true] at h2
    refine ⟨q, hq, ?_⟩
    rw [Bool.and_eq_true]
    exact ⟨h2.1, (qan_iff _ _).mpr ⟨y, hy, by rw [Bool.and_eq_true]; exact ⟨h2.2, h.1⟩⟩⟩
  · rintro ⟨q, hq, h⟩
    rw [Bool.and_eq_true] at h
    obtain ⟨y, hy, h2⟩ := (qan_iff _ _).mp h.2
    rw [Bool.and_eq_true] at h2
    refine ⟨y, hy, ?_⟩
    rw [Bool.and_eq_true]
    exact ⟨h2.2, (qan_iff _ _).mpr ⟨q, hq, by rw [Bool.and_eq_true]; exact ⟨h.1, h2.1⟩⟩⟩
theorem qyF_add (A : Nat → Int) (F : Nat → Bool) {p : Nat} (hp : p < 5) : zsn (fun y => qyF A F y || qyb A p y) 24 = zsn (qyF A (fun i => F i || decide (i = p))) 24 := zsn_cong fun y _ => by
  rw [Bool.eq_iff_iff, Bool.or_eq_true]
  unfold qyF
  rw [qan_iff, qan_iff]
  constructor
  · rintro (⟨q, hq, h⟩ | h)
    · rw [Bool.and_eq_true] at h
      exact ⟨q, hq, by rw [Bool.and_eq_true, Bool.or_eq_true]; exact ⟨Or.inl h.1, h.2⟩⟩
    · exact ⟨p, hp, by rw [Bool.and_eq_true, Bool.or_eq_true]; exact ⟨Or.inr (decide_eq_true rfl), h⟩⟩
  · rintro ⟨q, hq, h⟩
    rw [Bool.and_eq_true, Bool.or_eq_true, decide_eq_true_iff] at h
    rcases h.1 with h1 | h1
    · exact Or.inl ⟨q, hq, by rw [Bool.and_eq_true]; exact ⟨h1, h.2⟩⟩
    · subst h1; exact Or.inr h.2
theorem zor_set5 (F : Nat → Bool) {p : Nat} (hp : p < 5) : zor (zsn F 5 : Nat) (zshl 1 p) = (zsn (fun i => F i || decide (i = p)) 5 : Nat) := by
  have h2 : 2 ^ p < 2147483648 := Nat.lt_of_lt_of_le (Nat.pow_lt_pow_right (by decide) (show p < 31 by omega)) (Nat.le_refl (2 ^ 31))
  rw [zshl_one (by omega), zor_nat (zsn_lt31 F (by decide)) h2, zsn_put F hp]
section QF
variable {S : Nat → Nat × Nat} {R : Nat → Nat → Nat} {M M' M1 : Nat → Nat → Int} {n s d : Nat} {A : Nat → Int} {W : Nat → qWt}
theorem qb_kin (hw : qWd n S R M W) (v : Int) : qBo 53 291 [zI v] n s S R M := by
  have hA := hw.2.1.2.2.2
  have hF := hw.1.2.1
  have hT := hw.2.1.1
  have hg : qRg M 21 (qg (M 306)) := hw.2.1.2.1.1
  have hp5 := hA.2.1.2
  obtain ⟨P, hP⟩ := Int.eq_ofNat_of_zero_le hA.2.1.1
  have hP5 : P ≤ 5 := by omega
  by_cases hv : 0 ≤ v ∧ v < M 306 1
  · obtain ⟨k, rfl⟩ := Int.eq_ofNat_of_zero_le hv.1
    have hk : k < P := by omega
    have h0 : qcK (qadj (M 306)) P k 0 (fun i => decide (i = k)) := by
      refine ⟨⟨decide_eq_true rfl, fun i hi => ?_, fun C c1 _ i hi => ?_⟩, Or.inr ?_⟩
      · have := of_decide_eq_true hi; omega
      · rw [of_decide_eq_true hi]; exact c1
      · have : 0 < zct (fun i => decide (i = k)) 5 := by
          have := zct_lt (F := fun _ => false) (G := fun i => decide (i = k)) (fun i h => by cases h) 5 ⟨k, by omega, decide_eq_true rfl, by decide⟩
          omega
        omega
    -- a round of the class
    have RX : ∀ F : Nat → Bool, qcI (qadj (M 306)) P k F → ∀ r : Nat, ∃ G : Nat → Bool, (∀ i, F i = true → G i = true) ∧ qcI (qadj (M 306)) P k G ∧ ((∀ i, G i = true → F i = true) → qcC (qadj (M 306)) P F) ∧
        zR zPP 99 53 26 [zA 9, zI k, zI (zsn F 5 : Nat), zI (zsn (qyF (M 306) F) 24 : Nat), zI r, zI 0] [] (n, s, S, R, M) = zR zPP 99 53 26 [zA 9, zI k, zI (zsn G 5 : Nat), zI (zsn (qyF (M 306) G) 24 : Nat), zI r, zI P] [] (n, s, S, R, M) := by
      intro F hI r
      have L := qlpI (E := fun p (G : Nat → Bool) => (∀ i, F i = true → G i = true) ∧ qcI (qadj (M 306)) P k G ∧ ∀ p' q, p' < p → q < P → F q = true → qadj (M 306) q p' = true → G p' = true)
        (P := fun p G => zR zPP 99 53 26 [zA 9, zI k, zI (zsn G 5 : Nat), zI (zsn (qyF (M 306) G) 24 : Nat), zI r, zI (p : Nat)] [] (n, s, S, R, M)) (N := P) (fun p G hp hG => by
          obtain ⟨g1, g2, g3⟩ := hG
          have hit := qyF_hit (M 306) G p
          cases hq : qan (fun q => G q && qadj (M 306) q p) 5 with
          | true =>
            obtain ⟨q, q1, q2⟩ := (qan_iff _ _).mp hq
            rw [Bool.and_eq_true] at q2
            refine ⟨fun i => G i || decide (i = p), ⟨fun i hi => qor_l (g1 i hi), qca g2 q2.1 hp q2.2, fun p' q' a1 a2 a3 a4 => ?_⟩, ?_⟩
            · by_cases hpp : p' = p
              · rw [hpp]; simp
              · exact qor_l (g3 p' q' (by omega) a2 a3 a4)
            · show zR _ _ _ _ _ _ _ = zR _ _ _ _ _ _ _
              rw [e_X_kin_26]
              simp (disch := omega) only [qtw hT, hP, kx_yearsOf hF hg (show p < 5 by omega), zsn_and24, qz0, hit, hq, qff hF, qltT, qltF, qleT, qleF, qeqT, qeqF, Int.reduceEq, Int.reduceNe, Int.reduceLT, Int.reduceLE, Int.reduceToNat, Int.reduceAdd, Int.reduceSub, Int.reduceMul, Int.reduceNeg, Nat.reduceAdd, Nat.reduceMul, Nat.reduceEqDiff, Nat.reduceLT, Int.cast_ofNat_Int, Int.lt_irrefl, Bool.false_eq_true, ↓reduceIte, ↓reduceDIte, zbI, zbL, zbA, zbV, qrg, qrg2, qnn, qz, zup_at, zup_r, zup_ne, true_and, and_true, true_or, or_true, and_self, or_self, false_or, or_false, false_and, and_false, Int.toNat_natCast, Int.toNat_add, Int.toNat_mul, Int.toNat_zero, Int.toNat_one, qtn, Int.natCast_add, qnat1, qnat0, ne_eq, not_true_eq_false, not_false_eq_true, eq_self, qbool]
              rw [zor_set5 G (show p < 5 by omega), zsn_or24, qyF_add _ _ (show p < 5 by omega), if_neg (by decide)]
          | false =>
            refine ⟨G, ⟨g1, g2, fun p' q' a1 a2 a3 a4 => ?_⟩, ?_⟩
            · by_cases hpp : p' = p
              · subst hpp
                have : qan (fun q => G q && qadj (M 306) q p') 5 = true := (qan_iff _ _).mpr ⟨q', by omega, by rw [Bool.and_eq_true]; exact ⟨g1 q' a3, a4⟩⟩
                rw [this] at hq
                cases hq
              · exact g3 p' q' (by omega) a2 a3 a4
            · show zR _ _ _ _ _ _ _ = zR _ _ _ _ _ _ _
              rw [e_X_kin_26]
              simp (disch := omega) only [qtw hT, hP, kx_yearsOf hF hg (show p < 5 by omega), zsn_and24, qz0, hit, hq, qff hF, qltT, qltF, qleT, qleF, qeqT, qeqF, Int.reduceEq, Int.reduceNe, Int.reduceLT, Int.reduceLE, Int.reduceToNat, Int.reduceAdd, Int.reduceSub, Int.reduceMul, Int.reduceNeg, Nat.reduceAdd, Nat.reduceMul, Nat.reduceEqDiff, Nat.reduceLT, Int.cast_ofNat_Int, Int.lt_irrefl, Bool.false_eq_true, ↓reduceIte, ↓reduceDIte, zbI, zbL, zbA, zbV, qrg, qrg2, qnn, qz, zup_at, zup_r, zup_ne, true_and, and_true, true_or, or_true, and_self, or_self, false_or, or_false, false_and, and_false, Int.toNat_natCast, Int.toNat_add, Int.toNat_mul, Int.toNat_zero, Int.toNat_one, qtn, Int.natCast_add, qnat1, qnat0, ne_eq, not_true_eq_false, not_false_eq_true, eq_self, qbool]) F ⟨fun _ h => h, hI, fun p' q a1 => absurd a1 (Nat.not_lt_zero p')⟩
      obtain ⟨G, ⟨g1, g2, g3⟩, L⟩ := L
      exact ⟨G, g1, g2, fun hc p q hp hq a1 a2 => hc q (g3 q p hq hp a1 a2), L⟩
    have LX := qlpI (E := fun r (x : (Nat → Bool) × zV) => qcK (qadj (M 306)) P k r x.1) (P := fun r x => zR zPP 99 53 19 [zA 9, zI k, zI (zsn x.1 5 : Nat), zI (zsn (qyF (M 306) x.1) 24 : Nat), zI (r : Nat), x.2] [] (n, s, S, R, M)) (N := P) (fun r x hr hx => by
      obtain ⟨G, g1, g2, g3, g4⟩ := RX x.1 hx.1 r
      refine ⟨(G, zI P), qcK_step hP5 hx g1 g2 g3, ?_⟩
      show zR _ _ _ _ _ _ _ = zR _ _ _ _ _ _ _
      rw [e_X_kin_19]
      simp (disch := omega) only [qtw hT, hP, qff hF, qltT, qltF, qleT, qleF, qeqT, qeqF, Int.reduceEq, Int.reduceNe, Int.reduceLT, Int.reduceLE, Int.reduceToNat, Int.reduceAdd, Int.reduceSub, Int.reduceMul, Int.reduceNeg, Nat.reduceAdd, Nat.reduceMul, Nat.reduceEqDiff, Nat.reduceLT, Int.cast_ofNat_Int, Int.lt_irrefl, Bool.false_eq_true, ↓reduceIte, ↓reduceDIte, zbI, zbL, zbA, zbV, qrg, qrg2, qnn, qz, zup_at, zup_r, zup_ne, true_and, and_true, true_or, or_true, and_self, or_self, false_or, or_false, false_and, and_false, Int.toNat_natCast, Int.toNat_add, Int.toNat_mul, Int.toNat_zero, Int.toNat_one, qtn, Int.natCast_add, qnat1, qnat0, ne_eq, not_true_eq_false, not_false_eq_true, eq_self, qbool]
      rw [g4, e_X_kin_26]
      simp (disch := omega) only [qtw hT, hP, qff hF, qltT, qltF, qleT, qleF, qeqT, qeqF, Int.reduceEq, Int.reduceNe, Int.reduceLT, Int.reduceLE, Int.reduceToNat, Int.reduceAdd, Int.reduceSub, Int.reduceMul, Int.reduceNeg, Nat.reduceAdd, Nat.reduceMul, Nat.reduceEqDiff, Nat.reduceLT, Int.cast_ofNat_Int, Int.lt_irrefl, Bool.false_eq_true, ↓reduceIte, ↓reduceDIte, zbI, zbL, zbA, zbV, qrg, qrg2, qnn, qz, zup_at, zup_r, zup_ne, true_and, and_true, true_or, or_true, and_self, or_self, false_or, or_false, false_and, and_false, Int.toNat_natCast, Int.toNat_add, Int.toNat_mul, Int.toNat_zero, Int.toNat_one, qtn, Int.natCast_add, qnat1, qnat0, ne_eq, not_true_eq_false, not_false_eq_true, eq_self, qbool]) (fun i => decide (i = k), zU) h0
    obtain ⟨⟨F, g⟩, hFK, LX⟩ := LX
    -- a round of the model
    have RM : ∀ F : Nat → Bool, qcI (qadj (M 306)) P k F → ∀ (r : Nat) (g : zV), ∃ (G : Nat → Bool) (g' : zV), (∀ i, F i = true → G i = true) ∧ qcI (qadj (M 306)) P k G ∧ ((∀ i, G i = true → F i = true) → qcC (qadj (M 306)) P F) ∧
        zR zPP 99 291 17 [zA 305, zI k, zI (zsn F 5 : Nat), zI r, zI 0, g] [] (n, s, S, R, M) = zR zPP 99 291 17 [zA 305, zI k, zI (zsn G 5 : Nat), zI r, zI P, g'] [] (n, s, S, R, M) := by
      intro F hI r g
      have L := qlpI (E := fun p (x : (Nat → Bool) × zV) => (∀ i, F i = true → x.1 i = true) ∧ qcI (qadj (M 306)) P k x.1 ∧ ∀ p' q, p' < p → q < P → F p' = true → qadj (M 306) p' q = true → x.1 q = true)
        (P := fun p x => zR zPP 99 291 17 [zA 305, zI k, zI (zsn x.1 5 : Nat), zI r, zI (p : Nat), x.2] [] (n, s, S, R, M)) (N := P) (fun p x hp hG => by
          obtain ⟨g1, g2, g3⟩ := hG
          have L2 := qlpI (E := fun q (G : Nat → Bool) => (∀ i, x.1 i = true → G i = true) ∧ qcI (qadj (M 306)) P k G ∧ ∀ q', q' < q → x.1 p = true → qadj (M 306) p q' = true → G q' = true)
            (P := fun q G => zR zPP 99 291 25 [zA 305, zI k, zI (zsn G 5 : Nat), zI r, zI p, zI (q : Nat)] [] (n, s, S, R, M)) (N := P) (fun q G hq hG2 => by
              obtain ⟨k1, k2, k3⟩ := hG2
              have hl : zsn G 5 < 2147483648 := zsn_lt31 _ (by decide)
              have hh := fun σ => k_has (d := 98) (a := zsn G 5) (k := p) hl (by omega) σ
              simp only [zsn_bit, show p < 5 from by omega, decide_true, Bool.true_and] at hh
              have e1 := km_yearsBy (n := n) (s := s) (d := 96) (M := M) hF hA (show p < 5 by omega)
              have e2 := km_yearsBy (n := n) (s := s) (d := 96) (M := M) hF hA (show q < 5 by omega)
              by_cases hGp : G p = true
              · cases ha : qadj (M 306) p q with
                | true =>
                  refine ⟨fun i => G i || decide (i = q), ⟨fun i hi => qor_l (k1 i hi), qca k2 hGp hq ha, fun q' a1 a2 a3 => ?_⟩, ?_⟩
                  · by_cases hqq : q' = q
                    · rw [hqq]; simp
                    · exact qor_l (k3 q' (by omega) a2 a3)
                  · show zR _ _ _ _ _ _ _ = zR _ _ _ _ _ _ _
                    rw [e_M_kin_25]
                    simp (disch := omega) only [hP, hh, hGp, e1, e2, zsn_and24, qz0, qff hF, qltT, qltF, qleT, qleF, qeqT, qeqF, Int.reduceEq, Int.reduceNe, Int.reduceLT, Int.reduceLE, Int.reduceToNat, Int.reduceAdd, Int.reduceSub, Int.reduceMul, Int.reduceNeg, Nat.reduceAdd, Nat.reduceMul, Nat.reduceEqDiff, Nat.reduceLT, Int.cast_ofNat_Int, Int.lt_irrefl, Bool.false_eq_true, ↓reduceIte, ↓reduceDIte, zbI, zbL, zbA, zbV, qrg, qrg2, qnn, qz, zup_at, zup_r, zup_ne, true_and, and_true, true_or, or_true, and_self, or_self, false_or, or_false, false_and, and_false, Int.toNat_natCast, Int.toNat_add, Int.toNat_mul, Int.toNat_zero, Int.toNat_one, qtn, Int.natCast_add, qnat1, qnat0, ne_eq, not_true_eq_false, not_false_eq_true, eq_self, qbool]
                    rw [zor_set5 G (show q < 5 by omega), if_neg (by unfold qadj at ha; rw [ha]; decide)]
                | false =>
                  refine ⟨G, ⟨k1, k2, fun q' a1 a2 a3 => ?_⟩, ?_⟩
                  · by_cases hqq : q' = q
                    · subst hqq; rw [ha] at a3; cases a3
                    · exact k3 q' (by omega) a2 a3
                  · show zR _ _ _ _ _ _ _ = zR _ _ _ _ _ _ _
                    rw [e_M_kin_25]
                    simp (disch := omega) only [hP, hh, hGp, e1, e2, zsn_and24, qz0, qff hF, qltT, qltF, qleT, qleF, qeqT, qeqF, Int.reduceEq, Int.reduceNe, Int.reduceLT, Int.reduceLE, Int.reduceToNat, Int.reduceAdd, Int.reduceSub, Int.reduceMul, Int.reduceNeg, Nat.reduceAdd, Nat.reduceMul, Nat.reduceEqDiff, Nat.reduceLT, Int.cast_ofNat_Int, Int.lt_irrefl, Bool.false_eq_true, ↓reduceIte, ↓reduceDIte, zbI, zbL, zbA, zbV, qrg, qrg2, qnn, qz, zup_at, zup_r, zup_ne, true_and, and_true, true_or, or_true, and_self, or_self, false_or, or_false, false_and, and_false, Int.toNat_natCast, Int.toNat_add, Int.toNat_mul, Int.toNat_zero, Int.toNat_one, qtn, Int.natCast_add, qnat1, qnat0, ne_eq, not_true_eq_false, not_false_eq_true, eq_self, qbool]
                    rw [if_pos (by unfold qadj at ha; exact ha)]
              · refine ⟨G, ⟨k1, k2, fun q' a1 a2 a3 => absurd (k1 p a2) hGp⟩, ?_⟩
                show zR _ _ _ _ _ _ _ = zR _ _ _ _ _ _ _
                rw [e_M_kin_25]
                simp (disch := omega) only [hP, hh, hGp, qff hF, qltT, qltF, qleT, qleF, qeqT, qeqF, Int.reduceEq, Int.reduceNe, Int.reduceLT, Int.reduceLE, Int.reduceToNat, Int.reduceAdd, Int.reduceSub, Int.reduceMul, Int.reduceNeg, Nat.reduceAdd, Nat.reduceMul, Nat.reduceEqDiff, Nat.reduceLT, Int.cast_ofNat_Int, Int.lt_irrefl, Bool.false_eq_true, ↓reduceIte, ↓reduceDIte, zbI, zbL, zbA, zbV, qrg, qrg2, qnn, qz, zup_at, zup_r, zup_ne, true_and, and_true, true_or, or_true, and_self, or_self, false_or, or_false, false_and, and_false, Int.toNat_natCast, Int.toNat_add, Int.toNat_mul, Int.toNat_zero, Int.toNat_one, qtn, Int.natCast_add, qnat1, qnat0, ne_eq, not_true_eq_false, not_false_eq_true, eq_self, qbool]) x.1 ⟨fun _ h => h, g2, fun q' a1 => absurd a1 (Nat.not_lt_zero q')⟩
          obtain ⟨G, ⟨k1, k2, k3⟩, L2⟩ := L2
          refine ⟨(G, zI P), ⟨fun i hi => k1 i (g1 i hi), k2, fun p' q a1 a2 a3 a4 => ?_⟩, ?_⟩
          · by_cases hpp : p' = p
            · subst hpp; exact k3 q a2 (g1 p' a3) a4
            · exact k1 q (g3 p' q (by omega) a2 a3 a4)
          · show zR _ _ _ _ _ _ _ = zR _ _ _ _ _ _ _
            have L2' : zR zPP 99 291 25 [zA 305, zI k, zI (zsn x.1 5 : Nat), zI r, zI p, zI 0] [] (n, s, S, R, M) = _ := L2
            rw [e_M_kin_17]
            simp (disch := omega) only [hP, qff hF, qltT, qltF, qleT, qleF, qeqT, qeqF, Int.reduceEq, Int.reduceNe, Int.reduceLT, Int.reduceLE, Int.reduceToNat, Int.reduceAdd, Int.reduceSub, Int.reduceMul, Int.reduceNeg, Nat.reduceAdd, Nat.reduceMul, Nat.reduceEqDiff, Nat.reduceLT, Int.cast_ofNat_Int, Int.lt_irrefl, Bool.false_eq_true, ↓reduceIte, ↓reduceDIte, zbI, zbL, zbA, zbV, qrg, qrg2, qnn, qz, zup_at, zup_r, zup_ne, true_and, and_true, true_or, or_true, and_self, or_self, false_or, or_false, false_and, and_false, Int.toNat_natCast, Int.toNat_add, Int.toNat_mul, Int.toNat_zero, Int.toNat_one, qtn, Int.natCast_add, qnat1, qnat0, ne_eq, not_true_eq_false, not_false_eq_true, eq_self, qbool]
            rw [L2', e_M_kin_25]
            simp (disch := omega) only [hP, qff hF, qltT, qltF, qleT, qleF, qeqT, qeqF, Int.reduceEq, Int.reduceNe, Int.reduceLT, Int.reduceLE, Int.reduceToNat, Int.reduceAdd, Int.reduceSub, Int.reduceMul, Int.reduceNeg, Nat.reduceAdd, Nat.reduceMul, Nat.reduceEqDiff, Nat.reduceLT, Int.cast_ofNat_Int, Int.lt_irrefl, Bool.false_eq_true, ↓reduceIte, ↓reduceDIte, zbI, zbL, zbA, zbV, qrg, qrg2, qnn, qz, zup_at, zup_r, zup_ne, true_and, and_true, true_or, or_true, and_self, or_self, false_or, or_false, false_and, and_false, Int.toNat_natCast, Int.toNat_add, Int.toNat_mul, Int.toNat_zero, Int.toNat_one, qtn, Int.natCast_add, qnat1, qnat0, ne_eq, not_true_eq_false, not_false_eq_true, eq_self, qbool]) (F, g) ⟨fun _ h => h, hI, fun p' q a1 => absurd a1 (Nat.not_lt_zero p')⟩
      obtain ⟨⟨G, g'⟩, ⟨g1, g2, g3⟩, L⟩ := L
      exact ⟨G, g', g1, g2, fun hc p q hp hq a1 a2 => hc q (g3 p q hp hq a1 a2), L⟩
    have LM := qlpI (E := fun r (x : (Nat → Bool) × zV × zV) => qcK (qadj (M 306)) P k r x.1) (P := fun r x => zR zPP 99 291 12 [zA 305, zI k, zI (zsn x.1 5 : Nat), zI (r : Nat), x.2.1, x.2.2] [] (n, s, S, R, M)) (N := 5) (fun r x hr hx => by
      obtain ⟨G, g', g1, g2, g3, g4⟩ := RM x.1 hx.1 r x.2.2
      refine ⟨(G, zI P, g'), qcK_step hP5 hx g1 g2 g3, ?_⟩
      show zR _ _ _ _ _ _ _ = zR _ _ _ _ _ _ _
      rw [e_M_kin_12]
      simp (disch := omega) only [qff hF, qltT, qltF, qleT, qleF, qeqT, qeqF, Int.reduceEq, Int.reduceNe, Int.reduceLT, Int.reduceLE, Int.reduceToNat, Int.reduceAdd, Int.reduceSub, Int.reduceMul, Int.reduceNeg, Nat.reduceAdd, Nat.reduceMul, Nat.reduceEqDiff, Nat.reduceLT, Int.cast_ofNat_Int, Int.lt_irrefl, Bool.false_eq_true, ↓reduceIte, ↓reduceDIte, zbI, zbL, zbA, zbV, qrg, qrg2, qnn, qz, zup_at, zup_r, zup_ne, true_and, and_true, true_or, or_true, and_self, or_self, false_or, or_false, false_and, and_false, Int.toNat_natCast, Int.toNat_add, Int.toNat_mul, Int.toNat_zero, Int.toNat_one, qtn, Int.natCast_add, qnat1, qnat0, ne_eq, not_true_eq_false, not_false_eq_true, eq_self, qbool]
      rw [g4, e_M_kin_17]
      simp (disch := omega) only [hP, qff hF, qltT, qltF, qleT, qleF, qeqT, qeqF, Int.reduceEq, Int.reduceNe, Int.reduceLT, Int.reduceLE, Int.reduceToNat, Int.reduceAdd, Int.reduceSub, Int.reduceMul, Int.reduceNeg, Nat.reduceAdd, Nat.reduceMul, Nat.reduceEqDiff, Nat.reduceLT, Int.cast_ofNat_Int, Int.lt_irrefl, Bool.false_eq_true, ↓reduceIte, ↓reduceDIte, zbI, zbL, zbA, zbV, qrg, qrg2, qnn, qz, zup_at, zup_r, zup_ne, true_and, and_true, true_or, or_true, and_self, or_self, false_or, or_false, false_and, and_false, Int.toNat_natCast, Int.toNat_add, Int.toNat_mul, Int.toNat_zero, Int.toNat_one, qtn, Int.natCast_add, qnat1, qnat0, ne_eq, not_true_eq_false, not_false_eq_true, eq_self, qbool]) (fun i => decide (i = k), zU, zU) h0
    obtain ⟨⟨G, g1, g2⟩, hGK, LM⟩ := LM
    have hFG : F = G := qcu hFK.1 hGK.1 (qcK_end (Nat.le_refl _) hFK) (qcK_end hP5 hGK)
    subst hFG
    have e1 : zshl 1 (k : Int) = (zsn (fun i => decide (i = k)) 5 : Nat) := by rw [zshl_one (by omega), zsn_one (show k < 5 by omega)]
    have e2 : zsn (qyb (M 306) k) 24 = zsn (qyF (M 306) (fun i => decide (i = k))) 24 := zsn_cong fun y _ => by
      rw [Bool.eq_iff_iff]
      unfold qyF
      rw [qan_iff]
      constructor
      · intro h
        exact ⟨k, by omega, by rw [Bool.and_eq_true]; exact ⟨decide_eq_true rfl, h⟩⟩
      · rintro ⟨q, hq, h⟩
        rw [Bool.and_eq_true, decide_eq_true_iff] at h
        rw [← h.1]
        exact h.2
    have hX : zcal zPP 100 53 [zA 9, zI k] (n, s, S, R, M) = some (zI (zsn F 5 : Nat), (n, s, S, R, M)) := by
      rw [c_X_kin]
      simp (disch := omega) only [kx_hasPerson hF hT hA, hv, kx_yearsOf hF hg (show k < 5 by omega), e1, e2, qff hF, qltT, qltF, qleT, qleF, qeqT, qeqF, Int.reduceEq, Int.reduceNe, Int.reduceLT, Int.reduceLE, Int.reduceToNat, Int.reduceAdd, Int.reduceSub, Int.reduceMul, Int.reduceNeg, Nat.reduceAdd, Nat.reduceMul, Nat.reduceEqDiff, Nat.reduceLT, Int.cast_ofNat_Int, Int.lt_irrefl, Bool.false_eq_true, ↓reduceIte, ↓reduceDIte, zbI, zbL, zbA, zbV, qrg, qrg2, qnn, qz, zup_at, zup_r, zup_ne, true_and, and_true, true_or, or_true, and_self, or_self, false_or, or_false, false_and, and_false, Int.toNat_natCast, Int.toNat_add, Int.toNat_mul, Int.toNat_zero, Int.toNat_one, qtn, Int.natCast_add, qnat1, qnat0, ne_eq, not_true_eq_false, not_false_eq_true, eq_self, qbool]
      refine Eq.trans LX ?_
      rw [e_X_kin_19]
      simp (disch := omega) only [qtw hT, hP, qff hF, qltT, qltF, qleT, qleF, qeqT, qeqF, Int.reduceEq, Int.reduceNe, Int.reduceLT, Int.reduceLE, Int.reduceToNat, Int.reduceAdd, Int.reduceSub, Int.reduceMul, Int.reduceNeg, Nat.reduceAdd, Nat.reduceMul, Nat.reduceEqDiff, Nat.reduceLT, Int.cast_ofNat_Int, Int.lt_irrefl, Bool.false_eq_true, ↓reduceIte, ↓reduceDIte, zbI, zbL, zbA, zbV, qrg, qrg2, qnn, qz, zup_at, zup_r, zup_ne, true_and, and_true, true_or, or_true, and_self, or_self, false_or, or_false, false_and, and_false, Int.toNat_natCast, Int.toNat_add, Int.toNat_mul, Int.toNat_zero, Int.toNat_one, qtn, Int.natCast_add, qnat1, qnat0, ne_eq, not_true_eq_false, not_false_eq_true, eq_self, qbool]
    have hM : zcal zPP 100 291 [zA 305, zI k] (n, s, S, R, M) = some (zI (zsn F 5 : Nat), (n, s, S, R, M)) := by
      rw [c_M_kin]
      simp (disch := omega) only [km_isPerson hF hA, hv, e1, qff hF, qltT, qltF, qleT, qleF, qeqT, qeqF, Int.reduceEq, Int.reduceNe, Int.reduceLT, Int.reduceLE, Int.reduceToNat, Int.reduceAdd, Int.reduceSub, Int.reduceMul, Int.reduceNeg, Nat.reduceAdd, Nat.reduceMul, Nat.reduceEqDiff, Nat.reduceLT, Int.cast_ofNat_Int, Int.lt_irrefl, Bool.false_eq_true, ↓reduceIte, ↓reduceDIte, zbI, zbL, zbA, zbV, qrg, qrg2, qnn, qz, zup_at, zup_r, zup_ne, true_and, and_true, true_or, or_true, and_self, or_self, false_or, or_false, false_and, and_false, Int.toNat_natCast, Int.toNat_add, Int.toNat_mul, Int.toNat_zero, Int.toNat_one, qtn, Int.natCast_add, qnat1, qnat0, ne_eq, not_true_eq_false, not_false_eq_true, eq_self, qbool]
      refine Eq.trans LM ?_
      rw [e_M_kin_12]
      simp (disch := omega) only [qff hF, qltT, qltF, qleT, qleF, qeqT, qeqF, Int.reduceEq, Int.reduceNe, Int.reduceLT, Int.reduceLE, Int.reduceToNat, Int.reduceAdd, Int.reduceSub, Int.reduceMul, Int.reduceNeg, Nat.reduceAdd, Nat.reduceMul, Nat.reduceEqDiff, Nat.reduceLT, Int.cast_ofNat_Int, Int.lt_irrefl, Bool.false_eq_true, ↓reduceIte, ↓reduceDIte, zbI, zbL, zbA, zbV, qrg, qrg2, qnn, qz, zup_at, zup_r, zup_ne, true_and, and_true, true_or, or_true, and_self, or_self, false_or, or_false, false_and, and_false, Int.toNat_natCast, Int.toNat_add, Int.toNat_mul, Int.toNat_zero, Int.toNat_one, qtn, Int.natCast_add, qnat1, qnat0, ne_eq, not_true_eq_false, not_false_eq_true, eq_self, qbool]
    exact qBo_same hw hX hM
  · have hX : zcal zPP 100 53 [zA 9, zI v] (n, s, S, R, M) = some (zI (-1), (n, s, S, R, M)) := by
      rw [c_X_kin]
      simp only [qff hF, if_true, kx_hasPerson hF hT hA, zbI, if_neg hv]
    have hM : zcal zPP 100 291 [zA 305, zI v] (n, s, S, R, M) = some (zI (-1), (n, s, S, R, M)) := by
      rw [c_M_kin]
      simp only [qff hF, if_true, km_isPerson hF hA, zbI, if_neg hv]
    exact qBo_same hw hX hM
end QF
