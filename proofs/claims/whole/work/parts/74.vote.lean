/-! vote: the class picks the least, the model sorts -/
def qsg (F : Nat → Int) : Nat → Nat → List Int
  | _, 0 => []
  | a, n + 1 => F a :: qsg F (a + 1) n
theorem qsg_cong {F G : Nat → Int} : ∀ (n a : Nat), (∀ j, a ≤ j → j < a + n → F j = G j) → qsg F a n = qsg G a n
  | 0, _, _ => rfl
  | n + 1, a, h => by
    unfold qsg
    rw [h a (Nat.le_refl _) (by omega), qsg_cong n (a + 1) fun j h1 h2 => h j (by omega) (by omega)]
theorem qsg_mem {F : Nat → Int} {x : Int} : ∀ (n a : Nat), x ∈ qsg F a n ↔ ∃ j, a ≤ j ∧ j < a + n ∧ x = F j
  | 0, a => by
    constructor
    · intro h; exact absurd h List.not_mem_nil
    · rintro ⟨j, h1, h2, -⟩; omega
  | n + 1, a => by
    unfold qsg
    rw [List.mem_cons, qsg_mem n (a + 1)]
    constructor
    · rintro (h | ⟨j, h1, h2, h3⟩)
      · exact ⟨a, Nat.le_refl _, by omega, h⟩
      · exact ⟨j, by omega, by omega, h3⟩
    · rintro ⟨j, h1, h2, h3⟩
      by_cases h : j = a
      · subst h; exact Or.inl h3
      · exact Or.inr ⟨j, by omega, by omega, h3⟩
theorem qsg_map {F : Nat → Int} (f : Int → Int) : ∀ (n a : Nat), (qsg F a n).map f = qsg (fun j => f (F j)) a n
  | 0, _ => rfl
  | n + 1, a => by
    show f (F a) :: (qsg F (a + 1) n).map f = f (F a) :: _
    rw [qsg_map f n (a + 1)]
theorem qsg_swap {F : Nat → Int} {x : Int} {l : Nat} : ∀ (n a : Nat), a ≤ l → l < a + n → (x :: qsg F a n).Perm (F l :: qsg (qup F l x) a n)
  | 0, a, h1, h2 => by omega
  | n + 1, a, h1, h2 => by
    by_cases h : l = a
    · subst h
      have e : qsg (qup F l x) l (n + 1) = x :: qsg F (l + 1) n := by
        show qup F l x l :: qsg (qup F l x) (l + 1) n = _
        rw [qup_at, qsg_cong n (l + 1) fun j h1 h2 => qup_ne (by omega)]
      rw [e]
      exact List.Perm.swap _ _ _
    · have e : qsg (qup F l x) a (n + 1) = F a :: qsg (qup F l x) (a + 1) n := by
        show qup F l x a :: qsg (qup F l x) (a + 1) n = _
        rw [qup_ne (show a ≠ l by omega)]
      rw [e]
      refine (List.Perm.swap (F a) x _).trans ?_
      refine ((qsg_swap (F := F) (x := x) (l := l) n (a + 1) (by omega) (by omega)).cons (F a)).trans ?_
      exact List.Perm.swap _ _ _
def qmon (T : Nat → Int) (P : Nat) : Prop := ∀ i j, i ≤ j → j < P → T i ≤ T j
/-- the least is the next of the sorted, and the rest is the rest -/
theorem qpick {F T : Nat → Int} {k l m : Nat} (hT : qmon T (k + (m + 1))) (hp : (qsg F k (m + 1)).Perm (qsg T k (m + 1))) (hl : k ≤ l ∧ l < k + (m + 1)) (hmin : ∀ j, k ≤ j → j < k + (m + 1) → F l ≤ F j) : F l = T k ∧ (qsg (qup F l (F k)) (k + 1) m).Perm (qsg T (k + 1) m) := by
  have h1 : F l ≤ T k := by
    have : T k ∈ qsg F k (m + 1) := hp.mem_iff.mpr ((qsg_mem _ _).mpr ⟨k, Nat.le_refl _, by omega, rfl⟩)
    obtain ⟨j, j1, j2, j3⟩ := (qsg_mem _ _).mp this
    rw [j3]
    exact hmin j j1 j2
  have h2 : T k ≤ F l := by
    have : F l ∈ qsg T k (m + 1) := hp.mem_iff.mp ((qsg_mem _ _).mpr ⟨l, hl.1, hl.2, rfl⟩)
    obtain ⟨j, j1, j2, j3⟩ := (qsg_mem _ _).mp this
    rw [j3]
    exact hT k j j1 j2
  have he : F l = T k := by omega
  refine ⟨he, ?_⟩
  have hs : (qsg F k (m + 1)).Perm (F l :: qsg (qup F l (F k)) (k + 1) m) := by
    show (F k :: qsg F (k + 1) m).Perm _
    by_cases h : l = k
    · subst h
      rw [qsg_cong m (l + 1) (fun j h1 h2 => (qup_ne (A := F) (v := F l) (show j ≠ l by omega)))]
    · exact qsg_swap m (k + 1) (by omega) (by omega)
  have h3 : (F l :: qsg (qup F l (F k)) (k + 1) m).Perm (T k :: qsg T (k + 1) m) := hs.symm.trans hp
  rw [he] at h3
  exact List.Perm.cons_inv h3
/-- v put in at place k -/
def qins (G : Nat → Int) (k : Nat) (v : Int) : Nat → Int := fun j => if j < k then G j else if j = k then v else G (j - 1)
theorem qsg_sh {G : Nat → Int} {k : Nat} {v : Int} : ∀ (n a : Nat), k ≤ a → qsg (qins G k v) (a + 1) n = qsg G a n
  | 0, _, _ => rfl
  | n + 1, a, h => by
    show qins G k v (a + 1) :: _ = G a :: _
    rw [qsg_sh n (a + 1) (by omega)]
    congr 1
    unfold qins
    rw [if_neg (by omega), if_neg (by omega)]
    rfl
theorem qins_perm {G : Nat → Int} {k : Nat} {v : Int} : ∀ (n a : Nat), a ≤ k → k ≤ a + n → (qsg (qins G k v) a (n + 1)).Perm (v :: qsg G a n)
  | 0, a, h1, h2 => by
    have : k = a := by omega
    subst this
    show [qins G k v k].Perm [v]
    unfold qins
    rw [if_neg (by omega), if_pos rfl]
  | n + 1, a, h1, h2 => by
    by_cases h : k = a
    · subst h
      show (qins G k v k :: qsg (qins G k v) (k + 1) (n + 1)).Perm _
      rw [qsg_sh (n + 1) k (Nat.le_refl _)]
      unfold qins
      rw [if_neg (by omega), if_pos rfl]
    · show (qins G k v a :: qsg (qins G k v) (a + 1) (n + 1)).Perm (v :: G a :: qsg G (a + 1) n)
      have e : qins G k v a = G a := by unfold qins; rw [if_pos (by omega)]
      rw [e]
      exact ((qins_perm n (a + 1) (by omega) (by omega)).cons (G a)).trans (List.Perm.swap _ _ _)
theorem qins_mon {G : Nat → Int} {k p : Nat} {v : Int} (hG : qmon G p) (hk : k ≤ p) (h1 : k = 0 ∨ G (k - 1) ≤ v) (h2 : ∀ j, k ≤ j → j < p → v ≤ G j) : qmon (qins G k v) (p + 1) := by
  intro i j hij hj
  unfold qins
  by_cases a1 : i < k
  · rw [if_pos a1]
    by_cases b1 : j < k
    · rw [if_pos b1]; exact hG i j hij (by omega)
    · rw [if_neg b1]
      have : G i ≤ G (k - 1) := hG i (k - 1) (by omega) (by omega)
      by_cases b2 : j = k
      · rw [if_pos b2]; omega
      · rw [if_neg b2]
        have := h2 (j - 1) (by omega) (by omega)
        omega
  · rw [if_neg a1, if_neg (show ¬ j < k by omega)]
    by_cases a2 : i = k
    · rw [if_pos a2]
      by_cases b2 : j = k
      · rw [if_pos b2]; omega
      · rw [if_neg b2]; exact h2 (j - 1) (by omega) (by omega)
    · rw [if_neg a2, if_neg (by omega)]
      exact hG (i - 1) (j - 1) (by omega) (by omega)
theorem qsg_snoc {F : Nat → Int} : ∀ (n a : Nat), qsg F a (n + 1) = qsg F a n ++ [F (a + n)]
  | 0, _ => rfl
  | n + 1, a => by
    show F a :: qsg F (a + 1) (n + 1) = (F a :: qsg F (a + 1) n) ++ [F (a + (n + 1))]
    rw [qsg_snoc n (a + 1), show a + 1 + n = a + (n + 1) by omega]
    rfl
theorem qAge_in {A : Nat → Int} (hA : qIn A) (w : qWt) {p : Nat} (hp : p < 5) : -1100 ≤ qAge A w p ∧ qAge A w p ≤ 12000 := by
  have h1 := hA.2.2.2.2.2.2.2.2.2.2.2.2.2.1 p hp
  have h2 := hA.1
  have h3 := qagS_in A w p (A 0).toNat
  unfold qAge
  omega
/-- two rows that rise, of the same things, are the same -/
theorem quniq {T T' : Nat → Int} : ∀ (m k : Nat), qmon T (k + m) → qmon T' (k + m) → (qsg T' k m).Perm (qsg T k m) → ∀ j, k ≤ j → j < k + m → T' j = T j
  | 0, k, _, _, _, j, h1, h2 => by omega
  | m + 1, k, hT, hT', hp, j, h1, h2 => by
    obtain ⟨e1, e2⟩ := qpick (F := T') (T := T) hT hp (l := k) (by omega) (fun q q1 q2 => hT' k q q1 q2)
    by_cases hj : j = k
    · subst hj; exact e1
    · have : qup T' k (T' k) = T' := by
        funext q
        unfold qup
        by_cases hq : q = k
        · rw [if_pos hq, hq]
        · rw [if_neg hq]
      rw [this] at e2
      exact quniq m (k + 1) (by rw [show k + 1 + m = k + (m + 1) by omega]; exact hT) (by rw [show k + 1 + m = k + (m + 1) by omega]; exact hT') e2 j (by omega) (by omega)
section QF
variable {S : Nat → Nat × Nat} {R : Nat → Nat → Nat} {M M' M1 : Nat → Nat → Int} {n s d : Nat} {A : Nat → Int} {W : Nat → qWt}
/-- the sum of the first k of T -/
theorem kx_votes (hF : qFx S R) {T : Nat → Int} {P : Nat} (hP5 : P ≤ 5) (hT : qmon T P) (hb : ∀ j, j < P → 0 ≤ T j ∧ T j ≤ 20000) (v : Int) : ∀ (m k : Nat) (M1 : Nat → Nat → Int) (g5 g6 : zV), k + m = P → (qsg (M1 303) k m).Perm (qsg T k m) → (m = P ∨ 2 * k ≤ P + 2) → 
    ∃ M2, zR zPP d 63 39 [zA 9, zI v, zI P, zI (qS T k), zI k, g5, g6] [] (n, s, S, R, M1) = some (zI (qS T (min P (P / 2 + 1))), (n, s, S, R, M2)) ∧ ∀ a, a ≠ 303 → M2 a = M1 a := by
  intro m
  induction m with
  | zero =>
    intro k M1 g5 g6 hk hp hk2
    refine ⟨M1, ?_, fun _ _ => rfl⟩
    rw [e_X_vote_39]
    have hkP : k = P := by omega
    have hm : min P (P / 2 + 1) = k := by omega
    by_cases h2 : (P : Int) < k * 2
    · simp (disch := omega) only [h2, hm, qff hF, qltT, qltF, qleT, qleF, qeqT, qeqF, Int.reduceEq, Int.reduceNe, Int.reduceLT, Int.reduceLE, Int.reduceToNat, Int.reduceAdd, Int.reduceSub, Int.reduceMul, Int.reduceNeg, Nat.reduceAdd, Nat.reduceMul, Nat.reduceEqDiff, Nat.reduceLT, Int.cast_ofNat_Int, Int.lt_irrefl, ↓reduceIte, ↓reduceDIte, zbI, zbL, zbA, zbV, qrg, qrg2, qnn, qz, zup_at, zup_r, zup_ne, true_and, and_true, true_or, or_true, and_self, or_self, false_or, or_false, false_and, and_false, Int.toNat_natCast, Int.toNat_add, Int.toNat_mul, Int.toNat_zero, Int.toNat_one, qtn, Int.natCast_add, qnat1, qnat0, ne_eq, not_true_eq_false, not_false_eq_true, eq_self, qbool]
    · simp (disch := omega) only [h2, hm, qff hF, qltT, qltF, qleT, qleF, qeqT, qeqF, Int.reduceEq, Int.reduceNe, Int.reduceLT, Int.reduceLE, Int.reduceToNat, Int.reduceAdd, Int.reduceSub, Int.reduceMul, Int.reduceNeg, Nat.reduceAdd, Nat.reduceMul, Nat.reduceEqDiff, Nat.reduceLT, Int.cast_ofNat_Int, Int.lt_irrefl, ↓reduceIte, ↓reduceDIte, zbI, zbL, zbA, zbV, qrg, qrg2, qnn, qz, zup_at, zup_r, zup_ne, true_and, and_true, true_or, or_true, and_self, or_self, false_or, or_false, false_and, and_false, Int.toNat_natCast, Int.toNat_add, Int.toNat_mul, Int.toNat_zero, Int.toNat_one, qtn, Int.natCast_add, qnat1, qnat0, ne_eq, not_true_eq_false, not_false_eq_true, eq_self, qbool]
  | succ m ih =>
    intro k M1 g5 g6 hk hp hk2
    by_cases h2 : P < k * 2
    · refine ⟨M1, ?_, fun _ _ => rfl⟩
      have hm : min P (P / 2 + 1) = k := by omega
      have h2' : (P : Int) < k * 2 := by omega
      rw [e_X_vote_39]
      simp (disch := omega) only [h2', hm, qff hF, qltT, qltF, qleT, qleF, qeqT, qeqF, Int.reduceEq, Int.reduceNe, Int.reduceLT, Int.reduceLE, Int.reduceToNat, Int.reduceAdd, Int.reduceSub, Int.reduceMul, Int.reduceNeg, Nat.reduceAdd, Nat.reduceMul, Nat.reduceEqDiff, Nat.reduceLT, Int.cast_ofNat_Int, Int.lt_irrefl, ↓reduceIte, ↓reduceDIte, zbI, zbL, zbA, zbV, qrg, qrg2, qnn, qz, zup_at, zup_r, zup_ne, true_and, and_true, true_or, or_true, and_self, or_self, false_or, or_false, false_and, and_false, Int.toNat_natCast, Int.toNat_add, Int.toNat_mul, Int.toNat_zero, Int.toNat_one, qtn, Int.natCast_add, qnat1, qnat0, ne_eq, not_true_eq_false, not_false_eq_true, eq_self, qbool]
    · have hcells : ∀ j, k ≤ j → j < P → 0 ≤ M1 303 j ∧ M1 303 j ≤ 20000 := fun j h1 h3 => by
        obtain ⟨i, i1, i2, i3⟩ := (qsg_mem _ _).mp (hp.mem_iff.mp ((qsg_mem (F := M1 303) (x := M1 303 j) (m + 1) k).mpr ⟨j, h1, by omega, rfl⟩))
        rw [i3]
        exact hb i (by omega)
      -- the least from k on
      have LS : ∀ (j i l : Nat), i + j = P → k ≤ l → l < i → k < i → (∀ q, k ≤ q → q < i → M1 303 l ≤ M1 303 q) → ∃ l', k ≤ l' ∧ l' < P ∧ (∀ q, k ≤ q → q < P → M1 303 l' ≤ M1 303 q) ∧ zR zPP d 63 53 [zA 9, zI v, zI P, zI (qS T k), zI k, zI l, zI i] [] (n, s, S, R, M1) = zR zPP d 63 53 [zA 9, zI v, zI P, zI (qS T k), zI k, zI l', zI P] [] (n, s, S, R, M1) := by
        intro j
        induction j with
        | zero =>
          intro i l hi h1 h3 h5 h4
          have : i = P := by omega
          subst this
          exact ⟨l, h1, h3, h4, rfl⟩
        | succ j ihj =>
          intro i l hi h1 h3 h5 h4
          by_cases hc : M1 303 i < M1 303 l
          · obtain ⟨l', a1, a2, a3, a4⟩ := ihj (i + 1) i (by omega) (by omega) (by omega) (by omega) (fun q q1 q2 => by
              by_cases hq : q = i
              · subst hq; exact Int.le_refl _
              · have := h4 q q1 (by omega); omega)
            refine ⟨l', a1, a2, a3, Eq.trans ?_ a4⟩
            rw [e_X_vote_53]
            simp (disch := omega) only [hc, qff hF, qltT, qltF, qleT, qleF, qeqT, qeqF, Int.reduceEq, Int.reduceNe, Int.reduceLT, Int.reduceLE, Int.reduceToNat, Int.reduceAdd, Int.reduceSub, Int.reduceMul, Int.reduceNeg, Nat.reduceAdd, Nat.reduceMul, Nat.reduceEqDiff, Nat.reduceLT, Int.cast_ofNat_Int, Int.lt_irrefl, ↓reduceIte, ↓reduceDIte, zbI, zbL, zbA, zbV, qrg, qrg2, qnn, qz, zup_at, zup_r, zup_ne, true_and, and_true, true_or, or_true, and_self, or_self, false_or, or_false, false_and, and_false, Int.toNat_natCast, Int.toNat_add, Int.toNat_mul, Int.toNat_zero, Int.toNat_one, qtn, Int.natCast_add, qnat1, qnat0, ne_eq, not_true_eq_false, not_false_eq_true, eq_self, qbool]
          · obtain ⟨l', a1, a2, a3, a4⟩ := ihj (i + 1) l (by omega) (by omega) (by omega) (by omega) (fun q q1 q2 => by
              by_cases hq : q = i
              · subst hq; omega
              · exact h4 q q1 (by omega))
            refine ⟨l', a1, a2, a3, Eq.trans ?_ a4⟩
            rw [e_X_vote_53]
            simp (disch := omega) only [hc, qff hF, qltT, qltF, qleT, qleF, qeqT, qeqF, Int.reduceEq, Int.reduceNe, Int.reduceLT, Int.reduceLE, Int.reduceToNat, Int.reduceAdd, Int.reduceSub, Int.reduceMul, Int.reduceNeg, Nat.reduceAdd, Nat.reduceMul, Nat.reduceEqDiff, Nat.reduceLT, Int.cast_ofNat_Int, Int.lt_irrefl, ↓reduceIte, ↓reduceDIte, zbI, zbL, zbA, zbV, qrg, qrg2, qnn, qz, zup_at, zup_r, zup_ne, true_and, and_true, true_or, or_true, and_self, or_self, false_or, or_false, false_and, and_false, Int.toNat_natCast, Int.toNat_add, Int.toNat_mul, Int.toNat_zero, Int.toNat_one, qtn, Int.natCast_add, qnat1, qnat0, ne_eq, not_true_eq_false, not_false_eq_true, eq_self, qbool]
      obtain ⟨l', a1, a2, a3, a4⟩ := LS (P - (k + 1)) (k + 1) k (by omega) (Nat.le_refl _) (by omega) (by omega) (fun q q1 q2 => by
        have : q = k := by omega
        subst this
        exact Int.le_refl _)
      have hTk : qmon T (k + (m + 1)) := by rw [hk]; exact hT
      obtain ⟨p1, p2⟩ := qpick (F := M1 303) (T := T) hTk hp (l := l') (by omega) (fun q q1 q2 => a3 q q1 (by omega))
      have hTb := hb k (by omega)
      have hsum : 0 ≤ qS T k ∧ qS T k ≤ 20000 * k := by
        refine ⟨?_, qS_le fun i hi => (hb i (by omega)).2⟩
        have := qS_ge (f := T) (b := 0) (n := k) fun i hi => (hb i (by omega)).1
        omega
      obtain ⟨M2, q1, q2⟩ := ih (k + 1) (zup M1 303 l' (M1 303 k)) (zI l') (zI P) (by omega) (by rw [qup_zup]; exact p2) (by omega)
      refine ⟨M2, ?_, fun a ha => by rw [q2 a ha, zup_rw ha]⟩
      rw [← q1, e_X_vote_39]
      have hns : ¬ (P : Int) < k * 2 := by omega
      simp (disch := omega) only [hns, qff hF, qltT, qltF, qleT, qleF, qeqT, qeqF, Int.reduceEq, Int.reduceNe, Int.reduceLT, Int.reduceLE, Int.reduceToNat, Int.reduceAdd, Int.reduceSub, Int.reduceMul, Int.reduceNeg, Nat.reduceAdd, Nat.reduceMul, Nat.reduceEqDiff, Nat.reduceLT, Int.cast_ofNat_Int, Int.lt_irrefl, ↓reduceIte, ↓reduceDIte, zbI, zbL, zbA, zbV, qrg, qrg2, qnn, qz, zup_at, zup_r, zup_ne, true_and, and_true, true_or, or_true, and_self, or_self, false_or, or_false, false_and, and_false, Int.toNat_natCast, Int.toNat_add, Int.toNat_mul, Int.toNat_zero, Int.toNat_one, qtn, Int.natCast_add, qnat1, qnat0, ne_eq, not_true_eq_false, not_false_eq_true, eq_self, qbool]
      have a4' : zR zPP d 63 53 [zA 9, zI v, zI P, zI (qS T k), zI k, zI k, zI ((k : Int) + 1)] [] (n, s, S, R, M1) = _ := a4
      rw [a4', e_X_vote_53, qS_s]
      simp (disch := omega) only [p1, qff hF, qltT, qltF, qleT, qleF, qeqT, qeqF, Int.reduceEq, Int.reduceNe, Int.reduceLT, Int.reduceLE, Int.reduceToNat, Int.reduceAdd, Int.reduceSub, Int.reduceMul, Int.reduceNeg, Nat.reduceAdd, Nat.reduceMul, Nat.reduceEqDiff, Nat.reduceLT, Int.cast_ofNat_Int, Int.lt_irrefl, ↓reduceIte, ↓reduceDIte, zbI, zbL, zbA, zbV, qrg, qrg2, qnn, qz, zup_at, zup_r, zup_ne, true_and, and_true, true_or, or_true, and_self, or_self, false_or, or_false, false_and, and_false, Int.toNat_natCast, Int.toNat_add, Int.toNat_mul, Int.toNat_zero, Int.toNat_one, qtn, Int.natCast_add, qnat1, qnat0, ne_eq, not_true_eq_false, not_false_eq_true, eq_self, qbool]
theorem km_votes (hF : qFx S R) {G : Nat → Int} {P : Nat} (hP5 : P ≤ 5) (hb : ∀ j, j < P → -20000 ≤ G j ∧ G j ≤ 20000) (hM : ∀ j, j < P → M 317 j = G j) (v : Int) (g5 : zV) : zR zPP d 308 62 [zA 305, zI v, zI P, zI 0, zI 0, g5] [] (n, s, S, R, M) = some (zI (qS (fun j => max 0 (G j)) (min P (P / 2 + 1))), (n, s, S, R, M)) := by
  by_cases h0 : P = 0
  · subst h0
    rw [e_M_vote_62]
    simp (disch := omega) only [qff hF, qltT, qltF, qleT, qleF, qeqT, qeqF, Int.reduceEq, Int.reduceNe, Int.reduceLT, Int.reduceLE, Int.reduceToNat, Int.reduceAdd, Int.reduceSub, Int.reduceMul, Int.reduceNeg, Nat.reduceAdd, Nat.reduceMul, Nat.reduceEqDiff, Nat.reduceLT, Int.cast_ofNat_Int, Int.lt_irrefl, ↓reduceIte, ↓reduceDIte, zbI, zbL, zbA, zbV, qrg, qrg2, qnn, qz, zup_at, zup_r, zup_ne, true_and, and_true, true_or, or_true, and_self, or_self, false_or, or_false, false_and, and_false, Int.toNat_natCast, Int.toNat_add, Int.toNat_mul, Int.toNat_zero, Int.toNat_one, qtn, Int.natCast_add, qnat1, qnat0, ne_eq, not_true_eq_false, not_false_eq_true, eq_self, qbool]
    rfl
  · have hm : min P (P / 2 + 1) = P / 2 + 1 := by omega
    have hbm : ∀ j, j < P → 0 ≤ max 0 (G j) ∧ max 0 (G j) ≤ 20000 := fun j hj => by have := hb j hj; omega
    have htd : ((P : Int)).tdiv 2 = ((P / 2 : Nat) : Int) := rfl
    have L := qlp (P := fun k => zR zPP d 308 62 [zA 305, zI v, zI P, zI (qS (fun j => max 0 (G j)) k), zI (k : Nat), g5] [] (n, s, S, R, M)) (N := P / 2 + 1) (fun k hk => by
      have hsum : 0 ≤ qS (fun j => max 0 (G j)) k ∧ qS (fun j => max 0 (G j)) k ≤ 20000 * k := by
        refine ⟨?_, qS_le fun i hi => (hbm i (by omega)).2⟩
        have := qS_ge (f := fun j => max 0 (G j)) (b := 0) (n := k) fun i hi => (hbm i (by omega)).1
        omega
      have hbk := hb k (by omega)
      show zR _ _ _ _ _ _ _ = zR _ _ _ _ _ _ _
      rw [e_M_vote_62, qS_s]
      generalize qS (fun j => max 0 (G j)) k = Q at *
      have hMk := hM k (by omega)
      by_cases hc : 0 < G k
      · have e : max 0 (G k) = G k := by omega
        simp (disch := omega) only [htd, hMk, hc, e, qff hF, qltT, qltF, qleT, qleF, qeqT, qeqF, Int.reduceEq, Int.reduceNe, Int.reduceLT, Int.reduceLE, Int.reduceToNat, Int.reduceAdd, Int.reduceSub, Int.reduceMul, Int.reduceNeg, Nat.reduceAdd, Nat.reduceMul, Nat.reduceEqDiff, Nat.reduceLT, Int.cast_ofNat_Int, Int.lt_irrefl, ↓reduceIte, ↓reduceDIte, zbI, zbL, zbA, zbV, qrg, qrg2, qnn, qz, zup_at, zup_r, zup_ne, true_and, and_true, true_or, or_true, and_self, or_self, false_or, or_false, false_and, and_false, Int.toNat_natCast, Int.toNat_add, Int.toNat_mul, Int.toNat_zero, Int.toNat_one, qtn, Int.natCast_add, qnat1, qnat0, ne_eq, not_true_eq_false, not_false_eq_true, eq_self, qbool]
      · have e : max 0 (G k) = 0 := by omega
        simp (disch := omega) only [htd, hMk, hc, e, qff hF, qltT, qltF, qleT, qleF, qeqT, qeqF, Int.reduceEq, Int.reduceNe, Int.reduceLT, Int.reduceLE, Int.reduceToNat, Int.reduceAdd, Int.reduceSub, Int.reduceMul, Int.reduceNeg, Nat.reduceAdd, Nat.reduceMul, Nat.reduceEqDiff, Nat.reduceLT, Int.cast_ofNat_Int, Int.lt_irrefl, ↓reduceIte, ↓reduceDIte, zbI, zbL, zbA, zbV, qrg, qrg2, qnn, qz, zup_at, zup_r, zup_ne, true_and, and_true, true_or, or_true, and_self, or_self, false_or, or_false, false_and, and_false, Int.toNat_natCast, Int.toNat_add, Int.toNat_mul, Int.toNat_zero, Int.toNat_one, qtn, Int.natCast_add, qnat1, qnat0, ne_eq, not_true_eq_false, not_false_eq_true, eq_self, qbool])
    refine Eq.trans L ?_
    show zR _ _ _ _ _ _ _ = _
    rw [e_M_vote_62, hm]
    simp (disch := omega) only [htd, qff hF, qltT, qltF, qleT, qleF, qeqT, qeqF, Int.reduceEq, Int.reduceNe, Int.reduceLT, Int.reduceLE, Int.reduceToNat, Int.reduceAdd, Int.reduceSub, Int.reduceMul, Int.reduceNeg, Nat.reduceAdd, Nat.reduceMul, Nat.reduceEqDiff, Nat.reduceLT, Int.cast_ofNat_Int, Int.lt_irrefl, ↓reduceIte, ↓reduceDIte, zbI, zbL, zbA, zbV, qrg, qrg2, qnn, qz, zup_at, zup_r, zup_ne, true_and, and_true, true_or, or_true, and_self, or_self, false_or, or_false, false_and, and_false, Int.toNat_natCast, Int.toNat_add, Int.toNat_mul, Int.toNat_zero, Int.toNat_one, qtn, Int.natCast_add, qnat1, qnat0, ne_eq, not_true_eq_false, not_false_eq_true, eq_self, qbool]
theorem qb_vote (hw : qWd n S R M W) (v : Int) : qBo 63 308 [zI v] n s S R M := by
  have hA := hw.2.1.2.2.2
  have hF := hw.1.2.1
  have hT := hw.2.1.1
  have hp5 := hA.2.1.2
  obtain ⟨P, hP⟩ := Int.eq_ofNat_of_zero_le hA.2.1.1
  obtain ⟨q, hq1, hq2⟩ := wx_ruler (s := s) hw
  by_cases hv : 0 ≤ v ∧ v ≤ 99
  · have hage : ∀ p, p < P → -1100 ≤ qAge (M 306) (qWr W (M 306 3)) p ∧ qAge (M 306) (qWr W (M 306 3)) p ≤ 12000 := fun p hp => qAge_in hA _ (by omega)
    -- the model's sorted row
    have SORT : ∀ M1, qWd n S R M1 W → M1 306 = M 306 → ∃ (M2 : Nat → Nat → Int) (g4 g5 : zV), qXm M1 M2 ∧ zR zPP 99 308 14 [zA 305, zI v, zI P, zI 0, zU, zU] [] (n, s, S, R, M1) = zR zPP 99 308 14 [zA 305, zI v, zI P, zI P, g4, g5] [] (n, s, S, R, M2) ∧ qmon (M2 317) P ∧ (qsg (M2 317) 0 P).Perm (qsg (fun p => v - qAge (M 306) (qWr W (M 306 3)) p) 0 P) := by
      intro M1 hw1 e6
      have INS : ∀ (j k p : Nat) (u : Int) (G : Nat → Int) (M0 : Nat → Nat → Int), k = j → k ≤ p → p < P → qmon G p → (∀ i, i < k → M0 317 i = G i) → (∀ i, k < i → i ≤ p → M0 317 i = G (i - 1)) → (∀ i, k ≤ i → i < p → u ≤ G i) →
          ∃ (M2 : Nat → Nat → Int) (k' : Nat) (g5 : zV), k' ≤ p ∧ (k' = 0 ∨ G (k' - 1) ≤ u) ∧ (∀ i, k' ≤ i → i < p → u ≤ G i) ∧ (∀ i, i ≤ p → M2 317 i = qins G k' u i) ∧ (∀ a, a ≠ 317 → M2 a = M0 a) ∧ zR zPP 99 308 29 [zA 305, zI v, zI P, zI p, zI u, zI k] [] (n, s, S, R, M0) = zR zPP 99 308 14 [zA 305, zI v, zI P, zI ((p + 1 : Nat) : Int), zI u, g5] [] (n, s, S, R, M2) := by
        intro j
        induction j with
        | zero =>
          intro k p u G M0 hk hkp hpP hG h1 h2 h3
          subst hk
          refine ⟨zup M0 317 0 u, 0, zI 0, Nat.zero_le _, Or.inl rfl, fun i a1 a2 => h3 i a1 a2, fun i hi => ?_, fun a ha => zup_rw ha, ?_⟩
          · unfold qins
            by_cases hi0 : i = 0
            · subst hi0
              rw [zup_at, if_neg (by omega), if_pos rfl]
            · rw [zup_ne hi0, if_neg (by omega), if_neg hi0]
              exact h2 i (by omega) hi
          · rw [e_M_vote_29]
            simp (disch := omega) only [qff hF, qltT, qltF, qleT, qleF, qeqT, qeqF, Int.reduceEq, Int.reduceNe, Int.reduceLT, Int.reduceLE, Int.reduceToNat, Int.reduceAdd, Int.reduceSub, Int.reduceMul, Int.reduceNeg, Nat.reduceAdd, Nat.reduceMul, Nat.reduceEqDiff, Nat.reduceLT, Int.cast_ofNat_Int, Int.lt_irrefl, ↓reduceIte, ↓reduceDIte, zbI, zbL, zbA, zbV, qrg, qrg2, qnn, qz, zup_at, zup_r, zup_ne, true_and, and_true, true_or, or_true, and_self, or_self, false_or, or_false, false_and, and_false, Int.toNat_natCast, Int.toNat_add, Int.toNat_mul, Int.toNat_zero, Int.toNat_one, qtn, Int.natCast_add, qnat1, qnat0, ne_eq, not_true_eq_false, not_false_eq_true, eq_self, qbool]
        | succ j ih =>
          intro k p u G M0 hk hkp hpP hG h1 h2 h3
          subst hk
          have hj := h1 j (by omega)
          have z1 : ((j + 1 : Nat) : Int) - 1 = j := by omega
          have z2 : (j : Int) + 1 - 1 = j := by omega
          have z3 : (j : Int) + 1 + -1 = j := by omega
          by_cases hc : u < G j
          · obtain ⟨M2, k', g5, b1, b2, b3, b4, b5, b6⟩ := ih j p u G (zup M0 317 (j + 1) (G j)) rfl (by omega) hpP hG (fun i hi => by rw [zup_ne (by omega)]; exact h1 i (by omega)) (fun i i1 i2 => by
              by_cases hi : i = j + 1
              · subst hi; rw [zup_at]; rfl
              · rw [zup_ne hi]; exact h2 i (by omega) i2) (fun i i1 i2 => by
              by_cases hi : i = j
              · subst hi; omega
              · exact h3 i (by omega) i2)
            refine ⟨M2, k', g5, b1, b2, b3, b4, fun a ha => by rw [b5 a ha, zup_rw ha], ?_⟩
            rw [← b6, e_M_vote_29]
            simp (disch := omega) only [z2, z3, hj, hc, qff hF, qltT, qltF, qleT, qleF, qeqT, qeqF, Int.reduceEq, Int.reduceNe, Int.reduceLT, Int.reduceLE, Int.reduceToNat, Int.reduceAdd, Int.reduceSub, Int.reduceMul, Int.reduceNeg, Nat.reduceAdd, Nat.reduceMul, Nat.reduceEqDiff, Nat.reduceLT, Int.cast_ofNat_Int, Int.lt_irrefl, ↓reduceIte, ↓reduceDIte, zbI, zbL, zbA, zbV, qrg, qrg2, qnn, qz, zup_at, zup_r, zup_ne, true_and, and_true, true_or, or_true, and_self, or_self, false_or, or_false, false_and, and_false, Int.toNat_natCast, Int.toNat_add, Int.toNat_mul, Int.toNat_zero, Int.toNat_one, qtn, Int.natCast_add, qnat1, qnat0, ne_eq, not_true_eq_false, not_false_eq_true, eq_self, qbool]
          · refine ⟨zup M0 317 (j + 1) u, j + 1, zI ((j + 1 : Nat) : Int), hkp, Or.inr (by show G j ≤ u; omega), h3, fun i hi => ?_, fun a ha => zup_rw ha, ?_⟩
            · unfold qins
              by_cases hi0 : i = j + 1
              · subst hi0
                rw [zup_at, if_neg (by omega), if_pos rfl]
              · rw [zup_ne hi0]
                by_cases hi1 : i < j + 1
                · rw [if_pos hi1]; exact h1 i hi1
                · rw [if_neg hi1, if_neg hi0]; exact h2 i (by omega) hi
            · rw [e_M_vote_29]
              simp (disch := omega) only [z2, hj, hc, qff hF, qltT, qltF, qleT, qleF, qeqT, qeqF, Int.reduceEq, Int.reduceNe, Int.reduceLT, Int.reduceLE, Int.reduceToNat, Int.reduceAdd, Int.reduceSub, Int.reduceMul, Int.reduceNeg, Nat.reduceAdd, Nat.reduceMul, Nat.reduceEqDiff, Nat.reduceLT, Int.cast_ofNat_Int, Int.lt_irrefl, ↓reduceIte, ↓reduceDIte, zbI, zbL, zbA, zbV, qrg, qrg2, qnn, qz, zup_at, zup_r, zup_ne, true_and, and_true, true_or, or_true, and_self, or_self, false_or, or_false, false_and, and_false, Int.toNat_natCast, Int.toNat_add, Int.toNat_mul, Int.toNat_zero, Int.toNat_one, qtn, Int.natCast_add, qnat1, qnat0, ne_eq, not_true_eq_false, not_false_eq_true, eq_self, qbool]
      have L := qlpI (E := fun p (x : (Nat → Nat → Int) × zV × zV) => qXm M1 x.1 ∧ qmon (x.1 317) p ∧ (qsg (x.1 317) 0 p).Perm (qsg (fun p => v - qAge (M 306) (qWr W (M 306 3)) p) 0 p))
        (P := fun p x => zR zPP 99 308 14 [zA 305, zI v, zI P, zI (p : Nat), x.2.1, x.2.2] [] (n, s, S, R, x.1)) (N := P) (fun p x hp hx => by
          obtain ⟨e1, e2, e3⟩ := hx
          have hx6 : x.1 306 = M 306 := (e1 306 (by omega)).trans e6
          have hag := hage p hp
          have hwx : qWd n S R x.1 W := qWd_x (qXm_e e1) hw1
          obtain ⟨M2, h2, h3⟩ := wm_age (s := s) (d := 90) hwx (t := M 306 3) (by rw [hx6]; exact hA.2.2.2.1) (p := p) (by rw [hx6]; omega) (qX3_r x.1)
          rw [hx6] at h2
          have h317 : M2 317 = x.1 317 := h3 317 (by decide) (by decide) (by decide)
          obtain ⟨M3, k', g5, b1, b2, b3, b4, b5, b6⟩ := INS p p p (v - qAge (M 306) (qWr W (M 306 3)) p) (x.1 317) M2 rfl (Nat.le_refl _) hp e2 (fun i hi => by rw [h317]) (fun i i1 i2 => by omega) (fun i i1 i2 => by omega)
          refine ⟨(M3, zI (v - qAge (M 306) (qWr W (M 306 3)) p), g5), ⟨qXm_t e1 (qXm_t (qX3_m h3) fun a ha => b5 a (by omega)), ?_, ?_⟩, ?_⟩
          · intro i j hij hj
            show M3 317 i ≤ M3 317 j
            rw [b4 i (by omega), b4 j (by omega)]
            exact qins_mon e2 b1 b2 b3 i j hij hj
          · show (qsg (M3 317) 0 (p + 1)).Perm _
            rw [qsg_cong (G := qins (x.1 317) k' (v - qAge (M 306) (qWr W (M 306 3)) p)) (p + 1) 0 fun j _ hj => b4 j (by omega)]
            refine (qins_perm p 0 (Nat.zero_le _) (by omega)).trans ?_
            rw [qsg_snoc p 0, Nat.zero_add]
            exact (e3.cons _).trans (List.perm_append_comm (l₁ := [v - qAge (M 306) (qWr W (M 306 3)) p]))
          · show zR _ _ _ _ _ _ _ = zR _ _ _ _ _ _ _
            rw [← b6, e_M_vote_14]
            simp (disch := omega) only [hx6, h2, qff hF, qltT, qltF, qleT, qleF, qeqT, qeqF, Int.reduceEq, Int.reduceNe, Int.reduceLT, Int.reduceLE, Int.reduceToNat, Int.reduceAdd, Int.reduceSub, Int.reduceMul, Int.reduceNeg, Nat.reduceAdd, Nat.reduceMul, Nat.reduceEqDiff, Nat.reduceLT, Int.cast_ofNat_Int, Int.lt_irrefl, ↓reduceIte, ↓reduceDIte, zbI, zbL, zbA, zbV, qrg, qrg2, qnn, qz, zup_at, zup_r, zup_ne, true_and, and_true, true_or, or_true, and_self, or_self, false_or, or_false, false_and, and_false, Int.toNat_natCast, Int.toNat_add, Int.toNat_mul, Int.toNat_zero, Int.toNat_one, qtn, Int.natCast_add, qnat1, qnat0, ne_eq, not_true_eq_false, not_false_eq_true, eq_self, qbool]) (M1, zU, zU) ⟨fun _ _ => rfl, fun i j h1 h2 => by omega, List.Perm.refl _⟩
      obtain ⟨⟨M2, g4, g5⟩, ⟨e1, e2, e3⟩, L⟩ := L
      exact ⟨M2, g4, g5, e1, L, e2, e3⟩
    obtain ⟨M9, g4, g5, s1, s2, s3, s4⟩ := SORT M hw rfl
    have hGb : ∀ (G : Nat → Int), (qsg G 0 P).Perm (qsg (fun p => v - qAge (M 306) (qWr W (M 306 3)) p) 0 P) → ∀ j, j < P → -20000 ≤ G j ∧ G j ≤ 20000 := fun G hG j hj => by
      obtain ⟨i, i1, i2, i3⟩ := (qsg_mem _ _).mp (hG.mem_iff.mp ((qsg_mem (F := G) (x := G j) P 0).mpr ⟨j, Nat.zero_le _, by omega, rfl⟩))
      have := hage i (by omega)
      omega
    -- two sorted rows of the same are the same
    have hTm : qmon (fun j => max 0 (M9 317 j)) P := fun i j h1 h2 => by
      have := s3 i j h1 h2
      show max 0 (M9 317 i) ≤ max 0 (M9 317 j)
      omega
    have hTb : ∀ j, j < P → 0 ≤ (fun j => max 0 (M9 317 j)) j ∧ (fun j => max 0 (M9 317 j)) j ≤ 20000 := fun j hj => by
      have := hGb _ s4 j hj
      show 0 ≤ max 0 (M9 317 j) ∧ max 0 (M9 317 j) ≤ 20000
      omega
    refine qBo_q (v := zI (qS (fun j => max 0 (M9 317 j)) (min P (P / 2 + 1)))) hw ?_ ?_
    · have L := qlpI (E := fun p M1 => qXc M M1 ∧ ∀ j, j < p → M1 303 j = max 0 (v - qAge (M 306) (qWr W (M 306 3)) j)) (P := fun p M1 => zR zPP 99 63 13 [zA 9, zI v, zI P, zI (p : Nat), zU, zU, zU] [] (n, s, S, R, M1)) (N := P) (fun p M1 hp hx => by
        obtain ⟨e1, e2⟩ := hx
        have hag := hage p hp
        have hx10 : M1 10 = M 10 := e1 10 (by omega)
        have hwx : qWd n S R M1 W := qWd_x (qXc_e e1) hw
        have hx6 : M1 306 = M 306 := e1 306 (by omega)
        have hqx : qTn S R M1 q (qWr W (M 306 3)) := qTn_x (fun a ha => e1 a (by omega)) hq2
        obtain ⟨M2, h2, h3⟩ := wx_age (s := s) (d := 92) hwx hqx (p := p) (by rw [hx6]; omega) (qX2_r M1)
        rw [hx6] at h2
        refine ⟨zup M2 303 p (max 0 (v - qAge (M 306) (qWr W (M 306 3)) p)), ⟨fun a ha => ?_, fun j hj => ?_⟩, ?_⟩
        · rw [zup_rw (by omega), h3 a (by omega) (by omega), e1 a ha]
        · by_cases hjp : j = p
          · subst hjp; exact zup_at
          · rw [zup_ne hjp, h3 303 (by decide) (by decide)]
            exact e2 j (by omega)
        · show zR _ _ _ _ _ _ _ = zR _ _ _ _ _ _ _
          rw [e_X_vote_13]
          simp (disch := omega) only [hq1 97 M1 hx10, h2, qff hF, qltT, qltF, qleT, qleF, qeqT, qeqF, Int.reduceEq, Int.reduceNe, Int.reduceLT, Int.reduceLE, Int.reduceToNat, Int.reduceAdd, Int.reduceSub, Int.reduceMul, Int.reduceNeg, Nat.reduceAdd, Nat.reduceMul, Nat.reduceEqDiff, Nat.reduceLT, Int.cast_ofNat_Int, Int.lt_irrefl, ↓reduceIte, ↓reduceDIte, zbI, zbL, zbA, zbV, qrg, qrg2, qnn, qz, zup_at, zup_r, zup_ne, true_and, and_true, true_or, or_true, and_self, or_self, false_or, or_false, false_and, and_false, Int.toNat_natCast, Int.toNat_add, Int.toNat_mul, Int.toNat_zero, Int.toNat_one, qtn, Int.natCast_add, qnat1, qnat0, ne_eq, not_true_eq_false, not_false_eq_true, eq_self, qbool]) M ⟨fun _ _ => rfl, fun j hj => absurd hj (Nat.not_lt_zero j)⟩
      obtain ⟨M1, ⟨e1, e2⟩, L⟩ := L
      have hperm : (qsg (M1 303) 0 P).Perm (qsg (fun j => max 0 (M9 317 j)) 0 P) := by
        rw [qsg_cong (G := fun j => max 0 (v - qAge (M 306) (qWr W (M 306 3)) j)) P 0 fun j _ hj => e2 j (by omega)]
        rw [← qsg_map (F := fun j => v - qAge (M 306) (qWr W (M 306 3)) j) (fun x => max 0 x) P 0, ← qsg_map (F := M9 317) (fun x => max 0 x) P 0]
        exact (s4.map _).symm
      obtain ⟨M2, q1, q2⟩ := kx_votes (n := n) (s := s) (d := 99) hF (T := fun j => max 0 (M9 317 j)) (P := P) (by omega) hTm hTb v P 0 M1 zU zU (by omega) hperm (Or.inl rfl)
      refine ⟨M2, ?_, qXc_e (qXc_t e1 fun a ha => q2 a (by omega))⟩
      have hmin : min (P : Int) 5 = P := by omega
      have h13 : M 10 13 = P := hT.1.2.1.trans hP
      rw [c_X_vote]
      simp (disch := omega) only [k_isAge, hv, h13, hmin, qff hF, qltT, qltF, qleT, qleF, qeqT, qeqF, Int.reduceEq, Int.reduceNe, Int.reduceLT, Int.reduceLE, Int.reduceToNat, Int.reduceAdd, Int.reduceSub, Int.reduceMul, Int.reduceNeg, Nat.reduceAdd, Nat.reduceMul, Nat.reduceEqDiff, Nat.reduceLT, Int.cast_ofNat_Int, Int.lt_irrefl, ↓reduceIte, ↓reduceDIte, zbI, zbL, zbA, zbV, qrg, qrg2, qnn, qz, zup_at, zup_r, zup_ne, true_and, and_true, true_or, or_true, and_self, or_self, false_or, or_false, false_and, and_false, Int.toNat_natCast, Int.toNat_add, Int.toNat_mul, Int.toNat_zero, Int.toNat_one, qtn, Int.natCast_add, qnat1, qnat0, ne_eq, not_true_eq_false, not_false_eq_true, eq_self, qbool]
      refine Eq.trans L ?_
      rw [← q1, e_X_vote_13]
      simp (disch := omega) only [qff hF, qltT, qltF, qleT, qleF, qeqT, qeqF, Int.reduceEq, Int.reduceNe, Int.reduceLT, Int.reduceLE, Int.reduceToNat, Int.reduceAdd, Int.reduceSub, Int.reduceMul, Int.reduceNeg, Nat.reduceAdd, Nat.reduceMul, Nat.reduceEqDiff, Nat.reduceLT, Int.cast_ofNat_Int, Int.lt_irrefl, ↓reduceIte, ↓reduceDIte, zbI, zbL, zbA, zbV, qrg, qrg2, qnn, qz, zup_at, zup_r, zup_ne, true_and, and_true, true_or, or_true, and_self, or_self, false_or, or_false, false_and, and_false, Int.toNat_natCast, Int.toNat_add, Int.toNat_mul, Int.toNat_zero, Int.toNat_one, qtn, Int.natCast_add, qnat1, qnat0, ne_eq, not_true_eq_false, not_false_eq_true, eq_self, qbool]
      rfl
    · intro M1 hw1 e6
      have hA1 := hw1.2.1.2.2.2
      obtain ⟨M2, g4', g5', t1, t2, t3, t4⟩ := SORT M1 hw1 e6
      have heq := quniq P 0 (by rw [Nat.zero_add]; exact s3) (by rw [Nat.zero_add]; exact t3) (t4.trans s4.symm)
      have hv2 := km_votes (n := n) (s := s) (d := 99) (M := M2) hF (G := M9 317) (P := P) (by omega) (hGb _ s4) (fun j hj => heq j (Nat.zero_le _) (by omega)) v g5'
      refine ⟨M2, ?_, qXm_e t1⟩
      rw [c_M_vote]
      simp (disch := omega) only [k_isIn, hv, e6, hP, qff hF, qltT, qltF, qleT, qleF, qeqT, qeqF, Int.reduceEq, Int.reduceNe, Int.reduceLT, Int.reduceLE, Int.reduceToNat, Int.reduceAdd, Int.reduceSub, Int.reduceMul, Int.reduceNeg, Nat.reduceAdd, Nat.reduceMul, Nat.reduceEqDiff, Nat.reduceLT, Int.cast_ofNat_Int, Int.lt_irrefl, ↓reduceIte, ↓reduceDIte, zbI, zbL, zbA, zbV, qrg, qrg2, qnn, qz, zup_at, zup_r, zup_ne, true_and, and_true, true_or, or_true, and_self, or_self, false_or, or_false, false_and, and_false, Int.toNat_natCast, Int.toNat_add, Int.toNat_mul, Int.toNat_zero, Int.toNat_one, qtn, Int.natCast_add, qnat1, qnat0, ne_eq, not_true_eq_false, not_false_eq_true, eq_self, qbool]
      refine Eq.trans t2 ?_
      rw [e_M_vote_14]
      simp (disch := omega) only [qff hF, qltT, qltF, qleT, qleF, qeqT, qeqF, Int.reduceEq, Int.reduceNe, Int.reduceLT, Int.reduceLE, Int.reduceToNat, Int.reduceAdd, Int.reduceSub, Int.reduceMul, Int.reduceNeg, Nat.reduceAdd, Nat.reduceMul, Nat.reduceEqDiff, Nat.reduceLT, Int.cast_ofNat_Int, Int.lt_irrefl, ↓reduceIte, ↓reduceDIte, zbI, zbL, zbA, zbV, qrg, qrg2, qnn, qz, zup_at, zup_r, zup_ne, true_and, and_true, true_or, or_true, and_self, or_self, false_or, or_false, false_and, and_false, Int.toNat_natCast, Int.toNat_add, Int.toNat_mul, Int.toNat_zero, Int.toNat_one, qtn, Int.natCast_add, qnat1, qnat0, ne_eq, not_true_eq_false, not_false_eq_true, eq_self, qbool]
      exact hv2
  · have hX : zcal zPP 100 63 [zA 9, zI v] (n, s, S, R, M) = some (zI (-1), (n, s, S, R, M)) := by
      rw [c_X_vote]
      simp only [qff hF, if_true, k_isAge, zbI, if_neg hv]
    have hM : zcal zPP 100 308 [zA 305, zI v] (n, s, S, R, M) = some (zI (-1), (n, s, S, R, M)) := by
      rw [c_M_vote]
      simp only [qff hF, if_true, k_isIn, zbI, if_neg hv]
    exact qBo_same hw hX hM
end QF
