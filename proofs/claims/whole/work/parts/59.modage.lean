/-! THE MODEL: what a law says and what an age is -/
def qTN (T : Nat → Int) (t : Int) (w : qWt) : Prop := (t = -1 ∧ ∀ L, w L = none) ∨ ∃ i : Nat, t = i ∧ i < 4 ∧ qTx T (705 * i) w
def qcut (v lo hi : Int) : Int := if v < lo then lo else if hi < v then hi else v
def qSays (w : qWt) (E : qE) (L : Nat) (wo lo hi : Int) : Int := match w L with
  | none => wo
  | some D => qcut (D E) lo hi
theorem qSays0 (w : qWt) (E : qE) (k : Int) : qSays w E 0 1 (-99) 99 = qLaw w E 0 k := by
  unfold qSays qLaw
  cases w 0 <;> rfl
theorem qSays2 (w : qWt) (E : qE) (k : Int) : qSays w E 2 7 0 10 = qLaw w E 2 k := by
  unfold qSays qLaw
  cases w 2 <;> rfl
theorem qSays1 (w : qWt) (E : qE) (k : Int) : qSays w E 1 (if k = 1 then 2 else if k = 2 then 0 else 1) (-9) 99 = qLaw w E 1 k := by
  unfold qSays qLaw
  cases w 1 <;> rfl
/-- rows but those of the model's stack machine -/
def qX3 (M M' : Nat → Nat → Int) : Prop := ∀ a, a ≠ 311 → a ≠ 312 → a ≠ 313 → M' a = M a
theorem qX3_t {M M1 M2 : Nat → Nat → Int} (h1 : qX3 M M1) (h2 : qX3 M1 M2) : qX3 M M2 := fun a x y z => (h2 a x y z).trans (h1 a x y z)
section QF
variable {S : Nat → Nat × Nat} {R : Nat → Nat → Nat} {M : Nat → Nat → Int} {n s d : Nat} {w : qWt}
theorem km_name (hF : qFx S R) (hA : qIn (M 306)) {o y p : Nat} (ho : (o : Int) < M 306 0) (hy : y < 24) (hp : (p : Int) < M 306 1) :
    ∃ M', zcal zPP (d + 4) 239 [zA 305, zI o, zI y, zI p] (n, s, S, R, M) = some (zU, (n, s, S, R, M')) ∧ (∀ k, k < 8 → M' 311 k = (qEn (M 306) o y p).1 k) ∧ ∀ a, a ≠ 311 → M' a = M a := by
  have h5 := hA.1.2
  have hp5 := hA.2.1.2
  have hh : ∀ M1 : Nat → Nat → Int, M1 306 = M 306 → zcal zPP (d + 3) 240 [zA 305, zI p] (n, s, S, R, M1) = some (zI (qhb (M 306) p : Nat), (n, s, S, R, M1)) := fun M1 e => by
    rw [← e]
    exact km_heldBy hF (by rw [e]; exact hA) (by omega)
  have hi : ∀ M1 : Nat → Nat → Int, M1 306 = M 306 → zcal zPP (d + 3) 234 [zA 305, zI o] (n, s, S, R, M1) = some (zI (qic (M 306) o : Nat), (n, s, S, R, M1)) := fun M1 e => by
    rw [← e]
    exact km_inside hF (by omega)
  rw [c_M_name]
  simp (disch := omega) only [qff hF, qltT, qltF, qleT, qleF, qeqT, qeqF, Int.reduceEq, Int.reduceNe, Int.reduceLT, Int.reduceLE, Int.reduceToNat, Int.reduceAdd, Int.reduceSub, Int.reduceMul, Int.reduceNeg, Nat.reduceAdd, Nat.reduceMul, Nat.reduceEqDiff, Nat.reduceLT, Int.cast_ofNat_Int, Int.lt_irrefl, ↓reduceIte, ↓reduceDIte, zbI, zbL, zbA, zbV, qrg, qrg2, qnn, qz, zup_at, zup_r, zup_ne, true_and, and_true, true_or, or_true, and_self, or_self, false_or, or_false, false_and, and_false, Int.toNat_natCast, Int.toNat_add, Int.toNat_mul, Int.toNat_zero, Int.toNat_one, qtn, Int.natCast_add, qnat1, qnat0, ne_eq, not_true_eq_false, not_false_eq_true, eq_self, qbool]
  rw [hh _ (by funext k; repeat rw [zup_r (by decide)])]
  simp (disch := omega) only [qff hF, qltT, qltF, qleT, qleF, qeqT, qeqF, Int.reduceEq, Int.reduceNe, Int.reduceLT, Int.reduceLE, Int.reduceToNat, Int.reduceAdd, Int.reduceSub, Int.reduceMul, Int.reduceNeg, Nat.reduceAdd, Nat.reduceMul, Nat.reduceEqDiff, Nat.reduceLT, Int.cast_ofNat_Int, Int.lt_irrefl, ↓reduceIte, ↓reduceDIte, zbI, zbL, zbA, zbV, qrg, qrg2, qnn, qz, zup_at, zup_r, zup_ne, true_and, and_true, true_or, or_true, and_self, or_self, false_or, or_false, false_and, and_false, Int.toNat_natCast, Int.toNat_add, Int.toNat_mul, Int.toNat_zero, Int.toNat_one, qtn, Int.natCast_add, qnat1, qnat0, ne_eq, not_true_eq_false, not_false_eq_true, eq_self, qbool]
  rw [hi _ (by funext k; repeat rw [zup_r (by decide)])]
  simp (disch := omega) only [qff hF, qltT, qltF, qleT, qleF, qeqT, qeqF, Int.reduceEq, Int.reduceNe, Int.reduceLT, Int.reduceLE, Int.reduceToNat, Int.reduceAdd, Int.reduceSub, Int.reduceMul, Int.reduceNeg, Nat.reduceAdd, Nat.reduceMul, Nat.reduceEqDiff, Nat.reduceLT, Int.cast_ofNat_Int, Int.lt_irrefl, ↓reduceIte, ↓reduceDIte, zbI, zbL, zbA, zbV, qrg, qrg2, qnn, qz, zup_at, zup_r, zup_ne, true_and, and_true, true_or, or_true, and_self, or_self, false_or, or_false, false_and, and_false, Int.toNat_natCast, Int.toNat_add, Int.toNat_mul, Int.toNat_zero, Int.toNat_one, qtn, Int.natCast_add, qnat1, qnat0, ne_eq, not_true_eq_false, not_false_eq_true, eq_self, qbool]
  refine ⟨_, rfl, fun k hk => ?_, fun a ha => ?_⟩
  · match k, hk with
    | 0, _ => simp (disch := omega) only [qff hF, qltT, qltF, qleT, qleF, qeqT, qeqF, Int.reduceEq, Int.reduceNe, Int.reduceLT, Int.reduceLE, Int.reduceToNat, Int.reduceAdd, Int.reduceSub, Int.reduceMul, Int.reduceNeg, Nat.reduceAdd, Nat.reduceMul, Nat.reduceEqDiff, Nat.reduceLT, Int.cast_ofNat_Int, Int.lt_irrefl, ↓reduceIte, ↓reduceDIte, zbI, zbL, zbA, zbV, qrg, qrg2, qnn, qz, zup_at, zup_r, zup_ne, true_and, and_true, true_or, or_true, and_self, or_self, false_or, or_false, false_and, and_false, Int.toNat_natCast, Int.toNat_add, Int.toNat_mul, Int.toNat_zero, Int.toNat_one, qtn, Int.natCast_add, qnat1, qnat0, ne_eq, not_true_eq_false, not_false_eq_true, eq_self, qbool]; rfl
    | 1, _ => simp (disch := omega) only [qff hF, qltT, qltF, qleT, qleF, qeqT, qeqF, Int.reduceEq, Int.reduceNe, Int.reduceLT, Int.reduceLE, Int.reduceToNat, Int.reduceAdd, Int.reduceSub, Int.reduceMul, Int.reduceNeg, Nat.reduceAdd, Nat.reduceMul, Nat.reduceEqDiff, Nat.reduceLT, Int.cast_ofNat_Int, Int.lt_irrefl, ↓reduceIte, ↓reduceDIte, zbI, zbL, zbA, zbV, qrg, qrg2, qnn, qz, zup_at, zup_r, zup_ne, true_and, and_true, true_or, or_true, and_self, or_self, false_or, or_false, false_and, and_false, Int.toNat_natCast, Int.toNat_add, Int.toNat_mul, Int.toNat_zero, Int.toNat_one, qtn, Int.natCast_add, qnat1, qnat0, ne_eq, not_true_eq_false, not_false_eq_true, eq_self, qbool]; rfl
    | 2, _ => simp (disch := omega) only [qff hF, qltT, qltF, qleT, qleF, qeqT, qeqF, Int.reduceEq, Int.reduceNe, Int.reduceLT, Int.reduceLE, Int.reduceToNat, Int.reduceAdd, Int.reduceSub, Int.reduceMul, Int.reduceNeg, Nat.reduceAdd, Nat.reduceMul, Nat.reduceEqDiff, Nat.reduceLT, Int.cast_ofNat_Int, Int.lt_irrefl, ↓reduceIte, ↓reduceDIte, zbI, zbL, zbA, zbV, qrg, qrg2, qnn, qz, zup_at, zup_r, zup_ne, true_and, and_true, true_or, or_true, and_self, or_self, false_or, or_false, false_and, and_false, Int.toNat_natCast, Int.toNat_add, Int.toNat_mul, Int.toNat_zero, Int.toNat_one, qtn, Int.natCast_add, qnat1, qnat0, ne_eq, not_true_eq_false, not_false_eq_true, eq_self, qbool]; rfl
    | 3, _ => simp (disch := omega) only [qff hF, qltT, qltF, qleT, qleF, qeqT, qeqF, Int.reduceEq, Int.reduceNe, Int.reduceLT, Int.reduceLE, Int.reduceToNat, Int.reduceAdd, Int.reduceSub, Int.reduceMul, Int.reduceNeg, Nat.reduceAdd, Nat.reduceMul, Nat.reduceEqDiff, Nat.reduceLT, Int.cast_ofNat_Int, Int.lt_irrefl, ↓reduceIte, ↓reduceDIte, zbI, zbL, zbA, zbV, qrg, qrg2, qnn, qz, zup_at, zup_r, zup_ne, true_and, and_true, true_or, or_true, and_self, or_self, false_or, or_false, false_and, and_false, Int.toNat_natCast, Int.toNat_add, Int.toNat_mul, Int.toNat_zero, Int.toNat_one, qtn, Int.natCast_add, qnat1, qnat0, ne_eq, not_true_eq_false, not_false_eq_true, eq_self, qbool]; rfl
    | 4, _ => simp (disch := omega) only [qff hF, qltT, qltF, qleT, qleF, qeqT, qeqF, Int.reduceEq, Int.reduceNe, Int.reduceLT, Int.reduceLE, Int.reduceToNat, Int.reduceAdd, Int.reduceSub, Int.reduceMul, Int.reduceNeg, Nat.reduceAdd, Nat.reduceMul, Nat.reduceEqDiff, Nat.reduceLT, Int.cast_ofNat_Int, Int.lt_irrefl, ↓reduceIte, ↓reduceDIte, zbI, zbL, zbA, zbV, qrg, qrg2, qnn, qz, zup_at, zup_r, zup_ne, true_and, and_true, true_or, or_true, and_self, or_self, false_or, or_false, false_and, and_false, Int.toNat_natCast, Int.toNat_add, Int.toNat_mul, Int.toNat_zero, Int.toNat_one, qtn, Int.natCast_add, qnat1, qnat0, ne_eq, not_true_eq_false, not_false_eq_true, eq_self, qbool]; rfl
    | 5, _ => simp (disch := omega) only [qff hF, qltT, qltF, qleT, qleF, qeqT, qeqF, Int.reduceEq, Int.reduceNe, Int.reduceLT, Int.reduceLE, Int.reduceToNat, Int.reduceAdd, Int.reduceSub, Int.reduceMul, Int.reduceNeg, Nat.reduceAdd, Nat.reduceMul, Nat.reduceEqDiff, Nat.reduceLT, Int.cast_ofNat_Int, Int.lt_irrefl, ↓reduceIte, ↓reduceDIte, zbI, zbL, zbA, zbV, qrg, qrg2, qnn, qz, zup_at, zup_r, zup_ne, true_and, and_true, true_or, or_true, and_self, or_self, false_or, or_false, false_and, and_false, Int.toNat_natCast, Int.toNat_add, Int.toNat_mul, Int.toNat_zero, Int.toNat_one, qtn, Int.natCast_add, qnat1, qnat0, ne_eq, not_true_eq_false, not_false_eq_true, eq_self, qbool]; rfl
    | 6, _ => simp (disch := omega) only [qff hF, qltT, qltF, qleT, qleF, qeqT, qeqF, Int.reduceEq, Int.reduceNe, Int.reduceLT, Int.reduceLE, Int.reduceToNat, Int.reduceAdd, Int.reduceSub, Int.reduceMul, Int.reduceNeg, Nat.reduceAdd, Nat.reduceMul, Nat.reduceEqDiff, Nat.reduceLT, Int.cast_ofNat_Int, Int.lt_irrefl, ↓reduceIte, ↓reduceDIte, zbI, zbL, zbA, zbV, qrg, qrg2, qnn, qz, zup_at, zup_r, zup_ne, true_and, and_true, true_or, or_true, and_self, or_self, false_or, or_false, false_and, and_false, Int.toNat_natCast, Int.toNat_add, Int.toNat_mul, Int.toNat_zero, Int.toNat_one, qtn, Int.natCast_add, qnat1, qnat0, ne_eq, not_true_eq_false, not_false_eq_true, eq_self, qbool]; rfl
    | 7, _ => simp (disch := omega) only [qff hF, qltT, qltF, qleT, qleF, qeqT, qeqF, Int.reduceEq, Int.reduceNe, Int.reduceLT, Int.reduceLE, Int.reduceToNat, Int.reduceAdd, Int.reduceSub, Int.reduceMul, Int.reduceNeg, Nat.reduceAdd, Nat.reduceMul, Nat.reduceEqDiff, Nat.reduceLT, Int.cast_ofNat_Int, Int.lt_irrefl, ↓reduceIte, ↓reduceDIte, zbI, zbL, zbA, zbV, qrg, qrg2, qnn, qz, zup_at, zup_r, zup_ne, true_and, and_true, true_or, or_true, and_self, or_self, false_or, or_false, false_and, and_false, Int.toNat_natCast, Int.toNat_add, Int.toNat_mul, Int.toNat_zero, Int.toNat_one, qtn, Int.natCast_add, qnat1, qnat0, ne_eq, not_true_eq_false, not_false_eq_true, eq_self, qbool]; rfl
    | k + 8, hk => omega
  · funext k
    repeat rw [zup_r ha]
theorem km_cut (v lo hi : Int) (hl : -2147483648 ≤ lo ∧ hi ≤ 2147483647) (σ : zS) : zcal zPP (d + 1) 250 [zL v, zI lo, zI hi] σ = some (zI (qcut v lo hi), σ) := by
  rw [c_M_cut]
  simp only [zcmp_gt, zcmp_lt]
  unfold qcut
  by_cases h1 : v < lo
  · rw [if_pos h1, if_pos h1]
  · rw [if_neg h1, if_neg h1]
    by_cases h2 : hi < v
    · rw [if_pos h2, if_pos h2]
    · rw [if_neg h2, if_neg h2, qz (by omega) (by omega)]
theorem km_says (hF : qFx S R) (hA : qIn (M 306)) {o y p : Nat} (ho : (o : Int) < M 306 0) (hy : y < 24) (hp : (p : Int) < M 306 1) (hN : ∀ k, k < 8 → M 311 k = (qEn (M 306) o y p).1 k) {t : Int} (ht : qTN (M 308) t w) {L : Nat} (hL : L < 3) (wo : Int) {lo hi : Int} (hl : -2147483648 ≤ lo ∧ hi ≤ 2147483647) :
    ∃ M', zcal zPP (d + 7) 241 [zA 305, zI t, zI L, zI wo, zI lo, zI hi] (n, s, S, R, M) = some (zI (qSays w (qEn (M 306) o y p) L wo lo hi), (n, s, S, R, M')) ∧ qX3 M M' := by
  rcases ht with ⟨ht, hw⟩ | ⟨t, rfl, ht4, c, hc, hc24, h3⟩
  · refine ⟨M, ?_, fun _ _ _ _ => rfl⟩
    subst ht
    have e : qSays w (qEn (M 306) o y p) L wo lo hi = wo := by unfold qSays; rw [hw L]
    rw [e]
    simp (disch := omega) only [c_M_says, e_M_says_2, qff hF, qltT, qltF, qleT, qleF, qeqT, qeqF, Int.reduceEq, Int.reduceNe, Int.reduceLT, Int.reduceLE, Int.reduceToNat, Int.reduceAdd, Int.reduceSub, Int.reduceMul, Int.reduceNeg, Nat.reduceAdd, Nat.reduceMul, Nat.reduceEqDiff, Nat.reduceLT, Int.cast_ofNat_Int, Int.lt_irrefl, ↓reduceIte, ↓reduceDIte, zbI, zbL, zbA, zbV, qrg, qrg2, qnn, qz, zup_at, zup_r, zup_ne, true_and, and_true, true_or, or_true, and_self, or_self, false_or, or_false, false_and, and_false, Int.toNat_natCast, Int.toNat_add, Int.toNat_mul, Int.toNat_zero, Int.toNat_one, qtn, Int.natCast_add, qnat1, qnat0, ne_eq, not_true_eq_false, not_false_eq_true, eq_self, qbool]
  · have h3L := h3 L hL
    have hrow : ∀ k : Nat, k < 24 → ((705 : Int) * t + 1 + 4 * k).toNat = 705 * t + 1 + 4 * k := fun k hk => by omega
    have LOOP : ∀ K : Nat, K ≤ c → (∀ k, k < K → M 308 (705 * t + 1 + 4 * k) ≠ L) → zR zPP (d + 6) 241 2 [zA 305, zI t, zI L, zI wo, zI lo, zI hi, zI 0] [] (n, s, S, R, M) = zR zPP (d + 6) 241 2 [zA 305, zI t, zI L, zI wo, zI lo, zI hi, zI K] [] (n, s, S, R, M) := by
      intro K hK hne
      refine qlp (P := fun k => zR zPP (d + 6) 241 2 [zA 305, zI t, zI L, zI wo, zI lo, zI hi, zI (k : Nat)] [] (n, s, S, R, M)) fun k hk => ?_
      have hk2 := hne k hk
      show zR _ _ _ _ _ _ _ = zR _ _ _ _ _ _ _
      rw [e_M_says_2]
      simp (disch := omega) only [hc, hk2, qff hF, qltT, qltF, qleT, qleF, qeqT, qeqF, Int.reduceEq, Int.reduceNe, Int.reduceLT, Int.reduceLE, Int.reduceToNat, Int.reduceAdd, Int.reduceSub, Int.reduceMul, Int.reduceNeg, Nat.reduceAdd, Nat.reduceMul, Nat.reduceEqDiff, Nat.reduceLT, Int.cast_ofNat_Int, Int.lt_irrefl, ↓reduceIte, ↓reduceDIte, zbI, zbL, zbA, zbV, qrg, qrg2, qnn, qz, zup_at, zup_r, zup_ne, true_and, and_true, true_or, or_true, and_self, or_self, false_or, or_false, false_and, and_false, Int.toNat_natCast, Int.toNat_add, Int.toNat_mul, Int.toNat_zero, Int.toNat_one, qtn, Int.natCast_add, qnat1, qnat0, ne_eq, not_true_eq_false, not_false_eq_true, eq_self, qbool]
    cases hw : w L with
    | none =>
      rw [hw] at h3L
      have h3L : ∀ k, k < c → M 308 (705 * t + 1 + 4 * k) ≠ L := h3L
      refine ⟨M, ?_, fun _ _ _ _ => rfl⟩
      have e : qSays w (qEn (M 306) o y p) L wo lo hi = wo := by unfold qSays; rw [hw]
      rw [e, c_M_says]
      simp (disch := omega) only [qff hF, qltT, qltF, qleT, qleF, qeqT, qeqF, Int.reduceEq, Int.reduceNe, Int.reduceLT, Int.reduceLE, Int.reduceToNat, Int.reduceAdd, Int.reduceSub, Int.reduceMul, Int.reduceNeg, Nat.reduceAdd, Nat.reduceMul, Nat.reduceEqDiff, Nat.reduceLT, Int.cast_ofNat_Int, Int.lt_irrefl, ↓reduceIte, ↓reduceDIte, zbI, zbL, zbA, zbV, qrg, qrg2, qnn, qz, zup_at, zup_r, zup_ne, true_and, and_true, true_or, or_true, and_self, or_self, false_or, or_false, false_and, and_false, Int.toNat_natCast, Int.toNat_add, Int.toNat_mul, Int.toNat_zero, Int.toNat_one, qtn, Int.natCast_add, qnat1, qnat0, ne_eq, not_true_eq_false, not_false_eq_true, eq_self, qbool]
      rw [LOOP c (Nat.le_refl _) h3L, e_M_says_2]
      simp (disch := omega) only [hc, qff hF, qltT, qltF, qleT, qleF, qeqT, qeqF, Int.reduceEq, Int.reduceNe, Int.reduceLT, Int.reduceLE, Int.reduceToNat, Int.reduceAdd, Int.reduceSub, Int.reduceMul, Int.reduceNeg, Nat.reduceAdd, Nat.reduceMul, Nat.reduceEqDiff, Nat.reduceLT, Int.cast_ofNat_Int, Int.lt_irrefl, ↓reduceIte, ↓reduceDIte, zbI, zbL, zbA, zbV, qrg, qrg2, qnn, qz, zup_at, zup_r, zup_ne, true_and, and_true, true_or, or_true, and_self, or_self, false_or, or_false, false_and, and_false, Int.toNat_natCast, Int.toNat_add, Int.toNat_mul, Int.toNat_zero, Int.toNat_one, qtn, Int.natCast_add, qnat1, qnat0, ne_eq, not_true_eq_false, not_false_eq_true, eq_self, qbool]
    | some D =>
      rw [hw] at h3L
      obtain ⟨k, hk, hkL, hne, C, i, j, e1, e2, e3, e4, e5, e6⟩ : ∃ k, k < c ∧ M 308 (705 * t + 1 + 4 * k) = L ∧ (∀ k', k' < k → M 308 (705 * t + 1 + 4 * k') ≠ L) ∧ ∃ (C : Nat → Nat × Int) (i j : Nat), M 308 (705 * t + 1 + 4 * k + 1) = i ∧ M 308 (705 * t + 1 + 4 * k + 2) = j ∧ i ≤ j ∧ j ≤ 304 ∧
        (∀ x, i ≤ x → x < j → M 308 (705 * t + 97 + 2 * x) = (C x).1 ∧ M 308 (705 * t + 97 + 2 * x + 1) = (C x).2 ∧ ((C x).1 = 0 → 0 ≤ (C x).2 ∧ (C x).2 ≤ 9999) ∧ ((C x).1 = 1 → 0 ≤ (C x).2 ∧ (C x).2 < 8)) ∧ ∀ E, qGE E → qmr E C (j - i) i [] [] = some ([D E], []) := h3L
      have hJ : qMS M M [] [] := ⟨fun _ _ _ => rfl, ⟨trivial, fun _ h => absurd h List.not_mem_nil, by decide⟩, trivial, fun _ h => absurd h List.not_mem_nil, by decide⟩
      obtain ⟨M', f1, f2⟩ := km_sum_loop (n := n) (s := s) (d := d) (b := 705 * t) (x := 705 * t + 1 + 4 * k) (i0 := i) (stop := j) (t := t) (k := k) hF hA ho hy hp hN (by omega) (by omega) e2 e5 (j - i) i [] [] M zU zU (e6 _ (qEn_G hA ho hy hp)) (Nat.le_refl _) (by omega) hJ
      refine ⟨M', ?_, fun a x y z => f2.1 a y z⟩
      have e : qSays w (qEn (M 306) o y p) L wo lo hi = qcut (D (qEn (M 306) o y p)) lo hi := by unfold qSays; rw [hw]
      rw [e, c_M_says]
      simp (disch := omega) only [qff hF, qltT, qltF, qleT, qleF, qeqT, qeqF, Int.reduceEq, Int.reduceNe, Int.reduceLT, Int.reduceLE, Int.reduceToNat, Int.reduceAdd, Int.reduceSub, Int.reduceMul, Int.reduceNeg, Nat.reduceAdd, Nat.reduceMul, Nat.reduceEqDiff, Nat.reduceLT, Int.cast_ofNat_Int, Int.lt_irrefl, ↓reduceIte, ↓reduceDIte, zbI, zbL, zbA, zbV, qrg, qrg2, qnn, qz, zup_at, zup_r, zup_ne, true_and, and_true, true_or, or_true, and_self, or_self, false_or, or_false, false_and, and_false, Int.toNat_natCast, Int.toNat_add, Int.toNat_mul, Int.toNat_zero, Int.toNat_one, qtn, Int.natCast_add, qnat1, qnat0, ne_eq, not_true_eq_false, not_false_eq_true, eq_self, qbool]
      rw [LOOP k (by omega) hne, e_M_says_2]
      simp (disch := omega) only [hc, hkL, c_M_summedUp, e1, qff hF, qltT, qltF, qleT, qleF, qeqT, qeqF, Int.reduceEq, Int.reduceNe, Int.reduceLT, Int.reduceLE, Int.reduceToNat, Int.reduceAdd, Int.reduceSub, Int.reduceMul, Int.reduceNeg, Nat.reduceAdd, Nat.reduceMul, Nat.reduceEqDiff, Nat.reduceLT, Int.cast_ofNat_Int, Int.lt_irrefl, ↓reduceIte, ↓reduceDIte, zbI, zbL, zbA, zbV, qrg, qrg2, qnn, qz, zup_at, zup_r, zup_ne, true_and, and_true, true_or, or_true, and_self, or_self, false_or, or_false, false_and, and_false, Int.toNat_natCast, Int.toNat_add, Int.toNat_mul, Int.toNat_zero, Int.toNat_one, qtn, Int.natCast_add, qnat1, qnat0, ne_eq, not_true_eq_false, not_false_eq_true, eq_self, qbool]
      have f1' : zR zPP (d + 5) 242 27 [zA 305, zI t, zI k, zI (705 * (t : Int) + 1 + 4 * k), zI (705 * (t : Int) + 97), zI 0, zI 0, zI i, zU, zU] [] (n, s, S, R, M) = some (zL (D (qEn (M 306) o y p)), (n, s, S, R, M')) := f1
      rw [f1']
      simp (disch := omega) only [km_cut _ _ _ hl, qff hF, qltT, qltF, qleT, qleF, qeqT, qeqF, Int.reduceEq, Int.reduceNe, Int.reduceLT, Int.reduceLE, Int.reduceToNat, Int.reduceAdd, Int.reduceSub, Int.reduceMul, Int.reduceNeg, Nat.reduceAdd, Nat.reduceMul, Nat.reduceEqDiff, Nat.reduceLT, Int.cast_ofNat_Int, Int.lt_irrefl, ↓reduceIte, ↓reduceDIte, zbI, zbL, zbA, zbV, qrg, qrg2, qnn, qz, zup_at, zup_r, zup_ne, true_and, and_true, true_or, or_true, and_self, or_self, false_or, or_false, false_and, and_false, Int.toNat_natCast, Int.toNat_add, Int.toNat_mul, Int.toNat_zero, Int.toNat_one, qtn, Int.natCast_add, qnat1, qnat0, ne_eq, not_true_eq_false, not_false_eq_true, eq_self, qbool]
theorem km_lendsOf (hF : qFx S R) (hA : qIn (M 306)) {o y p : Nat} (ho : (o : Int) < M 306 0) (hy : y < 24) (hp : (p : Int) < M 306 1) (ht : qTN (M 308) (M 306 3) w) :
    ∃ M', zcal zPP (d + 8) 238 [zA 305, zI o, zI y, zI p] (n, s, S, R, M) = some (zI (qLaw w (qEn (M 306) o y p) 0 (M 306 (136 + y))), (n, s, S, R, M')) ∧ qX3 M M' := by
  obtain ⟨M1, h1, h2, h3⟩ := km_name (n := n) (s := s) (d := d + 3) hF hA ho hy hp
  have h6 : M1 306 = M 306 := h3 306 (by decide)
  have h8 : M1 308 = M 308 := h3 308 (by decide)
  obtain ⟨M2, h4, h5⟩ := km_says (n := n) (s := s) (d := d) (M := M1) (S := S) (R := R) (w := w) (o := o) (y := y) (p := p) (t := M 306 3) (L := 0) hF (by rw [h6]; exact hA) (by rw [h6]; exact ho) hy (by rw [h6]; exact hp) (fun k hk => by rw [h6]; exact h2 k hk) (by rw [h8]; exact ht) (by decide) 1 (lo := -99) (hi := 99) (by decide)
  rw [h6, qSays0 _ _ (M 306 (136 + y))] at h4
  refine ⟨M2, ?_, qX3_t (fun a x _ _ => h3 a x) h5⟩
  have h4' : zcal zPP (d + 7) 241 [zA 305, zI (M 306 3), zI 0, zI 1, zI (-99), zI 99] (n, s, S, R, M1) = some (zI (qLaw w (qEn (M 306) o y p) 0 (M 306 (136 + y))), (n, s, S, R, M2)) := h4
  simp (disch := omega) only [c_M_lendsOf, h1, h6, h4', qff hF, qltT, qltF, qleT, qleF, qeqT, qeqF, Int.reduceEq, Int.reduceNe, Int.reduceLT, Int.reduceLE, Int.reduceToNat, Int.reduceAdd, Int.reduceSub, Int.reduceMul, Int.reduceNeg, Nat.reduceAdd, Nat.reduceMul, Nat.reduceEqDiff, Nat.reduceLT, Int.cast_ofNat_Int, Int.lt_irrefl, ↓reduceIte, ↓reduceDIte, zbI, zbL, zbA, zbV, qrg, qrg2, qnn, qz, zup_at, zup_r, zup_ne, true_and, and_true, true_or, or_true, and_self, or_self, false_or, or_false, false_and, and_false, Int.toNat_natCast, Int.toNat_add, Int.toNat_mul, Int.toNat_zero, Int.toNat_one, qtn, Int.natCast_add, qnat1, qnat0, ne_eq, not_true_eq_false, not_false_eq_true, eq_self, qbool]
theorem km_paysOf (hF : qFx S R) (hA : qIn (M 306)) {o y p : Nat} (ho : (o : Int) < M 306 0) (hy : y < 24) (hp : (p : Int) < M 306 1) (ht : qTN (M 308) (M 306 3) w) :
    ∃ M', zcal zPP (d + 8) 260 [zA 305, zI o, zI y, zI p] (n, s, S, R, M) = some (zI (qLaw w (qEn (M 306) o y p) 2 (M 306 (136 + y))), (n, s, S, R, M')) ∧ qX3 M M' := by
  obtain ⟨M1, h1, h2, h3⟩ := km_name (n := n) (s := s) (d := d + 3) hF hA ho hy hp
  have h6 : M1 306 = M 306 := h3 306 (by decide)
  have h8 : M1 308 = M 308 := h3 308 (by decide)
  obtain ⟨M2, h4, h5⟩ := km_says (n := n) (s := s) (d := d) (M := M1) (S := S) (R := R) (w := w) (o := o) (y := y) (p := p) (t := M 306 3) (L := 2) hF (by rw [h6]; exact hA) (by rw [h6]; exact ho) hy (by rw [h6]; exact hp) (fun k hk => by rw [h6]; exact h2 k hk) (by rw [h8]; exact ht) (by decide) 7 (lo := 0) (hi := 10) (by decide)
  rw [h6, qSays2 _ _ (M 306 (136 + y))] at h4
  refine ⟨M2, ?_, qX3_t (fun a x _ _ => h3 a x) h5⟩
  have h4' : zcal zPP (d + 7) 241 [zA 305, zI (M 306 3), zI 2, zI 7, zI 0, zI 10] (n, s, S, R, M1) = some (zI (qLaw w (qEn (M 306) o y p) 2 (M 306 (136 + y))), (n, s, S, R, M2)) := h4
  simp (disch := omega) only [c_M_paysOf, h1, h6, h4', qff hF, qltT, qltF, qleT, qleF, qeqT, qeqF, Int.reduceEq, Int.reduceNe, Int.reduceLT, Int.reduceLE, Int.reduceToNat, Int.reduceAdd, Int.reduceSub, Int.reduceMul, Int.reduceNeg, Nat.reduceAdd, Nat.reduceMul, Nat.reduceEqDiff, Nat.reduceLT, Int.cast_ofNat_Int, Int.lt_irrefl, ↓reduceIte, ↓reduceDIte, zbI, zbL, zbA, zbV, qrg, qrg2, qnn, qz, zup_at, zup_r, zup_ne, true_and, and_true, true_or, or_true, and_self, or_self, false_or, or_false, false_and, and_false, Int.toNat_natCast, Int.toNat_add, Int.toNat_mul, Int.toNat_zero, Int.toNat_one, qtn, Int.natCast_add, qnat1, qnat0, ne_eq, not_true_eq_false, not_false_eq_true, eq_self, qbool]
theorem km_agesOf (hF : qFx S R) (hA : qIn (M 306)) {o y p : Nat} (ho : (o : Int) < M 306 0) (hy : y < 24) (hp : (p : Int) < M 306 1) {t : Int} (ht : qTN (M 308) t w) :
    ∃ M', zcal zPP (d + 8) 269 [zA 305, zI t, zI o, zI y, zI p] (n, s, S, R, M) = some (zI (qLaw w (qEn (M 306) o y p) 1 (M 306 (136 + y))), (n, s, S, R, M')) ∧ qX3 M M' := by
  obtain ⟨M1, h1, h2, h3⟩ := km_name (n := n) (s := s) (d := d + 3) hF hA ho hy hp
  have h6 : M1 306 = M 306 := h3 306 (by decide)
  have h8 : M1 308 = M 308 := h3 308 (by decide)
  obtain ⟨M2, h4, h5⟩ := km_says (n := n) (s := s) (d := d) (M := M1) (S := S) (R := R) (w := w) (o := o) (y := y) (p := p) (t := t) (L := 1) hF (by rw [h6]; exact hA) (by rw [h6]; exact ho) hy (by rw [h6]; exact hp) (fun k hk => by rw [h6]; exact h2 k hk) (by rw [h8]; exact ht) (by decide) (if M 306 (136 + y) = 1 then 2 else if M 306 (136 + y) = 2 then 0 else 1) (lo := -9) (hi := 99) (by decide)
  rw [h6, qSays1 _ _ (M 306 (136 + y))] at h4
  refine ⟨M2, ?_, qX3_t (fun a x _ _ => h3 a x) h5⟩
  have h2k : M1 311 2 = M 306 (136 + y) := h2 2 (by decide)
  have h4' : zcal zPP (d + 7) 241 [zA 305, zI t, zI 1, zI (if M 306 (136 + y) = 1 then 2 else if M 306 (136 + y) = 2 then 0 else 1), zI (-9), zI 99] (n, s, S, R, M1) = some (zI (qLaw w (qEn (M 306) o y p) 1 (M 306 (136 + y))), (n, s, S, R, M2)) := h4
  by_cases k1 : M 306 (136 + y) = 1
  · rw [if_pos k1] at h4'
    simp (disch := omega) only [c_M_agesOf, h1, h2k, k1, h4', qff hF, qltT, qltF, qleT, qleF, qeqT, qeqF, Int.reduceEq, Int.reduceNe, Int.reduceLT, Int.reduceLE, Int.reduceToNat, Int.reduceAdd, Int.reduceSub, Int.reduceMul, Int.reduceNeg, Nat.reduceAdd, Nat.reduceMul, Nat.reduceEqDiff, Nat.reduceLT, Int.cast_ofNat_Int, Int.lt_irrefl, ↓reduceIte, ↓reduceDIte, zbI, zbL, zbA, zbV, qrg, qrg2, qnn, qz, zup_at, zup_r, zup_ne, true_and, and_true, true_or, or_true, and_self, or_self, false_or, or_false, false_and, and_false, Int.toNat_natCast, Int.toNat_add, Int.toNat_mul, Int.toNat_zero, Int.toNat_one, qtn, Int.natCast_add, qnat1, qnat0, ne_eq, not_true_eq_false, not_false_eq_true, eq_self, qbool]
  · rw [if_neg k1] at h4'
    by_cases k2 : M 306 (136 + y) = 2
    · rw [if_pos k2] at h4'
      rw [k2] at h4'
      simp (disch := omega) only [c_M_agesOf, h1, h2k, k2, h4', qff hF, qltT, qltF, qleT, qleF, qeqT, qeqF, Int.reduceEq, Int.reduceNe, Int.reduceLT, Int.reduceLE, Int.reduceToNat, Int.reduceAdd, Int.reduceSub, Int.reduceMul, Int.reduceNeg, Nat.reduceAdd, Nat.reduceMul, Nat.reduceEqDiff, Nat.reduceLT, Int.cast_ofNat_Int, Int.lt_irrefl, ↓reduceIte, ↓reduceDIte, zbI, zbL, zbA, zbV, qrg, qrg2, qnn, qz, zup_at, zup_r, zup_ne, true_and, and_true, true_or, or_true, and_self, or_self, false_or, or_false, false_and, and_false, Int.toNat_natCast, Int.toNat_add, Int.toNat_mul, Int.toNat_zero, Int.toNat_one, qtn, Int.natCast_add, qnat1, qnat0, ne_eq, not_true_eq_false, not_false_eq_true, eq_self, qbool]
    · rw [if_neg k2] at h4'
      simp (disch := omega) only [c_M_agesOf, h1, h2k, k1, k2, h4', qff hF, qltT, qltF, qleT, qleF, qeqT, qeqF, Int.reduceEq, Int.reduceNe, Int.reduceLT, Int.reduceLE, Int.reduceToNat, Int.reduceAdd, Int.reduceSub, Int.reduceMul, Int.reduceNeg, Nat.reduceAdd, Nat.reduceMul, Nat.reduceEqDiff, Nat.reduceLT, Int.cast_ofNat_Int, Int.lt_irrefl, ↓reduceIte, ↓reduceDIte, zbI, zbL, zbA, zbV, qrg, qrg2, qnn, qz, zup_at, zup_r, zup_ne, true_and, and_true, true_or, or_true, and_self, or_self, false_or, or_false, false_and, and_false, Int.toNat_natCast, Int.toNat_add, Int.toNat_mul, Int.toNat_zero, Int.toNat_one, qtn, Int.natCast_add, qnat1, qnat0, ne_eq, not_true_eq_false, not_false_eq_true, eq_self, qbool]
theorem km_ageOf (hF : qFx S R) (hA : qIn (M 306)) {p : Nat} (hp : (p : Int) < M 306 1) {t : Int} (ht : qTN (M 308) t w) :
    ∃ M', zcal zPP (d + 9) 268 [zA 305, zI t, zI p] (n, s, S, R, M) = some (zI (qAge (M 306) w p), (n, s, S, R, M')) ∧ qX3 M M' := by
  have hp5 := hA.2.1.2
  have ha5 := hA.1.2
  have how := hA.2.2.2.2.2.2.2.2.2.2.2.2.2.1 p (by omega)
  obtain ⟨a, ha⟩ := Int.eq_ofNat_of_zero_le hA.1.1
  have L2 : ∀ (o : Nat), (o : Int) < M 306 0 → ∀ M1, qX3 M M1 → ∃ M2, qX3 M M2 ∧
      zR zPP (d + 8) 268 17 [zA 305, zI t, zI p, zI (M 306 (131 + p) + qS (fun o => qag (M 306) w p o 24) o), zI o, zI 0] [] (n, s, S, R, M1) =
      zR zPP (d + 8) 268 17 [zA 305, zI t, zI p, zI (M 306 (131 + p) + qS (fun o => qag (M 306) w p o 24) o + qag (M 306) w p o 24), zI o, zI ((24 : Nat) : Int)] [] (n, s, S, R, M2) := by
    intro o ho M1 hM1
    have := qlpE (E := qX3 M)
      (P := fun y M1 => zR zPP (d + 8) 268 17 [zA 305, zI t, zI p, zI (M 306 (131 + p) + qS (fun o => qag (M 306) w p o 24) o + qag (M 306) w p o y), zI o, zI (y : Nat)] [] (n, s, S, R, M1)) (N := 24) (fun y M1 hy hM1 => by
        have b1 := qagS_in (M 306) w p o
        have b2 := qag_in (M 306) w p o y
        have b3 := qLaw1 w (qEn (M 306) o y p) (M 306 (136 + y))
        have e0 : qag (M 306) w p o (y + 1) = qag (M 306) w p o y + (if M 306 (11 + 24 * o + y) = 3 + p then qLaw w (qEn (M 306) o y p) 1 (M 306 (136 + y)) else 0) := rfl
        have h6 : M1 306 = M 306 := hM1 306 (by decide) (by decide) (by decide)
        have h8 : M1 308 = M 308 := hM1 308 (by decide) (by decide) (by decide)
        have hy24 : (y : Int) < 24 := by omega
        by_cases hc : M 306 (11 + 24 * o + y) = 3 + p
        · obtain ⟨M2, h1, h2⟩ := km_agesOf (n := n) (s := s) (d := d) (S := S) (R := R) (M := M1) (w := w) (o := o) (y := y) (p := p) (t := t) hF (by rw [h6]; exact hA) (by rw [h6]; exact ho) hy (by rw [h6]; exact hp) (by rw [h8]; exact ht)
          rw [h6] at h1
          refine ⟨M2, qX3_t hM1 h2, ?_⟩
          show zR _ _ _ _ _ _ _ = zR _ _ _ _ _ _ _
          rw [e_M_ageOf_17, if_pos hy24, km_get hF (show o < 5 by omega) hy, h6]
          simp only [zbI]
          rw [if_pos (by rw [hc, qz (by omega) (by omega)]), h1]
          simp only [zbI]
          rw [e0, if_pos hc, qw1 (show y < 100000 by omega), qz (by omega) (by omega), Int.add_assoc]
        · refine ⟨M1, hM1, ?_⟩
          show zR _ _ _ _ _ _ _ = zR _ _ _ _ _ _ _
          rw [e_M_ageOf_17, if_pos hy24, km_get hF (show o < 5 by omega) hy, h6]
          simp only [zbI]
          rw [if_neg (by rw [qz (by omega) (by omega)]; exact hc), e0, if_neg hc, qw1 (show y < 100000 by omega), Int.add_zero]) M1 hM1
    obtain ⟨M2, h1, h2⟩ := this
    exact ⟨M2, h1, (show _ from by
      have e : qag (M 306) w p o 0 = 0 := rfl
      simp only [e, Int.add_zero] at h2
      exact h2)⟩
  have L1 := qlpE (E := fun x : (Nat → Nat → Int) × zV => qX3 M x.1)
      (P := fun o x => zR zPP (d + 8) 268 9 [zA 305, zI t, zI p, zI (M 306 (131 + p) + qS (fun o => qag (M 306) w p o 24) o), zI (o : Nat), x.2] [] (n, s, S, R, x.1)) (N := a) (fun o x ho hx => by
        have hoA : (o : Int) < M 306 0 := by omega
        have h6 : x.1 306 = M 306 := hx 306 (by decide) (by decide) (by decide)
        obtain ⟨M2, h1, h2⟩ := L2 o hoA x.1 hx
        refine ⟨(M2, zI ((24 : Nat) : Int)), h1, ?_⟩
        show zR _ _ _ _ _ _ _ = zR _ _ _ _ _ _ _
        rw [e_M_ageOf_9]
        simp (disch := omega) only [h6, qff hF, qltT, qltF, qleT, qleF, qeqT, qeqF, Int.reduceEq, Int.reduceNe, Int.reduceLT, Int.reduceLE, Int.reduceToNat, Int.reduceAdd, Int.reduceSub, Int.reduceMul, Int.reduceNeg, Nat.reduceAdd, Nat.reduceMul, Nat.reduceEqDiff, Nat.reduceLT, Int.cast_ofNat_Int, Int.lt_irrefl, ↓reduceIte, ↓reduceDIte, zbI, zbL, zbA, zbV, qrg, qrg2, qnn, qz, zup_at, zup_r, zup_ne, true_and, and_true, true_or, or_true, and_self, or_self, false_or, or_false, false_and, and_false, Int.toNat_natCast, Int.toNat_add, Int.toNat_mul, Int.toNat_zero, Int.toNat_one, qtn, Int.natCast_add, qnat1, qnat0, ne_eq, not_true_eq_false, not_false_eq_true, eq_self, qbool]
        rw [h2, e_M_ageOf_17, if_neg (by decide), qw1 (show o < 100000 by omega), qS_s, Int.add_assoc]
        rfl) (M, zU) (fun _ _ _ _ => rfl)
  obtain ⟨x, hx, e⟩ := L1
  refine ⟨x.1, ?_, hx⟩
  have h6 : x.1 306 = M 306 := hx 306 (by decide) (by decide) (by decide)
  have e' : zR zPP (d + 8) 268 9 [zA 305, zI t, zI p, zI (M 306 (131 + p)), zI 0, zU] [] (n, s, S, R, M) = zR zPP (d + 8) 268 9 [zA 305, zI t, zI p, zI (M 306 (131 + p) + qS (fun o => qag (M 306) w p o 24) a), zI (a : Nat), x.2] [] (n, s, S, R, x.1) := by
    have z : M 306 (131 + p) + qS (fun o => qag (M 306) w p o 24) 0 = M 306 (131 + p) := Int.add_zero _
    rw [← e, z]
    rfl
  simp (disch := omega) only [c_M_ageOf, qff hF, qltT, qltF, qleT, qleF, qeqT, qeqF, Int.reduceEq, Int.reduceNe, Int.reduceLT, Int.reduceLE, Int.reduceToNat, Int.reduceAdd, Int.reduceSub, Int.reduceMul, Int.reduceNeg, Nat.reduceAdd, Nat.reduceMul, Nat.reduceEqDiff, Nat.reduceLT, Int.cast_ofNat_Int, Int.lt_irrefl, ↓reduceIte, ↓reduceDIte, zbI, zbL, zbA, zbV, qrg, qrg2, qnn, qz, zup_at, zup_r, zup_ne, true_and, and_true, true_or, or_true, and_self, or_self, false_or, or_false, false_and, and_false, Int.toNat_natCast, Int.toNat_add, Int.toNat_mul, Int.toNat_zero, Int.toNat_one, qtn, Int.natCast_add, qnat1, qnat0, ne_eq, not_true_eq_false, not_false_eq_true, eq_self, qbool]
  rw [e', e_M_ageOf_9]
  simp (disch := omega) only [h6, ha, qff hF, qltT, qltF, qleT, qleF, qeqT, qeqF, Int.reduceEq, Int.reduceNe, Int.reduceLT, Int.reduceLE, Int.reduceToNat, Int.reduceAdd, Int.reduceSub, Int.reduceMul, Int.reduceNeg, Nat.reduceAdd, Nat.reduceMul, Nat.reduceEqDiff, Nat.reduceLT, Int.cast_ofNat_Int, Int.lt_irrefl, ↓reduceIte, ↓reduceDIte, zbI, zbL, zbA, zbV, qrg, qrg2, qnn, qz, zup_at, zup_r, zup_ne, true_and, and_true, true_or, or_true, and_self, or_self, false_or, or_false, false_and, and_false, Int.toNat_natCast, Int.toNat_add, Int.toNat_mul, Int.toNat_zero, Int.toNat_one, qtn, Int.natCast_add, qnat1, qnat0, ne_eq, not_true_eq_false, not_false_eq_true, eq_self, qbool]
  unfold qAge
  rw [ha]
  rfl
end QF
