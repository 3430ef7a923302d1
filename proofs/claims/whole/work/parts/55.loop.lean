/-! THE CLASS'S JUDGE, its loop; what a law says -/
theorem qTC_x {S : Nat → Nat × Nat} {R : Nat → Nat → Nat} {M M' : Nat → Nat → Int} {q len : Nat} {O : Nat → Nat × Nat} {lo hi : Nat → Int} (h : ∀ a, 319 ≤ a → M' a = M a) (hq : qTC S R M q O len lo hi) : qTC S R M' q O len lo hi := by
  obtain ⟨a1, a2, a3, a4, a5⟩ := hq
  refine ⟨a1, a2, a3, fun k hk => ?_, fun L hL => ?_⟩
  · rw [h _ a2.2.1]; exact a4 k hk
  · rw [h _ a2.2.2.1, h _ a2.2.2.2]; exact a5 L hL
theorem qnE {a b : Nat} : ((a : Int) = (b : Int)) = (a = b) := propext ⟨fun h => Int.ofNat.inj h, fun h => congrArg _ h⟩
def qcl (L : Nat) (v : Int) : Int := if v < znth 0 [-99, -9, 0] L then znth 0 [-99, -9, 0] L else if znth 0 [99, 99, 10] L < v then znth 0 [99, 99, 10] L else v
/-- without a clause -/
def qwo (L : Nat) (k : Int) : Int := if L = 2 then 7 else if L = 0 then 1 else if k = 1 then 2 else if k = 2 then 0 else 1
section QF
variable {S : Nat → Nat × Nat} {R : Nat → Nat → Nat} {M M0 : Nat → Nat → Int} {n s d : Nat} {A : Nat → Int} {q len : Nat} {O : Nat → Nat × Nat} {lo hi : Nat → Int} {r : Nat}
theorem k_isName (s0 : Nat) (σ : zS) : zcal zPP (d + 1) 149 [zI s0] σ = some (zI (if qisn s0 = true then 1 else 0), σ) := by
  rw [c_Sign_isName]
  have e : (qisn s0 = true) = (s0 = 3 ∨ s0 = 4 ∨ (9 ≤ s0 ∧ s0 ≤ 14)) := by
    unfold qisn
    simp only [Bool.or_eq_true, Bool.and_eq_true, decide_eq_true_iff, or_assoc]
  simp only [e]
  by_cases h1 : s0 = 3
  · rw [if_pos (by omega), if_pos (by omega)]
  · by_cases h2 : s0 = 4
    · rw [if_neg (by omega), if_pos (by omega), if_pos (by omega)]
    · by_cases h3 : s0 < 9
      · rw [if_neg (by omega), if_neg (by omega), if_pos (by omega), if_neg (by omega)]
      · by_cases h4 : 14 < s0
        · rw [if_neg (by omega), if_neg (by omega), if_neg (by omega), if_pos (by omega), if_neg (by omega)]
        · rw [if_neg (by omega), if_neg (by omega), if_neg (by omega), if_neg (by omega), if_pos (by omega)]
theorem k_isOfOne (s0 : Nat) (σ : zS) : zcal zPP (d + 1) 151 [zI s0] σ = some (zI (if qiso s0 = true then 1 else 0), σ) := by
  rw [c_Sign_isOfOne]
  have e : (qiso s0 = true) = (s0 = 42 ∨ s0 = 26 ∨ s0 = 18 ∨ s0 = 19) := by
    unfold qiso
    simp only [Bool.or_eq_true, decide_eq_true_iff, or_assoc]
  simp only [e]
  by_cases h1 : s0 = 42
  · rw [if_pos (by omega), if_pos (by omega)]
  · by_cases h2 : s0 = 26
    · rw [if_neg (by omega), if_pos (by omega), if_pos (by omega)]
    · by_cases h3 : s0 = 18
      · rw [if_neg (by omega), if_neg (by omega), if_pos (by omega), if_pos (by omega)]
      · by_cases h4 : s0 = 19
        · rw [if_neg (by omega), if_neg (by omega), if_neg (by omega), if_pos (by omega), if_pos (by omega)]
        · rw [if_neg (by omega), if_neg (by omega), if_neg (by omega), if_neg (by omega), if_neg (by omega)]
theorem qtwo_in (s0 : Nat) (a b : Int) : -2147483648 ≤ qtwo s0 a b ∧ qtwo s0 a b < 2147483648 := by
  have h1 := zand_in a b
  have h2 := zor_in a b
  have h3 := qclip_in (a + b)
  have h4 := qclip_in (a - b)
  have h5 := qclip_in (a * b)
  have h6 : -2147483648 ≤ zw32 (a.tdiv b) ∧ zw32 (a.tdiv b) < 2147483648 := zw32_in (a.tdiv b)
  unfold qtwo
  repeat' split
  all_goals omega
theorem qone_in (A : Nat → Int) (o y p s0 : Nat) (v : Int) : -2147483648 ≤ qone (qEn A o y p) s0 v ∧ qone (qEn A o y p) s0 v < 2147483648 := by
  have h1 := qroot_in v
  have h2 : -2147483648 ≤ zw32 (-v) ∧ zw32 (-v) < 2147483648 := zw32_in (-v)
  have h3 := zct_le (fun y => decide (A (11 + 24 * v.toNat + y) = 1)) 24
  unfold qone
  repeat' split
  · omega
  · omega
  · omega
  · exact h2
  · show -2147483648 ≤ (if 0 ≤ v ∧ v < A 0 then ((qic A v.toNat : Nat) : Int) else 0) ∧ (if 0 ≤ v ∧ v < A 0 then ((qic A v.toNat : Nat) : Int) else 0) < 2147483648
    split
    · unfold qic; omega
    · omega
theorem qEn_in {A : Nat → Int} (hA : qIn A) {o y p : Nat} (ho : (o : Int) < A 0) (hy : y < 24) (hp : (p : Int) < A 1) (k : Nat) : -10000 ≤ (qEn A o y p).1 k ∧ (qEn A o y p).1 k ≤ 10000 := by
  have hb := hA.2.2.2.2.2.2.2.1
  have hk := hA.2.2.2.2.2.2.2.2.2.2.2.2.1 y hy
  have hw := hA.2.2.2.2.2.2.2.2.2.2.2.2.2.1 p (by have := hA.2.1.2; omega)
  have h5 := hA.1.2
  have hp5 := hA.2.1.2
  have hh : qhb A p ≤ 24 * 5 := qhb_le A p 5
  have hi : qic A o ≤ 24 := zct_le _ 24
  unfold qEn
  match k with
  | 0 => show -10000 ≤ A 7 ∧ A 7 ≤ 10000; omega
  | 1 => show -10000 ≤ (y : Int) ∧ (y : Int) ≤ 10000; omega
  | 2 => show -10000 ≤ A (136 + y) ∧ A (136 + y) ≤ 10000; omega
  | 3 => show -10000 ≤ (o : Int) ∧ (o : Int) ≤ 10000; omega
  | 4 => show -10000 ≤ A (131 + p) ∧ A (131 + p) ≤ 10000; omega
  | 5 => show -10000 ≤ ((qhb A p : Nat) : Int) ∧ ((qhb A p : Nat) : Int) ≤ 10000; omega
  | 6 => show -10000 ≤ (p : Int) ∧ (p : Int) ≤ 10000; omega
  | k + 7 => show -10000 ≤ ((qic A o : Nat) : Int) ∧ ((qic A o : Nat) : Int) ≤ 10000; omega
theorem kj_loop (hF : qFx S R) (hq : qTC S R M0 q O len lo hi) (hC : qCE S R M0 r A) {o y p : Nat} (ho : (o : Int) < A 0) (hy : y < 24) (hp : (p : Int) < A 1) {stop : Nat} (hs : stop ≤ len) {v law : Int} : ∀ (m i : Nat) (st : List Int) (it : Nat) (M : Nat → Nat → Int) (g10 g11 g12 : zV), qcr (qEn A o y p) O stop m i st = some (stop, [v]) → qJS M0 M st → it ≤ i →
    ∃ M', zR zPP (d + 4) 98 13 [zA 284, zA q, zI law, zA r, zI o, zI y, zI p, zI i, zI stop, zI it, g10, g11, g12] [] (n, s, S, R, M) = some (zI v, (n, s, S, R, M')) ∧ qJS M0 M' [] := by
  intro m
  induction m with
  | zero =>
    intro i st it M g10 g11 g12 h hJ hit
    cases h
    refine ⟨_, ?_, qJS_pop hJ⟩
    rw [e_Judge_valueOf_13, if_neg (Int.lt_irrefl _), kj_pop hF hJ]
    simp only [zbI, ite_self]
  | succ m ih =>
    intro i st it M g10 g11 g12 h hJ hit
    unfold qcr at h
    by_cases his : i < stop
    · rw [if_pos his] at h
      have h300 := hq.2.2.1
      have hqM : qTC S R M q O len lo hi := qTC_x (fun a ha => hJ.1 a (by omega) (by omega)) hq
      have hCM : qCE S R M r A := qCE_x hJ.1 hC
      have i1 : i < 100000 := by omega
      have i2 : it < 100000 := by omega
      have hw := (hq.2.2.2.1 i (by omega)).2
      have hst := hJ.2.2.2.2
      rw [e_Judge_valueOf_13, if_pos (show (it : Int) < 300 by omega), if_pos (show (i : Int) < (stop : Int) by omega), kt_sign hqM (show i < len by omega)]
      simp only [zbI]
      rw [kt_worth hqM (by omega)]
      simp only [zbI, qw1 i1, qw1 i2]
      unfold qc1 at h
      generalize hO1 : (O i).1 = o1 at h hw ⊢
      generalize hO2 : (O i).2 = o2 at h hw ⊢
      by_cases c1 : o1 = 41
      · rw [if_pos c1] at h
        rw [if_pos (by omega)]
        by_cases hl : st.length < 80
        · rw [if_pos hl] at h
          rw [kj_push hF hJ hl]
          simp only [zbV]
          exact ih _ _ (it + 1) _ _ _ _ h (qJS_push hJ (by omega) hl) (by omega)
        · rw [if_neg hl] at h; cases h
      rw [if_neg c1] at h
      rw [if_neg (by omega)]
      by_cases c2 : o1 = 22
      · rw [if_pos c2] at h
        rw [if_pos (by omega)]
        by_cases hl : i < o2
        · rw [if_pos hl] at h
          exact ih _ _ (it + 1) _ _ _ _ h hJ (by show it + 1 ≤ o2; omega)
        · rw [if_neg hl] at h; cases h
      rw [if_neg c2] at h
      rw [if_neg (by omega)]
      by_cases c3 : o1 = 21
      · rw [if_pos c3] at h
        rw [if_pos (by omega)]
        cases st with
        | nil => cases h
        | cons w st =>
          rw [kj_pop hF hJ]
          simp only [zbI]
          by_cases hz : w = 0
          · rw [if_pos hz]
            simp only [hz, if_true] at h
            by_cases hl : i < o2
            · rw [if_pos hl] at h
              exact ih _ _ (it + 1) _ _ _ _ h (qJS_pop hJ) (by show it + 1 ≤ o2; omega)
            · rw [if_neg hl] at h; cases h
          · rw [if_neg hz]
            simp only [hz, if_false] at h
            exact ih _ _ (it + 1) _ _ _ _ h (qJS_pop hJ) (by omega)
      rw [if_neg c3] at h
      rw [if_neg (by omega), k_isName]
      simp only [zbI]
      by_cases c4 : qisn o1 = true
      · rw [if_pos c4] at h
        have hin := qEn_in hC.2.1 ho hy hp (qnm o1)
        rw [if_pos c4, if_neg (by decide), kj_named hF hCM c4 ho hy hp]
        simp only [zbI]
        by_cases hl : st.length < 80
        · rw [if_pos hl] at h
          rw [kj_push hF hJ hl]
          simp only [zbV]
          exact ih _ _ (it + 1) _ _ _ _ h (qJS_push hJ (by omega) hl) (by omega)
        · rw [if_neg hl] at h; cases h
      rw [if_neg c4] at h
      rw [if_neg c4, if_pos rfl, k_isOfOne]
      simp only [zbI]
      by_cases c5 : qiso o1 = true
      · rw [if_pos c5] at h
        rw [if_pos c5, if_neg (by decide)]
        cases st with
        | nil => cases h
        | cons w st =>
          have hJ2 := qJS_pop hJ
          have hl : st.length < 80 := by simp only [List.length_cons] at hst; omega
          rw [kj_pop hF hJ]
          simp only [zbI]
          rw [kj_one (o := o) (y := y) (p := p) hF (qCE_x hJ2.1 hC) c5]
          simp only [zbI]
          rw [kj_push hF hJ2 hl]
          simp only [zbV]
          exact ih _ _ (it + 1) _ _ _ _ h (qJS_push hJ2 (qone_in A o y p o1 w) hl) (by omega)
      rw [if_neg c5] at h
      rw [if_neg c5, if_pos rfl]
      cases st with
      | nil => cases h
      | cons b st =>
        cases st with
        | nil => cases h
        | cons a st =>
          have hJ2 := qJS_pop hJ
          have hJ3 := qJS_pop hJ2
          have hl : st.length < 80 := by simp only [List.length_cons] at hst; omega
          have hb := (qJS_top hJ).2
          have ha := (qJS_top hJ2).2
          have h26 : o1 ≠ 26 := by
            intro h26
            apply c5
            rw [h26]
            rfl
          rw [kj_pop hF hJ]
          simp only [zbI]
          rw [kj_pop hF hJ2]
          simp only [zbI]
          rw [k_two h26 ha hb]
          simp only [zbI]
          rw [kj_push hF hJ3 hl]
          simp only [zbV]
          exact ih _ _ (it + 1) _ _ _ _ h (qJS_push hJ3 (qtwo_in o1 a b) hl) (by omega)
    · rw [if_neg his] at h; cases h
end QF
