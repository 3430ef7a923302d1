/-! THE TOLD CALLS, both sides -/
theorem qTo_cell {M : Nat → Nat → Int} {A : Nat → Int} {a k j : Nat} {v : Int} (ha : 10 ≤ a ∧ a ≤ 20) (hj : j = 1 ∨ j = 3 ∨ j = 5 ∨ j = 6 ∨ (131 ≤ j ∧ j < 200)) (hj1 : j = 1 → A 1 ≤ v) (hw : qTw (zup M a k v) 10 (qup A j v)) (hi : qIn (qup A j v)) (ht : qTo M 10 A) : qTo (zup M a k v) 10 (qup A j v) := by
  refine qTo_told (fun q x y => zup_rw (by omega)) (qup_ne (by omega)) ?_ (qup_ne (by omega)) (fun q x y => qup_ne (by omega)) (fun q x => qup_ne (by omega)) hw hi ht
  by_cases h1 : j = 1
  · subst h1; rw [qup_at]; exact hj1 rfl
  · rw [qup_ne (by omega)]; exact Int.le_refl _
theorem qTo_row {M : Nat → Nat → Int} {A : Nat → Int} {a k : Nat} {v : Int} (ha : a < 10 ∨ 147 ≤ a) (ht : qTo M 10 A) : qTo (zup M a k v) 10 A := qTo_x (fun q x y => zup_rw (by omega)) ht
section QF
variable {S : Nat → Nat × Nat} {R : Nat → Nat → Nat} {M M' : Nat → Nat → Int} {n s : Nat} {A : Nat → Int} {W : Nat → qWt}
theorem qWd_to (hw : qWd n S R M W) (hM : ∀ a, (a < 10 ∨ 21 ≤ a) → a ≠ 306 → M' a = M a) (ht : qTo M' 10 (M' 306)) (h2 : M' 306 2 = M 306 2) : qWd n S R M' W := by
  obtain ⟨⟨h1, h2', h3⟩, h4, h5, h6, h7⟩ := hw
  have e7 : M' 307 = M 307 := hM 307 (by omega) (by decide)
  have e5 : M' 305 = M 305 := hM 305 (by omega) (by decide)
  refine ⟨⟨h1, h2', qSt_x (fun a ha => hM a (by omega) (by omega)) h3⟩, ht, ?_, qTt_x (fun a ha => hM a (by omega) (by omega)) (hM 308 (by omega) (by decide)) h2 (by rw [e7]) h6, qTp_x (hM 9 (by omega) (by decide)) (hM 304 (by omega) (by decide)) (hM 309 (by omega) (by decide)) ⟨by rw [e5], by rw [e5], by rw [e5], by rw [e5]⟩ h7⟩
  rw [e7]
  exact qTo_x (fun a x y => hM a (by omega) (by omega)) h5
/-- a call that changes nothing -/
theorem qBo_same {j jm : Nat} {as : List zV} {v : zV} (hw : qWd n S R M W) (h1 : zcal zPP 100 j (zA 9 :: as) (n, s, S, R, M) = some (v, (n, s, S, R, M))) (h2 : zcal zPP 100 jm (zA 305 :: as) (n, s, S, R, M) = some (v, (n, s, S, R, M))) : qBo j jm as n s S R M :=
  ⟨v, n, s, S, R, M, M, W, h1, h2, hw, by omega, by omega, rfl, rfl⟩
/-- a call that changes rows -/
theorem qBo_rows {j jm : Nat} {as : List zV} {v : zV} {M1 M2 : Nat → Nat → Int} (h1 : zcal zPP 100 j (zA 9 :: as) (n, s, S, R, M) = some (v, (n, s, S, R, M1))) (h2 : zcal zPP 100 jm (zA 305 :: as) (n, s, S, R, M1) = some (v, (n, s, S, R, M2))) (hw : qWd n S R M2 W) (h : M2 1 = M 1) : qBo j jm as n s S R M :=
  ⟨v, n, s, S, R, M1, M2, W, h1, h2, hw, by omega, by omega, rfl, h⟩
/-- one cell told -/
theorem qWd_cell {a k j : Nat} {v : Int} (hw : qWd n S R M W) (ha : 10 ≤ a ∧ a ≤ 20) (hj : j = 1 ∨ j = 3 ∨ j = 5 ∨ j = 6 ∨ (131 ≤ j ∧ j < 200)) (hj1 : j = 1 → M 306 1 ≤ v) (hT : qTw (zup M a k v) 10 (qup (M 306) j v)) (hi : qIn (qup (M 306) j v)) : qWd n S R (zup (zup M a k v) 306 j v) W := by
  have e : zup (zup M a k v) 306 j v 306 = qup (M 306) j v := by rw [qup_zup, zup_rw (by omega)]
  refine qWd_to hw (fun q x y => by rw [zup_rw (by omega), zup_rw (by omega)]) ?_ ?_
  · rw [e]
    exact qTo_row (by omega) (qTo_cell ha hj hj1 hT hi hw.2.1)
  · rw [e, qup_ne (by omega)]
theorem qb_year (hw : qWd n S R M W) (y v : Int) : qBo 18 183 [zI y, zI v] n s S R M := by
  have hX := fun M => k_year (n := n) (s := s) (d := 98) (M := M) hw.1.2.1.1 y v
  have hM := fun M => k_yearM (n := n) (s := s) (d := 97) (M := M) hw.1.2.1.2.1 y v
  by_cases hc : (0 ≤ y ∧ y < 24) ∧ 0 ≤ v ∧ v < 4
  · simp only [if_pos hc] at hX hM
    exact qBo_rows (hX M) (hM _) (qWd_cell hw (by decide) (by omega) (by omega) (qTw_r12 (by omega) v hw.2.1.1) (qIn_r12 (by omega) (by omega) hw.2.1.2.2.2)) (by rw [zup_rw (by decide), zup_rw (by decide)])
  · simp only [if_neg hc] at hX hM
    exact qBo_same hw (hX M) (hM M)
theorem qb_wants (hw : qWd n S R M W) (y v : Int) : qBo 57 295 [zI y, zI v] n s S R M := by
  have hX := fun M => k_wants (n := n) (s := s) (d := 98) (M := M) hw.1.2.1.1 y v
  have hM := fun M => k_wantsM (n := n) (s := s) (d := 98) (M := M) hw.1.2.1.2.1 y v
  by_cases hc : (0 ≤ y ∧ y < 5) ∧ 0 ≤ v ∧ v ≤ 99
  · simp only [if_pos hc] at hX hM
    exact qBo_rows (hX M) (hM _) (qWd_cell hw (by decide) (by omega) (by omega) (qTw_r15 (by omega) v hw.2.1.1) (qIn_r15 (by omega) (by omega) hw.2.1.2.2.2)) (by rw [zup_rw (by decide), zup_rw (by decide)])
  · simp only [if_neg hc] at hX hM
    exact qBo_same hw (hX M) (hM M)
theorem qb_takes (hw : qWd n S R M W) (y v : Int) : qBo 58 296 [zI y, zI v] n s S R M := by
  have hX := fun M => k_takes (n := n) (s := s) (d := 99) (M := M) hw.1.2.1.1 y v
  have hM := fun M => k_takesM (n := n) (s := s) (d := 98) (M := M) hw.1.2.1.2.1 y v
  by_cases hc : (0 ≤ y ∧ y < 5) ∧ 0 ≤ v ∧ v ≤ 15
  · simp only [if_pos hc] at hX hM
    exact qBo_rows (hX M) (hM _) (qWd_cell hw (by decide) (by omega) (by omega) (qTw_r16 (by omega) v hw.2.1.1) (qIn_r16 (by omega) (by omega) hw.2.1.2.2.2)) (by rw [zup_rw (by decide), zup_rw (by decide)])
  · simp only [if_neg hc] at hX hM
    exact qBo_same hw (hX M) (hM M)
theorem qb_price (hw : qWd n S R M W) (y v : Int) : qBo 72 318 [zI y, zI v] n s S R M := by
  have hX := fun M => k_price (n := n) (s := s) (d := 98) (M := M) hw.1.2.1.1 y v
  have hM := fun M => k_priceM (n := n) (s := s) (d := 98) (M := M) hw.1.2.1.2.1 y v
  by_cases hc : (0 ≤ y ∧ y < 4) ∧ 0 ≤ v ∧ v ≤ 99
  · simp only [if_pos hc] at hX hM
    exact qBo_rows (hX M) (hM _) (qWd_cell hw (by decide) (by omega) (by omega) (qTw_r18 (by omega) v hw.2.1.1) (qIn_r18 (by omega) (by omega) hw.2.1.2.2.2)) (by rw [zup_rw (by decide), zup_rw (by decide)])
  · simp only [if_neg hc] at hX hM
    exact qBo_same hw (hX M) (hM M)
/-- two cells told, the class's first -/
theorem qWd_cell2 {a k j a' k' j' : Nat} {v v' : Int} (hw : qWd n S R M W) (ha : 10 ≤ a ∧ a ≤ 20) (ha' : 10 ≤ a' ∧ a' ≤ 20) (hj : j = 3 ∨ j = 5 ∨ j = 6 ∨ (131 ≤ j ∧ j < 200)) (hj' : j' = 1 ∨ j' = 3 ∨ j' = 5 ∨ j' = 6 ∨ (131 ≤ j' ∧ j' < 200)) (hj1 : j' = 1 → M 306 1 ≤ v')
    (hT : qTw (zup M a k v) 10 (qup (M 306) j v)) (hi : qIn (qup (M 306) j v)) (hT' : qTw (zup (zup M a k v) a' k' v') 10 (qup (qup (M 306) j v) j' v')) (hi' : qIn (qup (qup (M 306) j v) j' v')) : qWd n S R (zup (zup (zup (zup M a k v) a' k' v') 306 j v) 306 j' v') W := by
  have e : zup (zup (zup (zup M a k v) a' k' v') 306 j v) 306 j' v' 306 = qup (qup (M 306) j v) j' v' := by rw [qup_zup, qup_zup, zup_rw (by omega), zup_rw (by omega)]
  refine qWd_to hw (fun q x y => by rw [zup_rw (by omega), zup_rw (by omega), zup_rw (by omega), zup_rw (by omega)]) ?_ ?_
  · rw [e]
    exact qTo_row (by omega) (qTo_row (by omega) (qTo_cell ha' hj' (fun z => by rw [qup_ne (by omega)]; exact hj1 z) hT' hi' (qTo_cell ha (by omega) (by omega) hT hi hw.2.1)))
  · rw [e, qup_ne (by omega), qup_ne (by omega)]
theorem qb_person (hw : qWd n S R M W) (v : Int) : qBo 21 185 [zI v] n s S R M := by
  have hA := hw.2.1.2.2.2
  have hp := hA.2.1
  obtain ⟨P, hP⟩ := Int.eq_ofNat_of_zero_le hp.1
  have hT := hw.2.1.1
  have hX := k_person (n := n) (s := s) (d := 98) (M := M) hw.1.2.1.1 (P := P) (by rw [← hP]; exact hT.1.2.1) (by omega) v
  have hM := fun (M1 : Nat → Nat → Int) (e : M1 306 1 = (P : Int)) => k_personM (n := n) (s := s) (d := 98) (M := M1) hw.1.2.1.2.1 (P := P) e (by omega) v
  by_cases hc : (0 ≤ v ∧ v ≤ 99) ∧ P < 5
  · rw [if_pos hc] at hX
    simp only [if_pos hc] at hM
    have hq1 := qIn_r13 (y := P) (by omega) hc.1 hA
    have e1 : qup (M 306) (131 + P) v 1 = P := by rw [qup_ne (by omega)]; exact hP
    exact qBo_rows hX (hM _ (by rw [zup_rw (by decide), zup_rw (by decide)]; exact hP)) (qWd_cell2 hw (by decide) (by decide) (by omega) (by omega) (fun _ => by omega) (qTw_r13 (by omega) v hT) hq1 (qTw_f13 _ (qTw_r13 (by omega) v hT)) (qIn_f13 (by rw [e1]; omega) hq1)) (by rw [zup_rw (by decide), zup_rw (by decide), zup_rw (by decide), zup_rw (by decide)])
  · rw [if_neg hc] at hX
    simp only [if_neg hc] at hM
    exact qBo_same hw hX (hM M hP)
theorem qb_mark (hw : qWd n S R M W) (v : Int) : qBo 64 309 [zI v] n s S R M := by
  have hA := hw.2.1.2.2.2
  have hm := hA.2.2.2.2.2.1
  obtain ⟨N, hN⟩ := Int.eq_ofNat_of_zero_le hm.1
  have hT := hw.2.1.1
  have hX := k_mark (n := n) (s := s) (d := 98) (M := M) hw.1.2.1.1 (N := N) (by rw [← hN]; exact hT.1.2.2.2.2.1) (by omega) v
  have hM := fun (M1 : Nat → Nat → Int) (e : M1 306 5 = (N : Int)) => k_markM (n := n) (s := s) (d := 98) (M := M1) hw.1.2.1.2.1 (N := N) e (by omega) v
  by_cases h1 : v = -1
  · rw [if_pos h1] at hX
    simp only [if_pos h1] at hM
    exact qBo_rows hX (hM _ (by rw [zup_rw (by decide)]; exact hN)) (qWd_cell hw (by decide) (by omega) (by omega) (qTw_f16 0 hT) (qIn_f16 (by omega) hA)) (by rw [zup_rw (by decide), zup_rw (by decide)])
  rw [if_neg h1] at hX
  simp only [if_neg h1] at hM
  by_cases hc : (0 ≤ v ∧ v < 4) ∧ N < 10
  · rw [if_pos hc] at hX
    simp only [if_pos hc] at hM
    have hq1 := qIn_r17 (y := N) (v := v) (by omega) (by omega) hA
    exact qBo_rows hX (hM _ (by rw [zup_rw (by decide), zup_rw (by decide)]; exact hN)) (qWd_cell2 hw (by decide) (by decide) (by omega) (by omega) (by omega) (qTw_r17 (by omega) v hT) hq1 (qTw_f16 _ (qTw_r17 (by omega) v hT)) (qIn_f16 (by omega) hq1)) (by rw [zup_rw (by decide), zup_rw (by decide), zup_rw (by decide), zup_rw (by decide)])
  · rw [if_neg hc] at hX
    simp only [if_neg hc] at hM
    exact qBo_same hw hX (hM M hN)
theorem qb_said (hw : qWd n S R M W) (v w : Int) : qBo 74 324 [zI v, zI w] n s S R M := by
  have hA := hw.2.1.2.2.2
  have hm := hA.2.2.2.2.2.2.1
  obtain ⟨N, hN⟩ := Int.eq_ofNat_of_zero_le hm.1
  have hT := hw.2.1.1
  have hX := k_said (n := n) (s := s) (d := 98) (M := M) hw.1.2.1.1 hT hA (N := N) (by rw [← hN]; exact hT.1.2.2.2.2.2) (by omega) v w
  have hM := fun (M1 : Nat → Nat → Int) (e : M1 306 = M 306) => k_saidM (n := n) (s := s) (d := 97) (M := M1) hw.1.2.1.2.1 (by rw [e]; exact hA) (N := N) (by rw [e]; exact hN) (by omega) v w
  by_cases h1 : v = -1
  · rw [if_pos h1] at hX
    simp only [if_pos h1] at hM
    exact qBo_rows hX (hM _ (zup_rw (by decide))) (qWd_cell hw (by decide) (by omega) (by omega) (qTw_f17 0 hT) (qIn_f17 (by omega) hA)) (by rw [zup_rw (by decide), zup_rw (by decide)])
  rw [if_neg h1] at hX
  simp only [if_neg h1] at hM
  by_cases hc : (0 ≤ v ∧ v < M 306 1) ∧ (-999 ≤ w ∧ w ≤ 9999) ∧ N < 8
  · rw [if_pos hc] at hX
    have hM2 := hM (zup (zup (zup M 19 N v) 20 N w) 10 17 ((N + 1 : Nat) : Int)) (by rw [zup_rw (by decide), zup_rw (by decide), zup_rw (by decide)])
    rw [show zup (zup (zup M 19 N v) 20 N w) 10 17 ((N + 1 : Nat) : Int) (305 + 1) 1 = M 306 1 by rw [zup_rw (by decide), zup_rw (by decide), zup_rw (by decide)], if_pos hc] at hM2
    have hq1 := qIn_r19 (y := N) (v := v) (by omega) hA
    have hT1 := qTw_r19 (y := N) (by omega) v hT
    have e6 : qup (M 306) (184 + 2 * N) v 6 = N := by rw [qup_ne (by omega)]; exact hN
    have hq2 := qIn_r20 (y := N) (v := w) (by rw [e6]; omega) hq1
    have hT2 := qTw_r20 (y := N) (by omega) w hT1
    have e6' : qup (qup (M 306) (184 + 2 * N) v) (184 + 2 * N + 1) w 6 = N := by rw [qup_ne (by omega)]; exact e6
    have f1 : qup (qup (M 306) (184 + 2 * N) v) (184 + 2 * N + 1) w (184 + 2 * N) = v := by rw [qup_ne (by omega), qup_at]
    have f2 : qup (qup (M 306) (184 + 2 * N) v) (184 + 2 * N + 1) w 1 = M 306 1 := by rw [qup_ne (by omega), qup_ne (by omega)]
    have hq3 := qIn_said (N := N) e6' (by omega) (by rw [f1, f2, qup_at]; omega) hq2
    have hT3 := qTw_f17 ((N : Int) + 1) hT2
    have e : zup (zup (zup (zup (zup (zup M 19 N v) 20 N w) 10 17 ((N + 1 : Nat) : Int)) 306 (184 + 2 * N) v) 306 (184 + 2 * N + 1) w) 306 6 ((N + 1 : Nat) : Int) 306 = qup (qup (qup (M 306) (184 + 2 * N) v) (184 + 2 * N + 1) w) 6 ((N : Int) + 1) := by rw [qup_zup, qup_zup, qup_zup, zup_rw (by decide), zup_rw (by decide), zup_rw (by decide)]; rfl
    refine qBo_rows hX hM2 (W := W) (qWd_to hw (fun q x y => by rw [zup_rw (by omega), zup_rw (by omega), zup_rw (by omega), zup_rw (by omega), zup_rw (by omega), zup_rw (by omega)]) ?_ ?_) (by rw [zup_rw (by decide), zup_rw (by decide), zup_rw (by decide), zup_rw (by decide), zup_rw (by decide), zup_rw (by decide)])
    · rw [e]
      exact qTo_row (by omega) (qTo_row (by omega) (qTo_row (by omega) (qTo_cell (by decide) (by omega) (by omega) hT3 hq3 (qTo_cell (by decide) (by omega) (by omega) hT2 hq2 (qTo_cell (by decide) (by omega) (by omega) hT1 hq1 hw.2.1)))))
    · rw [e, qup_ne (by omega), qup_ne (by omega), qup_ne (by omega)]
  · rw [if_neg hc] at hX
    have hM2 := hM M rfl
    rw [if_neg hc] at hM2
    exact qBo_same hw hX hM2
end QF
