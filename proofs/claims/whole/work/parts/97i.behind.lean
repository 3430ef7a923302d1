/-! THE MODEL'S READING OF A SUM: behind one -/
def ybw (P : List Nat) (g : Nat) : Int := if g = 33 then 6 else if g = 34 then 7 else if g = 35 then 8 else if g = 36 then 9 else if yon P = 41 then (if ycp P = true then (if g = 25 then 21 else if g = 24 then 22 else -1) else (if ycm g = true then ymb g else -1)) else -1
def ypt (P : List Nat) (g : Nat) (l : Int) : Int := if l = 40 then (if g = 38 then 0 else -1) else if l = 41 then (if g = 21 ∧ ycp P = true then 42 else -1) else if l = 42 then (if g = 22 then 43 else -1) else if l = 43 then (if g = 23 then 0 else -1) else -1
theorem yst1 {P : List Nat} {C : List (Nat × Int)} : (yon P = -1 → (yst 1 P C).1 = []) ∧ (∀ l : Nat, yon P = l → ∃ tl C', yst 1 P C = (l :: tl, C') ∧ 40 ≤ l) := by
  have h1 := ycl_st (r := 1) P C
  have h2 := yon_st (r := 1) (Nat.le_refl _) P C
  generalize hq : yst 1 P C = q at *
  obtain ⟨P1, C1⟩ := q
  cases P1 with
  | nil =>
    have h2 : (-1 : Int) = yon P := h2
    exact ⟨fun _ => rfl, fun l hl => by omega⟩
  | cons x tl =>
    have h1 : yrk x < 1 := h1
    have hx : 40 ≤ x := by
      apply Classical.byContradiction
      intro z
      unfold yrk at h1
      rw [if_pos (by omega)] at h1
      revert h1
      repeat' split
      all_goals decide
    have e : yon (x :: tl) = x := if_pos hx
    have h2 : yon (x :: tl) = yon P := h2
    rw [e] at h2
    exact ⟨fun z => by omega, fun l hl => ⟨tl, C1, by rw [show l = x by omega], by omega⟩⟩
section QF
variable {S : Nat → Nat × Nat} {R : Nat → Nat → Nat} {M M' M0 M1 M2 M3 : Nat → Nat → Int} {n s d r : Nat} {B : Nat → Nat} {len i b law : Nat} {P : List Nat} {C : List (Nat × Int)} {wh : Bool}
theorem km_betweenOf (hF : qFx S R) (ht : yTa B len M0) (h : yRp B len b M0 M P C wh i) : zcal zPP (d + 8) 213 [zA 305] (n, s, S, R, M) = some (zI (ybw P (ysg B len i)), (n, s, S, R, M)) := by
  have hln := yRp_ln h
  obtain ⟨hc, h18, hn, -⟩ := h
  have hB : ∀ k, k < len → B k < 256 := fun k hk => (ht.2.2 k hk).2
  have hts := yTS (i := i) hB
  have h9 := hn.2.2.1
  rw [c_M_betweenOf]
  simp only [qff hF, if_true, h9]
  unfold ybw
  by_cases g33 : ysg B len i = 33
  · rw [if_pos g33, if_pos (by omega)]
  rw [if_neg g33, if_neg (by omega)]
  by_cases g34 : ysg B len i = 34
  · rw [if_pos g34, if_pos (by omega)]
  rw [if_neg g34, if_neg (by omega)]
  by_cases g35 : ysg B len i = 35
  · rw [if_pos g35, if_pos (by omega)]
  rw [if_neg g35, if_neg (by omega)]
  by_cases g36 : ysg B len i = 36
  · rw [if_pos g36, if_pos (by omega)]
  rw [if_neg g36, if_neg (by omega), km_openNow (d := d + 5) hF hc.1.2.2.1 hc.2.1 (by omega)]
  simp only [zbI]
  by_cases h41 : yon P = 41
  · rw [if_pos h41, if_pos h41, km_isCompared (d := d + 5) hF hc.1.2.2.1 hc.2.1 (by omega)]
    simp only []
    by_cases hcp : ycp P = true
    · rw [if_pos hcp, hcp, if_neg (show ¬ q01 true = 0 by decide), yw_and (d := d + 1)]
      simp only [zbL]
      rw [yi_and (d := d + 6) hF hB hn]
      by_cases g25 : ysg B len i = 25
      · rw [if_pos g25, if_pos g25]
        simp only []
        rw [if_neg (by decide)]
      · rw [if_neg g25, if_neg g25]
        simp only []
        rw [if_pos (by trivial), yw_or (d := d + 1)]
        simp only []
        rw [yi_or (d := d + 6) hF hB hn]
        by_cases g24 : ysg B len i = 24
        · rw [if_pos g24, if_pos g24]
          simp only []
          rw [if_neg (by decide)]
        · rw [if_neg g24, if_neg g24]
          simp only []
          rw [if_pos (by trivial)]
    · rw [if_neg hcp]
      have hcp' : ycp P = false := by simpa using hcp
      rw [hcp', if_pos (show q01 false = 0 from rfl), c_M_compareOf]
      simp only [qff hF, if_true, h9]
      have hcm : (ycm (ysg B len i) = true) ↔ 27 ≤ ysg B len i ∧ ysg B len i ≤ 32 := by unfold ycm; simp
      by_cases g29 : ysg B len i = 29
      · rw [if_pos (by omega), g29]; rfl
      rw [if_neg (by omega)]
      by_cases g27 : ysg B len i = 27
      · rw [if_pos (by omega), g27]; rfl
      rw [if_neg (by omega)]
      by_cases g30 : ysg B len i = 30
      · rw [if_pos (by omega), g30]; rfl
      rw [if_neg (by omega)]
      by_cases g28 : ysg B len i = 28
      · rw [if_pos (by omega), g28]; rfl
      rw [if_neg (by omega)]
      by_cases g31 : ysg B len i = 31
      · rw [if_pos (by omega), g31]; rfl
      rw [if_neg (by omega)]
      by_cases g32 : ysg B len i = 32
      · rw [if_pos (by omega), g32]; rfl
      rw [if_neg (by omega), if_neg (fun z => by have := hcm.mp z; omega)]
  · rw [if_neg h41, if_neg h41]
theorem km_partOf (hF : qFx S R) (ht : yTa B len M0) (h : yRp B len b M0 M P C wh i) (l : Int) : zcal zPP (d + 8) 221 [zA 305, zI l] (n, s, S, R, M) = some (zI (ypt P (ysg B len i) l), (n, s, S, R, M)) := by
  have hln := yRp_ln h
  obtain ⟨hc, h18, hn, -⟩ := h
  have hB : ∀ k, k < len → B k < 256 := fun k hk => (ht.2.2 k hk).2
  have hts := yTS (i := i) hB
  have h9 := hn.2.2.1
  rw [c_M_partOf]
  simp only [qff hF, if_true, h9]
  unfold ypt
  by_cases l40 : l = 40
  · rw [if_pos l40, if_pos l40]
    by_cases g : ysg B len i = 38
    · rw [if_pos g, if_pos (by omega)]
    · rw [if_neg g, if_neg (by omega)]
  rw [if_neg l40, if_neg l40]
  by_cases l41 : l = 41
  · rw [if_pos l41, if_pos l41, yw_then (d := d + 1)]
    simp only [zbL]
    rw [yi_then (d := d + 6) hF hB hn]
    by_cases g : ysg B len i = 21
    · rw [if_pos g]
      simp only [zbI]
      rw [if_neg (by decide), km_isCompared (d := d + 5) hF hc.1.2.2.1 hc.2.1 (by omega)]
      simp only []
      by_cases hcp : ycp P = true
      · rw [hcp, if_neg (show ¬ q01 true = 0 by decide), if_pos ⟨g, rfl⟩]
      · have hcp' : ycp P = false := by simpa using hcp
        rw [hcp', if_pos (show q01 false = 0 from rfl), if_neg (fun z => absurd z.2 (by decide))]
    · rw [if_neg g, if_neg (fun z => g z.1)]
      simp only [zbI]
      rw [if_pos (by trivial)]
  rw [if_neg l41, if_neg l41]
  by_cases l42 : l = 42
  · rw [if_pos l42, if_pos l42, yw_else (d := d + 1)]
    simp only [zbL]
    rw [yi_else (d := d + 6) hF hB hn]
    by_cases g : ysg B len i = 22
    · rw [if_pos g, if_pos g]
      simp only [zbI]
      rw [if_neg (by decide)]
    · rw [if_neg g, if_neg g]
      simp only [zbI]
      rw [if_pos (by trivial)]
  rw [if_neg l42, if_neg l42]
  by_cases l43 : l = 43
  · rw [if_pos l43, if_pos l43, yw_end (d := d + 1)]
    simp only [zbL]
    rw [yi_end (d := d + 6) hF hB hn]
    by_cases g : ysg B len i = 23
    · rw [if_pos g, if_pos g]
      simp only [zbI]
      rw [if_neg (by decide)]
    · rw [if_neg g, if_neg g]
      simp only [zbI]
      rw [if_pos (by trivial)]
  rw [if_neg l43, if_neg l43]
/-- what stands between two -/
theorem ys_btw (hF : qFx S R) (hb : b ≤ 2115) (ht : yTa B len M0) (h : yRp B len b M0 M P C true i) (hi : i + 1 ≤ 300) {o : Nat} (ho : ybw P (ysg B len i) = o) (hio : yio o = false) (hr : 1 ≤ yrk o) (g : zV) :
    ∃ M', zR zPP (d + 9) 211 9 [zA 305, g] [] (n, s, S, R, M) = zR zPP (d + 9) 211 9 [zA 305, g] [] (n, s, S, R, M') ∧ yRp B len b M0 M' (o :: (yst (if yrk o = 4 then 5 else yrk o) P C).1) (yst (if yrk o = 4 then 5 else yrk o) P C).2 false (i + 1) := by
  have hln := yRp_ln h
  have hbt := km_betweenOf (n := n) (s := s) (d := d) hF ht h
  obtain ⟨hc, h18, hn, k1, k2, k3, k4⟩ := h
  rw [ho] at hbt
  generalize hrr : (if yrk o = 4 then 5 else yrk o) = rr
  have hrr1 : 1 ≤ rr := by rw [← hrr]; split <;> omega
  obtain ⟨M1, s1, s2, s3⟩ := km_settl2 (n := n) (s := s) (d := d + 6) (rr := rr) hF hb hrr1 hc (by omega) (by omega)
  have s1 : zcal zPP (d + 8) 219 [zA 305, zI rr] (n, s, S, R, M) = some (zU, (n, s, S, R, M1)) := s1
  have hst := yst_ln (r := rr) P C
  generalize hP1 : (yst rr P C).1 = P1 at *
  generalize hC1 : (yst rr P C).2 = C1 at *
  have hO := yRc_18 (yRc_push s2 hio) 0
  have h16 : M1 305 16 = ((P1.length : Nat) : Int) := s2.1.2.2.1
  have e7 : zup (zup (zup M1 310 P1.length o) 305 16 ((P1.length + 1 : Nat) : Int)) 305 18 0 305 7 = ypos B len (i + 1) := by rw [zup_ne (by decide), zup_ne (by decide), zup_rw (by decide), s3 7 (by decide) (by decide) (by decide)]; exact hn.1
  obtain ⟨M2, x1, x2, x3⟩ := km_next (n := n) (s := s) (d := d + 6) (i := i + 1) hF (yTa_p ht hO) e7
  have x1 : zcal zPP (d + 8) 191 [zA 305] (n, s, S, R, zup (zup (zup M1 310 P1.length o) 305 16 ((P1.length + 1 : Nat) : Int)) 305 18 0) = some (zU, (n, s, S, R, M2)) := x1
  have i1 : 0 ≤ ((P1.length : Nat) : Int) ∧ ((P1.length : Nat) : Int) < ((160 : Nat) : Int) := by omega
  have f16 : ∀ (k : Nat) (u : Int), zup M1 310 k u 305 16 = ((P1.length : Nat) : Int) := fun k u => by rw [zup_rw (by decide)]; exact h16
  have hbeh : zcal zPP (d + 9) 212 [zA 305] (n, s, S, R, M) = some (zI 1, (n, s, S, R, M2)) := by
    rw [c_M_behindOne]
    simp only [qff hF, if_true]
    rw [hbt]
    simp only [zbI]
    rw [if_neg (by omega), km_rank]
    simp only []
    by_cases h4 : yrk o = 4
    · rw [if_pos h4] at hrr
      subst hrr
      have s1 : zcal zPP (d + 8) 219 [zA 305, zI 5] (n, s, S, R, M) = some (zU, (n, s, S, R, M1)) := s1
      rw [if_pos (by omega), s1]
      simp only [zbV, qff hF, if_true, true_or, true_and, h16, f16, if_pos i1, Int.toNat_natCast, qw1 (k := P1.length) (by omega)]
      rw [x1]
      try rfl
    · rw [if_neg h4] at hrr
      rw [if_neg (by omega), km_rank]
      simp only []
      rw [hrr, s1]
      simp only [zbV, qff hF, if_true, true_or, true_and, h16, f16, if_pos i1, Int.toNat_natCast, qw1 (k := P1.length) (by omega)]
      rw [x1]
      try rfl
  have hnp : ynp (o :: P1) = ynp P1 + 1 := by show ynp P1 + (if yio o = true then 0 else 1) = _; rw [hio]; rfl
  have hop : yops (o :: P1) = yops P1 := by show yops P1 + (if yio o = true then 1 else 0) = _; rw [hio]; rfl
  rw [if_pos rfl] at k2
  refine ⟨M2, ?_, yRc_x hO x3, ?_, x2, by omega, ?_, by show C1.length + (P1.length + 1) ≤ i + 1; omega, hi⟩
  · have h18' : M 305 18 = 1 := h18
    rw [e_M_summed_9]
    simp only [qff hF, if_true, h18']
    rw [if_neg (by decide), hbeh]
    simp only [zbI]
    rw [if_neg (by decide)]
  · rw [x3.2 18 (by decide) (by decide) (by decide) (by decide) (by decide), zup_at]; rfl
  · rw [hnp, if_neg (by decide)]; omega
theorem yRc_top {l p : Nat} (h : yRc b M0 M (l :: P) C) (hl : 40 ≤ l) (hp : 40 ≤ p) : yRc b M0 (zup M 310 P.length p) (p :: P) C := by
  obtain ⟨⟨h1, h2, h3, h4⟩, h5, h6, h7, h8, h9⟩ := h
  have a1 : yio l = true := yio_k.mpr (Or.inl hl)
  have a2 : yio p = true := yio_k.mpr (Or.inl hp)
  refine ⟨⟨by rw [zup_rw (by decide)]; exact h1, by rw [zup_rw (by decide)]; exact h2, by rw [zup_rw (by decide)]; exact h3, ?_⟩, ⟨zup_at, ypil_c (fun k hk => zup_ne (by omega)) h5.2⟩, by rw [zup_rw (by decide)]; exact h6, fun a a1 a2 a3 => by rw [zup_rw a3]; exact h7 a a1 a2 a3, fun k k1 k2 k3 k4 k5 k6 k7 k8 k9 => by rw [zup_rw (by decide)]; exact h8 k k1 k2 k3 k4 k5 k6 k7 k8 k9, fun k hk => by rw [zup_rw (by decide)]; exact h9 k hk⟩
  rw [zup_rw (by decide), h4]
  show ((yops P + (if yio l = true then 1 else 0) : Nat) : Int) = ((yops P + (if yio p = true then 1 else 0) : Nat) : Int)
  rw [a1, a2]
theorem yRc_pop {l : Nat} (h : yRc b M0 M (l :: P) C) : yRc b M0 (zup (zup M 305 17 ((yops P : Nat) : Int)) 305 16 ((P.length : Nat) : Int)) P C := by
  obtain ⟨⟨h1, h2, h3, h4⟩, h5, h6, h7, h8, h9⟩ := h
  refine ⟨⟨?_, ?_, zup_at, ?_⟩, ?_, ?_, fun a a1 a2 a3 => by rw [zup_rw a1, zup_rw a1]; exact h7 a a1 a2 a3, fun k k1 k2 k3 k4 k5 k6 k7 k8 k9 => by rw [zup_ne k7, zup_ne k8]; exact h8 k k1 k2 k3 k4 k5 k6 k7 k8 k9, fun k hk => by rw [zup_rw (by decide), zup_rw (by decide)]; exact h9 k hk⟩
  · rw [zup_ne (by decide), zup_ne (by decide)]; exact h1
  · rw [zup_ne (by decide), zup_ne (by decide)]; exact h2
  · rw [zup_ne (by decide), zup_at]
  · rw [zup_rw (by decide), zup_rw (by decide)]; exact h5.2
  · rw [zup_rw (by decide), zup_rw (by decide)]; exact h6
theorem yNx_18 (hn : yNx B len M i) (v : Int) : yNx B len (zup M 305 18 v) i := by
  obtain ⟨n1, n2, n3, n4, n5⟩ := hn
  unfold yNx
  rw [zup_ne (by decide), zup_ne (by decide), zup_ne (by decide), zup_ne (by decide), zup_ne (by decide)]
  exact ⟨n1, n2, n3, n4, n5⟩
theorem yNx_c (hn : yNx B len M i) (h : ∀ k, k = 7 ∨ k = 8 ∨ k = 9 ∨ k = 10 ∨ k = 11 → M' 305 k = M 305 k) : yNx B len M' i := by
  obtain ⟨n1, n2, n3, n4, n5⟩ := hn
  unfold yNx
  rw [h 7 (by omega), h 8 (by omega), h 9 (by omega), h 10 (by omega), h 11 (by omega)]
  exact ⟨n1, n2, n3, n4, n5⟩
/-- the next part of a choice -/
theorem ys_part (hF : qFx S R) (hb : b ≤ 2115) (ht : yTa B len M0) (h : yRp B len b M0 M P C true i) (hi : i + 1 ≤ 300) {l p : Nat} {tl : List Nat} {C1 : List (Nat × Int)} (hw : ybw P (ysg B len i) = -1) (hl : yon P = l) (hp : ypt P (ysg B len i) l = p) (hp40 : 40 ≤ p) (hst : yst 1 P C = (l :: tl, C1)) (hl40 : 40 ≤ l) (g : zV) :
    ∃ M', zR zPP (d + 9) 211 9 [zA 305, g] [] (n, s, S, R, M) = zR zPP (d + 9) 211 9 [zA 305, g] [] (n, s, S, R, M') ∧ yRp B len b M0 M' (p :: tl) C1 false (i + 1) := by
  have hln := yRp_ln h
  have hbt := km_betweenOf (n := n) (s := s) (d := d) hF ht h
  have hpt := km_partOf (n := n) (s := s) (d := d) hF ht h (l : Int)
  obtain ⟨hc, h18, hn, k1, k2, k3, k4⟩ := h
  rw [hw] at hbt
  rw [hp] at hpt
  have hon := km_openNow (n := n) (s := s) (d := d + 6) hF hc.1.2.2.1 hc.2.1 (by omega)
  rw [hl] at hon
  have hon : zcal zPP (d + 8) 214 [zA 305] (n, s, S, R, M) = some (zI (l : Nat), (n, s, S, R, M)) := hon
  obtain ⟨M1, s1, s2, s3⟩ := km_settl2 (n := n) (s := s) (d := d + 6) (rr := 1) hF hb (by decide) hc (by omega) (by omega)
  have s1 : zcal zPP (d + 8) 219 [zA 305, zI 1] (n, s, S, R, M) = some (zU, (n, s, S, R, M1)) := s1
  have hsl := yst_ln (r := 1) P C
  rw [hst] at hsl s2
  have s2 : yRc b M0 M1 (l :: tl) C1 := s2
  have hsl : tl.length + 1 + C1.length = P.length + C.length ∧ ynp (l :: tl) + C.length ≤ ynp P + C1.length ∧ ynp (l :: tl) ≤ ynp P ∧ C.length ≤ C1.length ∧ yops (l :: tl) ≤ yops P := hsl
  have e7 : M1 305 7 = ypos B len (i + 1) := by rw [s3 7 (by decide) (by decide) (by decide)]; exact hn.1
  obtain ⟨M2, x1, x2, x3⟩ := km_next (n := n) (s := s) (d := d + 6) (i := i + 1) hF (yTa_p ht s2) e7
  have x1 : zcal zPP (d + 8) 191 [zA 305] (n, s, S, R, M1) = some (zU, (n, s, S, R, M2)) := x1
  have c2 := yRc_x s2 x3
  have hoa := km_openAt (n := n) (s := s) (d := d + 7) hF c2.1.2.2.1 c2.2.1 (by show tl.length + 1 ≤ 160; omega)
  have hyoa : yoa (l :: tl) = tl.length := if_pos hl40
  rw [hyoa] at hoa
  have hoa : zcal zPP (d + 8) 215 [zA 305] (n, s, S, R, M2) = some (zI (tl.length : Nat), (n, s, S, R, M2)) := hoa
  have i1 : 0 ≤ ((tl.length : Nat) : Int) ∧ ((tl.length : Nat) : Int) < ((160 : Nat) : Int) := by omega
  have hbeh : zcal zPP (d + 9) 212 [zA 305] (n, s, S, R, M) = some (zI 1, (n, s, S, R, zup (zup M2 310 tl.length p) 305 18 0)) := by
    rw [c_M_behindOne]
    simp only [qff hF, if_true]
    rw [hbt]
    simp only [zbI]
    rw [if_pos (by decide), hon]
    simp only []
    rw [hpt]
    simp only []
    rw [if_neg (by omega), s1]
    simp only [zbV]
    rw [x1]
    simp only []
    rw [if_pos (by omega)]
    simp only [qff hF, if_true]
    rw [hoa]
    simp only [qff hF, if_true, true_or, true_and, if_pos i1, Int.toNat_natCast]
    try rw [if_pos (by decide)]
    try rfl
  rw [if_pos rfl] at k2
  have hnp : ynp (p :: tl) = ynp (l :: tl) := by
    show ynp tl + (if yio p = true then 0 else 1) = ynp tl + (if yio l = true then 0 else 1)
    rw [yio_k.mpr (Or.inl hl40), yio_k.mpr (Or.inl hp40)]
  have hop : yops (p :: tl) = yops (l :: tl) := by
    show yops tl + (if yio p = true then 1 else 0) = yops tl + (if yio l = true then 1 else 0)
    rw [yio_k.mpr (Or.inl hl40), yio_k.mpr (Or.inl hp40)]
  refine ⟨zup (zup M2 310 tl.length p) 305 18 0, ?_, yRc_18 (yRc_top c2 hl40 hp40) 0, ?_, yNx_18 (yNx_c x2 (fun k _ => by rw [zup_rw (by decide)])) 0, by omega, ?_, by show C1.length + (tl.length + 1) ≤ i + 1; omega, hi⟩
  · have h18' : M 305 18 = 1 := h18
    rw [e_M_summed_9]
    simp only [qff hF, if_true, h18']
    rw [if_neg (by decide), hbeh]
    simp only [zbI]
    rw [if_neg (by decide)]
  · rw [zup_at]; rfl
  · rw [hnp, if_neg (by decide)]; omega
/-- what is open is shut -/
theorem ys_shut (hF : qFx S R) (hb : b ≤ 2115) (ht : yTa B len M0) (h : yRp B len b M0 M P C true i) (hi : i + 1 ≤ 300) {l : Nat} {tl : List Nat} {C1 : List (Nat × Int)} (hw : ybw P (ysg B len i) = -1) (hl : yon P = l) (hp : ypt P (ysg B len i) l = 0) (hst : yst 1 P C = (l :: tl, C1)) (hl40 : 40 ≤ l) (g : zV) :
    ∃ M', zR zPP (d + 9) 211 9 [zA 305, g] [] (n, s, S, R, M) = zR zPP (d + 9) 211 9 [zA 305, g] [] (n, s, S, R, M') ∧ yRp B len b M0 M' (yst 7 tl (if l = 43 then C1 ++ [(3, 0)] else C1)).1 (yst 7 tl (if l = 43 then C1 ++ [(3, 0)] else C1)).2 true (i + 1) := by
  have hln := yRp_ln h
  have hbt := km_betweenOf (n := n) (s := s) (d := d) hF ht h
  have hpt := km_partOf (n := n) (s := s) (d := d) hF ht h (l : Int)
  obtain ⟨hc, h18, hn, k1, k2, k3, k4⟩ := h
  rw [hw] at hbt
  rw [hp] at hpt
  have hon := km_openNow (n := n) (s := s) (d := d + 6) hF hc.1.2.2.1 hc.2.1 (by omega)
  rw [hl] at hon
  have hon : zcal zPP (d + 8) 214 [zA 305] (n, s, S, R, M) = some (zI (l : Nat), (n, s, S, R, M)) := hon
  obtain ⟨M1, s1, s2, s3⟩ := km_settl2 (n := n) (s := s) (d := d + 6) (rr := 1) hF hb (by decide) hc (by omega) (by omega)
  have s1 : zcal zPP (d + 8) 219 [zA 305, zI 1] (n, s, S, R, M) = some (zU, (n, s, S, R, M1)) := s1
  have hsl := yst_ln (r := 1) P C
  rw [hst] at hsl s2
  have s2 : yRc b M0 M1 (l :: tl) C1 := s2
  have hsl : tl.length + 1 + C1.length = P.length + C.length ∧ ynp (l :: tl) + C.length ≤ ynp P + C1.length ∧ ynp (l :: tl) ≤ ynp P ∧ C.length ≤ C1.length ∧ yops (l :: tl) ≤ yops P := hsl
  have e7 : M1 305 7 = ypos B len (i + 1) := by rw [s3 7 (by decide) (by decide) (by decide)]; exact hn.1
  obtain ⟨M2, x1, x2, x3⟩ := km_next (n := n) (s := s) (d := d + 6) (i := i + 1) hF (yTa_p ht s2) e7
  have x1 : zcal zPP (d + 8) 191 [zA 305] (n, s, S, R, M1) = some (zU, (n, s, S, R, M2)) := x1
  have c2 := yRc_x s2 x3
  have hiol : yio l = true := yio_k.mpr (Or.inl hl40)
  have hnp : ynp (l :: tl) = ynp tl := by show ynp tl + (if yio l = true then 0 else 1) = _; rw [hiol]; rfl
  have hop : yops (l :: tl) = yops tl + 1 := by show yops tl + (if yio l = true then 1 else 0) = _; rw [hiol]; rfl
  have h17 : M2 305 17 = ((yops tl + 1 : Nat) : Int) := by rw [← hop]; exact c2.1.2.2.2
  have h16 : M2 305 16 = ((tl.length + 1 : Nat) : Int) := c2.1.2.2.1
  have z17 : zw32 (((yops tl + 1 : Nat) : Int) - 1) = ((yops tl : Nat) : Int) := by
    have : ((yops tl + 1 : Nat) : Int) - 1 = ((yops tl : Nat) : Int) := by omega
    rw [this]; exact qz (by omega) (by omega)
  have z16 : zw32 (((tl.length + 1 : Nat) : Int) - 1) = ((tl.length : Nat) : Int) := by
    clear z17
    have : ((tl.length + 1 : Nat) : Int) - 1 = ((tl.length : Nat) : Int) := by omega
    rw [this]; exact qz (by omega) (by omega)
  have f16 : ∀ v : Int, zup M2 305 17 v 305 16 = ((tl.length + 1 : Nat) : Int) := fun v => by rw [zup_ne (by decide)]; exact h16
  have c3 := yRc_pop c2
  have n3 : yNx B len (zup (zup M2 305 17 ((yops tl : Nat) : Int)) 305 16 ((tl.length : Nat) : Int)) (i + 1) := yNx_c x2 (fun k hk => by rw [zup_ne (by clear z16 z17; omega), zup_ne (by clear z16 z17; omega)])
  have w3 : zup (zup M2 305 17 ((yops tl : Nat) : Int)) 305 16 ((tl.length : Nat) : Int) 305 18 = 1 := by
    rw [zup_ne (by decide), zup_ne (by decide), x3.2 18 (by decide) (by decide) (by decide) (by decide) (by decide), s3 18 (by decide) (by decide) (by decide)]
    exact h18
  have hhead : zcal zPP (d + 9) 212 [zA 305] (n, s, S, R, M) = if ((l : Nat) : Int) = 43 then zbV (zcal zPP (d + 8) 220 [zA 305, zI 3, zI 0] (n, s, S, R, zup (zup M2 305 17 ((yops tl : Nat) : Int)) 305 16 ((tl.length : Nat) : Int))) (fun q11 => zbV (zcal zPP (d + 8) 219 [zA 305, zI 7] q11) fun q12 => some (zI 1, q12)) else zbV (zcal zPP (d + 8) 219 [zA 305, zI 7] (n, s, S, R, zup (zup M2 305 17 ((yops tl : Nat) : Int)) 305 16 ((tl.length : Nat) : Int))) fun q13 => some (zI 1, q13) := by
    rw [c_M_behindOne]
    simp only [qff hF, if_true]
    rw [hbt]
    simp only [zbI]
    rw [if_pos (by decide), hon]
    simp only []
    rw [hpt]
    simp only []
    rw [if_neg (by decide), s1]
    simp only [zbV]
    rw [x1]
    simp only []
    rw [if_neg (by decide)]
    simp only [qff hF, if_true, h17, z17, f16, z16]
    try rfl
  clear z16 z17
  generalize zup (zup M2 305 17 ((yops tl : Nat) : Int)) 305 16 ((tl.length : Nat) : Int) = M3 at *
  rw [if_pos rfl] at k2
  have hfin : ∀ (M4 : Nat → Nat → Int) (C2 : List (Nat × Int)), yRc b M0 M4 tl C2 → (∀ k, k ≠ 13 → M4 305 k = M3 305 k) → C2.length ≤ C1.length + 1 → C1.length ≤ C2.length → ∃ M', zcal zPP (d + 8) 219 [zA 305, zI 7] (n, s, S, R, M4) = some (zU, (n, s, S, R, M')) ∧ yRp B len b M0 M' (yst 7 tl C2).1 (yst 7 tl C2).2 true (i + 1) := fun M4 C2 hc4 h4 hl1 hl2 => by
    obtain ⟨M5, t1, t2, t3⟩ := km_settl2 (n := n) (s := s) (d := d + 6) (rr := 7) hF hb (by decide) hc4 (by omega) (by omega)
    have h7 := yst_ln (r := 7) tl C2
    refine ⟨M5, t1, t2, ?_, yNx_c n3 (fun k hk => by rw [t3 k (by omega) (by omega) (by omega), h4 k (by omega)]), by omega, ?_, by omega, hi⟩
    · rw [t3 18 (by decide) (by decide) (by decide), h4 18 (by decide), w3]; rfl
    · rw [if_pos rfl]; omega
  have h18' : M 305 18 = 1 := h18
  by_cases h43 : l = 43
  · have hem := km_emit (n := n) (s := s) (d := d + 7) hF c3 hb (by omega) 3 0
    have hE := yRc_emit c3 hb (by omega) 3 0
    obtain ⟨M5, t1, t2⟩ := hfin _ (C1 ++ [(3, 0)]) hE (fun k hk => by rw [zup_ne hk, zup_rw (by decide), zup_rw (by decide)]) (by rw [List.length_append]; exact Nat.le_refl _) (by rw [List.length_append]; exact Nat.le_add_right _ _)
    rw [if_pos h43]
    have hem : zcal zPP (d + 8) 220 [zA 305, zI 3, zI 0] (n, s, S, R, M3) = some (zU, (n, s, S, R, zup (zup (zup M3 308 (b + 97 + 2 * C1.length) ((3 : Nat) : Int)) 308 (b + 97 + 2 * C1.length + 1) 0) 305 13 ((C1.length + 1 : Nat) : Int))) := hem
    refine ⟨M5, ?_, t2⟩
    rw [e_M_summed_9]
    simp only [qff hF, if_true, h18']
    rw [if_neg (by decide), hhead, if_pos (by omega), hem]
    simp only [zbV]
    rw [t1]
    simp only [zbI]
    rw [if_neg (by decide)]
  · obtain ⟨M5, t1, t2⟩ := hfin M3 C1 c3 (fun _ _ => rfl) (Nat.le_succ _) (Nat.le_refl _)
    rw [if_neg h43]
    refine ⟨M5, ?_, t2⟩
    rw [e_M_summed_9]
    simp only [qff hF, if_true, h18']
    rw [if_neg (by decide), hhead, if_neg (by omega), t1]
    simp only [zbV, zbI]
    rw [if_neg (by decide)]
/-- nothing of what is awaited: a fault, or the end -/
theorem ys_stop (hF : qFx S R) (hb : b ≤ 2115) (ht : yTa B len M0) (h : yRp B len b M0 M P C true i) (hw : ybw P (ysg B len i) = -1) (hp : ypt P (ysg B len i) (yon P) = -1) (g : zV) :
    (40 ≤ yon P → zR zPP (d + 9) 211 9 [zA 305, g] [] (n, s, S, R, M) = some (zI 1, (n, s, S, R, M))) ∧
    (yon P = -1 → ∃ M', zR zPP (d + 9) 211 9 [zA 305, g] [] (n, s, S, R, M) = some (zI 0, (n, s, S, R, M')) ∧ yRc b M0 M' [] (yst 1 P C).2 ∧ yNx B len M' i) := by
  have hln := yRp_ln h
  have hbt := km_betweenOf (n := n) (s := s) (d := d) hF ht h
  have hpt := km_partOf (n := n) (s := s) (d := d) hF ht h (yon P)
  obtain ⟨hc, h18, hn, k1, k2, k3, k4⟩ := h
  rw [hw] at hbt
  rw [hp] at hpt
  have hon0 := fun d' => km_openNow (n := n) (s := s) (d := d') hF hc.1.2.2.1 hc.2.1 (show P.length ≤ 160 by omega)
  have hon : zcal zPP (d + 8) 214 [zA 305] (n, s, S, R, M) = some (zI (yon P), (n, s, S, R, M)) := hon0 (d + 6)
  have hon9 : zcal zPP (d + 9) 214 [zA 305] (n, s, S, R, M) = some (zI (yon P), (n, s, S, R, M)) := hon0 (d + 7)
  have hbeh : zcal zPP (d + 9) 212 [zA 305] (n, s, S, R, M) = some (zI 0, (n, s, S, R, M)) := by
    rw [c_M_behindOne]
    simp only [qff hF, if_true]
    rw [hbt]
    simp only [zbI]
    rw [if_pos (by decide), hon]
    simp only []
    rw [hpt]
    simp only []
    rw [if_pos (by decide)]
  have h18' : M 305 18 = 1 := h18
  have hhead : zR zPP (d + 9) 211 9 [zA 305, g] [] (n, s, S, R, M) = if yon P < 0 then zbV (zcal zPP (d + 9) 219 [zA 305, zI 1] (n, s, S, R, M)) (fun q7 => some (zI 0, q7)) else some (zI 1, (n, s, S, R, M)) := by
    rw [e_M_summed_9]
    simp only [qff hF, if_true, h18']
    rw [if_neg (by decide), hbeh]
    simp only [zbI, if_true]
    rw [hon9]
    try rfl
  constructor
  · intro h40
    rw [hhead, if_neg (by omega)]
  · intro h1
    obtain ⟨M1, s1, s2, s3⟩ := km_settl2 (n := n) (s := s) (d := d + 7) (rr := 1) hF hb (by decide) hc (by omega) (by omega)
    have s1 : zcal zPP (d + 9) 219 [zA 305, zI 1] (n, s, S, R, M) = some (zU, (n, s, S, R, M1)) := s1
    rw [yst1.1 h1] at s2
    refine ⟨M1, ?_, s2, yNx_c hn (fun k hk => s3 k (by omega) (by omega) (by omega))⟩
    rw [hhead, if_pos (by omega), s1]
    rfl
end QF
