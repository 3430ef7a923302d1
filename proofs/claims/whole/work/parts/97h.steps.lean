/-! THE MODEL'S READING OF A SUM: one round of its loop -/
theorem yact {B : Nat → Nat} {len i : Nat} (hB : ∀ k, k < len → B k < 256) (h : ytk B len i = 1) : ywo B len i = min 10000 (ynu B (ypl B len i) (ypos B len (i + 1) - ypl B len i)) := by
  have hpe : ypos B len (i + 1) = yE0 B len (ypl B len i) := rfl
  rw [hpe]
  unfold ytk at h
  unfold ywo
  generalize ypl B len i = q at *
  unfold ytk0 at h
  by_cases hq : q < len
  · rw [if_pos hq] at h
    by_cases hL : qisL (B q) = true
    · rw [if_pos hL] at h; omega
    rw [if_neg hL] at h
    by_cases hD : qisD (B q) = true
    · have eE : yE0 B len q = yend qisD B len q := by unfold yE0; rw [if_pos hq, if_neg hL, if_pos hD]
      have eW : ywo0 B len q = ymn B q (yend qisD B len q - q) := by unfold ywo0; rw [if_pos ⟨hq, hD, by simpa using hL⟩]
      rw [eE, eW, ymn_nu]
    rw [if_neg hD] at h
    by_cases hw : ywide B len q = true
    · rw [if_pos hw] at h
      split at h <;> omega
    · rw [if_neg hw] at h
      have hge : ∀ c : Nat, c < 256 → (if qfi c qmarks 29 = 44 then 3 else c) ≠ 1 := by decide +kernel
      exact absurd h (hge (B q) (hB q hq))
  · rw [if_neg hq] at h; omega
/-- at the head of the loop -/
def yRp (B : Nat → Nat) (len b : Nat) (M0 M : Nat → Nat → Int) (P : List Nat) (C : List (Nat × Int)) (wh : Bool) (i : Nat) : Prop :=
  yRc b M0 M P C ∧ M 305 18 = q01 wh ∧ yNx B len M i ∧ (yops P ≤ 8 ∧ ynp P + (if wh = true then 1 else 0) ≤ C.length ∧ C.length + P.length ≤ i ∧ i ≤ 300)
/-- left with a fault at token k -/
def yFt (B : Nat → Nat) (len b : Nat) (M0 M : Nat → Nat → Int) (k : Nat) : Prop := (∀ a, a ≠ 305 → a ≠ 308 → a ≠ 310 → M a = M0 a) ∧ (∀ k, k ≠ 7 → k ≠ 8 → k ≠ 9 → k ≠ 10 → k ≠ 11 → k ≠ 13 → k ≠ 16 → k ≠ 17 → k ≠ 18 → M 305 k = M0 305 k) ∧ (∀ k, k < b + 97 ∨ b + 705 ≤ k → M 308 k = M0 308 k) ∧ M 305 8 = ypl B len k
section QF
variable {S : Nat → Nat × Nat} {R : Nat → Nat → Nat} {M M' M0 M1 M2 M3 : Nat → Nat → Int} {n s d r : Nat} {B : Nat → Nat} {len i b law : Nat} {P : List Nat} {C : List (Nat × Int)} {wh : Bool}
theorem yRc_x (h : yRc b M0 M P C) (hx : yX M M') : yRc b M0 M' P C := by
  obtain ⟨⟨h1, h2, h3, h4⟩, h5, h6, h7, h8, h9⟩ := h
  obtain ⟨x1, x2⟩ := hx
  refine ⟨⟨?_, ?_, ?_, ?_⟩, ?_, ?_, fun a a1 a2 a3 => by rw [x1 a a1]; exact h7 a a1 a2 a3, fun k k1 k2 k3 k4 k5 k6 k7 k8 k9 => by rw [x2 k k1 k2 k3 k4 k5]; exact h8 k k1 k2 k3 k4 k5 k6 k7 k8 k9, fun k hk => by rw [x1 308 (by decide)]; exact h9 k hk⟩
  · rw [x2 12 (by decide) (by decide) (by decide) (by decide) (by decide)]; exact h1
  · rw [x2 13 (by decide) (by decide) (by decide) (by decide) (by decide)]; exact h2
  · rw [x2 16 (by decide) (by decide) (by decide) (by decide) (by decide)]; exact h3
  · rw [x2 17 (by decide) (by decide) (by decide) (by decide) (by decide)]; exact h4
  · rw [x1 310 (by decide)]; exact h5
  · rw [x1 308 (by decide)]; exact h6
theorem yRc_18 (h : yRc b M0 M P C) (v : Int) : yRc b M0 (zup M 305 18 v) P C := by
  obtain ⟨⟨h1, h2, h3, h4⟩, h5, h6, h7, h8, h9⟩ := h
  refine ⟨⟨?_, ?_, ?_, ?_⟩, ?_, ?_, fun a a1 a2 a3 => by rw [zup_rw a1]; exact h7 a a1 a2 a3, fun k k1 k2 k3 k4 k5 k6 k7 k8 k9 => by rw [zup_ne k9]; exact h8 k k1 k2 k3 k4 k5 k6 k7 k8 k9, fun k hk => by rw [zup_rw (by decide)]; exact h9 k hk⟩
  · rw [zup_ne (by decide)]; exact h1
  · rw [zup_ne (by decide)]; exact h2
  · rw [zup_ne (by decide)]; exact h3
  · rw [zup_ne (by decide)]; exact h4
  · rw [zup_rw (by decide)]; exact h5
  · rw [zup_rw (by decide)]; exact h6
theorem yRc_push (h : yRc b M0 M P C) {o : Nat} (ho : yio o = false) : yRc b M0 (zup (zup M 310 P.length o) 305 16 ((P.length + 1 : Nat) : Int)) (o :: P) C := by
  obtain ⟨⟨h1, h2, h3, h4⟩, h5, h6, h7, h8, h9⟩ := h
  refine ⟨⟨?_, ?_, zup_at, ?_⟩, ?_, ?_, fun a a1 a2 a3 => by rw [zup_rw a1, zup_rw a3]; exact h7 a a1 a2 a3, fun k k1 k2 k3 k4 k5 k6 k7 k8 k9 => by rw [zup_ne k7, zup_rw (by decide)]; exact h8 k k1 k2 k3 k4 k5 k6 k7 k8 k9, fun k hk => by rw [zup_rw (by decide), zup_rw (by decide)]; exact h9 k hk⟩
  · rw [zup_ne (by decide), zup_rw (by decide)]; exact h1
  · rw [zup_ne (by decide), zup_rw (by decide)]; exact h2
  · rw [zup_ne (by decide), zup_rw (by decide), h4]
    show _ = ((yops P + (if yio o = true then 1 else 0) : Nat) : Int)
    rw [ho]; rfl
  · rw [zup_rw (by decide)]
    exact ⟨zup_at, ypil_c (fun k hk => zup_ne (by omega)) h5⟩
  · rw [zup_rw (by decide), zup_rw (by decide)]; exact h6
theorem yRc_open (h : yRc b M0 M P C) {o : Nat} (ho : yio o = true) : yRc b M0 (zup (zup (zup M 305 17 ((yops P + 1 : Nat) : Int)) 310 P.length o) 305 16 ((P.length + 1 : Nat) : Int)) (o :: P) C := by
  obtain ⟨⟨h1, h2, h3, h4⟩, h5, h6, h7, h8, h9⟩ := h
  refine ⟨⟨?_, ?_, zup_at, ?_⟩, ?_, ?_, fun a a1 a2 a3 => by rw [zup_rw a1, zup_rw a3, zup_rw a1]; exact h7 a a1 a2 a3, fun k k1 k2 k3 k4 k5 k6 k7 k8 k9 => by rw [zup_ne k7, zup_rw (by decide), zup_ne k8]; exact h8 k k1 k2 k3 k4 k5 k6 k7 k8 k9, fun k hk => by rw [zup_rw (by decide), zup_rw (by decide), zup_rw (by decide)]; exact h9 k hk⟩
  · rw [zup_ne (by decide), zup_rw (by decide), zup_ne (by decide)]; exact h1
  · rw [zup_ne (by decide), zup_rw (by decide), zup_ne (by decide)]; exact h2
  · rw [zup_ne (by decide), zup_rw (by decide), zup_at]
    show _ = ((yops P + (if yio o = true then 1 else 0) : Nat) : Int)
    rw [ho]; rfl
  · rw [zup_rw (by decide)]
    exact ⟨zup_at, ypil_c (fun k hk => by rw [zup_ne (by omega), zup_rw (by decide)]) h5⟩
  · rw [zup_rw (by decide), zup_rw (by decide), zup_rw (by decide)]; exact h6
theorem yRp_ln (h : yRp B len b M0 M P C wh i) : P.length + C.length ≤ 300 ∧ P.length ≤ 154 ∧ C.length ≤ 300 := by
  obtain ⟨-, -, -, h1, h2, h3, h4⟩ := h
  have := ynp_ops P
  have h2' : ynp P ≤ C.length := by omega
  omega
theorem yTa_p (ht : yTa B len M0) (h : yRc b M0 M P C) : yTa B len M := by
  obtain ⟨-, -, -, h7, h8, -⟩ := h
  exact ⟨by rw [h8 4 (by decide) (by decide) (by decide) (by decide) (by decide) (by decide) (by decide) (by decide) (by decide)]; exact ht.1, ht.2.1, by rw [h7 309 (by decide) (by decide) (by decide)]; exact ht.2.2⟩
theorem yFt_p (h : yRc b M0 M P C) (hn : yNx B len M i) : yFt B len b M0 M i := ⟨h.2.2.2.1, h.2.2.2.2.1, h.2.2.2.2.2, hn.2.1⟩
/-- a NUMBER or a NAME begins -/
theorem ys_num (hF : qFx S R) (hb : b ≤ 2115) (ht : yTa B len M0) (h : yRp B len b M0 M P C false i) (hi : i + 1 ≤ 300) {g0 : Nat} {v0 : Int} (hg : (ysg B len i = 41 ∧ ywo B len i ≤ 9999 ∧ g0 = 0 ∧ v0 = ywo B len i) ∨ (qisn (ysg B len i) = true ∧ ¬ (ysg B len i = 14 ∧ M0 305 14 = 1) ∧ g0 = 1 ∧ v0 = qnm (ysg B len i))) (g : zV) :
    ∃ M', zR zPP (d + 8) 211 9 [zA 305, g] [] (n, s, S, R, M) = zR zPP (d + 8) 211 9 [zA 305, zI 0] [] (n, s, S, R, M') ∧ yRp B len b M0 M' (yst 7 P (C ++ [(g0, v0)])).1 (yst 7 P (C ++ [(g0, v0)])).2 true (i + 1) := by
  have hln := yRp_ln h
  obtain ⟨hc, h18, hn, k1, k2, k3, k4⟩ := h
  have hB : ∀ k, k < len → B k < 256 := fun k hk => (ht.2.2 k hk).2
  have hts := yTS (i := i) hB
  have h9 := hn.2.2.1
  have h14 : M 305 14 = M0 305 14 := hc.2.2.2.2.1 14 (by decide) (by decide) (by decide) (by decide) (by decide) (by decide) (by decide) (by decide) (by decide)
  -- emit, next, settle
  have hE := yRc_emit hc hb (by omega) g0 v0
  have hem := km_emit (n := n) (s := s) (d := d + 6) hF hc hb (by omega) g0 v0
  generalize hM1 : zup (zup (zup M 308 (b + 97 + 2 * C.length) g0) 308 (b + 97 + 2 * C.length + 1) v0) 305 13 ((C.length + 1 : Nat) : Int) = M1 at hE hem
  have e7 : M1 305 7 = ypos B len (i + 1) := by rw [← hM1, zup_ne (by decide), zup_rw (by decide), zup_rw (by decide)]; exact hn.1
  obtain ⟨M2, x1, x2, x3⟩ := km_next (n := n) (s := s) (d := d + 5) (i := i + 1) hF (yTa_p ht hE) e7
  have hE2 := yRc_18 (yRc_x hE x3) 1
  have hl1 : (C ++ [(g0, v0)]).length = C.length + 1 := List.length_append
  obtain ⟨M3, s1, s2, s3⟩ := km_settl2 (n := n) (s := s) (d := d + 5) (rr := 7) hF hb (by decide) hE2 (by rw [hl1]; omega) (by omega)
  have s1' : zcal zPP (d + 7) 219 [zA 305, zI 7] (n, s, S, R, zup M2 305 18 1) = some (zU, (n, s, S, R, M3)) := s1
  have hst := yst_ln (r := 7) P (C ++ [(g0, v0)])
  rw [hl1] at hst
  have hfin : zR zPP (d + 7) 222 44 [zA 305, zI (ynm (ysg B len i))] [zI v0, zI g0, zA 305] (n, s, S, R, M) = some (zI 0, (n, s, S, R, M3)) := by
    rw [e_M_beginOne_44, hem]
    simp only [zbV]
    rw [x1]
    simp only [qff hF, if_true]
    rw [if_pos (by decide), s1']
  have h28 : zR zPP (d + 7) 222 28 [zA 305, zI (ynm (ysg B len i))] [] (n, s, S, R, M) = some (zI 0, (n, s, S, R, M3)) := by
    rw [e_M_beginOne_28]
    simp only [qff hF, if_true, h9]
    rcases hg with ⟨g1, g2, g3, g4⟩ | ⟨g1, g2, g3, g4⟩
    · have ht1 : ytk B len i = 1 := by omega
      have hnum : M 305 10 = ((ywo B len i : Nat) : Int) := by
        have e1 := hn.2.2.2.1 ht1
        have e2 := yact hB ht1
        rw [e1]
        omega
      rw [if_pos (by omega), e_M_beginOne_36]
      simp only [qff hF, if_true, h9, hnum]
      rw [if_pos (by omega)]
      rw [g3, g4] at hfin
      exact hfin
    · have ht1 : ytk B len i ≠ 1 := fun z => by
        have : ysg B len i = 41 := by omega
        rw [this] at g1
        exact absurd g1 (by decide)
      have hnm : ynm (ysg B len i) = ((qnm (ysg B len i) : Nat) : Int) := by
        have : ∀ g, g < 50 → qisn g = true → ynm g = ((qnm g : Nat) : Int) := by decide
        exact this _ (by omega) g1
      rw [if_neg (by omega), e_M_beginOne_36]
      simp only [qff hF, if_true, h9]
      rw [if_neg (by omega)]
      rw [g3, g4] at hfin
      rw [hnm] at hfin ⊢
      exact hfin
  have hbeg : zcal zPP (d + 8) 222 [zA 305] (n, s, S, R, M) = some (zI 0, (n, s, S, R, M3)) := by
    have hnam := km_nameOf (n := n) (s := s) (d := d) hF hB hn
    have h10 : zR zPP (d + 7) 222 10 [zA 305, zU] [] (n, s, S, R, M) = some (zI 0, (n, s, S, R, M3)) := by
      have h22 : zR zPP (d + 7) 222 22 [zA 305, zI (ynm (ysg B len i))] [] (n, s, S, R, M) = some (zI 0, (n, s, S, R, M3)) := by
        rw [e_M_beginOne_22]
        simp only [qff hF, if_true, h9]
        by_cases ht1 : ytk B len i = 1
        · rw [if_pos (by omega)]
          exact h28
        · rw [if_neg (by omega)]
          have hnn : ¬ ynm (ysg B len i) < 0 := by
            rcases hg with ⟨g1, -⟩ | ⟨g1, -⟩
            · exact absurd (show ytk B len i = 1 by omega) ht1
            · have : ∀ g, g < 50 → qisn g = true → ¬ ynm g < 0 := by decide
              exact this _ (by omega) g1
          rw [if_neg hnn]
          exact h28
      rw [e_M_beginOne_10, hnam]
      simp only [zbI, qff hF, if_true, h14]
      by_cases hm7 : ynm (ysg B len i) = 7
      · rw [if_pos hm7]
        have h14' : ¬ M0 305 14 = 1 := fun z => by
          have : ∀ g, g < 50 → ynm g = 7 → g = 14 := by decide
          have g14 := this _ (by omega) hm7
          rcases hg with ⟨g1, -⟩ | ⟨-, g2, -⟩
          · omega
          · exact g2 ⟨g14, z⟩
        rw [if_neg h14']
        exact h22
      · rw [if_neg hm7]
        exact h22
    rw [c_M_beginOne]
    simp only [qff hF, if_true, h9]
    by_cases ht1 : ytk B len i = 1
    · have hnum : ¬ 9999 < M 305 10 := by
        rcases hg with ⟨g1, g2, -⟩ | ⟨g1, -⟩
        · have e1 := hn.2.2.2.1 ht1
          have e2 := yact hB ht1
          rw [e1]
          omega
        · have : ysg B len i = 41 := by omega
          rw [this] at g1
          exact absurd g1 (by decide)
      rw [if_pos (by omega), if_neg hnum]
      exact h10
    · rw [if_neg (by omega)]
      exact h10
  have s18 : M3 305 18 = 1 := by rw [s3 18 (by decide) (by decide) (by decide), zup_at]
  have sN : yNx B len M3 (i + 1) := by
    obtain ⟨n1, n2, n3, n4, n5⟩ := x2
    unfold yNx
    rw [s3 7 (by decide) (by decide) (by decide), s3 8 (by decide) (by decide) (by decide), s3 9 (by decide) (by decide) (by decide), s3 10 (by decide) (by decide) (by decide), s3 11 (by decide) (by decide) (by decide), zup_ne (by decide), zup_ne (by decide), zup_ne (by decide), zup_ne (by decide), zup_ne (by decide)]
    exact ⟨n1, n2, n3, n4, n5⟩
  have k2' : ynp P + 0 ≤ C.length := k2
  refine ⟨M3, ?_, s2, s18, sN, by omega, ?_, by omega, hi⟩
  · have h18' : M 305 18 = 0 := h18
    rw [e_M_summed_9]
    simp only [qff hF, if_true, h18']
    rw [hbeg]
    simp only [zbI, if_true]
  · rw [if_pos rfl]; omega
/-- the faults of what begins -/
theorem ys_bad (hF : qFx S R) (ht : yTa B len M0) (h : yRp B len b M0 M P C false i) {f : Nat} (hf : (ysg B len i = 41 ∧ ¬ ywo B len i ≤ 9999 ∧ f = 2) ∨ (ysg B len i = 14 ∧ M0 305 14 = 1 ∧ f = 5) ∨ (ysg B len i ≠ 41 ∧ qisn (ysg B len i) = false ∧ yopn (ysg B len i) = false ∧ (yaa P = true → ysg B len i ≠ 26) ∧ f = 1)) (g : zV) :
    zR zPP (d + 8) 211 9 [zA 305, g] [] (n, s, S, R, M) = some (zI f, (n, s, S, R, M)) := by
  have hln := yRp_ln h
  obtain ⟨hc, h18, hn, k1, k2, k3, k4⟩ := h
  have hB : ∀ k, k < len → B k < 256 := fun k hk => (ht.2.2 k hk).2
  have hts := yTS (i := i) hB
  have h9 := hn.2.2.1
  have h14 : M 305 14 = M0 305 14 := hc.2.2.2.2.1 14 (by decide) (by decide) (by decide) (by decide) (by decide) (by decide) (by decide) (by decide) (by decide)
  have h18' : M 305 18 = 0 := h18
  have hbeg : zcal zPP (d + 8) 222 [zA 305] (n, s, S, R, M) = some (zI f, (n, s, S, R, M)) := by
    have hnam := km_nameOf (n := n) (s := s) (d := d) hF hB hn
    rw [c_M_beginOne]
    simp only [qff hF, if_true, h9]
    rcases hf with ⟨f1, f2, f3⟩ | ⟨f1, f2, f3⟩ | ⟨f1, f2, f3, f4, f5⟩
    · have ht1 : ytk B len i = 1 := by omega
      have e1 := hn.2.2.2.1 ht1
      have e2 := yact hB ht1
      rw [if_pos (by omega), if_pos (show 9999 < M 305 10 by rw [e1]; omega), f3]
      rfl
    · have ht1 : ¬ ytk B len i = 1 := by omega
      rw [if_neg (by omega), e_M_beginOne_10, hnam, f1]
      have : ynm 14 = 7 := by decide
      simp only [zbI, qff hF, if_true, h14, this, f2, f3]
      rfl
    · have ht1 : ¬ ytk B len i = 1 := by omega
      have hnm : ynm (ysg B len i) = -1 := by
        have : ∀ g, g < 50 → qisn g = false → ynm g = -1 := by decide
        exact this _ (by omega) f2
      have hop : ysg B len i ≠ 37 ∧ ysg B len i ≠ 34 ∧ ysg B len i ≠ 18 ∧ ysg B len i ≠ 19 ∧ ysg B len i ≠ 20 := by
        unfold yopn at f3
        simp at f3
        omega
      rw [if_neg (by omega), e_M_beginOne_10, hnam, hnm]
      simp only [zbI]
      rw [if_neg (by decide), e_M_beginOne_22]
      simp only [qff hF, if_true, h9]
      rw [if_neg (by omega), if_pos (by decide), if_neg (by omega), if_neg (by omega), yw_root (d := d + 1)]
      simp only [zbL]
      rw [yi_root (d := d + 6) hF hB hn, if_neg hop.2.2.1]
      simp only [zbI]
      rw [if_pos (by trivial), yw_rings (d := d + 1)]
      simp only []
      rw [yi_rings (d := d + 6) hF hB hn, if_neg hop.2.2.2.1]
      simp only []
      rw [if_pos (by trivial), yw_if (d := d + 1)]
      simp only []
      rw [yi_if (d := d + 6) hF hB hn, if_neg hop.2.2.2.2]
      simp only []
      rw [if_pos (by trivial), yw_not (d := d + 1)]
      simp only []
      rw [yi_not (d := d + 6) hF hB hn]
      by_cases h26 : ysg B len i = 26
      · rw [if_pos h26]
        simp only []
        rw [if_neg (by decide), km_isAskAhead (d := d + 4) hF hc.1.2.2.1 hc.2.1 (by omega)]
        have : yaa P = false := by
          cases hy : yaa P with
          | false => rfl
          | true => exact absurd h26 (f4 hy)
        rw [this]
        simp only []
        rw [if_pos (show q01 false = 0 from rfl), e_M_beginOne_120, e_M_beginOne_121, f5]
        rfl
      · rw [if_neg h26]
        simp only []
        rw [if_pos (by trivial), e_M_beginOne_120, e_M_beginOne_121, f5]
        rfl
  have hf0 : ¬ ((f : Nat) : Int) = 0 := by omega
  rw [e_M_summed_9]
  simp only [qff hF, if_true, h18']
  rw [hbeg]
  simp only [zbI]
  rw [if_neg hf0]
/-- what opens -/
theorem ys_open (hF : qFx S R) (hb : b ≤ 2115) (ht : yTa B len M0) (h : yRp B len b M0 M P C false i) (hi : i + 1 ≤ 300) {o : Nat} (ho : (ysg B len i = 37 ∧ o = 40) ∨ (ysg B len i = 34 ∧ o = 5) ∨ (ysg B len i = 18 ∧ o = 4) ∨ (ysg B len i = 19 ∧ o = 2) ∨ (ysg B len i = 20 ∧ o = 41) ∨ (ysg B len i = 26 ∧ yaa P = true ∧ o = 20)) (g : zV) :
    (yops P = 8 → zR zPP (d + 8) 211 9 [zA 305, g] [] (n, s, S, R, M) = some (zI 3, (n, s, S, R, M))) ∧
    (yops P < 8 → ∃ M', zR zPP (d + 8) 211 9 [zA 305, g] [] (n, s, S, R, M) = zR zPP (d + 8) 211 9 [zA 305, zI 0] [] (n, s, S, R, M') ∧ yRp B len b M0 M' (o :: P) C false (i + 1)) := by
  have hln := yRp_ln h
  obtain ⟨hc, h18, hn, k1, k2, k3, k4⟩ := h
  have hB : ∀ k, k < len → B k < 256 := fun k hk => (ht.2.2 k hk).2
  have hts := yTS (i := i) hB
  have h9 := hn.2.2.1
  have h18' : M 305 18 = 0 := h18
  have h17 : M 305 17 = ((yops P : Nat) : Int) := hc.1.2.2.2
  have h16 : M 305 16 = ((P.length : Nat) : Int) := hc.1.2.2.1
  have hio : yio o = true := by
    rcases ho with h | h | h | h | h | h
    · rw [h.2]; decide
    · rw [h.2]; decide
    · rw [h.2]; decide
    · rw [h.2]; decide
    · rw [h.2]; decide
    · rw [h.2.2]; decide
  have h10' : qisn (ysg B len i) = false ∧ ynm (ysg B len i) = -1 := by
    rcases ho with h | h | h | h | h | h <;> (rw [h.1]; decide)
  have htk : ytk B len i ≠ 1 := by
    rcases ho with h | h | h | h | h | h <;> omega
  have hnam := km_nameOf (n := n) (s := s) (d := d) hF hB hn
  rw [h10'.2] at hnam
  -- all that begins ends at opened
  have hbeg : ∀ (v : Int) (M' : Nat → Nat → Int), zcal zPP (d + 7) 224 [zA 305, zI o] (n, s, S, R, M) = some (zI v, (n, s, S, R, M')) → zcal zPP (d + 8) 222 [zA 305] (n, s, S, R, M) = some (zI v, (n, s, S, R, M')) := fun v M' hop => by
    rw [c_M_beginOne]
    simp only [qff hF, if_true, h9]
    rw [if_neg (by omega), e_M_beginOne_10, hnam]
    simp only [zbI]
    rw [if_neg (by decide), e_M_beginOne_22]
    simp only [qff hF, if_true, h9]
    rw [if_neg (by omega), if_pos (by decide)]
    rcases ho with ⟨g1, g2⟩ | ⟨g1, g2⟩ | ⟨g1, g2⟩ | ⟨g1, g2⟩ | ⟨g1, g2⟩ | ⟨g1, g3, g2⟩
    · subst g2
      have hop : zcal zPP (d + 7) 224 [zA 305, zI 40] (n, s, S, R, M) = some (zI v, (n, s, S, R, M')) := hop
      rw [if_pos (by omega), hop]
      rfl
    · subst g2
      have hop : zcal zPP (d + 7) 224 [zA 305, zI 5] (n, s, S, R, M) = some (zI v, (n, s, S, R, M')) := hop
      rw [if_neg (by omega), if_pos (by omega), hop]
      rfl
    · subst g2
      have hop : zcal zPP (d + 7) 224 [zA 305, zI 4] (n, s, S, R, M) = some (zI v, (n, s, S, R, M')) := hop
      rw [if_neg (by omega), if_neg (by omega), yw_root (d := d + 1)]
      simp only [zbL]
      rw [yi_root (d := d + 6) hF hB hn, if_pos g1]
      simp only [zbI]
      rw [if_neg (by decide), hop]
    · subst g2
      have hop : zcal zPP (d + 7) 224 [zA 305, zI 2] (n, s, S, R, M) = some (zI v, (n, s, S, R, M')) := hop
      rw [if_neg (by omega), if_neg (by omega), yw_root (d := d + 1)]
      simp only [zbL]
      rw [yi_root (d := d + 6) hF hB hn, if_neg (by omega)]
      simp only [zbI]
      rw [if_pos (by trivial), yw_rings (d := d + 1)]
      simp only []
      rw [yi_rings (d := d + 6) hF hB hn, if_pos g1]
      simp only []
      rw [if_neg (by decide), hop]
    · subst g2
      have hop : zcal zPP (d + 7) 224 [zA 305, zI 41] (n, s, S, R, M) = some (zI v, (n, s, S, R, M')) := hop
      rw [if_neg (by omega), if_neg (by omega), yw_root (d := d + 1)]
      simp only [zbL]
      rw [yi_root (d := d + 6) hF hB hn, if_neg (by omega)]
      simp only [zbI]
      rw [if_pos (by trivial), yw_rings (d := d + 1)]
      simp only []
      rw [yi_rings (d := d + 6) hF hB hn, if_neg (by omega)]
      simp only []
      rw [if_pos (by trivial), yw_if (d := d + 1)]
      simp only []
      rw [yi_if (d := d + 6) hF hB hn, if_pos g1]
      simp only []
      rw [if_neg (by decide), hop]
    · subst g2
      have hop : zcal zPP (d + 7) 224 [zA 305, zI 20] (n, s, S, R, M) = some (zI v, (n, s, S, R, M')) := hop
      rw [if_neg (by omega), if_neg (by omega), yw_root (d := d + 1)]
      simp only [zbL]
      rw [yi_root (d := d + 6) hF hB hn, if_neg (by omega)]
      simp only [zbI]
      rw [if_pos (by trivial), yw_rings (d := d + 1)]
      simp only []
      rw [yi_rings (d := d + 6) hF hB hn, if_neg (by omega)]
      simp only []
      rw [if_pos (by trivial), yw_if (d := d + 1)]
      simp only []
      rw [yi_if (d := d + 6) hF hB hn, if_neg (by omega)]
      simp only []
      rw [if_pos (by trivial), yw_not (d := d + 1)]
      simp only []
      rw [yi_not (d := d + 6) hF hB hn, if_pos g1]
      simp only []
      rw [if_neg (by decide), km_isAskAhead (d := d + 4) hF hc.1.2.2.1 hc.2.1 (by omega), g3]
      simp only [q01, if_true]
      rw [if_neg (by decide), hop]
      simp only []
      rw [e_M_beginOne_121]
  constructor
  · intro h8
    have hop : zcal zPP (d + 7) 224 [zA 305, zI o] (n, s, S, R, M) = some (zI 3, (n, s, S, R, M)) := by
      rw [c_M_opened]
      simp only [qff hF, if_true, h17]
      rw [if_pos (by omega)]
    rw [e_M_summed_9]
    simp only [qff hF, if_true, h18']
    rw [hbeg 3 M hop]
    simp only [zbI]
    rw [if_neg (by decide)]
  · intro h8
    have hO := yRc_open hc hio
    have e17 : zw32 (((yops P : Nat) : Int) + 1) = ((yops P + 1 : Nat) : Int) := qw1 (by omega)
    have e16 : zw32 (((P.length : Nat) : Int) + 1) = ((P.length + 1 : Nat) : Int) := by clear e17; exact qw1 (by omega)
    have i1 : 0 ≤ ((P.length : Nat) : Int) ∧ ((P.length : Nat) : Int) < ((160 : Nat) : Int) := by clear e17 e16; omega
    have f16 : ∀ v : Int, zup M 305 17 v 305 16 = ((P.length : Nat) : Int) := fun v => by rw [zup_ne (by decide)]; exact h16
    have f16' : ∀ (v : Int) (k : Nat) (u : Int), zup (zup M 305 17 v) 310 k u 305 16 = ((P.length : Nat) : Int) := fun v k u => by rw [zup_rw (by decide)]; exact f16 v
    have e7 : zup (zup (zup M 305 17 ((yops P + 1 : Nat) : Int)) 310 P.length o) 305 16 ((P.length + 1 : Nat) : Int) 305 7 = ypos B len (i + 1) := by rw [zup_ne (by decide), zup_rw (by decide), zup_ne (by decide)]; exact hn.1
    have e18 : zup (zup (zup M 305 17 ((yops P + 1 : Nat) : Int)) 310 P.length o) 305 16 ((P.length + 1 : Nat) : Int) 305 18 = 0 := by rw [zup_ne (by decide), zup_rw (by decide), zup_ne (by decide)]; exact h18'
    obtain ⟨M2, x1, x2, x3⟩ := km_next (n := n) (s := s) (d := d + 4) (i := i + 1) hF (yTa_p ht hO) e7
    have hop : zcal zPP (d + 7) 224 [zA 305, zI o] (n, s, S, R, M) = some (zI 0, (n, s, S, R, M2)) := by
      rw [c_M_opened]
      simp only [qff hF, if_true, true_or, true_and, h17, e17, f16, f16', if_pos i1, Int.toNat_natCast, e16]
      rw [if_neg (by clear e17 e16; omega), x1]
      rfl
    clear e17 e16
    have hny : yops (o :: P) = yops P + 1 := by show yops P + (if yio o = true then 1 else 0) = _; rw [if_pos hio]
    have hnp : ynp (o :: P) = ynp P := by show ynp P + (if yio o = true then 0 else 1) = _; rw [if_pos hio]; rfl
    refine ⟨M2, ?_, yRc_x hO x3, ?_, x2, by omega, ?_, by show C.length + (P.length + 1) ≤ i + 1; omega, hi⟩
    · rw [e_M_summed_9]
      simp only [qff hF, if_true, h18']
      rw [hbeg 0 M2 hop]
      simp only [zbI, if_true]
    · rw [x3.2 18 (by decide) (by decide) (by decide) (by decide) (by decide), e18]; rfl
    · rw [hnp]; exact k2
end QF
