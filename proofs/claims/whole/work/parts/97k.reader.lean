/-! THE CLASS'S READER: small steps, and what it does behind a fault -/
def yen (e : Nat × Nat) : Int := ((e.1 * 16384 + e.2 : Nat) : Int)
/-- at token i, c orders, no fault -/
def yCp (M0 M : Nat → Nat → Int) (i c : Nat) : Prop := M 295 8 = i ∧ M 295 9 = c ∧ M 295 12 = 0 ∧ (∀ a, a ≠ 295 → a ≠ 299 → M a = M0 a) ∧ ∀ k, k ≠ 8 → k ≠ 9 → k ≠ 12 → k ≠ 8 → M 295 k = M0 295 k
/-- behind fault f at place p -/
def yJu (M0 M : Nat → Nat → Int) (f p : Nat) : Prop := M 295 12 = f ∧ f ≠ 0 ∧ M 295 13 = p ∧ (0 ≤ M 295 9 ∧ M 295 9 ≤ 300) ∧ (∀ a, a ≠ 295 → a ≠ 299 → M a = M0 a) ∧ ∀ k, k ≠ 8 → k ≠ 9 → k ≠ 12 → k ≠ 13 → M 295 k = M0 295 k
/-- orders L more -/
def yOk (M0 M : Nat → Nat → Int) (c : Nat) (L : List (Nat × Nat)) (j : Nat) (M' : Nat → Nat → Int) : Prop := yCp M0 M' j (c + L.length) ∧ (∀ k, k < c → M' 299 k = M 299 k) ∧ yat (M' 299) c (L.map yen)
section QF
variable {S : Nat → Nat × Nat} {R : Nat → Nat → Nat} {M M' M0 M1 M2 M3 : Nat → Nat → Int} {n s d r : Nat} {B : Nat → Nat} {len N i j c o f p : Nat} {L : List (Nat × Nat)}
theorem yCp_at (h : yCp M0 M i c) {j : Nat} : yCp M0 (zup M 295 8 (j : Nat)) j c := by
  obtain ⟨h1, h2, h3, h4, h5⟩ := h
  exact ⟨zup_at, by rw [zup_ne (by decide)]; exact h2, by rw [zup_ne (by decide)]; exact h3, fun a a1 a2 => by rw [zup_rw a1]; exact h4 a a1 a2, fun k k1 k2 k3 k4 => by rw [zup_ne k1]; exact h5 k k1 k2 k3 k4⟩
theorem yJu_at (h : yJu M0 M f p) {v : Int} : yJu M0 (zup M 295 8 v) f p := by
  obtain ⟨h1, h2, h3, h4, h5, h6⟩ := h
  exact ⟨by rw [zup_ne (by decide)]; exact h1, h2, by rw [zup_ne (by decide)]; exact h3, by rw [zup_ne (by decide)]; exact h4, fun a a1 a2 => by rw [zup_rw a1]; exact h5 a a1 a2, fun k k1 k2 k3 k4 => by rw [zup_ne k1]; exact h6 k k1 k2 k3 k4⟩
theorem yOk_at (h : yOk M0 M c L i M') {j : Nat} : yOk M0 M c L j (zup M' 295 8 (j : Nat)) := ⟨yCp_at h.1, fun k hk => by rw [zup_rw (by decide)]; exact h.2.1 k hk, by rw [zup_rw (by decide)]; exact h.2.2⟩
theorem yOk_0 (h : yCp M0 M i c) : yOk M0 M c [] i M := ⟨h, fun _ _ => rfl, trivial⟩
theorem kx_here (hF : qFx S R) (hk : yTk B len M0 (N + 1)) (hN : N ≤ 300) (h : yCp M0 M i c) (hi : i ≤ N) : zcal zPP (d + 1) 117 [zA 295] (n, s, S, R, M) = some (zI (ysg B len i : Nat), (n, s, S, R, M)) := by
  obtain ⟨h1, h2, h3, h4, h5⟩ := h
  have hs : M 296 i = ysg B len i := by rw [h4 296 (by decide) (by decide)]; exact (hk i (by omega)).1
  have i1 : 0 ≤ (i : Int) ∧ (i : Int) < ((301 : Nat) : Int) := by omega
  rw [c_Reader_here]
  simp only [qff hF, if_true, h1, true_or, true_and, if_pos i1, Int.toNat_natCast, hs]
  rw [if_neg (by omega), if_neg (by omega)]
theorem kx_hereJ (hF : qFx S R) (M : Nat → Nat → Int) : ∃ x : Int, zcal zPP (d + 1) 117 [zA 295] (n, s, S, R, M) = some (zI x, (n, s, S, R, M)) := by
  rw [c_Reader_here]
  simp only [qff hF, if_true, true_or, true_and]
  by_cases h0 : M 295 8 < 0
  · exact ⟨43, by rw [if_pos h0]⟩
  · rw [if_neg h0]
    by_cases h1 : 300 < M 295 8
    · exact ⟨43, by rw [if_pos h1]⟩
    · rw [if_neg h1, if_pos (show 0 ≤ M 295 8 ∧ M 295 8 < ((301 : Nat) : Int) by omega)]
      exact ⟨_, rfl⟩
theorem qwq8 {g w : Nat} (hg : g < 100) (hw : w < 16384) : zw32 (zw32 ((g : Int) * 16384) + w) = ((g * 16384 + w : Nat) : Int) := by
  rw [qz (x := (g : Int) * 16384) (by omega) (by omega), qz (x := (g : Int) * 16384 + w) (by omega) (by omega)]
  omega
theorem qwq9 {k : Nat} (h : k < 1000) : zw32 (((k + 1 : Nat) : Int) - 1) = (k : Int) := by
  have : ((k + 1 : Nat) : Int) - 1 = (k : Int) := by omega
  rw [this]; exact qz (by omega) (by omega)
theorem kx_order (hF : qFx S R) (h : M 295 9 = c) (hc : c < 300) {g w : Nat} (hg : g < 100) (hw : w < 16384) : zcal zPP (d + 1) 123 [zA 295, zI g, zI w] (n, s, S, R, M) = some (zI c, (n, s, S, R, zup (zup M 299 c (yen (g, w))) 295 9 ((c + 1 : Nat) : Int))) := by
  have i1 : 0 ≤ (c : Int) ∧ (c : Int) < ((300 : Nat) : Int) := by omega
  have f9 : ∀ v : Int, zup M 299 c v 295 9 = c := fun v => by rw [zup_rw (by decide)]; exact h
  rw [c_Reader_order]
  simp only [qff hF, if_true, h, true_or, true_and, if_pos i1, Int.toNat_natCast, f9, qwq8 hg hw, qw1 (k := c) (by omega), zup_at, qwq9 (k := c) (by omega)]
  rw [if_neg (by omega), if_pos (by omega)]
  rfl
theorem yOk_order (h : yOk M0 M c L j M1) {g w : Nat} : yOk M0 M c (L ++ [(g, w)]) j (zup (zup M1 299 (c + L.length) (yen (g, w))) 295 9 ((c + L.length + 1 : Nat) : Int)) := by
  obtain ⟨⟨h1, h2, h3, h4, h5⟩, h6, h7⟩ := h
  have e : c + (L ++ [(g, w)]).length = c + L.length + 1 := by rw [List.length_append]; rfl
  refine ⟨⟨?_, ?_, ?_, fun a a1 a2 => ?_, fun k k1 k2 k3 k4 => ?_⟩, fun k hk => ?_, ?_⟩
  · rw [zup_ne (by decide), zup_rw (by decide)]; exact h1
  · rw [e, zup_at]
  · rw [zup_ne (by decide), zup_rw (by decide)]; exact h3
  · rw [zup_rw a1, zup_rw a2]; exact h4 a a1 a2
  · rw [zup_ne k2, zup_rw (by decide)]; exact h5 k k1 k2 k3 k4
  · rw [zup_rw (by decide), zup_ne (by omega)]; exact h6 k hk
  · rw [zup_rw (by decide), List.map_append, yat_app]
    have hl : (L.map yen).length = L.length := List.length_map _
    refine ⟨yat_cong (fun k h1 h2 => ?_) h7, ?_, trivial⟩
    · rw [hl] at h2
      rw [zup_ne (by omega)]
    · rw [hl]; exact zup_at
theorem kx_orderJ (hF : qFx S R) (h : yJu M0 M f p) (g w : Int) : ∃ v M', zcal zPP (d + 1) 123 [zA 295, zI g, zI w] (n, s, S, R, M) = some (zI v, (n, s, S, R, M')) ∧ yJu M0 M' f p ∧ v < 300 := by
  obtain ⟨h1, h2, h3, h4, h5, h6⟩ := h
  obtain ⟨c, hc⟩ := Int.eq_ofNat_of_zero_le h4.1
  rw [c_Reader_order]
  by_cases hl : c < 300
  · have i1 : 0 ≤ (c : Int) ∧ (c : Int) < ((300 : Nat) : Int) := by omega
    have f9 : ∀ v : Int, zup M 299 c v 295 9 = c := fun v => by rw [zup_rw (by decide)]; exact hc
    refine ⟨c, zup (zup M 299 c (zw32 (zw32 (g * 16384) + w))) 295 9 ((c + 1 : Nat) : Int), ?_, ⟨?_, h2, ?_, ?_, fun a a1 a2 => ?_, fun k k1 k2 k3 k4 => ?_⟩, by omega⟩
    · simp only [qff hF, if_true, hc, true_or, true_and, if_pos i1, Int.toNat_natCast, f9, qw1 (k := c) (by omega), zup_at, qwq9 (k := c) (by omega)]
      rw [if_neg (by omega), if_pos (by omega)]
    · rw [zup_ne (by decide), zup_rw (by decide)]; exact h1
    · rw [zup_ne (by decide), zup_rw (by decide)]; exact h3
    · rw [zup_at]; omega
    · rw [zup_rw a1, zup_rw a2]; exact h5 a a1 a2
    · rw [zup_ne k2, zup_rw (by decide)]; exact h6 k k1 k2 k3 k4
  · refine ⟨-1, M, ?_, ⟨h1, h2, h3, h4, h5, h6⟩, by omega⟩
    simp only [qff hF, if_true, hc]
    rw [if_neg (by omega), if_neg (by omega)]
theorem kx_fails (hF : qFx S R) (hk : yTk B len M0 (N + 1)) (hN : N ≤ 300) (h : yCp M0 M i c) (hi : i ≤ N) (hc : c ≤ 300) {f : Nat} (hf : f ≠ 0) : ∃ M', zcal zPP (d + 1) 119 [zA 295, zI f] (n, s, S, R, M) = some (zU, (n, s, S, R, M')) ∧ yJu M0 M' f (ypl B len i) := by
  obtain ⟨h1, h2, h3, h4, h5⟩ := h
  have hs : M 298 i = ypl B len i := by rw [h4 298 (by decide) (by decide)]; exact (hk i (by omega)).2.2
  have i1 : 0 ≤ (i : Int) ∧ (i : Int) < ((301 : Nat) : Int) := by omega
  have f8 : zup M 295 12 (f : Nat) 295 8 = i := by rw [zup_ne (by decide)]; exact h1
  have f298 : zup M 295 12 (f : Nat) 298 i = ypl B len i := by rw [zup_rw (by decide)]; exact hs
  refine ⟨zup (zup M 295 12 (f : Nat)) 295 13 (ypl B len i : Nat), ?_, ?_, hf, zup_at, ?_, fun a a1 a2 => ?_, fun k k1 k2 k3 k4 => ?_⟩
  · rw [c_Reader_fails]
    simp only [qff hF, if_true, h3, h1, true_or, true_and, f8, if_pos i1, Int.toNat_natCast, f298]
    rw [if_neg (by omega), if_neg (by omega)]
  · rw [zup_ne (by decide), zup_at]
  · rw [zup_ne (by decide), zup_ne (by decide), h2]; omega
  · rw [zup_rw a1, zup_rw a1]; exact h4 a a1 a2
  · rw [zup_ne k4, zup_ne k3]; exact h5 k k1 k2 k3 k1
theorem kx_failsJ (hF : qFx S R) (h : yJu M0 M f p) (v : Int) : zcal zPP (d + 1) 119 [zA 295, zI v] (n, s, S, R, M) = some (zU, (n, s, S, R, M)) := by
  obtain ⟨h1, h2, -⟩ := h
  rw [c_Reader_fails]
  simp only [qff hF, if_true, h1]
  rw [if_neg (by omega)]
theorem kx_expJ (hF : qFx S R) (h : yJu M0 M f p) (v : Int) : zcal zPP (d + 1) 125 [zA 295, zI v] (n, s, S, R, M) = some (zU, (n, s, S, R, M)) := by
  obtain ⟨h1, h2, -⟩ := h
  rw [c_Reader_expect]
  simp only [qff hF, if_true, h1]
  rw [if_neg (by omega)]
theorem kx_exp (hF : qFx S R) (hk : yTk B len M0 (N + 1)) (hN : N ≤ 300) (h : yCp M0 M i c) (hi : i ≤ N) {g : Nat} (hg : ysg B len i = g) : zcal zPP (d + 2) 125 [zA 295, zI g] (n, s, S, R, M) = some (zU, (n, s, S, R, zup M 295 8 ((i + 1 : Nat) : Int))) := by
  have hh := kx_here (n := n) (s := s) (d := d) hF hk hN h hi
  rw [hg] at hh
  obtain ⟨h1, h2, h3, h4, h5⟩ := h
  rw [c_Reader_expect]
  simp only [qff hF, if_true, h3]
  rw [hh]
  simp only [zbI, qff hF, if_true, h1, qw1 (k := i) (by omega)]
theorem kx_expN (hF : qFx S R) (hk : yTk B len M0 (N + 1)) (hN : N ≤ 300) (h : yCp M0 M i c) (hi : i ≤ N) (hc : c ≤ 300) {g : Nat} (hg : ysg B len i ≠ g) : ∃ M', zcal zPP (d + 2) 125 [zA 295, zI g] (n, s, S, R, M) = some (zU, (n, s, S, R, M')) ∧ yJu M0 M' 1 (ypl B len i) := by
  have hh := kx_here (n := n) (s := s) (d := d) hF hk hN h hi
  obtain ⟨M', e1, e2⟩ := kx_fails (n := n) (s := s) (d := d) hF hk hN h hi hc (f := 1) (by decide)
  have e1 : zcal zPP (d + 1) 119 [zA 295, zI 1] (n, s, S, R, M) = some (zU, (n, s, S, R, M')) := e1
  obtain ⟨h1, h2, h3, h4, h5⟩ := h
  refine ⟨M', ?_, e2⟩
  rw [c_Reader_expect]
  simp only [qff hF, if_true, h3]
  rw [hh]
  simp only [zbI]
  rw [if_neg (by omega), e1]
  rfl
theorem kx_skipJ (hF : qFx S R) (h : yJu M0 M f p) {v : Int} (hv : v < 300) : ∃ M', zcal zPP (d + 1) 130 [zA 295, zI v] (n, s, S, R, M) = some (zU, (n, s, S, R, M')) ∧ yJu M0 M' f p := by
  rw [c_Reader_skipToHere]
  simp only [qff hF, if_true]
  by_cases h0 : v < 0
  · exact ⟨M, by rw [if_pos h0], h⟩
  · obtain ⟨k, rfl⟩ := Int.eq_ofNat_of_zero_le (show 0 ≤ v by omega)
    obtain ⟨h1, h2, h3, h4, h5, h6⟩ := h
    have i1 : 0 ≤ (k : Int) ∧ (k : Int) < ((300 : Nat) : Int) := by omega
    refine ⟨zup M 299 k (zw32 (zw32 (zw32 ((M 299 k).tdiv 16384) * 16384) + M 295 9)), ?_, ?_, h2, ?_, ?_, fun a a1 a2 => ?_, fun j k1 k2 k3 k4 => ?_⟩
    · rw [if_neg h0, if_pos hv]
      simp only [qff hF, if_true, true_or, true_and, if_pos i1, Int.toNat_natCast]
      rw [if_neg (by decide)]
    · rw [zup_rw (by decide)]; exact h1
    · rw [zup_rw (by decide)]; exact h3
    · rw [zup_rw (by decide)]; exact h4
    · rw [zup_rw a2]; exact h5 a a1 a2
    · rw [zup_rw (by decide)]; exact h6 j k1 k2 k3 k4
/-- a skip laid down -/
theorem kx_skip (hF : qFx S R) {k g q : Nat} (hk : k < 300) (hg : g < 100) (h : M 299 k = yen (g, 0)) (h9 : M 295 9 = q) (hq : q < 16384) : zcal zPP (d + 1) 130 [zA 295, zI k] (n, s, S, R, M) = some (zU, (n, s, S, R, zup M 299 k (yen (g, q)))) := by
  have i1 : 0 ≤ (k : Int) ∧ (k : Int) < ((300 : Nat) : Int) := by omega
  have e : (yen (g, 0)).tdiv 16384 = (g : Int) := by
    unfold yen
    show ((g * 16384 + 0 : Nat) : Int).tdiv ((16384 : Nat) : Int) = g
    have : ((g * 16384 + 0 : Nat) : Int).tdiv ((16384 : Nat) : Int) = (((g * 16384 + 0) / 16384 : Nat) : Int) := rfl
    rw [this]
    omega
  have z : zw32 (zw32 (zw32 (g : Int) * 16384) + (q : Nat)) = yen (g, q) := by
    rw [qz (x := (g : Int)) (by omega) (by omega)]
    exact qwq8 hg hq
  rw [c_Reader_skipToHere]
  simp only [qff hF, if_true, true_or, true_and, if_pos i1, Int.toNat_natCast, h, e, h9, z]
  rw [if_neg (by clear z e; omega), if_pos (by clear z e; omega), if_neg (by decide)]
/-! behind a fault -/
theorem kx_oneJ (hF : qFx S R) (h : yJu M0 M f p) (o : Int) : zcal zPP (d + 2) 122 [zA 295, zI o] (n, s, S, R, M) = some (zU, (n, s, S, R, M)) := by
  obtain ⟨x, hx⟩ := kx_hereJ (n := n) (s := s) (d := d) hF M
  obtain ⟨h1, h2, -⟩ := h
  rw [c_Reader_readOne]
  simp only [qff hF, if_true]
  rw [hx]
  simp only [zbI, qff hF, if_true, h1]
  rw [if_neg (by omega)]
theorem kx_prodJ (hF : qFx S R) (h : yJu M0 M f p) (o : Int) : zcal zPP (d + 3) 121 [zA 295, zI o] (n, s, S, R, M) = some (zU, (n, s, S, R, M)) := by
  have ho := kx_oneJ (n := n) (s := s) (d := d) hF h o
  obtain ⟨h1, h2, -⟩ := h
  rw [c_Reader_readProduct]
  simp only [qff hF, if_true]
  rw [ho]
  simp only [zbV]
  rw [e_Reader_readProduct_5]
  simp only [qff hF, if_true, h1]
  rw [if_pos (by decide), if_neg (by omega)]
theorem kx_sumJ (hF : qFx S R) (h : yJu M0 M f p) (o : Int) : zcal zPP (d + 4) 120 [zA 295, zI o] (n, s, S, R, M) = some (zU, (n, s, S, R, M)) := by
  have ho := kx_prodJ (n := n) (s := s) (d := d) hF h o
  obtain ⟨h1, h2, -⟩ := h
  rw [c_Reader_readSum]
  simp only [qff hF, if_true]
  rw [ho]
  simp only [zbV]
  rw [e_Reader_readSum_5]
  simp only [qff hF, if_true, h1]
  rw [if_pos (by decide), if_neg (by omega)]
theorem kx_isName {g : Nat} (σ : zS) : zcal zPP (d + 1) 149 [zI g] σ = some (zI (q01 (qisn g)), σ) := by
  rw [c_Sign_isName]
  unfold qisn
  by_cases h3 : g = 3
  · rw [if_pos (by omega), decide_eq_true h3]; rfl
  rw [if_neg (by omega), decide_eq_false h3]
  by_cases h4 : g = 4
  · rw [if_pos (by omega), decide_eq_true h4]; rfl
  rw [if_neg (by omega), decide_eq_false h4]
  by_cases h9 : g < 9
  · rw [if_pos (by omega), decide_eq_false (show ¬ 9 ≤ g by omega)]; rfl
  rw [if_neg (by omega), decide_eq_true (show 9 ≤ g by omega)]
  by_cases h14 : 14 < g
  · rw [if_pos (by omega), decide_eq_false (show ¬ g ≤ 14 by omega)]; rfl
  rw [if_neg (by omega), decide_eq_true (show g ≤ 14 by omega)]; rfl
theorem kx_compares {g : Nat} (σ : zS) : zcal zPP (d + 1) 150 [zI g] σ = some (zI (q01 (ycm g)), σ) := by
  rw [c_Sign_compares]
  unfold ycm
  by_cases h : g < 27
  · rw [if_pos (by omega), decide_eq_false (show ¬ 27 ≤ g by omega)]; rfl
  rw [if_neg (by omega), decide_eq_true (show 27 ≤ g by omega)]
  by_cases h2 : 32 < g
  · rw [if_pos (by omega), decide_eq_false (show ¬ g ≤ 32 by omega)]; rfl
  rw [if_neg (by omega), decide_eq_true (show g ≤ 32 by omega)]; rfl
theorem kx_comparesJ (x : Int) (σ : zS) : ∃ b : Bool, zcal zPP (d + 1) 150 [zI x] σ = some (zI (q01 b), σ) := by
  rw [c_Sign_compares]
  by_cases h : x < 27
  · exact ⟨false, by rw [if_pos h]; rfl⟩
  rw [if_neg h]
  by_cases h2 : 32 < x
  · exact ⟨false, by rw [if_pos h2]; rfl⟩
  rw [if_neg h2]
  exact ⟨true, rfl⟩
end QF
