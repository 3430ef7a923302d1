/-! what a person holds, on both sides -/
/-- how many rings a person holds, and of which years -/
def qhb (A : Nat → Int) (p : Nat) : Nat := qsm (fun o => zct (fun y => decide (qg A o y = 3 + p)) 24) 5
def qyb (A : Nat → Int) (p : Nat) : Nat → Bool := fun y => qan (fun o => decide (qg A o y = 3 + p)) 5
theorem qsm_stop {f : Nat → Nat} {a : Nat} : ∀ (k : Nat), (∀ i, a ≤ i → i < a + k → f i = 0) → qsm f (a + k) = qsm f a
  | 0, _ => rfl
  | k + 1, h => by
    show qsm f (a + k) + f (a + k) = _
    rw [qsm_stop k (fun i h1 h2 => h i h1 (by omega)), h (a + k) (by omega) (by omega), Nat.add_zero]
theorem qan_stop {f : Nat → Bool} {a : Nat} : ∀ (k : Nat), (∀ i, a ≤ i → i < a + k → f i = false) → qan f (a + k) = qan f a
  | 0, _ => rfl
  | k + 1, h => by
    show (qan f (a + k) || f (a + k)) = _
    rw [qan_stop k (fun i h1 h2 => h i h1 (by omega)), h (a + k) (by omega) (by omega), Bool.or_false]
theorem qg_out {A : Nat → Int} {o : Nat} (ho : ¬ (o : Int) < A 0) (y : Nat) : qg A o y = 0 := if_neg ho
theorem qg_in {A : Nat → Int} {o : Nat} (ho : (o : Int) < A 0) (y : Nat) : qg A o y = A (11 + 24 * o + y) := if_pos ho
theorem zct_0 : ∀ n, zct (fun _ => false) n = 0
  | 0 => rfl
  | n + 1 => by unfold zct; rw [zct_0 n]; rfl
theorem qhb_le (A : Nat → Int) (p i : Nat) : qsm (fun o => zct (fun y => decide (qg A o y = 3 + p)) 24) i ≤ 24 * i := qsm_le (fun o => zct_le _ _) i
section QH
variable {S : Nat → Nat × Nat} {R : Nat → Nat → Nat} {M : Nat → Nat → Int} {n s d m t : Nat} {A : Nat → Int}
theorem k_heldByM_loop (h : qLM S R m) (hA : qIn (M (m + 1))) {p : Nat} (hp : p < 5) : ∀ (j i : Nat), ((i + j : Nat) : Int) = M (m + 1) 0 →
    zR zPP (d + 2) 240 4 [zA m, zI p, zI (qsm (fun o => zct (fun y => decide (qg (M (m + 1)) o y = 3 + p)) 24) i : Nat), zI i] [] (n, s, S, R, M) = some (zI (qsm (fun o => zct (fun y => decide (qg (M (m + 1)) o y = 3 + p)) 24) (i + j) : Nat), (n, s, S, R, M)) := by
  intro j
  induction j with
  | zero =>
    intro i hi
    rw [e_M_heldBy_4]
    simp only [h.1.1, h.1.2.1, h.2.1, if_true, true_or, true_and, show (0 : Int).toNat = 0 from rfl]
    rw [if_pos (by decide), if_neg (by omega)]
    rfl
  | succ j ih =>
    intro i hi
    have h5 := hA.1.2
    have hb := qhb_le (M (m + 1)) p i
    have h24 := zct_le (fun y => decide (qg (M (m + 1)) i y = 3 + p)) 24
    rw [e_M_heldBy_4]
    simp only [h.1.1, h.1.2.1, h.2.1, if_true, true_or, true_and, show (0 : Int).toNat = 0 from rfl]
    rw [if_pos (by decide), if_pos (by omega), show zw32 (3 + (p : Int)) = 3 + p by unfold zw32; omega, k_yearsOfM h (by omega)]
    simp only [zbI]
    rw [k_bits]
    simp only [zbI]
    rw [show (zct (fun y => decide (M (m + 1) (11 + 24 * i + y) = 3 + p)) 24) = zct (fun y => decide (qg (M (m + 1)) i y = 3 + p)) 24 from zct_cong fun y hy => by rw [qg_in (by omega)], qwa (by omega), qw1 (by omega)]
    have := ih (i + 1) (by omega)
    rw [show i + 1 + j = i + (j + 1) by omega] at this
    exact this
theorem k_heldByM (h : qLM S R m) (hA : qIn (M (m + 1))) {p : Nat} (hp : p < 5) : zcal zPP (d + 3) 240 [zA m, zI p] (n, s, S, R, M) = some (zI (qhb (M (m + 1)) p : Nat), (n, s, S, R, M)) := by
  have h5 := hA.1
  obtain ⟨a, ha⟩ := Int.eq_ofNat_of_zero_le h5.1
  rw [c_M_heldBy]
  simp only [h.1.1, if_true]
  have := k_heldByM_loop (n := n) (s := s) (d := d) h hA hp a 0 (by rw [Nat.zero_add]; exact ha.symm)
  rw [Nat.zero_add] at this
  have e : qhb (M (m + 1)) p = qsm (fun o => zct (fun y => decide (qg (M (m + 1)) o y = 3 + p)) 24) a := by
    have := qsm_stop (f := fun o => zct (fun y => decide (qg (M (m + 1)) o y = 3 + p)) 24) (a := a) (5 - a) (fun i h1 h2 => by
      refine Eq.trans (zct_cong (g := fun _ => false) fun y hy => ?_) (zct_0 24)
      rw [qg_out (by omega)]
      exact decide_eq_false (by omega))
    rw [show a + (5 - a) = 5 by omega] at this
    exact this
  rw [e]
  exact this
theorem k_heldByT (h : qLT S R t) (hg : qRg M (t + 11) (qg A)) {p : Nat} (hp : p < 5) : zcal zPP (d + 2) 136 [zA (t + 11), zI p] (n, s, S, R, M) = some (zI (qhb A p : Nat), (n, s, S, R, M)) := k_heldBy h.2.2.1 hg hp
theorem k_yearsByM_loop (h : qLM S R m) (hA : qIn (M (m + 1))) {p : Nat} (hp : p < 5) : ∀ (j i : Nat), ((i + j : Nat) : Int) = M (m + 1) 0 →
    zR zPP (d + 2) 270 4 [zA m, zI p, zI (zsn (fun y => qan (fun o => decide (qg (M (m + 1)) o y = 3 + p)) i) 24 : Nat), zI i] [] (n, s, S, R, M) = some (zI (zsn (fun y => qan (fun o => decide (qg (M (m + 1)) o y = 3 + p)) (i + j)) 24 : Nat), (n, s, S, R, M)) := by
  intro j
  induction j with
  | zero =>
    intro i hi
    rw [e_M_yearsBy_4]
    simp only [h.1.1, h.1.2.1, h.2.1, if_true, true_or, true_and, show (0 : Int).toNat = 0 from rfl]
    rw [if_pos (by decide), if_neg (by omega)]
    rfl
  | succ j ih =>
    intro i hi
    have h5 := hA.1.2
    rw [e_M_yearsBy_4]
    simp only [h.1.1, h.1.2.1, h.2.1, if_true, true_or, true_and, show (0 : Int).toNat = 0 from rfl]
    rw [if_pos (by decide), if_pos (by omega), show zw32 (3 + (p : Int)) = 3 + p by unfold zw32; omega, k_yearsOfM h (by omega)]
    simp only [zbI]
    rw [show zsn (fun y => decide (M (m + 1) (11 + 24 * i + y) = 3 + p)) 24 = zsn (fun y => decide (qg (M (m + 1)) i y = 3 + p)) 24 from zsn_cong fun y hy => by rw [qg_in (by omega)], zsn_or24, qw1 (by omega)]
    have := ih (i + 1) (by omega)
    rw [show i + 1 + j = i + (j + 1) by omega] at this
    exact this
theorem k_yearsByM (h : qLM S R m) (hA : qIn (M (m + 1))) {p : Nat} (hp : p < 5) : zcal zPP (d + 3) 270 [zA m, zI p] (n, s, S, R, M) = some (zI (zsn (qyb (M (m + 1)) p) 24 : Nat), (n, s, S, R, M)) := by
  have h5 := hA.1
  obtain ⟨a, ha⟩ := Int.eq_ofNat_of_zero_le h5.1
  rw [c_M_yearsBy]
  simp only [h.1.1, if_true]
  have := k_yearsByM_loop (n := n) (s := s) (d := d) h hA hp a 0 (by rw [Nat.zero_add]; exact ha.symm)
  rw [Nat.zero_add] at this
  simp only [qan, zsn_none] at this
  have e : zsn (qyb (M (m + 1)) p) 24 = zsn (fun y => qan (fun o => decide (qg (M (m + 1)) o y = 3 + p)) a) 24 := by
    refine zsn_cong fun y hy => ?_
    have := qan_stop (f := fun o => decide (qg (M (m + 1)) o y = 3 + p)) (a := a) (5 - a) (fun i h1 h2 => by
      show decide (qg (M (m + 1)) i y = 3 + p) = false
      rw [qg_out (by omega)]
      exact decide_eq_false (by omega))
    rw [show a + (5 - a) = 5 by omega] at this
    exact this
  rw [e]
  exact this
theorem k_yearsOfT (h : qLT S R t) (hg : qRg M (t + 11) (qg A)) {p : Nat} (hp : p < 5) : zcal zPP (d + 2) 145 [zA (t + 11), zI p] (n, s, S, R, M) = some (zI (zsn (qyb A p) 24 : Nat), (n, s, S, R, M)) := k_yearsOf h.2.2.1 hg hp
end QH
