/-! DEEDS: the model's figures and words -/
theorem yfst_ne {B : Nat → Nat} {len : Nat} : ∀ {a : List yI} {i f t : Nat}, yfst B len a i = some (f, t) → f = 1 ∨ f = 2
  | [], i, f, t, h => by cases h
  | it :: l, i, f, t, h => by
    have h : (match yit B len it i with | some f => some (f, i) | none => yfst B len l (i + 1)) = some (f, t) := h
    cases hy : yit B len it i with
    | some f' =>
      rw [hy] at h
      cases h
      unfold yit at hy
      (repeat' split at hy) <;> simp at hy <;> omega
    | none =>
      rw [hy] at h
      exact yfst_ne h
def yFm (q : Nat) (M0 M : Nat → Nat → Int) : Prop := (∀ a, a ≠ 305 → a ≠ 308 → M a = M0 a) ∧ (∀ x, x ≠ 7 → x ≠ 8 → x ≠ 9 → x ≠ 10 → x ≠ 11 → M 305 x = M0 305 x) ∧ ∀ x, x < q + 1 ∨ q + 3 < x → M 308 x = M0 308 x
def yMs (B : Nat → Nat) (len q : Nat) (M0 M : Nat → Nat → Int) (i : Nat) : Prop := yFm q M0 M ∧ yNx B len M i
def yMo (n s : Nat) (S : Nat → Nat × Nat) (R : Nat → Nat → Nat) (B : Nat → Nat) (len q : Nat) (M0 M : Nat → Nat → Int) (a : List yI) (i : Nat) (h : zO) : Prop :=
  (yfst B len a i = none → ∃ M', h = some (zI 0, (n, s, S, R, M')) ∧ yMs B len q M0 M' (i + a.length) ∧ M' 308 = yvs B len q a i (M 308)) ∧
  ∀ f t, yfst B len a i = some (f, t) → ∃ M', h = some (zI f, (n, s, S, R, M')) ∧ yMs B len q M0 M' t
theorem qwg2 {q : Nat} (h : q < 10000) : zw32 ((q : Int) + 2) = ((q + 2 : Nat) : Int) := by
  rw [qz (by omega) (by omega)]
  omega
theorem qwg3 {q : Nat} (h : q < 10000) : zw32 ((q : Int) + 3) = ((q + 3 : Nat) : Int) := by
  rw [qz (by omega) (by omega)]
  omega
section QF
variable {S : Nat → Nat × Nat} {R : Nat → Nat → Nat} {M M' M0 M1 M2 M3 : Nat → Nat → Int} {n s d r : Nat} {B : Nat → Nat} {len N i j c k f p b q : Nat}
theorem yMs_ta (h : yFm q M0 M) (ht : yTa B len M0) : yTa B len M := by
  obtain ⟨h1, h2, h3⟩ := h
  exact ⟨by rw [h2 4 (by decide) (by decide) (by decide) (by decide) (by decide)]; exact ht.1, ht.2.1, by rw [h1 309 (by decide) (by decide)]; exact ht.2.2⟩
theorem yMo_app {a b : List yI} {h0 : zO} {kont : zS → zO} (h1 : yMo n s S R B len q M0 M a i h0) (h2 : ∀ M', yMs B len q M0 M' (i + a.length) → M' 308 = yvs B len q a i (M 308) → yMo n s S R B len q M0 M' b (i + a.length) (kont (n, s, S, R, M'))) :
    yMo n s S R B len q M0 M (a ++ b) i (zbI h0 fun x q1 => if x = 0 then kont q1 else some (zI x, q1)) := by
  obtain ⟨k1, k2⟩ := h1
  unfold yMo
  rw [yfst_app]
  cases hy : yfst B len a i with
  | some ft =>
    obtain ⟨f, t⟩ := ft
    refine ⟨fun h => (by cases h), fun f' t' h => ?_⟩
    cases h
    obtain ⟨M', q1, q2⟩ := k2 f t hy
    have := yfst_ne hy
    refine ⟨M', ?_, q2⟩
    rw [q1]
    show (if (f : Int) = 0 then _ else _) = _
    rw [if_neg (by omega)]
  | none =>
    obtain ⟨M', q1, q2, q3⟩ := k1 hy
    obtain ⟨a1, a2⟩ := h2 M' q2 q3
    have e : (zbI h0 fun x q1 => if x = 0 then kont q1 else some (zI x, q1)) = kont (n, s, S, R, M') := by
      rw [q1]
      rfl
    rw [e]
    refine ⟨fun h => ?_, a2⟩
    obtain ⟨M2, p1, p2, p3⟩ := a1 h
    refine ⟨M2, p1, by rw [List.length_append, ← Nat.add_assoc]; exact p2, ?_⟩
    rw [p3, q3, yvs_app]
theorem yMo_id {a : List yI} {h0 : zO} (h1 : yMo n s S R B len q M0 M a i h0) : yMo n s S R B len q M0 M a i (zbI h0 fun x q1 => some (zI x, q1)) := by
  refine ⟨fun h => ?_, fun f t h => ?_⟩
  · obtain ⟨M', q1, q2⟩ := h1.1 h
    exact ⟨M', by rw [q1]; rfl, q2⟩
  · obtain ⟨M', q1, q2⟩ := h1.2 f t h
    exact ⟨M', by rw [q1]; rfl, q2⟩
theorem km_fig (hF : qFx S R) (ht : yTa B len M0) (h : yMs B len q M0 M i) (hq : q ≤ 2210) (hp : 1 ≤ p ∧ p ≤ 3) {lo hi : Nat} (hh : hi ≤ 9999) : yMo n s S R B len q M0 M [(0, p, lo, hi)] i (zcal zPP (d + 3) 206 [zA 305, zI ((q + p : Nat) : Int), zI lo, zI hi] (n, s, S, R, M)) := by
  obtain ⟨hm, hn⟩ := h
  have hta := yMs_ta hm ht
  have hBs : ∀ k, k < len → B k < 256 := fun k hk => (ht.2.2 k hk).2
  have hts := yTS (i := i) hBs
  have hn' := hn
  obtain ⟨h7, h8, h9, h10, h11⟩ := hn
  have e1 : yfst B len [(0, p, lo, hi)] i = match yit B len (0, p, lo, hi) i with | some f => some (f, i) | none => none := rfl
  rw [c_M_figure]
  simp only [qff hF, if_true, h9]
  unfold yMo
  rw [e1]
  by_cases g41 : ysg B len i = 41
  · have htk : ytk B len i = 1 := by omega
    have hc1 : ((ytk B len i : Nat) : Int) = 1 := by omega
    have hw := yact hBs htk
    simp only [if_pos hc1, h10 htk]
    rw [c_M_isIn]
    generalize hv : ynu B (ypl B len i) (ypos B len (i + 1) - ypl B len i) = v at *
    by_cases hin : lo ≤ ywo B len i ∧ ywo B len i ≤ hi
    · have hv2 : ywo B len i = v := by omega
      have ey : yit B len (0, p, lo, hi) i = none := by unfold yit; rw [if_pos rfl, if_pos g41, if_pos hin]
      rw [ey]
      refine ⟨fun _ => ?_, fun f t h => (by cases h)⟩
      have hx : yX M (zup M 305 7 (M 305 7)) := yX_u (yX_r M) (Or.inl rfl)
      have ht2 : yTa B len (zup M 308 (q + p) (v : Int)) := ⟨by rw [zup_rw (by decide)]; exact hta.1, hta.2.1, by rw [zup_rw (by decide)]; exact hta.2.2⟩
      obtain ⟨M', n1, n2, n3⟩ := km_next (n := n) (s := s) (d := d) hF ht2 (i := i + 1) (by rw [zup_rw (by decide)]; exact h7)
      have hi0 : 0 ≤ ((q + p : Nat) : Int) ∧ ((q + p : Nat) : Int) < ((2820 : Nat) : Int) := by omega
      refine ⟨M', ?_, ⟨⟨fun a a1 a2 => ?_, fun x x1 x2 x3 x4 x5 => ?_, fun x hx => ?_⟩, n2⟩, ?_⟩
      · have l1 : ¬ (v : Int) < lo := by omega
        have l2 : ¬ (hi : Int) < v := by omega
        simp only [if_neg l1, if_neg l2, zbI]
        rw [if_neg (by decide)]
        simp only [qff hF, if_true, true_or, true_and, if_pos hi0, Int.toNat_natCast, h10 htk, hv]
        rw [n1]
        rfl
      · rw [n3.1 a a1, zup_rw a2]; exact hm.1 a a1 a2
      · rw [n3.2 x x1 x2 x3 x4 x5, zup_rw (by decide)]; exact hm.2.1 x x1 x2 x3 x4 x5
      · rw [n3.1 308 (by decide), zup_ne (by omega)]; exact hm.2.2 x hx
      · rw [n3.1 308 (by decide)]
        show zup M 308 (q + p) (v : Int) 308 = fun x => if x = q + p then (ywo B len i : Int) else M 308 x
        rw [hv2]
        funext x
        by_cases hx : x = q + p
        · rw [hx, zup_at, if_pos rfl]
        · rw [zup_ne hx, if_neg hx]
    · have ey : yit B len (0, p, lo, hi) i = some 2 := by unfold yit; rw [if_pos rfl, if_pos g41, if_neg hin]
      rw [ey]
      refine ⟨fun h => (by cases h), fun f t h => ?_⟩
      cases h
      refine ⟨M, ?_, hm, hn'⟩
      by_cases l1 : (v : Int) < lo
      · simp only [if_pos l1, zbI]
        rfl
      · have l2 : (hi : Int) < v := by omega
        simp only [if_neg l1, if_pos l2, zbI]
        rfl
  · have ey : yit B len (0, p, lo, hi) i = some 1 := by unfold yit; rw [if_pos rfl, if_neg g41]
    rw [ey]
    refine ⟨fun h => (by cases h), fun f t h => ?_⟩
    cases h
    refine ⟨M, ?_, hm, hn'⟩
    rw [if_neg (by omega)]
    rfl
theorem km_wrd (hF : qFx S R) (ht : yTa B len M0) (h : yMs B len q M0 M i) (hq : q ≤ 2210) (hp : 1 ≤ p ∧ p ≤ 3) {hi g : Nat} (hh : hi ≤ 9999) (hg : g < 27) : yMo n s S R B len q M0 M [(1, g, 0, 0), (0, p, 0, hi)] i (zcal zPP (d + 4) 208 [zA 305, zL (znth 0 qwords g : Nat), zI ((q + p : Nat) : Int), zI hi] (n, s, S, R, M)) := by
  have hBs : ∀ k, k < len → B k < 256 := fun k hk => (ht.2.2 k hk).2
  have hta := yMs_ta h.1 ht
  have e0 := km_isWord (n := n) (s := s) (d := d + 2) (S := S) (R := R) (M := M) hF hBs h.2 hg
  have e1 : yfst B len [(1, g, 0, 0), (0, p, 0, hi)] i = match yit B len (1, g, 0, 0) i with | some f => some (f, i) | none => yfst B len [(0, p, 0, hi)] (i + 1) := rfl
  rw [c_M_worded]
  simp only [qff hF, if_true]
  rw [e0]
  simp only [zbI]
  unfold yMo
  rw [e1]
  by_cases hs : ysg B len i = g
  · have ey : yit B len (1, g, 0, 0) i = none := by unfold yit; rw [if_neg (show ¬ (1 : Nat) = 0 by decide), if_pos hs]
    rw [ey, if_pos hs, if_neg (by decide)]
    obtain ⟨M1, n1, n2, n3⟩ := km_next (n := n) (s := s) (d := d + 1) hF hta (i := i + 1) h.2.1
    rw [n1]
    simp only [zbV]
    have hm1 : yMs B len q M0 M1 (i + 1) := ⟨⟨fun a a1 a2 => by rw [n3.1 a a1]; exact h.1.1 a a1 a2, fun x x1 x2 x3 x4 x5 => by rw [n3.2 x x1 x2 x3 x4 x5]; exact h.1.2.1 x x1 x2 x3 x4 x5, fun x hx => by rw [n3.1 308 (by decide)]; exact h.1.2.2 x hx⟩, n2⟩
    have := yMo_id (km_fig (n := n) (s := s) (d := d) hF ht hm1 hq hp (lo := 0) hh)
    refine ⟨fun h' => ?_, this.2⟩
    obtain ⟨M2, p1, p2, p3⟩ := this.1 h'
    refine ⟨M2, p1, p2, ?_⟩
    rw [p3, n3.1 308 (by decide)]
    rfl
  · have ey : yit B len (1, g, 0, 0) i = some 1 := by unfold yit; rw [if_neg (show ¬ (1 : Nat) = 0 by decide), if_neg hs]
    rw [ey, if_neg hs, if_pos rfl]
    refine ⟨fun h => (by cases h), fun f t h' => ?_⟩
    cases h'
    exact ⟨M, rfl, h⟩
theorem km_pair (hF : qFx S R) (ht : yTa B len M0) (h : yMs B len q M0 M i) (hq : q ≤ 2210) {hi g : Nat} (hh : hi ≤ 9999) (hg : g < 27) : yMo n s S R B len q M0 M [(0, 1, 0, 23), (1, g, 0, 0), (0, 2, 0, hi)] i (zcal zPP (d + 5) 207 [zA 305, zI (q : Int), zL (znth 0 qwords g : Nat), zI hi] (n, s, S, R, M)) := by
  rw [c_M_pair]
  simp only [qff hF, if_true, qw1 (k := q) (by omega), qwg2 (q := q) (by omega)]
  exact yMo_app (a := [(0, 1, 0, 23)]) (b := [(1, g, 0, 0), (0, 2, 0, hi)]) (kont := fun q1 => zbI (zcal zPP (d + 4) 208 [zA 305, zL (znth 0 qwords g : Nat), zI ((q + 2 : Nat) : Int), zI hi] q1) fun x4 q3 => some (zI x4, q3)) (km_fig (d := d + 1) (lo := 0) (hi := 23) hF ht h hq (by decide) (by decide)) (fun M' h1 h2 => yMo_id (km_wrd hF ht h1 hq (by decide) hh hg))
/-- the items of a deed, but an oak's -/
def yits (e : Nat) : List yI := if e = 4 then [(0, 1, 0, 23), (1, 17, 0, 0), (0, 2, 0, 3)] else if e = 5 then [(0, 1, 0, 99)] else if e = 9 then [(0, 1, 1, 60)] else if e = 7 then [(0, 1, 0, 23), (1, 15, 0, 0), (0, 2, 0, 4)] else [(0, 1, 0, 23), (1, 15, 0, 0), (0, 2, 0, 4), (1, 16, 0, 0), (0, 3, 0, 4)]
theorem km_lendClause (hF : qFx S R) (ht : yTa B len M0) (h : yMs B len q M0 M i) (hq : q ≤ 2210) : yMo n s S R B len q M0 M [(0, 1, 0, 23), (1, 15, 0, 0), (0, 2, 0, 4), (1, 16, 0, 0), (0, 3, 0, 4)] i (zcal zPP (d + 7) 209 [zA 305, zI (q : Int)] (n, s, S, R, M)) := by
  rw [c_M_lendClause]
  simp only [qff hF, if_true, qwg3 (q := q) (by omega)]
  rw [yw_of]
  simp only [zbL]
  exact yMo_app (a := [(0, 1, 0, 23), (1, 15, 0, 0), (0, 2, 0, 4)]) (b := [(1, 16, 0, 0), (0, 3, 0, 4)]) (kont := fun q3 => zbL (zcal zPP (d + 6) 201 [zI 116, zI 111] q3) fun x6 q5 => zbI (zcal zPP (d + 6) 208 [zA 305, zL x6, zI ((q + 3 : Nat) : Int), zI 4] q5) fun x8 q7 => some (zI x8, q7)) (km_pair (d := d + 1) (hi := 4) (g := 15) hF ht h hq (by decide) (by decide)) (fun M' h1 h2 => by
    show yMo n s S R B len q M0 M' _ _ (zbL (zcal zPP (d + 6) 201 [zI 116, zI 111] (n, s, S, R, M')) fun x6 q5 => zbI (zcal zPP (d + 6) 208 [zA 305, zL x6, zI ((q + 3 : Nat) : Int), zI 4] q5) fun x8 q7 => some (zI x8, q7))
    rw [yw_to]
    exact yMo_id (km_wrd (d := d + 2) (g := 16) (hi := 4) hF ht h1 hq (by decide) (by decide) (by decide)))
theorem km_body (hF : qFx S R) (ht : yTa B len M0) (h : yMs B len q M0 M i) (hq : q ≤ 2210) {e : Nat} (he : 4 ≤ e ∧ e ≤ 9) : yMo n s S R B len q M0 M (yits e) i (zcal zPP (d + 8) 204 [zA 305, zI e, zI (q : Int)] (n, s, S, R, M)) := by
  rw [c_M_body]
  simp only [qff hF, if_true, qw1 (k := q) (by omega)]
  have : e = 4 ∨ e = 5 ∨ e = 6 ∨ e = 7 ∨ e = 8 ∨ e = 9 := by omega
  rcases this with h' | h' | h' | h' | h' | h' <;> subst h'
  · rw [if_neg (by decide), if_pos (by decide), yw_is (d := d + 1)]
    exact yMo_id (km_pair (d := d + 2) (g := 17) (hi := 3) hF ht h hq (by decide) (by decide))
  · rw [if_neg (by decide), if_neg (by decide), if_pos (by decide)]
    exact yMo_id (km_fig (d := d + 4) (p := 1) (lo := 0) (hi := 99) hF ht h hq (by decide) (by decide))
  · rw [if_neg (by decide), if_neg (by decide), if_neg (by decide), if_pos (by decide)]
    exact yMo_id (km_lendClause hF ht h hq)
  · rw [if_neg (by decide), if_neg (by decide), if_neg (by decide), if_neg (by decide), if_pos (by decide), yw_of (d := d + 1)]
    exact yMo_id (km_pair (d := d + 2) (g := 15) (hi := 4) hF ht h hq (by decide) (by decide))
  · rw [if_neg (by decide), if_neg (by decide), if_neg (by decide), if_neg (by decide), if_neg (by decide), if_pos (by decide)]
    exact yMo_id (km_lendClause hF ht h hq)
  · rw [if_neg (by decide), if_neg (by decide), if_neg (by decide), if_neg (by decide), if_neg (by decide), if_neg (by decide), if_pos (by decide)]
    exact yMo_id (km_fig (d := d + 4) (p := 1) (lo := 1) (hi := 60) hF ht h hq (by decide) (by decide))
end QF
