/-! DEEDS: both sides -/
def ydo (B : Nat → Nat) (len e i : Nat) : (Nat × Nat) ⊕ (Nat × Int × Int × Int) :=
  if e = 3 then (match yoak B len 302 (fun _ => false) i with
    | .inl ft => .inl ft
    | .inr jf => .inr (jf.1, (zsn jf.2 24 : Nat), 0, 0))
  else (match yfst B len (yits e) i with
    | some ft => .inl ft
    | none => .inr (i + (yits e).length, (ywo B len i : Nat), (ywo B len (i + 2) : Nat), (ywo B len (i + 4) : Nat)))
def yPv (e : Nat) (F : Nat → Int) (q : Nat) (v1 v2 v3 : Int) : Prop := F (q + 1) = v1 ∧ (e = 4 ∨ e = 6 ∨ e = 7 ∨ e = 8 → F (q + 2) = v2) ∧ (e = 6 ∨ e = 8 → F (q + 3) = v3)
theorem yPv_its {B : Nat → Nat} {len e i q : Nat} (he : 4 ≤ e ∧ e ≤ 9) (F : Nat → Int) : yPv e (yvs B len q (yits e) i F) q (ywo B len i : Nat) (ywo B len (i + 2) : Nat) (ywo B len (i + 4) : Nat) := by
  have : e = 4 ∨ e = 5 ∨ e = 6 ∨ e = 7 ∨ e = 8 ∨ e = 9 := by omega
  rcases this with h' | h' | h' | h' | h' | h' <;> subst h' <;> simp [yPv, yits, yvs]
theorem yits_g {e : Nat} : ∀ it ∈ yits e, (it.1 = 0 → 1 ≤ it.2.1 ∧ it.2.1 ≤ 3) ∧ (it.1 ≠ 0 → it.2.1 ≠ 43) := by
  unfold yits
  (repeat' split) <;> decide
theorem yits9 {B : Nat → Nat} {len i : Nat} (h : yfst B len (yits 9) i = none) : 1 ≤ ywo B len i ∧ ywo B len i ≤ 60 := by
  have h : (match yit B len (0, 1, 1, 60) i with | some f => some (f, i) | none => none) = none := h
  unfold yit at h
  by_cases h1 : ysg B len i = 41
  · by_cases h2 : 1 ≤ ywo B len i ∧ ywo B len i ≤ 60
    · exact h2
    · rw [if_pos rfl, if_pos h1, if_neg h2] at h; cases h
  · rw [if_pos rfl, if_neg h1] at h; cases h
section QF
variable {S : Nat → Nat × Nat} {R : Nat → Nat → Nat} {M M' M0 M1 M2 M3 : Nat → Nat → Int} {n s d r : Nat} {B : Nat → Nat} {len N i j c k p b q e : Nat}
theorem kd_deed (hF : qFx S R) (h0 : yD0 B len N M0 c k) (hN : ysg B len N = 43) (he : 3 ≤ e ∧ e ≤ 9) (h : yDs M0 M k i) (hi : 0 < i ∧ i ≤ N) :
    (∀ f t, ydo B len e i = .inl (f, t) → f ≠ 0 ∧ ∃ M', zcal zPP (d + 4) 131 [zA 295, zI e] (n, s, S, R, M) = some (zU, (n, s, S, R, M')) ∧ yDb M0 M' k f (ypl B len t)) ∧
    ∀ j v1 v2 v3, ydo B len e i = .inr (j, v1, v2, v3) → i < j ∧ j ≤ N ∧ (e = 9 → 1 ≤ v1 ∧ v1 ≤ 60) ∧ ∃ M', zcal zPP (d + 4) 131 [zA 295, zI e] (n, s, S, R, M) = some (zU, (n, s, S, R, M')) ∧ yDs M0 M' k j ∧ yPv e (M' 300) (4 * k) v1 v2 v3 := by
  have hk24 := h0.2.2.2.1
  have hN300 := h0.2.2.2.2.2
  have h10 : M 295 10 = k := by rw [h.2.2.2.1 10 (by decide) (by decide) (by decide)]; exact h0.2.2.1
  by_cases h3 : e = 3
  · subst h3
    have ed : ydo B len 3 i = (match yoak B len 302 (fun _ => false) i with | .inl ft => .inl ft | .inr jf => .inr (jf.1, (zsn jf.2 24 : Nat), 0, 0)) := if_pos rfl
    obtain ⟨k1, k2⟩ := kd_oak (n := n) (s := s) (d := d) hF h0 hN 302 i 0 (fun _ => false) M zU (by omega) hi.2 hi.1 h
    have ec : zcal zPP (d + 4) 131 [zA 295, zI ((3 : Nat) : Int)] (n, s, S, R, M) = zbV (zR zPP (d + 2) 132 19 [zA 295, zI ((4 * k + 1 : Nat) : Int), zI (zsn (fun _ => false) 24 : Nat), zI 1, zI 0, zU] [] (n, s, S, R, M)) fun q => some (zU, q) := by
      rw [c_Reader_readDeed]
      simp only [qff hF, if_true]
      rw [if_pos (show ((3 : Nat) : Int) = 3 by rfl), c_Reader_readOak]
      simp only [qff hF, if_true, h10]
      have ew := qwf (k := k) (p := 1) hk24 (by decide)
      have ew : zw32 (zw32 ((k : Int) * 4) + 1) = ((4 * k + 1 : Nat) : Int) := ew
      simp only [ew]
      clear ew
      rw [if_neg (by omega), if_pos (by omega)]
      have : zsn (fun _ => false) 24 = 0 := by decide
      rw [this]
      rfl
    rw [ec, ed]
    cases hy : yoak B len 302 (fun _ => false) i with
    | inl ft =>
      obtain ⟨f, t⟩ := ft
      refine ⟨fun f' t' h' => ?_, fun j v1 v2 v3 h' => (by cases h')⟩
      cases h'
      obtain ⟨M', q1, q2⟩ := k1 t f hy
      have q1 : zR zPP (d + 2) 132 19 [zA 295, zI ((4 * k + 1 : Nat) : Int), zI (zsn (fun _ => false) 24 : Nat), zI 1, zI 0, zU] [] (n, s, S, R, M) = some (zU, (n, s, S, R, M')) := q1
      exact ⟨q2.2.1, M', by rw [q1]; rfl, q2⟩
    | inr jf =>
      obtain ⟨j, f⟩ := jf
      refine ⟨fun f' t' h' => (by cases h'), fun j v1 v2 v3 h' => ?_⟩
      cases h'
      obtain ⟨a1, a2, M', q1, q2, q3⟩ := k2 j f hy
      have q1 : zR zPP (d + 2) 132 19 [zA 295, zI ((4 * k + 1 : Nat) : Int), zI (zsn (fun _ => false) 24 : Nat), zI 1, zI 0, zU] [] (n, s, S, R, M) = some (zU, (n, s, S, R, M')) := q1
      exact ⟨a2, a1, fun z => absurd z (by decide), M', by rw [q1]; rfl, q2, q3, fun z => absurd z (by decide), fun z => absurd z (by decide)⟩
  · have ed : ydo B len e i = (match yfst B len (yits e) i with | some ft => .inl ft | none => .inr (i + (yits e).length, (ywo B len i : Nat), (ywo B len (i + 2) : Nat), (ywo B len (i + 4) : Nat))) := if_neg h3
    obtain ⟨k1, k2⟩ := kd_its (n := n) (s := s) (d := d + 1) hF h0 hN (a := yits e) (i := i) (M := M) yits_g h hi.2
    have hin := yfst_in hN (a := yits e) (i := i) (fun it h' => (yits_g it h').2) hi.2
    have ec : zcal zPP (d + 4) 131 [zA 295, zI e] (n, s, S, R, M) = yicr (d + 3) (yits e) (n, s, S, R, M) := by
      rw [c_Reader_readDeed]
      simp only [qff hF, if_true]
      have : e = 4 ∨ e = 5 ∨ e = 6 ∨ e = 7 ∨ e = 8 ∨ e = 9 := by omega
      rcases this with h' | h' | h' | h' | h' | h' <;> subst h' <;> rfl
    have hlen : 0 < (yits e).length := by unfold yits; (repeat' split) <;> decide
    rw [ec, ed]
    cases hy : yfst B len (yits e) i with
    | some ft =>
      obtain ⟨f, t⟩ := ft
      refine ⟨fun f' t' h' => ?_, fun j v1 v2 v3 h' => (by cases h')⟩
      cases h'
      obtain ⟨M', q1, q2⟩ := k2 f t hy
      exact ⟨q2.2.1, M', q1, q2⟩
    | none =>
      refine ⟨fun f' t' h' => (by cases h'), fun j v1 v2 v3 h' => ?_⟩
      cases h'
      obtain ⟨M', q1, q2, q3⟩ := k1 hy
      have hl := hin.2 hy
      refine ⟨by omega, hl, fun z => ?_, M', q1, q2, ?_⟩
      · subst z
        have := yits9 hy
        omega
      · rw [q3]
        exact yPv_its (by omega) _
theorem km_deed (hF : qFx S R) (ht : yTa B len M0) (hN : ysg B len N = 43) (h300 : N ≤ 300) (he : 3 ≤ e ∧ e ≤ 9) (hq : q ≤ 2210) (h : yMs B len q M0 M i) (hi : i ≤ N) :
    (∀ f t, ydo B len e i = .inl (f, t) → ∃ M', zcal zPP (d + 8) 204 [zA 305, zI e, zI (q : Int)] (n, s, S, R, M) = some (zI f, (n, s, S, R, M')) ∧ yMs B len q M0 M' t) ∧
    ∀ j v1 v2 v3, ydo B len e i = .inr (j, v1, v2, v3) → ∃ M', zcal zPP (d + 8) 204 [zA 305, zI e, zI (q : Int)] (n, s, S, R, M) = some (zI 0, (n, s, S, R, M')) ∧ yMs B len q M0 M' j ∧ yPv e (M' 308) q v1 v2 v3 := by
  by_cases h3 : e = 3
  · subst h3
    have ed : ydo B len 3 i = (match yoak B len 302 (fun _ => false) i with | .inl ft => .inl ft | .inr jf => .inr (jf.1, (zsn jf.2 24 : Nat), 0, 0)) := if_pos rfl
    obtain ⟨k1, k2⟩ := km_oak (n := n) (s := s) (d := d + 3) hF ht hq hN 302 i (fun _ => false) M zU (by omega) hi h
    have ec : zcal zPP (d + 8) 204 [zA 305, zI ((3 : Nat) : Int), zI (q : Int)] (n, s, S, R, M) = zbI (zR zPP (d + 6) 205 2 [zA 305, zI (q : Int), zI (zsn (fun _ => false) 24 : Nat), zU] [] (n, s, S, R, M)) fun x q => some (zI x, q) := by
      rw [c_M_body]
      simp only [qff hF, if_true]
      rw [if_pos (show ((3 : Nat) : Int) = 3 by rfl), c_M_oakClause]
      simp only [qff hF, if_true]
      have : zsn (fun _ => false) 24 = 0 := by decide
      rw [this]
      rfl
    rw [ec, ed]
    cases hy : yoak B len 302 (fun _ => false) i with
    | inl ft =>
      obtain ⟨f, t⟩ := ft
      refine ⟨fun f' t' h' => ?_, fun j v1 v2 v3 h' => (by cases h')⟩
      cases h'
      obtain ⟨M', q1, q2⟩ := k1 t f hy
      have q1 : zR zPP (d + 6) 205 2 [zA 305, zI (q : Int), zI (zsn (fun _ => false) 24 : Nat), zU] [] (n, s, S, R, M) = some (zI f, (n, s, S, R, M')) := q1
      exact ⟨M', by rw [q1]; rfl, q2⟩
    | inr jf =>
      obtain ⟨j, f⟩ := jf
      refine ⟨fun f' t' h' => (by cases h'), fun j v1 v2 v3 h' => ?_⟩
      cases h'
      obtain ⟨M', q1, q2, q3⟩ := k2 j f hy
      have q1 : zR zPP (d + 6) 205 2 [zA 305, zI (q : Int), zI (zsn (fun _ => false) 24 : Nat), zU] [] (n, s, S, R, M) = some (zI 0, (n, s, S, R, M')) := q1
      exact ⟨M', by rw [q1]; rfl, q2, q3, fun z => absurd z (by decide), fun z => absurd z (by decide)⟩
  · have ed : ydo B len e i = (match yfst B len (yits e) i with | some ft => .inl ft | none => .inr (i + (yits e).length, (ywo B len i : Nat), (ywo B len (i + 2) : Nat), (ywo B len (i + 4) : Nat))) := if_neg h3
    obtain ⟨k1, k2⟩ := km_body (n := n) (s := s) (d := d) hF ht h hq (e := e) (by omega)
    rw [ed]
    cases hy : yfst B len (yits e) i with
    | some ft =>
      obtain ⟨f, t⟩ := ft
      refine ⟨fun f' t' h' => ?_, fun j v1 v2 v3 h' => (by cases h')⟩
      cases h'
      exact k2 f t hy
    | none =>
      refine ⟨fun f' t' h' => (by cases h'), fun j v1 v2 v3 h' => ?_⟩
      cases h'
      obtain ⟨M', q1, q2, q3⟩ := k1 hy
      refine ⟨M', q1, q2, ?_⟩
      rw [q3]
      exact yPv_its (by omega) _
end QF
