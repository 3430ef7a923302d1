/-! WHAT THE CODES MEAN: both codes of what is read say the same -/
def yat {α : Type} (O : Nat → α) (c : Nat) : List α → Prop
  | [] => True
  | x :: L => O c = x ∧ yat O (c + 1) L
theorem yat_app {α : Type} {O : Nat → α} : ∀ {A B : List α} {c : Nat}, yat O c (A ++ B) ↔ yat O c A ∧ yat O (c + A.length) B
  | [], B, c => ⟨fun h => ⟨trivial, h⟩, fun h => h.2⟩
  | x :: A, B, c => by
    show (O c = x ∧ yat O (c + 1) (A ++ B)) ↔ (O c = x ∧ yat O (c + 1) A) ∧ yat O (c + (A.length + 1)) B
    rw [yat_app, show c + (A.length + 1) = c + 1 + A.length by omega, and_assoc]
theorem qcr_add {E : qE} {O : Nat → Nat × Nat} {stop : Nat} : ∀ {a i : Nat} {st : List Int} {i' : Nat} {st' : List Int} (b : Nat), qcr E O stop a i st = some (i', st') → qcr E O stop (a + b) i st = qcr E O stop b i' st'
  | 0, i, st, i', st', b, h => by
    have h : some (i, st) = some (i', st') := h
    cases h
    rw [Nat.zero_add]
  | a + 1, i, st, i', st', b, h => by
    rw [show a + 1 + b = (a + b) + 1 by omega]
    show (if i < stop then (match qc1 E O i st with | some c => qcr E O stop (a + b) c.1 c.2 | none => none) else none) = _
    have h : (if i < stop then (match qc1 E O i st with | some c => qcr E O stop a c.1 c.2 | none => none) else none) = some (i', st') := h
    by_cases hi : i < stop
    · rw [if_pos hi] at h ⊢
      cases hc : qc1 E O i st with
      | none => rw [hc] at h; cases h
      | some c =>
        rw [hc] at h
        exact qcr_add b h
    · rw [if_neg hi] at h; cases h
theorem qcr_one {E : qE} {O : Nat → Nat × Nat} {stop i : Nat} {st : List Int} {r : Nat × List Int} (hi : i < stop) (h : qc1 E O i st = some r) : qcr E O stop 1 i st = some r := by
  show (if i < stop then (match qc1 E O i st with | some c => qcr E O stop 0 c.1 c.2 | none => none) else none) = _
  rw [if_pos hi, h]
  rfl
theorem qmr_add {E : qE} {C : Nat → Nat × Int} : ∀ {a i : Nat} {vs ts vs' ts' : List Int} (b : Nat), qmr E C a i vs ts = some (vs', ts') → qmr E C (a + b) i vs ts = qmr E C b (i + a) vs' ts'
  | 0, i, vs, ts, vs', ts', b, h => by
    have h : some (vs, ts) = some (vs', ts') := h
    cases h
    rw [Nat.zero_add]
    rfl
  | a + 1, i, vs, ts, vs', ts', b, h => by
    rw [show a + 1 + b = (a + b) + 1 by omega, show i + (a + 1) = i + 1 + a by omega]
    show (match qm1 E (C i).1 (C i).2 vs ts with | some c => qmr E C (a + b) (i + 1) c.1 c.2 | none => none) = _
    have h : (match qm1 E (C i).1 (C i).2 vs ts with | some c => qmr E C a (i + 1) c.1 c.2 | none => none) = some (vs', ts') := h
    cases hc : qm1 E (C i).1 (C i).2 vs ts with
    | none => rw [hc] at h; cases h
    | some c =>
      rw [hc] at h
      exact qmr_add b h
theorem qmr_one {E : qE} {C : Nat → Nat × Int} {i : Nat} {vs ts : List Int} {r : List Int × List Int} (h : qm1 E (C i).1 (C i).2 vs ts = some r) : qmr E C 1 i vs ts = some r := by
  show (match qm1 E (C i).1 (C i).2 vs ts with | some c => qmr E C 0 (i + 1) c.1 c.2 | none => none) = _
  rw [h]
  rfl
/-- does a mode ask -/
def yas (m : Nat) : Bool := decide (m = 1) || decide (m = 5) || decide (m = 6) || decide (m = 9) || decide (m = 10)
def yrg (a : Bool) (x : Int) : Prop := if a = true then x = 0 ∨ x = 1 else -1000000 ≤ x ∧ x ≤ 1000000
/-- room on the piles -/
def ybt (m : Nat) : Nat := if m = 0 then 6 else if m = 3 ∨ m = 7 then 5 else if m = 4 ∨ m = 8 then 4 else if m = 1 then 3 else if m = 5 ∨ m = 9 then 2 else 1
def yMc (m o : Nat) (Lc : Nat → List (Nat × Nat)) (D : qE → Int → Int) : Prop := ∀ (E : qE), qGE E → ∀ (O : Nat → Nat × Nat) (c stop : Nat) (st : List Int) (x : Int), yat O c (Lc c) → c + (Lc c).length ≤ stop → st.length ≤ 7 * o + ybt m → yrg (yas m) x → ∃ k, qcr E O stop k c (if 7 ≤ m then x :: st else st) = some (c + (Lc c).length, D E x :: st)
def yMm (m o : Nat) (Lm : List (Nat × Int)) (D : qE → Int → Int) : Prop := ∀ (E : qE), qGE E → ∀ (C : Nat → Nat × Int) (c : Nat) (vs ts : List Int) (x : Int), yat C c Lm → vs.length ≤ 7 * o + ybt m → ts.length ≤ 7 * o + ybt m → yrg (yas m) x →
  qmr E C Lm.length c (if 7 ≤ m ∧ yas m = false then x :: vs else vs) (if 7 ≤ m ∧ yas m = true then x :: ts else ts) = if yas m = true then some (vs, D E x :: ts) else some (D E x :: vs, ts)
def yNok (m o : Nat) (Lc : Nat → List (Nat × Nat)) (Lm : List (Nat × Int)) (D : qE → Int → Int) : Prop := yMc m o Lc D ∧ yMm m o Lm D ∧ ∀ E, qGE E → ∀ x, yrg (yas m) x → yrg (yas m) (D E x)
def yN (m o : Nat) : yO → Prop
  | .inl _ => True
  | .inr (_, Lc, Lm, D) => yNok m o Lc Lm D
/-! the rules -/
theorem yrgV {x : Int} : yrg false x ↔ -1000000 ≤ x ∧ x ≤ 1000000 := by unfold yrg; rw [if_neg (by decide)]
theorem yrgA {x : Int} : yrg true x ↔ x = 0 ∨ x = 1 := by unfold yrg; rw [if_pos rfl]
theorem yrg0 (a : Bool) : yrg a 0 := by cases a <;> simp [yrg]
theorem yn1 {o w : Nat} (ho : o ≤ 8) (hw : w ≤ 9999) : yNok 0 o (fun _ => [(41, w)]) [(0, (w : Int))] (fun _ _ => (w : Int)) := by
  refine ⟨fun E hE O c stop st x h1 h2 h3 h4 => ⟨1, ?_⟩, fun E hE C c vs ts x h1 h2 h3 h4 => ?_, fun E hE x hx => yrgV.mpr (show -1000000 ≤ (w : Int) ∧ (w : Int) ≤ 1000000 by omega)⟩
  · have h1 : O c = (41, w) := h1.1
    have h2 : c + 1 ≤ stop := h2
    have h3 : st.length ≤ 7 * o + 6 := h3
    rw [if_neg (show ¬ 7 ≤ 0 by decide)]
    refine qcr_one (by omega) ?_
    unfold qc1
    rw [h1, if_pos rfl, if_pos (by omega)]
    rfl
  · have h1 : C c = (0, (w : Int)) := h1.1
    have h2 : vs.length ≤ 7 * o + 6 := h2
    show qmr E C 1 c vs ts = _
    refine qmr_one ?_
    unfold qm1
    rw [h1]
    show (if 0 ≤ 1 then (if vs.length < 330 then some ((if 0 = 0 then (w : Int) else _) :: vs, ts) else none) else _) = some ((w : Int) :: vs, ts)
    rw [if_pos (by decide), if_pos (by omega), if_pos rfl]
theorem yn2 {o g : Nat} (ho : o ≤ 8) (hg : qisn g = true) : yNok 0 o (fun _ => [(g, 0)]) [(1, (qnm g : Int))] (fun E _ => E.1 (qnm g)) := by
  refine ⟨fun E hE O c stop st x h1 h2 h3 h4 => ⟨1, ?_⟩, fun E hE C c vs ts x h1 h2 h3 h4 => ?_, fun E hE x hx => yrgV.mpr (hE.1 _)⟩
  · have h1 : O c = (g, 0) := h1.1
    have h2 : c + 1 ≤ stop := h2
    have h3 : st.length ≤ 7 * o + 6 := h3
    have hgg : g ≠ 41 ∧ g ≠ 22 ∧ g ≠ 21 := by
      refine ⟨fun z => ?_, fun z => ?_, fun z => ?_⟩ <;> (rw [z] at hg; exact absurd hg (by decide))
    refine qcr_one (by omega) ?_
    unfold qc1
    rw [h1]
    show (if g = 41 then _ else if g = 22 then _ else if g = 21 then _ else if qisn g = true then (if st.length < 80 then some (c + 1, E.1 (qnm g) :: st) else none) else _) = _
    rw [if_neg hgg.1, if_neg hgg.2.1, if_neg hgg.2.2, if_pos hg, if_pos (by omega)]
    rfl
  · have h1 : C c = (1, (qnm g : Int)) := h1.1
    have h2 : vs.length ≤ 7 * o + 6 := h2
    show qmr E C 1 c vs ts = _
    refine qmr_one ?_
    unfold qm1
    rw [h1]
    show (if 1 ≤ 1 then (if vs.length < 330 then some ((if 1 = 0 then (qnm g : Int) else E.1 (qnm g : Int).toNat) :: vs, ts) else none) else _) = some (E.1 (qnm g) :: vs, ts)
    rw [if_pos (by decide), if_pos (by omega), if_neg (by decide), Int.toNat_natCast]
/-- what is read deeper may stand here -/
theorem yn_up {m m' o : Nat} {Lc : Nat → List (Nat × Nat)} {Lm : List (Nat × Int)} {D : qE → Int → Int} (hm : m < 7) (hm' : m' < 7) (ha : yas m = yas m') (hb : 7 * o + ybt m' ≤ 7 * (o + 1) + ybt m) (h : yNok m (o + 1) Lc Lm D) : yNok m' o Lc Lm D := by
  obtain ⟨a1, a2, a3⟩ := h
  have e1 : ¬ 7 ≤ m := by omega
  have e2 : ¬ 7 ≤ m' := by omega
  refine ⟨fun E hE O c stop st x h1 h2 h3 h4 => ?_, fun E hE C c vs ts x h1 h2 h3 h4 => ?_, fun E hE x hx => ?_⟩
  · have := a1 E hE O c stop st x h1 h2 (by omega) (by rw [ha]; exact h4)
    rw [if_neg e1] at this
    rw [if_neg e2]
    exact this
  · have := a2 E hE C c vs ts x h1 (by omega) (by omega) (by rw [ha]; exact h4)
    rw [if_neg (fun z => e1 z.1), if_neg (fun z => e1 z.1), ha] at this
    rw [if_neg (fun z => e2 z.1), if_neg (fun z => e2 z.1)]
    exact this
  · rw [← ha] at hx ⊢
    exact a3 E hE x hx
theorem qneg_in {x : Int} (h : -1000000 ≤ x ∧ x ≤ 1000000) : zw32 (-x) = -x := qz (by omega) (by omega)
theorem yn6 {o g : Nat} {Lc : Nat → List (Nat × Nat)} {Lm : List (Nat × Int)} {D : qE → Int → Int} (ho : o < 8) (hg : g = 34 ∨ g = 18 ∨ g = 19) (h : yNok 0 (o + 1) Lc Lm D) : yNok 0 o (fun c => Lc c ++ [(ycs g, 0)]) (Lm ++ [(ymu g, 0)]) (fun E x => qone E (ycs g) (D E x)) := by
  obtain ⟨a1, a2, a3⟩ := h
  have hv : ∀ E, qGE E → ∀ x, yrg false x → -1000000 ≤ D E x ∧ D E x ≤ 1000000 := fun E hE x hx => yrgV.mp (a3 E hE x hx)
  have hone : ∀ E, qGE E → ∀ v, -1000000 ≤ v ∧ v ≤ 1000000 → qone E (ycs g) v = qmo E (ymu g) v ∧ -1000000 ≤ qone E (ycs g) v ∧ qone E (ycs g) v ≤ 1000000 := fun E hE v hv => by
    rcases hg with h | h | h
    · subst h
      have e1 : qone E (ycs 34) v = zw32 (-v) := by simp [qone, ycs]
      have e2 : qmo E (ymu 34) v = -v := by simp [qmo, ymu]
      rw [e1, e2, qneg_in hv]
      omega
    · subst h
      have e1 : qone E (ycs 18) v = qroot v := by simp [qone, ycs]
      have e2 : qmo E (ymu 18) v = qroot v := by simp [qmo, ymu]
      rw [e1, e2]
      have := qroot_in v
      omega
    · subst h
      have e1 : qone E (ycs 19) v = E.2 v := by simp [qone, ycs]
      have e2 : qmo E (ymu 19) v = E.2 v := by simp [qmo, ymu]
      rw [e1, e2]
      have := hE.2 v
      omega
  refine ⟨fun E hE O c stop st x h1 h2 h3 h4 => ?_, fun E hE C c vs ts x h1 h2 h3 h4 => ?_, fun E hE x hx => yrgV.mpr (hone E hE _ (hv E hE x hx)).2⟩
  · have h1 := yat_app.mp h1
    have h2 : c + (Lc c ++ [(ycs g, 0)]).length ≤ stop := h2
    rw [List.length_append] at h2
    have h2 : c + ((Lc c).length + 1) ≤ stop := h2
    have h3 : st.length ≤ 7 * o + 6 := h3
    obtain ⟨k, hk⟩ := a1 E hE O c stop st x h1.1 (by omega) (by show st.length ≤ 7 * (o + 1) + 6; omega) h4
    refine ⟨k + 1, ?_⟩
    rw [if_neg (by decide)] at hk ⊢
    rw [qcr_add 1 hk]
    have e : O (c + (Lc c).length) = (ycs g, 0) := h1.2.1
    refine (qcr_one (by omega) (r := (c + (Lc c).length + 1, qone E (ycs g) (D E x) :: st)) ?_).trans ?_
    · unfold qc1
      rw [e]
      rcases hg with h | h | h <;> (subst h; rfl)
    · show some _ = some (c + (Lc c ++ [(ycs g, 0)]).length, _)
      rw [List.length_append]
      rfl
  · have h1 := yat_app.mp h1
    have h2 : vs.length ≤ 7 * o + 6 := h2
    have h3 : ts.length ≤ 7 * o + 6 := h3
    have hk := a2 E hE C c vs ts x h1.1 (by show vs.length ≤ 7 * (o + 1) + 6; omega) (by show ts.length ≤ 7 * (o + 1) + 6; omega) h4
    have hk : qmr E C Lm.length c vs ts = some (D E x :: vs, ts) := hk
    show qmr E C (Lm ++ [(ymu g, 0)]).length c vs ts = some (qone E (ycs g) (D E x) :: vs, ts)
    rw [List.length_append]
    show qmr E C (Lm.length + 1) c vs ts = _
    rw [qmr_add 1 hk]
    have e : C (c + Lm.length) = (ymu g, 0) := h1.2.1
    refine qmr_one ?_
    rw [(hone E hE _ (hv E hE x h4)).1]
    unfold qm1
    rw [e]
    rcases hg with h | h | h <;> (subst h; rfl)
/-- the two sides of what stands between two -/
theorem qtwo_mt {g : Nat} {a b : Int} (hg : g = 33 ∨ g = 34 ∨ g = 35 ∨ g = 36) (ha : -1000000 ≤ a ∧ a ≤ 1000000) (hb : -1000000 ≤ b ∧ b ≤ 1000000) : qtwo g a b = qmt (ymb g) a b ∧ -1000000 ≤ qtwo g a b ∧ qtwo g a b ≤ 1000000 := by
  have h2 := qmt_in (ymb g) a b
  suffices h : qtwo g a b = qmt (ymb g) a b by rw [h]; exact ⟨rfl, h2⟩
  rcases hg with h | h | h | h
  · subst h; simp [qtwo, qmt, ymb]
  · subst h; simp [qtwo, qmt, ymb]
  · subst h; simp [qtwo, qmt, ymb]
  · subst h
    have e1 : qtwo 36 a b = if b = 0 then 0 else zw32 (a.tdiv b) := by simp [qtwo]
    have e2 : qmt (ymb 36) a b = if b = 0 then 0 else qclip (a.tdiv b) := by simp [qmt, ymb]
    rw [e1, e2]
    by_cases h0 : b = 0
    · rw [if_pos h0, if_pos h0]
    · rw [if_neg h0, if_neg h0]
      have hd : -1000000 ≤ a.tdiv b ∧ a.tdiv b ≤ 1000000 := by
        have h1 : (a.tdiv b).natAbs = a.natAbs / b.natAbs := Int.natAbs_tdiv a b
        have h2 : a.natAbs / b.natAbs ≤ a.natAbs := Nat.div_le_self _ _
        omega
      rw [qz (by omega) (by omega)]
      unfold qclip
      rw [if_neg (by omega), if_neg (by omega)]
theorem qtwo_jn {g : Nat} {a b : Int} (hg : g = 25 ∨ g = 24) (ha : a = 0 ∨ a = 1) (hb : b = 0 ∨ b = 1) : qtwo g a b = qjn (ymb g) a b ∧ (qtwo g a b = 0 ∨ qtwo g a b = 1) := by
  rcases hg with h | h <;> rcases ha with h2 | h2 <;> rcases hb with h3 | h3 <;> (subst h; subst h2; subst h3; decide)
theorem qtwo_ask {g : Nat} {a b : Int} (hg : ycm g = true) : qtwo g a b = qask (ymb g) a b := by
  have : g = 27 ∨ g = 28 ∨ g = 29 ∨ g = 30 ∨ g = 31 ∨ g = 32 := by
    unfold ycm at hg
    simp at hg
    omega
  rcases this with h | h | h | h | h | h <;> (subst h; rfl)
theorem yop_g {l g : Nat} (hl : l < 4) (h : yop l g = true) : (l < 2 ∧ (g = 33 ∨ g = 34 ∨ g = 35 ∨ g = 36)) ∨ (2 ≤ l ∧ (g = 25 ∨ g = 24)) := by
  unfold yop at h
  by_cases l0 : l = 0
  · rw [if_pos l0] at h; simp at h; omega
  rw [if_neg l0] at h
  by_cases l1 : l = 1
  · rw [if_pos l1] at h; simp at h; omega
  rw [if_neg l1] at h
  by_cases l2 : l = 2
  · rw [if_pos l2] at h; simp at h; omega
  rw [if_neg l2] at h; simp at h; omega
theorem yl_f {l : Nat} (hl : l < 4) : yas (ybs l) = yas (7 + l) ∧ yas (3 + l) = yas (7 + l) ∧ ybt (ybs l) = ybt (7 + l) + 1 ∧ ybt (3 + l) = ybt (7 + l) ∧ ybs l < 7 ∧ ybt (7 + l) ≤ 5 ∧ (yas (7 + l) = true ↔ 2 ≤ l) := by
  have : ∀ l, l < 4 → yas (ybs l) = yas (7 + l) ∧ yas (3 + l) = yas (7 + l) ∧ ybt (ybs l) = ybt (7 + l) + 1 ∧ ybt (3 + l) = ybt (7 + l) ∧ ybs l < 7 ∧ ybt (7 + l) ≤ 5 ∧ (yas (7 + l) = true ↔ 2 ≤ l) := by decide
  exact this l hl
theorem ynr0 {l o : Nat} (hl : l < 4) : yNok (7 + l) o (fun _ => []) [] (fun _ x => x) := by
  refine ⟨fun E hE O c stop st x h1 h2 h3 h4 => ⟨0, ?_⟩, fun E hE C c vs ts x h1 h2 h3 h4 => ?_, fun E hE x hx => hx⟩
  · rw [if_pos (by omega)]; rfl
  · show some ((if 7 ≤ 7 + l ∧ yas (7 + l) = false then x :: vs else vs), (if 7 ≤ 7 + l ∧ yas (7 + l) = true then x :: ts else ts)) = _
    cases hy : yas (7 + l) with
    | true => rw [if_neg (fun z => by cases z.2), if_pos ⟨by omega, rfl⟩, if_pos rfl]
    | false => rw [if_pos ⟨by omega, rfl⟩, if_neg (fun z => by cases z.2), if_neg (by decide)]
theorem qc1_two {E : qE} {O : Nat → Nat × Nat} {i g : Nat} {a b : Int} {st : List Int} (h : O i = (g, 0)) (hg : (g = 33 ∨ g = 34 ∨ g = 35 ∨ g = 36) ∨ (g = 25 ∨ g = 24) ∨ ycm g = true) : qc1 E O i (b :: a :: st) = some (i + 1, qtwo g a b :: st) := by
  have hgg : g = 33 ∨ g = 34 ∨ g = 35 ∨ g = 36 ∨ g = 25 ∨ g = 24 ∨ g = 27 ∨ g = 28 ∨ g = 29 ∨ g = 30 ∨ g = 31 ∨ g = 32 := by
    rcases hg with h | h | h
    · omega
    · omega
    · unfold ycm at h
      simp at h
      omega
  unfold qc1
  rw [h]
  rcases hgg with h | h | h | h | h | h | h | h | h | h | h | h <;> (subst h; rfl)
theorem ynr1 {l o g : Nat} {Lc Lc2 : Nat → List (Nat × Nat)} {Lm Lm2 : List (Nat × Int)} {D D2 : qE → Int → Int} (hl : l < 4) (ho : o ≤ 8) (hg : yop l g = true) (h : yNok (ybs l) o Lc Lm D) (h2 : yNok (7 + l) o Lc2 Lm2 D2) : yNok (7 + l) o (fun c => Lc c ++ (g, 0) :: Lc2 (c + (Lc c).length + 1)) (Lm ++ (ymb g, 0) :: Lm2) (fun E x => D2 E (qtwo g x (D E 0))) := by
  obtain ⟨a1, a2, a3⟩ := h
  obtain ⟨b1, b2, b3⟩ := h2
  obtain ⟨l1, l2, l3, l4, l5, l6, l7⟩ := yl_f hl
  have hgg := yop_g hl hg
  have e7 : ¬ 7 ≤ ybs l := by omega
  have ht : ∀ E, qGE E → ∀ x, yrg (yas (7 + l)) x → yrg (yas (7 + l)) (qtwo g x (D E 0)) := fun E hE x hx => by
    have hd := a3 E hE 0 (yrg0 _)
    rw [l1] at hd
    have hd : yrg (yas (7 + l)) (D E 0) := hd
    rcases hgg with ⟨g1, g2⟩ | ⟨g1, g2⟩
    · have hy : yas (7 + l) = false := by
        cases hy : yas (7 + l) with
        | false => rfl
        | true => have := l7.mp hy; omega
      rw [hy] at hx hd ⊢
      exact yrgV.mpr (qtwo_mt g2 (yrgV.mp hx) (yrgV.mp hd)).2
    · have hy := l7.mpr g1
      rw [hy] at hx hd ⊢
      exact yrgA.mpr (qtwo_jn g2 (yrgA.mp hx) (yrgA.mp hd)).2
  refine ⟨fun E hE O c stop st x h1 h2 h3 h4 => ?_, fun E hE C c vs ts x h1 h2 h3 h4 => ?_, fun E hE x hx => b3 E hE _ (ht E hE x hx)⟩
  · have h1 := yat_app.mp h1
    have h2 : c + (Lc c ++ (g, 0) :: Lc2 (c + (Lc c).length + 1)).length ≤ stop := h2
    rw [List.length_append, List.length_cons] at h2
    obtain ⟨q1, hq1⟩ := a1 E hE O c stop (x :: st) 0 h1.1 (by omega) (by rw [l3, List.length_cons]; omega) (yrg0 _)
    rw [if_neg e7] at hq1
    have e : O (c + (Lc c).length) = (g, 0) := h1.2.1
    obtain ⟨q2, hq2⟩ := b1 E hE O (c + (Lc c).length + 1) stop st (qtwo g x (D E 0)) h1.2.2 (by omega) h3 (ht E hE x h4)
    rw [if_pos (by omega)] at hq2
    refine ⟨q1 + (1 + q2), ?_⟩
    rw [if_pos (by omega), qcr_add (1 + q2) hq1, qcr_add q2 (qcr_one (by omega) (qc1_two e (hgg.elim (fun z => Or.inl z.2) (fun z => Or.inr (Or.inl z.2))))), hq2]
    show some (c + (Lc c).length + 1 + _, _) = some (c + (Lc c ++ (g, 0) :: Lc2 (c + (Lc c).length + 1)).length, _)
    rw [List.length_append, List.length_cons]
    congr 2
    omega
  · have h1 := yat_app.mp h1
    have e : C (c + Lm.length) = (ymb g, 0) := h1.2.1
    show qmr E C (Lm ++ (ymb g, 0) :: Lm2).length c _ _ = _
    rw [List.length_append, List.length_cons]
    rw [show Lm.length + (Lm2.length + 1) = Lm.length + (1 + Lm2.length) by omega]
    rcases hgg with ⟨g1, g2⟩ | ⟨g1, g2⟩
    · have hy : yas (7 + l) = false := by
        cases hy : yas (7 + l) with
        | false => rfl
        | true => have := l7.mp hy; omega
      have hd := a3 E hE 0 (yrg0 _)
      rw [l1, hy] at hd
      have hd : yrg false (D E 0) := hd
      have hx : yrg false x := by rw [hy] at h4; exact h4
      have q1 := a2 E hE C c (x :: vs) ts 0 h1.1 (by rw [l3, List.length_cons]; omega) (by omega) (yrg0 _)
      rw [if_neg (fun z => e7 z.1), if_neg (fun z => e7 z.1), l1, hy, if_neg (by decide)] at q1
      have q2 := b2 E hE C (c + Lm.length + 1) vs ts (qtwo g x (D E 0)) h1.2.2 h2 h3 (ht E hE x h4)
      rw [hy, if_pos ⟨by omega, rfl⟩, if_neg (fun z => by cases z.2), if_neg (by decide)] at q2
      rw [hy, if_pos ⟨by omega, rfl⟩, if_neg (fun z => by cases z.2), if_neg (by decide), qmr_add _ q1]
      have q3 : qmr E C 1 (c + Lm.length) (D E 0 :: x :: vs) ts = some (qtwo g x (D E 0) :: vs, ts) := by
        refine qmr_one ?_
        rw [(qtwo_mt g2 (yrgV.mp hx) (yrgV.mp hd)).1]
        unfold qm1
        rw [e]
        rcases g2 with h | h | h | h <;> (subst h; rfl)
      rw [qmr_add _ q3]
      exact q2
    · have hy := l7.mpr g1
      have hd := a3 E hE 0 (yrg0 _)
      rw [l1, hy] at hd
      have hd : yrg true (D E 0) := hd
      have hx : yrg true x := by rw [hy] at h4; exact h4
      have q1 := a2 E hE C c vs (x :: ts) 0 h1.1 (by omega) (by rw [l3, List.length_cons]; omega) (yrg0 _)
      rw [if_neg (fun z => e7 z.1), if_neg (fun z => e7 z.1), l1, hy, if_pos rfl] at q1
      have q2 := b2 E hE C (c + Lm.length + 1) vs ts (qtwo g x (D E 0)) h1.2.2 h2 h3 (ht E hE x h4)
      rw [hy, if_neg (fun z => by cases z.2), if_pos ⟨by omega, rfl⟩, if_pos rfl] at q2
      rw [hy, if_neg (fun z => by cases z.2), if_pos ⟨by omega, rfl⟩, if_pos rfl, qmr_add _ q1]
      have q3 : qmr E C 1 (c + Lm.length) vs (D E 0 :: x :: ts) = some (vs, qtwo g x (D E 0) :: ts) := by
        refine qmr_one ?_
        rw [(qtwo_jn g2 (yrgA.mp hx) (yrgA.mp hd)).1]
        unfold qm1
        rw [e]
        rcases g2 with h | h <;> (subst h; rfl)
      rw [qmr_add _ q3]
      exact q2
theorem ynt {l o : Nat} {Lc Lc2 : Nat → List (Nat × Nat)} {Lm Lm2 : List (Nat × Int)} {D D2 : qE → Int → Int} (hl : l < 4) (h : yNok (ybs l) o Lc Lm D) (h2 : yNok (7 + l) o Lc2 Lm2 D2) : yNok (3 + l) o (fun c => Lc c ++ Lc2 (c + (Lc c).length)) (Lm ++ Lm2) (fun E _ => D2 E (D E 0)) := by
  obtain ⟨a1, a2, a3⟩ := h
  obtain ⟨b1, b2, b3⟩ := h2
  obtain ⟨l1, l2, l3, l4, l5, l6, l7⟩ := yl_f hl
  have e7 : ¬ 7 ≤ ybs l := by omega
  have e3 : ¬ 7 ≤ 3 + l := by omega
  have hd : ∀ E, qGE E → yrg (yas (7 + l)) (D E 0) := fun E hE => by
    have hd := a3 E hE 0 (yrg0 _)
    rw [l1] at hd
    exact hd
  refine ⟨fun E hE O c stop st x h1 h2 h3 h4 => ?_, fun E hE C c vs ts x h1 h2 h3 h4 => ?_, fun E hE x hx => by rw [l2]; exact b3 E hE _ (hd E hE)⟩
  · have h1 := yat_app.mp h1
    have h2 : c + (Lc c ++ Lc2 (c + (Lc c).length)).length ≤ stop := h2
    rw [List.length_append] at h2
    rw [l4] at h3
    obtain ⟨q1, hq1⟩ := a1 E hE O c stop st 0 h1.1 (by omega) (by rw [l3]; omega) (yrg0 _)
    rw [if_neg e7] at hq1
    obtain ⟨q2, hq2⟩ := b1 E hE O (c + (Lc c).length) stop st (D E 0) h1.2 (by omega) h3 (hd E hE)
    rw [if_pos (by omega)] at hq2
    refine ⟨q1 + q2, ?_⟩
    rw [if_neg e3, qcr_add q2 hq1, hq2]
    show some (c + (Lc c).length + _, _) = some (c + (Lc c ++ Lc2 (c + (Lc c).length)).length, _)
    rw [List.length_append]
    congr 2
    omega
  · have h1 := yat_app.mp h1
    rw [l4] at h2 h3
    show qmr E C (Lm ++ Lm2).length c _ _ = _
    rw [List.length_append, if_neg (fun z => e3 z.1), if_neg (fun z => e3 z.1)]
    have q1 := a2 E hE C c vs ts 0 h1.1 (by rw [l3]; omega) (by rw [l3]; omega) (yrg0 _)
    rw [if_neg (fun z => e7 z.1), if_neg (fun z => e7 z.1), l1] at q1
    have q2 := b2 E hE C (c + Lm.length) vs ts (D E 0) h1.2 h2 h3 (hd E hE)
    rw [l2]
    cases hy : yas (7 + l) with
    | true =>
      rw [hy, if_pos rfl] at q1
      rw [hy, if_neg (fun z => by cases z.2), if_pos ⟨by omega, rfl⟩, if_pos rfl] at q2
      rw [if_pos rfl, qmr_add _ q1]
      exact q2
    | false =>
      rw [hy, if_neg (by decide)] at q1
      rw [hy, if_pos ⟨by omega, rfl⟩, if_neg (fun z => by cases z.2), if_neg (by decide)] at q2
      rw [if_neg (by decide), qmr_add _ q1]
      exact q2
theorem yna1 {o : Nat} {Lc : Nat → List (Nat × Nat)} {Lm : List (Nat × Int)} {D : qE → Int → Int} (h : yNok 1 (o + 1) Lc Lm D) : yNok 1 o (fun c => Lc c ++ [(26, 0)]) (Lm ++ [(20, 0)]) (fun E _ => if D E 0 = 0 then 1 else 0) := by
  obtain ⟨a1, a2, a3⟩ := h
  refine ⟨fun E hE O c stop st x h1 h2 h3 h4 => ?_, fun E hE C c vs ts x h1 h2 h3 h4 => ?_, fun E hE x hx => yrgA.mpr (by by_cases h : D E 0 = 0 <;> simp [h])⟩
  · have h1 := yat_app.mp h1
    have h2 : c + (Lc c ++ [(26, 0)]).length ≤ stop := h2
    rw [List.length_append] at h2
    have h2 : c + ((Lc c).length + 1) ≤ stop := h2
    have h3 : st.length ≤ 7 * o + 3 := h3
    obtain ⟨k, hk⟩ := a1 E hE O c stop st 0 h1.1 (by omega) (by show st.length ≤ 7 * (o + 1) + 3; omega) (yrg0 _)
    refine ⟨k + 1, ?_⟩
    rw [if_neg (by decide)] at hk ⊢
    rw [qcr_add 1 hk]
    have e : O (c + (Lc c).length) = (26, 0) := h1.2.1
    refine (qcr_one (by omega) (r := (c + (Lc c).length + 1, (if D E 0 = 0 then 1 else 0) :: st)) ?_).trans ?_
    · unfold qc1
      rw [e]
      rfl
    · show some _ = some (c + (Lc c ++ [(26, 0)]).length, _)
      rw [List.length_append]
      rfl
  · have h1 := yat_app.mp h1
    have h2 : vs.length ≤ 7 * o + 3 := h2
    have h3 : ts.length ≤ 7 * o + 3 := h3
    have hk := a2 E hE C c vs ts 0 h1.1 (by show vs.length ≤ 7 * (o + 1) + 3; omega) (by show ts.length ≤ 7 * (o + 1) + 3; omega) (yrg0 _)
    have hk : qmr E C Lm.length c vs ts = some (vs, D E 0 :: ts) := hk
    show qmr E C (Lm ++ [(20, 0)]).length c vs ts = some (vs, (if D E 0 = 0 then 1 else 0) :: ts)
    rw [List.length_append]
    show qmr E C (Lm.length + 1) c vs ts = _
    rw [qmr_add 1 hk]
    have e : C (c + Lm.length) = (20, 0) := h1.2.1
    refine qmr_one ?_
    unfold qm1
    rw [e]
    rfl
theorem yna3 {o g : Nat} {Lc Lc2 : Nat → List (Nat × Nat)} {Lm Lm2 : List (Nat × Int)} {D D2 : qE → Int → Int} (ho : o ≤ 8) (hg : ycm g = true) (h : yNok 4 o Lc Lm D) (h2 : yNok 4 o Lc2 Lm2 D2) : yNok 1 o (fun c => Lc c ++ (Lc2 (c + (Lc c).length) ++ [(g, 0)])) (Lm ++ (Lm2 ++ [(ymb g, 0)])) (fun E _ => qtwo g (D E 0) (D2 E 0)) := by
  obtain ⟨a1, a2, a3⟩ := h
  obtain ⟨b1, b2, b3⟩ := h2
  refine ⟨fun E hE O c stop st x h1 h2 h3 h4 => ?_, fun E hE C c vs ts x h1 h2 h3 h4 => ?_, fun E hE x hx => yrgA.mpr ?_⟩
  · have h1 := yat_app.mp h1
    have h1' := yat_app.mp h1.2
    have h2 : c + (Lc c ++ (Lc2 (c + (Lc c).length) ++ [(g, 0)])).length ≤ stop := h2
    rw [List.length_append, List.length_append] at h2
    have h2 : c + ((Lc c).length + ((Lc2 (c + (Lc c).length)).length + 1)) ≤ stop := h2
    have h3 : st.length ≤ 7 * o + 3 := h3
    obtain ⟨q1, hq1⟩ := a1 E hE O c stop st 0 h1.1 (by omega) (by show st.length ≤ 7 * o + 4; omega) (yrg0 _)
    obtain ⟨q2, hq2⟩ := b1 E hE O (c + (Lc c).length) stop (D E 0 :: st) 0 h1'.1 (by omega) (by show st.length + 1 ≤ 7 * o + 4; omega) (yrg0 _)
    rw [if_neg (by decide)] at hq1 hq2
    have e : O (c + (Lc c).length + (Lc2 (c + (Lc c).length)).length) = (g, 0) := h1'.2.1
    refine ⟨q1 + (q2 + 1), ?_⟩
    rw [if_neg (by decide), qcr_add (q2 + 1) hq1, qcr_add 1 hq2, qcr_one (by omega) (qc1_two e (Or.inr (Or.inr hg)))]
    show some (c + (Lc c).length + (Lc2 (c + (Lc c).length)).length + 1, _) = some (c + (Lc c ++ (Lc2 (c + (Lc c).length) ++ [(g, 0)])).length, _)
    rw [List.length_append, List.length_append]
    show some (_, _) = some (c + ((Lc c).length + ((Lc2 (c + (Lc c).length)).length + 1)), _)
    congr 2
    omega
  · have h1 := yat_app.mp h1
    have h1' := yat_app.mp h1.2
    have h2 : vs.length ≤ 7 * o + 3 := h2
    have h3 : ts.length ≤ 7 * o + 3 := h3
    have q1 : qmr E C Lm.length c vs ts = some (D E 0 :: vs, ts) := a2 E hE C c vs ts 0 h1.1 (by show vs.length ≤ 7 * o + 4; omega) (by show ts.length ≤ 7 * o + 4; omega) (yrg0 _)
    have q2 : qmr E C Lm2.length (c + Lm.length) (D E 0 :: vs) ts = some (D2 E 0 :: D E 0 :: vs, ts) := b2 E hE C (c + Lm.length) (D E 0 :: vs) ts 0 h1'.1 (by show vs.length + 1 ≤ 7 * o + 4; omega) (by show ts.length ≤ 7 * o + 4; omega) (yrg0 _)
    have e : C (c + Lm.length + Lm2.length) = (ymb g, 0) := h1'.2.1
    have q3 : qmr E C 1 (c + Lm.length + Lm2.length) (D2 E 0 :: D E 0 :: vs) ts = some (vs, qtwo g (D E 0) (D2 E 0) :: ts) := by
      refine qmr_one ?_
      rw [qtwo_ask hg]
      have hgg : g = 27 ∨ g = 28 ∨ g = 29 ∨ g = 30 ∨ g = 31 ∨ g = 32 := by
        unfold ycm at hg
        simp at hg
        omega
      have htl : ts.length < 330 := by omega
      unfold qm1
      rw [e]
      rcases hgg with h | h | h | h | h | h <;> (subst h; exact if_pos htl)
    show qmr E C (Lm ++ (Lm2 ++ [(ymb g, 0)])).length c vs ts = some (vs, qtwo g (D E 0) (D2 E 0) :: ts)
    rw [List.length_append, List.length_append]
    show qmr E C (Lm.length + (Lm2.length + 1)) c vs ts = _
    rw [qmr_add _ q1, qmr_add _ q2]
    exact q3
  · show qtwo g (D E 0) (D2 E 0) = 0 ∨ qtwo g (D E 0) (D2 E 0) = 1
    rw [qtwo_ask hg]
    exact qask_in _ _ _
theorem ync {o : Nat} {L1 L2 L3 : Nat → List (Nat × Nat)} {m1 m2 m3 : List (Nat × Int)} {D1 D2 D3 : qE → Int → Int} (ho : o ≤ 8) (h1 : yNok 6 o L1 m1 D1) (h2 : yNok 4 o L2 m2 D2) (h3 : yNok 4 o L3 m3 D3) : yNok 2 o (yif L1 L2 L3) (m1 ++ (m2 ++ (m3 ++ [(3, 0)]))) (fun E _ => if D1 E 0 = 0 then D3 E 0 else D2 E 0) := by
  obtain ⟨a1, a2, a3⟩ := h1
  obtain ⟨b1, b2, b3⟩ := h2
  obtain ⟨c1, c2, c3⟩ := h3
  refine ⟨fun E hE O c stop st x g1 g2 g3 g4 => ?_, fun E hE C c vs ts x g1 g2 g3 g4 => ?_, fun E hE x hx => yrgV.mpr ?_⟩
  · have g1 : yat O c (yif L1 L2 L3 c) := g1
    have g2 : c + (yif L1 L2 L3 c).length ≤ stop := g2
    have g3 : st.length ≤ 7 * o + 1 := g3
    show ∃ k, qcr E O stop k c st = some (c + (yif L1 L2 L3 c).length, (if D1 E 0 = 0 then D3 E 0 else D2 E 0) :: st)
    unfold yif at g1 g2 ⊢
    obtain ⟨x1, x2, x3⟩ := yat_app.mp g1
    obtain ⟨y1, y2, y3⟩ := yat_app.mp x3
    rw [List.length_append, List.length_cons, List.length_append, List.length_cons] at g2 ⊢
    obtain ⟨q1, hq1⟩ := a1 E hE O c stop st 0 x1 (by omega) g3 (yrg0 _)
    rw [if_neg (by decide)] at hq1
    have hq1 : qcr E O stop q1 c st = some (c + (L1 c).length, D1 E 0 :: st) := hq1
    generalize L1 c = a at *
    generalize hb0 : c + a.length + 1 = b0 at *
    have b1 := b1 E hE O b0 stop st 0 y1
    generalize L2 b0 = b at *
    generalize hc0 : b0 + b.length + 1 = e0 at *
    have c1 := c1 E hE O e0 stop st 0 y3
    generalize L3 e0 = e at *
    by_cases hd : D1 E 0 = 0
    · rw [if_pos hd]
      obtain ⟨q3, hq3⟩ := c1 (by omega) (by show st.length ≤ 7 * o + 4; omega) (yrg0 _)
      rw [if_neg (by decide)] at hq3
      have hq3 : qcr E O stop q3 e0 st = some (e0 + e.length, D3 E 0 :: st) := hq3
      have hs : qcr E O stop 1 (c + a.length) (D1 E 0 :: st) = some (e0, st) := by
        refine qcr_one (by omega) ?_
        unfold qc1
        rw [x2]
        show (if D1 E 0 = 0 then (if c + a.length < e0 then some (e0, st) else none) else _) = _
        rw [if_pos hd, if_pos (by omega)]
      refine ⟨q1 + (1 + q3), ?_⟩
      rw [qcr_add _ hq1, qcr_add _ hs, hq3]
      congr 2
      omega
    · rw [if_neg hd]
      obtain ⟨q2, hq2⟩ := b1 (by omega) (by show st.length ≤ 7 * o + 4; omega) (yrg0 _)
      rw [if_neg (by decide)] at hq2
      have hq2 : qcr E O stop q2 b0 st = some (b0 + b.length, D2 E 0 :: st) := hq2
      have hs : qcr E O stop 1 (c + a.length) (D1 E 0 :: st) = some (b0, st) := by
        refine qcr_one (by omega) ?_
        unfold qc1
        rw [x2]
        show (if D1 E 0 = 0 then _ else some (c + a.length + 1, st)) = _
        rw [if_neg hd, hb0]
      have hs2 : qcr E O stop 1 (b0 + b.length) (D2 E 0 :: st) = some (e0 + e.length, D2 E 0 :: st) := by
        refine qcr_one (by omega) ?_
        unfold qc1
        rw [y2]
        show (if b0 + b.length < e0 + e.length then some (e0 + e.length, D2 E 0 :: st) else none) = _
        rw [if_pos (by omega)]
      refine ⟨q1 + (1 + (q2 + 1)), ?_⟩
      rw [qcr_add _ hq1, qcr_add _ hs, qcr_add _ hq2, hs2]
      congr 2
      omega
  · have g1 := yat_app.mp g1
    have g1' := yat_app.mp g1.2
    have g1'' := yat_app.mp g1'.2
    have g2 : vs.length ≤ 7 * o + 1 := g2
    have g3 : ts.length ≤ 7 * o + 1 := g3
    have q1 : qmr E C m1.length c vs ts = some (vs, D1 E 0 :: ts) := a2 E hE C c vs ts 0 g1.1 g2 g3 (yrg0 _)
    have q2 : qmr E C m2.length (c + m1.length) vs (D1 E 0 :: ts) = some (D2 E 0 :: vs, D1 E 0 :: ts) := b2 E hE C (c + m1.length) vs (D1 E 0 :: ts) 0 g1'.1 (by show vs.length ≤ 7 * o + 4; omega) (by show ts.length + 1 ≤ 7 * o + 4; omega) (yrg0 _)
    have q3 : qmr E C m3.length (c + m1.length + m2.length) (D2 E 0 :: vs) (D1 E 0 :: ts) = some (D3 E 0 :: D2 E 0 :: vs, D1 E 0 :: ts) := c2 E hE C (c + m1.length + m2.length) (D2 E 0 :: vs) (D1 E 0 :: ts) 0 g1''.1 (by show vs.length + 1 ≤ 7 * o + 4; omega) (by show ts.length + 1 ≤ 7 * o + 4; omega) (yrg0 _)
    have e : C (c + m1.length + m2.length + m3.length) = (3, 0) := g1''.2.1
    have q4 : qmr E C 1 (c + m1.length + m2.length + m3.length) (D3 E 0 :: D2 E 0 :: vs) (D1 E 0 :: ts) = some ((if D1 E 0 = 0 then D3 E 0 else D2 E 0) :: vs, ts) := by
      refine qmr_one ?_
      unfold qm1
      rw [e]
      rfl
    show qmr E C (m1 ++ (m2 ++ (m3 ++ [(3, 0)]))).length c vs ts = some ((if D1 E 0 = 0 then D3 E 0 else D2 E 0) :: vs, ts)
    rw [List.length_append, List.length_append, List.length_append]
    show qmr E C (m1.length + (m2.length + (m3.length + 1))) c vs ts = _
    rw [qmr_add _ q1, qmr_add _ q2, qmr_add _ q3]
    exact q4
  · show -1000000 ≤ (if D1 E 0 = 0 then D3 E 0 else D2 E 0) ∧ (if D1 E 0 = 0 then D3 E 0 else D2 E 0) ≤ 1000000
    have h2 : yrg false (D2 E 0) := b3 E hE 0 (yrg0 _)
    have h3 : yrg false (D3 E 0) := c3 E hE 0 (yrg0 _)
    split
    · exact yrgV.mp h3
    · exact yrgV.mp h2
