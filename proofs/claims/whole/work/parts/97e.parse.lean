/-! THE GRAMMAR: every text either has a FAULT or is read, as a plain recursion -/
abbrev yO : Type := (Nat × Nat) ⊕ (Nat × (Nat → List (Nat × Nat)) × List (Nat × Int) × (qE → Int → Int))
abbrev yok (j : Nat) (Lc : Nat → List (Nat × Nat)) (Lm : List (Nat × Int)) (D : qE → Int → Int) : yO := .inr (j, Lc, Lm, D)
abbrev yft (f k : Nat) : yO := .inl (f, k)
/-- modes: 0 ONE, 1 ASK, 2 a choice behind if, 3 .. 6 PRODUCT, SUM, BOTH, EITHER, 7 .. 10 what goes on in them -/
def ybs (l : Nat) : Nat := if l = 0 then 0 else if l = 1 then 3 else if l = 2 then 1 else 5
def yop (l g : Nat) : Bool := if l = 0 then decide (g = 35) || decide (g = 36) else if l = 1 then decide (g = 33) || decide (g = 34) else if l = 2 then decide (g = 25) else decide (g = 24)
def yopn (g : Nat) : Bool := decide (g = 37) || decide (g = 34) || decide (g = 18) || decide (g = 19) || decide (g = 20)
def ycm (g : Nat) : Bool := decide (27 ≤ g) && decide (g ≤ 32)
def ycs (g : Nat) : Nat := if g = 34 then 42 else g
def ymu (g : Nat) : Nat := if g = 34 then 5 else if g = 18 then 4 else 2
def ymb (g : Nat) : Nat := if g = 33 then 6 else if g = 34 then 7 else if g = 35 then 8 else if g = 36 then 9 else if g = 29 then 10 else if g = 27 then 11 else if g = 30 then 12 else if g = 28 then 13 else if g = 31 then 14 else if g = 32 then 15 else if g = 25 then 21 else 22
def yif (L1 L2 L3 : Nat → List (Nat × Nat)) (c : Nat) : List (Nat × Nat) :=
  L1 c ++ (21, c + (L1 c).length + 1 + (L2 (c + (L1 c).length + 1)).length + 1) :: (L2 (c + (L1 c).length + 1) ++ (22, c + (L1 c).length + 1 + (L2 (c + (L1 c).length + 1)).length + 1 + (L3 (c + (L1 c).length + 1 + (L2 (c + (L1 c).length + 1)).length + 1)).length) :: L3 (c + (L1 c).length + 1 + (L2 (c + (L1 c).length + 1)).length + 1))
/-- how far it goes, and how long the codes are -/
def yG (N m i : Nat) (out : yO) : Prop := match out with
  | .inl _ => True
  | .inr r => i ≤ r.1 ∧ r.1 ≤ N ∧ (m < 7 → i < r.1) ∧ (∀ c, (r.2.1 c).length ≤ r.1 - i) ∧ r.2.2.1.length ≤ r.1 - i
theorem ytotal {Q : Nat → Nat → Nat → yO → Prop} {sg wo : Nat → Nat} {ag : Bool} {N : Nat} (hN : sg N = 43)
    (hG : ∀ {m o i out}, Q m o i out → yG N m i out)
    (h1 : ∀ {o i}, o ≤ 8 → i ≤ N → sg i = 41 → wo i ≤ 9999 → Q 0 o i (yok (i + 1) (fun _ => [(41, wo i)]) [(0, (wo i : Int))] (fun _ _ => (wo i : Int))))
    (h1f : ∀ {o i}, o ≤ 8 → i ≤ N → sg i = 41 → ¬ wo i ≤ 9999 → Q 0 o i (yft 2 i))
    (h2 : ∀ {o i}, o ≤ 8 → i ≤ N → qisn (sg i) = true → ¬ (sg i = 14 ∧ ag = true) → Q 0 o i (yok (i + 1) (fun _ => [(sg i, 0)]) [(1, (qnm (sg i) : Int))] (fun E _ => E.1 (qnm (sg i)))))
    (h2f : ∀ {o i}, o ≤ 8 → i ≤ N → sg i = 14 → ag = true → Q 0 o i (yft 5 i))
    (h3 : ∀ {o i}, o ≤ 8 → i ≤ N → sg i ≠ 41 → qisn (sg i) = false → yopn (sg i) = false → Q 0 o i (yft 1 i))
    (h4 : ∀ {o i}, o ≤ 8 → i ≤ N → yopn (sg i) = true → 8 ≤ o → Q 0 o i (yft 3 i))
    (h5 : ∀ {o i j Lc Lm D}, o < 8 → i < N → sg i = 37 → Q 4 (o + 1) (i + 1) (yok j Lc Lm D) → sg j = 38 → Q 0 o i (yok (j + 1) Lc Lm D))
    (h5e : ∀ {o i j Lc Lm D}, o < 8 → i < N → sg i = 37 → Q 4 (o + 1) (i + 1) (yok j Lc Lm D) → sg j ≠ 38 → Q 0 o i (yft 1 j))
    (h5f : ∀ {o i f k}, o < 8 → i < N → sg i = 37 → Q 4 (o + 1) (i + 1) (yft f k) → Q 0 o i (yft f k))
    (h6 : ∀ {o i j Lc Lm D}, o < 8 → i < N → (sg i = 34 ∨ sg i = 18 ∨ sg i = 19) → Q 0 (o + 1) (i + 1) (yok j Lc Lm D) → Q 0 o i (yok j (fun c => Lc c ++ [(ycs (sg i), 0)]) (Lm ++ [(ymu (sg i), 0)]) (fun E x => qone E (ycs (sg i)) (D E x))))
    (h6f : ∀ {o i f k}, o < 8 → i < N → (sg i = 34 ∨ sg i = 18 ∨ sg i = 19) → Q 0 (o + 1) (i + 1) (yft f k) → Q 0 o i (yft f k))
    (h7 : ∀ {o i j Lc Lm D}, o < 8 → i < N → sg i = 20 → Q 2 (o + 1) (i + 1) (yok j Lc Lm D) → Q 0 o i (yok j Lc Lm D))
    (h7f : ∀ {o i f k}, o < 8 → i < N → sg i = 20 → Q 2 (o + 1) (i + 1) (yft f k) → Q 0 o i (yft f k))
    (hr0 : ∀ {l o i}, l < 4 → o ≤ 8 → i ≤ N → yop l (sg i) = false → Q (7 + l) o i (yok i (fun _ => []) [] (fun _ x => x)))
    (hr1 : ∀ {l o i j Lc Lm D k Lc2 Lm2 D2}, l < 4 → o ≤ 8 → i < N → yop l (sg i) = true → Q (ybs l) o (i + 1) (yok j Lc Lm D) → Q (7 + l) o j (yok k Lc2 Lm2 D2) → Q (7 + l) o i (yok k (fun c => Lc c ++ (sg i, 0) :: Lc2 (c + (Lc c).length + 1)) (Lm ++ (ymb (sg i), 0) :: Lm2) (fun E x => D2 E (qtwo (sg i) x (D E 0)))))
    (hr1f : ∀ {l o i f k}, l < 4 → o ≤ 8 → i < N → yop l (sg i) = true → Q (ybs l) o (i + 1) (yft f k) → Q (7 + l) o i (yft f k))
    (hr1g : ∀ {l o i j Lc Lm D f k}, l < 4 → o ≤ 8 → i < N → yop l (sg i) = true → Q (ybs l) o (i + 1) (yok j Lc Lm D) → Q (7 + l) o j (yft f k) → Q (7 + l) o i (yft f k))
    (ht : ∀ {l o i j Lc Lm D k Lc2 Lm2 D2}, l < 4 → o ≤ 8 → i ≤ N → Q (ybs l) o i (yok j Lc Lm D) → Q (7 + l) o j (yok k Lc2 Lm2 D2) → Q (3 + l) o i (yok k (fun c => Lc c ++ Lc2 (c + (Lc c).length)) (Lm ++ Lm2) (fun E _ => D2 E (D E 0))))
    (htf : ∀ {l o i f k}, l < 4 → o ≤ 8 → i ≤ N → Q (ybs l) o i (yft f k) → Q (3 + l) o i (yft f k))
    (htg : ∀ {l o i j Lc Lm D f k}, l < 4 → o ≤ 8 → i ≤ N → Q (ybs l) o i (yok j Lc Lm D) → Q (7 + l) o j (yft f k) → Q (3 + l) o i (yft f k))
    (ha1 : ∀ {o i j Lc Lm D}, o < 8 → i < N → sg i = 26 → Q 1 (o + 1) (i + 1) (yok j Lc Lm D) → Q 1 o i (yok j (fun c => Lc c ++ [(26, 0)]) (Lm ++ [(20, 0)]) (fun E _ => if D E 0 = 0 then 1 else 0)))
    (ha1f : ∀ {o i f k}, o < 8 → i < N → sg i = 26 → Q 1 (o + 1) (i + 1) (yft f k) → Q 1 o i (yft f k))
    (ha2 : ∀ {o i}, o ≤ 8 → i < N → 8 ≤ o → sg i = 26 → Q 1 o i (yft 3 i))
    (ha3 : ∀ {o i j Lc Lm D k Lc2 Lm2 D2}, o ≤ 8 → i ≤ N → sg i ≠ 26 → Q 4 o i (yok j Lc Lm D) → j < N → ycm (sg j) = true → Q 4 o (j + 1) (yok k Lc2 Lm2 D2) → Q 1 o i (yok k (fun c => Lc c ++ (Lc2 (c + (Lc c).length) ++ [(sg j, 0)])) (Lm ++ (Lm2 ++ [(ymb (sg j), 0)])) (fun E _ => qtwo (sg j) (D E 0) (D2 E 0))))
    (ha3f : ∀ {o i f k}, o ≤ 8 → i ≤ N → sg i ≠ 26 → Q 4 o i (yft f k) → Q 1 o i (yft f k))
    (ha3g : ∀ {o i j Lc Lm D}, o ≤ 8 → i ≤ N → sg i ≠ 26 → Q 4 o i (yok j Lc Lm D) → ycm (sg j) = false → Q 1 o i (yft 1 j))
    (ha3h : ∀ {o i j Lc Lm D f k}, o ≤ 8 → i ≤ N → sg i ≠ 26 → Q 4 o i (yok j Lc Lm D) → j < N → ycm (sg j) = true → Q 4 o (j + 1) (yft f k) → Q 1 o i (yft f k))
    (hc : ∀ {o i j L1 m1 D1 k L2 m2 D2 l L3 m3 D3}, o ≤ 8 → i ≤ N → Q 6 o i (yok j L1 m1 D1) → j < N → sg j = 21 → Q 4 o (j + 1) (yok k L2 m2 D2) → k < N → sg k = 22 → Q 4 o (k + 1) (yok l L3 m3 D3) → l < N → sg l = 23 → Q 2 o i (yok (l + 1) (yif L1 L2 L3) (m1 ++ (m2 ++ (m3 ++ [(3, 0)]))) (fun E _ => if D1 E 0 = 0 then D3 E 0 else D2 E 0)))
    (hc1 : ∀ {o i f k}, o ≤ 8 → i ≤ N → Q 6 o i (yft f k) → Q 2 o i (yft f k))
    (hc2 : ∀ {o i j L1 m1 D1}, o ≤ 8 → i ≤ N → Q 6 o i (yok j L1 m1 D1) → sg j ≠ 21 → Q 2 o i (yft 1 j))
    (hc3 : ∀ {o i j L1 m1 D1 f k}, o ≤ 8 → i ≤ N → Q 6 o i (yok j L1 m1 D1) → j < N → sg j = 21 → Q 4 o (j + 1) (yft f k) → Q 2 o i (yft f k))
    (hc4 : ∀ {o i j L1 m1 D1 k L2 m2 D2}, o ≤ 8 → i ≤ N → Q 6 o i (yok j L1 m1 D1) → j < N → sg j = 21 → Q 4 o (j + 1) (yok k L2 m2 D2) → sg k ≠ 22 → Q 2 o i (yft 1 k))
    (hc5 : ∀ {o i j L1 m1 D1 k L2 m2 D2 f l}, o ≤ 8 → i ≤ N → Q 6 o i (yok j L1 m1 D1) → j < N → sg j = 21 → Q 4 o (j + 1) (yok k L2 m2 D2) → k < N → sg k = 22 → Q 4 o (k + 1) (yft f l) → Q 2 o i (yft f l))
    (hc6 : ∀ {o i j L1 m1 D1 k L2 m2 D2 l L3 m3 D3}, o ≤ 8 → i ≤ N → Q 6 o i (yok j L1 m1 D1) → j < N → sg j = 21 → Q 4 o (j + 1) (yok k L2 m2 D2) → k < N → sg k = 22 → Q 4 o (k + 1) (yok l L3 m3 D3) → sg l ≠ 23 → Q 2 o i (yft 1 l)) :
    ∀ (n i : Nat), N - i ≤ n → i ≤ N → ∀ md, md < 11 → ∀ o, o ≤ 8 → ∃ out, Q md o i out := by
  intro n
  induction n using Nat.strongRecOn with
  | ind n ih =>
    intro i hn hi
    have IH : ∀ i', i < i' → i' ≤ N → ∀ md, md < 11 → ∀ o, o ≤ 8 → ∃ out, Q md o i' out := fun i' h1 h2 => ih (N - i') (by omega) i' (Nat.le_refl _) h2
    have hlt : ∀ j, j ≤ N → sg j ≠ 43 → j < N := fun j h1 h2 => by
      rcases Nat.lt_or_ge j N with h | h
      · exact h
      · have : j = N := by omega
        rw [this, hN] at h2
        exact absurd rfl h2
    -- ONE
    have ONE : ∀ o, o ≤ 8 → ∃ out, Q 0 o i out := fun o ho => by
      by_cases g41 : sg i = 41
      · by_cases hw : wo i ≤ 9999
        · exact ⟨_, h1 ho hi g41 hw⟩
        · exact ⟨_, h1f ho hi g41 hw⟩
      by_cases gn : qisn (sg i) = true
      · by_cases g14 : sg i = 14 ∧ ag = true
        · exact ⟨_, h2f ho hi g14.1 g14.2⟩
        · exact ⟨_, h2 ho hi gn g14⟩
      by_cases go : yopn (sg i) = true
      · by_cases h8 : 8 ≤ o
        · exact ⟨_, h4 ho hi go h8⟩
        · have hiN : i < N := hlt i hi (fun z => by rw [z] at go; exact absurd go (by decide))
          have ho8 : o < 8 := by omega
          have gg : sg i = 37 ∨ (sg i = 34 ∨ sg i = 18 ∨ sg i = 19) ∨ sg i = 20 := by
            unfold yopn at go
            simp at go
            omega
          rcases gg with g | g | g
          · obtain ⟨out, hq⟩ := IH (i + 1) (by omega) (by omega) 4 (by decide) (o + 1) (by omega)
            cases out with
            | inl r => exact ⟨_, h5f ho8 hiN g hq⟩
            | inr r =>
              obtain ⟨j, Lc, Lm, D⟩ := r
              by_cases gj : sg j = 38
              · exact ⟨_, h5 ho8 hiN g hq gj⟩
              · exact ⟨_, h5e ho8 hiN g hq gj⟩
          · obtain ⟨out, hq⟩ := IH (i + 1) (by omega) (by omega) 0 (by decide) (o + 1) (by omega)
            cases out with
            | inl r => exact ⟨_, h6f ho8 hiN g hq⟩
            | inr r =>
              obtain ⟨j, Lc, Lm, D⟩ := r
              exact ⟨_, h6 ho8 hiN g hq⟩
          · obtain ⟨out, hq⟩ := IH (i + 1) (by omega) (by omega) 2 (by decide) (o + 1) (by omega)
            cases out with
            | inl r => exact ⟨_, h7f ho8 hiN g hq⟩
            | inr r =>
              obtain ⟨j, Lc, Lm, D⟩ := r
              exact ⟨_, h7 ho8 hiN g hq⟩
      · exact ⟨_, h3 ho hi g41 (by simpa using gn) (by simpa using go)⟩
    have bs11 : ∀ l, ybs l < 7 := fun l => by unfold ybs; (repeat' split) <;> decide
    have REST : ∀ l, l < 4 → ∀ o, o ≤ 8 → ∃ out, Q (7 + l) o i out := fun l hl o ho => by
      by_cases gp : yop l (sg i) = true
      · have hiN : i < N := hlt i hi (fun z => by
          rw [z] at gp
          have : ∀ l, l < 4 → yop l 43 = false := by decide
          rw [this l hl] at gp
          cases gp)
        obtain ⟨out, hq⟩ := IH (i + 1) (by omega) (by omega) (ybs l) (by have := bs11 l; omega) o ho
        cases out with
        | inl r => exact ⟨_, hr1f hl ho hiN gp hq⟩
        | inr r =>
          obtain ⟨j, Lc, Lm, D⟩ := r
          obtain ⟨g1, g2, g3, -⟩ := hG hq
          have g1 : i + 1 ≤ j := g1
          have g2 : j ≤ N := g2
          obtain ⟨out2, hq2⟩ := IH j (by omega) g2 (7 + l) (by omega) o ho
          cases out2 with
          | inl r => exact ⟨_, hr1g hl ho hiN gp hq hq2⟩
          | inr r =>
            obtain ⟨k, Lc2, Lm2, D2⟩ := r
            exact ⟨_, hr1 hl ho hiN gp hq hq2⟩
      · exact ⟨_, hr0 hl ho hi (by simpa using gp)⟩
    have TOP : ∀ l, l < 4 → (∀ o, o ≤ 8 → ∃ out, Q (ybs l) o i out) → ∀ o, o ≤ 8 → ∃ out, Q (3 + l) o i out := fun l hl hb o ho => by
      obtain ⟨out, hq⟩ := hb o ho
      cases out with
      | inl r => exact ⟨_, htf hl ho hi hq⟩
      | inr r =>
        obtain ⟨j, Lc, Lm, D⟩ := r
        obtain ⟨g1, g2, g3, -⟩ := hG hq
        have g2 : j ≤ N := g2
        have g3 : i < j := g3 (bs11 l)
        obtain ⟨out2, hq2⟩ := IH j g3 g2 (7 + l) (by omega) o ho
        cases out2 with
        | inl r => exact ⟨_, htg hl ho hi hq hq2⟩
        | inr r =>
          obtain ⟨k, Lc2, Lm2, D2⟩ := r
          exact ⟨_, ht hl ho hi hq hq2⟩
    have PROD : ∀ o, o ≤ 8 → ∃ out, Q 3 o i out := TOP 0 (by decide) ONE
    have SUM : ∀ o, o ≤ 8 → ∃ out, Q 4 o i out := TOP 1 (by decide) PROD
    have ASK : ∀ o, o ≤ 8 → ∃ out, Q 1 o i out := fun o ho => by
      by_cases g26 : sg i = 26
      · have hiN : i < N := hlt i hi (by omega)
        by_cases h8 : 8 ≤ o
        · exact ⟨_, ha2 ho hiN h8 g26⟩
        · obtain ⟨out, hq⟩ := IH (i + 1) (by omega) (by omega) 1 (by decide) (o + 1) (by omega)
          cases out with
          | inl r => exact ⟨_, ha1f (by omega) hiN g26 hq⟩
          | inr r =>
            obtain ⟨j, Lc, Lm, D⟩ := r
            exact ⟨_, ha1 (by omega) hiN g26 hq⟩
      · obtain ⟨out, hq⟩ := SUM o ho
        cases out with
        | inl r => exact ⟨_, ha3f ho hi g26 hq⟩
        | inr r =>
          obtain ⟨j, Lc, Lm, D⟩ := r
          obtain ⟨g1, g2, g3, -⟩ := hG hq
          have g2 : j ≤ N := g2
          have g3 : i < j := g3 (by decide)
          by_cases gc : ycm (sg j) = true
          · have hjN : j < N := hlt j g2 (fun z => by rw [z] at gc; exact absurd gc (by decide))
            obtain ⟨out2, hq2⟩ := IH (j + 1) (by omega) (by omega) 4 (by decide) o ho
            cases out2 with
            | inl r => exact ⟨_, ha3h ho hi g26 hq hjN gc hq2⟩
            | inr r =>
              obtain ⟨k, Lc2, Lm2, D2⟩ := r
              exact ⟨_, ha3 ho hi g26 hq hjN gc hq2⟩
          · exact ⟨_, ha3g ho hi g26 hq (by simpa using gc)⟩
    have BOTH : ∀ o, o ≤ 8 → ∃ out, Q 5 o i out := TOP 2 (by decide) ASK
    have EITH : ∀ o, o ≤ 8 → ∃ out, Q 6 o i out := TOP 3 (by decide) BOTH
    have CHO : ∀ o, o ≤ 8 → ∃ out, Q 2 o i out := fun o ho => by
      obtain ⟨out, hq⟩ := EITH o ho
      cases out with
      | inl r => exact ⟨_, hc1 ho hi hq⟩
      | inr r =>
        obtain ⟨j, L1, m1, D1⟩ := r
        obtain ⟨g1, g2, g3, -⟩ := hG hq
        have g2 : j ≤ N := g2
        have g3 : i < j := g3 (by decide)
        by_cases gj : sg j = 21
        · have hjN : j < N := hlt j g2 (by omega)
          obtain ⟨out2, hq2⟩ := IH (j + 1) (by omega) (by omega) 4 (by decide) o ho
          cases out2 with
          | inl r => exact ⟨_, hc3 ho hi hq hjN gj hq2⟩
          | inr r =>
            obtain ⟨k, L2, m2, D2⟩ := r
            obtain ⟨p1, p2, p3, -⟩ := hG hq2
            have p2 : k ≤ N := p2
            have p3 : j + 1 < k := p3 (by decide)
            by_cases gk : sg k = 22
            · have hkN : k < N := hlt k p2 (by omega)
              obtain ⟨out3, hq3⟩ := IH (k + 1) (by omega) (by omega) 4 (by decide) o ho
              cases out3 with
              | inl r => exact ⟨_, hc5 ho hi hq hjN gj hq2 hkN gk hq3⟩
              | inr r =>
                obtain ⟨l, L3, m3, D3⟩ := r
                obtain ⟨s1, s2, s3, -⟩ := hG hq3
                have s2 : l ≤ N := s2
                by_cases gl : sg l = 23
                · exact ⟨_, hc ho hi hq hjN gj hq2 hkN gk hq3 (hlt l s2 (by omega)) gl⟩
                · exact ⟨_, hc6 ho hi hq hjN gj hq2 hkN gk hq3 gl⟩
            · exact ⟨_, hc4 ho hi hq hjN gj hq2 gk⟩
        · exact ⟨_, hc2 ho hi hq gj⟩
    intro md hmd o ho
    by_cases m0 : md = 0
    · subst m0; exact ONE o ho
    by_cases m1 : md = 1
    · subst m1; exact ASK o ho
    by_cases m2 : md = 2
    · subst m2; exact CHO o ho
    by_cases m3 : md = 3
    · subst m3; exact PROD o ho
    by_cases m4 : md = 4
    · subst m4; exact SUM o ho
    by_cases m5 : md = 5
    · subst m5; exact BOTH o ho
    by_cases m6 : md = 6
    · subst m6; exact EITH o ho
    obtain ⟨l, rfl⟩ : ∃ l, md = 7 + l := ⟨md - 7, by omega⟩
    exact REST l (by omega) o ho
