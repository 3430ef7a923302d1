/-! THE MODEL'S PILE: what waits, as lists -/
def yrk (o : Nat) : Nat := if o < 40 then (if o = 22 then 1 else if o = 21 then 2 else if o = 20 then 3 else if o < 10 then (if o < 8 then (if o < 6 then 7 else 5) else 6) else 4) else 0
def yst (r : Nat) : List Nat → List (Nat × Int) → List Nat × List (Nat × Int)
  | [], C => ([], C)
  | x :: P, C => if yrk x < r then (x :: P, C) else yst r P (C ++ [(x, 0)])
/-- what is open -/
def yio (x : Nat) : Bool := decide (40 ≤ x) || decide (yrk x = 7) || decide (x = 20)
def yops : List Nat → Nat
  | [] => 0
  | x :: P => yops P + (if yio x = true then 1 else 0)
def ynp : List Nat → Nat
  | [] => 0
  | x :: P => ynp P + (if yio x = true then 0 else 1)
def ycl (r : Nat) : List Nat → Prop
  | [] => True
  | x :: _ => yrk x < r
def yon : List Nat → Int
  | [] => -1
  | x :: P => if 40 ≤ x then x else yon P
def ycp : List Nat → Bool
  | [] => false
  | x :: P => if 4 < yrk x then ycp P else decide (yrk x = 4)
theorem yst_le {r r' : Nat} (h : r' ≤ r) : ∀ (P : List Nat) (C : List (Nat × Int)), yst r' (yst r P C).1 (yst r P C).2 = yst r' P C
  | [], C => rfl
  | x :: P, C => by
    by_cases hx : yrk x < r
    · have e : yst r (x :: P) C = (x :: P, C) := if_pos hx
      rw [e]
    · have e : yst r (x :: P) C = yst r P (C ++ [(x, 0)]) := if_neg hx
      have e' : yst r' (x :: P) C = yst r' P (C ++ [(x, 0)]) := if_neg (by omega)
      rw [e, e']
      exact yst_le h P _
theorem yst_cl {r : Nat} : ∀ {P : List Nat} {C : List (Nat × Int)}, ycl r P → yst r P C = (P, C)
  | [], _, _ => rfl
  | x :: P, C, h => if_pos h
theorem yst_k {r x : Nat} {P : List Nat} {C : List (Nat × Int)} (h : r ≤ yrk x) : yst r (x :: P) C = yst r P (C ++ [(x, 0)]) := if_neg (by omega)
theorem ycl_st {r : Nat} : ∀ (P : List Nat) (C : List (Nat × Int)), ycl r (yst r P C).1
  | [], C => trivial
  | x :: P, C => by
    by_cases hx : yrk x < r
    · have e : yst r (x :: P) C = (x :: P, C) := if_pos hx
      rw [e]; exact hx
    · have e : yst r (x :: P) C = yst r P (C ++ [(x, 0)]) := if_neg hx
      rw [e]
      exact ycl_st P _
theorem yon_st {r : Nat} (h : 1 ≤ r) : ∀ (P : List Nat) (C : List (Nat × Int)), yon (yst r P C).1 = yon P
  | [], C => rfl
  | x :: P, C => by
    by_cases hx : yrk x < r
    · have e : yst r (x :: P) C = (x :: P, C) := if_pos hx
      rw [e]
    · have e : yst r (x :: P) C = yst r P (C ++ [(x, 0)]) := if_neg hx
      have hx40 : ¬ 40 ≤ x := fun z => hx (by unfold yrk; rw [if_neg (by omega)]; omega)
      have e2 : yon (x :: P) = yon P := if_neg hx40
      rw [e, e2]
      exact yon_st h P _
theorem ycp_st {r : Nat} (h : 5 ≤ r) : ∀ (P : List Nat) (C : List (Nat × Int)), ycp (yst r P C).1 = ycp P
  | [], C => rfl
  | x :: P, C => by
    by_cases hx : yrk x < r
    · have e : yst r (x :: P) C = (x :: P, C) := if_pos hx
      rw [e]
    · have e : yst r (x :: P) C = yst r P (C ++ [(x, 0)]) := if_neg hx
      have e2 : ycp (x :: P) = ycp P := if_pos (by omega)
      rw [e, e2]
      exact ycp_st h P _
/-- lengths and counts -/
theorem yst_ln {r : Nat} : ∀ (P : List Nat) (C : List (Nat × Int)), (yst r P C).1.length + (yst r P C).2.length = P.length + C.length ∧ ynp (yst r P C).1 + C.length ≤ ynp P + (yst r P C).2.length ∧ ynp (yst r P C).1 ≤ ynp P ∧ C.length ≤ (yst r P C).2.length ∧ yops (yst r P C).1 ≤ yops P
  | [], C => ⟨rfl, Nat.le_refl _, Nat.le_refl _, Nat.le_refl _, Nat.le_refl _⟩
  | x :: P, C => by
    by_cases hx : yrk x < r
    · have e : yst r (x :: P) C = (x :: P, C) := if_pos hx
      rw [e]
      exact ⟨rfl, Nat.le_refl _, Nat.le_refl _, Nat.le_refl _, Nat.le_refl _⟩
    · have e : yst r (x :: P) C = yst r P (C ++ [(x, 0)]) := if_neg hx
      have ih := yst_ln (r := r) P (C ++ [(x, 0)])
      have hl : (C ++ [(x, (0 : Int))]).length = C.length + 1 := List.length_append
      have h1 : (x :: P).length = P.length + 1 := rfl
      have h2 : ynp (x :: P) = ynp P + (if yio x = true then 0 else 1) := rfl
      have h3 : yops (x :: P) = yops P + (if yio x = true then 1 else 0) := rfl
      rw [e, h1, h2, h3]
      rw [hl] at ih
      by_cases hi : yio x = true
      · rw [if_pos hi, if_pos hi]; omega
      · rw [if_neg hi, if_neg hi]; omega
theorem ynp_ops : ∀ P, ynp P + yops P = P.length
  | [] => rfl
  | x :: P => by
    have ih := ynp_ops P
    show ynp P + (if yio x = true then 0 else 1) + (yops P + (if yio x = true then 1 else 0)) = P.length + 1
    by_cases hi : yio x = true
    · rw [if_pos hi, if_pos hi]; omega
    · rw [if_neg hi, if_neg hi]; omega
/-- a pile in a row -/
def ypil (F : Nat → Int) : List Nat → Prop
  | [] => True
  | x :: P => F P.length = x ∧ ypil F P
theorem ypil_c {F G : Nat → Int} : ∀ {P : List Nat}, (∀ k, k < P.length → G k = F k) → ypil F P → ypil G P
  | [], _, _ => trivial
  | x :: P, h, hp => ⟨(h P.length (Nat.lt_succ_self _)).trans hp.1, ypil_c (fun k hk => h k (Nat.lt_succ_of_lt hk)) hp.2⟩
theorem yat_cong {α : Type} {O O' : Nat → α} : ∀ {L : List α} {c : Nat}, (∀ k, c ≤ k → k < c + L.length → O' k = O k) → yat O c L → yat O' c L
  | [], _, _, _ => trivial
  | x :: L, c, h, ha => ⟨(h c (Nat.le_refl _) (by show c < c + (L.length + 1); omega)).trans ha.1, yat_cong (fun k h1 h2 => h k (by omega) (by show k < c + (L.length + 1); omega)) ha.2⟩
def ycf (F : Nat → Int) (b : Nat) : Nat → Int × Int := fun k => (F (b + 97 + 2 * k), F (b + 97 + 2 * k + 1))
def ycm' (C : List (Nat × Int)) : List (Int × Int) := C.map fun e => ((e.1 : Int), e.2)
/-- the core: what has been emitted, and what waits; b the text's place -/
def yRc (b : Nat) (M0 M : Nat → Nat → Int) (P : List Nat) (C : List (Nat × Int)) : Prop :=
  (M 305 12 = b ∧ M 305 13 = C.length ∧ M 305 16 = P.length ∧ M 305 17 = yops P) ∧ ypil (M 310) P ∧ yat (ycf (M 308) b) 0 (ycm' C) ∧
  (∀ a, a ≠ 305 → a ≠ 308 → a ≠ 310 → M a = M0 a) ∧ (∀ k, k ≠ 7 → k ≠ 8 → k ≠ 9 → k ≠ 10 → k ≠ 11 → k ≠ 13 → k ≠ 16 → k ≠ 17 → k ≠ 18 → M 305 k = M0 305 k) ∧ (∀ k, k < b + 97 ∨ b + 705 ≤ k → M 308 k = M0 308 k)
theorem qwe {b c : Nat} (hb : b ≤ 2115) (hc : c < 304) : zw32 (zw32 ((b : Int) + 97) + zw32 (2 * (c : Int))) = ((b + 97 + 2 * c : Nat) : Int) := by
  rw [qz (x := (b : Int) + 97) (by omega) (by omega), qz (x := 2 * (c : Int)) (by omega) (by omega), qz (x := (b : Int) + 97 + 2 * (c : Int)) (by omega) (by omega)]
  omega
section QF
variable {S : Nat → Nat × Nat} {R : Nat → Nat → Nat} {M M' M0 M1 M2 M3 : Nat → Nat → Int} {n s d r : Nat} {B : Nat → Nat} {len i b : Nat} {P : List Nat} {C : List (Nat × Int)}
theorem km_rank {x : Nat} (σ : zS) : zcal zPP (d + 1) 217 [zI x] σ = some (zI (yrk x : Nat), σ) := by
  rw [c_M_rank]
  unfold yrk
  by_cases h40 : x < 40
  · rw [if_pos (by omega), if_pos h40]
    by_cases h : x = 22
    · rw [if_pos (by omega), if_pos h]; rfl
    rw [if_neg (by omega), if_neg h]
    by_cases h : x = 21
    · rw [if_pos (by omega), if_pos h]; rfl
    rw [if_neg (by omega), if_neg h]
    by_cases h : x = 20
    · rw [if_pos (by omega), if_pos h]; rfl
    rw [if_neg (by omega), if_neg h]
    by_cases h : x < 10
    · rw [if_pos (by omega), if_pos h]
      by_cases h : x < 8
      · rw [if_pos (by omega), if_pos h]
        by_cases h : x < 6
        · rw [if_pos (by omega), if_pos h]; rfl
        · rw [if_neg (by omega), if_neg h]; rfl
      · rw [if_neg (by omega), if_neg h]; rfl
    · rw [if_neg (by omega), if_neg h]; rfl
  · rw [if_neg (by omega), if_neg h40]; rfl
/-- an emit -/
theorem yRc_emit (h : yRc b M0 M P C) (hb : b ≤ 2115) (hc : C.length < 304) (o : Nat) (v : Int) : yRc b M0 (zup (zup (zup M 308 (b + 97 + 2 * C.length) o) 308 (b + 97 + 2 * C.length + 1) v) 305 13 ((C.length + 1 : Nat) : Int)) P (C ++ [(o, v)]) := by
  obtain ⟨⟨h1, h2, h3, h4⟩, h5, h6, h7, h8, h9⟩ := h
  have hl : (ycm' C).length = C.length := List.length_map _
  refine ⟨⟨?_, ?_, ?_, ?_⟩, ?_, ?_, fun a a1 a2 a3 => ?_, fun k k1 k2 k3 k4 k5 k6 k7 k8 k9 => ?_, fun k hk => ?_⟩
  · rw [zup_ne (by decide), zup_rw (by decide), zup_rw (by decide)]; exact h1
  · rw [zup_at, List.length_append]; rfl
  · rw [zup_ne (by decide), zup_rw (by decide), zup_rw (by decide)]; exact h3
  · rw [zup_ne (by decide), zup_rw (by decide), zup_rw (by decide)]; exact h4
  · rw [zup_rw (by decide), zup_rw (by decide), zup_rw (by decide)]; exact h5
  · have e308 : zup (zup (zup M 308 (b + 97 + 2 * C.length) o) 308 (b + 97 + 2 * C.length + 1) v) 305 13 ((C.length + 1 : Nat) : Int) 308 = zup (zup M 308 (b + 97 + 2 * C.length) o) 308 (b + 97 + 2 * C.length + 1) v 308 := zup_rw (by decide)
    rw [e308]
    have em : ycm' (C ++ [(o, v)]) = ycm' C ++ [((o : Int), v)] := List.map_append
    rw [em, yat_app]
    refine ⟨yat_cong (fun k hk1 hk2 => ?_) h6, ?_, trivial⟩
    · rw [hl] at hk2
      unfold ycf
      rw [zup_ne (by omega), zup_ne (by omega), zup_ne (by omega), zup_ne (by omega)]
    · rw [hl, Nat.zero_add]
      unfold ycf
      rw [zup_ne (by omega), zup_at, zup_at]
  · rw [zup_rw a1, zup_rw a2, zup_rw a2]; exact h7 a a1 a2 a3
  · rw [zup_ne k6, zup_rw (by decide), zup_rw (by decide)]; exact h8 k k1 k2 k3 k4 k5 k6 k7 k8 k9
  · rw [zup_rw (by decide), zup_ne (by omega), zup_ne (by omega)]; exact h9 k hk
theorem km_emit (hF : qFx S R) (h : yRc b M0 M P C) (hb : b ≤ 2115) (hc : C.length < 304) (o : Nat) (v : Int) : zcal zPP (d + 1) 220 [zA 305, zI o, zI v] (n, s, S, R, M) = some (zU, (n, s, S, R, zup (zup (zup M 308 (b + 97 + 2 * C.length) o) 308 (b + 97 + 2 * C.length + 1) v) 305 13 ((C.length + 1 : Nat) : Int))) := by
  obtain ⟨⟨h1, h2, h3, h4⟩, -⟩ := h
  have z1 : zw32 (zw32 ((b : Int) + 97) + zw32 (2 * ((C.length : Nat) : Int))) = ((b + 97 + 2 * C.length : Nat) : Int) := qwe hb hc
  have i1 : 0 ≤ ((b + 97 + 2 * C.length : Nat) : Int) ∧ ((b + 97 + 2 * C.length : Nat) : Int) < ((2820 : Nat) : Int) := by clear z1; omega
  have i2 : 0 ≤ ((b + 97 + 2 * C.length + 1 : Nat) : Int) ∧ ((b + 97 + 2 * C.length + 1 : Nat) : Int) < ((2820 : Nat) : Int) := by clear z1; omega
  have e1 : ∀ (k : Nat) (v : Int), zup M 308 k v 305 = M 305 := fun k v => zup_rw (by decide)
  have e2 : ∀ (k j : Nat) (v u : Int), zup (zup M 308 k v) 308 j u 305 = M 305 := fun k j v u => by rw [zup_rw (by decide), zup_rw (by decide)]
  have q2 : zw32 (((b + 97 + 2 * C.length : Nat) : Int) + 1) = ((b + 97 + 2 * C.length + 1 : Nat) : Int) := by clear z1; exact qw1 (by omega)
  have q3 : zw32 (((C.length : Nat) : Int) + 1) = ((C.length + 1 : Nat) : Int) := by clear z1 q2; exact qw1 (by omega)
  rw [c_M_emit]
  simp only [qff hF, if_true, true_or, true_and, h1, h2, z1, if_pos i1, Int.toNat_natCast, e1, e2, q2, if_pos i2, q3]
theorem yio_k {x : Nat} : yio x = true ↔ 40 ≤ x ∨ yrk x = 7 ∨ x = 20 := by unfold yio; simp [or_assoc]
/-- what waits settled -/
theorem km_settl (hF : qFx S R) (hb : b ≤ 2115) {rr : Nat} (hr1 : 1 ≤ rr) : ∀ (P : List Nat) (C : List (Nat × Int)) (M : Nat → Nat → Int), yRc b M0 M P C → P.length + C.length ≤ 304 → P.length ≤ 160 →
    ∃ M', zR zPP (d + 1) 219 0 [zA 305, zI rr] [] (n, s, S, R, M) = some (zU, (n, s, S, R, M')) ∧ yRc b M0 M' (yst rr P C).1 (yst rr P C).2 ∧ (∀ k, k ≠ 13 → k ≠ 16 → k ≠ 17 → M' 305 k = M 305 k)
  | [], C, M, h, _, _ => by
    refine ⟨M, ?_, h, fun _ _ _ _ => rfl⟩
    have h3 : M 305 16 = 0 := h.1.2.2.1
    rw [e_M_settle_0]
    simp only [qff hF, if_true, h3]
    rw [if_neg (by decide)]
  | x :: P, C, M, h, hlc, hlp => by
    have hlc' : P.length + 1 + C.length ≤ 304 := hlc
    have hlp' : P.length + 1 ≤ 160 := hlp
    have h3 : M 305 16 = ((P.length + 1 : Nat) : Int) := h.1.2.2.1
    have h4 : M 305 17 = ((yops P + (if yio x = true then 1 else 0) : Nat) : Int) := h.1.2.2.2
    have hx : M 310 P.length = x := h.2.1.1
    have i1 : 0 ≤ ((P.length : Nat) : Int) ∧ ((P.length : Nat) : Int) < ((160 : Nat) : Int) := by omega
    have z1 : zw32 (((P.length + 1 : Nat) : Int) - 1) = ((P.length : Nat) : Int) := by
      have : ((P.length + 1 : Nat) : Int) - 1 = ((P.length : Nat) : Int) := by omega
      rw [this]; exact qz (by omega) (by omega)
    by_cases hk : yrk x < rr
    · have e : yst rr (x :: P) C = (x :: P, C) := if_pos hk
      rw [e]
      refine ⟨M, ?_, h, fun _ _ _ _ => rfl⟩
      rw [e_M_settle_0]
      simp only [qff hF, if_true, h3, z1, true_or, true_and, if_pos i1, Int.toNat_natCast, hx]
      rw [if_pos (by clear z1; omega), km_rank]
      simp only [zbI]
      rw [if_pos (by clear z1; omega)]
    · have e : yst rr (x :: P) C = yst rr P (C ++ [(x, 0)]) := if_neg hk
      have hx40 : ¬ 40 ≤ x := fun z => hk (by unfold yrk; rw [if_neg (by omega)]; omega)
      -- the pile without it
      have hP : yRc b M0 (zup (zup M 305 16 ((P.length : Nat) : Int)) 305 17 ((yops P : Nat) : Int)) P C := by
        obtain ⟨⟨a1, a2, a3, a4⟩, a5, a6, a7, a8, a9⟩ := h
        refine ⟨⟨?_, ?_, ?_, zup_at⟩, ?_, ?_, fun a b1 b2 b3 => ?_, fun k k1 k2 k3 k4 k5 k6 k7 k8 k9 => ?_, fun k hk => ?_⟩
        · rw [zup_ne (by decide), zup_ne (by decide)]; exact a1
        · rw [zup_ne (by decide), zup_ne (by decide)]; exact a2
        · rw [zup_ne (by decide), zup_at]
        · rw [zup_rw (by decide), zup_rw (by decide)]; exact a5.2
        · rw [zup_rw (by decide), zup_rw (by decide)]; exact a6
        · rw [zup_rw b1, zup_rw b1]; exact a7 a b1 b2 b3
        · rw [zup_ne k8, zup_ne k7]; exact a8 k k1 k2 k3 k4 k5 k6 k7 k8 k9
        · rw [zup_rw (by decide), zup_rw (by decide)]; exact a9 k hk
      have hE := yRc_emit hP hb (by clear z1; omega) x 0
      obtain ⟨M', r1, r2, r3⟩ := km_settl hF hb hr1 P (C ++ [(x, 0)]) _ hE (by rw [List.length_append]; show P.length + (C.length + 1) ≤ 304; clear z1; omega) (by clear z1; omega)
      rw [e]
      refine ⟨M', Eq.trans ?_ r1, r2, fun k k1 k2 k3 => by rw [r3 k k1 k2 k3, zup_ne k1, zup_rw (by decide), zup_rw (by decide), zup_ne k3, zup_ne k2]⟩
      -- the state behind the pop
      have hP16 : yRc b M0 (zup M 305 16 ((P.length : Nat) : Int)) P C ∨ True := Or.inr trivial
      have f12 : zup M 305 16 ((P.length : Nat) : Int) 305 12 = b := by rw [zup_ne (by decide)]; exact h.1.1
      have f13 : zup M 305 16 ((P.length : Nat) : Int) 305 13 = C.length := by rw [zup_ne (by decide)]; exact h.1.2.1
      have f310 : zup M 305 16 ((P.length : Nat) : Int) 310 P.length = x := by rw [zup_rw (by decide)]; exact hx
      have hem : zcal zPP (d + 1) 220 [zA 305, zI x, zI 0] (n, s, S, R, zup M 305 16 ((P.length : Nat) : Int)) = some (zU, (n, s, S, R, zup (zup (zup (zup M 305 16 ((P.length : Nat) : Int)) 308 (b + 97 + 2 * C.length) x) 308 (b + 97 + 2 * C.length + 1) 0) 305 13 ((C.length + 1 : Nat) : Int))) := by
        have z1' : zw32 (zw32 ((b : Int) + 97) + zw32 (2 * ((C.length : Nat) : Int))) = ((b + 97 + 2 * C.length : Nat) : Int) := by clear z1; exact qwe hb (by omega)
        have j1 : 0 ≤ ((b + 97 + 2 * C.length : Nat) : Int) ∧ ((b + 97 + 2 * C.length : Nat) : Int) < ((2820 : Nat) : Int) := by clear z1 z1'; omega
        have j2 : 0 ≤ ((b + 97 + 2 * C.length + 1 : Nat) : Int) ∧ ((b + 97 + 2 * C.length + 1 : Nat) : Int) < ((2820 : Nat) : Int) := by clear z1 z1'; omega
        have e1 : ∀ (k : Nat) (v : Int), zup (zup M 305 16 ((P.length : Nat) : Int)) 308 k v 305 = zup M 305 16 ((P.length : Nat) : Int) 305 := fun k v => zup_rw (by decide)
        have e2 : ∀ (k j : Nat) (v u : Int), zup (zup (zup M 305 16 ((P.length : Nat) : Int)) 308 k v) 308 j u 305 = zup M 305 16 ((P.length : Nat) : Int) 305 := fun k j v u => by rw [zup_rw (by decide), zup_rw (by decide)]
        have q2 : zw32 (((b + 97 + 2 * C.length : Nat) : Int) + 1) = ((b + 97 + 2 * C.length + 1 : Nat) : Int) := by clear z1 z1'; exact qw1 (by omega)
        have q3 : zw32 (((C.length : Nat) : Int) + 1) = ((C.length + 1 : Nat) : Int) := by clear z1 z1' q2; exact qw1 (by omega)
        rw [c_M_emit]
        simp only [qff hF, if_true, true_or, true_and, f12, f13, z1', if_pos j1, Int.toNat_natCast, e1, e2, q2, if_pos j2, q3]
      generalize hM3 : zup (zup (zup (zup M 305 16 ((P.length : Nat) : Int)) 308 (b + 97 + 2 * C.length) x) 308 (b + 97 + 2 * C.length + 1) 0) 305 13 ((C.length + 1 : Nat) : Int) = M3 at hem
      have g16 : M3 305 16 = ((P.length : Nat) : Int) := by rw [← hM3, zup_ne (by decide), zup_rw (by decide), zup_rw (by decide), zup_at]
      have g17 : M3 305 17 = ((yops P + (if yio x = true then 1 else 0) : Nat) : Int) := by rw [← hM3, zup_ne (by decide), zup_rw (by decide), zup_rw (by decide), zup_ne (by decide)]; exact h4
      have g310 : M3 310 P.length = x := by rw [← hM3, zup_rw (by decide), zup_rw (by decide), zup_rw (by decide)]; exact f310
      have hyo : yops P ≤ P.length := by have := ynp_ops P; omega
      -- both orders of writing are one
      have hEq : zup M3 305 17 ((yops P : Nat) : Int) = zup (zup (zup (zup (zup M 305 16 ((P.length : Nat) : Int)) 305 17 ((yops P : Nat) : Int)) 308 (b + 97 + 2 * C.length) x) 308 (b + 97 + 2 * C.length + 1) 0) 305 13 ((C.length + 1 : Nat) : Int) := by
        rw [← hM3]
        funext a k
        unfold zup
        by_cases ha : a = 305
        · subst ha
          by_cases k17 : k = 17
          · subst k17; simp
          · by_cases k13 : k = 13
            · subst k13; simp
            · simp [k17, k13]
        · simp [ha]
      rw [← hEq]
      have hEq2 : yio x = false → zup M3 305 17 ((yops P : Nat) : Int) = M3 := fun hf => by
        funext a k
        by_cases ha : a = 305 ∧ k = 17
        · obtain ⟨rfl, rfl⟩ := ha
          rw [zup_at, g17, hf]
          rfl
        · unfold zup
          rw [if_neg ha]
      clear hEq hE hP hP16 f12 f13 f310
      have z2 : zw32 (((yops P + 1 : Nat) : Int) - 1) = ((yops P : Nat) : Int) := by
        have : ((yops P + 1 : Nat) : Int) - 1 = ((yops P : Nat) : Int) := by clear z1; omega
        rw [this]; exact qz (by clear z1; omega) (by clear z1; omega)
      have hgo : zR zPP (d + 1) 219 0 [zA 305, zI rr] [] (n, s, S, R, M) = if yrk x = 7 then zR zPP (d + 1) 219 0 [zA 305, zI rr] [] (n, s, S, R, zup M3 305 17 (zw32 (M3 305 17 - 1))) else if x = 20 then zR zPP (d + 1) 219 0 [zA 305, zI rr] [] (n, s, S, R, zup M3 305 17 (zw32 (M3 305 17 - 1))) else zR zPP (d + 1) 219 0 [zA 305, zI rr] [] (n, s, S, R, M3) := by
        clear hEq2 z2
        have z16 : zup M 305 16 ((P.length : Nat) : Int) 305 16 = ((P.length : Nat) : Int) := zup_at
        have hx' : zup M 305 16 ((P.length : Nat) : Int) 310 P.length = x := by rw [zup_rw (by decide)]; exact hx
        rw [e_M_settle_0]
        simp only [qff hF, if_true, h3, z1, true_or, true_and, if_pos i1, Int.toNat_natCast, hx]
        rw [if_pos (by clear z1; omega), km_rank]
        simp only [zbI, qff hF, if_true, h3, z1, z16, true_or, true_and, if_pos i1, Int.toNat_natCast, hx']
        rw [if_neg (by clear z1; omega), hem]
        simp only [zbV, qff hF, if_true, g16, true_or, true_and, if_pos i1, Int.toNat_natCast, g310]
        rw [km_rank]
        simp only []
        by_cases h7 : yrk x = 7
        · rw [if_pos (by clear z1; omega), if_pos h7]
          simp only [qff hF, if_true]
        · rw [if_neg (by clear z1; omega), if_neg h7]
          simp only [qff hF, if_true, g16, true_or, true_and, if_pos i1, Int.toNat_natCast, g310]
          by_cases h20 : x = 20
          · rw [if_pos (by clear z1; omega), if_pos h20]
          · rw [if_neg (by clear z1; omega), if_neg h20]
      rw [hgo]
      by_cases hi : yio x = true
      · rw [if_pos hi] at g17
        rw [g17, z2]
        rcases yio_k.mp hi with h | h | h
        · exact absurd h hx40
        · rw [if_pos h]
        · by_cases h7 : yrk x = 7
          · rw [if_pos h7]
          · rw [if_neg h7, if_pos h]
      · have hif : ¬ (yrk x = 7) ∧ ¬ x = 20 := ⟨fun z => hi (yio_k.mpr (Or.inr (Or.inl z))), fun z => hi (yio_k.mpr (Or.inr (Or.inr z)))⟩
        rw [if_neg hif.1, if_neg hif.2, hEq2 (by simpa using hi)]
theorem km_settl2 (hF : qFx S R) (hb : b ≤ 2115) {rr : Nat} (hr1 : 1 ≤ rr) (h : yRc b M0 M P C) (hl : P.length + C.length ≤ 304) (hp : P.length ≤ 160) : ∃ M', zcal zPP (d + 2) 219 [zA 305, zI rr] (n, s, S, R, M) = some (zU, (n, s, S, R, M')) ∧ yRc b M0 M' (yst rr P C).1 (yst rr P C).2 ∧ (∀ k, k ≠ 13 → k ≠ 16 → k ≠ 17 → M' 305 k = M 305 k) := by
  obtain ⟨M', r1, r2⟩ := km_settl (n := n) (s := s) (d := d) (M0 := M0) hF hb hr1 P C M h hl hp
  refine ⟨M', ?_, r2⟩
  rw [c_M_settle]
  simp only [qff hF, if_true]
  exact r1
/-- where what is open lies -/
def yoa : List Nat → Int
  | [] => -1
  | x :: P => if 40 ≤ x then P.length else yoa P
theorem yoa_on : ∀ P : List Nat, (yoa P = -1 ∧ yon P = -1) ∨ (0 ≤ yoa P ∧ yoa P < P.length ∧ 40 ≤ yon P)
  | [] => Or.inl ⟨rfl, rfl⟩
  | x :: P => by
    by_cases h : 40 ≤ x
    · have e1 : yoa (x :: P) = P.length := if_pos h
      have e2 : yon (x :: P) = x := if_pos h
      rw [e1, e2]
      exact Or.inr ⟨by omega, by show (P.length : Int) < ((P.length + 1 : Nat) : Int); omega, by omega⟩
    · have e1 : yoa (x :: P) = yoa P := if_neg h
      have e2 : yon (x :: P) = yon P := if_neg h
      have ih := yoa_on P
      rw [e1, e2]
      rcases ih with ih | ih
      · exact Or.inl ih
      · exact Or.inr ⟨ih.1, by show yoa P < ((P.length + 1 : Nat) : Int); omega, ih.2.2⟩
theorem km_openAt (hF : qFx S R) (h3 : M 305 16 = P.length) (hp : ypil (M 310) P) (hl : P.length ≤ 160) : zcal zPP (d + 1) 215 [zA 305] (n, s, S, R, M) = some (zI (yoa P), (n, s, S, R, M)) := by
  have L : ∀ (P : List Nat), ypil (M 310) P → P.length ≤ 160 → zR zPP d 215 5 [zA 305, zI ((P.length : Int) - 1)] [] (n, s, S, R, M) = some (zI (yoa P), (n, s, S, R, M)) := by
    intro P
    induction P with
    | nil =>
      intro _ _
      rw [e_M_openAt_5, if_pos (by show ((0 : Nat) : Int) - 1 < 0; omega)]
      rfl
    | cons x P ih =>
      intro hp hl
      have hl' : P.length + 1 ≤ 160 := hl
      have e : ((x :: P).length : Int) - 1 = ((P.length : Nat) : Int) := by show ((P.length + 1 : Nat) : Int) - 1 = _; omega
      have i1 : 0 ≤ ((P.length : Nat) : Int) ∧ ((P.length : Nat) : Int) < ((160 : Nat) : Int) := by omega
      rw [e, e_M_openAt_5, if_neg (by omega)]
      simp only [qff hF, if_true, true_or, true_and, if_pos i1, Int.toNat_natCast, hp.1]
      by_cases h : 40 ≤ x
      · have e1 : yoa (x :: P) = P.length := if_pos h
        rw [if_neg (by omega), e1]
      · have e1 : yoa (x :: P) = yoa P := if_neg h
        have z : zw32 (((P.length : Nat) : Int) + -1) = ((P.length : Nat) : Int) - 1 := qz (by omega) (by omega)
        rw [if_pos (by clear z; omega), z, e1]
        exact ih hp.2 (by clear z; omega)
  have z : zw32 (((P.length : Nat) : Int) - 1) = ((P.length : Nat) : Int) - 1 := qz (by omega) (by omega)
  rw [c_M_openAt]
  simp only [qff hF, if_true, h3, z]
  exact L P hp hl
theorem ypil_at {F : Nat → Int} : ∀ {P : List Nat}, ypil F P → 0 ≤ yoa P → F (yoa P).toNat = yon P
  | [], _, h => absurd h (by decide)
  | x :: P, hp, h => by
    by_cases hx : 40 ≤ x
    · have e1 : yoa (x :: P) = P.length := if_pos hx
      have e2 : yon (x :: P) = x := if_pos hx
      rw [e1, e2, Int.toNat_natCast]
      exact hp.1
    · have e1 : yoa (x :: P) = yoa P := if_neg hx
      have e2 : yon (x :: P) = yon P := if_neg hx
      rw [e1] at h ⊢
      rw [e2]
      exact ypil_at hp.2 h
theorem km_openNow (hF : qFx S R) (h3 : M 305 16 = P.length) (hp : ypil (M 310) P) (hl : P.length ≤ 160) : zcal zPP (d + 2) 214 [zA 305] (n, s, S, R, M) = some (zI (yon P), (n, s, S, R, M)) := by
  have ho := km_openAt (n := n) (s := s) (d := d) hF h3 hp hl
  rw [c_M_openNow]
  simp only [qff hF, if_true]
  rw [ho]
  simp only [zbI]
  rcases yoa_on P with ⟨h1, h2⟩ | ⟨h1, h2, h4⟩
  · rw [h1, h2, if_pos (by decide)]
  · have i1 : 0 ≤ yoa P ∧ yoa P < ((160 : Nat) : Int) := by omega
    have hat := ypil_at hp h1
    rw [if_neg (by omega)]
    simp only [qff hF, if_true]
    rw [ho]
    simp only [qff hF, if_true, true_or, true_and, if_pos i1, hat]
theorem km_isCompared (hF : qFx S R) (h3 : M 305 16 = P.length) (hp : ypil (M 310) P) (hl : P.length ≤ 160) : zcal zPP (d + 2) 216 [zA 305] (n, s, S, R, M) = some (zI (q01 (ycp P)), (n, s, S, R, M)) := by
  have L : ∀ (P : List Nat), ypil (M 310) P → P.length ≤ 160 → zR zPP (d + 1) 216 5 [zA 305, zI ((P.length : Int) - 1)] [] (n, s, S, R, M) = some (zI (q01 (ycp P)), (n, s, S, R, M)) := by
    intro P
    induction P with
    | nil =>
      intro _ _
      rw [e_M_isCompared_5, if_pos (by show ((0 : Nat) : Int) - 1 < 0; omega), if_pos (by show ((0 : Nat) : Int) - 1 < 0; omega)]
      rfl
    | cons x P ih =>
      intro hp hl
      have hl' : P.length + 1 ≤ 160 := hl
      have e : ((x :: P).length : Int) - 1 = ((P.length : Nat) : Int) := by show ((P.length + 1 : Nat) : Int) - 1 = _; omega
      have i1 : 0 ≤ ((P.length : Nat) : Int) ∧ ((P.length : Nat) : Int) < ((160 : Nat) : Int) := by omega
      rw [e, e_M_isCompared_5, if_neg (by omega)]
      simp only [qff hF, if_true, true_or, true_and, if_pos i1, Int.toNat_natCast, hp.1]
      rw [km_rank]
      simp only [zbI, qff hF, if_true, true_or, true_and, if_pos i1, Int.toNat_natCast, hp.1]
      by_cases h : 4 < yrk x
      · have e1 : ycp (x :: P) = ycp P := if_pos h
        have z : zw32 (((P.length : Nat) : Int) + -1) = ((P.length : Nat) : Int) - 1 := qz (by omega) (by omega)
        rw [if_pos (by clear z; omega), z, e1]
        exact ih hp.2 (by clear z; omega)
      · have e1 : ycp (x :: P) = decide (yrk x = 4) := if_neg h
        rw [if_neg (by omega), if_neg (by omega), km_rank, e1]
        simp only []
        by_cases h4 : yrk x = 4
        · rw [if_pos (by omega), decide_eq_true h4]; rfl
        · rw [if_neg (by omega), decide_eq_false h4]; rfl
  have z : zw32 (((P.length : Nat) : Int) - 1) = ((P.length : Nat) : Int) - 1 := qz (by omega) (by omega)
  rw [c_M_isCompared]
  simp only [qff hF, if_true, h3, z]
  exact L P hp hl
/-- something is asked from here on -/
def yaa (P : List Nat) : Bool := decide (yon P = 41) && (match P with | [] => false | x :: _ => decide (yrk x ≤ 3))
theorem km_isAskAhead (hF : qFx S R) (h3 : M 305 16 = P.length) (hp : ypil (M 310) P) (hl : P.length ≤ 160) : zcal zPP (d + 3) 225 [zA 305] (n, s, S, R, M) = some (zI (q01 (yaa P)), (n, s, S, R, M)) := by
  have ho := km_openNow (n := n) (s := s) (d := d) hF h3 hp hl
  rw [c_M_isAskAhead]
  simp only [qff hF, if_true]
  rw [ho]
  simp only [zbI]
  unfold yaa
  by_cases h : yon P = 41
  · rw [if_pos h, decide_eq_true h]
    cases P with
    | nil => exact absurd h (by decide)
    | cons x P =>
      have hl' : P.length + 1 ≤ 160 := hl
      have h3' : M 305 16 = ((P.length + 1 : Nat) : Int) := h3
      have i1 : 0 ≤ ((P.length : Nat) : Int) ∧ ((P.length : Nat) : Int) < ((160 : Nat) : Int) := by omega
      have z1 : zw32 (((P.length + 1 : Nat) : Int) - 1) = ((P.length : Nat) : Int) := by
        have : ((P.length + 1 : Nat) : Int) - 1 = ((P.length : Nat) : Int) := by omega
        rw [this]; exact qz (by omega) (by omega)
      simp only [qff hF, if_true, h3', z1, true_or, true_and, if_pos i1, Int.toNat_natCast, hp.1]
      clear z1
      show _ = some (zI (q01 (true && decide (yrk x ≤ 3))), _)
      by_cases h40 : 40 ≤ x
      · have : yrk x = 0 := by unfold yrk; rw [if_neg (by omega)]
        rw [if_neg (by omega), this]
        rfl
      · rw [if_pos (by omega), km_rank]
        simp only []
        rw [k_isIn]
        simp only []
        have h1 : 1 ≤ yrk x := by
          unfold yrk
          rw [if_pos (by omega)]
          repeat' split
          all_goals decide
        by_cases h3 : yrk x ≤ 3
        · rw [if_pos (show (1 : Int) ≤ ((yrk x : Nat) : Int) ∧ ((yrk x : Nat) : Int) ≤ 3 by omega), if_neg (by decide), decide_eq_true h3]
          rfl
        · rw [if_neg (show ¬ ((1 : Int) ≤ ((yrk x : Nat) : Int) ∧ ((yrk x : Nat) : Int) ≤ 3) by omega), if_pos (by trivial), decide_eq_false h3]
          rfl
  · rw [if_neg h, decide_eq_false h]
    rfl
end QF
