/-! A CLAUSE: the model -/
/-- the model's rows, but what a text's reading writes -/
def yMR (b : Nat) (M00 M : Nat → Nat → Int) : Prop := (∀ a, a ≠ 305 → a ≠ 308 → a ≠ 310 → M a = M00 a) ∧ (∀ x, x < 7 ∨ x = 15 ∨ 19 < x → M 305 x = M00 305 x) ∧ ∀ x, x < b ∨ b + 705 ≤ x → M 308 x = M00 308 x
def yMI (B : Nat → Nat) (len b : Nat) (M00 M : Nat → Nat → Int) (i k : Nat) (C : List (Nat × Int)) (E : yEv) (w : yLw) : Prop :=
  (M 305 12 = b ∧ M 305 13 = C.length ∧ M 305 19 = (zsn (fun L => (w L).isSome) 24 : Nat) ∧ M 308 b = k) ∧ yNx B len M i ∧ yat (ycf (M 308) b) 0 (ycm' C) ∧ yMR b M00 M ∧
  ∀ x, x < k → M 308 (b + 1 + 4 * x) = (E x).1 ∧ (3 ≤ (E x).1 → yPv (E x).1 (M 308) (b + 1 + 4 * x) (E x).2.1 (E x).2.2.1 (E x).2.2.2) ∧ ((E x).1 < 3 → ∃ t, w (E x).1 = some t ∧ M 308 (b + 1 + 4 * x + 1) = t.2.2.1 ∧ M 308 (b + 1 + 4 * x + 2) = t.2.2.2.1)
def yMF (b : Nat) (M00 M : Nat → Nat → Int) (p : Nat) : Prop := M 305 8 = p ∧ yMR b M00 M
/-- what a clause does behind its body -/
noncomputable def ytl (d : Nat) (x3 : Int) (q2 : zS) : zO := if x3 = 0 then (if (q2.2.2.1 305).1 = 10 then (if (q2.2.2.1 305).1 = 10 then (if ((q2.2.2.1 (q2.2.2.2.1 305 2)).1 = 20 ∨ (q2.2.2.1 (q2.2.2.2.1 305 2)).1 = 30 ∨ (q2.2.2.1 (q2.2.2.2.1 305 2)).1 = 31) ∧ 0 ≤ (q2.2.2.2.2 305 12) ∧ (q2.2.2.2.2 305 12) < ((q2.2.2.1 (q2.2.2.2.1 305 2)).2 : Nat) then (if (q2.2.2.1 (q2.2.2.2.1 305 2)).1 = 20 ∧ 0 ≤ (q2.2.2.2.2 305 12) ∧ (q2.2.2.2.2 305 12) < ((q2.2.2.1 (q2.2.2.2.1 305 2)).2 : Nat) then (if (q2.2.2.1 305).1 = 10 then (if (zup q2.2.2.2.2 (q2.2.2.2.1 305 2) (q2.2.2.2.2 305 12).toNat (zw32 ((q2.2.2.2.2 (q2.2.2.2.1 305 2) (q2.2.2.2.2 305 12).toNat) + 1)) 305 9) = 59 then (zbV (zcal zPP d 191 [zA 305] (q2.1, q2.2.1, q2.2.2.1, q2.2.2.2.1, zup q2.2.2.2.2 (q2.2.2.2.1 305 2) (q2.2.2.2.2 305 12).toNat (zw32 ((q2.2.2.2.2 (q2.2.2.2.1 305 2) (q2.2.2.2.2 305 12).toNat) + 1)))) fun q4 => some (zI 0, q4)) else (some (zI 1, (q2.1, q2.2.1, q2.2.2.1, q2.2.2.2.1, zup q2.2.2.2.2 (q2.2.2.2.1 305 2) (q2.2.2.2.2 305 12).toNat (zw32 ((q2.2.2.2.2 (q2.2.2.2.1 305 2) (q2.2.2.2.2 305 12).toNat) + 1)))))) else none) else none) else none) else none) else none) else (some (zI x3, q2))
section QF
variable {S : Nat → Nat × Nat} {R : Nat → Nat → Nat} {M M' M0 M00 M1 M2 M3 : Nat → Nat → Int} {n s d r : Nat} {B : Nat → Nat} {len N i j k p b q e : Nat} {C : List (Nat × Int)} {E : yEv} {w : yLw}
theorem yMR_ta (ht : yTa B len M00) (h : yMR b M00 M) : yTa B len M := ⟨by rw [h.2.1 4 (by decide)]; exact ht.1, ht.2.1, by rw [h.1 309 (by decide) (by decide) (by decide)]; exact ht.2.2⟩
theorem yMR_t (h1 : yMR b M00 M) (h2 : yMR b M M1) : yMR b M00 M1 := ⟨fun a a1 a2 a3 => (h2.1 a a1 a2 a3).trans (h1.1 a a1 a2 a3), fun x hx => (h2.2.1 x hx).trans (h1.2.1 x hx), fun x hx => (h2.2.2 x hx).trans (h1.2.2 x hx)⟩
theorem yMR_x (h : yX M M1) : yMR b M M1 := ⟨fun a a1 _ _ => h.1 a a1, fun x hx => h.2 x (by omega) (by omega) (by omega) (by omega) (by omega), fun x _ => by rw [h.1 308 (by decide)]⟩
theorem yMR_u (h : yMR b M00 M) {x : Nat} {v : Int} (hx : 7 ≤ x ∧ x ≤ 19 ∧ x ≠ 15) : yMR b M00 (zup M 305 x v) := ⟨fun a a1 a2 a3 => by rw [zup_rw a1]; exact h.1 a a1 a2 a3, fun y hy => by rw [zup_ne (by omega)]; exact h.2.1 y hy, fun y hy => by rw [zup_rw (by decide)]; exact h.2.2 y hy⟩
theorem yMR_8 (h : yMR b M00 M) {x : Nat} {v : Int} (hx : b ≤ x ∧ x < b + 705) : yMR b M00 (zup M 308 x v) := ⟨fun a a1 a2 a3 => by rw [zup_rw a2]; exact h.1 a a1 a2 a3, fun y hy => by rw [zup_rw (by decide)]; exact h.2.1 y hy, fun y hy => by rw [zup_ne (by omega)]; exact h.2.2 y hy⟩
theorem yMR_f {q : Nat} (h : yFm q M M1) (hq : b ≤ q ∧ q + 3 < b + 705) : yMR b M M1 := ⟨fun a a1 a2 _ => h.1 a a1 a2, fun x hx => h.2.1 x (by omega) (by omega) (by omega) (by omega) (by omega), fun x hx => h.2.2 x (by omega)⟩
theorem mk_head (hF : qFx S R) (ht : yTa B len M00) (hI : yMI B len b M00 M i k C E w) (he : ysg B len i = e) (h9 : e ≤ 9) {K : Int → zS → zO} : zbI (zcal zPP (d + 7) 197 [zA 305] (n, s, S, R, M)) K = K (e : Nat) (n, s, S, R, M) := by
  rw [km_sortOf hF (fun k hk => (ht.2.2 k hk).2) hI.2.1, he, if_pos (show e < 10 by omega)]
  rfl
theorem mk_headN (hF : qFx S R) (ht : yTa B len M00) (hI : yMI B len b M00 M i k C E w) (h9 : 9 < ysg B len i) {K : Int → zS → zO} : zbI (zcal zPP (d + 7) 197 [zA 305] (n, s, S, R, M)) K = K (-1) (n, s, S, R, M) := by
  rw [km_sortOf hF (fun k hk => (ht.2.2 k hk).2) hI.2.1, if_neg (show ¬ ysg B len i < 10 by omega)]
  rfl
theorem mk_bad (hF : qFx S R) (ht : yTa B len M00) (hI : yMI B len b M00 M i k C E w) (hg : 9 < ysg B len i) : zcal zPP (d + 8) 196 [zA 305] (n, s, S, R, M) = some (zI 1, (n, s, S, R, M)) ∧ yMF b M00 M (ypl B len i) := by
  refine ⟨?_, hI.2.1.2.1, hI.2.2.2.1⟩
  rw [c_M_clause]
  simp only [qff hF, if_true]
  rw [mk_headN hF ht hI hg, if_pos (by decide)]
theorem mk_17 (hF : qFx S R) (ht : yTa B len M00) (hI : yMI B len b M00 M i k C E w) (he : ysg B len i = e) (h9 : e ≤ 9) (hw : e < 3 → w e = none) :
    zcal zPP (d + 8) 196 [zA 305] (n, s, S, R, M) = zR zPP (d + 7) 196 17 [zA 305, zI e, zU, zU, zU] [] (n, s, S, R, M) := by
  rw [c_M_clause]
  simp only [qff hF, if_true]
  rw [mk_head hF ht hI he h9, if_neg (by omega)]
  by_cases h3 : e < 3
  · rw [if_neg (by omega)]
    simp only [qff hF, if_true, hI.1.2.2.1]
    rw [c_M_has, zsn_bit24 _ (by omega), hw h3]
    rfl
  · rw [if_pos (by omega)]
theorem mk_twice (hF : qFx S R) (ht : yTa B len M00) (hI : yMI B len b M00 M i k C E w) (he : ysg B len i = e) (h3 : e < 3) {t : Nat × Nat × Nat × Nat × (qE → Int)} (hw : w e = some t) : zcal zPP (d + 8) 196 [zA 305] (n, s, S, R, M) = some (zI 4, (n, s, S, R, M)) ∧ yMF b M00 M (ypl B len i) := by
  refine ⟨?_, hI.2.1.2.1, hI.2.2.2.1⟩
  rw [c_M_clause]
  simp only [qff hF, if_true]
  rw [mk_head hF ht hI he (by omega), if_neg (by omega), if_neg (by omega)]
  simp only [qff hF, if_true, hI.1.2.2.1]
  rw [c_M_has, zsn_bit24 _ (by omega), hw]
  rfl
theorem mk_full (hF : qFx S R) (hb : b ≤ 2115) (ht : yTa B len M00) (hI : yMI B len b M00 M i 24 C E w) (he : ysg B len i = e) (h9 : e ≤ 9) (hw : e < 3 → w e = none) : zcal zPP (d + 8) 196 [zA 305] (n, s, S, R, M) = some (zI 6, (n, s, S, R, M)) ∧ yMF b M00 M (ypl B len i) := by
  refine ⟨?_, hI.2.1.2.1, hI.2.2.2.1⟩
  have p0 : 0 ≤ (b : Int) ∧ (b : Int) < ((2820 : Nat) : Int) := by omega
  rw [mk_17 hF ht hI he h9 hw, e_M_clause_17]
  simp only [qff hF, if_true, true_or, true_and, hI.1.1, if_pos p0, Int.toNat_natCast, hI.1.2.2.2]
  rfl
/-- from the sign on: M1 has the law's mark and the sort -/
theorem mk_39 (hF : qFx S R) (hb : b ≤ 2115) (ht : yTa B len M00) (h12 : M1 305 12 = b) (h8 : M1 308 b = k) (hn : yNx B len M1 i) (hR : yMR b M00 M1) (hk : k < 24) (he : e ≤ 9) :
    ∃ M3, (zR zPP (d + 19) 196 39 [zA 305, zI e, zI k, zU, zU] [] (n, s, S, R, M1) = zbI (zcal zPP (d + 19) 204 [zA 305, zI e, zI ((b + 1 + 4 * k : Nat) : Int)] (n, s, S, R, M3)) fun x3 q2 => ytl (d + 19) x3 q2) ∧
      yNx B len M3 (i + 1) ∧ yMR b M1 M3 ∧ (∀ x, x ≠ 7 → x ≠ 8 → x ≠ 9 → x ≠ 10 → x ≠ 11 → x ≠ 14 → M3 305 x = M1 305 x) ∧ M3 305 14 = e ∧ M3 308 = zup M1 308 (b + 1 + 4 * k) (e : Nat) 308 := by
  have hx1 : yMR b M1 (zup M1 305 14 (e : Nat)) := yMR_u ⟨fun _ _ _ _ => rfl, fun _ _ => rfl, fun _ _ => rfl⟩ (by decide)
  have hn1 : yNx B len (zup M1 305 14 (e : Nat)) i := by
    unfold yNx at hn ⊢
    rw [zup_ne (by decide), zup_ne (by decide), zup_ne (by decide), zup_ne (by decide), zup_ne (by decide)]
    exact hn
  obtain ⟨M2, n1, n2, n3⟩ := km_next (n := n) (s := s) (d := d + 17) hF (yMR_ta (yMR_ta ht hR) hx1) (i := i + 1) hn1.1
  have h212 : M2 305 12 = b := by rw [n3.2 12 (by decide) (by decide) (by decide) (by decide) (by decide), zup_ne (by decide)]; exact h12
  have p0 : 0 ≤ ((b + 1 + 4 * k : Nat) : Int) ∧ ((b + 1 + 4 * k : Nat) : Int) < ((2820 : Nat) : Int) := by omega
  refine ⟨zup M2 308 (b + 1 + 4 * k) (e : Nat), ?_, ?_, ?_, fun x x1 x2 x3 x4 x5 x6 => ?_, ?_, ?_⟩
  · rw [e_M_clause_39]
    simp only [qff hF, if_true]
    have n1 : zcal zPP (d + 19) 191 [zA 305] (n, s, S, R, zup M1 305 14 (e : Nat)) = some (zU, (n, s, S, R, M2)) := n1
    rw [n1]
    simp only [zbV, qff hF, if_true, h212, qw1 (k := b) (by omega), qwq6 (b := k) (by omega), qwa (a := b + 1) (b := 4 * k) (by omega), true_and, if_pos p0, Int.toNat_natCast]
    rfl
  · unfold yNx at n2 ⊢
    rw [zup_rw (by decide)]
    exact n2
  · exact yMR_8 (yMR_t hx1 (yMR_x n3)) (by omega)
  · rw [zup_rw (by decide), n3.2 x x1 x2 x3 x4 x5, zup_ne (by omega)]
  · rw [zup_rw (by decide), n3.2 14 (by decide) (by decide) (by decide) (by decide) (by decide), zup_at]
  · funext x
    by_cases hx : x = b + 1 + 4 * k
    · rw [hx, zup_at, zup_at]
    · rw [zup_ne hx, zup_ne hx, n3.1 308 (by decide), zup_rw (by decide)]
end QF
