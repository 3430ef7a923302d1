/-! a RING cut off, the class -/
theorem qpg8 {dd p o y : Nat} (hdd : dd ≤ 9999) (hp : p < 5) (ho : o < 5) (hy : y < 24) : zw32 (zw32 (zw32 (zw32 (zw32 (zw32 ((dd : Int) * 8) + p) * 8) + o) * 32) + y) = ((((dd * 8 + p) * 8 + o) * 32 + y : Nat) : Int) := by
  rw [qz (x := (dd : Int) * 8) (by omega) (by omega), qz (x := (dd : Int) * 8 + p) (by omega) (by omega), qz (x := ((dd : Int) * 8 + p) * 8) (by omega) (by omega), qz (x := ((dd : Int) * 8 + p) * 8 + o) (by omega) (by omega), qz (x := (((dd : Int) * 8 + p) * 8 + o) * 32) (by omega) (by omega), qz (x := (((dd : Int) * 8 + p) * 8 + o) * 32 + y) (by omega) (by omega)]
  omega
section QF
variable {S : Nat → Nat × Nat} {R : Nat → Nat → Nat} {M M' M0 M1 : Nat → Nat → Int} {n s d : Nat} {A : Nat → Int} {W : Nat → qWt} {w : qWt} {fl : Bool}
theorem kr_cutT {r o y p : Nat} (hr : qLR S R r) (ho : o < 5) (hy : y < 24) (hp : p < 5) {dd : Nat} (hdd : dd ≤ 9999) {c : Nat} (hc : M1 r 3 = c) (hc30 : c ≤ 30) (m5 : M1 r 5 = dd) :
    ∃ M', zR zPP (d + 1) 144 29 [zA r, zI o, zI y, zI p] [] (n, s, S, R, M1) = some (zU, (n, s, S, R, M')) ∧ (∀ a, a ≠ r → a ≠ r + 3 → M' a = M1 a) ∧ (∀ k, k ≠ 3 → M' r k = M1 r k) ∧
      (c = 30 → M' r 3 = 30 ∧ (∀ i, i < 29 → M' (r + 3) i = M1 (r + 3) (i + 1)) ∧ M' (r + 3) 29 = ((((dd * 8 + p) * 8 + o) * 32 + y : Nat) : Int)) ∧
      (c < 30 → M' r 3 = ((c + 1 : Nat) : Int) ∧ M' (r + 3) c = ((((dd * 8 + p) * 8 + o) * 32 + y : Nat) : Int) ∧ ∀ i : Nat, i < c → M' (r + 3) i = M1 (r + 3) i) := by
  obtain ⟨r1, r2, r3, r4, r5, r6, r7⟩ := hr
  have hn3 : r + 3 ≠ r := by omega
  have hn3' : r ≠ r + 3 := by omega
  have c0 : (0 : Int).toNat = 0 := rfl
  have c29 : (29 : Int).toNat = 29 := rfl
  have c1' : (1 : Int).toNat = 1 := rfl
  by_cases h30 : c = 30
  · have hc' : M1 r 3 = 30 := by rw [hc, h30]; rfl
    have z29 : zw32 ((30 : Int) - 1) = 29 := by decide
    have z30 : zw32 ((29 : Int) + 1) = 30 := by decide
    have m3' : zrow M1 (r + 3) (va_cpy (M1 (r + 3)) (M1 (r + 3)) 1 0 29) r 3 = 30 := by rw [zrow_rw hn3', hc']
    refine ⟨zup (zup (zup (zrow M1 (r + 3) (va_cpy (M1 (r + 3)) (M1 (r + 3)) 1 0 29)) r 3 29) (r + 3) 29 ((((dd * 8 + p) * 8 + o) * 32 + y : Nat) : Int)) r 3 30, ?_, fun a a1 a2 => ?_, fun k hk => ?_, fun _ => ⟨zup_at, fun i hi => ?_, ?_⟩, fun h => absurd h30 (Nat.ne_of_lt h)⟩
    · rw [e_Rings_cutOff_29]
      simp only [r1, r4, r7, if_true, hc', c0, c1', c29]
      rw [if_pos (by decide), m3', z29, e_Rings_cutOff_47]
      have m5' : zup (zrow M1 (r + 3) (va_cpy (M1 (r + 3)) (M1 (r + 3)) 1 0 29)) r 3 29 r 5 = dd := by rw [zup_ne (by decide), zrow_rw hn3']; exact m5
      simp only [r1, r4, r7, if_true, zup_at, m5', qpg8 hdd hp ho hy, c29]
      rw [if_neg (by decide), if_pos (by decide), if_pos (by decide)]
      have m3'' : zup (zup (zrow M1 (r + 3) (va_cpy (M1 (r + 3)) (M1 (r + 3)) 1 0 29)) r 3 29) (r + 3) 29 ((((dd * 8 + p) * 8 + o) * 32 + y : Nat) : Int) r 3 = 29 := by rw [zup_rw hn3', zup_at]
      rw [m3'', z30, e_Rings_cutOff_79]
    · rw [zup_rw a1, zup_rw a2, zup_rw a1, zrow_rw a2]
    · rw [zup_ne hk, zup_rw hn3', zup_ne hk, zrow_rw hn3']
    · rw [zup_rw hn3, zup_ne (Nat.ne_of_lt hi), zup_rw hn3, zrow_self]
      unfold va_cpy
      rw [if_pos ⟨Nat.zero_le _, by rw [Nat.zero_add]; exact hi⟩, Nat.sub_zero i, Nat.add_comm 1 i]
    · rw [zup_rw hn3, zup_at]
  · have hne : ¬ ((c : Nat) : Int) = 30 := fun h => h30 (Int.ofNat.inj h)
    have hcl : c < 30 := Nat.lt_of_le_of_ne hc30 h30
    have hlt : ¬ ((c : Nat) : Int) < 0 := Int.not_lt.mpr (Int.natCast_nonneg c)
    have hlt2 : ((c : Nat) : Int) < 30 := Int.ofNat_lt.mpr hcl
    have hin : 0 ≤ ((c : Nat) : Int) ∧ ((c : Nat) : Int) < ((30 : Nat) : Int) := ⟨Int.natCast_nonneg c, Int.ofNat_lt.mpr hcl⟩
    have hcc : zw32 ((c : Int) + 1) = ((c + 1 : Nat) : Int) := qw1 (Nat.lt_of_lt_of_le hcl (by decide))
    refine ⟨zup (zup M1 (r + 3) c ((((dd * 8 + p) * 8 + o) * 32 + y : Nat) : Int)) r 3 ((c + 1 : Nat) : Int), ?_, fun a a1 a2 => ?_, fun k hk => ?_, fun h => absurd h h30, fun _ => ⟨zup_at, ?_, fun i hi => ?_⟩⟩
    · rw [e_Rings_cutOff_29]
      simp only [r1, if_true, hc]
      rw [if_neg hne, e_Rings_cutOff_47]
      simp only [r1, r4, r7, if_true, hc, m5, qpg8 hdd hp ho hy, true_and, Int.toNat_natCast]
      rw [if_neg hlt, if_pos hlt2, if_pos hin, zup_rw hn3', hc, hcc, e_Rings_cutOff_79]
    · rw [zup_rw a1, zup_rw a2]
    · rw [zup_ne hk, zup_rw hn3']
    · rw [zup_rw hn3, zup_at]
    · rw [zup_rw hn3, zup_ne (Nat.ne_of_lt hi)]
theorem kr_cutOff {r o y p : Nat} (hr : qLR S R r) (ho : o < 5) (hy : y < 24) (hp : p < 5) (h3 : 0 ≤ M r 3 ∧ M r 3 ≤ 30) (h4 : 0 ≤ M r 4 ∧ M r 4 ≤ 9999) {dd : Nat} (h5 : M r 5 = dd) (hdd : dd ≤ 9999) :
    ∃ M', zcal zPP (d + 2) 144 [zA r, zI o, zI y, zI p] (n, s, S, R, M) = some (zU, (n, s, S, R, M')) ∧ (∀ a, a < r ∨ r + 3 < a → M' a = M a) ∧ M' (r + 1) = M (r + 1) ∧ (∀ k, k ≠ o → M' (r + 2) k = M (r + 2) k) ∧ M' (r + 2) o = zor (M (r + 2) o) (zshl 1 y) ∧
      (M' r 4 = qcut (M r 4 + 1) 0 9999 ∧ M' r 5 = M r 5 ∧ M' r 6 = M r 6) ∧
      (M r 3 = 30 → M' r 3 = 30 ∧ (∀ i, i < 29 → M' (r + 3) i = M (r + 3) (i + 1)) ∧ M' (r + 3) 29 = ((((dd * 8 + p) * 8 + o) * 32 + y : Nat) : Int)) ∧
      (M r 3 < 30 → M' r 3 = M r 3 + 1 ∧ M' (r + 3) (M r 3).toNat = ((((dd * 8 + p) * 8 + o) * 32 + y : Nat) : Int) ∧ ∀ i : Nat, (i : Int) < M r 3 → M' (r + 3) i = M (r + 3) i) := by
  obtain ⟨c, hc⟩ := Int.eq_ofNat_of_zero_le h3.1
  have c1 := qcut1 h4
  have hc30 : c ≤ 30 := by omega
  have TAIL : ∀ M1 : Nat → Nat → Int, (∀ a, a ≠ r → a ≠ r + 2 → M1 a = M a) → (∀ k, k ≠ 4 → M1 r k = M r k) → (∀ k, k ≠ o → M1 (r + 2) k = M (r + 2) k) → M1 (r + 2) o = zor (M (r + 2) o) (zshl 1 y) → M1 r 4 = qcut (M r 4 + 1) 0 9999 →
      ∃ M', zR zPP (d + 1) 144 29 [zA r, zI o, zI y, zI p] [] (n, s, S, R, M1) = some (zU, (n, s, S, R, M')) ∧ (∀ a, a < r ∨ r + 3 < a → M' a = M a) ∧ M' (r + 1) = M (r + 1) ∧ (∀ k, k ≠ o → M' (r + 2) k = M (r + 2) k) ∧ M' (r + 2) o = zor (M (r + 2) o) (zshl 1 y) ∧
      (M' r 4 = qcut (M r 4 + 1) 0 9999 ∧ M' r 5 = M r 5 ∧ M' r 6 = M r 6) ∧
      (M r 3 = 30 → M' r 3 = 30 ∧ (∀ i, i < 29 → M' (r + 3) i = M (r + 3) (i + 1)) ∧ M' (r + 3) 29 = ((((dd * 8 + p) * 8 + o) * 32 + y : Nat) : Int)) ∧
      (M r 3 < 30 → M' r 3 = M r 3 + 1 ∧ M' (r + 3) (M r 3).toNat = ((((dd * 8 + p) * 8 + o) * 32 + y : Nat) : Int) ∧ ∀ i : Nat, (i : Int) < M r 3 → M' (r + 3) i = M (r + 3) i) := by
    intro M1 e1 e2 e3 e4 e5
    obtain ⟨M', x1, x2, x3, x4, x5⟩ := kr_cutT (n := n) (s := s) (d := d) (M1 := M1) hr ho hy hp hdd (c := c) ((e2 3 (by decide)).trans hc) hc30 ((e2 5 (by decide)).trans h5)
    have n1 : r + 1 ≠ r := by omega
    have n2 : r + 2 ≠ r := by omega
    have n13 : r + 1 ≠ r + 3 := by omega
    have n23 : r + 2 ≠ r + 3 := by omega
    have n12 : r + 1 ≠ r + 2 := by omega
    have n3 : r + 3 ≠ r := by omega
    have n32 : r + 3 ≠ r + 2 := by omega
    refine ⟨M', x1, fun a ha => ?_, ?_, fun k hk => ?_, ?_, ⟨?_, ?_, ?_⟩, fun h => ?_, fun h => ?_⟩
    · have a1 : a ≠ r := by omega
      have a2 : a ≠ r + 2 := by omega
      have a3 : a ≠ r + 3 := by omega
      rw [x2 a a1 a3, e1 a a1 a2]
    · rw [x2 _ n1 n13, e1 _ n1 n12]
    · rw [x2 _ n2 n23, e3 k hk]
    · rw [x2 _ n2 n23, e4]
    · rw [x3 4 (by decide), e5]
    · rw [x3 5 (by decide), e2 5 (by decide)]
    · rw [x3 6 (by decide), e2 6 (by decide)]
    · have h30 : c = 30 := by rw [hc] at h; exact Int.ofNat_inj.mp h
      obtain ⟨y1, y2, y3⟩ := x4 h30
      refine ⟨y1, fun i hi => ?_, y3⟩
      rw [y2 i hi, e1 _ n3 n32]
    · rw [hc] at h
      have h30 : c < 30 := by omega
      obtain ⟨y1, y2, y3⟩ := x5 h30
      rw [hc, Int.toNat_natCast]
      refine ⟨y1, y2, fun i hi => ?_⟩
      rw [y3 i (Int.ofNat_lt.mp hi), e1 _ n3 n32]
  obtain ⟨r1, r2, r3, r4, r5, r6, r7⟩ := hr
  have g1 : ¬ ((o : Nat) : Int) < 0 := by omega
  have g2 : ((o : Nat) : Int) < 5 := by omega
  have g3 : 0 ≤ ((o : Nat) : Int) ∧ ((o : Nat) : Int) < ((5 : Nat) : Int) := by omega
  have n2 : r ≠ r + 2 := by omega
  have n2' : r + 2 ≠ r := by omega
  have z4 : zw32 (M r 4 + 1) = M r 4 + 1 := qz (by omega) (by omega)
  rw [c_Rings_cutOff]
  simp only [r1, r3, r6, if_true, true_or, true_and, Int.toNat_natCast]
  rw [if_neg g1, if_pos g2, k_isYear hy]
  simp only [zbI, r1, r3, r6, if_true, true_or, true_and, Int.toNat_natCast]
  rw [if_neg (by decide), if_pos g3, if_pos g3]
  by_cases h49 : M r 4 < 9999
  · rw [zup_rw n2, if_pos h49, z4]
    refine TAIL _ (fun a a1 a2 => by rw [zup_rw a1, zup_rw a2]) (fun k hk => by rw [zup_ne hk, zup_rw n2]) (fun k hk => by rw [zup_rw n2', zup_ne hk]) (by rw [zup_rw n2', zup_at]) (by rw [zup_at]; exact (c1.2.2.1 h49).symm)
  · rw [zup_rw n2, if_neg h49]
    refine TAIL _ (fun a a1 a2 => by rw [zup_rw a2]) (fun k hk => by rw [zup_rw n2]) (fun k hk => by rw [zup_ne hk]) zup_at (by rw [zup_rw n2]; exact (c1.2.2.2 h49).symm)
end QF
