/-! THE CLASS'S OBJECT at x: town, kept, judge, counsel, odds, foreseen, reader, lacks, tape; each at an address of its own -/
def qLX (S : Nat → Nat × Nat) (R : Nat → Nat → Nat) (x t k j c o f r l p : Nat) : Prop :=
  (S x = (9, 12) ∧ R x 0 = t ∧ R x 1 = k ∧ R x 2 = j ∧ R x 3 = c ∧ R x 4 = o ∧ R x 5 = f ∧ R x 6 = r ∧ R x 7 = l ∧ R x 8 = p) ∧ (qLT S R t ∧ qLT S R k ∧ qLR S R f) ∧
  (S j = (2, 3) ∧ S (j + 1) = (20, 80) ∧ R j 0 = t ∧ R j 1 = j + 1) ∧ (S c = (1, 5) ∧ S (c + 1) = (20, 16) ∧ S (c + 2) = (20, 4) ∧ R c 0 = t ∧ R c 1 = c + 1 ∧ R c 2 = c + 2) ∧ (S o = (3, 3) ∧ S (o + 1) = (22, 16) ∧ R o 0 = o + 1) ∧
  (S r = (4, 14) ∧ S (r + 1) = (20, 301) ∧ S (r + 2) = (20, 301) ∧ S (r + 3) = (20, 301) ∧ S (r + 4) = (20, 300) ∧ S (r + 5) = (20, 96) ∧ S (r + 6) = (20, 3) ∧ S (r + 7) = (20, 3) ∧ R r 0 = r + 1 ∧ R r 1 = r + 2 ∧ R r 2 = r + 3 ∧ R r 3 = r + 4 ∧ R r 4 = r + 5 ∧ R r 5 = r + 6 ∧ R r 6 = r + 7) ∧ S l = (20, 5) ∧ S p = (21, 300)
/-- the addresses, as the two constructors make them -/
def qAd (x t k j c o f r l p m : Nat) : Prop := x = 9 ∧ t = 10 ∧ k = 147 ∧ j = 284 ∧ c = 286 ∧ o = 289 ∧ f = 291 ∧ r = 295 ∧ l = 303 ∧ p = 304 ∧ m = 305
theorem k_isKind {d : Nat} (v : Int) (σ : zS) : zcal zPP (d + 1) 20 [zI v] σ = some (zI (if 0 ≤ v ∧ v < 4 then 1 else 0), σ) := by
  rw [c_X_isKind]
  by_cases h1 : v < 0
  · rw [if_pos h1, if_neg (by omega)]
  · rw [if_neg h1]
    by_cases h2 : v < 4
    · rw [if_pos h2, if_pos (by omega)]
    · rw [if_neg h2, if_neg (by omega)]
theorem k_isAge {d : Nat} (v : Int) (σ : zS) : zcal zPP (d + 1) 22 [zI v] σ = some (zI (if 0 ≤ v ∧ v ≤ 99 then 1 else 0), σ) := by
  rw [c_X_isAge]
  by_cases h1 : v < 0
  · rw [if_pos h1, if_neg (by omega)]
  · rw [if_neg h1]
    by_cases h2 : 99 < v
    · rw [if_pos h2, if_neg (by omega)]
    · rw [if_neg h2, if_pos (by omega)]
theorem k_isYearX {d : Nat} (y : Int) (σ : zS) : zcal zPP (d + 1) 19 [zI y] σ = some (zI (if 0 ≤ y ∧ y < 24 then 1 else 0), σ) := by
  by_cases h : 0 ≤ y ∧ y < 24
  · obtain ⟨y, rfl⟩ := Int.eq_ofNat_of_zero_le h.1
    rw [if_pos h, k_isYear (show y < 24 by omega)]
  · rw [if_neg h, k_isYear_no (by omega)]
theorem qri1 {b y : Nat} (hb : b < 10000) (hy : y < 10000) : zw32 ((b : Int) + y) = ((b + y : Nat) : Int) := by unfold zw32; omega
section QX
variable {S : Nat → Nat × Nat} {R : Nat → Nat → Nat} {M : Nat → Nat → Int} {n s d x t k j c o f r l p m : Nat}
theorem k_year (h : qLX S R x t k j c o f r l p) (y v : Int) : zcal zPP (d + 2) 18 [zA x, zI y, zI v] (n, s, S, R, M) = some (if (0 ≤ y ∧ y < 24) ∧ 0 ≤ v ∧ v < 4 then (zI 1, (n, s, S, R, zup M (t + 2) y.toNat v)) else (zI 0, (n, s, S, R, M))) := by
  obtain ⟨⟨x1, x2, -⟩, ⟨ht, -⟩, -⟩ := h
  rw [c_X_year]
  simp only [x1, if_true]
  rw [k_isYearX]
  simp only [zbI]
  by_cases h1 : 0 ≤ y ∧ y < 24
  · rw [if_pos h1, if_neg (by decide), k_isKind]
    simp only [zbI]
    by_cases h2 : 0 ≤ v ∧ v < 4
    · obtain ⟨y, rfl⟩ := Int.eq_ofNat_of_zero_le h1.1
      rw [if_pos h2, if_neg (by decide)]
      simp only [x1, x2, ht.1.1, ht.2.1.2.1, ht.1.2.2.1, if_true, true_and, Int.toNat_natCast]
      rw [if_pos (qok (by omega)), if_pos ⟨h1, h2⟩]
    · rw [if_neg h2, if_pos rfl, if_neg (fun z => h2 z.2)]
  · rw [if_neg h1, if_pos rfl, if_neg (fun z => h1 z.1)]
theorem k_yearM (h : qLM S R m) (y v : Int) : zcal zPP (d + 3) 183 [zA m, zI y, zI v] (n, s, S, R, M) = some (if (0 ≤ y ∧ y < 24) ∧ 0 ≤ v ∧ v < 4 then (zI 1, (n, s, S, R, zup M (m + 1) (136 + y.toNat) v)) else (zI 0, (n, s, S, R, M))) := by
  rw [c_M_year]
  simp only [h.1.1, if_true]
  rw [k_isYearM]
  simp only [zbI]
  by_cases h1 : 0 ≤ y ∧ y < 24
  · rw [if_pos h1, if_neg (by decide), k_isIn]
    simp only [zbI]
    by_cases h2 : 0 ≤ v ∧ v < 4
    · obtain ⟨y, rfl⟩ := Int.eq_ofNat_of_zero_le h1.1
      rw [if_pos (show 0 ≤ v ∧ v ≤ 3 by omega), if_neg (by decide), show (136 : Int) = ((136 : Nat) : Int) from rfl, qri1 (by decide) (by omega)]
      simp only [h.1.1, h.1.2.1, h.2.1, if_true, true_and, Int.toNat_natCast]
      rw [if_pos (qok (by omega)), if_pos ⟨h1, h2⟩]
    · rw [if_neg (show ¬ (0 ≤ v ∧ v ≤ 3) by omega), if_pos rfl, if_neg (fun z => h2 z.2)]
  · rw [if_neg h1, if_pos rfl, if_neg (fun z => h1 z.1)]
theorem k_wants (h : qLX S R x t k j c o f r l p) (y v : Int) : zcal zPP (d + 2) 57 [zA x, zI y, zI v] (n, s, S, R, M) = some (if (0 ≤ y ∧ y < 5) ∧ 0 ≤ v ∧ v ≤ 99 then (zI 1, (n, s, S, R, zup M (t + 5) y.toNat v)) else (zI 0, (n, s, S, R, M))) := by
  obtain ⟨⟨x1, x2, -⟩, ⟨ht, -⟩, -⟩ := h
  rw [c_X_wants]
  simp only [x1, if_true]
  by_cases h1 : y < 0
  · rw [if_pos h1, if_neg (by omega)]
  · rw [if_neg h1]
    by_cases h5 : y < 5
    · rw [if_pos h5, k_isAge]
      simp only [zbI]
      obtain ⟨y, rfl⟩ := Int.eq_ofNat_of_zero_le (by omega : 0 ≤ y)
      by_cases h2 : 0 ≤ v ∧ v ≤ 99
      · rw [if_pos h2, if_neg (by decide)]
        simp only [x1, x2, ht.1.1, ht.2.1.2.2.2.2.1, ht.1.2.2.2.2.2.1, if_true, true_and, Int.toNat_natCast]
        rw [if_pos (qok (by omega)), if_pos (by omega)]
      · rw [if_neg h2, if_pos rfl, if_neg (fun z => h2 z.2)]
    · rw [if_neg h5, if_neg (by omega)]
theorem k_wantsM (h : qLM S R m) (y v : Int) : zcal zPP (d + 2) 295 [zA m, zI y, zI v] (n, s, S, R, M) = some (if (0 ≤ y ∧ y < 5) ∧ 0 ≤ v ∧ v ≤ 99 then (zI 1, (n, s, S, R, zup M (m + 1) (160 + y.toNat) v)) else (zI 0, (n, s, S, R, M))) := by
  rw [c_M_wants]
  simp only [h.1.1, if_true]
  rw [k_isIn]
  simp only [zbI]
  by_cases h1 : 0 ≤ y ∧ y < 5
  · rw [if_pos (show 0 ≤ y ∧ y ≤ 4 by omega), if_neg (by decide), k_isIn]
    simp only [zbI]
    by_cases h2 : 0 ≤ v ∧ v ≤ 99
    · obtain ⟨y, rfl⟩ := Int.eq_ofNat_of_zero_le h1.1
      rw [if_pos h2, if_neg (by decide), show (160 : Int) = ((160 : Nat) : Int) from rfl, qri1 (by decide) (by omega)]
      simp only [h.1.1, h.1.2.1, h.2.1, if_true, true_and, Int.toNat_natCast]
      rw [if_pos (qok (by omega)), if_pos ⟨h1, h2⟩]
    · rw [if_neg h2, if_pos rfl, if_neg (fun z => h2 z.2)]
  · rw [if_neg (show ¬ (0 ≤ y ∧ y ≤ 4) by omega), if_pos rfl, if_neg (fun z => h1 z.1)]
theorem k_takes (h : qLX S R x t k j c o f r l p) (y v : Int) : zcal zPP (d + 1) 58 [zA x, zI y, zI v] (n, s, S, R, M) = some (if (0 ≤ y ∧ y < 5) ∧ 0 ≤ v ∧ v ≤ 15 then (zI 1, (n, s, S, R, zup M (t + 6) y.toNat v)) else (zI 0, (n, s, S, R, M))) := by
  obtain ⟨⟨x1, x2, -⟩, ⟨ht, -⟩, -⟩ := h
  rw [c_X_takes]
  simp only [x1, if_true]
  by_cases h1 : y < 0
  · rw [if_pos h1, if_neg (by omega)]
  · rw [if_neg h1]
    by_cases h5 : y < 5
    · rw [if_pos h5]
      by_cases h2 : v < 0
      · rw [if_pos h2, if_neg (by omega)]
      · rw [if_neg h2]
        by_cases h3 : v < 16
        · obtain ⟨y, rfl⟩ := Int.eq_ofNat_of_zero_le (by omega : 0 ≤ y)
          rw [if_pos h3]
          simp only [x1, x2, ht.1.1, ht.2.1.2.2.2.2.2.1, ht.1.2.2.2.2.2.2.1, if_true, true_and, Int.toNat_natCast]
          rw [if_pos (qok (by omega)), if_pos (by omega)]
        · rw [if_neg h3, if_neg (by omega)]
    · rw [if_neg h5, if_neg (by omega)]
theorem k_takesM (h : qLM S R m) (y v : Int) : zcal zPP (d + 2) 296 [zA m, zI y, zI v] (n, s, S, R, M) = some (if (0 ≤ y ∧ y < 5) ∧ 0 ≤ v ∧ v ≤ 15 then (zI 1, (n, s, S, R, zup M (m + 1) (165 + y.toNat) v)) else (zI 0, (n, s, S, R, M))) := by
  rw [c_M_takes]
  simp only [h.1.1, if_true]
  rw [k_isIn]
  simp only [zbI]
  by_cases h1 : 0 ≤ y ∧ y < 5
  · rw [if_pos (show 0 ≤ y ∧ y ≤ 4 by omega), if_neg (by decide), k_isIn]
    simp only [zbI]
    by_cases h2 : 0 ≤ v ∧ v ≤ 15
    · obtain ⟨y, rfl⟩ := Int.eq_ofNat_of_zero_le h1.1
      rw [if_pos h2, if_neg (by decide), show (165 : Int) = ((165 : Nat) : Int) from rfl, qri1 (by decide) (by omega)]
      simp only [h.1.1, h.1.2.1, h.2.1, if_true, true_and, Int.toNat_natCast]
      rw [if_pos (qok (by omega)), if_pos ⟨h1, h2⟩]
    · rw [if_neg h2, if_pos rfl, if_neg (fun z => h2 z.2)]
  · rw [if_neg (show ¬ (0 ≤ y ∧ y ≤ 4) by omega), if_pos rfl, if_neg (fun z => h1 z.1)]
theorem k_price (h : qLX S R x t k j c o f r l p) (y v : Int) : zcal zPP (d + 2) 72 [zA x, zI y, zI v] (n, s, S, R, M) = some (if (0 ≤ y ∧ y < 4) ∧ 0 ≤ v ∧ v ≤ 99 then (zI 1, (n, s, S, R, zup M (t + 8) y.toNat v)) else (zI 0, (n, s, S, R, M))) := by
  obtain ⟨⟨x1, x2, -⟩, ⟨ht, -⟩, -⟩ := h
  rw [c_X_price]
  simp only [x1, if_true]
  rw [k_isKind]
  simp only [zbI]
  by_cases h1 : 0 ≤ y ∧ y < 4
  · rw [if_pos h1, if_neg (by decide)]
    by_cases h2 : v < 0
    · rw [if_pos h2, if_neg (by omega)]
    · rw [if_neg h2]
      by_cases h3 : 99 < v
      · rw [if_pos h3, if_neg (by omega)]
      · obtain ⟨y, rfl⟩ := Int.eq_ofNat_of_zero_le h1.1
        rw [if_neg h3]
        simp only [x1, x2, ht.1.1, ht.2.1.2.2.2.2.2.2.2.1, ht.1.2.2.2.2.2.2.2.2.1, if_true, true_and, Int.toNat_natCast]
        rw [if_pos (qok (by omega)), if_pos (by omega)]
  · rw [if_neg h1, if_pos rfl, if_neg (fun z => h1 z.1)]
theorem k_priceM (h : qLM S R m) (y v : Int) : zcal zPP (d + 2) 318 [zA m, zI y, zI v] (n, s, S, R, M) = some (if (0 ≤ y ∧ y < 4) ∧ 0 ≤ v ∧ v ≤ 99 then (zI 1, (n, s, S, R, zup M (m + 1) (170 + y.toNat) v)) else (zI 0, (n, s, S, R, M))) := by
  rw [c_M_price]
  simp only [h.1.1, if_true]
  rw [k_isIn]
  simp only [zbI]
  by_cases h1 : 0 ≤ y ∧ y < 4
  · rw [if_pos (show 0 ≤ y ∧ y ≤ 3 by omega), if_neg (by decide), k_isIn]
    simp only [zbI]
    by_cases h2 : 0 ≤ v ∧ v ≤ 99
    · obtain ⟨y, rfl⟩ := Int.eq_ofNat_of_zero_le h1.1
      rw [if_pos h2, if_neg (by decide), show (170 : Int) = ((170 : Nat) : Int) from rfl, qri1 (by decide) (by omega)]
      simp only [h.1.1, h.1.2.1, h.2.1, if_true, true_and, Int.toNat_natCast]
      rw [if_pos (qok (by omega)), if_pos ⟨h1, h2⟩]
    · rw [if_neg h2, if_pos rfl, if_neg (fun z => h2 z.2)]
  · rw [if_neg (show ¬ (0 ≤ y ∧ y ≤ 3) by omega), if_pos rfl, if_neg (fun z => h1 z.1)]
end QX
