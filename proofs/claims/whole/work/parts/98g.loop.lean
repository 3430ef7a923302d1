/-! THE LAW'S LOOP: one call on both sides, and again -/
def qEnd (b c : Nat) (o : zO) : Prop := ∃ σ' : zS, o = some (zI 1, σ') ∧ σ'.1 ≤ b ∧ σ'.2.1 ≤ c
theorem qEnd_i {b c : Nat} {p : Prop} [Decidable p] {o1 o2 : zO} (hp : p) (h : qEnd b c o1) : qEnd b c (if p then o1 else o2) := by
  rw [if_pos hp]
  exact h
theorem qEnd_n {b c : Nat} {p : Prop} [Decidable p] {o1 o2 : zO} (hp : ¬ p) (h : qEnd b c o2) : qEnd b c (if p then o1 else o2) := by
  rw [if_neg hp]
  exact h
theorem qEnd_c {b c : Nat} {p : Prop} [Decidable p] {o1 o2 : zO} (h1 : qEnd b c o1) (h2 : qEnd b c o2) : qEnd b c (if p then o1 else o2) := by
  by_cases h : p
  · exact qEnd_i h h1
  · exact qEnd_n h h2
def qLp (L : Nat) (xs : Nat → Int) (n s : Nat) (S : Nat → Nat × Nat) (R : Nat → Nat → Nat) (M : Nat → Nat → Int) : Prop := zIv L xs (n, s, S, R, M) ∧ ∃ W, qWd n S R M W
section QF
variable {L : Nat} {xs : Nat → Int} {S : Nat → Nat × Nat} {R : Nat → Nat → Nat} {M : Nat → Nat → Int} {n s b c : Nat}
theorem kl_int (hck : ∀ j, zcm j) (hI : zIv L xs (n, s, S, R, M)) {j jm : Nat} {as : List zV} (hj : zallr zri (zPP.1 j) = true) (hb : qBo j jm as n s S R M) (has : zcs as) {F : Int → zS → zO}
    (k : ∀ (x : Int) (n1 s1 : Nat) (S1 : Nat → Nat × Nat) (R1 : Nat → Nat → Nat) (M1 M2 : Nat → Nat → Int), S1 1 = S 1 → M1 1 = M 1 → zcal zPP 100 jm (zA 305 :: as) (n1, s1, S1, R1, M1) = some (zI x, (n1, s1, S1, R1, M2)) → n1 ≤ n + 5 → s1 ≤ s + 410 → qLp L xs n1 s1 S1 R1 M2 → qEnd b c (F x (n1, s1, S1, R1, M1))) :
    qEnd b c (zbI (zcal zPP 100 j (zA 9 :: as) (n, s, S, R, M)) F) := by
  obtain ⟨v, n1, s1, S1, R1, M1, M2, W, e1, e2, w, b1, b2, b3, b4⟩ := hb
  obtain ⟨x, rfl⟩ := zcal_int hj e1
  have I1 := zcal_pres hck hI (args := zA 9 :: as) ⟨trivial, has⟩ e1
  have I2 := zcal_pres hck I1 (args := zA 305 :: as) ⟨trivial, has⟩ e2
  rw [e1]
  exact k x n1 s1 S1 R1 M1 M2 b3 ((I1.2.2.1 1 (by decide)).2.2.trans (hI.2.2.1 1 (by decide)).2.2.symm) e2 b1 b2 ⟨I2, W, w⟩
theorem kl_long (hck : ∀ j, zcm j) (hI : zIv L xs (n, s, S, R, M)) {j jm : Nat} {as : List zV} (hj : zallr zrl (zPP.1 j) = true) (hb : qBo j jm as n s S R M) (has : zcs as) {F : Int → zS → zO}
    (k : ∀ (x : Int) (n1 s1 : Nat) (S1 : Nat → Nat × Nat) (R1 : Nat → Nat → Nat) (M1 M2 : Nat → Nat → Int), S1 1 = S 1 → M1 1 = M 1 → zcal zPP 100 jm (zA 305 :: as) (n1, s1, S1, R1, M1) = some (zL x, (n1, s1, S1, R1, M2)) → n1 ≤ n + 5 → s1 ≤ s + 410 → qLp L xs n1 s1 S1 R1 M2 → qEnd b c (F x (n1, s1, S1, R1, M1))) :
    qEnd b c (zbL (zcal zPP 100 j (zA 9 :: as) (n, s, S, R, M)) F) := by
  obtain ⟨v, n1, s1, S1, R1, M1, M2, W, e1, e2, w, b1, b2, b3, b4⟩ := hb
  obtain ⟨x, rfl⟩ := zcal_long hj e1
  have I1 := zcal_pres hck hI (args := zA 9 :: as) ⟨trivial, has⟩ e1
  have I2 := zcal_pres hck I1 (args := zA 305 :: as) ⟨trivial, has⟩ e2
  rw [e1]
  exact k x n1 s1 S1 R1 M1 M2 b3 ((I1.2.2.1 1 (by decide)).2.2.trans (hI.2.2.1 1 (by decide)).2.2.symm) e2 b1 b2 ⟨I2, W, w⟩
theorem kl_two {o : zO} {x : Int} {σ2 : zS} {F G : zS → zO} (h : o = some (zI x, σ2)) (hk : qEnd b c (F σ2)) : qEnd b c (zbI o fun y q => if x = y then F q else G q) := by
  rw [h]
  exact qEnd_i rfl hk
theorem kl_twoL {o : zO} {x : Int} {σ2 : zS} {F G : zS → zO} (h : o = some (zL x, σ2)) (hk : qEnd b c (F σ2)) : qEnd b c (zbL o fun y q => if zcmp x y = 0 then F q else G q) := by
  rw [h]
  have e : zcmp x x = 0 := by unfold zcmp; rw [if_neg (Int.lt_irrefl _), if_pos rfl]
  exact qEnd_i (p := zcmp x x = 0) e hk
theorem kl_at {i : Nat} {k : Int} (hS : S 1 = (30, L)) (hL : L ≤ 3072) (hi : i + 6 ≤ L) (hk : 0 ≤ k ∧ k ≤ 5) : ((S 1).1 = 20 ∨ (S 1).1 = 30 ∨ (S 1).1 = 31) ∧ 0 ≤ zw32 ((i : Int) + k) ∧ zw32 ((i : Int) + k) < ((S 1).2 : Nat) := by
  rw [hS]
  refine ⟨Or.inr (Or.inl rfl), ?_, ?_⟩
  · unfold zw32; omega
  · show zw32 ((i : Int) + k) < (L : Nat)
    unfold zw32; omega
set_option maxHeartbeats 40000000 in
theorem kl_step (hck : ∀ j, zcm j) {W : Nat → qWt} {i : Nat} (hL : L ≤ 3072) (hi : i + 6 ≤ L) (hI : zIv L xs (n, s, S, R, M)) (hw : qWd n S R M W) (hx : ∀ k, z32 (xs k))
    (hnext : ∀ (n1 s1 : Nat) (S1 : Nat → Nat × Nat) (R1 : Nat → Nat → Nat) (M1 : Nat → Nat → Int), n1 ≤ n + 5 → s1 ≤ s + 410 → qLp L xs n1 s1 S1 R1 M1 → qEnd b c (zR zPP 100 0 1222 [zA 1, zA 9, zA 305, zI (i : Nat)] [] (n1, s1, S1, R1, M1))) :
    qEnd b c (zR zPP 100 0 10 [zA 1, zA 9, zA 305, zI (i : Nat)] [] (n, s, S, R, M)) := by
  have hS : S 1 = (30, L) := (hI.2.2.1 1 (by decide)).1
  have hM : M 1 = fun k => xs k := (hI.2.2.1 1 (by decide)).2.2
  have hm : ∀ k, z32 (M 1 k) := fun k => by rw [hM]; exact hx k
  have z0 : z32 0 := ⟨by decide, by decide⟩
  have z1 : z32 1 := ⟨by decide, by decide⟩
  rw [e_Law_law_10]
  dsimp only
  have h1 : 20 ≤ (S 1).1 ∧ (S 1).1 ≠ 32 := by rw [hS]; exact ⟨show (20 : Nat) ≤ 30 by decide, show (30 : Nat) ≠ 32 by decide⟩
  have h2 : ¬ zw32 (((S 1).2 : Nat) - 6) < (i : Int) := by
    rw [hS]
    show ¬ zw32 ((L : Nat) - 6) < (i : Int)
    unfold zw32; omega
  have h3 : ((S 1).1 = 20 ∨ (S 1).1 = 30 ∨ (S 1).1 = 31) ∧ 0 ≤ (i : Int) ∧ (i : Int) < ((S 1).2 : Nat) := by
    rw [hS]
    refine ⟨Or.inr (Or.inl rfl), by omega, ?_⟩
    show (i : Int) < (L : Nat)
    omega
  refine qEnd_i h1 (qEnd_n h2 (qEnd_i h3 ?_))
  refine qEnd_c ?_ ?_
  · refine qEnd_i (kl_at hS hL hi (by decide)) (?_)
    refine kl_int hck hI (by decide +kernel) (qb_oak hw _) ⟨hm _, trivial⟩ (fun x n1 s1 S1 R1 M1 M2 hS1 hM1 e2 hn1 hs1 hp => ?_)
    try dsimp only
    refine qEnd_i (kl_at (hS1.trans hS) hL hi (by decide)) (?_)
    exact kl_two (by rw [hM1]; exact e2) (hnext _ _ _ _ _ hn1 hs1 hp)
  refine qEnd_c ?_ ?_
  · refine qEnd_i (kl_at hS hL hi (by decide)) (qEnd_i (kl_at hS hL hi (by decide)) (?_))
    refine kl_int hck hI (by decide +kernel) (qb_year hw _ _) ⟨hm _, hm _, trivial⟩ (fun x n1 s1 S1 R1 M1 M2 hS1 hM1 e2 hn1 hs1 hp => ?_)
    try dsimp only
    refine qEnd_i (kl_at (hS1.trans hS) hL hi (by decide)) (qEnd_i (kl_at (hS1.trans hS) hL hi (by decide)) (?_))
    exact kl_two (by rw [hM1]; exact e2) (hnext _ _ _ _ _ hn1 hs1 hp)
  refine qEnd_c ?_ ?_
  · refine qEnd_i (kl_at hS hL hi (by decide)) (?_)
    refine kl_int hck hI (by decide +kernel) (qb_person hw _) ⟨hm _, trivial⟩ (fun x n1 s1 S1 R1 M1 M2 hS1 hM1 e2 hn1 hs1 hp => ?_)
    try dsimp only
    refine qEnd_i (kl_at (hS1.trans hS) hL hi (by decide)) (?_)
    exact kl_two (by rw [hM1]; exact e2) (hnext _ _ _ _ _ hn1 hs1 hp)
  refine qEnd_c ?_ ?_
  · refine qEnd_i (kl_at hS hL hi (by decide)) (qEnd_i (kl_at hS hL hi (by decide)) (qEnd_i (kl_at hS hL hi (by decide)) (qEnd_i (kl_at hS hL hi (by decide)) (qEnd_i (kl_at hS hL hi (by decide)) (?_)))))
    refine kl_int hck hI (by decide +kernel) (qb_feed hw _ _ _ _ _) ⟨hm _, hm _, hm _, hm _, hm _, trivial⟩ (fun x n1 s1 S1 R1 M1 M2 hS1 hM1 e2 hn1 hs1 hp => ?_)
    try dsimp only
    refine qEnd_i (kl_at (hS1.trans hS) hL hi (by decide)) (qEnd_i (kl_at (hS1.trans hS) hL hi (by decide)) (qEnd_i (kl_at (hS1.trans hS) hL hi (by decide)) (qEnd_i (kl_at (hS1.trans hS) hL hi (by decide)) (qEnd_i (kl_at (hS1.trans hS) hL hi (by decide)) (?_)))))
    exact kl_two (by rw [hM1]; exact e2) (hnext _ _ _ _ _ hn1 hs1 hp)
  refine qEnd_c ?_ ?_
  · refine qEnd_i (kl_at hS hL hi (by decide)) (?_)
    refine kl_int hck hI (by decide +kernel) (qb_end hw _) ⟨hm _, trivial⟩ (fun x n1 s1 S1 R1 M1 M2 hS1 hM1 e2 hn1 hs1 hp => ?_)
    try dsimp only
    refine qEnd_i (kl_at (hS1.trans hS) hL hi (by decide)) (?_)
    exact kl_two (by rw [hM1]; exact e2) (hnext _ _ _ _ _ hn1 hs1 hp)
  refine qEnd_c ?_ ?_
  · refine kl_int hck hI (by decide +kernel) (qb_text hw) trivial (fun x n1 s1 S1 R1 M1 M2 hS1 hM1 e2 hn1 hs1 hp => ?_)
    try dsimp only
    exact kl_two e2 (hnext _ _ _ _ _ hn1 hs1 hp)
  refine qEnd_c ?_ ?_
  · refine qEnd_i (kl_at hS hL hi (by decide)) (?_)
    refine kl_int hck hI (by decide +kernel) (qb_fault hw _) ⟨hm _, trivial⟩ (fun x n1 s1 S1 R1 M1 M2 hS1 hM1 e2 hn1 hs1 hp => ?_)
    try dsimp only
    refine qEnd_i (kl_at (hS1.trans hS) hL hi (by decide)) (?_)
    exact kl_two (by rw [hM1]; exact e2) (hnext _ _ _ _ _ hn1 hs1 hp)
  refine qEnd_c ?_ ?_
  · refine qEnd_i (kl_at hS hL hi (by decide)) (?_)
    refine kl_int hck hI (by decide +kernel) (qb_by hw _) ⟨hm _, trivial⟩ (fun x n1 s1 S1 R1 M1 M2 hS1 hM1 e2 hn1 hs1 hp => ?_)
    try dsimp only
    refine qEnd_i (kl_at (hS1.trans hS) hL hi (by decide)) (?_)
    exact kl_two (by rw [hM1]; exact e2) (hnext _ _ _ _ _ hn1 hs1 hp)
  refine qEnd_c ?_ ?_
  · refine qEnd_i (kl_at hS hL hi (by decide)) (qEnd_i (kl_at hS hL hi (by decide)) (qEnd_i (kl_at hS hL hi (by decide)) (?_)))
    refine kl_int hck hI (by decide +kernel) (qb_lend hw _ _ _) ⟨hm _, hm _, hm _, trivial⟩ (fun x n1 s1 S1 R1 M1 M2 hS1 hM1 e2 hn1 hs1 hp => ?_)
    try dsimp only
    refine qEnd_i (kl_at (hS1.trans hS) hL hi (by decide)) (qEnd_i (kl_at (hS1.trans hS) hL hi (by decide)) (qEnd_i (kl_at (hS1.trans hS) hL hi (by decide)) (?_)))
    exact kl_two (by rw [hM1]; exact e2) (hnext _ _ _ _ _ hn1 hs1 hp)
  refine qEnd_c ?_ ?_
  · refine qEnd_i (kl_at hS hL hi (by decide)) (qEnd_i (kl_at hS hL hi (by decide)) (?_))
    refine kl_int hck hI (by decide +kernel) (qb_returned hw _ _) ⟨hm _, hm _, trivial⟩ (fun x n1 s1 S1 R1 M1 M2 hS1 hM1 e2 hn1 hs1 hp => ?_)
    try dsimp only
    refine qEnd_i (kl_at (hS1.trans hS) hL hi (by decide)) (qEnd_i (kl_at (hS1.trans hS) hL hi (by decide)) (?_))
    exact kl_two (by rw [hM1]; exact e2) (hnext _ _ _ _ _ hn1 hs1 hp)
  refine qEnd_c ?_ ?_
  · refine qEnd_i (kl_at hS hL hi (by decide)) (qEnd_i (kl_at hS hL hi (by decide)) (qEnd_i (kl_at hS hL hi (by decide)) (?_)))
    refine kl_int hck hI (by decide +kernel) (qb_pass hw _ _ _) ⟨hm _, hm _, hm _, trivial⟩ (fun x n1 s1 S1 R1 M1 M2 hS1 hM1 e2 hn1 hs1 hp => ?_)
    try dsimp only
    refine qEnd_i (kl_at (hS1.trans hS) hL hi (by decide)) (qEnd_i (kl_at (hS1.trans hS) hL hi (by decide)) (qEnd_i (kl_at (hS1.trans hS) hL hi (by decide)) (?_)))
    exact kl_two (by rw [hM1]; exact e2) (hnext _ _ _ _ _ hn1 hs1 hp)
  refine qEnd_c ?_ ?_
  · refine qEnd_i (kl_at hS hL hi (by decide)) (?_)
    refine kl_int hck hI (by decide +kernel) (qb_day hw _) ⟨hm _, trivial⟩ (fun x n1 s1 S1 R1 M1 M2 hS1 hM1 e2 hn1 hs1 hp => ?_)
    try dsimp only
    refine qEnd_i (kl_at (hS1.trans hS) hL hi (by decide)) (?_)
    exact kl_two (by rw [hM1]; exact e2) (hnext _ _ _ _ _ hn1 hs1 hp)
  refine qEnd_c ?_ ?_
  · refine qEnd_i (kl_at hS hL hi (by decide)) (?_)
    refine kl_int hck hI (by decide +kernel) (qb_played hw _) ⟨hm _, trivial⟩ (fun x n1 s1 S1 R1 M1 M2 hS1 hM1 e2 hn1 hs1 hp => ?_)
    try dsimp only
    refine qEnd_i (kl_at (hS1.trans hS) hL hi (by decide)) (?_)
    exact kl_two (by rw [hM1]; exact e2) (hnext _ _ _ _ _ hn1 hs1 hp)
  refine qEnd_c ?_ ?_
  · refine qEnd_i (kl_at hS hL hi (by decide)) (qEnd_i (kl_at hS hL hi (by decide)) (?_))
    refine kl_int hck hI (by decide +kernel) (qb_winters hw _ _) ⟨hm _, hm _, trivial⟩ (fun x n1 s1 S1 R1 M1 M2 hS1 hM1 e2 hn1 hs1 hp => ?_)
    try dsimp only
    refine qEnd_i (kl_at (hS1.trans hS) hL hi (by decide)) (qEnd_i (kl_at (hS1.trans hS) hL hi (by decide)) (?_))
    exact kl_two (by rw [hM1]; exact e2) (hnext _ _ _ _ _ hn1 hs1 hp)
  refine qEnd_c ?_ ?_
  · refine kl_int hck hI (by decide +kernel) (qb_undo hw) trivial (fun x n1 s1 S1 R1 M1 M2 hS1 hM1 e2 hn1 hs1 hp => ?_)
    try dsimp only
    exact kl_two e2 (hnext _ _ _ _ _ hn1 hs1 hp)
  refine qEnd_c ?_ ?_
  · refine qEnd_i (kl_at hS hL hi (by decide)) (qEnd_i (kl_at hS hL hi (by decide)) (?_))
    refine kl_int hck hI (by decide +kernel) (qb_of hw _ _) ⟨hm _, hm _, trivial⟩ (fun x n1 s1 S1 R1 M1 M2 hS1 hM1 e2 hn1 hs1 hp => ?_)
    try dsimp only
    refine qEnd_i (kl_at (hS1.trans hS) hL hi (by decide)) (qEnd_i (kl_at (hS1.trans hS) hL hi (by decide)) (?_))
    exact kl_two (by rw [hM1]; exact e2) (hnext _ _ _ _ _ hn1 hs1 hp)
  refine qEnd_c ?_ ?_
  · refine qEnd_i (kl_at hS hL hi (by decide)) (qEnd_i (kl_at hS hL hi (by decide)) (?_))
    refine kl_int hck hI (by decide +kernel) (qb_ofOak hw _ _) ⟨hm _, hm _, trivial⟩ (fun x n1 s1 S1 R1 M1 M2 hS1 hM1 e2 hn1 hs1 hp => ?_)
    try dsimp only
    refine qEnd_i (kl_at (hS1.trans hS) hL hi (by decide)) (qEnd_i (kl_at (hS1.trans hS) hL hi (by decide)) (?_))
    exact kl_two (by rw [hM1]; exact e2) (hnext _ _ _ _ _ hn1 hs1 hp)
  refine qEnd_c ?_ ?_
  · refine qEnd_i (kl_at hS hL hi (by decide)) (qEnd_i (kl_at hS hL hi (by decide)) (?_))
    refine kl_int hck hI (by decide +kernel) (qb_ring hw _ _) ⟨hm _, hm _, trivial⟩ (fun x n1 s1 S1 R1 M1 M2 hS1 hM1 e2 hn1 hs1 hp => ?_)
    try dsimp only
    refine qEnd_i (kl_at (hS1.trans hS) hL hi (by decide)) (qEnd_i (kl_at (hS1.trans hS) hL hi (by decide)) (?_))
    exact kl_two (by rw [hM1]; exact e2) (hnext _ _ _ _ _ hn1 hs1 hp)
  refine qEnd_c ?_ ?_
  · refine qEnd_i (kl_at hS hL hi (by decide)) (qEnd_i (kl_at hS hL hi (by decide)) (qEnd_i (kl_at hS hL hi (by decide)) (?_)))
    refine kl_int hck hI (by decide +kernel) (qb_lends hw _ _ _) ⟨hm _, hm _, hm _, trivial⟩ (fun x n1 s1 S1 R1 M1 M2 hS1 hM1 e2 hn1 hs1 hp => ?_)
    try dsimp only
    refine qEnd_i (kl_at (hS1.trans hS) hL hi (by decide)) (qEnd_i (kl_at (hS1.trans hS) hL hi (by decide)) (qEnd_i (kl_at (hS1.trans hS) hL hi (by decide)) (?_)))
    exact kl_two (by rw [hM1]; exact e2) (hnext _ _ _ _ _ hn1 hs1 hp)
  refine qEnd_c ?_ ?_
  · refine qEnd_i (kl_at hS hL hi (by decide)) (qEnd_i (kl_at hS hL hi (by decide)) (qEnd_i (kl_at hS hL hi (by decide)) (?_)))
    refine kl_int hck hI (by decide +kernel) (qb_pays hw _ _ _) ⟨hm _, hm _, hm _, trivial⟩ (fun x n1 s1 S1 R1 M1 M2 hS1 hM1 e2 hn1 hs1 hp => ?_)
    try dsimp only
    refine qEnd_i (kl_at (hS1.trans hS) hL hi (by decide)) (qEnd_i (kl_at (hS1.trans hS) hL hi (by decide)) (qEnd_i (kl_at (hS1.trans hS) hL hi (by decide)) (?_)))
    exact kl_two (by rw [hM1]; exact e2) (hnext _ _ _ _ _ hn1 hs1 hp)
  refine qEnd_c ?_ ?_
  · refine qEnd_i (kl_at hS hL hi (by decide)) (?_)
    refine kl_int hck hI (by decide +kernel) (qb_kindOf hw _) ⟨hm _, trivial⟩ (fun x n1 s1 S1 R1 M1 M2 hS1 hM1 e2 hn1 hs1 hp => ?_)
    try dsimp only
    refine qEnd_i (kl_at (hS1.trans hS) hL hi (by decide)) (?_)
    exact kl_two (by rw [hM1]; exact e2) (hnext _ _ _ _ _ hn1 hs1 hp)
  refine qEnd_c ?_ ?_
  · refine qEnd_i (kl_at hS hL hi (by decide)) (?_)
    refine kl_int hck hI (by decide +kernel) (qb_is hw _) ⟨hm _, trivial⟩ (fun x n1 s1 S1 R1 M1 M2 hS1 hM1 e2 hn1 hs1 hp => ?_)
    try dsimp only
    refine qEnd_i (kl_at (hS1.trans hS) hL hi (by decide)) (?_)
    exact kl_two (by rw [hM1]; exact e2) (hnext _ _ _ _ _ hn1 hs1 hp)
  refine qEnd_c ?_ ?_
  · refine qEnd_i (kl_at hS hL hi (by decide)) (qEnd_i (kl_at hS hL hi (by decide)) (?_))
    refine kl_int hck hI (by decide +kernel) (qb_book hw _ _) ⟨hm _, hm _, trivial⟩ (fun x n1 s1 S1 R1 M1 M2 hS1 hM1 e2 hn1 hs1 hp => ?_)
    try dsimp only
    refine qEnd_i (kl_at (hS1.trans hS) hL hi (by decide)) (qEnd_i (kl_at (hS1.trans hS) hL hi (by decide)) (?_))
    exact kl_two (by rw [hM1]; exact e2) (hnext _ _ _ _ _ hn1 hs1 hp)
  refine qEnd_c ?_ ?_
  · refine qEnd_i (kl_at hS hL hi (by decide)) (qEnd_i (kl_at hS hL hi (by decide)) (qEnd_i (kl_at hS hL hi (by decide)) (?_)))
    refine kl_int hck hI (by decide +kernel) (qb_foretold hw _ _ _) ⟨hm _, hm _, hm _, trivial⟩ (fun x n1 s1 S1 R1 M1 M2 hS1 hM1 e2 hn1 hs1 hp => ?_)
    try dsimp only
    refine qEnd_i (kl_at (hS1.trans hS) hL hi (by decide)) (qEnd_i (kl_at (hS1.trans hS) hL hi (by decide)) (qEnd_i (kl_at (hS1.trans hS) hL hi (by decide)) (?_)))
    exact kl_two (by rw [hM1]; exact e2) (hnext _ _ _ _ _ hn1 hs1 hp)
  refine qEnd_c ?_ ?_
  · refine qEnd_i (kl_at hS hL hi (by decide)) (qEnd_i (kl_at hS hL hi (by decide)) (?_))
    refine kl_int hck hI (by decide +kernel) (qb_same hw _ _) ⟨hm _, hm _, trivial⟩ (fun x n1 s1 S1 R1 M1 M2 hS1 hM1 e2 hn1 hs1 hp => ?_)
    try dsimp only
    refine qEnd_i (kl_at (hS1.trans hS) hL hi (by decide)) (qEnd_i (kl_at (hS1.trans hS) hL hi (by decide)) (?_))
    exact kl_two (by rw [hM1]; exact e2) (hnext _ _ _ _ _ hn1 hs1 hp)
  refine qEnd_c ?_ ?_
  · refine qEnd_i (kl_at hS hL hi (by decide)) (?_)
    refine kl_int hck hI (by decide +kernel) (qb_kin hw _) ⟨hm _, trivial⟩ (fun x n1 s1 S1 R1 M1 M2 hS1 hM1 e2 hn1 hs1 hp => ?_)
    try dsimp only
    refine qEnd_i (kl_at (hS1.trans hS) hL hi (by decide)) (?_)
    exact kl_two (by rw [hM1]; exact e2) (hnext _ _ _ _ _ hn1 hs1 hp)
  refine qEnd_c ?_ ?_
  · refine kl_int hck hI (by decide +kernel) (qb_twins hw) trivial (fun x n1 s1 S1 R1 M1 M2 hS1 hM1 e2 hn1 hs1 hp => ?_)
    try dsimp only
    exact kl_two e2 (hnext _ _ _ _ _ hn1 hs1 hp)
  refine qEnd_c ?_ ?_
  · refine qEnd_i (kl_at hS hL hi (by decide)) (?_)
    refine kl_int hck hI (by decide +kernel) (qb_earliest hw _) ⟨hm _, trivial⟩ (fun x n1 s1 S1 R1 M1 M2 hS1 hM1 e2 hn1 hs1 hp => ?_)
    try dsimp only
    refine qEnd_i (kl_at (hS1.trans hS) hL hi (by decide)) (?_)
    exact kl_two (by rw [hM1]; exact e2) (hnext _ _ _ _ _ hn1 hs1 hp)
  refine qEnd_c ?_ ?_
  · refine qEnd_i (kl_at hS hL hi (by decide)) (?_)
    refine kl_int hck hI (by decide +kernel) (qb_newest hw _) ⟨hm _, trivial⟩ (fun x n1 s1 S1 R1 M1 M2 hS1 hM1 e2 hn1 hs1 hp => ?_)
    try dsimp only
    refine qEnd_i (kl_at (hS1.trans hS) hL hi (by decide)) (?_)
    exact kl_two (by rw [hM1]; exact e2) (hnext _ _ _ _ _ hn1 hs1 hp)
  refine qEnd_c ?_ ?_
  · refine qEnd_i (kl_at hS hL hi (by decide)) (qEnd_i (kl_at hS hL hi (by decide)) (?_))
    refine kl_int hck hI (by decide +kernel) (qb_wants hw _ _) ⟨hm _, hm _, trivial⟩ (fun x n1 s1 S1 R1 M1 M2 hS1 hM1 e2 hn1 hs1 hp => ?_)
    try dsimp only
    refine qEnd_i (kl_at (hS1.trans hS) hL hi (by decide)) (qEnd_i (kl_at (hS1.trans hS) hL hi (by decide)) (?_))
    exact kl_two (by rw [hM1]; exact e2) (hnext _ _ _ _ _ hn1 hs1 hp)
  refine qEnd_c ?_ ?_
  · refine qEnd_i (kl_at hS hL hi (by decide)) (qEnd_i (kl_at hS hL hi (by decide)) (?_))
    refine kl_int hck hI (by decide +kernel) (qb_takes hw _ _) ⟨hm _, hm _, trivial⟩ (fun x n1 s1 S1 R1 M1 M2 hS1 hM1 e2 hn1 hs1 hp => ?_)
    try dsimp only
    refine qEnd_i (kl_at (hS1.trans hS) hL hi (by decide)) (qEnd_i (kl_at (hS1.trans hS) hL hi (by decide)) (?_))
    exact kl_two (by rw [hM1]; exact e2) (hnext _ _ _ _ _ hn1 hs1 hp)
  refine qEnd_c ?_ ?_
  · refine kl_int hck hI (by decide +kernel) (qb_able hw) trivial (fun x n1 s1 S1 R1 M1 M2 hS1 hM1 e2 hn1 hs1 hp => ?_)
    try dsimp only
    exact kl_two e2 (hnext _ _ _ _ _ hn1 hs1 hp)
  refine qEnd_c ?_ ?_
  · refine kl_int hck hI (by decide +kernel) (qb_needs hw) trivial (fun x n1 s1 S1 R1 M1 M2 hS1 hM1 e2 hn1 hs1 hp => ?_)
    try dsimp only
    exact kl_two e2 (hnext _ _ _ _ _ hn1 hs1 hp)
  refine qEnd_c ?_ ?_
  · refine kl_int hck hI (by decide +kernel) (qb_block hw) trivial (fun x n1 s1 S1 R1 M1 M2 hS1 hM1 e2 hn1 hs1 hp => ?_)
    try dsimp only
    exact kl_two e2 (hnext _ _ _ _ _ hn1 hs1 hp)
  refine qEnd_c ?_ ?_
  · refine qEnd_i (kl_at hS hL hi (by decide)) (?_)
    refine kl_int hck hI (by decide +kernel) (qb_plan hw _) ⟨hm _, trivial⟩ (fun x n1 s1 S1 R1 M1 M2 hS1 hM1 e2 hn1 hs1 hp => ?_)
    try dsimp only
    refine qEnd_i (kl_at (hS1.trans hS) hL hi (by decide)) (?_)
    exact kl_two (by rw [hM1]; exact e2) (hnext _ _ _ _ _ hn1 hs1 hp)
  refine qEnd_c ?_ ?_
  · refine qEnd_i (kl_at hS hL hi (by decide)) (?_)
    refine kl_int hck hI (by decide +kernel) (qb_vote hw _) ⟨hm _, trivial⟩ (fun x n1 s1 S1 R1 M1 M2 hS1 hM1 e2 hn1 hs1 hp => ?_)
    try dsimp only
    refine qEnd_i (kl_at (hS1.trans hS) hL hi (by decide)) (?_)
    exact kl_two (by rw [hM1]; exact e2) (hnext _ _ _ _ _ hn1 hs1 hp)
  refine qEnd_c ?_ ?_
  · refine qEnd_i (kl_at hS hL hi (by decide)) (?_)
    refine kl_int hck hI (by decide +kernel) (qb_mark hw _) ⟨hm _, trivial⟩ (fun x n1 s1 S1 R1 M1 M2 hS1 hM1 e2 hn1 hs1 hp => ?_)
    try dsimp only
    refine qEnd_i (kl_at (hS1.trans hS) hL hi (by decide)) (?_)
    exact kl_two (by rw [hM1]; exact e2) (hnext _ _ _ _ _ hn1 hs1 hp)
  refine qEnd_c ?_ ?_
  · refine qEnd_i (kl_at hS hL hi (by decide)) (?_)
    refine kl_int hck hI (by decide +kernel) (qb_dated hw _) ⟨hm _, trivial⟩ (fun x n1 s1 S1 R1 M1 M2 hS1 hM1 e2 hn1 hs1 hp => ?_)
    try dsimp only
    refine qEnd_i (kl_at (hS1.trans hS) hL hi (by decide)) (?_)
    exact kl_two (by rw [hM1]; exact e2) (hnext _ _ _ _ _ hn1 hs1 hp)
  refine qEnd_c ?_ ?_
  · refine kl_int hck hI (by decide +kernel) (qb_nearest hw) trivial (fun x n1 s1 S1 R1 M1 M2 hS1 hM1 e2 hn1 hs1 hp => ?_)
    try dsimp only
    exact kl_two e2 (hnext _ _ _ _ _ hn1 hs1 hp)
  refine qEnd_c ?_ ?_
  · refine qEnd_i (kl_at hS hL hi (by decide)) (qEnd_i (kl_at hS hL hi (by decide)) (?_))
    by_cases hz : M 1 (zw32 ((i : Int) + 2)).toNat = 0
    · refine qEnd_i hz ?_
      rw [e_Law_law_870]
      refine kl_int hck hI (by decide +kernel) (qb_run hw _ _) ⟨hm _, z0, trivial⟩ (fun x n1 s1 S1 R1 M1 M2 hS1 hM1 e2 hn1 hs1 hp => ?_)
      dsimp only
      refine qEnd_i (kl_at (hS1.trans hS) hL hi (by decide)) (qEnd_i (kl_at (hS1.trans hS) hL hi (by decide)) (qEnd_i (by rw [hM1]; exact hz) ?_))
      rw [e_Law_law_886]
      exact kl_two (by rw [hM1]; exact e2) (hnext _ _ _ _ _ hn1 hs1 hp)
    · refine qEnd_n hz ?_
      rw [e_Law_law_870]
      refine kl_int hck hI (by decide +kernel) (qb_run hw _ _) ⟨hm _, z1, trivial⟩ (fun x n1 s1 S1 R1 M1 M2 hS1 hM1 e2 hn1 hs1 hp => ?_)
      dsimp only
      refine qEnd_i (kl_at (hS1.trans hS) hL hi (by decide)) (qEnd_i (kl_at (hS1.trans hS) hL hi (by decide)) (qEnd_n (by rw [hM1]; exact hz) ?_))
      rw [e_Law_law_886]
      exact kl_two (by rw [hM1]; exact e2) (hnext _ _ _ _ _ hn1 hs1 hp)
  refine qEnd_c ?_ ?_
  · refine qEnd_i (kl_at hS hL hi (by decide)) (qEnd_i (kl_at hS hL hi (by decide)) (?_))
    refine kl_int hck hI (by decide +kernel) (qb_alike hw _ _) ⟨hm _, hm _, trivial⟩ (fun x n1 s1 S1 R1 M1 M2 hS1 hM1 e2 hn1 hs1 hp => ?_)
    try dsimp only
    refine qEnd_i (kl_at (hS1.trans hS) hL hi (by decide)) (qEnd_i (kl_at (hS1.trans hS) hL hi (by decide)) (?_))
    exact kl_two (by rw [hM1]; exact e2) (hnext _ _ _ _ _ hn1 hs1 hp)
  refine qEnd_c ?_ ?_
  · refine qEnd_i (kl_at hS hL hi (by decide)) (qEnd_i (kl_at hS hL hi (by decide)) (qEnd_i (kl_at hS hL hi (by decide)) (?_)))
    by_cases hz : M 1 (zw32 ((i : Int) + 3)).toNat = 0
    · refine qEnd_i hz ?_
      rw [e_Law_law_937]
      refine kl_long hck hI (by decide +kernel) (qb_stands hw _ _ _) ⟨hm _, hm _, z0, trivial⟩ (fun x n1 s1 S1 R1 M1 M2 hS1 hM1 e2 hn1 hs1 hp => ?_)
      dsimp only
      refine qEnd_i (kl_at (hS1.trans hS) hL hi (by decide)) (qEnd_i (kl_at (hS1.trans hS) hL hi (by decide)) (qEnd_i (kl_at (hS1.trans hS) hL hi (by decide)) (qEnd_i (by rw [hM1]; exact hz) ?_)))
      rw [e_Law_law_958]
      exact kl_twoL (by rw [hM1]; exact e2) (hnext _ _ _ _ _ hn1 hs1 hp)
    · refine qEnd_n hz ?_
      rw [e_Law_law_937]
      refine kl_long hck hI (by decide +kernel) (qb_stands hw _ _ _) ⟨hm _, hm _, z1, trivial⟩ (fun x n1 s1 S1 R1 M1 M2 hS1 hM1 e2 hn1 hs1 hp => ?_)
      dsimp only
      refine qEnd_i (kl_at (hS1.trans hS) hL hi (by decide)) (qEnd_i (kl_at (hS1.trans hS) hL hi (by decide)) (qEnd_i (kl_at (hS1.trans hS) hL hi (by decide)) (qEnd_n (by rw [hM1]; exact hz) ?_)))
      rw [e_Law_law_958]
      exact kl_twoL (by rw [hM1]; exact e2) (hnext _ _ _ _ _ hn1 hs1 hp)
  refine qEnd_c ?_ ?_
  · refine qEnd_i (kl_at hS hL hi (by decide)) (?_)
    by_cases hz : M 1 (zw32 ((i : Int) + 1)).toNat = 0
    · refine qEnd_i hz ?_
      rw [e_Law_law_973]
      refine kl_long hck hI (by decide +kernel) (qb_expects hw _) ⟨z0, trivial⟩ (fun x n1 s1 S1 R1 M1 M2 hS1 hM1 e2 hn1 hs1 hp => ?_)
      dsimp only
      refine qEnd_i (kl_at (hS1.trans hS) hL hi (by decide)) (qEnd_i (by rw [hM1]; exact hz) ?_)
      rw [e_Law_law_984]
      exact kl_twoL e2 (hnext _ _ _ _ _ hn1 hs1 hp)
    · refine qEnd_n hz ?_
      rw [e_Law_law_973]
      refine kl_long hck hI (by decide +kernel) (qb_expects hw _) ⟨z1, trivial⟩ (fun x n1 s1 S1 R1 M1 M2 hS1 hM1 e2 hn1 hs1 hp => ?_)
      dsimp only
      refine qEnd_i (kl_at (hS1.trans hS) hL hi (by decide)) (qEnd_n (by rw [hM1]; exact hz) ?_)
      rw [e_Law_law_984]
      exact kl_twoL e2 (hnext _ _ _ _ _ hn1 hs1 hp)
  refine qEnd_c ?_ ?_
  · refine qEnd_i (kl_at hS hL hi (by decide)) (?_)
    refine kl_int hck hI (by decide +kernel) (qb_owed hw _) ⟨hm _, trivial⟩ (fun x n1 s1 S1 R1 M1 M2 hS1 hM1 e2 hn1 hs1 hp => ?_)
    try dsimp only
    refine qEnd_i (kl_at (hS1.trans hS) hL hi (by decide)) (?_)
    exact kl_two (by rw [hM1]; exact e2) (hnext _ _ _ _ _ hn1 hs1 hp)
  refine qEnd_c ?_ ?_
  · refine qEnd_i (kl_at hS hL hi (by decide)) (qEnd_i (kl_at hS hL hi (by decide)) (?_))
    refine kl_int hck hI (by decide +kernel) (qb_price hw _ _) ⟨hm _, hm _, trivial⟩ (fun x n1 s1 S1 R1 M1 M2 hS1 hM1 e2 hn1 hs1 hp => ?_)
    try dsimp only
    refine qEnd_i (kl_at (hS1.trans hS) hL hi (by decide)) (qEnd_i (kl_at (hS1.trans hS) hL hi (by decide)) (?_))
    exact kl_two (by rw [hM1]; exact e2) (hnext _ _ _ _ _ hn1 hs1 hp)
  refine qEnd_c ?_ ?_
  · refine qEnd_i (kl_at hS hL hi (by decide)) (qEnd_i (kl_at hS hL hi (by decide)) (qEnd_i (kl_at hS hL hi (by decide)) (?_)))
    by_cases hz : M 1 (zw32 ((i : Int) + 3)).toNat = 0
    · refine qEnd_i hz ?_
      rw [e_Law_law_1053]
      refine kl_int hck hI (by decide +kernel) (qb_cheapest hw _ _ _) ⟨hm _, hm _, z0, trivial⟩ (fun x n1 s1 S1 R1 M1 M2 hS1 hM1 e2 hn1 hs1 hp => ?_)
      dsimp only
      refine qEnd_i (kl_at (hS1.trans hS) hL hi (by decide)) (qEnd_i (kl_at (hS1.trans hS) hL hi (by decide)) (qEnd_i (kl_at (hS1.trans hS) hL hi (by decide)) (qEnd_i (by rw [hM1]; exact hz) ?_)))
      rw [e_Law_law_1074]
      exact kl_two (by rw [hM1]; exact e2) (hnext _ _ _ _ _ hn1 hs1 hp)
    · refine qEnd_n hz ?_
      rw [e_Law_law_1053]
      refine kl_int hck hI (by decide +kernel) (qb_cheapest hw _ _ _) ⟨hm _, hm _, z1, trivial⟩ (fun x n1 s1 S1 R1 M1 M2 hS1 hM1 e2 hn1 hs1 hp => ?_)
      dsimp only
      refine qEnd_i (kl_at (hS1.trans hS) hL hi (by decide)) (qEnd_i (kl_at (hS1.trans hS) hL hi (by decide)) (qEnd_i (kl_at (hS1.trans hS) hL hi (by decide)) (qEnd_n (by rw [hM1]; exact hz) ?_)))
      rw [e_Law_law_1074]
      exact kl_two (by rw [hM1]; exact e2) (hnext _ _ _ _ _ hn1 hs1 hp)
  refine qEnd_c ?_ ?_
  · refine qEnd_i (kl_at hS hL hi (by decide)) (qEnd_i (kl_at hS hL hi (by decide)) (?_))
    refine kl_int hck hI (by decide +kernel) (qb_said hw _ _) ⟨hm _, hm _, trivial⟩ (fun x n1 s1 S1 R1 M1 M2 hS1 hM1 e2 hn1 hs1 hp => ?_)
    try dsimp only
    refine qEnd_i (kl_at (hS1.trans hS) hL hi (by decide)) (qEnd_i (kl_at (hS1.trans hS) hL hi (by decide)) (?_))
    exact kl_two (by rw [hM1]; exact e2) (hnext _ _ _ _ _ hn1 hs1 hp)
  refine qEnd_c ?_ ?_
  · refine kl_int hck hI (by decide +kernel) (qb_whose hw) trivial (fun x n1 s1 S1 R1 M1 M2 hS1 hM1 e2 hn1 hs1 hp => ?_)
    try dsimp only
    exact kl_two e2 (hnext _ _ _ _ _ hn1 hs1 hp)
  refine qEnd_c ?_ ?_
  · refine kl_int hck hI (by decide +kernel) (qb_eldest hw) trivial (fun x n1 s1 S1 R1 M1 M2 hS1 hM1 e2 hn1 hs1 hp => ?_)
    try dsimp only
    exact kl_two e2 (hnext _ _ _ _ _ hn1 hs1 hp)
  refine qEnd_c ?_ ?_
  · refine qEnd_i (kl_at hS hL hi (by decide)) (?_)
    refine kl_int hck hI (by decide +kernel) (qb_left hw _) ⟨hm _, trivial⟩ (fun x n1 s1 S1 R1 M1 M2 hS1 hM1 e2 hn1 hs1 hp => ?_)
    try dsimp only
    refine qEnd_i (kl_at (hS1.trans hS) hL hi (by decide)) (?_)
    exact kl_two (by rw [hM1]; exact e2) (hnext _ _ _ _ _ hn1 hs1 hp)
  refine qEnd_c ?_ ?_
  · refine qEnd_i (kl_at hS hL hi (by decide)) (?_)
    refine kl_int hck hI (by decide +kernel) (qb_count hw _) ⟨hm _, trivial⟩ (fun x n1 s1 S1 R1 M1 M2 hS1 hM1 e2 hn1 hs1 hp => ?_)
    try dsimp only
    refine qEnd_i (kl_at (hS1.trans hS) hL hi (by decide)) (?_)
    exact kl_two (by rw [hM1]; exact e2) (hnext _ _ _ _ _ hn1 hs1 hp)
  refine qEnd_c ?_ ?_
  · refine kl_int hck hI (by decide +kernel) (qb_fenced hw) trivial (fun x n1 s1 S1 R1 M1 M2 hS1 hM1 e2 hn1 hs1 hp => ?_)
    try dsimp only
    exact kl_two e2 (hnext _ _ _ _ _ hn1 hs1 hp)
  refine qEnd_c ?_ ?_
  · refine kl_int hck hI (by decide +kernel) (qb_bare hw) trivial (fun x n1 s1 S1 R1 M1 M2 hS1 hM1 e2 hn1 hs1 hp => ?_)
    try dsimp only
    exact kl_two e2 (hnext _ _ _ _ _ hn1 hs1 hp)
  refine qEnd_c ?_ ?_
  · refine kl_int hck hI (by decide +kernel) (qb_fires hw) trivial (fun x n1 s1 S1 R1 M1 M2 hS1 hM1 e2 hn1 hs1 hp => ?_)
    try dsimp only
    exact kl_two e2 (hnext _ _ _ _ _ hn1 hs1 hp)
  refine qEnd_c ?_ ?_
  · refine qEnd_i (kl_at hS hL hi (by decide)) (?_)
    refine kl_int hck hI (by decide +kernel) (qb_ledger hw _) ⟨hm _, trivial⟩ (fun x n1 s1 S1 R1 M1 M2 hS1 hM1 e2 hn1 hs1 hp => ?_)
    try dsimp only
    refine qEnd_i (kl_at (hS1.trans hS) hL hi (by decide)) (?_)
    exact kl_two (by rw [hM1]; exact e2) (hnext _ _ _ _ _ hn1 hs1 hp)
  refine qEnd_c ?_ ?_
  · refine kl_int hck hI (by decide +kernel) (qb_image hw) trivial (fun x n1 s1 S1 R1 M1 M2 hS1 hM1 e2 hn1 hs1 hp => ?_)
    try dsimp only
    exact kl_two e2 (hnext _ _ _ _ _ hn1 hs1 hp)
  refine qEnd_c ?_ ?_
  · refine kl_int hck hI (by decide +kernel) (qb_back hw) trivial (fun x n1 s1 S1 R1 M1 M2 hS1 hM1 e2 hn1 hs1 hp => ?_)
    try dsimp only
    exact kl_two e2 (hnext _ _ _ _ _ hn1 hs1 hp)
  refine qEnd_c ?_ ?_
  · refine qEnd_i (kl_at hS hL hi (by decide)) (?_)
    refine kl_int hck hI (by decide +kernel) (qb_about hw _) ⟨hm _, trivial⟩ (fun x n1 s1 S1 R1 M1 M2 hS1 hM1 e2 hn1 hs1 hp => ?_)
    try dsimp only
    refine qEnd_i (kl_at (hS1.trans hS) hL hi (by decide)) (?_)
    exact kl_two (by rw [hM1]; exact e2) (hnext _ _ _ _ _ hn1 hs1 hp)
  exact hnext n s S R M (by omega) (by omega) ⟨hI, W, hw⟩
theorem kl_loop (hck : ∀ j, zcm j) (hL : L ≤ 3072) (hx : ∀ k, z32 (xs k)) : ∀ (m i n s : Nat) (S : Nat → Nat × Nat) (R : Nat → Nat → Nat) (M : Nat → Nat → Int), i ≤ 4000 → L < i + 6 * m + 6 → qLp L xs n s S R M →
    qEnd (n + 5 * m) (s + 410 * m) (zR zPP 100 0 10 [zA 1, zA 9, zA 305, zI (i : Nat)] [] (n, s, S, R, M)) := by
  intro m
  induction m with
  | zero =>
    intro i n s S R M hi hl hp
    have hS : S 1 = (30, L) := (hp.1.2.2.1 1 (by decide)).1
    rw [e_Law_law_10]
    dsimp only
    have h1 : 20 ≤ (S 1).1 ∧ (S 1).1 ≠ 32 := by rw [hS]; exact ⟨show (20 : Nat) ≤ 30 by decide, show (30 : Nat) ≠ 32 by decide⟩
    have h2 : zw32 (((S 1).2 : Nat) - 6) < (i : Int) := by
      rw [hS]
      show zw32 ((L : Nat) - 6) < (i : Int)
      unfold zw32; omega
    refine qEnd_i h1 (qEnd_i h2 ⟨_, rfl, ?_, ?_⟩)
    · show n ≤ _
      omega
    · show s ≤ _
      omega
  | succ m ih =>
    intro i n s S R M hi hl hp
    by_cases hq : i + 6 ≤ L
    · obtain ⟨hI, W, hw⟩ := hp
      refine kl_step hck hL hq hI hw hx (fun n1 s1 S1 R1 M1 hn hs hp => ?_)
      rw [e_Law_law_1222]
      have ew : zw32 ((i : Int) + 6) = ((i + 6 : Nat) : Int) := by unfold zw32; omega
      rw [ew]
      obtain ⟨σ', k1, k2, k3⟩ := ih (i + 6) n1 s1 S1 R1 M1 (by omega) (by omega) hp
      exact ⟨σ', k1, by omega, by omega⟩
    · have hS : S 1 = (30, L) := (hp.1.2.2.1 1 (by decide)).1
      rw [e_Law_law_10]
      dsimp only
      have h1 : 20 ≤ (S 1).1 ∧ (S 1).1 ≠ 32 := by rw [hS]; exact ⟨show (20 : Nat) ≤ 30 by decide, show (30 : Nat) ≠ 32 by decide⟩
      have h2 : zw32 (((S 1).2 : Nat) - 6) < (i : Int) := by
        rw [hS]
        show zw32 ((L : Nat) - 6) < (i : Int)
        unfold zw32; omega
      refine qEnd_i h1 (qEnd_i h2 ⟨_, rfl, ?_, ?_⟩)
      · show n ≤ _
        omega
      · show s ≤ _
        omega
end QF
