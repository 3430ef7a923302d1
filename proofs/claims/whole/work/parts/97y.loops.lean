/-! READING A TEXT: the loops -/
section QF
variable {S : Nat → Nat × Nat} {R : Nat → Nat → Nat} {M M' M00 : Nat → Nat → Int} {n s d : Nat} {B : Nat → Nat} {len N i k b : Nat} {O : List (Nat × Nat)} {C : List (Nat × Int)} {E : yEv} {w : yLw}
theorem kc_end (hF : qFx S R) (hk : yTk B len M00 (N + 1)) (h300 : N ≤ 300) (hI : yCI M00 M i k O E w) (hi : i ≤ N) (hk24 : k ≤ 24) (he : ysg B len i = 43) (l2 : Int) :
    zR zPP (d + 81) 112 38 [zA 295, zA 304, zI l2, zI k] [] (n, s, S, R, M) = zR zPP (d + 81) 112 52 [zA 295, zA 304, zI l2, zI k] [] (n, s, S, R, M) := by
  rw [e_Reader_read_38, if_neg (by omega)]
  simp only [qff hF, if_true, hI.1.2.2.2]
  rw [kc_here (d := d + 80) hF hk h300 hI hi, he]
  rfl
theorem kc_go (hF : qFx S R) (hk : yTk B len M00 (N + 1)) (h300 : N ≤ 300) (hI : yCI M00 M i k O E w) (hi : i ≤ N) (hk24 : k ≤ 24) (he : ysg B len i ≠ 43) (l2 : Int) {M' : Nat → Nat → Int} (hc : zcal zPP (d + 81) 118 [zA 295] (n, s, S, R, M) = some (zU, (n, s, S, R, M'))) :
    zR zPP (d + 81) 112 38 [zA 295, zA 304, zI l2, zI k] [] (n, s, S, R, M) = zR zPP (d + 81) 112 38 [zA 295, zA 304, zI l2, zI ((k + 1 : Nat) : Int)] [] (n, s, S, R, M') := by
  rw [e_Reader_read_38, if_neg (by omega)]
  simp only [qff hF, if_true, hI.1.2.2.2]
  rw [kc_here (d := d + 80) hF hk h300 hI hi]
  simp only [zbI]
  rw [if_neg (by omega), hc]
  simp only [zbV, qw1 (k := k) (by omega)]
theorem kc_out (hF : qFx S R) {f p : Nat} (h : yCF M00 M f p) (l2 l3 : Int) :
    zR zPP (d + 81) 112 38 [zA 295, zA 304, zI l2, zI l3] [] (n, s, S, R, M) = zR zPP (d + 81) 112 52 [zA 295, zA 304, zI l2, zI l3] [] (n, s, S, R, M) := by
  have h12 : ¬ M 295 12 = 0 := by rw [h.1]; have := h.2.1; omega
  rw [e_Reader_read_38]
  simp only [qff hF, if_true, if_neg h12]
  split <;> rfl
theorem mk_end (hF : qFx S R) (ht : yTa B len M00) (hI : yMI B len b M00 M i k C E w) (he : ysg B len i = 43) (g : zV) : zR zPP (d + 20) 190 25 [zA 305, g] [] (n, s, S, R, M) = some (zI 0, (n, s, S, R, M)) := by
  have hts := yTS (i := i) (fun k hk => (ht.2.2 k hk).2)
  rw [e_M_readText_25]
  simp only [qff hF, if_true, hI.2.1.2.2.1]
  rw [if_pos (by omega)]
theorem mk_go (hF : qFx S R) (ht : yTa B len M00) (hI : yMI B len b M00 M i k C E w) (he : ysg B len i ≠ 43) (g : zV) : zR zPP (d + 20) 190 25 [zA 305, g] [] (n, s, S, R, M) = zbI (zcal zPP (d + 20) 196 [zA 305] (n, s, S, R, M)) fun x2 q1 => if x2 = 0 then zR zPP (d + 20) 190 25 [zA 305, zI x2] [] q1 else some (zI x2, q1) := by
  have hts := yTS (i := i) (fun k hk => (ht.2.2 k hk).2)
  rw [e_M_readText_25]
  simp only [qff hF, if_true, hI.2.1.2.2.1]
  rw [if_neg (by omega)]
end QF
def yRd (B : Nat → Nat) (len N i k : Nat) (O : List (Nat × Nat)) (C : List (Nat × Int)) (E : yEv) (w : yLw) : Prop :=
  (∃ f p, f ≠ 0 ∧ (∀ n s S R d M00 M l2, qFx S R → yTk B len M00 (N + 1) → yCI M00 M i k O E w → ∃ M' l3, zR zPP (d + 81) 112 38 [zA 295, zA 304, zI l2, zI k] [] (n, s, S, R, M) = zR zPP (d + 81) 112 52 [zA 295, zA 304, zI l2, zI l3] [] (n, s, S, R, M') ∧ yCF M00 M' f p) ∧
    ∀ n s S R d b M00 M g, qFx S R → b ≤ 2115 → yTa B len M00 → yMI B len b M00 M i k C E w → ∃ M', zR zPP (d + 20) 190 25 [zA 305, g] [] (n, s, S, R, M) = some (zI f, (n, s, S, R, M')) ∧ yMF b M00 M' p) ∨
  (∃ i' k' O' C' E' w', i' ≤ N ∧ yPI i' k' O' C' E' w' ∧ (∀ n s S R d M00 M l2, qFx S R → yTk B len M00 (N + 1) → yCI M00 M i k O E w → ∃ M' l3, zR zPP (d + 81) 112 38 [zA 295, zA 304, zI l2, zI k] [] (n, s, S, R, M) = zR zPP (d + 81) 112 52 [zA 295, zA 304, zI l2, zI l3] [] (n, s, S, R, M') ∧ yCI M00 M' i' k' O' E' w') ∧
    ∀ n s S R d b M00 M g, qFx S R → b ≤ 2115 → yTa B len M00 → yMI B len b M00 M i k C E w → ∃ M', zR zPP (d + 20) 190 25 [zA 305, g] [] (n, s, S, R, M) = some (zI 0, (n, s, S, R, M')) ∧ yMI B len b M00 M' i' k' C' E' w')
theorem yread {B : Nat → Nat} {len N : Nat} (hN : ysg B len N = 43) (h300 : N ≤ 300) (hwo : ∀ i, ywo B len i ≤ 10000) : ∀ (u i k : Nat) (O : List (Nat × Nat)) (C : List (Nat × Int)) (E : yEv) (w : yLw), N - i < u → i ≤ N → yPI i k O C E w → yRd B len N i k O C E w
  | 0, i, k, O, C, E, w, hu, _, _ => absurd hu (by omega)
  | u + 1, i, k, O, C, E, w, hu, hi, hP => by
    have hk24 := hP.1.2.2
    by_cases hg : ysg B len i = 43
    · exact Or.inr ⟨i, k, O, C, E, w, hi, hP, fun n s S R d M00 M l2 hF hk hI => ⟨M, k, kc_end hF hk h300 hI hi hk24 hg l2, hI⟩, fun n s S R d b M00 M g hF hb ht hI => ⟨M, mk_end hF ht hI hg g, hI⟩⟩
    rcases ystep hN h300 hwo hP hi hg with ⟨f, p, hf, hc, hm⟩ | ⟨hkk, i', O', C', E', w', hi1, hi2, hP', hc, hm⟩
    · refine Or.inl ⟨f, p, hf, fun n s S R d M00 M l2 hF hk hI => ?_, fun n s S R d b M00 M g hF hb ht hI => ?_⟩
      · obtain ⟨M', q1, q2⟩ := hc n s S R d M00 M hF hk hI
        exact ⟨M', _, (kc_go hF hk h300 hI hi hk24 hg l2 q1).trans (kc_out hF q2 l2 _), q2⟩
      · obtain ⟨M', q1, q2⟩ := hm n s S R d b M00 M hF hb ht hI
        refine ⟨M', ?_, q2⟩
        rw [mk_go hF ht hI hg g, q1]
        show (if (f : Int) = 0 then _ else _) = _
        rw [if_neg (by omega)]
    · have ih := yread hN h300 hwo u i' (k + 1) O' C' E' w' (by omega) hi2 hP'
      rcases ih with ⟨f, p, hf, hc2, hm2⟩ | ⟨i2, k2, O2, C2, E2, w2, hi3, hP2, hc2, hm2⟩
      · refine Or.inl ⟨f, p, hf, fun n s S R d M00 M l2 hF hk hI => ?_, fun n s S R d b M00 M g hF hb ht hI => ?_⟩
        · obtain ⟨M', q1, q2⟩ := hc n s S R d M00 M hF hk hI
          obtain ⟨M2, l3, r1, r2⟩ := hc2 n s S R d M00 M' l2 hF hk q2
          exact ⟨M2, l3, (kc_go hF hk h300 hI hi hk24 hg l2 q1).trans r1, r2⟩
        · obtain ⟨M', q1, q2⟩ := hm n s S R d b M00 M hF hb ht hI
          obtain ⟨M2, r1, r2⟩ := hm2 n s S R d b M00 M' (zI 0) hF hb ht q2
          refine ⟨M2, ?_, r2⟩
          rw [mk_go hF ht hI hg g, q1]
          exact r1
      · refine Or.inr ⟨i2, k2, O2, C2, E2, w2, hi3, hP2, fun n s S R d M00 M l2 hF hk hI => ?_, fun n s S R d b M00 M g hF hb ht hI => ?_⟩
        · obtain ⟨M', q1, q2⟩ := hc n s S R d M00 M hF hk hI
          obtain ⟨M2, l3, r1, r2⟩ := hc2 n s S R d M00 M' l2 hF hk q2
          exact ⟨M2, l3, (kc_go hF hk h300 hI hi hk24 hg l2 q1).trans r1, r2⟩
        · obtain ⟨M', q1, q2⟩ := hm n s S R d b M00 M hF hb ht hI
          obtain ⟨M2, r1, r2⟩ := hm2 n s S R d b M00 M' (zI 0) hF hb ht q2
          refine ⟨M2, ?_, r2⟩
          rw [mk_go hF ht hI hg g, q1]
          exact r1
theorem ywo_le {B : Nat → Nat} {len i : Nat} : ywo B len i ≤ 10000 := by
  unfold ywo ywo0
  split
  · rw [ymn_nu]; omega
  · omega
theorem ysg_end {B : Nat → Nat} {len N : Nat} (hB : ∀ k, k < len → B k < 256) (h : len ≤ ypl B len N) : ysg B len N = 43 := by
  have hts := yTS (i := N) hB
  have : ytk B len N = 0 := by
    unfold ytk ytk0
    rw [if_neg (by omega)]
  omega
