/-! A TEXT: the class makes it -/
section QF
variable {S : Nat → Nat × Nat} {R : Nat → Nat → Nat} {M M' M0 M1 : Nat → Nat → Int} {n s d t b L N0 : Nat}
/-- the class's new Text -/
theorem kc_made (hF : qFx S R) (hn : 319 ≤ n) {o k : Nat} (h12 : M 295 12 = 0) (h9 : M 295 9 = o) (h10 : M 295 10 = k) (ho : o ≤ 300) (hk : k ≤ 24) (l2 l3 : Int) :
    ∃ S1 R1 M1, zR zPP (d + 1) 112 52 [zA 295, zA 304, zI l2, zI l3] [] (n, s, S, R, M) = some (zA n, (n + 5, s + 4 + o + 4 * k + 3 + 3, S1, R1, M1)) ∧ (∀ a, a < n → S1 a = S a) ∧ (∀ a, a < n → R1 a = R a) ∧ (∀ a, a < n → M1 a = M a) ∧
      (S1 n = (7, 4) ∧ S1 (n + 1) = (20, o) ∧ S1 (n + 2) = (20, 4 * k) ∧ S1 (n + 3) = (20, 3) ∧ S1 (n + 4) = (20, 3)) ∧ (R1 n 0 = n + 1 ∧ R1 n 1 = n + 2 ∧ R1 n 2 = n + 3 ∧ R1 n 3 = n + 4) ∧
      (∀ x, x < o → M1 (n + 1) x = M 299 x) ∧ (∀ x, x < 4 * k → M1 (n + 2) x = M 300 x) ∧ M1 (n + 3) = M 301 ∧ M1 (n + 4) = M 302 := by
  generalize hS1 : zupS S n (7, 4) = S1
  generalize hR1 : zrow R n (fun _ => 0) = R1
  generalize hM1 : zrow M n (fun _ => (0 : Int)) = M1
  have s1 : ∀ a, a ≠ n → S1 a = S a := fun a ha => by rw [← hS1]; exact zupS_ne ha
  have r1 : ∀ a, a ≠ n → R1 a = R a := fun a ha => by rw [← hR1]; exact zrow_ne ha
  have m1 : ∀ a, a ≠ n → M1 a = M a := fun a ha => by rw [← hM1]; exact zrow_ne ha
  have F1 : qFx S1 R1 := qFx_n (fun a ha => s1 a (by omega)) (fun a ha _ => r1 a (by omega)) hF
  obtain ⟨M2, c1, m2, v2⟩ := kc_copy (n := n + 1) (s := s + 4) (d := d) (S := S1) (R := R1) (M := M1) (b := 299) (N0 := 300) (L := o) (by simp only [qff F1]) (by omega) ho (by decide)
  generalize hS2 : zupS S1 (n + 1) (20, o) = S2 at c1
  generalize hR2 : zrow R1 (n + 1) (fun _ => 0) = R2 at c1
  have s2 : ∀ a, a ≠ n + 1 → S2 a = S1 a := fun a ha => by rw [← hS2]; exact zupS_ne ha
  have r2 : ∀ a, a ≠ n + 1 → R2 a = R1 a := fun a ha => by rw [← hR2]; exact zrow_ne ha
  have F2 : qFx S2 R2 := qFx_n (fun a ha => s2 a (by omega)) (fun a ha _ => r2 a (by omega)) F1
  obtain ⟨M3, c2, m3, v3⟩ := kc_copy (n := n + 1 + 1) (s := s + 4 + o) (d := d) (S := S2) (R := R2) (M := M2) (b := 300) (N0 := 96) (L := 4 * k) (by simp only [qff F2]) (by omega) (by omega) (by decide)
  generalize hS3 : zupS S2 (n + 1 + 1) (20, 4 * k) = S3 at c2
  generalize hR3 : zrow R2 (n + 1 + 1) (fun _ => 0) = R3 at c2
  have s3 : ∀ a, a ≠ n + 2 → S3 a = S2 a := fun a ha => by rw [← hS3]; exact zupS_ne ha
  have r3 : ∀ a, a ≠ n + 2 → R3 a = R2 a := fun a ha => by rw [← hR3]; exact zrow_ne ha
  have F3 : qFx S3 R3 := qFx_n (fun a ha => s3 a (by omega)) (fun a ha _ => r3 a (by omega)) F2
  generalize hS4 : zupS S3 (n + 1 + 1 + 1) (20, 3) = S4
  have s4 : ∀ a, a ≠ n + 3 → S4 a = S3 a := fun a ha => by rw [← hS4]; exact zupS_ne ha
  generalize hS5 : zupS S4 (n + 1 + 1 + 1 + 1) (20, 3) = S5
  have s5 : ∀ a, a ≠ n + 4 → S5 a = S4 a := fun a ha => by rw [← hS5]; exact zupS_ne ha
  generalize hR4 : zrow R3 (n + 1 + 1 + 1) (fun _ => 0) = R4
  have r4 : ∀ a, a ≠ n + 3 → R4 a = R3 a := fun a ha => by rw [← hR4]; exact zrow_ne ha
  generalize hR5 : zrow R4 (n + 1 + 1 + 1 + 1) (fun _ => 0) = R5
  have r5 : ∀ a, a ≠ n + 4 → R5 a = R4 a := fun a ha => by rw [← hR5]; exact zrow_ne ha
  generalize hM4 : zrow M3 (n + 1 + 1 + 1) (M3 301) = M4
  have m4 : ∀ a, a ≠ n + 3 → M4 a = M3 a := fun a ha => by rw [← hM4]; exact zrow_ne ha
  generalize hM5 : zrow M4 (n + 1 + 1 + 1 + 1) (M4 302) = M5
  have m5 : ∀ a, a ≠ n + 4 → M5 a = M4 a := fun a ha => by rw [← hM5]; exact zrow_ne ha
  have sn : S5 n = (7, 4) := by rw [s5 n (by omega), s4 n (by omega), s3 n (by omega), s2 n (by omega), ← hS1, zupS_at]
  refine ⟨S5, zupR (zupR (zupR (zupR R5 n 0 (n + 1)) n 1 (n + 2)) n 2 (n + 3)) n 3 (n + 4), M5, ?_, fun a ha => ?_, fun a ha => ?_, fun a ha => ?_, ⟨sn, ?_, ?_, ?_, ?_⟩, ⟨?_, ?_, ?_, ?_⟩, fun x hx => ?_, fun x hx => ?_, ?_, ?_⟩
  · have n9 : ¬ M 295 9 < 0 := by rw [h9]; omega
    have n10 : ¬ M 295 10 < 0 := by rw [h10]; omega
    have b9 : M1 295 9 = (o : Int) := by rw [m1 295 (by omega)]; exact h9
    have b10 : M2 295 10 = (k : Int) := by rw [m2 295 (by omega), m1 295 (by omega)]; exact h10
    have q4 : (4 : Nat) ≤ 8 := by decide
    have q5 : (5 : Nat) ≤ 8 := by decide
    have s4' : S4 295 = (4, 14) := by rw [s4 295 (by omega)]; simp only [qff F3]
    have s4'' : S4 302 = (20, 3) := by rw [s4 302 (by omega)]; simp only [qff F3]
    have r4' : R4 295 6 = 302 := by rw [r4 295 (by omega)]; simp only [qff F3]
    have s43 : (S4 (n + 1 + 1 + 1)).1 = 20 := by rw [← hS4, zupS_at]
    have s54 : (S5 (n + 1 + 1 + 1 + 1)).1 = 20 := by rw [← hS5, zupS_at]
    have m300 : True := trivial
    rw [e_Reader_read_52]
    simp only [qff hF, if_true, h12, if_neg n9, if_neg n10, hS1, hR1, hM1, qff F1, b9]
    rw [c1]
    simp only [zbA, qff F2, if_true, b10, qwh (k := k) (by omega)]
    rw [c2]
    simp only [qff F3, if_true, true_and, if_pos q4, if_pos q5, hS4, hR4, hM4, s4', s4'', r4', s43, hS5, s54, hR5, hM5]
    rw [c_Text_init]
    simp only [sn, if_true, zbV]
    rfl
  · rw [s5 a (by omega), s4 a (by omega), s3 a (by omega), s2 a (by omega), s1 a (by omega)]
  · rw [zupR_rw (by omega), zupR_rw (by omega), zupR_rw (by omega), zupR_rw (by omega), r5 a (by omega), r4 a (by omega), r3 a (by omega), r2 a (by omega), r1 a (by omega)]
  · rw [m5 a (by omega), m4 a (by omega), m3 a (by omega), m2 a (by omega), m1 a (by omega)]
  · rw [s5 _ (by omega), s4 _ (by omega), s3 _ (by omega), ← hS2, zupS_at]
  · rw [s5 _ (by omega), s4 _ (by omega), ← hS3, zupS_at]
  · rw [s5 _ (by omega), ← hS4, zupS_at]
  · rw [← hS5, zupS_at]
  · rw [zupR_ne (by decide), zupR_ne (by decide), zupR_ne (by decide), zupR_at]
  · rw [zupR_ne (by decide), zupR_ne (by decide), zupR_at]
  · rw [zupR_ne (by decide), zupR_at]
  · rw [zupR_at]
  · rw [m5 _ (by omega), m4 _ (by omega), m3 _ (by omega), v2 x hx, m1 299 (by omega)]
  · rw [m5 _ (by omega), m4 _ (by omega)]
    have := v3 x hx
    rw [m2 300 (by omega), m1 300 (by omega)] at this
    exact this
  · rw [m5 _ (by omega), ← hM4, zrow_at, m3 301 (by omega), m2 301 (by omega), m1 301 (by omega)]
  · rw [← hM5, zrow_at, m4 302 (by omega), m3 302 (by omega), m2 302 (by omega), m1 302 (by omega)]
end QF
