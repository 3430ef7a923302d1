/-! A TEXT: the class's call that makes a text -/
theorem qIn_f14 {A : Nat → Int} {v : Int} (hv : A 2 ≤ v ∧ v ≤ 4) (h : qIn A) : qIn (qup A 2 v) := by
  obtain ⟨a0, a1, a2, a3, a4, a5, a6, a7, a8, a9, a10, b1, b2, b3, b4, b5, b6, b7, b8⟩ := h
  refine ⟨?_, ?_, ?_, ?_, ?_, ?_, ?_, ?_, ?_, ?_, ?_, fun o z ho hz => ?_, fun i hi => ?_, fun i hi => ?_, fun i hi => ?_, fun i hi => ?_, fun i hi => ?_, fun i hi => ?_, fun i hi => ?_⟩
  · unfold qup; (repeat' split) <;> omega
  · unfold qup; (repeat' split) <;> omega
  · unfold qup; (repeat' split) <;> omega
  · unfold qup; (repeat' split) <;> omega
  · unfold qup; (repeat' split) <;> omega
  · unfold qup; (repeat' split) <;> omega
  · unfold qup; (repeat' split) <;> omega
  · unfold qup; (repeat' split) <;> omega
  · unfold qup; (repeat' split) <;> omega
  · unfold qup; (repeat' split) <;> omega
  · unfold qup; (repeat' split) <;> omega
  · have c1 := b1 o z ho hz; unfold qup; (repeat' split) <;> omega
  · have c1 := b2 i hi; unfold qup; (repeat' split) <;> omega
  · have c1 := b3 i hi; unfold qup; (repeat' split) <;> omega
  · have c1 := b4 i hi; unfold qup; (repeat' split) <;> omega
  · have c1 := b5 i hi; unfold qup; (repeat' split) <;> omega
  · have c1 := b6 i hi; unfold qup; (repeat' split) <;> omega
  · have c1 := b7 i hi; unfold qup; (repeat' split) <;> omega
  · have c0 : (i : Int) < A 6 := by (unfold qup at hi; split at hi <;> omega)
    have c1 := b8 i c0; unfold qup; (repeat' split) <;> omega
section QF
variable {S S1 : Nat → Nat × Nat} {R R1 : Nat → Nat → Nat} {M M' : Nat → Nat → Int} {n s n1 s1 t q len : Nat}
theorem kx_text2 (hF : qFx S R) (ht : M 10 14 = t) (h4 : t < 4) (h9 : M 9 9 = len) (h : zcal zPP 99 112 [zA 295, zA 304, zI len] (n, s, S, R, M) = some (zA q, (n1, s1, S1, R1, M'))) (hF1 : qFx S1 R1) (hq : q ≠ 0) (hSq : S1 q = (7, 4)) (ht' : M' 10 14 = t) :
    zcal zPP 100 26 [zA 9] (n, s, S, R, M) = some (zI t, (n1, s1, S1, zupR R1 14 t q, zup (zup (zup (zup M' 9 9 0) 9 10 (M' 295 12)) 9 11 (M' 295 13)) 10 14 ((t + 1 : Nat) : Int))) := by
  have p4 : 0 ≤ (t : Int) ∧ (t : Int) < ((4 : Nat) : Int) := by omega
  have n7 : ¬ (7 : Nat) = 0 := by decide
  rw [c_X_text]
  simp only [qff hF, if_true, ht, h9]
  rw [c_X_hasRoom, if_neg (by omega), if_pos (by omega)]
  simp only [zbI, qff hF, if_true, h9]
  rw [if_neg (by decide), h]
  simp only [zbA, qff hF1, if_true, zup_rw (show (295 : Nat) ≠ 9 by decide), if_neg hq, hSq, if_neg n7, zup_rw (show (10 : Nat) ≠ 9 by decide), ht', or_true, true_and, if_pos p4, Int.toNat_natCast, zupR_rw (show (9 : Nat) ≠ 14 by decide), qw1 (k := t) (by omega)]
end QF
