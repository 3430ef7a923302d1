/-! THE TOLD CALLS on both sides (its head by inb.py) -/
theorem qIn_r12 {A : Nat → Int} {y : Nat} (hy : y < 24) {v : Int} (hv : 0 ≤ v ∧ v ≤ 3) (h : qIn A) : qIn (qup A (136 + y) v) := by
  obtain ⟨a0, a1, a2, a3, a4, a5, a6, a7, a8, a9, a10, b1, b2, b3, b4, b5, b6, b7, b8⟩ := h
  refine ⟨?_, ?_, ?_, ?_, ?_, ?_, ?_, ?_, ?_, ?_, ?_, fun o z ho hz => ?_, fun i hi => ?_, fun i hi => ?_, fun i hi => ?_, fun i hi => ?_, fun i hi => ?_, fun i hi => ?_, fun i hi => ?_⟩
  · unfold qup; (repeat' split) <;> omega
  · unfold qup; (repeat' split) <;> omega
  · unfold qup; (repeat' split) <;> omega
  · unfold qup; (repeat' split) <;> omega
  · unfold qup; (repeat' split) <;> omega
  · unfold qup; (repeat' split) <;> omega
  · unfold qup; (repeat' split) <;> omega
  · unfold qup; (repeat' split) <;> omega
  · unfold qup; (repeat' split) <;> omega
  · unfold qup; (repeat' split) <;> omega
  · unfold qup; (repeat' split) <;> omega
  · have c1 := b1 o z ho hz; unfold qup; (repeat' split) <;> omega
  · have c1 := b2 i hi; unfold qup; (repeat' split) <;> omega
  · have c1 := b3 i hi; unfold qup; (repeat' split) <;> omega
  · have c1 := b4 i hi; unfold qup; (repeat' split) <;> omega
  · have c1 := b5 i hi; unfold qup; (repeat' split) <;> omega
  · have c1 := b6 i hi; unfold qup; (repeat' split) <;> omega
  · have c1 := b7 i hi; unfold qup; (repeat' split) <;> omega
  · have c0 : (i : Int) < A 6 := by (unfold qup at hi; split at hi <;> omega)
    have c1 := b8 i c0; unfold qup; (repeat' split) <;> omega
theorem qIn_r13 {A : Nat → Int} {y : Nat} (hy : y < 5) {v : Int} (hv : 0 ≤ v ∧ v ≤ 99) (h : qIn A) : qIn (qup A (131 + y) v) := by
  obtain ⟨a0, a1, a2, a3, a4, a5, a6, a7, a8, a9, a10, b1, b2, b3, b4, b5, b6, b7, b8⟩ := h
  refine ⟨?_, ?_, ?_, ?_, ?_, ?_, ?_, ?_, ?_, ?_, ?_, fun o z ho hz => ?_, fun i hi => ?_, fun i hi => ?_, fun i hi => ?_, fun i hi => ?_, fun i hi => ?_, fun i hi => ?_, fun i hi => ?_⟩
  · unfold qup; (repeat' split) <;> omega
  · unfold qup; (repeat' split) <;> omega
  · unfold qup; (repeat' split) <;> omega
  · unfold qup; (repeat' split) <;> omega
  · unfold qup; (repeat' split) <;> omega
  · unfold qup; (repeat' split) <;> omega
  · unfold qup; (repeat' split) <;> omega
  · unfold qup; (repeat' split) <;> omega
  · unfold qup; (repeat' split) <;> omega
  · unfold qup; (repeat' split) <;> omega
  · unfold qup; (repeat' split) <;> omega
  · have c1 := b1 o z ho hz; unfold qup; (repeat' split) <;> omega
  · have c1 := b2 i hi; unfold qup; (repeat' split) <;> omega
  · have c1 := b3 i hi; unfold qup; (repeat' split) <;> omega
  · have c1 := b4 i hi; unfold qup; (repeat' split) <;> omega
  · have c1 := b5 i hi; unfold qup; (repeat' split) <;> omega
  · have c1 := b6 i hi; unfold qup; (repeat' split) <;> omega
  · have c1 := b7 i hi; unfold qup; (repeat' split) <;> omega
  · have c0 : (i : Int) < A 6 := by (unfold qup at hi; split at hi <;> omega)
    have c1 := b8 i c0; unfold qup; (repeat' split) <;> omega
theorem qIn_r15 {A : Nat → Int} {y : Nat} (hy : y < 5) {v : Int} (hv : 0 ≤ v ∧ v ≤ 99) (h : qIn A) : qIn (qup A (160 + y) v) := by
  obtain ⟨a0, a1, a2, a3, a4, a5, a6, a7, a8, a9, a10, b1, b2, b3, b4, b5, b6, b7, b8⟩ := h
  refine ⟨?_, ?_, ?_, ?_, ?_, ?_, ?_, ?_, ?_, ?_, ?_, fun o z ho hz => ?_, fun i hi => ?_, fun i hi => ?_, fun i hi => ?_, fun i hi => ?_, fun i hi => ?_, fun i hi => ?_, fun i hi => ?_⟩
  · unfold qup; (repeat' split) <;> omega
  · unfold qup; (repeat' split) <;> omega
  · unfold qup; (repeat' split) <;> omega
  · unfold qup; (repeat' split) <;> omega
  · unfold qup; (repeat' split) <;> omega
  · unfold qup; (repeat' split) <;> omega
  · unfold qup; (repeat' split) <;> omega
  · unfold qup; (repeat' split) <;> omega
  · unfold qup; (repeat' split) <;> omega
  · unfold qup; (repeat' split) <;> omega
  · unfold qup; (repeat' split) <;> omega
  · have c1 := b1 o z ho hz; unfold qup; (repeat' split) <;> omega
  · have c1 := b2 i hi; unfold qup; (repeat' split) <;> omega
  · have c1 := b3 i hi; unfold qup; (repeat' split) <;> omega
  · have c1 := b4 i hi; unfold qup; (repeat' split) <;> omega
  · have c1 := b5 i hi; unfold qup; (repeat' split) <;> omega
  · have c1 := b6 i hi; unfold qup; (repeat' split) <;> omega
  · have c1 := b7 i hi; unfold qup; (repeat' split) <;> omega
  · have c0 : (i : Int) < A 6 := by (unfold qup at hi; split at hi <;> omega)
    have c1 := b8 i c0; unfold qup; (repeat' split) <;> omega
theorem qIn_r16 {A : Nat → Int} {y : Nat} (hy : y < 5) {v : Int} (hv : 0 ≤ v ∧ v ≤ 15) (h : qIn A) : qIn (qup A (165 + y) v) := by
  obtain ⟨a0, a1, a2, a3, a4, a5, a6, a7, a8, a9, a10, b1, b2, b3, b4, b5, b6, b7, b8⟩ := h
  refine ⟨?_, ?_, ?_, ?_, ?_, ?_, ?_, ?_, ?_, ?_, ?_, fun o z ho hz => ?_, fun i hi => ?_, fun i hi => ?_, fun i hi => ?_, fun i hi => ?_, fun i hi => ?_, fun i hi => ?_, fun i hi => ?_⟩
  · unfold qup; (repeat' split) <;> omega
  · unfold qup; (repeat' split) <;> omega
  · unfold qup; (repeat' split) <;> omega
  · unfold qup; (repeat' split) <;> omega
  · unfold qup; (repeat' split) <;> omega
  · unfold qup; (repeat' split) <;> omega
  · unfold qup; (repeat' split) <;> omega
  · unfold qup; (repeat' split) <;> omega
  · unfold qup; (repeat' split) <;> omega
  · unfold qup; (repeat' split) <;> omega
  · unfold qup; (repeat' split) <;> omega
  · have c1 := b1 o z ho hz; unfold qup; (repeat' split) <;> omega
  · have c1 := b2 i hi; unfold qup; (repeat' split) <;> omega
  · have c1 := b3 i hi; unfold qup; (repeat' split) <;> omega
  · have c1 := b4 i hi; unfold qup; (repeat' split) <;> omega
  · have c1 := b5 i hi; unfold qup; (repeat' split) <;> omega
  · have c1 := b6 i hi; unfold qup; (repeat' split) <;> omega
  · have c1 := b7 i hi; unfold qup; (repeat' split) <;> omega
  · have c0 : (i : Int) < A 6 := by (unfold qup at hi; split at hi <;> omega)
    have c1 := b8 i c0; unfold qup; (repeat' split) <;> omega
theorem qIn_r17 {A : Nat → Int} {y : Nat} (hy : y < 10) {v : Int} (hv : 0 ≤ v ∧ v ≤ 3) (h : qIn A) : qIn (qup A (174 + y) v) := by
  obtain ⟨a0, a1, a2, a3, a4, a5, a6, a7, a8, a9, a10, b1, b2, b3, b4, b5, b6, b7, b8⟩ := h
  refine ⟨?_, ?_, ?_, ?_, ?_, ?_, ?_, ?_, ?_, ?_, ?_, fun o z ho hz => ?_, fun i hi => ?_, fun i hi => ?_, fun i hi => ?_, fun i hi => ?_, fun i hi => ?_, fun i hi => ?_, fun i hi => ?_⟩
  · unfold qup; (repeat' split) <;> omega
  · unfold qup; (repeat' split) <;> omega
  · unfold qup; (repeat' split) <;> omega
  · unfold qup; (repeat' split) <;> omega
  · unfold qup; (repeat' split) <;> omega
  · unfold qup; (repeat' split) <;> omega
  · unfold qup; (repeat' split) <;> omega
  · unfold qup; (repeat' split) <;> omega
  · unfold qup; (repeat' split) <;> omega
  · unfold qup; (repeat' split) <;> omega
  · unfold qup; (repeat' split) <;> omega
  · have c1 := b1 o z ho hz; unfold qup; (repeat' split) <;> omega
  · have c1 := b2 i hi; unfold qup; (repeat' split) <;> omega
  · have c1 := b3 i hi; unfold qup; (repeat' split) <;> omega
  · have c1 := b4 i hi; unfold qup; (repeat' split) <;> omega
  · have c1 := b5 i hi; unfold qup; (repeat' split) <;> omega
  · have c1 := b6 i hi; unfold qup; (repeat' split) <;> omega
  · have c1 := b7 i hi; unfold qup; (repeat' split) <;> omega
  · have c0 : (i : Int) < A 6 := by (unfold qup at hi; split at hi <;> omega)
    have c1 := b8 i c0; unfold qup; (repeat' split) <;> omega
theorem qIn_r18 {A : Nat → Int} {y : Nat} (hy : y < 4) {v : Int} (hv : 0 ≤ v ∧ v ≤ 99) (h : qIn A) : qIn (qup A (170 + y) v) := by
  obtain ⟨a0, a1, a2, a3, a4, a5, a6, a7, a8, a9, a10, b1, b2, b3, b4, b5, b6, b7, b8⟩ := h
  refine ⟨?_, ?_, ?_, ?_, ?_, ?_, ?_, ?_, ?_, ?_, ?_, fun o z ho hz => ?_, fun i hi => ?_, fun i hi => ?_, fun i hi => ?_, fun i hi => ?_, fun i hi => ?_, fun i hi => ?_, fun i hi => ?_⟩
  · unfold qup; (repeat' split) <;> omega
  · unfold qup; (repeat' split) <;> omega
  · unfold qup; (repeat' split) <;> omega
  · unfold qup; (repeat' split) <;> omega
  · unfold qup; (repeat' split) <;> omega
  · unfold qup; (repeat' split) <;> omega
  · unfold qup; (repeat' split) <;> omega
  · unfold qup; (repeat' split) <;> omega
  · unfold qup; (repeat' split) <;> omega
  · unfold qup; (repeat' split) <;> omega
  · unfold qup; (repeat' split) <;> omega
  · have c1 := b1 o z ho hz; unfold qup; (repeat' split) <;> omega
  · have c1 := b2 i hi; unfold qup; (repeat' split) <;> omega
  · have c1 := b3 i hi; unfold qup; (repeat' split) <;> omega
  · have c1 := b4 i hi; unfold qup; (repeat' split) <;> omega
  · have c1 := b5 i hi; unfold qup; (repeat' split) <;> omega
  · have c1 := b6 i hi; unfold qup; (repeat' split) <;> omega
  · have c1 := b7 i hi; unfold qup; (repeat' split) <;> omega
  · have c0 : (i : Int) < A 6 := by (unfold qup at hi; split at hi <;> omega)
    have c1 := b8 i c0; unfold qup; (repeat' split) <;> omega
theorem qIn_f13 {A : Nat → Int} {v : Int} (hv : A 1 ≤ v ∧ v ≤ 5) (h : qIn A) : qIn (qup A 1 v) := by
  obtain ⟨a0, a1, a2, a3, a4, a5, a6, a7, a8, a9, a10, b1, b2, b3, b4, b5, b6, b7, b8⟩ := h
  refine ⟨?_, ?_, ?_, ?_, ?_, ?_, ?_, ?_, ?_, ?_, ?_, fun o z ho hz => ?_, fun i hi => ?_, fun i hi => ?_, fun i hi => ?_, fun i hi => ?_, fun i hi => ?_, fun i hi => ?_, fun i hi => ?_⟩
  · unfold qup; (repeat' split) <;> omega
  · unfold qup; (repeat' split) <;> omega
  · unfold qup; (repeat' split) <;> omega
  · unfold qup; (repeat' split) <;> omega
  · unfold qup; (repeat' split) <;> omega
  · unfold qup; (repeat' split) <;> omega
  · unfold qup; (repeat' split) <;> omega
  · unfold qup; (repeat' split) <;> omega
  · unfold qup; (repeat' split) <;> omega
  · unfold qup; (repeat' split) <;> omega
  · unfold qup; (repeat' split) <;> omega
  · have c1 := b1 o z ho hz; unfold qup; (repeat' split) <;> omega
  · have c1 := b2 i hi; unfold qup; (repeat' split) <;> omega
  · have c1 := b3 i hi; unfold qup; (repeat' split) <;> omega
  · have c1 := b4 i hi; unfold qup; (repeat' split) <;> omega
  · have c1 := b5 i hi; unfold qup; (repeat' split) <;> omega
  · have c1 := b6 i hi; unfold qup; (repeat' split) <;> omega
  · have c1 := b7 i hi; unfold qup; (repeat' split) <;> omega
  · have c0 : (i : Int) < A 6 := by (unfold qup at hi; split at hi <;> omega)
    have c1 := b8 i c0; unfold qup; (repeat' split) <;> omega
theorem qIn_f15 {A : Nat → Int} {v : Int} (hv : -1 ≤ v ∧ v < A 2) (h : qIn A) : qIn (qup A 3 v) := by
  obtain ⟨a0, a1, a2, a3, a4, a5, a6, a7, a8, a9, a10, b1, b2, b3, b4, b5, b6, b7, b8⟩ := h
  refine ⟨?_, ?_, ?_, ?_, ?_, ?_, ?_, ?_, ?_, ?_, ?_, fun o z ho hz => ?_, fun i hi => ?_, fun i hi => ?_, fun i hi => ?_, fun i hi => ?_, fun i hi => ?_, fun i hi => ?_, fun i hi => ?_⟩
  · unfold qup; (repeat' split) <;> omega
  · unfold qup; (repeat' split) <;> omega
  · unfold qup; (repeat' split) <;> omega
  · unfold qup; (repeat' split) <;> omega
  · unfold qup; (repeat' split) <;> omega
  · unfold qup; (repeat' split) <;> omega
  · unfold qup; (repeat' split) <;> omega
  · unfold qup; (repeat' split) <;> omega
  · unfold qup; (repeat' split) <;> omega
  · unfold qup; (repeat' split) <;> omega
  · unfold qup; (repeat' split) <;> omega
  · have c1 := b1 o z ho hz; unfold qup; (repeat' split) <;> omega
  · have c1 := b2 i hi; unfold qup; (repeat' split) <;> omega
  · have c1 := b3 i hi; unfold qup; (repeat' split) <;> omega
  · have c1 := b4 i hi; unfold qup; (repeat' split) <;> omega
  · have c1 := b5 i hi; unfold qup; (repeat' split) <;> omega
  · have c1 := b6 i hi; unfold qup; (repeat' split) <;> omega
  · have c1 := b7 i hi; unfold qup; (repeat' split) <;> omega
  · have c0 : (i : Int) < A 6 := by (unfold qup at hi; split at hi <;> omega)
    have c1 := b8 i c0; unfold qup; (repeat' split) <;> omega
theorem qIn_f16 {A : Nat → Int} {v : Int} (hv : 0 ≤ v ∧ v ≤ 10) (h : qIn A) : qIn (qup A 5 v) := by
  obtain ⟨a0, a1, a2, a3, a4, a5, a6, a7, a8, a9, a10, b1, b2, b3, b4, b5, b6, b7, b8⟩ := h
  refine ⟨?_, ?_, ?_, ?_, ?_, ?_, ?_, ?_, ?_, ?_, ?_, fun o z ho hz => ?_, fun i hi => ?_, fun i hi => ?_, fun i hi => ?_, fun i hi => ?_, fun i hi => ?_, fun i hi => ?_, fun i hi => ?_⟩
  · unfold qup; (repeat' split) <;> omega
  · unfold qup; (repeat' split) <;> omega
  · unfold qup; (repeat' split) <;> omega
  · unfold qup; (repeat' split) <;> omega
  · unfold qup; (repeat' split) <;> omega
  · unfold qup; (repeat' split) <;> omega
  · unfold qup; (repeat' split) <;> omega
  · unfold qup; (repeat' split) <;> omega
  · unfold qup; (repeat' split) <;> omega
  · unfold qup; (repeat' split) <;> omega
  · unfold qup; (repeat' split) <;> omega
  · have c1 := b1 o z ho hz; unfold qup; (repeat' split) <;> omega
  · have c1 := b2 i hi; unfold qup; (repeat' split) <;> omega
  · have c1 := b3 i hi; unfold qup; (repeat' split) <;> omega
  · have c1 := b4 i hi; unfold qup; (repeat' split) <;> omega
  · have c1 := b5 i hi; unfold qup; (repeat' split) <;> omega
  · have c1 := b6 i hi; unfold qup; (repeat' split) <;> omega
  · have c1 := b7 i hi; unfold qup; (repeat' split) <;> omega
  · have c0 : (i : Int) < A 6 := by (unfold qup at hi; split at hi <;> omega)
    have c1 := b8 i c0; unfold qup; (repeat' split) <;> omega
theorem qIn_f17 {A : Nat → Int} {v : Int} (hv : 0 ≤ v ∧ v ≤ A 6) (h : qIn A) : qIn (qup A 6 v) := by
  obtain ⟨a0, a1, a2, a3, a4, a5, a6, a7, a8, a9, a10, b1, b2, b3, b4, b5, b6, b7, b8⟩ := h
  refine ⟨?_, ?_, ?_, ?_, ?_, ?_, ?_, ?_, ?_, ?_, ?_, fun o z ho hz => ?_, fun i hi => ?_, fun i hi => ?_, fun i hi => ?_, fun i hi => ?_, fun i hi => ?_, fun i hi => ?_, fun i hi => ?_⟩
  · unfold qup; (repeat' split) <;> omega
  · unfold qup; (repeat' split) <;> omega
  · unfold qup; (repeat' split) <;> omega
  · unfold qup; (repeat' split) <;> omega
  · unfold qup; (repeat' split) <;> omega
  · unfold qup; (repeat' split) <;> omega
  · unfold qup; (repeat' split) <;> omega
  · unfold qup; (repeat' split) <;> omega
  · unfold qup; (repeat' split) <;> omega
  · unfold qup; (repeat' split) <;> omega
  · unfold qup; (repeat' split) <;> omega
  · have c1 := b1 o z ho hz; unfold qup; (repeat' split) <;> omega
  · have c1 := b2 i hi; unfold qup; (repeat' split) <;> omega
  · have c1 := b3 i hi; unfold qup; (repeat' split) <;> omega
  · have c1 := b4 i hi; unfold qup; (repeat' split) <;> omega
  · have c1 := b5 i hi; unfold qup; (repeat' split) <;> omega
  · have c1 := b6 i hi; unfold qup; (repeat' split) <;> omega
  · have c1 := b7 i hi; unfold qup; (repeat' split) <;> omega
  · have c0 : (i : Int) < A 6 := by (unfold qup at hi; split at hi <;> omega)
    have c1 := b8 i c0; unfold qup; (repeat' split) <;> omega
theorem qIn_r19 {A : Nat → Int} {y : Nat} (hy : A 6 ≤ y ∧ y < 8) {v : Int} (h : qIn A) : qIn (qup A (184 + 2 * y) v) := by
  obtain ⟨a0, a1, a2, a3, a4, a5, a6, a7, a8, a9, a10, b1, b2, b3, b4, b5, b6, b7, b8⟩ := h
  refine ⟨?_, ?_, ?_, ?_, ?_, ?_, ?_, ?_, ?_, ?_, ?_, fun o z ho hz => ?_, fun i hi => ?_, fun i hi => ?_, fun i hi => ?_, fun i hi => ?_, fun i hi => ?_, fun i hi => ?_, fun i hi => ?_⟩
  · unfold qup; (repeat' split) <;> omega
  · unfold qup; (repeat' split) <;> omega
  · unfold qup; (repeat' split) <;> omega
  · unfold qup; (repeat' split) <;> omega
  · unfold qup; (repeat' split) <;> omega
  · unfold qup; (repeat' split) <;> omega
  · unfold qup; (repeat' split) <;> omega
  · unfold qup; (repeat' split) <;> omega
  · unfold qup; (repeat' split) <;> omega
  · unfold qup; (repeat' split) <;> omega
  · unfold qup; (repeat' split) <;> omega
  · have c1 := b1 o z ho hz; unfold qup; (repeat' split) <;> omega
  · have c1 := b2 i hi; unfold qup; (repeat' split) <;> omega
  · have c1 := b3 i hi; unfold qup; (repeat' split) <;> omega
  · have c1 := b4 i hi; unfold qup; (repeat' split) <;> omega
  · have c1 := b5 i hi; unfold qup; (repeat' split) <;> omega
  · have c1 := b6 i hi; unfold qup; (repeat' split) <;> omega
  · have c1 := b7 i hi; unfold qup; (repeat' split) <;> omega
  · have c0 : (i : Int) < A 6 := by (unfold qup at hi; split at hi <;> omega)
    have c1 := b8 i c0; unfold qup; (repeat' split) <;> omega
theorem qIn_r20 {A : Nat → Int} {y : Nat} (hy : A 6 ≤ y ∧ y < 8) {v : Int} (h : qIn A) : qIn (qup A (184 + 2 * y + 1) v) := by
  obtain ⟨a0, a1, a2, a3, a4, a5, a6, a7, a8, a9, a10, b1, b2, b3, b4, b5, b6, b7, b8⟩ := h
  refine ⟨?_, ?_, ?_, ?_, ?_, ?_, ?_, ?_, ?_, ?_, ?_, fun o z ho hz => ?_, fun i hi => ?_, fun i hi => ?_, fun i hi => ?_, fun i hi => ?_, fun i hi => ?_, fun i hi => ?_, fun i hi => ?_⟩
  · unfold qup; (repeat' split) <;> omega
  · unfold qup; (repeat' split) <;> omega
  · unfold qup; (repeat' split) <;> omega
  · unfold qup; (repeat' split) <;> omega
  · unfold qup; (repeat' split) <;> omega
  · unfold qup; (repeat' split) <;> omega
  · unfold qup; (repeat' split) <;> omega
  · unfold qup; (repeat' split) <;> omega
  · unfold qup; (repeat' split) <;> omega
  · unfold qup; (repeat' split) <;> omega
  · unfold qup; (repeat' split) <;> omega
  · have c1 := b1 o z ho hz; unfold qup; (repeat' split) <;> omega
  · have c1 := b2 i hi; unfold qup; (repeat' split) <;> omega
  · have c1 := b3 i hi; unfold qup; (repeat' split) <;> omega
  · have c1 := b4 i hi; unfold qup; (repeat' split) <;> omega
  · have c1 := b5 i hi; unfold qup; (repeat' split) <;> omega
  · have c1 := b6 i hi; unfold qup; (repeat' split) <;> omega
  · have c1 := b7 i hi; unfold qup; (repeat' split) <;> omega
  · have c0 : (i : Int) < A 6 := by (unfold qup at hi; split at hi <;> omega)
    have c1 := b8 i c0; unfold qup; (repeat' split) <;> omega
/-- one more is said -/
theorem qIn_said {A : Nat → Int} {N : Nat} (hN : A 6 = N) (h8 : N < 8) (hv : 0 ≤ A (184 + 2 * N) ∧ A (184 + 2 * N) < A 1 ∧ -999 ≤ A (184 + 2 * N + 1) ∧ A (184 + 2 * N + 1) ≤ 9999) (h : qIn A) : qIn (qup A 6 ((N : Int) + 1)) := by
  obtain ⟨a0, a1, a2, a3, a4, a5, a6, a7, a8, a9, a10, b1, b2, b3, b4, b5, b6, b7, b8⟩ := h
  have e : ∀ k, k ≠ 6 → qup A 6 ((N : Int) + 1) k = A k := fun k hk => qup_ne hk
  refine ⟨?_, ?_, ?_, ?_, ?_, ?_, ?_, ?_, ?_, ?_, ?_, fun o z ho hz => ?_, fun i hi => ?_, fun i hi => ?_, fun i hi => ?_, fun i hi => ?_, fun i hi => ?_, fun i hi => ?_, fun i hi => ?_⟩
  · rw [e 0 (by decide)]; exact a0
  · rw [e 1 (by decide)]; exact a1
  · rw [e 2 (by decide)]; exact a2
  · rw [e 3 (by decide), e 2 (by decide)]; exact a3
  · rw [e 4 (by decide)]; exact a4
  · rw [e 5 (by decide)]; exact a5
  · rw [qup_at]; omega
  · rw [e 7 (by decide)]; exact a7
  · rw [e 8 (by decide)]; exact a8
  · rw [e 9 (by decide)]; exact a9
  · rw [e 10 (by decide)]; exact a10
  · rw [e _ (by omega), e 1 (by decide)]; exact b1 o z ho hz
  · rw [e _ (by omega)]; exact b2 i hi
  · rw [e _ (by omega)]; exact b3 i hi
  · rw [e _ (by omega)]; exact b4 i hi
  · rw [e _ (by omega)]; exact b5 i hi
  · rw [e _ (by omega)]; exact b6 i hi
  · rw [e _ (by omega)]; exact b7 i hi
  · rw [qup_at] at hi
    rw [e _ (by omega), e 1 (by decide), e _ (by omega)]
    by_cases hiN : i = N
    · subst hiN; exact hv
    · exact b8 i (by omega)
