/-! ONE CELL THAT IS TOLD, on both sides (by told.py) -/
def qup (A : Nat → Int) (k : Nat) (v : Int) : Nat → Int := fun j => if j = k then v else A j
theorem qup_zup (M : Nat → Nat → Int) (a k : Nat) (v : Int) : zup M a k v a = qup (M a) k v := by
  funext j
  unfold zup qup
  by_cases h : j = k
  · rw [if_pos ⟨rfl, h⟩, if_pos h]
  · rw [if_neg (fun z => h z.2), if_neg h]
theorem qup_ne {A : Nat → Int} {k j : Nat} {v : Int} (h : j ≠ k) : qup A k v j = A j := if_neg h
theorem qup_at {A : Nat → Int} {k : Nat} {v : Int} : qup A k v k = v := if_pos rfl
theorem zup_rw {M : Nat → Nat → Int} {a k q : Nat} {x : Int} (h : q ≠ a) : zup M a k x q = M q := by
  funext j
  exact zup_r h
theorem qTw_f12 {M : Nat → Nat → Int} {A : Nat → Int} (v : Int) (h : qTw M 10 A) : qTw (zup M 10 12 v) 10 (qup A 0 v) := by
  obtain ⟨⟨a1, a2, a3, a4, a5, a6⟩, b1, b2, b3, b4, b5, b6, b7, b8, b9⟩ := h
  refine ⟨⟨?_, ?_, ?_, ?_, ?_, ?_⟩, fun o ho => ?_, fun i hi => ?_, fun i hi => ?_, fun i hi => ?_, fun i hi => ?_, fun i hi => ?_, fun i hi => ?_, fun i hi => ?_, fun i hi => ?_⟩
  · unfold zup qup; split <;> split <;> first | rfl | omega | exact a1
  · unfold zup qup; split <;> split <;> first | rfl | omega | exact a2
  · unfold zup qup; split <;> split <;> first | rfl | omega | exact a3
  · unfold zup qup; split <;> split <;> first | rfl | omega | exact a4
  · unfold zup qup; split <;> split <;> first | rfl | omega | exact a5
  · unfold zup qup; split <;> split <;> first | rfl | omega | exact a6
  · rw [zsn_cong (g := fun y => decide (A (11 + 24 * o + y) ≠ 0)) (fun y' hy' => by simp only [qup_ne (A := A) (v := v) (show 11 + 24 * o + y' ≠ 0 by omega)])]
    rw [zup_rw (by omega)]
    exact b1 o ho
  · unfold zup qup; split <;> split <;> first | rfl | omega | exact b2 i hi
  · unfold zup qup; split <;> split <;> first | rfl | omega | exact b3 i hi
  · unfold zup qup; split <;> split <;> first | rfl | omega | exact b4 i hi
  · unfold zup qup; split <;> split <;> first | rfl | omega | exact b5 i hi
  · unfold zup qup; split <;> split <;> first | rfl | omega | exact b6 i hi
  · unfold zup qup; split <;> split <;> first | rfl | omega | exact b7 i hi
  · unfold zup qup; split <;> split <;> first | rfl | omega | exact b8 i hi
  · unfold zup qup; split <;> split <;> first | rfl | omega | exact b9 i hi
theorem qTw_f13 {M : Nat → Nat → Int} {A : Nat → Int} (v : Int) (h : qTw M 10 A) : qTw (zup M 10 13 v) 10 (qup A 1 v) := by
  obtain ⟨⟨a1, a2, a3, a4, a5, a6⟩, b1, b2, b3, b4, b5, b6, b7, b8, b9⟩ := h
  refine ⟨⟨?_, ?_, ?_, ?_, ?_, ?_⟩, fun o ho => ?_, fun i hi => ?_, fun i hi => ?_, fun i hi => ?_, fun i hi => ?_, fun i hi => ?_, fun i hi => ?_, fun i hi => ?_, fun i hi => ?_⟩
  · unfold zup qup; split <;> split <;> first | rfl | omega | exact a1
  · unfold zup qup; split <;> split <;> first | rfl | omega | exact a2
  · unfold zup qup; split <;> split <;> first | rfl | omega | exact a3
  · unfold zup qup; split <;> split <;> first | rfl | omega | exact a4
  · unfold zup qup; split <;> split <;> first | rfl | omega | exact a5
  · unfold zup qup; split <;> split <;> first | rfl | omega | exact a6
  · rw [zsn_cong (g := fun y => decide (A (11 + 24 * o + y) ≠ 0)) (fun y' hy' => by simp only [qup_ne (A := A) (v := v) (show 11 + 24 * o + y' ≠ 1 by omega)])]
    rw [zup_rw (by omega)]
    exact b1 o ho
  · unfold zup qup; split <;> split <;> first | rfl | omega | exact b2 i hi
  · unfold zup qup; split <;> split <;> first | rfl | omega | exact b3 i hi
  · unfold zup qup; split <;> split <;> first | rfl | omega | exact b4 i hi
  · unfold zup qup; split <;> split <;> first | rfl | omega | exact b5 i hi
  · unfold zup qup; split <;> split <;> first | rfl | omega | exact b6 i hi
  · unfold zup qup; split <;> split <;> first | rfl | omega | exact b7 i hi
  · unfold zup qup; split <;> split <;> first | rfl | omega | exact b8 i hi
  · unfold zup qup; split <;> split <;> first | rfl | omega | exact b9 i hi
theorem qTw_f14 {M : Nat → Nat → Int} {A : Nat → Int} (v : Int) (h : qTw M 10 A) : qTw (zup M 10 14 v) 10 (qup A 2 v) := by
  obtain ⟨⟨a1, a2, a3, a4, a5, a6⟩, b1, b2, b3, b4, b5, b6, b7, b8, b9⟩ := h
  refine ⟨⟨?_, ?_, ?_, ?_, ?_, ?_⟩, fun o ho => ?_, fun i hi => ?_, fun i hi => ?_, fun i hi => ?_, fun i hi => ?_, fun i hi => ?_, fun i hi => ?_, fun i hi => ?_, fun i hi => ?_⟩
  · unfold zup qup; split <;> split <;> first | rfl | omega | exact a1
  · unfold zup qup; split <;> split <;> first | rfl | omega | exact a2
  · unfold zup qup; split <;> split <;> first | rfl | omega | exact a3
  · unfold zup qup; split <;> split <;> first | rfl | omega | exact a4
  · unfold zup qup; split <;> split <;> first | rfl | omega | exact a5
  · unfold zup qup; split <;> split <;> first | rfl | omega | exact a6
  · rw [zsn_cong (g := fun y => decide (A (11 + 24 * o + y) ≠ 0)) (fun y' hy' => by simp only [qup_ne (A := A) (v := v) (show 11 + 24 * o + y' ≠ 2 by omega)])]
    rw [zup_rw (by omega)]
    exact b1 o ho
  · unfold zup qup; split <;> split <;> first | rfl | omega | exact b2 i hi
  · unfold zup qup; split <;> split <;> first | rfl | omega | exact b3 i hi
  · unfold zup qup; split <;> split <;> first | rfl | omega | exact b4 i hi
  · unfold zup qup; split <;> split <;> first | rfl | omega | exact b5 i hi
  · unfold zup qup; split <;> split <;> first | rfl | omega | exact b6 i hi
  · unfold zup qup; split <;> split <;> first | rfl | omega | exact b7 i hi
  · unfold zup qup; split <;> split <;> first | rfl | omega | exact b8 i hi
  · unfold zup qup; split <;> split <;> first | rfl | omega | exact b9 i hi
theorem qTw_f15 {M : Nat → Nat → Int} {A : Nat → Int} (v : Int) (h : qTw M 10 A) : qTw (zup M 10 15 v) 10 (qup A 3 v) := by
  obtain ⟨⟨a1, a2, a3, a4, a5, a6⟩, b1, b2, b3, b4, b5, b6, b7, b8, b9⟩ := h
  refine ⟨⟨?_, ?_, ?_, ?_, ?_, ?_⟩, fun o ho => ?_, fun i hi => ?_, fun i hi => ?_, fun i hi => ?_, fun i hi => ?_, fun i hi => ?_, fun i hi => ?_, fun i hi => ?_, fun i hi => ?_⟩
  · unfold zup qup; split <;> split <;> first | rfl | omega | exact a1
  · unfold zup qup; split <;> split <;> first | rfl | omega | exact a2
  · unfold zup qup; split <;> split <;> first | rfl | omega | exact a3
  · unfold zup qup; split <;> split <;> first | rfl | omega | exact a4
  · unfold zup qup; split <;> split <;> first | rfl | omega | exact a5
  · unfold zup qup; split <;> split <;> first | rfl | omega | exact a6
  · rw [zsn_cong (g := fun y => decide (A (11 + 24 * o + y) ≠ 0)) (fun y' hy' => by simp only [qup_ne (A := A) (v := v) (show 11 + 24 * o + y' ≠ 3 by omega)])]
    rw [zup_rw (by omega)]
    exact b1 o ho
  · unfold zup qup; split <;> split <;> first | rfl | omega | exact b2 i hi
  · unfold zup qup; split <;> split <;> first | rfl | omega | exact b3 i hi
  · unfold zup qup; split <;> split <;> first | rfl | omega | exact b4 i hi
  · unfold zup qup; split <;> split <;> first | rfl | omega | exact b5 i hi
  · unfold zup qup; split <;> split <;> first | rfl | omega | exact b6 i hi
  · unfold zup qup; split <;> split <;> first | rfl | omega | exact b7 i hi
  · unfold zup qup; split <;> split <;> first | rfl | omega | exact b8 i hi
  · unfold zup qup; split <;> split <;> first | rfl | omega | exact b9 i hi
theorem qTw_f16 {M : Nat → Nat → Int} {A : Nat → Int} (v : Int) (h : qTw M 10 A) : qTw (zup M 10 16 v) 10 (qup A 5 v) := by
  obtain ⟨⟨a1, a2, a3, a4, a5, a6⟩, b1, b2, b3, b4, b5, b6, b7, b8, b9⟩ := h
  refine ⟨⟨?_, ?_, ?_, ?_, ?_, ?_⟩, fun o ho => ?_, fun i hi => ?_, fun i hi => ?_, fun i hi => ?_, fun i hi => ?_, fun i hi => ?_, fun i hi => ?_, fun i hi => ?_, fun i hi => ?_⟩
  · unfold zup qup; split <;> split <;> first | rfl | omega | exact a1
  · unfold zup qup; split <;> split <;> first | rfl | omega | exact a2
  · unfold zup qup; split <;> split <;> first | rfl | omega | exact a3
  · unfold zup qup; split <;> split <;> first | rfl | omega | exact a4
  · unfold zup qup; split <;> split <;> first | rfl | omega | exact a5
  · unfold zup qup; split <;> split <;> first | rfl | omega | exact a6
  · rw [zsn_cong (g := fun y => decide (A (11 + 24 * o + y) ≠ 0)) (fun y' hy' => by simp only [qup_ne (A := A) (v := v) (show 11 + 24 * o + y' ≠ 5 by omega)])]
    rw [zup_rw (by omega)]
    exact b1 o ho
  · unfold zup qup; split <;> split <;> first | rfl | omega | exact b2 i hi
  · unfold zup qup; split <;> split <;> first | rfl | omega | exact b3 i hi
  · unfold zup qup; split <;> split <;> first | rfl | omega | exact b4 i hi
  · unfold zup qup; split <;> split <;> first | rfl | omega | exact b5 i hi
  · unfold zup qup; split <;> split <;> first | rfl | omega | exact b6 i hi
  · unfold zup qup; split <;> split <;> first | rfl | omega | exact b7 i hi
  · unfold zup qup; split <;> split <;> first | rfl | omega | exact b8 i hi
  · unfold zup qup; split <;> split <;> first | rfl | omega | exact b9 i hi
theorem qTw_f17 {M : Nat → Nat → Int} {A : Nat → Int} (v : Int) (h : qTw M 10 A) : qTw (zup M 10 17 v) 10 (qup A 6 v) := by
  obtain ⟨⟨a1, a2, a3, a4, a5, a6⟩, b1, b2, b3, b4, b5, b6, b7, b8, b9⟩ := h
  refine ⟨⟨?_, ?_, ?_, ?_, ?_, ?_⟩, fun o ho => ?_, fun i hi => ?_, fun i hi => ?_, fun i hi => ?_, fun i hi => ?_, fun i hi => ?_, fun i hi => ?_, fun i hi => ?_, fun i hi => ?_⟩
  · unfold zup qup; split <;> split <;> first | rfl | omega | exact a1
  · unfold zup qup; split <;> split <;> first | rfl | omega | exact a2
  · unfold zup qup; split <;> split <;> first | rfl | omega | exact a3
  · unfold zup qup; split <;> split <;> first | rfl | omega | exact a4
  · unfold zup qup; split <;> split <;> first | rfl | omega | exact a5
  · unfold zup qup; split <;> split <;> first | rfl | omega | exact a6
  · rw [zsn_cong (g := fun y => decide (A (11 + 24 * o + y) ≠ 0)) (fun y' hy' => by simp only [qup_ne (A := A) (v := v) (show 11 + 24 * o + y' ≠ 6 by omega)])]
    rw [zup_rw (by omega)]
    exact b1 o ho
  · unfold zup qup; split <;> split <;> first | rfl | omega | exact b2 i hi
  · unfold zup qup; split <;> split <;> first | rfl | omega | exact b3 i hi
  · unfold zup qup; split <;> split <;> first | rfl | omega | exact b4 i hi
  · unfold zup qup; split <;> split <;> first | rfl | omega | exact b5 i hi
  · unfold zup qup; split <;> split <;> first | rfl | omega | exact b6 i hi
  · unfold zup qup; split <;> split <;> first | rfl | omega | exact b7 i hi
  · unfold zup qup; split <;> split <;> first | rfl | omega | exact b8 i hi
  · unfold zup qup; split <;> split <;> first | rfl | omega | exact b9 i hi
theorem qTw_r12 {M : Nat → Nat → Int} {A : Nat → Int} {y : Nat} (hy : y < 24) (v : Int) (h : qTw M 10 A) : qTw (zup M 12 y v) 10 (qup A (136 + y) v) := by
  obtain ⟨⟨a1, a2, a3, a4, a5, a6⟩, b1, b2, b3, b4, b5, b6, b7, b8, b9⟩ := h
  refine ⟨⟨?_, ?_, ?_, ?_, ?_, ?_⟩, fun o ho => ?_, fun i hi => ?_, fun i hi => ?_, fun i hi => ?_, fun i hi => ?_, fun i hi => ?_, fun i hi => ?_, fun i hi => ?_, fun i hi => ?_⟩
  · unfold zup qup; split <;> split <;> first | rfl | omega | exact a1
  · unfold zup qup; split <;> split <;> first | rfl | omega | exact a2
  · unfold zup qup; split <;> split <;> first | rfl | omega | exact a3
  · unfold zup qup; split <;> split <;> first | rfl | omega | exact a4
  · unfold zup qup; split <;> split <;> first | rfl | omega | exact a5
  · unfold zup qup; split <;> split <;> first | rfl | omega | exact a6
  · rw [zsn_cong (g := fun y => decide (A (11 + 24 * o + y) ≠ 0)) (fun y' hy' => by simp only [qup_ne (A := A) (v := v) (show 11 + 24 * o + y' ≠ (136 + y) by omega)])]
    rw [zup_rw (by omega)]
    exact b1 o ho
  · unfold zup qup; split <;> split <;> first | rfl | omega | exact b2 i hi
  · unfold zup qup; split <;> split <;> first | rfl | omega | exact b3 i hi
  · unfold zup qup; split <;> split <;> first | rfl | omega | exact b4 i hi
  · unfold zup qup; split <;> split <;> first | rfl | omega | exact b5 i hi
  · unfold zup qup; split <;> split <;> first | rfl | omega | exact b6 i hi
  · unfold zup qup; split <;> split <;> first | rfl | omega | exact b7 i hi
  · unfold zup qup; split <;> split <;> first | rfl | omega | exact b8 i hi
  · unfold zup qup; split <;> split <;> first | rfl | omega | exact b9 i hi
theorem qTw_r13 {M : Nat → Nat → Int} {A : Nat → Int} {y : Nat} (hy : y < 5) (v : Int) (h : qTw M 10 A) : qTw (zup M 13 y v) 10 (qup A (131 + y) v) := by
  obtain ⟨⟨a1, a2, a3, a4, a5, a6⟩, b1, b2, b3, b4, b5, b6, b7, b8, b9⟩ := h
  refine ⟨⟨?_, ?_, ?_, ?_, ?_, ?_⟩, fun o ho => ?_, fun i hi => ?_, fun i hi => ?_, fun i hi => ?_, fun i hi => ?_, fun i hi => ?_, fun i hi => ?_, fun i hi => ?_, fun i hi => ?_⟩
  · unfold zup qup; split <;> split <;> first | rfl | omega | exact a1
  · unfold zup qup; split <;> split <;> first | rfl | omega | exact a2
  · unfold zup qup; split <;> split <;> first | rfl | omega | exact a3
  · unfold zup qup; split <;> split <;> first | rfl | omega | exact a4
  · unfold zup qup; split <;> split <;> first | rfl | omega | exact a5
  · unfold zup qup; split <;> split <;> first | rfl | omega | exact a6
  · rw [zsn_cong (g := fun y => decide (A (11 + 24 * o + y) ≠ 0)) (fun y' hy' => by simp only [qup_ne (A := A) (v := v) (show 11 + 24 * o + y' ≠ (131 + y) by omega)])]
    rw [zup_rw (by omega)]
    exact b1 o ho
  · unfold zup qup; split <;> split <;> first | rfl | omega | exact b2 i hi
  · unfold zup qup; split <;> split <;> first | rfl | omega | exact b3 i hi
  · unfold zup qup; split <;> split <;> first | rfl | omega | exact b4 i hi
  · unfold zup qup; split <;> split <;> first | rfl | omega | exact b5 i hi
  · unfold zup qup; split <;> split <;> first | rfl | omega | exact b6 i hi
  · unfold zup qup; split <;> split <;> first | rfl | omega | exact b7 i hi
  · unfold zup qup; split <;> split <;> first | rfl | omega | exact b8 i hi
  · unfold zup qup; split <;> split <;> first | rfl | omega | exact b9 i hi
theorem qTw_r15 {M : Nat → Nat → Int} {A : Nat → Int} {y : Nat} (hy : y < 5) (v : Int) (h : qTw M 10 A) : qTw (zup M 15 y v) 10 (qup A (160 + y) v) := by
  obtain ⟨⟨a1, a2, a3, a4, a5, a6⟩, b1, b2, b3, b4, b5, b6, b7, b8, b9⟩ := h
  refine ⟨⟨?_, ?_, ?_, ?_, ?_, ?_⟩, fun o ho => ?_, fun i hi => ?_, fun i hi => ?_, fun i hi => ?_, fun i hi => ?_, fun i hi => ?_, fun i hi => ?_, fun i hi => ?_, fun i hi => ?_⟩
  · unfold zup qup; split <;> split <;> first | rfl | omega | exact a1
  · unfold zup qup; split <;> split <;> first | rfl | omega | exact a2
  · unfold zup qup; split <;> split <;> first | rfl | omega | exact a3
  · unfold zup qup; split <;> split <;> first | rfl | omega | exact a4
  · unfold zup qup; split <;> split <;> first | rfl | omega | exact a5
  · unfold zup qup; split <;> split <;> first | rfl | omega | exact a6
  · rw [zsn_cong (g := fun y => decide (A (11 + 24 * o + y) ≠ 0)) (fun y' hy' => by simp only [qup_ne (A := A) (v := v) (show 11 + 24 * o + y' ≠ (160 + y) by omega)])]
    rw [zup_rw (by omega)]
    exact b1 o ho
  · unfold zup qup; split <;> split <;> first | rfl | omega | exact b2 i hi
  · unfold zup qup; split <;> split <;> first | rfl | omega | exact b3 i hi
  · unfold zup qup; split <;> split <;> first | rfl | omega | exact b4 i hi
  · unfold zup qup; split <;> split <;> first | rfl | omega | exact b5 i hi
  · unfold zup qup; split <;> split <;> first | rfl | omega | exact b6 i hi
  · unfold zup qup; split <;> split <;> first | rfl | omega | exact b7 i hi
  · unfold zup qup; split <;> split <;> first | rfl | omega | exact b8 i hi
  · unfold zup qup; split <;> split <;> first | rfl | omega | exact b9 i hi
theorem qTw_r16 {M : Nat → Nat → Int} {A : Nat → Int} {y : Nat} (hy : y < 5) (v : Int) (h : qTw M 10 A) : qTw (zup M 16 y v) 10 (qup A (165 + y) v) := by
  obtain ⟨⟨a1, a2, a3, a4, a5, a6⟩, b1, b2, b3, b4, b5, b6, b7, b8, b9⟩ := h
  refine ⟨⟨?_, ?_, ?_, ?_, ?_, ?_⟩, fun o ho => ?_, fun i hi => ?_, fun i hi => ?_, fun i hi => ?_, fun i hi => ?_, fun i hi => ?_, fun i hi => ?_, fun i hi => ?_, fun i hi => ?_⟩
  · unfold zup qup; split <;> split <;> first | rfl | omega | exact a1
  · unfold zup qup; split <;> split <;> first | rfl | omega | exact a2
  · unfold zup qup; split <;> split <;> first | rfl | omega | exact a3
  · unfold zup qup; split <;> split <;> first | rfl | omega | exact a4
  · unfold zup qup; split <;> split <;> first | rfl | omega | exact a5
  · unfold zup qup; split <;> split <;> first | rfl | omega | exact a6
  · rw [zsn_cong (g := fun y => decide (A (11 + 24 * o + y) ≠ 0)) (fun y' hy' => by simp only [qup_ne (A := A) (v := v) (show 11 + 24 * o + y' ≠ (165 + y) by omega)])]
    rw [zup_rw (by omega)]
    exact b1 o ho
  · unfold zup qup; split <;> split <;> first | rfl | omega | exact b2 i hi
  · unfold zup qup; split <;> split <;> first | rfl | omega | exact b3 i hi
  · unfold zup qup; split <;> split <;> first | rfl | omega | exact b4 i hi
  · unfold zup qup; split <;> split <;> first | rfl | omega | exact b5 i hi
  · unfold zup qup; split <;> split <;> first | rfl | omega | exact b6 i hi
  · unfold zup qup; split <;> split <;> first | rfl | omega | exact b7 i hi
  · unfold zup qup; split <;> split <;> first | rfl | omega | exact b8 i hi
  · unfold zup qup; split <;> split <;> first | rfl | omega | exact b9 i hi
theorem qTw_r17 {M : Nat → Nat → Int} {A : Nat → Int} {y : Nat} (hy : y < 10) (v : Int) (h : qTw M 10 A) : qTw (zup M 17 y v) 10 (qup A (174 + y) v) := by
  obtain ⟨⟨a1, a2, a3, a4, a5, a6⟩, b1, b2, b3, b4, b5, b6, b7, b8, b9⟩ := h
  refine ⟨⟨?_, ?_, ?_, ?_, ?_, ?_⟩, fun o ho => ?_, fun i hi => ?_, fun i hi => ?_, fun i hi => ?_, fun i hi => ?_, fun i hi => ?_, fun i hi => ?_, fun i hi => ?_, fun i hi => ?_⟩
  · unfold zup qup; split <;> split <;> first | rfl | omega | exact a1
  · unfold zup qup; split <;> split <;> first | rfl | omega | exact a2
  · unfold zup qup; split <;> split <;> first | rfl | omega | exact a3
  · unfold zup qup; split <;> split <;> first | rfl | omega | exact a4
  · unfold zup qup; split <;> split <;> first | rfl | omega | exact a5
  · unfold zup qup; split <;> split <;> first | rfl | omega | exact a6
  · rw [zsn_cong (g := fun y => decide (A (11 + 24 * o + y) ≠ 0)) (fun y' hy' => by simp only [qup_ne (A := A) (v := v) (show 11 + 24 * o + y' ≠ (174 + y) by omega)])]
    rw [zup_rw (by omega)]
    exact b1 o ho
  · unfold zup qup; split <;> split <;> first | rfl | omega | exact b2 i hi
  · unfold zup qup; split <;> split <;> first | rfl | omega | exact b3 i hi
  · unfold zup qup; split <;> split <;> first | rfl | omega | exact b4 i hi
  · unfold zup qup; split <;> split <;> first | rfl | omega | exact b5 i hi
  · unfold zup qup; split <;> split <;> first | rfl | omega | exact b6 i hi
  · unfold zup qup; split <;> split <;> first | rfl | omega | exact b7 i hi
  · unfold zup qup; split <;> split <;> first | rfl | omega | exact b8 i hi
  · unfold zup qup; split <;> split <;> first | rfl | omega | exact b9 i hi
theorem qTw_r18 {M : Nat → Nat → Int} {A : Nat → Int} {y : Nat} (hy : y < 4) (v : Int) (h : qTw M 10 A) : qTw (zup M 18 y v) 10 (qup A (170 + y) v) := by
  obtain ⟨⟨a1, a2, a3, a4, a5, a6⟩, b1, b2, b3, b4, b5, b6, b7, b8, b9⟩ := h
  refine ⟨⟨?_, ?_, ?_, ?_, ?_, ?_⟩, fun o ho => ?_, fun i hi => ?_, fun i hi => ?_, fun i hi => ?_, fun i hi => ?_, fun i hi => ?_, fun i hi => ?_, fun i hi => ?_, fun i hi => ?_⟩
  · unfold zup qup; split <;> split <;> first | rfl | omega | exact a1
  · unfold zup qup; split <;> split <;> first | rfl | omega | exact a2
  · unfold zup qup; split <;> split <;> first | rfl | omega | exact a3
  · unfold zup qup; split <;> split <;> first | rfl | omega | exact a4
  · unfold zup qup; split <;> split <;> first | rfl | omega | exact a5
  · unfold zup qup; split <;> split <;> first | rfl | omega | exact a6
  · rw [zsn_cong (g := fun y => decide (A (11 + 24 * o + y) ≠ 0)) (fun y' hy' => by simp only [qup_ne (A := A) (v := v) (show 11 + 24 * o + y' ≠ (170 + y) by omega)])]
    rw [zup_rw (by omega)]
    exact b1 o ho
  · unfold zup qup; split <;> split <;> first | rfl | omega | exact b2 i hi
  · unfold zup qup; split <;> split <;> first | rfl | omega | exact b3 i hi
  · unfold zup qup; split <;> split <;> first | rfl | omega | exact b4 i hi
  · unfold zup qup; split <;> split <;> first | rfl | omega | exact b5 i hi
  · unfold zup qup; split <;> split <;> first | rfl | omega | exact b6 i hi
  · unfold zup qup; split <;> split <;> first | rfl | omega | exact b7 i hi
  · unfold zup qup; split <;> split <;> first | rfl | omega | exact b8 i hi
  · unfold zup qup; split <;> split <;> first | rfl | omega | exact b9 i hi
theorem qTw_r19 {M : Nat → Nat → Int} {A : Nat → Int} {y : Nat} (hy : y < 8) (v : Int) (h : qTw M 10 A) : qTw (zup M 19 y v) 10 (qup A (184 + 2 * y) v) := by
  obtain ⟨⟨a1, a2, a3, a4, a5, a6⟩, b1, b2, b3, b4, b5, b6, b7, b8, b9⟩ := h
  refine ⟨⟨?_, ?_, ?_, ?_, ?_, ?_⟩, fun o ho => ?_, fun i hi => ?_, fun i hi => ?_, fun i hi => ?_, fun i hi => ?_, fun i hi => ?_, fun i hi => ?_, fun i hi => ?_, fun i hi => ?_⟩
  · unfold zup qup; split <;> split <;> first | rfl | omega | exact a1
  · unfold zup qup; split <;> split <;> first | rfl | omega | exact a2
  · unfold zup qup; split <;> split <;> first | rfl | omega | exact a3
  · unfold zup qup; split <;> split <;> first | rfl | omega | exact a4
  · unfold zup qup; split <;> split <;> first | rfl | omega | exact a5
  · unfold zup qup; split <;> split <;> first | rfl | omega | exact a6
  · rw [zsn_cong (g := fun y => decide (A (11 + 24 * o + y) ≠ 0)) (fun y' hy' => by simp only [qup_ne (A := A) (v := v) (show 11 + 24 * o + y' ≠ (184 + 2 * y) by omega)])]
    rw [zup_rw (by omega)]
    exact b1 o ho
  · unfold zup qup; split <;> split <;> first | rfl | omega | exact b2 i hi
  · unfold zup qup; split <;> split <;> first | rfl | omega | exact b3 i hi
  · unfold zup qup; split <;> split <;> first | rfl | omega | exact b4 i hi
  · unfold zup qup; split <;> split <;> first | rfl | omega | exact b5 i hi
  · unfold zup qup; split <;> split <;> first | rfl | omega | exact b6 i hi
  · unfold zup qup; split <;> split <;> first | rfl | omega | exact b7 i hi
  · unfold zup qup; split <;> split <;> first | rfl | omega | exact b8 i hi
  · unfold zup qup; split <;> split <;> first | rfl | omega | exact b9 i hi
theorem qTw_r20 {M : Nat → Nat → Int} {A : Nat → Int} {y : Nat} (hy : y < 8) (v : Int) (h : qTw M 10 A) : qTw (zup M 20 y v) 10 (qup A (184 + 2 * y + 1) v) := by
  obtain ⟨⟨a1, a2, a3, a4, a5, a6⟩, b1, b2, b3, b4, b5, b6, b7, b8, b9⟩ := h
  refine ⟨⟨?_, ?_, ?_, ?_, ?_, ?_⟩, fun o ho => ?_, fun i hi => ?_, fun i hi => ?_, fun i hi => ?_, fun i hi => ?_, fun i hi => ?_, fun i hi => ?_, fun i hi => ?_, fun i hi => ?_⟩
  · unfold zup qup; split <;> split <;> first | rfl | omega | exact a1
  · unfold zup qup; split <;> split <;> first | rfl | omega | exact a2
  · unfold zup qup; split <;> split <;> first | rfl | omega | exact a3
  · unfold zup qup; split <;> split <;> first | rfl | omega | exact a4
  · unfold zup qup; split <;> split <;> first | rfl | omega | exact a5
  · unfold zup qup; split <;> split <;> first | rfl | omega | exact a6
  · rw [zsn_cong (g := fun y => decide (A (11 + 24 * o + y) ≠ 0)) (fun y' hy' => by simp only [qup_ne (A := A) (v := v) (show 11 + 24 * o + y' ≠ (184 + 2 * y + 1) by omega)])]
    rw [zup_rw (by omega)]
    exact b1 o ho
  · unfold zup qup; split <;> split <;> first | rfl | omega | exact b2 i hi
  · unfold zup qup; split <;> split <;> first | rfl | omega | exact b3 i hi
  · unfold zup qup; split <;> split <;> first | rfl | omega | exact b4 i hi
  · unfold zup qup; split <;> split <;> first | rfl | omega | exact b5 i hi
  · unfold zup qup; split <;> split <;> first | rfl | omega | exact b6 i hi
  · unfold zup qup; split <;> split <;> first | rfl | omega | exact b7 i hi
  · unfold zup qup; split <;> split <;> first | rfl | omega | exact b8 i hi
  · unfold zup qup; split <;> split <;> first | rfl | omega | exact b9 i hi
/-- what is told changes neither rings nor steps -/
theorem qRg_g {M : Nat → Nat → Int} {r : Nat} {g g' : Nat → Nat → Int} (h : ∀ o y, o < 5 → y < 24 → (g' o y = g o y ∨ (g o y < 2 ∧ g' o y < 2))) (hr : qRg M r g) : qRg M r g' := by
  refine ⟨fun o p ho hp => ?_, fun o ho => ?_⟩
  · rw [hr.1 o p ho hp]
    refine congrArg (fun x : Nat => (x : Int)) (zsn_cong fun y hy => ?_)
    have := h o y ho hy
    rw [Bool.eq_iff_iff, decide_eq_true_iff, decide_eq_true_iff]
    omega
  · rw [hr.2 o ho]
    refine congrArg (fun x : Nat => (x : Int)) (zsn_cong fun y hy => ?_)
    have := h o y ho hy
    rw [Bool.eq_iff_iff, decide_eq_true_iff, decide_eq_true_iff]
    omega
theorem qRs_told {M : Nat → Nat → Int} {r : Nat} {A A' : Nat → Int} (h0 : A' 0 = A 0) (h : ∀ k, 7 ≤ k → k < 131 → A' k = A k) (hb : ∀ k, 4850 ≤ k → A' k = A k) (hr : qRs M r A) : qRs M r A' := by
  obtain ⟨h1, h2, h3⟩ := hr
  refine ⟨qRg_g (fun o y ho hy => Or.inl ?_) h1, ?_, fun i hi => ?_⟩
  · unfold qg
    rw [h0, h _ (by omega) (by omega)]
  · rw [h 10 (by decide) (by decide), h 8 (by decide) (by decide), h 7 (by decide) (by decide), h 9 (by decide) (by decide)]
    exact h2
  · rw [h 10 (by decide) (by decide)] at hi
    rw [hb _ (by omega)]
    exact h3 i hi
theorem qsn_told {A A' : Nat → Int} {x : Nat} (hx : 200 ≤ x) (h : ∀ k, 200 ≤ k → A' k = A k) : ∀ k, k = 0 ∨ (7 ≤ k ∧ k < 131) ∨ 4850 ≤ k → qsn A' x k = qsn A x k := fun k hk => by
  unfold qsn
  by_cases h1 : k = 0
  · rw [if_pos h1, if_pos h1, h x hx]
  · rw [if_neg h1, if_neg h1]
    by_cases h2 : 7 ≤ k ∧ k < 131
    · rw [if_pos h2, if_pos h2, h _ (by omega)]
    · rw [if_neg h2, if_neg h2, if_pos (by omega), if_pos (by omega), h _ (by omega)]
theorem qSi_told {A A' : Nat → Int} {x : Nat} (hx : 200 ≤ x) (h0 : A 0 ≤ A' 0) (h05 : A 0 ≤ 5) (h1 : A 1 ≤ A' 1) (h : ∀ k, 200 ≤ k → A' k = A k) (hr : ∀ o y : Nat, (o : Int) < A 0 → y < 24 → (A' (11 + 24 * o + y) = 0 ↔ A (11 + 24 * o + y) = 0)) (hs : qSi A x) : qSi A' x := by
  obtain ⟨a1, a2, a3, a4, a5, a6⟩ := hs
  refine ⟨?_, ?_, ?_, ?_, ?_, fun o y ho hy => ?_⟩
  · rw [h x hx]; omega
  · rw [h _ (by omega)]; exact a2
  · rw [h _ (by omega)]; exact a3
  · rw [h _ (by omega)]; exact a4
  · rw [h _ (by omega)]; exact a5
  · rw [h x hx] at ho
    have := a6 o y ho hy
    have hz := hr o y (by omega) hy
    rw [h _ (by omega)]
    exact ⟨this.1, by omega, this.2.2.trans hz.symm⟩
theorem qSp_told {M : Nat → Nat → Int} {q : Nat} {A A' : Nat → Int} (h0 : A 0 ≤ A' 0) (h05 : A 0 ≤ 5) (h1 : A 1 ≤ A' 1) (h4 : A' 4 = A 4) (h : ∀ k, 200 ≤ k → A' k = A k) (hr : ∀ o y : Nat, (o : Int) < A 0 → y < 24 → (A' (11 + 24 * o + y) = 0 ↔ A (11 + 24 * o + y) = 0)) (hs : qSp M q A) : qSp M q A' := by
  refine ⟨by rw [h4]; exact hs.1, fun i hi => ?_⟩
  rw [h4] at hi
  obtain ⟨s1, s2⟩ := hs.2 i hi
  have hx : 200 ≤ qsx i := by unfold qsx; omega
  refine ⟨qRs_told (qsn_told hx h 0 (Or.inl rfl)) (fun k k1 k2 => qsn_told hx h k (Or.inr (Or.inl ⟨k1, k2⟩))) (fun k k1 => qsn_told hx h k (Or.inr (Or.inr k1))) s1, qSi_told hx h0 h05 h1 h hr s2⟩
/-- told cells above the oaks: the Town is as the new row has it -/
theorem qTo_told {M M' : Nat → Nat → Int} {A A' : Nat → Int} (hM : ∀ a, 21 ≤ a → a ≤ 146 → M' a = M a) (h0 : A' 0 = A 0) (h1 : A 1 ≤ A' 1) (h4 : A' 4 = A 4) (hr : ∀ k, 7 ≤ k → k < 131 → A' k = A k) (h : ∀ k, 200 ≤ k → A' k = A k) (hw : qTw M' 10 A') (hi : qIn A') (ht : qTo M 10 A) : qTo M' 10 A' := by
  refine ⟨hw, qRs_x (fun a x y => hM a x (by omega)) (qRs_told h0 hr (fun k hk => h k (by omega)) ht.2.1), qSp_x (fun a x y => hM a (by omega) (by omega)) (qSp_told (by omega) ht.2.2.2.1.2 h1 h4 h (fun o y ho hy => ?_) ht.2.2.1), hi⟩
  have h5 := ht.2.2.2.1.2
  rw [hr _ (by omega) (by omega)]
