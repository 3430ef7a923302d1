/-! A TEXT: both sides of the call -/
section QF
variable {S : Nat → Nat × Nat} {R : Nat → Nat → Nat} {M M' M0 M1 M2 : Nat → Nat → Int} {n s d t : Nat} {B : Nat → Nat} {len : Nat} {W : Nat → qWt}
/-- the class's call, with what the reader gives -/
theorem kx_text1 (hF : qFx S R) (ht : M 10 14 = t) (h4 : t < 4) (h9 : M 9 9 = len) {M' : Nat → Nat → Int} (h : zcal zPP 99 112 [zA 295, zA 304, zI len] (n, s, S, R, M) = some (zA 0, (n, s, S, R, M'))) :
    zcal zPP 100 26 [zA 9] (n, s, S, R, M) = some (zI (-1), (n, s, S, R, zup (zup (zup M' 9 9 0) 9 10 (M' 295 12)) 9 11 (M' 295 13))) := by
  rw [c_X_text]
  simp only [qff hF, if_true, ht, h9]
  rw [c_X_hasRoom, if_neg (by omega), if_pos (by omega)]
  simp only [zbI, qff hF, if_true, h9]
  rw [if_neg (by decide), h]
  simp only [zbA, qff hF, if_true, zup_rw (show (295 : Nat) ≠ 9 by decide)]
theorem kx_text0 (hF : qFx S R) (ht : M 10 14 = 4) : zcal zPP 100 26 [zA 9] (n, s, S, R, M) = some (zI (-1), (n, s, S, R, M)) := by
  rw [c_X_text]
  simp only [qff hF, if_true, ht]
  rw [c_X_hasRoom, if_neg (by decide), if_neg (by decide)]
  rfl
theorem km_text0 (hF : qFx S R) (ht : M 306 2 = 4) : zcal zPP 100 189 [zA 305] (n, s, S, R, M) = some (zI (-1), (n, s, S, R, M)) := by
  have p2 : 0 ≤ (2 : Int) ∧ (2 : Int) < ((4880 : Nat) : Int) := by omega
  have e2 : M 306 (2 : Int).toNat = 4 := ht
  rw [c_M_text]
  simp only [qff hF, if_true, true_or, true_and, if_pos p2, e2]
theorem km_text1 (hF : qFx S R) (ht : M 306 2 = t) (h4 : t < 4) {f : Nat} (hf : f ≠ 0) {M' : Nat → Nat → Int} (h : zcal zPP 99 190 [zA 305] (n, s, S, R, M) = some (zI f, (n, s, S, R, M'))) :
    zcal zPP 100 189 [zA 305] (n, s, S, R, M) = some (zI (-1), (n, s, S, R, zup (zup (zup M' 305 5 f) 305 6 (M' 305 8)) 305 4 0)) := by
  have p2 : 0 ≤ (2 : Int) ∧ (2 : Int) < ((4880 : Nat) : Int) := by omega
  have e2 : M 306 (2 : Int).toNat = t := ht
  have n4 : ¬ (t : Int) = 4 := by omega
  have nf : ¬ (f : Int) = 0 := by omega
  rw [c_M_text]
  simp only [qff hF, if_true, true_or, true_and, if_pos p2, e2, if_neg n4]
  rw [h]
  have e5 : zup M' 305 5 (f : Int) 305 5 = f := zup_at
  have e8 : zup M' 305 5 (f : Int) 305 8 = M' 305 8 := zup_ne (by decide)
  have e55 : ∀ v : Int, zup (zup (zup M' 305 5 (f : Int)) 305 6 v) 305 4 0 305 5 = f := fun v => by rw [zup_ne (by decide), zup_ne (by decide), zup_at]
  simp only [zbI, qff hF, if_true, e5, if_neg nf, e8, e55]
theorem km_text2 (hF : qFx S R) (ht : M 306 2 = t) (h4 : t < 4) {M' : Nat → Nat → Int} (ht' : M' 306 2 = t) (h : zcal zPP 99 190 [zA 305] (n, s, S, R, M) = some (zI 0, (n, s, S, R, M'))) :
    zcal zPP 100 189 [zA 305] (n, s, S, R, M) = some (zI t, (n, s, S, R, zup (zup (zup (zup M' 305 5 0) 305 6 (-1)) 305 4 0) 306 2 ((t + 1 : Nat) : Int))) := by
  have p2 : 0 ≤ (2 : Int) ∧ (2 : Int) < ((4880 : Nat) : Int) := by omega
  have e2 : M 306 (2 : Int).toNat = t := ht
  have n4 : ¬ (t : Int) = 4 := by omega
  rw [c_M_text]
  simp only [qff hF, if_true, true_or, true_and, if_pos p2, e2, if_neg n4]
  rw [h]
  have e5 : zup M' 305 5 (0 : Int) 305 5 = 0 := zup_at
  have e55 : zup (zup (zup M' 305 5 (0 : Int)) 305 6 (-1)) 305 4 0 305 5 = 0 := by rw [zup_ne (by decide), zup_ne (by decide), zup_at]
  have e62 : zup (zup (zup M' 305 5 (0 : Int)) 305 6 (-1)) 305 4 0 306 (2 : Int).toNat = t := by rw [zup_rw (by decide), zup_rw (by decide), zup_rw (by decide)]; exact ht'
  have ez : zw32 (((t + 1 : Nat) : Int) - 1) = (t : Int) := qwq9 (by omega)
  simp only [zbI, qff hF, if_true, true_or, true_and, if_pos p2, e5, e55, e62, qw1 (k := t) (by omega), zup_at, ez]
  rfl
theorem qb_text_room (hw : qWd n S R M W) (h4 : M 306 2 = 4) : qBo 26 189 [] n s S R M := by
  have hT := hw.2.1.1
  exact qBo_same hw (kx_text0 hw.1.2.1 (by rw [hT.1.2.2.1]; exact h4)) (km_text0 hw.1.2.1 h4)
end QF
