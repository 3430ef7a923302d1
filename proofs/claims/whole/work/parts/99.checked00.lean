/-! the check holds, method by method -/
theorem zok_Law_law_0 : zckr 0 0 48 = true := by decide +kernel
theorem zok_Law_law_48 : zckr 0 48 48 = true := by decide +kernel
theorem zok_Law_law_96 : zckr 0 96 48 = true := by decide +kernel
theorem zok_Law_law_144 : zckr 0 144 48 = true := by decide +kernel
theorem zok_Law_law_192 : zckr 0 192 48 = true := by decide +kernel
theorem zok_Law_law_240 : zckr 0 240 48 = true := by decide +kernel
theorem zok_Law_law_288 : zckr 0 288 48 = true := by decide +kernel
theorem zok_Law_law_336 : zckr 0 336 48 = true := by decide +kernel
theorem zok_Law_law_384 : zckr 0 384 48 = true := by decide +kernel
theorem zok_Law_law_432 : zckr 0 432 48 = true := by decide +kernel
theorem zok_Law_law_480 : zckr 0 480 48 = true := by decide +kernel
theorem zok_Law_law_528 : zckr 0 528 48 = true := by decide +kernel
theorem zok_Law_law_576 : zckr 0 576 48 = true := by decide +kernel
theorem zok_Law_law_624 : zckr 0 624 48 = true := by decide +kernel
theorem zok_Law_law_672 : zckr 0 672 48 = true := by decide +kernel
theorem zok_Law_law_720 : zckr 0 720 48 = true := by decide +kernel
theorem zok_Law_law_768 : zckr 0 768 48 = true := by decide +kernel
theorem zok_Law_law_816 : zckr 0 816 48 = true := by decide +kernel
theorem zok_Law_law_864 : zckr 0 864 48 = true := by decide +kernel
theorem zok_Law_law_912 : zckr 0 912 48 = true := by decide +kernel
theorem zok_Law_law_960 : zckr 0 960 48 = true := by decide +kernel
theorem zok_Law_law_1008 : zckr 0 1008 48 = true := by decide +kernel
theorem zok_Law_law_1056 : zckr 0 1056 48 = true := by decide +kernel
theorem zok_Law_law_1104 : zckr 0 1104 48 = true := by decide +kernel
theorem zok_Law_law_1152 : zckr 0 1152 48 = true := by decide +kernel
theorem zok_Law_law_1200 : zckr 0 1200 32 = true := by decide +kernel
theorem zcm_Law_law : zcm 0 := by
  intro k
  rcases Nat.lt_or_ge k 48 with q0 | q0
  · exact zckr_at _ zok_Law_law_0 k (by omega) (by omega)
  rcases Nat.lt_or_ge k 96 with q48 | q48
  · exact zckr_at _ zok_Law_law_48 k (by omega) (by omega)
  rcases Nat.lt_or_ge k 144 with q96 | q96
  · exact zckr_at _ zok_Law_law_96 k (by omega) (by omega)
  rcases Nat.lt_or_ge k 192 with q144 | q144
  · exact zckr_at _ zok_Law_law_144 k (by omega) (by omega)
  rcases Nat.lt_or_ge k 240 with q192 | q192
  · exact zckr_at _ zok_Law_law_192 k (by omega) (by omega)
  rcases Nat.lt_or_ge k 288 with q240 | q240
  · exact zckr_at _ zok_Law_law_240 k (by omega) (by omega)
  rcases Nat.lt_or_ge k 336 with q288 | q288
  · exact zckr_at _ zok_Law_law_288 k (by omega) (by omega)
  rcases Nat.lt_or_ge k 384 with q336 | q336
  · exact zckr_at _ zok_Law_law_336 k (by omega) (by omega)
  rcases Nat.lt_or_ge k 432 with q384 | q384
  · exact zckr_at _ zok_Law_law_384 k (by omega) (by omega)
  rcases Nat.lt_or_ge k 480 with q432 | q432
  · exact zckr_at _ zok_Law_law_432 k (by omega) (by omega)
  rcases Nat.lt_or_ge k 528 with q480 | q480
  · exact zckr_at _ zok_Law_law_480 k (by omega) (by omega)
  rcases Nat.lt_or_ge k 576 with q528 | q528
  · exact zckr_at _ zok_Law_law_528 k (by omega) (by omega)
  rcases Nat.lt_or_ge k 624 with q576 | q576
  · exact zckr_at _ zok_Law_law_576 k (by omega) (by omega)
  rcases Nat.lt_or_ge k 672 with q624 | q624
  · exact zckr_at _ zok_Law_law_624 k (by omega) (by omega)
  rcases Nat.lt_or_ge k 720 with q672 | q672
  · exact zckr_at _ zok_Law_law_672 k (by omega) (by omega)
  rcases Nat.lt_or_ge k 768 with q720 | q720
  · exact zckr_at _ zok_Law_law_720 k (by omega) (by omega)
  rcases Nat.lt_or_ge k 816 with q768 | q768
  · exact zckr_at _ zok_Law_law_768 k (by omega) (by omega)
  rcases Nat.lt_or_ge k 864 with q816 | q816
  · exact zckr_at _ zok_Law_law_816 k (by omega) (by omega)
  rcases Nat.lt_or_ge k 912 with q864 | q864
  · exact zckr_at _ zok_Law_law_864 k (by omega) (by omega)
  rcases Nat.lt_or_ge k 960 with q912 | q912
  · exact zckr_at _ zok_Law_law_912 k (by omega) (by omega)
  rcases Nat.lt_or_ge k 1008 with q960 | q960
  · exact zckr_at _ zok_Law_law_960 k (by omega) (by omega)
  rcases Nat.lt_or_ge k 1056 with q1008 | q1008
  · exact zckr_at _ zok_Law_law_1008 k (by omega) (by omega)
  rcases Nat.lt_or_ge k 1104 with q1056 | q1056
  · exact zckr_at _ zok_Law_law_1056 k (by omega) (by omega)
  rcases Nat.lt_or_ge k 1152 with q1104 | q1104
  · exact zckr_at _ zok_Law_law_1104 k (by omega) (by omega)
  rcases Nat.lt_or_ge k 1200 with q1152 | q1152
  · exact zckr_at _ zok_Law_law_1152 k (by omega) (by omega)
  rcases Nat.lt_or_ge k 1232 with q1200 | q1200
  · exact zckr_at _ zok_Law_law_1200 k (by omega) (by omega)
  exact zcm_out (n := 77) (Nat.le_of_ble_eq_true rfl) (by omega)
