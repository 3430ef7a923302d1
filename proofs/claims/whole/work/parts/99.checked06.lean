/-! the check holds, method by method -/
theorem zok_M_price_0 : zckr 318 0 32 = true := by decide +kernel
theorem zcm_M_price : zcm 318 := by
  intro k
  rcases Nat.lt_or_ge k 32 with q0 | q0
  · exact zckr_at _ zok_M_price_0 k (by omega) (by omega)
  exact zcm_out (n := 2) (Nat.le_of_ble_eq_true rfl) (by omega)
theorem zok_M_owed_0 : zckr 319 0 48 = true := by decide +kernel
theorem zok_M_owed_48 : zckr 319 48 16 = true := by decide +kernel
theorem zcm_M_owed : zcm 319 := by
  intro k
  rcases Nat.lt_or_ge k 48 with q0 | q0
  · exact zckr_at _ zok_M_owed_0 k (by omega) (by omega)
  rcases Nat.lt_or_ge k 64 with q48 | q48
  · exact zckr_at _ zok_M_owed_48 k (by omega) (by omega)
  exact zcm_out (n := 4) (Nat.le_of_ble_eq_true rfl) (by omega)
theorem zok_M_cheapest_0 : zckr 320 0 48 = true := by decide +kernel
theorem zok_M_cheapest_48 : zckr 320 48 32 = true := by decide +kernel
theorem zcm_M_cheapest : zcm 320 := by
  intro k
  rcases Nat.lt_or_ge k 48 with q0 | q0
  · exact zckr_at _ zok_M_cheapest_0 k (by omega) (by omega)
  rcases Nat.lt_or_ge k 80 with q48 | q48
  · exact zckr_at _ zok_M_cheapest_48 k (by omega) (by omega)
  exact zcm_out (n := 5) (Nat.le_of_ble_eq_true rfl) (by omega)
theorem zok_M_digitOf_0 : zckr 321 0 32 = true := by decide +kernel
theorem zcm_M_digitOf : zcm 321 := by
  intro k
  rcases Nat.lt_or_ge k 32 with q0 | q0
  · exact zckr_at _ zok_M_digitOf_0 k (by omega) (by omega)
  exact zcm_out (n := 2) (Nat.le_of_ble_eq_true rfl) (by omega)
theorem zok_M_isThere_0 : zckr 322 0 48 = true := by decide +kernel
theorem zcm_M_isThere : zcm 322 := by
  intro k
  rcases Nat.lt_or_ge k 48 with q0 | q0
  · exact zckr_at _ zok_M_isThere_0 k (by omega) (by omega)
  exact zcm_out (n := 3) (Nat.le_of_ble_eq_true rfl) (by omega)
theorem zok_M_priceOf_0 : zckr 323 0 32 = true := by decide +kernel
theorem zcm_M_priceOf : zcm 323 := by
  intro k
  rcases Nat.lt_or_ge k 32 with q0 | q0
  · exact zckr_at _ zok_M_priceOf_0 k (by omega) (by omega)
  exact zcm_out (n := 2) (Nat.le_of_ble_eq_true rfl) (by omega)
theorem zok_M_said_0 : zckr 324 0 48 = true := by decide +kernel
theorem zok_M_said_48 : zckr 324 48 32 = true := by decide +kernel
theorem zcm_M_said : zcm 324 := by
  intro k
  rcases Nat.lt_or_ge k 48 with q0 | q0
  · exact zckr_at _ zok_M_said_0 k (by omega) (by omega)
  rcases Nat.lt_or_ge k 80 with q48 | q48
  · exact zckr_at _ zok_M_said_48 k (by omega) (by omega)
  exact zcm_out (n := 5) (Nat.le_of_ble_eq_true rfl) (by omega)
theorem zok_M_whose_0 : zckr 325 0 48 = true := by decide +kernel
theorem zok_M_whose_48 : zckr 325 48 16 = true := by decide +kernel
theorem zcm_M_whose : zcm 325 := by
  intro k
  rcases Nat.lt_or_ge k 48 with q0 | q0
  · exact zckr_at _ zok_M_whose_0 k (by omega) (by omega)
  rcases Nat.lt_or_ge k 64 with q48 | q48
  · exact zckr_at _ zok_M_whose_48 k (by omega) (by omega)
  exact zcm_out (n := 4) (Nat.le_of_ble_eq_true rfl) (by omega)
theorem zok_M_image_0 : zckr 326 0 16 = true := by decide +kernel
theorem zcm_M_image : zcm 326 := by
  intro k
  rcases Nat.lt_or_ge k 16 with q0 | q0
  · exact zckr_at _ zok_M_image_0 k (by omega) (by omega)
  exact zcm_out (n := 1) (Nat.le_of_ble_eq_true rfl) (by omega)
theorem zok_M_back_0 : zckr 327 0 16 = true := by decide +kernel
theorem zcm_M_back : zcm 327 := by
  intro k
  rcases Nat.lt_or_ge k 16 with q0 | q0
  · exact zckr_at _ zok_M_back_0 k (by omega) (by omega)
  exact zcm_out (n := 1) (Nat.le_of_ble_eq_true rfl) (by omega)
theorem zok_M_about_0 : zckr 328 0 32 = true := by decide +kernel
theorem zcm_M_about : zcm 328 := by
  intro k
  rcases Nat.lt_or_ge k 32 with q0 | q0
  · exact zckr_at _ zok_M_about_0 k (by omega) (by omega)
  exact zcm_out (n := 2) (Nat.le_of_ble_eq_true rfl) (by omega)
