/-! the check holds, method by method -/
theorem zok_Integer_bitCount_0 : zckr 1 0 48 = true := by decide +kernel
theorem zcm_Integer_bitCount : zcm 1 := by
  intro k
  rcases Nat.lt_or_ge k 48 with q0 | q0
  · exact zckr_at _ zok_Integer_bitCount_0 k (by omega) (by omega)
  exact zcm_out (n := 3) (Nat.le_of_ble_eq_true rfl) (by omega)
theorem zok_String_charAt_0 : zckr 2 0 16 = true := by decide +kernel
theorem zcm_String_charAt : zcm 2 := by
  intro k
  rcases Nat.lt_or_ge k 16 with q0 | q0
  · exact zckr_at _ zok_String_charAt_0 k (by omega) (by omega)
  exact zcm_out (n := 1) (Nat.le_of_ble_eq_true rfl) (by omega)
theorem zok_String_isLatin1_0 : zckr 3 0 16 = true := by decide +kernel
theorem zcm_String_isLatin1 : zcm 3 := by
  intro k
  rcases Nat.lt_or_ge k 16 with q0 | q0
  · exact zckr_at _ zok_String_isLatin1_0 k (by omega) (by omega)
  exact zcm_out (n := 1) (Nat.le_of_ble_eq_true rfl) (by omega)
theorem zok_String_checkIndex_0 : zckr 4 0 16 = true := by decide +kernel
theorem zcm_String_checkIndex : zcm 4 := by
  intro k
  rcases Nat.lt_or_ge k 16 with q0 | q0
  · exact zckr_at _ zok_String_checkIndex_0 k (by omega) (by omega)
  exact zcm_out (n := 1) (Nat.le_of_ble_eq_true rfl) (by omega)
theorem zok_String_indexOf_0 : zckr 5 0 16 = true := by decide +kernel
theorem zcm_String_indexOf : zcm 5 := by
  intro k
  rcases Nat.lt_or_ge k 16 with q0 | q0
  · exact zckr_at _ zok_String_indexOf_0 k (by omega) (by omega)
  exact zcm_out (n := 1) (Nat.le_of_ble_eq_true rfl) (by omega)
theorem zok_String_indexOf2_0 : zckr 6 0 32 = true := by decide +kernel
theorem zcm_String_indexOf2 : zcm 6 := by
  intro k
  rcases Nat.lt_or_ge k 32 with q0 | q0
  · exact zckr_at _ zok_String_indexOf2_0 k (by omega) (by omega)
  exact zcm_out (n := 2) (Nat.le_of_ble_eq_true rfl) (by omega)
theorem zok_String_length_0 : zckr 7 0 16 = true := by decide +kernel
theorem zcm_String_length : zcm 7 := by
  intro k
  rcases Nat.lt_or_ge k 16 with q0 | q0
  · exact zckr_at _ zok_String_length_0 k (by omega) (by omega)
  exact zcm_out (n := 1) (Nat.le_of_ble_eq_true rfl) (by omega)
theorem zok_String_coder_0 : zckr 8 0 16 = true := by decide +kernel
theorem zcm_String_coder : zcm 8 := by
  intro k
  rcases Nat.lt_or_ge k 16 with q0 | q0
  · exact zckr_at _ zok_String_coder_0 k (by omega) (by omega)
  exact zcm_out (n := 1) (Nat.le_of_ble_eq_true rfl) (by omega)
theorem zok_StringLatin1_charAt_0 : zckr 9 0 16 = true := by decide +kernel
theorem zcm_StringLatin1_charAt : zcm 9 := by
  intro k
  rcases Nat.lt_or_ge k 16 with q0 | q0
  · exact zckr_at _ zok_StringLatin1_charAt_0 k (by omega) (by omega)
  exact zcm_out (n := 1) (Nat.le_of_ble_eq_true rfl) (by omega)
theorem zok_StringLatin1_indexOf_0 : zckr 10 0 32 = true := by decide +kernel
theorem zcm_StringLatin1_indexOf : zcm 10 := by
  intro k
  rcases Nat.lt_or_ge k 32 with q0 | q0
  · exact zckr_at _ zok_StringLatin1_indexOf_0 k (by omega) (by omega)
  exact zcm_out (n := 2) (Nat.le_of_ble_eq_true rfl) (by omega)
theorem zok_StringLatin1_canEncode_0 : zckr 11 0 16 = true := by decide +kernel
theorem zcm_StringLatin1_canEncode : zcm 11 := by
  intro k
  rcases Nat.lt_or_ge k 16 with q0 | q0
  · exact zckr_at _ zok_StringLatin1_canEncode_0 k (by omega) (by omega)
  exact zcm_out (n := 1) (Nat.le_of_ble_eq_true rfl) (by omega)
theorem zok_StringLatin1_indexOfChar_0 : zckr 12 0 32 = true := by decide +kernel
theorem zcm_StringLatin1_indexOfChar : zcm 12 := by
  intro k
  rcases Nat.lt_or_ge k 32 with q0 | q0
  · exact zckr_at _ zok_StringLatin1_indexOfChar_0 k (by omega) (by omega)
  exact zcm_out (n := 2) (Nat.le_of_ble_eq_true rfl) (by omega)
theorem zok_Arrays_copyOf_0 : zckr 13 0 32 = true := by decide +kernel
theorem zcm_Arrays_copyOf : zcm 13 := by
  intro k
  rcases Nat.lt_or_ge k 32 with q0 | q0
  · exact zckr_at _ zok_Arrays_copyOf_0 k (by omega) (by omega)
  exact zcm_out (n := 2) (Nat.le_of_ble_eq_true rfl) (by omega)
theorem zok_Preconditions_checkIndex_0 : zckr 14 0 16 = true := by decide +kernel
theorem zcm_Preconditions_checkIndex : zcm 14 := by
  intro k
  rcases Nat.lt_or_ge k 16 with q0 | q0
  · exact zckr_at _ zok_Preconditions_checkIndex_0 k (by omega) (by omega)
  exact zcm_out (n := 1) (Nat.le_of_ble_eq_true rfl) (by omega)
theorem zok_X_init_0 : zckr 15 0 48 = true := by decide +kernel
theorem zok_X_init_48 : zckr 15 48 16 = true := by decide +kernel
theorem zcm_X_init : zcm 15 := by
  intro k
  rcases Nat.lt_or_ge k 48 with q0 | q0
  · exact zckr_at _ zok_X_init_0 k (by omega) (by omega)
  rcases Nat.lt_or_ge k 64 with q48 | q48
  · exact zckr_at _ zok_X_init_48 k (by omega) (by omega)
  exact zcm_out (n := 4) (Nat.le_of_ble_eq_true rfl) (by omega)
theorem zok_X_oak_0 : zckr 16 0 32 = true := by decide +kernel
theorem zcm_X_oak : zcm 16 := by
  intro k
  rcases Nat.lt_or_ge k 32 with q0 | q0
  · exact zckr_at _ zok_X_oak_0 k (by omega) (by omega)
  exact zcm_out (n := 2) (Nat.le_of_ble_eq_true rfl) (by omega)
theorem zok_X_hasRoom_0 : zckr 17 0 16 = true := by decide +kernel
theorem zcm_X_hasRoom : zcm 17 := by
  intro k
  rcases Nat.lt_or_ge k 16 with q0 | q0
  · exact zckr_at _ zok_X_hasRoom_0 k (by omega) (by omega)
  exact zcm_out (n := 1) (Nat.le_of_ble_eq_true rfl) (by omega)
theorem zok_X_year_0 : zckr 18 0 16 = true := by decide +kernel
theorem zcm_X_year : zcm 18 := by
  intro k
  rcases Nat.lt_or_ge k 16 with q0 | q0
  · exact zckr_at _ zok_X_year_0 k (by omega) (by omega)
  exact zcm_out (n := 1) (Nat.le_of_ble_eq_true rfl) (by omega)
theorem zok_X_isYear_0 : zckr 19 0 16 = true := by decide +kernel
theorem zcm_X_isYear : zcm 19 := by
  intro k
  rcases Nat.lt_or_ge k 16 with q0 | q0
  · exact zckr_at _ zok_X_isYear_0 k (by omega) (by omega)
  exact zcm_out (n := 1) (Nat.le_of_ble_eq_true rfl) (by omega)
theorem zok_X_isKind_0 : zckr 20 0 16 = true := by decide +kernel
theorem zcm_X_isKind : zcm 20 := by
  intro k
  rcases Nat.lt_or_ge k 16 with q0 | q0
  · exact zckr_at _ zok_X_isKind_0 k (by omega) (by omega)
  exact zcm_out (n := 1) (Nat.le_of_ble_eq_true rfl) (by omega)
theorem zok_X_person_0 : zckr 21 0 32 = true := by decide +kernel
theorem zcm_X_person : zcm 21 := by
  intro k
  rcases Nat.lt_or_ge k 32 with q0 | q0
  · exact zckr_at _ zok_X_person_0 k (by omega) (by omega)
  exact zcm_out (n := 2) (Nat.le_of_ble_eq_true rfl) (by omega)
theorem zok_X_isAge_0 : zckr 22 0 16 = true := by decide +kernel
theorem zcm_X_isAge : zcm 22 := by
  intro k
  rcases Nat.lt_or_ge k 16 with q0 | q0
  · exact zckr_at _ zok_X_isAge_0 k (by omega) (by omega)
  exact zcm_out (n := 1) (Nat.le_of_ble_eq_true rfl) (by omega)
theorem zok_X_feed_0 : zckr 23 0 32 = true := by decide +kernel
theorem zcm_X_feed : zcm 23 := by
  intro k
  rcases Nat.lt_or_ge k 32 with q0 | q0
  · exact zckr_at _ zok_X_feed_0 k (by omega) (by omega)
  exact zcm_out (n := 2) (Nat.le_of_ble_eq_true rfl) (by omega)
theorem zok_X_putOnTape_0 : zckr 24 0 32 = true := by decide +kernel
theorem zcm_X_putOnTape : zcm 24 := by
  intro k
  rcases Nat.lt_or_ge k 32 with q0 | q0
  · exact zckr_at _ zok_X_putOnTape_0 k (by omega) (by omega)
  exact zcm_out (n := 2) (Nat.le_of_ble_eq_true rfl) (by omega)
theorem zok_X_end_0 : zckr 25 0 16 = true := by decide +kernel
theorem zcm_X_end : zcm 25 := by
  intro k
  rcases Nat.lt_or_ge k 16 with q0 | q0
  · exact zckr_at _ zok_X_end_0 k (by omega) (by omega)
  exact zcm_out (n := 1) (Nat.le_of_ble_eq_true rfl) (by omega)
theorem zok_X_text_0 : zckr 26 0 48 = true := by decide +kernel
theorem zok_X_text_48 : zckr 26 48 16 = true := by decide +kernel
theorem zcm_X_text : zcm 26 := by
  intro k
  rcases Nat.lt_or_ge k 48 with q0 | q0
  · exact zckr_at _ zok_X_text_0 k (by omega) (by omega)
  rcases Nat.lt_or_ge k 64 with q48 | q48
  · exact zckr_at _ zok_X_text_48 k (by omega) (by omega)
  exact zcm_out (n := 4) (Nat.le_of_ble_eq_true rfl) (by omega)
theorem zok_X_fault_0 : zckr 27 0 16 = true := by decide +kernel
theorem zcm_X_fault : zcm 27 := by
  intro k
  rcases Nat.lt_or_ge k 16 with q0 | q0
  · exact zckr_at _ zok_X_fault_0 k (by omega) (by omega)
  exact zcm_out (n := 1) (Nat.le_of_ble_eq_true rfl) (by omega)
theorem zok_X_by_0 : zckr 28 0 16 = true := by decide +kernel
theorem zcm_X_by : zcm 28 := by
  intro k
  rcases Nat.lt_or_ge k 16 with q0 | q0
  · exact zckr_at _ zok_X_by_0 k (by omega) (by omega)
  exact zcm_out (n := 1) (Nat.le_of_ble_eq_true rfl) (by omega)
theorem zok_X_lend_0 : zckr 29 0 32 = true := by decide +kernel
theorem zcm_X_lend : zcm 29 := by
  intro k
  rcases Nat.lt_or_ge k 32 with q0 | q0
  · exact zckr_at _ zok_X_lend_0 k (by omega) (by omega)
  exact zcm_out (n := 2) (Nat.le_of_ble_eq_true rfl) (by omega)
theorem zok_X_canLend_0 : zckr 30 0 48 = true := by decide +kernel
theorem zok_X_canLend_48 : zckr 30 48 16 = true := by decide +kernel
theorem zcm_X_canLend : zcm 30 := by
  intro k
  rcases Nat.lt_or_ge k 48 with q0 | q0
  · exact zckr_at _ zok_X_canLend_0 k (by omega) (by omega)
  rcases Nat.lt_or_ge k 64 with q48 | q48
  · exact zckr_at _ zok_X_canLend_48 k (by omega) (by omega)
  exact zcm_out (n := 4) (Nat.le_of_ble_eq_true rfl) (by omega)
theorem zok_X_returned_0 : zckr 31 0 32 = true := by decide +kernel
theorem zcm_X_returned : zcm 31 := by
  intro k
  rcases Nat.lt_or_ge k 32 with q0 | q0
  · exact zckr_at _ zok_X_returned_0 k (by omega) (by omega)
  exact zcm_out (n := 2) (Nat.le_of_ble_eq_true rfl) (by omega)
theorem zok_X_pass_0 : zckr 32 0 32 = true := by decide +kernel
theorem zcm_X_pass : zcm 32 := by
  intro k
  rcases Nat.lt_or_ge k 32 with q0 | q0
  · exact zckr_at _ zok_X_pass_0 k (by omega) (by omega)
  exact zcm_out (n := 2) (Nat.le_of_ble_eq_true rfl) (by omega)
theorem zok_X_canPass_0 : zckr 33 0 48 = true := by decide +kernel
theorem zcm_X_canPass : zcm 33 := by
  intro k
  rcases Nat.lt_or_ge k 48 with q0 | q0
  · exact zckr_at _ zok_X_canPass_0 k (by omega) (by omega)
  exact zcm_out (n := 3) (Nat.le_of_ble_eq_true rfl) (by omega)
theorem zok_X_day_0 : zckr 34 0 32 = true := by decide +kernel
theorem zcm_X_day : zcm 34 := by
  intro k
  rcases Nat.lt_or_ge k 32 with q0 | q0
  · exact zckr_at _ zok_X_day_0 k (by omega) (by omega)
  exact zcm_out (n := 2) (Nat.le_of_ble_eq_true rfl) (by omega)
theorem zok_X_daysAhead_0 : zckr 35 0 16 = true := by decide +kernel
theorem zcm_X_daysAhead : zcm 35 := by
  intro k
  rcases Nat.lt_or_ge k 16 with q0 | q0
  · exact zckr_at _ zok_X_daysAhead_0 k (by omega) (by omega)
  exact zcm_out (n := 1) (Nat.le_of_ble_eq_true rfl) (by omega)
theorem zok_X_daysPass_0 : zckr 36 0 48 = true := by decide +kernel
theorem zcm_X_daysPass : zcm 36 := by
  intro k
  rcases Nat.lt_or_ge k 48 with q0 | q0
  · exact zckr_at _ zok_X_daysPass_0 k (by omega) (by omega)
  exact zcm_out (n := 3) (Nat.le_of_ble_eq_true rfl) (by omega)
theorem zok_X_midsummer_0 : zckr 37 0 48 = true := by decide +kernel
theorem zok_X_midsummer_48 : zckr 37 48 16 = true := by decide +kernel
theorem zcm_X_midsummer : zcm 37 := by
  intro k
  rcases Nat.lt_or_ge k 48 with q0 | q0
  · exact zckr_at _ zok_X_midsummer_0 k (by omega) (by omega)
  rcases Nat.lt_or_ge k 64 with q48 | q48
  · exact zckr_at _ zok_X_midsummer_48 k (by omega) (by omega)
  exact zcm_out (n := 4) (Nat.le_of_ble_eq_true rfl) (by omega)
theorem zok_X_played_0 : zckr 38 0 48 = true := by decide +kernel
theorem zok_X_played_48 : zckr 38 48 48 = true := by decide +kernel
theorem zok_X_played_96 : zckr 38 96 32 = true := by decide +kernel
theorem zcm_X_played : zcm 38 := by
  intro k
  rcases Nat.lt_or_ge k 48 with q0 | q0
  · exact zckr_at _ zok_X_played_0 k (by omega) (by omega)
  rcases Nat.lt_or_ge k 96 with q48 | q48
  · exact zckr_at _ zok_X_played_48 k (by omega) (by omega)
  rcases Nat.lt_or_ge k 128 with q96 | q96
  · exact zckr_at _ zok_X_played_96 k (by omega) (by omega)
  exact zcm_out (n := 8) (Nat.le_of_ble_eq_true rfl) (by omega)
theorem zok_X_winters_0 : zckr 39 0 48 = true := by decide +kernel
theorem zok_X_winters_48 : zckr 39 48 16 = true := by decide +kernel
theorem zcm_X_winters : zcm 39 := by
  intro k
  rcases Nat.lt_or_ge k 48 with q0 | q0
  · exact zckr_at _ zok_X_winters_0 k (by omega) (by omega)
  rcases Nat.lt_or_ge k 64 with q48 | q48
  · exact zckr_at _ zok_X_winters_48 k (by omega) (by omega)
  exact zcm_out (n := 4) (Nat.le_of_ble_eq_true rfl) (by omega)
theorem zok_X_winterRing_0 : zckr 40 0 48 = true := by decide +kernel
theorem zok_X_winterRing_48 : zckr 40 48 48 = true := by decide +kernel
theorem zcm_X_winterRing : zcm 40 := by
  intro k
  rcases Nat.lt_or_ge k 48 with q0 | q0
  · exact zckr_at _ zok_X_winterRing_0 k (by omega) (by omega)
  rcases Nat.lt_or_ge k 96 with q48 | q48
  · exact zckr_at _ zok_X_winterRing_48 k (by omega) (by omega)
  exact zcm_out (n := 6) (Nat.le_of_ble_eq_true rfl) (by omega)
theorem zok_X_undo_0 : zckr 41 0 16 = true := by decide +kernel
theorem zcm_X_undo : zcm 41 := by
  intro k
  rcases Nat.lt_or_ge k 16 with q0 | q0
  · exact zckr_at _ zok_X_undo_0 k (by omega) (by omega)
  exact zcm_out (n := 1) (Nat.le_of_ble_eq_true rfl) (by omega)
theorem zok_X_of_0 : zckr 42 0 48 = true := by decide +kernel
theorem zcm_X_of : zcm 42 := by
  intro k
  rcases Nat.lt_or_ge k 48 with q0 | q0
  · exact zckr_at _ zok_X_of_0 k (by omega) (by omega)
  exact zcm_out (n := 3) (Nat.le_of_ble_eq_true rfl) (by omega)
theorem zok_X_ageOf_0 : zckr 43 0 48 = true := by decide +kernel
theorem zok_X_ageOf_48 : zckr 43 48 16 = true := by decide +kernel
theorem zcm_X_ageOf : zcm 43 := by
  intro k
  rcases Nat.lt_or_ge k 48 with q0 | q0
  · exact zckr_at _ zok_X_ageOf_0 k (by omega) (by omega)
  rcases Nat.lt_or_ge k 64 with q48 | q48
  · exact zckr_at _ zok_X_ageOf_48 k (by omega) (by omega)
  exact zcm_out (n := 4) (Nat.le_of_ble_eq_true rfl) (by omega)
theorem zok_X_ofOak_0 : zckr 44 0 48 = true := by decide +kernel
theorem zok_X_ofOak_48 : zckr 44 48 16 = true := by decide +kernel
theorem zcm_X_ofOak : zcm 44 := by
  intro k
  rcases Nat.lt_or_ge k 48 with q0 | q0
  · exact zckr_at _ zok_X_ofOak_0 k (by omega) (by omega)
  rcases Nat.lt_or_ge k 64 with q48 | q48
  · exact zckr_at _ zok_X_ofOak_48 k (by omega) (by omega)
  exact zcm_out (n := 4) (Nat.le_of_ble_eq_true rfl) (by omega)
theorem zok_X_ring_0 : zckr 45 0 32 = true := by decide +kernel
theorem zcm_X_ring : zcm 45 := by
  intro k
  rcases Nat.lt_or_ge k 32 with q0 | q0
  · exact zckr_at _ zok_X_ring_0 k (by omega) (by omega)
  exact zcm_out (n := 2) (Nat.le_of_ble_eq_true rfl) (by omega)
theorem zok_X_lends_0 : zckr 46 0 32 = true := by decide +kernel
theorem zcm_X_lends : zcm 46 := by
  intro k
  rcases Nat.lt_or_ge k 32 with q0 | q0
  · exact zckr_at _ zok_X_lends_0 k (by omega) (by omega)
  exact zcm_out (n := 2) (Nat.le_of_ble_eq_true rfl) (by omega)
theorem zok_X_pays_0 : zckr 47 0 32 = true := by decide +kernel
theorem zcm_X_pays : zcm 47 := by
  intro k
  rcases Nat.lt_or_ge k 32 with q0 | q0
  · exact zckr_at _ zok_X_pays_0 k (by omega) (by omega)
  exact zcm_out (n := 2) (Nat.le_of_ble_eq_true rfl) (by omega)
theorem zok_X_kindOf_0 : zckr 48 0 16 = true := by decide +kernel
theorem zcm_X_kindOf : zcm 48 := by
  intro k
  rcases Nat.lt_or_ge k 16 with q0 | q0
  · exact zckr_at _ zok_X_kindOf_0 k (by omega) (by omega)
  exact zcm_out (n := 1) (Nat.le_of_ble_eq_true rfl) (by omega)
theorem zok_X_is_0 : zckr 49 0 32 = true := by decide +kernel
theorem zcm_X_is : zcm 49 := by
  intro k
  rcases Nat.lt_or_ge k 32 with q0 | q0
  · exact zckr_at _ zok_X_is_0 k (by omega) (by omega)
  exact zcm_out (n := 2) (Nat.le_of_ble_eq_true rfl) (by omega)
theorem zok_X_book_0 : zckr 50 0 16 = true := by decide +kernel
theorem zcm_X_book : zcm 50 := by
  intro k
  rcases Nat.lt_or_ge k 16 with q0 | q0
  · exact zckr_at _ zok_X_book_0 k (by omega) (by omega)
  exact zcm_out (n := 1) (Nat.le_of_ble_eq_true rfl) (by omega)
theorem zok_X_foretold_0 : zckr 51 0 48 = true := by decide +kernel
theorem zok_X_foretold_48 : zckr 51 48 32 = true := by decide +kernel
theorem zcm_X_foretold : zcm 51 := by
  intro k
  rcases Nat.lt_or_ge k 48 with q0 | q0
  · exact zckr_at _ zok_X_foretold_0 k (by omega) (by omega)
  rcases Nat.lt_or_ge k 80 with q48 | q48
  · exact zckr_at _ zok_X_foretold_48 k (by omega) (by omega)
  exact zcm_out (n := 5) (Nat.le_of_ble_eq_true rfl) (by omega)
theorem zok_X_same_0 : zckr 52 0 32 = true := by decide +kernel
theorem zcm_X_same : zcm 52 := by
  intro k
  rcases Nat.lt_or_ge k 32 with q0 | q0
  · exact zckr_at _ zok_X_same_0 k (by omega) (by omega)
  exact zcm_out (n := 2) (Nat.le_of_ble_eq_true rfl) (by omega)
theorem zok_X_kin_0 : zckr 53 0 48 = true := by decide +kernel
theorem zok_X_kin_48 : zckr 53 48 16 = true := by decide +kernel
theorem zcm_X_kin : zcm 53 := by
  intro k
  rcases Nat.lt_or_ge k 48 with q0 | q0
  · exact zckr_at _ zok_X_kin_0 k (by omega) (by omega)
  rcases Nat.lt_or_ge k 64 with q48 | q48
  · exact zckr_at _ zok_X_kin_48 k (by omega) (by omega)
  exact zcm_out (n := 4) (Nat.le_of_ble_eq_true rfl) (by omega)
theorem zok_X_twins_0 : zckr 54 0 48 = true := by decide +kernel
theorem zcm_X_twins : zcm 54 := by
  intro k
  rcases Nat.lt_or_ge k 48 with q0 | q0
  · exact zckr_at _ zok_X_twins_0 k (by omega) (by omega)
  exact zcm_out (n := 3) (Nat.le_of_ble_eq_true rfl) (by omega)
theorem zok_X_earliest_0 : zckr 55 0 32 = true := by decide +kernel
theorem zcm_X_earliest : zcm 55 := by
  intro k
  rcases Nat.lt_or_ge k 32 with q0 | q0
  · exact zckr_at _ zok_X_earliest_0 k (by omega) (by omega)
  exact zcm_out (n := 2) (Nat.le_of_ble_eq_true rfl) (by omega)
theorem zok_X_newest_0 : zckr 56 0 32 = true := by decide +kernel
theorem zcm_X_newest : zcm 56 := by
  intro k
  rcases Nat.lt_or_ge k 32 with q0 | q0
  · exact zckr_at _ zok_X_newest_0 k (by omega) (by omega)
  exact zcm_out (n := 2) (Nat.le_of_ble_eq_true rfl) (by omega)
theorem zok_X_wants_0 : zckr 57 0 32 = true := by decide +kernel
theorem zcm_X_wants : zcm 57 := by
  intro k
  rcases Nat.lt_or_ge k 32 with q0 | q0
  · exact zckr_at _ zok_X_wants_0 k (by omega) (by omega)
  exact zcm_out (n := 2) (Nat.le_of_ble_eq_true rfl) (by omega)
theorem zok_X_takes_0 : zckr 58 0 32 = true := by decide +kernel
theorem zcm_X_takes : zcm 58 := by
  intro k
  rcases Nat.lt_or_ge k 32 with q0 | q0
  · exact zckr_at _ zok_X_takes_0 k (by omega) (by omega)
  exact zcm_out (n := 2) (Nat.le_of_ble_eq_true rfl) (by omega)
theorem zok_X_able_0 : zckr 59 0 16 = true := by decide +kernel
theorem zcm_X_able : zcm 59 := by
  intro k
  rcases Nat.lt_or_ge k 16 with q0 | q0
  · exact zckr_at _ zok_X_able_0 k (by omega) (by omega)
  exact zcm_out (n := 1) (Nat.le_of_ble_eq_true rfl) (by omega)
theorem zok_X_needs_0 : zckr 60 0 16 = true := by decide +kernel
theorem zcm_X_needs : zcm 60 := by
  intro k
  rcases Nat.lt_or_ge k 16 with q0 | q0
  · exact zckr_at _ zok_X_needs_0 k (by omega) (by omega)
  exact zcm_out (n := 1) (Nat.le_of_ble_eq_true rfl) (by omega)
theorem zok_X_block_0 : zckr 61 0 16 = true := by decide +kernel
theorem zcm_X_block : zcm 61 := by
  intro k
  rcases Nat.lt_or_ge k 16 with q0 | q0
  · exact zckr_at _ zok_X_block_0 k (by omega) (by omega)
  exact zcm_out (n := 1) (Nat.le_of_ble_eq_true rfl) (by omega)
theorem zok_X_plan_0 : zckr 62 0 32 = true := by decide +kernel
theorem zcm_X_plan : zcm 62 := by
  intro k
  rcases Nat.lt_or_ge k 32 with q0 | q0
  · exact zckr_at _ zok_X_plan_0 k (by omega) (by omega)
  exact zcm_out (n := 2) (Nat.le_of_ble_eq_true rfl) (by omega)
theorem zok_X_vote_0 : zckr 63 0 48 = true := by decide +kernel
theorem zok_X_vote_48 : zckr 63 48 48 = true := by decide +kernel
theorem zcm_X_vote : zcm 63 := by
  intro k
  rcases Nat.lt_or_ge k 48 with q0 | q0
  · exact zckr_at _ zok_X_vote_0 k (by omega) (by omega)
  rcases Nat.lt_or_ge k 96 with q48 | q48
  · exact zckr_at _ zok_X_vote_48 k (by omega) (by omega)
  exact zcm_out (n := 6) (Nat.le_of_ble_eq_true rfl) (by omega)
theorem zok_X_mark_0 : zckr 64 0 48 = true := by decide +kernel
theorem zcm_X_mark : zcm 64 := by
  intro k
  rcases Nat.lt_or_ge k 48 with q0 | q0
  · exact zckr_at _ zok_X_mark_0 k (by omega) (by omega)
  exact zcm_out (n := 3) (Nat.le_of_ble_eq_true rfl) (by omega)
theorem zok_X_dated_0 : zckr 65 0 48 = true := by decide +kernel
theorem zcm_X_dated : zcm 65 := by
  intro k
  rcases Nat.lt_or_ge k 48 with q0 | q0
  · exact zckr_at _ zok_X_dated_0 k (by omega) (by omega)
  exact zcm_out (n := 3) (Nat.le_of_ble_eq_true rfl) (by omega)
theorem zok_X_nearest_0 : zckr 66 0 48 = true := by decide +kernel
theorem zcm_X_nearest : zcm 66 := by
  intro k
  rcases Nat.lt_or_ge k 48 with q0 | q0
  · exact zckr_at _ zok_X_nearest_0 k (by omega) (by omega)
  exact zcm_out (n := 3) (Nat.le_of_ble_eq_true rfl) (by omega)
theorem zok_X_run_0 : zckr 67 0 48 = true := by decide +kernel
theorem zok_X_run_48 : zckr 67 48 16 = true := by decide +kernel
theorem zcm_X_run : zcm 67 := by
  intro k
  rcases Nat.lt_or_ge k 48 with q0 | q0
  · exact zckr_at _ zok_X_run_0 k (by omega) (by omega)
  rcases Nat.lt_or_ge k 64 with q48 | q48
  · exact zckr_at _ zok_X_run_48 k (by omega) (by omega)
  exact zcm_out (n := 4) (Nat.le_of_ble_eq_true rfl) (by omega)
theorem zok_X_alike_0 : zckr 68 0 32 = true := by decide +kernel
theorem zcm_X_alike : zcm 68 := by
  intro k
  rcases Nat.lt_or_ge k 32 with q0 | q0
  · exact zckr_at _ zok_X_alike_0 k (by omega) (by omega)
  exact zcm_out (n := 2) (Nat.le_of_ble_eq_true rfl) (by omega)
theorem zok_X_stands_0 : zckr 69 0 48 = true := by decide +kernel
theorem zok_X_stands_48 : zckr 69 48 48 = true := by decide +kernel
theorem zcm_X_stands : zcm 69 := by
  intro k
  rcases Nat.lt_or_ge k 48 with q0 | q0
  · exact zckr_at _ zok_X_stands_0 k (by omega) (by omega)
  rcases Nat.lt_or_ge k 96 with q48 | q48
  · exact zckr_at _ zok_X_stands_48 k (by omega) (by omega)
  exact zcm_out (n := 6) (Nat.le_of_ble_eq_true rfl) (by omega)
theorem zok_X_expects_0 : zckr 70 0 48 = true := by decide +kernel
theorem zok_X_expects_48 : zckr 70 48 16 = true := by decide +kernel
theorem zcm_X_expects : zcm 70 := by
  intro k
  rcases Nat.lt_or_ge k 48 with q0 | q0
  · exact zckr_at _ zok_X_expects_0 k (by omega) (by omega)
  rcases Nat.lt_or_ge k 64 with q48 | q48
  · exact zckr_at _ zok_X_expects_48 k (by omega) (by omega)
  exact zcm_out (n := 4) (Nat.le_of_ble_eq_true rfl) (by omega)
