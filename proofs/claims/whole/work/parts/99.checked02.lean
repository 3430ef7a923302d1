/-! the check holds, method by method -/
theorem zok_X_owed_0 : zckr 71 0 48 = true := by decide +kernel
theorem zok_X_owed_48 : zckr 71 48 16 = true := by decide +kernel
theorem zcm_X_owed : zcm 71 := by
  intro k
  rcases Nat.lt_or_ge k 48 with q0 | q0
  · exact zckr_at _ zok_X_owed_0 k (by omega) (by omega)
  rcases Nat.lt_or_ge k 64 with q48 | q48
  · exact zckr_at _ zok_X_owed_48 k (by omega) (by omega)
  exact zcm_out (n := 4) (Nat.le_of_ble_eq_true rfl) (by omega)
theorem zok_X_price_0 : zckr 72 0 32 = true := by decide +kernel
theorem zcm_X_price : zcm 72 := by
  intro k
  rcases Nat.lt_or_ge k 32 with q0 | q0
  · exact zckr_at _ zok_X_price_0 k (by omega) (by omega)
  exact zcm_out (n := 2) (Nat.le_of_ble_eq_true rfl) (by omega)
theorem zok_X_cheapest_0 : zckr 73 0 32 = true := by decide +kernel
theorem zcm_X_cheapest : zcm 73 := by
  intro k
  rcases Nat.lt_or_ge k 32 with q0 | q0
  · exact zckr_at _ zok_X_cheapest_0 k (by omega) (by omega)
  exact zcm_out (n := 2) (Nat.le_of_ble_eq_true rfl) (by omega)
theorem zok_X_said_0 : zckr 74 0 48 = true := by decide +kernel
theorem zok_X_said_48 : zckr 74 48 16 = true := by decide +kernel
theorem zcm_X_said : zcm 74 := by
  intro k
  rcases Nat.lt_or_ge k 48 with q0 | q0
  · exact zckr_at _ zok_X_said_0 k (by omega) (by omega)
  rcases Nat.lt_or_ge k 64 with q48 | q48
  · exact zckr_at _ zok_X_said_48 k (by omega) (by omega)
  exact zcm_out (n := 4) (Nat.le_of_ble_eq_true rfl) (by omega)
theorem zok_X_whose_0 : zckr 75 0 48 = true := by decide +kernel
theorem zok_X_whose_48 : zckr 75 48 16 = true := by decide +kernel
theorem zcm_X_whose : zcm 75 := by
  intro k
  rcases Nat.lt_or_ge k 48 with q0 | q0
  · exact zckr_at _ zok_X_whose_0 k (by omega) (by omega)
  rcases Nat.lt_or_ge k 64 with q48 | q48
  · exact zckr_at _ zok_X_whose_48 k (by omega) (by omega)
  exact zcm_out (n := 4) (Nat.le_of_ble_eq_true rfl) (by omega)
theorem zok_X_eldest_0 : zckr 76 0 48 = true := by decide +kernel
theorem zcm_X_eldest : zcm 76 := by
  intro k
  rcases Nat.lt_or_ge k 48 with q0 | q0
  · exact zckr_at _ zok_X_eldest_0 k (by omega) (by omega)
  exact zcm_out (n := 3) (Nat.le_of_ble_eq_true rfl) (by omega)
theorem zok_X_left_0 : zckr 77 0 48 = true := by decide +kernel
theorem zcm_X_left : zcm 77 := by
  intro k
  rcases Nat.lt_or_ge k 48 with q0 | q0
  · exact zckr_at _ zok_X_left_0 k (by omega) (by omega)
  exact zcm_out (n := 3) (Nat.le_of_ble_eq_true rfl) (by omega)
theorem zok_X_count_0 : zckr 78 0 48 = true := by decide +kernel
theorem zcm_X_count : zcm 78 := by
  intro k
  rcases Nat.lt_or_ge k 48 with q0 | q0
  · exact zckr_at _ zok_X_count_0 k (by omega) (by omega)
  exact zcm_out (n := 3) (Nat.le_of_ble_eq_true rfl) (by omega)
theorem zok_X_fenced_0 : zckr 79 0 32 = true := by decide +kernel
theorem zcm_X_fenced : zcm 79 := by
  intro k
  rcases Nat.lt_or_ge k 32 with q0 | q0
  · exact zckr_at _ zok_X_fenced_0 k (by omega) (by omega)
  exact zcm_out (n := 2) (Nat.le_of_ble_eq_true rfl) (by omega)
theorem zok_X_bare_0 : zckr 80 0 48 = true := by decide +kernel
theorem zcm_X_bare : zcm 80 := by
  intro k
  rcases Nat.lt_or_ge k 48 with q0 | q0
  · exact zckr_at _ zok_X_bare_0 k (by omega) (by omega)
  exact zcm_out (n := 3) (Nat.le_of_ble_eq_true rfl) (by omega)
theorem zok_X_fires_0 : zckr 81 0 32 = true := by decide +kernel
theorem zcm_X_fires : zcm 81 := by
  intro k
  rcases Nat.lt_or_ge k 32 with q0 | q0
  · exact zckr_at _ zok_X_fires_0 k (by omega) (by omega)
  exact zcm_out (n := 2) (Nat.le_of_ble_eq_true rfl) (by omega)
theorem zok_X_ledger_0 : zckr 82 0 48 = true := by decide +kernel
theorem zcm_X_ledger : zcm 82 := by
  intro k
  rcases Nat.lt_or_ge k 48 with q0 | q0
  · exact zckr_at _ zok_X_ledger_0 k (by omega) (by omega)
  exact zcm_out (n := 3) (Nat.le_of_ble_eq_true rfl) (by omega)
theorem zok_X_image_0 : zckr 83 0 16 = true := by decide +kernel
theorem zcm_X_image : zcm 83 := by
  intro k
  rcases Nat.lt_or_ge k 16 with q0 | q0
  · exact zckr_at _ zok_X_image_0 k (by omega) (by omega)
  exact zcm_out (n := 1) (Nat.le_of_ble_eq_true rfl) (by omega)
theorem zok_X_back_0 : zckr 84 0 16 = true := by decide +kernel
theorem zcm_X_back : zcm 84 := by
  intro k
  rcases Nat.lt_or_ge k 16 with q0 | q0
  · exact zckr_at _ zok_X_back_0 k (by omega) (by omega)
  exact zcm_out (n := 1) (Nat.le_of_ble_eq_true rfl) (by omega)
theorem zok_X_about_0 : zckr 85 0 48 = true := by decide +kernel
theorem zcm_X_about : zcm 85 := by
  intro k
  rcases Nat.lt_or_ge k 48 with q0 | q0
  · exact zckr_at _ zok_X_about_0 k (by omega) (by omega)
  exact zcm_out (n := 3) (Nat.le_of_ble_eq_true rfl) (by omega)
theorem zok_Counsel_init_0 : zckr 86 0 16 = true := by decide +kernel
theorem zcm_Counsel_init : zcm 86 := by
  intro k
  rcases Nat.lt_or_ge k 16 with q0 | q0
  · exact zckr_at _ zok_Counsel_init_0 k (by omega) (by omega)
  exact zcm_out (n := 1) (Nat.le_of_ble_eq_true rfl) (by omega)
theorem zok_Counsel_lendable_0 : zckr 87 0 48 = true := by decide +kernel
theorem zcm_Counsel_lendable : zcm 87 := by
  intro k
  rcases Nat.lt_or_ge k 48 with q0 | q0
  · exact zckr_at _ zok_Counsel_lendable_0 k (by omega) (by omega)
  exact zcm_out (n := 3) (Nat.le_of_ble_eq_true rfl) (by omega)
theorem zok_Counsel_measure_0 : zckr 88 0 48 = true := by decide +kernel
theorem zok_Counsel_measure_48 : zckr 88 48 16 = true := by decide +kernel
theorem zcm_Counsel_measure : zcm 88 := by
  intro k
  rcases Nat.lt_or_ge k 48 with q0 | q0
  · exact zckr_at _ zok_Counsel_measure_0 k (by omega) (by omega)
  rcases Nat.lt_or_ge k 64 with q48 | q48
  · exact zckr_at _ zok_Counsel_measure_48 k (by omega) (by omega)
  exact zcm_out (n := 4) (Nat.le_of_ble_eq_true rfl) (by omega)
theorem zok_Counsel_needOf_0 : zckr 89 0 48 = true := by decide +kernel
theorem zcm_Counsel_needOf : zcm 89 := by
  intro k
  rcases Nat.lt_or_ge k 48 with q0 | q0
  · exact zckr_at _ zok_Counsel_needOf_0 k (by omega) (by omega)
  exact zcm_out (n := 3) (Nat.le_of_ble_eq_true rfl) (by omega)
theorem zok_Counsel_roomOf_0 : zckr 90 0 48 = true := by decide +kernel
theorem zcm_Counsel_roomOf : zcm 90 := by
  intro k
  rcases Nat.lt_or_ge k 48 with q0 | q0
  · exact zckr_at _ zok_Counsel_roomOf_0 k (by omega) (by omega)
  exact zcm_out (n := 3) (Nat.le_of_ble_eq_true rfl) (by omega)
theorem zok_Counsel_inTheWay_0 : zckr 91 0 48 = true := by decide +kernel
theorem zcm_Counsel_inTheWay : zcm 91 := by
  intro k
  rcases Nat.lt_or_ge k 48 with q0 | q0
  · exact zckr_at _ zok_Counsel_inTheWay_0 k (by omega) (by omega)
  exact zcm_out (n := 3) (Nat.le_of_ble_eq_true rfl) (by omega)
theorem zok_Counsel_shop_0 : zckr 92 0 48 = true := by decide +kernel
theorem zok_Counsel_shop_48 : zckr 92 48 32 = true := by decide +kernel
theorem zcm_Counsel_shop : zcm 92 := by
  intro k
  rcases Nat.lt_or_ge k 48 with q0 | q0
  · exact zckr_at _ zok_Counsel_shop_0 k (by omega) (by omega)
  rcases Nat.lt_or_ge k 80 with q48 | q48
  · exact zckr_at _ zok_Counsel_shop_48 k (by omega) (by omega)
  exact zcm_out (n := 5) (Nat.le_of_ble_eq_true rfl) (by omega)
theorem zok_Counsel_weigh_0 : zckr 93 0 48 = true := by decide +kernel
theorem zok_Counsel_weigh_48 : zckr 93 48 32 = true := by decide +kernel
theorem zcm_Counsel_weigh : zcm 93 := by
  intro k
  rcases Nat.lt_or_ge k 48 with q0 | q0
  · exact zckr_at _ zok_Counsel_weigh_0 k (by omega) (by omega)
  rcases Nat.lt_or_ge k 80 with q48 | q48
  · exact zckr_at _ zok_Counsel_weigh_48 k (by omega) (by omega)
  exact zcm_out (n := 5) (Nat.le_of_ble_eq_true rfl) (by omega)
theorem zok_Counsel_isThere_0 : zckr 94 0 48 = true := by decide +kernel
theorem zcm_Counsel_isThere : zcm 94 := by
  intro k
  rcases Nat.lt_or_ge k 48 with q0 | q0
  · exact zckr_at _ zok_Counsel_isThere_0 k (by omega) (by omega)
  exact zcm_out (n := 3) (Nat.le_of_ble_eq_true rfl) (by omega)
theorem zok_Judge_init_0 : zckr 95 0 16 = true := by decide +kernel
theorem zcm_Judge_init : zcm 95 := by
  intro k
  rcases Nat.lt_or_ge k 16 with q0 | q0
  · exact zckr_at _ zok_Judge_init_0 k (by omega) (by omega)
  exact zcm_out (n := 1) (Nat.le_of_ble_eq_true rfl) (by omega)
theorem zok_Judge_says_0 : zckr 96 0 48 = true := by decide +kernel
theorem zok_Judge_says_48 : zckr 96 48 16 = true := by decide +kernel
theorem zcm_Judge_says : zcm 96 := by
  intro k
  rcases Nat.lt_or_ge k 48 with q0 | q0
  · exact zckr_at _ zok_Judge_says_0 k (by omega) (by omega)
  rcases Nat.lt_or_ge k 64 with q48 | q48
  · exact zckr_at _ zok_Judge_says_48 k (by omega) (by omega)
  exact zcm_out (n := 4) (Nat.le_of_ble_eq_true rfl) (by omega)
theorem zok_Judge_without_0 : zckr 97 0 32 = true := by decide +kernel
theorem zcm_Judge_without : zcm 97 := by
  intro k
  rcases Nat.lt_or_ge k 32 with q0 | q0
  · exact zckr_at _ zok_Judge_without_0 k (by omega) (by omega)
  exact zcm_out (n := 2) (Nat.le_of_ble_eq_true rfl) (by omega)
theorem zok_Judge_valueOf_0 : zckr 98 0 48 = true := by decide +kernel
theorem zok_Judge_valueOf_48 : zckr 98 48 48 = true := by decide +kernel
theorem zcm_Judge_valueOf : zcm 98 := by
  intro k
  rcases Nat.lt_or_ge k 48 with q0 | q0
  · exact zckr_at _ zok_Judge_valueOf_0 k (by omega) (by omega)
  rcases Nat.lt_or_ge k 96 with q48 | q48
  · exact zckr_at _ zok_Judge_valueOf_48 k (by omega) (by omega)
  exact zcm_out (n := 6) (Nat.le_of_ble_eq_true rfl) (by omega)
theorem zok_Judge_push_0 : zckr 99 0 32 = true := by decide +kernel
theorem zcm_Judge_push : zcm 99 := by
  intro k
  rcases Nat.lt_or_ge k 32 with q0 | q0
  · exact zckr_at _ zok_Judge_push_0 k (by omega) (by omega)
  exact zcm_out (n := 2) (Nat.le_of_ble_eq_true rfl) (by omega)
theorem zok_Judge_pop_0 : zckr 100 0 32 = true := by decide +kernel
theorem zcm_Judge_pop : zcm 100 := by
  intro k
  rcases Nat.lt_or_ge k 32 with q0 | q0
  · exact zckr_at _ zok_Judge_pop_0 k (by omega) (by omega)
  exact zcm_out (n := 2) (Nat.le_of_ble_eq_true rfl) (by omega)
theorem zok_Judge_named_0 : zckr 101 0 48 = true := by decide +kernel
theorem zcm_Judge_named : zcm 101 := by
  intro k
  rcases Nat.lt_or_ge k 48 with q0 | q0
  · exact zckr_at _ zok_Judge_named_0 k (by omega) (by omega)
  exact zcm_out (n := 3) (Nat.le_of_ble_eq_true rfl) (by omega)
theorem zok_Judge_one_0 : zckr 102 0 32 = true := by decide +kernel
theorem zcm_Judge_one : zcm 102 := by
  intro k
  rcases Nat.lt_or_ge k 32 with q0 | q0
  · exact zckr_at _ zok_Judge_one_0 k (by omega) (by omega)
  exact zcm_out (n := 2) (Nat.le_of_ble_eq_true rfl) (by omega)
theorem zok_Judge_root_0 : zckr 103 0 32 = true := by decide +kernel
theorem zcm_Judge_root : zcm 103 := by
  intro k
  rcases Nat.lt_or_ge k 32 with q0 | q0
  · exact zckr_at _ zok_Judge_root_0 k (by omega) (by omega)
  exact zcm_out (n := 2) (Nat.le_of_ble_eq_true rfl) (by omega)
theorem zok_Judge_two_0 : zckr 104 0 48 = true := by decide +kernel
theorem zok_Judge_two_48 : zckr 104 48 48 = true := by decide +kernel
theorem zcm_Judge_two : zcm 104 := by
  intro k
  rcases Nat.lt_or_ge k 48 with q0 | q0
  · exact zckr_at _ zok_Judge_two_0 k (by omega) (by omega)
  rcases Nat.lt_or_ge k 96 with q48 | q48
  · exact zckr_at _ zok_Judge_two_48 k (by omega) (by omega)
  exact zcm_out (n := 6) (Nat.le_of_ble_eq_true rfl) (by omega)
theorem zok_Judge_bounded_0 : zckr 105 0 16 = true := by decide +kernel
theorem zcm_Judge_bounded : zcm 105 := by
  intro k
  rcases Nat.lt_or_ge k 16 with q0 | q0
  · exact zckr_at _ zok_Judge_bounded_0 k (by omega) (by omega)
  exact zcm_out (n := 1) (Nat.le_of_ble_eq_true rfl) (by omega)
theorem zok_Odds_init_0 : zckr 106 0 16 = true := by decide +kernel
theorem zcm_Odds_init : zcm 106 := by
  intro k
  rcases Nat.lt_or_ge k 16 with q0 | q0
  · exact zckr_at _ zok_Odds_init_0 k (by omega) (by omega)
  exact zcm_out (n := 1) (Nat.le_of_ble_eq_true rfl) (by omega)
theorem zok_Odds_begin_0 : zckr 107 0 32 = true := by decide +kernel
theorem zcm_Odds_begin : zcm 107 := by
  intro k
  rcases Nat.lt_or_ge k 32 with q0 | q0
  · exact zckr_at _ zok_Odds_begin_0 k (by omega) (by omega)
  exact zcm_out (n := 2) (Nat.le_of_ble_eq_true rfl) (by omega)
theorem zok_Odds_draw_0 : zckr 108 0 48 = true := by decide +kernel
theorem zok_Odds_draw_48 : zckr 108 48 16 = true := by decide +kernel
theorem zcm_Odds_draw : zcm 108 := by
  intro k
  rcases Nat.lt_or_ge k 48 with q0 | q0
  · exact zckr_at _ zok_Odds_draw_0 k (by omega) (by omega)
  rcases Nat.lt_or_ge k 64 with q48 | q48
  · exact zckr_at _ zok_Odds_draw_48 k (by omega) (by omega)
  exact zcm_out (n := 4) (Nat.le_of_ble_eq_true rfl) (by omega)
theorem zok_Odds_atLeast_0 : zckr 109 0 32 = true := by decide +kernel
theorem zcm_Odds_atLeast : zcm 109 := by
  intro k
  rcases Nat.lt_or_ge k 32 with q0 | q0
  · exact zckr_at _ zok_Odds_atLeast_0 k (by omega) (by omega)
  exact zcm_out (n := 2) (Nat.le_of_ble_eq_true rfl) (by omega)
theorem zok_Odds_lowest_0 : zckr 110 0 48 = true := by decide +kernel
theorem zcm_Odds_lowest : zcm 110 := by
  intro k
  rcases Nat.lt_or_ge k 48 with q0 | q0
  · exact zckr_at _ zok_Odds_lowest_0 k (by omega) (by omega)
  exact zcm_out (n := 3) (Nat.le_of_ble_eq_true rfl) (by omega)
theorem zok_Reader_init_0 : zckr 111 0 32 = true := by decide +kernel
theorem zcm_Reader_init : zcm 111 := by
  intro k
  rcases Nat.lt_or_ge k 32 with q0 | q0
  · exact zckr_at _ zok_Reader_init_0 k (by omega) (by omega)
  exact zcm_out (n := 2) (Nat.le_of_ble_eq_true rfl) (by omega)
theorem zok_Reader_read_0 : zckr 112 0 48 = true := by decide +kernel
theorem zok_Reader_read_48 : zckr 112 48 48 = true := by decide +kernel
theorem zcm_Reader_read : zcm 112 := by
  intro k
  rcases Nat.lt_or_ge k 48 with q0 | q0
  · exact zckr_at _ zok_Reader_read_0 k (by omega) (by omega)
  rcases Nat.lt_or_ge k 96 with q48 | q48
  · exact zckr_at _ zok_Reader_read_48 k (by omega) (by omega)
  exact zcm_out (n := 6) (Nat.le_of_ble_eq_true rfl) (by omega)
theorem zok_Reader_split_0 : zckr 113 0 48 = true := by decide +kernel
theorem zok_Reader_split_48 : zckr 113 48 48 = true := by decide +kernel
theorem zok_Reader_split_96 : zckr 113 96 48 = true := by decide +kernel
theorem zok_Reader_split_144 : zckr 113 144 16 = true := by decide +kernel
theorem zcm_Reader_split : zcm 113 := by
  intro k
  rcases Nat.lt_or_ge k 48 with q0 | q0
  · exact zckr_at _ zok_Reader_split_0 k (by omega) (by omega)
  rcases Nat.lt_or_ge k 96 with q48 | q48
  · exact zckr_at _ zok_Reader_split_48 k (by omega) (by omega)
  rcases Nat.lt_or_ge k 144 with q96 | q96
  · exact zckr_at _ zok_Reader_split_96 k (by omega) (by omega)
  rcases Nat.lt_or_ge k 160 with q144 | q144
  · exact zckr_at _ zok_Reader_split_144 k (by omega) (by omega)
  exact zcm_out (n := 10) (Nat.le_of_ble_eq_true rfl) (by omega)
theorem zok_Reader_isLetter_0 : zckr 114 0 16 = true := by decide +kernel
theorem zcm_Reader_isLetter : zcm 114 := by
  intro k
  rcases Nat.lt_or_ge k 16 with q0 | q0
  · exact zckr_at _ zok_Reader_isLetter_0 k (by omega) (by omega)
  exact zcm_out (n := 1) (Nat.le_of_ble_eq_true rfl) (by omega)
theorem zok_Reader_add_0 : zckr 115 0 32 = true := by decide +kernel
theorem zcm_Reader_add : zcm 115 := by
  intro k
  rcases Nat.lt_or_ge k 32 with q0 | q0
  · exact zckr_at _ zok_Reader_add_0 k (by omega) (by omega)
  exact zcm_out (n := 2) (Nat.le_of_ble_eq_true rfl) (by omega)
theorem zok_Reader_isDigit_0 : zckr 116 0 16 = true := by decide +kernel
theorem zcm_Reader_isDigit : zcm 116 := by
  intro k
  rcases Nat.lt_or_ge k 16 with q0 | q0
  · exact zckr_at _ zok_Reader_isDigit_0 k (by omega) (by omega)
  exact zcm_out (n := 1) (Nat.le_of_ble_eq_true rfl) (by omega)
theorem zok_Reader_here_0 : zckr 117 0 16 = true := by decide +kernel
theorem zcm_Reader_here : zcm 117 := by
  intro k
  rcases Nat.lt_or_ge k 16 with q0 | q0
  · exact zckr_at _ zok_Reader_here_0 k (by omega) (by omega)
  exact zcm_out (n := 1) (Nat.le_of_ble_eq_true rfl) (by omega)
theorem zok_Reader_readClause_0 : zckr 118 0 48 = true := by decide +kernel
theorem zok_Reader_readClause_48 : zckr 118 48 48 = true := by decide +kernel
theorem zok_Reader_readClause_96 : zckr 118 96 32 = true := by decide +kernel
theorem zcm_Reader_readClause : zcm 118 := by
  intro k
  rcases Nat.lt_or_ge k 48 with q0 | q0
  · exact zckr_at _ zok_Reader_readClause_0 k (by omega) (by omega)
  rcases Nat.lt_or_ge k 96 with q48 | q48
  · exact zckr_at _ zok_Reader_readClause_48 k (by omega) (by omega)
  rcases Nat.lt_or_ge k 128 with q96 | q96
  · exact zckr_at _ zok_Reader_readClause_96 k (by omega) (by omega)
  exact zcm_out (n := 8) (Nat.le_of_ble_eq_true rfl) (by omega)
theorem zok_Reader_fails_0 : zckr 119 0 32 = true := by decide +kernel
theorem zcm_Reader_fails : zcm 119 := by
  intro k
  rcases Nat.lt_or_ge k 32 with q0 | q0
  · exact zckr_at _ zok_Reader_fails_0 k (by omega) (by omega)
  exact zcm_out (n := 2) (Nat.le_of_ble_eq_true rfl) (by omega)
theorem zok_Reader_readSum_0 : zckr 120 0 48 = true := by decide +kernel
theorem zcm_Reader_readSum : zcm 120 := by
  intro k
  rcases Nat.lt_or_ge k 48 with q0 | q0
  · exact zckr_at _ zok_Reader_readSum_0 k (by omega) (by omega)
  exact zcm_out (n := 3) (Nat.le_of_ble_eq_true rfl) (by omega)
theorem zok_Reader_readProduct_0 : zckr 121 0 48 = true := by decide +kernel
theorem zcm_Reader_readProduct : zcm 121 := by
  intro k
  rcases Nat.lt_or_ge k 48 with q0 | q0
  · exact zckr_at _ zok_Reader_readProduct_0 k (by omega) (by omega)
  exact zcm_out (n := 3) (Nat.le_of_ble_eq_true rfl) (by omega)
theorem zok_Reader_readOne_0 : zckr 122 0 48 = true := by decide +kernel
theorem zok_Reader_readOne_48 : zckr 122 48 32 = true := by decide +kernel
theorem zcm_Reader_readOne : zcm 122 := by
  intro k
  rcases Nat.lt_or_ge k 48 with q0 | q0
  · exact zckr_at _ zok_Reader_readOne_0 k (by omega) (by omega)
  rcases Nat.lt_or_ge k 80 with q48 | q48
  · exact zckr_at _ zok_Reader_readOne_48 k (by omega) (by omega)
  exact zcm_out (n := 5) (Nat.le_of_ble_eq_true rfl) (by omega)
theorem zok_Reader_order_0 : zckr 123 0 32 = true := by decide +kernel
theorem zcm_Reader_order : zcm 123 := by
  intro k
  rcases Nat.lt_or_ge k 32 with q0 | q0
  · exact zckr_at _ zok_Reader_order_0 k (by omega) (by omega)
  exact zcm_out (n := 2) (Nat.le_of_ble_eq_true rfl) (by omega)
theorem zok_Reader_readOpening_0 : zckr 124 0 48 = true := by decide +kernel
theorem zok_Reader_readOpening_48 : zckr 124 48 32 = true := by decide +kernel
theorem zcm_Reader_readOpening : zcm 124 := by
  intro k
  rcases Nat.lt_or_ge k 48 with q0 | q0
  · exact zckr_at _ zok_Reader_readOpening_0 k (by omega) (by omega)
  rcases Nat.lt_or_ge k 80 with q48 | q48
  · exact zckr_at _ zok_Reader_readOpening_48 k (by omega) (by omega)
  exact zcm_out (n := 5) (Nat.le_of_ble_eq_true rfl) (by omega)
