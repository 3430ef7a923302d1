/-! the check holds, method by method -/
theorem zok_Reader_expect_0 : zckr 125 0 32 = true := by decide +kernel
theorem zcm_Reader_expect : zcm 125 := by
  intro k
  rcases Nat.lt_or_ge k 32 with q0 | q0
  · exact zckr_at _ zok_Reader_expect_0 k (by omega) (by omega)
  exact zcm_out (n := 2) (Nat.le_of_ble_eq_true rfl) (by omega)
theorem zok_Reader_readChoice_0 : zckr 126 0 48 = true := by decide +kernel
theorem zcm_Reader_readChoice : zcm 126 := by
  intro k
  rcases Nat.lt_or_ge k 48 with q0 | q0
  · exact zckr_at _ zok_Reader_readChoice_0 k (by omega) (by omega)
  exact zcm_out (n := 3) (Nat.le_of_ble_eq_true rfl) (by omega)
theorem zok_Reader_readEither_0 : zckr 127 0 32 = true := by decide +kernel
theorem zcm_Reader_readEither : zcm 127 := by
  intro k
  rcases Nat.lt_or_ge k 32 with q0 | q0
  · exact zckr_at _ zok_Reader_readEither_0 k (by omega) (by omega)
  exact zcm_out (n := 2) (Nat.le_of_ble_eq_true rfl) (by omega)
theorem zok_Reader_readBoth_0 : zckr 128 0 32 = true := by decide +kernel
theorem zcm_Reader_readBoth : zcm 128 := by
  intro k
  rcases Nat.lt_or_ge k 32 with q0 | q0
  · exact zckr_at _ zok_Reader_readBoth_0 k (by omega) (by omega)
  exact zcm_out (n := 2) (Nat.le_of_ble_eq_true rfl) (by omega)
theorem zok_Reader_readAsk_0 : zckr 129 0 48 = true := by decide +kernel
theorem zok_Reader_readAsk_48 : zckr 129 48 16 = true := by decide +kernel
theorem zcm_Reader_readAsk : zcm 129 := by
  intro k
  rcases Nat.lt_or_ge k 48 with q0 | q0
  · exact zckr_at _ zok_Reader_readAsk_0 k (by omega) (by omega)
  rcases Nat.lt_or_ge k 64 with q48 | q48
  · exact zckr_at _ zok_Reader_readAsk_48 k (by omega) (by omega)
  exact zcm_out (n := 4) (Nat.le_of_ble_eq_true rfl) (by omega)
theorem zok_Reader_skipToHere_0 : zckr 130 0 32 = true := by decide +kernel
theorem zcm_Reader_skipToHere : zcm 130 := by
  intro k
  rcases Nat.lt_or_ge k 32 with q0 | q0
  · exact zckr_at _ zok_Reader_skipToHere_0 k (by omega) (by omega)
  exact zcm_out (n := 2) (Nat.le_of_ble_eq_true rfl) (by omega)
theorem zok_Reader_readDeed_0 : zckr 131 0 48 = true := by decide +kernel
theorem zok_Reader_readDeed_48 : zckr 131 48 16 = true := by decide +kernel
theorem zcm_Reader_readDeed : zcm 131 := by
  intro k
  rcases Nat.lt_or_ge k 48 with q0 | q0
  · exact zckr_at _ zok_Reader_readDeed_0 k (by omega) (by omega)
  rcases Nat.lt_or_ge k 64 with q48 | q48
  · exact zckr_at _ zok_Reader_readDeed_48 k (by omega) (by omega)
  exact zcm_out (n := 4) (Nat.le_of_ble_eq_true rfl) (by omega)
theorem zok_Reader_readOak_0 : zckr 132 0 48 = true := by decide +kernel
theorem zok_Reader_readOak_48 : zckr 132 48 48 = true := by decide +kernel
theorem zcm_Reader_readOak : zcm 132 := by
  intro k
  rcases Nat.lt_or_ge k 48 with q0 | q0
  · exact zckr_at _ zok_Reader_readOak_0 k (by omega) (by omega)
  rcases Nat.lt_or_ge k 96 with q48 | q48
  · exact zckr_at _ zok_Reader_readOak_48 k (by omega) (by omega)
  exact zcm_out (n := 6) (Nat.le_of_ble_eq_true rfl) (by omega)
theorem zok_Reader_expectNumber_0 : zckr 133 0 48 = true := by decide +kernel
theorem zok_Reader_expectNumber_48 : zckr 133 48 32 = true := by decide +kernel
theorem zcm_Reader_expectNumber : zcm 133 := by
  intro k
  rcases Nat.lt_or_ge k 48 with q0 | q0
  · exact zckr_at _ zok_Reader_expectNumber_0 k (by omega) (by omega)
  rcases Nat.lt_or_ge k 80 with q48 | q48
  · exact zckr_at _ zok_Reader_expectNumber_48 k (by omega) (by omega)
  exact zcm_out (n := 5) (Nat.le_of_ble_eq_true rfl) (by omega)
theorem zok_Rings_init_0 : zckr 134 0 32 = true := by decide +kernel
theorem zcm_Rings_init : zcm 134 := by
  intro k
  rcases Nat.lt_or_ge k 32 with q0 | q0
  · exact zckr_at _ zok_Rings_init_0 k (by omega) (by omega)
  exact zcm_out (n := 2) (Nat.le_of_ble_eq_true rfl) (by omega)
theorem zok_Rings_goneFrom_0 : zckr 135 0 32 = true := by decide +kernel
theorem zcm_Rings_goneFrom : zcm 135 := by
  intro k
  rcases Nat.lt_or_ge k 32 with q0 | q0
  · exact zckr_at _ zok_Rings_goneFrom_0 k (by omega) (by omega)
  exact zcm_out (n := 2) (Nat.le_of_ble_eq_true rfl) (by omega)
theorem zok_Rings_heldBy_0 : zckr 136 0 32 = true := by decide +kernel
theorem zcm_Rings_heldBy : zcm 136 := by
  intro k
  rcases Nat.lt_or_ge k 32 with q0 | q0
  · exact zckr_at _ zok_Rings_heldBy_0 k (by omega) (by omega)
  exact zcm_out (n := 2) (Nat.le_of_ble_eq_true rfl) (by omega)
theorem zok_Rings_with_0 : zckr 137 0 32 = true := by decide +kernel
theorem zcm_Rings_with : zcm 137 := by
  intro k
  rcases Nat.lt_or_ge k 32 with q0 | q0
  · exact zckr_at _ zok_Rings_with_0 k (by omega) (by omega)
  exact zcm_out (n := 2) (Nat.le_of_ble_eq_true rfl) (by omega)
theorem zok_Rings_becomes_0 : zckr 138 0 48 = true := by decide +kernel
theorem zcm_Rings_becomes : zcm 138 := by
  intro k
  rcases Nat.lt_or_ge k 48 with q0 | q0
  · exact zckr_at _ zok_Rings_becomes_0 k (by omega) (by omega)
  exact zcm_out (n := 3) (Nat.le_of_ble_eq_true rfl) (by omega)
theorem zok_Rings_give_0 : zckr 139 0 32 = true := by decide +kernel
theorem zcm_Rings_give : zcm 139 := by
  intro k
  rcases Nat.lt_or_ge k 32 with q0 | q0
  · exact zckr_at _ zok_Rings_give_0 k (by omega) (by omega)
  exact zcm_out (n := 2) (Nat.le_of_ble_eq_true rfl) (by omega)
theorem zok_Rings_bring_0 : zckr 140 0 48 = true := by decide +kernel
theorem zcm_Rings_bring : zcm 140 := by
  intro k
  rcases Nat.lt_or_ge k 48 with q0 | q0
  · exact zckr_at _ zok_Rings_bring_0 k (by omega) (by omega)
  exact zcm_out (n := 3) (Nat.le_of_ble_eq_true rfl) (by omega)
theorem zok_Rings_holder_0 : zckr 141 0 32 = true := by decide +kernel
theorem zcm_Rings_holder : zcm 141 := by
  intro k
  rcases Nat.lt_or_ge k 32 with q0 | q0
  · exact zckr_at _ zok_Rings_holder_0 k (by omega) (by omega)
  exact zcm_out (n := 2) (Nat.le_of_ble_eq_true rfl) (by omega)
theorem zok_Rings_lentOf_0 : zckr 142 0 32 = true := by decide +kernel
theorem zcm_Rings_lentOf : zcm 142 := by
  intro k
  rcases Nat.lt_or_ge k 32 with q0 | q0
  · exact zckr_at _ zok_Rings_lentOf_0 k (by omega) (by omega)
  exact zcm_out (n := 2) (Nat.le_of_ble_eq_true rfl) (by omega)
theorem zok_Rings_drawn_0 : zckr 143 0 16 = true := by decide +kernel
theorem zcm_Rings_drawn : zcm 143 := by
  intro k
  rcases Nat.lt_or_ge k 16 with q0 | q0
  · exact zckr_at _ zok_Rings_drawn_0 k (by omega) (by omega)
  exact zcm_out (n := 1) (Nat.le_of_ble_eq_true rfl) (by omega)
theorem zok_Rings_cutOff_0 : zckr 144 0 48 = true := by decide +kernel
theorem zok_Rings_cutOff_48 : zckr 144 48 32 = true := by decide +kernel
theorem zcm_Rings_cutOff : zcm 144 := by
  intro k
  rcases Nat.lt_or_ge k 48 with q0 | q0
  · exact zckr_at _ zok_Rings_cutOff_0 k (by omega) (by omega)
  rcases Nat.lt_or_ge k 80 with q48 | q48
  · exact zckr_at _ zok_Rings_cutOff_48 k (by omega) (by omega)
  exact zcm_out (n := 5) (Nat.le_of_ble_eq_true rfl) (by omega)
theorem zok_Rings_yearsOf_0 : zckr 145 0 32 = true := by decide +kernel
theorem zcm_Rings_yearsOf : zcm 145 := by
  intro k
  rcases Nat.lt_or_ge k 32 with q0 | q0
  · exact zckr_at _ zok_Rings_yearsOf_0 k (by omega) (by omega)
  exact zcm_out (n := 2) (Nat.le_of_ble_eq_true rfl) (by omega)
theorem zok_Rings_page_0 : zckr 146 0 48 = true := by decide +kernel
theorem zcm_Rings_page : zcm 146 := by
  intro k
  rcases Nat.lt_or_ge k 48 with q0 | q0
  · exact zckr_at _ zok_Rings_page_0 k (by omega) (by omega)
  exact zcm_out (n := 3) (Nat.le_of_ble_eq_true rfl) (by omega)
theorem zok_Sign_word_0 : zckr 147 0 48 = true := by decide +kernel
theorem zok_Sign_word_48 : zckr 147 48 16 = true := by decide +kernel
theorem zcm_Sign_word : zcm 147 := by
  intro k
  rcases Nat.lt_or_ge k 48 with q0 | q0
  · exact zckr_at _ zok_Sign_word_0 k (by omega) (by omega)
  rcases Nat.lt_or_ge k 64 with q48 | q48
  · exact zckr_at _ zok_Sign_word_48 k (by omega) (by omega)
  exact zcm_out (n := 4) (Nat.le_of_ble_eq_true rfl) (by omega)
theorem zok_Sign_ofCharacter_0 : zckr 148 0 16 = true := by decide +kernel
theorem zcm_Sign_ofCharacter : zcm 148 := by
  intro k
  rcases Nat.lt_or_ge k 16 with q0 | q0
  · exact zckr_at _ zok_Sign_ofCharacter_0 k (by omega) (by omega)
  exact zcm_out (n := 1) (Nat.le_of_ble_eq_true rfl) (by omega)
theorem zok_Sign_isName_0 : zckr 149 0 16 = true := by decide +kernel
theorem zcm_Sign_isName : zcm 149 := by
  intro k
  rcases Nat.lt_or_ge k 16 with q0 | q0
  · exact zckr_at _ zok_Sign_isName_0 k (by omega) (by omega)
  exact zcm_out (n := 1) (Nat.le_of_ble_eq_true rfl) (by omega)
theorem zok_Sign_compares_0 : zckr 150 0 16 = true := by decide +kernel
theorem zcm_Sign_compares : zcm 150 := by
  intro k
  rcases Nat.lt_or_ge k 16 with q0 | q0
  · exact zckr_at _ zok_Sign_compares_0 k (by omega) (by omega)
  exact zcm_out (n := 1) (Nat.le_of_ble_eq_true rfl) (by omega)
theorem zok_Sign_isOfOne_0 : zckr 151 0 16 = true := by decide +kernel
theorem zcm_Sign_isOfOne : zcm 151 := by
  intro k
  rcases Nat.lt_or_ge k 16 with q0 | q0
  · exact zckr_at _ zok_Sign_isOfOne_0 k (by omega) (by omega)
  exact zcm_out (n := 1) (Nat.le_of_ble_eq_true rfl) (by omega)
theorem zok_Steps_init_0 : zckr 152 0 32 = true := by decide +kernel
theorem zcm_Steps_init : zcm 152 := by
  intro k
  rcases Nat.lt_or_ge k 32 with q0 | q0
  · exact zckr_at _ zok_Steps_init_0 k (by omega) (by omega)
  exact zcm_out (n := 2) (Nat.le_of_ble_eq_true rfl) (by omega)
theorem zok_Steps_push_0 : zckr 153 0 32 = true := by decide +kernel
theorem zcm_Steps_push : zcm 153 := by
  intro k
  rcases Nat.lt_or_ge k 32 with q0 | q0
  · exact zckr_at _ zok_Steps_push_0 k (by omega) (by omega)
  exact zcm_out (n := 2) (Nat.le_of_ble_eq_true rfl) (by omega)
theorem zok_Steps_rowAt_0 : zckr 154 0 32 = true := by decide +kernel
theorem zcm_Steps_rowAt : zcm 154 := by
  intro k
  rcases Nat.lt_or_ge k 32 with q0 | q0
  · exact zckr_at _ zok_Steps_rowAt_0 k (by omega) (by omega)
  exact zcm_out (n := 2) (Nat.le_of_ble_eq_true rfl) (by omega)
theorem zok_Steps_pop_0 : zckr 155 0 32 = true := by decide +kernel
theorem zcm_Steps_pop : zcm 155 := by
  intro k
  rcases Nat.lt_or_ge k 32 with q0 | q0
  · exact zckr_at _ zok_Steps_pop_0 k (by omega) (by omega)
  exact zcm_out (n := 2) (Nat.le_of_ble_eq_true rfl) (by omega)
theorem zok_Steps_becomes_0 : zckr 156 0 32 = true := by decide +kernel
theorem zcm_Steps_becomes : zcm 156 := by
  intro k
  rcases Nat.lt_or_ge k 32 with q0 | q0
  · exact zckr_at _ zok_Steps_becomes_0 k (by omega) (by omega)
  exact zcm_out (n := 2) (Nat.le_of_ble_eq_true rfl) (by omega)
theorem zok_Text_init_0 : zckr 157 0 16 = true := by decide +kernel
theorem zcm_Text_init : zcm 157 := by
  intro k
  rcases Nat.lt_or_ge k 16 with q0 | q0
  · exact zckr_at _ zok_Text_init_0 k (by omega) (by omega)
  exact zcm_out (n := 1) (Nat.le_of_ble_eq_true rfl) (by omega)
theorem zok_Text_start_0 : zckr 158 0 16 = true := by decide +kernel
theorem zcm_Text_start : zcm 158 := by
  intro k
  rcases Nat.lt_or_ge k 16 with q0 | q0
  · exact zckr_at _ zok_Text_start_0 k (by omega) (by omega)
  exact zcm_out (n := 1) (Nat.le_of_ble_eq_true rfl) (by omega)
theorem zok_Text_stop_0 : zckr 159 0 16 = true := by decide +kernel
theorem zcm_Text_stop : zcm 159 := by
  intro k
  rcases Nat.lt_or_ge k 16 with q0 | q0
  · exact zckr_at _ zok_Text_stop_0 k (by omega) (by omega)
  exact zcm_out (n := 1) (Nat.le_of_ble_eq_true rfl) (by omega)
theorem zok_Text_sign_0 : zckr 160 0 16 = true := by decide +kernel
theorem zcm_Text_sign : zcm 160 := by
  intro k
  rcases Nat.lt_or_ge k 16 with q0 | q0
  · exact zckr_at _ zok_Text_sign_0 k (by omega) (by omega)
  exact zcm_out (n := 1) (Nat.le_of_ble_eq_true rfl) (by omega)
theorem zok_Text_worth_0 : zckr 161 0 16 = true := by decide +kernel
theorem zcm_Text_worth : zcm 161 := by
  intro k
  rcases Nat.lt_or_ge k 16 with q0 | q0
  · exact zckr_at _ zok_Text_worth_0 k (by omega) (by omega)
  exact zcm_out (n := 1) (Nat.le_of_ble_eq_true rfl) (by omega)
theorem zok_Text_clauseCount_0 : zckr 162 0 16 = true := by decide +kernel
theorem zcm_Text_clauseCount : zcm 162 := by
  intro k
  rcases Nat.lt_or_ge k 16 with q0 | q0
  · exact zckr_at _ zok_Text_clauseCount_0 k (by omega) (by omega)
  exact zcm_out (n := 1) (Nat.le_of_ble_eq_true rfl) (by omega)
theorem zok_Text_part_0 : zckr 163 0 32 = true := by decide +kernel
theorem zcm_Text_part : zcm 163 := by
  intro k
  rcases Nat.lt_or_ge k 32 with q0 | q0
  · exact zckr_at _ zok_Text_part_0 k (by omega) (by omega)
  exact zcm_out (n := 2) (Nat.le_of_ble_eq_true rfl) (by omega)
theorem zok_Town_init_0 : zckr 164 0 48 = true := by decide +kernel
theorem zok_Town_init_48 : zckr 164 48 48 = true := by decide +kernel
theorem zcm_Town_init : zcm 164 := by
  intro k
  rcases Nat.lt_or_ge k 48 with q0 | q0
  · exact zckr_at _ zok_Town_init_0 k (by omega) (by omega)
  rcases Nat.lt_or_ge k 96 with q48 | q48
  · exact zckr_at _ zok_Town_init_48 k (by omega) (by omega)
  exact zcm_out (n := 6) (Nat.le_of_ble_eq_true rfl) (by omega)
theorem zok_Town_textAt_0 : zckr 165 0 16 = true := by decide +kernel
theorem zcm_Town_textAt : zcm 165 := by
  intro k
  rcases Nat.lt_or_ge k 16 with q0 | q0
  · exact zckr_at _ zok_Town_textAt_0 k (by omega) (by omega)
  exact zcm_out (n := 1) (Nat.le_of_ble_eq_true rfl) (by omega)
theorem zok_Town_hadRing_0 : zckr 166 0 32 = true := by decide +kernel
theorem zcm_Town_hadRing : zcm 166 := by
  intro k
  rcases Nat.lt_or_ge k 32 with q0 | q0
  · exact zckr_at _ zok_Town_hadRing_0 k (by omega) (by omega)
  exact zcm_out (n := 2) (Nat.le_of_ble_eq_true rfl) (by omega)
theorem zok_Town_hasOak_0 : zckr 167 0 16 = true := by decide +kernel
theorem zcm_Town_hasOak : zcm 167 := by
  intro k
  rcases Nat.lt_or_ge k 16 with q0 | q0
  · exact zckr_at _ zok_Town_hasOak_0 k (by omega) (by omega)
  exact zcm_out (n := 1) (Nat.le_of_ble_eq_true rfl) (by omega)
theorem zok_Town_hasPerson_0 : zckr 168 0 16 = true := by decide +kernel
theorem zcm_Town_hasPerson : zcm 168 := by
  intro k
  rcases Nat.lt_or_ge k 16 with q0 | q0
  · exact zckr_at _ zok_Town_hasPerson_0 k (by omega) (by omega)
  exact zcm_out (n := 1) (Nat.le_of_ble_eq_true rfl) (by omega)
theorem zok_Town_isFenced_0 : zckr 169 0 16 = true := by decide +kernel
theorem zcm_Town_isFenced : zcm 169 := by
  intro k
  rcases Nat.lt_or_ge k 16 with q0 | q0
  · exact zckr_at _ zok_Town_isFenced_0 k (by omega) (by omega)
  exact zcm_out (n := 1) (Nat.le_of_ble_eq_true rfl) (by omega)
theorem zok_Town_inOak_0 : zckr 170 0 32 = true := by decide +kernel
theorem zcm_Town_inOak : zcm 170 := by
  intro k
  rcases Nat.lt_or_ge k 32 with q0 | q0
  · exact zckr_at _ zok_Town_inOak_0 k (by omega) (by omega)
  exact zcm_out (n := 2) (Nat.le_of_ble_eq_true rfl) (by omega)
theorem zok_Town_ruler_0 : zckr 171 0 16 = true := by decide +kernel
theorem zcm_Town_ruler : zcm 171 := by
  intro k
  rcases Nat.lt_or_ge k 16 with q0 | q0
  · exact zckr_at _ zok_Town_ruler_0 k (by omega) (by omega)
  exact zcm_out (n := 1) (Nat.le_of_ble_eq_true rfl) (by omega)
theorem zok_Town_kindsOf_0 : zckr 172 0 32 = true := by decide +kernel
theorem zcm_Town_kindsOf : zcm 172 := by
  intro k
  rcases Nat.lt_or_ge k 32 with q0 | q0
  · exact zckr_at _ zok_Town_kindsOf_0 k (by omega) (by omega)
  exact zcm_out (n := 2) (Nat.le_of_ble_eq_true rfl) (by omega)
theorem zok_Town_yearsOfKinds_0 : zckr 173 0 32 = true := by decide +kernel
theorem zcm_Town_yearsOfKinds : zcm 173 := by
  intro k
  rcases Nat.lt_or_ge k 32 with q0 | q0
  · exact zckr_at _ zok_Town_yearsOfKinds_0 k (by omega) (by omega)
  exact zcm_out (n := 2) (Nat.le_of_ble_eq_true rfl) (by omega)
theorem zok_Town_marksFit_0 : zckr 174 0 16 = true := by decide +kernel
theorem zcm_Town_marksFit : zcm 174 := by
  intro k
  rcases Nat.lt_or_ge k 16 with q0 | q0
  · exact zckr_at _ zok_Town_marksFit_0 k (by omega) (by omega)
  exact zcm_out (n := 1) (Nat.le_of_ble_eq_true rfl) (by omega)
theorem zok_Town_unlikeFrom_0 : zckr 175 0 32 = true := by decide +kernel
theorem zcm_Town_unlikeFrom : zcm 175 := by
  intro k
  rcases Nat.lt_or_ge k 32 with q0 | q0
  · exact zckr_at _ zok_Town_unlikeFrom_0 k (by omega) (by omega)
  exact zcm_out (n := 2) (Nat.le_of_ble_eq_true rfl) (by omega)
theorem zok_Town_becomes_0 : zckr 176 0 48 = true := by decide +kernel
theorem zok_Town_becomes_48 : zckr 176 48 48 = true := by decide +kernel
theorem zok_Town_becomes_96 : zckr 176 96 32 = true := by decide +kernel
theorem zcm_Town_becomes : zcm 176 := by
  intro k
  rcases Nat.lt_or_ge k 48 with q0 | q0
  · exact zckr_at _ zok_Town_becomes_0 k (by omega) (by omega)
  rcases Nat.lt_or_ge k 96 with q48 | q48
  · exact zckr_at _ zok_Town_becomes_48 k (by omega) (by omega)
  rcases Nat.lt_or_ge k 128 with q96 | q96
  · exact zckr_at _ zok_Town_becomes_96 k (by omega) (by omega)
  exact zcm_out (n := 8) (Nat.le_of_ble_eq_true rfl) (by omega)
theorem zok_M_init_0 : zckr 177 0 48 = true := by decide +kernel
theorem zok_M_init_48 : zckr 177 48 48 = true := by decide +kernel
theorem zok_M_init_96 : zckr 177 96 16 = true := by decide +kernel
theorem zcm_M_init : zcm 177 := by
  intro k
  rcases Nat.lt_or_ge k 48 with q0 | q0
  · exact zckr_at _ zok_M_init_0 k (by omega) (by omega)
  rcases Nat.lt_or_ge k 96 with q48 | q48
  · exact zckr_at _ zok_M_init_48 k (by omega) (by omega)
  rcases Nat.lt_or_ge k 112 with q96 | q96
  · exact zckr_at _ zok_M_init_96 k (by omega) (by omega)
  exact zcm_out (n := 7) (Nat.le_of_ble_eq_true rfl) (by omega)
theorem zok_M_copy_0 : zckr 178 0 16 = true := by decide +kernel
theorem zcm_M_copy : zcm 178 := by
  intro k
  rcases Nat.lt_or_ge k 16 with q0 | q0
  · exact zckr_at _ zok_M_copy_0 k (by omega) (by omega)
  exact zcm_out (n := 1) (Nat.le_of_ble_eq_true rfl) (by omega)
theorem zok_M_oak_0 : zckr 179 0 48 = true := by decide +kernel
theorem zcm_M_oak : zcm 179 := by
  intro k
  rcases Nat.lt_or_ge k 48 with q0 | q0
  · exact zckr_at _ zok_M_oak_0 k (by omega) (by omega)
  exact zcm_out (n := 3) (Nat.le_of_ble_eq_true rfl) (by omega)
theorem zok_M_isIn_0 : zckr 180 0 16 = true := by decide +kernel
theorem zcm_M_isIn : zcm 180 := by
  intro k
  rcases Nat.lt_or_ge k 16 with q0 | q0
  · exact zckr_at _ zok_M_isIn_0 k (by omega) (by omega)
  exact zcm_out (n := 1) (Nat.le_of_ble_eq_true rfl) (by omega)
theorem zok_M_has_0 : zckr 181 0 16 = true := by decide +kernel
theorem zcm_M_has : zcm 181 := by
  intro k
  rcases Nat.lt_or_ge k 16 with q0 | q0
  · exact zckr_at _ zok_M_has_0 k (by omega) (by omega)
  exact zcm_out (n := 1) (Nat.le_of_ble_eq_true rfl) (by omega)
theorem zok_M_put_0 : zckr 182 0 16 = true := by decide +kernel
theorem zcm_M_put : zcm 182 := by
  intro k
  rcases Nat.lt_or_ge k 16 with q0 | q0
  · exact zckr_at _ zok_M_put_0 k (by omega) (by omega)
  exact zcm_out (n := 1) (Nat.le_of_ble_eq_true rfl) (by omega)
theorem zok_M_year_0 : zckr 183 0 32 = true := by decide +kernel
theorem zcm_M_year : zcm 183 := by
  intro k
  rcases Nat.lt_or_ge k 32 with q0 | q0
  · exact zckr_at _ zok_M_year_0 k (by omega) (by omega)
  exact zcm_out (n := 2) (Nat.le_of_ble_eq_true rfl) (by omega)
theorem zok_M_isYear_0 : zckr 184 0 16 = true := by decide +kernel
theorem zcm_M_isYear : zcm 184 := by
  intro k
  rcases Nat.lt_or_ge k 16 with q0 | q0
  · exact zckr_at _ zok_M_isYear_0 k (by omega) (by omega)
  exact zcm_out (n := 1) (Nat.le_of_ble_eq_true rfl) (by omega)
theorem zok_M_person_0 : zckr 185 0 48 = true := by decide +kernel
theorem zcm_M_person : zcm 185 := by
  intro k
  rcases Nat.lt_or_ge k 48 with q0 | q0
  · exact zckr_at _ zok_M_person_0 k (by omega) (by omega)
  exact zcm_out (n := 3) (Nat.le_of_ble_eq_true rfl) (by omega)
theorem zok_M_feed_0 : zckr 186 0 32 = true := by decide +kernel
theorem zcm_M_feed : zcm 186 := by
  intro k
  rcases Nat.lt_or_ge k 32 with q0 | q0
  · exact zckr_at _ zok_M_feed_0 k (by omega) (by omega)
  exact zcm_out (n := 2) (Nat.le_of_ble_eq_true rfl) (by omega)
theorem zok_M_four_0 : zckr 187 0 32 = true := by decide +kernel
theorem zcm_M_four : zcm 187 := by
  intro k
  rcases Nat.lt_or_ge k 32 with q0 | q0
  · exact zckr_at _ zok_M_four_0 k (by omega) (by omega)
  exact zcm_out (n := 2) (Nat.le_of_ble_eq_true rfl) (by omega)
theorem zok_M_end_0 : zckr 188 0 16 = true := by decide +kernel
theorem zcm_M_end : zcm 188 := by
  intro k
  rcases Nat.lt_or_ge k 16 with q0 | q0
  · exact zckr_at _ zok_M_end_0 k (by omega) (by omega)
  exact zcm_out (n := 1) (Nat.le_of_ble_eq_true rfl) (by omega)
theorem zok_M_text_0 : zckr 189 0 48 = true := by decide +kernel
theorem zcm_M_text : zcm 189 := by
  intro k
  rcases Nat.lt_or_ge k 48 with q0 | q0
  · exact zckr_at _ zok_M_text_0 k (by omega) (by omega)
  exact zcm_out (n := 3) (Nat.le_of_ble_eq_true rfl) (by omega)
theorem zok_M_readText_0 : zckr 190 0 48 = true := by decide +kernel
theorem zcm_M_readText : zcm 190 := by
  intro k
  rcases Nat.lt_or_ge k 48 with q0 | q0
  · exact zckr_at _ zok_M_readText_0 k (by omega) (by omega)
  exact zcm_out (n := 3) (Nat.le_of_ble_eq_true rfl) (by omega)
theorem zok_M_nextToken_0 : zckr 191 0 48 = true := by decide +kernel
theorem zok_M_nextToken_48 : zckr 191 48 48 = true := by decide +kernel
theorem zok_M_nextToken_96 : zckr 191 96 48 = true := by decide +kernel
theorem zok_M_nextToken_144 : zckr 191 144 16 = true := by decide +kernel
theorem zcm_M_nextToken : zcm 191 := by
  intro k
  rcases Nat.lt_or_ge k 48 with q0 | q0
  · exact zckr_at _ zok_M_nextToken_0 k (by omega) (by omega)
  rcases Nat.lt_or_ge k 96 with q48 | q48
  · exact zckr_at _ zok_M_nextToken_48 k (by omega) (by omega)
  rcases Nat.lt_or_ge k 144 with q96 | q96
  · exact zckr_at _ zok_M_nextToken_96 k (by omega) (by omega)
  rcases Nat.lt_or_ge k 160 with q144 | q144
  · exact zckr_at _ zok_M_nextToken_144 k (by omega) (by omega)
  exact zcm_out (n := 10) (Nat.le_of_ble_eq_true rfl) (by omega)
theorem zok_M_byteAt_0 : zckr 192 0 16 = true := by decide +kernel
theorem zcm_M_byteAt : zcm 192 := by
  intro k
  rcases Nat.lt_or_ge k 16 with q0 | q0
  · exact zckr_at _ zok_M_byteAt_0 k (by omega) (by omega)
  exact zcm_out (n := 1) (Nat.le_of_ble_eq_true rfl) (by omega)
theorem zok_M_isFigure_0 : zckr 193 0 16 = true := by decide +kernel
theorem zcm_M_isFigure : zcm 193 := by
  intro k
  rcases Nat.lt_or_ge k 16 with q0 | q0
  · exact zckr_at _ zok_M_isFigure_0 k (by omega) (by omega)
  exact zcm_out (n := 1) (Nat.le_of_ble_eq_true rfl) (by omega)
theorem zok_M_isLetterByte_0 : zckr 194 0 16 = true := by decide +kernel
theorem zcm_M_isLetterByte : zcm 194 := by
  intro k
  rcases Nat.lt_or_ge k 16 with q0 | q0
  · exact zckr_at _ zok_M_isLetterByte_0 k (by omega) (by omega)
  exact zcm_out (n := 1) (Nat.le_of_ble_eq_true rfl) (by omega)
theorem zok_M_isSign_0 : zckr 195 0 16 = true := by decide +kernel
theorem zcm_M_isSign : zcm 195 := by
  intro k
  rcases Nat.lt_or_ge k 16 with q0 | q0
  · exact zckr_at _ zok_M_isSign_0 k (by omega) (by omega)
  exact zcm_out (n := 1) (Nat.le_of_ble_eq_true rfl) (by omega)
theorem zok_M_clause_0 : zckr 196 0 48 = true := by decide +kernel
theorem zok_M_clause_48 : zckr 196 48 48 = true := by decide +kernel
theorem zcm_M_clause : zcm 196 := by
  intro k
  rcases Nat.lt_or_ge k 48 with q0 | q0
  · exact zckr_at _ zok_M_clause_0 k (by omega) (by omega)
  rcases Nat.lt_or_ge k 96 with q48 | q48
  · exact zckr_at _ zok_M_clause_48 k (by omega) (by omega)
  exact zcm_out (n := 6) (Nat.le_of_ble_eq_true rfl) (by omega)
