/-! the check holds, method by method -/
theorem zok_M_sortOf_0 : zckr 197 0 48 = true := by decide +kernel
theorem zok_M_sortOf_48 : zckr 197 48 48 = true := by decide +kernel
theorem zok_M_sortOf_96 : zckr 197 96 16 = true := by decide +kernel
theorem zcm_M_sortOf : zcm 197 := by
  intro k
  rcases Nat.lt_or_ge k 48 with q0 | q0
  · exact zckr_at _ zok_M_sortOf_0 k (by omega) (by omega)
  rcases Nat.lt_or_ge k 96 with q48 | q48
  · exact zckr_at _ zok_M_sortOf_48 k (by omega) (by omega)
  rcases Nat.lt_or_ge k 112 with q96 | q96
  · exact zckr_at _ zok_M_sortOf_96 k (by omega) (by omega)
  exact zcm_out (n := 7) (Nat.le_of_ble_eq_true rfl) (by omega)
theorem zok_M_w5_0 : zckr 198 0 16 = true := by decide +kernel
theorem zcm_M_w5 : zcm 198 := by
  intro k
  rcases Nat.lt_or_ge k 16 with q0 | q0
  · exact zckr_at _ zok_M_w5_0 k (by omega) (by omega)
  exact zcm_out (n := 1) (Nat.le_of_ble_eq_true rfl) (by omega)
theorem zok_M_w4_0 : zckr 199 0 16 = true := by decide +kernel
theorem zcm_M_w4 : zcm 199 := by
  intro k
  rcases Nat.lt_or_ge k 16 with q0 | q0
  · exact zckr_at _ zok_M_w4_0 k (by omega) (by omega)
  exact zcm_out (n := 1) (Nat.le_of_ble_eq_true rfl) (by omega)
theorem zok_M_w3_0 : zckr 200 0 16 = true := by decide +kernel
theorem zcm_M_w3 : zcm 200 := by
  intro k
  rcases Nat.lt_or_ge k 16 with q0 | q0
  · exact zckr_at _ zok_M_w3_0 k (by omega) (by omega)
  exact zcm_out (n := 1) (Nat.le_of_ble_eq_true rfl) (by omega)
theorem zok_M_w2_0 : zckr 201 0 16 = true := by decide +kernel
theorem zcm_M_w2 : zcm 201 := by
  intro k
  rcases Nat.lt_or_ge k 16 with q0 | q0
  · exact zckr_at _ zok_M_w2_0 k (by omega) (by omega)
  exact zcm_out (n := 1) (Nat.le_of_ble_eq_true rfl) (by omega)
theorem zok_M_isWord_0 : zckr 202 0 16 = true := by decide +kernel
theorem zcm_M_isWord : zcm 202 := by
  intro k
  rcases Nat.lt_or_ge k 16 with q0 | q0
  · exact zckr_at _ zok_M_isWord_0 k (by omega) (by omega)
  exact zcm_out (n := 1) (Nat.le_of_ble_eq_true rfl) (by omega)
theorem zok_M_w6_0 : zckr 203 0 16 = true := by decide +kernel
theorem zcm_M_w6 : zcm 203 := by
  intro k
  rcases Nat.lt_or_ge k 16 with q0 | q0
  · exact zckr_at _ zok_M_w6_0 k (by omega) (by omega)
  exact zcm_out (n := 1) (Nat.le_of_ble_eq_true rfl) (by omega)
theorem zok_M_body_0 : zckr 204 0 48 = true := by decide +kernel
theorem zok_M_body_48 : zckr 204 48 16 = true := by decide +kernel
theorem zcm_M_body : zcm 204 := by
  intro k
  rcases Nat.lt_or_ge k 48 with q0 | q0
  · exact zckr_at _ zok_M_body_0 k (by omega) (by omega)
  rcases Nat.lt_or_ge k 64 with q48 | q48
  · exact zckr_at _ zok_M_body_48 k (by omega) (by omega)
  exact zcm_out (n := 4) (Nat.le_of_ble_eq_true rfl) (by omega)
theorem zok_M_oakClause_0 : zckr 205 0 48 = true := by decide +kernel
theorem zok_M_oakClause_48 : zckr 205 48 16 = true := by decide +kernel
theorem zcm_M_oakClause : zcm 205 := by
  intro k
  rcases Nat.lt_or_ge k 48 with q0 | q0
  · exact zckr_at _ zok_M_oakClause_0 k (by omega) (by omega)
  rcases Nat.lt_or_ge k 64 with q48 | q48
  · exact zckr_at _ zok_M_oakClause_48 k (by omega) (by omega)
  exact zcm_out (n := 4) (Nat.le_of_ble_eq_true rfl) (by omega)
theorem zok_M_figure_0 : zckr 206 0 32 = true := by decide +kernel
theorem zcm_M_figure : zcm 206 := by
  intro k
  rcases Nat.lt_or_ge k 32 with q0 | q0
  · exact zckr_at _ zok_M_figure_0 k (by omega) (by omega)
  exact zcm_out (n := 2) (Nat.le_of_ble_eq_true rfl) (by omega)
theorem zok_M_pair_0 : zckr 207 0 32 = true := by decide +kernel
theorem zcm_M_pair : zcm 207 := by
  intro k
  rcases Nat.lt_or_ge k 32 with q0 | q0
  · exact zckr_at _ zok_M_pair_0 k (by omega) (by omega)
  exact zcm_out (n := 2) (Nat.le_of_ble_eq_true rfl) (by omega)
theorem zok_M_worded_0 : zckr 208 0 16 = true := by decide +kernel
theorem zcm_M_worded : zcm 208 := by
  intro k
  rcases Nat.lt_or_ge k 16 with q0 | q0
  · exact zckr_at _ zok_M_worded_0 k (by omega) (by omega)
  exact zcm_out (n := 1) (Nat.le_of_ble_eq_true rfl) (by omega)
theorem zok_M_lendClause_0 : zckr 209 0 32 = true := by decide +kernel
theorem zcm_M_lendClause : zcm 209 := by
  intro k
  rcases Nat.lt_or_ge k 32 with q0 | q0
  · exact zckr_at _ zok_M_lendClause_0 k (by omega) (by omega)
  exact zcm_out (n := 2) (Nat.le_of_ble_eq_true rfl) (by omega)
theorem zok_M_lawClause_0 : zckr 210 0 32 = true := by decide +kernel
theorem zcm_M_lawClause : zcm 210 := by
  intro k
  rcases Nat.lt_or_ge k 32 with q0 | q0
  · exact zckr_at _ zok_M_lawClause_0 k (by omega) (by omega)
  exact zcm_out (n := 2) (Nat.le_of_ble_eq_true rfl) (by omega)
theorem zok_M_summed_0 : zckr 211 0 48 = true := by decide +kernel
theorem zcm_M_summed : zcm 211 := by
  intro k
  rcases Nat.lt_or_ge k 48 with q0 | q0
  · exact zckr_at _ zok_M_summed_0 k (by omega) (by omega)
  exact zcm_out (n := 3) (Nat.le_of_ble_eq_true rfl) (by omega)
theorem zok_M_behindOne_0 : zckr 212 0 48 = true := by decide +kernel
theorem zok_M_behindOne_48 : zckr 212 48 48 = true := by decide +kernel
theorem zcm_M_behindOne : zcm 212 := by
  intro k
  rcases Nat.lt_or_ge k 48 with q0 | q0
  · exact zckr_at _ zok_M_behindOne_0 k (by omega) (by omega)
  rcases Nat.lt_or_ge k 96 with q48 | q48
  · exact zckr_at _ zok_M_behindOne_48 k (by omega) (by omega)
  exact zcm_out (n := 6) (Nat.le_of_ble_eq_true rfl) (by omega)
theorem zok_M_betweenOf_0 : zckr 213 0 48 = true := by decide +kernel
theorem zok_M_betweenOf_48 : zckr 213 48 16 = true := by decide +kernel
theorem zcm_M_betweenOf : zcm 213 := by
  intro k
  rcases Nat.lt_or_ge k 48 with q0 | q0
  · exact zckr_at _ zok_M_betweenOf_0 k (by omega) (by omega)
  rcases Nat.lt_or_ge k 64 with q48 | q48
  · exact zckr_at _ zok_M_betweenOf_48 k (by omega) (by omega)
  exact zcm_out (n := 4) (Nat.le_of_ble_eq_true rfl) (by omega)
theorem zok_M_openNow_0 : zckr 214 0 16 = true := by decide +kernel
theorem zcm_M_openNow : zcm 214 := by
  intro k
  rcases Nat.lt_or_ge k 16 with q0 | q0
  · exact zckr_at _ zok_M_openNow_0 k (by omega) (by omega)
  exact zcm_out (n := 1) (Nat.le_of_ble_eq_true rfl) (by omega)
theorem zok_M_openAt_0 : zckr 215 0 32 = true := by decide +kernel
theorem zcm_M_openAt : zcm 215 := by
  intro k
  rcases Nat.lt_or_ge k 32 with q0 | q0
  · exact zckr_at _ zok_M_openAt_0 k (by omega) (by omega)
  exact zcm_out (n := 2) (Nat.le_of_ble_eq_true rfl) (by omega)
theorem zok_M_isCompared_0 : zckr 216 0 32 = true := by decide +kernel
theorem zcm_M_isCompared : zcm 216 := by
  intro k
  rcases Nat.lt_or_ge k 32 with q0 | q0
  · exact zckr_at _ zok_M_isCompared_0 k (by omega) (by omega)
  exact zcm_out (n := 2) (Nat.le_of_ble_eq_true rfl) (by omega)
theorem zok_M_rank_0 : zckr 217 0 48 = true := by decide +kernel
theorem zcm_M_rank : zcm 217 := by
  intro k
  rcases Nat.lt_or_ge k 48 with q0 | q0
  · exact zckr_at _ zok_M_rank_0 k (by omega) (by omega)
  exact zcm_out (n := 3) (Nat.le_of_ble_eq_true rfl) (by omega)
theorem zok_M_compareOf_0 : zckr 218 0 48 = true := by decide +kernel
theorem zcm_M_compareOf : zcm 218 := by
  intro k
  rcases Nat.lt_or_ge k 48 with q0 | q0
  · exact zckr_at _ zok_M_compareOf_0 k (by omega) (by omega)
  exact zcm_out (n := 3) (Nat.le_of_ble_eq_true rfl) (by omega)
theorem zok_M_settle_0 : zckr 219 0 48 = true := by decide +kernel
theorem zok_M_settle_48 : zckr 219 48 16 = true := by decide +kernel
theorem zcm_M_settle : zcm 219 := by
  intro k
  rcases Nat.lt_or_ge k 48 with q0 | q0
  · exact zckr_at _ zok_M_settle_0 k (by omega) (by omega)
  rcases Nat.lt_or_ge k 64 with q48 | q48
  · exact zckr_at _ zok_M_settle_48 k (by omega) (by omega)
  exact zcm_out (n := 4) (Nat.le_of_ble_eq_true rfl) (by omega)
theorem zok_M_emit_0 : zckr 220 0 48 = true := by decide +kernel
theorem zcm_M_emit : zcm 220 := by
  intro k
  rcases Nat.lt_or_ge k 48 with q0 | q0
  · exact zckr_at _ zok_M_emit_0 k (by omega) (by omega)
  exact zcm_out (n := 3) (Nat.le_of_ble_eq_true rfl) (by omega)
theorem zok_M_partOf_0 : zckr 221 0 48 = true := by decide +kernel
theorem zok_M_partOf_48 : zckr 221 48 16 = true := by decide +kernel
theorem zcm_M_partOf : zcm 221 := by
  intro k
  rcases Nat.lt_or_ge k 48 with q0 | q0
  · exact zckr_at _ zok_M_partOf_0 k (by omega) (by omega)
  rcases Nat.lt_or_ge k 64 with q48 | q48
  · exact zckr_at _ zok_M_partOf_48 k (by omega) (by omega)
  exact zcm_out (n := 4) (Nat.le_of_ble_eq_true rfl) (by omega)
theorem zok_M_beginOne_0 : zckr 222 0 48 = true := by decide +kernel
theorem zok_M_beginOne_48 : zckr 222 48 48 = true := by decide +kernel
theorem zok_M_beginOne_96 : zckr 222 96 32 = true := by decide +kernel
theorem zcm_M_beginOne : zcm 222 := by
  intro k
  rcases Nat.lt_or_ge k 48 with q0 | q0
  · exact zckr_at _ zok_M_beginOne_0 k (by omega) (by omega)
  rcases Nat.lt_or_ge k 96 with q48 | q48
  · exact zckr_at _ zok_M_beginOne_48 k (by omega) (by omega)
  rcases Nat.lt_or_ge k 128 with q96 | q96
  · exact zckr_at _ zok_M_beginOne_96 k (by omega) (by omega)
  exact zcm_out (n := 8) (Nat.le_of_ble_eq_true rfl) (by omega)
theorem zok_M_nameOf_0 : zckr 223 0 48 = true := by decide +kernel
theorem zok_M_nameOf_48 : zckr 223 48 48 = true := by decide +kernel
theorem zcm_M_nameOf : zcm 223 := by
  intro k
  rcases Nat.lt_or_ge k 48 with q0 | q0
  · exact zckr_at _ zok_M_nameOf_0 k (by omega) (by omega)
  rcases Nat.lt_or_ge k 96 with q48 | q48
  · exact zckr_at _ zok_M_nameOf_48 k (by omega) (by omega)
  exact zcm_out (n := 6) (Nat.le_of_ble_eq_true rfl) (by omega)
theorem zok_M_opened_0 : zckr 224 0 32 = true := by decide +kernel
theorem zcm_M_opened : zcm 224 := by
  intro k
  rcases Nat.lt_or_ge k 32 with q0 | q0
  · exact zckr_at _ zok_M_opened_0 k (by omega) (by omega)
  exact zcm_out (n := 2) (Nat.le_of_ble_eq_true rfl) (by omega)
theorem zok_M_isAskAhead_0 : zckr 225 0 32 = true := by decide +kernel
theorem zcm_M_isAskAhead : zcm 225 := by
  intro k
  rcases Nat.lt_or_ge k 32 with q0 | q0
  · exact zckr_at _ zok_M_isAskAhead_0 k (by omega) (by omega)
  exact zcm_out (n := 2) (Nat.le_of_ble_eq_true rfl) (by omega)
theorem zok_M_fault_0 : zckr 226 0 16 = true := by decide +kernel
theorem zcm_M_fault : zcm 226 := by
  intro k
  rcases Nat.lt_or_ge k 16 with q0 | q0
  · exact zckr_at _ zok_M_fault_0 k (by omega) (by omega)
  exact zcm_out (n := 1) (Nat.le_of_ble_eq_true rfl) (by omega)
theorem zok_M_by_0 : zckr 227 0 32 = true := by decide +kernel
theorem zcm_M_by : zcm 227 := by
  intro k
  rcases Nat.lt_or_ge k 32 with q0 | q0
  · exact zckr_at _ zok_M_by_0 k (by omega) (by omega)
  exact zcm_out (n := 2) (Nat.le_of_ble_eq_true rfl) (by omega)
theorem zok_M_undo_0 : zckr 228 0 48 = true := by decide +kernel
theorem zok_M_undo_48 : zckr 228 48 48 = true := by decide +kernel
theorem zok_M_undo_96 : zckr 228 96 32 = true := by decide +kernel
theorem zcm_M_undo : zcm 228 := by
  intro k
  rcases Nat.lt_or_ge k 48 with q0 | q0
  · exact zckr_at _ zok_M_undo_0 k (by omega) (by omega)
  rcases Nat.lt_or_ge k 96 with q48 | q48
  · exact zckr_at _ zok_M_undo_48 k (by omega) (by omega)
  rcases Nat.lt_or_ge k 128 with q96 | q96
  · exact zckr_at _ zok_M_undo_96 k (by omega) (by omega)
  exact zcm_out (n := 8) (Nat.le_of_ble_eq_true rfl) (by omega)
theorem zok_M_get_0 : zckr 229 0 16 = true := by decide +kernel
theorem zcm_M_get : zcm 229 := by
  intro k
  rcases Nat.lt_or_ge k 16 with q0 | q0
  · exact zckr_at _ zok_M_get_0 k (by omega) (by omega)
  exact zcm_out (n := 1) (Nat.le_of_ble_eq_true rfl) (by omega)
theorem zok_M_lend_0 : zckr 230 0 32 = true := by decide +kernel
theorem zcm_M_lend : zcm 230 := by
  intro k
  rcases Nat.lt_or_ge k 32 with q0 | q0
  · exact zckr_at _ zok_M_lend_0 k (by omega) (by omega)
  exact zcm_out (n := 2) (Nat.le_of_ble_eq_true rfl) (by omega)
theorem zok_M_canLend_0 : zckr 231 0 32 = true := by decide +kernel
theorem zcm_M_canLend : zcm 231 := by
  intro k
  rcases Nat.lt_or_ge k 32 with q0 | q0
  · exact zckr_at _ zok_M_canLend_0 k (by omega) (by omega)
  exact zcm_out (n := 2) (Nat.le_of_ble_eq_true rfl) (by omega)
theorem zok_M_isRing_0 : zckr 232 0 16 = true := by decide +kernel
theorem zcm_M_isRing : zcm 232 := by
  intro k
  rcases Nat.lt_or_ge k 16 with q0 | q0
  · exact zckr_at _ zok_M_isRing_0 k (by omega) (by omega)
  exact zcm_out (n := 1) (Nat.le_of_ble_eq_true rfl) (by omega)
theorem zok_M_isOak_0 : zckr 233 0 16 = true := by decide +kernel
theorem zcm_M_isOak : zcm 233 := by
  intro k
  rcases Nat.lt_or_ge k 16 with q0 | q0
  · exact zckr_at _ zok_M_isOak_0 k (by omega) (by omega)
  exact zcm_out (n := 1) (Nat.le_of_ble_eq_true rfl) (by omega)
theorem zok_M_inside_0 : zckr 234 0 16 = true := by decide +kernel
theorem zcm_M_inside : zcm 234 := by
  intro k
  rcases Nat.lt_or_ge k 16 with q0 | q0
  · exact zckr_at _ zok_M_inside_0 k (by omega) (by omega)
  exact zcm_out (n := 1) (Nat.le_of_ble_eq_true rfl) (by omega)
theorem zok_M_yearsOf_0 : zckr 235 0 32 = true := by decide +kernel
theorem zcm_M_yearsOf : zcm 235 := by
  intro k
  rcases Nat.lt_or_ge k 32 with q0 | q0
  · exact zckr_at _ zok_M_yearsOf_0 k (by omega) (by omega)
  exact zcm_out (n := 2) (Nat.le_of_ble_eq_true rfl) (by omega)
theorem zok_M_bits_0 : zckr 236 0 16 = true := by decide +kernel
theorem zcm_M_bits : zcm 236 := by
  intro k
  rcases Nat.lt_or_ge k 16 with q0 | q0
  · exact zckr_at _ zok_M_bits_0 k (by omega) (by omega)
  exact zcm_out (n := 1) (Nat.le_of_ble_eq_true rfl) (by omega)
theorem zok_M_isPerson_0 : zckr 237 0 16 = true := by decide +kernel
theorem zcm_M_isPerson : zcm 237 := by
  intro k
  rcases Nat.lt_or_ge k 16 with q0 | q0
  · exact zckr_at _ zok_M_isPerson_0 k (by omega) (by omega)
  exact zcm_out (n := 1) (Nat.le_of_ble_eq_true rfl) (by omega)
theorem zok_M_lendsOf_0 : zckr 238 0 16 = true := by decide +kernel
theorem zcm_M_lendsOf : zcm 238 := by
  intro k
  rcases Nat.lt_or_ge k 16 with q0 | q0
  · exact zckr_at _ zok_M_lendsOf_0 k (by omega) (by omega)
  exact zcm_out (n := 1) (Nat.le_of_ble_eq_true rfl) (by omega)
theorem zok_M_name_0 : zckr 239 0 48 = true := by decide +kernel
theorem zok_M_name_48 : zckr 239 48 16 = true := by decide +kernel
theorem zcm_M_name : zcm 239 := by
  intro k
  rcases Nat.lt_or_ge k 48 with q0 | q0
  · exact zckr_at _ zok_M_name_0 k (by omega) (by omega)
  rcases Nat.lt_or_ge k 64 with q48 | q48
  · exact zckr_at _ zok_M_name_48 k (by omega) (by omega)
  exact zcm_out (n := 4) (Nat.le_of_ble_eq_true rfl) (by omega)
theorem zok_M_heldBy_0 : zckr 240 0 32 = true := by decide +kernel
theorem zcm_M_heldBy : zcm 240 := by
  intro k
  rcases Nat.lt_or_ge k 32 with q0 | q0
  · exact zckr_at _ zok_M_heldBy_0 k (by omega) (by omega)
  exact zcm_out (n := 2) (Nat.le_of_ble_eq_true rfl) (by omega)
theorem zok_M_says_0 : zckr 241 0 48 = true := by decide +kernel
theorem zcm_M_says : zcm 241 := by
  intro k
  rcases Nat.lt_or_ge k 48 with q0 | q0
  · exact zckr_at _ zok_M_says_0 k (by omega) (by omega)
  exact zcm_out (n := 3) (Nat.le_of_ble_eq_true rfl) (by omega)
theorem zok_M_summedUp_0 : zckr 242 0 48 = true := by decide +kernel
theorem zok_M_summedUp_48 : zckr 242 48 48 = true := by decide +kernel
theorem zok_M_summedUp_96 : zckr 242 96 48 = true := by decide +kernel
theorem zok_M_summedUp_144 : zckr 242 144 48 = true := by decide +kernel
theorem zok_M_summedUp_192 : zckr 242 192 16 = true := by decide +kernel
theorem zcm_M_summedUp : zcm 242 := by
  intro k
  rcases Nat.lt_or_ge k 48 with q0 | q0
  · exact zckr_at _ zok_M_summedUp_0 k (by omega) (by omega)
  rcases Nat.lt_or_ge k 96 with q48 | q48
  · exact zckr_at _ zok_M_summedUp_48 k (by omega) (by omega)
  rcases Nat.lt_or_ge k 144 with q96 | q96
  · exact zckr_at _ zok_M_summedUp_96 k (by omega) (by omega)
  rcases Nat.lt_or_ge k 192 with q144 | q144
  · exact zckr_at _ zok_M_summedUp_144 k (by omega) (by omega)
  rcases Nat.lt_or_ge k 208 with q192 | q192
  · exact zckr_at _ zok_M_summedUp_192 k (by omega) (by omega)
  exact zcm_out (n := 13) (Nat.le_of_ble_eq_true rfl) (by omega)
theorem zok_M_ofOne_0 : zckr 243 0 16 = true := by decide +kernel
theorem zcm_M_ofOne : zcm 243 := by
  intro k
  rcases Nat.lt_or_ge k 16 with q0 | q0
  · exact zckr_at _ zok_M_ofOne_0 k (by omega) (by omega)
  exact zcm_out (n := 1) (Nat.le_of_ble_eq_true rfl) (by omega)
theorem zok_M_rootOf_0 : zckr 244 0 32 = true := by decide +kernel
theorem zcm_M_rootOf : zcm 244 := by
  intro k
  rcases Nat.lt_or_ge k 32 with q0 | q0
  · exact zckr_at _ zok_M_rootOf_0 k (by omega) (by omega)
  exact zcm_out (n := 2) (Nat.le_of_ble_eq_true rfl) (by omega)
theorem zok_M_ringsOf_0 : zckr 245 0 32 = true := by decide +kernel
theorem zcm_M_ringsOf : zcm 245 := by
  intro k
  rcases Nat.lt_or_ge k 32 with q0 | q0
  · exact zckr_at _ zok_M_ringsOf_0 k (by omega) (by omega)
  exact zcm_out (n := 2) (Nat.le_of_ble_eq_true rfl) (by omega)
theorem zok_M_two_0 : zckr 246 0 32 = true := by decide +kernel
theorem zcm_M_two : zcm 246 := by
  intro k
  rcases Nat.lt_or_ge k 32 with q0 | q0
  · exact zckr_at _ zok_M_two_0 k (by omega) (by omega)
  exact zcm_out (n := 2) (Nat.le_of_ble_eq_true rfl) (by omega)
theorem zok_M_clip_0 : zckr 247 0 16 = true := by decide +kernel
theorem zcm_M_clip : zcm 247 := by
  intro k
  rcases Nat.lt_or_ge k 16 with q0 | q0
  · exact zckr_at _ zok_M_clip_0 k (by omega) (by omega)
  exact zcm_out (n := 1) (Nat.le_of_ble_eq_true rfl) (by omega)
theorem zok_M_isAsked_0 : zckr 248 0 48 = true := by decide +kernel
theorem zok_M_isAsked_48 : zckr 248 48 16 = true := by decide +kernel
theorem zcm_M_isAsked : zcm 248 := by
  intro k
  rcases Nat.lt_or_ge k 48 with q0 | q0
  · exact zckr_at _ zok_M_isAsked_0 k (by omega) (by omega)
  rcases Nat.lt_or_ge k 64 with q48 | q48
  · exact zckr_at _ zok_M_isAsked_48 k (by omega) (by omega)
  exact zcm_out (n := 4) (Nat.le_of_ble_eq_true rfl) (by omega)
theorem zok_M_joined_0 : zckr 249 0 32 = true := by decide +kernel
theorem zcm_M_joined : zcm 249 := by
  intro k
  rcases Nat.lt_or_ge k 32 with q0 | q0
  · exact zckr_at _ zok_M_joined_0 k (by omega) (by omega)
  exact zcm_out (n := 2) (Nat.le_of_ble_eq_true rfl) (by omega)
theorem zok_M_cut_0 : zckr 250 0 32 = true := by decide +kernel
theorem zcm_M_cut : zcm 250 := by
  intro k
  rcases Nat.lt_or_ge k 32 with q0 | q0
  · exact zckr_at _ zok_M_cut_0 k (by omega) (by omega)
  exact zcm_out (n := 2) (Nat.le_of_ble_eq_true rfl) (by omega)
theorem zok_M_keep_0 : zckr 251 0 48 = true := by decide +kernel
theorem zok_M_keep_48 : zckr 251 48 48 = true := by decide +kernel
theorem zok_M_keep_96 : zckr 251 96 16 = true := by decide +kernel
theorem zcm_M_keep : zcm 251 := by
  intro k
  rcases Nat.lt_or_ge k 48 with q0 | q0
  · exact zckr_at _ zok_M_keep_0 k (by omega) (by omega)
  rcases Nat.lt_or_ge k 96 with q48 | q48
  · exact zckr_at _ zok_M_keep_48 k (by omega) (by omega)
  rcases Nat.lt_or_ge k 112 with q96 | q96
  · exact zckr_at _ zok_M_keep_96 k (by omega) (by omega)
  exact zcm_out (n := 7) (Nat.le_of_ble_eq_true rfl) (by omega)
theorem zok_M_returned_0 : zckr 252 0 16 = true := by decide +kernel
theorem zcm_M_returned : zcm 252 := by
  intro k
  rcases Nat.lt_or_ge k 16 with q0 | q0
  · exact zckr_at _ zok_M_returned_0 k (by omega) (by omega)
  exact zcm_out (n := 1) (Nat.le_of_ble_eq_true rfl) (by omega)
theorem zok_M_isLent_0 : zckr 253 0 16 = true := by decide +kernel
theorem zcm_M_isLent : zcm 253 := by
  intro k
  rcases Nat.lt_or_ge k 16 with q0 | q0
  · exact zckr_at _ zok_M_isLent_0 k (by omega) (by omega)
  exact zcm_out (n := 1) (Nat.le_of_ble_eq_true rfl) (by omega)
theorem zok_M_pass_0 : zckr 254 0 32 = true := by decide +kernel
theorem zcm_M_pass : zcm 254 := by
  intro k
  rcases Nat.lt_or_ge k 32 with q0 | q0
  · exact zckr_at _ zok_M_pass_0 k (by omega) (by omega)
  exact zcm_out (n := 2) (Nat.le_of_ble_eq_true rfl) (by omega)
theorem zok_M_canPass_0 : zckr 255 0 32 = true := by decide +kernel
theorem zcm_M_canPass : zcm 255 := by
  intro k
  rcases Nat.lt_or_ge k 32 with q0 | q0
  · exact zckr_at _ zok_M_canPass_0 k (by omega) (by omega)
  exact zcm_out (n := 2) (Nat.le_of_ble_eq_true rfl) (by omega)
theorem zok_M_day_0 : zckr 256 0 32 = true := by decide +kernel
theorem zcm_M_day : zcm 256 := by
  intro k
  rcases Nat.lt_or_ge k 32 with q0 | q0
  · exact zckr_at _ zok_M_day_0 k (by omega) (by omega)
  exact zcm_out (n := 2) (Nat.le_of_ble_eq_true rfl) (by omega)
theorem zok_M_arePassed_0 : zckr 257 0 32 = true := by decide +kernel
theorem zcm_M_arePassed : zcm 257 := by
  intro k
  rcases Nat.lt_or_ge k 32 with q0 | q0
  · exact zckr_at _ zok_M_arePassed_0 k (by omega) (by omega)
  exact zcm_out (n := 2) (Nat.le_of_ble_eq_true rfl) (by omega)
theorem zok_M_passDay_0 : zckr 258 0 48 = true := by decide +kernel
theorem zcm_M_passDay : zcm 258 := by
  intro k
  rcases Nat.lt_or_ge k 48 with q0 | q0
  · exact zckr_at _ zok_M_passDay_0 k (by omega) (by omega)
  exact zcm_out (n := 3) (Nat.le_of_ble_eq_true rfl) (by omega)
