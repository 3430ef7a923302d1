/-! the check holds, method by method -/
theorem zok_M_settleRing_0 : zckr 259 0 48 = true := by decide +kernel
theorem zok_M_settleRing_48 : zckr 259 48 16 = true := by decide +kernel
theorem zcm_M_settleRing : zcm 259 := by
  intro k
  rcases Nat.lt_or_ge k 48 with q0 | q0
  · exact zckr_at _ zok_M_settleRing_0 k (by omega) (by omega)
  rcases Nat.lt_or_ge k 64 with q48 | q48
  · exact zckr_at _ zok_M_settleRing_48 k (by omega) (by omega)
  exact zcm_out (n := 4) (Nat.le_of_ble_eq_true rfl) (by omega)
theorem zok_M_paysOf_0 : zckr 260 0 16 = true := by decide +kernel
theorem zcm_M_paysOf : zcm 260 := by
  intro k
  rcases Nat.lt_or_ge k 16 with q0 | q0
  · exact zckr_at _ zok_M_paysOf_0 k (by omega) (by omega)
  exact zcm_out (n := 1) (Nat.le_of_ble_eq_true rfl) (by omega)
theorem zok_M_anew_0 : zckr 261 0 32 = true := by decide +kernel
theorem zcm_M_anew : zcm 261 := by
  intro k
  rcases Nat.lt_or_ge k 32 with q0 | q0
  · exact zckr_at _ zok_M_anew_0 k (by omega) (by omega)
  exact zcm_out (n := 2) (Nat.le_of_ble_eq_true rfl) (by omega)
theorem zok_M_write_0 : zckr 262 0 48 = true := by decide +kernel
theorem zok_M_write_48 : zckr 262 48 32 = true := by decide +kernel
theorem zcm_M_write : zcm 262 := by
  intro k
  rcases Nat.lt_or_ge k 48 with q0 | q0
  · exact zckr_at _ zok_M_write_0 k (by omega) (by omega)
  rcases Nat.lt_or_ge k 80 with q48 | q48
  · exact zckr_at _ zok_M_write_48 k (by omega) (by omega)
  exact zcm_out (n := 5) (Nat.le_of_ble_eq_true rfl) (by omega)
theorem zok_M_played_0 : zckr 263 0 48 = true := by decide +kernel
theorem zcm_M_played : zcm 263 := by
  intro k
  rcases Nat.lt_or_ge k 48 with q0 | q0
  · exact zckr_at _ zok_M_played_0 k (by omega) (by omega)
  exact zcm_out (n := 3) (Nat.le_of_ble_eq_true rfl) (by omega)
theorem zok_M_isPlayed_0 : zckr 264 0 48 = true := by decide +kernel
theorem zok_M_isPlayed_48 : zckr 264 48 32 = true := by decide +kernel
theorem zcm_M_isPlayed : zcm 264 := by
  intro k
  rcases Nat.lt_or_ge k 48 with q0 | q0
  · exact zckr_at _ zok_M_isPlayed_0 k (by omega) (by omega)
  rcases Nat.lt_or_ge k 80 with q48 | q48
  · exact zckr_at _ zok_M_isPlayed_48 k (by omega) (by omega)
  exact zcm_out (n := 5) (Nat.le_of_ble_eq_true rfl) (by omega)
theorem zok_M_winters_0 : zckr 265 0 48 = true := by decide +kernel
theorem zcm_M_winters : zcm 265 := by
  intro k
  rcases Nat.lt_or_ge k 48 with q0 | q0
  · exact zckr_at _ zok_M_winters_0 k (by omega) (by omega)
  exact zcm_out (n := 3) (Nat.le_of_ble_eq_true rfl) (by omega)
theorem zok_M_happens_0 : zckr 266 0 48 = true := by decide +kernel
theorem zok_M_happens_48 : zckr 266 48 48 = true := by decide +kernel
theorem zok_M_happens_96 : zckr 266 96 16 = true := by decide +kernel
theorem zcm_M_happens : zcm 266 := by
  intro k
  rcases Nat.lt_or_ge k 48 with q0 | q0
  · exact zckr_at _ zok_M_happens_0 k (by omega) (by omega)
  rcases Nat.lt_or_ge k 96 with q48 | q48
  · exact zckr_at _ zok_M_happens_48 k (by omega) (by omega)
  rcases Nat.lt_or_ge k 112 with q96 | q96
  · exact zckr_at _ zok_M_happens_96 k (by omega) (by omega)
  exact zcm_out (n := 7) (Nat.le_of_ble_eq_true rfl) (by omega)
theorem zok_M_of_0 : zckr 267 0 48 = true := by decide +kernel
theorem zcm_M_of : zcm 267 := by
  intro k
  rcases Nat.lt_or_ge k 48 with q0 | q0
  · exact zckr_at _ zok_M_of_0 k (by omega) (by omega)
  exact zcm_out (n := 3) (Nat.le_of_ble_eq_true rfl) (by omega)
theorem zok_M_ageOf_0 : zckr 268 0 48 = true := by decide +kernel
theorem zcm_M_ageOf : zcm 268 := by
  intro k
  rcases Nat.lt_or_ge k 48 with q0 | q0
  · exact zckr_at _ zok_M_ageOf_0 k (by omega) (by omega)
  exact zcm_out (n := 3) (Nat.le_of_ble_eq_true rfl) (by omega)
theorem zok_M_agesOf_0 : zckr 269 0 32 = true := by decide +kernel
theorem zcm_M_agesOf : zcm 269 := by
  intro k
  rcases Nat.lt_or_ge k 32 with q0 | q0
  · exact zckr_at _ zok_M_agesOf_0 k (by omega) (by omega)
  exact zcm_out (n := 2) (Nat.le_of_ble_eq_true rfl) (by omega)
theorem zok_M_yearsBy_0 : zckr 270 0 32 = true := by decide +kernel
theorem zcm_M_yearsBy : zcm 270 := by
  intro k
  rcases Nat.lt_or_ge k 32 with q0 | q0
  · exact zckr_at _ zok_M_yearsBy_0 k (by omega) (by omega)
  exact zcm_out (n := 2) (Nat.le_of_ble_eq_true rfl) (by omega)
theorem zok_M_kindsOf_0 : zckr 271 0 32 = true := by decide +kernel
theorem zcm_M_kindsOf : zcm 271 := by
  intro k
  rcases Nat.lt_or_ge k 32 with q0 | q0
  · exact zckr_at _ zok_M_kindsOf_0 k (by omega) (by omega)
  exact zcm_out (n := 2) (Nat.le_of_ble_eq_true rfl) (by omega)
theorem zok_M_ofOak_0 : zckr 272 0 48 = true := by decide +kernel
theorem zcm_M_ofOak : zcm 272 := by
  intro k
  rcases Nat.lt_or_ge k 48 with q0 | q0
  · exact zckr_at _ zok_M_ofOak_0 k (by omega) (by omega)
  exact zcm_out (n := 3) (Nat.le_of_ble_eq_true rfl) (by omega)
theorem zok_M_lent_0 : zckr 273 0 32 = true := by decide +kernel
theorem zcm_M_lent : zcm 273 := by
  intro k
  rcases Nat.lt_or_ge k 32 with q0 | q0
  · exact zckr_at _ zok_M_lent_0 k (by omega) (by omega)
  exact zcm_out (n := 2) (Nat.le_of_ble_eq_true rfl) (by omega)
theorem zok_M_ring_0 : zckr 274 0 32 = true := by decide +kernel
theorem zcm_M_ring : zcm 274 := by
  intro k
  rcases Nat.lt_or_ge k 32 with q0 | q0
  · exact zckr_at _ zok_M_ring_0 k (by omega) (by omega)
  exact zcm_out (n := 2) (Nat.le_of_ble_eq_true rfl) (by omega)
theorem zok_M_lends_0 : zckr 275 0 32 = true := by decide +kernel
theorem zcm_M_lends : zcm 275 := by
  intro k
  rcases Nat.lt_or_ge k 32 with q0 | q0
  · exact zckr_at _ zok_M_lends_0 k (by omega) (by omega)
  exact zcm_out (n := 2) (Nat.le_of_ble_eq_true rfl) (by omega)
theorem zok_M_pays_0 : zckr 276 0 32 = true := by decide +kernel
theorem zcm_M_pays : zcm 276 := by
  intro k
  rcases Nat.lt_or_ge k 32 with q0 | q0
  · exact zckr_at _ zok_M_pays_0 k (by omega) (by omega)
  exact zcm_out (n := 2) (Nat.le_of_ble_eq_true rfl) (by omega)
theorem zok_M_kindOf_0 : zckr 277 0 16 = true := by decide +kernel
theorem zcm_M_kindOf : zcm 277 := by
  intro k
  rcases Nat.lt_or_ge k 16 with q0 | q0
  · exact zckr_at _ zok_M_kindOf_0 k (by omega) (by omega)
  exact zcm_out (n := 1) (Nat.le_of_ble_eq_true rfl) (by omega)
theorem zok_M_is_0 : zckr 278 0 32 = true := by decide +kernel
theorem zcm_M_is : zcm 278 := by
  intro k
  rcases Nat.lt_or_ge k 32 with q0 | q0
  · exact zckr_at _ zok_M_is_0 k (by omega) (by omega)
  exact zcm_out (n := 2) (Nat.le_of_ble_eq_true rfl) (by omega)
theorem zok_M_book_0 : zckr 279 0 32 = true := by decide +kernel
theorem zcm_M_book : zcm 279 := by
  intro k
  rcases Nat.lt_or_ge k 32 with q0 | q0
  · exact zckr_at _ zok_M_book_0 k (by omega) (by omega)
  exact zcm_out (n := 2) (Nat.le_of_ble_eq_true rfl) (by omega)
theorem zok_M_entry_0 : zckr 280 0 48 = true := by decide +kernel
theorem zcm_M_entry : zcm 280 := by
  intro k
  rcases Nat.lt_or_ge k 48 with q0 | q0
  · exact zckr_at _ zok_M_entry_0 k (by omega) (by omega)
  exact zcm_out (n := 3) (Nat.le_of_ble_eq_true rfl) (by omega)
theorem zok_M_ledger_0 : zckr 281 0 48 = true := by decide +kernel
theorem zcm_M_ledger : zcm 281 := by
  intro k
  rcases Nat.lt_or_ge k 48 with q0 | q0
  · exact zckr_at _ zok_M_ledger_0 k (by omega) (by omega)
  exact zcm_out (n := 3) (Nat.le_of_ble_eq_true rfl) (by omega)
theorem zok_M_eldest_0 : zckr 282 0 48 = true := by decide +kernel
theorem zcm_M_eldest : zcm 282 := by
  intro k
  rcases Nat.lt_or_ge k 48 with q0 | q0
  · exact zckr_at _ zok_M_eldest_0 k (by omega) (by omega)
  exact zcm_out (n := 3) (Nat.le_of_ble_eq_true rfl) (by omega)
theorem zok_M_left_0 : zckr 283 0 48 = true := by decide +kernel
theorem zcm_M_left : zcm 283 := by
  intro k
  rcases Nat.lt_or_ge k 48 with q0 | q0
  · exact zckr_at _ zok_M_left_0 k (by omega) (by omega)
  exact zcm_out (n := 3) (Nat.le_of_ble_eq_true rfl) (by omega)
theorem zok_M_count_0 : zckr 284 0 32 = true := by decide +kernel
theorem zcm_M_count : zcm 284 := by
  intro k
  rcases Nat.lt_or_ge k 32 with q0 | q0
  · exact zckr_at _ zok_M_count_0 k (by omega) (by omega)
  exact zcm_out (n := 2) (Nat.le_of_ble_eq_true rfl) (by omega)
theorem zok_M_ofKind_0 : zckr 285 0 32 = true := by decide +kernel
theorem zcm_M_ofKind : zcm 285 := by
  intro k
  rcases Nat.lt_or_ge k 32 with q0 | q0
  · exact zckr_at _ zok_M_ofKind_0 k (by omega) (by omega)
  exact zcm_out (n := 2) (Nat.le_of_ble_eq_true rfl) (by omega)
theorem zok_M_fenced_0 : zckr 286 0 32 = true := by decide +kernel
theorem zcm_M_fenced : zcm 286 := by
  intro k
  rcases Nat.lt_or_ge k 32 with q0 | q0
  · exact zckr_at _ zok_M_fenced_0 k (by omega) (by omega)
  exact zcm_out (n := 2) (Nat.le_of_ble_eq_true rfl) (by omega)
theorem zok_M_bare_0 : zckr 287 0 32 = true := by decide +kernel
theorem zcm_M_bare : zcm 287 := by
  intro k
  rcases Nat.lt_or_ge k 32 with q0 | q0
  · exact zckr_at _ zok_M_bare_0 k (by omega) (by omega)
  exact zcm_out (n := 2) (Nat.le_of_ble_eq_true rfl) (by omega)
theorem zok_M_fires_0 : zckr 288 0 32 = true := by decide +kernel
theorem zcm_M_fires : zcm 288 := by
  intro k
  rcases Nat.lt_or_ge k 32 with q0 | q0
  · exact zckr_at _ zok_M_fires_0 k (by omega) (by omega)
  exact zcm_out (n := 2) (Nat.le_of_ble_eq_true rfl) (by omega)
theorem zok_M_foretold_0 : zckr 289 0 48 = true := by decide +kernel
theorem zok_M_foretold_48 : zckr 289 48 48 = true := by decide +kernel
theorem zok_M_foretold_96 : zckr 289 96 16 = true := by decide +kernel
theorem zcm_M_foretold : zcm 289 := by
  intro k
  rcases Nat.lt_or_ge k 48 with q0 | q0
  · exact zckr_at _ zok_M_foretold_0 k (by omega) (by omega)
  rcases Nat.lt_or_ge k 96 with q48 | q48
  · exact zckr_at _ zok_M_foretold_48 k (by omega) (by omega)
  rcases Nat.lt_or_ge k 112 with q96 | q96
  · exact zckr_at _ zok_M_foretold_96 k (by omega) (by omega)
  exact zcm_out (n := 7) (Nat.le_of_ble_eq_true rfl) (by omega)
theorem zok_M_same_0 : zckr 290 0 32 = true := by decide +kernel
theorem zcm_M_same : zcm 290 := by
  intro k
  rcases Nat.lt_or_ge k 32 with q0 | q0
  · exact zckr_at _ zok_M_same_0 k (by omega) (by omega)
  exact zcm_out (n := 2) (Nat.le_of_ble_eq_true rfl) (by omega)
theorem zok_M_kin_0 : zckr 291 0 48 = true := by decide +kernel
theorem zok_M_kin_48 : zckr 291 48 16 = true := by decide +kernel
theorem zcm_M_kin : zcm 291 := by
  intro k
  rcases Nat.lt_or_ge k 48 with q0 | q0
  · exact zckr_at _ zok_M_kin_0 k (by omega) (by omega)
  rcases Nat.lt_or_ge k 64 with q48 | q48
  · exact zckr_at _ zok_M_kin_48 k (by omega) (by omega)
  exact zcm_out (n := 4) (Nat.le_of_ble_eq_true rfl) (by omega)
theorem zok_M_twins_0 : zckr 292 0 48 = true := by decide +kernel
theorem zcm_M_twins : zcm 292 := by
  intro k
  rcases Nat.lt_or_ge k 48 with q0 | q0
  · exact zckr_at _ zok_M_twins_0 k (by omega) (by omega)
  exact zcm_out (n := 3) (Nat.le_of_ble_eq_true rfl) (by omega)
theorem zok_M_earliest_0 : zckr 293 0 32 = true := by decide +kernel
theorem zcm_M_earliest : zcm 293 := by
  intro k
  rcases Nat.lt_or_ge k 32 with q0 | q0
  · exact zckr_at _ zok_M_earliest_0 k (by omega) (by omega)
  exact zcm_out (n := 2) (Nat.le_of_ble_eq_true rfl) (by omega)
theorem zok_M_newest_0 : zckr 294 0 32 = true := by decide +kernel
theorem zcm_M_newest : zcm 294 := by
  intro k
  rcases Nat.lt_or_ge k 32 with q0 | q0
  · exact zckr_at _ zok_M_newest_0 k (by omega) (by omega)
  exact zcm_out (n := 2) (Nat.le_of_ble_eq_true rfl) (by omega)
theorem zok_M_wants_0 : zckr 295 0 32 = true := by decide +kernel
theorem zcm_M_wants : zcm 295 := by
  intro k
  rcases Nat.lt_or_ge k 32 with q0 | q0
  · exact zckr_at _ zok_M_wants_0 k (by omega) (by omega)
  exact zcm_out (n := 2) (Nat.le_of_ble_eq_true rfl) (by omega)
theorem zok_M_takes_0 : zckr 296 0 32 = true := by decide +kernel
theorem zcm_M_takes : zcm 296 := by
  intro k
  rcases Nat.lt_or_ge k 32 with q0 | q0
  · exact zckr_at _ zok_M_takes_0 k (by omega) (by omega)
  exact zcm_out (n := 2) (Nat.le_of_ble_eq_true rfl) (by omega)
theorem zok_M_able_0 : zckr 297 0 16 = true := by decide +kernel
theorem zcm_M_able : zcm 297 := by
  intro k
  rcases Nat.lt_or_ge k 16 with q0 | q0
  · exact zckr_at _ zok_M_able_0 k (by omega) (by omega)
  exact zcm_out (n := 1) (Nat.le_of_ble_eq_true rfl) (by omega)
theorem zok_M_layNeeds_0 : zckr 298 0 32 = true := by decide +kernel
theorem zcm_M_layNeeds : zcm 298 := by
  intro k
  rcases Nat.lt_or_ge k 32 with q0 | q0
  · exact zckr_at _ zok_M_layNeeds_0 k (by omega) (by omega)
  exact zcm_out (n := 2) (Nat.le_of_ble_eq_true rfl) (by omega)
theorem zok_M_needOf_0 : zckr 299 0 32 = true := by decide +kernel
theorem zcm_M_needOf : zcm 299 := by
  intro k
  rcases Nat.lt_or_ge k 32 with q0 | q0
  · exact zckr_at _ zok_M_needOf_0 k (by omega) (by omega)
  exact zcm_out (n := 2) (Nat.le_of_ble_eq_true rfl) (by omega)
theorem zok_M_lentOf_0 : zckr 300 0 48 = true := by decide +kernel
theorem zok_M_lentOf_48 : zckr 300 48 16 = true := by decide +kernel
theorem zcm_M_lentOf : zcm 300 := by
  intro k
  rcases Nat.lt_or_ge k 48 with q0 | q0
  · exact zckr_at _ zok_M_lentOf_0 k (by omega) (by omega)
  rcases Nat.lt_or_ge k 64 with q48 | q48
  · exact zckr_at _ zok_M_lentOf_48 k (by omega) (by omega)
  exact zcm_out (n := 4) (Nat.le_of_ble_eq_true rfl) (by omega)
theorem zok_M_allPersons_0 : zckr 301 0 16 = true := by decide +kernel
theorem zcm_M_allPersons : zcm 301 := by
  intro k
  rcases Nat.lt_or_ge k 16 with q0 | q0
  · exact zckr_at _ zok_M_allPersons_0 k (by omega) (by omega)
  exact zcm_out (n := 1) (Nat.le_of_ble_eq_true rfl) (by omega)
theorem zok_M_ableOf_0 : zckr 302 0 48 = true := by decide +kernel
theorem zcm_M_ableOf : zcm 302 := by
  intro k
  rcases Nat.lt_or_ge k 48 with q0 | q0
  · exact zckr_at _ zok_M_ableOf_0 k (by omega) (by omega)
  exact zcm_out (n := 3) (Nat.le_of_ble_eq_true rfl) (by omega)
theorem zok_M_needIn_0 : zckr 303 0 32 = true := by decide +kernel
theorem zcm_M_needIn : zcm 303 := by
  intro k
  rcases Nat.lt_or_ge k 32 with q0 | q0
  · exact zckr_at _ zok_M_needIn_0 k (by omega) (by omega)
  exact zcm_out (n := 2) (Nat.le_of_ble_eq_true rfl) (by omega)
theorem zok_M_couldFor_0 : zckr 304 0 32 = true := by decide +kernel
theorem zcm_M_couldFor : zcm 304 := by
  intro k
  rcases Nat.lt_or_ge k 32 with q0 | q0
  · exact zckr_at _ zok_M_couldFor_0 k (by omega) (by omega)
  exact zcm_out (n := 2) (Nat.le_of_ble_eq_true rfl) (by omega)
theorem zok_M_needs_0 : zckr 305 0 16 = true := by decide +kernel
theorem zcm_M_needs : zcm 305 := by
  intro k
  rcases Nat.lt_or_ge k 16 with q0 | q0
  · exact zckr_at _ zok_M_needs_0 k (by omega) (by omega)
  exact zcm_out (n := 1) (Nat.le_of_ble_eq_true rfl) (by omega)
theorem zok_M_block_0 : zckr 306 0 32 = true := by decide +kernel
theorem zcm_M_block : zcm 306 := by
  intro k
  rcases Nat.lt_or_ge k 32 with q0 | q0
  · exact zckr_at _ zok_M_block_0 k (by omega) (by omega)
  exact zcm_out (n := 2) (Nat.le_of_ble_eq_true rfl) (by omega)
theorem zok_M_plan_0 : zckr 307 0 32 = true := by decide +kernel
theorem zcm_M_plan : zcm 307 := by
  intro k
  rcases Nat.lt_or_ge k 32 with q0 | q0
  · exact zckr_at _ zok_M_plan_0 k (by omega) (by omega)
  exact zcm_out (n := 2) (Nat.le_of_ble_eq_true rfl) (by omega)
theorem zok_M_vote_0 : zckr 308 0 48 = true := by decide +kernel
theorem zok_M_vote_48 : zckr 308 48 48 = true := by decide +kernel
theorem zcm_M_vote : zcm 308 := by
  intro k
  rcases Nat.lt_or_ge k 48 with q0 | q0
  · exact zckr_at _ zok_M_vote_0 k (by omega) (by omega)
  rcases Nat.lt_or_ge k 96 with q48 | q48
  · exact zckr_at _ zok_M_vote_48 k (by omega) (by omega)
  exact zcm_out (n := 6) (Nat.le_of_ble_eq_true rfl) (by omega)
theorem zok_M_mark_0 : zckr 309 0 48 = true := by decide +kernel
theorem zcm_M_mark : zcm 309 := by
  intro k
  rcases Nat.lt_or_ge k 48 with q0 | q0
  · exact zckr_at _ zok_M_mark_0 k (by omega) (by omega)
  exact zcm_out (n := 3) (Nat.le_of_ble_eq_true rfl) (by omega)
theorem zok_M_dated_0 : zckr 310 0 48 = true := by decide +kernel
theorem zcm_M_dated : zcm 310 := by
  intro k
  rcases Nat.lt_or_ge k 48 with q0 | q0
  · exact zckr_at _ zok_M_dated_0 k (by omega) (by omega)
  exact zcm_out (n := 3) (Nat.le_of_ble_eq_true rfl) (by omega)
theorem zok_M_unlikeFrom_0 : zckr 311 0 48 = true := by decide +kernel
theorem zcm_M_unlikeFrom : zcm 311 := by
  intro k
  rcases Nat.lt_or_ge k 48 with q0 | q0
  · exact zckr_at _ zok_M_unlikeFrom_0 k (by omega) (by omega)
  exact zcm_out (n := 3) (Nat.le_of_ble_eq_true rfl) (by omega)
theorem zok_M_nearest_0 : zckr 312 0 32 = true := by decide +kernel
theorem zcm_M_nearest : zcm 312 := by
  intro k
  rcases Nat.lt_or_ge k 32 with q0 | q0
  · exact zckr_at _ zok_M_nearest_0 k (by omega) (by omega)
  exact zcm_out (n := 2) (Nat.le_of_ble_eq_true rfl) (by omega)
theorem zok_M_run_0 : zckr 313 0 48 = true := by decide +kernel
theorem zok_M_run_48 : zckr 313 48 16 = true := by decide +kernel
theorem zcm_M_run : zcm 313 := by
  intro k
  rcases Nat.lt_or_ge k 48 with q0 | q0
  · exact zckr_at _ zok_M_run_0 k (by omega) (by omega)
  rcases Nat.lt_or_ge k 64 with q48 | q48
  · exact zckr_at _ zok_M_run_48 k (by omega) (by omega)
  exact zcm_out (n := 4) (Nat.le_of_ble_eq_true rfl) (by omega)
theorem zok_M_alike_0 : zckr 314 0 32 = true := by decide +kernel
theorem zcm_M_alike : zcm 314 := by
  intro k
  rcases Nat.lt_or_ge k 32 with q0 | q0
  · exact zckr_at _ zok_M_alike_0 k (by omega) (by omega)
  exact zcm_out (n := 2) (Nat.le_of_ble_eq_true rfl) (by omega)
theorem zok_M_stands_0 : zckr 315 0 48 = true := by decide +kernel
theorem zok_M_stands_48 : zckr 315 48 48 = true := by decide +kernel
theorem zok_M_stands_96 : zckr 315 96 48 = true := by decide +kernel
theorem zcm_M_stands : zcm 315 := by
  intro k
  rcases Nat.lt_or_ge k 48 with q0 | q0
  · exact zckr_at _ zok_M_stands_0 k (by omega) (by omega)
  rcases Nat.lt_or_ge k 96 with q48 | q48
  · exact zckr_at _ zok_M_stands_48 k (by omega) (by omega)
  rcases Nat.lt_or_ge k 144 with q96 | q96
  · exact zckr_at _ zok_M_stands_96 k (by omega) (by omega)
  exact zcm_out (n := 9) (Nat.le_of_ble_eq_true rfl) (by omega)
theorem zok_M_divisor_0 : zckr 316 0 32 = true := by decide +kernel
theorem zcm_M_divisor : zcm 316 := by
  intro k
  rcases Nat.lt_or_ge k 32 with q0 | q0
  · exact zckr_at _ zok_M_divisor_0 k (by omega) (by omega)
  exact zcm_out (n := 2) (Nat.le_of_ble_eq_true rfl) (by omega)
theorem zok_M_expects_0 : zckr 317 0 48 = true := by decide +kernel
theorem zok_M_expects_48 : zckr 317 48 16 = true := by decide +kernel
theorem zcm_M_expects : zcm 317 := by
  intro k
  rcases Nat.lt_or_ge k 48 with q0 | q0
  · exact zckr_at _ zok_M_expects_0 k (by omega) (by omega)
  rcases Nat.lt_or_ge k 64 with q48 | q48
  · exact zckr_at _ zok_M_expects_48 k (by omega) (by omega)
  exact zcm_out (n := 4) (Nat.le_of_ble_eq_true rfl) (by omega)
