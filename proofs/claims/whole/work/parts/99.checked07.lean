/-! the check holds, method by method -/
theorem zmo_1 : zmokr 1 16 = true := by decide +kernel
theorem zmo_17 : zmokr 17 16 = true := by decide +kernel
theorem zmo_33 : zmokr 33 16 = true := by decide +kernel
theorem zmo_49 : zmokr 49 16 = true := by decide +kernel
theorem zmo_65 : zmokr 65 16 = true := by decide +kernel
theorem zmo_81 : zmokr 81 16 = true := by decide +kernel
theorem zmo_97 : zmokr 97 16 = true := by decide +kernel
theorem zmo_113 : zmokr 113 16 = true := by decide +kernel
theorem zmo_129 : zmokr 129 16 = true := by decide +kernel
theorem zmo_145 : zmokr 145 16 = true := by decide +kernel
theorem zmo_161 : zmokr 161 16 = true := by decide +kernel
theorem zmo_177 : zmokr 177 16 = true := by decide +kernel
theorem zmo_193 : zmokr 193 16 = true := by decide +kernel
theorem zmo_209 : zmokr 209 16 = true := by decide +kernel
theorem zmo_225 : zmokr 225 16 = true := by decide +kernel
theorem zmo_241 : zmokr 241 16 = true := by decide +kernel
theorem zmo_257 : zmokr 257 16 = true := by decide +kernel
theorem zmo_273 : zmokr 273 16 = true := by decide +kernel
theorem zmo_289 : zmokr 289 16 = true := by decide +kernel
theorem zmo_305 : zmokr 305 16 = true := by decide +kernel
theorem zmo_321 : zmokr 321 8 = true := by decide +kernel
theorem zmoks {k : Nat} (h0 : 0 < k) (h : k < 329) : zmok k = true := by
  rcases Nat.lt_or_ge k 17 with q1 | q1
  · exact zmokr_at _ zmo_1 k (by omega) (by omega)
  rcases Nat.lt_or_ge k 33 with q17 | q17
  · exact zmokr_at _ zmo_17 k (by omega) (by omega)
  rcases Nat.lt_or_ge k 49 with q33 | q33
  · exact zmokr_at _ zmo_33 k (by omega) (by omega)
  rcases Nat.lt_or_ge k 65 with q49 | q49
  · exact zmokr_at _ zmo_49 k (by omega) (by omega)
  rcases Nat.lt_or_ge k 81 with q65 | q65
  · exact zmokr_at _ zmo_65 k (by omega) (by omega)
  rcases Nat.lt_or_ge k 97 with q81 | q81
  · exact zmokr_at _ zmo_81 k (by omega) (by omega)
  rcases Nat.lt_or_ge k 113 with q97 | q97
  · exact zmokr_at _ zmo_97 k (by omega) (by omega)
  rcases Nat.lt_or_ge k 129 with q113 | q113
  · exact zmokr_at _ zmo_113 k (by omega) (by omega)
  rcases Nat.lt_or_ge k 145 with q129 | q129
  · exact zmokr_at _ zmo_129 k (by omega) (by omega)
  rcases Nat.lt_or_ge k 161 with q145 | q145
  · exact zmokr_at _ zmo_145 k (by omega) (by omega)
  rcases Nat.lt_or_ge k 177 with q161 | q161
  · exact zmokr_at _ zmo_161 k (by omega) (by omega)
  rcases Nat.lt_or_ge k 193 with q177 | q177
  · exact zmokr_at _ zmo_177 k (by omega) (by omega)
  rcases Nat.lt_or_ge k 209 with q193 | q193
  · exact zmokr_at _ zmo_193 k (by omega) (by omega)
  rcases Nat.lt_or_ge k 225 with q209 | q209
  · exact zmokr_at _ zmo_209 k (by omega) (by omega)
  rcases Nat.lt_or_ge k 241 with q225 | q225
  · exact zmokr_at _ zmo_225 k (by omega) (by omega)
  rcases Nat.lt_or_ge k 257 with q241 | q241
  · exact zmokr_at _ zmo_241 k (by omega) (by omega)
  rcases Nat.lt_or_ge k 273 with q257 | q257
  · exact zmokr_at _ zmo_257 k (by omega) (by omega)
  rcases Nat.lt_or_ge k 289 with q273 | q273
  · exact zmokr_at _ zmo_273 k (by omega) (by omega)
  rcases Nat.lt_or_ge k 305 with q289 | q289
  · exact zmokr_at _ zmo_289 k (by omega) (by omega)
  rcases Nat.lt_or_ge k 321 with q305 | q305
  · exact zmokr_at _ zmo_305 k (by omega) (by omega)
  rcases Nat.lt_or_ge k 329 with q321 | q321
  · exact zmokr_at _ zmo_321 k (by omega) (by omega)
  omega
