/-! the check holds, method by method -/
theorem zcms : ∀ j, j < 329 → zcm j := by
  intro j hj
  rcases Nat.lt_or_ge j 164 with h | h
  · skip
    rcases Nat.lt_or_ge j 82 with h | h
    · skip
      rcases Nat.lt_or_ge j 41 with h | h
      · skip
        rcases Nat.lt_or_ge j 20 with h | h
        · skip
          rcases Nat.lt_or_ge j 10 with h | h
          · skip
            rcases Nat.lt_or_ge j 5 with h | h
            · skip
              rcases Nat.lt_or_ge j 2 with h | h
              · skip
                rcases Nat.lt_or_ge j 1 with h | h
                · skip
                  obtain rfl : j = 0 := by omega
                  exact zcm_Law_law
                · skip
                  obtain rfl : j = 1 := by omega
                  exact zcm_Integer_bitCount
              · skip
                rcases Nat.lt_or_ge j 3 with h | h
                · skip
                  obtain rfl : j = 2 := by omega
                  exact zcm_String_charAt
                · skip
                  rcases Nat.lt_or_ge j 4 with h | h
                  · skip
                    obtain rfl : j = 3 := by omega
                    exact zcm_String_isLatin1
                  · skip
                    obtain rfl : j = 4 := by omega
                    exact zcm_String_checkIndex
            · skip
              rcases Nat.lt_or_ge j 7 with h | h
              · skip
                rcases Nat.lt_or_ge j 6 with h | h
                · skip
                  obtain rfl : j = 5 := by omega
                  exact zcm_String_indexOf
                · skip
                  obtain rfl : j = 6 := by omega
                  exact zcm_String_indexOf2
              · skip
                rcases Nat.lt_or_ge j 8 with h | h
                · skip
                  obtain rfl : j = 7 := by omega
                  exact zcm_String_length
                · skip
                  rcases Nat.lt_or_ge j 9 with h | h
                  · skip
                    obtain rfl : j = 8 := by omega
                    exact zcm_String_coder
                  · skip
                    obtain rfl : j = 9 := by omega
                    exact zcm_StringLatin1_charAt
          · skip
            rcases Nat.lt_or_ge j 15 with h | h
            · skip
              rcases Nat.lt_or_ge j 12 with h | h
              · skip
                rcases Nat.lt_or_ge j 11 with h | h
                · skip
                  obtain rfl : j = 10 := by omega
                  exact zcm_StringLatin1_indexOf
                · skip
                  obtain rfl : j = 11 := by omega
                  exact zcm_StringLatin1_canEncode
              · skip
                rcases Nat.lt_or_ge j 13 with h | h
                · skip
                  obtain rfl : j = 12 := by omega
                  exact zcm_StringLatin1_indexOfChar
                · skip
                  rcases Nat.lt_or_ge j 14 with h | h
                  · skip
                    obtain rfl : j = 13 := by omega
                    exact zcm_Arrays_copyOf
                  · skip
                    obtain rfl : j = 14 := by omega
                    exact zcm_Preconditions_checkIndex
            · skip
              rcases Nat.lt_or_ge j 17 with h | h
              · skip
                rcases Nat.lt_or_ge j 16 with h | h
                · skip
                  obtain rfl : j = 15 := by omega
                  exact zcm_X_init
                · skip
                  obtain rfl : j = 16 := by omega
                  exact zcm_X_oak
              · skip
                rcases Nat.lt_or_ge j 18 with h | h
                · skip
                  obtain rfl : j = 17 := by omega
                  exact zcm_X_hasRoom
                · skip
                  rcases Nat.lt_or_ge j 19 with h | h
                  · skip
                    obtain rfl : j = 18 := by omega
                    exact zcm_X_year
                  · skip
                    obtain rfl : j = 19 := by omega
                    exact zcm_X_isYear
        · skip
          rcases Nat.lt_or_ge j 30 with h | h
          · skip
            rcases Nat.lt_or_ge j 25 with h | h
            · skip
              rcases Nat.lt_or_ge j 22 with h | h
              · skip
                rcases Nat.lt_or_ge j 21 with h | h
                · skip
                  obtain rfl : j = 20 := by omega
                  exact zcm_X_isKind
                · skip
                  obtain rfl : j = 21 := by omega
                  exact zcm_X_person
              · skip
                rcases Nat.lt_or_ge j 23 with h | h
                · skip
                  obtain rfl : j = 22 := by omega
                  exact zcm_X_isAge
                · skip
                  rcases Nat.lt_or_ge j 24 with h | h
                  · skip
                    obtain rfl : j = 23 := by omega
                    exact zcm_X_feed
                  · skip
                    obtain rfl : j = 24 := by omega
                    exact zcm_X_putOnTape
            · skip
              rcases Nat.lt_or_ge j 27 with h | h
              · skip
                rcases Nat.lt_or_ge j 26 with h | h
                · skip
                  obtain rfl : j = 25 := by omega
                  exact zcm_X_end
                · skip
                  obtain rfl : j = 26 := by omega
                  exact zcm_X_text
              · skip
                rcases Nat.lt_or_ge j 28 with h | h
                · skip
                  obtain rfl : j = 27 := by omega
                  exact zcm_X_fault
                · skip
                  rcases Nat.lt_or_ge j 29 with h | h
                  · skip
                    obtain rfl : j = 28 := by omega
                    exact zcm_X_by
                  · skip
                    obtain rfl : j = 29 := by omega
                    exact zcm_X_lend
          · skip
            rcases Nat.lt_or_ge j 35 with h | h
            · skip
              rcases Nat.lt_or_ge j 32 with h | h
              · skip
                rcases Nat.lt_or_ge j 31 with h | h
                · skip
                  obtain rfl : j = 30 := by omega
                  exact zcm_X_canLend
                · skip
                  obtain rfl : j = 31 := by omega
                  exact zcm_X_returned
              · skip
                rcases Nat.lt_or_ge j 33 with h | h
                · skip
                  obtain rfl : j = 32 := by omega
                  exact zcm_X_pass
                · skip
                  rcases Nat.lt_or_ge j 34 with h | h
                  · skip
                    obtain rfl : j = 33 := by omega
                    exact zcm_X_canPass
                  · skip
                    obtain rfl : j = 34 := by omega
                    exact zcm_X_day
            · skip
              rcases Nat.lt_or_ge j 38 with h | h
              · skip
                rcases Nat.lt_or_ge j 36 with h | h
                · skip
                  obtain rfl : j = 35 := by omega
                  exact zcm_X_daysAhead
                · skip
                  rcases Nat.lt_or_ge j 37 with h | h
                  · skip
                    obtain rfl : j = 36 := by omega
                    exact zcm_X_daysPass
                  · skip
                    obtain rfl : j = 37 := by omega
                    exact zcm_X_midsummer
              · skip
                rcases Nat.lt_or_ge j 39 with h | h
                · skip
                  obtain rfl : j = 38 := by omega
                  exact zcm_X_played
                · skip
                  rcases Nat.lt_or_ge j 40 with h | h
                  · skip
                    obtain rfl : j = 39 := by omega
                    exact zcm_X_winters
                  · skip
                    obtain rfl : j = 40 := by omega
                    exact zcm_X_winterRing
      · skip
        rcases Nat.lt_or_ge j 61 with h | h
        · skip
          rcases Nat.lt_or_ge j 51 with h | h
          · skip
            rcases Nat.lt_or_ge j 46 with h | h
            · skip
              rcases Nat.lt_or_ge j 43 with h | h
              · skip
                rcases Nat.lt_or_ge j 42 with h | h
                · skip
                  obtain rfl : j = 41 := by omega
                  exact zcm_X_undo
                · skip
                  obtain rfl : j = 42 := by omega
                  exact zcm_X_of
              · skip
                rcases Nat.lt_or_ge j 44 with h | h
                · skip
                  obtain rfl : j = 43 := by omega
                  exact zcm_X_ageOf
                · skip
                  rcases Nat.lt_or_ge j 45 with h | h
                  · skip
                    obtain rfl : j = 44 := by omega
                    exact zcm_X_ofOak
                  · skip
                    obtain rfl : j = 45 := by omega
                    exact zcm_X_ring
            · skip
              rcases Nat.lt_or_ge j 48 with h | h
              · skip
                rcases Nat.lt_or_ge j 47 with h | h
                · skip
                  obtain rfl : j = 46 := by omega
                  exact zcm_X_lends
                · skip
                  obtain rfl : j = 47 := by omega
                  exact zcm_X_pays
              · skip
                rcases Nat.lt_or_ge j 49 with h | h
                · skip
                  obtain rfl : j = 48 := by omega
                  exact zcm_X_kindOf
                · skip
                  rcases Nat.lt_or_ge j 50 with h | h
                  · skip
                    obtain rfl : j = 49 := by omega
                    exact zcm_X_is
                  · skip
                    obtain rfl : j = 50 := by omega
                    exact zcm_X_book
          · skip
            rcases Nat.lt_or_ge j 56 with h | h
            · skip
              rcases Nat.lt_or_ge j 53 with h | h
              · skip
                rcases Nat.lt_or_ge j 52 with h | h
                · skip
                  obtain rfl : j = 51 := by omega
                  exact zcm_X_foretold
                · skip
                  obtain rfl : j = 52 := by omega
                  exact zcm_X_same
              · skip
                rcases Nat.lt_or_ge j 54 with h | h
                · skip
                  obtain rfl : j = 53 := by omega
                  exact zcm_X_kin
                · skip
                  rcases Nat.lt_or_ge j 55 with h | h
                  · skip
                    obtain rfl : j = 54 := by omega
                    exact zcm_X_twins
                  · skip
                    obtain rfl : j = 55 := by omega
                    exact zcm_X_earliest
            · skip
              rcases Nat.lt_or_ge j 58 with h | h
              · skip
                rcases Nat.lt_or_ge j 57 with h | h
                · skip
                  obtain rfl : j = 56 := by omega
                  exact zcm_X_newest
                · skip
                  obtain rfl : j = 57 := by omega
                  exact zcm_X_wants
              · skip
                rcases Nat.lt_or_ge j 59 with h | h
                · skip
                  obtain rfl : j = 58 := by omega
                  exact zcm_X_takes
                · skip
                  rcases Nat.lt_or_ge j 60 with h | h
                  · skip
                    obtain rfl : j = 59 := by omega
                    exact zcm_X_able
                  · skip
                    obtain rfl : j = 60 := by omega
                    exact zcm_X_needs
        · skip
          rcases Nat.lt_or_ge j 71 with h | h
          · skip
            rcases Nat.lt_or_ge j 66 with h | h
            · skip
              rcases Nat.lt_or_ge j 63 with h | h
              · skip
                rcases Nat.lt_or_ge j 62 with h | h
                · skip
                  obtain rfl : j = 61 := by omega
                  exact zcm_X_block
                · skip
                  obtain rfl : j = 62 := by omega
                  exact zcm_X_plan
              · skip
                rcases Nat.lt_or_ge j 64 with h | h
                · skip
                  obtain rfl : j = 63 := by omega
                  exact zcm_X_vote
                · skip
                  rcases Nat.lt_or_ge j 65 with h | h
                  · skip
                    obtain rfl : j = 64 := by omega
                    exact zcm_X_mark
                  · skip
                    obtain rfl : j = 65 := by omega
                    exact zcm_X_dated
            · skip
              rcases Nat.lt_or_ge j 68 with h | h
              · skip
                rcases Nat.lt_or_ge j 67 with h | h
                · skip
                  obtain rfl : j = 66 := by omega
                  exact zcm_X_nearest
                · skip
                  obtain rfl : j = 67 := by omega
                  exact zcm_X_run
              · skip
                rcases Nat.lt_or_ge j 69 with h | h
                · skip
                  obtain rfl : j = 68 := by omega
                  exact zcm_X_alike
                · skip
                  rcases Nat.lt_or_ge j 70 with h | h
                  · skip
                    obtain rfl : j = 69 := by omega
                    exact zcm_X_stands
                  · skip
                    obtain rfl : j = 70 := by omega
                    exact zcm_X_expects
          · skip
            rcases Nat.lt_or_ge j 76 with h | h
            · skip
              rcases Nat.lt_or_ge j 73 with h | h
              · skip
                rcases Nat.lt_or_ge j 72 with h | h
                · skip
                  obtain rfl : j = 71 := by omega
                  exact zcm_X_owed
                · skip
                  obtain rfl : j = 72 := by omega
                  exact zcm_X_price
              · skip
                rcases Nat.lt_or_ge j 74 with h | h
                · skip
                  obtain rfl : j = 73 := by omega
                  exact zcm_X_cheapest
                · skip
                  rcases Nat.lt_or_ge j 75 with h | h
                  · skip
                    obtain rfl : j = 74 := by omega
                    exact zcm_X_said
                  · skip
                    obtain rfl : j = 75 := by omega
                    exact zcm_X_whose
            · skip
              rcases Nat.lt_or_ge j 79 with h | h
              · skip
                rcases Nat.lt_or_ge j 77 with h | h
                · skip
                  obtain rfl : j = 76 := by omega
                  exact zcm_X_eldest
                · skip
                  rcases Nat.lt_or_ge j 78 with h | h
                  · skip
                    obtain rfl : j = 77 := by omega
                    exact zcm_X_left
                  · skip
                    obtain rfl : j = 78 := by omega
                    exact zcm_X_count
              · skip
                rcases Nat.lt_or_ge j 80 with h | h
                · skip
                  obtain rfl : j = 79 := by omega
                  exact zcm_X_fenced
                · skip
                  rcases Nat.lt_or_ge j 81 with h | h
                  · skip
                    obtain rfl : j = 80 := by omega
                    exact zcm_X_bare
                  · skip
                    obtain rfl : j = 81 := by omega
                    exact zcm_X_fires
    · skip
      rcases Nat.lt_or_ge j 123 with h | h
      · skip
        rcases Nat.lt_or_ge j 102 with h | h
        · skip
          rcases Nat.lt_or_ge j 92 with h | h
          · skip
            rcases Nat.lt_or_ge j 87 with h | h
            · skip
              rcases Nat.lt_or_ge j 84 with h | h
              · skip
                rcases Nat.lt_or_ge j 83 with h | h
                · skip
                  obtain rfl : j = 82 := by omega
                  exact zcm_X_ledger
                · skip
                  obtain rfl : j = 83 := by omega
                  exact zcm_X_image
              · skip
                rcases Nat.lt_or_ge j 85 with h | h
                · skip
                  obtain rfl : j = 84 := by omega
                  exact zcm_X_back
                · skip
                  rcases Nat.lt_or_ge j 86 with h | h
                  · skip
                    obtain rfl : j = 85 := by omega
                    exact zcm_X_about
                  · skip
                    obtain rfl : j = 86 := by omega
                    exact zcm_Counsel_init
            · skip
              rcases Nat.lt_or_ge j 89 with h | h
              · skip
                rcases Nat.lt_or_ge j 88 with h | h
                · skip
                  obtain rfl : j = 87 := by omega
                  exact zcm_Counsel_lendable
                · skip
                  obtain rfl : j = 88 := by omega
                  exact zcm_Counsel_measure
              · skip
                rcases Nat.lt_or_ge j 90 with h | h
                · skip
                  obtain rfl : j = 89 := by omega
                  exact zcm_Counsel_needOf
                · skip
                  rcases Nat.lt_or_ge j 91 with h | h
                  · skip
                    obtain rfl : j = 90 := by omega
                    exact zcm_Counsel_roomOf
                  · skip
                    obtain rfl : j = 91 := by omega
                    exact zcm_Counsel_inTheWay
          · skip
            rcases Nat.lt_or_ge j 97 with h | h
            · skip
              rcases Nat.lt_or_ge j 94 with h | h
              · skip
                rcases Nat.lt_or_ge j 93 with h | h
                · skip
                  obtain rfl : j = 92 := by omega
                  exact zcm_Counsel_shop
                · skip
                  obtain rfl : j = 93 := by omega
                  exact zcm_Counsel_weigh
              · skip
                rcases Nat.lt_or_ge j 95 with h | h
                · skip
                  obtain rfl : j = 94 := by omega
                  exact zcm_Counsel_isThere
                · skip
                  rcases Nat.lt_or_ge j 96 with h | h
                  · skip
                    obtain rfl : j = 95 := by omega
                    exact zcm_Judge_init
                  · skip
                    obtain rfl : j = 96 := by omega
                    exact zcm_Judge_says
            · skip
              rcases Nat.lt_or_ge j 99 with h | h
              · skip
                rcases Nat.lt_or_ge j 98 with h | h
                · skip
                  obtain rfl : j = 97 := by omega
                  exact zcm_Judge_without
                · skip
                  obtain rfl : j = 98 := by omega
                  exact zcm_Judge_valueOf
              · skip
                rcases Nat.lt_or_ge j 100 with h | h
                · skip
                  obtain rfl : j = 99 := by omega
                  exact zcm_Judge_push
                · skip
                  rcases Nat.lt_or_ge j 101 with h | h
                  · skip
                    obtain rfl : j = 100 := by omega
                    exact zcm_Judge_pop
                  · skip
                    obtain rfl : j = 101 := by omega
                    exact zcm_Judge_named
        · skip
          rcases Nat.lt_or_ge j 112 with h | h
          · skip
            rcases Nat.lt_or_ge j 107 with h | h
            · skip
              rcases Nat.lt_or_ge j 104 with h | h
              · skip
                rcases Nat.lt_or_ge j 103 with h | h
                · skip
                  obtain rfl : j = 102 := by omega
                  exact zcm_Judge_one
                · skip
                  obtain rfl : j = 103 := by omega
                  exact zcm_Judge_root
              · skip
                rcases Nat.lt_or_ge j 105 with h | h
                · skip
                  obtain rfl : j = 104 := by omega
                  exact zcm_Judge_two
                · skip
                  rcases Nat.lt_or_ge j 106 with h | h
                  · skip
                    obtain rfl : j = 105 := by omega
                    exact zcm_Judge_bounded
                  · skip
                    obtain rfl : j = 106 := by omega
                    exact zcm_Odds_init
            · skip
              rcases Nat.lt_or_ge j 109 with h | h
              · skip
                rcases Nat.lt_or_ge j 108 with h | h
                · skip
                  obtain rfl : j = 107 := by omega
                  exact zcm_Odds_begin
                · skip
                  obtain rfl : j = 108 := by omega
                  exact zcm_Odds_draw
              · skip
                rcases Nat.lt_or_ge j 110 with h | h
                · skip
                  obtain rfl : j = 109 := by omega
                  exact zcm_Odds_atLeast
                · skip
                  rcases Nat.lt_or_ge j 111 with h | h
                  · skip
                    obtain rfl : j = 110 := by omega
                    exact zcm_Odds_lowest
                  · skip
                    obtain rfl : j = 111 := by omega
                    exact zcm_Reader_init
          · skip
            rcases Nat.lt_or_ge j 117 with h | h
            · skip
              rcases Nat.lt_or_ge j 114 with h | h
              · skip
                rcases Nat.lt_or_ge j 113 with h | h
                · skip
                  obtain rfl : j = 112 := by omega
                  exact zcm_Reader_read
                · skip
                  obtain rfl : j = 113 := by omega
                  exact zcm_Reader_split
              · skip
                rcases Nat.lt_or_ge j 115 with h | h
                · skip
                  obtain rfl : j = 114 := by omega
                  exact zcm_Reader_isLetter
                · skip
                  rcases Nat.lt_or_ge j 116 with h | h
                  · skip
                    obtain rfl : j = 115 := by omega
                    exact zcm_Reader_add
                  · skip
                    obtain rfl : j = 116 := by omega
                    exact zcm_Reader_isDigit
            · skip
              rcases Nat.lt_or_ge j 120 with h | h
              · skip
                rcases Nat.lt_or_ge j 118 with h | h
                · skip
                  obtain rfl : j = 117 := by omega
                  exact zcm_Reader_here
                · skip
                  rcases Nat.lt_or_ge j 119 with h | h
                  · skip
                    obtain rfl : j = 118 := by omega
                    exact zcm_Reader_readClause
                  · skip
                    obtain rfl : j = 119 := by omega
                    exact zcm_Reader_fails
              · skip
                rcases Nat.lt_or_ge j 121 with h | h
                · skip
                  obtain rfl : j = 120 := by omega
                  exact zcm_Reader_readSum
                · skip
                  rcases Nat.lt_or_ge j 122 with h | h
                  · skip
                    obtain rfl : j = 121 := by omega
                    exact zcm_Reader_readProduct
                  · skip
                    obtain rfl : j = 122 := by omega
                    exact zcm_Reader_readOne
      · skip
        rcases Nat.lt_or_ge j 143 with h | h
        · skip
          rcases Nat.lt_or_ge j 133 with h | h
          · skip
            rcases Nat.lt_or_ge j 128 with h | h
            · skip
              rcases Nat.lt_or_ge j 125 with h | h
              · skip
                rcases Nat.lt_or_ge j 124 with h | h
                · skip
                  obtain rfl : j = 123 := by omega
                  exact zcm_Reader_order
                · skip
                  obtain rfl : j = 124 := by omega
                  exact zcm_Reader_readOpening
              · skip
                rcases Nat.lt_or_ge j 126 with h | h
                · skip
                  obtain rfl : j = 125 := by omega
                  exact zcm_Reader_expect
                · skip
                  rcases Nat.lt_or_ge j 127 with h | h
                  · skip
                    obtain rfl : j = 126 := by omega
                    exact zcm_Reader_readChoice
                  · skip
                    obtain rfl : j = 127 := by omega
                    exact zcm_Reader_readEither
            · skip
              rcases Nat.lt_or_ge j 130 with h | h
              · skip
                rcases Nat.lt_or_ge j 129 with h | h
                · skip
                  obtain rfl : j = 128 := by omega
                  exact zcm_Reader_readBoth
                · skip
                  obtain rfl : j = 129 := by omega
                  exact zcm_Reader_readAsk
              · skip
                rcases Nat.lt_or_ge j 131 with h | h
                · skip
                  obtain rfl : j = 130 := by omega
                  exact zcm_Reader_skipToHere
                · skip
                  rcases Nat.lt_or_ge j 132 with h | h
                  · skip
                    obtain rfl : j = 131 := by omega
                    exact zcm_Reader_readDeed
                  · skip
                    obtain rfl : j = 132 := by omega
                    exact zcm_Reader_readOak
          · skip
            rcases Nat.lt_or_ge j 138 with h | h
            · skip
              rcases Nat.lt_or_ge j 135 with h | h
              · skip
                rcases Nat.lt_or_ge j 134 with h | h
                · skip
                  obtain rfl : j = 133 := by omega
                  exact zcm_Reader_expectNumber
                · skip
                  obtain rfl : j = 134 := by omega
                  exact zcm_Rings_init
              · skip
                rcases Nat.lt_or_ge j 136 with h | h
                · skip
                  obtain rfl : j = 135 := by omega
                  exact zcm_Rings_goneFrom
                · skip
                  rcases Nat.lt_or_ge j 137 with h | h
                  · skip
                    obtain rfl : j = 136 := by omega
                    exact zcm_Rings_heldBy
                  · skip
                    obtain rfl : j = 137 := by omega
                    exact zcm_Rings_with
            · skip
              rcases Nat.lt_or_ge j 140 with h | h
              · skip
                rcases Nat.lt_or_ge j 139 with h | h
                · skip
                  obtain rfl : j = 138 := by omega
                  exact zcm_Rings_becomes
                · skip
                  obtain rfl : j = 139 := by omega
                  exact zcm_Rings_give
              · skip
                rcases Nat.lt_or_ge j 141 with h | h
                · skip
                  obtain rfl : j = 140 := by omega
                  exact zcm_Rings_bring
                · skip
                  rcases Nat.lt_or_ge j 142 with h | h
                  · skip
                    obtain rfl : j = 141 := by omega
                    exact zcm_Rings_holder
                  · skip
                    obtain rfl : j = 142 := by omega
                    exact zcm_Rings_lentOf
        · skip
          rcases Nat.lt_or_ge j 153 with h | h
          · skip
            rcases Nat.lt_or_ge j 148 with h | h
            · skip
              rcases Nat.lt_or_ge j 145 with h | h
              · skip
                rcases Nat.lt_or_ge j 144 with h | h
                · skip
                  obtain rfl : j = 143 := by omega
                  exact zcm_Rings_drawn
                · skip
                  obtain rfl : j = 144 := by omega
                  exact zcm_Rings_cutOff
              · skip
                rcases Nat.lt_or_ge j 146 with h | h
                · skip
                  obtain rfl : j = 145 := by omega
                  exact zcm_Rings_yearsOf
                · skip
                  rcases Nat.lt_or_ge j 147 with h | h
                  · skip
                    obtain rfl : j = 146 := by omega
                    exact zcm_Rings_page
                  · skip
                    obtain rfl : j = 147 := by omega
                    exact zcm_Sign_word
            · skip
              rcases Nat.lt_or_ge j 150 with h | h
              · skip
                rcases Nat.lt_or_ge j 149 with h | h
                · skip
                  obtain rfl : j = 148 := by omega
                  exact zcm_Sign_ofCharacter
                · skip
                  obtain rfl : j = 149 := by omega
                  exact zcm_Sign_isName
              · skip
                rcases Nat.lt_or_ge j 151 with h | h
                · skip
                  obtain rfl : j = 150 := by omega
                  exact zcm_Sign_compares
                · skip
                  rcases Nat.lt_or_ge j 152 with h | h
                  · skip
                    obtain rfl : j = 151 := by omega
                    exact zcm_Sign_isOfOne
                  · skip
                    obtain rfl : j = 152 := by omega
                    exact zcm_Steps_init
          · skip
            rcases Nat.lt_or_ge j 158 with h | h
            · skip
              rcases Nat.lt_or_ge j 155 with h | h
              · skip
                rcases Nat.lt_or_ge j 154 with h | h
                · skip
                  obtain rfl : j = 153 := by omega
                  exact zcm_Steps_push
                · skip
                  obtain rfl : j = 154 := by omega
                  exact zcm_Steps_rowAt
              · skip
                rcases Nat.lt_or_ge j 156 with h | h
                · skip
                  obtain rfl : j = 155 := by omega
                  exact zcm_Steps_pop
                · skip
                  rcases Nat.lt_or_ge j 157 with h | h
                  · skip
                    obtain rfl : j = 156 := by omega
                    exact zcm_Steps_becomes
                  · skip
                    obtain rfl : j = 157 := by omega
                    exact zcm_Text_init
            · skip
              rcases Nat.lt_or_ge j 161 with h | h
              · skip
                rcases Nat.lt_or_ge j 159 with h | h
                · skip
                  obtain rfl : j = 158 := by omega
                  exact zcm_Text_start
                · skip
                  rcases Nat.lt_or_ge j 160 with h | h
                  · skip
                    obtain rfl : j = 159 := by omega
                    exact zcm_Text_stop
                  · skip
                    obtain rfl : j = 160 := by omega
                    exact zcm_Text_sign
              · skip
                rcases Nat.lt_or_ge j 162 with h | h
                · skip
                  obtain rfl : j = 161 := by omega
                  exact zcm_Text_worth
                · skip
                  rcases Nat.lt_or_ge j 163 with h | h
                  · skip
                    obtain rfl : j = 162 := by omega
                    exact zcm_Text_clauseCount
                  · skip
                    obtain rfl : j = 163 := by omega
                    exact zcm_Text_part
  · skip
    rcases Nat.lt_or_ge j 246 with h | h
    · skip
      rcases Nat.lt_or_ge j 205 with h | h
      · skip
        rcases Nat.lt_or_ge j 184 with h | h
        · skip
          rcases Nat.lt_or_ge j 174 with h | h
          · skip
            rcases Nat.lt_or_ge j 169 with h | h
            · skip
              rcases Nat.lt_or_ge j 166 with h | h
              · skip
                rcases Nat.lt_or_ge j 165 with h | h
                · skip
                  obtain rfl : j = 164 := by omega
                  exact zcm_Town_init
                · skip
                  obtain rfl : j = 165 := by omega
                  exact zcm_Town_textAt
              · skip
                rcases Nat.lt_or_ge j 167 with h | h
                · skip
                  obtain rfl : j = 166 := by omega
                  exact zcm_Town_hadRing
                · skip
                  rcases Nat.lt_or_ge j 168 with h | h
                  · skip
                    obtain rfl : j = 167 := by omega
                    exact zcm_Town_hasOak
                  · skip
                    obtain rfl : j = 168 := by omega
                    exact zcm_Town_hasPerson
            · skip
              rcases Nat.lt_or_ge j 171 with h | h
              · skip
                rcases Nat.lt_or_ge j 170 with h | h
                · skip
                  obtain rfl : j = 169 := by omega
                  exact zcm_Town_isFenced
                · skip
                  obtain rfl : j = 170 := by omega
                  exact zcm_Town_inOak
              · skip
                rcases Nat.lt_or_ge j 172 with h | h
                · skip
                  obtain rfl : j = 171 := by omega
                  exact zcm_Town_ruler
                · skip
                  rcases Nat.lt_or_ge j 173 with h | h
                  · skip
                    obtain rfl : j = 172 := by omega
                    exact zcm_Town_kindsOf
                  · skip
                    obtain rfl : j = 173 := by omega
                    exact zcm_Town_yearsOfKinds
          · skip
            rcases Nat.lt_or_ge j 179 with h | h
            · skip
              rcases Nat.lt_or_ge j 176 with h | h
              · skip
                rcases Nat.lt_or_ge j 175 with h | h
                · skip
                  obtain rfl : j = 174 := by omega
                  exact zcm_Town_marksFit
                · skip
                  obtain rfl : j = 175 := by omega
                  exact zcm_Town_unlikeFrom
              · skip
                rcases Nat.lt_or_ge j 177 with h | h
                · skip
                  obtain rfl : j = 176 := by omega
                  exact zcm_Town_becomes
                · skip
                  rcases Nat.lt_or_ge j 178 with h | h
                  · skip
                    obtain rfl : j = 177 := by omega
                    exact zcm_M_init
                  · skip
                    obtain rfl : j = 178 := by omega
                    exact zcm_M_copy
            · skip
              rcases Nat.lt_or_ge j 181 with h | h
              · skip
                rcases Nat.lt_or_ge j 180 with h | h
                · skip
                  obtain rfl : j = 179 := by omega
                  exact zcm_M_oak
                · skip
                  obtain rfl : j = 180 := by omega
                  exact zcm_M_isIn
              · skip
                rcases Nat.lt_or_ge j 182 with h | h
                · skip
                  obtain rfl : j = 181 := by omega
                  exact zcm_M_has
                · skip
                  rcases Nat.lt_or_ge j 183 with h | h
                  · skip
                    obtain rfl : j = 182 := by omega
                    exact zcm_M_put
                  · skip
                    obtain rfl : j = 183 := by omega
                    exact zcm_M_year
        · skip
          rcases Nat.lt_or_ge j 194 with h | h
          · skip
            rcases Nat.lt_or_ge j 189 with h | h
            · skip
              rcases Nat.lt_or_ge j 186 with h | h
              · skip
                rcases Nat.lt_or_ge j 185 with h | h
                · skip
                  obtain rfl : j = 184 := by omega
                  exact zcm_M_isYear
                · skip
                  obtain rfl : j = 185 := by omega
                  exact zcm_M_person
              · skip
                rcases Nat.lt_or_ge j 187 with h | h
                · skip
                  obtain rfl : j = 186 := by omega
                  exact zcm_M_feed
                · skip
                  rcases Nat.lt_or_ge j 188 with h | h
                  · skip
                    obtain rfl : j = 187 := by omega
                    exact zcm_M_four
                  · skip
                    obtain rfl : j = 188 := by omega
                    exact zcm_M_end
            · skip
              rcases Nat.lt_or_ge j 191 with h | h
              · skip
                rcases Nat.lt_or_ge j 190 with h | h
                · skip
                  obtain rfl : j = 189 := by omega
                  exact zcm_M_text
                · skip
                  obtain rfl : j = 190 := by omega
                  exact zcm_M_readText
              · skip
                rcases Nat.lt_or_ge j 192 with h | h
                · skip
                  obtain rfl : j = 191 := by omega
                  exact zcm_M_nextToken
                · skip
                  rcases Nat.lt_or_ge j 193 with h | h
                  · skip
                    obtain rfl : j = 192 := by omega
                    exact zcm_M_byteAt
                  · skip
                    obtain rfl : j = 193 := by omega
                    exact zcm_M_isFigure
          · skip
            rcases Nat.lt_or_ge j 199 with h | h
            · skip
              rcases Nat.lt_or_ge j 196 with h | h
              · skip
                rcases Nat.lt_or_ge j 195 with h | h
                · skip
                  obtain rfl : j = 194 := by omega
                  exact zcm_M_isLetterByte
                · skip
                  obtain rfl : j = 195 := by omega
                  exact zcm_M_isSign
              · skip
                rcases Nat.lt_or_ge j 197 with h | h
                · skip
                  obtain rfl : j = 196 := by omega
                  exact zcm_M_clause
                · skip
                  rcases Nat.lt_or_ge j 198 with h | h
                  · skip
                    obtain rfl : j = 197 := by omega
                    exact zcm_M_sortOf
                  · skip
                    obtain rfl : j = 198 := by omega
                    exact zcm_M_w5
            · skip
              rcases Nat.lt_or_ge j 202 with h | h
              · skip
                rcases Nat.lt_or_ge j 200 with h | h
                · skip
                  obtain rfl : j = 199 := by omega
                  exact zcm_M_w4
                · skip
                  rcases Nat.lt_or_ge j 201 with h | h
                  · skip
                    obtain rfl : j = 200 := by omega
                    exact zcm_M_w3
                  · skip
                    obtain rfl : j = 201 := by omega
                    exact zcm_M_w2
              · skip
                rcases Nat.lt_or_ge j 203 with h | h
                · skip
                  obtain rfl : j = 202 := by omega
                  exact zcm_M_isWord
                · skip
                  rcases Nat.lt_or_ge j 204 with h | h
                  · skip
                    obtain rfl : j = 203 := by omega
                    exact zcm_M_w6
                  · skip
                    obtain rfl : j = 204 := by omega
                    exact zcm_M_body
      · skip
        rcases Nat.lt_or_ge j 225 with h | h
        · skip
          rcases Nat.lt_or_ge j 215 with h | h
          · skip
            rcases Nat.lt_or_ge j 210 with h | h
            · skip
              rcases Nat.lt_or_ge j 207 with h | h
              · skip
                rcases Nat.lt_or_ge j 206 with h | h
                · skip
                  obtain rfl : j = 205 := by omega
                  exact zcm_M_oakClause
                · skip
                  obtain rfl : j = 206 := by omega
                  exact zcm_M_figure
              · skip
                rcases Nat.lt_or_ge j 208 with h | h
                · skip
                  obtain rfl : j = 207 := by omega
                  exact zcm_M_pair
                · skip
                  rcases Nat.lt_or_ge j 209 with h | h
                  · skip
                    obtain rfl : j = 208 := by omega
                    exact zcm_M_worded
                  · skip
                    obtain rfl : j = 209 := by omega
                    exact zcm_M_lendClause
            · skip
              rcases Nat.lt_or_ge j 212 with h | h
              · skip
                rcases Nat.lt_or_ge j 211 with h | h
                · skip
                  obtain rfl : j = 210 := by omega
                  exact zcm_M_lawClause
                · skip
                  obtain rfl : j = 211 := by omega
                  exact zcm_M_summed
              · skip
                rcases Nat.lt_or_ge j 213 with h | h
                · skip
                  obtain rfl : j = 212 := by omega
                  exact zcm_M_behindOne
                · skip
                  rcases Nat.lt_or_ge j 214 with h | h
                  · skip
                    obtain rfl : j = 213 := by omega
                    exact zcm_M_betweenOf
                  · skip
                    obtain rfl : j = 214 := by omega
                    exact zcm_M_openNow
          · skip
            rcases Nat.lt_or_ge j 220 with h | h
            · skip
              rcases Nat.lt_or_ge j 217 with h | h
              · skip
                rcases Nat.lt_or_ge j 216 with h | h
                · skip
                  obtain rfl : j = 215 := by omega
                  exact zcm_M_openAt
                · skip
                  obtain rfl : j = 216 := by omega
                  exact zcm_M_isCompared
              · skip
                rcases Nat.lt_or_ge j 218 with h | h
                · skip
                  obtain rfl : j = 217 := by omega
                  exact zcm_M_rank
                · skip
                  rcases Nat.lt_or_ge j 219 with h | h
                  · skip
                    obtain rfl : j = 218 := by omega
                    exact zcm_M_compareOf
                  · skip
                    obtain rfl : j = 219 := by omega
                    exact zcm_M_settle
            · skip
              rcases Nat.lt_or_ge j 222 with h | h
              · skip
                rcases Nat.lt_or_ge j 221 with h | h
                · skip
                  obtain rfl : j = 220 := by omega
                  exact zcm_M_emit
                · skip
                  obtain rfl : j = 221 := by omega
                  exact zcm_M_partOf
              · skip
                rcases Nat.lt_or_ge j 223 with h | h
                · skip
                  obtain rfl : j = 222 := by omega
                  exact zcm_M_beginOne
                · skip
                  rcases Nat.lt_or_ge j 224 with h | h
                  · skip
                    obtain rfl : j = 223 := by omega
                    exact zcm_M_nameOf
                  · skip
                    obtain rfl : j = 224 := by omega
                    exact zcm_M_opened
        · skip
          rcases Nat.lt_or_ge j 235 with h | h
          · skip
            rcases Nat.lt_or_ge j 230 with h | h
            · skip
              rcases Nat.lt_or_ge j 227 with h | h
              · skip
                rcases Nat.lt_or_ge j 226 with h | h
                · skip
                  obtain rfl : j = 225 := by omega
                  exact zcm_M_isAskAhead
                · skip
                  obtain rfl : j = 226 := by omega
                  exact zcm_M_fault
              · skip
                rcases Nat.lt_or_ge j 228 with h | h
                · skip
                  obtain rfl : j = 227 := by omega
                  exact zcm_M_by
                · skip
                  rcases Nat.lt_or_ge j 229 with h | h
                  · skip
                    obtain rfl : j = 228 := by omega
                    exact zcm_M_undo
                  · skip
                    obtain rfl : j = 229 := by omega
                    exact zcm_M_get
            · skip
              rcases Nat.lt_or_ge j 232 with h | h
              · skip
                rcases Nat.lt_or_ge j 231 with h | h
                · skip
                  obtain rfl : j = 230 := by omega
                  exact zcm_M_lend
                · skip
                  obtain rfl : j = 231 := by omega
                  exact zcm_M_canLend
              · skip
                rcases Nat.lt_or_ge j 233 with h | h
                · skip
                  obtain rfl : j = 232 := by omega
                  exact zcm_M_isRing
                · skip
                  rcases Nat.lt_or_ge j 234 with h | h
                  · skip
                    obtain rfl : j = 233 := by omega
                    exact zcm_M_isOak
                  · skip
                    obtain rfl : j = 234 := by omega
                    exact zcm_M_inside
          · skip
            rcases Nat.lt_or_ge j 240 with h | h
            · skip
              rcases Nat.lt_or_ge j 237 with h | h
              · skip
                rcases Nat.lt_or_ge j 236 with h | h
                · skip
                  obtain rfl : j = 235 := by omega
                  exact zcm_M_yearsOf
                · skip
                  obtain rfl : j = 236 := by omega
                  exact zcm_M_bits
              · skip
                rcases Nat.lt_or_ge j 238 with h | h
                · skip
                  obtain rfl : j = 237 := by omega
                  exact zcm_M_isPerson
                · skip
                  rcases Nat.lt_or_ge j 239 with h | h
                  · skip
                    obtain rfl : j = 238 := by omega
                    exact zcm_M_lendsOf
                  · skip
                    obtain rfl : j = 239 := by omega
                    exact zcm_M_name
            · skip
              rcases Nat.lt_or_ge j 243 with h | h
              · skip
                rcases Nat.lt_or_ge j 241 with h | h
                · skip
                  obtain rfl : j = 240 := by omega
                  exact zcm_M_heldBy
                · skip
                  rcases Nat.lt_or_ge j 242 with h | h
                  · skip
                    obtain rfl : j = 241 := by omega
                    exact zcm_M_says
                  · skip
                    obtain rfl : j = 242 := by omega
                    exact zcm_M_summedUp
              · skip
                rcases Nat.lt_or_ge j 244 with h | h
                · skip
                  obtain rfl : j = 243 := by omega
                  exact zcm_M_ofOne
                · skip
                  rcases Nat.lt_or_ge j 245 with h | h
                  · skip
                    obtain rfl : j = 244 := by omega
                    exact zcm_M_rootOf
                  · skip
                    obtain rfl : j = 245 := by omega
                    exact zcm_M_ringsOf
    · skip
      rcases Nat.lt_or_ge j 287 with h | h
      · skip
        rcases Nat.lt_or_ge j 266 with h | h
        · skip
          rcases Nat.lt_or_ge j 256 with h | h
          · skip
            rcases Nat.lt_or_ge j 251 with h | h
            · skip
              rcases Nat.lt_or_ge j 248 with h | h
              · skip
                rcases Nat.lt_or_ge j 247 with h | h
                · skip
                  obtain rfl : j = 246 := by omega
                  exact zcm_M_two
                · skip
                  obtain rfl : j = 247 := by omega
                  exact zcm_M_clip
              · skip
                rcases Nat.lt_or_ge j 249 with h | h
                · skip
                  obtain rfl : j = 248 := by omega
                  exact zcm_M_isAsked
                · skip
                  rcases Nat.lt_or_ge j 250 with h | h
                  · skip
                    obtain rfl : j = 249 := by omega
                    exact zcm_M_joined
                  · skip
                    obtain rfl : j = 250 := by omega
                    exact zcm_M_cut
            · skip
              rcases Nat.lt_or_ge j 253 with h | h
              · skip
                rcases Nat.lt_or_ge j 252 with h | h
                · skip
                  obtain rfl : j = 251 := by omega
                  exact zcm_M_keep
                · skip
                  obtain rfl : j = 252 := by omega
                  exact zcm_M_returned
              · skip
                rcases Nat.lt_or_ge j 254 with h | h
                · skip
                  obtain rfl : j = 253 := by omega
                  exact zcm_M_isLent
                · skip
                  rcases Nat.lt_or_ge j 255 with h | h
                  · skip
                    obtain rfl : j = 254 := by omega
                    exact zcm_M_pass
                  · skip
                    obtain rfl : j = 255 := by omega
                    exact zcm_M_canPass
          · skip
            rcases Nat.lt_or_ge j 261 with h | h
            · skip
              rcases Nat.lt_or_ge j 258 with h | h
              · skip
                rcases Nat.lt_or_ge j 257 with h | h
                · skip
                  obtain rfl : j = 256 := by omega
                  exact zcm_M_day
                · skip
                  obtain rfl : j = 257 := by omega
                  exact zcm_M_arePassed
              · skip
                rcases Nat.lt_or_ge j 259 with h | h
                · skip
                  obtain rfl : j = 258 := by omega
                  exact zcm_M_passDay
                · skip
                  rcases Nat.lt_or_ge j 260 with h | h
                  · skip
                    obtain rfl : j = 259 := by omega
                    exact zcm_M_settleRing
                  · skip
                    obtain rfl : j = 260 := by omega
                    exact zcm_M_paysOf
            · skip
              rcases Nat.lt_or_ge j 263 with h | h
              · skip
                rcases Nat.lt_or_ge j 262 with h | h
                · skip
                  obtain rfl : j = 261 := by omega
                  exact zcm_M_anew
                · skip
                  obtain rfl : j = 262 := by omega
                  exact zcm_M_write
              · skip
                rcases Nat.lt_or_ge j 264 with h | h
                · skip
                  obtain rfl : j = 263 := by omega
                  exact zcm_M_played
                · skip
                  rcases Nat.lt_or_ge j 265 with h | h
                  · skip
                    obtain rfl : j = 264 := by omega
                    exact zcm_M_isPlayed
                  · skip
                    obtain rfl : j = 265 := by omega
                    exact zcm_M_winters
        · skip
          rcases Nat.lt_or_ge j 276 with h | h
          · skip
            rcases Nat.lt_or_ge j 271 with h | h
            · skip
              rcases Nat.lt_or_ge j 268 with h | h
              · skip
                rcases Nat.lt_or_ge j 267 with h | h
                · skip
                  obtain rfl : j = 266 := by omega
                  exact zcm_M_happens
                · skip
                  obtain rfl : j = 267 := by omega
                  exact zcm_M_of
              · skip
                rcases Nat.lt_or_ge j 269 with h | h
                · skip
                  obtain rfl : j = 268 := by omega
                  exact zcm_M_ageOf
                · skip
                  rcases Nat.lt_or_ge j 270 with h | h
                  · skip
                    obtain rfl : j = 269 := by omega
                    exact zcm_M_agesOf
                  · skip
                    obtain rfl : j = 270 := by omega
                    exact zcm_M_yearsBy
            · skip
              rcases Nat.lt_or_ge j 273 with h | h
              · skip
                rcases Nat.lt_or_ge j 272 with h | h
                · skip
                  obtain rfl : j = 271 := by omega
                  exact zcm_M_kindsOf
                · skip
                  obtain rfl : j = 272 := by omega
                  exact zcm_M_ofOak
              · skip
                rcases Nat.lt_or_ge j 274 with h | h
                · skip
                  obtain rfl : j = 273 := by omega
                  exact zcm_M_lent
                · skip
                  rcases Nat.lt_or_ge j 275 with h | h
                  · skip
                    obtain rfl : j = 274 := by omega
                    exact zcm_M_ring
                  · skip
                    obtain rfl : j = 275 := by omega
                    exact zcm_M_lends
          · skip
            rcases Nat.lt_or_ge j 281 with h | h
            · skip
              rcases Nat.lt_or_ge j 278 with h | h
              · skip
                rcases Nat.lt_or_ge j 277 with h | h
                · skip
                  obtain rfl : j = 276 := by omega
                  exact zcm_M_pays
                · skip
                  obtain rfl : j = 277 := by omega
                  exact zcm_M_kindOf
              · skip
                rcases Nat.lt_or_ge j 279 with h | h
                · skip
                  obtain rfl : j = 278 := by omega
                  exact zcm_M_is
                · skip
                  rcases Nat.lt_or_ge j 280 with h | h
                  · skip
                    obtain rfl : j = 279 := by omega
                    exact zcm_M_book
                  · skip
                    obtain rfl : j = 280 := by omega
                    exact zcm_M_entry
            · skip
              rcases Nat.lt_or_ge j 284 with h | h
              · skip
                rcases Nat.lt_or_ge j 282 with h | h
                · skip
                  obtain rfl : j = 281 := by omega
                  exact zcm_M_ledger
                · skip
                  rcases Nat.lt_or_ge j 283 with h | h
                  · skip
                    obtain rfl : j = 282 := by omega
                    exact zcm_M_eldest
                  · skip
                    obtain rfl : j = 283 := by omega
                    exact zcm_M_left
              · skip
                rcases Nat.lt_or_ge j 285 with h | h
                · skip
                  obtain rfl : j = 284 := by omega
                  exact zcm_M_count
                · skip
                  rcases Nat.lt_or_ge j 286 with h | h
                  · skip
                    obtain rfl : j = 285 := by omega
                    exact zcm_M_ofKind
                  · skip
                    obtain rfl : j = 286 := by omega
                    exact zcm_M_fenced
      · skip
        rcases Nat.lt_or_ge j 308 with h | h
        · skip
          rcases Nat.lt_or_ge j 297 with h | h
          · skip
            rcases Nat.lt_or_ge j 292 with h | h
            · skip
              rcases Nat.lt_or_ge j 289 with h | h
              · skip
                rcases Nat.lt_or_ge j 288 with h | h
                · skip
                  obtain rfl : j = 287 := by omega
                  exact zcm_M_bare
                · skip
                  obtain rfl : j = 288 := by omega
                  exact zcm_M_fires
              · skip
                rcases Nat.lt_or_ge j 290 with h | h
                · skip
                  obtain rfl : j = 289 := by omega
                  exact zcm_M_foretold
                · skip
                  rcases Nat.lt_or_ge j 291 with h | h
                  · skip
                    obtain rfl : j = 290 := by omega
                    exact zcm_M_same
                  · skip
                    obtain rfl : j = 291 := by omega
                    exact zcm_M_kin
            · skip
              rcases Nat.lt_or_ge j 294 with h | h
              · skip
                rcases Nat.lt_or_ge j 293 with h | h
                · skip
                  obtain rfl : j = 292 := by omega
                  exact zcm_M_twins
                · skip
                  obtain rfl : j = 293 := by omega
                  exact zcm_M_earliest
              · skip
                rcases Nat.lt_or_ge j 295 with h | h
                · skip
                  obtain rfl : j = 294 := by omega
                  exact zcm_M_newest
                · skip
                  rcases Nat.lt_or_ge j 296 with h | h
                  · skip
                    obtain rfl : j = 295 := by omega
                    exact zcm_M_wants
                  · skip
                    obtain rfl : j = 296 := by omega
                    exact zcm_M_takes
          · skip
            rcases Nat.lt_or_ge j 302 with h | h
            · skip
              rcases Nat.lt_or_ge j 299 with h | h
              · skip
                rcases Nat.lt_or_ge j 298 with h | h
                · skip
                  obtain rfl : j = 297 := by omega
                  exact zcm_M_able
                · skip
                  obtain rfl : j = 298 := by omega
                  exact zcm_M_layNeeds
              · skip
                rcases Nat.lt_or_ge j 300 with h | h
                · skip
                  obtain rfl : j = 299 := by omega
                  exact zcm_M_needOf
                · skip
                  rcases Nat.lt_or_ge j 301 with h | h
                  · skip
                    obtain rfl : j = 300 := by omega
                    exact zcm_M_lentOf
                  · skip
                    obtain rfl : j = 301 := by omega
                    exact zcm_M_allPersons
            · skip
              rcases Nat.lt_or_ge j 305 with h | h
              · skip
                rcases Nat.lt_or_ge j 303 with h | h
                · skip
                  obtain rfl : j = 302 := by omega
                  exact zcm_M_ableOf
                · skip
                  rcases Nat.lt_or_ge j 304 with h | h
                  · skip
                    obtain rfl : j = 303 := by omega
                    exact zcm_M_needIn
                  · skip
                    obtain rfl : j = 304 := by omega
                    exact zcm_M_couldFor
              · skip
                rcases Nat.lt_or_ge j 306 with h | h
                · skip
                  obtain rfl : j = 305 := by omega
                  exact zcm_M_needs
                · skip
                  rcases Nat.lt_or_ge j 307 with h | h
                  · skip
                    obtain rfl : j = 306 := by omega
                    exact zcm_M_block
                  · skip
                    obtain rfl : j = 307 := by omega
                    exact zcm_M_plan
        · skip
          rcases Nat.lt_or_ge j 318 with h | h
          · skip
            rcases Nat.lt_or_ge j 313 with h | h
            · skip
              rcases Nat.lt_or_ge j 310 with h | h
              · skip
                rcases Nat.lt_or_ge j 309 with h | h
                · skip
                  obtain rfl : j = 308 := by omega
                  exact zcm_M_vote
                · skip
                  obtain rfl : j = 309 := by omega
                  exact zcm_M_mark
              · skip
                rcases Nat.lt_or_ge j 311 with h | h
                · skip
                  obtain rfl : j = 310 := by omega
                  exact zcm_M_dated
                · skip
                  rcases Nat.lt_or_ge j 312 with h | h
                  · skip
                    obtain rfl : j = 311 := by omega
                    exact zcm_M_unlikeFrom
                  · skip
                    obtain rfl : j = 312 := by omega
                    exact zcm_M_nearest
            · skip
              rcases Nat.lt_or_ge j 315 with h | h
              · skip
                rcases Nat.lt_or_ge j 314 with h | h
                · skip
                  obtain rfl : j = 313 := by omega
                  exact zcm_M_run
                · skip
                  obtain rfl : j = 314 := by omega
                  exact zcm_M_alike
              · skip
                rcases Nat.lt_or_ge j 316 with h | h
                · skip
                  obtain rfl : j = 315 := by omega
                  exact zcm_M_stands
                · skip
                  rcases Nat.lt_or_ge j 317 with h | h
                  · skip
                    obtain rfl : j = 316 := by omega
                    exact zcm_M_divisor
                  · skip
                    obtain rfl : j = 317 := by omega
                    exact zcm_M_expects
          · skip
            rcases Nat.lt_or_ge j 323 with h | h
            · skip
              rcases Nat.lt_or_ge j 320 with h | h
              · skip
                rcases Nat.lt_or_ge j 319 with h | h
                · skip
                  obtain rfl : j = 318 := by omega
                  exact zcm_M_price
                · skip
                  obtain rfl : j = 319 := by omega
                  exact zcm_M_owed
              · skip
                rcases Nat.lt_or_ge j 321 with h | h
                · skip
                  obtain rfl : j = 320 := by omega
                  exact zcm_M_cheapest
                · skip
                  rcases Nat.lt_or_ge j 322 with h | h
                  · skip
                    obtain rfl : j = 321 := by omega
                    exact zcm_M_digitOf
                  · skip
                    obtain rfl : j = 322 := by omega
                    exact zcm_M_isThere
            · skip
              rcases Nat.lt_or_ge j 326 with h | h
              · skip
                rcases Nat.lt_or_ge j 324 with h | h
                · skip
                  obtain rfl : j = 323 := by omega
                  exact zcm_M_priceOf
                · skip
                  rcases Nat.lt_or_ge j 325 with h | h
                  · skip
                    obtain rfl : j = 324 := by omega
                    exact zcm_M_said
                  · skip
                    obtain rfl : j = 325 := by omega
                    exact zcm_M_whose
              · skip
                rcases Nat.lt_or_ge j 327 with h | h
                · skip
                  obtain rfl : j = 326 := by omega
                  exact zcm_M_image
                · skip
                  rcases Nat.lt_or_ge j 328 with h | h
                  · skip
                    obtain rfl : j = 327 := by omega
                    exact zcm_M_back
                  · skip
                    obtain rfl : j = 328 := by omega
                    exact zcm_M_about
