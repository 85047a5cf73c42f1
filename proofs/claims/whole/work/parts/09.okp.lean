/-! the program is right: am_okP -/
theorem am_cwB0 : ∀ i, i < 64 → am_cwP (am_P (0 + i))
  | 0, _ => am_cw_X0_init
  | 1, _ => am_cw_X0_pass
  | 2, _ => am_cw_X0_run
  | 3, _ => am_cw_X1_init
  | 4, _ => am_cw_X1_unevenArcs
  | 5, _ => am_cw_X1_hasRound
  | 6, _ => am_cw_X1_follow
  | 7, _ => am_cw_X1_play
  | 8, _ => am_cw_X1_winningTurn
  | 9, _ => am_cw_X2_init
  | 10, _ => am_cw_X2_begin
  | 11, _ => am_cw_X2_put
  | 12, _ => am_cw_X2_spans
  | 13, _ => am_cw_X2_areCrossingsOf
  | 14, _ => am_cw_X2_crossingAt
  | 15, _ => am_cw_X3_init
  | 16, _ => am_cw_X3_tryAll
  | 17, _ => am_cw_X3_tryFrom
  | 18, _ => am_cw_X3_tryErrand
  | 19, _ => am_cw_X3_judge
  | 20, _ => am_cw_X4_init
  | 21, _ => am_cw_X4_lay
  | 22, _ => am_cw_X4_read
  | 23, _ => am_cw_X4_readLine
  | 24, _ => am_cw_X4_readTown
  | 25, _ => am_cw_X4_readStreet
  | 26, _ => am_cw_X4_readTurn
  | 27, _ => am_cw_X4_readErrand
  | 28, _ => am_cw_X4_number
  | 29, _ => am_cw_X4_valueHere
  | 30, _ => am_cw_X4_passWord
  | 31, _ => am_cw_X4_check
  | 32, _ => am_cw_X4_blame
  | 33, _ => am_cw_X4_isWord
  | 34, _ => am_cw_X4_advance
  | 35, _ => am_cw_X4_kindAt
  | 36, _ => am_cw_X5_init
  | 37, _ => am_cw_X5_stray
  | 38, _ => am_cw_X5_choose
  | 39, _ => am_cw_X5_draw
  | 40, _ => am_cw_X6_init
  | 41, _ => am_cw_X6_fill
  | 42, _ => am_cw_X6_search
  | 43, _ => am_cw_X6_visitOnward
  | 44, _ => am_cw_X6_visitBackward
  | 45, _ => am_cw_X6_visit
  | 46, _ => am_cw_X6_before
  | 47, _ => am_cw_X6_roomTo
  | 48, _ => am_cw_X6_pushTo
  | 49, _ => am_cw_X6_cuts
  | 50, _ => am_cw_X6_cutTurns
  | 51, _ => am_cw_X6_cutTurn
  | 52, _ => am_cw_X7_init
  | 53, _ => am_cw_X7_stands
  | 54, _ => am_cw_X7_isCrossing
  | 55, _ => am_cw_X7_areCrossings
  | 56, _ => am_cw_X7_isPair
  | 57, _ => am_cw_X7_isTurn
  | 58, _ => am_cw_X7_isErrand
  | 59, _ => am_cw_X7_clear
  | 60, _ => am_cw_X7_become
  | 61, _ => am_cw_X7_settle
  | 62, _ => am_cw_X7_listTurns
  | 63, _ => am_cw_X7_layStreet
  | i + 64, h => absurd h (by omega)
theorem am_cwB64 : ∀ i, i < 64 → am_cwP (am_P (64 + i))
  | 0, _ => am_cw_X7_forgetTurns
  | 1, _ => am_cw_X7_setUses
  | 2, _ => am_cw_X7_setErrand
  | 3, _ => am_cw_X7_takeBackLatest
  | 4, _ => am_cw_X7_sumOf
  | 5, _ => am_cw_X8_init
  | 6, _ => am_cw_X8_walkAll
  | 7, _ => am_cw_X8_walkOn
  | 8, _ => am_cw_X8_tally
  | 9, _ => am_cw_X8_sum
  | 10, _ => am_cw_X8_endBits
  | 11, _ => am_cw_X9_init
  | 12, _ => am_cw_X9_boughtTurns
  | 13, _ => am_cw_X9_wayLength
  | 14, _ => am_cw_X9_find
  | 15, _ => am_cw_X9_priceArcs
  | 16, _ => am_cw_X9_priceOf
  | 17, _ => am_cw_X9_costOver
  | 18, _ => am_cw_X9_cheapestFrom
  | 19, _ => am_cw_X9_spendWhatIsLeft
  | 20, _ => am_cw_X9_burn
  | 21, _ => am_cw_X9_within
  | 22, _ => am_cw_X9_visit
  | 23, _ => am_cw_X9_shutPairs
  | 24, _ => am_cw_X10_init
  | 25, _ => am_cw_X10_feed
  | 26, _ => am_cw_X10_end
  | 27, _ => am_cw_X10_town
  | 28, _ => am_cw_X10_fault
  | 29, _ => am_cw_X10_street
  | 30, _ => am_cw_X10_uses
  | 31, _ => am_cw_X10_left
  | 32, _ => am_cw_X10_usesOf
  | 33, _ => am_cw_X10_beside
  | 34, _ => am_cw_X10_corner
  | 35, _ => am_cw_X10_errand
  | 36, _ => am_cw_X10_take
  | 37, _ => am_cw_X10_give
  | 38, _ => am_cw_X10_lead
  | 39, _ => am_cw_X10_undo
  | 40, _ => am_cw_X10_anew
  | 41, _ => am_cw_X10_led
  | 42, _ => am_cw_X10_bare
  | 43, _ => am_cw_X10_way
  | 44, _ => am_cw_X10_stop
  | 45, _ => am_cw_X10_streets
  | 46, _ => am_cw_X10_buy
  | 47, _ => am_cw_X10_bought
  | 48, _ => am_cw_X10_lane
  | 49, _ => am_cw_X10_costOf
  | 50, _ => am_cw_X10_crossingOf
  | 51, _ => am_cw_X10_reach
  | 52, _ => am_cw_X10_shut
  | 53, _ => am_cw_X10_key
  | 54, _ => am_cw_X10_loss
  | 55, _ => am_cw_X10_shutWithout
  | 56, _ => am_cw_X10_flow
  | 57, _ => am_cw_X10_cut
  | 58, _ => am_cw_X10_wall
  | 59, _ => am_cw_X10_fillStreams
  | 60, _ => am_cw_X10_day
  | 61, _ => am_cw_X10_goes
  | 62, _ => am_cw_X10_fails
  | 63, _ => am_cw_X10_dusk
  | i + 64, h => absurd h (by omega)
theorem am_cwB128 : ∀ i, i < 64 → am_cwP (am_P (128 + i))
  | 0, _ => am_cw_X10_spent
  | 1, _ => am_cw_X10_dawn
  | 2, _ => am_cw_X10_first
  | 3, _ => am_cw_X10_least
  | 4, _ => am_cw_X10_tryOrders
  | 5, _ => am_cw_X10_spares
  | 6, _ => am_cw_X10_demand
  | 7, _ => am_cw_X10_dearest
  | 8, _ => am_cw_X10_countDemand
  | 9, _ => am_cw_X10_noon
  | 10, _ => am_cw_X10_round
  | 11, _ => am_cw_X10_uneven
  | 12, _ => am_cw_X10_wins
  | 13, _ => am_cw_X10_turn
  | 14, _ => am_cw_X10_playFrom
  | 15, _ => am_cw_X10_chase
  | 16, _ => am_cw_X10_walks
  | 17, _ => am_cw_X10_sure
  | 18, _ => am_cw_X10_ends
  | 19, _ => am_cw_X10_wide
  | 20, _ => am_cw_X10_walkAll
  | 21, _ => am_cw_X10_fits
  | 22, _ => am_cw_X10_gone
  | 23, _ => am_cw_X10_walkAsSeen
  | 24, _ => am_cw_X10_countSeen
  | 25, _ => am_cw_X10_march
  | 26, _ => am_cw_X10_length
  | 27, _ => am_cw_X10_checkMarch
  | 28, _ => am_cw_X10_marched
  | 29, _ => am_cw_X10_drawn
  | 30, _ => am_cw_X10_strays
  | 31, _ => am_cw_X10_canStray
  | 32, _ => am_cw_X10_build
  | 33, _ => am_cw_X10_law
  | 34, _ => am_cw_X10_send
  | 35, _ => am_cw_X10_count
  | 36, _ => am_cw_X10_standingSlots
  | 37, _ => am_cw_X10_keep
  | 38, _ => am_cw_X10_back
  | 39, _ => am_cw_X10_row
  | 40, _ => am_cw_X10_write
  | 41, _ => am_cw_X10_paste
  | 42, _ => am_cw_X10_arcOf
  | 43, _ => am_cw_X10_turnOf
  | 44, _ => am_cw_X10_fromOf
  | 45, _ => am_cw_X10_byOf
  | 46, _ => am_cw_X10_toOf
  | 47, _ => am_cw_X10_arcInto
  | 48, _ => am_cw_X10_arcOutOf
  | 49, _ => am_cw_X10_codeOf
  | 50, _ => am_cw_X10_copyUses
  | 51, _ => am_cw_X10_addToTurns
  | 52, _ => am_cw_X11_init
  | 53, _ => am_cw_X11_in
  | 54, _ => am_cw_X11_isSlot
  | 55, _ => am_cw_X11_row
  | 56, _ => am_cw_X11_cut
  | 57, _ => am_cw_X11_write
  | 58, _ => am_cw_X11_paste
  | 59, _ => am_cw_X11_feed
  | 60, _ => am_cw_X11_four
  | 61, _ => am_cw_X11_end
  | 62, _ => am_cw_X11_isByte
  | 63, _ => am_cw_X11_next
  | i + 64, h => absurd h (by omega)
theorem am_cwB192 : ∀ i, i < 64 → am_cwP (am_P (192 + i))
  | 0, _ => am_cw_X11_isGood
  | 1, _ => am_cw_X11_fails
  | 2, _ => am_cw_X11_is
  | 3, _ => am_cw_X11_takes
  | 4, _ => am_cw_X11_asks
  | 5, _ => am_cw_X11_number
  | 6, _ => am_cw_X11_number_
  | 7, _ => am_cw_X11_ends
  | 8, _ => am_cw_X11_begins
  | 9, _ => am_cw_X11_isOver
  | 10, _ => am_cw_X11_fault
  | 11, _ => am_cw_X11_hasRead
  | 12, _ => am_cw_X11_crossingHere
  | 13, _ => am_cw_X11_streetsOf
  | 14, _ => am_cw_X11_turnOf
  | 15, _ => am_cw_X11_lays
  | 16, _ => am_cw_X11_laysTurn
  | 17, _ => am_cw_X11_isStreetRead
  | 18, _ => am_cw_X11_streetLine
  | 19, _ => am_cw_X11_turnLine
  | 20, _ => am_cw_X11_errandLine
  | 21, _ => am_cw_X11_line
  | 22, _ => am_cw_X11_clears
  | 23, _ => am_cw_X11_town
  | 24, _ => am_cw_X11_copyRow
  | 25, _ => am_cw_X11_copyTown
  | 26, _ => am_cw_X11_isTown
  | 27, _ => am_cw_X11_all
  | 28, _ => am_cw_X11_isCrossing
  | 29, _ => am_cw_X11_areTwo
  | 30, _ => am_cw_X11_areThree
  | 31, _ => am_cw_X11_longOf
  | 32, _ => am_cw_X11_isStreet
  | 33, _ => am_cw_X11_isTurn
  | 34, _ => am_cw_X11_isErrand
  | 35, _ => am_cw_X11_isBit
  | 36, _ => am_cw_X11_street
  | 37, _ => am_cw_X11_uses
  | 38, _ => am_cw_X11_left
  | 39, _ => am_cw_X11_besideOf
  | 40, _ => am_cw_X11_beside
  | 41, _ => am_cw_X11_corner
  | 42, _ => am_cw_X11_errand
  | 43, _ => am_cw_X11_acts
  | 44, _ => am_cw_X11_take
  | 45, _ => am_cw_X11_give
  | 46, _ => am_cw_X11_takesBack
  | 47, _ => am_cw_X11_undo
  | 48, _ => am_cw_X11_anew
  | 49, _ => am_cw_X11_led
  | 50, _ => am_cw_X11_asLeft
  | 51, _ => am_cw_X11_costOf
  | 52, _ => am_cw_X11_streetCost
  | 53, _ => am_cw_X11_laysFar
  | 54, _ => am_cw_X11_betters
  | 55, _ => am_cw_X11_waysTo
  | 56, _ => am_cw_X11_goesOn
  | 57, _ => am_cw_X11_lengthIn
  | 58, _ => am_cw_X11_bare
  | 59, _ => am_cw_X11_wayNow
  | 60, _ => am_cw_X11_stopAt
  | 61, _ => am_cw_X11_way
  | 62, _ => am_cw_X11_stop
  | 63, _ => am_cw_X11_streets
  | i + 64, h => absurd h (by omega)
theorem am_cwB256 : ∀ i, i < 64 → am_cwP (am_P (256 + i))
  | 0, _ => am_cw_X11_buy
  | 1, _ => am_cw_X11_bought
  | 2, _ => am_cw_X11_lane
  | 3, _ => am_cw_X11_reach
  | 4, _ => am_cw_X11_shutNow
  | 5, _ => am_cw_X11_shut
  | 6, _ => am_cw_X11_shutWithout
  | 7, _ => am_cw_X11_key
  | 8, _ => am_cw_X11_loss
  | 9, _ => am_cw_X11_seeks
  | 10, _ => am_cw_X11_goesInto
  | 11, _ => am_cw_X11_flowsTo
  | 12, _ => am_cw_X11_isOnward
  | 13, _ => am_cw_X11_flow
  | 14, _ => am_cw_X11_isWall
  | 15, _ => am_cw_X11_cut_
  | 16, _ => am_cw_X11_wall
  | 17, _ => am_cw_X11_byHours
  | 18, _ => am_cw_X11_takesRow
  | 19, _ => am_cw_X11_goesDay
  | 20, _ => am_cw_X11_asDay
  | 21, _ => am_cw_X11_day
  | 22, _ => am_cw_X11_goes
  | 23, _ => am_cw_X11_fails_
  | 24, _ => am_cw_X11_sumNow
  | 25, _ => am_cw_X11_dusk
  | 26, _ => am_cw_X11_spent
  | 27, _ => am_cw_X11_dawns
  | 28, _ => am_cw_X11_laysDawn
  | 29, _ => am_cw_X11_dawn
  | 30, _ => am_cw_X11_first
  | 31, _ => am_cw_X11_least
  | 32, _ => am_cw_X11_spares
  | 33, _ => am_cw_X11_isOn
  | 34, _ => am_cw_X11_demandOf
  | 35, _ => am_cw_X11_demand
  | 36, _ => am_cw_X11_dearest
  | 37, _ => am_cw_X11_noon
  | 38, _ => am_cw_X11_oddsOf
  | 39, _ => am_cw_X11_unevenNow
  | 40, _ => am_cw_X11_uneven
  | 41, _ => am_cw_X11_round
  | 42, _ => am_cw_X11_winsFrom
  | 43, _ => am_cw_X11_winsBy
  | 44, _ => am_cw_X11_whyNoGame
  | 45, _ => am_cw_X11_wins
  | 46, _ => am_cw_X11_turn
  | 47, _ => am_cw_X11_chase
  | 48, _ => am_cw_X11_walks
  | 49, _ => am_cw_X11_laysWalks
  | 50, _ => am_cw_X11_isWalk
  | 51, _ => am_cw_X11_walks_
  | 52, _ => am_cw_X11_sure
  | 53, _ => am_cw_X11_ends_
  | 54, _ => am_cw_X11_wide
  | 55, _ => am_cw_X11_whyNotSeen
  | 56, _ => am_cw_X11_fits
  | 57, _ => am_cw_X11_gone
  | 58, _ => am_cw_X11_marches
  | 59, _ => am_cw_X11_whyNotMarch
  | 60, _ => am_cw_X11_march
  | 61, _ => am_cw_X11_length
  | 62, _ => am_cw_X11_draws
  | 63, _ => am_cw_X11_sizeOf
  | i + 64, h => absurd h (by omega)
theorem am_cwB320 : ∀ i, i < 12 → am_cwP (am_P (320 + i))
  | 0, _ => am_cw_X11_isDraw
  | 1, _ => am_cw_X11_drawn
  | 2, _ => am_cw_X11_strays
  | 3, _ => am_cw_X11_build
  | 4, _ => am_cw_X11_law
  | 5, _ => am_cw_X11_send
  | 6, _ => am_cw_X11_count
  | 7, _ => am_cw_X11_keep
  | 8, _ => am_cw_X11_back
  | 9, _ => am_cw_J6_bitCount_0f7a4
  | 10, _ => am_cw_J7_fill_d0a16
  | 11, _ => am_cw_J7_fill_53178
  | i + 12, h => absurd h (by omega)
theorem am_cwA {mi : Nat} (h : mi < am_NM) : am_cwP (am_P mi) := by
  by_cases q0 : mi < 64
  · have := am_cwB0 (mi - 0) (by omega)
    rwa [show 0 + (mi - 0) = mi by omega] at this
  by_cases q64 : mi < 128
  · have := am_cwB64 (mi - 64) (by omega)
    rwa [show 64 + (mi - 64) = mi by omega] at this
  by_cases q128 : mi < 192
  · have := am_cwB128 (mi - 128) (by omega)
    rwa [show 128 + (mi - 128) = mi by omega] at this
  by_cases q192 : mi < 256
  · have := am_cwB192 (mi - 192) (by omega)
    rwa [show 192 + (mi - 192) = mi by omega] at this
  by_cases q256 : mi < 320
  · have := am_cwB256 (mi - 256) (by omega)
    rwa [show 256 + (mi - 256) = mi by omega] at this
  by_cases q320 : mi < 332
  · have := am_cwB320 (mi - 320) (by omega)
    rwa [show 320 + (mi - 320) = mi by omega] at this
  exact absurd h (by omega)
theorem am_hmA {mi : Nat} (h : mi < am_NM) : am_hm mi = true := by
  by_cases q0 : mi < 48
  · have := am_hm_0 (mi - 0) (by omega)
    rwa [show 0 + (mi - 0) = mi by omega] at this
  by_cases q48 : mi < 96
  · have := am_hm_48 (mi - 48) (by omega)
    rwa [show 48 + (mi - 48) = mi by omega] at this
  by_cases q96 : mi < 144
  · have := am_hm_96 (mi - 96) (by omega)
    rwa [show 96 + (mi - 96) = mi by omega] at this
  by_cases q144 : mi < 192
  · have := am_hm_144 (mi - 144) (by omega)
    rwa [show 144 + (mi - 144) = mi by omega] at this
  by_cases q192 : mi < 240
  · have := am_hm_192 (mi - 192) (by omega)
    rwa [show 192 + (mi - 192) = mi by omega] at this
  by_cases q240 : mi < 288
  · have := am_hm_240 (mi - 240) (by omega)
    rwa [show 240 + (mi - 240) = mi by omega] at this
  by_cases q288 : mi < 332
  · have := am_hm_288 (mi - 288) (by omega)
    rwa [show 288 + (mi - 288) = mi by omega] at this
  exact absurd h (by omega)
theorem am_hrA {mi : Nat} (h : mi < am_NM) : am_hr mi = true := by
  by_cases q0 : mi < 12
  · have := am_hr_0 (mi - 0) (by omega)
    rwa [show 0 + (mi - 0) = mi by omega] at this
  by_cases q12 : mi < 24
  · have := am_hr_12 (mi - 12) (by omega)
    rwa [show 12 + (mi - 12) = mi by omega] at this
  by_cases q24 : mi < 36
  · have := am_hr_24 (mi - 24) (by omega)
    rwa [show 24 + (mi - 24) = mi by omega] at this
  by_cases q36 : mi < 48
  · have := am_hr_36 (mi - 36) (by omega)
    rwa [show 36 + (mi - 36) = mi by omega] at this
  by_cases q48 : mi < 60
  · have := am_hr_48 (mi - 48) (by omega)
    rwa [show 48 + (mi - 48) = mi by omega] at this
  by_cases q60 : mi < 72
  · have := am_hr_60 (mi - 60) (by omega)
    rwa [show 60 + (mi - 60) = mi by omega] at this
  by_cases q72 : mi < 84
  · have := am_hr_72 (mi - 72) (by omega)
    rwa [show 72 + (mi - 72) = mi by omega] at this
  by_cases q84 : mi < 96
  · have := am_hr_84 (mi - 84) (by omega)
    rwa [show 84 + (mi - 84) = mi by omega] at this
  by_cases q96 : mi < 108
  · have := am_hr_96 (mi - 96) (by omega)
    rwa [show 96 + (mi - 96) = mi by omega] at this
  by_cases q108 : mi < 120
  · have := am_hr_108 (mi - 108) (by omega)
    rwa [show 108 + (mi - 108) = mi by omega] at this
  by_cases q120 : mi < 132
  · have := am_hr_120 (mi - 120) (by omega)
    rwa [show 120 + (mi - 120) = mi by omega] at this
  by_cases q132 : mi < 144
  · have := am_hr_132 (mi - 132) (by omega)
    rwa [show 132 + (mi - 132) = mi by omega] at this
  by_cases q144 : mi < 156
  · have := am_hr_144 (mi - 144) (by omega)
    rwa [show 144 + (mi - 144) = mi by omega] at this
  by_cases q156 : mi < 168
  · have := am_hr_156 (mi - 156) (by omega)
    rwa [show 156 + (mi - 156) = mi by omega] at this
  by_cases q168 : mi < 180
  · have := am_hr_168 (mi - 168) (by omega)
    rwa [show 168 + (mi - 168) = mi by omega] at this
  by_cases q180 : mi < 192
  · have := am_hr_180 (mi - 180) (by omega)
    rwa [show 180 + (mi - 180) = mi by omega] at this
  by_cases q192 : mi < 204
  · have := am_hr_192 (mi - 192) (by omega)
    rwa [show 192 + (mi - 192) = mi by omega] at this
  by_cases q204 : mi < 216
  · have := am_hr_204 (mi - 204) (by omega)
    rwa [show 204 + (mi - 204) = mi by omega] at this
  by_cases q216 : mi < 228
  · have := am_hr_216 (mi - 216) (by omega)
    rwa [show 216 + (mi - 216) = mi by omega] at this
  by_cases q228 : mi < 240
  · have := am_hr_228 (mi - 228) (by omega)
    rwa [show 228 + (mi - 228) = mi by omega] at this
  by_cases q240 : mi < 252
  · have := am_hr_240 (mi - 240) (by omega)
    rwa [show 240 + (mi - 240) = mi by omega] at this
  by_cases q252 : mi < 264
  · have := am_hr_252 (mi - 252) (by omega)
    rwa [show 252 + (mi - 252) = mi by omega] at this
  by_cases q264 : mi < 276
  · have := am_hr_264 (mi - 264) (by omega)
    rwa [show 264 + (mi - 264) = mi by omega] at this
  by_cases q276 : mi < 288
  · have := am_hr_276 (mi - 276) (by omega)
    rwa [show 276 + (mi - 276) = mi by omega] at this
  by_cases q288 : mi < 300
  · have := am_hr_288 (mi - 288) (by omega)
    rwa [show 288 + (mi - 288) = mi by omega] at this
  by_cases q300 : mi < 312
  · have := am_hr_300 (mi - 300) (by omega)
    rwa [show 300 + (mi - 300) = mi by omega] at this
  by_cases q312 : mi < 324
  · have := am_hr_312 (mi - 312) (by omega)
    rwa [show 312 + (mi - 312) = mi by omega] at this
  by_cases q324 : mi < 332
  · have := am_hr_324 (mi - 324) (by omega)
    rwa [show 324 + (mi - 324) = mi by omega] at this
  exact absurd h (by omega)
theorem am_OK : am_okP am_P am_NM := by
  refine ⟨fun mi h => ?_, fun mi h q hq => List.all_eq_true.mp (am_hrA h) q hq, fun mi h hn => ?_⟩
  · have h1 := am_hmA h
    unfold am_hm at h1
    split at h1
    rw [Bool.and_eq_true] at h1
    exact ⟨_, _, _, am_cwA h, h1.1⟩
  · have h1 := am_hmA h
    unfold am_hm at h1
    split at h1
    rw [Bool.and_eq_true, Bool.or_eq_true] at h1
    rcases h1.2 with q | q
    · rw [decide_eq_true hn] at q
      cases q
    · exact of_decide_eq_true q
