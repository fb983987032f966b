/-! FACTS by program: the world, methods, words by their places -/
def zW : List zSh := [.inl (11, [some (some 1), some (some 3), some (some 5), some (some 20), some (some 27), some (some 30), some (some 33), some (some 34), some (some 39), some (some 48), some (some 49), some (some 52), some (some 53)]), .inl (9, [some (some 2), none, none, none]), .inr (4, 80), .inl (6, [some (some 4), none]), .inr (1, 12), .inl (1, [some (some 6), some (some 7), some (some 8), none, some (some 9), some (some 10), none, some (some 11), none, none, some (some 12), some (some 17), some (some 18), some (some 19)]), .inr (0, 8), .inr (0, 8), .inr (0, 8), .inr (0, 24), .inr (0, 36), .inr (0, 48), .inl (7, [some (some 13), none, some (some 14), none, some (some 15), some (some 16)]), .inr (0, 40), .inr (0, 40), .inr (0, 40), .inr (0, 8), .inr (0, 80), .inr (0, 8), .inr (0, 8), .inl (10, [some (some 21), some (some 22), some (some 23), some (some 24), none, some (some 25), some (some 26)]), .inr (0, 12), .inr (0, 12), .inr (0, 12), .inr (0, 12), .inr (0, 6), .inr (0, 6), .inl (8, [none, some (some 28), some (some 29), none]), .inr (0, 624), .inr (0, 13), .inl (8, [none, some (some 31), some (some 32), none]), .inr (0, 96), .inr (0, 2), .inl (2, [none, none, none, none, none]), .inl (4, [some (some 35), some (some 36), some (some 37), some (some 38), none]), .inr (0, 64), .inr (0, 64), .inr (0, 5409), .inr (0, 9), .inl (3, [some (some 40), none, none, none, some (some 41), some (some 42), some (some 43), some (some 44), some (some 45), some (some 46), some (some 47)]), .inr (0, 3), .inr (0, 12), .inr (0, 12), .inr (0, 12), .inr (0, 18), .inr (0, 3), .inr (1, 12), .inr (1, 9), .inl (0, [none, none, none, none, none]), .inl (5, [some (some 50), some (some 51)]), .inr (0, 6), .inr (0, 6), .inr (1, 9), .inr (0, 12), .inl (12, [some (some 55), none, some (some 56), some (some 57), some (some 58), none, none, some (some 59), some (some 60), some (some 61), none, some (some 62), some (some 63), some (some 64), none, some (some 65), none, none, some none, none, none, none, none, some (some 66), some (some 67), some (some 68), some (some 69), none, none, none, none, none, none, some (some 70), some (some 71), some (some 72), some (some 73), some (some 74), none, some (some 75), none, none, none, none, some (some 76), some (some 77), some (some 78), none, some (some 79), some (some 80), some (some 81), some (some 82), some (some 83), none, none, some (some 84), some (some 85), some (some 86)]), .inr (0, 49), .inr (0, 8), .inr (0, 8), .inr (0, 8), .inr (0, 6), .inr (0, 6), .inr (0, 24), .inr (0, 48), .inr (0, 6), .inr (2, 80), .inr (1, 16), .inr (0, 24), .inr (0, 36), .inr (0, 6), .inr (2, 40), .inr (0, 9), .inr (0, 11700), .inr (0, 64), .inr (0, 64), .inr (0, 588), .inr (0, 49), .inr (0, 400), .inr (0, 49), .inr (0, 3), .inr (1, 12), .inr (0, 4), .inr (0, 12), .inr (0, 3), .inr (0, 6), .inr (1, 7), .inr (0, 98), .inr (3, 2), .inr (1, 1)]
theorem zW_0 : zW[0]? = some (.inl (11, [some (some 1), some (some 3), some (some 5), some (some 20), some (some 27), some (some 30), some (some 33), some (some 34), some (some 39), some (some 48), some (some 49), some (some 52), some (some 53)])) := rfl
theorem zW_1 : zW[1]? = some (.inl (9, [some (some 2), none, none, none])) := rfl
theorem zW_2 : zW[2]? = some (.inr (4, 80)) := rfl
theorem zW_3 : zW[3]? = some (.inl (6, [some (some 4), none])) := rfl
theorem zW_4 : zW[4]? = some (.inr (1, 12)) := rfl
theorem zW_5 : zW[5]? = some (.inl (1, [some (some 6), some (some 7), some (some 8), none, some (some 9), some (some 10), none, some (some 11), none, none, some (some 12), some (some 17), some (some 18), some (some 19)])) := rfl
theorem zW_6 : zW[6]? = some (.inr (0, 8)) := rfl
theorem zW_7 : zW[7]? = some (.inr (0, 8)) := rfl
theorem zW_8 : zW[8]? = some (.inr (0, 8)) := rfl
theorem zW_9 : zW[9]? = some (.inr (0, 24)) := rfl
theorem zW_10 : zW[10]? = some (.inr (0, 36)) := rfl
theorem zW_11 : zW[11]? = some (.inr (0, 48)) := rfl
theorem zW_12 : zW[12]? = some (.inl (7, [some (some 13), none, some (some 14), none, some (some 15), some (some 16)])) := rfl
theorem zW_13 : zW[13]? = some (.inr (0, 40)) := rfl
theorem zW_14 : zW[14]? = some (.inr (0, 40)) := rfl
theorem zW_15 : zW[15]? = some (.inr (0, 40)) := rfl
theorem zW_16 : zW[16]? = some (.inr (0, 8)) := rfl
theorem zW_17 : zW[17]? = some (.inr (0, 80)) := rfl
theorem zW_18 : zW[18]? = some (.inr (0, 8)) := rfl
theorem zW_19 : zW[19]? = some (.inr (0, 8)) := rfl
theorem zW_20 : zW[20]? = some (.inl (10, [some (some 21), some (some 22), some (some 23), some (some 24), none, some (some 25), some (some 26)])) := rfl
theorem zW_21 : zW[21]? = some (.inr (0, 12)) := rfl
theorem zW_22 : zW[22]? = some (.inr (0, 12)) := rfl
theorem zW_23 : zW[23]? = some (.inr (0, 12)) := rfl
theorem zW_24 : zW[24]? = some (.inr (0, 12)) := rfl
theorem zW_25 : zW[25]? = some (.inr (0, 6)) := rfl
theorem zW_26 : zW[26]? = some (.inr (0, 6)) := rfl
theorem zW_27 : zW[27]? = some (.inl (8, [none, some (some 28), some (some 29), none])) := rfl
theorem zW_28 : zW[28]? = some (.inr (0, 624)) := rfl
theorem zW_29 : zW[29]? = some (.inr (0, 13)) := rfl
theorem zW_30 : zW[30]? = some (.inl (8, [none, some (some 31), some (some 32), none])) := rfl
theorem zW_31 : zW[31]? = some (.inr (0, 96)) := rfl
theorem zW_32 : zW[32]? = some (.inr (0, 2)) := rfl
theorem zW_33 : zW[33]? = some (.inl (2, [none, none, none, none, none])) := rfl
theorem zW_34 : zW[34]? = some (.inl (4, [some (some 35), some (some 36), some (some 37), some (some 38), none])) := rfl
theorem zW_35 : zW[35]? = some (.inr (0, 64)) := rfl
theorem zW_36 : zW[36]? = some (.inr (0, 64)) := rfl
theorem zW_37 : zW[37]? = some (.inr (0, 5409)) := rfl
theorem zW_38 : zW[38]? = some (.inr (0, 9)) := rfl
theorem zW_39 : zW[39]? = some (.inl (3, [some (some 40), none, none, none, some (some 41), some (some 42), some (some 43), some (some 44), some (some 45), some (some 46), some (some 47)])) := rfl
theorem zW_40 : zW[40]? = some (.inr (0, 3)) := rfl
theorem zW_41 : zW[41]? = some (.inr (0, 12)) := rfl
theorem zW_42 : zW[42]? = some (.inr (0, 12)) := rfl
theorem zW_43 : zW[43]? = some (.inr (0, 12)) := rfl
theorem zW_44 : zW[44]? = some (.inr (0, 18)) := rfl
theorem zW_45 : zW[45]? = some (.inr (0, 3)) := rfl
theorem zW_46 : zW[46]? = some (.inr (1, 12)) := rfl
theorem zW_47 : zW[47]? = some (.inr (1, 9)) := rfl
theorem zW_48 : zW[48]? = some (.inl (0, [none, none, none, none, none])) := rfl
theorem zW_49 : zW[49]? = some (.inl (5, [some (some 50), some (some 51)])) := rfl
theorem zW_50 : zW[50]? = some (.inr (0, 6)) := rfl
theorem zW_51 : zW[51]? = some (.inr (0, 6)) := rfl
theorem zW_52 : zW[52]? = some (.inr (1, 9)) := rfl
theorem zW_53 : zW[53]? = some (.inr (0, 12)) := rfl
theorem zW_54 : zW[54]? = some (.inl (12, [some (some 55), none, some (some 56), some (some 57), some (some 58), none, none, some (some 59), some (some 60), some (some 61), none, some (some 62), some (some 63), some (some 64), none, some (some 65), none, none, some none, none, none, none, none, some (some 66), some (some 67), some (some 68), some (some 69), none, none, none, none, none, none, some (some 70), some (some 71), some (some 72), some (some 73), some (some 74), none, some (some 75), none, none, none, none, some (some 76), some (some 77), some (some 78), none, some (some 79), some (some 80), some (some 81), some (some 82), some (some 83), none, none, some (some 84), some (some 85), some (some 86)])) := rfl
theorem zW_55 : zW[55]? = some (.inr (0, 49)) := rfl
theorem zW_56 : zW[56]? = some (.inr (0, 8)) := rfl
theorem zW_57 : zW[57]? = some (.inr (0, 8)) := rfl
theorem zW_58 : zW[58]? = some (.inr (0, 8)) := rfl
theorem zW_59 : zW[59]? = some (.inr (0, 6)) := rfl
theorem zW_60 : zW[60]? = some (.inr (0, 6)) := rfl
theorem zW_61 : zW[61]? = some (.inr (0, 24)) := rfl
theorem zW_62 : zW[62]? = some (.inr (0, 48)) := rfl
theorem zW_63 : zW[63]? = some (.inr (0, 6)) := rfl
theorem zW_64 : zW[64]? = some (.inr (2, 80)) := rfl
theorem zW_65 : zW[65]? = some (.inr (1, 16)) := rfl
theorem zW_66 : zW[66]? = some (.inr (0, 24)) := rfl
theorem zW_67 : zW[67]? = some (.inr (0, 36)) := rfl
theorem zW_68 : zW[68]? = some (.inr (0, 6)) := rfl
theorem zW_69 : zW[69]? = some (.inr (2, 40)) := rfl
theorem zW_70 : zW[70]? = some (.inr (0, 9)) := rfl
theorem zW_71 : zW[71]? = some (.inr (0, 11700)) := rfl
theorem zW_72 : zW[72]? = some (.inr (0, 64)) := rfl
theorem zW_73 : zW[73]? = some (.inr (0, 64)) := rfl
theorem zW_74 : zW[74]? = some (.inr (0, 588)) := rfl
theorem zW_75 : zW[75]? = some (.inr (0, 49)) := rfl
theorem zW_76 : zW[76]? = some (.inr (0, 400)) := rfl
theorem zW_77 : zW[77]? = some (.inr (0, 49)) := rfl
theorem zW_78 : zW[78]? = some (.inr (0, 3)) := rfl
theorem zW_79 : zW[79]? = some (.inr (1, 12)) := rfl
theorem zW_80 : zW[80]? = some (.inr (0, 4)) := rfl
theorem zW_81 : zW[81]? = some (.inr (0, 12)) := rfl
theorem zW_82 : zW[82]? = some (.inr (0, 3)) := rfl
theorem zW_83 : zW[83]? = some (.inr (0, 6)) := rfl
theorem zW_84 : zW[84]? = some (.inr (1, 7)) := rfl
theorem zW_85 : zW[85]? = some (.inr (0, 98)) := rfl
theorem zW_86 : zW[86]? = some (.inr (3, 2)) := rfl
theorem zW_87 : zW[87]? = some (.inr (1, 1)) := rfl
def zokb (W : List zSh) : Bool := W.all (fun h => match h with
  | .inl o => Nat.ble o.2.length 64
  | .inr _ => true)
theorem zok_of {W : List zSh} (h : zokb W = true) : zok W := by
  intro c o hc
  have := List.all_eq_true.mp h _ (List.mem_of_getElem? hc)
  exact Nat.le_of_ble_eq_true this
theorem zW_ok : zok zW := zok_of (by decide +kernel)
theorem zTB_all {ws : List Cond} (ps : List Nat) (hp : ws = ps.filterMap (fun i => lw_tbl[i]?)) (h : ws.all goodWord = true) : ∀ w ∈ ws, w ∈ zTB := by
  intro w hw
  have h1 := List.all_eq_true.mp h w hw
  rw [hp] at hw
  obtain ⟨i, -, hi⟩ := List.mem_filterMap.mp hw
  exact zTB_of hi h1
def mJ6_bitCount_0f7a4 : zM := (RJ6, yJ6_bitCount_0f7a4, cJ6_bitCount_0f7a4, 1, some .int)
def mJ7_fill_53178 : zM := (RJ7, yJ7_fill_53178, cJ7_fill_53178, 4, none)
def mJ7_fill_d0a16 : zM := (RJ7, yJ7_fill_d0a16, cJ7_fill_d0a16, 5, none)
def mJ9_abs_067f4 : zM := (RJ9, yJ9_abs_067f4, cJ9_abs_067f4, 2, some .long)
def mX0_check : zM := (RX0, yX0_check, cX0_check, 3, some .int)
def mX0_read : zM := (RX0, yX0_read, cX0_read, 2, some .boolean)
def mX0_readPair : zM := (RX0, yX0_readPair, cX0_readPair, 2, some .boolean)
def mX0_readRide : zM := (RX0, yX0_readRide, cX0_readRide, 2, some .boolean)
def mX0_readTold : zM := (RX0, yX0_readTold, cX0_readTold, 2, some .boolean)
def mX10_add : zM := (RX10, yX10_add, cX10_add, 5, none)
def mX10_isFull : zM := (RX10, yX10_isFull, cX10_isFull, 1, some .boolean)
def mX10_moneyAt : zM := (RX10, yX10_moneyAt, cX10_moneyAt, 2, some .int)
def mX10_moneyInAll : zM := (RX10, yX10_moneyInAll, cX10_moneyInAll, 3, some .int)
def mX10_placeFor : zM := (RX10, yX10_placeFor, cX10_placeFor, 6, some .int)
def mX10_placeOf : zM := (RX10, yX10_placeOf, cX10_placeOf, 5, some .int)
def mX10_readMoney : zM := (RX10, yX10_readMoney, cX10_readMoney, 3, some .int)
def mX10_scaledMean : zM := (RX10, yX10_scaledMean, cX10_scaledMean, 7, some .long)
def mX10_strike : zM := (RX10, yX10_strike, cX10_strike, 1, some .boolean)
def mX10_tellOrder : zM := (RX10, yX10_tellOrder, cX10_tellOrder, 5, none)
def mX11_addRide : zM := (RX11, yX11_addRide, cX11_addRide, 5, some .int)
def mX11_addTold : zM := (RX11, yX11_addTold, cX11_addTold, 5, some .int)
def mX11_again : zM := (RX11, yX11_again, cX11_again, 2, some .boolean)
def mX11_allow : zM := (RX11, yX11_allow, cX11_allow, 3, some .int)
def mX11_beat : zM := (RX11, yX11_beat, cX11_beat, 5, some .int)
def mX11_begun : zM := (RX11, yX11_begun, cX11_begun, 3, some .int)
def mX11_bestPlan : zM := (RX11, yX11_bestPlan, cX11_bestPlan, 6, some .int)
def mX11_bitsThrough : zM := (RX11, yX11_bitsThrough, cX11_bitsThrough, 5, some .int)
def mX11_built : zM := (RX11, yX11_built, cX11_built, 7, some .int)
def mX11_buy : zM := (RX11, yX11_buy, cX11_buy, 6, some .int)
def mX11_calm : zM := (RX11, yX11_calm, cX11_calm, 10, some .int)
def mX11_count : zM := (RX11, yX11_count, cX11_count, 2, some .int)
def mX11_curve : zM := (RX11, yX11_curve, cX11_curve, 3, some .int)
def mX11_cuts : zM := (RX11, yX11_cuts, cX11_cuts, 11, some .int)
def mX11_end : zM := (RX11, yX11_end, cX11_end, 2, some .boolean)
def mX11_fair : zM := (RX11, yX11_fair, cX11_fair, 10, some .int)
def mX11_falls : zM := (RX11, yX11_falls, cX11_falls, 7, some .int)
def mX11_fear : zM := (RX11, yX11_fear, cX11_fear, 5, some .int)
def mX11_game : zM := (RX11, yX11_game, cX11_game, 3, some .int)
def mX11_horses : zM := (RX11, yX11_horses, cX11_horses, 2, some .int)
def mX11_isResult : zM := (RX11, yX11_isResult, cX11_isResult, 2, some .boolean)
def mX11_isRider : zM := (RX11, yX11_isRider, cX11_isRider, 1, some .boolean)
def mX11_jump : zM := (RX11, yX11_jump, cX11_jump, 4, some .int)
def mX11_justFall : zM := (RX11, yX11_justFall, cX11_justFall, 8, some .long)
def mX11_keep : zM := (RX11, yX11_keep, cX11_keep, 2, some .boolean)
def mX11_last : zM := (RX11, yX11_last, cX11_last, 3, some .int)
def mX11_law : zM := (RX11, yX11_law, cX11_law, 6, some .int)
def mX11_leastFear : zM := (RX11, yX11_leastFear, cX11_leastFear, 4, some .int)
def mX11_look : zM := (RX11, yX11_look, cX11_look, 4, some .int)
def mX11_lot : zM := (RX11, yX11_lot, cX11_lot, 6, some .int)
def mX11_mean : zM := (RX11, yX11_mean, cX11_mean, 3, some .int)
def mX11_meanOf : zM := (RX11, yX11_meanOf, cX11_meanOf, 4, some .int)
def mX11_move : zM := (RX11, yX11_move, cX11_move, 4, some .int)
def mX11_parts : zM := (RX11, yX11_parts, cX11_parts, 1, some .int)
def mX11_perform : zM := (RX11, yX11_perform, cX11_perform, 1, some .boolean)
def mX11_place : zM := (RX11, yX11_place, cX11_place, 4, some .int)
def mX11_plan : zM := (RX11, yX11_plan, cX11_plan, 2, some .int)
def mX11_poles : zM := (RX11, yX11_poles, cX11_poles, 7, some .int)
def mX11_prizes : zM := (RX11, yX11_prizes, cX11_prizes, 2, some .int)
def mX11_quick : zM := (RX11, yX11_quick, cX11_quick, 4, some .int)
def mX11_raise : zM := (RX11, yX11_raise, cX11_raise, 4, some .int)
def mX11_readPlayers : zM := (RX11, yX11_readPlayers, cX11_readPlayers, 4, some .int)
def mX11_ride : zM := (RX11, yX11_ride, cX11_ride, 6, some .int)
def mX11_riders : zM := (RX11, yX11_riders, cX11_riders, 11, some .int)
def mX11_ring : zM := (RX11, yX11_ring, cX11_ring, 2, some .int)
def mX11_rule : zM := (RX11, yX11_rule, cX11_rule, 2, some .int)
def mX11_share : zM := (RX11, yX11_share, cX11_share, 6, some .int)
def mX11_sheet : zM := (RX11, yX11_sheet, cX11_sheet, 10, some .int)
def mX11_sheetEntry : zM := (RX11, yX11_sheetEntry, cX11_sheetEntry, 3, some .int)
def mX11_show : zM := (RX11, yX11_show, cX11_show, 5, some .int)
def mX11_sign : zM := (RX11, yX11_sign, cX11_sign, 2, some .int)
def mX11_strides : zM := (RX11, yX11_strides, cX11_strides, 9, some .int)
def mX11_sure : zM := (RX11, yX11_sure, cX11_sure, 2, some .int)
def mX11_table : zM := (RX11, yX11_table, cX11_table, 3, some .int)
def mX11_tellDrawn : zM := (RX11, yX11_tellDrawn, cX11_tellDrawn, 1, none)
def mX11_thoughtMoney : zM := (RX11, yX11_thoughtMoney, cX11_thoughtMoney, 5, some .int)
def mX11_through : zM := (RX11, yX11_through, cX11_through, 4, some .int)
def mX11_told : zM := (RX11, yX11_told, cX11_told, 6, some .int)
def mX11_undo : zM := (RX11, yX11_undo, cX11_undo, 1, some .int)
def mX11_wind : zM := (RX11, yX11_wind, cX11_wind, 11, some .int)
def mX12_act : zM := (RX12, yX12_act, cX12_act, 7, some .boolean)
def mX12_add : zM := (RX12, yX12_add, cX12_add, 6, none)
def mX12_again : zM := (RX12, yX12_again, cX12_again, 3, some .boolean)
def mX12_allow : zM := (RX12, yX12_allow, cX12_allow, 3, some .int)
def mX12_areBoth : zM := (RX12, yX12_areBoth, cX12_areBoth, 3, some .boolean)
def mX12_beat : zM := (RX12, yX12_beat, cX12_beat, 3, some .int)
def mX12_begin : zM := (RX12, yX12_begin, cX12_begin, 4, none)
def mX12_bestPlan : zM := (RX12, yX12_bestPlan, cX12_bestPlan, 4, some .int)
def mX12_built : zM := (RX12, yX12_built, cX12_built, 10, some .int)
def mX12_buy : zM := (RX12, yX12_buy, cX12_buy, 6, some .int)
def mX12_calm : zM := (RX12, yX12_calm, cX12_calm, 7, some .int)
def mX12_clearBy : zM := (RX12, yX12_clearBy, cX12_clearBy, 7, some .int)
def mX12_clearOf : zM := (RX12, yX12_clearOf, cX12_clearOf, 3, some .int)
def mX12_common : zM := (RX12, yX12_common, cX12_common, 4, some .long)
def mX12_count : zM := (RX12, yX12_count, cX12_count, 7, some .int)
def mX12_curve : zM := (RX12, yX12_curve, cX12_curve, 3, some .int)
def mX12_cuts : zM := (RX12, yX12_cuts, cX12_cuts, 10, some .int)
def mX12_digit : zM := (RX12, yX12_digit, cX12_digit, 3, some .int)
def mX12_draw : zM := (RX12, yX12_draw, cX12_draw, 2, some .int)
def mX12_end : zM := (RX12, yX12_end, cX12_end, 2, some .boolean)
def mX12_fair : zM := (RX12, yX12_fair, cX12_fair, 9, some .int)
def mX12_falls : zM := (RX12, yX12_falls, cX12_falls, 7, some .int)
def mX12_fault : zM := (RX12, yX12_fault, cX12_fault, 2, none)
def mX12_fear : zM := (RX12, yX12_fear, cX12_fear, 3, some .int)
def mX12_fearOf : zM := (RX12, yX12_fearOf, cX12_fearOf, 5, some .int)
def mX12_fence : zM := (RX12, yX12_fence, cX12_fence, 3, some .int)
def mX12_fine : zM := (RX12, yX12_fine, cX12_fine, 1, some .boolean)
def mX12_game : zM := (RX12, yX12_game, cX12_game, 3, some .int)
def mX12_goGame : zM := (RX12, yX12_goGame, cX12_goGame, 21, none)
def mX12_goRound : zM := (RX12, yX12_goRound, cX12_goRound, 6, some .int)
def mX12_held : zM := (RX12, yX12_held, cX12_held, 3, some .int)
def mX12_here : zM := (RX12, yX12_here, cX12_here, 1, some .int)
def mX12_horse : zM := (RX12, yX12_horse, cX12_horse, 3, some .int)
def mX12_horses : zM := (RX12, yX12_horses, cX12_horses, 6, some .int)
def mX12_in : zM := (RX12, yX12_in, cX12_in, 3, some .boolean)
def mX12_isAhead : zM := (RX12, yX12_isAhead, cX12_isAhead, 5, some .boolean)
def mX12_isFence : zM := (RX12, yX12_isFence, cX12_isFence, 2, some .boolean)
def mX12_isHorse : zM := (RX12, yX12_isHorse, cX12_isHorse, 2, some .boolean)
def mX12_isMost : zM := (RX12, yX12_isMost, cX12_isMost, 1, some .boolean)
def mX12_isPlan : zM := (RX12, yX12_isPlan, cX12_isPlan, 2, some .boolean)
def mX12_jump : zM := (RX12, yX12_jump, cX12_jump, 5, some .int)
def mX12_justFall : zM := (RX12, yX12_justFall, cX12_justFall, 8, some .long)
def mX12_keep : zM := (RX12, yX12_keep, cX12_keep, 2, some .boolean)
def mX12_kindOf : zM := (RX12, yX12_kindOf, cX12_kindOf, 1, some .int)
def mX12_last : zM := (RX12, yX12_last, cX12_last, 3, some .int)
def mX12_law : zM := (RX12, yX12_law, cX12_law, 5, some .int)
def mX12_lay : zM := (RX12, yX12_lay, cX12_lay, 4, none)
def mX12_layFences : zM := (RX12, yX12_layFences, cX12_layFences, 7, none)
def mX12_layThought : zM := (RX12, yX12_layThought, cX12_layThought, 5, none)
def mX12_leanOf : zM := (RX12, yX12_leanOf, cX12_leanOf, 4, some .int)
def mX12_least : zM := (RX12, yX12_least, cX12_least, 7, some .int)
def mX12_leftBy : zM := (RX12, yX12_leftBy, cX12_leftBy, 6, some .int)
def mX12_letterOf : zM := (RX12, yX12_letterOf, cX12_letterOf, 3, some .int)
def mX12_look : zM := (RX12, yX12_look, cX12_look, 5, some .int)
def mX12_lost : zM := (RX12, yX12_lost, cX12_lost, 1, some .int)
def mX12_lot : zM := (RX12, yX12_lot, cX12_lot, 8, some .int)
def mX12_mean : zM := (RX12, yX12_mean, cX12_mean, 3, some .int)
def mX12_meanOf : zM := (RX12, yX12_meanOf, cX12_meanOf, 4, some .int)
def mX12_moneyFor : zM := (RX12, yX12_moneyFor, cX12_moneyFor, 5, some .int)
def mX12_moneyOf : zM := (RX12, yX12_moneyOf, cX12_moneyOf, 2, some .int)
def mX12_move : zM := (RX12, yX12_move, cX12_move, 4, some .int)
def mX12_need : zM := (RX12, yX12_need, cX12_need, 2, none)
def mX12_number : zM := (RX12, yX12_number, cX12_number, 4, some .int)
def mX12_oddsOf : zM := (RX12, yX12_oddsOf, cX12_oddsOf, 7, some .int)
def mX12_oddsOf_ : zM := (RX12, yX12_oddsOf_, cX12_oddsOf_, 4, some .int)
def mX12_offBy : zM := (RX12, yX12_offBy, cX12_offBy, 5, some .int)
def mX12_parts : zM := (RX12, yX12_parts, cX12_parts, 5, some .int)
def mX12_passes : zM := (RX12, yX12_passes, cX12_passes, 2, some .boolean)
def mX12_place : zM := (RX12, yX12_place, cX12_place, 4, some .int)
def mX12_placeFor : zM := (RX12, yX12_placeFor, cX12_placeFor, 5, some .int)
def mX12_placeOf : zM := (RX12, yX12_placeOf, cX12_placeOf, 4, some .int)
def mX12_placeThought : zM := (RX12, yX12_placeThought, cX12_placeThought, 8, some .int)
def mX12_plan : zM := (RX12, yX12_plan, cX12_plan, 3, some .int)
def mX12_poles : zM := (RX12, yX12_poles, cX12_poles, 7, some .int)
def mX12_power : zM := (RX12, yX12_power, cX12_power, 6, some .long)
def mX12_prizes : zM := (RX12, yX12_prizes, cX12_prizes, 4, some .int)
def mX12_product : zM := (RX12, yX12_product, cX12_product, 5, some .int)
def mX12_quick : zM := (RX12, yX12_quick, cX12_quick, 3, some .int)
def mX12_raise : zM := (RX12, yX12_raise, cX12_raise, 4, some .int)
def mX12_readAct : zM := (RX12, yX12_readAct, cX12_readAct, 3, none)
def mX12_readComing : zM := (RX12, yX12_readComing, cX12_readComing, 5, some .int)
def mX12_readFence : zM := (RX12, yX12_readFence, cX12_readFence, 3, none)
def mX12_readHorse : zM := (RX12, yX12_readHorse, cX12_readHorse, 3, none)
def mX12_refusalOf : zM := (RX12, yX12_refusalOf, cX12_refusalOf, 3, some .int)
def mX12_refusesRide : zM := (RX12, yX12_refusesRide, cX12_refusesRide, 4, some .int)
def mX12_refusesTold : zM := (RX12, yX12_refusesTold, cX12_refusesTold, 5, some .int)
def mX12_remember : zM := (RX12, yX12_remember, cX12_remember, 3, none)
def mX12_ridden : zM := (RX12, yX12_ridden, cX12_ridden, 4, none)
def mX12_ride : zM := (RX12, yX12_ride, cX12_ride, 7, some .int)
def mX12_riders : zM := (RX12, yX12_riders, cX12_riders, 15, some .int)
def mX12_ring : zM := (RX12, yX12_ring, cX12_ring, 4, some .int)
def mX12_round : zM := (RX12, yX12_round, cX12_round, 3, some .int)
def mX12_row : zM := (RX12, yX12_row, cX12_row, 2, some .long)
def mX12_rule : zM := (RX12, yX12_rule, cX12_rule, 3, some .int)
def mX12_share : zM := (RX12, yX12_share, cX12_share, 8, some .int)
def mX12_sheet : zM := (RX12, yX12_sheet, cX12_sheet, 9, some .int)
def mX12_show : zM := (RX12, yX12_show, cX12_show, 4, some .int)
def mX12_sign : zM := (RX12, yX12_sign, cX12_sign, 3, some .int)
def mX12_strides : zM := (RX12, yX12_strides, cX12_strides, 5, some .int)
def mX12_sum : zM := (RX12, yX12_sum, cX12_sum, 5, some .int)
def mX12_sure : zM := (RX12, yX12_sure, cX12_sure, 2, some .int)
def mX12_table : zM := (RX12, yX12_table, cX12_table, 3, some .int)
def mX12_tell : zM := (RX12, yX12_tell, cX12_tell, 3, none)
def mX12_tellPart : zM := (RX12, yX12_tellPart, cX12_tellPart, 7, none)
def mX12_tellPlaces : zM := (RX12, yX12_tellPlaces, cX12_tellPlaces, 4, none)
def mX12_tellRound : zM := (RX12, yX12_tellRound, cX12_tellRound, 1, none)
def mX12_tenthsOf : zM := (RX12, yX12_tenthsOf, cX12_tenthsOf, 4, some .int)
def mX12_tenthsOfPlan : zM := (RX12, yX12_tenthsOfPlan, cX12_tenthsOfPlan, 4, some .int)
def mX12_thing : zM := (RX12, yX12_thing, cX12_thing, 4, some .int)
def mX12_through : zM := (RX12, yX12_through, cX12_through, 4, some .int)
def mX12_throughBy : zM := (RX12, yX12_throughBy, cX12_throughBy, 7, some .int)
def mX12_thrown : zM := (RX12, yX12_thrown, cX12_thrown, 1, some .int)
def mX12_timeFaults : zM := (RX12, yX12_timeFaults, cX12_timeFaults, 4, some .int)
def mX12_told : zM := (RX12, yX12_told, cX12_told, 6, some .int)
def mX12_undo : zM := (RX12, yX12_undo, cX12_undo, 2, some .int)
def mX12_valueOf : zM := (RX12, yX12_valueOf, cX12_valueOf, 2, some .int)
def mX12_wind : zM := (RX12, yX12_wind, cX12_wind, 9, some .int)
def mX1_clearOf : zM := (RX1, yX1_clearOf, cX1_clearOf, 6, some .int)
def mX1_countAtHeights : zM := (RX1, yX1_countAtHeights, cX1_countAtHeights, 10, none)
def mX1_countThrough : zM := (RX1, yX1_countThrough, cX1_countThrough, 5, none)
def mX1_fenceTenths : zM := (RX1, yX1_fenceTenths, cX1_fenceTenths, 4, some .int)
def mX1_hasFence : zM := (RX1, yX1_hasFence, cX1_hasFence, 2, some .boolean)
def mX1_hasHorse : zM := (RX1, yX1_hasHorse, cX1_hasHorse, 2, some .boolean)
def mX1_hasPlan : zM := (RX1, yX1_hasPlan, cX1_hasPlan, 2, some .boolean)
def mX1_isCut : zM := (RX1, yX1_isCut, cX1_isCut, 1, some .boolean)
def mX1_lean : zM := (RX1, yX1_lean, cX1_lean, 3, some .int)
def mX1_leanAt : zM := (RX1, yX1_leanAt, cX1_leanAt, 3, some .int)
def mX1_letterAt : zM := (RX1, yX1_letterAt, cX1_letterAt, 3, some .int)
def mX1_ofHorse : zM := (RX1, yX1_ofHorse, cX1_ofHorse, 3, some .int)
def mX1_passing : zM := (RX1, yX1_passing, cX1_passing, 3, some .int)
def mX1_planTenths : zM := (RX1, yX1_planTenths, cX1_planTenths, 4, some .int)
def mX1_poleOdds : zM := (RX1, yX1_poleOdds, cX1_poleOdds, 5, some .int)
def mX1_readFence : zM := (RX1, yX1_readFence, cX1_readFence, 7, some .boolean)
def mX1_readHorse : zM := (RX1, yX1_readHorse, cX1_readHorse, 5, some .boolean)
def mX1_readHorses : zM := (RX1, yX1_readHorses, cX1_readHorses, 3, some .int)
def mX1_readPlan : zM := (RX1, yX1_readPlan, cX1_readPlan, 4, some .int)
def mX1_readRing : zM := (RX1, yX1_readRing, cX1_readRing, 3, some .int)
def mX1_refusalOdds : zM := (RX1, yX1_refusalOdds, cX1_refusalOdds, 5, some .int)
def mX1_takeDraft : zM := (RX1, yX1_takeDraft, cX1_takeDraft, 3, none)
def mX2_draw : zM := (RX2, yX2_draw, cX2_draw, 6, none)
def mX2_next : zM := (RX2, yX2_next, cX2_next, 2, some .int)
def mX3_begin : zM := (RX3, yX3_begin, cX3_begin, 7, none)
def mX3_isAhead : zM := (RX3, yX3_isAhead, cX3_isAhead, 5, some .boolean)
def mX3_pay : zM := (RX3, yX3_pay, cX3_pay, 5, none)
def mX3_readPlayers : zM := (RX3, yX3_readPlayers, cX3_readPlayers, 7, some .int)
def mX3_scale : zM := (RX3, yX3_scale, cX3_scale, 4, some .long)
def mX3_settle : zM := (RX3, yX3_settle, cX3_settle, 5, none)
def mX3_start : zM := (RX3, yX3_start, cX3_start, 7, none)
def mX3_weigh : zM := (RX3, yX3_weigh, cX3_weigh, 8, none)
def mX3_won : zM := (RX3, yX3_won, cX3_won, 2, some .long)
def mX4_calmestTenths : zM := (RX4, yX4_calmestTenths, cX4_calmestTenths, 4, some .int)
def mX4_fearWith : zM := (RX4, yX4_fearWith, cX4_fearWith, 2, some .int)
def mX4_fewestTenths : zM := (RX4, yX4_fewestTenths, cX4_fewestTenths, 3, some .int)
def mX4_firstLetter : zM := (RX4, yX4_firstLetter, cX4_firstLetter, 8, some .int)
def mX4_from : zM := (RX4, yX4_from, cX4_from, 1, some .int)
def mX4_lay : zM := (RX4, yX4_lay, cX4_lay, 6, none)
def mX4_layBehind : zM := (RX4, yX4_layBehind, cX4_layBehind, 10, none)
def mX4_tell : zM := (RX4, yX4_tell, cX4_tell, 7, none)
def mX5_countExplained : zM := (RX5, yX5_countExplained, cX5_countExplained, 3, some .int)
def mX5_explain : zM := (RX5, yX5_explain, cX5_explain, 7, some .int)
def mX5_fitHorse : zM := (RX5, yX5_fitHorse, cX5_fitHorse, 7, some .int)
def mX6_common : zM := (RX6, yX6_common, cX6_common, 11, some .long)
def mX6_put : zM := (RX6, yX6_put, cX6_put, 3, none)
def mX6_putFraction : zM := (RX6, yX6_putFraction, cX6_putFraction, 7, none)
def mX6_start : zM := (RX6, yX6_start, cX6_start, 1, none)
def mX7_emit : zM := (RX7, yX7_emit, cX7_emit, 2, none)
def mX7_join : zM := (RX7, yX7_join, cX7_join, 3, some .int)
def mX7_odds : zM := (RX7, yX7_odds, cX7_odds, 4, some .int)
def mX7_readBareThing : zM := (RX7, yX7_readBareThing, cX7_readBareThing, 5, some .boolean)
def mX7_readLevel : zM := (RX7, yX7_readLevel, cX7_readLevel, 7, some .boolean)
def mX7_readRule : zM := (RX7, yX7_readRule, cX7_readRule, 2, some .int)
def mX7_readThing : zM := (RX7, yX7_readThing, cX7_readThing, 5, some .boolean)
def mX7_signsOf : zM := (RX7, yX7_signsOf, cX7_signsOf, 1, some (.object "java/lang/String"))
def mX7_usual : zM := (RX7, yX7_usual, cX7_usual, 7, some .int)
def mX8_back : zM := (RX8, yX8_back, cX8_back, 2, some .int)
def mX8_commit : zM := (RX8, yX8_commit, cX8_commit, 1, none)
def mX8_forget : zM := (RX8, yX8_forget, cX8_forget, 1, none)
def mX8_load : zM := (RX8, yX8_load, cX8_load, 4, some .boolean)
def mX8_mark : zM := (RX8, yX8_mark, cX8_mark, 2, none)
def mX8_store : zM := (RX8, yX8_store, cX8_store, 4, some .boolean)
def mX9_add : zM := (RX9, yX9_add, cX9_add, 3, some .int)
def mX9_clear : zM := (RX9, yX9_clear, cX9_clear, 1, none)
def mX9_cut : zM := (RX9, yX9_cut, cX9_cut, 2, some .boolean)
def mX9_digit : zM := (RX9, yX9_digit, cX9_digit, 3, some .int)
def mX9_fault : zM := (RX9, yX9_fault, cX9_fault, 1, some .int)
def mX9_isDone : zM := (RX9, yX9_isDone, cX9_isDone, 1, some .boolean)
def mX9_number : zM := (RX9, yX9_number, cX9_number, 5, some .int)
def mX9_oneOf : zM := (RX9, yX9_oneOf, cX9_oneOf, 3, some .int)
def mX9_open : zM := (RX9, yX9_open, cX9_open, 2, none)
def mX9_take : zM := (RX9, yX9_take, cX9_take, 2, some .boolean)
set_option maxRecDepth 20000 in
theorem inT0 : ∀ w ∈ u_ws RX0 TX0 5, w ∈ zTB := zTB_all [426, 428, 430, 432, 434] (by decide +kernel) (by decide +kernel)
set_option maxRecDepth 20000 in
theorem inT1 : ∀ w ∈ u_ws RX1 TX1 14, w ∈ zTB := zTB_all [222, 224, 226, 228, 230, 232, 234, 236, 238, 240, 242, 244, 246, 248] (by decide +kernel) (by decide +kernel)
set_option maxRecDepth 20000 in
theorem inT2 : ∀ w ∈ u_ws RX2 TX2 5, w ∈ zTB := zTB_all [335, 337, 339, 341, 343] (by decide +kernel) (by decide +kernel)
set_option maxRecDepth 20000 in
theorem inT3 : ∀ w ∈ u_ws RX3 TX3 11, w ∈ zTB := zTB_all [387, 389, 391, 393, 395, 397, 399, 401, 403, 405, 407] (by decide +kernel) (by decide +kernel)
set_option maxRecDepth 20000 in
theorem inT4 : ∀ w ∈ u_ws RX4 TX4 5, w ∈ zTB := zTB_all [357, 359, 361, 363, 365] (by decide +kernel) (by decide +kernel)
set_option maxRecDepth 20000 in
theorem inT5 : ∀ w ∈ u_ws RX5 TX5 2, w ∈ zTB := zTB_all [445, 447] (by decide +kernel) (by decide +kernel)
set_option maxRecDepth 20000 in
theorem inT6 : ∀ w ∈ u_ws RX6 TX6 2, w ∈ zTB := zTB_all [155, 157] (by decide +kernel) (by decide +kernel)
set_option maxRecDepth 20000 in
theorem inT7 : ∀ w ∈ u_ws RX7 TX7 6, w ∈ zTB := zTB_all [180, 182, 184, 186, 188, 190] (by decide +kernel) (by decide +kernel)
set_option maxRecDepth 20000 in
theorem inT8 : ∀ w ∈ u_ws RX8 TX8 4, w ∈ zTB := zTB_all [310, 312, 314, 316] (by decide +kernel) (by decide +kernel)
set_option maxRecDepth 20000 in
theorem inT9 : ∀ w ∈ u_ws RX9 TX9 4, w ∈ zTB := zTB_all [135, 137, 139, 141] (by decide +kernel) (by decide +kernel)
set_option maxRecDepth 20000 in
theorem inT10 : ∀ w ∈ u_ws RX10 TX10 7, w ∈ zTB := zTB_all [278, 280, 282, 284, 286, 288, 290] (by decide +kernel) (by decide +kernel)
set_option maxRecDepth 20000 in
theorem inT11 : ∀ w ∈ u_ws RX11 TX11 13, w ∈ zTB := zTB_all [463, 465, 467, 469, 471, 473, 475, 477, 479, 481, 483, 485, 487] (by decide +kernel) (by decide +kernel)
set_option maxRecDepth 20000 in
theorem inT12 : ∀ w ∈ u_ws RX12 TX12 58, w ∈ zTB := zTB_all [1415, 1417, 1419, 1421, 1423, 1425, 1427, 1429, 1431, 1433, 1435, 1437, 1439, 1441, 1443, 1445, 1447, 1449, 1451, 1453, 1455, 1457, 1459, 1461, 1463, 1465, 1467, 1469, 1471, 1473, 1475, 1477, 1479, 1481, 1483, 1485, 1487, 1489, 1491, 1493, 1495, 1497, 1499, 1501, 1503, 1505, 1507, 1509, 1511, 1513, 1515, 1517, 1519, 1521, 1523, 1525, 1527, 1529] (by decide +kernel) (by decide +kernel)
theorem zsub_0 {w : Cond} (h : w ∈ k2_sels lw_privs) : w ∈ lw_tbl := List.mem_append_left _ h
theorem zTB_0 {w : Cond} {i : Nat} (h : (k2_sels lw_privs)[i]? = some w) (hg : goodWord w = true) : w ∈ zTB := List.mem_filter.mpr ⟨zsub_0 (List.mem_of_getElem? h), hg⟩
theorem zNB_0 {w : Cond} {i : Nat} (h : (k2_sels lw_privs)[i]? = some w) (hg : zisN w = true) : w ∈ zNB := List.mem_filter.mpr ⟨zsub_0 (List.mem_of_getElem? h), hg⟩
theorem zsub_1 {w : Cond} (h : w ∈ tables_1_1) : w ∈ lw_tbl := List.mem_append_right _ (List.mem_append_left _ h)
theorem zTB_1 {w : Cond} {i : Nat} (h : (tables_1_1)[i]? = some w) (hg : goodWord w = true) : w ∈ zTB := List.mem_filter.mpr ⟨zsub_1 (List.mem_of_getElem? h), hg⟩
theorem zNB_1 {w : Cond} {i : Nat} (h : (tables_1_1)[i]? = some w) (hg : zisN w = true) : w ∈ zNB := List.mem_filter.mpr ⟨zsub_1 (List.mem_of_getElem? h), hg⟩
theorem zsub_2 {w : Cond} (h : w ∈ tables_1_2) : w ∈ lw_tbl := List.mem_append_right _ (List.mem_append_right _ (List.mem_append_left _ h))
theorem zTB_2 {w : Cond} {i : Nat} (h : (tables_1_2)[i]? = some w) (hg : goodWord w = true) : w ∈ zTB := List.mem_filter.mpr ⟨zsub_2 (List.mem_of_getElem? h), hg⟩
theorem zNB_2 {w : Cond} {i : Nat} (h : (tables_1_2)[i]? = some w) (hg : zisN w = true) : w ∈ zNB := List.mem_filter.mpr ⟨zsub_2 (List.mem_of_getElem? h), hg⟩
theorem zsub_3 {w : Cond} (h : w ∈ tables_1_3) : w ∈ lw_tbl := List.mem_append_right _ (List.mem_append_right _ (List.mem_append_right _ (List.mem_append_left _ h)))
theorem zTB_3 {w : Cond} {i : Nat} (h : (tables_1_3)[i]? = some w) (hg : goodWord w = true) : w ∈ zTB := List.mem_filter.mpr ⟨zsub_3 (List.mem_of_getElem? h), hg⟩
theorem zNB_3 {w : Cond} {i : Nat} (h : (tables_1_3)[i]? = some w) (hg : zisN w = true) : w ∈ zNB := List.mem_filter.mpr ⟨zsub_3 (List.mem_of_getElem? h), hg⟩
theorem zsub_4 {w : Cond} (h : w ∈ tables_1_4) : w ∈ lw_tbl := List.mem_append_right _ (List.mem_append_right _ (List.mem_append_right _ (List.mem_append_right _ (List.mem_append_left _ h))))
theorem zTB_4 {w : Cond} {i : Nat} (h : (tables_1_4)[i]? = some w) (hg : goodWord w = true) : w ∈ zTB := List.mem_filter.mpr ⟨zsub_4 (List.mem_of_getElem? h), hg⟩
theorem zNB_4 {w : Cond} {i : Nat} (h : (tables_1_4)[i]? = some w) (hg : zisN w = true) : w ∈ zNB := List.mem_filter.mpr ⟨zsub_4 (List.mem_of_getElem? h), hg⟩
theorem zsub_5 {w : Cond} (h : w ∈ tables_1_5) : w ∈ lw_tbl := List.mem_append_right _ (List.mem_append_right _ (List.mem_append_right _ (List.mem_append_right _ (List.mem_append_right _ (List.mem_append_left _ h)))))
theorem zTB_5 {w : Cond} {i : Nat} (h : (tables_1_5)[i]? = some w) (hg : goodWord w = true) : w ∈ zTB := List.mem_filter.mpr ⟨zsub_5 (List.mem_of_getElem? h), hg⟩
theorem zNB_5 {w : Cond} {i : Nat} (h : (tables_1_5)[i]? = some w) (hg : zisN w = true) : w ∈ zNB := List.mem_filter.mpr ⟨zsub_5 (List.mem_of_getElem? h), hg⟩
theorem zsub_6 {w : Cond} (h : w ∈ tables_1_6) : w ∈ lw_tbl := List.mem_append_right _ (List.mem_append_right _ (List.mem_append_right _ (List.mem_append_right _ (List.mem_append_right _ (List.mem_append_right _ (List.mem_append_left _ h))))))
theorem zTB_6 {w : Cond} {i : Nat} (h : (tables_1_6)[i]? = some w) (hg : goodWord w = true) : w ∈ zTB := List.mem_filter.mpr ⟨zsub_6 (List.mem_of_getElem? h), hg⟩
theorem zNB_6 {w : Cond} {i : Nat} (h : (tables_1_6)[i]? = some w) (hg : zisN w = true) : w ∈ zNB := List.mem_filter.mpr ⟨zsub_6 (List.mem_of_getElem? h), hg⟩
theorem zsub_7 {w : Cond} (h : w ∈ tables_1_7) : w ∈ lw_tbl := List.mem_append_right _ (List.mem_append_right _ (List.mem_append_right _ (List.mem_append_right _ (List.mem_append_right _ (List.mem_append_right _ (List.mem_append_right _ (List.mem_append_left _ h)))))))
theorem zTB_7 {w : Cond} {i : Nat} (h : (tables_1_7)[i]? = some w) (hg : goodWord w = true) : w ∈ zTB := List.mem_filter.mpr ⟨zsub_7 (List.mem_of_getElem? h), hg⟩
theorem zNB_7 {w : Cond} {i : Nat} (h : (tables_1_7)[i]? = some w) (hg : zisN w = true) : w ∈ zNB := List.mem_filter.mpr ⟨zsub_7 (List.mem_of_getElem? h), hg⟩
theorem zsub_8 {w : Cond} (h : w ∈ tables_1_8) : w ∈ lw_tbl := List.mem_append_right _ (List.mem_append_right _ (List.mem_append_right _ (List.mem_append_right _ (List.mem_append_right _ (List.mem_append_right _ (List.mem_append_right _ (List.mem_append_right _ (List.mem_append_left _ h))))))))
theorem zTB_8 {w : Cond} {i : Nat} (h : (tables_1_8)[i]? = some w) (hg : goodWord w = true) : w ∈ zTB := List.mem_filter.mpr ⟨zsub_8 (List.mem_of_getElem? h), hg⟩
theorem zNB_8 {w : Cond} {i : Nat} (h : (tables_1_8)[i]? = some w) (hg : zisN w = true) : w ∈ zNB := List.mem_filter.mpr ⟨zsub_8 (List.mem_of_getElem? h), hg⟩
theorem zsub_9 {w : Cond} (h : w ∈ tables_1_9) : w ∈ lw_tbl := List.mem_append_right _ (List.mem_append_right _ (List.mem_append_right _ (List.mem_append_right _ (List.mem_append_right _ (List.mem_append_right _ (List.mem_append_right _ (List.mem_append_right _ (List.mem_append_right _ (h)))))))))
theorem zTB_9 {w : Cond} {i : Nat} (h : (tables_1_9)[i]? = some w) (hg : goodWord w = true) : w ∈ zTB := List.mem_filter.mpr ⟨zsub_9 (List.mem_of_getElem? h), hg⟩
theorem zNB_9 {w : Cond} {i : Nat} (h : (tables_1_9)[i]? = some w) (hg : zisN w = true) : w ∈ zNB := List.mem_filter.mpr ⟨zsub_9 (List.mem_of_getElem? h), hg⟩
theorem F_X0_33 : zfl RX0 33 0 0 := ⟨RX0, TX0, 5, rfl, by decide, rfl, inT0, Or.inl (zTB_2 (i := 87) (by decide +kernel) rfl)⟩
theorem F_X0_50 : zfl RX0 50 0 1 := ⟨RX0, TX0, 5, rfl, by decide, rfl, inT0, Or.inl (zTB_2 (i := 89) (by decide +kernel) rfl)⟩
theorem F_X0_54 : zfl RX0 54 0 2 := ⟨RX0, TX0, 5, rfl, by decide, rfl, inT0, Or.inl (zTB_2 (i := 91) (by decide +kernel) rfl)⟩
theorem F_X0_57 : zfl RX0 57 0 3 := ⟨RX0, TX0, 5, rfl, by decide, rfl, inT0, Or.inl (zTB_2 (i := 93) (by decide +kernel) rfl)⟩
theorem F_X0_60 : zfl RX0 60 0 4 := ⟨RX0, TX0, 5, rfl, by decide, rfl, inT0, Or.inl (zTB_2 (i := 95) (by decide +kernel) rfl)⟩
theorem F_X1_11 : zfl RX1 11 1 0 := ⟨RX1, TX1, 14, rfl, by decide, rfl, inT1, Or.inl (zTB_1 (i := 105) (by decide +kernel) rfl)⟩
theorem F_X1_15 : zfl RX1 15 1 1 := ⟨RX1, TX1, 14, rfl, by decide, rfl, inT1, Or.inl (zTB_1 (i := 107) (by decide +kernel) rfl)⟩
theorem F_X1_18 : zfl RX1 18 1 2 := ⟨RX1, TX1, 14, rfl, by decide, rfl, inT1, Or.inl (zTB_1 (i := 109) (by decide +kernel) rfl)⟩
theorem F_X1_21 : zfl RX1 21 1 4 := ⟨RX1, TX1, 14, rfl, by decide, rfl, inT1, Or.inl (zTB_1 (i := 115) (by decide +kernel) rfl)⟩
theorem F_X1_24 : zfl RX1 24 1 5 := ⟨RX1, TX1, 14, rfl, by decide, rfl, inT1, Or.inl (zTB_1 (i := 116) (by decide +kernel) rfl)⟩
theorem F_X1_27 : zfl RX1 27 1 7 := ⟨RX1, TX1, 14, rfl, by decide, rfl, inT1, Or.inl (zTB_1 (i := 119) (by decide +kernel) rfl)⟩
theorem F_X1_37 : zfl RX1 37 1 10 := ⟨RX1, TX1, 14, rfl, by decide, rfl, inT1, Or.inl (zTB_1 (i := 127) (by decide +kernel) rfl)⟩
theorem F_X1_41 : zfl RX1 41 1 11 := ⟨RX1, TX1, 14, rfl, by decide, rfl, inT1, Or.inl (zTB_1 (i := 129) (by decide +kernel) rfl)⟩
theorem F_X1_44 : zfl RX1 44 1 12 := ⟨RX1, TX1, 14, rfl, by decide, rfl, inT1, Or.inl (zTB_1 (i := 131) (by decide +kernel) rfl)⟩
theorem F_X1_47 : zfl RX1 47 1 13 := ⟨RX1, TX1, 14, rfl, by decide, rfl, inT1, Or.inl (zTB_1 (i := 132) (by decide +kernel) rfl)⟩
theorem F_X1_50 : zfl RX1 50 1 3 := ⟨RX1, TX1, 14, rfl, by decide, rfl, inT1, Or.inl (zTB_1 (i := 111) (by decide +kernel) rfl)⟩
theorem F_X1_53 : zfl RX1 53 1 6 := ⟨RX1, TX1, 14, rfl, by decide, rfl, inT1, Or.inl (zTB_1 (i := 117) (by decide +kernel) rfl)⟩
theorem F_X1_56 : zfl RX1 56 1 8 := ⟨RX1, TX1, 14, rfl, by decide, rfl, inT1, Or.inl (zTB_1 (i := 121) (by decide +kernel) rfl)⟩
theorem F_X1_126 : zfl RX1 126 7 5 := ⟨RX7, TX7, 6, rfl, by decide, rfl, inT7, Or.inr ⟨"FourAPole", (zNB_1 (i := 90) (by decide +kernel) rfl)⟩⟩
theorem F_X10_9 : zfl RX10 9 10 0 := ⟨RX10, TX10, 7, rfl, by decide, rfl, inT10, Or.inl (zTB_1 (i := 168) (by decide +kernel) rfl)⟩
theorem F_X10_15 : zfl RX10 15 10 1 := ⟨RX10, TX10, 7, rfl, by decide, rfl, inT10, Or.inl (zTB_1 (i := 172) (by decide +kernel) rfl)⟩
theorem F_X10_18 : zfl RX10 18 10 2 := ⟨RX10, TX10, 7, rfl, by decide, rfl, inT10, Or.inl (zTB_1 (i := 176) (by decide +kernel) rfl)⟩
theorem F_X10_21 : zfl RX10 21 10 3 := ⟨RX10, TX10, 7, rfl, by decide, rfl, inT10, Or.inl (zTB_1 (i := 180) (by decide +kernel) rfl)⟩
theorem F_X10_24 : zfl RX10 24 10 5 := ⟨RX10, TX10, 7, rfl, by decide, rfl, inT10, Or.inl (zTB_1 (i := 187) (by decide +kernel) rfl)⟩
theorem F_X10_27 : zfl RX10 27 10 6 := ⟨RX10, TX10, 7, rfl, by decide, rfl, inT10, Or.inl (zTB_1 (i := 188) (by decide +kernel) rfl)⟩
theorem F_X10_64 : zfl RX10 64 10 4 := ⟨RX10, TX10, 7, rfl, by decide, rfl, inT10, Or.inl (zTB_1 (i := 186) (by decide +kernel) rfl)⟩
theorem F_X11_10 : zfl RX11 10 11 0 := ⟨RX11, TX11, 13, rfl, by decide, rfl, inT11, Or.inl (zTB_2 (i := 121) (by decide +kernel) rfl)⟩
theorem F_X11_19 : zfl RX11 19 11 1 := ⟨RX11, TX11, 13, rfl, by decide, rfl, inT11, Or.inl (zTB_2 (i := 122) (by decide +kernel) rfl)⟩
theorem F_X11_26 : zfl RX11 26 11 2 := ⟨RX11, TX11, 13, rfl, by decide, rfl, inT11, Or.inl (zTB_2 (i := 123) (by decide +kernel) rfl)⟩
theorem F_X11_33 : zfl RX11 33 11 3 := ⟨RX11, TX11, 13, rfl, by decide, rfl, inT11, Or.inl (zTB_2 (i := 124) (by decide +kernel) rfl)⟩
theorem F_X11_42 : zfl RX11 42 11 4 := ⟨RX11, TX11, 13, rfl, by decide, rfl, inT11, Or.inl (zTB_2 (i := 125) (by decide +kernel) rfl)⟩
theorem F_X11_46 : zfl RX11 46 11 5 := ⟨RX11, TX11, 13, rfl, by decide, rfl, inT11, Or.inl (zTB_2 (i := 126) (by decide +kernel) rfl)⟩
theorem F_X11_52 : zfl RX11 52 11 6 := ⟨RX11, TX11, 13, rfl, by decide, rfl, inT11, Or.inl (zTB_2 (i := 127) (by decide +kernel) rfl)⟩
theorem F_X11_59 : zfl RX11 59 11 7 := ⟨RX11, TX11, 13, rfl, by decide, rfl, inT11, Or.inl (zTB_2 (i := 128) (by decide +kernel) rfl)⟩
theorem F_X11_66 : zfl RX11 66 11 8 := ⟨RX11, TX11, 13, rfl, by decide, rfl, inT11, Or.inl (zTB_2 (i := 129) (by decide +kernel) rfl)⟩
theorem F_X11_73 : zfl RX11 73 11 9 := ⟨RX11, TX11, 13, rfl, by decide, rfl, inT11, Or.inl (zTB_2 (i := 130) (by decide +kernel) rfl)⟩
theorem F_X11_80 : zfl RX11 80 11 10 := ⟨RX11, TX11, 13, rfl, by decide, rfl, inT11, Or.inl (zTB_2 (i := 131) (by decide +kernel) rfl)⟩
theorem F_X11_84 : zfl RX11 84 11 11 := ⟨RX11, TX11, 13, rfl, by decide, rfl, inT11, Or.inl (zTB_2 (i := 132) (by decide +kernel) rfl)⟩
theorem F_X11_88 : zfl RX11 88 11 12 := ⟨RX11, TX11, 13, rfl, by decide, rfl, inT11, Or.inl (zTB_2 (i := 133) (by decide +kernel) rfl)⟩
theorem F_X11_107 : zfl RX11 107 10 4 := ⟨RX10, TX10, 7, rfl, by decide, rfl, inT10, Or.inr ⟨"FourAPole", (zNB_1 (i := 185) (by decide +kernel) rfl)⟩⟩
theorem F_X11_120 : zfl RX11 120 1 10 := ⟨RX1, TX1, 14, rfl, by decide, rfl, inT1, Or.inr ⟨"FourAPole", (zNB_1 (i := 128) (by decide +kernel) rfl)⟩⟩
theorem F_X11_141 : zfl RX11 141 1 1 := ⟨RX1, TX1, 14, rfl, by decide, rfl, inT1, Or.inr ⟨"FourAPole", (zNB_1 (i := 108) (by decide +kernel) rfl)⟩⟩
theorem F_X11_144 : zfl RX11 144 1 2 := ⟨RX1, TX1, 14, rfl, by decide, rfl, inT1, Or.inr ⟨"FourAPole", (zNB_1 (i := 110) (by decide +kernel) rfl)⟩⟩
theorem F_X11_154 : zfl RX11 154 1 9 := ⟨RX1, TX1, 14, rfl, by decide, rfl, inT1, Or.inr ⟨"FourAPole", (zNB_1 (i := 126) (by decide +kernel) rfl)⟩⟩
theorem F_X11_157 : zfl RX11 157 1 3 := ⟨RX1, TX1, 14, rfl, by decide, rfl, inT1, Or.inr ⟨"FourAPole", (zNB_1 (i := 114) (by decide +kernel) rfl)⟩⟩
theorem F_X11_254 : zfl RX11 254 2 1 := ⟨RX2, TX2, 5, rfl, by decide, rfl, inT2, Or.inr ⟨"FourAPole", (zNB_1 (i := 239) (by decide +kernel) rfl)⟩⟩
theorem F_X11_267 : zfl RX11 267 2 2 := ⟨RX2, TX2, 5, rfl, by decide, rfl, inT2, Or.inr ⟨"FourAPole", (zNB_2 (i := 1) (by decide +kernel) rfl)⟩⟩
theorem F_X11_277 : zfl RX11 277 2 3 := ⟨RX2, TX2, 5, rfl, by decide, rfl, inT2, Or.inr ⟨"FourAPole", (zNB_2 (i := 3) (by decide +kernel) rfl)⟩⟩
theorem F_X11_280 : zfl RX11 280 2 4 := ⟨RX2, TX2, 5, rfl, by decide, rfl, inT2, Or.inr ⟨"FourAPole", (zNB_2 (i := 5) (by decide +kernel) rfl)⟩⟩
theorem F_X11_283 : zfl RX11 283 2 0 := ⟨RX2, TX2, 5, rfl, by decide, rfl, inT2, Or.inr ⟨"FourAPole", (zNB_1 (i := 237) (by decide +kernel) rfl)⟩⟩
theorem F_X11_306 : zfl RX11 306 0 0 := ⟨RX0, TX0, 5, rfl, by decide, rfl, inT0, Or.inr ⟨"FourAPole", (zNB_2 (i := 88) (by decide +kernel) rfl)⟩⟩
theorem F_X11_310 : zfl RX11 310 0 1 := ⟨RX0, TX0, 5, rfl, by decide, rfl, inT0, Or.inr ⟨"FourAPole", (zNB_2 (i := 90) (by decide +kernel) rfl)⟩⟩
theorem F_X11_313 : zfl RX11 313 0 2 := ⟨RX0, TX0, 5, rfl, by decide, rfl, inT0, Or.inr ⟨"FourAPole", (zNB_2 (i := 92) (by decide +kernel) rfl)⟩⟩
theorem F_X11_316 : zfl RX11 316 0 3 := ⟨RX0, TX0, 5, rfl, by decide, rfl, inT0, Or.inr ⟨"FourAPole", (zNB_2 (i := 94) (by decide +kernel) rfl)⟩⟩
theorem F_X11_319 : zfl RX11 319 0 4 := ⟨RX0, TX0, 5, rfl, by decide, rfl, inT0, Or.inr ⟨"FourAPole", (zNB_2 (i := 96) (by decide +kernel) rfl)⟩⟩
theorem F_X11_335 : zfl RX11 335 10 2 := ⟨RX10, TX10, 7, rfl, by decide, rfl, inT10, Or.inr ⟨"FourAPole", (zNB_1 (i := 179) (by decide +kernel) rfl)⟩⟩
theorem F_X11_337 : zfl RX11 337 10 3 := ⟨RX10, TX10, 7, rfl, by decide, rfl, inT10, Or.inr ⟨"FourAPole", (zNB_1 (i := 182) (by decide +kernel) rfl)⟩⟩
theorem F_X11_362 : zfl RX11 362 1 8 := ⟨RX1, TX1, 14, rfl, by decide, rfl, inT1, Or.inr ⟨"FourAPole", (zNB_1 (i := 122) (by decide +kernel) rfl)⟩⟩
theorem F_X11_368 : zfl RX11 368 1 6 := ⟨RX1, TX1, 14, rfl, by decide, rfl, inT1, Or.inr ⟨"FourAPole", (zNB_1 (i := 118) (by decide +kernel) rfl)⟩⟩
theorem F_X11_381 : zfl RX11 381 3 1 := ⟨RX3, TX3, 11, rfl, by decide, rfl, inT3, Or.inr ⟨"FourAPole", (zNB_2 (i := 47) (by decide +kernel) rfl)⟩⟩
theorem F_X11_396 : zfl RX11 396 3 3 := ⟨RX3, TX3, 11, rfl, by decide, rfl, inT3, Or.inr ⟨"FourAPole", (zNB_2 (i := 50) (by decide +kernel) rfl)⟩⟩
theorem F_X11_418 : zfl RX11 418 1 11 := ⟨RX1, TX1, 14, rfl, by decide, rfl, inT1, Or.inr ⟨"FourAPole", (zNB_1 (i := 130) (by decide +kernel) rfl)⟩⟩
theorem F_X11_448 : zfl RX11 448 8 3 := ⟨RX8, TX8, 4, rfl, by decide, rfl, inT8, Or.inr ⟨"FourAPole", (zNB_1 (i := 220) (by decide +kernel) rfl)⟩⟩
theorem F_X11_451 : zfl RX11 451 6 1 := ⟨RX6, TX6, 2, rfl, by decide, rfl, inT6, Or.inr ⟨"FourAPole", (zNB_1 (i := 65) (by decide +kernel) rfl)⟩⟩
theorem F_X11_452 : zfl RX11 452 9 1 := ⟨RX9, TX9, 4, rfl, by decide, rfl, inT9, Or.inr ⟨"FourAPole", (zNB_1 (i := 43) (by decide +kernel) rfl)⟩⟩
theorem F_X12_9 : zfl RX12 9 12 0 := ⟨RX12, TX12, 58, rfl, by decide, rfl, inT12, Or.inl (zTB_6 (i := 68) (by decide +kernel) rfl)⟩
theorem F_X12_13 : zfl RX12 13 12 2 := ⟨RX12, TX12, 58, rfl, by decide, rfl, inT12, Or.inl (zTB_6 (i := 70) (by decide +kernel) rfl)⟩
theorem F_X12_16 : zfl RX12 16 12 3 := ⟨RX12, TX12, 58, rfl, by decide, rfl, inT12, Or.inl (zTB_6 (i := 71) (by decide +kernel) rfl)⟩
theorem F_X12_19 : zfl RX12 19 12 4 := ⟨RX12, TX12, 58, rfl, by decide, rfl, inT12, Or.inl (zTB_6 (i := 72) (by decide +kernel) rfl)⟩
theorem F_X12_22 : zfl RX12 22 12 5 := ⟨RX12, TX12, 58, rfl, by decide, rfl, inT12, Or.inl (zTB_6 (i := 73) (by decide +kernel) rfl)⟩
theorem F_X12_26 : zfl RX12 26 12 7 := ⟨RX12, TX12, 58, rfl, by decide, rfl, inT12, Or.inl (zTB_6 (i := 75) (by decide +kernel) rfl)⟩
theorem F_X12_29 : zfl RX12 29 12 8 := ⟨RX12, TX12, 58, rfl, by decide, rfl, inT12, Or.inl (zTB_6 (i := 76) (by decide +kernel) rfl)⟩
theorem F_X12_32 : zfl RX12 32 12 9 := ⟨RX12, TX12, 58, rfl, by decide, rfl, inT12, Or.inl (zTB_6 (i := 77) (by decide +kernel) rfl)⟩
theorem F_X12_35 : zfl RX12 35 12 11 := ⟨RX12, TX12, 58, rfl, by decide, rfl, inT12, Or.inl (zTB_6 (i := 79) (by decide +kernel) rfl)⟩
theorem F_X12_38 : zfl RX12 38 12 12 := ⟨RX12, TX12, 58, rfl, by decide, rfl, inT12, Or.inl (zTB_6 (i := 80) (by decide +kernel) rfl)⟩
theorem F_X12_41 : zfl RX12 41 12 13 := ⟨RX12, TX12, 58, rfl, by decide, rfl, inT12, Or.inl (zTB_6 (i := 81) (by decide +kernel) rfl)⟩
theorem F_X12_45 : zfl RX12 45 12 15 := ⟨RX12, TX12, 58, rfl, by decide, rfl, inT12, Or.inl (zTB_6 (i := 83) (by decide +kernel) rfl)⟩
theorem F_X12_49 : zfl RX12 49 12 23 := ⟨RX12, TX12, 58, rfl, by decide, rfl, inT12, Or.inl (zTB_6 (i := 91) (by decide +kernel) rfl)⟩
theorem F_X12_52 : zfl RX12 52 12 24 := ⟨RX12, TX12, 58, rfl, by decide, rfl, inT12, Or.inl (zTB_6 (i := 92) (by decide +kernel) rfl)⟩
theorem F_X12_55 : zfl RX12 55 12 25 := ⟨RX12, TX12, 58, rfl, by decide, rfl, inT12, Or.inl (zTB_6 (i := 93) (by decide +kernel) rfl)⟩
theorem F_X12_58 : zfl RX12 58 12 26 := ⟨RX12, TX12, 58, rfl, by decide, rfl, inT12, Or.inl (zTB_6 (i := 94) (by decide +kernel) rfl)⟩
theorem F_X12_61 : zfl RX12 61 12 33 := ⟨RX12, TX12, 58, rfl, by decide, rfl, inT12, Or.inl (zTB_6 (i := 101) (by decide +kernel) rfl)⟩
theorem F_X12_64 : zfl RX12 64 12 34 := ⟨RX12, TX12, 58, rfl, by decide, rfl, inT12, Or.inl (zTB_6 (i := 102) (by decide +kernel) rfl)⟩
theorem F_X12_67 : zfl RX12 67 12 35 := ⟨RX12, TX12, 58, rfl, by decide, rfl, inT12, Or.inl (zTB_6 (i := 103) (by decide +kernel) rfl)⟩
theorem F_X12_70 : zfl RX12 70 12 36 := ⟨RX12, TX12, 58, rfl, by decide, rfl, inT12, Or.inl (zTB_6 (i := 104) (by decide +kernel) rfl)⟩
theorem F_X12_73 : zfl RX12 73 12 37 := ⟨RX12, TX12, 58, rfl, by decide, rfl, inT12, Or.inl (zTB_6 (i := 105) (by decide +kernel) rfl)⟩
theorem F_X12_76 : zfl RX12 76 12 39 := ⟨RX12, TX12, 58, rfl, by decide, rfl, inT12, Or.inl (zTB_6 (i := 107) (by decide +kernel) rfl)⟩
theorem F_X12_79 : zfl RX12 79 12 44 := ⟨RX12, TX12, 58, rfl, by decide, rfl, inT12, Or.inl (zTB_6 (i := 112) (by decide +kernel) rfl)⟩
theorem F_X12_82 : zfl RX12 82 12 45 := ⟨RX12, TX12, 58, rfl, by decide, rfl, inT12, Or.inl (zTB_6 (i := 113) (by decide +kernel) rfl)⟩
theorem F_X12_85 : zfl RX12 85 12 46 := ⟨RX12, TX12, 58, rfl, by decide, rfl, inT12, Or.inl (zTB_6 (i := 114) (by decide +kernel) rfl)⟩
theorem F_X12_88 : zfl RX12 88 12 48 := ⟨RX12, TX12, 58, rfl, by decide, rfl, inT12, Or.inl (zTB_6 (i := 116) (by decide +kernel) rfl)⟩
theorem F_X12_91 : zfl RX12 91 12 49 := ⟨RX12, TX12, 58, rfl, by decide, rfl, inT12, Or.inl (zTB_6 (i := 117) (by decide +kernel) rfl)⟩
theorem F_X12_94 : zfl RX12 94 12 50 := ⟨RX12, TX12, 58, rfl, by decide, rfl, inT12, Or.inl (zTB_6 (i := 118) (by decide +kernel) rfl)⟩
theorem F_X12_97 : zfl RX12 97 12 51 := ⟨RX12, TX12, 58, rfl, by decide, rfl, inT12, Or.inl (zTB_6 (i := 119) (by decide +kernel) rfl)⟩
theorem F_X12_100 : zfl RX12 100 12 52 := ⟨RX12, TX12, 58, rfl, by decide, rfl, inT12, Or.inl (zTB_6 (i := 120) (by decide +kernel) rfl)⟩
theorem F_X12_103 : zfl RX12 103 12 55 := ⟨RX12, TX12, 58, rfl, by decide, rfl, inT12, Or.inl (zTB_6 (i := 123) (by decide +kernel) rfl)⟩
theorem F_X12_106 : zfl RX12 106 12 56 := ⟨RX12, TX12, 58, rfl, by decide, rfl, inT12, Or.inl (zTB_6 (i := 124) (by decide +kernel) rfl)⟩
theorem F_X12_109 : zfl RX12 109 12 57 := ⟨RX12, TX12, 58, rfl, by decide, rfl, inT12, Or.inl (zTB_6 (i := 125) (by decide +kernel) rfl)⟩
theorem F_X12_113 : zfl RX12 113 12 17 := ⟨RX12, TX12, 58, rfl, by decide, rfl, inT12, Or.inl (zTB_6 (i := 85) (by decide +kernel) rfl)⟩
theorem F_X12_116 : zfl RX12 116 12 16 := ⟨RX12, TX12, 58, rfl, by decide, rfl, inT12, Or.inl (zTB_6 (i := 84) (by decide +kernel) rfl)⟩
theorem F_X12_119 : zfl RX12 119 12 1 := ⟨RX12, TX12, 58, rfl, by decide, rfl, inT12, Or.inl (zTB_6 (i := 69) (by decide +kernel) rfl)⟩
theorem F_X12_126 : zfl RX12 126 12 6 := ⟨RX12, TX12, 58, rfl, by decide, rfl, inT12, Or.inl (zTB_6 (i := 74) (by decide +kernel) rfl)⟩
theorem F_X12_129 : zfl RX12 129 12 10 := ⟨RX12, TX12, 58, rfl, by decide, rfl, inT12, Or.inl (zTB_6 (i := 78) (by decide +kernel) rfl)⟩
theorem F_X12_139 : zfl RX12 139 12 14 := ⟨RX12, TX12, 58, rfl, by decide, rfl, inT12, Or.inl (zTB_6 (i := 82) (by decide +kernel) rfl)⟩
theorem F_X12_142 : zfl RX12 142 12 18 := ⟨RX12, TX12, 58, rfl, by decide, rfl, inT12, Or.inl (zTB_6 (i := 86) (by decide +kernel) rfl)⟩
theorem F_X12_145 : zfl RX12 145 12 19 := ⟨RX12, TX12, 58, rfl, by decide, rfl, inT12, Or.inl (zTB_6 (i := 87) (by decide +kernel) rfl)⟩
theorem F_X12_148 : zfl RX12 148 12 20 := ⟨RX12, TX12, 58, rfl, by decide, rfl, inT12, Or.inl (zTB_6 (i := 88) (by decide +kernel) rfl)⟩
theorem F_X12_151 : zfl RX12 151 12 21 := ⟨RX12, TX12, 58, rfl, by decide, rfl, inT12, Or.inl (zTB_6 (i := 89) (by decide +kernel) rfl)⟩
theorem F_X12_154 : zfl RX12 154 12 22 := ⟨RX12, TX12, 58, rfl, by decide, rfl, inT12, Or.inl (zTB_6 (i := 90) (by decide +kernel) rfl)⟩
theorem F_X12_192 : zfl RX12 192 12 38 := ⟨RX12, TX12, 58, rfl, by decide, rfl, inT12, Or.inl (zTB_6 (i := 106) (by decide +kernel) rfl)⟩
theorem F_X12_213 : zfl RX12 213 12 28 := ⟨RX12, TX12, 58, rfl, by decide, rfl, inT12, Or.inl (zTB_6 (i := 96) (by decide +kernel) rfl)⟩
theorem F_X12_220 : zfl RX12 220 12 32 := ⟨RX12, TX12, 58, rfl, by decide, rfl, inT12, Or.inl (zTB_6 (i := 100) (by decide +kernel) rfl)⟩
theorem F_X12_223 : zfl RX12 223 12 29 := ⟨RX12, TX12, 58, rfl, by decide, rfl, inT12, Or.inl (zTB_6 (i := 97) (by decide +kernel) rfl)⟩
theorem F_X12_226 : zfl RX12 226 12 30 := ⟨RX12, TX12, 58, rfl, by decide, rfl, inT12, Or.inl (zTB_6 (i := 98) (by decide +kernel) rfl)⟩
theorem F_X12_229 : zfl RX12 229 12 31 := ⟨RX12, TX12, 58, rfl, by decide, rfl, inT12, Or.inl (zTB_6 (i := 99) (by decide +kernel) rfl)⟩
theorem F_X12_235 : zfl RX12 235 12 27 := ⟨RX12, TX12, 58, rfl, by decide, rfl, inT12, Or.inl (zTB_6 (i := 95) (by decide +kernel) rfl)⟩
theorem F_X12_309 : zfl RX12 309 12 43 := ⟨RX12, TX12, 58, rfl, by decide, rfl, inT12, Or.inl (zTB_6 (i := 111) (by decide +kernel) rfl)⟩
theorem F_X12_313 : zfl RX12 313 12 40 := ⟨RX12, TX12, 58, rfl, by decide, rfl, inT12, Or.inl (zTB_6 (i := 108) (by decide +kernel) rfl)⟩
theorem F_X12_316 : zfl RX12 316 12 41 := ⟨RX12, TX12, 58, rfl, by decide, rfl, inT12, Or.inl (zTB_6 (i := 109) (by decide +kernel) rfl)⟩
theorem F_X12_319 : zfl RX12 319 12 42 := ⟨RX12, TX12, 58, rfl, by decide, rfl, inT12, Or.inl (zTB_6 (i := 110) (by decide +kernel) rfl)⟩
theorem F_X12_382 : zfl RX12 382 12 47 := ⟨RX12, TX12, 58, rfl, by decide, rfl, inT12, Or.inl (zTB_6 (i := 115) (by decide +kernel) rfl)⟩
theorem F_X12_435 : zfl RX12 435 12 53 := ⟨RX12, TX12, 58, rfl, by decide, rfl, inT12, Or.inl (zTB_6 (i := 121) (by decide +kernel) rfl)⟩
theorem F_X12_438 : zfl RX12 438 12 54 := ⟨RX12, TX12, 58, rfl, by decide, rfl, inT12, Or.inl (zTB_6 (i := 122) (by decide +kernel) rfl)⟩
theorem F_X2_9 : zfl RX2 9 2 0 := ⟨RX2, TX2, 5, rfl, by decide, rfl, inT2, Or.inl (zTB_1 (i := 236) (by decide +kernel) rfl)⟩
theorem F_X2_15 : zfl RX2 15 2 1 := ⟨RX2, TX2, 5, rfl, by decide, rfl, inT2, Or.inl (zTB_1 (i := 238) (by decide +kernel) rfl)⟩
theorem F_X2_24 : zfl RX2 24 2 2 := ⟨RX2, TX2, 5, rfl, by decide, rfl, inT2, Or.inl (zTB_2 (i := 0) (by decide +kernel) rfl)⟩
theorem F_X2_27 : zfl RX2 27 2 3 := ⟨RX2, TX2, 5, rfl, by decide, rfl, inT2, Or.inl (zTB_2 (i := 2) (by decide +kernel) rfl)⟩
theorem F_X2_30 : zfl RX2 30 2 4 := ⟨RX2, TX2, 5, rfl, by decide, rfl, inT2, Or.inl (zTB_2 (i := 4) (by decide +kernel) rfl)⟩
theorem F_X2_33 : zfl RX2 33 1 3 := ⟨RX1, TX1, 14, rfl, by decide, rfl, inT1, Or.inr ⟨"FourAPole", (zNB_1 (i := 112) (by decide +kernel) rfl)⟩⟩
theorem F_X2_50 : zfl RX2 50 1 9 := ⟨RX1, TX1, 14, rfl, by decide, rfl, inT1, Or.inr ⟨"FourAPole", (zNB_1 (i := 124) (by decide +kernel) rfl)⟩⟩
theorem F_X3_11 : zfl RX3 11 3 0 := ⟨RX3, TX3, 11, rfl, by decide, rfl, inT3, Or.inl (zTB_2 (i := 45) (by decide +kernel) rfl)⟩
theorem F_X3_15 : zfl RX3 15 3 4 := ⟨RX3, TX3, 11, rfl, by decide, rfl, inT3, Or.inl (zTB_2 (i := 51) (by decide +kernel) rfl)⟩
theorem F_X3_18 : zfl RX3 18 3 5 := ⟨RX3, TX3, 11, rfl, by decide, rfl, inT3, Or.inl (zTB_2 (i := 52) (by decide +kernel) rfl)⟩
theorem F_X3_21 : zfl RX3 21 3 6 := ⟨RX3, TX3, 11, rfl, by decide, rfl, inT3, Or.inl (zTB_2 (i := 53) (by decide +kernel) rfl)⟩
theorem F_X3_24 : zfl RX3 24 3 7 := ⟨RX3, TX3, 11, rfl, by decide, rfl, inT3, Or.inl (zTB_2 (i := 54) (by decide +kernel) rfl)⟩
theorem F_X3_27 : zfl RX3 27 3 8 := ⟨RX3, TX3, 11, rfl, by decide, rfl, inT3, Or.inl (zTB_2 (i := 55) (by decide +kernel) rfl)⟩
theorem F_X3_30 : zfl RX3 30 3 9 := ⟨RX3, TX3, 11, rfl, by decide, rfl, inT3, Or.inl (zTB_2 (i := 56) (by decide +kernel) rfl)⟩
theorem F_X3_34 : zfl RX3 34 3 10 := ⟨RX3, TX3, 11, rfl, by decide, rfl, inT3, Or.inl (zTB_2 (i := 57) (by decide +kernel) rfl)⟩
theorem F_X3_43 : zfl RX3 43 3 1 := ⟨RX3, TX3, 11, rfl, by decide, rfl, inT3, Or.inl (zTB_2 (i := 46) (by decide +kernel) rfl)⟩
theorem F_X3_59 : zfl RX3 59 1 8 := ⟨RX1, TX1, 14, rfl, by decide, rfl, inT1, Or.inr ⟨"FourAPole", (zNB_1 (i := 120) (by decide +kernel) rfl)⟩⟩
theorem F_X3_64 : zfl RX3 64 3 2 := ⟨RX3, TX3, 11, rfl, by decide, rfl, inT3, Or.inl (zTB_2 (i := 48) (by decide +kernel) rfl)⟩
theorem F_X3_71 : zfl RX3 71 1 9 := ⟨RX1, TX1, 14, rfl, by decide, rfl, inT1, Or.inr ⟨"FourAPole", (zNB_1 (i := 125) (by decide +kernel) rfl)⟩⟩
theorem F_X3_106 : zfl RX3 106 3 3 := ⟨RX3, TX3, 11, rfl, by decide, rfl, inT3, Or.inl (zTB_2 (i := 49) (by decide +kernel) rfl)⟩
theorem F_X4_11 : zfl RX4 11 4 0 := ⟨RX4, TX4, 5, rfl, by decide, rfl, inT4, Or.inl (zTB_2 (i := 23) (by decide +kernel) rfl)⟩
theorem F_X4_15 : zfl RX4 15 4 1 := ⟨RX4, TX4, 5, rfl, by decide, rfl, inT4, Or.inl (zTB_2 (i := 24) (by decide +kernel) rfl)⟩
theorem F_X4_18 : zfl RX4 18 4 2 := ⟨RX4, TX4, 5, rfl, by decide, rfl, inT4, Or.inl (zTB_2 (i := 25) (by decide +kernel) rfl)⟩
theorem F_X4_21 : zfl RX4 21 4 3 := ⟨RX4, TX4, 5, rfl, by decide, rfl, inT4, Or.inl (zTB_2 (i := 26) (by decide +kernel) rfl)⟩
theorem F_X4_24 : zfl RX4 24 1 3 := ⟨RX1, TX1, 14, rfl, by decide, rfl, inT1, Or.inr ⟨"FourAPole", (zNB_1 (i := 113) (by decide +kernel) rfl)⟩⟩
theorem F_X4_30 : zfl RX4 30 4 4 := ⟨RX4, TX4, 5, rfl, by decide, rfl, inT4, Or.inl (zTB_2 (i := 27) (by decide +kernel) rfl)⟩
theorem F_X5_11 : zfl RX5 11 5 0 := ⟨RX5, TX5, 2, rfl, by decide, rfl, inT5, Or.inl (zTB_2 (i := 114) (by decide +kernel) rfl)⟩
theorem F_X5_15 : zfl RX5 15 5 1 := ⟨RX5, TX5, 2, rfl, by decide, rfl, inT5, Or.inl (zTB_2 (i := 115) (by decide +kernel) rfl)⟩
theorem F_X5_41 : zfl RX5 41 10 4 := ⟨RX10, TX10, 7, rfl, by decide, rfl, inT10, Or.inr ⟨"FourAPole", (zNB_1 (i := 183) (by decide +kernel) rfl)⟩⟩
theorem F_X5_47 : zfl RX5 47 10 1 := ⟨RX10, TX10, 7, rfl, by decide, rfl, inT10, Or.inr ⟨"FourAPole", (zNB_1 (i := 173) (by decide +kernel) rfl)⟩⟩
theorem F_X5_50 : zfl RX5 50 10 0 := ⟨RX10, TX10, 7, rfl, by decide, rfl, inT10, Or.inr ⟨"FourAPole", (zNB_1 (i := 170) (by decide +kernel) rfl)⟩⟩
theorem F_X5_53 : zfl RX5 53 10 2 := ⟨RX10, TX10, 7, rfl, by decide, rfl, inT10, Or.inr ⟨"FourAPole", (zNB_1 (i := 177) (by decide +kernel) rfl)⟩⟩
theorem F_X6_9 : zfl RX6 9 6 0 := ⟨RX6, TX6, 2, rfl, by decide, rfl, inT6, Or.inl (zTB_1 (i := 62) (by decide +kernel) rfl)⟩
theorem F_X6_15 : zfl RX6 15 6 1 := ⟨RX6, TX6, 2, rfl, by decide, rfl, inT6, Or.inl (zTB_1 (i := 64) (by decide +kernel) rfl)⟩
theorem F_X7_11 : zfl RX7 11 7 0 := ⟨RX7, TX7, 6, rfl, by decide, rfl, inT7, Or.inl (zTB_1 (i := 84) (by decide +kernel) rfl)⟩
theorem F_X7_15 : zfl RX7 15 7 2 := ⟨RX7, TX7, 6, rfl, by decide, rfl, inT7, Or.inl (zTB_1 (i := 86) (by decide +kernel) rfl)⟩
theorem F_X7_18 : zfl RX7 18 7 4 := ⟨RX7, TX7, 6, rfl, by decide, rfl, inT7, Or.inl (zTB_1 (i := 88) (by decide +kernel) rfl)⟩
theorem F_X7_21 : zfl RX7 21 7 5 := ⟨RX7, TX7, 6, rfl, by decide, rfl, inT7, Or.inl (zTB_1 (i := 89) (by decide +kernel) rfl)⟩
theorem F_X7_30 : zfl RX7 30 7 3 := ⟨RX7, TX7, 6, rfl, by decide, rfl, inT7, Or.inl (zTB_1 (i := 87) (by decide +kernel) rfl)⟩
theorem F_X7_52 : zfl RX7 52 7 1 := ⟨RX7, TX7, 6, rfl, by decide, rfl, inT7, Or.inl (zTB_1 (i := 85) (by decide +kernel) rfl)⟩
theorem F_X8_15 : zfl RX8 15 8 0 := ⟨RX8, TX8, 4, rfl, by decide, rfl, inT8, Or.inl (zTB_1 (i := 216) (by decide +kernel) rfl)⟩
theorem F_X8_21 : zfl RX8 21 8 1 := ⟨RX8, TX8, 4, rfl, by decide, rfl, inT8, Or.inl (zTB_1 (i := 217) (by decide +kernel) rfl)⟩
theorem F_X8_25 : zfl RX8 25 8 2 := ⟨RX8, TX8, 4, rfl, by decide, rfl, inT8, Or.inl (zTB_1 (i := 218) (by decide +kernel) rfl)⟩
theorem F_X8_34 : zfl RX8 34 8 3 := ⟨RX8, TX8, 4, rfl, by decide, rfl, inT8, Or.inl (zTB_1 (i := 219) (by decide +kernel) rfl)⟩
theorem F_X8_37 : zfl RX8 37 10 0 := ⟨RX10, TX10, 7, rfl, by decide, rfl, inT10, Or.inr ⟨"FourAPole", (zNB_1 (i := 169) (by decide +kernel) rfl)⟩⟩
theorem F_X8_48 : zfl RX8 48 10 1 := ⟨RX10, TX10, 7, rfl, by decide, rfl, inT10, Or.inr ⟨"FourAPole", (zNB_1 (i := 174) (by decide +kernel) rfl)⟩⟩
theorem F_X8_51 : zfl RX8 51 10 2 := ⟨RX10, TX10, 7, rfl, by decide, rfl, inT10, Or.inr ⟨"FourAPole", (zNB_1 (i := 178) (by decide +kernel) rfl)⟩⟩
theorem F_X8_54 : zfl RX8 54 10 3 := ⟨RX10, TX10, 7, rfl, by decide, rfl, inT10, Or.inr ⟨"FourAPole", (zNB_1 (i := 181) (by decide +kernel) rfl)⟩⟩
theorem F_X8_57 : zfl RX8 57 10 4 := ⟨RX10, TX10, 7, rfl, by decide, rfl, inT10, Or.inr ⟨"FourAPole", (zNB_1 (i := 184) (by decide +kernel) rfl)⟩⟩
theorem F_X9_9 : zfl RX9 9 9 0 := ⟨RX9, TX9, 4, rfl, by decide, rfl, inT9, Or.inl (zTB_1 (i := 41) (by decide +kernel) rfl)⟩
theorem F_X9_15 : zfl RX9 15 9 1 := ⟨RX9, TX9, 4, rfl, by decide, rfl, inT9, Or.inl (zTB_1 (i := 42) (by decide +kernel) rfl)⟩
theorem F_X9_19 : zfl RX9 19 9 3 := ⟨RX9, TX9, 4, rfl, by decide, rfl, inT9, Or.inl (zTB_1 (i := 45) (by decide +kernel) rfl)⟩
theorem F_X9_28 : zfl RX9 28 9 2 := ⟨RX9, TX9, 4, rfl, by decide, rfl, inT9, Or.inl (zTB_1 (i := 44) (by decide +kernel) rfl)⟩
theorem P_0_0 : zfp 0 0 .char := ⟨RX0, TX0, 5, rfl, rfl, by decide, ⟨tyX0, tyX0_ok⟩, nmX0⟩
theorem P_0_1 : zfp 0 1 .int := ⟨RX0, TX0, 5, rfl, rfl, by decide, ⟨tyX0, tyX0_ok⟩, nmX0⟩
theorem P_0_2 : zfp 0 2 .int := ⟨RX0, TX0, 5, rfl, rfl, by decide, ⟨tyX0, tyX0_ok⟩, nmX0⟩
theorem P_0_3 : zfp 0 3 .int := ⟨RX0, TX0, 5, rfl, rfl, by decide, ⟨tyX0, tyX0_ok⟩, nmX0⟩
theorem P_0_4 : zfp 0 4 .int := ⟨RX0, TX0, 5, rfl, rfl, by decide, ⟨tyX0, tyX0_ok⟩, nmX0⟩
theorem P_1_3 : zfp 1 3 .int := ⟨RX1, TX1, 14, rfl, rfl, by decide, ⟨tyX1, tyX1_ok⟩, nmX1⟩
theorem P_1_6 : zfp 1 6 .int := ⟨RX1, TX1, 14, rfl, rfl, by decide, ⟨tyX1, tyX1_ok⟩, nmX1⟩
theorem P_1_8 : zfp 1 8 .int := ⟨RX1, TX1, 14, rfl, rfl, by decide, ⟨tyX1, tyX1_ok⟩, nmX1⟩
theorem P_1_9 : zfp 1 9 .int := ⟨RX1, TX1, 14, rfl, rfl, by decide, ⟨tyX1, tyX1_ok⟩, nmX1⟩
theorem P_2_0 : zfp 2 0 .int := ⟨RX2, TX2, 5, rfl, rfl, by decide, ⟨tyX2, tyX2_ok⟩, nmX2⟩
theorem P_2_1 : zfp 2 1 .int := ⟨RX2, TX2, 5, rfl, rfl, by decide, ⟨tyX2, tyX2_ok⟩, nmX2⟩
theorem P_2_2 : zfp 2 2 .int := ⟨RX2, TX2, 5, rfl, rfl, by decide, ⟨tyX2, tyX2_ok⟩, nmX2⟩
theorem P_2_3 : zfp 2 3 .int := ⟨RX2, TX2, 5, rfl, rfl, by decide, ⟨tyX2, tyX2_ok⟩, nmX2⟩
theorem P_2_4 : zfp 2 4 .int := ⟨RX2, TX2, 5, rfl, rfl, by decide, ⟨tyX2, tyX2_ok⟩, nmX2⟩
theorem P_3_1 : zfp 3 1 .int := ⟨RX3, TX3, 11, rfl, rfl, by decide, ⟨tyX3, tyX3_ok⟩, nmX3⟩
theorem P_3_2 : zfp 3 2 .int := ⟨RX3, TX3, 11, rfl, rfl, by decide, ⟨tyX3, tyX3_ok⟩, nmX3⟩
theorem P_3_3 : zfp 3 3 .int := ⟨RX3, TX3, 11, rfl, rfl, by decide, ⟨tyX3, tyX3_ok⟩, nmX3⟩
theorem P_4_4 : zfp 4 4 .int := ⟨RX4, TX4, 5, rfl, rfl, by decide, ⟨tyX4, tyX4_ok⟩, nmX4⟩
theorem P_6_1 : zfp 6 1 .int := ⟨RX6, TX6, 2, rfl, rfl, by decide, ⟨tyX6, tyX6_ok⟩, nmX6⟩
theorem P_7_1 : zfp 7 1 .int := ⟨RX7, TX7, 6, rfl, rfl, by decide, ⟨tyX7, tyX7_ok⟩, nmX7⟩
theorem P_7_3 : zfp 7 3 .int := ⟨RX7, TX7, 6, rfl, rfl, by decide, ⟨tyX7, tyX7_ok⟩, nmX7⟩
theorem P_8_3 : zfp 8 3 .int := ⟨RX8, TX8, 4, rfl, rfl, by decide, ⟨tyX8, tyX8_ok⟩, nmX8⟩
theorem P_9_1 : zfp 9 1 .int := ⟨RX9, TX9, 4, rfl, rfl, by decide, ⟨tyX9, tyX9_ok⟩, nmX9⟩
theorem P_9_2 : zfp 9 2 .int := ⟨RX9, TX9, 4, rfl, rfl, by decide, ⟨tyX9, tyX9_ok⟩, nmX9⟩
theorem P_9_3 : zfp 9 3 .int := ⟨RX9, TX9, 4, rfl, rfl, by decide, ⟨tyX9, tyX9_ok⟩, nmX9⟩
theorem P_10_4 : zfp 10 4 .int := ⟨RX10, TX10, 7, rfl, rfl, by decide, ⟨tyX10, tyX10_ok⟩, nmX10⟩
theorem P_12_1 : zfp 12 1 .int := ⟨RX12, TX12, 58, rfl, rfl, by decide, ⟨tyX12, tyX12_ok⟩, nmX12⟩
theorem P_12_5 : zfp 12 5 .int := ⟨RX12, TX12, 58, rfl, rfl, by decide, ⟨tyX12, tyX12_ok⟩, nmX12⟩
theorem P_12_6 : zfp 12 6 .int := ⟨RX12, TX12, 58, rfl, rfl, by decide, ⟨tyX12, tyX12_ok⟩, nmX12⟩
theorem P_12_10 : zfp 12 10 .int := ⟨RX12, TX12, 58, rfl, rfl, by decide, ⟨tyX12, tyX12_ok⟩, nmX12⟩
theorem P_12_14 : zfp 12 14 .int := ⟨RX12, TX12, 58, rfl, rfl, by decide, ⟨tyX12, tyX12_ok⟩, nmX12⟩
theorem P_12_16 : zfp 12 16 .int := ⟨RX12, TX12, 58, rfl, rfl, by decide, ⟨tyX12, tyX12_ok⟩, nmX12⟩
theorem P_12_17 : zfp 12 17 .int := ⟨RX12, TX12, 58, rfl, rfl, by decide, ⟨tyX12, tyX12_ok⟩, nmX12⟩
theorem P_12_18 : zfp 12 18 (.array .byte) := ⟨RX12, TX12, 58, rfl, rfl, by decide, ⟨tyX12, tyX12_ok⟩, nmX12⟩
theorem P_12_19 : zfp 12 19 .int := ⟨RX12, TX12, 58, rfl, rfl, by decide, ⟨tyX12, tyX12_ok⟩, nmX12⟩
theorem P_12_20 : zfp 12 20 .int := ⟨RX12, TX12, 58, rfl, rfl, by decide, ⟨tyX12, tyX12_ok⟩, nmX12⟩
theorem P_12_21 : zfp 12 21 .int := ⟨RX12, TX12, 58, rfl, rfl, by decide, ⟨tyX12, tyX12_ok⟩, nmX12⟩
theorem P_12_22 : zfp 12 22 .int := ⟨RX12, TX12, 58, rfl, rfl, by decide, ⟨tyX12, tyX12_ok⟩, nmX12⟩
theorem P_12_27 : zfp 12 27 .int := ⟨RX12, TX12, 58, rfl, rfl, by decide, ⟨tyX12, tyX12_ok⟩, nmX12⟩
theorem P_12_28 : zfp 12 28 .boolean := ⟨RX12, TX12, 58, rfl, rfl, by decide, ⟨tyX12, tyX12_ok⟩, nmX12⟩
theorem P_12_29 : zfp 12 29 .int := ⟨RX12, TX12, 58, rfl, rfl, by decide, ⟨tyX12, tyX12_ok⟩, nmX12⟩
theorem P_12_30 : zfp 12 30 .int := ⟨RX12, TX12, 58, rfl, rfl, by decide, ⟨tyX12, tyX12_ok⟩, nmX12⟩
theorem P_12_31 : zfp 12 31 .int := ⟨RX12, TX12, 58, rfl, rfl, by decide, ⟨tyX12, tyX12_ok⟩, nmX12⟩
theorem P_12_32 : zfp 12 32 .int := ⟨RX12, TX12, 58, rfl, rfl, by decide, ⟨tyX12, tyX12_ok⟩, nmX12⟩
theorem P_12_38 : zfp 12 38 .int := ⟨RX12, TX12, 58, rfl, rfl, by decide, ⟨tyX12, tyX12_ok⟩, nmX12⟩
theorem P_12_40 : zfp 12 40 .int := ⟨RX12, TX12, 58, rfl, rfl, by decide, ⟨tyX12, tyX12_ok⟩, nmX12⟩
theorem P_12_41 : zfp 12 41 .int := ⟨RX12, TX12, 58, rfl, rfl, by decide, ⟨tyX12, tyX12_ok⟩, nmX12⟩
theorem P_12_42 : zfp 12 42 .int := ⟨RX12, TX12, 58, rfl, rfl, by decide, ⟨tyX12, tyX12_ok⟩, nmX12⟩
theorem P_12_43 : zfp 12 43 .int := ⟨RX12, TX12, 58, rfl, rfl, by decide, ⟨tyX12, tyX12_ok⟩, nmX12⟩
theorem P_12_47 : zfp 12 47 .int := ⟨RX12, TX12, 58, rfl, rfl, by decide, ⟨tyX12, tyX12_ok⟩, nmX12⟩
theorem P_12_53 : zfp 12 53 .int := ⟨RX12, TX12, 58, rfl, rfl, by decide, ⟨tyX12, tyX12_ok⟩, nmX12⟩
theorem P_12_54 : zfp 12 54 .int := ⟨RX12, TX12, 58, rfl, rfl, by decide, ⟨tyX12, tyX12_ok⟩, nmX12⟩
theorem Ys_J6_bitCount_0f7a4 : zyS mJ6_bitCount_0f7a4 1 := ⟨(zTB_5 (i := 130) (by decide +kernel) rfl), (zTB_1 (i := 26) (by decide +kernel) rfl), (zTB_5 (i := 131) (by decide +kernel) rfl), ⟨by decide, by decide, by decide⟩, by decide⟩
theorem Ys_J7_fill_53178 : zyS mJ7_fill_53178 2 := ⟨(zTB_1 (i := 214) (by decide +kernel) rfl), (zTB_1 (i := 9) (by decide +kernel) rfl), (zTB_1 (i := 215) (by decide +kernel) rfl), ⟨by decide, by decide, by decide⟩, by decide⟩
theorem Ys_J7_fill_d0a16 : zyS mJ7_fill_d0a16 2 := ⟨(zTB_4 (i := 40) (by decide +kernel) rfl), (zTB_1 (i := 9) (by decide +kernel) rfl), (zTB_4 (i := 41) (by decide +kernel) rfl), ⟨by decide, by decide, by decide⟩, by decide⟩
theorem Ys_J9_abs_067f4 : zyS mJ9_abs_067f4 1 := ⟨(zTB_5 (i := 105) (by decide +kernel) rfl), (zTB_1 (i := 8) (by decide +kernel) rfl), (zTB_5 (i := 106) (by decide +kernel) rfl), ⟨by decide, by decide, by decide⟩, by decide⟩
theorem Yv_X0_check : zyV mX0_check 1 := ⟨(zTB_4 (i := 176) (by decide +kernel) rfl), (zTB_4 (i := 177) (by decide +kernel) rfl), (zTB_1 (i := 13) (by decide +kernel) rfl), (zTB_4 (i := 178) (by decide +kernel) rfl), ⟨by decide, by decide, by decide⟩, by decide⟩
theorem Yv_X0_read : zyV mX0_read 1 := ⟨(zTB_4 (i := 182) (by decide +kernel) rfl), (zTB_4 (i := 183) (by decide +kernel) rfl), (zTB_1 (i := 13) (by decide +kernel) rfl), (zTB_4 (i := 184) (by decide +kernel) rfl), ⟨by decide, by decide, by decide⟩, by decide⟩
theorem Yv_X0_readPair : zyV mX0_readPair 1 := ⟨(zTB_4 (i := 188) (by decide +kernel) rfl), (zTB_0 (i := 15) (by decide +kernel) rfl), (zTB_1 (i := 13) (by decide +kernel) rfl), (zTB_4 (i := 189) (by decide +kernel) rfl), ⟨by decide, by decide, by decide⟩, by decide⟩
theorem Yv_X0_readRide : zyV mX0_readRide 1 := ⟨(zTB_4 (i := 193) (by decide +kernel) rfl), (zTB_0 (i := 16) (by decide +kernel) rfl), (zTB_1 (i := 13) (by decide +kernel) rfl), (zTB_4 (i := 194) (by decide +kernel) rfl), ⟨by decide, by decide, by decide⟩, by decide⟩
theorem Yv_X0_readTold : zyV mX0_readTold 1 := ⟨(zTB_4 (i := 197) (by decide +kernel) rfl), (zTB_0 (i := 17) (by decide +kernel) rfl), (zTB_1 (i := 13) (by decide +kernel) rfl), (zTB_4 (i := 198) (by decide +kernel) rfl), ⟨by decide, by decide, by decide⟩, by decide⟩
theorem Yv_X10_add : zyV mX10_add 4 := ⟨(zTB_4 (i := 144) (by decide +kernel) rfl), (zTB_4 (i := 145) (by decide +kernel) rfl), (zTB_1 (i := 6) (by decide +kernel) rfl), (zTB_4 (i := 146) (by decide +kernel) rfl), ⟨by decide, by decide, by decide⟩, by decide⟩
theorem Yv_X10_isFull : zyV mX10_isFull 0 := ⟨(zTB_4 (i := 124) (by decide +kernel) rfl), (zTB_4 (i := 125) (by decide +kernel) rfl), (zTB_1 (i := 6) (by decide +kernel) rfl), (zTB_4 (i := 126) (by decide +kernel) rfl), ⟨by decide, by decide, by decide⟩, by decide⟩
theorem Yv_X10_moneyAt : zyV mX10_moneyAt 1 := ⟨(zTB_5 (i := 8) (by decide +kernel) rfl), (zTB_5 (i := 9) (by decide +kernel) rfl), (zTB_1 (i := 6) (by decide +kernel) rfl), (zTB_5 (i := 10) (by decide +kernel) rfl), ⟨by decide, by decide, by decide⟩, by decide⟩
theorem Yv_X10_moneyInAll : zyV mX10_moneyInAll 0 := ⟨(zTB_5 (i := 209) (by decide +kernel) rfl), (zTB_5 (i := 210) (by decide +kernel) rfl), (zTB_1 (i := 6) (by decide +kernel) rfl), (zTB_5 (i := 211) (by decide +kernel) rfl), ⟨by decide, by decide, by decide⟩, by decide⟩
theorem Yv_X10_placeFor : zyV mX10_placeFor 2 := ⟨(zTB_5 (i := 4) (by decide +kernel) rfl), (zTB_5 (i := 5) (by decide +kernel) rfl), (zTB_1 (i := 6) (by decide +kernel) rfl), (zTB_5 (i := 6) (by decide +kernel) rfl), ⟨by decide, by decide, by decide⟩, by decide⟩
theorem Yv_X10_placeOf : zyV mX10_placeOf 2 := ⟨(zTB_4 (i := 235) (by decide +kernel) rfl), (zTB_4 (i := 236) (by decide +kernel) rfl), (zTB_1 (i := 6) (by decide +kernel) rfl), (zTB_4 (i := 237) (by decide +kernel) rfl), ⟨by decide, by decide, by decide⟩, by decide⟩
theorem Yv_X10_readMoney : zyV mX10_readMoney 1 := ⟨(zTB_3 (i := 142) (by decide +kernel) rfl), (zTB_3 (i := 143) (by decide +kernel) rfl), (zTB_1 (i := 6) (by decide +kernel) rfl), (zTB_3 (i := 144) (by decide +kernel) rfl), ⟨by decide, by decide, by decide⟩, by decide⟩
theorem Yv_X10_scaledMean : zyV mX10_scaledMean 2 := ⟨(zTB_5 (i := 180) (by decide +kernel) rfl), (zTB_5 (i := 181) (by decide +kernel) rfl), (zTB_1 (i := 6) (by decide +kernel) rfl), (zTB_5 (i := 182) (by decide +kernel) rfl), ⟨by decide, by decide, by decide⟩, by decide⟩
theorem Yv_X10_strike : zyV mX10_strike 0 := ⟨(zTB_4 (i := 210) (by decide +kernel) rfl), (zTB_4 (i := 211) (by decide +kernel) rfl), (zTB_1 (i := 6) (by decide +kernel) rfl), (zTB_4 (i := 212) (by decide +kernel) rfl), ⟨by decide, by decide, by decide⟩, by decide⟩
theorem Yv_X10_tellOrder : zyV mX10_tellOrder 2 := ⟨(zTB_4 (i := 230) (by decide +kernel) rfl), (zTB_4 (i := 231) (by decide +kernel) rfl), (zTB_1 (i := 6) (by decide +kernel) rfl), (zTB_4 (i := 232) (by decide +kernel) rfl), ⟨by decide, by decide, by decide⟩, by decide⟩
theorem Yv_X11_addRide : zyV mX11_addRide 4 := ⟨(zTB_4 (i := 118) (by decide +kernel) rfl), (zTB_0 (i := 11) (by decide +kernel) rfl), (zTB_1 (i := 1) (by decide +kernel) rfl), (zTB_4 (i := 119) (by decide +kernel) rfl), ⟨by decide, by decide, by decide⟩, by decide⟩
theorem Yv_X11_addTold : zyV mX11_addTold 4 := ⟨(zTB_4 (i := 166) (by decide +kernel) rfl), (zTB_0 (i := 14) (by decide +kernel) rfl), (zTB_1 (i := 1) (by decide +kernel) rfl), (zTB_4 (i := 167) (by decide +kernel) rfl), ⟨by decide, by decide, by decide⟩, by decide⟩
theorem Ys_X11_begun : zyS mX11_begun 3 := ⟨(zTB_4 (i := 141) (by decide +kernel) rfl), (zTB_1 (i := 1) (by decide +kernel) rfl), (zTB_4 (i := 142) (by decide +kernel) rfl), ⟨by decide, by decide, by decide⟩, by decide⟩
theorem Yv_X11_bestPlan : zyV mX11_bestPlan 1 := ⟨(zTB_5 (i := 39) (by decide +kernel) rfl), (zTB_0 (i := 21) (by decide +kernel) rfl), (zTB_1 (i := 1) (by decide +kernel) rfl), (zTB_5 (i := 40) (by decide +kernel) rfl), ⟨by decide, by decide, by decide⟩, by decide⟩
theorem Yv_X11_bitsThrough : zyV mX11_bitsThrough 2 := ⟨(zTB_5 (i := 127) (by decide +kernel) rfl), (zTB_0 (i := 27) (by decide +kernel) rfl), (zTB_1 (i := 1) (by decide +kernel) rfl), (zTB_5 (i := 128) (by decide +kernel) rfl), ⟨by decide, by decide, by decide⟩, by decide⟩
theorem Ys_X11_isResult : zyS mX11_isResult 2 := ⟨(zTB_4 (i := 169) (by decide +kernel) rfl), (zTB_1 (i := 1) (by decide +kernel) rfl), (zTB_4 (i := 170) (by decide +kernel) rfl), ⟨by decide, by decide, by decide⟩, by decide⟩
theorem Ys_X11_isRider : zyS mX11_isRider 1 := ⟨(zTB_4 (i := 121) (by decide +kernel) rfl), (zTB_1 (i := 1) (by decide +kernel) rfl), (zTB_4 (i := 122) (by decide +kernel) rfl), ⟨by decide, by decide, by decide⟩, by decide⟩
theorem Yv_X11_justFall : zyV mX11_justFall 4 := ⟨(zTB_5 (i := 192) (by decide +kernel) rfl), (zTB_0 (i := 30) (by decide +kernel) rfl), (zTB_1 (i := 1) (by decide +kernel) rfl), (zTB_5 (i := 193) (by decide +kernel) rfl), ⟨by decide, by decide, by decide⟩, by decide⟩
theorem Yv_X11_leastFear : zyV mX11_leastFear 2 := ⟨(zTB_4 (i := 55) (by decide +kernel) rfl), (zTB_0 (i := 8) (by decide +kernel) rfl), (zTB_1 (i := 1) (by decide +kernel) rfl), (zTB_4 (i := 56) (by decide +kernel) rfl), ⟨by decide, by decide, by decide⟩, by decide⟩
theorem Yv_X11_meanOf : zyV mX11_meanOf 2 := ⟨(zTB_5 (i := 31) (by decide +kernel) rfl), (zTB_0 (i := 20) (by decide +kernel) rfl), (zTB_1 (i := 1) (by decide +kernel) rfl), (zTB_5 (i := 32) (by decide +kernel) rfl), ⟨by decide, by decide, by decide⟩, by decide⟩
theorem Yv_X11_perform : zyV mX11_perform 0 := ⟨(zTB_4 (i := 207) (by decide +kernel) rfl), (zTB_0 (i := 18) (by decide +kernel) rfl), (zTB_1 (i := 1) (by decide +kernel) rfl), (zTB_4 (i := 208) (by decide +kernel) rfl), ⟨by decide, by decide, by decide⟩, by decide⟩
theorem Yv_X11_readPlayers : zyV mX11_readPlayers 2 := ⟨(zTB_5 (i := 51) (by decide +kernel) rfl), (zTB_0 (i := 22) (by decide +kernel) rfl), (zTB_1 (i := 1) (by decide +kernel) rfl), (zTB_5 (i := 52) (by decide +kernel) rfl), ⟨by decide, by decide, by decide⟩, by decide⟩
theorem Ys_X11_sheetEntry : zyS mX11_sheetEntry 2 := ⟨(zTB_3 (i := 173) (by decide +kernel) rfl), (zTB_1 (i := 1) (by decide +kernel) rfl), (zTB_3 (i := 174) (by decide +kernel) rfl), ⟨by decide, by decide, by decide⟩, by decide⟩
theorem Yv_X11_tellDrawn : zyV mX11_tellDrawn 0 := ⟨(zTB_4 (i := 154) (by decide +kernel) rfl), (zTB_0 (i := 13) (by decide +kernel) rfl), (zTB_1 (i := 1) (by decide +kernel) rfl), (zTB_4 (i := 155) (by decide +kernel) rfl), ⟨by decide, by decide, by decide⟩, by decide⟩
theorem Yv_X11_thoughtMoney : zyV mX11_thoughtMoney 2 := ⟨(zTB_5 (i := 27) (by decide +kernel) rfl), (zTB_0 (i := 19) (by decide +kernel) rfl), (zTB_1 (i := 1) (by decide +kernel) rfl), (zTB_5 (i := 28) (by decide +kernel) rfl), ⟨by decide, by decide, by decide⟩, by decide⟩
theorem Yv_X12_act : zyV mX12_act 1 := ⟨(zTB_8 (i := 66) (by decide +kernel) rfl), (zTB_0 (i := 74) (by decide +kernel) rfl), (zTB_1 (i := 15) (by decide +kernel) rfl), (zTB_8 (i := 67) (by decide +kernel) rfl), ⟨by decide, by decide, by decide⟩, by decide⟩
theorem Ys_X12_add : zyS mX12_add 5 := ⟨(zTB_8 (i := 38) (by decide +kernel) rfl), (zTB_1 (i := 15) (by decide +kernel) rfl), (zTB_8 (i := 39) (by decide +kernel) rfl), ⟨by decide, by decide, by decide⟩, by decide⟩
theorem Yv_X12_areBoth : zyV mX12_areBoth 2 := ⟨(zTB_7 (i := 186) (by decide +kernel) rfl), (zTB_0 (i := 56) (by decide +kernel) rfl), (zTB_1 (i := 15) (by decide +kernel) rfl), (zTB_7 (i := 187) (by decide +kernel) rfl), ⟨by decide, by decide, by decide⟩, by decide⟩
theorem Yv_X12_begin : zyV mX12_begin 3 := ⟨(zTB_7 (i := 25) (by decide +kernel) rfl), (zTB_0 (i := 32) (by decide +kernel) rfl), (zTB_1 (i := 15) (by decide +kernel) rfl), (zTB_7 (i := 26) (by decide +kernel) rfl), ⟨by decide, by decide, by decide⟩, by decide⟩
theorem Yv_X12_bestPlan : zyV mX12_bestPlan 1 := ⟨(zTB_8 (i := 127) (by decide +kernel) rfl), (zTB_0 (i := 79) (by decide +kernel) rfl), (zTB_1 (i := 15) (by decide +kernel) rfl), (zTB_8 (i := 128) (by decide +kernel) rfl), ⟨by decide, by decide, by decide⟩, by decide⟩
theorem Yv_X12_clearBy : zyV mX12_clearBy 4 := ⟨(zTB_7 (i := 206) (by decide +kernel) rfl), (zTB_0 (i := 61) (by decide +kernel) rfl), (zTB_1 (i := 15) (by decide +kernel) rfl), (zTB_7 (i := 207) (by decide +kernel) rfl), ⟨by decide, by decide, by decide⟩, by decide⟩
theorem Yv_X12_clearOf : zyV mX12_clearOf 2 := ⟨(zTB_7 (i := 202) (by decide +kernel) rfl), (zTB_0 (i := 60) (by decide +kernel) rfl), (zTB_1 (i := 15) (by decide +kernel) rfl), (zTB_7 (i := 203) (by decide +kernel) rfl), ⟨by decide, by decide, by decide⟩, by decide⟩
theorem Ys_X12_common : zyS mX12_common 2 := ⟨(zTB_8 (i := 164) (by decide +kernel) rfl), (zTB_1 (i := 15) (by decide +kernel) rfl), (zTB_8 (i := 165) (by decide +kernel) rfl), ⟨by decide, by decide, by decide⟩, by decide⟩
theorem Yv_X12_curve : zyV mX12_curve 2 := ⟨(zTB_7 (i := 225) (by decide +kernel) rfl), (zTB_7 (i := 226) (by decide +kernel) rfl), (zTB_1 (i := 15) (by decide +kernel) rfl), (zTB_7 (i := 227) (by decide +kernel) rfl), ⟨by decide, by decide, by decide⟩, by decide⟩
theorem Yv_X12_digit : zyV mX12_digit 2 := ⟨(zTB_7 (i := 48) (by decide +kernel) rfl), (zTB_0 (i := 37) (by decide +kernel) rfl), (zTB_1 (i := 15) (by decide +kernel) rfl), (zTB_7 (i := 49) (by decide +kernel) rfl), ⟨by decide, by decide, by decide⟩, by decide⟩
theorem Yv_X12_draw : zyV mX12_draw 1 := ⟨(zTB_8 (i := 30) (by decide +kernel) rfl), (zTB_0 (i := 69) (by decide +kernel) rfl), (zTB_1 (i := 15) (by decide +kernel) rfl), (zTB_8 (i := 31) (by decide +kernel) rfl), ⟨by decide, by decide, by decide⟩, by decide⟩
theorem Yv_X12_fault : zyV mX12_fault 1 := ⟨(zTB_7 (i := 33) (by decide +kernel) rfl), (zTB_0 (i := 34) (by decide +kernel) rfl), (zTB_1 (i := 15) (by decide +kernel) rfl), (zTB_7 (i := 34) (by decide +kernel) rfl), ⟨by decide, by decide, by decide⟩, by decide⟩
theorem Yv_X12_fearOf : zyV mX12_fearOf 2 := ⟨(zTB_7 (i := 210) (by decide +kernel) rfl), (zTB_0 (i := 62) (by decide +kernel) rfl), (zTB_1 (i := 15) (by decide +kernel) rfl), (zTB_7 (i := 211) (by decide +kernel) rfl), ⟨by decide, by decide, by decide⟩, by decide⟩
theorem Yv_X12_fine : zyV mX12_fine 0 := ⟨(zTB_7 (i := 29) (by decide +kernel) rfl), (zTB_0 (i := 33) (by decide +kernel) rfl), (zTB_1 (i := 15) (by decide +kernel) rfl), (zTB_7 (i := 30) (by decide +kernel) rfl), ⟨by decide, by decide, by decide⟩, by decide⟩
theorem Yv_X12_goGame : zyV mX12_goGame 1 := ⟨(zTB_8 (i := 143) (by decide +kernel) rfl), (zTB_0 (i := 81) (by decide +kernel) rfl), (zTB_1 (i := 15) (by decide +kernel) rfl), (zTB_8 (i := 144) (by decide +kernel) rfl), ⟨by decide, by decide, by decide⟩, by decide⟩
theorem Yv_X12_goRound : zyV mX12_goRound 3 := ⟨(zTB_8 (i := 26) (by decide +kernel) rfl), (zTB_0 (i := 68) (by decide +kernel) rfl), (zTB_1 (i := 15) (by decide +kernel) rfl), (zTB_8 (i := 27) (by decide +kernel) rfl), ⟨by decide, by decide, by decide⟩, by decide⟩
theorem Yv_X12_held : zyV mX12_held 1 := ⟨(zTB_7 (i := 84) (by decide +kernel) rfl), (zTB_0 (i := 42) (by decide +kernel) rfl), (zTB_1 (i := 15) (by decide +kernel) rfl), (zTB_7 (i := 85) (by decide +kernel) rfl), ⟨by decide, by decide, by decide⟩, by decide⟩
theorem Yv_X12_here : zyV mX12_here 0 := ⟨(zTB_7 (i := 41) (by decide +kernel) rfl), (zTB_0 (i := 36) (by decide +kernel) rfl), (zTB_1 (i := 15) (by decide +kernel) rfl), (zTB_7 (i := 42) (by decide +kernel) rfl), ⟨by decide, by decide, by decide⟩, by decide⟩
theorem Ys_X12_in : zyS mX12_in 3 := ⟨(zTB_7 (i := 17) (by decide +kernel) rfl), (zTB_1 (i := 15) (by decide +kernel) rfl), (zTB_7 (i := 18) (by decide +kernel) rfl), ⟨by decide, by decide, by decide⟩, by decide⟩
theorem Ys_X12_isAhead : zyS mX12_isAhead 3 := ⟨(zTB_8 (i := 80) (by decide +kernel) rfl), (zTB_1 (i := 15) (by decide +kernel) rfl), (zTB_8 (i := 81) (by decide +kernel) rfl), ⟨by decide, by decide, by decide⟩, by decide⟩
theorem Yv_X12_isFence : zyV mX12_isFence 1 := ⟨(zTB_7 (i := 113) (by decide +kernel) rfl), (zTB_0 (i := 48) (by decide +kernel) rfl), (zTB_1 (i := 15) (by decide +kernel) rfl), (zTB_7 (i := 114) (by decide +kernel) rfl), ⟨by decide, by decide, by decide⟩, by decide⟩
theorem Yv_X12_isHorse : zyV mX12_isHorse 1 := ⟨(zTB_7 (i := 125) (by decide +kernel) rfl), (zTB_0 (i := 50) (by decide +kernel) rfl), (zTB_1 (i := 15) (by decide +kernel) rfl), (zTB_7 (i := 126) (by decide +kernel) rfl), ⟨by decide, by decide, by decide⟩, by decide⟩
theorem Ys_X12_isMost : zyS mX12_isMost 1 := ⟨(zTB_7 (i := 140) (by decide +kernel) rfl), (zTB_1 (i := 15) (by decide +kernel) rfl), (zTB_7 (i := 141) (by decide +kernel) rfl), ⟨by decide, by decide, by decide⟩, by decide⟩
theorem Yv_X12_isPlan : zyV mX12_isPlan 1 := ⟨(zTB_7 (i := 190) (by decide +kernel) rfl), (zTB_0 (i := 57) (by decide +kernel) rfl), (zTB_1 (i := 15) (by decide +kernel) rfl), (zTB_7 (i := 191) (by decide +kernel) rfl), ⟨by decide, by decide, by decide⟩, by decide⟩
theorem Yv_X12_justFall : zyV mX12_justFall 4 := ⟨(zTB_8 (i := 216) (by decide +kernel) rfl), (zTB_0 (i := 88) (by decide +kernel) rfl), (zTB_1 (i := 15) (by decide +kernel) rfl), (zTB_8 (i := 217) (by decide +kernel) rfl), ⟨by decide, by decide, by decide⟩, by decide⟩
theorem Ys_X12_kindOf : zyS mX12_kindOf 1 := ⟨(zTB_7 (i := 44) (by decide +kernel) rfl), (zTB_1 (i := 15) (by decide +kernel) rfl), (zTB_7 (i := 45) (by decide +kernel) rfl), ⟨by decide, by decide, by decide⟩, by decide⟩
theorem Ys_X12_lay : zyS mX12_lay 3 := ⟨(zTB_8 (i := 22) (by decide +kernel) rfl), (zTB_1 (i := 15) (by decide +kernel) rfl), (zTB_8 (i := 23) (by decide +kernel) rfl), ⟨by decide, by decide, by decide⟩, by decide⟩
theorem Yv_X12_layFences : zyV mX12_layFences 2 := ⟨(zTB_7 (i := 230) (by decide +kernel) rfl), (zTB_0 (i := 63) (by decide +kernel) rfl), (zTB_1 (i := 15) (by decide +kernel) rfl), (zTB_7 (i := 231) (by decide +kernel) rfl), ⟨by decide, by decide, by decide⟩, by decide⟩
theorem Yv_X12_layThought : zyV mX12_layThought 3 := ⟨(zTB_8 (i := 152) (by decide +kernel) rfl), (zTB_0 (i := 83) (by decide +kernel) rfl), (zTB_1 (i := 15) (by decide +kernel) rfl), (zTB_8 (i := 153) (by decide +kernel) rfl), ⟨by decide, by decide, by decide⟩, by decide⟩
theorem Yv_X12_leanOf : zyV mX12_leanOf 2 := ⟨(zTB_7 (i := 104) (by decide +kernel) rfl), (zTB_0 (i := 47) (by decide +kernel) rfl), (zTB_1 (i := 15) (by decide +kernel) rfl), (zTB_7 (i := 105) (by decide +kernel) rfl), ⟨by decide, by decide, by decide⟩, by decide⟩
theorem Yv_X12_least : zyV mX12_least 1 := ⟨(zTB_7 (i := 234) (by decide +kernel) rfl), (zTB_0 (i := 64) (by decide +kernel) rfl), (zTB_1 (i := 15) (by decide +kernel) rfl), (zTB_7 (i := 235) (by decide +kernel) rfl), ⟨by decide, by decide, by decide⟩, by decide⟩
theorem Yv_X12_leftBy : zyV mX12_leftBy 3 := ⟨(zTB_7 (i := 238) (by decide +kernel) rfl), (zTB_0 (i := 65) (by decide +kernel) rfl), (zTB_1 (i := 15) (by decide +kernel) rfl), (zTB_7 (i := 239) (by decide +kernel) rfl), ⟨by decide, by decide, by decide⟩, by decide⟩
theorem Yv_X12_letterOf : zyV mX12_letterOf 2 := ⟨(zTB_7 (i := 198) (by decide +kernel) rfl), (zTB_0 (i := 59) (by decide +kernel) rfl), (zTB_1 (i := 15) (by decide +kernel) rfl), (zTB_7 (i := 199) (by decide +kernel) rfl), ⟨by decide, by decide, by decide⟩, by decide⟩
theorem Yv_X12_lost : zyV mX12_lost 0 := ⟨(zTB_7 (i := 117) (by decide +kernel) rfl), (zTB_0 (i := 49) (by decide +kernel) rfl), (zTB_1 (i := 15) (by decide +kernel) rfl), (zTB_7 (i := 118) (by decide +kernel) rfl), ⟨by decide, by decide, by decide⟩, by decide⟩
theorem Yv_X12_meanOf : zyV mX12_meanOf 2 := ⟨(zTB_8 (i := 119) (by decide +kernel) rfl), (zTB_0 (i := 78) (by decide +kernel) rfl), (zTB_1 (i := 15) (by decide +kernel) rfl), (zTB_8 (i := 120) (by decide +kernel) rfl), ⟨by decide, by decide, by decide⟩, by decide⟩
theorem Yv_X12_moneyFor : zyV mX12_moneyFor 3 := ⟨(zTB_8 (i := 115) (by decide +kernel) rfl), (zTB_0 (i := 77) (by decide +kernel) rfl), (zTB_1 (i := 15) (by decide +kernel) rfl), (zTB_8 (i := 116) (by decide +kernel) rfl), ⟨by decide, by decide, by decide⟩, by decide⟩
theorem Yv_X12_moneyOf : zyV mX12_moneyOf 1 := ⟨(zTB_8 (i := 84) (by decide +kernel) rfl), (zTB_0 (i := 75) (by decide +kernel) rfl), (zTB_1 (i := 15) (by decide +kernel) rfl), (zTB_8 (i := 85) (by decide +kernel) rfl), ⟨by decide, by decide, by decide⟩, by decide⟩
theorem Yv_X12_need : zyV mX12_need 1 := ⟨(zTB_7 (i := 52) (by decide +kernel) rfl), (zTB_0 (i := 38) (by decide +kernel) rfl), (zTB_1 (i := 15) (by decide +kernel) rfl), (zTB_7 (i := 53) (by decide +kernel) rfl), ⟨by decide, by decide, by decide⟩, by decide⟩
theorem Yv_X12_number : zyV mX12_number 1 := ⟨(zTB_7 (i := 76) (by decide +kernel) rfl), (zTB_0 (i := 41) (by decide +kernel) rfl), (zTB_1 (i := 15) (by decide +kernel) rfl), (zTB_7 (i := 77) (by decide +kernel) rfl), ⟨by decide, by decide, by decide⟩, by decide⟩
theorem Yv_X12_oddsOf : zyV mX12_oddsOf 4 := ⟨(zTB_7 (i := 157) (by decide +kernel) rfl), (zTB_0 (i := 52) (by decide +kernel) rfl), (zTB_1 (i := 15) (by decide +kernel) rfl), (zTB_7 (i := 158) (by decide +kernel) rfl), ⟨by decide, by decide, by decide⟩, by decide⟩
theorem Yv_X12_oddsOf_ : zyV mX12_oddsOf_ 3 := ⟨(zTB_7 (i := 153) (by decide +kernel) rfl), (zTB_0 (i := 51) (by decide +kernel) rfl), (zTB_1 (i := 15) (by decide +kernel) rfl), (zTB_7 (i := 154) (by decide +kernel) rfl), ⟨by decide, by decide, by decide⟩, by decide⟩
theorem Yv_X12_offBy : zyV mX12_offBy 1 := ⟨(zTB_8 (i := 200) (by decide +kernel) rfl), (zTB_0 (i := 86) (by decide +kernel) rfl), (zTB_1 (i := 15) (by decide +kernel) rfl), (zTB_8 (i := 201) (by decide +kernel) rfl), ⟨by decide, by decide, by decide⟩, by decide⟩
theorem Yv_X12_passes : zyV mX12_passes 1 := ⟨(zTB_7 (i := 56) (by decide +kernel) rfl), (zTB_0 (i := 39) (by decide +kernel) rfl), (zTB_1 (i := 15) (by decide +kernel) rfl), (zTB_7 (i := 57) (by decide +kernel) rfl), ⟨by decide, by decide, by decide⟩, by decide⟩
theorem Ys_X12_placeFor : zyS mX12_placeFor 3 := ⟨(zTB_8 (i := 99) (by decide +kernel) rfl), (zTB_1 (i := 15) (by decide +kernel) rfl), (zTB_8 (i := 100) (by decide +kernel) rfl), ⟨by decide, by decide, by decide⟩, by decide⟩
theorem Ys_X12_placeOf : zyS mX12_placeOf 2 := ⟨(zTB_8 (i := 77) (by decide +kernel) rfl), (zTB_1 (i := 15) (by decide +kernel) rfl), (zTB_8 (i := 78) (by decide +kernel) rfl), ⟨by decide, by decide, by decide⟩, by decide⟩
theorem Yv_X12_placeThought : zyV mX12_placeThought 1 := ⟨(zTB_8 (i := 147) (by decide +kernel) rfl), (zTB_0 (i := 82) (by decide +kernel) rfl), (zTB_1 (i := 15) (by decide +kernel) rfl), (zTB_8 (i := 148) (by decide +kernel) rfl), ⟨by decide, by decide, by decide⟩, by decide⟩
theorem Ys_X12_power : zyS mX12_power 2 := ⟨(zTB_8 (i := 156) (by decide +kernel) rfl), (zTB_1 (i := 15) (by decide +kernel) rfl), (zTB_8 (i := 157) (by decide +kernel) rfl), ⟨by decide, by decide, by decide⟩, by decide⟩
theorem Yv_X12_product : zyV mX12_product 1 := ⟨(zTB_7 (i := 92) (by decide +kernel) rfl), (zTB_0 (i := 44) (by decide +kernel) rfl), (zTB_1 (i := 15) (by decide +kernel) rfl), (zTB_7 (i := 93) (by decide +kernel) rfl), ⟨by decide, by decide, by decide⟩, by decide⟩
theorem Yv_X12_readAct : zyV mX12_readAct 1 := ⟨(zTB_8 (i := 62) (by decide +kernel) rfl), (zTB_0 (i := 73) (by decide +kernel) rfl), (zTB_1 (i := 15) (by decide +kernel) rfl), (zTB_8 (i := 63) (by decide +kernel) rfl), ⟨by decide, by decide, by decide⟩, by decide⟩
theorem Yv_X12_readComing : zyV mX12_readComing 2 := ⟨(zTB_8 (i := 139) (by decide +kernel) rfl), (zTB_0 (i := 80) (by decide +kernel) rfl), (zTB_1 (i := 15) (by decide +kernel) rfl), (zTB_8 (i := 140) (by decide +kernel) rfl), ⟨by decide, by decide, by decide⟩, by decide⟩
theorem Yv_X12_readFence : zyV mX12_readFence 1 := ⟨(zTB_7 (i := 37) (by decide +kernel) rfl), (zTB_0 (i := 35) (by decide +kernel) rfl), (zTB_1 (i := 15) (by decide +kernel) rfl), (zTB_7 (i := 38) (by decide +kernel) rfl), ⟨by decide, by decide, by decide⟩, by decide⟩
theorem Yv_X12_readHorse : zyV mX12_readHorse 1 := ⟨(zTB_7 (i := 64) (by decide +kernel) rfl), (zTB_0 (i := 40) (by decide +kernel) rfl), (zTB_1 (i := 15) (by decide +kernel) rfl), (zTB_7 (i := 65) (by decide +kernel) rfl), ⟨by decide, by decide, by decide⟩, by decide⟩
theorem Yv_X12_refusalOf : zyV mX12_refusalOf 2 := ⟨(zTB_7 (i := 161) (by decide +kernel) rfl), (zTB_0 (i := 53) (by decide +kernel) rfl), (zTB_1 (i := 15) (by decide +kernel) rfl), (zTB_7 (i := 162) (by decide +kernel) rfl), ⟨by decide, by decide, by decide⟩, by decide⟩
theorem Yv_X12_refusesRide : zyV mX12_refusesRide 3 := ⟨(zTB_8 (i := 15) (by decide +kernel) rfl), (zTB_0 (i := 66) (by decide +kernel) rfl), (zTB_1 (i := 15) (by decide +kernel) rfl), (zTB_8 (i := 16) (by decide +kernel) rfl), ⟨by decide, by decide, by decide⟩, by decide⟩
theorem Yv_X12_refusesTold : zyV mX12_refusesTold 4 := ⟨(zTB_8 (i := 54) (by decide +kernel) rfl), (zTB_0 (i := 72) (by decide +kernel) rfl), (zTB_1 (i := 15) (by decide +kernel) rfl), (zTB_8 (i := 55) (by decide +kernel) rfl), ⟨by decide, by decide, by decide⟩, by decide⟩
theorem Yv_X12_remember : zyV mX12_remember 1 := ⟨(zTB_8 (i := 19) (by decide +kernel) rfl), (zTB_0 (i := 67) (by decide +kernel) rfl), (zTB_1 (i := 15) (by decide +kernel) rfl), (zTB_8 (i := 20) (by decide +kernel) rfl), ⟨by decide, by decide, by decide⟩, by decide⟩
theorem Yv_X12_ridden : zyV mX12_ridden 2 := ⟨(zTB_8 (i := 208) (by decide +kernel) rfl), (zTB_0 (i := 87) (by decide +kernel) rfl), (zTB_1 (i := 15) (by decide +kernel) rfl), (zTB_8 (i := 209) (by decide +kernel) rfl), ⟨by decide, by decide, by decide⟩, by decide⟩
theorem Yv_X12_sum : zyV mX12_sum 1 := ⟨(zTB_7 (i := 88) (by decide +kernel) rfl), (zTB_0 (i := 43) (by decide +kernel) rfl), (zTB_1 (i := 15) (by decide +kernel) rfl), (zTB_7 (i := 89) (by decide +kernel) rfl), ⟨by decide, by decide, by decide⟩, by decide⟩
theorem Yv_X12_tell : zyV mX12_tell 1 := ⟨(zTB_7 (i := 165) (by decide +kernel) rfl), (zTB_0 (i := 54) (by decide +kernel) rfl), (zTB_1 (i := 15) (by decide +kernel) rfl), (zTB_7 (i := 166) (by decide +kernel) rfl), ⟨by decide, by decide, by decide⟩, by decide⟩
theorem Yv_X12_tellPart : zyV mX12_tellPart 2 := ⟨(zTB_8 (i := 160) (by decide +kernel) rfl), (zTB_0 (i := 84) (by decide +kernel) rfl), (zTB_1 (i := 15) (by decide +kernel) rfl), (zTB_8 (i := 161) (by decide +kernel) rfl), ⟨by decide, by decide, by decide⟩, by decide⟩
theorem Yv_X12_tellPlaces : zyV mX12_tellPlaces 1 := ⟨(zTB_8 (i := 92) (by decide +kernel) rfl), (zTB_0 (i := 76) (by decide +kernel) rfl), (zTB_1 (i := 15) (by decide +kernel) rfl), (zTB_8 (i := 93) (by decide +kernel) rfl), ⟨by decide, by decide, by decide⟩, by decide⟩
theorem Yv_X12_tellRound : zyV mX12_tellRound 0 := ⟨(zTB_8 (i := 42) (by decide +kernel) rfl), (zTB_0 (i := 71) (by decide +kernel) rfl), (zTB_1 (i := 15) (by decide +kernel) rfl), (zTB_8 (i := 43) (by decide +kernel) rfl), ⟨by decide, by decide, by decide⟩, by decide⟩
theorem Yv_X12_tenthsOf : zyV mX12_tenthsOf 2 := ⟨(zTB_7 (i := 169) (by decide +kernel) rfl), (zTB_0 (i := 55) (by decide +kernel) rfl), (zTB_1 (i := 15) (by decide +kernel) rfl), (zTB_7 (i := 170) (by decide +kernel) rfl), ⟨by decide, by decide, by decide⟩, by decide⟩
theorem Yv_X12_tenthsOfPlan : zyV mX12_tenthsOfPlan 1 := ⟨(zTB_7 (i := 194) (by decide +kernel) rfl), (zTB_0 (i := 58) (by decide +kernel) rfl), (zTB_1 (i := 15) (by decide +kernel) rfl), (zTB_7 (i := 195) (by decide +kernel) rfl), ⟨by decide, by decide, by decide⟩, by decide⟩
theorem Yv_X12_thing : zyV mX12_thing 1 := ⟨(zTB_7 (i := 96) (by decide +kernel) rfl), (zTB_0 (i := 45) (by decide +kernel) rfl), (zTB_1 (i := 15) (by decide +kernel) rfl), (zTB_7 (i := 97) (by decide +kernel) rfl), ⟨by decide, by decide, by decide⟩, by decide⟩
theorem Yv_X12_throughBy : zyV mX12_throughBy 4 := ⟨(zTB_8 (i := 182) (by decide +kernel) rfl), (zTB_0 (i := 85) (by decide +kernel) rfl), (zTB_1 (i := 15) (by decide +kernel) rfl), (zTB_8 (i := 183) (by decide +kernel) rfl), ⟨by decide, by decide, by decide⟩, by decide⟩
theorem Yv_X12_timeFaults : zyV mX12_timeFaults 3 := ⟨(zTB_8 (i := 35) (by decide +kernel) rfl), (zTB_0 (i := 70) (by decide +kernel) rfl), (zTB_1 (i := 15) (by decide +kernel) rfl), (zTB_8 (i := 36) (by decide +kernel) rfl), ⟨by decide, by decide, by decide⟩, by decide⟩
theorem Yv_X12_valueOf : zyV mX12_valueOf 1 := ⟨(zTB_7 (i := 100) (by decide +kernel) rfl), (zTB_0 (i := 46) (by decide +kernel) rfl), (zTB_1 (i := 15) (by decide +kernel) rfl), (zTB_7 (i := 101) (by decide +kernel) rfl), ⟨by decide, by decide, by decide⟩, by decide⟩
theorem Yv_X1_clearOf : zyV mX1_clearOf 2 := ⟨(zTB_4 (i := 23) (by decide +kernel) rfl), (zTB_4 (i := 24) (by decide +kernel) rfl), (zTB_1 (i := 4) (by decide +kernel) rfl), (zTB_4 (i := 25) (by decide +kernel) rfl), ⟨by decide, by decide, by decide⟩, by decide⟩
theorem Yv_X1_countAtHeights : zyV mX1_countAtHeights 4 := ⟨(zTB_5 (i := 146) (by decide +kernel) rfl), (zTB_0 (i := 28) (by decide +kernel) rfl), (zTB_1 (i := 4) (by decide +kernel) rfl), (zTB_5 (i := 147) (by decide +kernel) rfl), ⟨by decide, by decide, by decide⟩, by decide⟩
theorem Yv_X1_countThrough : zyV mX1_countThrough 2 := ⟨(zTB_5 (i := 140) (by decide +kernel) rfl), (zTB_5 (i := 141) (by decide +kernel) rfl), (zTB_1 (i := 4) (by decide +kernel) rfl), (zTB_5 (i := 142) (by decide +kernel) rfl), ⟨by decide, by decide, by decide⟩, by decide⟩
theorem Yv_X1_fenceTenths : zyV mX1_fenceTenths 2 := ⟨(zTB_3 (i := 211) (by decide +kernel) rfl), (zTB_3 (i := 212) (by decide +kernel) rfl), (zTB_1 (i := 4) (by decide +kernel) rfl), (zTB_3 (i := 213) (by decide +kernel) rfl), ⟨by decide, by decide, by decide⟩, by decide⟩
theorem Yv_X1_hasFence : zyV mX1_hasFence 1 := ⟨(zTB_3 (i := 157) (by decide +kernel) rfl), (zTB_3 (i := 158) (by decide +kernel) rfl), (zTB_1 (i := 4) (by decide +kernel) rfl), (zTB_3 (i := 159) (by decide +kernel) rfl), ⟨by decide, by decide, by decide⟩, by decide⟩
theorem Yv_X1_hasHorse : zyV mX1_hasHorse 1 := ⟨(zTB_3 (i := 182) (by decide +kernel) rfl), (zTB_3 (i := 183) (by decide +kernel) rfl), (zTB_1 (i := 4) (by decide +kernel) rfl), (zTB_3 (i := 184) (by decide +kernel) rfl), ⟨by decide, by decide, by decide⟩, by decide⟩
theorem Yv_X1_hasPlan : zyV mX1_hasPlan 1 := ⟨(zTB_4 (i := 9) (by decide +kernel) rfl), (zTB_4 (i := 10) (by decide +kernel) rfl), (zTB_1 (i := 4) (by decide +kernel) rfl), (zTB_4 (i := 11) (by decide +kernel) rfl), ⟨by decide, by decide, by decide⟩, by decide⟩
theorem Ys_X1_isCut : zyS mX1_isCut 1 := ⟨(zTB_3 (i := 215) (by decide +kernel) rfl), (zTB_1 (i := 4) (by decide +kernel) rfl), (zTB_3 (i := 216) (by decide +kernel) rfl), ⟨by decide, by decide, by decide⟩, by decide⟩
theorem Ys_X1_lean : zyS mX1_lean 2 := ⟨(zTB_3 (i := 202) (by decide +kernel) rfl), (zTB_1 (i := 4) (by decide +kernel) rfl), (zTB_3 (i := 203) (by decide +kernel) rfl), ⟨by decide, by decide, by decide⟩, by decide⟩
theorem Yv_X1_leanAt : zyV mX1_leanAt 2 := ⟨(zTB_3 (i := 194) (by decide +kernel) rfl), (zTB_3 (i := 195) (by decide +kernel) rfl), (zTB_1 (i := 4) (by decide +kernel) rfl), (zTB_3 (i := 196) (by decide +kernel) rfl), ⟨by decide, by decide, by decide⟩, by decide⟩
theorem Yv_X1_letterAt : zyV mX1_letterAt 2 := ⟨(zTB_4 (i := 13) (by decide +kernel) rfl), (zTB_4 (i := 14) (by decide +kernel) rfl), (zTB_1 (i := 4) (by decide +kernel) rfl), (zTB_4 (i := 15) (by decide +kernel) rfl), ⟨by decide, by decide, by decide⟩, by decide⟩
theorem Yv_X1_ofHorse : zyV mX1_ofHorse 2 := ⟨(zTB_3 (i := 198) (by decide +kernel) rfl), (zTB_3 (i := 199) (by decide +kernel) rfl), (zTB_1 (i := 4) (by decide +kernel) rfl), (zTB_3 (i := 200) (by decide +kernel) rfl), ⟨by decide, by decide, by decide⟩, by decide⟩
theorem Ys_X1_passing : zyS mX1_passing 3 := ⟨(zTB_4 (i := 29) (by decide +kernel) rfl), (zTB_1 (i := 4) (by decide +kernel) rfl), (zTB_4 (i := 30) (by decide +kernel) rfl), ⟨by decide, by decide, by decide⟩, by decide⟩
theorem Yv_X1_planTenths : zyV mX1_planTenths 1 := ⟨(zTB_4 (i := 17) (by decide +kernel) rfl), (zTB_4 (i := 18) (by decide +kernel) rfl), (zTB_1 (i := 4) (by decide +kernel) rfl), (zTB_4 (i := 19) (by decide +kernel) rfl), ⟨by decide, by decide, by decide⟩, by decide⟩
theorem Yv_X1_poleOdds : zyV mX1_poleOdds 3 := ⟨(zTB_3 (i := 219) (by decide +kernel) rfl), (zTB_3 (i := 220) (by decide +kernel) rfl), (zTB_1 (i := 4) (by decide +kernel) rfl), (zTB_3 (i := 221) (by decide +kernel) rfl), ⟨by decide, by decide, by decide⟩, by decide⟩
theorem Yv_X1_readFence : zyV mX1_readFence 2 := ⟨(zTB_2 (i := 194) (by decide +kernel) rfl), (zTB_0 (i := 0) (by decide +kernel) rfl), (zTB_1 (i := 4) (by decide +kernel) rfl), (zTB_2 (i := 195) (by decide +kernel) rfl), ⟨by decide, by decide, by decide⟩, by decide⟩
theorem Yv_X1_readHorse : zyV mX1_readHorse 2 := ⟨(zTB_3 (i := 82) (by decide +kernel) rfl), (zTB_0 (i := 2) (by decide +kernel) rfl), (zTB_1 (i := 4) (by decide +kernel) rfl), (zTB_3 (i := 83) (by decide +kernel) rfl), ⟨by decide, by decide, by decide⟩, by decide⟩
theorem Yv_X1_readHorses : zyV mX1_readHorses 1 := ⟨(zTB_3 (i := 77) (by decide +kernel) rfl), (zTB_3 (i := 78) (by decide +kernel) rfl), (zTB_1 (i := 4) (by decide +kernel) rfl), (zTB_3 (i := 79) (by decide +kernel) rfl), ⟨by decide, by decide, by decide⟩, by decide⟩
theorem Yv_X1_readPlan : zyV mX1_readPlan 1 := ⟨(zTB_3 (i := 89) (by decide +kernel) rfl), (zTB_3 (i := 90) (by decide +kernel) rfl), (zTB_1 (i := 4) (by decide +kernel) rfl), (zTB_3 (i := 91) (by decide +kernel) rfl), ⟨by decide, by decide, by decide⟩, by decide⟩
theorem Yv_X1_readRing : zyV mX1_readRing 1 := ⟨(zTB_2 (i := 182) (by decide +kernel) rfl), (zTB_2 (i := 183) (by decide +kernel) rfl), (zTB_1 (i := 4) (by decide +kernel) rfl), (zTB_2 (i := 184) (by decide +kernel) rfl), ⟨by decide, by decide, by decide⟩, by decide⟩
theorem Yv_X1_refusalOdds : zyV mX1_refusalOdds 2 := ⟨(zTB_3 (i := 190) (by decide +kernel) rfl), (zTB_3 (i := 191) (by decide +kernel) rfl), (zTB_1 (i := 4) (by decide +kernel) rfl), (zTB_3 (i := 192) (by decide +kernel) rfl), ⟨by decide, by decide, by decide⟩, by decide⟩
theorem Yv_X1_takeDraft : zyV mX1_takeDraft 1 := ⟨(zTB_3 (i := 61) (by decide +kernel) rfl), (zTB_0 (i := 1) (by decide +kernel) rfl), (zTB_1 (i := 4) (by decide +kernel) rfl), (zTB_3 (i := 62) (by decide +kernel) rfl), ⟨by decide, by decide, by decide⟩, by decide⟩
theorem Yv_X2_draw : zyV mX2_draw 4 := ⟨(zTB_4 (i := 128) (by decide +kernel) rfl), (zTB_4 (i := 129) (by decide +kernel) rfl), (zTB_1 (i := 10) (by decide +kernel) rfl), (zTB_4 (i := 130) (by decide +kernel) rfl), ⟨by decide, by decide, by decide⟩, by decide⟩
theorem Yv_X2_next : zyV mX2_next 1 := ⟨(zTB_4 (i := 134) (by decide +kernel) rfl), (zTB_0 (i := 12) (by decide +kernel) rfl), (zTB_1 (i := 10) (by decide +kernel) rfl), (zTB_4 (i := 135) (by decide +kernel) rfl), ⟨by decide, by decide, by decide⟩, by decide⟩
theorem Yv_X3_begin : zyV mX3_begin 2 := ⟨(zTB_5 (i := 62) (by decide +kernel) rfl), (zTB_5 (i := 63) (by decide +kernel) rfl), (zTB_1 (i := 12) (by decide +kernel) rfl), (zTB_5 (i := 64) (by decide +kernel) rfl), ⟨by decide, by decide, by decide⟩, by decide⟩
theorem Yv_X3_isAhead : zyV mX3_isAhead 2 := ⟨(zTB_5 (i := 83) (by decide +kernel) rfl), (zTB_0 (i := 25) (by decide +kernel) rfl), (zTB_1 (i := 12) (by decide +kernel) rfl), (zTB_5 (i := 84) (by decide +kernel) rfl), ⟨by decide, by decide, by decide⟩, by decide⟩
theorem Yv_X3_pay : zyV mX3_pay 1 := ⟨(zTB_5 (i := 79) (by decide +kernel) rfl), (zTB_0 (i := 24) (by decide +kernel) rfl), (zTB_1 (i := 12) (by decide +kernel) rfl), (zTB_5 (i := 80) (by decide +kernel) rfl), ⟨by decide, by decide, by decide⟩, by decide⟩
theorem Yv_X3_readPlayers : zyV mX3_readPlayers 4 := ⟨(zTB_5 (i := 54) (by decide +kernel) rfl), (zTB_5 (i := 55) (by decide +kernel) rfl), (zTB_1 (i := 12) (by decide +kernel) rfl), (zTB_5 (i := 56) (by decide +kernel) rfl), ⟨by decide, by decide, by decide⟩, by decide⟩
theorem Yv_X3_scale : zyV mX3_scale 0 := ⟨(zTB_5 (i := 97) (by decide +kernel) rfl), (zTB_5 (i := 98) (by decide +kernel) rfl), (zTB_1 (i := 12) (by decide +kernel) rfl), (zTB_5 (i := 99) (by decide +kernel) rfl), ⟨by decide, by decide, by decide⟩, by decide⟩
theorem Yv_X3_settle : zyV mX3_settle 2 := ⟨(zTB_5 (i := 75) (by decide +kernel) rfl), (zTB_0 (i := 23) (by decide +kernel) rfl), (zTB_1 (i := 12) (by decide +kernel) rfl), (zTB_5 (i := 76) (by decide +kernel) rfl), ⟨by decide, by decide, by decide⟩, by decide⟩
theorem Yv_X3_start : zyV mX3_start 3 := ⟨(zTB_5 (i := 69) (by decide +kernel) rfl), (zTB_5 (i := 70) (by decide +kernel) rfl), (zTB_1 (i := 12) (by decide +kernel) rfl), (zTB_5 (i := 71) (by decide +kernel) rfl), ⟨by decide, by decide, by decide⟩, by decide⟩
theorem Yv_X3_weigh : zyV mX3_weigh 3 := ⟨(zTB_5 (i := 88) (by decide +kernel) rfl), (zTB_0 (i := 26) (by decide +kernel) rfl), (zTB_1 (i := 12) (by decide +kernel) rfl), (zTB_5 (i := 89) (by decide +kernel) rfl), ⟨by decide, by decide, by decide⟩, by decide⟩
theorem Yv_X3_won : zyV mX3_won 1 := ⟨(zTB_5 (i := 93) (by decide +kernel) rfl), (zTB_5 (i := 94) (by decide +kernel) rfl), (zTB_1 (i := 12) (by decide +kernel) rfl), (zTB_5 (i := 95) (by decide +kernel) rfl), ⟨by decide, by decide, by decide⟩, by decide⟩
theorem Yv_X4_calmestTenths : zyV mX4_calmestTenths 1 := ⟨(zTB_4 (i := 73) (by decide +kernel) rfl), (zTB_4 (i := 74) (by decide +kernel) rfl), (zTB_1 (i := 11) (by decide +kernel) rfl), (zTB_4 (i := 75) (by decide +kernel) rfl), ⟨by decide, by decide, by decide⟩, by decide⟩
theorem Yv_X4_fearWith : zyV mX4_fearWith 1 := ⟨(zTB_4 (i := 78) (by decide +kernel) rfl), (zTB_4 (i := 79) (by decide +kernel) rfl), (zTB_1 (i := 11) (by decide +kernel) rfl), (zTB_4 (i := 80) (by decide +kernel) rfl), ⟨by decide, by decide, by decide⟩, by decide⟩
theorem Yv_X4_fewestTenths : zyV mX4_fewestTenths 1 := ⟨(zTB_4 (i := 96) (by decide +kernel) rfl), (zTB_4 (i := 97) (by decide +kernel) rfl), (zTB_1 (i := 11) (by decide +kernel) rfl), (zTB_4 (i := 98) (by decide +kernel) rfl), ⟨by decide, by decide, by decide⟩, by decide⟩
theorem Yv_X4_firstLetter : zyV mX4_firstLetter 3 := ⟨(zTB_4 (i := 87) (by decide +kernel) rfl), (zTB_0 (i := 10) (by decide +kernel) rfl), (zTB_1 (i := 11) (by decide +kernel) rfl), (zTB_4 (i := 88) (by decide +kernel) rfl), ⟨by decide, by decide, by decide⟩, by decide⟩
theorem Ys_X4_from : zyS mX4_from 1 := ⟨(zTB_4 (i := 65) (by decide +kernel) rfl), (zTB_1 (i := 11) (by decide +kernel) rfl), (zTB_4 (i := 66) (by decide +kernel) rfl), ⟨by decide, by decide, by decide⟩, by decide⟩
theorem Yv_X4_lay : zyV mX4_lay 2 := ⟨(zTB_4 (i := 58) (by decide +kernel) rfl), (zTB_4 (i := 59) (by decide +kernel) rfl), (zTB_1 (i := 11) (by decide +kernel) rfl), (zTB_4 (i := 60) (by decide +kernel) rfl), ⟨by decide, by decide, by decide⟩, by decide⟩
theorem Yv_X4_layBehind : zyV mX4_layBehind 1 := ⟨(zTB_4 (i := 69) (by decide +kernel) rfl), (zTB_0 (i := 9) (by decide +kernel) rfl), (zTB_1 (i := 11) (by decide +kernel) rfl), (zTB_4 (i := 70) (by decide +kernel) rfl), ⟨by decide, by decide, by decide⟩, by decide⟩
theorem Yv_X4_tell : zyV mX4_tell 2 := ⟨(zTB_4 (i := 82) (by decide +kernel) rfl), (zTB_4 (i := 83) (by decide +kernel) rfl), (zTB_1 (i := 11) (by decide +kernel) rfl), (zTB_4 (i := 84) (by decide +kernel) rfl), ⟨by decide, by decide, by decide⟩, by decide⟩
theorem Ys_X5_countExplained : zyS mX5_countExplained 1 := ⟨(zTB_5 (i := 173) (by decide +kernel) rfl), (zTB_1 (i := 14) (by decide +kernel) rfl), (zTB_5 (i := 174) (by decide +kernel) rfl), ⟨by decide, by decide, by decide⟩, by decide⟩
theorem Yv_X5_explain : zyV mX5_explain 2 := ⟨(zTB_5 (i := 161) (by decide +kernel) rfl), (zTB_5 (i := 162) (by decide +kernel) rfl), (zTB_1 (i := 14) (by decide +kernel) rfl), (zTB_5 (i := 163) (by decide +kernel) rfl), ⟨by decide, by decide, by decide⟩, by decide⟩
theorem Yv_X5_fitHorse : zyV mX5_fitHorse 2 := ⟨(zTB_5 (i := 166) (by decide +kernel) rfl), (zTB_0 (i := 29) (by decide +kernel) rfl), (zTB_1 (i := 14) (by decide +kernel) rfl), (zTB_5 (i := 167) (by decide +kernel) rfl), ⟨by decide, by decide, by decide⟩, by decide⟩
theorem Ys_X6_common : zyS mX6_common 2 := ⟨(zTB_5 (i := 108) (by decide +kernel) rfl), (zTB_1 (i := 3) (by decide +kernel) rfl), (zTB_5 (i := 109) (by decide +kernel) rfl), ⟨by decide, by decide, by decide⟩, by decide⟩
theorem Yv_X6_put : zyV mX6_put 1 := ⟨(zTB_3 (i := 207) (by decide +kernel) rfl), (zTB_3 (i := 208) (by decide +kernel) rfl), (zTB_1 (i := 3) (by decide +kernel) rfl), (zTB_3 (i := 209) (by decide +kernel) rfl), ⟨by decide, by decide, by decide⟩, by decide⟩
theorem Yv_X6_putFraction : zyV mX6_putFraction 2 := ⟨(zTB_5 (i := 101) (by decide +kernel) rfl), (zTB_5 (i := 102) (by decide +kernel) rfl), (zTB_1 (i := 3) (by decide +kernel) rfl), (zTB_5 (i := 103) (by decide +kernel) rfl), ⟨by decide, by decide, by decide⟩, by decide⟩
theorem Yv_X6_start : zyV mX6_start 0 := ⟨(zTB_3 (i := 186) (by decide +kernel) rfl), (zTB_3 (i := 187) (by decide +kernel) rfl), (zTB_1 (i := 3) (by decide +kernel) rfl), (zTB_3 (i := 188) (by decide +kernel) rfl), ⟨by decide, by decide, by decide⟩, by decide⟩
theorem Yv_X7_emit : zyV mX7_emit 1 := ⟨(zTB_3 (i := 123) (by decide +kernel) rfl), (zTB_0 (i := 6) (by decide +kernel) rfl), (zTB_1 (i := 5) (by decide +kernel) rfl), (zTB_3 (i := 124) (by decide +kernel) rfl), ⟨by decide, by decide, by decide⟩, by decide⟩
theorem Ys_X7_join : zyS mX7_join 3 := ⟨(zTB_3 (i := 227) (by decide +kernel) rfl), (zTB_1 (i := 5) (by decide +kernel) rfl), (zTB_3 (i := 228) (by decide +kernel) rfl), ⟨by decide, by decide, by decide⟩, by decide⟩
theorem Yv_X7_odds : zyV mX7_odds 0 := ⟨(zTB_3 (i := 223) (by decide +kernel) rfl), (zTB_3 (i := 224) (by decide +kernel) rfl), (zTB_1 (i := 5) (by decide +kernel) rfl), (zTB_3 (i := 225) (by decide +kernel) rfl), ⟨by decide, by decide, by decide⟩, by decide⟩
theorem Yv_X7_readBareThing : zyV mX7_readBareThing 2 := ⟨(zTB_3 (i := 114) (by decide +kernel) rfl), (zTB_0 (i := 5) (by decide +kernel) rfl), (zTB_1 (i := 5) (by decide +kernel) rfl), (zTB_3 (i := 115) (by decide +kernel) rfl), ⟨by decide, by decide, by decide⟩, by decide⟩
theorem Yv_X7_readLevel : zyV mX7_readLevel 3 := ⟨(zTB_3 (i := 105) (by decide +kernel) rfl), (zTB_0 (i := 3) (by decide +kernel) rfl), (zTB_1 (i := 5) (by decide +kernel) rfl), (zTB_3 (i := 106) (by decide +kernel) rfl), ⟨by decide, by decide, by decide⟩, by decide⟩
theorem Yv_X7_readRule : zyV mX7_readRule 1 := ⟨(zTB_3 (i := 98) (by decide +kernel) rfl), (zTB_3 (i := 99) (by decide +kernel) rfl), (zTB_1 (i := 5) (by decide +kernel) rfl), (zTB_3 (i := 100) (by decide +kernel) rfl), ⟨by decide, by decide, by decide⟩, by decide⟩
theorem Yv_X7_readThing : zyV mX7_readThing 2 := ⟨(zTB_3 (i := 109) (by decide +kernel) rfl), (zTB_0 (i := 4) (by decide +kernel) rfl), (zTB_1 (i := 5) (by decide +kernel) rfl), (zTB_3 (i := 110) (by decide +kernel) rfl), ⟨by decide, by decide, by decide⟩, by decide⟩
theorem Ys_X7_signsOf : zyS mX7_signsOf 1 := ⟨(zTB_3 (i := 128) (by decide +kernel) rfl), (zTB_1 (i := 5) (by decide +kernel) rfl), (zTB_3 (i := 129) (by decide +kernel) rfl), ⟨by decide, by decide, by decide⟩, by decide⟩
theorem Yv_X7_usual : zyV mX7_usual 0 := ⟨(zTB_3 (i := 231) (by decide +kernel) rfl), (zTB_0 (i := 7) (by decide +kernel) rfl), (zTB_1 (i := 5) (by decide +kernel) rfl), (zTB_3 (i := 232) (by decide +kernel) rfl), ⟨by decide, by decide, by decide⟩, by decide⟩
theorem Yv_X8_back : zyV mX8_back 1 := ⟨(zTB_4 (i := 218) (by decide +kernel) rfl), (zTB_4 (i := 219) (by decide +kernel) rfl), (zTB_1 (i := 7) (by decide +kernel) rfl), (zTB_4 (i := 220) (by decide +kernel) rfl), ⟨by decide, by decide, by decide⟩, by decide⟩
theorem Yv_X8_commit : zyV mX8_commit 0 := ⟨(zTB_4 (i := 149) (by decide +kernel) rfl), (zTB_4 (i := 150) (by decide +kernel) rfl), (zTB_1 (i := 7) (by decide +kernel) rfl), (zTB_4 (i := 151) (by decide +kernel) rfl), ⟨by decide, by decide, by decide⟩, by decide⟩
theorem Yv_X8_forget : zyV mX8_forget 0 := ⟨(zTB_3 (i := 68) (by decide +kernel) rfl), (zTB_3 (i := 69) (by decide +kernel) rfl), (zTB_1 (i := 7) (by decide +kernel) rfl), (zTB_3 (i := 70) (by decide +kernel) rfl), ⟨by decide, by decide, by decide⟩, by decide⟩
theorem Yv_X8_load : zyV mX8_load 2 := ⟨(zTB_4 (i := 222) (by decide +kernel) rfl), (zTB_4 (i := 223) (by decide +kernel) rfl), (zTB_1 (i := 7) (by decide +kernel) rfl), (zTB_4 (i := 224) (by decide +kernel) rfl), ⟨by decide, by decide, by decide⟩, by decide⟩
theorem Yv_X8_mark : zyV mX8_mark 1 := ⟨(zTB_4 (i := 108) (by decide +kernel) rfl), (zTB_4 (i := 109) (by decide +kernel) rfl), (zTB_1 (i := 7) (by decide +kernel) rfl), (zTB_4 (i := 110) (by decide +kernel) rfl), ⟨by decide, by decide, by decide⟩, by decide⟩
theorem Yv_X8_store : zyV mX8_store 2 := ⟨(zTB_4 (i := 112) (by decide +kernel) rfl), (zTB_4 (i := 113) (by decide +kernel) rfl), (zTB_1 (i := 7) (by decide +kernel) rfl), (zTB_4 (i := 114) (by decide +kernel) rfl), ⟨by decide, by decide, by decide⟩, by decide⟩
theorem Yv_X9_add : zyV mX9_add 1 := ⟨(zTB_2 (i := 166) (by decide +kernel) rfl), (zTB_2 (i := 167) (by decide +kernel) rfl), (zTB_1 (i := 2) (by decide +kernel) rfl), (zTB_2 (i := 168) (by decide +kernel) rfl), ⟨by decide, by decide, by decide⟩, by decide⟩
theorem Yv_X9_clear : zyV mX9_clear 0 := ⟨(zTB_3 (i := 64) (by decide +kernel) rfl), (zTB_3 (i := 65) (by decide +kernel) rfl), (zTB_1 (i := 2) (by decide +kernel) rfl), (zTB_3 (i := 66) (by decide +kernel) rfl), ⟨by decide, by decide, by decide⟩, by decide⟩
theorem Yv_X9_cut : zyV mX9_cut 1 := ⟨(zTB_2 (i := 174) (by decide +kernel) rfl), (zTB_2 (i := 175) (by decide +kernel) rfl), (zTB_1 (i := 2) (by decide +kernel) rfl), (zTB_2 (i := 176) (by decide +kernel) rfl), ⟨by decide, by decide, by decide⟩, by decide⟩
theorem Yv_X9_digit : zyV mX9_digit 2 := ⟨(zTB_3 (i := 44) (by decide +kernel) rfl), (zTB_3 (i := 45) (by decide +kernel) rfl), (zTB_1 (i := 2) (by decide +kernel) rfl), (zTB_3 (i := 46) (by decide +kernel) rfl), ⟨by decide, by decide, by decide⟩, by decide⟩
theorem Yv_X9_fault : zyV mX9_fault 0 := ⟨(zTB_3 (i := 52) (by decide +kernel) rfl), (zTB_3 (i := 53) (by decide +kernel) rfl), (zTB_1 (i := 2) (by decide +kernel) rfl), (zTB_3 (i := 54) (by decide +kernel) rfl), ⟨by decide, by decide, by decide⟩, by decide⟩
theorem Yv_X9_isDone : zyV mX9_isDone 0 := ⟨(zTB_3 (i := 56) (by decide +kernel) rfl), (zTB_3 (i := 57) (by decide +kernel) rfl), (zTB_1 (i := 2) (by decide +kernel) rfl), (zTB_3 (i := 58) (by decide +kernel) rfl), ⟨by decide, by decide, by decide⟩, by decide⟩
theorem Yv_X9_number : zyV mX9_number 1 := ⟨(zTB_3 (i := 117) (by decide +kernel) rfl), (zTB_3 (i := 118) (by decide +kernel) rfl), (zTB_1 (i := 2) (by decide +kernel) rfl), (zTB_3 (i := 119) (by decide +kernel) rfl), ⟨by decide, by decide, by decide⟩, by decide⟩
theorem Yv_X9_oneOf : zyV mX9_oneOf 1 := ⟨(zTB_2 (i := 198) (by decide +kernel) rfl), (zTB_2 (i := 199) (by decide +kernel) rfl), (zTB_1 (i := 2) (by decide +kernel) rfl), (zTB_2 (i := 200) (by decide +kernel) rfl), ⟨by decide, by decide, by decide⟩, by decide⟩
theorem Yv_X9_open : zyV mX9_open 1 := ⟨(zTB_2 (i := 186) (by decide +kernel) rfl), (zTB_2 (i := 187) (by decide +kernel) rfl), (zTB_1 (i := 2) (by decide +kernel) rfl), (zTB_2 (i := 188) (by decide +kernel) rfl), ⟨by decide, by decide, by decide⟩, by decide⟩
theorem Yv_X9_take : zyV mX9_take 1 := ⟨(zTB_3 (i := 48) (by decide +kernel) rfl), (zTB_3 (i := 49) (by decide +kernel) rfl), (zTB_1 (i := 2) (by decide +kernel) rfl), (zTB_3 (i := 50) (by decide +kernel) rfl), ⟨by decide, by decide, by decide⟩, by decide⟩
theorem ML_X0_11 : zml RX0 11 yX9_open := Or.inl (zTB_4 (i := 179) (by decide +kernel) rfl)
theorem ML_X0_17 : zml RX0 17 yX9_isDone := Or.inl (zTB_4 (i := 180) (by decide +kernel) rfl)
theorem ML_X0_21 : zml RX0 21 yX0_read := Or.inl (zTB_4 (i := 181) (by decide +kernel) rfl)
theorem ML_X0_25 : zml RX0 25 yX9_fault := Or.inl (zTB_4 (i := 200) (by decide +kernel) rfl)
theorem ML_X0_29 : zml RX0 29 yX9_take := Or.inl (zTB_4 (i := 185) (by decide +kernel) rfl)
theorem ML_X0_37 : zml RX0 37 yX0_readPair := Or.inl (zTB_4 (i := 186) (by decide +kernel) rfl)
theorem ML_X0_40 : zml RX0 40 yX0_readRide := Or.inl (zTB_4 (i := 191) (by decide +kernel) rfl)
theorem ML_X0_43 : zml RX0 43 yX0_readTold := Or.inl (zTB_4 (i := 195) (by decide +kernel) rfl)
theorem ML_X0_46 : zml RX0 46 yX9_digit := Or.inl (zTB_4 (i := 190) (by decide +kernel) rfl)
theorem ML_X0_63 : zml RX0 63 yX9_number := Or.inl (zTB_4 (i := 199) (by decide +kernel) rfl)
theorem ML_X1_59 : zml RX1 59 yX9_open := Or.inl (zTB_2 (i := 185) (by decide +kernel) rfl)
theorem ML_X1_65 : zml RX1 65 yX1_readFence := Or.inl (zTB_2 (i := 192) (by decide +kernel) rfl)
theorem ML_X1_69 : zml RX1 69 yX9_fault := Or.inl (zTB_3 (i := 51) (by decide +kernel) rfl)
theorem ML_X1_73 : zml RX1 73 yX9_isDone := Or.inl (zTB_3 (i := 55) (by decide +kernel) rfl)
theorem ML_X1_77 : zml RX1 77 yX1_takeDraft := Or.inl (zTB_3 (i := 59) (by decide +kernel) rfl)
theorem ML_X1_80 : zml RX1 80 yX9_take := Or.inl (zTB_3 (i := 47) (by decide +kernel) rfl)
theorem ML_X1_86 : zml RX1 86 yX9_oneOf := Or.inl (zTB_2 (i := 197) (by decide +kernel) rfl)
theorem ML_X1_90 : zml RX1 90 yX9_digit := Or.inl (zTB_3 (i := 43) (by decide +kernel) rfl)
theorem ML_X1_94 : zml RX1 94 yX1_readHorse := Or.inl (zTB_3 (i := 80) (by decide +kernel) rfl)
theorem ML_X1_104 : zml RX1 104 yX1_ofHorse := Or.inl (zTB_3 (i := 197) (by decide +kernel) rfl)
theorem ML_X1_107 : zml RX1 107 yX1_lean := Or.inl (zTB_3 (i := 201) (by decide +kernel) rfl)
theorem ML_X1_110 : zml RX1 110 yX1_isCut := Or.inl (zTB_3 (i := 214) (by decide +kernel) rfl)
theorem ML_X1_117 : zml RX1 117 yX1_letterAt := Or.inl (zTB_4 (i := 20) (by decide +kernel) rfl)
theorem ML_X1_120 : zml RX1 120 yX1_fenceTenths := Or.inl (zTB_4 (i := 21) (by decide +kernel) rfl)
theorem ML_X1_123 : zml RX1 123 yX1_leanAt := Or.inl (zTB_3 (i := 193) (by decide +kernel) rfl)
theorem ML_X1_129 : zml RX1 129 yX7_odds := Or.inl (zTB_3 (i := 222) (by decide +kernel) rfl)
theorem ML_X1_132 : zml RX1 132 yX1_poleOdds := Or.inl (zTB_4 (i := 26) (by decide +kernel) rfl)
theorem ML_X1_136 : zml RX1 136 yX1_refusalOdds := Or.inl (zTB_4 (i := 27) (by decide +kernel) rfl)
theorem ML_X1_139 : zml RX1 139 yX1_passing := Or.inl (zTB_4 (i := 28) (by decide +kernel) rfl)
theorem ML_X1_142 : zml RX1 142 yJ7_fill_53178 := Or.inl (zTB_5 (i := 143) (by decide +kernel) rfl)
theorem ML_X1_148 : zml RX1 148 yX1_countAtHeights := Or.inl (zTB_5 (i := 144) (by decide +kernel) rfl)
theorem ML_X10_30 : zml RX10 30 yX9_open := Or.inl (zTB_3 (i := 145) (by decide +kernel) rfl)
theorem ML_X10_36 : zml RX10 36 yJ7_fill_53178 := Or.inl (zTB_3 (i := 146) (by decide +kernel) rfl)
theorem ML_X10_42 : zml RX10 42 yX9_number := Or.inl (zTB_3 (i := 147) (by decide +kernel) rfl)
theorem ML_X10_46 : zml RX10 46 yX9_fault := Or.inl (zTB_3 (i := 148) (by decide +kernel) rfl)
theorem ML_X10_50 : zml RX10 50 yX9_isDone := Or.inl (zTB_3 (i := 149) (by decide +kernel) rfl)
theorem ML_X10_60 : zml RX10 60 yX9_take := Or.inl (zTB_3 (i := 151) (by decide +kernel) rfl)
theorem ML_X10_68 : zml RX10 68 yX10_isFull := Or.inl (zTB_4 (i := 147) (by decide +kernel) rfl)
theorem ML_X10_71 : zml RX10 71 yX6_start := Or.inl (zTB_4 (i := 233) (by decide +kernel) rfl)
theorem ML_X10_76 : zml RX10 76 yX10_placeOf := Or.inl (zTB_4 (i := 234) (by decide +kernel) rfl)
theorem ML_X10_80 : zml RX10 80 yX6_put := Or.inl (zTB_4 (i := 238) (by decide +kernel) rfl)
theorem ML_X11_92 : zml RX11 92 yX9_add := Or.inl (zTB_2 (i := 165) (by decide +kernel) rfl)
theorem ML_X11_96 : zml RX11 96 yX9_cut := Or.inl (zTB_2 (i := 173) (by decide +kernel) rfl)
theorem ML_X11_100 : zml RX11 100 yX1_readRing := Or.inl (zTB_2 (i := 181) (by decide +kernel) rfl)
theorem ML_X11_104 : zml RX11 104 yX9_clear := Or.inl (zTB_3 (i := 63) (by decide +kernel) rfl)
theorem ML_X11_111 : zml RX11 111 yX8_forget := Or.inl (zTB_3 (i := 67) (by decide +kernel) rfl)
theorem ML_X11_114 : zml RX11 114 yX1_readHorses := Or.inl (zTB_3 (i := 76) (by decide +kernel) rfl)
theorem ML_X11_117 : zml RX11 117 yX1_readPlan := Or.inl (zTB_3 (i := 88) (by decide +kernel) rfl)
theorem ML_X11_124 : zml RX11 124 yX7_readRule := Or.inl (zTB_3 (i := 97) (by decide +kernel) rfl)
theorem ML_X11_129 : zml RX11 129 yX10_readMoney := Or.inl (zTB_3 (i := 141) (by decide +kernel) rfl)
theorem ML_X11_132 : zml RX11 132 yX1_hasFence := Or.inl (zTB_3 (i := 156) (by decide +kernel) rfl)
theorem ML_X11_147 : zml RX11 147 yX1_hasHorse := Or.inl (zTB_3 (i := 181) (by decide +kernel) rfl)
theorem ML_X11_150 : zml RX11 150 yX1_ofHorse := Or.inl (zTB_3 (i := 239) (by decide +kernel) rfl)
theorem ML_X11_160 : zml RX11 160 yX11_sheetEntry := Or.inl (zTB_3 (i := 172) (by decide +kernel) rfl)
theorem ML_X11_171 : zml RX11 171 yX6_start := Or.inl (zTB_3 (i := 185) (by decide +kernel) rfl)
theorem ML_X11_174 : zml RX11 174 yX1_refusalOdds := Or.inl (zTB_3 (i := 189) (by decide +kernel) rfl)
theorem ML_X11_177 : zml RX11 177 yX6_put := Or.inl (zTB_3 (i := 206) (by decide +kernel) rfl)
theorem ML_X11_181 : zml RX11 181 yX1_fenceTenths := Or.inl (zTB_3 (i := 210) (by decide +kernel) rfl)
theorem ML_X11_184 : zml RX11 184 yX1_leanAt := Or.inl (zTB_3 (i := 217) (by decide +kernel) rfl)
theorem ML_X11_187 : zml RX11 187 yX1_poleOdds := Or.inl (zTB_3 (i := 218) (by decide +kernel) rfl)
theorem ML_X11_191 : zml RX11 191 yX1_hasPlan := Or.inl (zTB_4 (i := 8) (by decide +kernel) rfl)
theorem ML_X11_194 : zml RX11 194 yX1_letterAt := Or.inl (zTB_4 (i := 12) (by decide +kernel) rfl)
theorem ML_X11_197 : zml RX11 197 yX1_planTenths := Or.inl (zTB_4 (i := 16) (by decide +kernel) rfl)
theorem ML_X11_200 : zml RX11 200 yX1_clearOf := Or.inl (zTB_4 (i := 22) (by decide +kernel) rfl)
theorem ML_X11_203 : zml RX11 203 yJ7_fill_d0a16 := Or.inl (zTB_4 (i := 39) (by decide +kernel) rfl)
theorem ML_X11_213 : zml RX11 213 yX1_isCut := Or.inl (zTB_4 (i := 48) (by decide +kernel) rfl)
theorem ML_X11_216 : zml RX11 216 yX11_leastFear := Or.inl (zTB_4 (i := 53) (by decide +kernel) rfl)
theorem ML_X11_219 : zml RX11 219 yX4_lay := Or.inl (zTB_4 (i := 57) (by decide +kernel) rfl)
theorem ML_X11_223 : zml RX11 223 yX4_fewestTenths := Or.inl (zTB_4 (i := 95) (by decide +kernel) rfl)
theorem ML_X11_226 : zml RX11 226 yX4_fearWith := Or.inl (zTB_4 (i := 90) (by decide +kernel) rfl)
theorem ML_X11_229 : zml RX11 229 yX4_tell := Or.inl (zTB_4 (i := 81) (by decide +kernel) rfl)
theorem ML_X11_233 : zml RX11 233 yX4_calmestTenths := Or.inl (zTB_4 (i := 72) (by decide +kernel) rfl)
theorem ML_X11_236 : zml RX11 236 yX8_mark := Or.inl (zTB_4 (i := 107) (by decide +kernel) rfl)
theorem ML_X11_240 : zml RX11 240 yX11_addRide := Or.inl (zTB_4 (i := 116) (by decide +kernel) rfl)
theorem ML_X11_244 : zml RX11 244 yX8_commit := Or.inl (zTB_4 (i := 148) (by decide +kernel) rfl)
theorem ML_X11_247 : zml RX11 247 yX11_tellDrawn := Or.inl (zTB_4 (i := 152) (by decide +kernel) rfl)
theorem ML_X11_250 : zml RX11 250 yX2_draw := Or.inl (zTB_4 (i := 127) (by decide +kernel) rfl)
theorem ML_X11_257 : zml RX11 257 yX11_addTold := Or.inl (zTB_4 (i := 164) (by decide +kernel) rfl)
theorem ML_X11_260 : zml RX11 260 yX11_isRider := Or.inl (zTB_4 (i := 120) (by decide +kernel) rfl)
theorem ML_X11_263 : zml RX11 263 yX10_isFull := Or.inl (zTB_4 (i := 123) (by decide +kernel) rfl)
theorem ML_X11_270 : zml RX11 270 yX10_add := Or.inl (zTB_4 (i := 143) (by decide +kernel) rfl)
theorem ML_X11_273 : zml RX11 273 yX11_isResult := Or.inl (zTB_4 (i := 168) (by decide +kernel) rfl)
theorem ML_X11_286 : zml RX11 286 yX0_check := Or.inl (zTB_4 (i := 175) (by decide +kernel) rfl)
theorem ML_X11_289 : zml RX11 289 yX9_open := Or.inl (zTB_4 (i := 201) (by decide +kernel) rfl)
theorem ML_X11_292 : zml RX11 292 yX9_isDone := Or.inl (zTB_4 (i := 202) (by decide +kernel) rfl)
theorem ML_X11_295 : zml RX11 295 yX0_read := Or.inl (zTB_4 (i := 203) (by decide +kernel) rfl)
theorem ML_X11_299 : zml RX11 299 yX9_take := Or.inl (zTB_4 (i := 204) (by decide +kernel) rfl)
theorem ML_X11_303 : zml RX11 303 yX11_perform := Or.inl (zTB_4 (i := 205) (by decide +kernel) rfl)
theorem ML_X11_322 : zml RX11 322 yX10_strike := Or.inl (zTB_4 (i := 209) (by decide +kernel) rfl)
theorem ML_X11_325 : zml RX11 325 yX8_back := Or.inl (zTB_4 (i := 217) (by decide +kernel) rfl)
theorem ML_X11_339 : zml RX11 339 yX10_placeOf := Or.inl (zTB_5 (i := 20) (by decide +kernel) rfl)
theorem ML_X11_343 : zml RX11 343 yX10_moneyAt := Or.inl (zTB_5 (i := 7) (by decide +kernel) rfl)
theorem ML_X11_346 : zml RX11 346 yX10_tellOrder := Or.inl (zTB_4 (i := 229) (by decide +kernel) rfl)
theorem ML_X11_350 : zml RX11 350 yX10_placeFor := Or.inl (zTB_5 (i := 3) (by decide +kernel) rfl)
theorem ML_X11_353 : zml RX11 353 yX11_begun := Or.inl (zTB_5 (i := 19) (by decide +kernel) rfl)
theorem ML_X11_356 : zml RX11 356 yX11_thoughtMoney := Or.inl (zTB_5 (i := 25) (by decide +kernel) rfl)
theorem ML_X11_359 : zml RX11 359 yX11_meanOf := Or.inl (zTB_5 (i := 29) (by decide +kernel) rfl)
theorem ML_X11_365 : zml RX11 365 yX11_bestPlan := Or.inl (zTB_5 (i := 37) (by decide +kernel) rfl)
theorem ML_X11_371 : zml RX11 371 yX11_readPlayers := Or.inl (zTB_5 (i := 49) (by decide +kernel) rfl)
theorem ML_X11_374 : zml RX11 374 yX3_begin := Or.inl (zTB_5 (i := 61) (by decide +kernel) rfl)
theorem ML_X11_378 : zml RX11 378 yX3_start := Or.inl (zTB_5 (i := 68) (by decide +kernel) rfl)
theorem ML_X11_384 : zml RX11 384 yX3_won := Or.inl (zTB_5 (i := 92) (by decide +kernel) rfl)
theorem ML_X11_388 : zml RX11 388 yX3_scale := Or.inl (zTB_5 (i := 96) (by decide +kernel) rfl)
theorem ML_X11_392 : zml RX11 392 yX6_putFraction := Or.inl (zTB_5 (i := 100) (by decide +kernel) rfl)
theorem ML_X11_403 : zml RX11 403 yX3_readPlayers := Or.inl (zTB_5 (i := 53) (by decide +kernel) rfl)
theorem ML_X11_406 : zml RX11 406 yX11_bitsThrough := Or.inl (zTB_5 (i := 125) (by decide +kernel) rfl)
theorem ML_X11_409 : zml RX11 409 yJ6_bitCount_0f7a4 := Or.inl (zTB_5 (i := 129) (by decide +kernel) rfl)
theorem ML_X11_414 : zml RX11 414 yX1_countThrough := Or.inl (zTB_5 (i := 139) (by decide +kernel) rfl)
theorem ML_X11_424 : zml RX11 424 yX1_lean := Or.inl (zTB_5 (i := 155) (by decide +kernel) rfl)
theorem ML_X11_427 : zml RX11 427 yX5_explain := Or.inl (zTB_5 (i := 160) (by decide +kernel) rfl)
theorem ML_X11_431 : zml RX11 431 yX10_scaledMean := Or.inl (zTB_5 (i := 179) (by decide +kernel) rfl)
theorem ML_X11_437 : zml RX11 437 yX11_justFall := Or.inl (zTB_5 (i := 190) (by decide +kernel) rfl)
theorem ML_X11_441 : zml RX11 441 yX8_store := Or.inl (zTB_5 (i := 198) (by decide +kernel) rfl)
theorem ML_X11_445 : zml RX11 445 yX8_load := Or.inl (zTB_5 (i := 203) (by decide +kernel) rfl)
theorem ML_X11_453 : zml RX11 453 yX10_moneyInAll := Or.inl (zTB_5 (i := 208) (by decide +kernel) rfl)
theorem ML_X12_122 : zml RX12 122 yX12_in := Or.inl (zTB_7 (i := 16) (by decide +kernel) rfl)
theorem ML_X12_132 : zml RX12 132 yX12_isHorse := Or.inl (zTB_7 (i := 123) (by decide +kernel) rfl)
theorem ML_X12_136 : zml RX12 136 yX12_isPlan := Or.inl (zTB_7 (i := 188) (by decide +kernel) rfl)
theorem ML_X12_157 : zml RX12 157 yX12_fine := Or.inl (zTB_7 (i := 27) (by decide +kernel) rfl)
theorem ML_X12_161 : zml RX12 161 yX12_here := Or.inl (zTB_7 (i := 39) (by decide +kernel) rfl)
theorem ML_X12_165 : zml RX12 165 yX12_passes := Or.inl (zTB_7 (i := 54) (by decide +kernel) rfl)
theorem ML_X12_169 : zml RX12 169 yX12_fault := Or.inl (zTB_7 (i := 31) (by decide +kernel) rfl)
theorem ML_X12_173 : zml RX12 173 yX12_digit := Or.inl (zTB_7 (i := 46) (by decide +kernel) rfl)
theorem ML_X12_177 : zml RX12 177 yX12_kindOf := Or.inl (zTB_7 (i := 43) (by decide +kernel) rfl)
theorem ML_X12_181 : zml RX12 181 yX12_need := Or.inl (zTB_7 (i := 50) (by decide +kernel) rfl)
theorem ML_X12_185 : zml RX12 185 yX12_begin := Or.inl (zTB_7 (i := 23) (by decide +kernel) rfl)
theorem ML_X12_189 : zml RX12 189 yX12_readFence := Or.inl (zTB_7 (i := 35) (by decide +kernel) rfl)
theorem ML_X12_195 : zml RX12 195 yX12_readHorse := Or.inl (zTB_7 (i := 62) (by decide +kernel) rfl)
theorem ML_X12_198 : zml RX12 198 yX12_number := Or.inl (zTB_7 (i := 74) (by decide +kernel) rfl)
theorem ML_X12_201 : zml RX12 201 yX12_sum := Or.inl (zTB_7 (i := 86) (by decide +kernel) rfl)
theorem ML_X12_204 : zml RX12 204 yX12_product := Or.inl (zTB_7 (i := 90) (by decide +kernel) rfl)
theorem ML_X12_207 : zml RX12 207 yX12_thing := Or.inl (zTB_7 (i := 94) (by decide +kernel) rfl)
theorem ML_X12_210 : zml RX12 210 yX12_held := Or.inl (zTB_7 (i := 82) (by decide +kernel) rfl)
theorem ML_X12_217 : zml RX12 217 yX12_valueOf := Or.inl (zTB_7 (i := 98) (by decide +kernel) rfl)
theorem ML_X12_232 : zml RX12 232 yX12_leanOf := Or.inl (zTB_7 (i := 102) (by decide +kernel) rfl)
theorem ML_X12_246 : zml RX12 246 yX12_oddsOf := Or.inl (zTB_7 (i := 155) (by decide +kernel) rfl)
theorem ML_X12_250 : zml RX12 250 yX12_isFence := Or.inl (zTB_7 (i := 111) (by decide +kernel) rfl)
theorem ML_X12_253 : zml RX12 253 yX12_lost := Or.inl (zTB_7 (i := 115) (by decide +kernel) rfl)
theorem ML_X12_256 : zml RX12 256 yX12_isMost := Or.inl (zTB_7 (i := 139) (by decide +kernel) rfl)
theorem ML_X12_259 : zml RX12 259 yX12_oddsOf_ := Or.inl (zTB_7 (i := 151) (by decide +kernel) rfl)
theorem ML_X12_262 : zml RX12 262 yX12_refusalOf := Or.inl (zTB_7 (i := 159) (by decide +kernel) rfl)
theorem ML_X12_265 : zml RX12 265 yX12_tell := Or.inl (zTB_7 (i := 163) (by decide +kernel) rfl)
theorem ML_X12_269 : zml RX12 269 yX12_tenthsOf := Or.inl (zTB_7 (i := 167) (by decide +kernel) rfl)
theorem ML_X12_273 : zml RX12 273 yX12_letterOf := Or.inl (zTB_7 (i := 196) (by decide +kernel) rfl)
theorem ML_X12_276 : zml RX12 276 yX12_clearBy := Or.inl (zTB_7 (i := 204) (by decide +kernel) rfl)
theorem ML_X12_279 : zml RX12 279 yX12_areBoth := Or.inl (zTB_7 (i := 184) (by decide +kernel) rfl)
theorem ML_X12_283 : zml RX12 283 yX12_tenthsOfPlan := Or.inl (zTB_7 (i := 192) (by decide +kernel) rfl)
theorem ML_X12_286 : zml RX12 286 yX12_clearOf := Or.inl (zTB_7 (i := 200) (by decide +kernel) rfl)
theorem ML_X12_289 : zml RX12 289 yX12_fearOf := Or.inl (zTB_7 (i := 208) (by decide +kernel) rfl)
theorem ML_X12_292 : zml RX12 292 yX12_leftBy := Or.inl (zTB_7 (i := 236) (by decide +kernel) rfl)
theorem ML_X12_295 : zml RX12 295 yX12_layFences := Or.inl (zTB_7 (i := 228) (by decide +kernel) rfl)
theorem ML_X12_299 : zml RX12 299 yX12_least := Or.inl (zTB_7 (i := 232) (by decide +kernel) rfl)
theorem ML_X12_302 : zml RX12 302 yX12_curve := Or.inl (zTB_8 (i := 8) (by decide +kernel) rfl)
theorem ML_X12_305 : zml RX12 305 yX12_lay := Or.inl (zTB_8 (i := 21) (by decide +kernel) rfl)
theorem ML_X12_322 : zml RX12 322 yX12_draw := Or.inl (zTB_8 (i := 28) (by decide +kernel) rfl)
theorem ML_X12_325 : zml RX12 325 yX12_timeFaults := Or.inl (zTB_8 (i := 33) (by decide +kernel) rfl)
theorem ML_X12_328 : zml RX12 328 yX12_refusesRide := Or.inl (zTB_8 (i := 13) (by decide +kernel) rfl)
theorem ML_X12_331 : zml RX12 331 yX12_remember := Or.inl (zTB_8 (i := 17) (by decide +kernel) rfl)
theorem ML_X12_335 : zml RX12 335 yX12_goRound := Or.inl (zTB_8 (i := 24) (by decide +kernel) rfl)
theorem ML_X12_338 : zml RX12 338 yX12_add := Or.inl (zTB_8 (i := 37) (by decide +kernel) rfl)
theorem ML_X12_342 : zml RX12 342 yX12_tellRound := Or.inl (zTB_8 (i := 40) (by decide +kernel) rfl)
theorem ML_X12_345 : zml RX12 345 yX12_refusesTold := Or.inl (zTB_8 (i := 52) (by decide +kernel) rfl)
theorem ML_X12_348 : zml RX12 348 yX12_readAct := Or.inl (zTB_8 (i := 60) (by decide +kernel) rfl)
theorem ML_X12_351 : zml RX12 351 yX12_act := Or.inl (zTB_8 (i := 64) (by decide +kernel) rfl)
theorem ML_X12_354 : zml RX12 354 yX12_isAhead := Or.inl (zTB_8 (i := 79) (by decide +kernel) rfl)
theorem ML_X12_358 : zml RX12 358 yX12_placeOf := Or.inl (zTB_8 (i := 76) (by decide +kernel) rfl)
theorem ML_X12_362 : zml RX12 362 yX12_moneyOf := Or.inl (zTB_8 (i := 82) (by decide +kernel) rfl)
theorem ML_X12_365 : zml RX12 365 yX12_tellPlaces := Or.inl (zTB_8 (i := 90) (by decide +kernel) rfl)
theorem ML_X12_368 : zml RX12 368 yX12_placeFor := Or.inl (zTB_8 (i := 98) (by decide +kernel) rfl)
theorem ML_X12_372 : zml RX12 372 yX12_moneyFor := Or.inl (zTB_8 (i := 113) (by decide +kernel) rfl)
theorem ML_X12_376 : zml RX12 376 yX12_meanOf := Or.inl (zTB_8 (i := 117) (by decide +kernel) rfl)
theorem ML_X12_379 : zml RX12 379 yX12_bestPlan := Or.inl (zTB_8 (i := 125) (by decide +kernel) rfl)
theorem ML_X12_385 : zml RX12 385 yX12_placeThought := Or.inl (zTB_8 (i := 145) (by decide +kernel) rfl)
theorem ML_X12_390 : zml RX12 390 yX12_layThought := Or.inl (zTB_8 (i := 150) (by decide +kernel) rfl)
theorem ML_X12_394 : zml RX12 394 yX12_goGame := Or.inl (zTB_8 (i := 141) (by decide +kernel) rfl)
theorem ML_X12_397 : zml RX12 397 yX12_common := Or.inl (zTB_8 (i := 163) (by decide +kernel) rfl)
theorem ML_X12_401 : zml RX12 401 yJ9_abs_067f4 := Or.inl (zTB_8 (i := 162) (by decide +kernel) rfl)
theorem ML_X12_405 : zml RX12 405 yX12_readComing := Or.inl (zTB_8 (i := 137) (by decide +kernel) rfl)
theorem ML_X12_410 : zml RX12 410 yX12_power := Or.inl (zTB_8 (i := 155) (by decide +kernel) rfl)
theorem ML_X12_414 : zml RX12 414 yX12_tellPart := Or.inl (zTB_8 (i := 158) (by decide +kernel) rfl)
theorem ML_X12_422 : zml RX12 422 yX12_throughBy := Or.inl (zTB_8 (i := 180) (by decide +kernel) rfl)
theorem ML_X12_425 : zml RX12 425 yJ6_bitCount_0f7a4 := Or.inl (zTB_8 (i := 184) (by decide +kernel) rfl)
theorem ML_X12_432 : zml RX12 432 yX12_offBy := Or.inl (zTB_8 (i := 198) (by decide +kernel) rfl)
theorem ML_X12_441 : zml RX12 441 yX12_ridden := Or.inl (zTB_8 (i := 206) (by decide +kernel) rfl)
theorem ML_X12_445 : zml RX12 445 yX12_justFall := Or.inl (zTB_8 (i := 214) (by decide +kernel) rfl)
theorem ML_X2_18 : zml RX2 18 yX1_planTenths := Or.inl (zTB_4 (i := 131) (by decide +kernel) rfl)
theorem ML_X2_36 : zml RX2 36 yX2_next := Or.inl (zTB_4 (i := 132) (by decide +kernel) rfl)
theorem ML_X2_39 : zml RX2 39 yX1_refusalOdds := Or.inl (zTB_4 (i := 137) (by decide +kernel) rfl)
theorem ML_X2_43 : zml RX2 43 yX1_letterAt := Or.inl (zTB_4 (i := 138) (by decide +kernel) rfl)
theorem ML_X2_46 : zml RX2 46 yX1_poleOdds := Or.inl (zTB_4 (i := 139) (by decide +kernel) rfl)
theorem ML_X2_53 : zml RX2 53 yX11_begun := Or.inr ⟨"FourAPole", (zNB_4 (i := 140) (by decide +kernel) rfl)⟩
theorem ML_X3_37 : zml RX3 37 yX9_open := Or.inl (zTB_5 (i := 57) (by decide +kernel) rfl)
theorem ML_X3_47 : zml RX3 47 yX9_isDone := Or.inl (zTB_5 (i := 58) (by decide +kernel) rfl)
theorem ML_X3_51 : zml RX3 51 yX9_digit := Or.inl (zTB_5 (i := 59) (by decide +kernel) rfl)
theorem ML_X3_55 : zml RX3 55 yX9_fault := Or.inl (zTB_5 (i := 60) (by decide +kernel) rfl)
theorem ML_X3_67 : zml RX3 67 yX1_planTenths := Or.inl (zTB_5 (i := 65) (by decide +kernel) rfl)
theorem ML_X3_74 : zml RX3 74 yX11_begun := Or.inr ⟨"FourAPole", (zNB_5 (i := 66) (by decide +kernel) rfl)⟩
theorem ML_X3_78 : zml RX3 78 yX10_placeFor := Or.inl (zTB_5 (i := 67) (by decide +kernel) rfl)
theorem ML_X3_83 : zml RX3 83 yX1_clearOf := Or.inl (zTB_5 (i := 72) (by decide +kernel) rfl)
theorem ML_X3_86 : zml RX3 86 yX3_settle := Or.inl (zTB_5 (i := 73) (by decide +kernel) rfl)
theorem ML_X3_92 : zml RX3 92 yX3_pay := Or.inl (zTB_5 (i := 77) (by decide +kernel) rfl)
theorem ML_X3_96 : zml RX3 96 yX3_weigh := Or.inl (zTB_5 (i := 86) (by decide +kernel) rfl)
theorem ML_X3_109 : zml RX3 109 yX3_isAhead := Or.inl (zTB_5 (i := 81) (by decide +kernel) rfl)
theorem ML_X3_113 : zml RX3 113 yX10_moneyAt := Or.inl (zTB_5 (i := 85) (by decide +kernel) rfl)
theorem ML_X4_31 : zml RX4 31 yX1_refusalOdds := Or.inl (zTB_4 (i := 61) (by decide +kernel) rfl)
theorem ML_X4_35 : zml RX4 35 yX1_poleOdds := Or.inl (zTB_4 (i := 62) (by decide +kernel) rfl)
theorem ML_X4_39 : zml RX4 39 yX1_fenceTenths := Or.inl (zTB_4 (i := 63) (by decide +kernel) rfl)
theorem ML_X4_42 : zml RX4 42 yX4_from := Or.inl (zTB_4 (i := 64) (by decide +kernel) rfl)
theorem ML_X4_46 : zml RX4 46 yX4_layBehind := Or.inl (zTB_4 (i := 67) (by decide +kernel) rfl)
theorem ML_X4_58 : zml RX4 58 yX4_fearWith := Or.inl (zTB_4 (i := 77) (by decide +kernel) rfl)
theorem ML_X4_61 : zml RX4 61 yX4_firstLetter := Or.inl (zTB_4 (i := 85) (by decide +kernel) rfl)
theorem ML_X4_64 : zml RX4 64 yX6_put := Or.inl (zTB_4 (i := 89) (by decide +kernel) rfl)
theorem ML_X5_18 : zml RX5 18 yX5_fitHorse := Or.inl (zTB_5 (i := 164) (by decide +kernel) rfl)
theorem ML_X5_28 : zml RX5 28 yX6_start := Or.inl (zTB_5 (i := 170) (by decide +kernel) rfl)
theorem ML_X5_33 : zml RX5 33 yX6_put := Or.inl (zTB_5 (i := 171) (by decide +kernel) rfl)
theorem ML_X5_37 : zml RX5 37 yX5_countExplained := Or.inl (zTB_5 (i := 172) (by decide +kernel) rfl)
theorem ML_X6_19 : zml RX6 19 yJ9_abs_067f4 := Or.inl (zTB_5 (i := 104) (by decide +kernel) rfl)
theorem ML_X6_25 : zml RX6 25 yX6_common := Or.inl (zTB_5 (i := 107) (by decide +kernel) rfl)
theorem ML_X6_29 : zml RX6 29 yX6_put := Or.inl (zTB_5 (i := 110) (by decide +kernel) rfl)
theorem ML_X7_24 : zml RX7 24 yX9_open := Or.inl (zTB_3 (i := 101) (by decide +kernel) rfl)
theorem ML_X7_34 : zml RX7 34 yX9_isDone := Or.inl (zTB_3 (i := 102) (by decide +kernel) rfl)
theorem ML_X7_38 : zml RX7 38 yX7_readLevel := Or.inl (zTB_3 (i := 103) (by decide +kernel) rfl)
theorem ML_X7_42 : zml RX7 42 yX9_fault := Or.inl (zTB_3 (i := 133) (by decide +kernel) rfl)
theorem ML_X7_55 : zml RX7 55 yX7_readThing := Or.inl (zTB_3 (i := 107) (by decide +kernel) rfl)
theorem ML_X7_59 : zml RX7 59 yX7_signsOf := Or.inl (zTB_3 (i := 127) (by decide +kernel) rfl)
theorem ML_X7_63 : zml RX7 63 yX9_oneOf := Or.inl (zTB_3 (i := 126) (by decide +kernel) rfl)
theorem ML_X7_67 : zml RX7 67 yX7_emit := Or.inl (zTB_3 (i := 121) (by decide +kernel) rfl)
theorem ML_X7_76 : zml RX7 76 yX9_take := Or.inl (zTB_3 (i := 111) (by decide +kernel) rfl)
theorem ML_X7_80 : zml RX7 80 yX7_readBareThing := Or.inl (zTB_3 (i := 112) (by decide +kernel) rfl)
theorem ML_X7_83 : zml RX7 83 yX9_number := Or.inl (zTB_3 (i := 116) (by decide +kernel) rfl)
theorem ML_X7_89 : zml RX7 89 yX7_join := Or.inl (zTB_3 (i := 226) (by decide +kernel) rfl)
theorem ML_X7_93 : zml RX7 93 yX7_usual := Or.inl (zTB_3 (i := 229) (by decide +kernel) rfl)
theorem ML_X8_28 : zml RX8 28 yJ7_fill_53178 := Or.inl (zTB_1 (i := 213) (by decide +kernel) rfl)
theorem ML_X8_60 : zml RX8 60 yX8_store := Or.inl (zTB_4 (i := 111) (by decide +kernel) rfl)
theorem ML_X8_64 : zml RX8 64 yX8_load := Or.inl (zTB_4 (i := 221) (by decide +kernel) rfl)
theorem ML_X9_37 : zml RX9 37 yX9_digit := Or.inl (zTB_3 (i := 120) (by decide +kernel) rfl)
theorem C_X11_209 : Cond.constantLong RX11 209 (10000) ∈ zTB := (zTB_4 (i := 42) (by decide +kernel) rfl)
theorem C_X11_211 : Cond.constantLong RX11 211 (100) ∈ zTB := (zTB_4 (i := 43) (by decide +kernel) rfl)
theorem C_X11_399 : Cond.constantLong RX11 399 (-1) ∈ zTB := (zTB_5 (i := 115) (by decide +kernel) rfl)
theorem C_X11_401 : Cond.constantLong RX11 401 (2) ∈ zTB := (zTB_5 (i := 120) (by decide +kernel) rfl)
theorem C_X11_435 : Cond.constantLong RX11 435 (27720) ∈ zTB := (zTB_5 (i := 185) (by decide +kernel) rfl)
theorem C_X2_56 : Cond.constant RX2 56 (1103515245) ∈ zTB := (zTB_4 (i := 136) (by decide +kernel) rfl)
theorem C_X3_90 : Cond.constantLong RX3 90 (10000) ∈ zTB := (zTB_5 (i := 90) (by decide +kernel) rfl)
theorem C_X10_84 : Cond.constantLong RX10 84 (-1) ∈ zTB := (zTB_5 (i := 183) (by decide +kernel) rfl)
theorem C_X10_86 : Cond.constantLong RX10 86 (27720) ∈ zTB := (zTB_5 (i := 184) (by decide +kernel) rfl)
theorem C_X12_272 : Cond.constant RX12 272 (100000000) ∈ zTB := (zTB_7 (i := 179) (by decide +kernel) rfl)
theorem C_X12_312 : Cond.constant RX12 312 (1103515245) ∈ zTB := (zTB_8 (i := 32) (by decide +kernel) rfl)
theorem C_X12_388 : Cond.constantLong RX12 388 (-1) ∈ zTB := (zTB_8 (i := 149) (by decide +kernel) rfl)
theorem C_X12_408 : Cond.constantLong RX12 408 (10000) ∈ zTB := (zTB_8 (i := 154) (by decide +kernel) rfl)
theorem C_X12_418 : Cond.constantLong RX12 418 (100000000) ∈ zTB := (zTB_8 (i := 174) (by decide +kernel) rfl)
theorem C_X12_420 : Cond.constantLong RX12 420 (2) ∈ zTB := (zTB_8 (i := 175) (by decide +kernel) rfl)
theorem C_X12_449 : Cond.constantLong RX12 449 (100) ∈ zTB := (zTB_8 (i := 218) (by decide +kernel) rfl)
theorem C_J6_265 : Cond.constant RJ6 265 (1431655765) ∈ zTB := (zTB_5 (i := 132) (by decide +kernel) rfl)
theorem C_J6_266 : Cond.constant RJ6 266 (858993459) ∈ zTB := (zTB_5 (i := 133) (by decide +kernel) rfl)
theorem C_J6_267 : Cond.constant RJ6 267 (252645135) ∈ zTB := (zTB_5 (i := 134) (by decide +kernel) rfl)
theorem L_X1_99 : Cond.methodLink RX1 99 Lib.Math.min.name ∈ zTB := (zTB_3 (i := 204) (by decide +kernel) rfl)
theorem L_X1_114 : Cond.methodLink RX1 114 Lib.Math.max.name ∈ zTB := (zTB_3 (i := 205) (by decide +kernel) rfl)
theorem L_X10_54 : Cond.methodLink RX10 54 arraycopyName ∈ zTB := (zTB_3 (i := 150) (by decide +kernel) rfl)
theorem L_X11_163 : Cond.methodLink RX11 163 Lib.Math.min.name ∈ zTB := (zTB_3 (i := 175) (by decide +kernel) rfl)
theorem L_X11_168 : Cond.methodLink RX11 168 Lib.Math.max.name ∈ zTB := (zTB_3 (i := 176) (by decide +kernel) rfl)
theorem L_X11_421 : Cond.methodLink RX11 421 Lib.Math.abs.name ∈ zTB := (zTB_5 (i := 148) (by decide +kernel) rfl)
theorem L_X12_238 : Cond.methodLink RX12 238 Lib.Math.min.name ∈ zTB := (zTB_7 (i := 106) (by decide +kernel) rfl)
theorem L_X12_243 : Cond.methodLink RX12 243 Lib.Math.max.name ∈ zTB := (zTB_7 (i := 146) (by decide +kernel) rfl)
theorem L_X12_430 : Cond.methodLink RX12 430 Lib.Math.abs.name ∈ zTB := (zTB_8 (i := 189) (by decide +kernel) rfl)
theorem L_X3_100 : Cond.methodLink RX3 100 arraycopyName ∈ zTB := (zTB_5 (i := 91) (by decide +kernel) rfl)
theorem L_X4_50 : Cond.methodLink RX4 50 Lib.Math.max.name ∈ zTB := (zTB_4 (i := 71) (by decide +kernel) rfl)
theorem L_X4_55 : Cond.methodLink RX4 55 Lib.Math.min.name ∈ zTB := (zTB_4 (i := 76) (by decide +kernel) rfl)
theorem L_X5_22 : Cond.methodLink RX5 22 arraycopyName ∈ zTB := (zTB_5 (i := 169) (by decide +kernel) rfl)
theorem L_X5_56 : Cond.methodLink RX5 56 Lib.Math.abs.name ∈ zTB := (zTB_5 (i := 168) (by decide +kernel) rfl)
theorem L_X7_46 : Cond.methodLink RX7 46 arraycopyName ∈ zTB := (zTB_3 (i := 134) (by decide +kernel) rfl)
theorem L_X7_96 : Cond.methodLink RX7 96 Lib.Math.min.name ∈ zTB := (zTB_3 (i := 233) (by decide +kernel) rfl)
theorem L_X7_102 : Cond.methodLink RX7 102 Lib.Math.max.name ∈ zTB := (zTB_3 (i := 234) (by decide +kernel) rfl)
theorem L_X8_42 : Cond.methodLink RX8 42 arraycopyName ∈ zTB := (zTB_4 (i := 115) (by decide +kernel) rfl)
theorem L_X9_22 : Cond.methodLink RX9 22 Lib.Math.min.name ∈ zTB := (zTB_2 (i := 189) (by decide +kernel) rfl)
theorem L_X9_31 : Cond.methodLink RX9 31 yJ0_indexOf_0f7a4 ∈ zTB := (zTB_2 (i := 201) (by decide +kernel) rfl)
theorem K_max_s : Cond.static Lib.Math.max.name ∈ zTB := (zTB_1 (i := 211) (by decide +kernel) rfl)
theorem K_max_c : Cond.code Lib.Math.max.name Lib.Math.max.code 2 (some .int) ∈ zTB := (zTB_1 (i := 212) (by decide +kernel) rfl)
theorem K_min_s : Cond.static Lib.Math.min.name ∈ zTB := (zTB_2 (i := 190) (by decide +kernel) rfl)
theorem K_min_c : Cond.code Lib.Math.min.name Lib.Math.min.code 2 (some .int) ∈ zTB := (zTB_2 (i := 191) (by decide +kernel) rfl)
theorem K_abs_s : Cond.static Lib.Math.abs.name ∈ zTB := (zTB_5 (i := 149) (by decide +kernel) rfl)
theorem K_abs_c : Cond.code Lib.Math.abs.name Lib.Math.abs.code 1 (some .int) ∈ zTB := (zTB_5 (i := 150) (by decide +kernel) rfl)
theorem K_math : Cond.initialized "java/lang/Math" ∈ zTB := (zTB_1 (i := 8) (by decide +kernel) rfl)
theorem K_cpy_n : Cond.native arraycopyName ∈ zTB := (zTB_3 (i := 136) (by decide +kernel) rfl)
theorem K_cpy_s : Cond.static arraycopyName ∈ zTB := (zTB_3 (i := 135) (by decide +kernel) rfl)
theorem K_sys : Cond.initialized "java/lang/System" ∈ zTB := (zTB_1 (i := 21) (by decide +kernel) rfl)
theorem zb_m100 : (Int8.ofInt (-100)).toInt32 = -100 := by decide
theorem zb_m3 : (Int8.ofInt (-3)).toInt32 = -3 := by decide
theorem zb_m2 : (Int8.ofInt (-2)).toInt32 = -2 := by decide
theorem zb_6 : (Int8.ofInt (6)).toInt32 = 6 := by decide
theorem zb_7 : (Int8.ofInt (7)).toInt32 = 7 := by decide
theorem zb_8 : (Int8.ofInt (8)).toInt32 = 8 := by decide
theorem zb_9 : (Int8.ofInt (9)).toInt32 = 9 := by decide
theorem zb_10 : (Int8.ofInt (10)).toInt32 = 10 := by decide
theorem zb_12 : (Int8.ofInt (12)).toInt32 = 12 := by decide
theorem zb_16 : (Int8.ofInt (16)).toInt32 = 16 := by decide
theorem zb_24 : (Int8.ofInt (24)).toInt32 = 24 := by decide
theorem zb_25 : (Int8.ofInt (25)).toInt32 = 25 := by decide
theorem zb_36 : (Int8.ofInt (36)).toInt32 = 36 := by decide
theorem zb_40 : (Int8.ofInt (40)).toInt32 = 40 := by decide
theorem zb_41 : (Int8.ofInt (41)).toInt32 = 41 := by decide
theorem zb_42 : (Int8.ofInt (42)).toInt32 = 42 := by decide
theorem zb_43 : (Int8.ofInt (43)).toInt32 = 43 := by decide
theorem zb_44 : (Int8.ofInt (44)).toInt32 = 44 := by decide
theorem zb_45 : (Int8.ofInt (45)).toInt32 = 45 := by decide
theorem zb_47 : (Int8.ofInt (47)).toInt32 = 47 := by decide
theorem zb_48 : (Int8.ofInt (48)).toInt32 = 48 := by decide
theorem zb_49 : (Int8.ofInt (49)).toInt32 = 49 := by decide
theorem zb_57 : (Int8.ofInt (57)).toInt32 = 57 := by decide
theorem zb_58 : (Int8.ofInt (58)).toInt32 = 58 := by decide
theorem zb_59 : (Int8.ofInt (59)).toInt32 = 59 := by decide
theorem zb_60 : (Int8.ofInt (60)).toInt32 = 60 := by decide
theorem zb_61 : (Int8.ofInt (61)).toInt32 = 61 := by decide
theorem zb_62 : (Int8.ofInt (62)).toInt32 = 62 := by decide
theorem zb_63 : (Int8.ofInt (63)).toInt32 = 63 := by decide
theorem zb_64 : (Int8.ofInt (64)).toInt32 = 64 := by decide
theorem zb_76 : (Int8.ofInt (76)).toInt32 = 76 := by decide
theorem zb_80 : (Int8.ofInt (80)).toInt32 = 80 := by decide
theorem zb_97 : (Int8.ofInt (97)).toInt32 = 97 := by decide
theorem zb_99 : (Int8.ofInt (99)).toInt32 = 99 := by decide
theorem zb_100 : (Int8.ofInt (100)).toInt32 = 100 := by decide
theorem zb_102 : (Int8.ofInt (102)).toInt32 = 102 := by decide
theorem zb_104 : (Int8.ofInt (104)).toInt32 = 104 := by decide
theorem zb_107 : (Int8.ofInt (107)).toInt32 = 107 := by decide
theorem zb_108 : (Int8.ofInt (108)).toInt32 = 108 := by decide
theorem zb_112 : (Int8.ofInt (112)).toInt32 = 112 := by decide
theorem zb_114 : (Int8.ofInt (114)).toInt32 = 114 := by decide
theorem zb_115 : (Int8.ofInt (115)).toInt32 = 115 := by decide
theorem zb_116 : (Int8.ofInt (116)).toInt32 = 116 := by decide
theorem zb_117 : (Int8.ofInt (117)).toInt32 = 117 := by decide
theorem zb_119 : (Int8.ofInt (119)).toInt32 = 119 := by decide
theorem zb_120 : (Int8.ofInt (120)).toInt32 = 120 := by decide
theorem zb_121 : (Int8.ofInt (121)).toInt32 = 121 := by decide
theorem zb_125 : (Int8.ofInt (125)).toInt32 = 125 := by decide
theorem zc_m8 : Int32.ofInt (-8) = -8 := by decide
theorem zc_m1 : Int32.ofInt (-1) = -1 := by decide
theorem zc_0 : Int32.ofInt (0) = 0 := by decide
theorem zc_1 : Int32.ofInt (1) = 1 := by decide
theorem zc_2 : Int32.ofInt (2) = 2 := by decide
theorem zc_3 : Int32.ofInt (3) = 3 := by decide
theorem zc_4 : Int32.ofInt (4) = 4 := by decide
theorem zc_5 : Int32.ofInt (5) = 5 := by decide
theorem zl_0 : Int64.ofNat ((0 : Fin 2) : Nat) = 0 := by decide
theorem zl_1 : Int64.ofNat ((1 : Fin 2) : Nat) = 1 := by decide
theorem zs_m200 : (Int16.ofInt (-200)).toInt32 = -200 := by decide
theorem zs_150 : (Int16.ofInt (150)).toInt32 = 150 := by decide
theorem zs_200 : (Int16.ofInt (200)).toInt32 = 200 := by decide
theorem zs_255 : (Int16.ofInt (255)).toInt32 = 255 := by decide
theorem zs_539 : (Int16.ofInt (539)).toInt32 = 539 := by decide
theorem zs_999 : (Int16.ofInt (999)).toInt32 = 999 := by decide
theorem zs_1000 : (Int16.ofInt (1000)).toInt32 = 1000 := by decide
theorem zs_1299 : (Int16.ofInt (1299)).toInt32 = 1299 := by decide
theorem zs_1300 : (Int16.ofInt (1300)).toInt32 = 1300 := by decide
theorem zs_2000 : (Int16.ofInt (2000)).toInt32 = 2000 := by decide
theorem zs_3000 : (Int16.ofInt (3000)).toInt32 = 3000 := by decide
theorem zs_9999 : (Int16.ofInt (9999)).toInt32 = 9999 := by decide
theorem zs_10000 : (Int16.ofInt (10000)).toInt32 = 10000 := by decide
theorem zs_12345 : (Int16.ofInt (12345)).toInt32 = 12345 := by decide
theorem zs_15625 : (Int16.ofInt (15625)).toInt32 = 15625 := by decide
