/-! the throwing methods where they return; facts of the law's calls -/
def mL_fence : zM := (RL, yL_fence, cL_fence, 5, some .int)
def mL_horse : zM := (RL, yL_horse, cL_horse, 5, some .int)
def mL_round : zM := (RL, yL_round, cL_round, 5, some .int)
def mL_row : zM := (RL, yL_row, cL_row, 4, some .int)
def mX11_fence : zM := (RX11, yX11_fence, cX11_fence, 3, some .int)
def mX11_horse : zM := (RX11, yX11_horse, cX11_horse, 3, some .int)
def mX11_round : zM := (RX11, yX11_round, cX11_round, 3, some .int)
def mX11_row : zM := (RX11, yX11_row, cX11_row, 2, some .long)
theorem F_X11_138 : zfl RX11 138 1 0 := ⟨RX1, TX1, 14, rfl, by decide, rfl, inT1, Or.inr ⟨"FourAPole", (zNB_1 (i := 106) (by decide +kernel) rfl)⟩⟩
theorem F_X11_329 : zfl RX11 329 10 0 := ⟨RX10, TX10, 7, rfl, by decide, rfl, inT10, Or.inr ⟨"FourAPole", (zNB_1 (i := 171) (by decide +kernel) rfl)⟩⟩
theorem F_X11_332 : zfl RX11 332 10 1 := ⟨RX10, TX10, 7, rfl, by decide, rfl, inT10, Or.inr ⟨"FourAPole", (zNB_1 (i := 175) (by decide +kernel) rfl)⟩⟩
theorem F_X11_457 : zfl RX11 457 6 0 := ⟨RX6, TX6, 2, rfl, by decide, rfl, inT6, Or.inr ⟨"FourAPole", (zNB_1 (i := 63) (by decide +kernel) rfl)⟩⟩
theorem Yv_X11_again : zyV mX11_again 1 := ⟨(zTB_5 (i := 200) (by decide +kernel) rfl), (zTB_5 (i := 201) (by decide +kernel) rfl), (zTB_1 (i := 1) (by decide +kernel) rfl), (zTB_5 (i := 202) (by decide +kernel) rfl), ⟨by decide, by decide, by decide⟩, by decide⟩
theorem Yv_X11_allow : zyV mX11_allow 1 := ⟨(zTB_3 (i := 165) (by decide +kernel) rfl), (zTB_3 (i := 166) (by decide +kernel) rfl), (zTB_1 (i := 1) (by decide +kernel) rfl), (zTB_3 (i := 167) (by decide +kernel) rfl), ⟨by decide, by decide, by decide⟩, by decide⟩
theorem Yv_X11_beat : zyV mX11_beat 1 := ⟨(zTB_5 (i := 12) (by decide +kernel) rfl), (zTB_5 (i := 13) (by decide +kernel) rfl), (zTB_1 (i := 1) (by decide +kernel) rfl), (zTB_5 (i := 14) (by decide +kernel) rfl), ⟨by decide, by decide, by decide⟩, by decide⟩
theorem Yv_X11_built : zyV mX11_built 3 := ⟨(zTB_5 (i := 136) (by decide +kernel) rfl), (zTB_5 (i := 137) (by decide +kernel) rfl), (zTB_1 (i := 1) (by decide +kernel) rfl), (zTB_5 (i := 138) (by decide +kernel) rfl), ⟨by decide, by decide, by decide⟩, by decide⟩
theorem Yv_X11_buy : zyV mX11_buy 0 := ⟨(zTB_5 (i := 42) (by decide +kernel) rfl), (zTB_5 (i := 43) (by decide +kernel) rfl), (zTB_1 (i := 1) (by decide +kernel) rfl), (zTB_5 (i := 44) (by decide +kernel) rfl), ⟨by decide, by decide, by decide⟩, by decide⟩
theorem Yv_X11_calm : zyV mX11_calm 2 := ⟨(zTB_4 (i := 1) (by decide +kernel) rfl), (zTB_4 (i := 2) (by decide +kernel) rfl), (zTB_1 (i := 1) (by decide +kernel) rfl), (zTB_4 (i := 3) (by decide +kernel) rfl), ⟨by decide, by decide, by decide⟩, by decide⟩
theorem Yv_X11_count : zyV mX11_count 1 := ⟨(zTB_5 (i := 205) (by decide +kernel) rfl), (zTB_5 (i := 206) (by decide +kernel) rfl), (zTB_1 (i := 1) (by decide +kernel) rfl), (zTB_5 (i := 207) (by decide +kernel) rfl), ⟨by decide, by decide, by decide⟩, by decide⟩
theorem Yv_X11_curve : zyV mX11_curve 2 := ⟨(zTB_4 (i := 50) (by decide +kernel) rfl), (zTB_4 (i := 51) (by decide +kernel) rfl), (zTB_1 (i := 1) (by decide +kernel) rfl), (zTB_4 (i := 52) (by decide +kernel) rfl), ⟨by decide, by decide, by decide⟩, by decide⟩
theorem Yv_X11_cuts : zyV mX11_cuts 2 := ⟨(zTB_4 (i := 45) (by decide +kernel) rfl), (zTB_4 (i := 46) (by decide +kernel) rfl), (zTB_1 (i := 1) (by decide +kernel) rfl), (zTB_4 (i := 47) (by decide +kernel) rfl), ⟨by decide, by decide, by decide⟩, by decide⟩
theorem Yv_X11_end : zyV mX11_end 1 := ⟨(zTB_2 (i := 170) (by decide +kernel) rfl), (zTB_2 (i := 171) (by decide +kernel) rfl), (zTB_1 (i := 1) (by decide +kernel) rfl), (zTB_2 (i := 172) (by decide +kernel) rfl), ⟨by decide, by decide, by decide⟩, by decide⟩
theorem Yv_X11_fair : zyV mX11_fair 1 := ⟨(zTB_5 (i := 152) (by decide +kernel) rfl), (zTB_5 (i := 153) (by decide +kernel) rfl), (zTB_1 (i := 1) (by decide +kernel) rfl), (zTB_5 (i := 154) (by decide +kernel) rfl), ⟨by decide, by decide, by decide⟩, by decide⟩
theorem Yv_X11_falls : zyV mX11_falls 2 := ⟨(zTB_4 (i := 32) (by decide +kernel) rfl), (zTB_4 (i := 33) (by decide +kernel) rfl), (zTB_1 (i := 1) (by decide +kernel) rfl), (zTB_4 (i := 34) (by decide +kernel) rfl), ⟨by decide, by decide, by decide⟩, by decide⟩
theorem Yv_X11_fear : zyV mX11_fear 2 := ⟨(zTB_4 (i := 5) (by decide +kernel) rfl), (zTB_4 (i := 6) (by decide +kernel) rfl), (zTB_1 (i := 1) (by decide +kernel) rfl), (zTB_4 (i := 7) (by decide +kernel) rfl), ⟨by decide, by decide, by decide⟩, by decide⟩
theorem Yv_X11_fence : zyV mX11_fence 2 := ⟨(zTB_5 (i := 217) (by decide +kernel) rfl), (zTB_5 (i := 218) (by decide +kernel) rfl), (zTB_1 (i := 1) (by decide +kernel) rfl), (zTB_5 (i := 219) (by decide +kernel) rfl), ⟨by decide, by decide, by decide⟩, by decide⟩
theorem Yv_X11_game : zyV mX11_game 0 := ⟨(zTB_5 (i := 46) (by decide +kernel) rfl), (zTB_5 (i := 47) (by decide +kernel) rfl), (zTB_1 (i := 1) (by decide +kernel) rfl), (zTB_5 (i := 48) (by decide +kernel) rfl), ⟨by decide, by decide, by decide⟩, by decide⟩
theorem Yv_X11_horse : zyV mX11_horse 2 := ⟨(zTB_6 (i := 45) (by decide +kernel) rfl), (zTB_6 (i := 46) (by decide +kernel) rfl), (zTB_1 (i := 1) (by decide +kernel) rfl), (zTB_6 (i := 47) (by decide +kernel) rfl), ⟨by decide, by decide, by decide⟩, by decide⟩
theorem Yv_X11_horses : zyV mX11_horses 0 := ⟨(zTB_3 (i := 73) (by decide +kernel) rfl), (zTB_3 (i := 74) (by decide +kernel) rfl), (zTB_1 (i := 1) (by decide +kernel) rfl), (zTB_3 (i := 75) (by decide +kernel) rfl), ⟨by decide, by decide, by decide⟩, by decide⟩
theorem Yv_X11_jump : zyV mX11_jump 3 := ⟨(zTB_3 (i := 178) (by decide +kernel) rfl), (zTB_3 (i := 179) (by decide +kernel) rfl), (zTB_1 (i := 1) (by decide +kernel) rfl), (zTB_3 (i := 180) (by decide +kernel) rfl), ⟨by decide, by decide, by decide⟩, by decide⟩
theorem Yv_X11_keep : zyV mX11_keep 1 := ⟨(zTB_5 (i := 195) (by decide +kernel) rfl), (zTB_5 (i := 196) (by decide +kernel) rfl), (zTB_1 (i := 1) (by decide +kernel) rfl), (zTB_5 (i := 197) (by decide +kernel) rfl), ⟨by decide, by decide, by decide⟩, by decide⟩
theorem Yv_X11_last : zyV mX11_last 1 := ⟨(zTB_5 (i := 34) (by decide +kernel) rfl), (zTB_5 (i := 35) (by decide +kernel) rfl), (zTB_1 (i := 1) (by decide +kernel) rfl), (zTB_5 (i := 36) (by decide +kernel) rfl), ⟨by decide, by decide, by decide⟩, by decide⟩
theorem Yv_X11_law : zyV mX11_law 2 := ⟨(zTB_5 (i := 16) (by decide +kernel) rfl), (zTB_5 (i := 17) (by decide +kernel) rfl), (zTB_1 (i := 1) (by decide +kernel) rfl), (zTB_5 (i := 18) (by decide +kernel) rfl), ⟨by decide, by decide, by decide⟩, by decide⟩
theorem Yv_X11_look : zyV mX11_look 3 := ⟨(zTB_4 (i := 157) (by decide +kernel) rfl), (zTB_4 (i := 158) (by decide +kernel) rfl), (zTB_1 (i := 1) (by decide +kernel) rfl), (zTB_4 (i := 159) (by decide +kernel) rfl), ⟨by decide, by decide, by decide⟩, by decide⟩
theorem Yv_X11_lot : zyV mX11_lot 0 := ⟨(zTB_5 (i := 112) (by decide +kernel) rfl), (zTB_5 (i := 113) (by decide +kernel) rfl), (zTB_1 (i := 1) (by decide +kernel) rfl), (zTB_5 (i := 114) (by decide +kernel) rfl), ⟨by decide, by decide, by decide⟩, by decide⟩
theorem Yv_X11_mean : zyV mX11_mean 2 := ⟨(zTB_5 (i := 22) (by decide +kernel) rfl), (zTB_5 (i := 23) (by decide +kernel) rfl), (zTB_1 (i := 1) (by decide +kernel) rfl), (zTB_5 (i := 24) (by decide +kernel) rfl), ⟨by decide, by decide, by decide⟩, by decide⟩
theorem Yv_X11_move : zyV mX11_move 2 := ⟨(zTB_3 (i := 161) (by decide +kernel) rfl), (zTB_3 (i := 162) (by decide +kernel) rfl), (zTB_1 (i := 1) (by decide +kernel) rfl), (zTB_3 (i := 163) (by decide +kernel) rfl), ⟨by decide, by decide, by decide⟩, by decide⟩
theorem Yv_X11_parts : zyV mX11_parts 0 := ⟨(zTB_5 (i := 157) (by decide +kernel) rfl), (zTB_5 (i := 158) (by decide +kernel) rfl), (zTB_1 (i := 1) (by decide +kernel) rfl), (zTB_5 (i := 159) (by decide +kernel) rfl), ⟨by decide, by decide, by decide⟩, by decide⟩
theorem Yv_X11_place : zyV mX11_place 2 := ⟨(zTB_5 (i := 0) (by decide +kernel) rfl), (zTB_5 (i := 1) (by decide +kernel) rfl), (zTB_1 (i := 1) (by decide +kernel) rfl), (zTB_5 (i := 2) (by decide +kernel) rfl), ⟨by decide, by decide, by decide⟩, by decide⟩
theorem Yv_X11_plan : zyV mX11_plan 0 := ⟨(zTB_3 (i := 85) (by decide +kernel) rfl), (zTB_3 (i := 86) (by decide +kernel) rfl), (zTB_1 (i := 1) (by decide +kernel) rfl), (zTB_3 (i := 87) (by decide +kernel) rfl), ⟨by decide, by decide, by decide⟩, by decide⟩
theorem Yv_X11_poles : zyV mX11_poles 3 := ⟨(zTB_4 (i := 36) (by decide +kernel) rfl), (zTB_4 (i := 37) (by decide +kernel) rfl), (zTB_1 (i := 1) (by decide +kernel) rfl), (zTB_4 (i := 38) (by decide +kernel) rfl), ⟨by decide, by decide, by decide⟩, by decide⟩
theorem Yv_X11_prizes : zyV mX11_prizes 0 := ⟨(zTB_3 (i := 138) (by decide +kernel) rfl), (zTB_3 (i := 139) (by decide +kernel) rfl), (zTB_1 (i := 1) (by decide +kernel) rfl), (zTB_3 (i := 140) (by decide +kernel) rfl), ⟨by decide, by decide, by decide⟩, by decide⟩
theorem Yv_X11_quick : zyV mX11_quick 2 := ⟨(zTB_4 (i := 92) (by decide +kernel) rfl), (zTB_4 (i := 93) (by decide +kernel) rfl), (zTB_1 (i := 1) (by decide +kernel) rfl), (zTB_4 (i := 94) (by decide +kernel) rfl), ⟨by decide, by decide, by decide⟩, by decide⟩
theorem Yv_X11_raise : zyV mX11_raise 2 := ⟨(zTB_3 (i := 153) (by decide +kernel) rfl), (zTB_3 (i := 154) (by decide +kernel) rfl), (zTB_1 (i := 1) (by decide +kernel) rfl), (zTB_3 (i := 155) (by decide +kernel) rfl), ⟨by decide, by decide, by decide⟩, by decide⟩
theorem Yv_X11_ride : zyV mX11_ride 4 := ⟨(zTB_4 (i := 104) (by decide +kernel) rfl), (zTB_4 (i := 105) (by decide +kernel) rfl), (zTB_1 (i := 1) (by decide +kernel) rfl), (zTB_4 (i := 106) (by decide +kernel) rfl), ⟨by decide, by decide, by decide⟩, by decide⟩
theorem Yv_X11_riders : zyV mX11_riders 2 := ⟨(zTB_5 (i := 176) (by decide +kernel) rfl), (zTB_5 (i := 177) (by decide +kernel) rfl), (zTB_1 (i := 1) (by decide +kernel) rfl), (zTB_5 (i := 178) (by decide +kernel) rfl), ⟨by decide, by decide, by decide⟩, by decide⟩
theorem Yv_X11_ring : zyV mX11_ring 0 := ⟨(zTB_2 (i := 178) (by decide +kernel) rfl), (zTB_2 (i := 179) (by decide +kernel) rfl), (zTB_1 (i := 1) (by decide +kernel) rfl), (zTB_2 (i := 180) (by decide +kernel) rfl), ⟨by decide, by decide, by decide⟩, by decide⟩
theorem Yv_X11_round : zyV mX11_round 2 := ⟨(zTB_6 (i := 52) (by decide +kernel) rfl), (zTB_6 (i := 53) (by decide +kernel) rfl), (zTB_1 (i := 1) (by decide +kernel) rfl), (zTB_6 (i := 54) (by decide +kernel) rfl), ⟨by decide, by decide, by decide⟩, by decide⟩
theorem Yv_X11_row : zyV mX11_row 1 := ⟨(zTB_6 (i := 59) (by decide +kernel) rfl), (zTB_6 (i := 60) (by decide +kernel) rfl), (zTB_1 (i := 1) (by decide +kernel) rfl), (zTB_6 (i := 61) (by decide +kernel) rfl), ⟨by decide, by decide, by decide⟩, by decide⟩
theorem Yv_X11_rule : zyV mX11_rule 0 := ⟨(zTB_3 (i := 94) (by decide +kernel) rfl), (zTB_3 (i := 95) (by decide +kernel) rfl), (zTB_1 (i := 1) (by decide +kernel) rfl), (zTB_3 (i := 96) (by decide +kernel) rfl), ⟨by decide, by decide, by decide⟩, by decide⟩
theorem Yv_X11_share : zyV mX11_share 1 := ⟨(zTB_5 (i := 117) (by decide +kernel) rfl), (zTB_5 (i := 118) (by decide +kernel) rfl), (zTB_1 (i := 1) (by decide +kernel) rfl), (zTB_5 (i := 119) (by decide +kernel) rfl), ⟨by decide, by decide, by decide⟩, by decide⟩
theorem Yv_X11_sheet : zyV mX11_sheet 4 := ⟨(zTB_3 (i := 169) (by decide +kernel) rfl), (zTB_3 (i := 170) (by decide +kernel) rfl), (zTB_1 (i := 1) (by decide +kernel) rfl), (zTB_3 (i := 171) (by decide +kernel) rfl), ⟨by decide, by decide, by decide⟩, by decide⟩
theorem Yv_X11_show : zyV mX11_show 0 := ⟨(zTB_4 (i := 172) (by decide +kernel) rfl), (zTB_4 (i := 173) (by decide +kernel) rfl), (zTB_1 (i := 1) (by decide +kernel) rfl), (zTB_4 (i := 174) (by decide +kernel) rfl), ⟨by decide, by decide, by decide⟩, by decide⟩
theorem Yv_X11_sign : zyV mX11_sign 1 := ⟨(zTB_2 (i := 162) (by decide +kernel) rfl), (zTB_2 (i := 163) (by decide +kernel) rfl), (zTB_1 (i := 1) (by decide +kernel) rfl), (zTB_2 (i := 164) (by decide +kernel) rfl), ⟨by decide, by decide, by decide⟩, by decide⟩
theorem Yv_X11_strides : zyV mX11_strides 2 := ⟨(zTB_3 (i := 236) (by decide +kernel) rfl), (zTB_3 (i := 237) (by decide +kernel) rfl), (zTB_1 (i := 1) (by decide +kernel) rfl), (zTB_3 (i := 238) (by decide +kernel) rfl), ⟨by decide, by decide, by decide⟩, by decide⟩
theorem Yv_X11_sure : zyV mX11_sure 1 := ⟨(zTB_4 (i := 100) (by decide +kernel) rfl), (zTB_4 (i := 101) (by decide +kernel) rfl), (zTB_1 (i := 1) (by decide +kernel) rfl), (zTB_4 (i := 102) (by decide +kernel) rfl), ⟨by decide, by decide, by decide⟩, by decide⟩
theorem Yv_X11_table : zyV mX11_table 0 := ⟨(zTB_4 (i := 226) (by decide +kernel) rfl), (zTB_4 (i := 227) (by decide +kernel) rfl), (zTB_1 (i := 1) (by decide +kernel) rfl), (zTB_4 (i := 228) (by decide +kernel) rfl), ⟨by decide, by decide, by decide⟩, by decide⟩
theorem Yv_X11_through : zyV mX11_through 2 := ⟨(zTB_5 (i := 122) (by decide +kernel) rfl), (zTB_5 (i := 123) (by decide +kernel) rfl), (zTB_1 (i := 1) (by decide +kernel) rfl), (zTB_5 (i := 124) (by decide +kernel) rfl), ⟨by decide, by decide, by decide⟩, by decide⟩
theorem Yv_X11_told : zyV mX11_told 4 := ⟨(zTB_4 (i := 161) (by decide +kernel) rfl), (zTB_4 (i := 162) (by decide +kernel) rfl), (zTB_1 (i := 1) (by decide +kernel) rfl), (zTB_4 (i := 163) (by decide +kernel) rfl), ⟨by decide, by decide, by decide⟩, by decide⟩
theorem Yv_X11_undo : zyV mX11_undo 0 := ⟨(zTB_4 (i := 214) (by decide +kernel) rfl), (zTB_4 (i := 215) (by decide +kernel) rfl), (zTB_1 (i := 1) (by decide +kernel) rfl), (zTB_4 (i := 216) (by decide +kernel) rfl), ⟨by decide, by decide, by decide⟩, by decide⟩
theorem Yv_X11_wind : zyV mX11_wind 4 := ⟨(zTB_5 (i := 187) (by decide +kernel) rfl), (zTB_5 (i := 188) (by decide +kernel) rfl), (zTB_1 (i := 1) (by decide +kernel) rfl), (zTB_5 (i := 189) (by decide +kernel) rfl), ⟨by decide, by decide, by decide⟩, by decide⟩
theorem Yv_X12_again : zyV mX12_again 1 := ⟨(zTB_8 (i := 224) (by decide +kernel) rfl), (zTB_8 (i := 225) (by decide +kernel) rfl), (zTB_1 (i := 15) (by decide +kernel) rfl), (zTB_8 (i := 226) (by decide +kernel) rfl), ⟨by decide, by decide, by decide⟩, by decide⟩
theorem Yv_X12_allow : zyV mX12_allow 1 := ⟨(zTB_7 (i := 136) (by decide +kernel) rfl), (zTB_7 (i := 137) (by decide +kernel) rfl), (zTB_1 (i := 15) (by decide +kernel) rfl), (zTB_7 (i := 138) (by decide +kernel) rfl), ⟨by decide, by decide, by decide⟩, by decide⟩
theorem Yv_X12_beat : zyV mX12_beat 1 := ⟨(zTB_8 (i := 102) (by decide +kernel) rfl), (zTB_8 (i := 103) (by decide +kernel) rfl), (zTB_1 (i := 15) (by decide +kernel) rfl), (zTB_8 (i := 104) (by decide +kernel) rfl), ⟨by decide, by decide, by decide⟩, by decide⟩
theorem Yv_X12_built : zyV mX12_built 3 := ⟨(zTB_8 (i := 186) (by decide +kernel) rfl), (zTB_8 (i := 187) (by decide +kernel) rfl), (zTB_1 (i := 15) (by decide +kernel) rfl), (zTB_8 (i := 188) (by decide +kernel) rfl), ⟨by decide, by decide, by decide⟩, by decide⟩
theorem Yv_X12_buy : zyV mX12_buy 0 := ⟨(zTB_8 (i := 130) (by decide +kernel) rfl), (zTB_8 (i := 131) (by decide +kernel) rfl), (zTB_1 (i := 15) (by decide +kernel) rfl), (zTB_8 (i := 132) (by decide +kernel) rfl), ⟨by decide, by decide, by decide⟩, by decide⟩
theorem Yv_X12_calm : zyV mX12_calm 2 := ⟨(zTB_7 (i := 176) (by decide +kernel) rfl), (zTB_7 (i := 177) (by decide +kernel) rfl), (zTB_1 (i := 15) (by decide +kernel) rfl), (zTB_7 (i := 178) (by decide +kernel) rfl), ⟨by decide, by decide, by decide⟩, by decide⟩
theorem Yv_X12_count : zyV mX12_count 1 := ⟨(zTB_8 (i := 228) (by decide +kernel) rfl), (zTB_8 (i := 229) (by decide +kernel) rfl), (zTB_1 (i := 15) (by decide +kernel) rfl), (zTB_8 (i := 230) (by decide +kernel) rfl), ⟨by decide, by decide, by decide⟩, by decide⟩
theorem Yv_X12_cuts : zyV mX12_cuts 2 := ⟨(zTB_7 (i := 221) (by decide +kernel) rfl), (zTB_7 (i := 222) (by decide +kernel) rfl), (zTB_1 (i := 15) (by decide +kernel) rfl), (zTB_7 (i := 223) (by decide +kernel) rfl), ⟨by decide, by decide, by decide⟩, by decide⟩
theorem Yv_X12_end : zyV mX12_end 1 := ⟨(zTB_7 (i := 13) (by decide +kernel) rfl), (zTB_7 (i := 14) (by decide +kernel) rfl), (zTB_1 (i := 15) (by decide +kernel) rfl), (zTB_7 (i := 15) (by decide +kernel) rfl), ⟨by decide, by decide, by decide⟩, by decide⟩
theorem Yv_X12_fair : zyV mX12_fair 1 := ⟨(zTB_8 (i := 191) (by decide +kernel) rfl), (zTB_8 (i := 192) (by decide +kernel) rfl), (zTB_1 (i := 15) (by decide +kernel) rfl), (zTB_8 (i := 193) (by decide +kernel) rfl), ⟨by decide, by decide, by decide⟩, by decide⟩
theorem Yv_X12_falls : zyV mX12_falls 2 := ⟨(zTB_7 (i := 213) (by decide +kernel) rfl), (zTB_7 (i := 214) (by decide +kernel) rfl), (zTB_1 (i := 15) (by decide +kernel) rfl), (zTB_7 (i := 215) (by decide +kernel) rfl), ⟨by decide, by decide, by decide⟩, by decide⟩
theorem Yv_X12_fear : zyV mX12_fear 2 := ⟨(zTB_7 (i := 181) (by decide +kernel) rfl), (zTB_7 (i := 182) (by decide +kernel) rfl), (zTB_1 (i := 15) (by decide +kernel) rfl), (zTB_7 (i := 183) (by decide +kernel) rfl), ⟨by decide, by decide, by decide⟩, by decide⟩
theorem Yv_X12_fence : zyV mX12_fence 2 := ⟨(zTB_7 (i := 108) (by decide +kernel) rfl), (zTB_7 (i := 109) (by decide +kernel) rfl), (zTB_1 (i := 15) (by decide +kernel) rfl), (zTB_7 (i := 110) (by decide +kernel) rfl), ⟨by decide, by decide, by decide⟩, by decide⟩
theorem Yv_X12_game : zyV mX12_game 0 := ⟨(zTB_8 (i := 134) (by decide +kernel) rfl), (zTB_8 (i := 135) (by decide +kernel) rfl), (zTB_1 (i := 15) (by decide +kernel) rfl), (zTB_8 (i := 136) (by decide +kernel) rfl), ⟨by decide, by decide, by decide⟩, by decide⟩
theorem Yv_X12_horse : zyV mX12_horse 2 := ⟨(zTB_7 (i := 120) (by decide +kernel) rfl), (zTB_7 (i := 121) (by decide +kernel) rfl), (zTB_1 (i := 15) (by decide +kernel) rfl), (zTB_7 (i := 122) (by decide +kernel) rfl), ⟨by decide, by decide, by decide⟩, by decide⟩
theorem Yv_X12_horses : zyV mX12_horses 0 := ⟨(zTB_7 (i := 59) (by decide +kernel) rfl), (zTB_7 (i := 60) (by decide +kernel) rfl), (zTB_1 (i := 15) (by decide +kernel) rfl), (zTB_7 (i := 61) (by decide +kernel) rfl), ⟨by decide, by decide, by decide⟩, by decide⟩
theorem Yv_X12_jump : zyV mX12_jump 3 := ⟨(zTB_7 (i := 148) (by decide +kernel) rfl), (zTB_7 (i := 149) (by decide +kernel) rfl), (zTB_1 (i := 15) (by decide +kernel) rfl), (zTB_7 (i := 150) (by decide +kernel) rfl), ⟨by decide, by decide, by decide⟩, by decide⟩
theorem Yv_X12_keep : zyV mX12_keep 1 := ⟨(zTB_8 (i := 220) (by decide +kernel) rfl), (zTB_8 (i := 221) (by decide +kernel) rfl), (zTB_1 (i := 15) (by decide +kernel) rfl), (zTB_8 (i := 222) (by decide +kernel) rfl), ⟨by decide, by decide, by decide⟩, by decide⟩
theorem Yv_X12_last : zyV mX12_last 1 := ⟨(zTB_8 (i := 122) (by decide +kernel) rfl), (zTB_8 (i := 123) (by decide +kernel) rfl), (zTB_1 (i := 15) (by decide +kernel) rfl), (zTB_8 (i := 124) (by decide +kernel) rfl), ⟨by decide, by decide, by decide⟩, by decide⟩
theorem Yv_X12_law : zyV mX12_law 2 := ⟨(zTB_8 (i := 106) (by decide +kernel) rfl), (zTB_8 (i := 107) (by decide +kernel) rfl), (zTB_1 (i := 15) (by decide +kernel) rfl), (zTB_8 (i := 108) (by decide +kernel) rfl), ⟨by decide, by decide, by decide⟩, by decide⟩
theorem Yv_X12_look : zyV mX12_look 3 := ⟨(zTB_8 (i := 45) (by decide +kernel) rfl), (zTB_8 (i := 46) (by decide +kernel) rfl), (zTB_1 (i := 15) (by decide +kernel) rfl), (zTB_8 (i := 47) (by decide +kernel) rfl), ⟨by decide, by decide, by decide⟩, by decide⟩
theorem Yv_X12_lot : zyV mX12_lot 0 := ⟨(zTB_8 (i := 167) (by decide +kernel) rfl), (zTB_8 (i := 168) (by decide +kernel) rfl), (zTB_1 (i := 15) (by decide +kernel) rfl), (zTB_8 (i := 169) (by decide +kernel) rfl), ⟨by decide, by decide, by decide⟩, by decide⟩
theorem Yv_X12_mean : zyV mX12_mean 2 := ⟨(zTB_8 (i := 110) (by decide +kernel) rfl), (zTB_8 (i := 111) (by decide +kernel) rfl), (zTB_1 (i := 15) (by decide +kernel) rfl), (zTB_8 (i := 112) (by decide +kernel) rfl), ⟨by decide, by decide, by decide⟩, by decide⟩
theorem Yv_X12_move : zyV mX12_move 2 := ⟨(zTB_7 (i := 132) (by decide +kernel) rfl), (zTB_7 (i := 133) (by decide +kernel) rfl), (zTB_1 (i := 15) (by decide +kernel) rfl), (zTB_7 (i := 134) (by decide +kernel) rfl), ⟨by decide, by decide, by decide⟩, by decide⟩
theorem Yv_X12_parts : zyV mX12_parts 0 := ⟨(zTB_8 (i := 195) (by decide +kernel) rfl), (zTB_8 (i := 196) (by decide +kernel) rfl), (zTB_1 (i := 15) (by decide +kernel) rfl), (zTB_8 (i := 197) (by decide +kernel) rfl), ⟨by decide, by decide, by decide⟩, by decide⟩
theorem Yv_X12_place : zyV mX12_place 2 := ⟨(zTB_8 (i := 95) (by decide +kernel) rfl), (zTB_8 (i := 96) (by decide +kernel) rfl), (zTB_1 (i := 15) (by decide +kernel) rfl), (zTB_8 (i := 97) (by decide +kernel) rfl), ⟨by decide, by decide, by decide⟩, by decide⟩
theorem Yv_X12_plan : zyV mX12_plan 0 := ⟨(zTB_7 (i := 67) (by decide +kernel) rfl), (zTB_7 (i := 68) (by decide +kernel) rfl), (zTB_1 (i := 15) (by decide +kernel) rfl), (zTB_7 (i := 69) (by decide +kernel) rfl), ⟨by decide, by decide, by decide⟩, by decide⟩
theorem Yv_X12_poles : zyV mX12_poles 3 := ⟨(zTB_7 (i := 217) (by decide +kernel) rfl), (zTB_7 (i := 218) (by decide +kernel) rfl), (zTB_1 (i := 15) (by decide +kernel) rfl), (zTB_7 (i := 219) (by decide +kernel) rfl), ⟨by decide, by decide, by decide⟩, by decide⟩
theorem Yv_X12_prizes : zyV mX12_prizes 0 := ⟨(zTB_7 (i := 71) (by decide +kernel) rfl), (zTB_7 (i := 72) (by decide +kernel) rfl), (zTB_1 (i := 15) (by decide +kernel) rfl), (zTB_7 (i := 73) (by decide +kernel) rfl), ⟨by decide, by decide, by decide⟩, by decide⟩
theorem Yv_X12_quick : zyV mX12_quick 2 := ⟨(zTB_8 (i := 1) (by decide +kernel) rfl), (zTB_8 (i := 2) (by decide +kernel) rfl), (zTB_1 (i := 15) (by decide +kernel) rfl), (zTB_8 (i := 3) (by decide +kernel) rfl), ⟨by decide, by decide, by decide⟩, by decide⟩
theorem Yv_X12_raise : zyV mX12_raise 2 := ⟨(zTB_7 (i := 128) (by decide +kernel) rfl), (zTB_7 (i := 129) (by decide +kernel) rfl), (zTB_1 (i := 15) (by decide +kernel) rfl), (zTB_7 (i := 130) (by decide +kernel) rfl), ⟨by decide, by decide, by decide⟩, by decide⟩
theorem Yv_X12_ride : zyV mX12_ride 4 := ⟨(zTB_8 (i := 10) (by decide +kernel) rfl), (zTB_8 (i := 11) (by decide +kernel) rfl), (zTB_1 (i := 15) (by decide +kernel) rfl), (zTB_8 (i := 12) (by decide +kernel) rfl), ⟨by decide, by decide, by decide⟩, by decide⟩
theorem Yv_X12_riders : zyV mX12_riders 2 := ⟨(zTB_8 (i := 203) (by decide +kernel) rfl), (zTB_8 (i := 204) (by decide +kernel) rfl), (zTB_1 (i := 15) (by decide +kernel) rfl), (zTB_8 (i := 205) (by decide +kernel) rfl), ⟨by decide, by decide, by decide⟩, by decide⟩
theorem Yv_X12_ring : zyV mX12_ring 0 := ⟨(zTB_7 (i := 20) (by decide +kernel) rfl), (zTB_7 (i := 21) (by decide +kernel) rfl), (zTB_1 (i := 15) (by decide +kernel) rfl), (zTB_7 (i := 22) (by decide +kernel) rfl), ⟨by decide, by decide, by decide⟩, by decide⟩
theorem Yv_X12_round : zyV mX12_round 2 := ⟨(zTB_8 (i := 73) (by decide +kernel) rfl), (zTB_8 (i := 74) (by decide +kernel) rfl), (zTB_1 (i := 15) (by decide +kernel) rfl), (zTB_8 (i := 75) (by decide +kernel) rfl), ⟨by decide, by decide, by decide⟩, by decide⟩
theorem Yv_X12_row : zyV mX12_row 1 := ⟨(zTB_8 (i := 232) (by decide +kernel) rfl), (zTB_8 (i := 233) (by decide +kernel) rfl), (zTB_1 (i := 15) (by decide +kernel) rfl), (zTB_8 (i := 234) (by decide +kernel) rfl), ⟨by decide, by decide, by decide⟩, by decide⟩
theorem Yv_X12_rule : zyV mX12_rule 0 := ⟨(zTB_7 (i := 79) (by decide +kernel) rfl), (zTB_7 (i := 80) (by decide +kernel) rfl), (zTB_1 (i := 15) (by decide +kernel) rfl), (zTB_7 (i := 81) (by decide +kernel) rfl), ⟨by decide, by decide, by decide⟩, by decide⟩
theorem Yv_X12_share : zyV mX12_share 1 := ⟨(zTB_8 (i := 171) (by decide +kernel) rfl), (zTB_8 (i := 172) (by decide +kernel) rfl), (zTB_1 (i := 15) (by decide +kernel) rfl), (zTB_8 (i := 173) (by decide +kernel) rfl), ⟨by decide, by decide, by decide⟩, by decide⟩
theorem Yv_X12_sheet : zyV mX12_sheet 4 := ⟨(zTB_7 (i := 143) (by decide +kernel) rfl), (zTB_7 (i := 144) (by decide +kernel) rfl), (zTB_1 (i := 15) (by decide +kernel) rfl), (zTB_7 (i := 145) (by decide +kernel) rfl), ⟨by decide, by decide, by decide⟩, by decide⟩
theorem Yv_X12_show : zyV mX12_show 0 := ⟨(zTB_8 (i := 57) (by decide +kernel) rfl), (zTB_8 (i := 58) (by decide +kernel) rfl), (zTB_1 (i := 15) (by decide +kernel) rfl), (zTB_8 (i := 59) (by decide +kernel) rfl), ⟨by decide, by decide, by decide⟩, by decide⟩
theorem Yv_X12_sign : zyV mX12_sign 1 := ⟨(zTB_7 (i := 9) (by decide +kernel) rfl), (zTB_7 (i := 10) (by decide +kernel) rfl), (zTB_1 (i := 15) (by decide +kernel) rfl), (zTB_7 (i := 11) (by decide +kernel) rfl), ⟨by decide, by decide, by decide⟩, by decide⟩
theorem Yv_X12_strides : zyV mX12_strides 2 := ⟨(zTB_7 (i := 172) (by decide +kernel) rfl), (zTB_7 (i := 173) (by decide +kernel) rfl), (zTB_1 (i := 15) (by decide +kernel) rfl), (zTB_7 (i := 174) (by decide +kernel) rfl), ⟨by decide, by decide, by decide⟩, by decide⟩
theorem Yv_X12_sure : zyV mX12_sure 1 := ⟨(zTB_8 (i := 5) (by decide +kernel) rfl), (zTB_8 (i := 6) (by decide +kernel) rfl), (zTB_1 (i := 15) (by decide +kernel) rfl), (zTB_8 (i := 7) (by decide +kernel) rfl), ⟨by decide, by decide, by decide⟩, by decide⟩
theorem Yv_X12_table : zyV mX12_table 0 := ⟨(zTB_8 (i := 87) (by decide +kernel) rfl), (zTB_8 (i := 88) (by decide +kernel) rfl), (zTB_1 (i := 15) (by decide +kernel) rfl), (zTB_8 (i := 89) (by decide +kernel) rfl), ⟨by decide, by decide, by decide⟩, by decide⟩
theorem Yv_X12_through : zyV mX12_through 2 := ⟨(zTB_8 (i := 177) (by decide +kernel) rfl), (zTB_8 (i := 178) (by decide +kernel) rfl), (zTB_1 (i := 15) (by decide +kernel) rfl), (zTB_8 (i := 179) (by decide +kernel) rfl), ⟨by decide, by decide, by decide⟩, by decide⟩
theorem Yv_X12_thrown : zyV mX12_thrown 0 := ⟨(zTB_7 (i := 5) (by decide +kernel) rfl), (zTB_7 (i := 6) (by decide +kernel) rfl), (zTB_1 (i := 15) (by decide +kernel) rfl), (zTB_7 (i := 7) (by decide +kernel) rfl), ⟨by decide, by decide, by decide⟩, by decide⟩
theorem Yv_X12_told : zyV mX12_told 4 := ⟨(zTB_8 (i := 49) (by decide +kernel) rfl), (zTB_8 (i := 50) (by decide +kernel) rfl), (zTB_1 (i := 15) (by decide +kernel) rfl), (zTB_8 (i := 51) (by decide +kernel) rfl), ⟨by decide, by decide, by decide⟩, by decide⟩
theorem Yv_X12_undo : zyV mX12_undo 0 := ⟨(zTB_8 (i := 69) (by decide +kernel) rfl), (zTB_8 (i := 70) (by decide +kernel) rfl), (zTB_1 (i := 15) (by decide +kernel) rfl), (zTB_8 (i := 71) (by decide +kernel) rfl), ⟨by decide, by decide, by decide⟩, by decide⟩
theorem Yv_X12_wind : zyV mX12_wind 4 := ⟨(zTB_8 (i := 211) (by decide +kernel) rfl), (zTB_8 (i := 212) (by decide +kernel) rfl), (zTB_1 (i := 15) (by decide +kernel) rfl), (zTB_8 (i := 213) (by decide +kernel) rfl), ⟨by decide, by decide, by decide⟩, by decide⟩
theorem ML_L_7 : zml RL 7 yX11_fence := Or.inl (zTB_5 (i := 216) (by decide +kernel) rfl)
theorem ML_L_15 : zml RL 15 yX11_horse := Or.inl (zTB_6 (i := 44) (by decide +kernel) rfl)
theorem ML_L_18 : zml RL 18 yX11_round := Or.inl (zTB_6 (i := 51) (by decide +kernel) rfl)
theorem ML_L_21 : zml RL 21 yX11_row := Or.inl (zTB_6 (i := 58) (by decide +kernel) rfl)
theorem ML_L_29 : zml RL 29 yX11_sign := Or.inl (zTB_2 (i := 161) (by decide +kernel) rfl)
theorem ML_L_33 : zml RL 33 yX12_sign := Or.inl (zTB_7 (i := 8) (by decide +kernel) rfl)
theorem ML_L_34 : zml RL 34 yX11_end := Or.inl (zTB_2 (i := 169) (by decide +kernel) rfl)
theorem ML_L_38 : zml RL 38 yX12_end := Or.inl (zTB_7 (i := 12) (by decide +kernel) rfl)
theorem ML_L_39 : zml RL 39 yX11_ring := Or.inl (zTB_2 (i := 177) (by decide +kernel) rfl)
theorem ML_L_43 : zml RL 43 yX12_ring := Or.inl (zTB_7 (i := 19) (by decide +kernel) rfl)
theorem ML_L_44 : zml RL 44 yX11_horses := Or.inl (zTB_3 (i := 72) (by decide +kernel) rfl)
theorem ML_L_47 : zml RL 47 yX12_horses := Or.inl (zTB_7 (i := 58) (by decide +kernel) rfl)
theorem ML_L_48 : zml RL 48 yX11_plan := Or.inl (zTB_3 (i := 84) (by decide +kernel) rfl)
theorem ML_L_51 : zml RL 51 yX12_plan := Or.inl (zTB_7 (i := 66) (by decide +kernel) rfl)
theorem ML_L_52 : zml RL 52 yX11_rule := Or.inl (zTB_3 (i := 93) (by decide +kernel) rfl)
theorem ML_L_55 : zml RL 55 yX12_rule := Or.inl (zTB_7 (i := 78) (by decide +kernel) rfl)
theorem ML_L_56 : zml RL 56 yX11_prizes := Or.inl (zTB_3 (i := 137) (by decide +kernel) rfl)
theorem ML_L_59 : zml RL 59 yX12_prizes := Or.inl (zTB_7 (i := 70) (by decide +kernel) rfl)
theorem ML_L_65 : zml RL 65 yX12_fence := Or.inl (zTB_7 (i := 107) (by decide +kernel) rfl)
theorem ML_L_66 : zml RL 66 yX12_thrown := Or.inl (zTB_7 (i := 4) (by decide +kernel) rfl)
theorem ML_L_71 : zml RL 71 yX12_horse := Or.inl (zTB_7 (i := 119) (by decide +kernel) rfl)
theorem ML_L_72 : zml RL 72 yX11_raise := Or.inl (zTB_3 (i := 152) (by decide +kernel) rfl)
theorem ML_L_75 : zml RL 75 yX12_raise := Or.inl (zTB_7 (i := 127) (by decide +kernel) rfl)
theorem ML_L_76 : zml RL 76 yX11_move := Or.inl (zTB_3 (i := 160) (by decide +kernel) rfl)
theorem ML_L_79 : zml RL 79 yX12_move := Or.inl (zTB_7 (i := 131) (by decide +kernel) rfl)
theorem ML_L_80 : zml RL 80 yX11_allow := Or.inl (zTB_3 (i := 164) (by decide +kernel) rfl)
theorem ML_L_83 : zml RL 83 yX12_allow := Or.inl (zTB_7 (i := 135) (by decide +kernel) rfl)
theorem ML_L_84 : zml RL 84 yX11_sheet := Or.inl (zTB_3 (i := 168) (by decide +kernel) rfl)
theorem ML_L_88 : zml RL 88 yX12_sheet := Or.inl (zTB_7 (i := 142) (by decide +kernel) rfl)
theorem ML_L_89 : zml RL 89 yX11_jump := Or.inl (zTB_3 (i := 177) (by decide +kernel) rfl)
theorem ML_L_93 : zml RL 93 yX12_jump := Or.inl (zTB_7 (i := 147) (by decide +kernel) rfl)
theorem ML_L_94 : zml RL 94 yX11_strides := Or.inl (zTB_3 (i := 235) (by decide +kernel) rfl)
theorem ML_L_97 : zml RL 97 yX12_strides := Or.inl (zTB_7 (i := 171) (by decide +kernel) rfl)
theorem ML_L_98 : zml RL 98 yX11_calm := Or.inl (zTB_4 (i := 0) (by decide +kernel) rfl)
theorem ML_L_101 : zml RL 101 yX12_calm := Or.inl (zTB_7 (i := 175) (by decide +kernel) rfl)
theorem ML_L_102 : zml RL 102 yX11_fear := Or.inl (zTB_4 (i := 4) (by decide +kernel) rfl)
theorem ML_L_105 : zml RL 105 yX12_fear := Or.inl (zTB_7 (i := 180) (by decide +kernel) rfl)
theorem ML_L_106 : zml RL 106 yX11_falls := Or.inl (zTB_4 (i := 31) (by decide +kernel) rfl)
theorem ML_L_109 : zml RL 109 yX12_falls := Or.inl (zTB_7 (i := 212) (by decide +kernel) rfl)
theorem ML_L_110 : zml RL 110 yX11_poles := Or.inl (zTB_4 (i := 35) (by decide +kernel) rfl)
theorem ML_L_113 : zml RL 113 yX12_poles := Or.inl (zTB_7 (i := 216) (by decide +kernel) rfl)
theorem ML_L_114 : zml RL 114 yX11_cuts := Or.inl (zTB_4 (i := 44) (by decide +kernel) rfl)
theorem ML_L_117 : zml RL 117 yX12_cuts := Or.inl (zTB_7 (i := 220) (by decide +kernel) rfl)
theorem ML_L_118 : zml RL 118 yX11_curve := Or.inl (zTB_4 (i := 49) (by decide +kernel) rfl)
theorem ML_L_121 : zml RL 121 yX12_curve := Or.inl (zTB_7 (i := 224) (by decide +kernel) rfl)
theorem ML_L_122 : zml RL 122 yX11_quick := Or.inl (zTB_4 (i := 91) (by decide +kernel) rfl)
theorem ML_L_125 : zml RL 125 yX12_quick := Or.inl (zTB_8 (i := 0) (by decide +kernel) rfl)
theorem ML_L_126 : zml RL 126 yX11_sure := Or.inl (zTB_4 (i := 99) (by decide +kernel) rfl)
theorem ML_L_129 : zml RL 129 yX12_sure := Or.inl (zTB_8 (i := 4) (by decide +kernel) rfl)
theorem ML_L_130 : zml RL 130 yX11_ride := Or.inl (zTB_4 (i := 103) (by decide +kernel) rfl)
theorem ML_L_133 : zml RL 133 yX12_ride := Or.inl (zTB_8 (i := 9) (by decide +kernel) rfl)
theorem ML_L_134 : zml RL 134 yX11_look := Or.inl (zTB_4 (i := 156) (by decide +kernel) rfl)
theorem ML_L_137 : zml RL 137 yX12_look := Or.inl (zTB_8 (i := 44) (by decide +kernel) rfl)
theorem ML_L_138 : zml RL 138 yX11_told := Or.inl (zTB_4 (i := 160) (by decide +kernel) rfl)
theorem ML_L_141 : zml RL 141 yX12_told := Or.inl (zTB_8 (i := 48) (by decide +kernel) rfl)
theorem ML_L_142 : zml RL 142 yX11_show := Or.inl (zTB_4 (i := 171) (by decide +kernel) rfl)
theorem ML_L_145 : zml RL 145 yX12_show := Or.inl (zTB_8 (i := 56) (by decide +kernel) rfl)
theorem ML_L_146 : zml RL 146 yX11_undo := Or.inl (zTB_4 (i := 213) (by decide +kernel) rfl)
theorem ML_L_149 : zml RL 149 yX12_undo := Or.inl (zTB_8 (i := 68) (by decide +kernel) rfl)
theorem ML_L_152 : zml RL 152 yX12_round := Or.inl (zTB_8 (i := 72) (by decide +kernel) rfl)
theorem ML_L_153 : zml RL 153 yX11_table := Or.inl (zTB_4 (i := 225) (by decide +kernel) rfl)
theorem ML_L_156 : zml RL 156 yX12_table := Or.inl (zTB_8 (i := 86) (by decide +kernel) rfl)
theorem ML_L_157 : zml RL 157 yX11_place := Or.inl (zTB_4 (i := 239) (by decide +kernel) rfl)
theorem ML_L_160 : zml RL 160 yX12_place := Or.inl (zTB_8 (i := 94) (by decide +kernel) rfl)
theorem ML_L_161 : zml RL 161 yX11_beat := Or.inl (zTB_5 (i := 11) (by decide +kernel) rfl)
theorem ML_L_164 : zml RL 164 yX12_beat := Or.inl (zTB_8 (i := 101) (by decide +kernel) rfl)
theorem ML_L_165 : zml RL 165 yX11_law := Or.inl (zTB_5 (i := 15) (by decide +kernel) rfl)
theorem ML_L_168 : zml RL 168 yX12_law := Or.inl (zTB_8 (i := 105) (by decide +kernel) rfl)
theorem ML_L_169 : zml RL 169 yX11_mean := Or.inl (zTB_5 (i := 21) (by decide +kernel) rfl)
theorem ML_L_172 : zml RL 172 yX12_mean := Or.inl (zTB_8 (i := 109) (by decide +kernel) rfl)
theorem ML_L_173 : zml RL 173 yX11_last := Or.inl (zTB_5 (i := 33) (by decide +kernel) rfl)
theorem ML_L_176 : zml RL 176 yX12_last := Or.inl (zTB_8 (i := 121) (by decide +kernel) rfl)
theorem ML_L_177 : zml RL 177 yX11_buy := Or.inl (zTB_5 (i := 41) (by decide +kernel) rfl)
theorem ML_L_180 : zml RL 180 yX12_buy := Or.inl (zTB_8 (i := 129) (by decide +kernel) rfl)
theorem ML_L_181 : zml RL 181 yX11_game := Or.inl (zTB_5 (i := 45) (by decide +kernel) rfl)
theorem ML_L_184 : zml RL 184 yX12_game := Or.inl (zTB_8 (i := 133) (by decide +kernel) rfl)
theorem ML_L_185 : zml RL 185 yX11_lot := Or.inl (zTB_5 (i := 111) (by decide +kernel) rfl)
theorem ML_L_188 : zml RL 188 yX12_lot := Or.inl (zTB_8 (i := 166) (by decide +kernel) rfl)
theorem ML_L_189 : zml RL 189 yX11_share := Or.inl (zTB_5 (i := 116) (by decide +kernel) rfl)
theorem ML_L_192 : zml RL 192 yX12_share := Or.inl (zTB_8 (i := 170) (by decide +kernel) rfl)
theorem ML_L_193 : zml RL 193 yX11_through := Or.inl (zTB_5 (i := 121) (by decide +kernel) rfl)
theorem ML_L_196 : zml RL 196 yX12_through := Or.inl (zTB_8 (i := 176) (by decide +kernel) rfl)
theorem ML_L_197 : zml RL 197 yX11_built := Or.inl (zTB_5 (i := 135) (by decide +kernel) rfl)
theorem ML_L_200 : zml RL 200 yX12_built := Or.inl (zTB_8 (i := 185) (by decide +kernel) rfl)
theorem ML_L_201 : zml RL 201 yX11_fair := Or.inl (zTB_5 (i := 151) (by decide +kernel) rfl)
theorem ML_L_204 : zml RL 204 yX12_fair := Or.inl (zTB_8 (i := 190) (by decide +kernel) rfl)
theorem ML_L_205 : zml RL 205 yX11_parts := Or.inl (zTB_5 (i := 156) (by decide +kernel) rfl)
theorem ML_L_208 : zml RL 208 yX12_parts := Or.inl (zTB_8 (i := 194) (by decide +kernel) rfl)
theorem ML_L_209 : zml RL 209 yX11_riders := Or.inl (zTB_5 (i := 175) (by decide +kernel) rfl)
theorem ML_L_212 : zml RL 212 yX12_riders := Or.inl (zTB_8 (i := 202) (by decide +kernel) rfl)
theorem ML_L_213 : zml RL 213 yX11_wind := Or.inl (zTB_5 (i := 186) (by decide +kernel) rfl)
theorem ML_L_216 : zml RL 216 yX12_wind := Or.inl (zTB_8 (i := 210) (by decide +kernel) rfl)
theorem ML_L_217 : zml RL 217 yX11_keep := Or.inl (zTB_5 (i := 194) (by decide +kernel) rfl)
theorem ML_L_220 : zml RL 220 yX12_keep := Or.inl (zTB_8 (i := 219) (by decide +kernel) rfl)
theorem ML_L_221 : zml RL 221 yX11_again := Or.inl (zTB_5 (i := 199) (by decide +kernel) rfl)
theorem ML_L_224 : zml RL 224 yX12_again := Or.inl (zTB_8 (i := 223) (by decide +kernel) rfl)
theorem ML_L_225 : zml RL 225 yX11_count := Or.inl (zTB_5 (i := 204) (by decide +kernel) rfl)
theorem ML_L_228 : zml RL 228 yX12_count := Or.inl (zTB_8 (i := 227) (by decide +kernel) rfl)
theorem ML_L_232 : zml RL 232 yX12_row := Or.inl (zTB_8 (i := 231) (by decide +kernel) rfl)
theorem CW_fence : Cond.codeWith yL_fence cL_fence 5 (some .int) [(0, 10, 13, 13)] ∈ zTB := (zTB_5 (i := 214) (by decide +kernel) rfl)
theorem CS_fence : Cond.static yL_fence ∈ zTB := (zTB_5 (i := 213) (by decide +kernel) rfl)
theorem CK_fence : Cond.methodLink RL 60 yL_fence ∈ zTB := (zTB_5 (i := 212) (by decide +kernel) rfl)
theorem CW_horse : Cond.codeWith yL_horse cL_horse 5 (some .int) [(0, 10, 13, 13)] ∈ zTB := (zTB_6 (i := 43) (by decide +kernel) rfl)
theorem CS_horse : Cond.static yL_horse ∈ zTB := (zTB_6 (i := 42) (by decide +kernel) rfl)
theorem CK_horse : Cond.methodLink RL 69 yL_horse ∈ zTB := (zTB_6 (i := 41) (by decide +kernel) rfl)
theorem CW_round : Cond.codeWith yL_round cL_round 5 (some .int) [(0, 10, 13, 13)] ∈ zTB := (zTB_6 (i := 50) (by decide +kernel) rfl)
theorem CS_round : Cond.static yL_round ∈ zTB := (zTB_6 (i := 49) (by decide +kernel) rfl)
theorem CK_round : Cond.methodLink RL 150 yL_round ∈ zTB := (zTB_6 (i := 48) (by decide +kernel) rfl)
theorem CW_row : Cond.codeWith yL_row cL_row 4 (some .int) [(0, 8, 11, 13)] ∈ zTB := (zTB_6 (i := 57) (by decide +kernel) rfl)
theorem CS_row : Cond.static yL_row ∈ zTB := (zTB_6 (i := 56) (by decide +kernel) rfl)
theorem CK_row : Cond.methodLink RL 229 yL_row ∈ zTB := (zTB_6 (i := 55) (by decide +kernel) rfl)
theorem C_RL : Cond.initialized RL ∈ zTB := (zTB_1 (i := 0) (by decide +kernel) rfl)
theorem C_new : Cond.classLink RX11 135 "java/util/NoSuchElementException" ∈ zTB := (zTB_5 (i := 220) (by decide +kernel) rfl)
theorem C_ini : Cond.initialized "java/util/NoSuchElementException" ∈ zTB := (zTB_1 (i := 25) (by decide +kernel) rfl)
theorem C_cat : Cond.classLink RL 13 "java/util/NoSuchElementException" ∈ zTB := (zTB_5 (i := 215) (by decide +kernel) rfl)
def f_X11_fence (p1 : Int32) (p2 : Int32) (course_fences : Int32) (course_kinds : (Nat → Int32)) (course_heights : (Nat → Int32)) (course_feet : (Nat → Int32)) : Option Int32 :=
  bd1 (f_X1_hasFence p1 course_fences) <| fun rn1 =>
  if rn1 = 0 then
    none
  else
    if p2 < 0 then
      none
    else
      if p2 ≤ (2 : Int32) then
        if p2 = 0 then
          gd (ix p1 8) <|
          some (course_kinds p1.toNatClampNeg)
        else
          if p2 = (1 : Int32) then
            gd (ix p1 8) <|
            some (course_heights p1.toNatClampNeg)
          else
            gd (ix p1 8) <|
            some (course_feet p1.toNatClampNeg)
      else
        none
set_option maxRecDepth 100000 in
set_option maxHeartbeats 4000000 in
theorem t_X11_fence (l : Launch) (σ : zS) {p1 : Int32} {p2 : Int32} {course_fences : Int32} {course_kinds : (Nat → Int32)} {course_heights : (Nat → Int32)} {course_feet : (Nat → Int32)} {r : Int32} (h : f_X11_fence p1 p2 course_fences course_kinds course_heights course_feet = some r) : zMt l zW 1 mX11_fence σ ([(323, course_fences)], [(6, course_kinds), (7, course_heights), (8, course_feet)], []) [.ref 0, .int p1, .int p2] (some (.int r)) ([(323, course_fences)], [(6, course_kinds), (7, course_heights), (8, course_feet)], []) := by
  refine zMt_of (ls := [(0, .ref 0), (1, .int p1), (2, .int p2)]) (by decide) rfl (fun _ => Nat.le_of_ble_eq_true rfl) rfl ?_
  unfold f_X11_fence at h
  refine zJ_aload_n dX11_fence_0 rfl rfl ?_
  refine zJ_getr (mi := mX11_fence) dX11_fence_1 F_X11_26 zW_0 rfl rfl ?_
  refine zJ_iload_n dX11_fence_4 rfl rfl ?_
  obtain ⟨rn1, hcl, h⟩ := bd1_some h
  refine zJ_callV2 (σ := σ) (L := ([(323, course_fences)], [(6, course_kinds), (7, course_heights), (8, course_feet)], [])) (mi := mX11_fence) (yi := mX1_hasFence) (as := [.int p1]) (st := []) (L2 := ([(323, course_fences)], [(6, course_kinds), (7, course_heights), (8, course_feet)], [])) dX11_fence_5 ML_X11_132 Yv_X1_hasFence rfl zW_5 rfl rfl (t_X1_hasFence l _ hcl) (zsub_i (zle_c rfl zle_n) zle_n zle_n) (zjok_i rfl rfl (zle_c rfl zle_n) rfl rfl (zle_c rfl (zle_c rfl (zle_c rfl zle_n))) rfl rfl zle_n) (Nat.le_of_ble_eq_true rfl) (Nat.le_of_ble_eq_true rfl) rfl rfl ?_
  refine zJ_if_eq (tgt := 20) dX11_fence_8 (by decide) rfl (fun hc => ?_) (fun hc => ?_)
  · replace h := it_t hc h
    cases h
  · replace h := it_f hc h
    refine zJ_iload_n dX11_fence_11 rfl rfl ?_
    refine zJ_if_lt (tgt := 20) dX11_fence_12 (by decide) rfl (fun hc => ?_) (fun hc => ?_)
    · replace h := it_t hc h
      cases h
    · replace h := it_f hc h
      refine zJ_iload_n dX11_fence_15 rfl rfl ?_
      refine zJ_iconst dX11_fence_16 zc_2 rfl ?_
      refine zJ_icmp_le (tgt := 28) dX11_fence_17 (by decide) rfl (fun hc => ?_) (fun hc => ?_)
      · replace h := it_t hc h
        refine zJ_iload_n dX11_fence_28 rfl rfl ?_
        refine zJ_if_ne (tgt := 42) dX11_fence_29 (by decide) rfl (fun hc => ?_) (fun hc => ?_)
        · replace h := it_f hc h
          refine zJ_iload_n dX11_fence_42 rfl rfl ?_
          refine zJ_iconst dX11_fence_43 zc_1 rfl ?_
          refine zJ_icmp_ne (tgt := 59) dX11_fence_44 (by decide) rfl (fun hc => ?_) (fun hc => ?_)
          · replace h := it_f hc h
            refine zJ_aload_n dX11_fence_59 rfl rfl ?_
            refine zJ_getr (mi := mX11_fence) dX11_fence_60 F_X11_26 zW_0 rfl rfl ?_
            refine zJ_getr (mi := mX11_fence) dX11_fence_63 F_X11_144 zW_5 rfl rfl ?_
            refine zJ_iload_n dX11_fence_66 rfl rfl ?_
            obtain ⟨hg, h⟩ := gd_some h
            refine zJ_iald (mi := mX11_fence) (f := course_feet) dX11_fence_67 zW_8 (ix_in hg) rfl rfl ?_
            obtain rfl := so1 h
            exact zJ_iret dX11_fence_68 rfl rfl
          · replace h := it_t hc h
            refine zJ_aload_n dX11_fence_47 rfl rfl ?_
            refine zJ_getr (mi := mX11_fence) dX11_fence_48 F_X11_26 zW_0 rfl rfl ?_
            refine zJ_getr (mi := mX11_fence) dX11_fence_51 F_X11_141 zW_5 rfl rfl ?_
            refine zJ_iload_n dX11_fence_54 rfl rfl ?_
            obtain ⟨hg, h⟩ := gd_some h
            refine zJ_iald (mi := mX11_fence) (f := course_heights) dX11_fence_55 zW_7 (ix_in hg) rfl rfl ?_
            refine zJ_goto (tgt := 68) dX11_fence_56 (by decide) ?_
            obtain rfl := so1 h
            exact zJ_iret dX11_fence_68 rfl rfl
        · replace h := it_t hc h
          refine zJ_aload_n dX11_fence_32 rfl rfl ?_
          refine zJ_getr (mi := mX11_fence) dX11_fence_33 F_X11_26 zW_0 rfl rfl ?_
          refine zJ_getr (mi := mX11_fence) dX11_fence_36 F_X11_138 zW_5 rfl rfl ?_
          refine zJ_iload_n dX11_fence_39 rfl rfl ?_
          obtain ⟨hg, h⟩ := gd_some h
          refine zJ_iald (mi := mX11_fence) (f := course_kinds) dX11_fence_40 zW_6 (ix_in hg) rfl rfl ?_
          obtain rfl := so1 h
          exact zJ_iret dX11_fence_41 rfl rfl
      · replace h := it_f hc h
        cases h
def f_X11_horse (p1 : Int32) (p2 : Int32) (course_horseCount : Int32) (course_digits : (Nat → Int32)) : Option Int32 :=
  bd1 (f_X1_hasHorse p1 course_horseCount) <| fun rn1 =>
  if rn1 = 0 then
    none
  else
    if p2 < 0 then
      none
    else
      if p2 < (6 : Int32) then
        bd1 (f_X1_ofHorse p1 p2 course_digits) <| fun rn2 =>
        some rn2
      else
        none
set_option maxRecDepth 100000 in
set_option maxHeartbeats 4000000 in
theorem t_X11_horse (l : Launch) (σ : zS) {p1 : Int32} {p2 : Int32} {course_horseCount : Int32} {course_digits : (Nat → Int32)} {r : Int32} (h : f_X11_horse p1 p2 course_horseCount course_digits = some r) : zMt l zW 1 mX11_horse σ ([(326, course_horseCount)], [(10, course_digits)], []) [.ref 0, .int p1, .int p2] (some (.int r)) ([(326, course_horseCount)], [(10, course_digits)], []) := by
  refine zMt_of (ls := [(0, .ref 0), (1, .int p1), (2, .int p2)]) (by decide) rfl (fun _ => Nat.le_of_ble_eq_true rfl) rfl ?_
  unfold f_X11_horse at h
  refine zJ_aload_n dX11_horse_0 rfl rfl ?_
  refine zJ_getr (mi := mX11_horse) dX11_horse_1 F_X11_26 zW_0 rfl rfl ?_
  refine zJ_iload_n dX11_horse_4 rfl rfl ?_
  obtain ⟨rn1, hcl, h⟩ := bd1_some h
  refine zJ_callV2 (σ := σ) (L := ([(326, course_horseCount)], [(10, course_digits)], [])) (mi := mX11_horse) (yi := mX1_hasHorse) (as := [.int p1]) (st := []) (L2 := ([(326, course_horseCount)], [(10, course_digits)], [])) dX11_horse_5 ML_X11_147 Yv_X1_hasHorse rfl zW_5 rfl rfl (t_X1_hasHorse l _ hcl) (zsub_i (zle_c rfl zle_n) zle_n zle_n) (zjok_i rfl rfl (zle_c rfl zle_n) rfl rfl (zle_c rfl zle_n) rfl rfl zle_n) (Nat.le_of_ble_eq_true rfl) (Nat.le_of_ble_eq_true rfl) rfl rfl ?_
  refine zJ_if_eq (tgt := 21) dX11_horse_8 (by decide) rfl (fun hc => ?_) (fun hc => ?_)
  · replace h := it_t hc h
    cases h
  · replace h := it_f hc h
    refine zJ_iload_n dX11_horse_11 rfl rfl ?_
    refine zJ_if_lt (tgt := 21) dX11_horse_12 (by decide) rfl (fun hc => ?_) (fun hc => ?_)
    · replace h := it_t hc h
      cases h
    · replace h := it_f hc h
      refine zJ_iload_n dX11_horse_15 rfl rfl ?_
      refine zJ_bipush dX11_horse_16 zb_6 rfl ?_
      refine zJ_icmp_lt (tgt := 29) dX11_horse_18 (by decide) rfl (fun hc => ?_) (fun hc => ?_)
      · replace h := it_t hc h
        refine zJ_aload_n dX11_horse_29 rfl rfl ?_
        refine zJ_getr (mi := mX11_horse) dX11_horse_30 F_X11_26 zW_0 rfl rfl ?_
        refine zJ_iload_n dX11_horse_33 rfl rfl ?_
        refine zJ_iload_n dX11_horse_34 rfl rfl ?_
        obtain ⟨rn2, hcl, h⟩ := bd1_some h
        refine zJ_callV2 (σ := σ) (L := ([(326, course_horseCount)], [(10, course_digits)], [])) (mi := mX11_horse) (yi := mX1_ofHorse) (as := [.int p1, .int p2]) (st := []) (L2 := ([(326, course_horseCount)], [(10, course_digits)], [])) dX11_horse_35 ML_X11_150 Yv_X1_ofHorse rfl zW_5 rfl rfl (t_X1_ofHorse l _ hcl) (zsub_i zle_n (zle_c rfl zle_n) zle_n) (zjok_i rfl rfl (zle_c rfl zle_n) rfl rfl (zle_c rfl zle_n) rfl rfl zle_n) (Nat.le_of_ble_eq_true rfl) (Nat.le_of_ble_eq_true rfl) rfl rfl ?_
        obtain rfl := so1 h
        exact zJ_iret dX11_horse_38 rfl rfl
      · replace h := it_f hc h
        cases h
def f_X11_round (p1 : Int32) (p2 : Int32) (rounds_size : Int32) (rounds_riders : (Nat → Int32)) (rounds_horses : (Nat → Int32)) (rounds_faults : (Nat → Int32)) (rounds_tenths : (Nat → Int32)) (rounds_money : (Nat → Int32)) : Option Int32 :=
  if p1 < 0 then
    none
  else
    if rounds_size ≤ p1 then
      none
    else
      if p2 < 0 then
        none
      else
        if p2 ≤ (5 : Int32) then
          if p2 = (0 : Int32) then
            gd (ix p1 12) <|
            some (rounds_riders p1.toNatClampNeg)
          else
          if p2 = (1 : Int32) then
            gd (ix p1 12) <|
            some (rounds_horses p1.toNatClampNeg)
          else
          if p2 = (2 : Int32) then
            gd (ix p1 12) <|
            some (rounds_faults p1.toNatClampNeg)
          else
          if p2 = (3 : Int32) then
            gd (ix p1 12) <|
            some (rounds_tenths p1.toNatClampNeg)
          else
          if p2 = (4 : Int32) then
            bd1 (f_X10_placeOf_rounds_faults p1 rounds_size rounds_faults rounds_tenths) <| fun rn1 =>
            some rn1
          else
            bd1 (f_X10_placeOf_rounds_faults p1 rounds_size rounds_faults rounds_tenths) <| fun rn2 =>
            bd1 (f_X10_moneyAt rn2 rounds_money) <| fun rn3 =>
            some rn3
        else
          none
set_option maxRecDepth 100000 in
set_option maxHeartbeats 4000000 in
theorem t_X11_round (l : Launch) (σ : zS) {p1 : Int32} {p2 : Int32} {rounds_size : Int32} {rounds_riders : (Nat → Int32)} {rounds_horses : (Nat → Int32)} {rounds_faults : (Nat → Int32)} {rounds_tenths : (Nat → Int32)} {rounds_money : (Nat → Int32)} {r : Int32} (h : f_X11_round p1 p2 rounds_size rounds_riders rounds_horses rounds_faults rounds_tenths rounds_money = some r) : zMt l zW 1 mX11_round σ ([(1284, rounds_size)], [(21, rounds_riders), (22, rounds_horses), (23, rounds_faults), (24, rounds_tenths), (25, rounds_money)], []) [.ref 0, .int p1, .int p2] (some (.int r)) ([(1284, rounds_size)], [(21, rounds_riders), (22, rounds_horses), (23, rounds_faults), (24, rounds_tenths), (25, rounds_money)], []) := by
  refine zMt_of (ls := [(0, .ref 0), (1, .int p1), (2, .int p2)]) (by decide) rfl (fun _ => Nat.le_of_ble_eq_true rfl) rfl ?_
  unfold f_X11_round at h
  refine zJ_iload_n dX11_round_0 rfl rfl ?_
  refine zJ_if_lt (tgt := 24) dX11_round_1 (by decide) rfl (fun hc => ?_) (fun hc => ?_)
  · replace h := it_t hc h
    cases h
  · replace h := it_f hc h
    refine zJ_iload_n dX11_round_4 rfl rfl ?_
    refine zJ_aload_n dX11_round_5 rfl rfl ?_
    refine zJ_getr (mi := mX11_round) dX11_round_6 F_X11_33 zW_0 rfl rfl ?_
    refine zJ_geti (mi := mX11_round) (x := rounds_size) dX11_round_9 F_X11_107 zW_20 rfl rfl rfl ?_
    refine zJ_icmp_ge (tgt := 24) dX11_round_12 (by decide) rfl (fun hc => ?_) (fun hc => ?_)
    · replace h := it_t hc h
      cases h
    · replace h := it_f hc h
      refine zJ_iload_n dX11_round_15 rfl rfl ?_
      refine zJ_if_lt (tgt := 24) dX11_round_16 (by decide) rfl (fun hc => ?_) (fun hc => ?_)
      · replace h := it_t hc h
        cases h
      · replace h := it_f hc h
        refine zJ_iload_n dX11_round_19 rfl rfl ?_
        refine zJ_iconst dX11_round_20 zc_5 rfl ?_
        refine zJ_icmp_le (tgt := 32) dX11_round_21 (by decide) rfl (fun hc => ?_) (fun hc => ?_)
        · replace h := it_t hc h
          refine zJ_iload_n dX11_round_32 rfl rfl ?_
          by_cases hc0 : p2 = (0 : Int32)
          · replace h := it_t hc0 h
            refine zJ_tswI (tgt := 68) (off := 35) dX11_round_33 0 (by rw [hc0]; decide) (by decide) (by decide) rfl (by decide) ?_
            refine zJ_aload_n dX11_round_68 rfl rfl ?_
            refine zJ_getr (mi := mX11_round) dX11_round_69 F_X11_33 zW_0 rfl rfl ?_
            refine zJ_getr (mi := mX11_round) dX11_round_72 F_X11_329 zW_20 rfl rfl ?_
            refine zJ_iload_n dX11_round_75 rfl rfl ?_
            obtain ⟨hg, h⟩ := gd_some h
            refine zJ_iald (mi := mX11_round) (f := rounds_riders) dX11_round_76 zW_21 (ix_in hg) rfl rfl ?_
            obtain rfl := so1 h
            exact zJ_iret dX11_round_77 rfl rfl
          replace h := it_f hc0 h
          by_cases hc1 : p2 = (1 : Int32)
          · replace h := it_t hc1 h
            refine zJ_tswI (tgt := 78) (off := 45) dX11_round_33 1 (by rw [hc1]; decide) (by decide) (by decide) rfl (by decide) ?_
            refine zJ_aload_n dX11_round_78 rfl rfl ?_
            refine zJ_getr (mi := mX11_round) dX11_round_79 F_X11_33 zW_0 rfl rfl ?_
            refine zJ_getr (mi := mX11_round) dX11_round_82 F_X11_332 zW_20 rfl rfl ?_
            refine zJ_iload_n dX11_round_85 rfl rfl ?_
            obtain ⟨hg, h⟩ := gd_some h
            refine zJ_iald (mi := mX11_round) (f := rounds_horses) dX11_round_86 zW_22 (ix_in hg) rfl rfl ?_
            obtain rfl := so1 h
            exact zJ_iret dX11_round_87 rfl rfl
          replace h := it_f hc1 h
          by_cases hc2 : p2 = (2 : Int32)
          · replace h := it_t hc2 h
            refine zJ_tswI (tgt := 88) (off := 55) dX11_round_33 2 (by rw [hc2]; decide) (by decide) (by decide) rfl (by decide) ?_
            refine zJ_aload_n dX11_round_88 rfl rfl ?_
            refine zJ_getr (mi := mX11_round) dX11_round_89 F_X11_33 zW_0 rfl rfl ?_
            refine zJ_getr (mi := mX11_round) dX11_round_92 F_X11_335 zW_20 rfl rfl ?_
            refine zJ_iload_n dX11_round_95 rfl rfl ?_
            obtain ⟨hg, h⟩ := gd_some h
            refine zJ_iald (mi := mX11_round) (f := rounds_faults) dX11_round_96 zW_23 (ix_in hg) rfl rfl ?_
            obtain rfl := so1 h
            exact zJ_iret dX11_round_97 rfl rfl
          replace h := it_f hc2 h
          by_cases hc3 : p2 = (3 : Int32)
          · replace h := it_t hc3 h
            refine zJ_tswI (tgt := 98) (off := 65) dX11_round_33 3 (by rw [hc3]; decide) (by decide) (by decide) rfl (by decide) ?_
            refine zJ_aload_n dX11_round_98 rfl rfl ?_
            refine zJ_getr (mi := mX11_round) dX11_round_99 F_X11_33 zW_0 rfl rfl ?_
            refine zJ_getr (mi := mX11_round) dX11_round_102 F_X11_337 zW_20 rfl rfl ?_
            refine zJ_iload_n dX11_round_105 rfl rfl ?_
            obtain ⟨hg, h⟩ := gd_some h
            refine zJ_iald (mi := mX11_round) (f := rounds_tenths) dX11_round_106 zW_24 (ix_in hg) rfl rfl ?_
            obtain rfl := so1 h
            exact zJ_iret dX11_round_107 rfl rfl
          replace h := it_f hc3 h
          by_cases hc4 : p2 = (4 : Int32)
          · replace h := it_t hc4 h
            refine zJ_tswI (tgt := 108) (off := 75) dX11_round_33 4 (by rw [hc4]; decide) (by decide) (by decide) rfl (by decide) ?_
            refine zJ_aload_n dX11_round_108 rfl rfl ?_
            refine zJ_getr (mi := mX11_round) dX11_round_109 F_X11_33 zW_0 rfl rfl ?_
            refine zJ_iload_n dX11_round_112 rfl rfl ?_
            refine zJ_aload_n dX11_round_113 rfl rfl ?_
            refine zJ_getr (mi := mX11_round) dX11_round_114 F_X11_33 zW_0 rfl rfl ?_
            refine zJ_getr (mi := mX11_round) dX11_round_117 F_X11_335 zW_20 rfl rfl ?_
            obtain ⟨rn1, hcl, h⟩ := bd1_some h
            refine zJ_callV2 (σ := σ) (L := ([(1284, rounds_size)], [(21, rounds_riders), (22, rounds_horses), (23, rounds_faults), (24, rounds_tenths), (25, rounds_money)], [])) (mi := mX11_round) (yi := mX10_placeOf) (as := [.int p1, .ref 23]) (st := []) (L2 := ([(1284, rounds_size)], [(21, rounds_riders), (22, rounds_horses), (23, rounds_faults), (24, rounds_tenths), (25, rounds_money)], [])) dX11_round_120 ML_X11_339 Yv_X10_placeOf rfl zW_20 rfl rfl (t_X10_placeOf_rounds_faults l _ hcl) (zsub_i (zle_c rfl zle_n) (zle_c rfl (zle_c rfl zle_n)) zle_n) (zjok_i rfl rfl (zle_c rfl zle_n) rfl rfl (zle_c rfl (zle_c rfl (zle_c rfl (zle_c rfl (zle_c rfl zle_n))))) rfl rfl zle_n) (Nat.le_of_ble_eq_true rfl) (Nat.le_of_ble_eq_true rfl) rfl rfl ?_
            obtain rfl := so1 h
            exact zJ_iret dX11_round_123 rfl rfl
          replace h := it_f hc4 h
          have hq0 := z_ne (n := 0) hc0 (by decide)
          have hq1 := z_ne (n := 1) hc1 (by decide)
          have hq2 := z_ne (n := 2) hc2 (by decide)
          have hq3 := z_ne (n := 3) hc3 (by decide)
          have hq4 := z_ne (n := 4) hc4 (by decide)
          refine zJ_tswO (tgt := 124) dX11_round_33 (by omega) (by decide) ?_
          refine zJ_aload_n dX11_round_124 rfl rfl ?_
          refine zJ_getr (mi := mX11_round) dX11_round_125 F_X11_33 zW_0 rfl rfl ?_
          refine zJ_aload_n dX11_round_128 rfl rfl ?_
          refine zJ_getr (mi := mX11_round) dX11_round_129 F_X11_33 zW_0 rfl rfl ?_
          refine zJ_iload_n dX11_round_132 rfl rfl ?_
          refine zJ_aload_n dX11_round_133 rfl rfl ?_
          refine zJ_getr (mi := mX11_round) dX11_round_134 F_X11_33 zW_0 rfl rfl ?_
          refine zJ_getr (mi := mX11_round) dX11_round_137 F_X11_335 zW_20 rfl rfl ?_
          obtain ⟨rn2, hcl, h⟩ := bd1_some h
          refine zJ_callV2 (σ := σ) (L := ([(1284, rounds_size)], [(21, rounds_riders), (22, rounds_horses), (23, rounds_faults), (24, rounds_tenths), (25, rounds_money)], [])) (mi := mX11_round) (yi := mX10_placeOf) (as := [.int p1, .ref 23]) (st := [.ref 20]) (L2 := ([(1284, rounds_size)], [(21, rounds_riders), (22, rounds_horses), (23, rounds_faults), (24, rounds_tenths), (25, rounds_money)], [])) dX11_round_140 ML_X11_339 Yv_X10_placeOf rfl zW_20 rfl rfl (t_X10_placeOf_rounds_faults l _ hcl) (zsub_i (zle_c rfl zle_n) (zle_c rfl (zle_c rfl zle_n)) zle_n) (zjok_i rfl rfl (zle_c rfl zle_n) rfl rfl (zle_c rfl (zle_c rfl (zle_c rfl (zle_c rfl (zle_c rfl zle_n))))) rfl rfl zle_n) (Nat.le_of_ble_eq_true rfl) (Nat.le_of_ble_eq_true rfl) rfl rfl ?_
          obtain ⟨rn3, hcl, h⟩ := bd1_some h
          refine zJ_callV2 (σ := σ) (L := ([(1284, rounds_size)], [(21, rounds_riders), (22, rounds_horses), (23, rounds_faults), (24, rounds_tenths), (25, rounds_money)], [])) (mi := mX11_round) (yi := mX10_moneyAt) (as := [.int rn2]) (st := []) (L2 := ([(1284, rounds_size)], [(21, rounds_riders), (22, rounds_horses), (23, rounds_faults), (24, rounds_tenths), (25, rounds_money)], [])) dX11_round_143 ML_X11_343 Yv_X10_moneyAt rfl zW_20 rfl rfl (t_X10_moneyAt l _ hcl) (zsub_i zle_n (zle_c rfl zle_n) zle_n) (zjok_i rfl rfl (zle_c rfl zle_n) rfl rfl (zle_c rfl (zle_c rfl (zle_c rfl (zle_c rfl (zle_c rfl zle_n))))) rfl rfl zle_n) (Nat.le_of_ble_eq_true rfl) (Nat.le_of_ble_eq_true rfl) rfl rfl ?_
          obtain rfl := so1 h
          exact zJ_iret dX11_round_146 rfl rfl
        · replace h := it_f hc h
          cases h
def f_X11_row (p1 : Int32) (numbers_size : Int32) (numbers_told : (Nat → Int64)) : Option Int64 :=
  if p1 < 0 then
    none
  else
    if p1 < numbers_size then
      gd (ix p1 12) <|
      some (numbers_told p1.toNatClampNeg)
    else
      none
set_option maxRecDepth 100000 in
set_option maxHeartbeats 4000000 in
theorem t_X11_row (l : Launch) (σ : zS) {p1 : Int32} {numbers_size : Int32} {numbers_told : (Nat → Int64)} {r : Int64} (h : f_X11_row p1 numbers_size numbers_told = some r) : zMt l zW 0 mX11_row σ ([(193, numbers_size)], [], [(4, numbers_told)]) [.ref 0, .int p1] (some (.long r)) ([(193, numbers_size)], [], [(4, numbers_told)]) := by
  refine zMt_of (ls := [(0, .ref 0), (1, .int p1)]) (by decide) rfl (fun _ => Nat.le_of_ble_eq_true rfl) rfl ?_
  unfold f_X11_row at h
  refine zJ_iload_n dX11_row_0 rfl rfl ?_
  refine zJ_if_lt (tgt := 15) dX11_row_1 (by decide) rfl (fun hc => ?_) (fun hc => ?_)
  · replace h := it_t hc h
    cases h
  · replace h := it_f hc h
    refine zJ_iload_n dX11_row_4 rfl rfl ?_
    refine zJ_aload_n dX11_row_5 rfl rfl ?_
    refine zJ_getr (mi := mX11_row) dX11_row_6 F_X11_19 zW_0 rfl rfl ?_
    refine zJ_geti (mi := mX11_row) (x := numbers_size) dX11_row_9 F_X11_451 zW_3 rfl rfl rfl ?_
    refine zJ_icmp_lt (tgt := 23) dX11_row_12 (by decide) rfl (fun hc => ?_) (fun hc => ?_)
    · replace h := it_t hc h
      refine zJ_aload_n dX11_row_23 rfl rfl ?_
      refine zJ_getr (mi := mX11_row) dX11_row_24 F_X11_19 zW_0 rfl rfl ?_
      refine zJ_getr (mi := mX11_row) dX11_row_27 F_X11_457 zW_3 rfl rfl ?_
      refine zJ_iload_n dX11_row_30 rfl rfl ?_
      obtain ⟨hg, h⟩ := gd_some h
      refine zJ_lald (mi := mX11_row) (f := numbers_told) dX11_row_31 zW_4 (ix_in hg) rfl rfl ?_
      obtain rfl := so1 h
      exact zJ_lret dX11_row_32 rfl
    · replace h := it_f hc h
      cases h
