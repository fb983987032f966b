set_option maxRecDepth 100000 in
set_option maxHeartbeats 4000000 in
theorem t_X11_ride (l : Launch) (σ : zS) {p1 : Int32} {p2 : Int32} {p3 : Int32} {p4 : Int32} {numbers_size : Int32} {course_fences : Int32} {course_horseCount : Int32} {course_planCount : Int32} {course_allowed : Int32} {course_rule_size : Int32} {rounds_size : Int32} {history_slots : Int32} {history_count : Int32} {drawn_state : Int32} {drawn_faults : Int32} {drawn_tenths : Int32} {drawn_refused : Int32} {drawn_fallen : Int32} {course_kinds : (Nat → Int32)} {course_heights : (Nat → Int32)} {course_feet : (Nat → Int32)} {course_digits : (Nat → Int32)} {course_plans : (Nat → Int32)} {rule_codes : (Nat → Int32)} {rule_stack : (Nat → Int32)} {rule_things : (Nat → Int32)} {rounds_riders : (Nat → Int32)} {rounds_horses : (Nat → Int32)} {rounds_faults : (Nat → Int32)} {rounds_tenths : (Nat → Int32)} {history_cells : (Nat → Int32)} {history_sizes : (Nat → Int32)} {numbers_told : (Nat → Int64)} {r : Int32} {w_numbers_size : Int32} {w_rounds_size : Int32} {w_history_count : Int32} {w_drawn_state : Int32} {w_drawn_faults : Int32} {w_drawn_tenths : Int32} {w_drawn_refused : Int32} {w_drawn_fallen : Int32} {w_rule_stack : (Nat → Int32)} {w_rule_things : (Nat → Int32)} {w_rounds_riders : (Nat → Int32)} {w_rounds_horses : (Nat → Int32)} {w_rounds_faults : (Nat → Int32)} {w_rounds_tenths : (Nat → Int32)} {w_history_cells : (Nat → Int32)} {w_history_sizes : (Nat → Int32)} {w_numbers_told : (Nat → Int64)} (h : f_X11_ride p1 p2 p3 p4 numbers_size course_fences course_horseCount course_planCount course_allowed course_rule_size rounds_size history_slots history_count drawn_state drawn_faults drawn_tenths drawn_refused drawn_fallen course_kinds course_heights course_feet course_digits course_plans rule_codes rule_stack rule_things rounds_riders rounds_horses rounds_faults rounds_tenths history_cells history_sizes numbers_told = some (r, w_numbers_size, w_rounds_size, w_history_count, w_drawn_state, w_drawn_faults, w_drawn_tenths, w_drawn_refused, w_drawn_fallen, w_rule_stack, w_rule_things, w_rounds_riders, w_rounds_horses, w_rounds_faults, w_rounds_tenths, w_history_cells, w_history_sizes, w_numbers_told)) : zMt l zW 6 mX11_ride σ ([(193, numbers_size), (323, course_fences), (326, course_horseCount), (328, course_planCount), (329, course_allowed), (769, course_rule_size), (1284, rounds_size), (1728, history_slots), (1731, history_count), (2112, drawn_state), (2113, drawn_faults), (2114, drawn_tenths), (2115, drawn_refused), (2116, drawn_fallen)], [(6, course_kinds), (7, course_heights), (8, course_feet), (10, course_digits), (11, course_plans), (13, rule_codes), (15, rule_stack), (16, rule_things), (21, rounds_riders), (22, rounds_horses), (23, rounds_faults), (24, rounds_tenths), (28, history_cells), (29, history_sizes)], [(4, numbers_told)]) [.ref 0, .int p1, .int p2, .int p3, .int p4] (some (.int r)) ([(193, w_numbers_size), (323, course_fences), (326, course_horseCount), (328, course_planCount), (329, course_allowed), (769, course_rule_size), (1284, w_rounds_size), (1728, history_slots), (1731, w_history_count), (2112, w_drawn_state), (2113, w_drawn_faults), (2114, w_drawn_tenths), (2115, w_drawn_refused), (2116, w_drawn_fallen)], [(6, course_kinds), (7, course_heights), (8, course_feet), (10, course_digits), (11, course_plans), (13, rule_codes), (15, w_rule_stack), (16, w_rule_things), (21, w_rounds_riders), (22, w_rounds_horses), (23, w_rounds_faults), (24, w_rounds_tenths), (28, w_history_cells), (29, w_history_sizes)], [(4, w_numbers_told)]) := by
  refine zMt_of (ls := [(0, .ref 0), (1, .int p1), (2, .int p2), (3, .int p3), (4, .int p4)]) (by decide) rfl (fun _ => Nat.le_of_ble_eq_true rfl) rfl ?_
  unfold f_X11_ride at h
  refine zJ_aload_n dX11_ride_0 rfl rfl ?_
  refine zJ_getr (mi := mX11_ride) dX11_ride_1 F_X11_42 zW_0 rfl rfl ?_
  refine zJ_aload_n dX11_ride_4 rfl rfl ?_
  refine zJ_getr (mi := mX11_ride) dX11_ride_5 F_X11_33 zW_0 rfl rfl ?_
  obtain ⟨history_cellsn1, history_sizesn2, hcl, h⟩ := bd2_some h
  refine zJ_callV2 (σ := σ) (L := ([(193, numbers_size), (323, course_fences), (326, course_horseCount), (328, course_planCount), (329, course_allowed), (769, course_rule_size), (1284, rounds_size), (1728, history_slots), (1731, history_count), (2112, drawn_state), (2113, drawn_faults), (2114, drawn_tenths), (2115, drawn_refused), (2116, drawn_fallen)], [(6, course_kinds), (7, course_heights), (8, course_feet), (10, course_digits), (11, course_plans), (13, rule_codes), (15, rule_stack), (16, rule_things), (21, rounds_riders), (22, rounds_horses), (23, rounds_faults), (24, rounds_tenths), (28, history_cells), (29, history_sizes)], [(4, numbers_told)])) (mi := mX11_ride) (yi := mX8_mark) (as := [.ref 20]) (st := []) (L2 := ([(193, numbers_size), (323, course_fences), (326, course_horseCount), (328, course_planCount), (329, course_allowed), (769, course_rule_size), (1284, rounds_size), (1728, history_slots), (1731, history_count), (2112, drawn_state), (2113, drawn_faults), (2114, drawn_tenths), (2115, drawn_refused), (2116, drawn_fallen)], [(6, course_kinds), (7, course_heights), (8, course_feet), (10, course_digits), (11, course_plans), (13, rule_codes), (15, rule_stack), (16, rule_things), (21, rounds_riders), (22, rounds_horses), (23, rounds_faults), (24, rounds_tenths), (28, history_cellsn1), (29, history_sizesn2)], [(4, numbers_told)])) dX11_ride_8 ML_X11_236 Yv_X8_mark rfl zW_27 rfl rfl (t_X8_mark_history l _ hcl) (zsub_i (zle_c rfl (zle_c rfl (zle_c rfl zle_n))) (zle_c rfl (zle_c rfl (zle_c rfl (zle_c rfl (zle_c rfl (zle_c rfl zle_n)))))) zle_n) (zjok_i rfl rfl (zle_c rfl (zle_c rfl (zle_c rfl (zle_c rfl (zle_c rfl (zle_c rfl (zle_c rfl (zle_c rfl (zle_c rfl (zle_c rfl (zle_c rfl (zle_c rfl (zle_c rfl (zle_c rfl zle_n)))))))))))))) rfl rfl (zle_c rfl (zle_c rfl (zle_c rfl (zle_c rfl (zle_c rfl (zle_c rfl (zle_c rfl (zle_c rfl (zle_c rfl (zle_c rfl (zle_c rfl (zle_c rfl (zle_c rfl (zle_c rfl zle_n)))))))))))))) rfl rfl (zle_c rfl zle_n)) (Nat.le_of_ble_eq_true rfl) (Nat.le_of_ble_eq_true rfl) rfl rfl ?_
  refine zJ_aload_n dX11_ride_11 rfl rfl ?_
  refine zJ_iload_n dX11_ride_12 rfl rfl ?_
  refine zJ_iload_n dX11_ride_13 rfl rfl ?_
  refine zJ_iload_n dX11_ride_14 rfl rfl ?_
  refine zJ_iload dX11_ride_15 rfl rfl ?_
  obtain ⟨rn3, rounds_sizen4, drawn_staten5, drawn_faultsn6, drawn_tenthsn7, drawn_refusedn8, drawn_fallenn9, rule_stackn10, rule_thingsn11, rounds_ridersn12, rounds_horsesn13, rounds_faultsn14, rounds_tenthsn15, hcl, h⟩ := bd13_some h
  refine zJ_callV2 (σ := σ) (L := ([(193, numbers_size), (323, course_fences), (326, course_horseCount), (328, course_planCount), (329, course_allowed), (769, course_rule_size), (1284, rounds_size), (1728, history_slots), (1731, history_count), (2112, drawn_state), (2113, drawn_faults), (2114, drawn_tenths), (2115, drawn_refused), (2116, drawn_fallen)], [(6, course_kinds), (7, course_heights), (8, course_feet), (10, course_digits), (11, course_plans), (13, rule_codes), (15, rule_stack), (16, rule_things), (21, rounds_riders), (22, rounds_horses), (23, rounds_faults), (24, rounds_tenths), (28, history_cellsn1), (29, history_sizesn2)], [(4, numbers_told)])) (mi := mX11_ride) (yi := mX11_addRide) (as := [.int p1, .int p2, .int p3, .int p4]) (st := []) (L2 := ([(193, numbers_size), (323, course_fences), (326, course_horseCount), (328, course_planCount), (329, course_allowed), (769, course_rule_size), (1284, rounds_sizen4), (1728, history_slots), (1731, history_count), (2112, drawn_staten5), (2113, drawn_faultsn6), (2114, drawn_tenthsn7), (2115, drawn_refusedn8), (2116, drawn_fallenn9)], [(6, course_kinds), (7, course_heights), (8, course_feet), (10, course_digits), (11, course_plans), (13, rule_codes), (15, rule_stackn10), (16, rule_thingsn11), (21, rounds_ridersn12), (22, rounds_horsesn13), (23, rounds_faultsn14), (24, rounds_tenthsn15), (28, history_cellsn1), (29, history_sizesn2)], [(4, numbers_told)])) dX11_ride_17 ML_X11_240 Yv_X11_addRide rfl zW_0 rfl rfl (t_X11_addRide l _ hcl) (zsub_i (zle_c rfl (zle_c rfl (zle_c rfl (zle_c rfl (zle_c rfl (zle_c rfl (zle_c rfl (zle_c rfl (zle_c rfl (zle_c rfl (zle_c rfl zle_n))))))))))) (zle_c rfl (zle_c rfl (zle_c rfl (zle_c rfl (zle_c rfl (zle_c rfl (zle_c rfl (zle_c rfl (zle_c rfl (zle_c rfl (zle_c rfl (zle_c rfl zle_n)))))))))))) zle_n) (zjok_i rfl rfl (zle_c rfl (zle_c rfl (zle_c rfl (zle_c rfl (zle_c rfl (zle_c rfl (zle_c rfl (zle_c rfl (zle_c rfl (zle_c rfl (zle_c rfl (zle_c rfl (zle_c rfl (zle_c rfl zle_n)))))))))))))) rfl rfl (zle_c rfl (zle_c rfl (zle_c rfl (zle_c rfl (zle_c rfl (zle_c rfl (zle_c rfl (zle_c rfl (zle_c rfl (zle_c rfl (zle_c rfl (zle_c rfl (zle_c rfl (zle_c rfl zle_n)))))))))))))) rfl rfl (zle_c rfl zle_n)) (Nat.le_of_ble_eq_true rfl) (Nat.le_of_ble_eq_true rfl) rfl rfl ?_
  refine zJ_istore (ls' := [(5, .int rn3), (0, .ref 0), (1, .int p1), (2, .int p2), (3, .int p3), (4, .int p4)]) dX11_ride_20 rfl rfl rfl ?_
  refine zJ_iload dX11_ride_22 rfl rfl ?_
  refine zJ_if_lt (tgt := 38) dX11_ride_24 (by decide) rfl (fun hc => ?_) (fun hc => ?_)
  · replace h := it_t hc h
    refine zJ_iload dX11_ride_38 rfl rfl ?_
    obtain ⟨rfl, rfl, rfl, rfl, rfl, rfl, rfl, rfl, rfl, rfl, rfl, rfl, rfl, rfl, rfl, rfl, rfl, rfl⟩ := so18 h
    exact zJ_iret dX11_ride_40 rfl rfl
  · replace h := it_f hc h
    refine zJ_aload_n dX11_ride_27 rfl rfl ?_
    refine zJ_getr (mi := mX11_ride) dX11_ride_28 F_X11_42 zW_0 rfl rfl ?_
    obtain ⟨history_countn16, history_cellsn17, history_sizesn18, hcl, h⟩ := bd3_some h
    refine zJ_callV2 (σ := σ) (L := ([(193, numbers_size), (323, course_fences), (326, course_horseCount), (328, course_planCount), (329, course_allowed), (769, course_rule_size), (1284, rounds_sizen4), (1728, history_slots), (1731, history_count), (2112, drawn_staten5), (2113, drawn_faultsn6), (2114, drawn_tenthsn7), (2115, drawn_refusedn8), (2116, drawn_fallenn9)], [(6, course_kinds), (7, course_heights), (8, course_feet), (10, course_digits), (11, course_plans), (13, rule_codes), (15, rule_stackn10), (16, rule_thingsn11), (21, rounds_ridersn12), (22, rounds_horsesn13), (23, rounds_faultsn14), (24, rounds_tenthsn15), (28, history_cellsn1), (29, history_sizesn2)], [(4, numbers_told)])) (mi := mX11_ride) (yi := mX8_commit) (as := []) (st := []) (L2 := ([(193, numbers_size), (323, course_fences), (326, course_horseCount), (328, course_planCount), (329, course_allowed), (769, course_rule_size), (1284, rounds_sizen4), (1728, history_slots), (1731, history_countn16), (2112, drawn_staten5), (2113, drawn_faultsn6), (2114, drawn_tenthsn7), (2115, drawn_refusedn8), (2116, drawn_fallenn9)], [(6, course_kinds), (7, course_heights), (8, course_feet), (10, course_digits), (11, course_plans), (13, rule_codes), (15, rule_stackn10), (16, rule_thingsn11), (21, rounds_ridersn12), (22, rounds_horsesn13), (23, rounds_faultsn14), (24, rounds_tenthsn15), (28, history_cellsn17), (29, history_sizesn18)], [(4, numbers_told)])) dX11_ride_31 ML_X11_244 Yv_X8_commit rfl zW_27 rfl rfl (t_X8_commit_history l _ hcl) (zsub_i (zle_c rfl (zle_c rfl zle_n)) (zle_c rfl (zle_c rfl zle_n)) zle_n) (zjok_i rfl rfl (zle_c rfl (zle_c rfl (zle_c rfl (zle_c rfl (zle_c rfl (zle_c rfl (zle_c rfl (zle_c rfl (zle_c rfl (zle_c rfl (zle_c rfl (zle_c rfl (zle_c rfl (zle_c rfl zle_n)))))))))))))) rfl rfl (zle_c rfl (zle_c rfl (zle_c rfl (zle_c rfl (zle_c rfl (zle_c rfl (zle_c rfl (zle_c rfl (zle_c rfl (zle_c rfl (zle_c rfl (zle_c rfl (zle_c rfl (zle_c rfl zle_n)))))))))))))) rfl rfl (zle_c rfl zle_n)) (Nat.le_of_ble_eq_true rfl) (Nat.le_of_ble_eq_true rfl) rfl rfl ?_
    refine zJ_aload_n dX11_ride_34 rfl rfl ?_
    obtain ⟨numbers_sizen19, numbers_toldn20, hcl, h⟩ := bd2_some h
    refine zJ_callV2 (σ := σ) (L := ([(193, numbers_size), (323, course_fences), (326, course_horseCount), (328, course_planCount), (329, course_allowed), (769, course_rule_size), (1284, rounds_sizen4), (1728, history_slots), (1731, history_countn16), (2112, drawn_staten5), (2113, drawn_faultsn6), (2114, drawn_tenthsn7), (2115, drawn_refusedn8), (2116, drawn_fallenn9)], [(6, course_kinds), (7, course_heights), (8, course_feet), (10, course_digits), (11, course_plans), (13, rule_codes), (15, rule_stackn10), (16, rule_thingsn11), (21, rounds_ridersn12), (22, rounds_horsesn13), (23, rounds_faultsn14), (24, rounds_tenthsn15), (28, history_cellsn17), (29, history_sizesn18)], [(4, numbers_told)])) (mi := mX11_ride) (yi := mX11_tellDrawn) (as := []) (st := []) (L2 := ([(193, numbers_sizen19), (323, course_fences), (326, course_horseCount), (328, course_planCount), (329, course_allowed), (769, course_rule_size), (1284, rounds_sizen4), (1728, history_slots), (1731, history_countn16), (2112, drawn_staten5), (2113, drawn_faultsn6), (2114, drawn_tenthsn7), (2115, drawn_refusedn8), (2116, drawn_fallenn9)], [(6, course_kinds), (7, course_heights), (8, course_feet), (10, course_digits), (11, course_plans), (13, rule_codes), (15, rule_stackn10), (16, rule_thingsn11), (21, rounds_ridersn12), (22, rounds_horsesn13), (23, rounds_faultsn14), (24, rounds_tenthsn15), (28, history_cellsn17), (29, history_sizesn18)], [(4, numbers_toldn20)])) dX11_ride_35 ML_X11_247 Yv_X11_tellDrawn rfl zW_0 rfl rfl (t_X11_tellDrawn l _ hcl) (zsub_i (zle_c rfl (zle_c rfl (zle_c rfl (zle_c rfl (zle_c rfl zle_n))))) zle_n (zle_c rfl zle_n)) (zjok_i rfl rfl (zle_c rfl (zle_c rfl (zle_c rfl (zle_c rfl (zle_c rfl (zle_c rfl (zle_c rfl (zle_c rfl (zle_c rfl (zle_c rfl (zle_c rfl (zle_c rfl (zle_c rfl (zle_c rfl zle_n)))))))))))))) rfl rfl (zle_c rfl (zle_c rfl (zle_c rfl (zle_c rfl (zle_c rfl (zle_c rfl (zle_c rfl (zle_c rfl (zle_c rfl (zle_c rfl (zle_c rfl (zle_c rfl (zle_c rfl (zle_c rfl zle_n)))))))))))))) rfl rfl (zle_c rfl zle_n)) (Nat.le_of_ble_eq_true rfl) (Nat.le_of_ble_eq_true rfl) rfl rfl ?_
    refine zJ_iload dX11_ride_38 rfl rfl ?_
    obtain ⟨rfl, rfl, rfl, rfl, rfl, rfl, rfl, rfl, rfl, rfl, rfl, rfl, rfl, rfl, rfl, rfl, rfl, rfl⟩ := so18 h
    exact zJ_iret dX11_ride_40 rfl rfl
set_option maxRecDepth 100000 in
set_option maxHeartbeats 4000000 in
theorem t_X11_riders (l : Launch) (σ : zS) {p1 : Int32} {p2 : Int32} {numbers_size : Int32} {course_horseCount : Int32} {rounds_size : Int32} {rounds_riders : (Nat → Int32)} {rounds_horses : (Nat → Int32)} {rounds_faults : (Nat → Int32)} {numbers_told : (Nat → Int64)} {r : Int32} {w_numbers_size : Int32} {w_numbers_told : (Nat → Int64)} (h : f_X11_riders p1 p2 numbers_size course_horseCount rounds_size rounds_riders rounds_horses rounds_faults numbers_told = some (r, w_numbers_size, w_numbers_told)) : zMt l zW 2 mX11_riders σ ([(193, numbers_size), (326, course_horseCount), (1284, rounds_size)], [(21, rounds_riders), (22, rounds_horses), (23, rounds_faults)], [(4, numbers_told)]) [.ref 0, .int p1, .int p2] (some (.int r)) ([(193, w_numbers_size), (326, course_horseCount), (1284, rounds_size)], [(21, rounds_riders), (22, rounds_horses), (23, rounds_faults)], [(4, w_numbers_told)]) := by
  refine zMt_of (ls := [(0, .ref 0), (1, .int p1), (2, .int p2)]) (by decide) rfl (fun _ => Nat.le_of_ble_eq_true rfl) rfl ?_
  unfold f_X11_riders at h
  refine zJ_iload_n dX11_riders_0 rfl rfl ?_
  obtain ⟨rn1, hcl, h⟩ := bd1_some h
  refine zJ_callS2 (σ := σ) (L := ([(193, numbers_size), (326, course_horseCount), (1284, rounds_size)], [(21, rounds_riders), (22, rounds_horses), (23, rounds_faults)], [(4, numbers_told)])) (mi := mX11_riders) (yi := mX11_isRider) (as := [.int p1]) (st := []) (L2 := ([(193, numbers_size), (326, course_horseCount), (1284, rounds_size)], [(21, rounds_riders), (22, rounds_horses), (23, rounds_faults)], [(4, numbers_told)])) dX11_riders_1 ML_X11_260 Ys_X11_isRider rfl (t_X11_isRider l _ hcl) (zsub_i zle_n zle_n zle_n) (zjok_i rfl rfl (zle_c rfl (zle_c rfl (zle_c rfl zle_n))) rfl rfl (zle_c rfl (zle_c rfl (zle_c rfl zle_n))) rfl rfl (zle_c rfl zle_n)) (Nat.le_of_ble_eq_true rfl) (Nat.le_of_ble_eq_true rfl) rfl rfl ?_
  refine zJ_if_eq (tgt := 19) dX11_riders_4 (by decide) rfl (fun hc => ?_) (fun hc => ?_)
  · replace h := it_t hc h
    refine zJ_iconst dX11_riders_19 zc_m1 rfl ?_
    obtain ⟨rfl, rfl, rfl⟩ := so3 h
    exact zJ_iret dX11_riders_20 rfl rfl
  · replace h := it_f hc h
    refine zJ_iload_n dX11_riders_7 rfl rfl ?_
    obtain ⟨rn2, hcl, h⟩ := bd1_some h
    refine zJ_callS2 (σ := σ) (L := ([(193, numbers_size), (326, course_horseCount), (1284, rounds_size)], [(21, rounds_riders), (22, rounds_horses), (23, rounds_faults)], [(4, numbers_told)])) (mi := mX11_riders) (yi := mX11_isRider) (as := [.int p2]) (st := []) (L2 := ([(193, numbers_size), (326, course_horseCount), (1284, rounds_size)], [(21, rounds_riders), (22, rounds_horses), (23, rounds_faults)], [(4, numbers_told)])) dX11_riders_8 ML_X11_260 Ys_X11_isRider rfl (t_X11_isRider l _ hcl) (zsub_i zle_n zle_n zle_n) (zjok_i rfl rfl (zle_c rfl (zle_c rfl (zle_c rfl zle_n))) rfl rfl (zle_c rfl (zle_c rfl (zle_c rfl zle_n))) rfl rfl (zle_c rfl zle_n)) (Nat.le_of_ble_eq_true rfl) (Nat.le_of_ble_eq_true rfl) rfl rfl ?_
    refine zJ_if_eq (tgt := 19) dX11_riders_11 (by decide) rfl (fun hc => ?_) (fun hc => ?_)
    · replace h := it_t hc h
      refine zJ_iconst dX11_riders_19 zc_m1 rfl ?_
      obtain ⟨rfl, rfl, rfl⟩ := so3 h
      exact zJ_iret dX11_riders_20 rfl rfl
    · replace h := it_f hc h
      refine zJ_iload_n dX11_riders_14 rfl rfl ?_
      refine zJ_iload_n dX11_riders_15 rfl rfl ?_
      refine zJ_icmp_ne (tgt := 21) dX11_riders_16 (by decide) rfl (fun hc => ?_) (fun hc => ?_)
      · replace h := it_f hc h
        refine zJ_lconst dX11_riders_21 zl_0 rfl ?_
        refine zJ_lstore_n (ls' := [(3, .long (0 : Int64)), (0, .ref 0), (1, .int p1), (2, .int p2)]) dX11_riders_22 rfl rfl rfl ?_
        refine zJ_iconst dX11_riders_23 zc_0 rfl ?_
        refine zJ_istore (ls' := [(5, .int (0 : Int32)), (3, .long (0 : Int64)), (0, .ref 0), (1, .int p1), (2, .int p2)]) dX11_riders_24 rfl rfl rfl ?_
        refine zJ_iconst dX11_riders_26 zc_0 rfl ?_
        refine zJ_istore (ls' := [(6, .int (0 : Int32)), (5, .int (0 : Int32)), (3, .long (0 : Int64)), (0, .ref 0), (1, .int p1), (2, .int p2)]) dX11_riders_27 rfl rfl rfl ?_
        have hk29 : ∀ (v3_29x : Int64) (v5_29x : Int32), k_X11_riders_29 numbers_size numbers_told v3_29x v5_29x = some (r, w_numbers_size, w_numbers_told) → zJ l zW 2 mX11_riders σ ([(193, numbers_size), (326, course_horseCount), (1284, rounds_size)], [(21, rounds_riders), (22, rounds_horses), (23, rounds_faults)], [(4, numbers_told)]) 100 [(0, .ref 0), (3, .long v3_29x), (5, .int v5_29x)] [] (some (.int r)) ([(193, w_numbers_size), (326, course_horseCount), (1284, rounds_size)], [(21, rounds_riders), (22, rounds_horses), (23, rounds_faults)], [(4, w_numbers_told)]) := by
          intro v3_29x v5_29x h
          unfold k_X11_riders_29 at h
          refine zJ_iload dX11_riders_100 rfl rfl ?_
          refine zJ_if_ne (tgt := 108) dX11_riders_102 (by decide) rfl (fun hc => ?_) (fun hc => ?_)
          · replace h := it_f hc h
            refine zJ_aload_n dX11_riders_108 rfl rfl ?_
            refine zJ_getr (mi := mX11_riders) dX11_riders_109 F_X11_19 zW_0 rfl rfl ?_
            obtain ⟨numbers_sizen3, hcl, h⟩ := bd1_some h
            refine zJ_callV2 (σ := σ) (L := ([(193, numbers_size), (326, course_horseCount), (1284, rounds_size)], [(21, rounds_riders), (22, rounds_horses), (23, rounds_faults)], [(4, numbers_told)])) (mi := mX11_riders) (yi := mX6_start) (as := []) (st := []) (L2 := ([(193, numbers_sizen3), (326, course_horseCount), (1284, rounds_size)], [(21, rounds_riders), (22, rounds_horses), (23, rounds_faults)], [(4, numbers_told)])) dX11_riders_112 ML_X11_171 Yv_X6_start rfl zW_3 rfl rfl (t_X6_start l _ hcl) (zsub_i (zle_c rfl zle_n) zle_n zle_n) (zjok_i rfl rfl (zle_c rfl (zle_c rfl (zle_c rfl zle_n))) rfl rfl (zle_c rfl (zle_c rfl (zle_c rfl zle_n))) rfl rfl (zle_c rfl zle_n)) (Nat.le_of_ble_eq_true rfl) (Nat.le_of_ble_eq_true rfl) rfl rfl ?_
            refine zJ_aload_n dX11_riders_115 rfl rfl ?_
            refine zJ_getr (mi := mX11_riders) dX11_riders_116 F_X11_19 zW_0 rfl rfl ?_
            refine zJ_lload_n dX11_riders_119 rfl rfl ?_
            refine zJ_iload dX11_riders_120 rfl rfl ?_
            refine zJ_i2l dX11_riders_122 rfl ?_
            refine zJ_ldc2_w (v := 27720) dX11_riders_123 C_X11_435 rfl ?_
            refine zJ_lmul dX11_riders_126 rfl ?_
            obtain ⟨numbers_sizen4, numbers_toldn5, hcl, h⟩ := bd2_some h
            refine zJ_callV2 (σ := σ) (L := ([(193, numbers_sizen3), (326, course_horseCount), (1284, rounds_size)], [(21, rounds_riders), (22, rounds_horses), (23, rounds_faults)], [(4, numbers_told)])) (mi := mX11_riders) (yi := mX6_putFraction) (as := [.long v3_29x, .long (v5_29x.toInt64 * (27720 : Int64))]) (st := []) (L2 := ([(193, numbers_sizen4), (326, course_horseCount), (1284, rounds_size)], [(21, rounds_riders), (22, rounds_horses), (23, rounds_faults)], [(4, numbers_toldn5)])) dX11_riders_127 ML_X11_392 Yv_X6_putFraction rfl zW_3 rfl rfl (t_X6_putFraction l _ hcl) (zsub_i (zle_c rfl zle_n) zle_n (zle_c rfl zle_n)) (zjok_i rfl rfl (zle_c rfl (zle_c rfl (zle_c rfl zle_n))) rfl rfl (zle_c rfl (zle_c rfl (zle_c rfl zle_n))) rfl rfl (zle_c rfl zle_n)) (Nat.le_of_ble_eq_true rfl) (Nat.le_of_ble_eq_true rfl) rfl rfl ?_
            refine zJ_iload dX11_riders_130 rfl rfl ?_
            obtain ⟨rfl, rfl, rfl⟩ := so3 h
            exact zJ_iret dX11_riders_132 rfl rfl
          · replace h := it_t hc h
            refine zJ_bipush dX11_riders_105 zb_m2 rfl ?_
            obtain ⟨rfl, rfl, rfl⟩ := so3 h
            exact zJ_iret dX11_riders_107 rfl rfl
        refine zJ_loc (ls' := [(0, .ref 0), (1, .int p1), (2, .int p2), (3, .long (0 : Int64)), (5, .int (0 : Int32)), (6, .int (0 : Int32))]) (zll_c rfl (zll_c rfl (zll_c rfl (zll_c rfl (zll_c rfl (zll_c rfl zll_n)))))) ?_
        refine ml3_J (fun (v3_29 : Int64) (v5_29 : Int32) (v6_29 : Int32) => zJ l zW 2 mX11_riders σ ([(193, numbers_size), (326, course_horseCount), (1284, rounds_size)], [(21, rounds_riders), (22, rounds_horses), (23, rounds_faults)], [(4, numbers_told)]) 29 [(0, .ref 0), (1, .int p1), (2, .int p2), (3, .long v3_29), (5, .int v5_29), (6, .int v6_29)] [] (some (.int r)) ([(193, w_numbers_size), (326, course_horseCount), (1284, rounds_size)], [(21, rounds_riders), (22, rounds_horses), (23, rounds_faults)], [(4, w_numbers_told)])) (fun rc29 hrc29 v3_29 v5_29 v6_29 h => ?_) zN _ _ _ h
        unfold s_X11_riders_29 at h
        refine zJ_iload dX11_riders_29 rfl rfl ?_
        refine zJ_aload_n dX11_riders_31 rfl rfl ?_
        refine zJ_getr (mi := mX11_riders) dX11_riders_32 F_X11_26 zW_0 rfl rfl ?_
        refine zJ_geti (mi := mX11_riders) (x := course_horseCount) dX11_riders_35 F_X11_368 zW_5 rfl rfl rfl ?_
        refine zJ_icmp_ge (tgt := 100) dX11_riders_38 (by decide) rfl (fun hc => ?_) (fun hc => ?_)
        · replace h := it_t hc h
          refine zJ_loc (ls' := [(0, .ref 0), (3, .long v3_29), (5, .int v5_29)]) (zll_c rfl (zll_c rfl (zll_c rfl zll_n))) ?_
          exact hk29 _ _ h
        · replace h := it_f hc h
          refine zJ_aload_n dX11_riders_41 rfl rfl ?_
          refine zJ_getr (mi := mX11_riders) dX11_riders_42 F_X11_33 zW_0 rfl rfl ?_
          refine zJ_iload_n dX11_riders_45 rfl rfl ?_
          refine zJ_iload dX11_riders_46 rfl rfl ?_
          obtain ⟨rn6, hcl, h⟩ := bd1_some h
          refine zJ_callV2 (σ := σ) (L := ([(193, numbers_size), (326, course_horseCount), (1284, rounds_size)], [(21, rounds_riders), (22, rounds_horses), (23, rounds_faults)], [(4, numbers_told)])) (mi := mX11_riders) (yi := mX10_scaledMean) (as := [.int p1, .int v6_29]) (st := []) (L2 := ([(193, numbers_size), (326, course_horseCount), (1284, rounds_size)], [(21, rounds_riders), (22, rounds_horses), (23, rounds_faults)], [(4, numbers_told)])) dX11_riders_48 ML_X11_431 Yv_X10_scaledMean rfl zW_20 rfl rfl (t_X10_scaledMean l _ hcl) (zsub_i (zle_c rfl zle_n) (zle_c rfl (zle_c rfl (zle_c rfl zle_n))) zle_n) (zjok_i rfl rfl (zle_c rfl (zle_c rfl (zle_c rfl zle_n))) rfl rfl (zle_c rfl (zle_c rfl (zle_c rfl zle_n))) rfl rfl (zle_c rfl zle_n)) (Nat.le_of_ble_eq_true rfl) (Nat.le_of_ble_eq_true rfl) rfl rfl ?_
          refine zJ_lstore (ls' := [(7, .long rn6), (0, .ref 0), (1, .int p1), (2, .int p2), (3, .long v3_29), (5, .int v5_29), (6, .int v6_29)]) dX11_riders_51 rfl rfl rfl ?_
          refine zJ_aload_n dX11_riders_53 rfl rfl ?_
          refine zJ_getr (mi := mX11_riders) dX11_riders_54 F_X11_33 zW_0 rfl rfl ?_
          refine zJ_iload_n dX11_riders_57 rfl rfl ?_
          refine zJ_iload dX11_riders_58 rfl rfl ?_
          obtain ⟨rn7, hcl, h⟩ := bd1_some h
          refine zJ_callV2 (σ := σ) (L := ([(193, numbers_size), (326, course_horseCount), (1284, rounds_size)], [(21, rounds_riders), (22, rounds_horses), (23, rounds_faults)], [(4, numbers_told)])) (mi := mX11_riders) (yi := mX10_scaledMean) (as := [.int p2, .int v6_29]) (st := []) (L2 := ([(193, numbers_size), (326, course_horseCount), (1284, rounds_size)], [(21, rounds_riders), (22, rounds_horses), (23, rounds_faults)], [(4, numbers_told)])) dX11_riders_60 ML_X11_431 Yv_X10_scaledMean rfl zW_20 rfl rfl (t_X10_scaledMean l _ hcl) (zsub_i (zle_c rfl zle_n) (zle_c rfl (zle_c rfl (zle_c rfl zle_n))) zle_n) (zjok_i rfl rfl (zle_c rfl (zle_c rfl (zle_c rfl zle_n))) rfl rfl (zle_c rfl (zle_c rfl (zle_c rfl zle_n))) rfl rfl (zle_c rfl zle_n)) (Nat.le_of_ble_eq_true rfl) (Nat.le_of_ble_eq_true rfl) rfl rfl ?_
          refine zJ_lstore (ls' := [(9, .long rn7), (7, .long rn6), (0, .ref 0), (1, .int p1), (2, .int p2), (3, .long v3_29), (5, .int v5_29), (6, .int v6_29)]) dX11_riders_63 rfl rfl rfl ?_
          refine zJ_lload dX11_riders_65 rfl rfl ?_
          refine zJ_ldc2_w (v := -1) dX11_riders_67 C_X11_399 rfl ?_
          refine zJ_lcmp dX11_riders_70 rfl ?_
          refine zJ_if_eq (tgt := 94) dX11_riders_71 (by decide) rfl (fun hc => ?_) (fun hc => ?_)
          · replace h := it_t hc h
            obtain ⟨v6n8, ev6n8, h⟩ := lt1_some h
            refine zJ_iincN (ls' := [(6, .int v6n8), (9, .long rn7), (7, .long rn6), (0, .ref 0), (1, .int p1), (2, .int p2), (3, .long v3_29), (5, .int v5_29)]) dX11_riders_94 rfl rfl zc_1 ev6n8 rfl rfl ?_
            refine zJ_goto (tgt := 29) dX11_riders_97 (by decide) ?_
            refine zJ_loc (ls' := [(0, .ref 0), (1, .int p1), (2, .int p2), (3, .long v3_29), (5, .int v5_29), (6, .int v6n8)]) (zll_c rfl (zll_c rfl (zll_c rfl (zll_c rfl (zll_c rfl (zll_c rfl zll_n)))))) ?_
            exact hrc29 _ _ _ h
          · replace h := it_f hc h
            refine zJ_lload dX11_riders_74 rfl rfl ?_
            refine zJ_ldc2_w (v := -1) dX11_riders_76 C_X11_399 rfl ?_
            refine zJ_lcmp dX11_riders_79 rfl ?_
            refine zJ_if_eq (tgt := 94) dX11_riders_80 (by decide) rfl (fun hc => ?_) (fun hc => ?_)
            · replace h := it_t hc h
              obtain ⟨v6n9, ev6n9, h⟩ := lt1_some h
              refine zJ_iincN (ls' := [(6, .int v6n9), (9, .long rn7), (7, .long rn6), (0, .ref 0), (1, .int p1), (2, .int p2), (3, .long v3_29), (5, .int v5_29)]) dX11_riders_94 rfl rfl zc_1 ev6n9 rfl rfl ?_
              refine zJ_goto (tgt := 29) dX11_riders_97 (by decide) ?_
              refine zJ_loc (ls' := [(0, .ref 0), (1, .int p1), (2, .int p2), (3, .long v3_29), (5, .int v5_29), (6, .int v6n9)]) (zll_c rfl (zll_c rfl (zll_c rfl (zll_c rfl (zll_c rfl (zll_c rfl zll_n)))))) ?_
              exact hrc29 _ _ _ h
            · replace h := it_f hc h
              refine zJ_lload_n dX11_riders_83 rfl rfl ?_
              refine zJ_lload dX11_riders_84 rfl rfl ?_
              refine zJ_lload dX11_riders_86 rfl rfl ?_
              refine zJ_lsub dX11_riders_88 rfl ?_
              refine zJ_ladd dX11_riders_89 rfl ?_
              obtain ⟨v3n10, ev3n10, h⟩ := lt1_some h
              refine zJ_nml ev3n10 ?_
              refine zJ_lstore_n (ls' := [(3, .long v3n10), (9, .long rn7), (7, .long rn6), (0, .ref 0), (1, .int p1), (2, .int p2), (5, .int v5_29), (6, .int v6_29)]) dX11_riders_90 rfl rfl rfl ?_
              obtain ⟨v5n11, ev5n11, h⟩ := lt1_some h
              refine zJ_iincN (ls' := [(5, .int v5n11), (3, .long v3n10), (9, .long rn7), (7, .long rn6), (0, .ref 0), (1, .int p1), (2, .int p2), (6, .int v6_29)]) dX11_riders_91 rfl rfl zc_1 ev5n11 rfl rfl ?_
              obtain ⟨v6n12, ev6n12, h⟩ := lt1_some h
              refine zJ_iincN (ls' := [(6, .int v6n12), (5, .int v5n11), (3, .long v3n10), (9, .long rn7), (7, .long rn6), (0, .ref 0), (1, .int p1), (2, .int p2)]) dX11_riders_94 rfl rfl zc_1 ev6n12 rfl rfl ?_
              refine zJ_goto (tgt := 29) dX11_riders_97 (by decide) ?_
              refine zJ_loc (ls' := [(0, .ref 0), (1, .int p1), (2, .int p2), (3, .long v3n10), (5, .int v5n11), (6, .int v6n12)]) (zll_c rfl (zll_c rfl (zll_c rfl (zll_c rfl (zll_c rfl (zll_c rfl zll_n)))))) ?_
              exact hrc29 _ _ _ h
      · replace h := it_t hc h
        refine zJ_iconst dX11_riders_19 zc_m1 rfl ?_
        obtain ⟨rfl, rfl, rfl⟩ := so3 h
        exact zJ_iret dX11_riders_20 rfl rfl
set_option maxRecDepth 100000 in
set_option maxHeartbeats 4000000 in
theorem t_X1_readFence (l : Launch) (σ : zS) {p2 : Int32} {text_limit : Int32} {text_at : Int32} {text_signs : (Nat → Int32)} {course_draft : (Nat → Int32)} {r : Int32} {w_text_at : Int32} {w_course_draft : (Nat → Int32)} (h : f_X1_readFence p2 text_limit text_at text_signs course_draft = some (r, w_text_at, w_course_draft)) : zMt l zW 9 mX1_readFence σ ([(66, text_limit), (67, text_at)], [(2, text_signs), (9, course_draft)], []) [.ref 5, .ref 1, .int p2] (some (.int r)) ([(66, text_limit), (67, w_text_at)], [(2, text_signs), (9, w_course_draft)], []) := by
  refine zMt_of (ls := [(0, .ref 5), (1, .ref 1), (2, .int p2)]) (by decide) rfl (fun _ => Nat.le_of_ble_eq_true rfl) rfl ?_
  unfold f_X1_readFence at h
  refine zJ_aload_n dX1_readFence_0 rfl rfl ?_
  refine zJ_ldcS (i := 0) (q := 88) dX1_readFence_1 rfl rfl rfl ?_
  obtain ⟨rn1, text_atn2, hcl, h⟩ := bd2_some h
  refine zJ_callV2 (σ := σ) (L := ([(66, text_limit), (67, text_at)], [(2, text_signs), (9, course_draft)], [])) (mi := mX1_readFence) (yi := mX9_oneOf) (as := [.ref 88]) (st := []) (L2 := ([(66, text_limit), (67, text_atn2)], [(2, text_signs), (9, course_draft)], [])) dX1_readFence_3 ML_X1_86 Yv_X9_oneOf rfl zW_1 rfl rfl (t_X9_oneOf l _ hcl) (zsub_i (zle_c rfl (zle_c rfl zle_n)) (zle_c rfl zle_n) zle_n) (zjok_i rfl rfl (zle_c rfl (zle_c rfl zle_n)) rfl rfl (zle_c rfl (zle_c rfl zle_n)) rfl rfl zle_n) (Nat.le_of_ble_eq_true rfl) (Nat.le_of_ble_eq_true rfl) rfl rfl ?_
  refine zJ_istore_n (ls' := [(3, .int rn1), (0, .ref 5), (1, .ref 1), (2, .int p2)]) dX1_readFence_6 rfl rfl rfl ?_
  refine zJ_iload_n dX1_readFence_7 rfl rfl ?_
  refine zJ_if_ge (tgt := 13) dX1_readFence_8 (by decide) rfl (fun hc => ?_) (fun hc => ?_)
  · replace h := it_t hc h
    refine zJ_aload_n dX1_readFence_13 rfl rfl ?_
    refine zJ_iconst dX1_readFence_14 zc_0 rfl ?_
    refine zJ_bipush dX1_readFence_15 zb_9 rfl ?_
    obtain ⟨rn3, text_atn4, hcl, h⟩ := bd2_some h
    refine zJ_callV2 (σ := σ) (L := ([(66, text_limit), (67, text_atn2)], [(2, text_signs), (9, course_draft)], [])) (mi := mX1_readFence) (yi := mX9_digit) (as := [.int (0 : Int32), .int (9 : Int32)]) (st := []) (L2 := ([(66, text_limit), (67, text_atn4)], [(2, text_signs), (9, course_draft)], [])) dX1_readFence_17 ML_X1_90 Yv_X9_digit rfl zW_1 rfl rfl (t_X9_digit l _ hcl) (zsub_i (zle_c rfl (zle_c rfl zle_n)) (zle_c rfl zle_n) zle_n) (zjok_i rfl rfl (zle_c rfl (zle_c rfl zle_n)) rfl rfl (zle_c rfl (zle_c rfl zle_n)) rfl rfl zle_n) (Nat.le_of_ble_eq_true rfl) (Nat.le_of_ble_eq_true rfl) rfl rfl ?_
    refine zJ_istore (ls' := [(4, .int rn3), (3, .int rn1), (0, .ref 5), (1, .ref 1), (2, .int p2)]) dX1_readFence_20 rfl rfl rfl ?_
    refine zJ_iload dX1_readFence_22 rfl rfl ?_
    refine zJ_iconst dX1_readFence_24 zc_m1 rfl ?_
    refine zJ_icmp_eq (tgt := 37) dX1_readFence_25 (by decide) rfl (fun hc => ?_) (fun hc => ?_)
    · replace h := it_t hc h
      refine zJ_iconst dX1_readFence_37 zc_0 rfl ?_
      obtain ⟨rfl, rfl, rfl⟩ := so3 h
      exact zJ_iret dX1_readFence_38 rfl (by decide)
    · replace h := it_f hc h
      refine zJ_aload_n dX1_readFence_28 rfl rfl ?_
      refine zJ_bipush dX1_readFence_29 zb_64 rfl ?_
      obtain ⟨rn5, text_atn6, hcl, h⟩ := bd2_some h
      refine zJ_callV2 (σ := σ) (L := ([(66, text_limit), (67, text_atn4)], [(2, text_signs), (9, course_draft)], [])) (mi := mX1_readFence) (yi := mX9_take) (as := [.int (64 : Int32)]) (st := []) (L2 := ([(66, text_limit), (67, text_atn6)], [(2, text_signs), (9, course_draft)], [])) dX1_readFence_31 ML_X1_80 Yv_X9_take rfl zW_1 rfl rfl (t_X9_take l _ hcl) (zsub_i (zle_c rfl (zle_c rfl zle_n)) (zle_c rfl zle_n) zle_n) (zjok_i rfl rfl (zle_c rfl (zle_c rfl zle_n)) rfl rfl (zle_c rfl (zle_c rfl zle_n)) rfl rfl zle_n) (Nat.le_of_ble_eq_true rfl) (Nat.le_of_ble_eq_true rfl) rfl rfl ?_
      refine zJ_if_ne (tgt := 39) dX1_readFence_34 (by decide) rfl (fun hc => ?_) (fun hc => ?_)
      · replace h := it_f hc h
        refine zJ_aload_n dX1_readFence_39 rfl rfl ?_
        refine zJ_iconst dX1_readFence_40 zc_1 rfl ?_
        refine zJ_bipush dX1_readFence_41 zb_9 rfl ?_
        obtain ⟨rn7, text_atn8, hcl, h⟩ := bd2_some h
        refine zJ_callV2 (σ := σ) (L := ([(66, text_limit), (67, text_atn6)], [(2, text_signs), (9, course_draft)], [])) (mi := mX1_readFence) (yi := mX9_digit) (as := [.int (1 : Int32), .int (9 : Int32)]) (st := []) (L2 := ([(66, text_limit), (67, text_atn8)], [(2, text_signs), (9, course_draft)], [])) dX1_readFence_43 ML_X1_90 Yv_X9_digit rfl zW_1 rfl rfl (t_X9_digit l _ hcl) (zsub_i (zle_c rfl (zle_c rfl zle_n)) (zle_c rfl zle_n) zle_n) (zjok_i rfl rfl (zle_c rfl (zle_c rfl zle_n)) rfl rfl (zle_c rfl (zle_c rfl zle_n)) rfl rfl zle_n) (Nat.le_of_ble_eq_true rfl) (Nat.le_of_ble_eq_true rfl) rfl rfl ?_
        refine zJ_istore (ls' := [(5, .int rn7), (4, .int rn3), (3, .int rn1), (0, .ref 5), (1, .ref 1), (2, .int p2)]) dX1_readFence_46 rfl rfl rfl ?_
        refine zJ_iload dX1_readFence_48 rfl rfl ?_
        refine zJ_iconst dX1_readFence_50 zc_m1 rfl ?_
        have hj_X1_readFence_65 : ∀ (t0_65j : Int32) (text_at_65j : Int32), j_X1_readFence_65 p2 course_draft rn1 rn3 rn7 t0_65j text_at_65j = some (r, w_text_at, w_course_draft) → zJ l zW 9 mX1_readFence σ ([(66, text_limit), (67, text_at_65j)], [(2, text_signs), (9, course_draft)], []) 65 [(0, .ref 5), (2, .int p2), (3, .int rn1), (4, .int rn3), (5, .int rn7)] [.int t0_65j] (some (.int r)) ([(66, text_limit), (67, w_text_at)], [(2, text_signs), (9, w_course_draft)], []) := by
          intro t0_65j text_at_65j h
          unfold j_X1_readFence_65 at h
          refine zJ_istore (ls' := [(6, .int t0_65j), (0, .ref 5), (2, .int p2), (3, .int rn1), (4, .int rn3), (5, .int rn7)]) dX1_readFence_65 rfl rfl rfl ?_
          refine zJ_aload_n dX1_readFence_67 rfl rfl ?_
          refine zJ_getr (mi := mX1_readFence) dX1_readFence_68 F_X1_21 zW_5 rfl rfl ?_
          refine zJ_iconst dX1_readFence_71 zc_3 rfl ?_
          refine zJ_iload_n dX1_readFence_72 rfl rfl ?_
          refine zJ_imul dX1_readFence_73 rfl ?_
          refine zJ_iload_n dX1_readFence_74 rfl rfl ?_
          obtain ⟨hg, h⟩ := gd_some h
          refine zK_iast (mi := mX1_readFence) (f := course_draft) (lb' := [(2, text_signs), (9, (upd course_draft ((3 : Int32) * p2).toNatClampNeg rn1))]) dX1_readFence_75 zW_9 (ix_in hg) rfl rfl rfl ?_
          refine zJ_aload_n dX1_readFence_76 rfl rfl ?_
          refine zJ_getr (mi := mX1_readFence) dX1_readFence_77 F_X1_21 zW_5 rfl rfl ?_
          refine zJ_iconst dX1_readFence_80 zc_3 rfl ?_
          refine zJ_iload_n dX1_readFence_81 rfl rfl ?_
          refine zJ_imul dX1_readFence_82 rfl ?_
          refine zJ_iconst dX1_readFence_83 zc_1 rfl ?_
          refine zJ_iadd dX1_readFence_84 rfl ?_
          refine zJ_iload dX1_readFence_85 rfl rfl ?_
          obtain ⟨hg, h⟩ := gd_some h
          refine zK_iast (mi := mX1_readFence) (f := ((upd course_draft ((3 : Int32) * p2).toNatClampNeg rn1))) (lb' := [(2, text_signs), (9, (upd ((upd course_draft ((3 : Int32) * p2).toNatClampNeg rn1)) (((3 : Int32) * p2) + (1 : Int32)).toNatClampNeg rn3))]) dX1_readFence_87 zW_9 (ix_in hg) rfl rfl rfl ?_
          refine zJ_aload_n dX1_readFence_88 rfl rfl ?_
          refine zJ_getr (mi := mX1_readFence) dX1_readFence_89 F_X1_21 zW_5 rfl rfl ?_
          refine zJ_iconst dX1_readFence_92 zc_3 rfl ?_
          refine zJ_iload_n dX1_readFence_93 rfl rfl ?_
          refine zJ_imul dX1_readFence_94 rfl ?_
          refine zJ_iconst dX1_readFence_95 zc_2 rfl ?_
          refine zJ_iadd dX1_readFence_96 rfl ?_
          refine zJ_iload dX1_readFence_97 rfl rfl ?_
          refine zJ_bipush dX1_readFence_99 zb_10 rfl ?_
          refine zJ_imul dX1_readFence_101 rfl ?_
          refine zJ_iload dX1_readFence_102 rfl rfl ?_
          refine zJ_iadd dX1_readFence_104 rfl ?_
          obtain ⟨hg, h⟩ := gd_some h
          refine zK_iast (mi := mX1_readFence) (f := ((upd ((upd course_draft ((3 : Int32) * p2).toNatClampNeg rn1)) (((3 : Int32) * p2) + (1 : Int32)).toNatClampNeg rn3))) (lb' := [(2, text_signs), (9, (upd ((upd ((upd course_draft ((3 : Int32) * p2).toNatClampNeg rn1)) (((3 : Int32) * p2) + (1 : Int32)).toNatClampNeg rn3)) (((3 : Int32) * p2) + (2 : Int32)).toNatClampNeg ((rn7 * (10 : Int32)) + t0_65j)))]) dX1_readFence_105 zW_9 (ix_in hg) rfl rfl rfl ?_
          refine zJ_iload dX1_readFence_106 rfl rfl ?_
          refine zJ_iconst dX1_readFence_108 zc_m1 rfl ?_
          refine zJ_icmp_eq (tgt := 116) dX1_readFence_109 (by decide) rfl (fun hc => ?_) (fun hc => ?_)
          · replace h := it_t hc h
            refine zJ_iconst dX1_readFence_116 zc_0 rfl ?_
            obtain ⟨rfl, rfl, rfl⟩ := so3 h
            exact zJ_iret dX1_readFence_117 rfl (by decide)
          · replace h := it_f hc h
            refine zJ_iconst dX1_readFence_112 zc_1 rfl ?_
            refine zJ_goto (tgt := 117) dX1_readFence_113 (by decide) ?_
            obtain ⟨rfl, rfl, rfl⟩ := so3 h
            exact zJ_iret dX1_readFence_117 rfl (by decide)
        refine zJ_icmp_ne (tgt := 58) dX1_readFence_51 (by decide) rfl (fun hc => ?_) (fun hc => ?_)
        · replace h := it_f hc h
          refine zJ_aload_n dX1_readFence_58 rfl rfl ?_
          refine zJ_iconst dX1_readFence_59 zc_0 rfl ?_
          refine zJ_bipush dX1_readFence_60 zb_9 rfl ?_
          obtain ⟨rn9, text_atn10, hcl, h⟩ := bd2_some h
          refine zJ_callV2 (σ := σ) (L := ([(66, text_limit), (67, text_atn8)], [(2, text_signs), (9, course_draft)], [])) (mi := mX1_readFence) (yi := mX9_digit) (as := [.int (0 : Int32), .int (9 : Int32)]) (st := []) (L2 := ([(66, text_limit), (67, text_atn10)], [(2, text_signs), (9, course_draft)], [])) dX1_readFence_62 ML_X1_90 Yv_X9_digit rfl zW_1 rfl rfl (t_X9_digit l _ hcl) (zsub_i (zle_c rfl (zle_c rfl zle_n)) (zle_c rfl zle_n) zle_n) (zjok_i rfl rfl (zle_c rfl (zle_c rfl zle_n)) rfl rfl (zle_c rfl (zle_c rfl zle_n)) rfl rfl zle_n) (Nat.le_of_ble_eq_true rfl) (Nat.le_of_ble_eq_true rfl) rfl rfl ?_
          refine zJ_loc (ls' := [(0, .ref 5), (2, .int p2), (3, .int rn1), (4, .int rn3), (5, .int rn7)]) (zll_c rfl (zll_c rfl (zll_c rfl (zll_c rfl (zll_c rfl zll_n))))) ?_
          exact hj_X1_readFence_65 _ _ h
        · replace h := it_t hc h
          refine zJ_iconst dX1_readFence_54 zc_m1 rfl ?_
          refine zJ_goto (tgt := 65) dX1_readFence_55 (by decide) ?_
          refine zJ_loc (ls' := [(0, .ref 5), (2, .int p2), (3, .int rn1), (4, .int rn3), (5, .int rn7)]) (zll_c rfl (zll_c rfl (zll_c rfl (zll_c rfl (zll_c rfl zll_n))))) ?_
          exact hj_X1_readFence_65 _ _ h
      · replace h := it_t hc h
        refine zJ_iconst dX1_readFence_37 zc_0 rfl ?_
        obtain ⟨rfl, rfl, rfl⟩ := so3 h
        exact zJ_iret dX1_readFence_38 rfl (by decide)
  · replace h := it_f hc h
    refine zJ_iconst dX1_readFence_11 zc_0 rfl ?_
    obtain ⟨rfl, rfl, rfl⟩ := so3 h
    exact zJ_iret dX1_readFence_12 rfl (by decide)
set_option maxRecDepth 100000 in
set_option maxHeartbeats 4000000 in
theorem t_X1_takeDraft (l : Launch) (σ : zS) {p1 : Int32} {course_fences : Int32} {course_planCount : Int32} {course_kinds : (Nat → Int32)} {course_heights : (Nat → Int32)} {course_feet : (Nat → Int32)} {course_draft : (Nat → Int32)} {w_course_fences : Int32} {w_course_planCount : Int32} {w_course_kinds : (Nat → Int32)} {w_course_heights : (Nat → Int32)} {w_course_feet : (Nat → Int32)} (h : f_X1_takeDraft p1 course_fences course_planCount course_kinds course_heights course_feet course_draft = some (w_course_fences, w_course_planCount, w_course_kinds, w_course_heights, w_course_feet)) : zMt l zW 0 mX1_takeDraft σ ([(323, course_fences), (328, course_planCount)], [(6, course_kinds), (7, course_heights), (8, course_feet), (9, course_draft)], []) [.ref 5, .int p1] none ([(323, w_course_fences), (328, w_course_planCount)], [(6, w_course_kinds), (7, w_course_heights), (8, w_course_feet), (9, course_draft)], []) := by
  refine zMt_of (ls := [(0, .ref 5), (1, .int p1)]) (by decide) rfl (fun _ => Nat.le_of_ble_eq_true rfl) rfl ?_
  unfold f_X1_takeDraft at h
  refine zJ_iconst dX1_takeDraft_0 zc_0 rfl ?_
  refine zJ_istore_n (ls' := [(2, .int (0 : Int32)), (0, .ref 5), (1, .int p1)]) dX1_takeDraft_1 rfl rfl rfl ?_
  have hk2 : ∀ (course_kinds_2x : (Nat → Int32)) (course_heights_2x : (Nat → Int32)) (course_feet_2x : (Nat → Int32)), k_X1_takeDraft_2 p1 course_kinds_2x course_heights_2x course_feet_2x = some (w_course_fences, w_course_planCount, w_course_kinds, w_course_heights, w_course_feet) → zJ l zW 0 mX1_takeDraft σ ([(323, course_fences), (328, course_planCount)], [(6, course_kinds_2x), (7, course_heights_2x), (8, course_feet_2x), (9, course_draft)], []) 59 [(0, .ref 5), (1, .int p1)] [] none ([(323, w_course_fences), (328, w_course_planCount)], [(6, w_course_kinds), (7, w_course_heights), (8, w_course_feet), (9, course_draft)], []) := by
    intro course_kinds_2x course_heights_2x course_feet_2x h
    unfold k_X1_takeDraft_2 at h
    refine zJ_aload_n dX1_takeDraft_59 rfl rfl ?_
    refine zJ_iload_n dX1_takeDraft_60 rfl rfl ?_
    refine zK_puti (mi := mX1_takeDraft) (la' := [(323, p1), (328, course_planCount)]) zW_ok dX1_takeDraft_61 F_X1_50 P_1_3 zW_5 rfl rfl rfl ?_
    refine zJ_aload_n dX1_takeDraft_64 rfl rfl ?_
    refine zJ_iconst dX1_takeDraft_65 zc_0 rfl ?_
    refine zK_puti (mi := mX1_takeDraft) (la' := [(323, p1), (328, (0 : Int32))]) zW_ok dX1_takeDraft_66 F_X1_56 P_1_8 zW_5 rfl rfl rfl ?_
    obtain ⟨rfl, rfl, rfl, rfl, rfl⟩ := so5 h
    exact zJ_vret dX1_takeDraft_69 rfl
  refine zJ_loc (ls' := [(0, .ref 5), (1, .int p1), (2, .int (0 : Int32))]) (zll_c rfl (zll_c rfl (zll_c rfl zll_n))) ?_
  refine ml4_J (fun (v2_2 : Int32) (course_kinds_2 : (Nat → Int32)) (course_heights_2 : (Nat → Int32)) (course_feet_2 : (Nat → Int32)) => zJ l zW 0 mX1_takeDraft σ ([(323, course_fences), (328, course_planCount)], [(6, course_kinds_2), (7, course_heights_2), (8, course_feet_2), (9, course_draft)], []) 2 [(0, .ref 5), (1, .int p1), (2, .int v2_2)] [] none ([(323, w_course_fences), (328, w_course_planCount)], [(6, w_course_kinds), (7, w_course_heights), (8, w_course_feet), (9, course_draft)], [])) (fun rc2 hrc2 v2_2 course_kinds_2 course_heights_2 course_feet_2 h => ?_) zN _ _ _ _ h
  unfold s_X1_takeDraft_2 at h
  refine zJ_iload_n dX1_takeDraft_2 rfl rfl ?_
  refine zJ_iload_n dX1_takeDraft_3 rfl rfl ?_
  refine zJ_icmp_ge (tgt := 59) dX1_takeDraft_4 (by decide) rfl (fun hc => ?_) (fun hc => ?_)
  · replace h := it_t hc h
    refine zJ_loc (ls' := [(0, .ref 5), (1, .int p1)]) (zll_c rfl (zll_c rfl zll_n)) ?_
    exact hk2 _ _ _ h
  · replace h := it_f hc h
    refine zJ_aload_n dX1_takeDraft_7 rfl rfl ?_
    refine zJ_getr (mi := mX1_takeDraft) dX1_takeDraft_8 F_X1_11 zW_5 rfl rfl ?_
    refine zJ_iload_n dX1_takeDraft_11 rfl rfl ?_
    refine zJ_aload_n dX1_takeDraft_12 rfl rfl ?_
    refine zJ_getr (mi := mX1_takeDraft) dX1_takeDraft_13 F_X1_21 zW_5 rfl rfl ?_
    refine zJ_iconst dX1_takeDraft_16 zc_3 rfl ?_
    refine zJ_iload_n dX1_takeDraft_17 rfl rfl ?_
    refine zJ_imul dX1_takeDraft_18 rfl ?_
    obtain ⟨hg, h⟩ := gd_some h
    refine zJ_iald (mi := mX1_takeDraft) (f := course_draft) dX1_takeDraft_19 zW_9 (ix_in hg) rfl rfl ?_
    obtain ⟨hg, h⟩ := gd_some h
    refine zK_iast (mi := mX1_takeDraft) (f := course_kinds_2) (lb' := [(6, (upd course_kinds_2 v2_2.toNatClampNeg (course_draft ((3 : Int32) * v2_2).toNatClampNeg))), (7, course_heights_2), (8, course_feet_2), (9, course_draft)]) dX1_takeDraft_20 zW_6 (ix_in hg) rfl rfl rfl ?_
    refine zJ_aload_n dX1_takeDraft_21 rfl rfl ?_
    refine zJ_getr (mi := mX1_takeDraft) dX1_takeDraft_22 F_X1_15 zW_5 rfl rfl ?_
    refine zJ_iload_n dX1_takeDraft_25 rfl rfl ?_
    refine zJ_aload_n dX1_takeDraft_26 rfl rfl ?_
    refine zJ_getr (mi := mX1_takeDraft) dX1_takeDraft_27 F_X1_21 zW_5 rfl rfl ?_
    refine zJ_iconst dX1_takeDraft_30 zc_3 rfl ?_
    refine zJ_iload_n dX1_takeDraft_31 rfl rfl ?_
    refine zJ_imul dX1_takeDraft_32 rfl ?_
    refine zJ_iconst dX1_takeDraft_33 zc_1 rfl ?_
    refine zJ_iadd dX1_takeDraft_34 rfl ?_
    obtain ⟨hg, h⟩ := gd_some h
    refine zJ_iald (mi := mX1_takeDraft) (f := course_draft) dX1_takeDraft_35 zW_9 (ix_in hg) rfl rfl ?_
    obtain ⟨hg, h⟩ := gd_some h
    refine zK_iast (mi := mX1_takeDraft) (f := course_heights_2) (lb' := [(6, (upd course_kinds_2 v2_2.toNatClampNeg (course_draft ((3 : Int32) * v2_2).toNatClampNeg))), (7, (upd course_heights_2 v2_2.toNatClampNeg (course_draft (((3 : Int32) * v2_2) + (1 : Int32)).toNatClampNeg))), (8, course_feet_2), (9, course_draft)]) dX1_takeDraft_36 zW_7 (ix_in hg) rfl rfl rfl ?_
    refine zJ_aload_n dX1_takeDraft_37 rfl rfl ?_
    refine zJ_getr (mi := mX1_takeDraft) dX1_takeDraft_38 F_X1_18 zW_5 rfl rfl ?_
    refine zJ_iload_n dX1_takeDraft_41 rfl rfl ?_
    refine zJ_aload_n dX1_takeDraft_42 rfl rfl ?_
    refine zJ_getr (mi := mX1_takeDraft) dX1_takeDraft_43 F_X1_21 zW_5 rfl rfl ?_
    refine zJ_iconst dX1_takeDraft_46 zc_3 rfl ?_
    refine zJ_iload_n dX1_takeDraft_47 rfl rfl ?_
    refine zJ_imul dX1_takeDraft_48 rfl ?_
    refine zJ_iconst dX1_takeDraft_49 zc_2 rfl ?_
    refine zJ_iadd dX1_takeDraft_50 rfl ?_
    obtain ⟨hg, h⟩ := gd_some h
    refine zJ_iald (mi := mX1_takeDraft) (f := course_draft) dX1_takeDraft_51 zW_9 (ix_in hg) rfl rfl ?_
    obtain ⟨hg, h⟩ := gd_some h
    refine zK_iast (mi := mX1_takeDraft) (f := course_feet_2) (lb' := [(6, (upd course_kinds_2 v2_2.toNatClampNeg (course_draft ((3 : Int32) * v2_2).toNatClampNeg))), (7, (upd course_heights_2 v2_2.toNatClampNeg (course_draft (((3 : Int32) * v2_2) + (1 : Int32)).toNatClampNeg))), (8, (upd course_feet_2 v2_2.toNatClampNeg (course_draft (((3 : Int32) * v2_2) + (2 : Int32)).toNatClampNeg))), (9, course_draft)]) dX1_takeDraft_52 zW_8 (ix_in hg) rfl rfl rfl ?_
    obtain ⟨v2n1, ev2n1, h⟩ := lt1_some h
    refine zJ_iincN (ls' := [(2, .int v2n1), (0, .ref 5), (1, .int p1)]) dX1_takeDraft_53 rfl rfl zc_1 ev2n1 rfl rfl ?_
    refine zJ_goto (tgt := 2) dX1_takeDraft_56 (by decide) ?_
    refine zJ_loc (ls' := [(0, .ref 5), (1, .int p1), (2, .int v2n1)]) (zll_c rfl (zll_c rfl (zll_c rfl zll_n))) ?_
    exact hrc2 _ _ _ _ h
set_option maxRecDepth 100000 in
set_option maxHeartbeats 4000000 in
theorem t_X1_readRing (l : Launch) (σ : zS) {text_size : Int32} {text_limit : Int32} {text_at : Int32} {course_fences : Int32} {course_planCount : Int32} {text_signs : (Nat → Int32)} {course_kinds : (Nat → Int32)} {course_heights : (Nat → Int32)} {course_feet : (Nat → Int32)} {course_draft : (Nat → Int32)} {r : Int32} {w_text_limit : Int32} {w_text_at : Int32} {w_course_fences : Int32} {w_course_planCount : Int32} {w_course_kinds : (Nat → Int32)} {w_course_heights : (Nat → Int32)} {w_course_feet : (Nat → Int32)} {w_course_draft : (Nat → Int32)} (h : f_X1_readRing text_size text_limit text_at course_fences course_planCount text_signs course_kinds course_heights course_feet course_draft = some (r, w_text_limit, w_text_at, w_course_fences, w_course_planCount, w_course_kinds, w_course_heights, w_course_feet, w_course_draft)) : zMt l zW 10 mX1_readRing σ ([(65, text_size), (66, text_limit), (67, text_at), (323, course_fences), (328, course_planCount)], [(2, text_signs), (6, course_kinds), (7, course_heights), (8, course_feet), (9, course_draft)], []) [.ref 5, .ref 1] (some (.int r)) ([(65, text_size), (66, w_text_limit), (67, w_text_at), (323, w_course_fences), (328, w_course_planCount)], [(2, text_signs), (6, w_course_kinds), (7, w_course_heights), (8, w_course_feet), (9, w_course_draft)], []) := by
  refine zMt_of (ls := [(0, .ref 5), (1, .ref 1)]) (by decide) rfl (fun _ => Nat.le_of_ble_eq_true rfl) rfl ?_
  unfold f_X1_readRing at h
  refine zJ_aload_n dX1_readRing_0 rfl rfl ?_
  refine zJ_bipush dX1_readRing_1 zb_76 rfl ?_
  obtain ⟨text_limitn1, text_atn2, hcl, h⟩ := bd2_some h
  refine zJ_callV2 (σ := σ) (L := ([(65, text_size), (66, text_limit), (67, text_at), (323, course_fences), (328, course_planCount)], [(2, text_signs), (6, course_kinds), (7, course_heights), (8, course_feet), (9, course_draft)], [])) (mi := mX1_readRing) (yi := mX9_open) (as := [.int (76 : Int32)]) (st := []) (L2 := ([(65, text_size), (66, text_limitn1), (67, text_atn2), (323, course_fences), (328, course_planCount)], [(2, text_signs), (6, course_kinds), (7, course_heights), (8, course_feet), (9, course_draft)], [])) dX1_readRing_3 ML_X1_59 Yv_X9_open rfl zW_1 rfl rfl (t_X9_open l _ hcl) (zsub_i (zle_c rfl (zle_c rfl (zle_c rfl zle_n))) zle_n zle_n) (zjok_i rfl rfl (zle_c rfl (zle_c rfl (zle_c rfl (zle_c rfl (zle_c rfl zle_n))))) rfl rfl (zle_c rfl (zle_c rfl (zle_c rfl (zle_c rfl (zle_c rfl zle_n))))) rfl rfl zle_n) (Nat.le_of_ble_eq_true rfl) (Nat.le_of_ble_eq_true rfl) rfl rfl ?_
  refine zJ_iconst dX1_readRing_6 zc_0 rfl ?_
  refine zJ_istore_n (ls' := [(2, .int (0 : Int32)), (0, .ref 5), (1, .ref 1)]) dX1_readRing_7 rfl rfl rfl ?_
  have hk8 : ∀ (text_at_8x : Int32) (course_draft_8x : (Nat → Int32)), k_X1_readRing_8 course_fences course_planCount course_kinds course_heights course_feet text_limitn1 text_at_8x course_draft_8x = some (r, w_text_limit, w_text_at, w_course_fences, w_course_planCount, w_course_kinds, w_course_heights, w_course_feet, w_course_draft) → zJ l zW 10 mX1_readRing σ ([(65, text_size), (66, text_limitn1), (67, text_at_8x), (323, course_fences), (328, course_planCount)], [(2, text_signs), (6, course_kinds), (7, course_heights), (8, course_feet), (9, course_draft_8x)], []) 66 [(1, .ref 1)] [] (some (.int r)) ([(65, text_size), (66, w_text_limit), (67, w_text_at), (323, w_course_fences), (328, w_course_planCount)], [(2, text_signs), (6, w_course_kinds), (7, w_course_heights), (8, w_course_feet), (9, w_course_draft)], []) := by
    intro text_at_8x course_draft_8x h
    unfold k_X1_readRing_8 at h
    refine zJ_aload_n dX1_readRing_66 rfl rfl ?_
    obtain ⟨rn3, hcl, h⟩ := bd1_some h
    refine zJ_callV2 (σ := σ) (L := ([(65, text_size), (66, text_limitn1), (67, text_at_8x), (323, course_fences), (328, course_planCount)], [(2, text_signs), (6, course_kinds), (7, course_heights), (8, course_feet), (9, course_draft_8x)], [])) (mi := mX1_readRing) (yi := mX9_fault) (as := []) (st := []) (L2 := ([(65, text_size), (66, text_limitn1), (67, text_at_8x), (323, course_fences), (328, course_planCount)], [(2, text_signs), (6, course_kinds), (7, course_heights), (8, course_feet), (9, course_draft_8x)], [])) dX1_readRing_67 ML_X1_69 Yv_X9_fault rfl zW_1 rfl rfl (t_X9_fault l _ hcl) (zsub_i (zle_c rfl zle_n) zle_n zle_n) (zjok_i rfl rfl (zle_c rfl (zle_c rfl (zle_c rfl (zle_c rfl (zle_c rfl zle_n))))) rfl rfl (zle_c rfl (zle_c rfl (zle_c rfl (zle_c rfl (zle_c rfl zle_n))))) rfl rfl zle_n) (Nat.le_of_ble_eq_true rfl) (Nat.le_of_ble_eq_true rfl) rfl rfl ?_
    obtain ⟨rfl, rfl, rfl, rfl, rfl, rfl, rfl, rfl, rfl⟩ := so9 h
    exact zJ_iret dX1_readRing_70 rfl rfl
  refine zJ_loc (ls' := [(0, .ref 5), (1, .ref 1), (2, .int (0 : Int32))]) (zll_c rfl (zll_c rfl (zll_c rfl zll_n))) ?_
  refine ml3_J (fun (v2_8 : Int32) (text_at_8 : Int32) (course_draft_8 : (Nat → Int32)) => zJ l zW 10 mX1_readRing σ ([(65, text_size), (66, text_limitn1), (67, text_at_8), (323, course_fences), (328, course_planCount)], [(2, text_signs), (6, course_kinds), (7, course_heights), (8, course_feet), (9, course_draft_8)], []) 8 [(0, .ref 5), (1, .ref 1), (2, .int v2_8)] [] (some (.int r)) ([(65, text_size), (66, w_text_limit), (67, w_text_at), (323, w_course_fences), (328, w_course_planCount)], [(2, text_signs), (6, w_course_kinds), (7, w_course_heights), (8, w_course_feet), (9, w_course_draft)], [])) (fun rc8 hrc8 v2_8 text_at_8 course_draft_8 h => ?_) zN _ _ _ h
  unfold s_X1_readRing_8 at h
  refine zJ_iload_n dX1_readRing_8 rfl rfl ?_
  refine zJ_bipush dX1_readRing_9 zb_8 rfl ?_
  refine zJ_icmp_ge (tgt := 66) dX1_readRing_11 (by decide) rfl (fun hc => ?_) (fun hc => ?_)
  · replace h := it_t hc h
    refine zJ_loc (ls' := [(1, .ref 1)]) (zll_c rfl zll_n) ?_
    exact hk8 _ _ h
  · replace h := it_f hc h
    refine zJ_aload_n dX1_readRing_14 rfl rfl ?_
    refine zJ_aload_n dX1_readRing_15 rfl rfl ?_
    refine zJ_iload_n dX1_readRing_16 rfl rfl ?_
    obtain ⟨rn4, text_atn5, course_draftn6, hcl, h⟩ := bd3_some h
    refine zJ_callV2 (σ := σ) (L := ([(65, text_size), (66, text_limitn1), (67, text_at_8), (323, course_fences), (328, course_planCount)], [(2, text_signs), (6, course_kinds), (7, course_heights), (8, course_feet), (9, course_draft_8)], [])) (mi := mX1_readRing) (yi := mX1_readFence) (as := [.ref 1, .int v2_8]) (st := []) (L2 := ([(65, text_size), (66, text_limitn1), (67, text_atn5), (323, course_fences), (328, course_planCount)], [(2, text_signs), (6, course_kinds), (7, course_heights), (8, course_feet), (9, course_draftn6)], [])) dX1_readRing_17 ML_X1_65 Yv_X1_readFence rfl zW_5 rfl rfl (t_X1_readFence l _ hcl) (zsub_i (zle_c rfl (zle_c rfl zle_n)) (zle_c rfl (zle_c rfl zle_n)) zle_n) (zjok_i rfl rfl (zle_c rfl (zle_c rfl (zle_c rfl (zle_c rfl (zle_c rfl zle_n))))) rfl rfl (zle_c rfl (zle_c rfl (zle_c rfl (zle_c rfl (zle_c rfl zle_n))))) rfl rfl zle_n) (Nat.le_of_ble_eq_true rfl) (Nat.le_of_ble_eq_true rfl) rfl rfl ?_
    refine zJ_if_ne (tgt := 28) dX1_readRing_20 (by decide) rfl (fun hc => ?_) (fun hc => ?_)
    · replace h := it_f hc h
      refine zJ_aload_n dX1_readRing_28 rfl rfl ?_
      obtain ⟨rn7, hcl, h⟩ := bd1_some h
      refine zJ_callV2 (σ := σ) (L := ([(65, text_size), (66, text_limitn1), (67, text_atn5), (323, course_fences), (328, course_planCount)], [(2, text_signs), (6, course_kinds), (7, course_heights), (8, course_feet), (9, course_draftn6)], [])) (mi := mX1_readRing) (yi := mX9_isDone) (as := []) (st := []) (L2 := ([(65, text_size), (66, text_limitn1), (67, text_atn5), (323, course_fences), (328, course_planCount)], [(2, text_signs), (6, course_kinds), (7, course_heights), (8, course_feet), (9, course_draftn6)], [])) dX1_readRing_29 ML_X1_73 Yv_X9_isDone rfl zW_1 rfl rfl (t_X9_isDone l _ hcl) (zsub_i (zle_c rfl (zle_c rfl zle_n)) zle_n zle_n) (zjok_i rfl rfl (zle_c rfl (zle_c rfl (zle_c rfl (zle_c rfl (zle_c rfl zle_n))))) rfl rfl (zle_c rfl (zle_c rfl (zle_c rfl (zle_c rfl (zle_c rfl zle_n))))) rfl rfl zle_n) (Nat.le_of_ble_eq_true rfl) (Nat.le_of_ble_eq_true rfl) rfl rfl ?_
      refine zJ_if_eq (tgt := 46) dX1_readRing_32 (by decide) rfl (fun hc => ?_) (fun hc => ?_)
      · replace h := it_t hc h
        refine zJ_aload_n dX1_readRing_46 rfl rfl ?_
        refine zJ_bipush dX1_readRing_47 zb_59 rfl ?_
        obtain ⟨rn8, text_atn9, hcl, h⟩ := bd2_some h
        refine zJ_callV2 (σ := σ) (L := ([(65, text_size), (66, text_limitn1), (67, text_atn5), (323, course_fences), (328, course_planCount)], [(2, text_signs), (6, course_kinds), (7, course_heights), (8, course_feet), (9, course_draftn6)], [])) (mi := mX1_readRing) (yi := mX9_take) (as := [.int (59 : Int32)]) (st := []) (L2 := ([(65, text_size), (66, text_limitn1), (67, text_atn9), (323, course_fences), (328, course_planCount)], [(2, text_signs), (6, course_kinds), (7, course_heights), (8, course_feet), (9, course_draftn6)], [])) dX1_readRing_49 ML_X1_80 Yv_X9_take rfl zW_1 rfl rfl (t_X9_take l _ hcl) (zsub_i (zle_c rfl (zle_c rfl zle_n)) (zle_c rfl zle_n) zle_n) (zjok_i rfl rfl (zle_c rfl (zle_c rfl (zle_c rfl (zle_c rfl (zle_c rfl zle_n))))) rfl rfl (zle_c rfl (zle_c rfl (zle_c rfl (zle_c rfl (zle_c rfl zle_n))))) rfl rfl zle_n) (Nat.le_of_ble_eq_true rfl) (Nat.le_of_ble_eq_true rfl) rfl rfl ?_
        refine zJ_if_ne (tgt := 60) dX1_readRing_52 (by decide) rfl (fun hc => ?_) (fun hc => ?_)
        · replace h := it_f hc h
          obtain ⟨v2n10, ev2n10, h⟩ := lt1_some h
          refine zJ_iincN (ls' := [(2, .int v2n10), (0, .ref 5), (1, .ref 1)]) dX1_readRing_60 rfl rfl zc_1 ev2n10 rfl rfl ?_
          refine zJ_goto (tgt := 8) dX1_readRing_63 (by decide) ?_
          refine zJ_loc (ls' := [(0, .ref 5), (1, .ref 1), (2, .int v2n10)]) (zll_c rfl (zll_c rfl (zll_c rfl zll_n))) ?_
          exact hrc8 _ _ _ h
        · replace h := it_t hc h
          refine zJ_aload_n dX1_readRing_55 rfl rfl ?_
          obtain ⟨rn11, hcl, h⟩ := bd1_some h
          refine zJ_callV2 (σ := σ) (L := ([(65, text_size), (66, text_limitn1), (67, text_atn9), (323, course_fences), (328, course_planCount)], [(2, text_signs), (6, course_kinds), (7, course_heights), (8, course_feet), (9, course_draftn6)], [])) (mi := mX1_readRing) (yi := mX9_fault) (as := []) (st := []) (L2 := ([(65, text_size), (66, text_limitn1), (67, text_atn9), (323, course_fences), (328, course_planCount)], [(2, text_signs), (6, course_kinds), (7, course_heights), (8, course_feet), (9, course_draftn6)], [])) dX1_readRing_56 ML_X1_69 Yv_X9_fault rfl zW_1 rfl rfl (t_X9_fault l _ hcl) (zsub_i (zle_c rfl zle_n) zle_n zle_n) (zjok_i rfl rfl (zle_c rfl (zle_c rfl (zle_c rfl (zle_c rfl (zle_c rfl zle_n))))) rfl rfl (zle_c rfl (zle_c rfl (zle_c rfl (zle_c rfl (zle_c rfl zle_n))))) rfl rfl zle_n) (Nat.le_of_ble_eq_true rfl) (Nat.le_of_ble_eq_true rfl) rfl rfl ?_
          obtain ⟨rfl, rfl, rfl, rfl, rfl, rfl, rfl, rfl, rfl⟩ := so9 h
          exact zJ_iret dX1_readRing_59 rfl rfl
      · replace h := it_f hc h
        refine zJ_aload_n dX1_readRing_35 rfl rfl ?_
        refine zJ_iload_n dX1_readRing_36 rfl rfl ?_
        refine zJ_iconst dX1_readRing_37 zc_1 rfl ?_
        refine zJ_iadd dX1_readRing_38 rfl ?_
        obtain ⟨course_fencesn12, course_planCountn13, course_kindsn14, course_heightsn15, course_feetn16, hcl, h⟩ := bd5_some h
        refine zJ_callV2 (σ := σ) (L := ([(65, text_size), (66, text_limitn1), (67, text_atn5), (323, course_fences), (328, course_planCount)], [(2, text_signs), (6, course_kinds), (7, course_heights), (8, course_feet), (9, course_draftn6)], [])) (mi := mX1_readRing) (yi := mX1_takeDraft) (as := [.int (v2_8 + (1 : Int32))]) (st := []) (L2 := ([(65, text_size), (66, text_limitn1), (67, text_atn5), (323, course_fencesn12), (328, course_planCountn13)], [(2, text_signs), (6, course_kindsn14), (7, course_heightsn15), (8, course_feetn16), (9, course_draftn6)], [])) dX1_readRing_39 ML_X1_77 Yv_X1_takeDraft rfl zW_5 rfl rfl (t_X1_takeDraft l _ hcl) (zsub_i (zle_c rfl (zle_c rfl zle_n)) (zle_c rfl (zle_c rfl (zle_c rfl (zle_c rfl zle_n)))) zle_n) (zjok_i rfl rfl (zle_c rfl (zle_c rfl (zle_c rfl (zle_c rfl (zle_c rfl zle_n))))) rfl rfl (zle_c rfl (zle_c rfl (zle_c rfl (zle_c rfl (zle_c rfl zle_n))))) rfl rfl zle_n) (Nat.le_of_ble_eq_true rfl) (Nat.le_of_ble_eq_true rfl) rfl rfl ?_
        refine zJ_iload_n dX1_readRing_42 rfl rfl ?_
        refine zJ_iconst dX1_readRing_43 zc_1 rfl ?_
        refine zJ_iadd dX1_readRing_44 rfl ?_
        obtain ⟨rfl, rfl, rfl, rfl, rfl, rfl, rfl, rfl, rfl⟩ := so9 h
        exact zJ_iret dX1_readRing_45 rfl rfl
    · replace h := it_t hc h
      refine zJ_aload_n dX1_readRing_23 rfl rfl ?_
      obtain ⟨rn17, hcl, h⟩ := bd1_some h
      refine zJ_callV2 (σ := σ) (L := ([(65, text_size), (66, text_limitn1), (67, text_atn5), (323, course_fences), (328, course_planCount)], [(2, text_signs), (6, course_kinds), (7, course_heights), (8, course_feet), (9, course_draftn6)], [])) (mi := mX1_readRing) (yi := mX9_fault) (as := []) (st := []) (L2 := ([(65, text_size), (66, text_limitn1), (67, text_atn5), (323, course_fences), (328, course_planCount)], [(2, text_signs), (6, course_kinds), (7, course_heights), (8, course_feet), (9, course_draftn6)], [])) dX1_readRing_24 ML_X1_69 Yv_X9_fault rfl zW_1 rfl rfl (t_X9_fault l _ hcl) (zsub_i (zle_c rfl zle_n) zle_n zle_n) (zjok_i rfl rfl (zle_c rfl (zle_c rfl (zle_c rfl (zle_c rfl (zle_c rfl zle_n))))) rfl rfl (zle_c rfl (zle_c rfl (zle_c rfl (zle_c rfl (zle_c rfl zle_n))))) rfl rfl zle_n) (Nat.le_of_ble_eq_true rfl) (Nat.le_of_ble_eq_true rfl) rfl rfl ?_
      obtain ⟨rfl, rfl, rfl, rfl, rfl, rfl, rfl, rfl, rfl⟩ := so9 h
      exact zJ_iret dX1_readRing_27 rfl rfl
set_option maxRecDepth 100000 in
set_option maxHeartbeats 4000000 in
theorem t_X8_forget_kept (l : Launch) (σ : zS) {kept_count : Int32} {kept_sizes : (Nat → Int32)} {w_kept_count : Int32} {w_kept_sizes : (Nat → Int32)} (h : f_X8_forget_kept kept_count kept_sizes = some (w_kept_count, w_kept_sizes)) : zMt l zW 1 mX8_forget σ ([(1923, kept_count)], [(32, kept_sizes)], []) [.ref 30] none ([(1923, w_kept_count)], [(32, w_kept_sizes)], []) := by
  refine zMt_of (ls := [(0, .ref 30)]) (by decide) rfl (fun _ => Nat.le_of_ble_eq_true rfl) rfl ?_
  unfold f_X8_forget_kept at h
  refine zJ_aload_n dX8_forget_0 rfl rfl ?_
  refine zJ_getr (mi := mX8_forget) dX8_forget_1 F_X8_25 zW_30 rfl rfl ?_
  refine zJ_iconst dX8_forget_4 zc_m1 rfl ?_
  obtain ⟨kept_sizesn1, hcl, h⟩ := bd1_some h
  refine zJ_callS2 (σ := σ) (L := ([(1923, kept_count)], [(32, kept_sizes)], [])) (mi := mX8_forget) (yi := mJ7_fill_53178) (as := [.ref 32, .int (-1 : Int32)]) (st := []) (L2 := ([(1923, kept_count)], [(32, kept_sizesn1)], [])) dX8_forget_5 ML_X8_28 Ys_J7_fill_53178 rfl (t_J7_fill_53178_kept_sizes l _ hcl) (zsub_i zle_n (zle_c rfl zle_n) zle_n) (zjok_i rfl rfl (zle_c rfl zle_n) rfl rfl (zle_c rfl zle_n) rfl rfl zle_n) (Nat.le_of_ble_eq_true rfl) (Nat.le_of_ble_eq_true rfl) rfl rfl ?_
  refine zJ_aload_n dX8_forget_8 rfl rfl ?_
  refine zJ_iconst dX8_forget_9 zc_0 rfl ?_
  refine zK_puti (mi := mX8_forget) (la' := [(1923, (0 : Int32))]) zW_ok dX8_forget_10 F_X8_34 P_8_3 zW_30 rfl rfl rfl ?_
  obtain ⟨rfl, rfl⟩ := so2 h
  exact zJ_vret dX8_forget_13 rfl
set_option maxRecDepth 100000 in
set_option maxHeartbeats 4000000 in
theorem t_X11_ring (l : Launch) (σ : zS) {text_size : Int32} {text_limit : Int32} {text_at : Int32} {course_fences : Int32} {course_planCount : Int32} {rounds_size : Int32} {history_count : Int32} {kept_count : Int32} {text_signs : (Nat → Int32)} {course_kinds : (Nat → Int32)} {course_heights : (Nat → Int32)} {course_feet : (Nat → Int32)} {course_draft : (Nat → Int32)} {history_sizes : (Nat → Int32)} {kept_sizes : (Nat → Int32)} {r : Int32} {w_text_size : Int32} {w_text_limit : Int32} {w_text_at : Int32} {w_course_fences : Int32} {w_course_planCount : Int32} {w_rounds_size : Int32} {w_history_count : Int32} {w_kept_count : Int32} {w_course_kinds : (Nat → Int32)} {w_course_heights : (Nat → Int32)} {w_course_feet : (Nat → Int32)} {w_course_draft : (Nat → Int32)} {w_history_sizes : (Nat → Int32)} {w_kept_sizes : (Nat → Int32)} (h : f_X11_ring text_size text_limit text_at course_fences course_planCount rounds_size history_count kept_count text_signs course_kinds course_heights course_feet course_draft history_sizes kept_sizes = some (r, w_text_size, w_text_limit, w_text_at, w_course_fences, w_course_planCount, w_rounds_size, w_history_count, w_kept_count, w_course_kinds, w_course_heights, w_course_feet, w_course_draft, w_history_sizes, w_kept_sizes)) : zMt l zW 11 mX11_ring σ ([(65, text_size), (66, text_limit), (67, text_at), (323, course_fences), (328, course_planCount), (1284, rounds_size), (1731, history_count), (1923, kept_count)], [(2, text_signs), (6, course_kinds), (7, course_heights), (8, course_feet), (9, course_draft), (29, history_sizes), (32, kept_sizes)], []) [.ref 0] (some (.int r)) ([(65, w_text_size), (66, w_text_limit), (67, w_text_at), (323, w_course_fences), (328, w_course_planCount), (1284, w_rounds_size), (1731, w_history_count), (1923, w_kept_count)], [(2, text_signs), (6, w_course_kinds), (7, w_course_heights), (8, w_course_feet), (9, w_course_draft), (29, w_history_sizes), (32, w_kept_sizes)], []) := by
  refine zMt_of (ls := [(0, .ref 0)]) (by decide) rfl (fun _ => Nat.le_of_ble_eq_true rfl) rfl ?_
  unfold f_X11_ring at h
  refine zJ_aload_n dX11_ring_0 rfl rfl ?_
  refine zJ_getr (mi := mX11_ring) dX11_ring_1 F_X11_26 zW_0 rfl rfl ?_
  refine zJ_aload_n dX11_ring_4 rfl rfl ?_
  refine zJ_getr (mi := mX11_ring) dX11_ring_5 F_X11_10 zW_0 rfl rfl ?_
  obtain ⟨rn1, text_limitn2, text_atn3, course_fencesn4, course_planCountn5, course_kindsn6, course_heightsn7, course_feetn8, course_draftn9, hcl, h⟩ := bd9_some h
  refine zJ_callV2 (σ := σ) (L := ([(65, text_size), (66, text_limit), (67, text_at), (323, course_fences), (328, course_planCount), (1284, rounds_size), (1731, history_count), (1923, kept_count)], [(2, text_signs), (6, course_kinds), (7, course_heights), (8, course_feet), (9, course_draft), (29, history_sizes), (32, kept_sizes)], [])) (mi := mX11_ring) (yi := mX1_readRing) (as := [.ref 1]) (st := []) (L2 := ([(65, text_size), (66, text_limitn2), (67, text_atn3), (323, course_fencesn4), (328, course_planCountn5), (1284, rounds_size), (1731, history_count), (1923, kept_count)], [(2, text_signs), (6, course_kindsn6), (7, course_heightsn7), (8, course_feetn8), (9, course_draftn9), (29, history_sizes), (32, kept_sizes)], [])) dX11_ring_8 ML_X11_100 Yv_X1_readRing rfl zW_5 rfl rfl (t_X1_readRing l _ hcl) (zsub_i (zle_c rfl (zle_c rfl (zle_c rfl (zle_c rfl (zle_c rfl zle_n))))) (zle_c rfl (zle_c rfl (zle_c rfl (zle_c rfl (zle_c rfl zle_n))))) zle_n) (zjok_i rfl rfl (zle_c rfl (zle_c rfl (zle_c rfl (zle_c rfl (zle_c rfl (zle_c rfl (zle_c rfl (zle_c rfl zle_n)))))))) rfl rfl (zle_c rfl (zle_c rfl (zle_c rfl (zle_c rfl (zle_c rfl (zle_c rfl (zle_c rfl zle_n))))))) rfl rfl zle_n) (Nat.le_of_ble_eq_true rfl) (Nat.le_of_ble_eq_true rfl) rfl rfl ?_
  refine zJ_istore_n (ls' := [(1, .int rn1), (0, .ref 0)]) dX11_ring_11 rfl rfl rfl ?_
  refine zJ_aload_n dX11_ring_12 rfl rfl ?_
  refine zJ_getr (mi := mX11_ring) dX11_ring_13 F_X11_10 zW_0 rfl rfl ?_
  obtain ⟨text_sizen10, hcl, h⟩ := bd1_some h
  refine zJ_callV2 (σ := σ) (L := ([(65, text_size), (66, text_limitn2), (67, text_atn3), (323, course_fencesn4), (328, course_planCountn5), (1284, rounds_size), (1731, history_count), (1923, kept_count)], [(2, text_signs), (6, course_kindsn6), (7, course_heightsn7), (8, course_feetn8), (9, course_draftn9), (29, history_sizes), (32, kept_sizes)], [])) (mi := mX11_ring) (yi := mX9_clear) (as := []) (st := []) (L2 := ([(65, text_sizen10), (66, text_limitn2), (67, text_atn3), (323, course_fencesn4), (328, course_planCountn5), (1284, rounds_size), (1731, history_count), (1923, kept_count)], [(2, text_signs), (6, course_kindsn6), (7, course_heightsn7), (8, course_feetn8), (9, course_draftn9), (29, history_sizes), (32, kept_sizes)], [])) dX11_ring_16 ML_X11_104 Yv_X9_clear rfl zW_1 rfl rfl (t_X9_clear l _ hcl) (zsub_i (zle_c rfl zle_n) zle_n zle_n) (zjok_i rfl rfl (zle_c rfl (zle_c rfl (zle_c rfl (zle_c rfl (zle_c rfl (zle_c rfl (zle_c rfl (zle_c rfl zle_n)))))))) rfl rfl (zle_c rfl (zle_c rfl (zle_c rfl (zle_c rfl (zle_c rfl (zle_c rfl (zle_c rfl zle_n))))))) rfl rfl zle_n) (Nat.le_of_ble_eq_true rfl) (Nat.le_of_ble_eq_true rfl) rfl rfl ?_
  refine zJ_iload_n dX11_ring_19 rfl rfl ?_
  refine zJ_if_le (tgt := 45) dX11_ring_20 (by decide) rfl (fun hc => ?_) (fun hc => ?_)
  · replace h := it_t hc h
    refine zJ_iload_n dX11_ring_45 rfl rfl ?_
    obtain ⟨rfl, rfl, rfl, rfl, rfl, rfl, rfl, rfl, rfl, rfl, rfl, rfl, rfl, rfl, rfl⟩ := so15 h
    exact zJ_iret dX11_ring_46 rfl rfl
  · replace h := it_f hc h
    refine zJ_aload_n dX11_ring_23 rfl rfl ?_
    refine zJ_getr (mi := mX11_ring) dX11_ring_24 F_X11_33 zW_0 rfl rfl ?_
    refine zJ_iconst dX11_ring_27 zc_0 rfl ?_
    refine zK_puti (mi := mX11_ring) (la' := [(65, text_sizen10), (66, text_limitn2), (67, text_atn3), (323, course_fencesn4), (328, course_planCountn5), (1284, (0 : Int32)), (1731, history_count), (1923, kept_count)]) zW_ok dX11_ring_28 F_X11_107 P_10_4 zW_20 rfl rfl rfl ?_
    refine zJ_aload_n dX11_ring_31 rfl rfl ?_
    refine zJ_getr (mi := mX11_ring) dX11_ring_32 F_X11_42 zW_0 rfl rfl ?_
    obtain ⟨history_countn11, history_sizesn12, hcl, h⟩ := bd2_some h
    refine zJ_callV2 (σ := σ) (L := ([(65, text_sizen10), (66, text_limitn2), (67, text_atn3), (323, course_fencesn4), (328, course_planCountn5), (1284, (0 : Int32)), (1731, history_count), (1923, kept_count)], [(2, text_signs), (6, course_kindsn6), (7, course_heightsn7), (8, course_feetn8), (9, course_draftn9), (29, history_sizes), (32, kept_sizes)], [])) (mi := mX11_ring) (yi := mX8_forget) (as := []) (st := []) (L2 := ([(65, text_sizen10), (66, text_limitn2), (67, text_atn3), (323, course_fencesn4), (328, course_planCountn5), (1284, (0 : Int32)), (1731, history_countn11), (1923, kept_count)], [(2, text_signs), (6, course_kindsn6), (7, course_heightsn7), (8, course_feetn8), (9, course_draftn9), (29, history_sizesn12), (32, kept_sizes)], [])) dX11_ring_35 ML_X11_111 Yv_X8_forget rfl zW_27 rfl rfl (t_X8_forget_history l _ hcl) (zsub_i (zle_c rfl zle_n) (zle_c rfl zle_n) zle_n) (zjok_i rfl rfl (zle_c rfl (zle_c rfl (zle_c rfl (zle_c rfl (zle_c rfl (zle_c rfl (zle_c rfl (zle_c rfl zle_n)))))))) rfl rfl (zle_c rfl (zle_c rfl (zle_c rfl (zle_c rfl (zle_c rfl (zle_c rfl (zle_c rfl zle_n))))))) rfl rfl zle_n) (Nat.le_of_ble_eq_true rfl) (Nat.le_of_ble_eq_true rfl) rfl rfl ?_
    refine zJ_aload_n dX11_ring_38 rfl rfl ?_
    refine zJ_getr (mi := mX11_ring) dX11_ring_39 F_X11_46 zW_0 rfl rfl ?_
    obtain ⟨kept_countn13, kept_sizesn14, hcl, h⟩ := bd2_some h
    refine zJ_callV2 (σ := σ) (L := ([(65, text_sizen10), (66, text_limitn2), (67, text_atn3), (323, course_fencesn4), (328, course_planCountn5), (1284, (0 : Int32)), (1731, history_countn11), (1923, kept_count)], [(2, text_signs), (6, course_kindsn6), (7, course_heightsn7), (8, course_feetn8), (9, course_draftn9), (29, history_sizesn12), (32, kept_sizes)], [])) (mi := mX11_ring) (yi := mX8_forget) (as := []) (st := []) (L2 := ([(65, text_sizen10), (66, text_limitn2), (67, text_atn3), (323, course_fencesn4), (328, course_planCountn5), (1284, (0 : Int32)), (1731, history_countn11), (1923, kept_countn13)], [(2, text_signs), (6, course_kindsn6), (7, course_heightsn7), (8, course_feetn8), (9, course_draftn9), (29, history_sizesn12), (32, kept_sizesn14)], [])) dX11_ring_42 ML_X11_111 Yv_X8_forget rfl zW_30 rfl rfl (t_X8_forget_kept l _ hcl) (zsub_i (zle_c rfl zle_n) (zle_c rfl zle_n) zle_n) (zjok_i rfl rfl (zle_c rfl (zle_c rfl (zle_c rfl (zle_c rfl (zle_c rfl (zle_c rfl (zle_c rfl (zle_c rfl zle_n)))))))) rfl rfl (zle_c rfl (zle_c rfl (zle_c rfl (zle_c rfl (zle_c rfl (zle_c rfl (zle_c rfl zle_n))))))) rfl rfl zle_n) (Nat.le_of_ble_eq_true rfl) (Nat.le_of_ble_eq_true rfl) rfl rfl ?_
    refine zJ_iload_n dX11_ring_45 rfl rfl ?_
    obtain ⟨rfl, rfl, rfl, rfl, rfl, rfl, rfl, rfl, rfl, rfl, rfl, rfl, rfl, rfl, rfl⟩ := so15 h
    exact zJ_iret dX11_ring_46 rfl rfl
set_option maxRecDepth 100000 in
set_option maxHeartbeats 4000000 in
theorem t_X7_emit (l : Launch) (σ : zS) {p1 : Int32} {course_rule_draftSize : Int32} {rule_draft : (Nat → Int32)} {w_course_rule_draftSize : Int32} {w_rule_draft : (Nat → Int32)} (h : f_X7_emit p1 course_rule_draftSize rule_draft = some (w_course_rule_draftSize, w_rule_draft)) : zMt l zW 0 mX7_emit σ ([(771, course_rule_draftSize)], [(14, rule_draft)], []) [.ref 12, .int p1] none ([(771, w_course_rule_draftSize)], [(14, w_rule_draft)], []) := by
  refine zMt_of (ls := [(0, .ref 12), (1, .int p1)]) (by decide) rfl (fun _ => Nat.le_of_ble_eq_true rfl) rfl ?_
  unfold f_X7_emit at h
  refine zJ_aload_n dX7_emit_0 rfl rfl ?_
  refine zJ_geti (mi := mX7_emit) (x := course_rule_draftSize) dX7_emit_1 F_X7_30 zW_12 rfl rfl rfl ?_
  refine zJ_bipush dX7_emit_4 zb_40 rfl ?_
  refine zJ_icmp_ge (tgt := 29) dX7_emit_6 (by decide) rfl (fun hc => ?_) (fun hc => ?_)
  · replace h := it_t hc h
    obtain ⟨rfl, rfl⟩ := so2 h
    exact zJ_vret dX7_emit_29 rfl
  · replace h := it_f hc h
    refine zJ_aload_n dX7_emit_9 rfl rfl ?_
    refine zJ_getr (mi := mX7_emit) dX7_emit_10 F_X7_15 zW_12 rfl rfl ?_
    refine zJ_aload_n dX7_emit_13 rfl rfl ?_
    refine zJ_geti (mi := mX7_emit) (x := course_rule_draftSize) dX7_emit_14 F_X7_30 zW_12 rfl rfl rfl ?_
    refine zJ_iload_n dX7_emit_17 rfl rfl ?_
    obtain ⟨hg, h⟩ := gd_some h
    refine zK_iast (mi := mX7_emit) (f := rule_draft) (lb' := [(14, (upd rule_draft course_rule_draftSize.toNatClampNeg p1))]) dX7_emit_18 zW_14 (ix_in hg) rfl rfl rfl ?_
    refine zJ_aload_n dX7_emit_19 rfl rfl ?_
    refine zJ_dup dX7_emit_20 rfl rfl ?_
    refine zJ_geti (mi := mX7_emit) (x := course_rule_draftSize) dX7_emit_21 F_X7_30 zW_12 rfl rfl rfl ?_
    refine zJ_iconst dX7_emit_24 zc_1 rfl ?_
    refine zJ_iadd dX7_emit_25 rfl ?_
    refine zK_puti (mi := mX7_emit) (la' := [(771, (course_rule_draftSize + (1 : Int32)))]) zW_ok dX7_emit_26 F_X7_30 P_7_3 zW_12 rfl rfl rfl ?_
    obtain ⟨rfl, rfl⟩ := so2 h
    exact zJ_vret dX7_emit_29 rfl
set_option maxRecDepth 100000 in
set_option maxHeartbeats 4000000 in
theorem t_X7_signsOf (l : Launch) (σ : zS) {p0 : Int32} {r : Nat} (h : f_X7_signsOf p0 = some r) : zMt l zW 0 mX7_signsOf σ ([], [], []) [.int p0] (some (.ref r)) ([], [], []) := by
  refine zMt_of (ls := [(0, .int p0)]) (by decide) rfl (fun _ => Nat.le_of_ble_eq_true rfl) rfl ?_
  unfold f_X7_signsOf at h
  refine zJ_iload_n dX7_signsOf_0 rfl rfl ?_
  refine zJ_if_ne (tgt := 7) dX7_signsOf_1 (by decide) rfl (fun hc => ?_) (fun hc => ?_)
  · replace h := it_f hc h
    refine zJ_iload_n dX7_signsOf_7 rfl rfl ?_
    refine zJ_iconst dX7_signsOf_8 zc_1 rfl ?_
    refine zJ_icmp_ne (tgt := 17) dX7_signsOf_9 (by decide) rfl (fun hc => ?_) (fun hc => ?_)
    · replace h := it_f hc h
      refine zJ_ldcS (i := 5) (q := 93) dX7_signsOf_17 rfl rfl rfl ?_
      obtain rfl := so1 h
      exact zJ_aret dX7_signsOf_19 rfl (Or.inl ⟨_, rfl⟩)
    · replace h := it_t hc h
      refine zJ_ldcS (i := 4) (q := 92) dX7_signsOf_12 rfl rfl rfl ?_
      refine zJ_goto (tgt := 19) dX7_signsOf_14 (by decide) ?_
      obtain rfl := so1 h
      exact zJ_aret dX7_signsOf_19 rfl (Or.inl ⟨_, rfl⟩)
  · replace h := it_t hc h
    refine zJ_ldcS (i := 3) (q := 91) dX7_signsOf_4 rfl rfl rfl ?_
    obtain rfl := so1 h
    exact zJ_aret dX7_signsOf_6 rfl (Or.inl ⟨_, rfl⟩)
