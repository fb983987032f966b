set_option maxRecDepth 100000 in
set_option maxHeartbeats 4000000 in
theorem t_X11_look (l : Launch) (σ : zS) {p1 : Int32} {p2 : Int32} {p3 : Int32} {numbers_size : Int32} {course_fences : Int32} {course_horseCount : Int32} {course_planCount : Int32} {course_allowed : Int32} {course_rule_size : Int32} {drawn_state : Int32} {drawn_faults : Int32} {drawn_tenths : Int32} {drawn_refused : Int32} {drawn_fallen : Int32} {course_kinds : (Nat → Int32)} {course_heights : (Nat → Int32)} {course_feet : (Nat → Int32)} {course_digits : (Nat → Int32)} {course_plans : (Nat → Int32)} {rule_codes : (Nat → Int32)} {rule_stack : (Nat → Int32)} {rule_things : (Nat → Int32)} {numbers_told : (Nat → Int64)} {r : Int32} {w_numbers_size : Int32} {w_drawn_state : Int32} {w_drawn_faults : Int32} {w_drawn_tenths : Int32} {w_drawn_refused : Int32} {w_drawn_fallen : Int32} {w_rule_stack : (Nat → Int32)} {w_rule_things : (Nat → Int32)} {w_numbers_told : (Nat → Int64)} (h : f_X11_look p1 p2 p3 numbers_size course_fences course_horseCount course_planCount course_allowed course_rule_size drawn_state drawn_faults drawn_tenths drawn_refused drawn_fallen course_kinds course_heights course_feet course_digits course_plans rule_codes rule_stack rule_things numbers_told = some (r, w_numbers_size, w_drawn_state, w_drawn_faults, w_drawn_tenths, w_drawn_refused, w_drawn_fallen, w_rule_stack, w_rule_things, w_numbers_told)) : zMt l zW 5 mX11_look σ ([(193, numbers_size), (323, course_fences), (326, course_horseCount), (328, course_planCount), (329, course_allowed), (769, course_rule_size), (2112, drawn_state), (2113, drawn_faults), (2114, drawn_tenths), (2115, drawn_refused), (2116, drawn_fallen)], [(6, course_kinds), (7, course_heights), (8, course_feet), (10, course_digits), (11, course_plans), (13, rule_codes), (15, rule_stack), (16, rule_things)], [(4, numbers_told)]) [.ref 0, .int p1, .int p2, .int p3] (some (.int r)) ([(193, w_numbers_size), (323, course_fences), (326, course_horseCount), (328, course_planCount), (329, course_allowed), (769, course_rule_size), (2112, w_drawn_state), (2113, w_drawn_faults), (2114, w_drawn_tenths), (2115, w_drawn_refused), (2116, w_drawn_fallen)], [(6, course_kinds), (7, course_heights), (8, course_feet), (10, course_digits), (11, course_plans), (13, rule_codes), (15, w_rule_stack), (16, w_rule_things)], [(4, w_numbers_told)]) := by
  refine zMt_of (ls := [(0, .ref 0), (1, .int p1), (2, .int p2), (3, .int p3)]) (by decide) rfl (fun _ => Nat.le_of_ble_eq_true rfl) rfl ?_
  unfold f_X11_look at h
  refine zJ_aload_n dX11_look_0 rfl rfl ?_
  refine zJ_getr (mi := mX11_look) dX11_look_1 F_X11_26 zW_0 rfl rfl ?_
  refine zJ_iload_n dX11_look_4 rfl rfl ?_
  obtain ⟨rn1, hcl, h⟩ := bd1_some h
  refine zJ_callV2 (σ := σ) (L := ([(193, numbers_size), (323, course_fences), (326, course_horseCount), (328, course_planCount), (329, course_allowed), (769, course_rule_size), (2112, drawn_state), (2113, drawn_faults), (2114, drawn_tenths), (2115, drawn_refused), (2116, drawn_fallen)], [(6, course_kinds), (7, course_heights), (8, course_feet), (10, course_digits), (11, course_plans), (13, rule_codes), (15, rule_stack), (16, rule_things)], [(4, numbers_told)])) (mi := mX11_look) (yi := mX1_hasHorse) (as := [.int p1]) (st := []) (L2 := ([(193, numbers_size), (323, course_fences), (326, course_horseCount), (328, course_planCount), (329, course_allowed), (769, course_rule_size), (2112, drawn_state), (2113, drawn_faults), (2114, drawn_tenths), (2115, drawn_refused), (2116, drawn_fallen)], [(6, course_kinds), (7, course_heights), (8, course_feet), (10, course_digits), (11, course_plans), (13, rule_codes), (15, rule_stack), (16, rule_things)], [(4, numbers_told)])) dX11_look_5 ML_X11_147 Yv_X1_hasHorse rfl zW_5 rfl rfl (t_X1_hasHorse l _ hcl) (zsub_i (zle_c rfl zle_n) zle_n zle_n) (zjok_i rfl rfl (zle_c rfl (zle_c rfl (zle_c rfl (zle_c rfl (zle_c rfl (zle_c rfl (zle_c rfl (zle_c rfl (zle_c rfl (zle_c rfl (zle_c rfl zle_n))))))))))) rfl rfl (zle_c rfl (zle_c rfl (zle_c rfl (zle_c rfl (zle_c rfl (zle_c rfl (zle_c rfl (zle_c rfl zle_n)))))))) rfl rfl (zle_c rfl zle_n)) (Nat.le_of_ble_eq_true rfl) (Nat.le_of_ble_eq_true rfl) rfl rfl ?_
  refine zJ_if_eq (tgt := 22) dX11_look_8 (by decide) rfl (fun hc => ?_) (fun hc => ?_)
  · replace h := it_t hc h
    refine zJ_iconst dX11_look_22 zc_m1 rfl ?_
    obtain ⟨rfl, rfl, rfl, rfl, rfl, rfl, rfl, rfl, rfl, rfl⟩ := so10 h
    exact zJ_iret dX11_look_23 rfl rfl
  · replace h := it_f hc h
    refine zJ_aload_n dX11_look_11 rfl rfl ?_
    refine zJ_getr (mi := mX11_look) dX11_look_12 F_X11_26 zW_0 rfl rfl ?_
    refine zJ_iload_n dX11_look_15 rfl rfl ?_
    obtain ⟨rn2, hcl, h⟩ := bd1_some h
    refine zJ_callV2 (σ := σ) (L := ([(193, numbers_size), (323, course_fences), (326, course_horseCount), (328, course_planCount), (329, course_allowed), (769, course_rule_size), (2112, drawn_state), (2113, drawn_faults), (2114, drawn_tenths), (2115, drawn_refused), (2116, drawn_fallen)], [(6, course_kinds), (7, course_heights), (8, course_feet), (10, course_digits), (11, course_plans), (13, rule_codes), (15, rule_stack), (16, rule_things)], [(4, numbers_told)])) (mi := mX11_look) (yi := mX1_hasPlan) (as := [.int p2]) (st := []) (L2 := ([(193, numbers_size), (323, course_fences), (326, course_horseCount), (328, course_planCount), (329, course_allowed), (769, course_rule_size), (2112, drawn_state), (2113, drawn_faults), (2114, drawn_tenths), (2115, drawn_refused), (2116, drawn_fallen)], [(6, course_kinds), (7, course_heights), (8, course_feet), (10, course_digits), (11, course_plans), (13, rule_codes), (15, rule_stack), (16, rule_things)], [(4, numbers_told)])) dX11_look_16 ML_X11_191 Yv_X1_hasPlan rfl zW_5 rfl rfl (t_X1_hasPlan l _ hcl) (zsub_i (zle_c rfl zle_n) zle_n zle_n) (zjok_i rfl rfl (zle_c rfl (zle_c rfl (zle_c rfl (zle_c rfl (zle_c rfl (zle_c rfl (zle_c rfl (zle_c rfl (zle_c rfl (zle_c rfl (zle_c rfl zle_n))))))))))) rfl rfl (zle_c rfl (zle_c rfl (zle_c rfl (zle_c rfl (zle_c rfl (zle_c rfl (zle_c rfl (zle_c rfl zle_n)))))))) rfl rfl (zle_c rfl zle_n)) (Nat.le_of_ble_eq_true rfl) (Nat.le_of_ble_eq_true rfl) rfl rfl ?_
    refine zJ_if_ne (tgt := 24) dX11_look_19 (by decide) rfl (fun hc => ?_) (fun hc => ?_)
    · replace h := it_f hc h
      refine zJ_aload_n dX11_look_24 rfl rfl ?_
      refine zJ_getr (mi := mX11_look) dX11_look_25 F_X11_52 zW_0 rfl rfl ?_
      refine zJ_aload_n dX11_look_28 rfl rfl ?_
      refine zJ_getr (mi := mX11_look) dX11_look_29 F_X11_26 zW_0 rfl rfl ?_
      refine zJ_iload_n dX11_look_32 rfl rfl ?_
      refine zJ_iload_n dX11_look_33 rfl rfl ?_
      refine zJ_iload_n dX11_look_34 rfl rfl ?_
      obtain ⟨drawn_staten3, drawn_faultsn4, drawn_tenthsn5, drawn_refusedn6, drawn_fallenn7, rule_stackn8, rule_thingsn9, hcl, h⟩ := bd7_some h
      refine zJ_callV2 (σ := σ) (L := ([(193, numbers_size), (323, course_fences), (326, course_horseCount), (328, course_planCount), (329, course_allowed), (769, course_rule_size), (2112, drawn_state), (2113, drawn_faults), (2114, drawn_tenths), (2115, drawn_refused), (2116, drawn_fallen)], [(6, course_kinds), (7, course_heights), (8, course_feet), (10, course_digits), (11, course_plans), (13, rule_codes), (15, rule_stack), (16, rule_things)], [(4, numbers_told)])) (mi := mX11_look) (yi := mX2_draw) (as := [.ref 5, .int p1, .int p2, .int p3]) (st := []) (L2 := ([(193, numbers_size), (323, course_fences), (326, course_horseCount), (328, course_planCount), (329, course_allowed), (769, course_rule_size), (2112, drawn_staten3), (2113, drawn_faultsn4), (2114, drawn_tenthsn5), (2115, drawn_refusedn6), (2116, drawn_fallenn7)], [(6, course_kinds), (7, course_heights), (8, course_feet), (10, course_digits), (11, course_plans), (13, rule_codes), (15, rule_stackn8), (16, rule_thingsn9)], [(4, numbers_told)])) dX11_look_35 ML_X11_250 Yv_X2_draw rfl zW_33 rfl rfl (t_X2_draw l _ hcl) (zsub_i (zle_c rfl (zle_c rfl (zle_c rfl (zle_c rfl (zle_c rfl (zle_c rfl (zle_c rfl (zle_c rfl zle_n)))))))) (zle_c rfl (zle_c rfl (zle_c rfl (zle_c rfl (zle_c rfl (zle_c rfl (zle_c rfl (zle_c rfl zle_n)))))))) zle_n) (zjok_i rfl rfl (zle_c rfl (zle_c rfl (zle_c rfl (zle_c rfl (zle_c rfl (zle_c rfl (zle_c rfl (zle_c rfl (zle_c rfl (zle_c rfl (zle_c rfl zle_n))))))))))) rfl rfl (zle_c rfl (zle_c rfl (zle_c rfl (zle_c rfl (zle_c rfl (zle_c rfl (zle_c rfl (zle_c rfl zle_n)))))))) rfl rfl (zle_c rfl zle_n)) (Nat.le_of_ble_eq_true rfl) (Nat.le_of_ble_eq_true rfl) rfl rfl ?_
      refine zJ_aload_n dX11_look_38 rfl rfl ?_
      obtain ⟨numbers_sizen10, numbers_toldn11, hcl, h⟩ := bd2_some h
      refine zJ_callV2 (σ := σ) (L := ([(193, numbers_size), (323, course_fences), (326, course_horseCount), (328, course_planCount), (329, course_allowed), (769, course_rule_size), (2112, drawn_staten3), (2113, drawn_faultsn4), (2114, drawn_tenthsn5), (2115, drawn_refusedn6), (2116, drawn_fallenn7)], [(6, course_kinds), (7, course_heights), (8, course_feet), (10, course_digits), (11, course_plans), (13, rule_codes), (15, rule_stackn8), (16, rule_thingsn9)], [(4, numbers_told)])) (mi := mX11_look) (yi := mX11_tellDrawn) (as := []) (st := []) (L2 := ([(193, numbers_sizen10), (323, course_fences), (326, course_horseCount), (328, course_planCount), (329, course_allowed), (769, course_rule_size), (2112, drawn_staten3), (2113, drawn_faultsn4), (2114, drawn_tenthsn5), (2115, drawn_refusedn6), (2116, drawn_fallenn7)], [(6, course_kinds), (7, course_heights), (8, course_feet), (10, course_digits), (11, course_plans), (13, rule_codes), (15, rule_stackn8), (16, rule_thingsn9)], [(4, numbers_toldn11)])) dX11_look_39 ML_X11_247 Yv_X11_tellDrawn rfl zW_0 rfl rfl (t_X11_tellDrawn l _ hcl) (zsub_i (zle_c rfl (zle_c rfl (zle_c rfl (zle_c rfl (zle_c rfl zle_n))))) zle_n (zle_c rfl zle_n)) (zjok_i rfl rfl (zle_c rfl (zle_c rfl (zle_c rfl (zle_c rfl (zle_c rfl (zle_c rfl (zle_c rfl (zle_c rfl (zle_c rfl (zle_c rfl (zle_c rfl zle_n))))))))))) rfl rfl (zle_c rfl (zle_c rfl (zle_c rfl (zle_c rfl (zle_c rfl (zle_c rfl (zle_c rfl (zle_c rfl zle_n)))))))) rfl rfl (zle_c rfl zle_n)) (Nat.le_of_ble_eq_true rfl) (Nat.le_of_ble_eq_true rfl) rfl rfl ?_
      refine zJ_aload_n dX11_look_42 rfl rfl ?_
      refine zJ_getr (mi := mX11_look) dX11_look_43 F_X11_52 zW_0 rfl rfl ?_
      refine zJ_geti (mi := mX11_look) (x := drawn_faultsn4) dX11_look_46 F_X11_254 zW_33 rfl rfl rfl ?_
      obtain ⟨rfl, rfl, rfl, rfl, rfl, rfl, rfl, rfl, rfl, rfl⟩ := so10 h
      exact zJ_iret dX11_look_49 rfl rfl
    · replace h := it_t hc h
      refine zJ_iconst dX11_look_22 zc_m1 rfl ?_
      obtain ⟨rfl, rfl, rfl, rfl, rfl, rfl, rfl, rfl, rfl, rfl⟩ := so10 h
      exact zJ_iret dX11_look_23 rfl rfl
set_option maxRecDepth 100000 in
set_option maxHeartbeats 4000000 in
theorem t_X11_lot (l : Launch) (σ : zS) {text_size : Int32} {text_limit : Int32} {text_at : Int32} {numbers_size : Int32} {course_fences : Int32} {course_horseCount : Int32} {course_planCount : Int32} {course_allowed : Int32} {course_rule_size : Int32} {rounds_size : Int32} {play_players : Int32} {play_plans : Int32} {play_firstPlan : Int32} {text_signs : (Nat → Int32)} {course_kinds : (Nat → Int32)} {course_heights : (Nat → Int32)} {course_feet : (Nat → Int32)} {course_digits : (Nat → Int32)} {course_plans : (Nat → Int32)} {rule_codes : (Nat → Int32)} {rule_stack : (Nat → Int32)} {rule_things : (Nat → Int32)} {rounds_faults : (Nat → Int32)} {rounds_tenths : (Nat → Int32)} {rounds_money : (Nat → Int32)} {play_named : (Nat → Int32)} {play_faults : (Nat → Int32)} {play_tenths : (Nat → Int32)} {play_places : (Nat → Int32)} {play_clears : (Nat → Int32)} {play_ends : (Nat → Int32)} {numbers_told : (Nat → Int64)} {play_worth : (Nat → Int64)} {play_trial : (Nat → Int64)} {r : Int32} {w_text_size : Int32} {w_text_limit : Int32} {w_text_at : Int32} {w_numbers_size : Int32} {w_play_players : Int32} {w_play_plans : Int32} {w_play_firstPlan : Int32} {w_rule_stack : (Nat → Int32)} {w_rule_things : (Nat → Int32)} {w_play_named : (Nat → Int32)} {w_play_faults : (Nat → Int32)} {w_play_tenths : (Nat → Int32)} {w_play_places : (Nat → Int32)} {w_play_clears : (Nat → Int32)} {w_play_ends : (Nat → Int32)} {w_numbers_told : (Nat → Int64)} {w_play_worth : (Nat → Int64)} {w_play_trial : (Nat → Int64)} (h : f_X11_lot text_size text_limit text_at numbers_size course_fences course_horseCount course_planCount course_allowed course_rule_size rounds_size play_players play_plans play_firstPlan text_signs course_kinds course_heights course_feet course_digits course_plans rule_codes rule_stack rule_things rounds_faults rounds_tenths rounds_money play_named play_faults play_tenths play_places play_clears play_ends numbers_told play_worth play_trial = some (r, w_text_size, w_text_limit, w_text_at, w_numbers_size, w_play_players, w_play_plans, w_play_firstPlan, w_rule_stack, w_rule_things, w_play_named, w_play_faults, w_play_tenths, w_play_places, w_play_clears, w_play_ends, w_numbers_told, w_play_worth, w_play_trial)) : zMt l zW 204 mX11_lot σ ([(65, text_size), (66, text_limit), (67, text_at), (193, numbers_size), (323, course_fences), (326, course_horseCount), (328, course_planCount), (329, course_allowed), (769, course_rule_size), (1284, rounds_size), (2497, play_players), (2498, play_plans), (2499, play_firstPlan)], [(2, text_signs), (6, course_kinds), (7, course_heights), (8, course_feet), (10, course_digits), (11, course_plans), (13, rule_codes), (15, rule_stack), (16, rule_things), (23, rounds_faults), (24, rounds_tenths), (25, rounds_money), (40, play_named), (41, play_faults), (42, play_tenths), (43, play_places), (44, play_clears), (45, play_ends)], [(4, numbers_told), (46, play_worth), (47, play_trial)]) [.ref 0] (some (.int r)) ([(65, w_text_size), (66, w_text_limit), (67, w_text_at), (193, w_numbers_size), (323, course_fences), (326, course_horseCount), (328, course_planCount), (329, course_allowed), (769, course_rule_size), (1284, rounds_size), (2497, w_play_players), (2498, w_play_plans), (2499, w_play_firstPlan)], [(2, text_signs), (6, course_kinds), (7, course_heights), (8, course_feet), (10, course_digits), (11, course_plans), (13, rule_codes), (15, w_rule_stack), (16, w_rule_things), (23, rounds_faults), (24, rounds_tenths), (25, rounds_money), (40, w_play_named), (41, w_play_faults), (42, w_play_tenths), (43, w_play_places), (44, w_play_clears), (45, w_play_ends)], [(4, w_numbers_told), (46, w_play_worth), (47, w_play_trial)]) := by
  refine zMt_of (ls := [(0, .ref 0)]) (by decide) rfl (fun _ => Nat.le_of_ble_eq_true rfl) rfl ?_
  unfold f_X11_lot at h
  refine zJ_aload_n dX11_lot_0 rfl rfl ?_
  refine zJ_iconst dX11_lot_1 zc_2 rfl ?_
  refine zJ_iconst dX11_lot_2 zc_3 rfl ?_
  obtain ⟨rn1, text_sizen2, text_limitn3, text_atn4, play_playersn5, play_namedn6, hcl, h⟩ := bd6_some h
  refine zJ_callV2 (σ := σ) (L := ([(65, text_size), (66, text_limit), (67, text_at), (193, numbers_size), (323, course_fences), (326, course_horseCount), (328, course_planCount), (329, course_allowed), (769, course_rule_size), (1284, rounds_size), (2497, play_players), (2498, play_plans), (2499, play_firstPlan)], [(2, text_signs), (6, course_kinds), (7, course_heights), (8, course_feet), (10, course_digits), (11, course_plans), (13, rule_codes), (15, rule_stack), (16, rule_things), (23, rounds_faults), (24, rounds_tenths), (25, rounds_money), (40, play_named), (41, play_faults), (42, play_tenths), (43, play_places), (44, play_clears), (45, play_ends)], [(4, numbers_told), (46, play_worth), (47, play_trial)])) (mi := mX11_lot) (yi := mX11_readPlayers) (as := [.int (2 : Int32), .int (3 : Int32)]) (st := []) (L2 := ([(65, text_sizen2), (66, text_limitn3), (67, text_atn4), (193, numbers_size), (323, course_fences), (326, course_horseCount), (328, course_planCount), (329, course_allowed), (769, course_rule_size), (1284, rounds_size), (2497, play_playersn5), (2498, play_plans), (2499, play_firstPlan)], [(2, text_signs), (6, course_kinds), (7, course_heights), (8, course_feet), (10, course_digits), (11, course_plans), (13, rule_codes), (15, rule_stack), (16, rule_things), (23, rounds_faults), (24, rounds_tenths), (25, rounds_money), (40, play_namedn6), (41, play_faults), (42, play_tenths), (43, play_places), (44, play_clears), (45, play_ends)], [(4, numbers_told), (46, play_worth), (47, play_trial)])) dX11_lot_3 ML_X11_371 Yv_X11_readPlayers rfl zW_0 rfl rfl (t_X11_readPlayers l _ hcl) (zsub_i (zle_c rfl (zle_c rfl (zle_c rfl (zle_c rfl (zle_c rfl (zle_c rfl zle_n)))))) (zle_c rfl (zle_c rfl zle_n)) zle_n) (zjok_i rfl rfl (zle_c rfl (zle_c rfl (zle_c rfl (zle_c rfl (zle_c rfl (zle_c rfl (zle_c rfl (zle_c rfl (zle_c rfl (zle_c rfl (zle_c rfl (zle_c rfl (zle_c rfl zle_n))))))))))))) rfl rfl (zle_c rfl (zle_c rfl (zle_c rfl (zle_c rfl (zle_c rfl (zle_c rfl (zle_c rfl (zle_c rfl (zle_c rfl (zle_c rfl (zle_c rfl (zle_c rfl (zle_c rfl (zle_c rfl (zle_c rfl (zle_c rfl (zle_c rfl (zle_c rfl zle_n)))))))))))))))))) rfl rfl (zle_c rfl (zle_c rfl (zle_c rfl zle_n)))) (Nat.le_of_ble_eq_true rfl) (Nat.le_of_ble_eq_true rfl) rfl rfl ?_
  refine zJ_istore_n (ls' := [(1, .int rn1), (0, .ref 0)]) dX11_lot_6 rfl rfl rfl ?_
  refine zJ_iload_n dX11_lot_7 rfl rfl ?_
  refine zJ_if_ge (tgt := 13) dX11_lot_8 (by decide) rfl (fun hc => ?_) (fun hc => ?_)
  · replace h := it_t hc h
    refine zJ_aload_n dX11_lot_13 rfl rfl ?_
    refine zJ_getr (mi := mX11_lot) dX11_lot_14 F_X11_66 zW_0 rfl rfl ?_
    refine zJ_aload_n dX11_lot_17 rfl rfl ?_
    refine zJ_getr (mi := mX11_lot) dX11_lot_18 F_X11_26 zW_0 rfl rfl ?_
    refine zJ_aload_n dX11_lot_21 rfl rfl ?_
    refine zJ_getr (mi := mX11_lot) dX11_lot_22 F_X11_33 zW_0 rfl rfl ?_
    obtain ⟨play_plansn7, play_faultsn8, play_tenthsn9, play_placesn10, hcl, h⟩ := bd4_some h
    refine zJ_callV2 (σ := σ) (L := ([(65, text_sizen2), (66, text_limitn3), (67, text_atn4), (193, numbers_size), (323, course_fences), (326, course_horseCount), (328, course_planCount), (329, course_allowed), (769, course_rule_size), (1284, rounds_size), (2497, play_playersn5), (2498, play_plans), (2499, play_firstPlan)], [(2, text_signs), (6, course_kinds), (7, course_heights), (8, course_feet), (10, course_digits), (11, course_plans), (13, rule_codes), (15, rule_stack), (16, rule_things), (23, rounds_faults), (24, rounds_tenths), (25, rounds_money), (40, play_namedn6), (41, play_faults), (42, play_tenths), (43, play_places), (44, play_clears), (45, play_ends)], [(4, numbers_told), (46, play_worth), (47, play_trial)])) (mi := mX11_lot) (yi := mX3_begin) (as := [.ref 5, .ref 20]) (st := []) (L2 := ([(65, text_sizen2), (66, text_limitn3), (67, text_atn4), (193, numbers_size), (323, course_fences), (326, course_horseCount), (328, course_planCount), (329, course_allowed), (769, course_rule_size), (1284, rounds_size), (2497, play_playersn5), (2498, play_plansn7), (2499, play_firstPlan)], [(2, text_signs), (6, course_kinds), (7, course_heights), (8, course_feet), (10, course_digits), (11, course_plans), (13, rule_codes), (15, rule_stack), (16, rule_things), (23, rounds_faults), (24, rounds_tenths), (25, rounds_money), (40, play_namedn6), (41, play_faultsn8), (42, play_tenthsn9), (43, play_placesn10), (44, play_clears), (45, play_ends)], [(4, numbers_told), (46, play_worth), (47, play_trial)])) dX11_lot_25 ML_X11_374 Yv_X3_begin rfl zW_39 rfl rfl (t_X3_begin l _ hcl) (zsub_i (zle_c rfl (zle_c rfl (zle_c rfl (zle_c rfl (zle_c rfl zle_n))))) (zle_c rfl (zle_c rfl (zle_c rfl (zle_c rfl (zle_c rfl (zle_c rfl (zle_c rfl (zle_c rfl zle_n)))))))) zle_n) (zjok_i rfl rfl (zle_c rfl (zle_c rfl (zle_c rfl (zle_c rfl (zle_c rfl (zle_c rfl (zle_c rfl (zle_c rfl (zle_c rfl (zle_c rfl (zle_c rfl (zle_c rfl (zle_c rfl zle_n))))))))))))) rfl rfl (zle_c rfl (zle_c rfl (zle_c rfl (zle_c rfl (zle_c rfl (zle_c rfl (zle_c rfl (zle_c rfl (zle_c rfl (zle_c rfl (zle_c rfl (zle_c rfl (zle_c rfl (zle_c rfl (zle_c rfl (zle_c rfl (zle_c rfl (zle_c rfl zle_n)))))))))))))))))) rfl rfl (zle_c rfl (zle_c rfl (zle_c rfl zle_n)))) (Nat.le_of_ble_eq_true rfl) (Nat.le_of_ble_eq_true rfl) rfl rfl ?_
    refine zJ_iconst dX11_lot_28 zc_0 rfl ?_
    refine zJ_istore_n (ls' := [(2, .int (0 : Int32)), (1, .int rn1), (0, .ref 0)]) dX11_lot_29 rfl rfl rfl ?_
    refine zJ_ldc2_w (v := -1) dX11_lot_30 C_X11_399 rfl ?_
    refine zJ_lstore_n (ls' := [(3, .long (-1 : Int64)), (2, .int (0 : Int32)), (1, .int rn1), (0, .ref 0)]) dX11_lot_33 rfl rfl rfl ?_
    refine zJ_iconst dX11_lot_34 zc_0 rfl ?_
    refine zJ_istore (ls' := [(5, .int (0 : Int32)), (3, .long (-1 : Int64)), (2, .int (0 : Int32)), (1, .int rn1), (0, .ref 0)]) dX11_lot_35 rfl rfl rfl ?_
    have hk37 : ∀ (v2_37x : Int32) (v3_37x : Int64) (play_firstPlan_37x : Int32) (rule_stack_37x : (Nat → Int32)) (rule_things_37x : (Nat → Int32)) (play_clears_37x : (Nat → Int32)) (play_ends_37x : (Nat → Int32)) (play_worth_37x : (Nat → Int64)) (play_trial_37x : (Nat → Int64)), k_X11_lot_37 numbers_size numbers_told text_sizen2 text_limitn3 text_atn4 play_playersn5 play_namedn6 play_plansn7 play_faultsn8 play_tenthsn9 play_placesn10 v2_37x v3_37x play_firstPlan_37x rule_stack_37x rule_things_37x play_clears_37x play_ends_37x play_worth_37x play_trial_37x = some (r, w_text_size, w_text_limit, w_text_at, w_numbers_size, w_play_players, w_play_plans, w_play_firstPlan, w_rule_stack, w_rule_things, w_play_named, w_play_faults, w_play_tenths, w_play_places, w_play_clears, w_play_ends, w_numbers_told, w_play_worth, w_play_trial) → zJ l zW 204 mX11_lot σ ([(65, text_sizen2), (66, text_limitn3), (67, text_atn4), (193, numbers_size), (323, course_fences), (326, course_horseCount), (328, course_planCount), (329, course_allowed), (769, course_rule_size), (1284, rounds_size), (2497, play_playersn5), (2498, play_plansn7), (2499, play_firstPlan_37x)], [(2, text_signs), (6, course_kinds), (7, course_heights), (8, course_feet), (10, course_digits), (11, course_plans), (13, rule_codes), (15, rule_stack_37x), (16, rule_things_37x), (23, rounds_faults), (24, rounds_tenths), (25, rounds_money), (40, play_namedn6), (41, play_faultsn8), (42, play_tenthsn9), (43, play_placesn10), (44, play_clears_37x), (45, play_ends_37x)], [(4, numbers_told), (46, play_worth_37x), (47, play_trial_37x)]) 99 [(0, .ref 0), (2, .int v2_37x), (3, .long v3_37x)] [] (some (.int r)) ([(65, w_text_size), (66, w_text_limit), (67, w_text_at), (193, w_numbers_size), (323, course_fences), (326, course_horseCount), (328, course_planCount), (329, course_allowed), (769, course_rule_size), (1284, rounds_size), (2497, w_play_players), (2498, w_play_plans), (2499, w_play_firstPlan)], [(2, text_signs), (6, course_kinds), (7, course_heights), (8, course_feet), (10, course_digits), (11, course_plans), (13, rule_codes), (15, w_rule_stack), (16, w_rule_things), (23, rounds_faults), (24, rounds_tenths), (25, rounds_money), (40, w_play_named), (41, w_play_faults), (42, w_play_tenths), (43, w_play_places), (44, w_play_clears), (45, w_play_ends)], [(4, w_numbers_told), (46, w_play_worth), (47, w_play_trial)]) := by
      intro v2_37x v3_37x play_firstPlan_37x rule_stack_37x rule_things_37x play_clears_37x play_ends_37x play_worth_37x play_trial_37x h
      unfold k_X11_lot_37 at h
      refine zJ_aload_n dX11_lot_99 rfl rfl ?_
      refine zJ_getr (mi := mX11_lot) dX11_lot_100 F_X11_19 zW_0 rfl rfl ?_
      obtain ⟨numbers_sizen11, hcl, h⟩ := bd1_some h
      refine zJ_callV2 (σ := σ) (L := ([(65, text_sizen2), (66, text_limitn3), (67, text_atn4), (193, numbers_size), (323, course_fences), (326, course_horseCount), (328, course_planCount), (329, course_allowed), (769, course_rule_size), (1284, rounds_size), (2497, play_playersn5), (2498, play_plansn7), (2499, play_firstPlan_37x)], [(2, text_signs), (6, course_kinds), (7, course_heights), (8, course_feet), (10, course_digits), (11, course_plans), (13, rule_codes), (15, rule_stack_37x), (16, rule_things_37x), (23, rounds_faults), (24, rounds_tenths), (25, rounds_money), (40, play_namedn6), (41, play_faultsn8), (42, play_tenthsn9), (43, play_placesn10), (44, play_clears_37x), (45, play_ends_37x)], [(4, numbers_told), (46, play_worth_37x), (47, play_trial_37x)])) (mi := mX11_lot) (yi := mX6_start) (as := []) (st := []) (L2 := ([(65, text_sizen2), (66, text_limitn3), (67, text_atn4), (193, numbers_sizen11), (323, course_fences), (326, course_horseCount), (328, course_planCount), (329, course_allowed), (769, course_rule_size), (1284, rounds_size), (2497, play_playersn5), (2498, play_plansn7), (2499, play_firstPlan_37x)], [(2, text_signs), (6, course_kinds), (7, course_heights), (8, course_feet), (10, course_digits), (11, course_plans), (13, rule_codes), (15, rule_stack_37x), (16, rule_things_37x), (23, rounds_faults), (24, rounds_tenths), (25, rounds_money), (40, play_namedn6), (41, play_faultsn8), (42, play_tenthsn9), (43, play_placesn10), (44, play_clears_37x), (45, play_ends_37x)], [(4, numbers_told), (46, play_worth_37x), (47, play_trial_37x)])) dX11_lot_103 ML_X11_171 Yv_X6_start rfl zW_3 rfl rfl (t_X6_start l _ hcl) (zsub_i (zle_c rfl zle_n) zle_n zle_n) (zjok_i rfl rfl (zle_c rfl (zle_c rfl (zle_c rfl (zle_c rfl (zle_c rfl (zle_c rfl (zle_c rfl (zle_c rfl (zle_c rfl (zle_c rfl (zle_c rfl (zle_c rfl (zle_c rfl zle_n))))))))))))) rfl rfl (zle_c rfl (zle_c rfl (zle_c rfl (zle_c rfl (zle_c rfl (zle_c rfl (zle_c rfl (zle_c rfl (zle_c rfl (zle_c rfl (zle_c rfl (zle_c rfl (zle_c rfl (zle_c rfl (zle_c rfl (zle_c rfl (zle_c rfl (zle_c rfl zle_n)))))))))))))))))) rfl rfl (zle_c rfl (zle_c rfl (zle_c rfl zle_n)))) (Nat.le_of_ble_eq_true rfl) (Nat.le_of_ble_eq_true rfl) rfl rfl ?_
      refine zJ_aload_n dX11_lot_106 rfl rfl ?_
      refine zJ_getr (mi := mX11_lot) dX11_lot_107 F_X11_19 zW_0 rfl rfl ?_
      refine zJ_lload_n dX11_lot_110 rfl rfl ?_
      refine zJ_aload_n dX11_lot_111 rfl rfl ?_
      refine zJ_getr (mi := mX11_lot) dX11_lot_112 F_X11_66 zW_0 rfl rfl ?_
      obtain ⟨rn12, hcl, h⟩ := bd1_some h
      refine zJ_callV2 (σ := σ) (L := ([(65, text_sizen2), (66, text_limitn3), (67, text_atn4), (193, numbers_sizen11), (323, course_fences), (326, course_horseCount), (328, course_planCount), (329, course_allowed), (769, course_rule_size), (1284, rounds_size), (2497, play_playersn5), (2498, play_plansn7), (2499, play_firstPlan_37x)], [(2, text_signs), (6, course_kinds), (7, course_heights), (8, course_feet), (10, course_digits), (11, course_plans), (13, rule_codes), (15, rule_stack_37x), (16, rule_things_37x), (23, rounds_faults), (24, rounds_tenths), (25, rounds_money), (40, play_namedn6), (41, play_faultsn8), (42, play_tenthsn9), (43, play_placesn10), (44, play_clears_37x), (45, play_ends_37x)], [(4, numbers_told), (46, play_worth_37x), (47, play_trial_37x)])) (mi := mX11_lot) (yi := mX3_scale) (as := []) (st := [.long v3_37x, .ref 3]) (L2 := ([(65, text_sizen2), (66, text_limitn3), (67, text_atn4), (193, numbers_sizen11), (323, course_fences), (326, course_horseCount), (328, course_planCount), (329, course_allowed), (769, course_rule_size), (1284, rounds_size), (2497, play_playersn5), (2498, play_plansn7), (2499, play_firstPlan_37x)], [(2, text_signs), (6, course_kinds), (7, course_heights), (8, course_feet), (10, course_digits), (11, course_plans), (13, rule_codes), (15, rule_stack_37x), (16, rule_things_37x), (23, rounds_faults), (24, rounds_tenths), (25, rounds_money), (40, play_namedn6), (41, play_faultsn8), (42, play_tenthsn9), (43, play_placesn10), (44, play_clears_37x), (45, play_ends_37x)], [(4, numbers_told), (46, play_worth_37x), (47, play_trial_37x)])) dX11_lot_115 ML_X11_388 Yv_X3_scale rfl zW_39 rfl rfl (t_X3_scale l _ hcl) (zsub_i (zle_c rfl zle_n) zle_n zle_n) (zjok_i rfl rfl (zle_c rfl (zle_c rfl (zle_c rfl (zle_c rfl (zle_c rfl (zle_c rfl (zle_c rfl (zle_c rfl (zle_c rfl (zle_c rfl (zle_c rfl (zle_c rfl (zle_c rfl zle_n))))))))))))) rfl rfl (zle_c rfl (zle_c rfl (zle_c rfl (zle_c rfl (zle_c rfl (zle_c rfl (zle_c rfl (zle_c rfl (zle_c rfl (zle_c rfl (zle_c rfl (zle_c rfl (zle_c rfl (zle_c rfl (zle_c rfl (zle_c rfl (zle_c rfl (zle_c rfl zle_n)))))))))))))))))) rfl rfl (zle_c rfl (zle_c rfl (zle_c rfl zle_n)))) (Nat.le_of_ble_eq_true rfl) (Nat.le_of_ble_eq_true rfl) rfl rfl ?_
      obtain ⟨numbers_sizen13, numbers_toldn14, hcl, h⟩ := bd2_some h
      refine zJ_callV2 (σ := σ) (L := ([(65, text_sizen2), (66, text_limitn3), (67, text_atn4), (193, numbers_sizen11), (323, course_fences), (326, course_horseCount), (328, course_planCount), (329, course_allowed), (769, course_rule_size), (1284, rounds_size), (2497, play_playersn5), (2498, play_plansn7), (2499, play_firstPlan_37x)], [(2, text_signs), (6, course_kinds), (7, course_heights), (8, course_feet), (10, course_digits), (11, course_plans), (13, rule_codes), (15, rule_stack_37x), (16, rule_things_37x), (23, rounds_faults), (24, rounds_tenths), (25, rounds_money), (40, play_namedn6), (41, play_faultsn8), (42, play_tenthsn9), (43, play_placesn10), (44, play_clears_37x), (45, play_ends_37x)], [(4, numbers_told), (46, play_worth_37x), (47, play_trial_37x)])) (mi := mX11_lot) (yi := mX6_putFraction) (as := [.long v3_37x, .long rn12]) (st := []) (L2 := ([(65, text_sizen2), (66, text_limitn3), (67, text_atn4), (193, numbers_sizen13), (323, course_fences), (326, course_horseCount), (328, course_planCount), (329, course_allowed), (769, course_rule_size), (1284, rounds_size), (2497, play_playersn5), (2498, play_plansn7), (2499, play_firstPlan_37x)], [(2, text_signs), (6, course_kinds), (7, course_heights), (8, course_feet), (10, course_digits), (11, course_plans), (13, rule_codes), (15, rule_stack_37x), (16, rule_things_37x), (23, rounds_faults), (24, rounds_tenths), (25, rounds_money), (40, play_namedn6), (41, play_faultsn8), (42, play_tenthsn9), (43, play_placesn10), (44, play_clears_37x), (45, play_ends_37x)], [(4, numbers_toldn14), (46, play_worth_37x), (47, play_trial_37x)])) dX11_lot_118 ML_X11_392 Yv_X6_putFraction rfl zW_3 rfl rfl (t_X6_putFraction l _ hcl) (zsub_i (zle_c rfl zle_n) zle_n (zle_c rfl zle_n)) (zjok_i rfl rfl (zle_c rfl (zle_c rfl (zle_c rfl (zle_c rfl (zle_c rfl (zle_c rfl (zle_c rfl (zle_c rfl (zle_c rfl (zle_c rfl (zle_c rfl (zle_c rfl (zle_c rfl zle_n))))))))))))) rfl rfl (zle_c rfl (zle_c rfl (zle_c rfl (zle_c rfl (zle_c rfl (zle_c rfl (zle_c rfl (zle_c rfl (zle_c rfl (zle_c rfl (zle_c rfl (zle_c rfl (zle_c rfl (zle_c rfl (zle_c rfl (zle_c rfl (zle_c rfl (zle_c rfl zle_n)))))))))))))))))) rfl rfl (zle_c rfl (zle_c rfl (zle_c rfl zle_n)))) (Nat.le_of_ble_eq_true rfl) (Nat.le_of_ble_eq_true rfl) rfl rfl ?_
      refine zJ_iload_n dX11_lot_121 rfl rfl ?_
      obtain ⟨rfl, rfl, rfl, rfl, rfl, rfl, rfl, rfl, rfl, rfl, rfl, rfl, rfl, rfl, rfl, rfl, rfl, rfl, rfl⟩ := so19 h
      exact zJ_iret dX11_lot_122 rfl rfl
    refine zJ_loc (ls' := [(0, .ref 0), (2, .int (0 : Int32)), (3, .long (-1 : Int64)), (5, .int (0 : Int32))]) (zll_c rfl (zll_c rfl (zll_c rfl (zll_c rfl zll_n)))) ?_
    refine ml10_J (fun (v2_37 : Int32) (v3_37 : Int64) (v5_37 : Int32) (play_firstPlan_37 : Int32) (rule_stack_37 : (Nat → Int32)) (rule_things_37 : (Nat → Int32)) (play_clears_37 : (Nat → Int32)) (play_ends_37 : (Nat → Int32)) (play_worth_37 : (Nat → Int64)) (play_trial_37 : (Nat → Int64)) => zJ l zW 204 mX11_lot σ ([(65, text_sizen2), (66, text_limitn3), (67, text_atn4), (193, numbers_size), (323, course_fences), (326, course_horseCount), (328, course_planCount), (329, course_allowed), (769, course_rule_size), (1284, rounds_size), (2497, play_playersn5), (2498, play_plansn7), (2499, play_firstPlan_37)], [(2, text_signs), (6, course_kinds), (7, course_heights), (8, course_feet), (10, course_digits), (11, course_plans), (13, rule_codes), (15, rule_stack_37), (16, rule_things_37), (23, rounds_faults), (24, rounds_tenths), (25, rounds_money), (40, play_namedn6), (41, play_faultsn8), (42, play_tenthsn9), (43, play_placesn10), (44, play_clears_37), (45, play_ends_37)], [(4, numbers_told), (46, play_worth_37), (47, play_trial_37)]) 37 [(0, .ref 0), (2, .int v2_37), (3, .long v3_37), (5, .int v5_37)] [] (some (.int r)) ([(65, w_text_size), (66, w_text_limit), (67, w_text_at), (193, w_numbers_size), (323, course_fences), (326, course_horseCount), (328, course_planCount), (329, course_allowed), (769, course_rule_size), (1284, rounds_size), (2497, w_play_players), (2498, w_play_plans), (2499, w_play_firstPlan)], [(2, text_signs), (6, course_kinds), (7, course_heights), (8, course_feet), (10, course_digits), (11, course_plans), (13, rule_codes), (15, w_rule_stack), (16, w_rule_things), (23, rounds_faults), (24, rounds_tenths), (25, rounds_money), (40, w_play_named), (41, w_play_faults), (42, w_play_tenths), (43, w_play_places), (44, w_play_clears), (45, w_play_ends)], [(4, w_numbers_told), (46, w_play_worth), (47, w_play_trial)])) (fun rc37 hrc37 v2_37 v3_37 v5_37 play_firstPlan_37 rule_stack_37 rule_things_37 play_clears_37 play_ends_37 play_worth_37 play_trial_37 h => ?_) zN _ _ _ _ _ _ _ _ _ _ h
    unfold s_X11_lot_37 at h
    refine zJ_iload dX11_lot_37 rfl rfl ?_
    refine zJ_aload_n dX11_lot_39 rfl rfl ?_
    refine zJ_getr (mi := mX11_lot) dX11_lot_40 F_X11_66 zW_0 rfl rfl ?_
    refine zJ_geti (mi := mX11_lot) (x := play_playersn5) dX11_lot_43 F_X11_381 zW_39 rfl rfl rfl ?_
    refine zJ_icmp_ge (tgt := 99) dX11_lot_46 (by decide) rfl (fun hc => ?_) (fun hc => ?_)
    · replace h := it_t hc h
      refine zJ_loc (ls' := [(0, .ref 0), (2, .int v2_37), (3, .long v3_37)]) (zll_c rfl (zll_c rfl (zll_c rfl zll_n))) ?_
      exact hk37 _ _ _ _ _ _ _ _ _ h
    · replace h := it_f hc h
      refine zJ_aload_n dX11_lot_49 rfl rfl ?_
      refine zJ_getr (mi := mX11_lot) dX11_lot_50 F_X11_66 zW_0 rfl rfl ?_
      refine zJ_aload_n dX11_lot_53 rfl rfl ?_
      refine zJ_getr (mi := mX11_lot) dX11_lot_54 F_X11_26 zW_0 rfl rfl ?_
      refine zJ_aload_n dX11_lot_57 rfl rfl ?_
      refine zJ_getr (mi := mX11_lot) dX11_lot_58 F_X11_33 zW_0 rfl rfl ?_
      refine zJ_iload dX11_lot_61 rfl rfl ?_
      obtain ⟨play_firstPlann15, rule_stackn16, rule_thingsn17, play_clearsn18, play_endsn19, play_worthn20, play_trialn21, hcl, h⟩ := bd7_some h
      refine zJ_callV2 (σ := σ) (L := ([(65, text_sizen2), (66, text_limitn3), (67, text_atn4), (193, numbers_size), (323, course_fences), (326, course_horseCount), (328, course_planCount), (329, course_allowed), (769, course_rule_size), (1284, rounds_size), (2497, play_playersn5), (2498, play_plansn7), (2499, play_firstPlan_37)], [(2, text_signs), (6, course_kinds), (7, course_heights), (8, course_feet), (10, course_digits), (11, course_plans), (13, rule_codes), (15, rule_stack_37), (16, rule_things_37), (23, rounds_faults), (24, rounds_tenths), (25, rounds_money), (40, play_namedn6), (41, play_faultsn8), (42, play_tenthsn9), (43, play_placesn10), (44, play_clears_37), (45, play_ends_37)], [(4, numbers_told), (46, play_worth_37), (47, play_trial_37)])) (mi := mX11_lot) (yi := mX3_start) (as := [.ref 5, .ref 20, .int v5_37]) (st := []) (L2 := ([(65, text_sizen2), (66, text_limitn3), (67, text_atn4), (193, numbers_size), (323, course_fences), (326, course_horseCount), (328, course_planCount), (329, course_allowed), (769, course_rule_size), (1284, rounds_size), (2497, play_playersn5), (2498, play_plansn7), (2499, play_firstPlann15)], [(2, text_signs), (6, course_kinds), (7, course_heights), (8, course_feet), (10, course_digits), (11, course_plans), (13, rule_codes), (15, rule_stackn16), (16, rule_thingsn17), (23, rounds_faults), (24, rounds_tenths), (25, rounds_money), (40, play_namedn6), (41, play_faultsn8), (42, play_tenthsn9), (43, play_placesn10), (44, play_clearsn18), (45, play_endsn19)], [(4, numbers_told), (46, play_worthn20), (47, play_trialn21)])) dX11_lot_63 ML_X11_378 Yv_X3_start rfl zW_39 rfl rfl (t_X3_start l _ hcl) (zsub_i (zle_c rfl (zle_c rfl (zle_c rfl (zle_c rfl (zle_c rfl zle_n))))) (zle_c rfl (zle_c rfl (zle_c rfl (zle_c rfl (zle_c rfl (zle_c rfl (zle_c rfl (zle_c rfl (zle_c rfl (zle_c rfl (zle_c rfl (zle_c rfl (zle_c rfl (zle_c rfl (zle_c rfl zle_n))))))))))))))) (zle_c rfl (zle_c rfl zle_n))) (zjok_i rfl rfl (zle_c rfl (zle_c rfl (zle_c rfl (zle_c rfl (zle_c rfl (zle_c rfl (zle_c rfl (zle_c rfl (zle_c rfl (zle_c rfl (zle_c rfl (zle_c rfl (zle_c rfl zle_n))))))))))))) rfl rfl (zle_c rfl (zle_c rfl (zle_c rfl (zle_c rfl (zle_c rfl (zle_c rfl (zle_c rfl (zle_c rfl (zle_c rfl (zle_c rfl (zle_c rfl (zle_c rfl (zle_c rfl (zle_c rfl (zle_c rfl (zle_c rfl (zle_c rfl (zle_c rfl zle_n)))))))))))))))))) rfl rfl (zle_c rfl (zle_c rfl (zle_c rfl zle_n)))) (Nat.le_of_ble_eq_true rfl) (Nat.le_of_ble_eq_true rfl) rfl rfl ?_
      refine zJ_aload_n dX11_lot_66 rfl rfl ?_
      refine zJ_getr (mi := mX11_lot) dX11_lot_67 F_X11_66 zW_0 rfl rfl ?_
      refine zJ_iload dX11_lot_70 rfl rfl ?_
      obtain ⟨rn22, hcl, h⟩ := bd1_some h
      refine zJ_callV2 (σ := σ) (L := ([(65, text_sizen2), (66, text_limitn3), (67, text_atn4), (193, numbers_size), (323, course_fences), (326, course_horseCount), (328, course_planCount), (329, course_allowed), (769, course_rule_size), (1284, rounds_size), (2497, play_playersn5), (2498, play_plansn7), (2499, play_firstPlann15)], [(2, text_signs), (6, course_kinds), (7, course_heights), (8, course_feet), (10, course_digits), (11, course_plans), (13, rule_codes), (15, rule_stackn16), (16, rule_thingsn17), (23, rounds_faults), (24, rounds_tenths), (25, rounds_money), (40, play_namedn6), (41, play_faultsn8), (42, play_tenthsn9), (43, play_placesn10), (44, play_clearsn18), (45, play_endsn19)], [(4, numbers_told), (46, play_worthn20), (47, play_trialn21)])) (mi := mX11_lot) (yi := mX3_won) (as := [.int v5_37]) (st := []) (L2 := ([(65, text_sizen2), (66, text_limitn3), (67, text_atn4), (193, numbers_size), (323, course_fences), (326, course_horseCount), (328, course_planCount), (329, course_allowed), (769, course_rule_size), (1284, rounds_size), (2497, play_playersn5), (2498, play_plansn7), (2499, play_firstPlann15)], [(2, text_signs), (6, course_kinds), (7, course_heights), (8, course_feet), (10, course_digits), (11, course_plans), (13, rule_codes), (15, rule_stackn16), (16, rule_thingsn17), (23, rounds_faults), (24, rounds_tenths), (25, rounds_money), (40, play_namedn6), (41, play_faultsn8), (42, play_tenthsn9), (43, play_placesn10), (44, play_clearsn18), (45, play_endsn19)], [(4, numbers_told), (46, play_worthn20), (47, play_trialn21)])) dX11_lot_72 ML_X11_384 Yv_X3_won rfl zW_39 rfl rfl (t_X3_won l _ hcl) (zsub_i (zle_c rfl zle_n) zle_n (zle_c rfl zle_n)) (zjok_i rfl rfl (zle_c rfl (zle_c rfl (zle_c rfl (zle_c rfl (zle_c rfl (zle_c rfl (zle_c rfl (zle_c rfl (zle_c rfl (zle_c rfl (zle_c rfl (zle_c rfl (zle_c rfl zle_n))))))))))))) rfl rfl (zle_c rfl (zle_c rfl (zle_c rfl (zle_c rfl (zle_c rfl (zle_c rfl (zle_c rfl (zle_c rfl (zle_c rfl (zle_c rfl (zle_c rfl (zle_c rfl (zle_c rfl (zle_c rfl (zle_c rfl (zle_c rfl (zle_c rfl (zle_c rfl zle_n)))))))))))))))))) rfl rfl (zle_c rfl (zle_c rfl (zle_c rfl zle_n)))) (Nat.le_of_ble_eq_true rfl) (Nat.le_of_ble_eq_true rfl) rfl rfl ?_
      refine zJ_lload_n dX11_lot_75 rfl rfl ?_
      refine zJ_lcmp dX11_lot_76 rfl ?_
      refine zJ_if_le (tgt := 93) dX11_lot_77 (by decide) rfl (fun hc => ?_) (fun hc => ?_)
      · replace h := it_t hc h
        obtain ⟨v5n23, ev5n23, h⟩ := lt1_some h
        refine zJ_iincN (ls' := [(5, .int v5n23), (0, .ref 0), (2, .int v2_37), (3, .long v3_37)]) dX11_lot_93 rfl rfl zc_1 ev5n23 rfl rfl ?_
        refine zJ_goto (tgt := 37) dX11_lot_96 (by decide) ?_
        refine zJ_loc (ls' := [(0, .ref 0), (2, .int v2_37), (3, .long v3_37), (5, .int v5n23)]) (zll_c rfl (zll_c rfl (zll_c rfl (zll_c rfl zll_n)))) ?_
        exact hrc37 _ _ _ _ _ _ _ _ _ _ h
      · replace h := it_f hc h
        refine zJ_iload dX11_lot_80 rfl rfl ?_
        refine zJ_istore_n (ls' := [(2, .int v5_37), (0, .ref 0), (3, .long v3_37), (5, .int v5_37)]) dX11_lot_82 rfl rfl rfl ?_
        refine zJ_aload_n dX11_lot_83 rfl rfl ?_
        refine zJ_getr (mi := mX11_lot) dX11_lot_84 F_X11_66 zW_0 rfl rfl ?_
        refine zJ_iload dX11_lot_87 rfl rfl ?_
        obtain ⟨rn24, hcl, h⟩ := bd1_some h
        refine zJ_callV2 (σ := σ) (L := ([(65, text_sizen2), (66, text_limitn3), (67, text_atn4), (193, numbers_size), (323, course_fences), (326, course_horseCount), (328, course_planCount), (329, course_allowed), (769, course_rule_size), (1284, rounds_size), (2497, play_playersn5), (2498, play_plansn7), (2499, play_firstPlann15)], [(2, text_signs), (6, course_kinds), (7, course_heights), (8, course_feet), (10, course_digits), (11, course_plans), (13, rule_codes), (15, rule_stackn16), (16, rule_thingsn17), (23, rounds_faults), (24, rounds_tenths), (25, rounds_money), (40, play_namedn6), (41, play_faultsn8), (42, play_tenthsn9), (43, play_placesn10), (44, play_clearsn18), (45, play_endsn19)], [(4, numbers_told), (46, play_worthn20), (47, play_trialn21)])) (mi := mX11_lot) (yi := mX3_won) (as := [.int v5_37]) (st := []) (L2 := ([(65, text_sizen2), (66, text_limitn3), (67, text_atn4), (193, numbers_size), (323, course_fences), (326, course_horseCount), (328, course_planCount), (329, course_allowed), (769, course_rule_size), (1284, rounds_size), (2497, play_playersn5), (2498, play_plansn7), (2499, play_firstPlann15)], [(2, text_signs), (6, course_kinds), (7, course_heights), (8, course_feet), (10, course_digits), (11, course_plans), (13, rule_codes), (15, rule_stackn16), (16, rule_thingsn17), (23, rounds_faults), (24, rounds_tenths), (25, rounds_money), (40, play_namedn6), (41, play_faultsn8), (42, play_tenthsn9), (43, play_placesn10), (44, play_clearsn18), (45, play_endsn19)], [(4, numbers_told), (46, play_worthn20), (47, play_trialn21)])) dX11_lot_89 ML_X11_384 Yv_X3_won rfl zW_39 rfl rfl (t_X3_won l _ hcl) (zsub_i (zle_c rfl zle_n) zle_n (zle_c rfl zle_n)) (zjok_i rfl rfl (zle_c rfl (zle_c rfl (zle_c rfl (zle_c rfl (zle_c rfl (zle_c rfl (zle_c rfl (zle_c rfl (zle_c rfl (zle_c rfl (zle_c rfl (zle_c rfl (zle_c rfl zle_n))))))))))))) rfl rfl (zle_c rfl (zle_c rfl (zle_c rfl (zle_c rfl (zle_c rfl (zle_c rfl (zle_c rfl (zle_c rfl (zle_c rfl (zle_c rfl (zle_c rfl (zle_c rfl (zle_c rfl (zle_c rfl (zle_c rfl (zle_c rfl (zle_c rfl (zle_c rfl zle_n)))))))))))))))))) rfl rfl (zle_c rfl (zle_c rfl (zle_c rfl zle_n)))) (Nat.le_of_ble_eq_true rfl) (Nat.le_of_ble_eq_true rfl) rfl rfl ?_
        refine zJ_lstore_n (ls' := [(3, .long rn24), (2, .int v5_37), (0, .ref 0), (5, .int v5_37)]) dX11_lot_92 rfl rfl rfl ?_
        obtain ⟨v5n25, ev5n25, h⟩ := lt1_some h
        refine zJ_iincN (ls' := [(5, .int v5n25), (3, .long rn24), (2, .int v5_37), (0, .ref 0)]) dX11_lot_93 rfl rfl zc_1 ev5n25 rfl rfl ?_
        refine zJ_goto (tgt := 37) dX11_lot_96 (by decide) ?_
        refine zJ_loc (ls' := [(0, .ref 0), (2, .int v5_37), (3, .long rn24), (5, .int v5n25)]) (zll_c rfl (zll_c rfl (zll_c rfl (zll_c rfl zll_n)))) ?_
        exact hrc37 _ _ _ _ _ _ _ _ _ _ h
  · replace h := it_f hc h
    refine zJ_iload_n dX11_lot_11 rfl rfl ?_
    obtain ⟨rfl, rfl, rfl, rfl, rfl, rfl, rfl, rfl, rfl, rfl, rfl, rfl, rfl, rfl, rfl, rfl, rfl, rfl, rfl⟩ := so19 h
    exact zJ_iret dX11_lot_12 rfl rfl
set_option maxRecDepth 100000 in
set_option maxHeartbeats 4000000 in
theorem t_X11_mean (l : Launch) (σ : zS) {p1 : Int32} {p2 : Int32} {numbers_size : Int32} {course_fences : Int32} {course_horseCount : Int32} {course_planCount : Int32} {course_allowed : Int32} {course_rule_size : Int32} {rounds_size : Int32} {course_kinds : (Nat → Int32)} {course_heights : (Nat → Int32)} {course_feet : (Nat → Int32)} {course_digits : (Nat → Int32)} {course_plans : (Nat → Int32)} {rule_codes : (Nat → Int32)} {rule_stack : (Nat → Int32)} {rule_things : (Nat → Int32)} {rounds_faults : (Nat → Int32)} {rounds_tenths : (Nat → Int32)} {rounds_money : (Nat → Int32)} {numbers_told : (Nat → Int64)} {r : Int32} {w_numbers_size : Int32} {w_rule_stack : (Nat → Int32)} {w_rule_things : (Nat → Int32)} {w_numbers_told : (Nat → Int64)} (h : f_X11_mean p1 p2 numbers_size course_fences course_horseCount course_planCount course_allowed course_rule_size rounds_size course_kinds course_heights course_feet course_digits course_plans rule_codes rule_stack rule_things rounds_faults rounds_tenths rounds_money numbers_told = some (r, w_numbers_size, w_rule_stack, w_rule_things, w_numbers_told)) : zMt l zW 6 mX11_mean σ ([(193, numbers_size), (323, course_fences), (326, course_horseCount), (328, course_planCount), (329, course_allowed), (769, course_rule_size), (1284, rounds_size)], [(6, course_kinds), (7, course_heights), (8, course_feet), (10, course_digits), (11, course_plans), (13, rule_codes), (15, rule_stack), (16, rule_things), (23, rounds_faults), (24, rounds_tenths), (25, rounds_money)], [(4, numbers_told)]) [.ref 0, .int p1, .int p2] (some (.int r)) ([(193, w_numbers_size), (323, course_fences), (326, course_horseCount), (328, course_planCount), (329, course_allowed), (769, course_rule_size), (1284, rounds_size)], [(6, course_kinds), (7, course_heights), (8, course_feet), (10, course_digits), (11, course_plans), (13, rule_codes), (15, w_rule_stack), (16, w_rule_things), (23, rounds_faults), (24, rounds_tenths), (25, rounds_money)], [(4, w_numbers_told)]) := by
  refine zMt_of (ls := [(0, .ref 0), (1, .int p1), (2, .int p2)]) (by decide) rfl (fun _ => Nat.le_of_ble_eq_true rfl) rfl ?_
  unfold f_X11_mean at h
  refine zJ_aload_n dX11_mean_0 rfl rfl ?_
  refine zJ_getr (mi := mX11_mean) dX11_mean_1 F_X11_26 zW_0 rfl rfl ?_
  refine zJ_iload_n dX11_mean_4 rfl rfl ?_
  obtain ⟨rn1, hcl, h⟩ := bd1_some h
  refine zJ_callV2 (σ := σ) (L := ([(193, numbers_size), (323, course_fences), (326, course_horseCount), (328, course_planCount), (329, course_allowed), (769, course_rule_size), (1284, rounds_size)], [(6, course_kinds), (7, course_heights), (8, course_feet), (10, course_digits), (11, course_plans), (13, rule_codes), (15, rule_stack), (16, rule_things), (23, rounds_faults), (24, rounds_tenths), (25, rounds_money)], [(4, numbers_told)])) (mi := mX11_mean) (yi := mX1_hasHorse) (as := [.int p1]) (st := []) (L2 := ([(193, numbers_size), (323, course_fences), (326, course_horseCount), (328, course_planCount), (329, course_allowed), (769, course_rule_size), (1284, rounds_size)], [(6, course_kinds), (7, course_heights), (8, course_feet), (10, course_digits), (11, course_plans), (13, rule_codes), (15, rule_stack), (16, rule_things), (23, rounds_faults), (24, rounds_tenths), (25, rounds_money)], [(4, numbers_told)])) dX11_mean_5 ML_X11_147 Yv_X1_hasHorse rfl zW_5 rfl rfl (t_X1_hasHorse l _ hcl) (zsub_i (zle_c rfl zle_n) zle_n zle_n) (zjok_i rfl rfl (zle_c rfl (zle_c rfl (zle_c rfl (zle_c rfl (zle_c rfl (zle_c rfl (zle_c rfl zle_n))))))) rfl rfl (zle_c rfl (zle_c rfl (zle_c rfl (zle_c rfl (zle_c rfl (zle_c rfl (zle_c rfl (zle_c rfl (zle_c rfl (zle_c rfl (zle_c rfl zle_n))))))))))) rfl rfl (zle_c rfl zle_n)) (Nat.le_of_ble_eq_true rfl) (Nat.le_of_ble_eq_true rfl) rfl rfl ?_
  refine zJ_if_eq (tgt := 22) dX11_mean_8 (by decide) rfl (fun hc => ?_) (fun hc => ?_)
  · replace h := it_t hc h
    refine zJ_iconst dX11_mean_22 zc_m1 rfl ?_
    obtain ⟨rfl, rfl, rfl, rfl, rfl⟩ := so5 h
    exact zJ_iret dX11_mean_23 rfl rfl
  · replace h := it_f hc h
    refine zJ_aload_n dX11_mean_11 rfl rfl ?_
    refine zJ_getr (mi := mX11_mean) dX11_mean_12 F_X11_26 zW_0 rfl rfl ?_
    refine zJ_iload_n dX11_mean_15 rfl rfl ?_
    obtain ⟨rn2, hcl, h⟩ := bd1_some h
    refine zJ_callV2 (σ := σ) (L := ([(193, numbers_size), (323, course_fences), (326, course_horseCount), (328, course_planCount), (329, course_allowed), (769, course_rule_size), (1284, rounds_size)], [(6, course_kinds), (7, course_heights), (8, course_feet), (10, course_digits), (11, course_plans), (13, rule_codes), (15, rule_stack), (16, rule_things), (23, rounds_faults), (24, rounds_tenths), (25, rounds_money)], [(4, numbers_told)])) (mi := mX11_mean) (yi := mX1_hasPlan) (as := [.int p2]) (st := []) (L2 := ([(193, numbers_size), (323, course_fences), (326, course_horseCount), (328, course_planCount), (329, course_allowed), (769, course_rule_size), (1284, rounds_size)], [(6, course_kinds), (7, course_heights), (8, course_feet), (10, course_digits), (11, course_plans), (13, rule_codes), (15, rule_stack), (16, rule_things), (23, rounds_faults), (24, rounds_tenths), (25, rounds_money)], [(4, numbers_told)])) dX11_mean_16 ML_X11_191 Yv_X1_hasPlan rfl zW_5 rfl rfl (t_X1_hasPlan l _ hcl) (zsub_i (zle_c rfl zle_n) zle_n zle_n) (zjok_i rfl rfl (zle_c rfl (zle_c rfl (zle_c rfl (zle_c rfl (zle_c rfl (zle_c rfl (zle_c rfl zle_n))))))) rfl rfl (zle_c rfl (zle_c rfl (zle_c rfl (zle_c rfl (zle_c rfl (zle_c rfl (zle_c rfl (zle_c rfl (zle_c rfl (zle_c rfl (zle_c rfl zle_n))))))))))) rfl rfl (zle_c rfl zle_n)) (Nat.le_of_ble_eq_true rfl) (Nat.le_of_ble_eq_true rfl) rfl rfl ?_
    refine zJ_if_ne (tgt := 24) dX11_mean_19 (by decide) rfl (fun hc => ?_) (fun hc => ?_)
    · replace h := it_f hc h
      refine zJ_aload_n dX11_mean_24 rfl rfl ?_
      refine zJ_getr (mi := mX11_mean) dX11_mean_25 F_X11_19 zW_0 rfl rfl ?_
      obtain ⟨numbers_sizen3, hcl, h⟩ := bd1_some h
      refine zJ_callV2 (σ := σ) (L := ([(193, numbers_size), (323, course_fences), (326, course_horseCount), (328, course_planCount), (329, course_allowed), (769, course_rule_size), (1284, rounds_size)], [(6, course_kinds), (7, course_heights), (8, course_feet), (10, course_digits), (11, course_plans), (13, rule_codes), (15, rule_stack), (16, rule_things), (23, rounds_faults), (24, rounds_tenths), (25, rounds_money)], [(4, numbers_told)])) (mi := mX11_mean) (yi := mX6_start) (as := []) (st := []) (L2 := ([(193, numbers_sizen3), (323, course_fences), (326, course_horseCount), (328, course_planCount), (329, course_allowed), (769, course_rule_size), (1284, rounds_size)], [(6, course_kinds), (7, course_heights), (8, course_feet), (10, course_digits), (11, course_plans), (13, rule_codes), (15, rule_stack), (16, rule_things), (23, rounds_faults), (24, rounds_tenths), (25, rounds_money)], [(4, numbers_told)])) dX11_mean_28 ML_X11_171 Yv_X6_start rfl zW_3 rfl rfl (t_X6_start l _ hcl) (zsub_i (zle_c rfl zle_n) zle_n zle_n) (zjok_i rfl rfl (zle_c rfl (zle_c rfl (zle_c rfl (zle_c rfl (zle_c rfl (zle_c rfl (zle_c rfl zle_n))))))) rfl rfl (zle_c rfl (zle_c rfl (zle_c rfl (zle_c rfl (zle_c rfl (zle_c rfl (zle_c rfl (zle_c rfl (zle_c rfl (zle_c rfl (zle_c rfl zle_n))))))))))) rfl rfl (zle_c rfl zle_n)) (Nat.le_of_ble_eq_true rfl) (Nat.le_of_ble_eq_true rfl) rfl rfl ?_
      refine zJ_aload_n dX11_mean_31 rfl rfl ?_
      refine zJ_getr (mi := mX11_mean) dX11_mean_32 F_X11_19 zW_0 rfl rfl ?_
      refine zJ_aload_n dX11_mean_35 rfl rfl ?_
      refine zJ_iload_n dX11_mean_36 rfl rfl ?_
      refine zJ_iconst dX11_mean_37 zc_0 rfl ?_
      obtain ⟨rn4, hcl, h⟩ := bd1_some h
      refine zJ_callV2 (σ := σ) (L := ([(193, numbers_sizen3), (323, course_fences), (326, course_horseCount), (328, course_planCount), (329, course_allowed), (769, course_rule_size), (1284, rounds_size)], [(6, course_kinds), (7, course_heights), (8, course_feet), (10, course_digits), (11, course_plans), (13, rule_codes), (15, rule_stack), (16, rule_things), (23, rounds_faults), (24, rounds_tenths), (25, rounds_money)], [(4, numbers_told)])) (mi := mX11_mean) (yi := mX11_thoughtMoney) (as := [.int p2, .int (0 : Int32)]) (st := [.ref 3]) (L2 := ([(193, numbers_sizen3), (323, course_fences), (326, course_horseCount), (328, course_planCount), (329, course_allowed), (769, course_rule_size), (1284, rounds_size)], [(6, course_kinds), (7, course_heights), (8, course_feet), (10, course_digits), (11, course_plans), (13, rule_codes), (15, rule_stack), (16, rule_things), (23, rounds_faults), (24, rounds_tenths), (25, rounds_money)], [(4, numbers_told)])) dX11_mean_38 ML_X11_356 Yv_X11_thoughtMoney rfl zW_0 rfl rfl (t_X11_thoughtMoney l _ hcl) (zsub_i (zle_c rfl (zle_c rfl (zle_c rfl zle_n))) (zle_c rfl (zle_c rfl (zle_c rfl (zle_c rfl (zle_c rfl (zle_c rfl zle_n)))))) zle_n) (zjok_i rfl rfl (zle_c rfl (zle_c rfl (zle_c rfl (zle_c rfl (zle_c rfl (zle_c rfl (zle_c rfl zle_n))))))) rfl rfl (zle_c rfl (zle_c rfl (zle_c rfl (zle_c rfl (zle_c rfl (zle_c rfl (zle_c rfl (zle_c rfl (zle_c rfl (zle_c rfl (zle_c rfl zle_n))))))))))) rfl rfl (zle_c rfl zle_n)) (Nat.le_of_ble_eq_true rfl) (Nat.le_of_ble_eq_true rfl) rfl rfl ?_
      refine zJ_i2l dX11_mean_41 rfl ?_
      obtain ⟨numbers_sizen5, numbers_toldn6, hcl, h⟩ := bd2_some h
      refine zJ_callV2 (σ := σ) (L := ([(193, numbers_sizen3), (323, course_fences), (326, course_horseCount), (328, course_planCount), (329, course_allowed), (769, course_rule_size), (1284, rounds_size)], [(6, course_kinds), (7, course_heights), (8, course_feet), (10, course_digits), (11, course_plans), (13, rule_codes), (15, rule_stack), (16, rule_things), (23, rounds_faults), (24, rounds_tenths), (25, rounds_money)], [(4, numbers_told)])) (mi := mX11_mean) (yi := mX6_put) (as := [.long rn4.toInt64]) (st := []) (L2 := ([(193, numbers_sizen5), (323, course_fences), (326, course_horseCount), (328, course_planCount), (329, course_allowed), (769, course_rule_size), (1284, rounds_size)], [(6, course_kinds), (7, course_heights), (8, course_feet), (10, course_digits), (11, course_plans), (13, rule_codes), (15, rule_stack), (16, rule_things), (23, rounds_faults), (24, rounds_tenths), (25, rounds_money)], [(4, numbers_toldn6)])) dX11_mean_42 ML_X11_177 Yv_X6_put rfl zW_3 rfl rfl (t_X6_put l _ hcl) (zsub_i (zle_c rfl zle_n) zle_n (zle_c rfl zle_n)) (zjok_i rfl rfl (zle_c rfl (zle_c rfl (zle_c rfl (zle_c rfl (zle_c rfl (zle_c rfl (zle_c rfl zle_n))))))) rfl rfl (zle_c rfl (zle_c rfl (zle_c rfl (zle_c rfl (zle_c rfl (zle_c rfl (zle_c rfl (zle_c rfl (zle_c rfl (zle_c rfl (zle_c rfl zle_n))))))))))) rfl rfl (zle_c rfl zle_n)) (Nat.le_of_ble_eq_true rfl) (Nat.le_of_ble_eq_true rfl) rfl rfl ?_
      refine zJ_aload_n dX11_mean_45 rfl rfl ?_
      refine zJ_getr (mi := mX11_mean) dX11_mean_46 F_X11_19 zW_0 rfl rfl ?_
      refine zJ_aload_n dX11_mean_49 rfl rfl ?_
      refine zJ_iload_n dX11_mean_50 rfl rfl ?_
      refine zJ_iconst dX11_mean_51 zc_4 rfl ?_
      obtain ⟨rn7, hcl, h⟩ := bd1_some h
      refine zJ_callV2 (σ := σ) (L := ([(193, numbers_sizen5), (323, course_fences), (326, course_horseCount), (328, course_planCount), (329, course_allowed), (769, course_rule_size), (1284, rounds_size)], [(6, course_kinds), (7, course_heights), (8, course_feet), (10, course_digits), (11, course_plans), (13, rule_codes), (15, rule_stack), (16, rule_things), (23, rounds_faults), (24, rounds_tenths), (25, rounds_money)], [(4, numbers_toldn6)])) (mi := mX11_mean) (yi := mX11_thoughtMoney) (as := [.int p2, .int (4 : Int32)]) (st := [.ref 3]) (L2 := ([(193, numbers_sizen5), (323, course_fences), (326, course_horseCount), (328, course_planCount), (329, course_allowed), (769, course_rule_size), (1284, rounds_size)], [(6, course_kinds), (7, course_heights), (8, course_feet), (10, course_digits), (11, course_plans), (13, rule_codes), (15, rule_stack), (16, rule_things), (23, rounds_faults), (24, rounds_tenths), (25, rounds_money)], [(4, numbers_toldn6)])) dX11_mean_52 ML_X11_356 Yv_X11_thoughtMoney rfl zW_0 rfl rfl (t_X11_thoughtMoney l _ hcl) (zsub_i (zle_c rfl (zle_c rfl (zle_c rfl zle_n))) (zle_c rfl (zle_c rfl (zle_c rfl (zle_c rfl (zle_c rfl (zle_c rfl zle_n)))))) zle_n) (zjok_i rfl rfl (zle_c rfl (zle_c rfl (zle_c rfl (zle_c rfl (zle_c rfl (zle_c rfl (zle_c rfl zle_n))))))) rfl rfl (zle_c rfl (zle_c rfl (zle_c rfl (zle_c rfl (zle_c rfl (zle_c rfl (zle_c rfl (zle_c rfl (zle_c rfl (zle_c rfl (zle_c rfl zle_n))))))))))) rfl rfl (zle_c rfl zle_n)) (Nat.le_of_ble_eq_true rfl) (Nat.le_of_ble_eq_true rfl) rfl rfl ?_
      refine zJ_i2l dX11_mean_55 rfl ?_
      obtain ⟨numbers_sizen8, numbers_toldn9, hcl, h⟩ := bd2_some h
      refine zJ_callV2 (σ := σ) (L := ([(193, numbers_sizen5), (323, course_fences), (326, course_horseCount), (328, course_planCount), (329, course_allowed), (769, course_rule_size), (1284, rounds_size)], [(6, course_kinds), (7, course_heights), (8, course_feet), (10, course_digits), (11, course_plans), (13, rule_codes), (15, rule_stack), (16, rule_things), (23, rounds_faults), (24, rounds_tenths), (25, rounds_money)], [(4, numbers_toldn6)])) (mi := mX11_mean) (yi := mX6_put) (as := [.long rn7.toInt64]) (st := []) (L2 := ([(193, numbers_sizen8), (323, course_fences), (326, course_horseCount), (328, course_planCount), (329, course_allowed), (769, course_rule_size), (1284, rounds_size)], [(6, course_kinds), (7, course_heights), (8, course_feet), (10, course_digits), (11, course_plans), (13, rule_codes), (15, rule_stack), (16, rule_things), (23, rounds_faults), (24, rounds_tenths), (25, rounds_money)], [(4, numbers_toldn9)])) dX11_mean_56 ML_X11_177 Yv_X6_put rfl zW_3 rfl rfl (t_X6_put l _ hcl) (zsub_i (zle_c rfl zle_n) zle_n (zle_c rfl zle_n)) (zjok_i rfl rfl (zle_c rfl (zle_c rfl (zle_c rfl (zle_c rfl (zle_c rfl (zle_c rfl (zle_c rfl zle_n))))))) rfl rfl (zle_c rfl (zle_c rfl (zle_c rfl (zle_c rfl (zle_c rfl (zle_c rfl (zle_c rfl (zle_c rfl (zle_c rfl (zle_c rfl (zle_c rfl zle_n))))))))))) rfl rfl (zle_c rfl zle_n)) (Nat.le_of_ble_eq_true rfl) (Nat.le_of_ble_eq_true rfl) rfl rfl ?_
      refine zJ_aload_n dX11_mean_59 rfl rfl ?_
      refine zJ_iload_n dX11_mean_60 rfl rfl ?_
      refine zJ_iload_n dX11_mean_61 rfl rfl ?_
      obtain ⟨rn10, rule_stackn11, rule_thingsn12, hcl, h⟩ := bd3_some h
      refine zJ_callV2 (σ := σ) (L := ([(193, numbers_sizen8), (323, course_fences), (326, course_horseCount), (328, course_planCount), (329, course_allowed), (769, course_rule_size), (1284, rounds_size)], [(6, course_kinds), (7, course_heights), (8, course_feet), (10, course_digits), (11, course_plans), (13, rule_codes), (15, rule_stack), (16, rule_things), (23, rounds_faults), (24, rounds_tenths), (25, rounds_money)], [(4, numbers_toldn9)])) (mi := mX11_mean) (yi := mX11_meanOf) (as := [.int p1, .int p2]) (st := []) (L2 := ([(193, numbers_sizen8), (323, course_fences), (326, course_horseCount), (328, course_planCount), (329, course_allowed), (769, course_rule_size), (1284, rounds_size)], [(6, course_kinds), (7, course_heights), (8, course_feet), (10, course_digits), (11, course_plans), (13, rule_codes), (15, rule_stackn11), (16, rule_thingsn12), (23, rounds_faults), (24, rounds_tenths), (25, rounds_money)], [(4, numbers_toldn9)])) dX11_mean_62 ML_X11_359 Yv_X11_meanOf rfl zW_0 rfl rfl (t_X11_meanOf l _ hcl) (zsub_i (zle_c rfl (zle_c rfl (zle_c rfl (zle_c rfl zle_n)))) (zle_c rfl (zle_c rfl (zle_c rfl (zle_c rfl (zle_c rfl (zle_c rfl (zle_c rfl (zle_c rfl (zle_c rfl (zle_c rfl (zle_c rfl zle_n))))))))))) zle_n) (zjok_i rfl rfl (zle_c rfl (zle_c rfl (zle_c rfl (zle_c rfl (zle_c rfl (zle_c rfl (zle_c rfl zle_n))))))) rfl rfl (zle_c rfl (zle_c rfl (zle_c rfl (zle_c rfl (zle_c rfl (zle_c rfl (zle_c rfl (zle_c rfl (zle_c rfl (zle_c rfl (zle_c rfl zle_n))))))))))) rfl rfl (zle_c rfl zle_n)) (Nat.le_of_ble_eq_true rfl) (Nat.le_of_ble_eq_true rfl) rfl rfl ?_
      obtain ⟨rfl, rfl, rfl, rfl, rfl⟩ := so5 h
      exact zJ_iret dX11_mean_65 rfl rfl
    · replace h := it_t hc h
      refine zJ_iconst dX11_mean_22 zc_m1 rfl ?_
      obtain ⟨rfl, rfl, rfl, rfl, rfl⟩ := so5 h
      exact zJ_iret dX11_mean_23 rfl rfl
set_option maxRecDepth 100000 in
set_option maxHeartbeats 4000000 in
theorem t_X11_move (l : Launch) (σ : zS) {p1 : Int32} {p2 : Int32} {course_fences : Int32} {course_feet : (Nat → Int32)} {r : Int32} {w_course_feet : (Nat → Int32)} (h : f_X11_move p1 p2 course_fences course_feet = some (r, w_course_feet)) : zMt l zW 1 mX11_move σ ([(323, course_fences)], [(8, course_feet)], []) [.ref 0, .int p1, .int p2] (some (.int r)) ([(323, course_fences)], [(8, w_course_feet)], []) := by
  refine zMt_of (ls := [(0, .ref 0), (1, .int p1), (2, .int p2)]) (by decide) rfl (fun _ => Nat.le_of_ble_eq_true rfl) rfl ?_
  unfold f_X11_move at h
  refine zJ_aload_n dX11_move_0 rfl rfl ?_
  refine zJ_getr (mi := mX11_move) dX11_move_1 F_X11_26 zW_0 rfl rfl ?_
  refine zJ_iload_n dX11_move_4 rfl rfl ?_
  obtain ⟨rn1, hcl, h⟩ := bd1_some h
  refine zJ_callV2 (σ := σ) (L := ([(323, course_fences)], [(8, course_feet)], [])) (mi := mX11_move) (yi := mX1_hasFence) (as := [.int p1]) (st := []) (L2 := ([(323, course_fences)], [(8, course_feet)], [])) dX11_move_5 ML_X11_132 Yv_X1_hasFence rfl zW_5 rfl rfl (t_X1_hasFence l _ hcl) (zsub_i (zle_c rfl zle_n) zle_n zle_n) (zjok_i rfl rfl (zle_c rfl zle_n) rfl rfl (zle_c rfl zle_n) rfl rfl zle_n) (Nat.le_of_ble_eq_true rfl) (Nat.le_of_ble_eq_true rfl) rfl rfl ?_
  refine zJ_if_eq (tgt := 23) dX11_move_8 (by decide) rfl (fun hc => ?_) (fun hc => ?_)
  · replace h := it_t hc h
    refine zJ_iconst dX11_move_23 zc_m1 rfl ?_
    obtain ⟨rfl, rfl⟩ := so2 h
    exact zJ_iret dX11_move_24 rfl rfl
  · replace h := it_f hc h
    refine zJ_iload_n dX11_move_11 rfl rfl ?_
    refine zJ_bipush dX11_move_12 zb_10 rfl ?_
    refine zJ_icmp_lt (tgt := 23) dX11_move_14 (by decide) rfl (fun hc => ?_) (fun hc => ?_)
    · replace h := it_t hc h
      refine zJ_iconst dX11_move_23 zc_m1 rfl ?_
      obtain ⟨rfl, rfl⟩ := so2 h
      exact zJ_iret dX11_move_24 rfl rfl
    · replace h := it_f hc h
      refine zJ_iload_n dX11_move_17 rfl rfl ?_
      refine zJ_bipush dX11_move_18 zb_99 rfl ?_
      refine zJ_icmp_le (tgt := 25) dX11_move_20 (by decide) rfl (fun hc => ?_) (fun hc => ?_)
      · replace h := it_t hc h
        refine zJ_aload_n dX11_move_25 rfl rfl ?_
        refine zJ_getr (mi := mX11_move) dX11_move_26 F_X11_26 zW_0 rfl rfl ?_
        refine zJ_getr (mi := mX11_move) dX11_move_29 F_X11_144 zW_5 rfl rfl ?_
        refine zJ_iload_n dX11_move_32 rfl rfl ?_
        obtain ⟨hg, h⟩ := gd_some h
        refine zJ_iald (mi := mX11_move) (f := course_feet) dX11_move_33 zW_8 (ix_in hg) rfl rfl ?_
        obtain ⟨v3n2, ev3n2, h⟩ := lt1_some h
        refine zJ_nmi ev3n2 ?_
        refine zJ_istore_n (ls' := [(3, .int v3n2), (0, .ref 0), (1, .int p1), (2, .int p2)]) dX11_move_34 rfl rfl rfl ?_
        refine zJ_aload_n dX11_move_35 rfl rfl ?_
        refine zJ_getr (mi := mX11_move) dX11_move_36 F_X11_26 zW_0 rfl rfl ?_
        refine zJ_getr (mi := mX11_move) dX11_move_39 F_X11_144 zW_5 rfl rfl ?_
        refine zJ_iload_n dX11_move_42 rfl rfl ?_
        refine zJ_iload_n dX11_move_43 rfl rfl ?_
        obtain ⟨hg, h⟩ := gd_some h
        refine zK_iast (mi := mX11_move) (f := course_feet) (lb' := [(8, (upd course_feet p1.toNatClampNeg p2))]) dX11_move_44 zW_8 (ix_in hg) rfl rfl rfl ?_
        refine zJ_iload_n dX11_move_45 rfl rfl ?_
        obtain ⟨rfl, rfl⟩ := so2 h
        exact zJ_iret dX11_move_46 rfl rfl
      · replace h := it_f hc h
        refine zJ_iconst dX11_move_23 zc_m1 rfl ?_
        obtain ⟨rfl, rfl⟩ := so2 h
        exact zJ_iret dX11_move_24 rfl rfl
set_option maxRecDepth 100000 in
set_option maxHeartbeats 4000000 in
theorem t_X5_countExplained (l : Launch) (σ : zS) {rounds_size : Int32} {rounds_riders : (Nat → Int32)} {rounds_horses : (Nat → Int32)} {r : Int32} (h : f_X5_countExplained rounds_size rounds_riders rounds_horses = some r) : zMt l zW 0 mX5_countExplained σ ([(1284, rounds_size)], [(21, rounds_riders), (22, rounds_horses)], []) [.ref 20] (some (.int r)) ([(1284, rounds_size)], [(21, rounds_riders), (22, rounds_horses)], []) := by
  refine zMt_of (ls := [(0, .ref 20)]) (by decide) rfl (fun _ => Nat.le_of_ble_eq_true rfl) rfl ?_
  unfold f_X5_countExplained at h
  refine zJ_iconst dX5_countExplained_0 zc_0 rfl ?_
  refine zJ_istore_n (ls' := [(1, .int (0 : Int32)), (0, .ref 20)]) dX5_countExplained_1 rfl rfl rfl ?_
  refine zJ_iconst dX5_countExplained_2 zc_0 rfl ?_
  refine zJ_istore_n (ls' := [(2, .int (0 : Int32)), (1, .int (0 : Int32)), (0, .ref 20)]) dX5_countExplained_3 rfl rfl rfl ?_
  have hk4 : ∀ (v1_4x : Int32), k_X5_countExplained_4  v1_4x = some r → zJ l zW 0 mX5_countExplained σ ([(1284, rounds_size)], [(21, rounds_riders), (22, rounds_horses)], []) 46 [(1, .int v1_4x)] [] (some (.int r)) ([(1284, rounds_size)], [(21, rounds_riders), (22, rounds_horses)], []) := by
    intro v1_4x h
    unfold k_X5_countExplained_4 at h
    refine zJ_iload_n dX5_countExplained_46 rfl rfl ?_
    obtain rfl := so1 h
    exact zJ_iret dX5_countExplained_47 rfl rfl
  refine zJ_loc (ls' := [(0, .ref 20), (1, .int (0 : Int32)), (2, .int (0 : Int32))]) (zll_c rfl (zll_c rfl (zll_c rfl zll_n))) ?_
  refine ml2_J (fun (v1_4 : Int32) (v2_4 : Int32) => zJ l zW 0 mX5_countExplained σ ([(1284, rounds_size)], [(21, rounds_riders), (22, rounds_horses)], []) 4 [(0, .ref 20), (1, .int v1_4), (2, .int v2_4)] [] (some (.int r)) ([(1284, rounds_size)], [(21, rounds_riders), (22, rounds_horses)], [])) (fun rc4 hrc4 v1_4 v2_4 h => ?_) zN _ _ h
  unfold s_X5_countExplained_4 at h
  refine zJ_iload_n dX5_countExplained_4 rfl rfl ?_
  refine zJ_aload_n dX5_countExplained_5 rfl rfl ?_
  refine zJ_geti (mi := mX5_countExplained) (x := rounds_size) dX5_countExplained_6 F_X5_41 zW_20 rfl rfl rfl ?_
  refine zJ_icmp_ge (tgt := 46) dX5_countExplained_9 (by decide) rfl (fun hc => ?_) (fun hc => ?_)
  · replace h := it_t hc h
    refine zJ_loc (ls' := [(1, .int v1_4)]) (zll_c rfl zll_n) ?_
    exact hk4 _ h
  · replace h := it_f hc h
    refine zJ_iload_n dX5_countExplained_12 rfl rfl ?_
    refine zJ_aload_n dX5_countExplained_13 rfl rfl ?_
    refine zJ_getr (mi := mX5_countExplained) dX5_countExplained_14 F_X5_47 zW_20 rfl rfl ?_
    refine zJ_iload_n dX5_countExplained_17 rfl rfl ?_
    obtain ⟨hg, h⟩ := gd_some h
    refine zJ_iald (mi := mX5_countExplained) (f := rounds_horses) dX5_countExplained_18 zW_22 (ix_in hg) rfl rfl ?_
    refine zJ_iconst dX5_countExplained_19 zc_3 rfl ?_
    refine zJ_icmp_ge (tgt := 37) dX5_countExplained_20 (by decide) rfl (fun hc => ?_) (fun hc => ?_)
    · replace h := it_t hc h
      refine zJ_iconst dX5_countExplained_37 zc_0 rfl ?_
      refine zJ_iadd dX5_countExplained_38 rfl ?_
      obtain ⟨v1n1, ev1n1, h⟩ := lt1_some h
      refine zJ_nmi ev1n1 ?_
      refine zJ_istore_n (ls' := [(1, .int v1n1), (0, .ref 20), (2, .int v2_4)]) dX5_countExplained_39 rfl rfl rfl ?_
      obtain ⟨v2n2, ev2n2, h⟩ := lt1_some h
      refine zJ_iincN (ls' := [(2, .int v2n2), (1, .int v1n1), (0, .ref 20)]) dX5_countExplained_40 rfl rfl zc_1 ev2n2 rfl rfl ?_
      refine zJ_goto (tgt := 4) dX5_countExplained_43 (by decide) ?_
      refine zJ_loc (ls' := [(0, .ref 20), (1, .int v1n1), (2, .int v2n2)]) (zll_c rfl (zll_c rfl (zll_c rfl zll_n))) ?_
      exact hrc4 _ _ h
    · replace h := it_f hc h
      refine zJ_aload_n dX5_countExplained_23 rfl rfl ?_
      refine zJ_getr (mi := mX5_countExplained) dX5_countExplained_24 F_X5_50 zW_20 rfl rfl ?_
      refine zJ_iload_n dX5_countExplained_27 rfl rfl ?_
      obtain ⟨hg, h⟩ := gd_some h
      refine zJ_iald (mi := mX5_countExplained) (f := rounds_riders) dX5_countExplained_28 zW_21 (ix_in hg) rfl rfl ?_
      refine zJ_iconst dX5_countExplained_29 zc_3 rfl ?_
      refine zJ_icmp_ge (tgt := 37) dX5_countExplained_30 (by decide) rfl (fun hc => ?_) (fun hc => ?_)
      · replace h := it_t hc h
        refine zJ_iconst dX5_countExplained_37 zc_0 rfl ?_
        refine zJ_iadd dX5_countExplained_38 rfl ?_
        obtain ⟨v1n3, ev1n3, h⟩ := lt1_some h
        refine zJ_nmi ev1n3 ?_
        refine zJ_istore_n (ls' := [(1, .int v1n3), (0, .ref 20), (2, .int v2_4)]) dX5_countExplained_39 rfl rfl rfl ?_
        obtain ⟨v2n4, ev2n4, h⟩ := lt1_some h
        refine zJ_iincN (ls' := [(2, .int v2n4), (1, .int v1n3), (0, .ref 20)]) dX5_countExplained_40 rfl rfl zc_1 ev2n4 rfl rfl ?_
        refine zJ_goto (tgt := 4) dX5_countExplained_43 (by decide) ?_
        refine zJ_loc (ls' := [(0, .ref 20), (1, .int v1n3), (2, .int v2n4)]) (zll_c rfl (zll_c rfl (zll_c rfl zll_n))) ?_
        exact hrc4 _ _ h
      · replace h := it_f hc h
        refine zJ_iconst dX5_countExplained_33 zc_1 rfl ?_
        refine zJ_goto (tgt := 38) dX5_countExplained_34 (by decide) ?_
        refine zJ_iadd dX5_countExplained_38 rfl ?_
        obtain ⟨v1n5, ev1n5, h⟩ := lt1_some h
        refine zJ_nmi ev1n5 ?_
        refine zJ_istore_n (ls' := [(1, .int v1n5), (0, .ref 20), (2, .int v2_4)]) dX5_countExplained_39 rfl rfl rfl ?_
        obtain ⟨v2n6, ev2n6, h⟩ := lt1_some h
        refine zJ_iincN (ls' := [(2, .int v2n6), (1, .int v1n5), (0, .ref 20)]) dX5_countExplained_40 rfl rfl zc_1 ev2n6 rfl rfl ?_
        refine zJ_goto (tgt := 4) dX5_countExplained_43 (by decide) ?_
        refine zJ_loc (ls' := [(0, .ref 20), (1, .int v1n5), (2, .int v2n6)]) (zll_c rfl (zll_c rfl (zll_c rfl zll_n))) ?_
        exact hrc4 _ _ h
set_option maxRecDepth 100000 in
set_option maxHeartbeats 4000000 in
theorem t_X5_fitHorse (l : Launch) (σ : zS) {p2 : Int32} {rounds_size : Int32} {rounds_riders : (Nat → Int32)} {rounds_horses : (Nat → Int32)} {rounds_faults : (Nat → Int32)} {blame_trial : (Nat → Int32)} {r : Int32} {w_blame_trial : (Nat → Int32)} (h : f_X5_fitHorse p2 rounds_size rounds_riders rounds_horses rounds_faults blame_trial = some (r, w_blame_trial)) : zMt l zW 1 mX5_fitHorse σ ([(1284, rounds_size)], [(21, rounds_riders), (22, rounds_horses), (23, rounds_faults), (50, blame_trial)], []) [.ref 49, .ref 20, .int p2] (some (.int r)) ([(1284, rounds_size)], [(21, rounds_riders), (22, rounds_horses), (23, rounds_faults), (50, w_blame_trial)], []) := by
  refine zMt_of (ls := [(0, .ref 49), (1, .ref 20), (2, .int p2)]) (by decide) rfl (fun _ => Nat.le_of_ble_eq_true rfl) rfl ?_
  unfold f_X5_fitHorse at h
  refine zJ_iconst dX5_fitHorse_0 zc_m1 rfl ?_
  refine zJ_istore_n (ls' := [(3, .int (-1 : Int32)), (0, .ref 49), (1, .ref 20), (2, .int p2)]) dX5_fitHorse_1 rfl rfl rfl ?_
  refine zJ_iconst dX5_fitHorse_2 zc_0 rfl ?_
  refine zJ_istore (ls' := [(4, .int (0 : Int32)), (3, .int (-1 : Int32)), (0, .ref 49), (1, .ref 20), (2, .int p2)]) dX5_fitHorse_3 rfl rfl rfl ?_
  have hk5 : ∀ (v3_5x : Int32) (blame_trial_5x : (Nat → Int32)), k_X5_fitHorse_5  v3_5x blame_trial_5x = some (r, w_blame_trial) → zJ l zW 1 mX5_fitHorse σ ([(1284, rounds_size)], [(21, rounds_riders), (22, rounds_horses), (23, rounds_faults), (50, blame_trial_5x)], []) 115 [(3, .int v3_5x)] [] (some (.int r)) ([(1284, rounds_size)], [(21, rounds_riders), (22, rounds_horses), (23, rounds_faults), (50, w_blame_trial)], []) := by
    intro v3_5x blame_trial_5x h
    unfold k_X5_fitHorse_5 at h
    refine zJ_iload_n dX5_fitHorse_115 rfl rfl ?_
    obtain ⟨rfl, rfl⟩ := so2 h
    exact zJ_iret dX5_fitHorse_116 rfl rfl
  refine zJ_loc (ls' := [(0, .ref 49), (1, .ref 20), (2, .int p2), (3, .int (-1 : Int32)), (4, .int (0 : Int32))]) (zll_c rfl (zll_c rfl (zll_c rfl (zll_c rfl (zll_c rfl zll_n))))) ?_
  refine ml3_J (fun (v3_5 : Int32) (v4_5 : Int32) (blame_trial_5 : (Nat → Int32)) => zJ l zW 1 mX5_fitHorse σ ([(1284, rounds_size)], [(21, rounds_riders), (22, rounds_horses), (23, rounds_faults), (50, blame_trial_5)], []) 5 [(0, .ref 49), (1, .ref 20), (2, .int p2), (3, .int v3_5), (4, .int v4_5)] [] (some (.int r)) ([(1284, rounds_size)], [(21, rounds_riders), (22, rounds_horses), (23, rounds_faults), (50, w_blame_trial)], [])) (fun rc5 hrc5 v3_5 v4_5 blame_trial_5 h => ?_) zN _ _ _ h
  unfold s_X5_fitHorse_5 at h
  refine zJ_iload dX5_fitHorse_5 rfl rfl ?_
  refine zJ_iconst dX5_fitHorse_7 zc_5 rfl ?_
  refine zJ_icmp_ge (tgt := 115) dX5_fitHorse_8 (by decide) rfl (fun hc => ?_) (fun hc => ?_)
  · replace h := it_t hc h
    refine zJ_loc (ls' := [(3, .int v3_5)]) (zll_c rfl zll_n) ?_
    exact hk5 _ _ h
  · replace h := it_f hc h
    refine zJ_iconst dX5_fitHorse_11 zc_0 rfl ?_
    refine zJ_istore (ls' := [(5, .int (0 : Int32)), (0, .ref 49), (1, .ref 20), (2, .int p2), (3, .int v3_5), (4, .int v4_5)]) dX5_fitHorse_12 rfl rfl rfl ?_
    refine zJ_iconst dX5_fitHorse_14 zc_0 rfl ?_
    refine zJ_istore (ls' := [(6, .int (0 : Int32)), (5, .int (0 : Int32)), (0, .ref 49), (1, .ref 20), (2, .int p2), (3, .int v3_5), (4, .int v4_5)]) dX5_fitHorse_15 rfl rfl rfl ?_
    have hk17 : ∀ (v5_17x : Int32), k_X5_fitHorse_17 p2 rc5 v3_5 v4_5 blame_trial_5 v5_17x = some (r, w_blame_trial) → zJ l zW 1 mX5_fitHorse σ ([(1284, rounds_size)], [(21, rounds_riders), (22, rounds_horses), (23, rounds_faults), (50, blame_trial_5)], []) 85 [(0, .ref 49), (1, .ref 20), (2, .int p2), (3, .int v3_5), (4, .int v4_5), (5, .int v5_17x)] [] (some (.int r)) ([(1284, rounds_size)], [(21, rounds_riders), (22, rounds_horses), (23, rounds_faults), (50, w_blame_trial)], []) := by
      intro v5_17x h
      unfold k_X5_fitHorse_17 at h
      refine zJ_iload_n dX5_fitHorse_85 rfl rfl ?_
      refine zJ_iconst dX5_fitHorse_86 zc_m1 rfl ?_
      refine zJ_icmp_eq (tgt := 96) dX5_fitHorse_87 (by decide) rfl (fun hc => ?_) (fun hc => ?_)
      · replace h := it_t hc h
        refine zJ_iload dX5_fitHorse_96 rfl rfl ?_
        refine zJ_istore_n (ls' := [(3, .int v5_17x), (0, .ref 49), (1, .ref 20), (2, .int p2), (4, .int v4_5), (5, .int v5_17x)]) dX5_fitHorse_98 rfl rfl rfl ?_
        refine zJ_aload_n dX5_fitHorse_99 rfl rfl ?_
        refine zJ_getr (mi := mX5_fitHorse) dX5_fitHorse_100 F_X5_11 zW_49 rfl rfl ?_
        refine zJ_iconst dX5_fitHorse_103 zc_3 rfl ?_
        refine zJ_iload_n dX5_fitHorse_104 rfl rfl ?_
        refine zJ_iadd dX5_fitHorse_105 rfl ?_
        refine zJ_iload dX5_fitHorse_106 rfl rfl ?_
        obtain ⟨hg, h⟩ := gd_some h
        refine zK_iast (mi := mX5_fitHorse) (f := blame_trial_5) (lb' := [(21, rounds_riders), (22, rounds_horses), (23, rounds_faults), (50, (upd blame_trial_5 ((3 : Int32) + p2).toNatClampNeg v4_5))]) dX5_fitHorse_108 zW_50 (ix_in hg) rfl rfl rfl ?_
        obtain ⟨v4n1, ev4n1, h⟩ := lt1_some h
        refine zJ_iincN (ls' := [(4, .int v4n1), (3, .int v5_17x), (0, .ref 49), (1, .ref 20), (2, .int p2), (5, .int v5_17x)]) dX5_fitHorse_109 rfl rfl zc_1 ev4n1 rfl rfl ?_
        refine zJ_goto (tgt := 5) dX5_fitHorse_112 (by decide) ?_
        refine zJ_loc (ls' := [(0, .ref 49), (1, .ref 20), (2, .int p2), (3, .int v5_17x), (4, .int v4n1)]) (zll_c rfl (zll_c rfl (zll_c rfl (zll_c rfl (zll_c rfl zll_n))))) ?_
        exact hrc5 _ _ _ h
      · replace h := it_f hc h
        refine zJ_iload dX5_fitHorse_90 rfl rfl ?_
        refine zJ_iload_n dX5_fitHorse_92 rfl rfl ?_
        refine zJ_icmp_ge (tgt := 109) dX5_fitHorse_93 (by decide) rfl (fun hc => ?_) (fun hc => ?_)
        · replace h := it_t hc h
          obtain ⟨v4n2, ev4n2, h⟩ := lt1_some h
          refine zJ_iincN (ls' := [(4, .int v4n2), (0, .ref 49), (1, .ref 20), (2, .int p2), (3, .int v3_5), (5, .int v5_17x)]) dX5_fitHorse_109 rfl rfl zc_1 ev4n2 rfl rfl ?_
          refine zJ_goto (tgt := 5) dX5_fitHorse_112 (by decide) ?_
          refine zJ_loc (ls' := [(0, .ref 49), (1, .ref 20), (2, .int p2), (3, .int v3_5), (4, .int v4n2)]) (zll_c rfl (zll_c rfl (zll_c rfl (zll_c rfl (zll_c rfl zll_n))))) ?_
          exact hrc5 _ _ _ h
        · replace h := it_f hc h
          refine zJ_iload dX5_fitHorse_96 rfl rfl ?_
          refine zJ_istore_n (ls' := [(3, .int v5_17x), (0, .ref 49), (1, .ref 20), (2, .int p2), (4, .int v4_5), (5, .int v5_17x)]) dX5_fitHorse_98 rfl rfl rfl ?_
          refine zJ_aload_n dX5_fitHorse_99 rfl rfl ?_
          refine zJ_getr (mi := mX5_fitHorse) dX5_fitHorse_100 F_X5_11 zW_49 rfl rfl ?_
          refine zJ_iconst dX5_fitHorse_103 zc_3 rfl ?_
          refine zJ_iload_n dX5_fitHorse_104 rfl rfl ?_
          refine zJ_iadd dX5_fitHorse_105 rfl ?_
          refine zJ_iload dX5_fitHorse_106 rfl rfl ?_
          obtain ⟨hg, h⟩ := gd_some h
          refine zK_iast (mi := mX5_fitHorse) (f := blame_trial_5) (lb' := [(21, rounds_riders), (22, rounds_horses), (23, rounds_faults), (50, (upd blame_trial_5 ((3 : Int32) + p2).toNatClampNeg v4_5))]) dX5_fitHorse_108 zW_50 (ix_in hg) rfl rfl rfl ?_
          obtain ⟨v4n3, ev4n3, h⟩ := lt1_some h
          refine zJ_iincN (ls' := [(4, .int v4n3), (3, .int v5_17x), (0, .ref 49), (1, .ref 20), (2, .int p2), (5, .int v5_17x)]) dX5_fitHorse_109 rfl rfl zc_1 ev4n3 rfl rfl ?_
          refine zJ_goto (tgt := 5) dX5_fitHorse_112 (by decide) ?_
          refine zJ_loc (ls' := [(0, .ref 49), (1, .ref 20), (2, .int p2), (3, .int v5_17x), (4, .int v4n3)]) (zll_c rfl (zll_c rfl (zll_c rfl (zll_c rfl (zll_c rfl zll_n))))) ?_
          exact hrc5 _ _ _ h
    refine zJ_loc (ls' := [(0, .ref 49), (1, .ref 20), (2, .int p2), (3, .int v3_5), (4, .int v4_5), (5, .int (0 : Int32)), (6, .int (0 : Int32))]) (zll_c rfl (zll_c rfl (zll_c rfl (zll_c rfl (zll_c rfl (zll_c rfl (zll_c rfl zll_n))))))) ?_
    refine ml2_J (fun (v5_17 : Int32) (v6_17 : Int32) => zJ l zW 1 mX5_fitHorse σ ([(1284, rounds_size)], [(21, rounds_riders), (22, rounds_horses), (23, rounds_faults), (50, blame_trial_5)], []) 17 [(0, .ref 49), (1, .ref 20), (2, .int p2), (3, .int v3_5), (4, .int v4_5), (5, .int v5_17), (6, .int v6_17)] [] (some (.int r)) ([(1284, rounds_size)], [(21, rounds_riders), (22, rounds_horses), (23, rounds_faults), (50, w_blame_trial)], [])) (fun rc17 hrc17 v5_17 v6_17 h => ?_) zN _ _ h
    unfold s_X5_fitHorse_17 at h
    refine zJ_iload dX5_fitHorse_17 rfl rfl ?_
    refine zJ_aload_n dX5_fitHorse_19 rfl rfl ?_
    refine zJ_geti (mi := mX5_fitHorse) (x := rounds_size) dX5_fitHorse_20 F_X5_41 zW_20 rfl rfl rfl ?_
    refine zJ_icmp_ge (tgt := 85) dX5_fitHorse_23 (by decide) rfl (fun hc => ?_) (fun hc => ?_)
    · replace h := it_t hc h
      refine zJ_loc (ls' := [(0, .ref 49), (1, .ref 20), (2, .int p2), (3, .int v3_5), (4, .int v4_5), (5, .int v5_17)]) (zll_c rfl (zll_c rfl (zll_c rfl (zll_c rfl (zll_c rfl (zll_c rfl zll_n)))))) ?_
      exact hk17 _ h
    · replace h := it_f hc h
      refine zJ_aload_n dX5_fitHorse_26 rfl rfl ?_
      refine zJ_getr (mi := mX5_fitHorse) dX5_fitHorse_27 F_X5_47 zW_20 rfl rfl ?_
      refine zJ_iload dX5_fitHorse_30 rfl rfl ?_
      obtain ⟨hg, h⟩ := gd_some h
      refine zJ_iald (mi := mX5_fitHorse) (f := rounds_horses) dX5_fitHorse_32 zW_22 (ix_in hg) rfl rfl ?_
      refine zJ_iload_n dX5_fitHorse_33 rfl rfl ?_
      refine zJ_icmp_ne (tgt := 79) dX5_fitHorse_34 (by decide) rfl (fun hc => ?_) (fun hc => ?_)
      · replace h := it_f hc h
        obtain ⟨v6n4, ev6n4, h⟩ := lt1_some h
        refine zJ_iincN (ls' := [(6, .int v6n4), (0, .ref 49), (1, .ref 20), (2, .int p2), (3, .int v3_5), (4, .int v4_5), (5, .int v5_17)]) dX5_fitHorse_79 rfl rfl zc_1 ev6n4 rfl rfl ?_
        refine zJ_goto (tgt := 17) dX5_fitHorse_82 (by decide) ?_
        refine zJ_loc (ls' := [(0, .ref 49), (1, .ref 20), (2, .int p2), (3, .int v3_5), (4, .int v4_5), (5, .int v5_17), (6, .int v6n4)]) (zll_c rfl (zll_c rfl (zll_c rfl (zll_c rfl (zll_c rfl (zll_c rfl (zll_c rfl zll_n))))))) ?_
        exact hrc17 _ _ h
      · replace h := it_t hc h
        refine zJ_aload_n dX5_fitHorse_37 rfl rfl ?_
        refine zJ_getr (mi := mX5_fitHorse) dX5_fitHorse_38 F_X5_50 zW_20 rfl rfl ?_
        refine zJ_iload dX5_fitHorse_41 rfl rfl ?_
        obtain ⟨hg, h⟩ := gd_some h
        refine zJ_iald (mi := mX5_fitHorse) (f := rounds_riders) dX5_fitHorse_43 zW_21 (ix_in hg) rfl rfl ?_
        refine zJ_iconst dX5_fitHorse_44 zc_3 rfl ?_
        refine zJ_icmp_ge (tgt := 79) dX5_fitHorse_45 (by decide) rfl (fun hc => ?_) (fun hc => ?_)
        · replace h := it_t hc h
          obtain ⟨v6n5, ev6n5, h⟩ := lt1_some h
          refine zJ_iincN (ls' := [(6, .int v6n5), (0, .ref 49), (1, .ref 20), (2, .int p2), (3, .int v3_5), (4, .int v4_5), (5, .int v5_17)]) dX5_fitHorse_79 rfl rfl zc_1 ev6n5 rfl rfl ?_
          refine zJ_goto (tgt := 17) dX5_fitHorse_82 (by decide) ?_
          refine zJ_loc (ls' := [(0, .ref 49), (1, .ref 20), (2, .int p2), (3, .int v3_5), (4, .int v4_5), (5, .int v5_17), (6, .int v6n5)]) (zll_c rfl (zll_c rfl (zll_c rfl (zll_c rfl (zll_c rfl (zll_c rfl (zll_c rfl zll_n))))))) ?_
          exact hrc17 _ _ h
        · replace h := it_f hc h
          refine zJ_iload dX5_fitHorse_48 rfl rfl ?_
          refine zJ_aload_n dX5_fitHorse_50 rfl rfl ?_
          refine zJ_getr (mi := mX5_fitHorse) dX5_fitHorse_51 F_X5_53 zW_20 rfl rfl ?_
          refine zJ_iload dX5_fitHorse_54 rfl rfl ?_
          obtain ⟨hg, h⟩ := gd_some h
          refine zJ_iald (mi := mX5_fitHorse) (f := rounds_faults) dX5_fitHorse_56 zW_23 (ix_in hg) rfl rfl ?_
          refine zJ_aload_n dX5_fitHorse_57 rfl rfl ?_
          refine zJ_getr (mi := mX5_fitHorse) dX5_fitHorse_58 F_X5_11 zW_49 rfl rfl ?_
          refine zJ_aload_n dX5_fitHorse_61 rfl rfl ?_
          refine zJ_getr (mi := mX5_fitHorse) dX5_fitHorse_62 F_X5_50 zW_20 rfl rfl ?_
          refine zJ_iload dX5_fitHorse_65 rfl rfl ?_
          obtain ⟨hg, h⟩ := gd_some h
          refine zJ_iald (mi := mX5_fitHorse) (f := rounds_riders) dX5_fitHorse_67 zW_21 (ix_in hg) rfl rfl ?_
          obtain ⟨hg, h⟩ := gd_some h
          refine zJ_iald (mi := mX5_fitHorse) (f := blame_trial_5) dX5_fitHorse_68 zW_50 (ix_in hg) rfl rfl ?_
          refine zJ_isub dX5_fitHorse_69 rfl ?_
          refine zJ_iload dX5_fitHorse_70 rfl rfl ?_
          refine zJ_isub dX5_fitHorse_72 rfl ?_
          refine zJ_mabs (mi := mX5_fitHorse) dX5_fitHorse_73 L_X5_56 K_abs_s K_math K_abs_c (Nat.le_of_ble_eq_true rfl) (Nat.le_of_ble_eq_true rfl) rfl ?_
          refine zJ_iadd dX5_fitHorse_76 rfl ?_
          obtain ⟨v5n6, ev5n6, h⟩ := lt1_some h
          refine zJ_nmi ev5n6 ?_
          refine zJ_istore (ls' := [(5, .int v5n6), (0, .ref 49), (1, .ref 20), (2, .int p2), (3, .int v3_5), (4, .int v4_5), (6, .int v6_17)]) dX5_fitHorse_77 rfl rfl rfl ?_
          obtain ⟨v6n7, ev6n7, h⟩ := lt1_some h
          refine zJ_iincN (ls' := [(6, .int v6n7), (5, .int v5n6), (0, .ref 49), (1, .ref 20), (2, .int p2), (3, .int v3_5), (4, .int v4_5)]) dX5_fitHorse_79 rfl rfl zc_1 ev6n7 rfl rfl ?_
          refine zJ_goto (tgt := 17) dX5_fitHorse_82 (by decide) ?_
          refine zJ_loc (ls' := [(0, .ref 49), (1, .ref 20), (2, .int p2), (3, .int v3_5), (4, .int v4_5), (5, .int v5n6), (6, .int v6n7)]) (zll_c rfl (zll_c rfl (zll_c rfl (zll_c rfl (zll_c rfl (zll_c rfl (zll_c rfl zll_n))))))) ?_
          exact hrc17 _ _ h
set_option maxRecDepth 100000 in
set_option maxHeartbeats 4000000 in
theorem t_X5_explain (l : Launch) (σ : zS) {numbers_size : Int32} {rounds_size : Int32} {rounds_riders : (Nat → Int32)} {rounds_horses : (Nat → Int32)} {rounds_faults : (Nat → Int32)} {blame_trial : (Nat → Int32)} {blame_best : (Nat → Int32)} {numbers_told : (Nat → Int64)} {r : Int32} {w_numbers_size : Int32} {w_blame_trial : (Nat → Int32)} {w_blame_best : (Nat → Int32)} {w_numbers_told : (Nat → Int64)} (h : f_X5_explain numbers_size rounds_size rounds_riders rounds_horses rounds_faults blame_trial blame_best numbers_told = some (r, w_numbers_size, w_blame_trial, w_blame_best, w_numbers_told)) : zMt l zW 2 mX5_explain σ ([(193, numbers_size), (1284, rounds_size)], [(21, rounds_riders), (22, rounds_horses), (23, rounds_faults), (50, blame_trial), (51, blame_best)], [(4, numbers_told)]) [.ref 49, .ref 20, .ref 3] (some (.int r)) ([(193, w_numbers_size), (1284, rounds_size)], [(21, rounds_riders), (22, rounds_horses), (23, rounds_faults), (50, w_blame_trial), (51, w_blame_best)], [(4, w_numbers_told)]) := by
  refine zMt_of (ls := [(0, .ref 49), (1, .ref 20), (2, .ref 3)]) (by decide) rfl (fun _ => Nat.le_of_ble_eq_true rfl) rfl ?_
  unfold f_X5_explain at h
  refine zJ_iconst dX5_explain_0 zc_m1 rfl ?_
  refine zJ_istore_n (ls' := [(3, .int (-1 : Int32)), (0, .ref 49), (1, .ref 20), (2, .ref 3)]) dX5_explain_1 rfl rfl rfl ?_
  refine zJ_iconst dX5_explain_2 zc_0 rfl ?_
  refine zJ_istore (ls' := [(4, .int (0 : Int32)), (3, .int (-1 : Int32)), (0, .ref 49), (1, .ref 20), (2, .ref 3)]) dX5_explain_3 rfl rfl rfl ?_
  have hk5 : ∀ (v3_5x : Int32) (blame_trial_5x : (Nat → Int32)) (blame_best_5x : (Nat → Int32)), k_X5_explain_5 numbers_size rounds_size rounds_riders rounds_horses numbers_told v3_5x blame_trial_5x blame_best_5x = some (r, w_numbers_size, w_blame_trial, w_blame_best, w_numbers_told) → zJ l zW 2 mX5_explain σ ([(193, numbers_size), (1284, rounds_size)], [(21, rounds_riders), (22, rounds_horses), (23, rounds_faults), (50, blame_trial_5x), (51, blame_best_5x)], [(4, numbers_told)]) 110 [(0, .ref 49), (1, .ref 20), (2, .ref 3), (3, .int v3_5x)] [] (some (.int r)) ([(193, w_numbers_size), (1284, rounds_size)], [(21, rounds_riders), (22, rounds_horses), (23, rounds_faults), (50, w_blame_trial), (51, w_blame_best)], [(4, w_numbers_told)]) := by
    intro v3_5x blame_trial_5x blame_best_5x h
    unfold k_X5_explain_5 at h
    refine zJ_aload_n dX5_explain_110 rfl rfl ?_
    obtain ⟨numbers_sizen1, hcl, h⟩ := bd1_some h
    refine zJ_callV2 (σ := σ) (L := ([(193, numbers_size), (1284, rounds_size)], [(21, rounds_riders), (22, rounds_horses), (23, rounds_faults), (50, blame_trial_5x), (51, blame_best_5x)], [(4, numbers_told)])) (mi := mX5_explain) (yi := mX6_start) (as := []) (st := []) (L2 := ([(193, numbers_sizen1), (1284, rounds_size)], [(21, rounds_riders), (22, rounds_horses), (23, rounds_faults), (50, blame_trial_5x), (51, blame_best_5x)], [(4, numbers_told)])) dX5_explain_111 ML_X5_28 Yv_X6_start rfl zW_3 rfl rfl (t_X6_start l _ hcl) (zsub_i (zle_c rfl zle_n) zle_n zle_n) (zjok_i rfl rfl (zle_c rfl (zle_c rfl zle_n)) rfl rfl (zle_c rfl (zle_c rfl (zle_c rfl (zle_c rfl (zle_c rfl zle_n))))) rfl rfl (zle_c rfl zle_n)) (Nat.le_of_ble_eq_true rfl) (Nat.le_of_ble_eq_true rfl) rfl rfl ?_
    refine zJ_iconst dX5_explain_114 zc_0 rfl ?_
    refine zJ_istore (ls' := [(4, .int (0 : Int32)), (0, .ref 49), (1, .ref 20), (2, .ref 3), (3, .int v3_5x)]) dX5_explain_115 rfl rfl rfl ?_
    have hk117 : ∀ (numbers_size_117x : Int32) (numbers_told_117x : (Nat → Int64)), k_X5_explain_117 rounds_size rounds_riders rounds_horses v3_5x blame_trial_5x blame_best_5x numbers_size_117x numbers_told_117x = some (r, w_numbers_size, w_blame_trial, w_blame_best, w_numbers_told) → zJ l zW 2 mX5_explain σ ([(193, numbers_size_117x), (1284, rounds_size)], [(21, rounds_riders), (22, rounds_horses), (23, rounds_faults), (50, blame_trial_5x), (51, blame_best_5x)], [(4, numbers_told_117x)]) 142 [(1, .ref 20), (2, .ref 3), (3, .int v3_5x)] [] (some (.int r)) ([(193, w_numbers_size), (1284, rounds_size)], [(21, rounds_riders), (22, rounds_horses), (23, rounds_faults), (50, w_blame_trial), (51, w_blame_best)], [(4, w_numbers_told)]) := by
      intro numbers_size_117x numbers_told_117x h
      unfold k_X5_explain_117 at h
      refine zJ_aload_n dX5_explain_142 rfl rfl ?_
      refine zJ_aload_n dX5_explain_143 rfl rfl ?_
      obtain ⟨rn2, hcl, h⟩ := bd1_some h
      refine zJ_callS2 (σ := σ) (L := ([(193, numbers_size_117x), (1284, rounds_size)], [(21, rounds_riders), (22, rounds_horses), (23, rounds_faults), (50, blame_trial_5x), (51, blame_best_5x)], [(4, numbers_told_117x)])) (mi := mX5_explain) (yi := mX5_countExplained) (as := [.ref 20]) (st := [.ref 3]) (L2 := ([(193, numbers_size_117x), (1284, rounds_size)], [(21, rounds_riders), (22, rounds_horses), (23, rounds_faults), (50, blame_trial_5x), (51, blame_best_5x)], [(4, numbers_told_117x)])) dX5_explain_144 ML_X5_37 Ys_X5_countExplained rfl (t_X5_countExplained l _ hcl) (zsub_i (zle_c rfl zle_n) (zle_c rfl (zle_c rfl zle_n)) zle_n) (zjok_i rfl rfl (zle_c rfl (zle_c rfl zle_n)) rfl rfl (zle_c rfl (zle_c rfl (zle_c rfl (zle_c rfl (zle_c rfl zle_n))))) rfl rfl (zle_c rfl zle_n)) (Nat.le_of_ble_eq_true rfl) (Nat.le_of_ble_eq_true rfl) rfl rfl ?_
      refine zJ_i2l dX5_explain_147 rfl ?_
      obtain ⟨numbers_sizen3, numbers_toldn4, hcl, h⟩ := bd2_some h
      refine zJ_callV2 (σ := σ) (L := ([(193, numbers_size_117x), (1284, rounds_size)], [(21, rounds_riders), (22, rounds_horses), (23, rounds_faults), (50, blame_trial_5x), (51, blame_best_5x)], [(4, numbers_told_117x)])) (mi := mX5_explain) (yi := mX6_put) (as := [.long rn2.toInt64]) (st := []) (L2 := ([(193, numbers_sizen3), (1284, rounds_size)], [(21, rounds_riders), (22, rounds_horses), (23, rounds_faults), (50, blame_trial_5x), (51, blame_best_5x)], [(4, numbers_toldn4)])) dX5_explain_148 ML_X5_33 Yv_X6_put rfl zW_3 rfl rfl (t_X6_put l _ hcl) (zsub_i (zle_c rfl zle_n) zle_n (zle_c rfl zle_n)) (zjok_i rfl rfl (zle_c rfl (zle_c rfl zle_n)) rfl rfl (zle_c rfl (zle_c rfl (zle_c rfl (zle_c rfl (zle_c rfl zle_n))))) rfl rfl (zle_c rfl zle_n)) (Nat.le_of_ble_eq_true rfl) (Nat.le_of_ble_eq_true rfl) rfl rfl ?_
      refine zJ_iload_n dX5_explain_151 rfl rfl ?_
      obtain ⟨rfl, rfl, rfl, rfl, rfl⟩ := so5 h
      exact zJ_iret dX5_explain_152 rfl rfl
    refine zJ_loc (ls' := [(0, .ref 49), (1, .ref 20), (2, .ref 3), (3, .int v3_5x), (4, .int (0 : Int32))]) (zll_c rfl (zll_c rfl (zll_c rfl (zll_c rfl (zll_c rfl zll_n))))) ?_
    refine ml3_J (fun (v4_117 : Int32) (numbers_size_117 : Int32) (numbers_told_117 : (Nat → Int64)) => zJ l zW 2 mX5_explain σ ([(193, numbers_size_117), (1284, rounds_size)], [(21, rounds_riders), (22, rounds_horses), (23, rounds_faults), (50, blame_trial_5x), (51, blame_best_5x)], [(4, numbers_told_117)]) 117 [(0, .ref 49), (1, .ref 20), (2, .ref 3), (3, .int v3_5x), (4, .int v4_117)] [] (some (.int r)) ([(193, w_numbers_size), (1284, rounds_size)], [(21, rounds_riders), (22, rounds_horses), (23, rounds_faults), (50, w_blame_trial), (51, w_blame_best)], [(4, w_numbers_told)])) (fun rc117 hrc117 v4_117 numbers_size_117 numbers_told_117 h => ?_) zN _ _ _ h
    unfold s_X5_explain_117 at h
    refine zJ_iload dX5_explain_117 rfl rfl ?_
    refine zJ_bipush dX5_explain_119 zb_6 rfl ?_
    refine zJ_icmp_ge (tgt := 142) dX5_explain_121 (by decide) rfl (fun hc => ?_) (fun hc => ?_)
    · replace h := it_t hc h
      refine zJ_loc (ls' := [(1, .ref 20), (2, .ref 3), (3, .int v3_5x)]) (zll_c rfl (zll_c rfl (zll_c rfl zll_n))) ?_
      exact hk117 _ _ h
    · replace h := it_f hc h
      refine zJ_aload_n dX5_explain_124 rfl rfl ?_
      refine zJ_aload_n dX5_explain_125 rfl rfl ?_
      refine zJ_getr (mi := mX5_explain) dX5_explain_126 F_X5_15 zW_49 rfl rfl ?_
      refine zJ_iload dX5_explain_129 rfl rfl ?_
      obtain ⟨hg, h⟩ := gd_some h
      refine zJ_iald (mi := mX5_explain) (f := blame_best_5x) dX5_explain_131 zW_51 (ix_in hg) rfl rfl ?_
      refine zJ_i2l dX5_explain_132 rfl ?_
      obtain ⟨numbers_sizen5, numbers_toldn6, hcl, h⟩ := bd2_some h
      refine zJ_callV2 (σ := σ) (L := ([(193, numbers_size_117), (1284, rounds_size)], [(21, rounds_riders), (22, rounds_horses), (23, rounds_faults), (50, blame_trial_5x), (51, blame_best_5x)], [(4, numbers_told_117)])) (mi := mX5_explain) (yi := mX6_put) (as := [.long ((blame_best_5x v4_117.toNatClampNeg)).toInt64]) (st := []) (L2 := ([(193, numbers_sizen5), (1284, rounds_size)], [(21, rounds_riders), (22, rounds_horses), (23, rounds_faults), (50, blame_trial_5x), (51, blame_best_5x)], [(4, numbers_toldn6)])) dX5_explain_133 ML_X5_33 Yv_X6_put rfl zW_3 rfl rfl (t_X6_put l _ hcl) (zsub_i (zle_c rfl zle_n) zle_n (zle_c rfl zle_n)) (zjok_i rfl rfl (zle_c rfl (zle_c rfl zle_n)) rfl rfl (zle_c rfl (zle_c rfl (zle_c rfl (zle_c rfl (zle_c rfl zle_n))))) rfl rfl (zle_c rfl zle_n)) (Nat.le_of_ble_eq_true rfl) (Nat.le_of_ble_eq_true rfl) rfl rfl ?_
      obtain ⟨v4n7, ev4n7, h⟩ := lt1_some h
      refine zJ_iincN (ls' := [(4, .int v4n7), (0, .ref 49), (1, .ref 20), (2, .ref 3), (3, .int v3_5x)]) dX5_explain_136 rfl rfl zc_1 ev4n7 rfl rfl ?_
      refine zJ_goto (tgt := 117) dX5_explain_139 (by decide) ?_
      refine zJ_loc (ls' := [(0, .ref 49), (1, .ref 20), (2, .ref 3), (3, .int v3_5x), (4, .int v4n7)]) (zll_c rfl (zll_c rfl (zll_c rfl (zll_c rfl (zll_c rfl zll_n))))) ?_
      exact hrc117 _ _ _ h
  refine zJ_loc (ls' := [(0, .ref 49), (1, .ref 20), (2, .ref 3), (3, .int (-1 : Int32)), (4, .int (0 : Int32))]) (zll_c rfl (zll_c rfl (zll_c rfl (zll_c rfl (zll_c rfl zll_n))))) ?_
  refine ml4_J (fun (v3_5 : Int32) (v4_5 : Int32) (blame_trial_5 : (Nat → Int32)) (blame_best_5 : (Nat → Int32)) => zJ l zW 2 mX5_explain σ ([(193, numbers_size), (1284, rounds_size)], [(21, rounds_riders), (22, rounds_horses), (23, rounds_faults), (50, blame_trial_5), (51, blame_best_5)], [(4, numbers_told)]) 5 [(0, .ref 49), (1, .ref 20), (2, .ref 3), (3, .int v3_5), (4, .int v4_5)] [] (some (.int r)) ([(193, w_numbers_size), (1284, rounds_size)], [(21, rounds_riders), (22, rounds_horses), (23, rounds_faults), (50, w_blame_trial), (51, w_blame_best)], [(4, w_numbers_told)])) (fun rc5 hrc5 v3_5 v4_5 blame_trial_5 blame_best_5 h => ?_) zN _ _ _ _ h
  unfold s_X5_explain_5 at h
  refine zJ_iload dX5_explain_5 rfl rfl ?_
  refine zJ_bipush dX5_explain_7 zb_125 rfl ?_
  refine zJ_icmp_ge (tgt := 110) dX5_explain_9 (by decide) rfl (fun hc => ?_) (fun hc => ?_)
  · replace h := it_t hc h
    refine zJ_loc (ls' := [(0, .ref 49), (1, .ref 20), (2, .ref 3), (3, .int v3_5)]) (zll_c rfl (zll_c rfl (zll_c rfl (zll_c rfl zll_n)))) ?_
    exact hk5 _ _ _ h
  · replace h := it_f hc h
    refine zJ_aload_n dX5_explain_12 rfl rfl ?_
    refine zJ_getr (mi := mX5_explain) dX5_explain_13 F_X5_11 zW_49 rfl rfl ?_
    refine zJ_iconst dX5_explain_16 zc_0 rfl ?_
    refine zJ_iload dX5_explain_17 rfl rfl ?_
    refine zJ_bipush dX5_explain_19 zb_25 rfl ?_
    refine zJ_idiv dX5_explain_21 (by decide) rfl ?_
    obtain ⟨hg, h⟩ := gd_some h
    refine zK_iast (mi := mX5_explain) (f := blame_trial_5) (lb' := [(21, rounds_riders), (22, rounds_horses), (23, rounds_faults), (50, (upd blame_trial_5 (0 : Int32).toNatClampNeg (v4_5 / (25 : Int32)))), (51, blame_best_5)]) dX5_explain_22 zW_50 (ix_in hg) rfl rfl rfl ?_
    refine zJ_aload_n dX5_explain_23 rfl rfl ?_
    refine zJ_getr (mi := mX5_explain) dX5_explain_24 F_X5_11 zW_49 rfl rfl ?_
    refine zJ_iconst dX5_explain_27 zc_1 rfl ?_
    refine zJ_iload dX5_explain_28 rfl rfl ?_
    refine zJ_iconst dX5_explain_30 zc_5 rfl ?_
    refine zJ_idiv dX5_explain_31 (by decide) rfl ?_
    refine zJ_iconst dX5_explain_32 zc_5 rfl ?_
    refine zJ_irem dX5_explain_33 (by decide) rfl ?_
    obtain ⟨hg, h⟩ := gd_some h
    refine zK_iast (mi := mX5_explain) (f := ((upd blame_trial_5 (0 : Int32).toNatClampNeg (v4_5 / (25 : Int32))))) (lb' := [(21, rounds_riders), (22, rounds_horses), (23, rounds_faults), (50, (upd ((upd blame_trial_5 (0 : Int32).toNatClampNeg (v4_5 / (25 : Int32)))) (1 : Int32).toNatClampNeg ((v4_5 / (5 : Int32)) - (v4_5 / (5 : Int32)) / (5 : Int32) * (5 : Int32)))), (51, blame_best_5)]) dX5_explain_34 zW_50 (ix_in hg) rfl rfl rfl ?_
    refine zJ_aload_n dX5_explain_35 rfl rfl ?_
    refine zJ_getr (mi := mX5_explain) dX5_explain_36 F_X5_11 zW_49 rfl rfl ?_
    refine zJ_iconst dX5_explain_39 zc_2 rfl ?_
    refine zJ_iload dX5_explain_40 rfl rfl ?_
    refine zJ_iconst dX5_explain_42 zc_5 rfl ?_
    refine zJ_irem dX5_explain_43 (by decide) rfl ?_
    obtain ⟨hg, h⟩ := gd_some h
    refine zK_iast (mi := mX5_explain) (f := ((upd ((upd blame_trial_5 (0 : Int32).toNatClampNeg (v4_5 / (25 : Int32)))) (1 : Int32).toNatClampNeg ((v4_5 / (5 : Int32)) - (v4_5 / (5 : Int32)) / (5 : Int32) * (5 : Int32))))) (lb' := [(21, rounds_riders), (22, rounds_horses), (23, rounds_faults), (50, (upd ((upd ((upd blame_trial_5 (0 : Int32).toNatClampNeg (v4_5 / (25 : Int32)))) (1 : Int32).toNatClampNeg ((v4_5 / (5 : Int32)) - (v4_5 / (5 : Int32)) / (5 : Int32) * (5 : Int32)))) (2 : Int32).toNatClampNeg (v4_5 - v4_5 / (5 : Int32) * (5 : Int32)))), (51, blame_best_5)]) dX5_explain_44 zW_50 (ix_in hg) rfl rfl rfl ?_
    refine zJ_iconst dX5_explain_45 zc_0 rfl ?_
    refine zJ_istore (ls' := [(5, .int (0 : Int32)), (0, .ref 49), (1, .ref 20), (2, .ref 3), (3, .int v3_5), (4, .int v4_5)]) dX5_explain_46 rfl rfl rfl ?_
    refine zJ_iconst dX5_explain_48 zc_0 rfl ?_
    refine zJ_istore (ls' := [(6, .int (0 : Int32)), (5, .int (0 : Int32)), (0, .ref 49), (1, .ref 20), (2, .ref 3), (3, .int v3_5), (4, .int v4_5)]) dX5_explain_49 rfl rfl rfl ?_
    have hk51 : ∀ (v5_51x : Int32) (blame_trial_51x : (Nat → Int32)), k_X5_explain_51 rc5 v3_5 v4_5 blame_best_5 v5_51x blame_trial_51x = some (r, w_numbers_size, w_blame_trial, w_blame_best, w_numbers_told) → zJ l zW 2 mX5_explain σ ([(193, numbers_size), (1284, rounds_size)], [(21, rounds_riders), (22, rounds_horses), (23, rounds_faults), (50, blame_trial_51x), (51, blame_best_5)], [(4, numbers_told)]) 75 [(0, .ref 49), (1, .ref 20), (2, .ref 3), (3, .int v3_5), (4, .int v4_5), (5, .int v5_51x)] [] (some (.int r)) ([(193, w_numbers_size), (1284, rounds_size)], [(21, rounds_riders), (22, rounds_horses), (23, rounds_faults), (50, w_blame_trial), (51, w_blame_best)], [(4, w_numbers_told)]) := by
      intro v5_51x blame_trial_51x h
      unfold k_X5_explain_51 at h
      refine zJ_iload_n dX5_explain_75 rfl rfl ?_
      refine zJ_iconst dX5_explain_76 zc_m1 rfl ?_
      refine zJ_icmp_eq (tgt := 86) dX5_explain_77 (by decide) rfl (fun hc => ?_) (fun hc => ?_)
      · replace h := it_t hc h
        refine zJ_iload dX5_explain_86 rfl rfl ?_
        refine zJ_istore_n (ls' := [(3, .int v5_51x), (0, .ref 49), (1, .ref 20), (2, .ref 3), (4, .int v4_5), (5, .int v5_51x)]) dX5_explain_88 rfl rfl rfl ?_
        refine zJ_aload_n dX5_explain_89 rfl rfl ?_
        refine zJ_getr (mi := mX5_explain) dX5_explain_90 F_X5_11 zW_49 rfl rfl ?_
        refine zJ_iconst dX5_explain_93 zc_0 rfl ?_
        refine zJ_aload_n dX5_explain_94 rfl rfl ?_
        refine zJ_getr (mi := mX5_explain) dX5_explain_95 F_X5_15 zW_49 rfl rfl ?_
        refine zJ_iconst dX5_explain_98 zc_0 rfl ?_
        refine zJ_bipush dX5_explain_99 zb_6 rfl ?_
        obtain ⟨hg, h⟩ := gd_some h
        refine zK_copyi (mi := mX5_explain) (f := blame_trial_51x) (g := blame_best_5) (lb' := [(21, rounds_riders), (22, rounds_horses), (23, rounds_faults), (50, blame_trial_51x), (51, (va_cpy blame_trial_51x blame_best_5 (0 : Int32).toNatClampNeg (0 : Int32).toNatClampNeg (6 : Int32).toNatClampNeg))]) dX5_explain_101 L_X5_22 K_cpy_n K_cpy_s K_sys zW_50 zW_51 rfl rfl (cpok_s hg) (Nat.le_of_ble_eq_true rfl) (Nat.le_of_ble_eq_true rfl) rfl rfl ?_
        obtain ⟨v4n8, ev4n8, h⟩ := lt1_some h
        refine zJ_iincN (ls' := [(4, .int v4n8), (3, .int v5_51x), (0, .ref 49), (1, .ref 20), (2, .ref 3), (5, .int v5_51x)]) dX5_explain_104 rfl rfl zc_1 ev4n8 rfl rfl ?_
        refine zJ_goto (tgt := 5) dX5_explain_107 (by decide) ?_
        refine zJ_loc (ls' := [(0, .ref 49), (1, .ref 20), (2, .ref 3), (3, .int v5_51x), (4, .int v4n8)]) (zll_c rfl (zll_c rfl (zll_c rfl (zll_c rfl (zll_c rfl zll_n))))) ?_
        exact hrc5 _ _ _ _ h
      · replace h := it_f hc h
        refine zJ_iload dX5_explain_80 rfl rfl ?_
        refine zJ_iload_n dX5_explain_82 rfl rfl ?_
        refine zJ_icmp_ge (tgt := 104) dX5_explain_83 (by decide) rfl (fun hc => ?_) (fun hc => ?_)
        · replace h := it_t hc h
          obtain ⟨v4n9, ev4n9, h⟩ := lt1_some h
          refine zJ_iincN (ls' := [(4, .int v4n9), (0, .ref 49), (1, .ref 20), (2, .ref 3), (3, .int v3_5), (5, .int v5_51x)]) dX5_explain_104 rfl rfl zc_1 ev4n9 rfl rfl ?_
          refine zJ_goto (tgt := 5) dX5_explain_107 (by decide) ?_
          refine zJ_loc (ls' := [(0, .ref 49), (1, .ref 20), (2, .ref 3), (3, .int v3_5), (4, .int v4n9)]) (zll_c rfl (zll_c rfl (zll_c rfl (zll_c rfl (zll_c rfl zll_n))))) ?_
          exact hrc5 _ _ _ _ h
        · replace h := it_f hc h
          refine zJ_iload dX5_explain_86 rfl rfl ?_
          refine zJ_istore_n (ls' := [(3, .int v5_51x), (0, .ref 49), (1, .ref 20), (2, .ref 3), (4, .int v4_5), (5, .int v5_51x)]) dX5_explain_88 rfl rfl rfl ?_
          refine zJ_aload_n dX5_explain_89 rfl rfl ?_
          refine zJ_getr (mi := mX5_explain) dX5_explain_90 F_X5_11 zW_49 rfl rfl ?_
          refine zJ_iconst dX5_explain_93 zc_0 rfl ?_
          refine zJ_aload_n dX5_explain_94 rfl rfl ?_
          refine zJ_getr (mi := mX5_explain) dX5_explain_95 F_X5_15 zW_49 rfl rfl ?_
          refine zJ_iconst dX5_explain_98 zc_0 rfl ?_
          refine zJ_bipush dX5_explain_99 zb_6 rfl ?_
          obtain ⟨hg, h⟩ := gd_some h
          refine zK_copyi (mi := mX5_explain) (f := blame_trial_51x) (g := blame_best_5) (lb' := [(21, rounds_riders), (22, rounds_horses), (23, rounds_faults), (50, blame_trial_51x), (51, (va_cpy blame_trial_51x blame_best_5 (0 : Int32).toNatClampNeg (0 : Int32).toNatClampNeg (6 : Int32).toNatClampNeg))]) dX5_explain_101 L_X5_22 K_cpy_n K_cpy_s K_sys zW_50 zW_51 rfl rfl (cpok_s hg) (Nat.le_of_ble_eq_true rfl) (Nat.le_of_ble_eq_true rfl) rfl rfl ?_
          obtain ⟨v4n10, ev4n10, h⟩ := lt1_some h
          refine zJ_iincN (ls' := [(4, .int v4n10), (3, .int v5_51x), (0, .ref 49), (1, .ref 20), (2, .ref 3), (5, .int v5_51x)]) dX5_explain_104 rfl rfl zc_1 ev4n10 rfl rfl ?_
          refine zJ_goto (tgt := 5) dX5_explain_107 (by decide) ?_
          refine zJ_loc (ls' := [(0, .ref 49), (1, .ref 20), (2, .ref 3), (3, .int v5_51x), (4, .int v4n10)]) (zll_c rfl (zll_c rfl (zll_c rfl (zll_c rfl (zll_c rfl zll_n))))) ?_
          exact hrc5 _ _ _ _ h
    refine zJ_loc (ls' := [(0, .ref 49), (1, .ref 20), (2, .ref 3), (3, .int v3_5), (4, .int v4_5), (5, .int (0 : Int32)), (6, .int (0 : Int32))]) (zll_c rfl (zll_c rfl (zll_c rfl (zll_c rfl (zll_c rfl (zll_c rfl (zll_c rfl zll_n))))))) ?_
    refine ml3_J (fun (v5_51 : Int32) (v6_51 : Int32) (blame_trial_51 : (Nat → Int32)) => zJ l zW 2 mX5_explain σ ([(193, numbers_size), (1284, rounds_size)], [(21, rounds_riders), (22, rounds_horses), (23, rounds_faults), (50, blame_trial_51), (51, blame_best_5)], [(4, numbers_told)]) 51 [(0, .ref 49), (1, .ref 20), (2, .ref 3), (3, .int v3_5), (4, .int v4_5), (5, .int v5_51), (6, .int v6_51)] [] (some (.int r)) ([(193, w_numbers_size), (1284, rounds_size)], [(21, rounds_riders), (22, rounds_horses), (23, rounds_faults), (50, w_blame_trial), (51, w_blame_best)], [(4, w_numbers_told)])) (fun rc51 hrc51 v5_51 v6_51 blame_trial_51 h => ?_) zN _ _ _ h
    unfold s_X5_explain_51 at h
    refine zJ_iload dX5_explain_51 rfl rfl ?_
    refine zJ_iconst dX5_explain_53 zc_3 rfl ?_
    refine zJ_icmp_ge (tgt := 75) dX5_explain_54 (by decide) rfl (fun hc => ?_) (fun hc => ?_)
    · replace h := it_t hc h
      refine zJ_loc (ls' := [(0, .ref 49), (1, .ref 20), (2, .ref 3), (3, .int v3_5), (4, .int v4_5), (5, .int v5_51)]) (zll_c rfl (zll_c rfl (zll_c rfl (zll_c rfl (zll_c rfl (zll_c rfl zll_n)))))) ?_
      exact hk51 _ _ h
    · replace h := it_f hc h
      refine zJ_iload dX5_explain_57 rfl rfl ?_
      refine zJ_aload_n dX5_explain_59 rfl rfl ?_
      refine zJ_aload_n dX5_explain_60 rfl rfl ?_
      refine zJ_iload dX5_explain_61 rfl rfl ?_
      obtain ⟨rn11, blame_trialn12, hcl, h⟩ := bd2_some h
      refine zJ_callV2 (σ := σ) (L := ([(193, numbers_size), (1284, rounds_size)], [(21, rounds_riders), (22, rounds_horses), (23, rounds_faults), (50, blame_trial_51), (51, blame_best_5)], [(4, numbers_told)])) (mi := mX5_explain) (yi := mX5_fitHorse) (as := [.ref 20, .int v6_51]) (st := [.int v5_51]) (L2 := ([(193, numbers_size), (1284, rounds_size)], [(21, rounds_riders), (22, rounds_horses), (23, rounds_faults), (50, blame_trialn12), (51, blame_best_5)], [(4, numbers_told)])) dX5_explain_63 ML_X5_18 Yv_X5_fitHorse rfl zW_49 rfl rfl (t_X5_fitHorse l _ hcl) (zsub_i (zle_c rfl zle_n) (zle_c rfl (zle_c rfl (zle_c rfl (zle_c rfl zle_n)))) zle_n) (zjok_i rfl rfl (zle_c rfl (zle_c rfl zle_n)) rfl rfl (zle_c rfl (zle_c rfl (zle_c rfl (zle_c rfl (zle_c rfl zle_n))))) rfl rfl (zle_c rfl zle_n)) (Nat.le_of_ble_eq_true rfl) (Nat.le_of_ble_eq_true rfl) rfl rfl ?_
      refine zJ_iadd dX5_explain_66 rfl ?_
      obtain ⟨v5n13, ev5n13, h⟩ := lt1_some h
      refine zJ_nmi ev5n13 ?_
      refine zJ_istore (ls' := [(5, .int v5n13), (0, .ref 49), (1, .ref 20), (2, .ref 3), (3, .int v3_5), (4, .int v4_5), (6, .int v6_51)]) dX5_explain_67 rfl rfl rfl ?_
      obtain ⟨v6n14, ev6n14, h⟩ := lt1_some h
      refine zJ_iincN (ls' := [(6, .int v6n14), (5, .int v5n13), (0, .ref 49), (1, .ref 20), (2, .ref 3), (3, .int v3_5), (4, .int v4_5)]) dX5_explain_69 rfl rfl zc_1 ev6n14 rfl rfl ?_
      refine zJ_goto (tgt := 51) dX5_explain_72 (by decide) ?_
      refine zJ_loc (ls' := [(0, .ref 49), (1, .ref 20), (2, .ref 3), (3, .int v3_5), (4, .int v4_5), (5, .int v5n13), (6, .int v6n14)]) (zll_c rfl (zll_c rfl (zll_c rfl (zll_c rfl (zll_c rfl (zll_c rfl (zll_c rfl zll_n))))))) ?_
      exact hrc51 _ _ _ h
set_option maxRecDepth 100000 in
set_option maxHeartbeats 4000000 in
theorem t_X11_parts (l : Launch) (σ : zS) {numbers_size : Int32} {rounds_size : Int32} {rounds_riders : (Nat → Int32)} {rounds_horses : (Nat → Int32)} {rounds_faults : (Nat → Int32)} {blame_trial : (Nat → Int32)} {blame_best : (Nat → Int32)} {numbers_told : (Nat → Int64)} {r : Int32} {w_numbers_size : Int32} {w_blame_trial : (Nat → Int32)} {w_blame_best : (Nat → Int32)} {w_numbers_told : (Nat → Int64)} (h : f_X11_parts numbers_size rounds_size rounds_riders rounds_horses rounds_faults blame_trial blame_best numbers_told = some (r, w_numbers_size, w_blame_trial, w_blame_best, w_numbers_told)) : zMt l zW 3 mX11_parts σ ([(193, numbers_size), (1284, rounds_size)], [(21, rounds_riders), (22, rounds_horses), (23, rounds_faults), (50, blame_trial), (51, blame_best)], [(4, numbers_told)]) [.ref 0] (some (.int r)) ([(193, w_numbers_size), (1284, rounds_size)], [(21, rounds_riders), (22, rounds_horses), (23, rounds_faults), (50, w_blame_trial), (51, w_blame_best)], [(4, w_numbers_told)]) := by
  refine zMt_of (ls := [(0, .ref 0)]) (by decide) rfl (fun _ => Nat.le_of_ble_eq_true rfl) rfl ?_
  unfold f_X11_parts at h
  refine zJ_aload_n dX11_parts_0 rfl rfl ?_
  refine zJ_getr (mi := mX11_parts) dX11_parts_1 F_X11_80 zW_0 rfl rfl ?_
  refine zJ_aload_n dX11_parts_4 rfl rfl ?_
  refine zJ_getr (mi := mX11_parts) dX11_parts_5 F_X11_33 zW_0 rfl rfl ?_
  refine zJ_aload_n dX11_parts_8 rfl rfl ?_
  refine zJ_getr (mi := mX11_parts) dX11_parts_9 F_X11_19 zW_0 rfl rfl ?_
  obtain ⟨rn1, numbers_sizen2, blame_trialn3, blame_bestn4, numbers_toldn5, hcl, h⟩ := bd5_some h
  refine zJ_callV2 (σ := σ) (L := ([(193, numbers_size), (1284, rounds_size)], [(21, rounds_riders), (22, rounds_horses), (23, rounds_faults), (50, blame_trial), (51, blame_best)], [(4, numbers_told)])) (mi := mX11_parts) (yi := mX5_explain) (as := [.ref 20, .ref 3]) (st := []) (L2 := ([(193, numbers_sizen2), (1284, rounds_size)], [(21, rounds_riders), (22, rounds_horses), (23, rounds_faults), (50, blame_trialn3), (51, blame_bestn4)], [(4, numbers_toldn5)])) dX11_parts_12 ML_X11_427 Yv_X5_explain rfl zW_49 rfl rfl (t_X5_explain l _ hcl) (zsub_i (zle_c rfl (zle_c rfl zle_n)) (zle_c rfl (zle_c rfl (zle_c rfl (zle_c rfl (zle_c rfl zle_n))))) (zle_c rfl zle_n)) (zjok_i rfl rfl (zle_c rfl (zle_c rfl zle_n)) rfl rfl (zle_c rfl (zle_c rfl (zle_c rfl (zle_c rfl (zle_c rfl zle_n))))) rfl rfl (zle_c rfl zle_n)) (Nat.le_of_ble_eq_true rfl) (Nat.le_of_ble_eq_true rfl) rfl rfl ?_
  obtain ⟨rfl, rfl, rfl, rfl, rfl⟩ := so5 h
  exact zJ_iret dX11_parts_15 rfl rfl
