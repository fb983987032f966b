set_option maxRecDepth 100000 in
set_option maxHeartbeats 4000000 in
theorem t_X11_perform (l : Launch) (σ : zS) {course_fences : Int32} {course_horseCount : Int32} {course_planCount : Int32} {course_allowed : Int32} {course_rule_size : Int32} {rounds_size : Int32} {drawn_state : Int32} {drawn_faults : Int32} {drawn_tenths : Int32} {drawn_refused : Int32} {drawn_fallen : Int32} {act_kind : Int32} {act_rider : Int32} {act_horse : Int32} {act_third : Int32} {act_fourth : Int32} {course_kinds : (Nat → Int32)} {course_heights : (Nat → Int32)} {course_feet : (Nat → Int32)} {course_digits : (Nat → Int32)} {course_plans : (Nat → Int32)} {rule_codes : (Nat → Int32)} {rule_stack : (Nat → Int32)} {rule_things : (Nat → Int32)} {rounds_riders : (Nat → Int32)} {rounds_horses : (Nat → Int32)} {rounds_faults : (Nat → Int32)} {rounds_tenths : (Nat → Int32)} {r : Int32} {w_rounds_size : Int32} {w_drawn_state : Int32} {w_drawn_faults : Int32} {w_drawn_tenths : Int32} {w_drawn_refused : Int32} {w_drawn_fallen : Int32} {w_rule_stack : (Nat → Int32)} {w_rule_things : (Nat → Int32)} {w_rounds_riders : (Nat → Int32)} {w_rounds_horses : (Nat → Int32)} {w_rounds_faults : (Nat → Int32)} {w_rounds_tenths : (Nat → Int32)} (h : f_X11_perform course_fences course_horseCount course_planCount course_allowed course_rule_size rounds_size drawn_state drawn_faults drawn_tenths drawn_refused drawn_fallen act_kind act_rider act_horse act_third act_fourth course_kinds course_heights course_feet course_digits course_plans rule_codes rule_stack rule_things rounds_riders rounds_horses rounds_faults rounds_tenths = some (r, w_rounds_size, w_drawn_state, w_drawn_faults, w_drawn_tenths, w_drawn_refused, w_drawn_fallen, w_rule_stack, w_rule_things, w_rounds_riders, w_rounds_horses, w_rounds_faults, w_rounds_tenths)) : zMt l zW 6 mX11_perform σ ([(323, course_fences), (326, course_horseCount), (328, course_planCount), (329, course_allowed), (769, course_rule_size), (1284, rounds_size), (2112, drawn_state), (2113, drawn_faults), (2114, drawn_tenths), (2115, drawn_refused), (2116, drawn_fallen), (3072, act_kind), (3073, act_rider), (3074, act_horse), (3075, act_third), (3076, act_fourth)], [(6, course_kinds), (7, course_heights), (8, course_feet), (10, course_digits), (11, course_plans), (13, rule_codes), (15, rule_stack), (16, rule_things), (21, rounds_riders), (22, rounds_horses), (23, rounds_faults), (24, rounds_tenths)], []) [.ref 0] (some (.int r)) ([(323, course_fences), (326, course_horseCount), (328, course_planCount), (329, course_allowed), (769, course_rule_size), (1284, w_rounds_size), (2112, w_drawn_state), (2113, w_drawn_faults), (2114, w_drawn_tenths), (2115, w_drawn_refused), (2116, w_drawn_fallen), (3072, act_kind), (3073, act_rider), (3074, act_horse), (3075, act_third), (3076, act_fourth)], [(6, course_kinds), (7, course_heights), (8, course_feet), (10, course_digits), (11, course_plans), (13, rule_codes), (15, w_rule_stack), (16, w_rule_things), (21, w_rounds_riders), (22, w_rounds_horses), (23, w_rounds_faults), (24, w_rounds_tenths)], []) := by
  refine zMt_of (ls := [(0, .ref 0)]) (by decide) rfl (fun _ => Nat.le_of_ble_eq_true rfl) rfl ?_
  unfold f_X11_perform at h
  refine zJ_aload_n dX11_perform_0 rfl rfl ?_
  refine zJ_getr (mi := mX11_perform) dX11_perform_1 F_X11_73 zW_0 rfl rfl ?_
  refine zJ_geti (mi := mX11_perform) (x := act_kind) dX11_perform_4 F_X11_306 zW_48 rfl rfl rfl ?_
  refine zJ_bipush dX11_perform_7 zb_114 rfl ?_
  refine zJ_icmp_ne (tgt := 53) dX11_perform_9 (by decide) rfl (fun hc => ?_) (fun hc => ?_)
  · replace h := it_f hc h
    refine zJ_aload_n dX11_perform_53 rfl rfl ?_
    refine zJ_getr (mi := mX11_perform) dX11_perform_54 F_X11_73 zW_0 rfl rfl ?_
    refine zJ_geti (mi := mX11_perform) (x := act_kind) dX11_perform_57 F_X11_306 zW_48 rfl rfl rfl ?_
    refine zJ_bipush dX11_perform_60 zb_116 rfl ?_
    refine zJ_icmp_ne (tgt := 106) dX11_perform_62 (by decide) rfl (fun hc => ?_) (fun hc => ?_)
    · replace h := it_f hc h
      refine zJ_aload_n dX11_perform_106 rfl rfl ?_
      refine zJ_getr (mi := mX11_perform) dX11_perform_107 F_X11_33 zW_0 rfl rfl ?_
      obtain ⟨rn1, rounds_sizen2, hcl, h⟩ := bd2_some h
      refine zJ_callV2 (σ := σ) (L := ([(323, course_fences), (326, course_horseCount), (328, course_planCount), (329, course_allowed), (769, course_rule_size), (1284, rounds_size), (2112, drawn_state), (2113, drawn_faults), (2114, drawn_tenths), (2115, drawn_refused), (2116, drawn_fallen), (3072, act_kind), (3073, act_rider), (3074, act_horse), (3075, act_third), (3076, act_fourth)], [(6, course_kinds), (7, course_heights), (8, course_feet), (10, course_digits), (11, course_plans), (13, rule_codes), (15, rule_stack), (16, rule_things), (21, rounds_riders), (22, rounds_horses), (23, rounds_faults), (24, rounds_tenths)], [])) (mi := mX11_perform) (yi := mX10_strike) (as := []) (st := []) (L2 := ([(323, course_fences), (326, course_horseCount), (328, course_planCount), (329, course_allowed), (769, course_rule_size), (1284, rounds_sizen2), (2112, drawn_state), (2113, drawn_faults), (2114, drawn_tenths), (2115, drawn_refused), (2116, drawn_fallen), (3072, act_kind), (3073, act_rider), (3074, act_horse), (3075, act_third), (3076, act_fourth)], [(6, course_kinds), (7, course_heights), (8, course_feet), (10, course_digits), (11, course_plans), (13, rule_codes), (15, rule_stack), (16, rule_things), (21, rounds_riders), (22, rounds_horses), (23, rounds_faults), (24, rounds_tenths)], [])) dX11_perform_110 ML_X11_322 Yv_X10_strike rfl zW_20 rfl rfl (t_X10_strike l _ hcl) (zsub_i (zle_c rfl zle_n) zle_n zle_n) (zjok_i rfl rfl (zle_c rfl (zle_c rfl (zle_c rfl (zle_c rfl (zle_c rfl (zle_c rfl (zle_c rfl (zle_c rfl (zle_c rfl (zle_c rfl (zle_c rfl (zle_c rfl (zle_c rfl (zle_c rfl (zle_c rfl (zle_c rfl zle_n)))))))))))))))) rfl rfl (zle_c rfl (zle_c rfl (zle_c rfl (zle_c rfl (zle_c rfl (zle_c rfl (zle_c rfl (zle_c rfl (zle_c rfl (zle_c rfl (zle_c rfl (zle_c rfl zle_n)))))))))))) rfl rfl zle_n) (Nat.le_of_ble_eq_true rfl) (Nat.le_of_ble_eq_true rfl) rfl rfl ?_
      obtain ⟨hg, h⟩ := gd_some h
      obtain ⟨rfl, rfl, rfl, rfl, rfl, rfl, rfl, rfl, rfl, rfl, rfl, rfl, rfl⟩ := so13 h
      exact zJ_iret dX11_perform_113 rfl (bit_n hg)
    · replace h := it_t hc h
      refine zJ_aload_n dX11_perform_65 rfl rfl ?_
      refine zJ_aload_n dX11_perform_66 rfl rfl ?_
      refine zJ_getr (mi := mX11_perform) dX11_perform_67 F_X11_73 zW_0 rfl rfl ?_
      refine zJ_geti (mi := mX11_perform) (x := act_rider) dX11_perform_70 F_X11_310 zW_48 rfl rfl rfl ?_
      refine zJ_aload_n dX11_perform_73 rfl rfl ?_
      refine zJ_getr (mi := mX11_perform) dX11_perform_74 F_X11_73 zW_0 rfl rfl ?_
      refine zJ_geti (mi := mX11_perform) (x := act_horse) dX11_perform_77 F_X11_313 zW_48 rfl rfl rfl ?_
      refine zJ_aload_n dX11_perform_80 rfl rfl ?_
      refine zJ_getr (mi := mX11_perform) dX11_perform_81 F_X11_73 zW_0 rfl rfl ?_
      refine zJ_geti (mi := mX11_perform) (x := act_third) dX11_perform_84 F_X11_316 zW_48 rfl rfl rfl ?_
      refine zJ_aload_n dX11_perform_87 rfl rfl ?_
      refine zJ_getr (mi := mX11_perform) dX11_perform_88 F_X11_73 zW_0 rfl rfl ?_
      refine zJ_geti (mi := mX11_perform) (x := act_fourth) dX11_perform_91 F_X11_319 zW_48 rfl rfl rfl ?_
      obtain ⟨rn3, rounds_sizen4, rounds_ridersn5, rounds_horsesn6, rounds_faultsn7, rounds_tenthsn8, hcl, h⟩ := bd6_some h
      refine zJ_callV2 (σ := σ) (L := ([(323, course_fences), (326, course_horseCount), (328, course_planCount), (329, course_allowed), (769, course_rule_size), (1284, rounds_size), (2112, drawn_state), (2113, drawn_faults), (2114, drawn_tenths), (2115, drawn_refused), (2116, drawn_fallen), (3072, act_kind), (3073, act_rider), (3074, act_horse), (3075, act_third), (3076, act_fourth)], [(6, course_kinds), (7, course_heights), (8, course_feet), (10, course_digits), (11, course_plans), (13, rule_codes), (15, rule_stack), (16, rule_things), (21, rounds_riders), (22, rounds_horses), (23, rounds_faults), (24, rounds_tenths)], [])) (mi := mX11_perform) (yi := mX11_addTold) (as := [.int act_rider, .int act_horse, .int act_third, .int act_fourth]) (st := []) (L2 := ([(323, course_fences), (326, course_horseCount), (328, course_planCount), (329, course_allowed), (769, course_rule_size), (1284, rounds_sizen4), (2112, drawn_state), (2113, drawn_faults), (2114, drawn_tenths), (2115, drawn_refused), (2116, drawn_fallen), (3072, act_kind), (3073, act_rider), (3074, act_horse), (3075, act_third), (3076, act_fourth)], [(6, course_kinds), (7, course_heights), (8, course_feet), (10, course_digits), (11, course_plans), (13, rule_codes), (15, rule_stack), (16, rule_things), (21, rounds_ridersn5), (22, rounds_horsesn6), (23, rounds_faultsn7), (24, rounds_tenthsn8)], [])) dX11_perform_94 ML_X11_257 Yv_X11_addTold rfl zW_0 rfl rfl (t_X11_addTold l _ hcl) (zsub_i (zle_c rfl (zle_c rfl zle_n)) (zle_c rfl (zle_c rfl (zle_c rfl (zle_c rfl zle_n)))) zle_n) (zjok_i rfl rfl (zle_c rfl (zle_c rfl (zle_c rfl (zle_c rfl (zle_c rfl (zle_c rfl (zle_c rfl (zle_c rfl (zle_c rfl (zle_c rfl (zle_c rfl (zle_c rfl (zle_c rfl (zle_c rfl (zle_c rfl (zle_c rfl zle_n)))))))))))))))) rfl rfl (zle_c rfl (zle_c rfl (zle_c rfl (zle_c rfl (zle_c rfl (zle_c rfl (zle_c rfl (zle_c rfl (zle_c rfl (zle_c rfl (zle_c rfl (zle_c rfl zle_n)))))))))))) rfl rfl zle_n) (Nat.le_of_ble_eq_true rfl) (Nat.le_of_ble_eq_true rfl) rfl rfl ?_
      refine zJ_if_lt (tgt := 104) dX11_perform_97 (by decide) rfl (fun hc => ?_) (fun hc => ?_)
      · replace h := it_t hc h
        refine zJ_iconst dX11_perform_104 zc_0 rfl ?_
        obtain ⟨rfl, rfl, rfl, rfl, rfl, rfl, rfl, rfl, rfl, rfl, rfl, rfl, rfl⟩ := so13 h
        exact zJ_iret dX11_perform_105 rfl (by decide)
      · replace h := it_f hc h
        refine zJ_iconst dX11_perform_100 zc_1 rfl ?_
        refine zJ_goto (tgt := 105) dX11_perform_101 (by decide) ?_
        obtain ⟨rfl, rfl, rfl, rfl, rfl, rfl, rfl, rfl, rfl, rfl, rfl, rfl, rfl⟩ := so13 h
        exact zJ_iret dX11_perform_105 rfl (by decide)
  · replace h := it_t hc h
    refine zJ_aload_n dX11_perform_12 rfl rfl ?_
    refine zJ_aload_n dX11_perform_13 rfl rfl ?_
    refine zJ_getr (mi := mX11_perform) dX11_perform_14 F_X11_73 zW_0 rfl rfl ?_
    refine zJ_geti (mi := mX11_perform) (x := act_rider) dX11_perform_17 F_X11_310 zW_48 rfl rfl rfl ?_
    refine zJ_aload_n dX11_perform_20 rfl rfl ?_
    refine zJ_getr (mi := mX11_perform) dX11_perform_21 F_X11_73 zW_0 rfl rfl ?_
    refine zJ_geti (mi := mX11_perform) (x := act_horse) dX11_perform_24 F_X11_313 zW_48 rfl rfl rfl ?_
    refine zJ_aload_n dX11_perform_27 rfl rfl ?_
    refine zJ_getr (mi := mX11_perform) dX11_perform_28 F_X11_73 zW_0 rfl rfl ?_
    refine zJ_geti (mi := mX11_perform) (x := act_third) dX11_perform_31 F_X11_316 zW_48 rfl rfl rfl ?_
    refine zJ_aload_n dX11_perform_34 rfl rfl ?_
    refine zJ_getr (mi := mX11_perform) dX11_perform_35 F_X11_73 zW_0 rfl rfl ?_
    refine zJ_geti (mi := mX11_perform) (x := act_fourth) dX11_perform_38 F_X11_319 zW_48 rfl rfl rfl ?_
    obtain ⟨rn9, rounds_sizen10, drawn_staten11, drawn_faultsn12, drawn_tenthsn13, drawn_refusedn14, drawn_fallenn15, rule_stackn16, rule_thingsn17, rounds_ridersn18, rounds_horsesn19, rounds_faultsn20, rounds_tenthsn21, hcl, h⟩ := bd13_some h
    refine zJ_callV2 (σ := σ) (L := ([(323, course_fences), (326, course_horseCount), (328, course_planCount), (329, course_allowed), (769, course_rule_size), (1284, rounds_size), (2112, drawn_state), (2113, drawn_faults), (2114, drawn_tenths), (2115, drawn_refused), (2116, drawn_fallen), (3072, act_kind), (3073, act_rider), (3074, act_horse), (3075, act_third), (3076, act_fourth)], [(6, course_kinds), (7, course_heights), (8, course_feet), (10, course_digits), (11, course_plans), (13, rule_codes), (15, rule_stack), (16, rule_things), (21, rounds_riders), (22, rounds_horses), (23, rounds_faults), (24, rounds_tenths)], [])) (mi := mX11_perform) (yi := mX11_addRide) (as := [.int act_rider, .int act_horse, .int act_third, .int act_fourth]) (st := []) (L2 := ([(323, course_fences), (326, course_horseCount), (328, course_planCount), (329, course_allowed), (769, course_rule_size), (1284, rounds_sizen10), (2112, drawn_staten11), (2113, drawn_faultsn12), (2114, drawn_tenthsn13), (2115, drawn_refusedn14), (2116, drawn_fallenn15), (3072, act_kind), (3073, act_rider), (3074, act_horse), (3075, act_third), (3076, act_fourth)], [(6, course_kinds), (7, course_heights), (8, course_feet), (10, course_digits), (11, course_plans), (13, rule_codes), (15, rule_stackn16), (16, rule_thingsn17), (21, rounds_ridersn18), (22, rounds_horsesn19), (23, rounds_faultsn20), (24, rounds_tenthsn21)], [])) dX11_perform_41 ML_X11_240 Yv_X11_addRide rfl zW_0 rfl rfl (t_X11_addRide l _ hcl) (zsub_i (zle_c rfl (zle_c rfl (zle_c rfl (zle_c rfl (zle_c rfl (zle_c rfl (zle_c rfl (zle_c rfl (zle_c rfl (zle_c rfl (zle_c rfl zle_n))))))))))) (zle_c rfl (zle_c rfl (zle_c rfl (zle_c rfl (zle_c rfl (zle_c rfl (zle_c rfl (zle_c rfl (zle_c rfl (zle_c rfl (zle_c rfl (zle_c rfl zle_n)))))))))))) zle_n) (zjok_i rfl rfl (zle_c rfl (zle_c rfl (zle_c rfl (zle_c rfl (zle_c rfl (zle_c rfl (zle_c rfl (zle_c rfl (zle_c rfl (zle_c rfl (zle_c rfl (zle_c rfl (zle_c rfl (zle_c rfl (zle_c rfl (zle_c rfl zle_n)))))))))))))))) rfl rfl (zle_c rfl (zle_c rfl (zle_c rfl (zle_c rfl (zle_c rfl (zle_c rfl (zle_c rfl (zle_c rfl (zle_c rfl (zle_c rfl (zle_c rfl (zle_c rfl zle_n)))))))))))) rfl rfl zle_n) (Nat.le_of_ble_eq_true rfl) (Nat.le_of_ble_eq_true rfl) rfl rfl ?_
    refine zJ_if_lt (tgt := 51) dX11_perform_44 (by decide) rfl (fun hc => ?_) (fun hc => ?_)
    · replace h := it_t hc h
      refine zJ_iconst dX11_perform_51 zc_0 rfl ?_
      obtain ⟨rfl, rfl, rfl, rfl, rfl, rfl, rfl, rfl, rfl, rfl, rfl, rfl, rfl⟩ := so13 h
      exact zJ_iret dX11_perform_52 rfl (by decide)
    · replace h := it_f hc h
      refine zJ_iconst dX11_perform_47 zc_1 rfl ?_
      refine zJ_goto (tgt := 52) dX11_perform_48 (by decide) ?_
      obtain ⟨rfl, rfl, rfl, rfl, rfl, rfl, rfl, rfl, rfl, rfl, rfl, rfl, rfl⟩ := so13 h
      exact zJ_iret dX11_perform_52 rfl (by decide)
set_option maxRecDepth 100000 in
set_option maxHeartbeats 4000000 in
theorem t_X11_place (l : Launch) (σ : zS) {p1 : Int32} {p2 : Int32} {numbers_size : Int32} {rounds_size : Int32} {rounds_faults : (Nat → Int32)} {rounds_tenths : (Nat → Int32)} {rounds_money : (Nat → Int32)} {numbers_told : (Nat → Int64)} {r : Int32} {w_numbers_size : Int32} {w_numbers_told : (Nat → Int64)} (h : f_X11_place p1 p2 numbers_size rounds_size rounds_faults rounds_tenths rounds_money numbers_told = some (r, w_numbers_size, w_numbers_told)) : zMt l zW 1 mX11_place σ ([(193, numbers_size), (1284, rounds_size)], [(23, rounds_faults), (24, rounds_tenths), (25, rounds_money)], [(4, numbers_told)]) [.ref 0, .int p1, .int p2] (some (.int r)) ([(193, w_numbers_size), (1284, rounds_size)], [(23, rounds_faults), (24, rounds_tenths), (25, rounds_money)], [(4, w_numbers_told)]) := by
  refine zMt_of (ls := [(0, .ref 0), (1, .int p1), (2, .int p2)]) (by decide) rfl (fun _ => Nat.le_of_ble_eq_true rfl) rfl ?_
  unfold f_X11_place at h
  refine zJ_iload_n dX11_place_0 rfl rfl ?_
  refine zJ_iload_n dX11_place_1 rfl rfl ?_
  obtain ⟨rn1, hcl, h⟩ := bd1_some h
  refine zJ_callS2 (σ := σ) (L := ([(193, numbers_size), (1284, rounds_size)], [(23, rounds_faults), (24, rounds_tenths), (25, rounds_money)], [(4, numbers_told)])) (mi := mX11_place) (yi := mX11_isResult) (as := [.int p1, .int p2]) (st := []) (L2 := ([(193, numbers_size), (1284, rounds_size)], [(23, rounds_faults), (24, rounds_tenths), (25, rounds_money)], [(4, numbers_told)])) dX11_place_2 ML_X11_273 Ys_X11_isResult rfl (t_X11_isResult l _ hcl) (zsub_i zle_n zle_n zle_n) (zjok_i rfl rfl (zle_c rfl (zle_c rfl zle_n)) rfl rfl (zle_c rfl (zle_c rfl (zle_c rfl zle_n))) rfl rfl (zle_c rfl zle_n)) (Nat.le_of_ble_eq_true rfl) (Nat.le_of_ble_eq_true rfl) rfl rfl ?_
  refine zJ_if_ne (tgt := 10) dX11_place_5 (by decide) rfl (fun hc => ?_) (fun hc => ?_)
  · replace h := it_f hc h
    refine zJ_aload_n dX11_place_10 rfl rfl ?_
    refine zJ_getr (mi := mX11_place) dX11_place_11 F_X11_33 zW_0 rfl rfl ?_
    refine zJ_iload_n dX11_place_14 rfl rfl ?_
    refine zJ_iload_n dX11_place_15 rfl rfl ?_
    obtain ⟨rn2, hcl, h⟩ := bd1_some h
    refine zJ_callV2 (σ := σ) (L := ([(193, numbers_size), (1284, rounds_size)], [(23, rounds_faults), (24, rounds_tenths), (25, rounds_money)], [(4, numbers_told)])) (mi := mX11_place) (yi := mX10_placeFor) (as := [.int p1, .int p2]) (st := []) (L2 := ([(193, numbers_size), (1284, rounds_size)], [(23, rounds_faults), (24, rounds_tenths), (25, rounds_money)], [(4, numbers_told)])) dX11_place_16 ML_X11_350 Yv_X10_placeFor rfl zW_20 rfl rfl (t_X10_placeFor l _ hcl) (zsub_i (zle_c rfl zle_n) (zle_c rfl (zle_c rfl zle_n)) zle_n) (zjok_i rfl rfl (zle_c rfl (zle_c rfl zle_n)) rfl rfl (zle_c rfl (zle_c rfl (zle_c rfl zle_n))) rfl rfl (zle_c rfl zle_n)) (Nat.le_of_ble_eq_true rfl) (Nat.le_of_ble_eq_true rfl) rfl rfl ?_
    refine zJ_istore_n (ls' := [(3, .int rn2), (0, .ref 0), (1, .int p1), (2, .int p2)]) dX11_place_19 rfl rfl rfl ?_
    refine zJ_aload_n dX11_place_20 rfl rfl ?_
    refine zJ_getr (mi := mX11_place) dX11_place_21 F_X11_19 zW_0 rfl rfl ?_
    obtain ⟨numbers_sizen3, hcl, h⟩ := bd1_some h
    refine zJ_callV2 (σ := σ) (L := ([(193, numbers_size), (1284, rounds_size)], [(23, rounds_faults), (24, rounds_tenths), (25, rounds_money)], [(4, numbers_told)])) (mi := mX11_place) (yi := mX6_start) (as := []) (st := []) (L2 := ([(193, numbers_sizen3), (1284, rounds_size)], [(23, rounds_faults), (24, rounds_tenths), (25, rounds_money)], [(4, numbers_told)])) dX11_place_24 ML_X11_171 Yv_X6_start rfl zW_3 rfl rfl (t_X6_start l _ hcl) (zsub_i (zle_c rfl zle_n) zle_n zle_n) (zjok_i rfl rfl (zle_c rfl (zle_c rfl zle_n)) rfl rfl (zle_c rfl (zle_c rfl (zle_c rfl zle_n))) rfl rfl (zle_c rfl zle_n)) (Nat.le_of_ble_eq_true rfl) (Nat.le_of_ble_eq_true rfl) rfl rfl ?_
    refine zJ_aload_n dX11_place_27 rfl rfl ?_
    refine zJ_getr (mi := mX11_place) dX11_place_28 F_X11_19 zW_0 rfl rfl ?_
    refine zJ_aload_n dX11_place_31 rfl rfl ?_
    refine zJ_getr (mi := mX11_place) dX11_place_32 F_X11_33 zW_0 rfl rfl ?_
    refine zJ_iload_n dX11_place_35 rfl rfl ?_
    obtain ⟨rn4, hcl, h⟩ := bd1_some h
    refine zJ_callV2 (σ := σ) (L := ([(193, numbers_sizen3), (1284, rounds_size)], [(23, rounds_faults), (24, rounds_tenths), (25, rounds_money)], [(4, numbers_told)])) (mi := mX11_place) (yi := mX10_moneyAt) (as := [.int rn2]) (st := [.ref 3]) (L2 := ([(193, numbers_sizen3), (1284, rounds_size)], [(23, rounds_faults), (24, rounds_tenths), (25, rounds_money)], [(4, numbers_told)])) dX11_place_36 ML_X11_343 Yv_X10_moneyAt rfl zW_20 rfl rfl (t_X10_moneyAt l _ hcl) (zsub_i zle_n (zle_c rfl zle_n) zle_n) (zjok_i rfl rfl (zle_c rfl (zle_c rfl zle_n)) rfl rfl (zle_c rfl (zle_c rfl (zle_c rfl zle_n))) rfl rfl (zle_c rfl zle_n)) (Nat.le_of_ble_eq_true rfl) (Nat.le_of_ble_eq_true rfl) rfl rfl ?_
    refine zJ_i2l dX11_place_39 rfl ?_
    obtain ⟨numbers_sizen5, numbers_toldn6, hcl, h⟩ := bd2_some h
    refine zJ_callV2 (σ := σ) (L := ([(193, numbers_sizen3), (1284, rounds_size)], [(23, rounds_faults), (24, rounds_tenths), (25, rounds_money)], [(4, numbers_told)])) (mi := mX11_place) (yi := mX6_put) (as := [.long rn4.toInt64]) (st := []) (L2 := ([(193, numbers_sizen5), (1284, rounds_size)], [(23, rounds_faults), (24, rounds_tenths), (25, rounds_money)], [(4, numbers_toldn6)])) dX11_place_40 ML_X11_177 Yv_X6_put rfl zW_3 rfl rfl (t_X6_put l _ hcl) (zsub_i (zle_c rfl zle_n) zle_n (zle_c rfl zle_n)) (zjok_i rfl rfl (zle_c rfl (zle_c rfl zle_n)) rfl rfl (zle_c rfl (zle_c rfl (zle_c rfl zle_n))) rfl rfl (zle_c rfl zle_n)) (Nat.le_of_ble_eq_true rfl) (Nat.le_of_ble_eq_true rfl) rfl rfl ?_
    refine zJ_iload_n dX11_place_43 rfl rfl ?_
    obtain ⟨rfl, rfl, rfl⟩ := so3 h
    exact zJ_iret dX11_place_44 rfl rfl
  · replace h := it_t hc h
    refine zJ_iconst dX11_place_8 zc_m1 rfl ?_
    obtain ⟨rfl, rfl, rfl⟩ := so3 h
    exact zJ_iret dX11_place_9 rfl rfl
set_option maxRecDepth 100000 in
set_option maxHeartbeats 4000000 in
theorem t_X9_oneOf (l : Launch) (σ : zS) {p1 : Nat} {text_limit : Int32} {text_at : Int32} {text_signs : (Nat → Int32)} {r : Int32} {w_text_at : Int32} (h : f_X9_oneOf p1 text_limit text_at text_signs = some (r, w_text_at)) : zMt l zW 8 mX9_oneOf σ ([(66, text_limit), (67, text_at)], [(2, text_signs)], []) [.ref 1, .ref p1] (some (.int r)) ([(66, text_limit), (67, w_text_at)], [(2, text_signs)], []) := by
  refine zMt_of (ls := [(0, .ref 1), (1, .ref p1)]) (by decide) rfl (fun _ => Nat.le_of_ble_eq_true rfl) rfl ?_
  unfold f_X9_oneOf at h
  refine zJ_aload_n dX9_oneOf_0 rfl rfl ?_
  refine zJ_geti (mi := mX9_oneOf) (x := text_at) dX9_oneOf_1 F_X9_19 zW_1 rfl rfl rfl ?_
  refine zJ_aload_n dX9_oneOf_4 rfl rfl ?_
  refine zJ_geti (mi := mX9_oneOf) (x := text_limit) dX9_oneOf_5 F_X9_28 zW_1 rfl rfl rfl ?_
  refine zJ_icmp_ge (tgt := 27) dX9_oneOf_8 (by decide) rfl (fun hc => ?_) (fun hc => ?_)
  · replace h := it_t hc h
    refine zJ_iconst dX9_oneOf_27 zc_m1 rfl ?_
    refine zJ_istore_n (ls' := [(2, .int (-1 : Int32)), (0, .ref 1), (1, .ref p1)]) dX9_oneOf_28 rfl rfl rfl ?_
    refine zJ_iload_n dX9_oneOf_29 rfl rfl ?_
    refine zJ_if_lt (tgt := 43) dX9_oneOf_30 (by decide) rfl (fun hc => ?_) (fun hc => ?_)
    · refine zJ_iload_n dX9_oneOf_43 rfl rfl ?_
      obtain ⟨rfl, rfl⟩ := so2 h
      exact zJ_iret dX9_oneOf_44 rfl rfl
    · exact absurd hc (by decide)
  · replace h := it_f hc h
    refine zJ_aload_n dX9_oneOf_11 rfl rfl ?_
    refine zJ_aload_n dX9_oneOf_12 rfl rfl ?_
    refine zJ_getr (mi := mX9_oneOf) dX9_oneOf_13 F_X9_9 zW_1 rfl rfl ?_
    refine zJ_aload_n dX9_oneOf_16 rfl rfl ?_
    refine zJ_geti (mi := mX9_oneOf) (x := text_at) dX9_oneOf_17 F_X9_19 zW_1 rfl rfl rfl ?_
    obtain ⟨hg, h⟩ := gd_some h
    refine zJ_cald (mi := mX9_oneOf) (f := text_signs) dX9_oneOf_20 zW_2 (ix_in hg) rfl rfl ?_
    obtain ⟨hg, h⟩ := gd_some h
    refine zJ_sidx (mi := mX9_oneOf) dX9_oneOf_21 L_X9_31 (sok_s hg) (Nat.le_of_ble_eq_true rfl) (Nat.le_of_ble_eq_true rfl) rfl ?_
    refine zJ_goto (tgt := 28) dX9_oneOf_24 (by decide) ?_
    obtain ⟨v2n1, ev2n1, h⟩ := lt1_some h
    refine zJ_nmi ev2n1 ?_
    refine zJ_istore_n (ls' := [(2, .int v2n1), (0, .ref 1), (1, .ref p1)]) dX9_oneOf_28 rfl rfl rfl ?_
    refine zJ_iload_n dX9_oneOf_29 rfl rfl ?_
    refine zJ_if_lt (tgt := 43) dX9_oneOf_30 (by decide) rfl (fun hc => ?_) (fun hc => ?_)
    · replace h := it_t hc h
      refine zJ_iload_n dX9_oneOf_43 rfl rfl ?_
      obtain ⟨rfl, rfl⟩ := so2 h
      exact zJ_iret dX9_oneOf_44 rfl rfl
    · replace h := it_f hc h
      refine zJ_aload_n dX9_oneOf_33 rfl rfl ?_
      refine zJ_dup dX9_oneOf_34 rfl rfl ?_
      refine zJ_geti (mi := mX9_oneOf) (x := text_at) dX9_oneOf_35 F_X9_19 zW_1 rfl rfl rfl ?_
      refine zJ_iconst dX9_oneOf_38 zc_1 rfl ?_
      refine zJ_iadd dX9_oneOf_39 rfl ?_
      refine zK_puti (mi := mX9_oneOf) (la' := [(66, text_limit), (67, (text_at + (1 : Int32)))]) zW_ok dX9_oneOf_40 F_X9_19 P_9_3 zW_1 rfl rfl rfl ?_
      refine zJ_iload_n dX9_oneOf_43 rfl rfl ?_
      obtain ⟨rfl, rfl⟩ := so2 h
      exact zJ_iret dX9_oneOf_44 rfl rfl
set_option maxRecDepth 100000 in
set_option maxHeartbeats 4000000 in
theorem t_X1_readPlan (l : Launch) (σ : zS) {text_size : Int32} {text_limit : Int32} {text_at : Int32} {course_fences : Int32} {course_planCount : Int32} {text_signs : (Nat → Int32)} {course_plans : (Nat → Int32)} {r : Int32} {w_text_limit : Int32} {w_text_at : Int32} {w_course_planCount : Int32} {w_course_plans : (Nat → Int32)} (h : f_X1_readPlan text_size text_limit text_at course_fences course_planCount text_signs course_plans = some (r, w_text_limit, w_text_at, w_course_planCount, w_course_plans)) : zMt l zW 9 mX1_readPlan σ ([(65, text_size), (66, text_limit), (67, text_at), (323, course_fences), (328, course_planCount)], [(2, text_signs), (11, course_plans)], []) [.ref 5, .ref 1] (some (.int r)) ([(65, text_size), (66, w_text_limit), (67, w_text_at), (323, course_fences), (328, w_course_planCount)], [(2, text_signs), (11, w_course_plans)], []) := by
  refine zMt_of (ls := [(0, .ref 5), (1, .ref 1)]) (by decide) rfl (fun _ => Nat.le_of_ble_eq_true rfl) rfl ?_
  unfold f_X1_readPlan at h
  refine zJ_aload_n dX1_readPlan_0 rfl rfl ?_
  refine zJ_geti (mi := mX1_readPlan) (x := course_planCount) dX1_readPlan_1 F_X1_56 zW_5 rfl rfl rfl ?_
  refine zJ_bipush dX1_readPlan_4 zb_6 rfl ?_
  refine zJ_icmp_lt (tgt := 12) dX1_readPlan_6 (by decide) rfl (fun hc => ?_) (fun hc => ?_)
  · replace h := it_t hc h
    refine zJ_aload_n dX1_readPlan_12 rfl rfl ?_
    refine zJ_bipush dX1_readPlan_13 zb_80 rfl ?_
    obtain ⟨text_limitn1, text_atn2, hcl, h⟩ := bd2_some h
    refine zJ_callV2 (σ := σ) (L := ([(65, text_size), (66, text_limit), (67, text_at), (323, course_fences), (328, course_planCount)], [(2, text_signs), (11, course_plans)], [])) (mi := mX1_readPlan) (yi := mX9_open) (as := [.int (80 : Int32)]) (st := []) (L2 := ([(65, text_size), (66, text_limitn1), (67, text_atn2), (323, course_fences), (328, course_planCount)], [(2, text_signs), (11, course_plans)], [])) dX1_readPlan_15 ML_X1_59 Yv_X9_open rfl zW_1 rfl rfl (t_X9_open l _ hcl) (zsub_i (zle_c rfl (zle_c rfl (zle_c rfl zle_n))) zle_n zle_n) (zjok_i rfl rfl (zle_c rfl (zle_c rfl (zle_c rfl (zle_c rfl (zle_c rfl zle_n))))) rfl rfl (zle_c rfl (zle_c rfl zle_n)) rfl rfl zle_n) (Nat.le_of_ble_eq_true rfl) (Nat.le_of_ble_eq_true rfl) rfl rfl ?_
    refine zJ_iconst dX1_readPlan_18 zc_0 rfl ?_
    refine zJ_istore_n (ls' := [(2, .int (0 : Int32)), (0, .ref 5), (1, .ref 1)]) dX1_readPlan_19 rfl rfl rfl ?_
    have hk20 : ∀ (text_at_20x : Int32) (course_plans_20x : (Nat → Int32)), k_X1_readPlan_20 text_size course_planCount text_limitn1 text_at_20x course_plans_20x = some (r, w_text_limit, w_text_at, w_course_planCount, w_course_plans) → zJ l zW 9 mX1_readPlan σ ([(65, text_size), (66, text_limitn1), (67, text_at_20x), (323, course_fences), (328, course_planCount)], [(2, text_signs), (11, course_plans_20x)], []) 65 [(0, .ref 5), (1, .ref 1)] [] (some (.int r)) ([(65, text_size), (66, w_text_limit), (67, w_text_at), (323, course_fences), (328, w_course_planCount)], [(2, text_signs), (11, w_course_plans)], []) := by
      intro text_at_20x course_plans_20x h
      unfold k_X1_readPlan_20 at h
      refine zJ_aload_n dX1_readPlan_65 rfl rfl ?_
      obtain ⟨rn3, hcl, h⟩ := bd1_some h
      refine zJ_callV2 (σ := σ) (L := ([(65, text_size), (66, text_limitn1), (67, text_at_20x), (323, course_fences), (328, course_planCount)], [(2, text_signs), (11, course_plans_20x)], [])) (mi := mX1_readPlan) (yi := mX9_isDone) (as := []) (st := []) (L2 := ([(65, text_size), (66, text_limitn1), (67, text_at_20x), (323, course_fences), (328, course_planCount)], [(2, text_signs), (11, course_plans_20x)], [])) dX1_readPlan_66 ML_X1_73 Yv_X9_isDone rfl zW_1 rfl rfl (t_X9_isDone l _ hcl) (zsub_i (zle_c rfl (zle_c rfl zle_n)) zle_n zle_n) (zjok_i rfl rfl (zle_c rfl (zle_c rfl (zle_c rfl (zle_c rfl (zle_c rfl zle_n))))) rfl rfl (zle_c rfl (zle_c rfl zle_n)) rfl rfl zle_n) (Nat.le_of_ble_eq_true rfl) (Nat.le_of_ble_eq_true rfl) rfl rfl ?_
      refine zJ_if_ne (tgt := 77) dX1_readPlan_69 (by decide) rfl (fun hc => ?_) (fun hc => ?_)
      · replace h := it_f hc h
        refine zJ_aload_n dX1_readPlan_77 rfl rfl ?_
        refine zJ_dup dX1_readPlan_78 rfl rfl ?_
        refine zJ_geti (mi := mX1_readPlan) (x := course_planCount) dX1_readPlan_79 F_X1_56 zW_5 rfl rfl rfl ?_
        refine zJ_iconst dX1_readPlan_82 zc_1 rfl ?_
        refine zJ_iadd dX1_readPlan_83 rfl ?_
        refine zK_puti (mi := mX1_readPlan) (la' := [(65, text_size), (66, text_limitn1), (67, text_at_20x), (323, course_fences), (328, (course_planCount + (1 : Int32)))]) zW_ok dX1_readPlan_84 F_X1_56 P_1_8 zW_5 rfl rfl rfl ?_
        refine zJ_aload_n dX1_readPlan_87 rfl rfl ?_
        refine zJ_geti (mi := mX1_readPlan) (x := (course_planCount + (1 : Int32))) dX1_readPlan_88 F_X1_56 zW_5 rfl rfl rfl ?_
        refine zJ_iconst dX1_readPlan_91 zc_1 rfl ?_
        refine zJ_isub dX1_readPlan_92 rfl ?_
        obtain ⟨rfl, rfl, rfl, rfl, rfl⟩ := so5 h
        exact zJ_iret dX1_readPlan_93 rfl rfl
      · replace h := it_t hc h
        refine zJ_aload_n dX1_readPlan_72 rfl rfl ?_
        obtain ⟨rn4, hcl, h⟩ := bd1_some h
        refine zJ_callV2 (σ := σ) (L := ([(65, text_size), (66, text_limitn1), (67, text_at_20x), (323, course_fences), (328, course_planCount)], [(2, text_signs), (11, course_plans_20x)], [])) (mi := mX1_readPlan) (yi := mX9_fault) (as := []) (st := []) (L2 := ([(65, text_size), (66, text_limitn1), (67, text_at_20x), (323, course_fences), (328, course_planCount)], [(2, text_signs), (11, course_plans_20x)], [])) dX1_readPlan_73 ML_X1_69 Yv_X9_fault rfl zW_1 rfl rfl (t_X9_fault l _ hcl) (zsub_i (zle_c rfl zle_n) zle_n zle_n) (zjok_i rfl rfl (zle_c rfl (zle_c rfl (zle_c rfl (zle_c rfl (zle_c rfl zle_n))))) rfl rfl (zle_c rfl (zle_c rfl zle_n)) rfl rfl zle_n) (Nat.le_of_ble_eq_true rfl) (Nat.le_of_ble_eq_true rfl) rfl rfl ?_
        obtain ⟨rfl, rfl, rfl, rfl, rfl⟩ := so5 h
        exact zJ_iret dX1_readPlan_76 rfl rfl
    refine zJ_loc (ls' := [(0, .ref 5), (1, .ref 1), (2, .int (0 : Int32))]) (zll_c rfl (zll_c rfl (zll_c rfl zll_n))) ?_
    refine ml3_J (fun (v2_20 : Int32) (text_at_20 : Int32) (course_plans_20 : (Nat → Int32)) => zJ l zW 9 mX1_readPlan σ ([(65, text_size), (66, text_limitn1), (67, text_at_20), (323, course_fences), (328, course_planCount)], [(2, text_signs), (11, course_plans_20)], []) 20 [(0, .ref 5), (1, .ref 1), (2, .int v2_20)] [] (some (.int r)) ([(65, text_size), (66, w_text_limit), (67, w_text_at), (323, course_fences), (328, w_course_planCount)], [(2, text_signs), (11, w_course_plans)], [])) (fun rc20 hrc20 v2_20 text_at_20 course_plans_20 h => ?_) zN _ _ _ h
    unfold s_X1_readPlan_20 at h
    refine zJ_iload_n dX1_readPlan_20 rfl rfl ?_
    refine zJ_aload_n dX1_readPlan_21 rfl rfl ?_
    refine zJ_geti (mi := mX1_readPlan) (x := course_fences) dX1_readPlan_22 F_X1_50 zW_5 rfl rfl rfl ?_
    refine zJ_icmp_ge (tgt := 65) dX1_readPlan_25 (by decide) rfl (fun hc => ?_) (fun hc => ?_)
    · replace h := it_t hc h
      refine zJ_loc (ls' := [(0, .ref 5), (1, .ref 1)]) (zll_c rfl (zll_c rfl zll_n)) ?_
      exact hk20 _ _ h
    · replace h := it_f hc h
      refine zJ_aload_n dX1_readPlan_28 rfl rfl ?_
      refine zJ_ldcS (i := 1) (q := 89) dX1_readPlan_29 rfl rfl rfl ?_
      obtain ⟨rn5, text_atn6, hcl, h⟩ := bd2_some h
      refine zJ_callV2 (σ := σ) (L := ([(65, text_size), (66, text_limitn1), (67, text_at_20), (323, course_fences), (328, course_planCount)], [(2, text_signs), (11, course_plans_20)], [])) (mi := mX1_readPlan) (yi := mX9_oneOf) (as := [.ref 89]) (st := []) (L2 := ([(65, text_size), (66, text_limitn1), (67, text_atn6), (323, course_fences), (328, course_planCount)], [(2, text_signs), (11, course_plans_20)], [])) dX1_readPlan_31 ML_X1_86 Yv_X9_oneOf rfl zW_1 rfl rfl (t_X9_oneOf l _ hcl) (zsub_i (zle_c rfl (zle_c rfl zle_n)) (zle_c rfl zle_n) zle_n) (zjok_i rfl rfl (zle_c rfl (zle_c rfl (zle_c rfl (zle_c rfl (zle_c rfl zle_n))))) rfl rfl (zle_c rfl (zle_c rfl zle_n)) rfl rfl zle_n) (Nat.le_of_ble_eq_true rfl) (Nat.le_of_ble_eq_true rfl) rfl rfl ?_
      refine zJ_istore_n (ls' := [(3, .int rn5), (0, .ref 5), (1, .ref 1), (2, .int v2_20)]) dX1_readPlan_34 rfl rfl rfl ?_
      refine zJ_iload_n dX1_readPlan_35 rfl rfl ?_
      refine zJ_if_ge (tgt := 44) dX1_readPlan_36 (by decide) rfl (fun hc => ?_) (fun hc => ?_)
      · replace h := it_t hc h
        refine zJ_aload_n dX1_readPlan_44 rfl rfl ?_
        refine zJ_getr (mi := mX1_readPlan) dX1_readPlan_45 F_X1_27 zW_5 rfl rfl ?_
        refine zJ_aload_n dX1_readPlan_48 rfl rfl ?_
        refine zJ_geti (mi := mX1_readPlan) (x := course_planCount) dX1_readPlan_49 F_X1_56 zW_5 rfl rfl rfl ?_
        refine zJ_bipush dX1_readPlan_52 zb_8 rfl ?_
        refine zJ_imul dX1_readPlan_54 rfl ?_
        refine zJ_iload_n dX1_readPlan_55 rfl rfl ?_
        refine zJ_iadd dX1_readPlan_56 rfl ?_
        refine zJ_iload_n dX1_readPlan_57 rfl rfl ?_
        obtain ⟨hg, h⟩ := gd_some h
        refine zK_iast (mi := mX1_readPlan) (f := course_plans_20) (lb' := [(2, text_signs), (11, (upd course_plans_20 ((course_planCount * (8 : Int32)) + v2_20).toNatClampNeg rn5))]) dX1_readPlan_58 zW_11 (ix_in hg) rfl rfl rfl ?_
        obtain ⟨v2n7, ev2n7, h⟩ := lt1_some h
        refine zJ_iincN (ls' := [(2, .int v2n7), (3, .int rn5), (0, .ref 5), (1, .ref 1)]) dX1_readPlan_59 rfl rfl zc_1 ev2n7 rfl rfl ?_
        refine zJ_goto (tgt := 20) dX1_readPlan_62 (by decide) ?_
        refine zJ_loc (ls' := [(0, .ref 5), (1, .ref 1), (2, .int v2n7)]) (zll_c rfl (zll_c rfl (zll_c rfl zll_n))) ?_
        exact hrc20 _ _ _ h
      · replace h := it_f hc h
        refine zJ_aload_n dX1_readPlan_39 rfl rfl ?_
        obtain ⟨rn8, hcl, h⟩ := bd1_some h
        refine zJ_callV2 (σ := σ) (L := ([(65, text_size), (66, text_limitn1), (67, text_atn6), (323, course_fences), (328, course_planCount)], [(2, text_signs), (11, course_plans_20)], [])) (mi := mX1_readPlan) (yi := mX9_fault) (as := []) (st := []) (L2 := ([(65, text_size), (66, text_limitn1), (67, text_atn6), (323, course_fences), (328, course_planCount)], [(2, text_signs), (11, course_plans_20)], [])) dX1_readPlan_40 ML_X1_69 Yv_X9_fault rfl zW_1 rfl rfl (t_X9_fault l _ hcl) (zsub_i (zle_c rfl zle_n) zle_n zle_n) (zjok_i rfl rfl (zle_c rfl (zle_c rfl (zle_c rfl (zle_c rfl (zle_c rfl zle_n))))) rfl rfl (zle_c rfl (zle_c rfl zle_n)) rfl rfl zle_n) (Nat.le_of_ble_eq_true rfl) (Nat.le_of_ble_eq_true rfl) rfl rfl ?_
        obtain ⟨rfl, rfl, rfl, rfl, rfl⟩ := so5 h
        exact zJ_iret dX1_readPlan_43 rfl rfl
  · replace h := it_f hc h
    refine zJ_bipush dX1_readPlan_9 zb_m100 rfl ?_
    obtain ⟨rfl, rfl, rfl, rfl, rfl⟩ := so5 h
    exact zJ_iret dX1_readPlan_11 rfl rfl
set_option maxRecDepth 100000 in
set_option maxHeartbeats 4000000 in
theorem t_X11_plan (l : Launch) (σ : zS) {text_size : Int32} {text_limit : Int32} {text_at : Int32} {course_fences : Int32} {course_planCount : Int32} {text_signs : (Nat → Int32)} {course_plans : (Nat → Int32)} {r : Int32} {w_text_size : Int32} {w_text_limit : Int32} {w_text_at : Int32} {w_course_planCount : Int32} {w_course_plans : (Nat → Int32)} (h : f_X11_plan text_size text_limit text_at course_fences course_planCount text_signs course_plans = some (r, w_text_size, w_text_limit, w_text_at, w_course_planCount, w_course_plans)) : zMt l zW 10 mX11_plan σ ([(65, text_size), (66, text_limit), (67, text_at), (323, course_fences), (328, course_planCount)], [(2, text_signs), (11, course_plans)], []) [.ref 0] (some (.int r)) ([(65, w_text_size), (66, w_text_limit), (67, w_text_at), (323, course_fences), (328, w_course_planCount)], [(2, text_signs), (11, w_course_plans)], []) := by
  refine zMt_of (ls := [(0, .ref 0)]) (by decide) rfl (fun _ => Nat.le_of_ble_eq_true rfl) rfl ?_
  unfold f_X11_plan at h
  refine zJ_aload_n dX11_plan_0 rfl rfl ?_
  refine zJ_getr (mi := mX11_plan) dX11_plan_1 F_X11_26 zW_0 rfl rfl ?_
  refine zJ_aload_n dX11_plan_4 rfl rfl ?_
  refine zJ_getr (mi := mX11_plan) dX11_plan_5 F_X11_10 zW_0 rfl rfl ?_
  obtain ⟨rn1, text_limitn2, text_atn3, course_planCountn4, course_plansn5, hcl, h⟩ := bd5_some h
  refine zJ_callV2 (σ := σ) (L := ([(65, text_size), (66, text_limit), (67, text_at), (323, course_fences), (328, course_planCount)], [(2, text_signs), (11, course_plans)], [])) (mi := mX11_plan) (yi := mX1_readPlan) (as := [.ref 1]) (st := []) (L2 := ([(65, text_size), (66, text_limitn2), (67, text_atn3), (323, course_fences), (328, course_planCountn4)], [(2, text_signs), (11, course_plansn5)], [])) dX11_plan_8 ML_X11_117 Yv_X1_readPlan rfl zW_5 rfl rfl (t_X1_readPlan l _ hcl) (zsub_i (zle_c rfl (zle_c rfl (zle_c rfl (zle_c rfl (zle_c rfl zle_n))))) (zle_c rfl (zle_c rfl zle_n)) zle_n) (zjok_i rfl rfl (zle_c rfl (zle_c rfl (zle_c rfl (zle_c rfl (zle_c rfl zle_n))))) rfl rfl (zle_c rfl (zle_c rfl zle_n)) rfl rfl zle_n) (Nat.le_of_ble_eq_true rfl) (Nat.le_of_ble_eq_true rfl) rfl rfl ?_
  refine zJ_istore_n (ls' := [(1, .int rn1), (0, .ref 0)]) dX11_plan_11 rfl rfl rfl ?_
  refine zJ_aload_n dX11_plan_12 rfl rfl ?_
  refine zJ_getr (mi := mX11_plan) dX11_plan_13 F_X11_10 zW_0 rfl rfl ?_
  obtain ⟨text_sizen6, hcl, h⟩ := bd1_some h
  refine zJ_callV2 (σ := σ) (L := ([(65, text_size), (66, text_limitn2), (67, text_atn3), (323, course_fences), (328, course_planCountn4)], [(2, text_signs), (11, course_plansn5)], [])) (mi := mX11_plan) (yi := mX9_clear) (as := []) (st := []) (L2 := ([(65, text_sizen6), (66, text_limitn2), (67, text_atn3), (323, course_fences), (328, course_planCountn4)], [(2, text_signs), (11, course_plansn5)], [])) dX11_plan_16 ML_X11_104 Yv_X9_clear rfl zW_1 rfl rfl (t_X9_clear l _ hcl) (zsub_i (zle_c rfl zle_n) zle_n zle_n) (zjok_i rfl rfl (zle_c rfl (zle_c rfl (zle_c rfl (zle_c rfl (zle_c rfl zle_n))))) rfl rfl (zle_c rfl (zle_c rfl zle_n)) rfl rfl zle_n) (Nat.le_of_ble_eq_true rfl) (Nat.le_of_ble_eq_true rfl) rfl rfl ?_
  refine zJ_iload_n dX11_plan_19 rfl rfl ?_
  obtain ⟨rfl, rfl, rfl, rfl, rfl, rfl⟩ := so6 h
  exact zJ_iret dX11_plan_20 rfl rfl
set_option maxRecDepth 100000 in
set_option maxHeartbeats 4000000 in
theorem t_X11_poles (l : Launch) (σ : zS) {p1 : Int32} {p2 : Int32} {p3 : Int32} {course_fences : Int32} {course_horseCount : Int32} {course_planCount : Int32} {course_rule_size : Int32} {course_kinds : (Nat → Int32)} {course_heights : (Nat → Int32)} {course_feet : (Nat → Int32)} {course_digits : (Nat → Int32)} {course_plans : (Nat → Int32)} {rule_codes : (Nat → Int32)} {rule_stack : (Nat → Int32)} {rule_things : (Nat → Int32)} {chances : (Nat → Int64)} {r : Int32} {w_rule_stack : (Nat → Int32)} {w_rule_things : (Nat → Int32)} {w_chances : (Nat → Int64)} (h : f_X11_poles p1 p2 p3 course_fences course_horseCount course_planCount course_rule_size course_kinds course_heights course_feet course_digits course_plans rule_codes rule_stack rule_things chances = some (r, w_rule_stack, w_rule_things, w_chances)) : zMt l zW 4 mX11_poles σ ([(323, course_fences), (326, course_horseCount), (328, course_planCount), (769, course_rule_size)], [(6, course_kinds), (7, course_heights), (8, course_feet), (10, course_digits), (11, course_plans), (13, rule_codes), (15, rule_stack), (16, rule_things)], [(52, chances)]) [.ref 0, .int p1, .int p2, .int p3] (some (.int r)) ([(323, course_fences), (326, course_horseCount), (328, course_planCount), (769, course_rule_size)], [(6, course_kinds), (7, course_heights), (8, course_feet), (10, course_digits), (11, course_plans), (13, rule_codes), (15, w_rule_stack), (16, w_rule_things)], [(52, w_chances)]) := by
  refine zMt_of (ls := [(0, .ref 0), (1, .int p1), (2, .int p2), (3, .int p3)]) (by decide) rfl (fun _ => Nat.le_of_ble_eq_true rfl) rfl ?_
  unfold f_X11_poles at h
  refine zJ_aload_n dX11_poles_0 rfl rfl ?_
  refine zJ_getr (mi := mX11_poles) dX11_poles_1 F_X11_26 zW_0 rfl rfl ?_
  refine zJ_iload_n dX11_poles_4 rfl rfl ?_
  obtain ⟨rn1, hcl, h⟩ := bd1_some h
  refine zJ_callV2 (σ := σ) (L := ([(323, course_fences), (326, course_horseCount), (328, course_planCount), (769, course_rule_size)], [(6, course_kinds), (7, course_heights), (8, course_feet), (10, course_digits), (11, course_plans), (13, rule_codes), (15, rule_stack), (16, rule_things)], [(52, chances)])) (mi := mX11_poles) (yi := mX1_hasHorse) (as := [.int p1]) (st := []) (L2 := ([(323, course_fences), (326, course_horseCount), (328, course_planCount), (769, course_rule_size)], [(6, course_kinds), (7, course_heights), (8, course_feet), (10, course_digits), (11, course_plans), (13, rule_codes), (15, rule_stack), (16, rule_things)], [(52, chances)])) dX11_poles_5 ML_X11_147 Yv_X1_hasHorse rfl zW_5 rfl rfl (t_X1_hasHorse l _ hcl) (zsub_i (zle_c rfl zle_n) zle_n zle_n) (zjok_i rfl rfl (zle_c rfl (zle_c rfl (zle_c rfl (zle_c rfl zle_n)))) rfl rfl (zle_c rfl (zle_c rfl (zle_c rfl (zle_c rfl (zle_c rfl (zle_c rfl (zle_c rfl (zle_c rfl zle_n)))))))) rfl rfl (zle_c rfl zle_n)) (Nat.le_of_ble_eq_true rfl) (Nat.le_of_ble_eq_true rfl) rfl rfl ?_
  refine zJ_if_eq (tgt := 32) dX11_poles_8 (by decide) rfl (fun hc => ?_) (fun hc => ?_)
  · replace h := it_t hc h
    refine zJ_iconst dX11_poles_32 zc_m1 rfl ?_
    obtain ⟨rfl, rfl, rfl, rfl⟩ := so4 h
    exact zJ_iret dX11_poles_33 rfl rfl
  · replace h := it_f hc h
    refine zJ_aload_n dX11_poles_11 rfl rfl ?_
    refine zJ_getr (mi := mX11_poles) dX11_poles_12 F_X11_26 zW_0 rfl rfl ?_
    refine zJ_iload_n dX11_poles_15 rfl rfl ?_
    obtain ⟨rn2, hcl, h⟩ := bd1_some h
    refine zJ_callV2 (σ := σ) (L := ([(323, course_fences), (326, course_horseCount), (328, course_planCount), (769, course_rule_size)], [(6, course_kinds), (7, course_heights), (8, course_feet), (10, course_digits), (11, course_plans), (13, rule_codes), (15, rule_stack), (16, rule_things)], [(52, chances)])) (mi := mX11_poles) (yi := mX1_hasPlan) (as := [.int p2]) (st := []) (L2 := ([(323, course_fences), (326, course_horseCount), (328, course_planCount), (769, course_rule_size)], [(6, course_kinds), (7, course_heights), (8, course_feet), (10, course_digits), (11, course_plans), (13, rule_codes), (15, rule_stack), (16, rule_things)], [(52, chances)])) dX11_poles_16 ML_X11_191 Yv_X1_hasPlan rfl zW_5 rfl rfl (t_X1_hasPlan l _ hcl) (zsub_i (zle_c rfl zle_n) zle_n zle_n) (zjok_i rfl rfl (zle_c rfl (zle_c rfl (zle_c rfl (zle_c rfl zle_n)))) rfl rfl (zle_c rfl (zle_c rfl (zle_c rfl (zle_c rfl (zle_c rfl (zle_c rfl (zle_c rfl (zle_c rfl zle_n)))))))) rfl rfl (zle_c rfl zle_n)) (Nat.le_of_ble_eq_true rfl) (Nat.le_of_ble_eq_true rfl) rfl rfl ?_
    refine zJ_if_eq (tgt := 32) dX11_poles_19 (by decide) rfl (fun hc => ?_) (fun hc => ?_)
    · replace h := it_t hc h
      refine zJ_iconst dX11_poles_32 zc_m1 rfl ?_
      obtain ⟨rfl, rfl, rfl, rfl⟩ := so4 h
      exact zJ_iret dX11_poles_33 rfl rfl
    · replace h := it_f hc h
      refine zJ_iload_n dX11_poles_22 rfl rfl ?_
      refine zJ_if_lt (tgt := 32) dX11_poles_23 (by decide) rfl (fun hc => ?_) (fun hc => ?_)
      · replace h := it_t hc h
        refine zJ_iconst dX11_poles_32 zc_m1 rfl ?_
        obtain ⟨rfl, rfl, rfl, rfl⟩ := so4 h
        exact zJ_iret dX11_poles_33 rfl rfl
      · replace h := it_f hc h
        refine zJ_iload_n dX11_poles_26 rfl rfl ?_
        refine zJ_bipush dX11_poles_27 zb_8 rfl ?_
        refine zJ_icmp_le (tgt := 34) dX11_poles_29 (by decide) rfl (fun hc => ?_) (fun hc => ?_)
        · replace h := it_t hc h
          refine zJ_aload_n dX11_poles_34 rfl rfl ?_
          refine zJ_getr (mi := mX11_poles) dX11_poles_35 F_X11_84 zW_0 rfl rfl ?_
          refine zJ_lconst dX11_poles_38 zl_0 rfl ?_
          obtain ⟨chancesn3, hcl, h⟩ := bd1_some h
          refine zJ_callS2 (σ := σ) (L := ([(323, course_fences), (326, course_horseCount), (328, course_planCount), (769, course_rule_size)], [(6, course_kinds), (7, course_heights), (8, course_feet), (10, course_digits), (11, course_plans), (13, rule_codes), (15, rule_stack), (16, rule_things)], [(52, chances)])) (mi := mX11_poles) (yi := mJ7_fill_d0a16) (as := [.ref 52, .long (0 : Int64)]) (st := []) (L2 := ([(323, course_fences), (326, course_horseCount), (328, course_planCount), (769, course_rule_size)], [(6, course_kinds), (7, course_heights), (8, course_feet), (10, course_digits), (11, course_plans), (13, rule_codes), (15, rule_stack), (16, rule_things)], [(52, chancesn3)])) dX11_poles_39 ML_X11_203 Ys_J7_fill_d0a16 rfl (t_J7_fill_d0a16_chances l _ hcl) (zsub_i zle_n zle_n (zle_c rfl zle_n)) (zjok_i rfl rfl (zle_c rfl (zle_c rfl (zle_c rfl (zle_c rfl zle_n)))) rfl rfl (zle_c rfl (zle_c rfl (zle_c rfl (zle_c rfl (zle_c rfl (zle_c rfl (zle_c rfl (zle_c rfl zle_n)))))))) rfl rfl (zle_c rfl zle_n)) (Nat.le_of_ble_eq_true rfl) (Nat.le_of_ble_eq_true rfl) rfl rfl ?_
          refine zJ_aload_n dX11_poles_42 rfl rfl ?_
          refine zJ_getr (mi := mX11_poles) dX11_poles_43 F_X11_84 zW_0 rfl rfl ?_
          refine zJ_iconst dX11_poles_46 zc_0 rfl ?_
          refine zJ_ldc2_w (v := 10000) dX11_poles_47 C_X11_209 rfl ?_
          obtain ⟨hg, h⟩ := gd_some h
          refine zK_last (mi := mX11_poles) (f := chancesn3) (lc' := [(52, (vp_updL chancesn3 (0 : Int32).toNatClampNeg (10000 : Int64)))]) dX11_poles_50 zW_52 (ix_in hg) rfl rfl rfl ?_
          refine zJ_iconst dX11_poles_51 zc_0 rfl ?_
          refine zJ_istore (ls' := [(4, .int (0 : Int32)), (0, .ref 0), (1, .int p1), (2, .int p2), (3, .int p3)]) dX11_poles_52 rfl rfl rfl ?_
          have hk54 : ∀ (rule_stack_54x : (Nat → Int32)) (rule_things_54x : (Nat → Int32)) (chances_54x : (Nat → Int64)), k_X11_poles_54 p3 rule_stack_54x rule_things_54x chances_54x = some (r, w_rule_stack, w_rule_things, w_chances) → zJ l zW 4 mX11_poles σ ([(323, course_fences), (326, course_horseCount), (328, course_planCount), (769, course_rule_size)], [(6, course_kinds), (7, course_heights), (8, course_feet), (10, course_digits), (11, course_plans), (13, rule_codes), (15, rule_stack_54x), (16, rule_things_54x)], [(52, chances_54x)]) 175 [(0, .ref 0), (3, .int p3)] [] (some (.int r)) ([(323, course_fences), (326, course_horseCount), (328, course_planCount), (769, course_rule_size)], [(6, course_kinds), (7, course_heights), (8, course_feet), (10, course_digits), (11, course_plans), (13, rule_codes), (15, w_rule_stack), (16, w_rule_things)], [(52, w_chances)]) := by
            intro rule_stack_54x rule_things_54x chances_54x h
            unfold k_X11_poles_54 at h
            refine zJ_aload_n dX11_poles_175 rfl rfl ?_
            refine zJ_getr (mi := mX11_poles) dX11_poles_176 F_X11_84 zW_0 rfl rfl ?_
            refine zJ_iload_n dX11_poles_179 rfl rfl ?_
            obtain ⟨hg, h⟩ := gd_some h
            refine zJ_lald (mi := mX11_poles) (f := chances_54x) dX11_poles_180 zW_52 (ix_in hg) rfl rfl ?_
            refine zJ_l2i dX11_poles_181 rfl ?_
            obtain ⟨rfl, rfl, rfl, rfl⟩ := so4 h
            exact zJ_iret dX11_poles_182 rfl rfl
          refine zJ_loc (ls' := [(0, .ref 0), (1, .int p1), (2, .int p2), (3, .int p3), (4, .int (0 : Int32))]) (zll_c rfl (zll_c rfl (zll_c rfl (zll_c rfl (zll_c rfl zll_n))))) ?_
          refine ml4_J (fun (v4_54 : Int32) (rule_stack_54 : (Nat → Int32)) (rule_things_54 : (Nat → Int32)) (chances_54 : (Nat → Int64)) => zJ l zW 4 mX11_poles σ ([(323, course_fences), (326, course_horseCount), (328, course_planCount), (769, course_rule_size)], [(6, course_kinds), (7, course_heights), (8, course_feet), (10, course_digits), (11, course_plans), (13, rule_codes), (15, rule_stack_54), (16, rule_things_54)], [(52, chances_54)]) 54 [(0, .ref 0), (1, .int p1), (2, .int p2), (3, .int p3), (4, .int v4_54)] [] (some (.int r)) ([(323, course_fences), (326, course_horseCount), (328, course_planCount), (769, course_rule_size)], [(6, course_kinds), (7, course_heights), (8, course_feet), (10, course_digits), (11, course_plans), (13, rule_codes), (15, w_rule_stack), (16, w_rule_things)], [(52, w_chances)])) (fun rc54 hrc54 v4_54 rule_stack_54 rule_things_54 chances_54 h => ?_) zN _ _ _ _ h
          unfold s_X11_poles_54 at h
          refine zJ_iload dX11_poles_54 rfl rfl ?_
          refine zJ_aload_n dX11_poles_56 rfl rfl ?_
          refine zJ_getr (mi := mX11_poles) dX11_poles_57 F_X11_26 zW_0 rfl rfl ?_
          refine zJ_geti (mi := mX11_poles) (x := course_fences) dX11_poles_60 F_X11_157 zW_5 rfl rfl rfl ?_
          refine zJ_icmp_ge (tgt := 175) dX11_poles_63 (by decide) rfl (fun hc => ?_) (fun hc => ?_)
          · replace h := it_t hc h
            refine zJ_loc (ls' := [(0, .ref 0), (3, .int p3)]) (zll_c rfl (zll_c rfl zll_n)) ?_
            exact hk54 _ _ _ h
          · replace h := it_f hc h
            refine zJ_aload_n dX11_poles_66 rfl rfl ?_
            refine zJ_getr (mi := mX11_poles) dX11_poles_67 F_X11_26 zW_0 rfl rfl ?_
            refine zJ_iload_n dX11_poles_70 rfl rfl ?_
            refine zJ_iload dX11_poles_71 rfl rfl ?_
            refine zJ_aload_n dX11_poles_73 rfl rfl ?_
            refine zJ_getr (mi := mX11_poles) dX11_poles_74 F_X11_26 zW_0 rfl rfl ?_
            refine zJ_iload_n dX11_poles_77 rfl rfl ?_
            refine zJ_iload dX11_poles_78 rfl rfl ?_
            obtain ⟨rn4, hcl, h⟩ := bd1_some h
            refine zJ_callV2 (σ := σ) (L := ([(323, course_fences), (326, course_horseCount), (328, course_planCount), (769, course_rule_size)], [(6, course_kinds), (7, course_heights), (8, course_feet), (10, course_digits), (11, course_plans), (13, rule_codes), (15, rule_stack_54), (16, rule_things_54)], [(52, chances_54)])) (mi := mX11_poles) (yi := mX1_letterAt) (as := [.int p2, .int v4_54]) (st := [.int v4_54, .int p1, .ref 5]) (L2 := ([(323, course_fences), (326, course_horseCount), (328, course_planCount), (769, course_rule_size)], [(6, course_kinds), (7, course_heights), (8, course_feet), (10, course_digits), (11, course_plans), (13, rule_codes), (15, rule_stack_54), (16, rule_things_54)], [(52, chances_54)])) dX11_poles_80 ML_X11_194 Yv_X1_letterAt rfl zW_5 rfl rfl (t_X1_letterAt l _ hcl) (zsub_i zle_n (zle_c rfl zle_n) zle_n) (zjok_i rfl rfl (zle_c rfl (zle_c rfl (zle_c rfl (zle_c rfl zle_n)))) rfl rfl (zle_c rfl (zle_c rfl (zle_c rfl (zle_c rfl (zle_c rfl (zle_c rfl (zle_c rfl (zle_c rfl zle_n)))))))) rfl rfl (zle_c rfl zle_n)) (Nat.le_of_ble_eq_true rfl) (Nat.le_of_ble_eq_true rfl) rfl rfl ?_
            obtain ⟨rn5, rule_stackn6, rule_thingsn7, hcl, h⟩ := bd3_some h
            refine zJ_callV2 (σ := σ) (L := ([(323, course_fences), (326, course_horseCount), (328, course_planCount), (769, course_rule_size)], [(6, course_kinds), (7, course_heights), (8, course_feet), (10, course_digits), (11, course_plans), (13, rule_codes), (15, rule_stack_54), (16, rule_things_54)], [(52, chances_54)])) (mi := mX11_poles) (yi := mX1_poleOdds) (as := [.int p1, .int v4_54, .int rn4]) (st := []) (L2 := ([(323, course_fences), (326, course_horseCount), (328, course_planCount), (769, course_rule_size)], [(6, course_kinds), (7, course_heights), (8, course_feet), (10, course_digits), (11, course_plans), (13, rule_codes), (15, rule_stackn6), (16, rule_thingsn7)], [(52, chances_54)])) dX11_poles_83 ML_X11_187 Yv_X1_poleOdds rfl zW_5 rfl rfl (t_X1_poleOdds l _ hcl) (zsub_i (zle_c rfl zle_n) (zle_c rfl (zle_c rfl (zle_c rfl (zle_c rfl (zle_c rfl (zle_c rfl (zle_c rfl zle_n))))))) zle_n) (zjok_i rfl rfl (zle_c rfl (zle_c rfl (zle_c rfl (zle_c rfl zle_n)))) rfl rfl (zle_c rfl (zle_c rfl (zle_c rfl (zle_c rfl (zle_c rfl (zle_c rfl (zle_c rfl (zle_c rfl zle_n)))))))) rfl rfl (zle_c rfl zle_n)) (Nat.le_of_ble_eq_true rfl) (Nat.le_of_ble_eq_true rfl) rfl rfl ?_
            refine zJ_istore (ls' := [(5, .int rn5), (0, .ref 0), (1, .int p1), (2, .int p2), (3, .int p3), (4, .int v4_54)]) dX11_poles_86 rfl rfl rfl ?_
            refine zJ_bipush dX11_poles_88 zb_8 rfl ?_
            refine zJ_istore (ls' := [(6, .int (8 : Int32)), (5, .int rn5), (0, .ref 0), (1, .int p1), (2, .int p2), (3, .int p3), (4, .int v4_54)]) dX11_poles_90 rfl rfl rfl ?_
            have hk92 : ∀ (chances_92x : (Nat → Int64)), k_X11_poles_92 rc54 v4_54 rn5 rule_stackn6 rule_thingsn7 chances_92x = some (r, w_rule_stack, w_rule_things, w_chances) → zJ l zW 4 mX11_poles σ ([(323, course_fences), (326, course_horseCount), (328, course_planCount), (769, course_rule_size)], [(6, course_kinds), (7, course_heights), (8, course_feet), (10, course_digits), (11, course_plans), (13, rule_codes), (15, rule_stackn6), (16, rule_thingsn7)], [(52, chances_92x)]) 146 [(0, .ref 0), (1, .int p1), (2, .int p2), (3, .int p3), (4, .int v4_54), (5, .int rn5)] [] (some (.int r)) ([(323, course_fences), (326, course_horseCount), (328, course_planCount), (769, course_rule_size)], [(6, course_kinds), (7, course_heights), (8, course_feet), (10, course_digits), (11, course_plans), (13, rule_codes), (15, w_rule_stack), (16, w_rule_things)], [(52, w_chances)]) := by
              intro chances_92x h
              unfold k_X11_poles_92 at h
              refine zJ_aload_n dX11_poles_146 rfl rfl ?_
              refine zJ_getr (mi := mX11_poles) dX11_poles_147 F_X11_84 zW_0 rfl rfl ?_
              refine zJ_iconst dX11_poles_150 zc_0 rfl ?_
              refine zJ_aload_n dX11_poles_151 rfl rfl ?_
              refine zJ_getr (mi := mX11_poles) dX11_poles_152 F_X11_84 zW_0 rfl rfl ?_
              refine zJ_iconst dX11_poles_155 zc_0 rfl ?_
              obtain ⟨hg, h⟩ := gd_some h
              refine zJ_lald (mi := mX11_poles) (f := chances_92x) dX11_poles_156 zW_52 (ix_in hg) rfl rfl ?_
              refine zJ_bipush dX11_poles_157 zb_100 rfl ?_
              refine zJ_iload dX11_poles_159 rfl rfl ?_
              refine zJ_isub dX11_poles_161 rfl ?_
              refine zJ_i2l dX11_poles_162 rfl ?_
              refine zJ_lmul dX11_poles_163 rfl ?_
              refine zJ_ldc2_w (v := 100) dX11_poles_164 C_X11_211 rfl ?_
              obtain ⟨hg, h⟩ := gd_some h
              refine zJ_ldiv dX11_poles_167 (nzl_ne hg) rfl ?_
              obtain ⟨hg, h⟩ := gd_some h
              refine zK_last (mi := mX11_poles) (f := chances_92x) (lc' := [(52, (vp_updL chances_92x (0 : Int32).toNatClampNeg (((chances_92x (0 : Int32).toNatClampNeg) * (((100 : Int32) - rn5)).toInt64) / (100 : Int64))))]) dX11_poles_168 zW_52 (ix_in hg) rfl rfl rfl ?_
              obtain ⟨v4n8, ev4n8, h⟩ := lt1_some h
              refine zJ_iincN (ls' := [(4, .int v4n8), (0, .ref 0), (1, .int p1), (2, .int p2), (3, .int p3), (5, .int rn5)]) dX11_poles_169 rfl rfl zc_1 ev4n8 rfl rfl ?_
              refine zJ_goto (tgt := 54) dX11_poles_172 (by decide) ?_
              refine zJ_loc (ls' := [(0, .ref 0), (1, .int p1), (2, .int p2), (3, .int p3), (4, .int v4n8)]) (zll_c rfl (zll_c rfl (zll_c rfl (zll_c rfl (zll_c rfl zll_n))))) ?_
              exact hrc54 _ _ _ _ h
            refine zJ_loc (ls' := [(0, .ref 0), (1, .int p1), (2, .int p2), (3, .int p3), (4, .int v4_54), (5, .int rn5), (6, .int (8 : Int32))]) (zll_c rfl (zll_c rfl (zll_c rfl (zll_c rfl (zll_c rfl (zll_c rfl (zll_c rfl zll_n))))))) ?_
            refine ml2_J (fun (v6_92 : Int32) (chances_92 : (Nat → Int64)) => zJ l zW 4 mX11_poles σ ([(323, course_fences), (326, course_horseCount), (328, course_planCount), (769, course_rule_size)], [(6, course_kinds), (7, course_heights), (8, course_feet), (10, course_digits), (11, course_plans), (13, rule_codes), (15, rule_stackn6), (16, rule_thingsn7)], [(52, chances_92)]) 92 [(0, .ref 0), (1, .int p1), (2, .int p2), (3, .int p3), (4, .int v4_54), (5, .int rn5), (6, .int v6_92)] [] (some (.int r)) ([(323, course_fences), (326, course_horseCount), (328, course_planCount), (769, course_rule_size)], [(6, course_kinds), (7, course_heights), (8, course_feet), (10, course_digits), (11, course_plans), (13, rule_codes), (15, w_rule_stack), (16, w_rule_things)], [(52, w_chances)])) (fun rc92 hrc92 v6_92 chances_92 h => ?_) zN _ _ h
            unfold s_X11_poles_92 at h
            refine zJ_iload dX11_poles_92 rfl rfl ?_
            refine zJ_if_le (tgt := 146) dX11_poles_94 (by decide) rfl (fun hc => ?_) (fun hc => ?_)
            · replace h := it_t hc h
              refine zJ_loc (ls' := [(0, .ref 0), (1, .int p1), (2, .int p2), (3, .int p3), (4, .int v4_54), (5, .int rn5)]) (zll_c rfl (zll_c rfl (zll_c rfl (zll_c rfl (zll_c rfl (zll_c rfl zll_n)))))) ?_
              exact hk92 _ h
            · replace h := it_f hc h
              refine zJ_aload_n dX11_poles_97 rfl rfl ?_
              refine zJ_getr (mi := mX11_poles) dX11_poles_98 F_X11_84 zW_0 rfl rfl ?_
              refine zJ_iload dX11_poles_101 rfl rfl ?_
              refine zJ_aload_n dX11_poles_103 rfl rfl ?_
              refine zJ_getr (mi := mX11_poles) dX11_poles_104 F_X11_84 zW_0 rfl rfl ?_
              refine zJ_iload dX11_poles_107 rfl rfl ?_
              obtain ⟨hg, h⟩ := gd_some h
              refine zJ_lald (mi := mX11_poles) (f := chances_92) dX11_poles_109 zW_52 (ix_in hg) rfl rfl ?_
              refine zJ_bipush dX11_poles_110 zb_100 rfl ?_
              refine zJ_iload dX11_poles_112 rfl rfl ?_
              refine zJ_isub dX11_poles_114 rfl ?_
              refine zJ_i2l dX11_poles_115 rfl ?_
              refine zJ_lmul dX11_poles_116 rfl ?_
              refine zJ_ldc2_w (v := 100) dX11_poles_117 C_X11_211 rfl ?_
              obtain ⟨hg, h⟩ := gd_some h
              refine zJ_ldiv dX11_poles_120 (nzl_ne hg) rfl ?_
              refine zJ_aload_n dX11_poles_121 rfl rfl ?_
              refine zJ_getr (mi := mX11_poles) dX11_poles_122 F_X11_84 zW_0 rfl rfl ?_
              refine zJ_iload dX11_poles_125 rfl rfl ?_
              refine zJ_iconst dX11_poles_127 zc_1 rfl ?_
              refine zJ_isub dX11_poles_128 rfl ?_
              obtain ⟨hg, h⟩ := gd_some h
              refine zJ_lald (mi := mX11_poles) (f := chances_92) dX11_poles_129 zW_52 (ix_in hg) rfl rfl ?_
              refine zJ_iload dX11_poles_130 rfl rfl ?_
              refine zJ_i2l dX11_poles_132 rfl ?_
              refine zJ_lmul dX11_poles_133 rfl ?_
              refine zJ_ldc2_w (v := 100) dX11_poles_134 C_X11_211 rfl ?_
              obtain ⟨hg, h⟩ := gd_some h
              refine zJ_ldiv dX11_poles_137 (nzl_ne hg) rfl ?_
              refine zJ_ladd dX11_poles_138 rfl ?_
              obtain ⟨hg, h⟩ := gd_some h
              refine zK_last (mi := mX11_poles) (f := chances_92) (lc' := [(52, (vp_updL chances_92 v6_92.toNatClampNeg ((((chances_92 v6_92.toNatClampNeg) * (((100 : Int32) - rn5)).toInt64) / (100 : Int64)) + (((chances_92 (v6_92 - (1 : Int32)).toNatClampNeg) * rn5.toInt64) / (100 : Int64)))))]) dX11_poles_139 zW_52 (ix_in hg) rfl rfl rfl ?_
              obtain ⟨v6n9, ev6n9, h⟩ := lt1_some h
              refine zJ_iincN (ls' := [(6, .int v6n9), (0, .ref 0), (1, .int p1), (2, .int p2), (3, .int p3), (4, .int v4_54), (5, .int rn5)]) dX11_poles_140 rfl rfl zc_m1 ev6n9 rfl rfl ?_
              refine zJ_goto (tgt := 92) dX11_poles_143 (by decide) ?_
              refine zJ_loc (ls' := [(0, .ref 0), (1, .int p1), (2, .int p2), (3, .int p3), (4, .int v4_54), (5, .int rn5), (6, .int v6n9)]) (zll_c rfl (zll_c rfl (zll_c rfl (zll_c rfl (zll_c rfl (zll_c rfl (zll_c rfl zll_n))))))) ?_
              exact hrc92 _ _ h
        · replace h := it_f hc h
          refine zJ_iconst dX11_poles_32 zc_m1 rfl ?_
          obtain ⟨rfl, rfl, rfl, rfl⟩ := so4 h
          exact zJ_iret dX11_poles_33 rfl rfl
set_option maxRecDepth 100000 in
set_option maxHeartbeats 4000000 in
theorem t_X11_prizes (l : Launch) (σ : zS) {text_size : Int32} {text_limit : Int32} {text_at : Int32} {text_signs : (Nat → Int32)} {rounds_money : (Nat → Int32)} {rounds_draft : (Nat → Int32)} {r : Int32} {w_text_size : Int32} {w_text_limit : Int32} {w_text_at : Int32} {w_rounds_money : (Nat → Int32)} {w_rounds_draft : (Nat → Int32)} (h : f_X11_prizes text_size text_limit text_at text_signs rounds_money rounds_draft = some (r, w_text_size, w_text_limit, w_text_at, w_rounds_money, w_rounds_draft)) : zMt l zW 3 mX11_prizes σ ([(65, text_size), (66, text_limit), (67, text_at)], [(2, text_signs), (25, rounds_money), (26, rounds_draft)], []) [.ref 0] (some (.int r)) ([(65, w_text_size), (66, w_text_limit), (67, w_text_at)], [(2, text_signs), (25, w_rounds_money), (26, w_rounds_draft)], []) := by
  refine zMt_of (ls := [(0, .ref 0)]) (by decide) rfl (fun _ => Nat.le_of_ble_eq_true rfl) rfl ?_
  unfold f_X11_prizes at h
  refine zJ_aload_n dX11_prizes_0 rfl rfl ?_
  refine zJ_getr (mi := mX11_prizes) dX11_prizes_1 F_X11_33 zW_0 rfl rfl ?_
  refine zJ_aload_n dX11_prizes_4 rfl rfl ?_
  refine zJ_getr (mi := mX11_prizes) dX11_prizes_5 F_X11_10 zW_0 rfl rfl ?_
  obtain ⟨rn1, text_limitn2, text_atn3, rounds_moneyn4, rounds_draftn5, hcl, h⟩ := bd5_some h
  refine zJ_callV2 (σ := σ) (L := ([(65, text_size), (66, text_limit), (67, text_at)], [(2, text_signs), (25, rounds_money), (26, rounds_draft)], [])) (mi := mX11_prizes) (yi := mX10_readMoney) (as := [.ref 1]) (st := []) (L2 := ([(65, text_size), (66, text_limitn2), (67, text_atn3)], [(2, text_signs), (25, rounds_moneyn4), (26, rounds_draftn5)], [])) dX11_prizes_8 ML_X11_129 Yv_X10_readMoney rfl zW_20 rfl rfl (t_X10_readMoney l _ hcl) (zsub_i (zle_c rfl (zle_c rfl (zle_c rfl zle_n))) (zle_c rfl (zle_c rfl (zle_c rfl zle_n))) zle_n) (zjok_i rfl rfl (zle_c rfl (zle_c rfl (zle_c rfl zle_n))) rfl rfl (zle_c rfl (zle_c rfl (zle_c rfl zle_n))) rfl rfl zle_n) (Nat.le_of_ble_eq_true rfl) (Nat.le_of_ble_eq_true rfl) rfl rfl ?_
  refine zJ_istore_n (ls' := [(1, .int rn1), (0, .ref 0)]) dX11_prizes_11 rfl rfl rfl ?_
  refine zJ_aload_n dX11_prizes_12 rfl rfl ?_
  refine zJ_getr (mi := mX11_prizes) dX11_prizes_13 F_X11_10 zW_0 rfl rfl ?_
  obtain ⟨text_sizen6, hcl, h⟩ := bd1_some h
  refine zJ_callV2 (σ := σ) (L := ([(65, text_size), (66, text_limitn2), (67, text_atn3)], [(2, text_signs), (25, rounds_moneyn4), (26, rounds_draftn5)], [])) (mi := mX11_prizes) (yi := mX9_clear) (as := []) (st := []) (L2 := ([(65, text_sizen6), (66, text_limitn2), (67, text_atn3)], [(2, text_signs), (25, rounds_moneyn4), (26, rounds_draftn5)], [])) dX11_prizes_16 ML_X11_104 Yv_X9_clear rfl zW_1 rfl rfl (t_X9_clear l _ hcl) (zsub_i (zle_c rfl zle_n) zle_n zle_n) (zjok_i rfl rfl (zle_c rfl (zle_c rfl (zle_c rfl zle_n))) rfl rfl (zle_c rfl (zle_c rfl (zle_c rfl zle_n))) rfl rfl zle_n) (Nat.le_of_ble_eq_true rfl) (Nat.le_of_ble_eq_true rfl) rfl rfl ?_
  refine zJ_iload_n dX11_prizes_19 rfl rfl ?_
  obtain ⟨rfl, rfl, rfl, rfl, rfl, rfl⟩ := so6 h
  exact zJ_iret dX11_prizes_20 rfl rfl
set_option maxRecDepth 100000 in
set_option maxHeartbeats 4000000 in
theorem t_X4_fewestTenths (l : Launch) (σ : zS) {p1 : Int32} {letters_fences : Int32} {letters_least : (Nat → Int32)} {letters_spans : (Nat → Int32)} {r : Int32} (h : f_X4_fewestTenths p1 letters_fences letters_least letters_spans = some r) : zMt l zW 2 mX4_fewestTenths σ ([(2180, letters_fences)], [(37, letters_least), (38, letters_spans)], []) [.ref 34, .int p1] (some (.int r)) ([(2180, letters_fences)], [(37, letters_least), (38, letters_spans)], []) := by
  refine zMt_of (ls := [(0, .ref 34), (1, .int p1)]) (by decide) rfl (fun _ => Nat.le_of_ble_eq_true rfl) rfl ?_
  unfold f_X4_fewestTenths at h
  refine zJ_iconst dX4_fewestTenths_0 zc_0 rfl ?_
  refine zJ_istore_n (ls' := [(2, .int (0 : Int32)), (0, .ref 34), (1, .int p1)]) dX4_fewestTenths_1 rfl rfl rfl ?_
  have hk2 : ∀ (_u : Unit), k_X4_fewestTenths_2  _u = some r → zJ l zW 2 mX4_fewestTenths σ ([(2180, letters_fences)], [(37, letters_least), (38, letters_spans)], []) 41 [] [] (some (.int r)) ([(2180, letters_fences)], [(37, letters_least), (38, letters_spans)], []) := by
    intro _u h
    unfold k_X4_fewestTenths_2 at h
    refine zJ_iconst dX4_fewestTenths_41 zc_m1 rfl ?_
    obtain rfl := so1 h
    exact zJ_iret dX4_fewestTenths_42 rfl rfl
  refine zJ_loc (ls' := [(0, .ref 34), (1, .int p1), (2, .int (0 : Int32))]) (zll_c rfl (zll_c rfl (zll_c rfl zll_n))) ?_
  refine ml1_J (fun (v2_2 : Int32) => zJ l zW 2 mX4_fewestTenths σ ([(2180, letters_fences)], [(37, letters_least), (38, letters_spans)], []) 2 [(0, .ref 34), (1, .int p1), (2, .int v2_2)] [] (some (.int r)) ([(2180, letters_fences)], [(37, letters_least), (38, letters_spans)], [])) (fun rc2 hrc2 v2_2 h => ?_) zN _ h
  unfold s_X4_fewestTenths_2 at h
  refine zJ_iload_n dX4_fewestTenths_2 rfl rfl ?_
  refine zJ_aload_n dX4_fewestTenths_3 rfl rfl ?_
  refine zJ_getr (mi := mX4_fewestTenths) dX4_fewestTenths_4 F_X4_21 zW_34 rfl rfl ?_
  refine zJ_aload_n dX4_fewestTenths_7 rfl rfl ?_
  refine zJ_geti (mi := mX4_fewestTenths) (x := letters_fences) dX4_fewestTenths_8 F_X4_30 zW_34 rfl rfl rfl ?_
  obtain ⟨hg, h⟩ := gd_some h
  refine zJ_iald (mi := mX4_fewestTenths) (f := letters_spans) dX4_fewestTenths_11 zW_38 (ix_in hg) rfl rfl ?_
  refine zJ_icmp_gt (tgt := 41) dX4_fewestTenths_12 (by decide) rfl (fun hc => ?_) (fun hc => ?_)
  · replace h := it_t hc h
    refine zJ_loc (ls' := []) zll_n ?_
    exact hk2 _ h
  · replace h := it_f hc h
    refine zJ_aload_n dX4_fewestTenths_15 rfl rfl ?_
    refine zJ_iload_n dX4_fewestTenths_16 rfl rfl ?_
    obtain ⟨rn1, hcl, h⟩ := bd1_some h
    refine zJ_callV2 (σ := σ) (L := ([(2180, letters_fences)], [(37, letters_least), (38, letters_spans)], [])) (mi := mX4_fewestTenths) (yi := mX4_fearWith) (as := [.int v2_2]) (st := []) (L2 := ([(2180, letters_fences)], [(37, letters_least), (38, letters_spans)], [])) dX4_fewestTenths_17 ML_X4_58 Yv_X4_fearWith rfl zW_34 rfl rfl (t_X4_fearWith l _ hcl) (zsub_i (zle_c rfl zle_n) (zle_c rfl (zle_c rfl zle_n)) zle_n) (zjok_i rfl rfl (zle_c rfl zle_n) rfl rfl (zle_c rfl (zle_c rfl zle_n)) rfl rfl zle_n) (Nat.le_of_ble_eq_true rfl) (Nat.le_of_ble_eq_true rfl) rfl rfl ?_
    refine zJ_iconst dX4_fewestTenths_20 zc_m1 rfl ?_
    refine zJ_icmp_eq (tgt := 35) dX4_fewestTenths_21 (by decide) rfl (fun hc => ?_) (fun hc => ?_)
    · replace h := it_t hc h
      obtain ⟨v2n2, ev2n2, h⟩ := lt1_some h
      refine zJ_iincN (ls' := [(2, .int v2n2), (0, .ref 34), (1, .int p1)]) dX4_fewestTenths_35 rfl rfl zc_1 ev2n2 rfl rfl ?_
      refine zJ_goto (tgt := 2) dX4_fewestTenths_38 (by decide) ?_
      refine zJ_loc (ls' := [(0, .ref 34), (1, .int p1), (2, .int v2n2)]) (zll_c rfl (zll_c rfl (zll_c rfl zll_n))) ?_
      exact hrc2 _ h
    · replace h := it_f hc h
      refine zJ_aload_n dX4_fewestTenths_24 rfl rfl ?_
      refine zJ_iload_n dX4_fewestTenths_25 rfl rfl ?_
      obtain ⟨rn3, hcl, h⟩ := bd1_some h
      refine zJ_callV2 (σ := σ) (L := ([(2180, letters_fences)], [(37, letters_least), (38, letters_spans)], [])) (mi := mX4_fewestTenths) (yi := mX4_fearWith) (as := [.int v2_2]) (st := []) (L2 := ([(2180, letters_fences)], [(37, letters_least), (38, letters_spans)], [])) dX4_fewestTenths_26 ML_X4_58 Yv_X4_fearWith rfl zW_34 rfl rfl (t_X4_fearWith l _ hcl) (zsub_i (zle_c rfl zle_n) (zle_c rfl (zle_c rfl zle_n)) zle_n) (zjok_i rfl rfl (zle_c rfl zle_n) rfl rfl (zle_c rfl (zle_c rfl zle_n)) rfl rfl zle_n) (Nat.le_of_ble_eq_true rfl) (Nat.le_of_ble_eq_true rfl) rfl rfl ?_
      refine zJ_iload_n dX4_fewestTenths_29 rfl rfl ?_
      refine zJ_icmp_gt (tgt := 35) dX4_fewestTenths_30 (by decide) rfl (fun hc => ?_) (fun hc => ?_)
      · replace h := it_t hc h
        obtain ⟨v2n4, ev2n4, h⟩ := lt1_some h
        refine zJ_iincN (ls' := [(2, .int v2n4), (0, .ref 34), (1, .int p1)]) dX4_fewestTenths_35 rfl rfl zc_1 ev2n4 rfl rfl ?_
        refine zJ_goto (tgt := 2) dX4_fewestTenths_38 (by decide) ?_
        refine zJ_loc (ls' := [(0, .ref 34), (1, .int p1), (2, .int v2n4)]) (zll_c rfl (zll_c rfl (zll_c rfl zll_n))) ?_
        exact hrc2 _ h
      · replace h := it_f hc h
        refine zJ_iload_n dX4_fewestTenths_33 rfl rfl ?_
        obtain rfl := so1 h
        exact zJ_iret dX4_fewestTenths_34 rfl rfl
set_option maxRecDepth 100000 in
set_option maxHeartbeats 4000000 in
theorem t_X11_quick (l : Launch) (σ : zS) {p1 : Int32} {p2 : Int32} {numbers_size : Int32} {course_fences : Int32} {course_horseCount : Int32} {course_rule_size : Int32} {letters_fences : Int32} {course_kinds : (Nat → Int32)} {course_heights : (Nat → Int32)} {course_feet : (Nat → Int32)} {course_digits : (Nat → Int32)} {rule_codes : (Nat → Int32)} {rule_stack : (Nat → Int32)} {rule_things : (Nat → Int32)} {letters_fears : (Nat → Int32)} {letters_tenths : (Nat → Int32)} {letters_least : (Nat → Int32)} {letters_spans : (Nat → Int32)} {numbers_told : (Nat → Int64)} {r : Int32} {w_numbers_size : Int32} {w_letters_fences : Int32} {w_rule_stack : (Nat → Int32)} {w_rule_things : (Nat → Int32)} {w_letters_fears : (Nat → Int32)} {w_letters_tenths : (Nat → Int32)} {w_letters_least : (Nat → Int32)} {w_letters_spans : (Nat → Int32)} {w_numbers_told : (Nat → Int64)} (h : f_X11_quick p1 p2 numbers_size course_fences course_horseCount course_rule_size letters_fences course_kinds course_heights course_feet course_digits rule_codes rule_stack rule_things letters_fears letters_tenths letters_least letters_spans numbers_told = some (r, w_numbers_size, w_letters_fences, w_rule_stack, w_rule_things, w_letters_fears, w_letters_tenths, w_letters_least, w_letters_spans, w_numbers_told)) : zMt l zW 5 mX11_quick σ ([(193, numbers_size), (323, course_fences), (326, course_horseCount), (769, course_rule_size), (2180, letters_fences)], [(6, course_kinds), (7, course_heights), (8, course_feet), (10, course_digits), (13, rule_codes), (15, rule_stack), (16, rule_things), (35, letters_fears), (36, letters_tenths), (37, letters_least), (38, letters_spans)], [(4, numbers_told)]) [.ref 0, .int p1, .int p2] (some (.int r)) ([(193, w_numbers_size), (323, course_fences), (326, course_horseCount), (769, course_rule_size), (2180, w_letters_fences)], [(6, course_kinds), (7, course_heights), (8, course_feet), (10, course_digits), (13, rule_codes), (15, w_rule_stack), (16, w_rule_things), (35, w_letters_fears), (36, w_letters_tenths), (37, w_letters_least), (38, w_letters_spans)], [(4, w_numbers_told)]) := by
  refine zMt_of (ls := [(0, .ref 0), (1, .int p1), (2, .int p2)]) (by decide) rfl (fun _ => Nat.le_of_ble_eq_true rfl) rfl ?_
  unfold f_X11_quick at h
  refine zJ_aload_n dX11_quick_0 rfl rfl ?_
  refine zJ_getr (mi := mX11_quick) dX11_quick_1 F_X11_26 zW_0 rfl rfl ?_
  refine zJ_iload_n dX11_quick_4 rfl rfl ?_
  obtain ⟨rn1, hcl, h⟩ := bd1_some h
  refine zJ_callV2 (σ := σ) (L := ([(193, numbers_size), (323, course_fences), (326, course_horseCount), (769, course_rule_size), (2180, letters_fences)], [(6, course_kinds), (7, course_heights), (8, course_feet), (10, course_digits), (13, rule_codes), (15, rule_stack), (16, rule_things), (35, letters_fears), (36, letters_tenths), (37, letters_least), (38, letters_spans)], [(4, numbers_told)])) (mi := mX11_quick) (yi := mX1_hasHorse) (as := [.int p1]) (st := []) (L2 := ([(193, numbers_size), (323, course_fences), (326, course_horseCount), (769, course_rule_size), (2180, letters_fences)], [(6, course_kinds), (7, course_heights), (8, course_feet), (10, course_digits), (13, rule_codes), (15, rule_stack), (16, rule_things), (35, letters_fears), (36, letters_tenths), (37, letters_least), (38, letters_spans)], [(4, numbers_told)])) dX11_quick_5 ML_X11_147 Yv_X1_hasHorse rfl zW_5 rfl rfl (t_X1_hasHorse l _ hcl) (zsub_i (zle_c rfl zle_n) zle_n zle_n) (zjok_i rfl rfl (zle_c rfl (zle_c rfl (zle_c rfl (zle_c rfl (zle_c rfl zle_n))))) rfl rfl (zle_c rfl (zle_c rfl (zle_c rfl (zle_c rfl (zle_c rfl (zle_c rfl (zle_c rfl (zle_c rfl (zle_c rfl (zle_c rfl (zle_c rfl zle_n))))))))))) rfl rfl (zle_c rfl zle_n)) (Nat.le_of_ble_eq_true rfl) (Nat.le_of_ble_eq_true rfl) rfl rfl ?_
  refine zJ_if_eq (tgt := 22) dX11_quick_8 (by decide) rfl (fun hc => ?_) (fun hc => ?_)
  · replace h := it_t hc h
    refine zJ_iconst dX11_quick_22 zc_m1 rfl ?_
    obtain ⟨rfl, rfl, rfl, rfl, rfl, rfl, rfl, rfl, rfl, rfl⟩ := so10 h
    exact zJ_iret dX11_quick_23 rfl rfl
  · replace h := it_f hc h
    refine zJ_iload_n dX11_quick_11 rfl rfl ?_
    refine zJ_if_lt (tgt := 22) dX11_quick_12 (by decide) rfl (fun hc => ?_) (fun hc => ?_)
    · replace h := it_t hc h
      refine zJ_iconst dX11_quick_22 zc_m1 rfl ?_
      obtain ⟨rfl, rfl, rfl, rfl, rfl, rfl, rfl, rfl, rfl, rfl⟩ := so10 h
      exact zJ_iret dX11_quick_23 rfl rfl
    · replace h := it_f hc h
      refine zJ_iload_n dX11_quick_15 rfl rfl ?_
      refine zJ_sipush dX11_quick_16 zs_9999 rfl ?_
      refine zJ_icmp_le (tgt := 24) dX11_quick_19 (by decide) rfl (fun hc => ?_) (fun hc => ?_)
      · replace h := it_t hc h
        refine zJ_aload_n dX11_quick_24 rfl rfl ?_
        refine zJ_getr (mi := mX11_quick) dX11_quick_25 F_X11_59 zW_0 rfl rfl ?_
        refine zJ_aload_n dX11_quick_28 rfl rfl ?_
        refine zJ_getr (mi := mX11_quick) dX11_quick_29 F_X11_26 zW_0 rfl rfl ?_
        refine zJ_iload_n dX11_quick_32 rfl rfl ?_
        obtain ⟨letters_fencesn2, rule_stackn3, rule_thingsn4, letters_fearsn5, letters_tenthsn6, letters_leastn7, letters_spansn8, hcl, h⟩ := bd7_some h
        refine zJ_callV2 (σ := σ) (L := ([(193, numbers_size), (323, course_fences), (326, course_horseCount), (769, course_rule_size), (2180, letters_fences)], [(6, course_kinds), (7, course_heights), (8, course_feet), (10, course_digits), (13, rule_codes), (15, rule_stack), (16, rule_things), (35, letters_fears), (36, letters_tenths), (37, letters_least), (38, letters_spans)], [(4, numbers_told)])) (mi := mX11_quick) (yi := mX4_lay) (as := [.ref 5, .int p1]) (st := []) (L2 := ([(193, numbers_size), (323, course_fences), (326, course_horseCount), (769, course_rule_size), (2180, letters_fencesn2)], [(6, course_kinds), (7, course_heights), (8, course_feet), (10, course_digits), (13, rule_codes), (15, rule_stackn3), (16, rule_thingsn4), (35, letters_fearsn5), (36, letters_tenthsn6), (37, letters_leastn7), (38, letters_spansn8)], [(4, numbers_told)])) dX11_quick_33 ML_X11_219 Yv_X4_lay rfl zW_34 rfl rfl (t_X4_lay l _ hcl) (zsub_i (zle_c rfl (zle_c rfl (zle_c rfl zle_n))) (zle_c rfl (zle_c rfl (zle_c rfl (zle_c rfl (zle_c rfl (zle_c rfl (zle_c rfl (zle_c rfl (zle_c rfl (zle_c rfl (zle_c rfl zle_n))))))))))) zle_n) (zjok_i rfl rfl (zle_c rfl (zle_c rfl (zle_c rfl (zle_c rfl (zle_c rfl zle_n))))) rfl rfl (zle_c rfl (zle_c rfl (zle_c rfl (zle_c rfl (zle_c rfl (zle_c rfl (zle_c rfl (zle_c rfl (zle_c rfl (zle_c rfl (zle_c rfl zle_n))))))))))) rfl rfl (zle_c rfl zle_n)) (Nat.le_of_ble_eq_true rfl) (Nat.le_of_ble_eq_true rfl) rfl rfl ?_
        refine zJ_aload_n dX11_quick_36 rfl rfl ?_
        refine zJ_getr (mi := mX11_quick) dX11_quick_37 F_X11_59 zW_0 rfl rfl ?_
        refine zJ_iload_n dX11_quick_40 rfl rfl ?_
        obtain ⟨rn9, hcl, h⟩ := bd1_some h
        refine zJ_callV2 (σ := σ) (L := ([(193, numbers_size), (323, course_fences), (326, course_horseCount), (769, course_rule_size), (2180, letters_fencesn2)], [(6, course_kinds), (7, course_heights), (8, course_feet), (10, course_digits), (13, rule_codes), (15, rule_stackn3), (16, rule_thingsn4), (35, letters_fearsn5), (36, letters_tenthsn6), (37, letters_leastn7), (38, letters_spansn8)], [(4, numbers_told)])) (mi := mX11_quick) (yi := mX4_fewestTenths) (as := [.int p2]) (st := []) (L2 := ([(193, numbers_size), (323, course_fences), (326, course_horseCount), (769, course_rule_size), (2180, letters_fencesn2)], [(6, course_kinds), (7, course_heights), (8, course_feet), (10, course_digits), (13, rule_codes), (15, rule_stackn3), (16, rule_thingsn4), (35, letters_fearsn5), (36, letters_tenthsn6), (37, letters_leastn7), (38, letters_spansn8)], [(4, numbers_told)])) dX11_quick_41 ML_X11_223 Yv_X4_fewestTenths rfl zW_34 rfl rfl (t_X4_fewestTenths l _ hcl) (zsub_i (zle_c rfl zle_n) (zle_c rfl (zle_c rfl zle_n)) zle_n) (zjok_i rfl rfl (zle_c rfl (zle_c rfl (zle_c rfl (zle_c rfl (zle_c rfl zle_n))))) rfl rfl (zle_c rfl (zle_c rfl (zle_c rfl (zle_c rfl (zle_c rfl (zle_c rfl (zle_c rfl (zle_c rfl (zle_c rfl (zle_c rfl (zle_c rfl zle_n))))))))))) rfl rfl (zle_c rfl zle_n)) (Nat.le_of_ble_eq_true rfl) (Nat.le_of_ble_eq_true rfl) rfl rfl ?_
        refine zJ_istore_n (ls' := [(3, .int rn9), (0, .ref 0), (1, .int p1), (2, .int p2)]) dX11_quick_44 rfl rfl rfl ?_
        refine zJ_iload_n dX11_quick_45 rfl rfl ?_
        refine zJ_iconst dX11_quick_46 zc_m1 rfl ?_
        refine zJ_icmp_ne (tgt := 53) dX11_quick_47 (by decide) rfl (fun hc => ?_) (fun hc => ?_)
        · replace h := it_f hc h
          refine zJ_aload_n dX11_quick_53 rfl rfl ?_
          refine zJ_getr (mi := mX11_quick) dX11_quick_54 F_X11_19 zW_0 rfl rfl ?_
          obtain ⟨numbers_sizen10, hcl, h⟩ := bd1_some h
          refine zJ_callV2 (σ := σ) (L := ([(193, numbers_size), (323, course_fences), (326, course_horseCount), (769, course_rule_size), (2180, letters_fencesn2)], [(6, course_kinds), (7, course_heights), (8, course_feet), (10, course_digits), (13, rule_codes), (15, rule_stackn3), (16, rule_thingsn4), (35, letters_fearsn5), (36, letters_tenthsn6), (37, letters_leastn7), (38, letters_spansn8)], [(4, numbers_told)])) (mi := mX11_quick) (yi := mX6_start) (as := []) (st := []) (L2 := ([(193, numbers_sizen10), (323, course_fences), (326, course_horseCount), (769, course_rule_size), (2180, letters_fencesn2)], [(6, course_kinds), (7, course_heights), (8, course_feet), (10, course_digits), (13, rule_codes), (15, rule_stackn3), (16, rule_thingsn4), (35, letters_fearsn5), (36, letters_tenthsn6), (37, letters_leastn7), (38, letters_spansn8)], [(4, numbers_told)])) dX11_quick_57 ML_X11_171 Yv_X6_start rfl zW_3 rfl rfl (t_X6_start l _ hcl) (zsub_i (zle_c rfl zle_n) zle_n zle_n) (zjok_i rfl rfl (zle_c rfl (zle_c rfl (zle_c rfl (zle_c rfl (zle_c rfl zle_n))))) rfl rfl (zle_c rfl (zle_c rfl (zle_c rfl (zle_c rfl (zle_c rfl (zle_c rfl (zle_c rfl (zle_c rfl (zle_c rfl (zle_c rfl (zle_c rfl zle_n))))))))))) rfl rfl (zle_c rfl zle_n)) (Nat.le_of_ble_eq_true rfl) (Nat.le_of_ble_eq_true rfl) rfl rfl ?_
          refine zJ_aload_n dX11_quick_60 rfl rfl ?_
          refine zJ_getr (mi := mX11_quick) dX11_quick_61 F_X11_19 zW_0 rfl rfl ?_
          refine zJ_aload_n dX11_quick_64 rfl rfl ?_
          refine zJ_getr (mi := mX11_quick) dX11_quick_65 F_X11_59 zW_0 rfl rfl ?_
          refine zJ_iload_n dX11_quick_68 rfl rfl ?_
          obtain ⟨rn11, hcl, h⟩ := bd1_some h
          refine zJ_callV2 (σ := σ) (L := ([(193, numbers_sizen10), (323, course_fences), (326, course_horseCount), (769, course_rule_size), (2180, letters_fencesn2)], [(6, course_kinds), (7, course_heights), (8, course_feet), (10, course_digits), (13, rule_codes), (15, rule_stackn3), (16, rule_thingsn4), (35, letters_fearsn5), (36, letters_tenthsn6), (37, letters_leastn7), (38, letters_spansn8)], [(4, numbers_told)])) (mi := mX11_quick) (yi := mX4_fearWith) (as := [.int rn9]) (st := [.ref 3]) (L2 := ([(193, numbers_sizen10), (323, course_fences), (326, course_horseCount), (769, course_rule_size), (2180, letters_fencesn2)], [(6, course_kinds), (7, course_heights), (8, course_feet), (10, course_digits), (13, rule_codes), (15, rule_stackn3), (16, rule_thingsn4), (35, letters_fearsn5), (36, letters_tenthsn6), (37, letters_leastn7), (38, letters_spansn8)], [(4, numbers_told)])) dX11_quick_69 ML_X11_226 Yv_X4_fearWith rfl zW_34 rfl rfl (t_X4_fearWith l _ hcl) (zsub_i (zle_c rfl zle_n) (zle_c rfl (zle_c rfl zle_n)) zle_n) (zjok_i rfl rfl (zle_c rfl (zle_c rfl (zle_c rfl (zle_c rfl (zle_c rfl zle_n))))) rfl rfl (zle_c rfl (zle_c rfl (zle_c rfl (zle_c rfl (zle_c rfl (zle_c rfl (zle_c rfl (zle_c rfl (zle_c rfl (zle_c rfl (zle_c rfl zle_n))))))))))) rfl rfl (zle_c rfl zle_n)) (Nat.le_of_ble_eq_true rfl) (Nat.le_of_ble_eq_true rfl) rfl rfl ?_
          refine zJ_i2l dX11_quick_72 rfl ?_
          obtain ⟨numbers_sizen12, numbers_toldn13, hcl, h⟩ := bd2_some h
          refine zJ_callV2 (σ := σ) (L := ([(193, numbers_sizen10), (323, course_fences), (326, course_horseCount), (769, course_rule_size), (2180, letters_fencesn2)], [(6, course_kinds), (7, course_heights), (8, course_feet), (10, course_digits), (13, rule_codes), (15, rule_stackn3), (16, rule_thingsn4), (35, letters_fearsn5), (36, letters_tenthsn6), (37, letters_leastn7), (38, letters_spansn8)], [(4, numbers_told)])) (mi := mX11_quick) (yi := mX6_put) (as := [.long rn11.toInt64]) (st := []) (L2 := ([(193, numbers_sizen12), (323, course_fences), (326, course_horseCount), (769, course_rule_size), (2180, letters_fencesn2)], [(6, course_kinds), (7, course_heights), (8, course_feet), (10, course_digits), (13, rule_codes), (15, rule_stackn3), (16, rule_thingsn4), (35, letters_fearsn5), (36, letters_tenthsn6), (37, letters_leastn7), (38, letters_spansn8)], [(4, numbers_toldn13)])) dX11_quick_73 ML_X11_177 Yv_X6_put rfl zW_3 rfl rfl (t_X6_put l _ hcl) (zsub_i (zle_c rfl zle_n) zle_n (zle_c rfl zle_n)) (zjok_i rfl rfl (zle_c rfl (zle_c rfl (zle_c rfl (zle_c rfl (zle_c rfl zle_n))))) rfl rfl (zle_c rfl (zle_c rfl (zle_c rfl (zle_c rfl (zle_c rfl (zle_c rfl (zle_c rfl (zle_c rfl (zle_c rfl (zle_c rfl (zle_c rfl zle_n))))))))))) rfl rfl (zle_c rfl zle_n)) (Nat.le_of_ble_eq_true rfl) (Nat.le_of_ble_eq_true rfl) rfl rfl ?_
          refine zJ_aload_n dX11_quick_76 rfl rfl ?_
          refine zJ_getr (mi := mX11_quick) dX11_quick_77 F_X11_59 zW_0 rfl rfl ?_
          refine zJ_aload_n dX11_quick_80 rfl rfl ?_
          refine zJ_getr (mi := mX11_quick) dX11_quick_81 F_X11_19 zW_0 rfl rfl ?_
          refine zJ_iload_n dX11_quick_84 rfl rfl ?_
          obtain ⟨numbers_sizen14, numbers_toldn15, hcl, h⟩ := bd2_some h
          refine zJ_callV2 (σ := σ) (L := ([(193, numbers_sizen12), (323, course_fences), (326, course_horseCount), (769, course_rule_size), (2180, letters_fencesn2)], [(6, course_kinds), (7, course_heights), (8, course_feet), (10, course_digits), (13, rule_codes), (15, rule_stackn3), (16, rule_thingsn4), (35, letters_fearsn5), (36, letters_tenthsn6), (37, letters_leastn7), (38, letters_spansn8)], [(4, numbers_toldn13)])) (mi := mX11_quick) (yi := mX4_tell) (as := [.ref 3, .int rn9]) (st := []) (L2 := ([(193, numbers_sizen14), (323, course_fences), (326, course_horseCount), (769, course_rule_size), (2180, letters_fencesn2)], [(6, course_kinds), (7, course_heights), (8, course_feet), (10, course_digits), (13, rule_codes), (15, rule_stackn3), (16, rule_thingsn4), (35, letters_fearsn5), (36, letters_tenthsn6), (37, letters_leastn7), (38, letters_spansn8)], [(4, numbers_toldn15)])) dX11_quick_85 ML_X11_229 Yv_X4_tell rfl zW_34 rfl rfl (t_X4_tell l _ hcl) (zsub_i (zle_c rfl (zle_c rfl zle_n)) (zle_c rfl (zle_c rfl (zle_c rfl (zle_c rfl zle_n)))) (zle_c rfl zle_n)) (zjok_i rfl rfl (zle_c rfl (zle_c rfl (zle_c rfl (zle_c rfl (zle_c rfl zle_n))))) rfl rfl (zle_c rfl (zle_c rfl (zle_c rfl (zle_c rfl (zle_c rfl (zle_c rfl (zle_c rfl (zle_c rfl (zle_c rfl (zle_c rfl (zle_c rfl zle_n))))))))))) rfl rfl (zle_c rfl zle_n)) (Nat.le_of_ble_eq_true rfl) (Nat.le_of_ble_eq_true rfl) rfl rfl ?_
          refine zJ_iload_n dX11_quick_88 rfl rfl ?_
          obtain ⟨rfl, rfl, rfl, rfl, rfl, rfl, rfl, rfl, rfl, rfl⟩ := so10 h
          exact zJ_iret dX11_quick_89 rfl rfl
        · replace h := it_t hc h
          refine zJ_bipush dX11_quick_50 zb_m2 rfl ?_
          obtain ⟨rfl, rfl, rfl, rfl, rfl, rfl, rfl, rfl, rfl, rfl⟩ := so10 h
          exact zJ_iret dX11_quick_52 rfl rfl
      · replace h := it_f hc h
        refine zJ_iconst dX11_quick_22 zc_m1 rfl ?_
        obtain ⟨rfl, rfl, rfl, rfl, rfl, rfl, rfl, rfl, rfl, rfl⟩ := so10 h
        exact zJ_iret dX11_quick_23 rfl rfl
set_option maxRecDepth 100000 in
set_option maxHeartbeats 4000000 in
theorem t_X11_raise (l : Launch) (σ : zS) {p1 : Int32} {p2 : Int32} {course_fences : Int32} {course_heights : (Nat → Int32)} {r : Int32} {w_course_heights : (Nat → Int32)} (h : f_X11_raise p1 p2 course_fences course_heights = some (r, w_course_heights)) : zMt l zW 1 mX11_raise σ ([(323, course_fences)], [(7, course_heights)], []) [.ref 0, .int p1, .int p2] (some (.int r)) ([(323, course_fences)], [(7, w_course_heights)], []) := by
  refine zMt_of (ls := [(0, .ref 0), (1, .int p1), (2, .int p2)]) (by decide) rfl (fun _ => Nat.le_of_ble_eq_true rfl) rfl ?_
  unfold f_X11_raise at h
  refine zJ_aload_n dX11_raise_0 rfl rfl ?_
  refine zJ_getr (mi := mX11_raise) dX11_raise_1 F_X11_26 zW_0 rfl rfl ?_
  refine zJ_iload_n dX11_raise_4 rfl rfl ?_
  obtain ⟨rn1, hcl, h⟩ := bd1_some h
  refine zJ_callV2 (σ := σ) (L := ([(323, course_fences)], [(7, course_heights)], [])) (mi := mX11_raise) (yi := mX1_hasFence) (as := [.int p1]) (st := []) (L2 := ([(323, course_fences)], [(7, course_heights)], [])) dX11_raise_5 ML_X11_132 Yv_X1_hasFence rfl zW_5 rfl rfl (t_X1_hasFence l _ hcl) (zsub_i (zle_c rfl zle_n) zle_n zle_n) (zjok_i rfl rfl (zle_c rfl zle_n) rfl rfl (zle_c rfl zle_n) rfl rfl zle_n) (Nat.le_of_ble_eq_true rfl) (Nat.le_of_ble_eq_true rfl) rfl rfl ?_
  refine zJ_if_eq (tgt := 21) dX11_raise_8 (by decide) rfl (fun hc => ?_) (fun hc => ?_)
  · replace h := it_t hc h
    refine zJ_iconst dX11_raise_21 zc_m1 rfl ?_
    obtain ⟨rfl, rfl⟩ := so2 h
    exact zJ_iret dX11_raise_22 rfl rfl
  · replace h := it_f hc h
    refine zJ_iload_n dX11_raise_11 rfl rfl ?_
    refine zJ_if_lt (tgt := 21) dX11_raise_12 (by decide) rfl (fun hc => ?_) (fun hc => ?_)
    · replace h := it_t hc h
      refine zJ_iconst dX11_raise_21 zc_m1 rfl ?_
      obtain ⟨rfl, rfl⟩ := so2 h
      exact zJ_iret dX11_raise_22 rfl rfl
    · replace h := it_f hc h
      refine zJ_iload_n dX11_raise_15 rfl rfl ?_
      refine zJ_bipush dX11_raise_16 zb_9 rfl ?_
      refine zJ_icmp_le (tgt := 23) dX11_raise_18 (by decide) rfl (fun hc => ?_) (fun hc => ?_)
      · replace h := it_t hc h
        refine zJ_aload_n dX11_raise_23 rfl rfl ?_
        refine zJ_getr (mi := mX11_raise) dX11_raise_24 F_X11_26 zW_0 rfl rfl ?_
        refine zJ_getr (mi := mX11_raise) dX11_raise_27 F_X11_141 zW_5 rfl rfl ?_
        refine zJ_iload_n dX11_raise_30 rfl rfl ?_
        obtain ⟨hg, h⟩ := gd_some h
        refine zJ_iald (mi := mX11_raise) (f := course_heights) dX11_raise_31 zW_7 (ix_in hg) rfl rfl ?_
        obtain ⟨v3n2, ev3n2, h⟩ := lt1_some h
        refine zJ_nmi ev3n2 ?_
        refine zJ_istore_n (ls' := [(3, .int v3n2), (0, .ref 0), (1, .int p1), (2, .int p2)]) dX11_raise_32 rfl rfl rfl ?_
        refine zJ_aload_n dX11_raise_33 rfl rfl ?_
        refine zJ_getr (mi := mX11_raise) dX11_raise_34 F_X11_26 zW_0 rfl rfl ?_
        refine zJ_getr (mi := mX11_raise) dX11_raise_37 F_X11_141 zW_5 rfl rfl ?_
        refine zJ_iload_n dX11_raise_40 rfl rfl ?_
        refine zJ_iload_n dX11_raise_41 rfl rfl ?_
        obtain ⟨hg, h⟩ := gd_some h
        refine zK_iast (mi := mX11_raise) (f := course_heights) (lb' := [(7, (upd course_heights p1.toNatClampNeg p2))]) dX11_raise_42 zW_7 (ix_in hg) rfl rfl rfl ?_
        refine zJ_iload_n dX11_raise_43 rfl rfl ?_
        obtain ⟨rfl, rfl⟩ := so2 h
        exact zJ_iret dX11_raise_44 rfl rfl
      · replace h := it_f hc h
        refine zJ_iconst dX11_raise_21 zc_m1 rfl ?_
        obtain ⟨rfl, rfl⟩ := so2 h
        exact zJ_iret dX11_raise_22 rfl rfl
set_option maxRecDepth 100000 in
set_option maxHeartbeats 4000000 in
theorem t_X8_commit_history (l : Launch) (σ : zS) {history_slots : Int32} {history_count : Int32} {history_cells : (Nat → Int32)} {history_sizes : (Nat → Int32)} {w_history_count : Int32} {w_history_cells : (Nat → Int32)} {w_history_sizes : (Nat → Int32)} (h : f_X8_commit_history history_slots history_count history_cells history_sizes = some (w_history_count, w_history_cells, w_history_sizes)) : zMt l zW 1 mX8_commit σ ([(1728, history_slots), (1731, history_count)], [(28, history_cells), (29, history_sizes)], []) [.ref 27] none ([(1728, history_slots), (1731, w_history_count)], [(28, w_history_cells), (29, w_history_sizes)], []) := by
  refine zMt_of (ls := [(0, .ref 27)]) (by decide) rfl (fun _ => Nat.le_of_ble_eq_true rfl) rfl ?_
  unfold f_X8_commit_history at h
  refine zJ_aload_n dX8_commit_0 rfl rfl ?_
  refine zJ_geti (mi := mX8_commit) (x := history_count) dX8_commit_1 F_X8_34 zW_27 rfl rfl rfl ?_
  refine zJ_aload_n dX8_commit_4 rfl rfl ?_
  refine zJ_geti (mi := mX8_commit) (x := history_slots) dX8_commit_5 F_X8_15 zW_27 rfl rfl rfl ?_
  refine zJ_iconst dX8_commit_8 zc_1 rfl ?_
  refine zJ_isub dX8_commit_9 rfl ?_
  refine zJ_icmp_ge (tgt := 24) dX8_commit_10 (by decide) rfl (fun hc => ?_) (fun hc => ?_)
  · replace h := it_t hc h
    refine zJ_aload_n dX8_commit_24 rfl rfl ?_
    refine zJ_getr (mi := mX8_commit) dX8_commit_25 F_X8_21 zW_27 rfl rfl ?_
    refine zJ_bipush dX8_commit_28 zb_48 rfl ?_
    refine zJ_aload_n dX8_commit_30 rfl rfl ?_
    refine zJ_getr (mi := mX8_commit) dX8_commit_31 F_X8_21 zW_27 rfl rfl ?_
    refine zJ_iconst dX8_commit_34 zc_0 rfl ?_
    refine zJ_aload_n dX8_commit_35 rfl rfl ?_
    refine zJ_geti (mi := mX8_commit) (x := history_slots) dX8_commit_36 F_X8_15 zW_27 rfl rfl rfl ?_
    refine zJ_iconst dX8_commit_39 zc_1 rfl ?_
    refine zJ_isub dX8_commit_40 rfl ?_
    refine zJ_bipush dX8_commit_41 zb_48 rfl ?_
    refine zJ_imul dX8_commit_43 rfl ?_
    obtain ⟨hg, h⟩ := gd_some h
    refine zK_copyi (mi := mX8_commit) (f := history_cells) (g := history_cells) (lb' := [(28, (va_cpy history_cells history_cells (48 : Int32).toNatClampNeg (0 : Int32).toNatClampNeg ((history_slots - (1 : Int32)) * (48 : Int32)).toNatClampNeg)), (29, history_sizes)]) dX8_commit_44 L_X8_42 K_cpy_n K_cpy_s K_sys zW_28 zW_28 rfl rfl (cpok_s hg) (Nat.le_of_ble_eq_true rfl) (Nat.le_of_ble_eq_true rfl) rfl rfl ?_
    refine zJ_aload_n dX8_commit_47 rfl rfl ?_
    refine zJ_getr (mi := mX8_commit) dX8_commit_48 F_X8_25 zW_27 rfl rfl ?_
    refine zJ_iconst dX8_commit_51 zc_1 rfl ?_
    refine zJ_aload_n dX8_commit_52 rfl rfl ?_
    refine zJ_getr (mi := mX8_commit) dX8_commit_53 F_X8_25 zW_27 rfl rfl ?_
    refine zJ_iconst dX8_commit_56 zc_0 rfl ?_
    refine zJ_aload_n dX8_commit_57 rfl rfl ?_
    refine zJ_geti (mi := mX8_commit) (x := history_slots) dX8_commit_58 F_X8_15 zW_27 rfl rfl rfl ?_
    refine zJ_iconst dX8_commit_61 zc_1 rfl ?_
    refine zJ_isub dX8_commit_62 rfl ?_
    obtain ⟨hg, h⟩ := gd_some h
    refine zK_copyi (mi := mX8_commit) (f := history_sizes) (g := history_sizes) (lb' := [(28, (va_cpy history_cells history_cells (48 : Int32).toNatClampNeg (0 : Int32).toNatClampNeg ((history_slots - (1 : Int32)) * (48 : Int32)).toNatClampNeg)), (29, (va_cpy history_sizes history_sizes (1 : Int32).toNatClampNeg (0 : Int32).toNatClampNeg (history_slots - (1 : Int32)).toNatClampNeg))]) dX8_commit_63 L_X8_42 K_cpy_n K_cpy_s K_sys zW_29 zW_29 rfl rfl (cpok_s hg) (Nat.le_of_ble_eq_true rfl) (Nat.le_of_ble_eq_true rfl) rfl rfl ?_
    obtain ⟨rfl, rfl, rfl⟩ := so3 h
    exact zJ_vret dX8_commit_66 rfl
  · replace h := it_f hc h
    refine zJ_aload_n dX8_commit_13 rfl rfl ?_
    refine zJ_dup dX8_commit_14 rfl rfl ?_
    refine zJ_geti (mi := mX8_commit) (x := history_count) dX8_commit_15 F_X8_34 zW_27 rfl rfl rfl ?_
    refine zJ_iconst dX8_commit_18 zc_1 rfl ?_
    refine zJ_iadd dX8_commit_19 rfl ?_
    refine zK_puti (mi := mX8_commit) (la' := [(1728, history_slots), (1731, (history_count + (1 : Int32)))]) zW_ok dX8_commit_20 F_X8_34 P_8_3 zW_27 rfl rfl rfl ?_
    obtain ⟨rfl, rfl, rfl⟩ := so3 h
    exact zJ_vret dX8_commit_23 rfl
set_option maxRecDepth 100000 in
set_option maxHeartbeats 4000000 in
theorem t_X8_store_history (l : Launch) (σ : zS) {p1 : Int32} {rounds_size : Int32} {history_slots : Int32} {rounds_riders : (Nat → Int32)} {rounds_horses : (Nat → Int32)} {rounds_faults : (Nat → Int32)} {rounds_tenths : (Nat → Int32)} {history_cells : (Nat → Int32)} {history_sizes : (Nat → Int32)} {r : Int32} {w_history_cells : (Nat → Int32)} {w_history_sizes : (Nat → Int32)} (h : f_X8_store_history p1 rounds_size history_slots rounds_riders rounds_horses rounds_faults rounds_tenths history_cells history_sizes = some (r, w_history_cells, w_history_sizes)) : zMt l zW 1 mX8_store σ ([(1284, rounds_size), (1728, history_slots)], [(21, rounds_riders), (22, rounds_horses), (23, rounds_faults), (24, rounds_tenths), (28, history_cells), (29, history_sizes)], []) [.ref 27, .int p1, .ref 20] (some (.int r)) ([(1284, rounds_size), (1728, history_slots)], [(21, rounds_riders), (22, rounds_horses), (23, rounds_faults), (24, rounds_tenths), (28, w_history_cells), (29, w_history_sizes)], []) := by
  refine zMt_of (ls := [(0, .ref 27), (1, .int p1), (2, .ref 20)]) (by decide) rfl (fun _ => Nat.le_of_ble_eq_true rfl) rfl ?_
  unfold f_X8_store_history at h
  refine zJ_iload_n dX8_store_0 rfl rfl ?_
  refine zJ_if_lt (tgt := 12) dX8_store_1 (by decide) rfl (fun hc => ?_) (fun hc => ?_)
  · replace h := it_t hc h
    refine zJ_iconst dX8_store_12 zc_0 rfl ?_
    obtain ⟨rfl, rfl, rfl⟩ := so3 h
    exact zJ_iret dX8_store_13 rfl (by decide)
  · replace h := it_f hc h
    refine zJ_iload_n dX8_store_4 rfl rfl ?_
    refine zJ_aload_n dX8_store_5 rfl rfl ?_
    refine zJ_geti (mi := mX8_store) (x := history_slots) dX8_store_6 F_X8_15 zW_27 rfl rfl rfl ?_
    refine zJ_icmp_lt (tgt := 14) dX8_store_9 (by decide) rfl (fun hc => ?_) (fun hc => ?_)
    · replace h := it_t hc h
      refine zJ_iload_n dX8_store_14 rfl rfl ?_
      refine zJ_bipush dX8_store_15 zb_48 rfl ?_
      refine zJ_imul dX8_store_17 rfl ?_
      obtain ⟨v3n1, ev3n1, h⟩ := lt1_some h
      refine zJ_nmi ev3n1 ?_
      refine zJ_istore_n (ls' := [(3, .int v3n1), (0, .ref 27), (1, .int p1), (2, .ref 20)]) dX8_store_18 rfl rfl rfl ?_
      refine zJ_aload_n dX8_store_19 rfl rfl ?_
      refine zJ_getr (mi := mX8_store) dX8_store_20 F_X8_37 zW_20 rfl rfl ?_
      refine zJ_iconst dX8_store_23 zc_0 rfl ?_
      refine zJ_aload_n dX8_store_24 rfl rfl ?_
      refine zJ_getr (mi := mX8_store) dX8_store_25 F_X8_21 zW_27 rfl rfl ?_
      refine zJ_iload_n dX8_store_28 rfl rfl ?_
      refine zJ_bipush dX8_store_29 zb_12 rfl ?_
      obtain ⟨hg, h⟩ := gd_some h
      refine zK_copyi (mi := mX8_store) (f := rounds_riders) (g := history_cells) (lb' := [(21, rounds_riders), (22, rounds_horses), (23, rounds_faults), (24, rounds_tenths), (28, (va_cpy rounds_riders history_cells (0 : Int32).toNatClampNeg v3n1.toNatClampNeg (12 : Int32).toNatClampNeg)), (29, history_sizes)]) dX8_store_31 L_X8_42 K_cpy_n K_cpy_s K_sys zW_21 zW_28 rfl rfl (cpok_s hg) (Nat.le_of_ble_eq_true rfl) (Nat.le_of_ble_eq_true rfl) rfl rfl ?_
      refine zJ_aload_n dX8_store_34 rfl rfl ?_
      refine zJ_getr (mi := mX8_store) dX8_store_35 F_X8_48 zW_20 rfl rfl ?_
      refine zJ_iconst dX8_store_38 zc_0 rfl ?_
      refine zJ_aload_n dX8_store_39 rfl rfl ?_
      refine zJ_getr (mi := mX8_store) dX8_store_40 F_X8_21 zW_27 rfl rfl ?_
      refine zJ_iload_n dX8_store_43 rfl rfl ?_
      refine zJ_bipush dX8_store_44 zb_12 rfl ?_
      refine zJ_iadd dX8_store_46 rfl ?_
      refine zJ_bipush dX8_store_47 zb_12 rfl ?_
      obtain ⟨hg, h⟩ := gd_some h
      refine zK_copyi (mi := mX8_store) (f := rounds_horses) (g := ((va_cpy rounds_riders history_cells (0 : Int32).toNatClampNeg v3n1.toNatClampNeg (12 : Int32).toNatClampNeg))) (lb' := [(21, rounds_riders), (22, rounds_horses), (23, rounds_faults), (24, rounds_tenths), (28, (va_cpy rounds_horses ((va_cpy rounds_riders history_cells (0 : Int32).toNatClampNeg v3n1.toNatClampNeg (12 : Int32).toNatClampNeg)) (0 : Int32).toNatClampNeg (v3n1 + (12 : Int32)).toNatClampNeg (12 : Int32).toNatClampNeg)), (29, history_sizes)]) dX8_store_49 L_X8_42 K_cpy_n K_cpy_s K_sys zW_22 zW_28 rfl rfl (cpok_s hg) (Nat.le_of_ble_eq_true rfl) (Nat.le_of_ble_eq_true rfl) rfl rfl ?_
      refine zJ_aload_n dX8_store_52 rfl rfl ?_
      refine zJ_getr (mi := mX8_store) dX8_store_53 F_X8_51 zW_20 rfl rfl ?_
      refine zJ_iconst dX8_store_56 zc_0 rfl ?_
      refine zJ_aload_n dX8_store_57 rfl rfl ?_
      refine zJ_getr (mi := mX8_store) dX8_store_58 F_X8_21 zW_27 rfl rfl ?_
      refine zJ_iload_n dX8_store_61 rfl rfl ?_
      refine zJ_bipush dX8_store_62 zb_24 rfl ?_
      refine zJ_iadd dX8_store_64 rfl ?_
      refine zJ_bipush dX8_store_65 zb_12 rfl ?_
      obtain ⟨hg, h⟩ := gd_some h
      refine zK_copyi (mi := mX8_store) (f := rounds_faults) (g := ((va_cpy rounds_horses ((va_cpy rounds_riders history_cells (0 : Int32).toNatClampNeg v3n1.toNatClampNeg (12 : Int32).toNatClampNeg)) (0 : Int32).toNatClampNeg (v3n1 + (12 : Int32)).toNatClampNeg (12 : Int32).toNatClampNeg))) (lb' := [(21, rounds_riders), (22, rounds_horses), (23, rounds_faults), (24, rounds_tenths), (28, (va_cpy rounds_faults ((va_cpy rounds_horses ((va_cpy rounds_riders history_cells (0 : Int32).toNatClampNeg v3n1.toNatClampNeg (12 : Int32).toNatClampNeg)) (0 : Int32).toNatClampNeg (v3n1 + (12 : Int32)).toNatClampNeg (12 : Int32).toNatClampNeg)) (0 : Int32).toNatClampNeg (v3n1 + (24 : Int32)).toNatClampNeg (12 : Int32).toNatClampNeg)), (29, history_sizes)]) dX8_store_67 L_X8_42 K_cpy_n K_cpy_s K_sys zW_23 zW_28 rfl rfl (cpok_s hg) (Nat.le_of_ble_eq_true rfl) (Nat.le_of_ble_eq_true rfl) rfl rfl ?_
      refine zJ_aload_n dX8_store_70 rfl rfl ?_
      refine zJ_getr (mi := mX8_store) dX8_store_71 F_X8_54 zW_20 rfl rfl ?_
      refine zJ_iconst dX8_store_74 zc_0 rfl ?_
      refine zJ_aload_n dX8_store_75 rfl rfl ?_
      refine zJ_getr (mi := mX8_store) dX8_store_76 F_X8_21 zW_27 rfl rfl ?_
      refine zJ_iload_n dX8_store_79 rfl rfl ?_
      refine zJ_bipush dX8_store_80 zb_36 rfl ?_
      refine zJ_iadd dX8_store_82 rfl ?_
      refine zJ_bipush dX8_store_83 zb_12 rfl ?_
      obtain ⟨hg, h⟩ := gd_some h
      refine zK_copyi (mi := mX8_store) (f := rounds_tenths) (g := ((va_cpy rounds_faults ((va_cpy rounds_horses ((va_cpy rounds_riders history_cells (0 : Int32).toNatClampNeg v3n1.toNatClampNeg (12 : Int32).toNatClampNeg)) (0 : Int32).toNatClampNeg (v3n1 + (12 : Int32)).toNatClampNeg (12 : Int32).toNatClampNeg)) (0 : Int32).toNatClampNeg (v3n1 + (24 : Int32)).toNatClampNeg (12 : Int32).toNatClampNeg))) (lb' := [(21, rounds_riders), (22, rounds_horses), (23, rounds_faults), (24, rounds_tenths), (28, (va_cpy rounds_tenths ((va_cpy rounds_faults ((va_cpy rounds_horses ((va_cpy rounds_riders history_cells (0 : Int32).toNatClampNeg v3n1.toNatClampNeg (12 : Int32).toNatClampNeg)) (0 : Int32).toNatClampNeg (v3n1 + (12 : Int32)).toNatClampNeg (12 : Int32).toNatClampNeg)) (0 : Int32).toNatClampNeg (v3n1 + (24 : Int32)).toNatClampNeg (12 : Int32).toNatClampNeg)) (0 : Int32).toNatClampNeg (v3n1 + (36 : Int32)).toNatClampNeg (12 : Int32).toNatClampNeg)), (29, history_sizes)]) dX8_store_85 L_X8_42 K_cpy_n K_cpy_s K_sys zW_24 zW_28 rfl rfl (cpok_s hg) (Nat.le_of_ble_eq_true rfl) (Nat.le_of_ble_eq_true rfl) rfl rfl ?_
      refine zJ_aload_n dX8_store_88 rfl rfl ?_
      refine zJ_getr (mi := mX8_store) dX8_store_89 F_X8_25 zW_27 rfl rfl ?_
      refine zJ_iload_n dX8_store_92 rfl rfl ?_
      refine zJ_aload_n dX8_store_93 rfl rfl ?_
      refine zJ_geti (mi := mX8_store) (x := rounds_size) dX8_store_94 F_X8_57 zW_20 rfl rfl rfl ?_
      obtain ⟨hg, h⟩ := gd_some h
      refine zK_iast (mi := mX8_store) (f := history_sizes) (lb' := [(21, rounds_riders), (22, rounds_horses), (23, rounds_faults), (24, rounds_tenths), (28, (va_cpy rounds_tenths ((va_cpy rounds_faults ((va_cpy rounds_horses ((va_cpy rounds_riders history_cells (0 : Int32).toNatClampNeg v3n1.toNatClampNeg (12 : Int32).toNatClampNeg)) (0 : Int32).toNatClampNeg (v3n1 + (12 : Int32)).toNatClampNeg (12 : Int32).toNatClampNeg)) (0 : Int32).toNatClampNeg (v3n1 + (24 : Int32)).toNatClampNeg (12 : Int32).toNatClampNeg)) (0 : Int32).toNatClampNeg (v3n1 + (36 : Int32)).toNatClampNeg (12 : Int32).toNatClampNeg)), (29, (upd history_sizes p1.toNatClampNeg rounds_size))]) dX8_store_97 zW_29 (ix_in hg) rfl rfl rfl ?_
      refine zJ_iconst dX8_store_98 zc_1 rfl ?_
      obtain ⟨rfl, rfl, rfl⟩ := so3 h
      exact zJ_iret dX8_store_99 rfl (by decide)
    · replace h := it_f hc h
      refine zJ_iconst dX8_store_12 zc_0 rfl ?_
      obtain ⟨rfl, rfl, rfl⟩ := so3 h
      exact zJ_iret dX8_store_13 rfl (by decide)
set_option maxRecDepth 100000 in
set_option maxHeartbeats 4000000 in
theorem t_X8_mark_history (l : Launch) (σ : zS) {rounds_size : Int32} {history_slots : Int32} {history_count : Int32} {rounds_riders : (Nat → Int32)} {rounds_horses : (Nat → Int32)} {rounds_faults : (Nat → Int32)} {rounds_tenths : (Nat → Int32)} {history_cells : (Nat → Int32)} {history_sizes : (Nat → Int32)} {w_history_cells : (Nat → Int32)} {w_history_sizes : (Nat → Int32)} (h : f_X8_mark_history rounds_size history_slots history_count rounds_riders rounds_horses rounds_faults rounds_tenths history_cells history_sizes = some (w_history_cells, w_history_sizes)) : zMt l zW 2 mX8_mark σ ([(1284, rounds_size), (1728, history_slots), (1731, history_count)], [(21, rounds_riders), (22, rounds_horses), (23, rounds_faults), (24, rounds_tenths), (28, history_cells), (29, history_sizes)], []) [.ref 27, .ref 20] none ([(1284, rounds_size), (1728, history_slots), (1731, history_count)], [(21, rounds_riders), (22, rounds_horses), (23, rounds_faults), (24, rounds_tenths), (28, w_history_cells), (29, w_history_sizes)], []) := by
  refine zMt_of (ls := [(0, .ref 27), (1, .ref 20)]) (by decide) rfl (fun _ => Nat.le_of_ble_eq_true rfl) rfl ?_
  unfold f_X8_mark_history at h
  refine zJ_aload_n dX8_mark_0 rfl rfl ?_
  refine zJ_aload_n dX8_mark_1 rfl rfl ?_
  refine zJ_geti (mi := mX8_mark) (x := history_count) dX8_mark_2 F_X8_34 zW_27 rfl rfl rfl ?_
  refine zJ_aload_n dX8_mark_5 rfl rfl ?_
  obtain ⟨rn1, history_cellsn2, history_sizesn3, hcl, h⟩ := bd3_some h
  refine zJ_callV2 (σ := σ) (L := ([(1284, rounds_size), (1728, history_slots), (1731, history_count)], [(21, rounds_riders), (22, rounds_horses), (23, rounds_faults), (24, rounds_tenths), (28, history_cells), (29, history_sizes)], [])) (mi := mX8_mark) (yi := mX8_store) (as := [.int history_count, .ref 20]) (st := []) (L2 := ([(1284, rounds_size), (1728, history_slots), (1731, history_count)], [(21, rounds_riders), (22, rounds_horses), (23, rounds_faults), (24, rounds_tenths), (28, history_cellsn2), (29, history_sizesn3)], [])) dX8_mark_6 ML_X8_60 Yv_X8_store rfl zW_27 rfl rfl (t_X8_store_history l _ hcl) (zsub_i (zle_c rfl (zle_c rfl zle_n)) (zle_c rfl (zle_c rfl (zle_c rfl (zle_c rfl (zle_c rfl (zle_c rfl zle_n)))))) zle_n) (zjok_i rfl rfl (zle_c rfl (zle_c rfl (zle_c rfl zle_n))) rfl rfl (zle_c rfl (zle_c rfl (zle_c rfl (zle_c rfl (zle_c rfl (zle_c rfl zle_n)))))) rfl rfl zle_n) (Nat.le_of_ble_eq_true rfl) (Nat.le_of_ble_eq_true rfl) rfl rfl ?_
  refine zJ_pop dX8_mark_9 rfl rfl ?_
  obtain ⟨rfl, rfl⟩ := so2 h
  exact zJ_vret dX8_mark_10 rfl
