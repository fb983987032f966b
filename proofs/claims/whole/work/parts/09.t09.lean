set_option maxRecDepth 100000 in
set_option maxHeartbeats 4000000 in
theorem t_X8_store_kept (l : Launch) (σ : zS) {p1 : Int32} {rounds_size : Int32} {kept_slots : Int32} {rounds_riders : (Nat → Int32)} {rounds_horses : (Nat → Int32)} {rounds_faults : (Nat → Int32)} {rounds_tenths : (Nat → Int32)} {kept_cells : (Nat → Int32)} {kept_sizes : (Nat → Int32)} {r : Int32} {w_kept_cells : (Nat → Int32)} {w_kept_sizes : (Nat → Int32)} (h : f_X8_store_kept p1 rounds_size kept_slots rounds_riders rounds_horses rounds_faults rounds_tenths kept_cells kept_sizes = some (r, w_kept_cells, w_kept_sizes)) : zMt l zW 1 mX8_store σ ([(1284, rounds_size), (1920, kept_slots)], [(21, rounds_riders), (22, rounds_horses), (23, rounds_faults), (24, rounds_tenths), (31, kept_cells), (32, kept_sizes)], []) [.ref 30, .int p1, .ref 20] (some (.int r)) ([(1284, rounds_size), (1920, kept_slots)], [(21, rounds_riders), (22, rounds_horses), (23, rounds_faults), (24, rounds_tenths), (31, w_kept_cells), (32, w_kept_sizes)], []) := by
  refine zMt_of (ls := [(0, .ref 30), (1, .int p1), (2, .ref 20)]) (by decide) rfl (fun _ => Nat.le_of_ble_eq_true rfl) rfl ?_
  unfold f_X8_store_kept at h
  refine zJ_iload_n dX8_store_0 rfl rfl ?_
  refine zJ_if_lt (tgt := 12) dX8_store_1 (by decide) rfl (fun hc => ?_) (fun hc => ?_)
  · replace h := it_t hc h
    refine zJ_iconst dX8_store_12 zc_0 rfl ?_
    obtain ⟨rfl, rfl, rfl⟩ := so3 h
    exact zJ_iret dX8_store_13 rfl (by decide)
  · replace h := it_f hc h
    refine zJ_iload_n dX8_store_4 rfl rfl ?_
    refine zJ_aload_n dX8_store_5 rfl rfl ?_
    refine zJ_geti (mi := mX8_store) (x := kept_slots) dX8_store_6 F_X8_15 zW_30 rfl rfl rfl ?_
    refine zJ_icmp_lt (tgt := 14) dX8_store_9 (by decide) rfl (fun hc => ?_) (fun hc => ?_)
    · replace h := it_t hc h
      refine zJ_iload_n dX8_store_14 rfl rfl ?_
      refine zJ_bipush dX8_store_15 zb_48 rfl ?_
      refine zJ_imul dX8_store_17 rfl ?_
      obtain ⟨v3n1, ev3n1, h⟩ := lt1_some h
      refine zJ_nmi ev3n1 ?_
      refine zJ_istore_n (ls' := [(3, .int v3n1), (0, .ref 30), (1, .int p1), (2, .ref 20)]) dX8_store_18 rfl rfl rfl ?_
      refine zJ_aload_n dX8_store_19 rfl rfl ?_
      refine zJ_getr (mi := mX8_store) dX8_store_20 F_X8_37 zW_20 rfl rfl ?_
      refine zJ_iconst dX8_store_23 zc_0 rfl ?_
      refine zJ_aload_n dX8_store_24 rfl rfl ?_
      refine zJ_getr (mi := mX8_store) dX8_store_25 F_X8_21 zW_30 rfl rfl ?_
      refine zJ_iload_n dX8_store_28 rfl rfl ?_
      refine zJ_bipush dX8_store_29 zb_12 rfl ?_
      obtain ⟨hg, h⟩ := gd_some h
      refine zK_copyi (mi := mX8_store) (f := rounds_riders) (g := kept_cells) (lb' := [(21, rounds_riders), (22, rounds_horses), (23, rounds_faults), (24, rounds_tenths), (31, (va_cpy rounds_riders kept_cells (0 : Int32).toNatClampNeg v3n1.toNatClampNeg (12 : Int32).toNatClampNeg)), (32, kept_sizes)]) dX8_store_31 L_X8_42 K_cpy_n K_cpy_s K_sys zW_21 zW_31 rfl rfl (cpok_s hg) (Nat.le_of_ble_eq_true rfl) (Nat.le_of_ble_eq_true rfl) rfl rfl ?_
      refine zJ_aload_n dX8_store_34 rfl rfl ?_
      refine zJ_getr (mi := mX8_store) dX8_store_35 F_X8_48 zW_20 rfl rfl ?_
      refine zJ_iconst dX8_store_38 zc_0 rfl ?_
      refine zJ_aload_n dX8_store_39 rfl rfl ?_
      refine zJ_getr (mi := mX8_store) dX8_store_40 F_X8_21 zW_30 rfl rfl ?_
      refine zJ_iload_n dX8_store_43 rfl rfl ?_
      refine zJ_bipush dX8_store_44 zb_12 rfl ?_
      refine zJ_iadd dX8_store_46 rfl ?_
      refine zJ_bipush dX8_store_47 zb_12 rfl ?_
      obtain ⟨hg, h⟩ := gd_some h
      refine zK_copyi (mi := mX8_store) (f := rounds_horses) (g := ((va_cpy rounds_riders kept_cells (0 : Int32).toNatClampNeg v3n1.toNatClampNeg (12 : Int32).toNatClampNeg))) (lb' := [(21, rounds_riders), (22, rounds_horses), (23, rounds_faults), (24, rounds_tenths), (31, (va_cpy rounds_horses ((va_cpy rounds_riders kept_cells (0 : Int32).toNatClampNeg v3n1.toNatClampNeg (12 : Int32).toNatClampNeg)) (0 : Int32).toNatClampNeg (v3n1 + (12 : Int32)).toNatClampNeg (12 : Int32).toNatClampNeg)), (32, kept_sizes)]) dX8_store_49 L_X8_42 K_cpy_n K_cpy_s K_sys zW_22 zW_31 rfl rfl (cpok_s hg) (Nat.le_of_ble_eq_true rfl) (Nat.le_of_ble_eq_true rfl) rfl rfl ?_
      refine zJ_aload_n dX8_store_52 rfl rfl ?_
      refine zJ_getr (mi := mX8_store) dX8_store_53 F_X8_51 zW_20 rfl rfl ?_
      refine zJ_iconst dX8_store_56 zc_0 rfl ?_
      refine zJ_aload_n dX8_store_57 rfl rfl ?_
      refine zJ_getr (mi := mX8_store) dX8_store_58 F_X8_21 zW_30 rfl rfl ?_
      refine zJ_iload_n dX8_store_61 rfl rfl ?_
      refine zJ_bipush dX8_store_62 zb_24 rfl ?_
      refine zJ_iadd dX8_store_64 rfl ?_
      refine zJ_bipush dX8_store_65 zb_12 rfl ?_
      obtain ⟨hg, h⟩ := gd_some h
      refine zK_copyi (mi := mX8_store) (f := rounds_faults) (g := ((va_cpy rounds_horses ((va_cpy rounds_riders kept_cells (0 : Int32).toNatClampNeg v3n1.toNatClampNeg (12 : Int32).toNatClampNeg)) (0 : Int32).toNatClampNeg (v3n1 + (12 : Int32)).toNatClampNeg (12 : Int32).toNatClampNeg))) (lb' := [(21, rounds_riders), (22, rounds_horses), (23, rounds_faults), (24, rounds_tenths), (31, (va_cpy rounds_faults ((va_cpy rounds_horses ((va_cpy rounds_riders kept_cells (0 : Int32).toNatClampNeg v3n1.toNatClampNeg (12 : Int32).toNatClampNeg)) (0 : Int32).toNatClampNeg (v3n1 + (12 : Int32)).toNatClampNeg (12 : Int32).toNatClampNeg)) (0 : Int32).toNatClampNeg (v3n1 + (24 : Int32)).toNatClampNeg (12 : Int32).toNatClampNeg)), (32, kept_sizes)]) dX8_store_67 L_X8_42 K_cpy_n K_cpy_s K_sys zW_23 zW_31 rfl rfl (cpok_s hg) (Nat.le_of_ble_eq_true rfl) (Nat.le_of_ble_eq_true rfl) rfl rfl ?_
      refine zJ_aload_n dX8_store_70 rfl rfl ?_
      refine zJ_getr (mi := mX8_store) dX8_store_71 F_X8_54 zW_20 rfl rfl ?_
      refine zJ_iconst dX8_store_74 zc_0 rfl ?_
      refine zJ_aload_n dX8_store_75 rfl rfl ?_
      refine zJ_getr (mi := mX8_store) dX8_store_76 F_X8_21 zW_30 rfl rfl ?_
      refine zJ_iload_n dX8_store_79 rfl rfl ?_
      refine zJ_bipush dX8_store_80 zb_36 rfl ?_
      refine zJ_iadd dX8_store_82 rfl ?_
      refine zJ_bipush dX8_store_83 zb_12 rfl ?_
      obtain ⟨hg, h⟩ := gd_some h
      refine zK_copyi (mi := mX8_store) (f := rounds_tenths) (g := ((va_cpy rounds_faults ((va_cpy rounds_horses ((va_cpy rounds_riders kept_cells (0 : Int32).toNatClampNeg v3n1.toNatClampNeg (12 : Int32).toNatClampNeg)) (0 : Int32).toNatClampNeg (v3n1 + (12 : Int32)).toNatClampNeg (12 : Int32).toNatClampNeg)) (0 : Int32).toNatClampNeg (v3n1 + (24 : Int32)).toNatClampNeg (12 : Int32).toNatClampNeg))) (lb' := [(21, rounds_riders), (22, rounds_horses), (23, rounds_faults), (24, rounds_tenths), (31, (va_cpy rounds_tenths ((va_cpy rounds_faults ((va_cpy rounds_horses ((va_cpy rounds_riders kept_cells (0 : Int32).toNatClampNeg v3n1.toNatClampNeg (12 : Int32).toNatClampNeg)) (0 : Int32).toNatClampNeg (v3n1 + (12 : Int32)).toNatClampNeg (12 : Int32).toNatClampNeg)) (0 : Int32).toNatClampNeg (v3n1 + (24 : Int32)).toNatClampNeg (12 : Int32).toNatClampNeg)) (0 : Int32).toNatClampNeg (v3n1 + (36 : Int32)).toNatClampNeg (12 : Int32).toNatClampNeg)), (32, kept_sizes)]) dX8_store_85 L_X8_42 K_cpy_n K_cpy_s K_sys zW_24 zW_31 rfl rfl (cpok_s hg) (Nat.le_of_ble_eq_true rfl) (Nat.le_of_ble_eq_true rfl) rfl rfl ?_
      refine zJ_aload_n dX8_store_88 rfl rfl ?_
      refine zJ_getr (mi := mX8_store) dX8_store_89 F_X8_25 zW_30 rfl rfl ?_
      refine zJ_iload_n dX8_store_92 rfl rfl ?_
      refine zJ_aload_n dX8_store_93 rfl rfl ?_
      refine zJ_geti (mi := mX8_store) (x := rounds_size) dX8_store_94 F_X8_57 zW_20 rfl rfl rfl ?_
      obtain ⟨hg, h⟩ := gd_some h
      refine zK_iast (mi := mX8_store) (f := kept_sizes) (lb' := [(21, rounds_riders), (22, rounds_horses), (23, rounds_faults), (24, rounds_tenths), (31, (va_cpy rounds_tenths ((va_cpy rounds_faults ((va_cpy rounds_horses ((va_cpy rounds_riders kept_cells (0 : Int32).toNatClampNeg v3n1.toNatClampNeg (12 : Int32).toNatClampNeg)) (0 : Int32).toNatClampNeg (v3n1 + (12 : Int32)).toNatClampNeg (12 : Int32).toNatClampNeg)) (0 : Int32).toNatClampNeg (v3n1 + (24 : Int32)).toNatClampNeg (12 : Int32).toNatClampNeg)) (0 : Int32).toNatClampNeg (v3n1 + (36 : Int32)).toNatClampNeg (12 : Int32).toNatClampNeg)), (32, (upd kept_sizes p1.toNatClampNeg rounds_size))]) dX8_store_97 zW_32 (ix_in hg) rfl rfl rfl ?_
      refine zJ_iconst dX8_store_98 zc_1 rfl ?_
      obtain ⟨rfl, rfl, rfl⟩ := so3 h
      exact zJ_iret dX8_store_99 rfl (by decide)
    · replace h := it_f hc h
      refine zJ_iconst dX8_store_12 zc_0 rfl ?_
      obtain ⟨rfl, rfl, rfl⟩ := so3 h
      exact zJ_iret dX8_store_13 rfl (by decide)
set_option maxRecDepth 100000 in
set_option maxHeartbeats 4000000 in
theorem t_X11_keep (l : Launch) (σ : zS) {p1 : Int32} {rounds_size : Int32} {kept_slots : Int32} {rounds_riders : (Nat → Int32)} {rounds_horses : (Nat → Int32)} {rounds_faults : (Nat → Int32)} {rounds_tenths : (Nat → Int32)} {kept_cells : (Nat → Int32)} {kept_sizes : (Nat → Int32)} {r : Int32} {w_kept_cells : (Nat → Int32)} {w_kept_sizes : (Nat → Int32)} (h : f_X11_keep p1 rounds_size kept_slots rounds_riders rounds_horses rounds_faults rounds_tenths kept_cells kept_sizes = some (r, w_kept_cells, w_kept_sizes)) : zMt l zW 2 mX11_keep σ ([(1284, rounds_size), (1920, kept_slots)], [(21, rounds_riders), (22, rounds_horses), (23, rounds_faults), (24, rounds_tenths), (31, kept_cells), (32, kept_sizes)], []) [.ref 0, .int p1] (some (.int r)) ([(1284, rounds_size), (1920, kept_slots)], [(21, rounds_riders), (22, rounds_horses), (23, rounds_faults), (24, rounds_tenths), (31, w_kept_cells), (32, w_kept_sizes)], []) := by
  refine zMt_of (ls := [(0, .ref 0), (1, .int p1)]) (by decide) rfl (fun _ => Nat.le_of_ble_eq_true rfl) rfl ?_
  unfold f_X11_keep at h
  refine zJ_aload_n dX11_keep_0 rfl rfl ?_
  refine zJ_getr (mi := mX11_keep) dX11_keep_1 F_X11_46 zW_0 rfl rfl ?_
  refine zJ_iload_n dX11_keep_4 rfl rfl ?_
  refine zJ_aload_n dX11_keep_5 rfl rfl ?_
  refine zJ_getr (mi := mX11_keep) dX11_keep_6 F_X11_33 zW_0 rfl rfl ?_
  obtain ⟨rn1, kept_cellsn2, kept_sizesn3, hcl, h⟩ := bd3_some h
  refine zJ_callV2 (mi := mX11_keep) (yi := mX8_store) (as := [.int p1, .ref 20]) (st := []) (L2 := ([(1284, rounds_size), (1920, kept_slots)], [(21, rounds_riders), (22, rounds_horses), (23, rounds_faults), (24, rounds_tenths), (31, kept_cellsn2), (32, kept_sizesn3)], [])) dX11_keep_9 ML_X11_441 Yv_X8_store rfl zW_30 rfl rfl (t_X8_store_kept l _ hcl) (zsub_i (zle_c rfl (zle_c rfl zle_n)) (zle_c rfl (zle_c rfl (zle_c rfl (zle_c rfl (zle_c rfl (zle_c rfl zle_n)))))) zle_n) (zjok_i rfl rfl (zle_c rfl (zle_c rfl zle_n)) rfl rfl (zle_c rfl (zle_c rfl (zle_c rfl (zle_c rfl (zle_c rfl (zle_c rfl zle_n)))))) rfl rfl zle_n) (Nat.le_of_ble_eq_true rfl) (Nat.le_of_ble_eq_true rfl) rfl rfl ?_
  obtain ⟨hg, h⟩ := gd_some h
  obtain ⟨rfl, rfl, rfl⟩ := so3 h
  exact zJ_iret dX11_keep_12 rfl (bit_n hg)
set_option maxRecDepth 100000 in
set_option maxHeartbeats 4000000 in
theorem t_X11_last (l : Launch) (σ : zS) {p1 : Int32} {numbers_size : Int32} {course_fences : Int32} {course_horseCount : Int32} {course_planCount : Int32} {course_allowed : Int32} {course_rule_size : Int32} {rounds_size : Int32} {course_kinds : (Nat → Int32)} {course_heights : (Nat → Int32)} {course_feet : (Nat → Int32)} {course_digits : (Nat → Int32)} {course_plans : (Nat → Int32)} {rule_codes : (Nat → Int32)} {rule_stack : (Nat → Int32)} {rule_things : (Nat → Int32)} {rounds_faults : (Nat → Int32)} {rounds_tenths : (Nat → Int32)} {rounds_money : (Nat → Int32)} {numbers_told : (Nat → Int64)} {r : Int32} {w_numbers_size : Int32} {w_rule_stack : (Nat → Int32)} {w_rule_things : (Nat → Int32)} {w_numbers_told : (Nat → Int64)} (h : f_X11_last p1 numbers_size course_fences course_horseCount course_planCount course_allowed course_rule_size rounds_size course_kinds course_heights course_feet course_digits course_plans rule_codes rule_stack rule_things rounds_faults rounds_tenths rounds_money numbers_told = some (r, w_numbers_size, w_rule_stack, w_rule_things, w_numbers_told)) : zMt l zW 7 mX11_last σ ([(193, numbers_size), (323, course_fences), (326, course_horseCount), (328, course_planCount), (329, course_allowed), (769, course_rule_size), (1284, rounds_size)], [(6, course_kinds), (7, course_heights), (8, course_feet), (10, course_digits), (11, course_plans), (13, rule_codes), (15, rule_stack), (16, rule_things), (23, rounds_faults), (24, rounds_tenths), (25, rounds_money)], [(4, numbers_told)]) [.ref 0, .int p1] (some (.int r)) ([(193, w_numbers_size), (323, course_fences), (326, course_horseCount), (328, course_planCount), (329, course_allowed), (769, course_rule_size), (1284, rounds_size)], [(6, course_kinds), (7, course_heights), (8, course_feet), (10, course_digits), (11, course_plans), (13, rule_codes), (15, w_rule_stack), (16, w_rule_things), (23, rounds_faults), (24, rounds_tenths), (25, rounds_money)], [(4, w_numbers_told)]) := by
  refine zMt_of (ls := [(0, .ref 0), (1, .int p1)]) (by decide) rfl (fun _ => Nat.le_of_ble_eq_true rfl) rfl ?_
  unfold f_X11_last at h
  refine zJ_aload_n dX11_last_0 rfl rfl ?_
  refine zJ_getr (mi := mX11_last) dX11_last_1 F_X11_26 zW_0 rfl rfl ?_
  refine zJ_iload_n dX11_last_4 rfl rfl ?_
  obtain ⟨rn1, hcl, h⟩ := bd1_some h
  refine zJ_callV2 (mi := mX11_last) (yi := mX1_hasHorse) (as := [.int p1]) (st := []) (L2 := ([(193, numbers_size), (323, course_fences), (326, course_horseCount), (328, course_planCount), (329, course_allowed), (769, course_rule_size), (1284, rounds_size)], [(6, course_kinds), (7, course_heights), (8, course_feet), (10, course_digits), (11, course_plans), (13, rule_codes), (15, rule_stack), (16, rule_things), (23, rounds_faults), (24, rounds_tenths), (25, rounds_money)], [(4, numbers_told)])) dX11_last_5 ML_X11_147 Yv_X1_hasHorse rfl zW_5 rfl rfl (t_X1_hasHorse l _ hcl) (zsub_i (zle_c rfl zle_n) zle_n zle_n) (zjok_i rfl rfl (zle_c rfl (zle_c rfl (zle_c rfl (zle_c rfl (zle_c rfl (zle_c rfl (zle_c rfl zle_n))))))) rfl rfl (zle_c rfl (zle_c rfl (zle_c rfl (zle_c rfl (zle_c rfl (zle_c rfl (zle_c rfl (zle_c rfl (zle_c rfl (zle_c rfl (zle_c rfl zle_n))))))))))) rfl rfl (zle_c rfl zle_n)) (Nat.le_of_ble_eq_true rfl) (Nat.le_of_ble_eq_true rfl) rfl rfl ?_
  refine zJ_if_ne (tgt := 13) dX11_last_8 (by decide) rfl (fun hc => ?_) (fun hc => ?_)
  · replace h := it_f hc h
    refine zJ_aload_n dX11_last_13 rfl rfl ?_
    refine zJ_getr (mi := mX11_last) dX11_last_14 F_X11_26 zW_0 rfl rfl ?_
    refine zJ_geti (mi := mX11_last) (x := course_planCount) dX11_last_17 F_X11_362 zW_5 rfl rfl rfl ?_
    refine zJ_if_ne (tgt := 26) dX11_last_20 (by decide) rfl (fun hc => ?_) (fun hc => ?_)
    · replace h := it_f hc h
      refine zJ_aload_n dX11_last_26 rfl rfl ?_
      refine zJ_iload_n dX11_last_27 rfl rfl ?_
      obtain ⟨rn2, rule_stackn3, rule_thingsn4, hcl, h⟩ := bd3_some h
      refine zJ_callV2 (mi := mX11_last) (yi := mX11_bestPlan) (as := [.int p1]) (st := []) (L2 := ([(193, numbers_size), (323, course_fences), (326, course_horseCount), (328, course_planCount), (329, course_allowed), (769, course_rule_size), (1284, rounds_size)], [(6, course_kinds), (7, course_heights), (8, course_feet), (10, course_digits), (11, course_plans), (13, rule_codes), (15, rule_stackn3), (16, rule_thingsn4), (23, rounds_faults), (24, rounds_tenths), (25, rounds_money)], [(4, numbers_told)])) dX11_last_28 ML_X11_365 Yv_X11_bestPlan rfl zW_0 rfl rfl (t_X11_bestPlan l _ hcl) (zsub_i (zle_c rfl (zle_c rfl (zle_c rfl (zle_c rfl (zle_c rfl zle_n))))) (zle_c rfl (zle_c rfl (zle_c rfl (zle_c rfl (zle_c rfl (zle_c rfl (zle_c rfl (zle_c rfl (zle_c rfl (zle_c rfl (zle_c rfl zle_n))))))))))) zle_n) (zjok_i rfl rfl (zle_c rfl (zle_c rfl (zle_c rfl (zle_c rfl (zle_c rfl (zle_c rfl (zle_c rfl zle_n))))))) rfl rfl (zle_c rfl (zle_c rfl (zle_c rfl (zle_c rfl (zle_c rfl (zle_c rfl (zle_c rfl (zle_c rfl (zle_c rfl (zle_c rfl (zle_c rfl zle_n))))))))))) rfl rfl (zle_c rfl zle_n)) (Nat.le_of_ble_eq_true rfl) (Nat.le_of_ble_eq_true rfl) rfl rfl ?_
      refine zJ_istore_n (ls' := [(2, .int rn2), (0, .ref 0), (1, .int p1)]) dX11_last_31 rfl rfl rfl ?_
      refine zJ_aload_n dX11_last_32 rfl rfl ?_
      refine zJ_getr (mi := mX11_last) dX11_last_33 F_X11_19 zW_0 rfl rfl ?_
      obtain ⟨numbers_sizen5, hcl, h⟩ := bd1_some h
      refine zJ_callV2 (mi := mX11_last) (yi := mX6_start) (as := []) (st := []) (L2 := ([(193, numbers_sizen5), (323, course_fences), (326, course_horseCount), (328, course_planCount), (329, course_allowed), (769, course_rule_size), (1284, rounds_size)], [(6, course_kinds), (7, course_heights), (8, course_feet), (10, course_digits), (11, course_plans), (13, rule_codes), (15, rule_stackn3), (16, rule_thingsn4), (23, rounds_faults), (24, rounds_tenths), (25, rounds_money)], [(4, numbers_told)])) dX11_last_36 ML_X11_171 Yv_X6_start rfl zW_3 rfl rfl (t_X6_start l _ hcl) (zsub_i (zle_c rfl zle_n) zle_n zle_n) (zjok_i rfl rfl (zle_c rfl (zle_c rfl (zle_c rfl (zle_c rfl (zle_c rfl (zle_c rfl (zle_c rfl zle_n))))))) rfl rfl (zle_c rfl (zle_c rfl (zle_c rfl (zle_c rfl (zle_c rfl (zle_c rfl (zle_c rfl (zle_c rfl (zle_c rfl (zle_c rfl (zle_c rfl zle_n))))))))))) rfl rfl (zle_c rfl zle_n)) (Nat.le_of_ble_eq_true rfl) (Nat.le_of_ble_eq_true rfl) rfl rfl ?_
      refine zJ_aload_n dX11_last_39 rfl rfl ?_
      refine zJ_getr (mi := mX11_last) dX11_last_40 F_X11_19 zW_0 rfl rfl ?_
      refine zJ_aload_n dX11_last_43 rfl rfl ?_
      refine zJ_iload_n dX11_last_44 rfl rfl ?_
      refine zJ_iload_n dX11_last_45 rfl rfl ?_
      obtain ⟨rn6, rule_stackn7, rule_thingsn8, hcl, h⟩ := bd3_some h
      refine zJ_callV2 (mi := mX11_last) (yi := mX11_meanOf) (as := [.int p1, .int rn2]) (st := [.ref 3]) (L2 := ([(193, numbers_sizen5), (323, course_fences), (326, course_horseCount), (328, course_planCount), (329, course_allowed), (769, course_rule_size), (1284, rounds_size)], [(6, course_kinds), (7, course_heights), (8, course_feet), (10, course_digits), (11, course_plans), (13, rule_codes), (15, rule_stackn7), (16, rule_thingsn8), (23, rounds_faults), (24, rounds_tenths), (25, rounds_money)], [(4, numbers_told)])) dX11_last_46 ML_X11_359 Yv_X11_meanOf rfl zW_0 rfl rfl (t_X11_meanOf l _ hcl) (zsub_i (zle_c rfl (zle_c rfl (zle_c rfl (zle_c rfl zle_n)))) (zle_c rfl (zle_c rfl (zle_c rfl (zle_c rfl (zle_c rfl (zle_c rfl (zle_c rfl (zle_c rfl (zle_c rfl (zle_c rfl (zle_c rfl zle_n))))))))))) zle_n) (zjok_i rfl rfl (zle_c rfl (zle_c rfl (zle_c rfl (zle_c rfl (zle_c rfl (zle_c rfl (zle_c rfl zle_n))))))) rfl rfl (zle_c rfl (zle_c rfl (zle_c rfl (zle_c rfl (zle_c rfl (zle_c rfl (zle_c rfl (zle_c rfl (zle_c rfl (zle_c rfl (zle_c rfl zle_n))))))))))) rfl rfl (zle_c rfl zle_n)) (Nat.le_of_ble_eq_true rfl) (Nat.le_of_ble_eq_true rfl) rfl rfl ?_
      refine zJ_i2l dX11_last_49 rfl ?_
      obtain ⟨numbers_sizen9, numbers_toldn10, hcl, h⟩ := bd2_some h
      refine zJ_callV2 (mi := mX11_last) (yi := mX6_put) (as := [.long rn6.toInt64]) (st := []) (L2 := ([(193, numbers_sizen9), (323, course_fences), (326, course_horseCount), (328, course_planCount), (329, course_allowed), (769, course_rule_size), (1284, rounds_size)], [(6, course_kinds), (7, course_heights), (8, course_feet), (10, course_digits), (11, course_plans), (13, rule_codes), (15, rule_stackn7), (16, rule_thingsn8), (23, rounds_faults), (24, rounds_tenths), (25, rounds_money)], [(4, numbers_toldn10)])) dX11_last_50 ML_X11_177 Yv_X6_put rfl zW_3 rfl rfl (t_X6_put l _ hcl) (zsub_i (zle_c rfl zle_n) zle_n (zle_c rfl zle_n)) (zjok_i rfl rfl (zle_c rfl (zle_c rfl (zle_c rfl (zle_c rfl (zle_c rfl (zle_c rfl (zle_c rfl zle_n))))))) rfl rfl (zle_c rfl (zle_c rfl (zle_c rfl (zle_c rfl (zle_c rfl (zle_c rfl (zle_c rfl (zle_c rfl (zle_c rfl (zle_c rfl (zle_c rfl zle_n))))))))))) rfl rfl (zle_c rfl zle_n)) (Nat.le_of_ble_eq_true rfl) (Nat.le_of_ble_eq_true rfl) rfl rfl ?_
      refine zJ_iload_n dX11_last_53 rfl rfl ?_
      obtain ⟨rfl, rfl, rfl, rfl, rfl⟩ := so5 h
      exact zJ_iret dX11_last_54 rfl rfl
    · replace h := it_t hc h
      refine zJ_bipush dX11_last_23 zb_m2 rfl ?_
      obtain ⟨rfl, rfl, rfl, rfl, rfl⟩ := so5 h
      exact zJ_iret dX11_last_25 rfl rfl
  · replace h := it_t hc h
    refine zJ_iconst dX11_last_11 zc_m1 rfl ?_
    obtain ⟨rfl, rfl, rfl, rfl, rfl⟩ := so5 h
    exact zJ_iret dX11_last_12 rfl rfl
set_option maxRecDepth 100000 in
set_option maxHeartbeats 4000000 in
theorem t_X11_law (l : Launch) (σ : zS) {p1 : Int32} {p2 : Int32} {numbers_size : Int32} {course_allowed : Int32} {rounds_size : Int32} {rounds_faults : (Nat → Int32)} {rounds_tenths : (Nat → Int32)} {newFaults : (Nat → Int32)} {numbers_told : (Nat → Int64)} {r : Int32} {w_numbers_size : Int32} {w_newFaults : (Nat → Int32)} {w_numbers_told : (Nat → Int64)} (h : f_X11_law p1 p2 numbers_size course_allowed rounds_size rounds_faults rounds_tenths newFaults numbers_told = some (r, w_numbers_size, w_newFaults, w_numbers_told)) : zMt l zW 2 mX11_law σ ([(193, numbers_size), (329, course_allowed), (1284, rounds_size)], [(23, rounds_faults), (24, rounds_tenths), (53, newFaults)], [(4, numbers_told)]) [.ref 0, .int p1, .int p2] (some (.int r)) ([(193, w_numbers_size), (329, course_allowed), (1284, rounds_size)], [(23, rounds_faults), (24, rounds_tenths), (53, w_newFaults)], [(4, w_numbers_told)]) := by
  refine zMt_of (ls := [(0, .ref 0), (1, .int p1), (2, .int p2)]) (by decide) rfl (fun _ => Nat.le_of_ble_eq_true rfl) rfl ?_
  unfold f_X11_law at h
  refine zJ_iload_n dX11_law_0 rfl rfl ?_
  refine zJ_iconst dX11_law_1 zc_1 rfl ?_
  refine zJ_icmp_lt (tgt := 22) dX11_law_2 (by decide) rfl (fun hc => ?_) (fun hc => ?_)
  · replace h := it_t hc h
    refine zJ_iconst dX11_law_22 zc_m1 rfl ?_
    obtain ⟨rfl, rfl, rfl, rfl⟩ := so4 h
    exact zJ_iret dX11_law_23 rfl rfl
  · replace h := it_f hc h
    refine zJ_iload_n dX11_law_5 rfl rfl ?_
    refine zJ_sipush dX11_law_6 zs_999 rfl ?_
    refine zJ_icmp_gt (tgt := 22) dX11_law_9 (by decide) rfl (fun hc => ?_) (fun hc => ?_)
    · replace h := it_t hc h
      refine zJ_iconst dX11_law_22 zc_m1 rfl ?_
      obtain ⟨rfl, rfl, rfl, rfl⟩ := so4 h
      exact zJ_iret dX11_law_23 rfl rfl
    · replace h := it_f hc h
      refine zJ_iload_n dX11_law_12 rfl rfl ?_
      refine zJ_if_lt (tgt := 22) dX11_law_13 (by decide) rfl (fun hc => ?_) (fun hc => ?_)
      · replace h := it_t hc h
        refine zJ_iconst dX11_law_22 zc_m1 rfl ?_
        obtain ⟨rfl, rfl, rfl, rfl⟩ := so4 h
        exact zJ_iret dX11_law_23 rfl rfl
      · replace h := it_f hc h
        refine zJ_iload_n dX11_law_16 rfl rfl ?_
        refine zJ_bipush dX11_law_17 zb_9 rfl ?_
        refine zJ_icmp_le (tgt := 24) dX11_law_19 (by decide) rfl (fun hc => ?_) (fun hc => ?_)
        · replace h := it_t hc h
          refine zJ_iconst dX11_law_24 zc_0 rfl ?_
          refine zJ_istore_n (ls' := [(3, .int (0 : Int32)), (0, .ref 0), (1, .int p1), (2, .int p2)]) dX11_law_25 rfl rfl rfl ?_
          have hk26 : ∀ (newFaults_26x : (Nat → Int32)), k_X11_law_26 numbers_size rounds_size rounds_faults rounds_tenths numbers_told newFaults_26x = some (r, w_numbers_size, w_newFaults, w_numbers_told) → zJ l zW 2 mX11_law σ ([(193, numbers_size), (329, course_allowed), (1284, rounds_size)], [(23, rounds_faults), (24, rounds_tenths), (53, newFaults_26x)], [(4, numbers_told)]) 115 [(0, .ref 0)] [] (some (.int r)) ([(193, w_numbers_size), (329, course_allowed), (1284, rounds_size)], [(23, rounds_faults), (24, rounds_tenths), (53, w_newFaults)], [(4, w_numbers_told)]) := by
            intro newFaults_26x h
            unfold k_X11_law_26 at h
            refine zJ_iconst dX11_law_115 zc_0 rfl ?_
            refine zJ_istore_n (ls' := [(3, .int (0 : Int32)), (0, .ref 0)]) dX11_law_116 rfl rfl rfl ?_
            refine zJ_iconst dX11_law_117 zc_0 rfl ?_
            refine zJ_istore (ls' := [(4, .int (0 : Int32)), (3, .int (0 : Int32)), (0, .ref 0)]) dX11_law_118 rfl rfl rfl ?_
            have hk120 : ∀ (v3_120x : Int32), k_X11_law_120 numbers_size rounds_size rounds_tenths numbers_told newFaults_26x v3_120x = some (r, w_numbers_size, w_newFaults, w_numbers_told) → zJ l zW 2 mX11_law σ ([(193, numbers_size), (329, course_allowed), (1284, rounds_size)], [(23, rounds_faults), (24, rounds_tenths), (53, newFaults_26x)], [(4, numbers_told)]) 178 [(0, .ref 0), (3, .int v3_120x)] [] (some (.int r)) ([(193, w_numbers_size), (329, course_allowed), (1284, rounds_size)], [(23, rounds_faults), (24, rounds_tenths), (53, w_newFaults)], [(4, w_numbers_told)]) := by
              intro v3_120x h
              unfold k_X11_law_120 at h
              refine zJ_aload_n dX11_law_178 rfl rfl ?_
              refine zJ_getr (mi := mX11_law) dX11_law_179 F_X11_33 zW_0 rfl rfl ?_
              refine zJ_aload_n dX11_law_182 rfl rfl ?_
              refine zJ_getr (mi := mX11_law) dX11_law_183 F_X11_19 zW_0 rfl rfl ?_
              refine zJ_aload_n dX11_law_186 rfl rfl ?_
              refine zJ_getr (mi := mX11_law) dX11_law_187 F_X11_88 zW_0 rfl rfl ?_
              obtain ⟨numbers_sizen1, numbers_toldn2, hcl, h⟩ := bd2_some h
              refine zJ_callV2 (mi := mX11_law) (yi := mX10_tellOrder) (as := [.ref 3, .ref 53]) (st := []) (L2 := ([(193, numbers_sizen1), (329, course_allowed), (1284, rounds_size)], [(23, rounds_faults), (24, rounds_tenths), (53, newFaults_26x)], [(4, numbers_toldn2)])) dX11_law_190 ML_X11_346 Yv_X10_tellOrder rfl zW_20 rfl rfl (t_X10_tellOrder_newFaults l _ hcl) (zsub_i (zle_c rfl (zle_c rfl zle_n)) (zle_c rfl (zle_c rfl zle_n)) (zle_c rfl zle_n)) (zjok_i rfl rfl (zle_c rfl (zle_c rfl (zle_c rfl zle_n))) rfl rfl (zle_c rfl (zle_c rfl (zle_c rfl zle_n))) rfl rfl (zle_c rfl zle_n)) (Nat.le_of_ble_eq_true rfl) (Nat.le_of_ble_eq_true rfl) rfl rfl ?_
              refine zJ_iload_n dX11_law_193 rfl rfl ?_
              obtain ⟨rfl, rfl, rfl, rfl⟩ := so4 h
              exact zJ_iret dX11_law_194 rfl rfl
            refine zJ_loc (ls' := [(0, .ref 0), (3, .int (0 : Int32)), (4, .int (0 : Int32))]) (zll_c rfl (zll_c rfl (zll_c rfl zll_n))) ?_
            refine ml2_J (fun (v3_120 : Int32) (v4_120 : Int32) => zJ l zW 2 mX11_law σ ([(193, numbers_size), (329, course_allowed), (1284, rounds_size)], [(23, rounds_faults), (24, rounds_tenths), (53, newFaults_26x)], [(4, numbers_told)]) 120 [(0, .ref 0), (3, .int v3_120), (4, .int v4_120)] [] (some (.int r)) ([(193, w_numbers_size), (329, course_allowed), (1284, rounds_size)], [(23, rounds_faults), (24, rounds_tenths), (53, w_newFaults)], [(4, w_numbers_told)])) (fun rc120 hrc120 v3_120 v4_120 h => ?_) zN _ _ h
            unfold s_X11_law_120 at h
            refine zJ_iload dX11_law_120 rfl rfl ?_
            refine zJ_aload_n dX11_law_122 rfl rfl ?_
            refine zJ_getr (mi := mX11_law) dX11_law_123 F_X11_33 zW_0 rfl rfl ?_
            refine zJ_geti (mi := mX11_law) (x := rounds_size) dX11_law_126 F_X11_107 zW_20 rfl rfl rfl ?_
            refine zJ_icmp_ge (tgt := 178) dX11_law_129 (by decide) rfl (fun hc => ?_) (fun hc => ?_)
            · replace h := it_t hc h
              refine zJ_loc (ls' := [(0, .ref 0), (3, .int v3_120)]) (zll_c rfl (zll_c rfl zll_n)) ?_
              exact hk120 _ h
            · replace h := it_f hc h
              refine zJ_iload_n dX11_law_132 rfl rfl ?_
              refine zJ_aload_n dX11_law_133 rfl rfl ?_
              refine zJ_getr (mi := mX11_law) dX11_law_134 F_X11_33 zW_0 rfl rfl ?_
              refine zJ_iload dX11_law_137 rfl rfl ?_
              refine zJ_aload_n dX11_law_139 rfl rfl ?_
              refine zJ_getr (mi := mX11_law) dX11_law_140 F_X11_88 zW_0 rfl rfl ?_
              obtain ⟨rn3, hcl, h⟩ := bd1_some h
              refine zJ_callV2 (mi := mX11_law) (yi := mX10_placeOf) (as := [.int v4_120, .ref 53]) (st := [.int v3_120]) (L2 := ([(193, numbers_size), (329, course_allowed), (1284, rounds_size)], [(23, rounds_faults), (24, rounds_tenths), (53, newFaults_26x)], [(4, numbers_told)])) dX11_law_143 ML_X11_339 Yv_X10_placeOf rfl zW_20 rfl rfl (t_X10_placeOf_newFaults l _ hcl) (zsub_i (zle_c rfl zle_n) (zle_c rfl (zle_c rfl zle_n)) zle_n) (zjok_i rfl rfl (zle_c rfl (zle_c rfl (zle_c rfl zle_n))) rfl rfl (zle_c rfl (zle_c rfl (zle_c rfl zle_n))) rfl rfl (zle_c rfl zle_n)) (Nat.le_of_ble_eq_true rfl) (Nat.le_of_ble_eq_true rfl) rfl rfl ?_
              refine zJ_aload_n dX11_law_146 rfl rfl ?_
              refine zJ_getr (mi := mX11_law) dX11_law_147 F_X11_33 zW_0 rfl rfl ?_
              refine zJ_iload dX11_law_150 rfl rfl ?_
              refine zJ_aload_n dX11_law_152 rfl rfl ?_
              refine zJ_getr (mi := mX11_law) dX11_law_153 F_X11_33 zW_0 rfl rfl ?_
              refine zJ_getr (mi := mX11_law) dX11_law_156 F_X11_335 zW_20 rfl rfl ?_
              obtain ⟨rn4, hcl, h⟩ := bd1_some h
              refine zJ_callV2 (mi := mX11_law) (yi := mX10_placeOf) (as := [.int v4_120, .ref 23]) (st := [.int rn3, .int v3_120]) (L2 := ([(193, numbers_size), (329, course_allowed), (1284, rounds_size)], [(23, rounds_faults), (24, rounds_tenths), (53, newFaults_26x)], [(4, numbers_told)])) dX11_law_159 ML_X11_339 Yv_X10_placeOf rfl zW_20 rfl rfl (t_X10_placeOf_rounds_faults l _ hcl) (zsub_i (zle_c rfl zle_n) (zle_c rfl (zle_c rfl zle_n)) zle_n) (zjok_i rfl rfl (zle_c rfl (zle_c rfl (zle_c rfl zle_n))) rfl rfl (zle_c rfl (zle_c rfl (zle_c rfl zle_n))) rfl rfl (zle_c rfl zle_n)) (Nat.le_of_ble_eq_true rfl) (Nat.le_of_ble_eq_true rfl) rfl rfl ?_
              refine zJ_icmp_eq (tgt := 169) dX11_law_162 (by decide) rfl (fun hc => ?_) (fun hc => ?_)
              · replace h := it_t hc h
                refine zJ_iconst dX11_law_169 zc_0 rfl ?_
                refine zJ_iadd dX11_law_170 rfl ?_
                obtain ⟨v3n5, ev3n5, h⟩ := lt1_some h
                refine zJ_nmi ev3n5 ?_
                refine zJ_istore_n (ls' := [(3, .int v3n5), (0, .ref 0), (4, .int v4_120)]) dX11_law_171 rfl rfl rfl ?_
                obtain ⟨v4n6, ev4n6, h⟩ := lt1_some h
                refine zJ_iincN (ls' := [(4, .int v4n6), (3, .int v3n5), (0, .ref 0)]) dX11_law_172 rfl rfl zc_1 ev4n6 rfl rfl ?_
                refine zJ_goto (tgt := 120) dX11_law_175 (by decide) ?_
                refine zJ_loc (ls' := [(0, .ref 0), (3, .int v3n5), (4, .int v4n6)]) (zll_c rfl (zll_c rfl (zll_c rfl zll_n))) ?_
                exact hrc120 _ _ h
              · replace h := it_f hc h
                refine zJ_iconst dX11_law_165 zc_1 rfl ?_
                refine zJ_goto (tgt := 170) dX11_law_166 (by decide) ?_
                refine zJ_iadd dX11_law_170 rfl ?_
                obtain ⟨v3n7, ev3n7, h⟩ := lt1_some h
                refine zJ_nmi ev3n7 ?_
                refine zJ_istore_n (ls' := [(3, .int v3n7), (0, .ref 0), (4, .int v4_120)]) dX11_law_171 rfl rfl rfl ?_
                obtain ⟨v4n8, ev4n8, h⟩ := lt1_some h
                refine zJ_iincN (ls' := [(4, .int v4n8), (3, .int v3n7), (0, .ref 0)]) dX11_law_172 rfl rfl zc_1 ev4n8 rfl rfl ?_
                refine zJ_goto (tgt := 120) dX11_law_175 (by decide) ?_
                refine zJ_loc (ls' := [(0, .ref 0), (3, .int v3n7), (4, .int v4n8)]) (zll_c rfl (zll_c rfl (zll_c rfl zll_n))) ?_
                exact hrc120 _ _ h
          refine zJ_loc (ls' := [(0, .ref 0), (1, .int p1), (2, .int p2), (3, .int (0 : Int32))]) (zll_c rfl (zll_c rfl (zll_c rfl (zll_c rfl zll_n)))) ?_
          refine ml2_J (fun (v3_26 : Int32) (newFaults_26 : (Nat → Int32)) => zJ l zW 2 mX11_law σ ([(193, numbers_size), (329, course_allowed), (1284, rounds_size)], [(23, rounds_faults), (24, rounds_tenths), (53, newFaults_26)], [(4, numbers_told)]) 26 [(0, .ref 0), (1, .int p1), (2, .int p2), (3, .int v3_26)] [] (some (.int r)) ([(193, w_numbers_size), (329, course_allowed), (1284, rounds_size)], [(23, rounds_faults), (24, rounds_tenths), (53, w_newFaults)], [(4, w_numbers_told)])) (fun rc26 hrc26 v3_26 newFaults_26 h => ?_) zN _ _ h
          unfold s_X11_law_26 at h
          refine zJ_iload_n dX11_law_26 rfl rfl ?_
          refine zJ_aload_n dX11_law_27 rfl rfl ?_
          refine zJ_getr (mi := mX11_law) dX11_law_28 F_X11_33 zW_0 rfl rfl ?_
          refine zJ_geti (mi := mX11_law) (x := rounds_size) dX11_law_31 F_X11_107 zW_20 rfl rfl rfl ?_
          refine zJ_icmp_ge (tgt := 115) dX11_law_34 (by decide) rfl (fun hc => ?_) (fun hc => ?_)
          · replace h := it_t hc h
            refine zJ_loc (ls' := [(0, .ref 0)]) (zll_c rfl zll_n) ?_
            exact hk26 _ h
          · replace h := it_f hc h
            refine zJ_aload_n dX11_law_37 rfl rfl ?_
            refine zJ_getr (mi := mX11_law) dX11_law_38 F_X11_33 zW_0 rfl rfl ?_
            refine zJ_getr (mi := mX11_law) dX11_law_41 F_X11_337 zW_20 rfl rfl ?_
            refine zJ_iload_n dX11_law_44 rfl rfl ?_
            obtain ⟨hg, h⟩ := gd_some h
            refine zJ_iald (mi := mX11_law) (f := rounds_tenths) dX11_law_45 zW_24 (ix_in hg) rfl rfl ?_
            refine zJ_aload_n dX11_law_46 rfl rfl ?_
            refine zJ_getr (mi := mX11_law) dX11_law_47 F_X11_26 zW_0 rfl rfl ?_
            refine zJ_geti (mi := mX11_law) (x := course_allowed) dX11_law_50 F_X11_154 zW_5 rfl rfl rfl ?_
            refine zJ_bipush dX11_law_53 zb_40 rfl ?_
            obtain ⟨rn9, hcl, h⟩ := bd1_some h
            refine zJ_callS2 (mi := mX11_law) (yi := mX11_begun) (as := [.int (rounds_tenths v3_26.toNatClampNeg), .int course_allowed, .int (40 : Int32)]) (st := []) (L2 := ([(193, numbers_size), (329, course_allowed), (1284, rounds_size)], [(23, rounds_faults), (24, rounds_tenths), (53, newFaults_26)], [(4, numbers_told)])) dX11_law_55 ML_X11_353 Ys_X11_begun rfl (t_X11_begun l _ hcl) (zsub_i zle_n zle_n zle_n) (zjok_i rfl rfl (zle_c rfl (zle_c rfl (zle_c rfl zle_n))) rfl rfl (zle_c rfl (zle_c rfl (zle_c rfl zle_n))) rfl rfl (zle_c rfl zle_n)) (Nat.le_of_ble_eq_true rfl) (Nat.le_of_ble_eq_true rfl) rfl rfl ?_
            refine zJ_istore (ls' := [(4, .int rn9), (0, .ref 0), (1, .int p1), (2, .int p2), (3, .int v3_26)]) dX11_law_58 rfl rfl rfl ?_
            refine zJ_iconst dX11_law_60 zc_0 rfl ?_
            refine zJ_aload_n dX11_law_61 rfl rfl ?_
            refine zJ_getr (mi := mX11_law) dX11_law_62 F_X11_33 zW_0 rfl rfl ?_
            refine zJ_getr (mi := mX11_law) dX11_law_65 F_X11_335 zW_20 rfl rfl ?_
            refine zJ_iload_n dX11_law_68 rfl rfl ?_
            obtain ⟨hg, h⟩ := gd_some h
            refine zJ_iald (mi := mX11_law) (f := rounds_faults) dX11_law_69 zW_23 (ix_in hg) rfl rfl ?_
            refine zJ_iload dX11_law_70 rfl rfl ?_
            refine zJ_isub dX11_law_72 rfl ?_
            refine zJ_mmax (mi := mX11_law) dX11_law_73 L_X11_168 K_max_s K_math K_max_c (Nat.le_of_ble_eq_true rfl) (Nat.le_of_ble_eq_true rfl) rfl ?_
            obtain ⟨v5n10, ev5n10, h⟩ := lt1_some h
            refine zJ_nmi ev5n10 ?_
            refine zJ_istore (ls' := [(5, .int v5n10), (4, .int rn9), (0, .ref 0), (1, .int p1), (2, .int p2), (3, .int v3_26)]) dX11_law_76 rfl rfl rfl ?_
            refine zJ_aload_n dX11_law_78 rfl rfl ?_
            refine zJ_getr (mi := mX11_law) dX11_law_79 F_X11_88 zW_0 rfl rfl ?_
            refine zJ_iload_n dX11_law_82 rfl rfl ?_
            refine zJ_iload dX11_law_83 rfl rfl ?_
            refine zJ_iload_n dX11_law_85 rfl rfl ?_
            refine zJ_aload_n dX11_law_86 rfl rfl ?_
            refine zJ_getr (mi := mX11_law) dX11_law_87 F_X11_33 zW_0 rfl rfl ?_
            refine zJ_getr (mi := mX11_law) dX11_law_90 F_X11_337 zW_20 rfl rfl ?_
            refine zJ_iload_n dX11_law_93 rfl rfl ?_
            obtain ⟨hg, h⟩ := gd_some h
            refine zJ_iald (mi := mX11_law) (f := rounds_tenths) dX11_law_94 zW_24 (ix_in hg) rfl rfl ?_
            refine zJ_aload_n dX11_law_95 rfl rfl ?_
            refine zJ_getr (mi := mX11_law) dX11_law_96 F_X11_26 zW_0 rfl rfl ?_
            refine zJ_geti (mi := mX11_law) (x := course_allowed) dX11_law_99 F_X11_154 zW_5 rfl rfl rfl ?_
            refine zJ_iload_n dX11_law_102 rfl rfl ?_
            obtain ⟨rn11, hcl, h⟩ := bd1_some h
            refine zJ_callS2 (mi := mX11_law) (yi := mX11_begun) (as := [.int (rounds_tenths v3_26.toNatClampNeg), .int course_allowed, .int p1]) (st := [.int p2, .int v5n10, .int v3_26, .ref 53]) (L2 := ([(193, numbers_size), (329, course_allowed), (1284, rounds_size)], [(23, rounds_faults), (24, rounds_tenths), (53, newFaults_26)], [(4, numbers_told)])) dX11_law_103 ML_X11_353 Ys_X11_begun rfl (t_X11_begun l _ hcl) (zsub_i zle_n zle_n zle_n) (zjok_i rfl rfl (zle_c rfl (zle_c rfl (zle_c rfl zle_n))) rfl rfl (zle_c rfl (zle_c rfl (zle_c rfl zle_n))) rfl rfl (zle_c rfl zle_n)) (Nat.le_of_ble_eq_true rfl) (Nat.le_of_ble_eq_true rfl) rfl rfl ?_
            refine zJ_imul dX11_law_106 rfl ?_
            refine zJ_iadd dX11_law_107 rfl ?_
            obtain ⟨hg, h⟩ := gd_some h
            refine zK_iast (mi := mX11_law) (f := newFaults_26) (lb' := [(23, rounds_faults), (24, rounds_tenths), (53, (upd newFaults_26 v3_26.toNatClampNeg (v5n10 + (p2 * rn11))))]) dX11_law_108 zW_53 (ix_in hg) rfl rfl rfl ?_
            obtain ⟨v3n12, ev3n12, h⟩ := lt1_some h
            refine zJ_iincN (ls' := [(3, .int v3n12), (5, .int v5n10), (4, .int rn9), (0, .ref 0), (1, .int p1), (2, .int p2)]) dX11_law_109 rfl rfl zc_1 ev3n12 rfl rfl ?_
            refine zJ_goto (tgt := 26) dX11_law_112 (by decide) ?_
            refine zJ_loc (ls' := [(0, .ref 0), (1, .int p1), (2, .int p2), (3, .int v3n12)]) (zll_c rfl (zll_c rfl (zll_c rfl (zll_c rfl zll_n)))) ?_
            exact hrc26 _ _ h
        · replace h := it_f hc h
          refine zJ_iconst dX11_law_22 zc_m1 rfl ?_
          obtain ⟨rfl, rfl, rfl, rfl⟩ := so4 h
          exact zJ_iret dX11_law_23 rfl rfl
set_option maxRecDepth 100000 in
set_option maxHeartbeats 4000000 in
theorem t_X11_tellDrawn (l : Launch) (σ : zS) {numbers_size : Int32} {drawn_state : Int32} {drawn_tenths : Int32} {drawn_refused : Int32} {drawn_fallen : Int32} {numbers_told : (Nat → Int64)} {w_numbers_size : Int32} {w_numbers_told : (Nat → Int64)} (h : f_X11_tellDrawn numbers_size drawn_state drawn_tenths drawn_refused drawn_fallen numbers_told = some (w_numbers_size, w_numbers_told)) : zMt l zW 1 mX11_tellDrawn σ ([(193, numbers_size), (2112, drawn_state), (2114, drawn_tenths), (2115, drawn_refused), (2116, drawn_fallen)], [], [(4, numbers_told)]) [.ref 0] none ([(193, w_numbers_size), (2112, drawn_state), (2114, drawn_tenths), (2115, drawn_refused), (2116, drawn_fallen)], [], [(4, w_numbers_told)]) := by
  refine zMt_of (ls := [(0, .ref 0)]) (by decide) rfl (fun _ => Nat.le_of_ble_eq_true rfl) rfl ?_
  unfold f_X11_tellDrawn at h
  refine zJ_aload_n dX11_tellDrawn_0 rfl rfl ?_
  refine zJ_getr (mi := mX11_tellDrawn) dX11_tellDrawn_1 F_X11_19 zW_0 rfl rfl ?_
  obtain ⟨numbers_sizen1, hcl, h⟩ := bd1_some h
  refine zJ_callV2 (mi := mX11_tellDrawn) (yi := mX6_start) (as := []) (st := []) (L2 := ([(193, numbers_sizen1), (2112, drawn_state), (2114, drawn_tenths), (2115, drawn_refused), (2116, drawn_fallen)], [], [(4, numbers_told)])) dX11_tellDrawn_4 ML_X11_171 Yv_X6_start rfl zW_3 rfl rfl (t_X6_start l _ hcl) (zsub_i (zle_c rfl zle_n) zle_n zle_n) (zjok_i rfl rfl (zle_c rfl (zle_c rfl (zle_c rfl (zle_c rfl (zle_c rfl zle_n))))) rfl rfl zle_n rfl rfl (zle_c rfl zle_n)) (Nat.le_of_ble_eq_true rfl) (Nat.le_of_ble_eq_true rfl) rfl rfl ?_
  refine zJ_aload_n dX11_tellDrawn_7 rfl rfl ?_
  refine zJ_getr (mi := mX11_tellDrawn) dX11_tellDrawn_8 F_X11_19 zW_0 rfl rfl ?_
  refine zJ_aload_n dX11_tellDrawn_11 rfl rfl ?_
  refine zJ_getr (mi := mX11_tellDrawn) dX11_tellDrawn_12 F_X11_52 zW_0 rfl rfl ?_
  refine zJ_geti (mi := mX11_tellDrawn) (x := drawn_tenths) dX11_tellDrawn_15 F_X11_267 zW_33 rfl rfl rfl ?_
  refine zJ_i2l dX11_tellDrawn_18 rfl ?_
  obtain ⟨numbers_sizen2, numbers_toldn3, hcl, h⟩ := bd2_some h
  refine zJ_callV2 (mi := mX11_tellDrawn) (yi := mX6_put) (as := [.long drawn_tenths.toInt64]) (st := []) (L2 := ([(193, numbers_sizen2), (2112, drawn_state), (2114, drawn_tenths), (2115, drawn_refused), (2116, drawn_fallen)], [], [(4, numbers_toldn3)])) dX11_tellDrawn_19 ML_X11_177 Yv_X6_put rfl zW_3 rfl rfl (t_X6_put l _ hcl) (zsub_i (zle_c rfl zle_n) zle_n (zle_c rfl zle_n)) (zjok_i rfl rfl (zle_c rfl (zle_c rfl (zle_c rfl (zle_c rfl (zle_c rfl zle_n))))) rfl rfl zle_n rfl rfl (zle_c rfl zle_n)) (Nat.le_of_ble_eq_true rfl) (Nat.le_of_ble_eq_true rfl) rfl rfl ?_
  refine zJ_aload_n dX11_tellDrawn_22 rfl rfl ?_
  refine zJ_getr (mi := mX11_tellDrawn) dX11_tellDrawn_23 F_X11_19 zW_0 rfl rfl ?_
  refine zJ_aload_n dX11_tellDrawn_26 rfl rfl ?_
  refine zJ_getr (mi := mX11_tellDrawn) dX11_tellDrawn_27 F_X11_52 zW_0 rfl rfl ?_
  refine zJ_geti (mi := mX11_tellDrawn) (x := drawn_refused) dX11_tellDrawn_30 F_X11_277 zW_33 rfl rfl rfl ?_
  refine zJ_i2l dX11_tellDrawn_33 rfl ?_
  obtain ⟨numbers_sizen4, numbers_toldn5, hcl, h⟩ := bd2_some h
  refine zJ_callV2 (mi := mX11_tellDrawn) (yi := mX6_put) (as := [.long drawn_refused.toInt64]) (st := []) (L2 := ([(193, numbers_sizen4), (2112, drawn_state), (2114, drawn_tenths), (2115, drawn_refused), (2116, drawn_fallen)], [], [(4, numbers_toldn5)])) dX11_tellDrawn_34 ML_X11_177 Yv_X6_put rfl zW_3 rfl rfl (t_X6_put l _ hcl) (zsub_i (zle_c rfl zle_n) zle_n (zle_c rfl zle_n)) (zjok_i rfl rfl (zle_c rfl (zle_c rfl (zle_c rfl (zle_c rfl (zle_c rfl zle_n))))) rfl rfl zle_n rfl rfl (zle_c rfl zle_n)) (Nat.le_of_ble_eq_true rfl) (Nat.le_of_ble_eq_true rfl) rfl rfl ?_
  refine zJ_aload_n dX11_tellDrawn_37 rfl rfl ?_
  refine zJ_getr (mi := mX11_tellDrawn) dX11_tellDrawn_38 F_X11_19 zW_0 rfl rfl ?_
  refine zJ_aload_n dX11_tellDrawn_41 rfl rfl ?_
  refine zJ_getr (mi := mX11_tellDrawn) dX11_tellDrawn_42 F_X11_52 zW_0 rfl rfl ?_
  refine zJ_geti (mi := mX11_tellDrawn) (x := drawn_fallen) dX11_tellDrawn_45 F_X11_280 zW_33 rfl rfl rfl ?_
  refine zJ_i2l dX11_tellDrawn_48 rfl ?_
  obtain ⟨numbers_sizen6, numbers_toldn7, hcl, h⟩ := bd2_some h
  refine zJ_callV2 (mi := mX11_tellDrawn) (yi := mX6_put) (as := [.long drawn_fallen.toInt64]) (st := []) (L2 := ([(193, numbers_sizen6), (2112, drawn_state), (2114, drawn_tenths), (2115, drawn_refused), (2116, drawn_fallen)], [], [(4, numbers_toldn7)])) dX11_tellDrawn_49 ML_X11_177 Yv_X6_put rfl zW_3 rfl rfl (t_X6_put l _ hcl) (zsub_i (zle_c rfl zle_n) zle_n (zle_c rfl zle_n)) (zjok_i rfl rfl (zle_c rfl (zle_c rfl (zle_c rfl (zle_c rfl (zle_c rfl zle_n))))) rfl rfl zle_n rfl rfl (zle_c rfl zle_n)) (Nat.le_of_ble_eq_true rfl) (Nat.le_of_ble_eq_true rfl) rfl rfl ?_
  refine zJ_aload_n dX11_tellDrawn_52 rfl rfl ?_
  refine zJ_getr (mi := mX11_tellDrawn) dX11_tellDrawn_53 F_X11_19 zW_0 rfl rfl ?_
  refine zJ_aload_n dX11_tellDrawn_56 rfl rfl ?_
  refine zJ_getr (mi := mX11_tellDrawn) dX11_tellDrawn_57 F_X11_52 zW_0 rfl rfl ?_
  refine zJ_geti (mi := mX11_tellDrawn) (x := drawn_state) dX11_tellDrawn_60 F_X11_283 zW_33 rfl rfl rfl ?_
  refine zJ_i2l dX11_tellDrawn_63 rfl ?_
  obtain ⟨numbers_sizen8, numbers_toldn9, hcl, h⟩ := bd2_some h
  refine zJ_callV2 (mi := mX11_tellDrawn) (yi := mX6_put) (as := [.long drawn_state.toInt64]) (st := []) (L2 := ([(193, numbers_sizen8), (2112, drawn_state), (2114, drawn_tenths), (2115, drawn_refused), (2116, drawn_fallen)], [], [(4, numbers_toldn9)])) dX11_tellDrawn_64 ML_X11_177 Yv_X6_put rfl zW_3 rfl rfl (t_X6_put l _ hcl) (zsub_i (zle_c rfl zle_n) zle_n (zle_c rfl zle_n)) (zjok_i rfl rfl (zle_c rfl (zle_c rfl (zle_c rfl (zle_c rfl (zle_c rfl zle_n))))) rfl rfl zle_n rfl rfl (zle_c rfl zle_n)) (Nat.le_of_ble_eq_true rfl) (Nat.le_of_ble_eq_true rfl) rfl rfl ?_
  obtain ⟨rfl, rfl⟩ := so2 h
  exact zJ_vret dX11_tellDrawn_67 rfl
set_option maxRecDepth 100000 in
set_option maxHeartbeats 4000000 in
theorem t_X11_look (l : Launch) (σ : zS) {p1 : Int32} {p2 : Int32} {p3 : Int32} {numbers_size : Int32} {course_fences : Int32} {course_horseCount : Int32} {course_planCount : Int32} {course_allowed : Int32} {course_rule_size : Int32} {drawn_state : Int32} {drawn_faults : Int32} {drawn_tenths : Int32} {drawn_refused : Int32} {drawn_fallen : Int32} {course_kinds : (Nat → Int32)} {course_heights : (Nat → Int32)} {course_feet : (Nat → Int32)} {course_digits : (Nat → Int32)} {course_plans : (Nat → Int32)} {rule_codes : (Nat → Int32)} {rule_stack : (Nat → Int32)} {rule_things : (Nat → Int32)} {numbers_told : (Nat → Int64)} {r : Int32} {w_numbers_size : Int32} {w_drawn_state : Int32} {w_drawn_faults : Int32} {w_drawn_tenths : Int32} {w_drawn_refused : Int32} {w_drawn_fallen : Int32} {w_rule_stack : (Nat → Int32)} {w_rule_things : (Nat → Int32)} {w_numbers_told : (Nat → Int64)} (h : f_X11_look p1 p2 p3 numbers_size course_fences course_horseCount course_planCount course_allowed course_rule_size drawn_state drawn_faults drawn_tenths drawn_refused drawn_fallen course_kinds course_heights course_feet course_digits course_plans rule_codes rule_stack rule_things numbers_told = some (r, w_numbers_size, w_drawn_state, w_drawn_faults, w_drawn_tenths, w_drawn_refused, w_drawn_fallen, w_rule_stack, w_rule_things, w_numbers_told)) : zMt l zW 5 mX11_look σ ([(193, numbers_size), (323, course_fences), (326, course_horseCount), (328, course_planCount), (329, course_allowed), (769, course_rule_size), (2112, drawn_state), (2113, drawn_faults), (2114, drawn_tenths), (2115, drawn_refused), (2116, drawn_fallen)], [(6, course_kinds), (7, course_heights), (8, course_feet), (10, course_digits), (11, course_plans), (13, rule_codes), (15, rule_stack), (16, rule_things)], [(4, numbers_told)]) [.ref 0, .int p1, .int p2, .int p3] (some (.int r)) ([(193, w_numbers_size), (323, course_fences), (326, course_horseCount), (328, course_planCount), (329, course_allowed), (769, course_rule_size), (2112, w_drawn_state), (2113, w_drawn_faults), (2114, w_drawn_tenths), (2115, w_drawn_refused), (2116, w_drawn_fallen)], [(6, course_kinds), (7, course_heights), (8, course_feet), (10, course_digits), (11, course_plans), (13, rule_codes), (15, w_rule_stack), (16, w_rule_things)], [(4, w_numbers_told)]) := by
  refine zMt_of (ls := [(0, .ref 0), (1, .int p1), (2, .int p2), (3, .int p3)]) (by decide) rfl (fun _ => Nat.le_of_ble_eq_true rfl) rfl ?_
  unfold f_X11_look at h
  refine zJ_aload_n dX11_look_0 rfl rfl ?_
  refine zJ_getr (mi := mX11_look) dX11_look_1 F_X11_26 zW_0 rfl rfl ?_
  refine zJ_iload_n dX11_look_4 rfl rfl ?_
  obtain ⟨rn1, hcl, h⟩ := bd1_some h
  refine zJ_callV2 (mi := mX11_look) (yi := mX1_hasHorse) (as := [.int p1]) (st := []) (L2 := ([(193, numbers_size), (323, course_fences), (326, course_horseCount), (328, course_planCount), (329, course_allowed), (769, course_rule_size), (2112, drawn_state), (2113, drawn_faults), (2114, drawn_tenths), (2115, drawn_refused), (2116, drawn_fallen)], [(6, course_kinds), (7, course_heights), (8, course_feet), (10, course_digits), (11, course_plans), (13, rule_codes), (15, rule_stack), (16, rule_things)], [(4, numbers_told)])) dX11_look_5 ML_X11_147 Yv_X1_hasHorse rfl zW_5 rfl rfl (t_X1_hasHorse l _ hcl) (zsub_i (zle_c rfl zle_n) zle_n zle_n) (zjok_i rfl rfl (zle_c rfl (zle_c rfl (zle_c rfl (zle_c rfl (zle_c rfl (zle_c rfl (zle_c rfl (zle_c rfl (zle_c rfl (zle_c rfl (zle_c rfl zle_n))))))))))) rfl rfl (zle_c rfl (zle_c rfl (zle_c rfl (zle_c rfl (zle_c rfl (zle_c rfl (zle_c rfl (zle_c rfl zle_n)))))))) rfl rfl (zle_c rfl zle_n)) (Nat.le_of_ble_eq_true rfl) (Nat.le_of_ble_eq_true rfl) rfl rfl ?_
  refine zJ_if_eq (tgt := 22) dX11_look_8 (by decide) rfl (fun hc => ?_) (fun hc => ?_)
  · replace h := it_t hc h
    refine zJ_iconst dX11_look_22 zc_m1 rfl ?_
    obtain ⟨rfl, rfl, rfl, rfl, rfl, rfl, rfl, rfl, rfl, rfl⟩ := so10 h
    exact zJ_iret dX11_look_23 rfl rfl
  · replace h := it_f hc h
    refine zJ_aload_n dX11_look_11 rfl rfl ?_
    refine zJ_getr (mi := mX11_look) dX11_look_12 F_X11_26 zW_0 rfl rfl ?_
    refine zJ_iload_n dX11_look_15 rfl rfl ?_
    obtain ⟨rn2, hcl, h⟩ := bd1_some h
    refine zJ_callV2 (mi := mX11_look) (yi := mX1_hasPlan) (as := [.int p2]) (st := []) (L2 := ([(193, numbers_size), (323, course_fences), (326, course_horseCount), (328, course_planCount), (329, course_allowed), (769, course_rule_size), (2112, drawn_state), (2113, drawn_faults), (2114, drawn_tenths), (2115, drawn_refused), (2116, drawn_fallen)], [(6, course_kinds), (7, course_heights), (8, course_feet), (10, course_digits), (11, course_plans), (13, rule_codes), (15, rule_stack), (16, rule_things)], [(4, numbers_told)])) dX11_look_16 ML_X11_191 Yv_X1_hasPlan rfl zW_5 rfl rfl (t_X1_hasPlan l _ hcl) (zsub_i (zle_c rfl zle_n) zle_n zle_n) (zjok_i rfl rfl (zle_c rfl (zle_c rfl (zle_c rfl (zle_c rfl (zle_c rfl (zle_c rfl (zle_c rfl (zle_c rfl (zle_c rfl (zle_c rfl (zle_c rfl zle_n))))))))))) rfl rfl (zle_c rfl (zle_c rfl (zle_c rfl (zle_c rfl (zle_c rfl (zle_c rfl (zle_c rfl (zle_c rfl zle_n)))))))) rfl rfl (zle_c rfl zle_n)) (Nat.le_of_ble_eq_true rfl) (Nat.le_of_ble_eq_true rfl) rfl rfl ?_
    refine zJ_if_ne (tgt := 24) dX11_look_19 (by decide) rfl (fun hc => ?_) (fun hc => ?_)
    · replace h := it_f hc h
      refine zJ_aload_n dX11_look_24 rfl rfl ?_
      refine zJ_getr (mi := mX11_look) dX11_look_25 F_X11_52 zW_0 rfl rfl ?_
      refine zJ_aload_n dX11_look_28 rfl rfl ?_
      refine zJ_getr (mi := mX11_look) dX11_look_29 F_X11_26 zW_0 rfl rfl ?_
      refine zJ_iload_n dX11_look_32 rfl rfl ?_
      refine zJ_iload_n dX11_look_33 rfl rfl ?_
      refine zJ_iload_n dX11_look_34 rfl rfl ?_
      obtain ⟨drawn_staten3, drawn_faultsn4, drawn_tenthsn5, drawn_refusedn6, drawn_fallenn7, rule_stackn8, rule_thingsn9, hcl, h⟩ := bd7_some h
      refine zJ_callV2 (mi := mX11_look) (yi := mX2_draw) (as := [.ref 5, .int p1, .int p2, .int p3]) (st := []) (L2 := ([(193, numbers_size), (323, course_fences), (326, course_horseCount), (328, course_planCount), (329, course_allowed), (769, course_rule_size), (2112, drawn_staten3), (2113, drawn_faultsn4), (2114, drawn_tenthsn5), (2115, drawn_refusedn6), (2116, drawn_fallenn7)], [(6, course_kinds), (7, course_heights), (8, course_feet), (10, course_digits), (11, course_plans), (13, rule_codes), (15, rule_stackn8), (16, rule_thingsn9)], [(4, numbers_told)])) dX11_look_35 ML_X11_250 Yv_X2_draw rfl zW_33 rfl rfl (t_X2_draw l _ hcl) (zsub_i (zle_c rfl (zle_c rfl (zle_c rfl (zle_c rfl (zle_c rfl (zle_c rfl (zle_c rfl (zle_c rfl zle_n)))))))) (zle_c rfl (zle_c rfl (zle_c rfl (zle_c rfl (zle_c rfl (zle_c rfl (zle_c rfl (zle_c rfl zle_n)))))))) zle_n) (zjok_i rfl rfl (zle_c rfl (zle_c rfl (zle_c rfl (zle_c rfl (zle_c rfl (zle_c rfl (zle_c rfl (zle_c rfl (zle_c rfl (zle_c rfl (zle_c rfl zle_n))))))))))) rfl rfl (zle_c rfl (zle_c rfl (zle_c rfl (zle_c rfl (zle_c rfl (zle_c rfl (zle_c rfl (zle_c rfl zle_n)))))))) rfl rfl (zle_c rfl zle_n)) (Nat.le_of_ble_eq_true rfl) (Nat.le_of_ble_eq_true rfl) rfl rfl ?_
      refine zJ_aload_n dX11_look_38 rfl rfl ?_
      obtain ⟨numbers_sizen10, numbers_toldn11, hcl, h⟩ := bd2_some h
      refine zJ_callV2 (mi := mX11_look) (yi := mX11_tellDrawn) (as := []) (st := []) (L2 := ([(193, numbers_sizen10), (323, course_fences), (326, course_horseCount), (328, course_planCount), (329, course_allowed), (769, course_rule_size), (2112, drawn_staten3), (2113, drawn_faultsn4), (2114, drawn_tenthsn5), (2115, drawn_refusedn6), (2116, drawn_fallenn7)], [(6, course_kinds), (7, course_heights), (8, course_feet), (10, course_digits), (11, course_plans), (13, rule_codes), (15, rule_stackn8), (16, rule_thingsn9)], [(4, numbers_toldn11)])) dX11_look_39 ML_X11_247 Yv_X11_tellDrawn rfl zW_0 rfl rfl (t_X11_tellDrawn l _ hcl) (zsub_i (zle_c rfl (zle_c rfl (zle_c rfl (zle_c rfl (zle_c rfl zle_n))))) zle_n (zle_c rfl zle_n)) (zjok_i rfl rfl (zle_c rfl (zle_c rfl (zle_c rfl (zle_c rfl (zle_c rfl (zle_c rfl (zle_c rfl (zle_c rfl (zle_c rfl (zle_c rfl (zle_c rfl zle_n))))))))))) rfl rfl (zle_c rfl (zle_c rfl (zle_c rfl (zle_c rfl (zle_c rfl (zle_c rfl (zle_c rfl (zle_c rfl zle_n)))))))) rfl rfl (zle_c rfl zle_n)) (Nat.le_of_ble_eq_true rfl) (Nat.le_of_ble_eq_true rfl) rfl rfl ?_
      refine zJ_aload_n dX11_look_42 rfl rfl ?_
      refine zJ_getr (mi := mX11_look) dX11_look_43 F_X11_52 zW_0 rfl rfl ?_
      refine zJ_geti (mi := mX11_look) (x := drawn_faultsn4) dX11_look_46 F_X11_254 zW_33 rfl rfl rfl ?_
      obtain ⟨rfl, rfl, rfl, rfl, rfl, rfl, rfl, rfl, rfl, rfl⟩ := so10 h
      exact zJ_iret dX11_look_49 rfl rfl
    · replace h := it_t hc h
      refine zJ_iconst dX11_look_22 zc_m1 rfl ?_
      obtain ⟨rfl, rfl, rfl, rfl, rfl, rfl, rfl, rfl, rfl, rfl⟩ := so10 h
      exact zJ_iret dX11_look_23 rfl rfl
set_option maxRecDepth 100000 in
set_option maxHeartbeats 4000000 in
theorem t_X11_lot (l : Launch) (σ : zS) {text_size : Int32} {text_limit : Int32} {text_at : Int32} {numbers_size : Int32} {course_fences : Int32} {course_horseCount : Int32} {course_planCount : Int32} {course_allowed : Int32} {course_rule_size : Int32} {rounds_size : Int32} {play_players : Int32} {play_plans : Int32} {play_firstPlan : Int32} {text_signs : (Nat → Int32)} {course_kinds : (Nat → Int32)} {course_heights : (Nat → Int32)} {course_feet : (Nat → Int32)} {course_digits : (Nat → Int32)} {course_plans : (Nat → Int32)} {rule_codes : (Nat → Int32)} {rule_stack : (Nat → Int32)} {rule_things : (Nat → Int32)} {rounds_faults : (Nat → Int32)} {rounds_tenths : (Nat → Int32)} {rounds_money : (Nat → Int32)} {play_named : (Nat → Int32)} {play_faults : (Nat → Int32)} {play_tenths : (Nat → Int32)} {play_places : (Nat → Int32)} {play_clears : (Nat → Int32)} {play_ends : (Nat → Int32)} {numbers_told : (Nat → Int64)} {play_worth : (Nat → Int64)} {play_trial : (Nat → Int64)} {r : Int32} {w_text_size : Int32} {w_text_limit : Int32} {w_text_at : Int32} {w_numbers_size : Int32} {w_play_players : Int32} {w_play_plans : Int32} {w_play_firstPlan : Int32} {w_rule_stack : (Nat → Int32)} {w_rule_things : (Nat → Int32)} {w_play_named : (Nat → Int32)} {w_play_faults : (Nat → Int32)} {w_play_tenths : (Nat → Int32)} {w_play_places : (Nat → Int32)} {w_play_clears : (Nat → Int32)} {w_play_ends : (Nat → Int32)} {w_numbers_told : (Nat → Int64)} {w_play_worth : (Nat → Int64)} {w_play_trial : (Nat → Int64)} (h : f_X11_lot text_size text_limit text_at numbers_size course_fences course_horseCount course_planCount course_allowed course_rule_size rounds_size play_players play_plans play_firstPlan text_signs course_kinds course_heights course_feet course_digits course_plans rule_codes rule_stack rule_things rounds_faults rounds_tenths rounds_money play_named play_faults play_tenths play_places play_clears play_ends numbers_told play_worth play_trial = some (r, w_text_size, w_text_limit, w_text_at, w_numbers_size, w_play_players, w_play_plans, w_play_firstPlan, w_rule_stack, w_rule_things, w_play_named, w_play_faults, w_play_tenths, w_play_places, w_play_clears, w_play_ends, w_numbers_told, w_play_worth, w_play_trial)) : zMt l zW 204 mX11_lot σ ([(65, text_size), (66, text_limit), (67, text_at), (193, numbers_size), (323, course_fences), (326, course_horseCount), (328, course_planCount), (329, course_allowed), (769, course_rule_size), (1284, rounds_size), (2497, play_players), (2498, play_plans), (2499, play_firstPlan)], [(2, text_signs), (6, course_kinds), (7, course_heights), (8, course_feet), (10, course_digits), (11, course_plans), (13, rule_codes), (15, rule_stack), (16, rule_things), (23, rounds_faults), (24, rounds_tenths), (25, rounds_money), (40, play_named), (41, play_faults), (42, play_tenths), (43, play_places), (44, play_clears), (45, play_ends)], [(4, numbers_told), (46, play_worth), (47, play_trial)]) [.ref 0] (some (.int r)) ([(65, w_text_size), (66, w_text_limit), (67, w_text_at), (193, w_numbers_size), (323, course_fences), (326, course_horseCount), (328, course_planCount), (329, course_allowed), (769, course_rule_size), (1284, rounds_size), (2497, w_play_players), (2498, w_play_plans), (2499, w_play_firstPlan)], [(2, text_signs), (6, course_kinds), (7, course_heights), (8, course_feet), (10, course_digits), (11, course_plans), (13, rule_codes), (15, w_rule_stack), (16, w_rule_things), (23, rounds_faults), (24, rounds_tenths), (25, rounds_money), (40, w_play_named), (41, w_play_faults), (42, w_play_tenths), (43, w_play_places), (44, w_play_clears), (45, w_play_ends)], [(4, w_numbers_told), (46, w_play_worth), (47, w_play_trial)]) := by
  refine zMt_of (ls := [(0, .ref 0)]) (by decide) rfl (fun _ => Nat.le_of_ble_eq_true rfl) rfl ?_
  unfold f_X11_lot at h
  refine zJ_aload_n dX11_lot_0 rfl rfl ?_
  refine zJ_iconst dX11_lot_1 zc_2 rfl ?_
  refine zJ_iconst dX11_lot_2 zc_3 rfl ?_
  obtain ⟨rn1, text_sizen2, text_limitn3, text_atn4, play_playersn5, play_namedn6, hcl, h⟩ := bd6_some h
  refine zJ_callV2 (mi := mX11_lot) (yi := mX11_readPlayers) (as := [.int (2 : Int32), .int (3 : Int32)]) (st := []) (L2 := ([(65, text_sizen2), (66, text_limitn3), (67, text_atn4), (193, numbers_size), (323, course_fences), (326, course_horseCount), (328, course_planCount), (329, course_allowed), (769, course_rule_size), (1284, rounds_size), (2497, play_playersn5), (2498, play_plans), (2499, play_firstPlan)], [(2, text_signs), (6, course_kinds), (7, course_heights), (8, course_feet), (10, course_digits), (11, course_plans), (13, rule_codes), (15, rule_stack), (16, rule_things), (23, rounds_faults), (24, rounds_tenths), (25, rounds_money), (40, play_namedn6), (41, play_faults), (42, play_tenths), (43, play_places), (44, play_clears), (45, play_ends)], [(4, numbers_told), (46, play_worth), (47, play_trial)])) dX11_lot_3 ML_X11_371 Yv_X11_readPlayers rfl zW_0 rfl rfl (t_X11_readPlayers l _ hcl) (zsub_i (zle_c rfl (zle_c rfl (zle_c rfl (zle_c rfl (zle_c rfl (zle_c rfl zle_n)))))) (zle_c rfl (zle_c rfl zle_n)) zle_n) (zjok_i rfl rfl (zle_c rfl (zle_c rfl (zle_c rfl (zle_c rfl (zle_c rfl (zle_c rfl (zle_c rfl (zle_c rfl (zle_c rfl (zle_c rfl (zle_c rfl (zle_c rfl (zle_c rfl zle_n))))))))))))) rfl rfl (zle_c rfl (zle_c rfl (zle_c rfl (zle_c rfl (zle_c rfl (zle_c rfl (zle_c rfl (zle_c rfl (zle_c rfl (zle_c rfl (zle_c rfl (zle_c rfl (zle_c rfl (zle_c rfl (zle_c rfl (zle_c rfl (zle_c rfl (zle_c rfl zle_n)))))))))))))))))) rfl rfl (zle_c rfl (zle_c rfl (zle_c rfl zle_n)))) (Nat.le_of_ble_eq_true rfl) (Nat.le_of_ble_eq_true rfl) rfl rfl ?_
  refine zJ_istore_n (ls' := [(1, .int rn1), (0, .ref 0)]) dX11_lot_6 rfl rfl rfl ?_
  refine zJ_iload_n dX11_lot_7 rfl rfl ?_
  refine zJ_if_ge (tgt := 13) dX11_lot_8 (by decide) rfl (fun hc => ?_) (fun hc => ?_)
  · replace h := it_t hc h
    refine zJ_aload_n dX11_lot_13 rfl rfl ?_
    refine zJ_getr (mi := mX11_lot) dX11_lot_14 F_X11_66 zW_0 rfl rfl ?_
    refine zJ_aload_n dX11_lot_17 rfl rfl ?_
    refine zJ_getr (mi := mX11_lot) dX11_lot_18 F_X11_26 zW_0 rfl rfl ?_
    refine zJ_aload_n dX11_lot_21 rfl rfl ?_
    refine zJ_getr (mi := mX11_lot) dX11_lot_22 F_X11_33 zW_0 rfl rfl ?_
    obtain ⟨play_plansn7, play_faultsn8, play_tenthsn9, play_placesn10, hcl, h⟩ := bd4_some h
    refine zJ_callV2 (mi := mX11_lot) (yi := mX3_begin) (as := [.ref 5, .ref 20]) (st := []) (L2 := ([(65, text_sizen2), (66, text_limitn3), (67, text_atn4), (193, numbers_size), (323, course_fences), (326, course_horseCount), (328, course_planCount), (329, course_allowed), (769, course_rule_size), (1284, rounds_size), (2497, play_playersn5), (2498, play_plansn7), (2499, play_firstPlan)], [(2, text_signs), (6, course_kinds), (7, course_heights), (8, course_feet), (10, course_digits), (11, course_plans), (13, rule_codes), (15, rule_stack), (16, rule_things), (23, rounds_faults), (24, rounds_tenths), (25, rounds_money), (40, play_namedn6), (41, play_faultsn8), (42, play_tenthsn9), (43, play_placesn10), (44, play_clears), (45, play_ends)], [(4, numbers_told), (46, play_worth), (47, play_trial)])) dX11_lot_25 ML_X11_374 Yv_X3_begin rfl zW_39 rfl rfl (t_X3_begin l _ hcl) (zsub_i (zle_c rfl (zle_c rfl (zle_c rfl (zle_c rfl (zle_c rfl zle_n))))) (zle_c rfl (zle_c rfl (zle_c rfl (zle_c rfl (zle_c rfl (zle_c rfl (zle_c rfl (zle_c rfl zle_n)))))))) zle_n) (zjok_i rfl rfl (zle_c rfl (zle_c rfl (zle_c rfl (zle_c rfl (zle_c rfl (zle_c rfl (zle_c rfl (zle_c rfl (zle_c rfl (zle_c rfl (zle_c rfl (zle_c rfl (zle_c rfl zle_n))))))))))))) rfl rfl (zle_c rfl (zle_c rfl (zle_c rfl (zle_c rfl (zle_c rfl (zle_c rfl (zle_c rfl (zle_c rfl (zle_c rfl (zle_c rfl (zle_c rfl (zle_c rfl (zle_c rfl (zle_c rfl (zle_c rfl (zle_c rfl (zle_c rfl (zle_c rfl zle_n)))))))))))))))))) rfl rfl (zle_c rfl (zle_c rfl (zle_c rfl zle_n)))) (Nat.le_of_ble_eq_true rfl) (Nat.le_of_ble_eq_true rfl) rfl rfl ?_
    refine zJ_iconst dX11_lot_28 zc_0 rfl ?_
    refine zJ_istore_n (ls' := [(2, .int (0 : Int32)), (1, .int rn1), (0, .ref 0)]) dX11_lot_29 rfl rfl rfl ?_
    refine zJ_ldc2_w (v := -1) dX11_lot_30 C_X11_399 rfl ?_
    refine zJ_lstore_n (ls' := [(3, .long (-1 : Int64)), (2, .int (0 : Int32)), (1, .int rn1), (0, .ref 0)]) dX11_lot_33 rfl rfl rfl ?_
    refine zJ_iconst dX11_lot_34 zc_0 rfl ?_
    refine zJ_istore (ls' := [(5, .int (0 : Int32)), (3, .long (-1 : Int64)), (2, .int (0 : Int32)), (1, .int rn1), (0, .ref 0)]) dX11_lot_35 rfl rfl rfl ?_
    have hk37 : ∀ (v2_37x : Int32) (v3_37x : Int64) (play_firstPlan_37x : Int32) (rule_stack_37x : (Nat → Int32)) (rule_things_37x : (Nat → Int32)) (play_clears_37x : (Nat → Int32)) (play_ends_37x : (Nat → Int32)) (play_worth_37x : (Nat → Int64)) (play_trial_37x : (Nat → Int64)), k_X11_lot_37 numbers_size numbers_told text_sizen2 text_limitn3 text_atn4 play_playersn5 play_namedn6 play_plansn7 play_faultsn8 play_tenthsn9 play_placesn10 v2_37x v3_37x play_firstPlan_37x rule_stack_37x rule_things_37x play_clears_37x play_ends_37x play_worth_37x play_trial_37x = some (r, w_text_size, w_text_limit, w_text_at, w_numbers_size, w_play_players, w_play_plans, w_play_firstPlan, w_rule_stack, w_rule_things, w_play_named, w_play_faults, w_play_tenths, w_play_places, w_play_clears, w_play_ends, w_numbers_told, w_play_worth, w_play_trial) → zJ l zW 204 mX11_lot σ ([(65, text_sizen2), (66, text_limitn3), (67, text_atn4), (193, numbers_size), (323, course_fences), (326, course_horseCount), (328, course_planCount), (329, course_allowed), (769, course_rule_size), (1284, rounds_size), (2497, play_playersn5), (2498, play_plansn7), (2499, play_firstPlan_37x)], [(2, text_signs), (6, course_kinds), (7, course_heights), (8, course_feet), (10, course_digits), (11, course_plans), (13, rule_codes), (15, rule_stack_37x), (16, rule_things_37x), (23, rounds_faults), (24, rounds_tenths), (25, rounds_money), (40, play_namedn6), (41, play_faultsn8), (42, play_tenthsn9), (43, play_placesn10), (44, play_clears_37x), (45, play_ends_37x)], [(4, numbers_told), (46, play_worth_37x), (47, play_trial_37x)]) 99 [(0, .ref 0), (2, .int v2_37x), (3, .long v3_37x)] [] (some (.int r)) ([(65, w_text_size), (66, w_text_limit), (67, w_text_at), (193, w_numbers_size), (323, course_fences), (326, course_horseCount), (328, course_planCount), (329, course_allowed), (769, course_rule_size), (1284, rounds_size), (2497, w_play_players), (2498, w_play_plans), (2499, w_play_firstPlan)], [(2, text_signs), (6, course_kinds), (7, course_heights), (8, course_feet), (10, course_digits), (11, course_plans), (13, rule_codes), (15, w_rule_stack), (16, w_rule_things), (23, rounds_faults), (24, rounds_tenths), (25, rounds_money), (40, w_play_named), (41, w_play_faults), (42, w_play_tenths), (43, w_play_places), (44, w_play_clears), (45, w_play_ends)], [(4, w_numbers_told), (46, w_play_worth), (47, w_play_trial)]) := by
      intro v2_37x v3_37x play_firstPlan_37x rule_stack_37x rule_things_37x play_clears_37x play_ends_37x play_worth_37x play_trial_37x h
      unfold k_X11_lot_37 at h
      refine zJ_aload_n dX11_lot_99 rfl rfl ?_
      refine zJ_getr (mi := mX11_lot) dX11_lot_100 F_X11_19 zW_0 rfl rfl ?_
      obtain ⟨numbers_sizen11, hcl, h⟩ := bd1_some h
      refine zJ_callV2 (mi := mX11_lot) (yi := mX6_start) (as := []) (st := []) (L2 := ([(65, text_sizen2), (66, text_limitn3), (67, text_atn4), (193, numbers_sizen11), (323, course_fences), (326, course_horseCount), (328, course_planCount), (329, course_allowed), (769, course_rule_size), (1284, rounds_size), (2497, play_playersn5), (2498, play_plansn7), (2499, play_firstPlan_37x)], [(2, text_signs), (6, course_kinds), (7, course_heights), (8, course_feet), (10, course_digits), (11, course_plans), (13, rule_codes), (15, rule_stack_37x), (16, rule_things_37x), (23, rounds_faults), (24, rounds_tenths), (25, rounds_money), (40, play_namedn6), (41, play_faultsn8), (42, play_tenthsn9), (43, play_placesn10), (44, play_clears_37x), (45, play_ends_37x)], [(4, numbers_told), (46, play_worth_37x), (47, play_trial_37x)])) dX11_lot_103 ML_X11_171 Yv_X6_start rfl zW_3 rfl rfl (t_X6_start l _ hcl) (zsub_i (zle_c rfl zle_n) zle_n zle_n) (zjok_i rfl rfl (zle_c rfl (zle_c rfl (zle_c rfl (zle_c rfl (zle_c rfl (zle_c rfl (zle_c rfl (zle_c rfl (zle_c rfl (zle_c rfl (zle_c rfl (zle_c rfl (zle_c rfl zle_n))))))))))))) rfl rfl (zle_c rfl (zle_c rfl (zle_c rfl (zle_c rfl (zle_c rfl (zle_c rfl (zle_c rfl (zle_c rfl (zle_c rfl (zle_c rfl (zle_c rfl (zle_c rfl (zle_c rfl (zle_c rfl (zle_c rfl (zle_c rfl (zle_c rfl (zle_c rfl zle_n)))))))))))))))))) rfl rfl (zle_c rfl (zle_c rfl (zle_c rfl zle_n)))) (Nat.le_of_ble_eq_true rfl) (Nat.le_of_ble_eq_true rfl) rfl rfl ?_
      refine zJ_aload_n dX11_lot_106 rfl rfl ?_
      refine zJ_getr (mi := mX11_lot) dX11_lot_107 F_X11_19 zW_0 rfl rfl ?_
      refine zJ_lload_n dX11_lot_110 rfl rfl ?_
      refine zJ_aload_n dX11_lot_111 rfl rfl ?_
      refine zJ_getr (mi := mX11_lot) dX11_lot_112 F_X11_66 zW_0 rfl rfl ?_
      obtain ⟨rn12, hcl, h⟩ := bd1_some h
      refine zJ_callV2 (mi := mX11_lot) (yi := mX3_scale) (as := []) (st := [.long v3_37x, .ref 3]) (L2 := ([(65, text_sizen2), (66, text_limitn3), (67, text_atn4), (193, numbers_sizen11), (323, course_fences), (326, course_horseCount), (328, course_planCount), (329, course_allowed), (769, course_rule_size), (1284, rounds_size), (2497, play_playersn5), (2498, play_plansn7), (2499, play_firstPlan_37x)], [(2, text_signs), (6, course_kinds), (7, course_heights), (8, course_feet), (10, course_digits), (11, course_plans), (13, rule_codes), (15, rule_stack_37x), (16, rule_things_37x), (23, rounds_faults), (24, rounds_tenths), (25, rounds_money), (40, play_namedn6), (41, play_faultsn8), (42, play_tenthsn9), (43, play_placesn10), (44, play_clears_37x), (45, play_ends_37x)], [(4, numbers_told), (46, play_worth_37x), (47, play_trial_37x)])) dX11_lot_115 ML_X11_388 Yv_X3_scale rfl zW_39 rfl rfl (t_X3_scale l _ hcl) (zsub_i (zle_c rfl zle_n) zle_n zle_n) (zjok_i rfl rfl (zle_c rfl (zle_c rfl (zle_c rfl (zle_c rfl (zle_c rfl (zle_c rfl (zle_c rfl (zle_c rfl (zle_c rfl (zle_c rfl (zle_c rfl (zle_c rfl (zle_c rfl zle_n))))))))))))) rfl rfl (zle_c rfl (zle_c rfl (zle_c rfl (zle_c rfl (zle_c rfl (zle_c rfl (zle_c rfl (zle_c rfl (zle_c rfl (zle_c rfl (zle_c rfl (zle_c rfl (zle_c rfl (zle_c rfl (zle_c rfl (zle_c rfl (zle_c rfl (zle_c rfl zle_n)))))))))))))))))) rfl rfl (zle_c rfl (zle_c rfl (zle_c rfl zle_n)))) (Nat.le_of_ble_eq_true rfl) (Nat.le_of_ble_eq_true rfl) rfl rfl ?_
      obtain ⟨numbers_sizen13, numbers_toldn14, hcl, h⟩ := bd2_some h
      refine zJ_callV2 (mi := mX11_lot) (yi := mX6_putFraction) (as := [.long v3_37x, .long rn12]) (st := []) (L2 := ([(65, text_sizen2), (66, text_limitn3), (67, text_atn4), (193, numbers_sizen13), (323, course_fences), (326, course_horseCount), (328, course_planCount), (329, course_allowed), (769, course_rule_size), (1284, rounds_size), (2497, play_playersn5), (2498, play_plansn7), (2499, play_firstPlan_37x)], [(2, text_signs), (6, course_kinds), (7, course_heights), (8, course_feet), (10, course_digits), (11, course_plans), (13, rule_codes), (15, rule_stack_37x), (16, rule_things_37x), (23, rounds_faults), (24, rounds_tenths), (25, rounds_money), (40, play_namedn6), (41, play_faultsn8), (42, play_tenthsn9), (43, play_placesn10), (44, play_clears_37x), (45, play_ends_37x)], [(4, numbers_toldn14), (46, play_worth_37x), (47, play_trial_37x)])) dX11_lot_118 ML_X11_392 Yv_X6_putFraction rfl zW_3 rfl rfl (t_X6_putFraction l _ hcl) (zsub_i (zle_c rfl zle_n) zle_n (zle_c rfl zle_n)) (zjok_i rfl rfl (zle_c rfl (zle_c rfl (zle_c rfl (zle_c rfl (zle_c rfl (zle_c rfl (zle_c rfl (zle_c rfl (zle_c rfl (zle_c rfl (zle_c rfl (zle_c rfl (zle_c rfl zle_n))))))))))))) rfl rfl (zle_c rfl (zle_c rfl (zle_c rfl (zle_c rfl (zle_c rfl (zle_c rfl (zle_c rfl (zle_c rfl (zle_c rfl (zle_c rfl (zle_c rfl (zle_c rfl (zle_c rfl (zle_c rfl (zle_c rfl (zle_c rfl (zle_c rfl (zle_c rfl zle_n)))))))))))))))))) rfl rfl (zle_c rfl (zle_c rfl (zle_c rfl zle_n)))) (Nat.le_of_ble_eq_true rfl) (Nat.le_of_ble_eq_true rfl) rfl rfl ?_
      refine zJ_iload_n dX11_lot_121 rfl rfl ?_
      obtain ⟨rfl, rfl, rfl, rfl, rfl, rfl, rfl, rfl, rfl, rfl, rfl, rfl, rfl, rfl, rfl, rfl, rfl, rfl, rfl⟩ := so19 h
      exact zJ_iret dX11_lot_122 rfl rfl
    refine zJ_loc (ls' := [(0, .ref 0), (2, .int (0 : Int32)), (3, .long (-1 : Int64)), (5, .int (0 : Int32))]) (zll_c rfl (zll_c rfl (zll_c rfl (zll_c rfl zll_n)))) ?_
    refine ml10_J (fun (v2_37 : Int32) (v3_37 : Int64) (v5_37 : Int32) (play_firstPlan_37 : Int32) (rule_stack_37 : (Nat → Int32)) (rule_things_37 : (Nat → Int32)) (play_clears_37 : (Nat → Int32)) (play_ends_37 : (Nat → Int32)) (play_worth_37 : (Nat → Int64)) (play_trial_37 : (Nat → Int64)) => zJ l zW 204 mX11_lot σ ([(65, text_sizen2), (66, text_limitn3), (67, text_atn4), (193, numbers_size), (323, course_fences), (326, course_horseCount), (328, course_planCount), (329, course_allowed), (769, course_rule_size), (1284, rounds_size), (2497, play_playersn5), (2498, play_plansn7), (2499, play_firstPlan_37)], [(2, text_signs), (6, course_kinds), (7, course_heights), (8, course_feet), (10, course_digits), (11, course_plans), (13, rule_codes), (15, rule_stack_37), (16, rule_things_37), (23, rounds_faults), (24, rounds_tenths), (25, rounds_money), (40, play_namedn6), (41, play_faultsn8), (42, play_tenthsn9), (43, play_placesn10), (44, play_clears_37), (45, play_ends_37)], [(4, numbers_told), (46, play_worth_37), (47, play_trial_37)]) 37 [(0, .ref 0), (2, .int v2_37), (3, .long v3_37), (5, .int v5_37)] [] (some (.int r)) ([(65, w_text_size), (66, w_text_limit), (67, w_text_at), (193, w_numbers_size), (323, course_fences), (326, course_horseCount), (328, course_planCount), (329, course_allowed), (769, course_rule_size), (1284, rounds_size), (2497, w_play_players), (2498, w_play_plans), (2499, w_play_firstPlan)], [(2, text_signs), (6, course_kinds), (7, course_heights), (8, course_feet), (10, course_digits), (11, course_plans), (13, rule_codes), (15, w_rule_stack), (16, w_rule_things), (23, rounds_faults), (24, rounds_tenths), (25, rounds_money), (40, w_play_named), (41, w_play_faults), (42, w_play_tenths), (43, w_play_places), (44, w_play_clears), (45, w_play_ends)], [(4, w_numbers_told), (46, w_play_worth), (47, w_play_trial)])) (fun rc37 hrc37 v2_37 v3_37 v5_37 play_firstPlan_37 rule_stack_37 rule_things_37 play_clears_37 play_ends_37 play_worth_37 play_trial_37 h => ?_) zN _ _ _ _ _ _ _ _ _ _ h
    unfold s_X11_lot_37 at h
    refine zJ_iload dX11_lot_37 rfl rfl ?_
    refine zJ_aload_n dX11_lot_39 rfl rfl ?_
    refine zJ_getr (mi := mX11_lot) dX11_lot_40 F_X11_66 zW_0 rfl rfl ?_
    refine zJ_geti (mi := mX11_lot) (x := play_playersn5) dX11_lot_43 F_X11_381 zW_39 rfl rfl rfl ?_
    refine zJ_icmp_ge (tgt := 99) dX11_lot_46 (by decide) rfl (fun hc => ?_) (fun hc => ?_)
    · replace h := it_t hc h
      refine zJ_loc (ls' := [(0, .ref 0), (2, .int v2_37), (3, .long v3_37)]) (zll_c rfl (zll_c rfl (zll_c rfl zll_n))) ?_
      exact hk37 _ _ _ _ _ _ _ _ _ h
    · replace h := it_f hc h
      refine zJ_aload_n dX11_lot_49 rfl rfl ?_
      refine zJ_getr (mi := mX11_lot) dX11_lot_50 F_X11_66 zW_0 rfl rfl ?_
      refine zJ_aload_n dX11_lot_53 rfl rfl ?_
      refine zJ_getr (mi := mX11_lot) dX11_lot_54 F_X11_26 zW_0 rfl rfl ?_
      refine zJ_aload_n dX11_lot_57 rfl rfl ?_
      refine zJ_getr (mi := mX11_lot) dX11_lot_58 F_X11_33 zW_0 rfl rfl ?_
      refine zJ_iload dX11_lot_61 rfl rfl ?_
      obtain ⟨play_firstPlann15, rule_stackn16, rule_thingsn17, play_clearsn18, play_endsn19, play_worthn20, play_trialn21, hcl, h⟩ := bd7_some h
      refine zJ_callV2 (mi := mX11_lot) (yi := mX3_start) (as := [.ref 5, .ref 20, .int v5_37]) (st := []) (L2 := ([(65, text_sizen2), (66, text_limitn3), (67, text_atn4), (193, numbers_size), (323, course_fences), (326, course_horseCount), (328, course_planCount), (329, course_allowed), (769, course_rule_size), (1284, rounds_size), (2497, play_playersn5), (2498, play_plansn7), (2499, play_firstPlann15)], [(2, text_signs), (6, course_kinds), (7, course_heights), (8, course_feet), (10, course_digits), (11, course_plans), (13, rule_codes), (15, rule_stackn16), (16, rule_thingsn17), (23, rounds_faults), (24, rounds_tenths), (25, rounds_money), (40, play_namedn6), (41, play_faultsn8), (42, play_tenthsn9), (43, play_placesn10), (44, play_clearsn18), (45, play_endsn19)], [(4, numbers_told), (46, play_worthn20), (47, play_trialn21)])) dX11_lot_63 ML_X11_378 Yv_X3_start rfl zW_39 rfl rfl (t_X3_start l _ hcl) (zsub_i (zle_c rfl (zle_c rfl (zle_c rfl (zle_c rfl (zle_c rfl zle_n))))) (zle_c rfl (zle_c rfl (zle_c rfl (zle_c rfl (zle_c rfl (zle_c rfl (zle_c rfl (zle_c rfl (zle_c rfl (zle_c rfl (zle_c rfl (zle_c rfl (zle_c rfl (zle_c rfl (zle_c rfl zle_n))))))))))))))) (zle_c rfl (zle_c rfl zle_n))) (zjok_i rfl rfl (zle_c rfl (zle_c rfl (zle_c rfl (zle_c rfl (zle_c rfl (zle_c rfl (zle_c rfl (zle_c rfl (zle_c rfl (zle_c rfl (zle_c rfl (zle_c rfl (zle_c rfl zle_n))))))))))))) rfl rfl (zle_c rfl (zle_c rfl (zle_c rfl (zle_c rfl (zle_c rfl (zle_c rfl (zle_c rfl (zle_c rfl (zle_c rfl (zle_c rfl (zle_c rfl (zle_c rfl (zle_c rfl (zle_c rfl (zle_c rfl (zle_c rfl (zle_c rfl (zle_c rfl zle_n)))))))))))))))))) rfl rfl (zle_c rfl (zle_c rfl (zle_c rfl zle_n)))) (Nat.le_of_ble_eq_true rfl) (Nat.le_of_ble_eq_true rfl) rfl rfl ?_
      refine zJ_aload_n dX11_lot_66 rfl rfl ?_
      refine zJ_getr (mi := mX11_lot) dX11_lot_67 F_X11_66 zW_0 rfl rfl ?_
      refine zJ_iload dX11_lot_70 rfl rfl ?_
      obtain ⟨rn22, hcl, h⟩ := bd1_some h
      refine zJ_callV2 (mi := mX11_lot) (yi := mX3_won) (as := [.int v5_37]) (st := []) (L2 := ([(65, text_sizen2), (66, text_limitn3), (67, text_atn4), (193, numbers_size), (323, course_fences), (326, course_horseCount), (328, course_planCount), (329, course_allowed), (769, course_rule_size), (1284, rounds_size), (2497, play_playersn5), (2498, play_plansn7), (2499, play_firstPlann15)], [(2, text_signs), (6, course_kinds), (7, course_heights), (8, course_feet), (10, course_digits), (11, course_plans), (13, rule_codes), (15, rule_stackn16), (16, rule_thingsn17), (23, rounds_faults), (24, rounds_tenths), (25, rounds_money), (40, play_namedn6), (41, play_faultsn8), (42, play_tenthsn9), (43, play_placesn10), (44, play_clearsn18), (45, play_endsn19)], [(4, numbers_told), (46, play_worthn20), (47, play_trialn21)])) dX11_lot_72 ML_X11_384 Yv_X3_won rfl zW_39 rfl rfl (t_X3_won l _ hcl) (zsub_i (zle_c rfl zle_n) zle_n (zle_c rfl zle_n)) (zjok_i rfl rfl (zle_c rfl (zle_c rfl (zle_c rfl (zle_c rfl (zle_c rfl (zle_c rfl (zle_c rfl (zle_c rfl (zle_c rfl (zle_c rfl (zle_c rfl (zle_c rfl (zle_c rfl zle_n))))))))))))) rfl rfl (zle_c rfl (zle_c rfl (zle_c rfl (zle_c rfl (zle_c rfl (zle_c rfl (zle_c rfl (zle_c rfl (zle_c rfl (zle_c rfl (zle_c rfl (zle_c rfl (zle_c rfl (zle_c rfl (zle_c rfl (zle_c rfl (zle_c rfl (zle_c rfl zle_n)))))))))))))))))) rfl rfl (zle_c rfl (zle_c rfl (zle_c rfl zle_n)))) (Nat.le_of_ble_eq_true rfl) (Nat.le_of_ble_eq_true rfl) rfl rfl ?_
      refine zJ_lload_n dX11_lot_75 rfl rfl ?_
      refine zJ_lcmp dX11_lot_76 rfl ?_
      refine zJ_if_le (tgt := 93) dX11_lot_77 (by decide) rfl (fun hc => ?_) (fun hc => ?_)
      · replace h := it_t hc h
        obtain ⟨v5n23, ev5n23, h⟩ := lt1_some h
        refine zJ_iincN (ls' := [(5, .int v5n23), (0, .ref 0), (2, .int v2_37), (3, .long v3_37)]) dX11_lot_93 rfl rfl zc_1 ev5n23 rfl rfl ?_
        refine zJ_goto (tgt := 37) dX11_lot_96 (by decide) ?_
        refine zJ_loc (ls' := [(0, .ref 0), (2, .int v2_37), (3, .long v3_37), (5, .int v5n23)]) (zll_c rfl (zll_c rfl (zll_c rfl (zll_c rfl zll_n)))) ?_
        exact hrc37 _ _ _ _ _ _ _ _ _ _ h
      · replace h := it_f hc h
        refine zJ_iload dX11_lot_80 rfl rfl ?_
        refine zJ_istore_n (ls' := [(2, .int v5_37), (0, .ref 0), (3, .long v3_37), (5, .int v5_37)]) dX11_lot_82 rfl rfl rfl ?_
        refine zJ_aload_n dX11_lot_83 rfl rfl ?_
        refine zJ_getr (mi := mX11_lot) dX11_lot_84 F_X11_66 zW_0 rfl rfl ?_
        refine zJ_iload dX11_lot_87 rfl rfl ?_
        obtain ⟨rn24, hcl, h⟩ := bd1_some h
        refine zJ_callV2 (mi := mX11_lot) (yi := mX3_won) (as := [.int v5_37]) (st := []) (L2 := ([(65, text_sizen2), (66, text_limitn3), (67, text_atn4), (193, numbers_size), (323, course_fences), (326, course_horseCount), (328, course_planCount), (329, course_allowed), (769, course_rule_size), (1284, rounds_size), (2497, play_playersn5), (2498, play_plansn7), (2499, play_firstPlann15)], [(2, text_signs), (6, course_kinds), (7, course_heights), (8, course_feet), (10, course_digits), (11, course_plans), (13, rule_codes), (15, rule_stackn16), (16, rule_thingsn17), (23, rounds_faults), (24, rounds_tenths), (25, rounds_money), (40, play_namedn6), (41, play_faultsn8), (42, play_tenthsn9), (43, play_placesn10), (44, play_clearsn18), (45, play_endsn19)], [(4, numbers_told), (46, play_worthn20), (47, play_trialn21)])) dX11_lot_89 ML_X11_384 Yv_X3_won rfl zW_39 rfl rfl (t_X3_won l _ hcl) (zsub_i (zle_c rfl zle_n) zle_n (zle_c rfl zle_n)) (zjok_i rfl rfl (zle_c rfl (zle_c rfl (zle_c rfl (zle_c rfl (zle_c rfl (zle_c rfl (zle_c rfl (zle_c rfl (zle_c rfl (zle_c rfl (zle_c rfl (zle_c rfl (zle_c rfl zle_n))))))))))))) rfl rfl (zle_c rfl (zle_c rfl (zle_c rfl (zle_c rfl (zle_c rfl (zle_c rfl (zle_c rfl (zle_c rfl (zle_c rfl (zle_c rfl (zle_c rfl (zle_c rfl (zle_c rfl (zle_c rfl (zle_c rfl (zle_c rfl (zle_c rfl (zle_c rfl zle_n)))))))))))))))))) rfl rfl (zle_c rfl (zle_c rfl (zle_c rfl zle_n)))) (Nat.le_of_ble_eq_true rfl) (Nat.le_of_ble_eq_true rfl) rfl rfl ?_
        refine zJ_lstore_n (ls' := [(3, .long rn24), (2, .int v5_37), (0, .ref 0), (5, .int v5_37)]) dX11_lot_92 rfl rfl rfl ?_
        obtain ⟨v5n25, ev5n25, h⟩ := lt1_some h
        refine zJ_iincN (ls' := [(5, .int v5n25), (3, .long rn24), (2, .int v5_37), (0, .ref 0)]) dX11_lot_93 rfl rfl zc_1 ev5n25 rfl rfl ?_
        refine zJ_goto (tgt := 37) dX11_lot_96 (by decide) ?_
        refine zJ_loc (ls' := [(0, .ref 0), (2, .int v5_37), (3, .long rn24), (5, .int v5n25)]) (zll_c rfl (zll_c rfl (zll_c rfl (zll_c rfl zll_n)))) ?_
        exact hrc37 _ _ _ _ _ _ _ _ _ _ h
  · replace h := it_f hc h
    refine zJ_iload_n dX11_lot_11 rfl rfl ?_
    obtain ⟨rfl, rfl, rfl, rfl, rfl, rfl, rfl, rfl, rfl, rfl, rfl, rfl, rfl, rfl, rfl, rfl, rfl, rfl, rfl⟩ := so19 h
    exact zJ_iret dX11_lot_12 rfl rfl
set_option maxRecDepth 100000 in
set_option maxHeartbeats 4000000 in
theorem t_X11_mean (l : Launch) (σ : zS) {p1 : Int32} {p2 : Int32} {numbers_size : Int32} {course_fences : Int32} {course_horseCount : Int32} {course_planCount : Int32} {course_allowed : Int32} {course_rule_size : Int32} {rounds_size : Int32} {course_kinds : (Nat → Int32)} {course_heights : (Nat → Int32)} {course_feet : (Nat → Int32)} {course_digits : (Nat → Int32)} {course_plans : (Nat → Int32)} {rule_codes : (Nat → Int32)} {rule_stack : (Nat → Int32)} {rule_things : (Nat → Int32)} {rounds_faults : (Nat → Int32)} {rounds_tenths : (Nat → Int32)} {rounds_money : (Nat → Int32)} {numbers_told : (Nat → Int64)} {r : Int32} {w_numbers_size : Int32} {w_rule_stack : (Nat → Int32)} {w_rule_things : (Nat → Int32)} {w_numbers_told : (Nat → Int64)} (h : f_X11_mean p1 p2 numbers_size course_fences course_horseCount course_planCount course_allowed course_rule_size rounds_size course_kinds course_heights course_feet course_digits course_plans rule_codes rule_stack rule_things rounds_faults rounds_tenths rounds_money numbers_told = some (r, w_numbers_size, w_rule_stack, w_rule_things, w_numbers_told)) : zMt l zW 6 mX11_mean σ ([(193, numbers_size), (323, course_fences), (326, course_horseCount), (328, course_planCount), (329, course_allowed), (769, course_rule_size), (1284, rounds_size)], [(6, course_kinds), (7, course_heights), (8, course_feet), (10, course_digits), (11, course_plans), (13, rule_codes), (15, rule_stack), (16, rule_things), (23, rounds_faults), (24, rounds_tenths), (25, rounds_money)], [(4, numbers_told)]) [.ref 0, .int p1, .int p2] (some (.int r)) ([(193, w_numbers_size), (323, course_fences), (326, course_horseCount), (328, course_planCount), (329, course_allowed), (769, course_rule_size), (1284, rounds_size)], [(6, course_kinds), (7, course_heights), (8, course_feet), (10, course_digits), (11, course_plans), (13, rule_codes), (15, w_rule_stack), (16, w_rule_things), (23, rounds_faults), (24, rounds_tenths), (25, rounds_money)], [(4, w_numbers_told)]) := by
  refine zMt_of (ls := [(0, .ref 0), (1, .int p1), (2, .int p2)]) (by decide) rfl (fun _ => Nat.le_of_ble_eq_true rfl) rfl ?_
  unfold f_X11_mean at h
  refine zJ_aload_n dX11_mean_0 rfl rfl ?_
  refine zJ_getr (mi := mX11_mean) dX11_mean_1 F_X11_26 zW_0 rfl rfl ?_
  refine zJ_iload_n dX11_mean_4 rfl rfl ?_
  obtain ⟨rn1, hcl, h⟩ := bd1_some h
  refine zJ_callV2 (mi := mX11_mean) (yi := mX1_hasHorse) (as := [.int p1]) (st := []) (L2 := ([(193, numbers_size), (323, course_fences), (326, course_horseCount), (328, course_planCount), (329, course_allowed), (769, course_rule_size), (1284, rounds_size)], [(6, course_kinds), (7, course_heights), (8, course_feet), (10, course_digits), (11, course_plans), (13, rule_codes), (15, rule_stack), (16, rule_things), (23, rounds_faults), (24, rounds_tenths), (25, rounds_money)], [(4, numbers_told)])) dX11_mean_5 ML_X11_147 Yv_X1_hasHorse rfl zW_5 rfl rfl (t_X1_hasHorse l _ hcl) (zsub_i (zle_c rfl zle_n) zle_n zle_n) (zjok_i rfl rfl (zle_c rfl (zle_c rfl (zle_c rfl (zle_c rfl (zle_c rfl (zle_c rfl (zle_c rfl zle_n))))))) rfl rfl (zle_c rfl (zle_c rfl (zle_c rfl (zle_c rfl (zle_c rfl (zle_c rfl (zle_c rfl (zle_c rfl (zle_c rfl (zle_c rfl (zle_c rfl zle_n))))))))))) rfl rfl (zle_c rfl zle_n)) (Nat.le_of_ble_eq_true rfl) (Nat.le_of_ble_eq_true rfl) rfl rfl ?_
  refine zJ_if_eq (tgt := 22) dX11_mean_8 (by decide) rfl (fun hc => ?_) (fun hc => ?_)
  · replace h := it_t hc h
    refine zJ_iconst dX11_mean_22 zc_m1 rfl ?_
    obtain ⟨rfl, rfl, rfl, rfl, rfl⟩ := so5 h
    exact zJ_iret dX11_mean_23 rfl rfl
  · replace h := it_f hc h
    refine zJ_aload_n dX11_mean_11 rfl rfl ?_
    refine zJ_getr (mi := mX11_mean) dX11_mean_12 F_X11_26 zW_0 rfl rfl ?_
    refine zJ_iload_n dX11_mean_15 rfl rfl ?_
    obtain ⟨rn2, hcl, h⟩ := bd1_some h
    refine zJ_callV2 (mi := mX11_mean) (yi := mX1_hasPlan) (as := [.int p2]) (st := []) (L2 := ([(193, numbers_size), (323, course_fences), (326, course_horseCount), (328, course_planCount), (329, course_allowed), (769, course_rule_size), (1284, rounds_size)], [(6, course_kinds), (7, course_heights), (8, course_feet), (10, course_digits), (11, course_plans), (13, rule_codes), (15, rule_stack), (16, rule_things), (23, rounds_faults), (24, rounds_tenths), (25, rounds_money)], [(4, numbers_told)])) dX11_mean_16 ML_X11_191 Yv_X1_hasPlan rfl zW_5 rfl rfl (t_X1_hasPlan l _ hcl) (zsub_i (zle_c rfl zle_n) zle_n zle_n) (zjok_i rfl rfl (zle_c rfl (zle_c rfl (zle_c rfl (zle_c rfl (zle_c rfl (zle_c rfl (zle_c rfl zle_n))))))) rfl rfl (zle_c rfl (zle_c rfl (zle_c rfl (zle_c rfl (zle_c rfl (zle_c rfl (zle_c rfl (zle_c rfl (zle_c rfl (zle_c rfl (zle_c rfl zle_n))))))))))) rfl rfl (zle_c rfl zle_n)) (Nat.le_of_ble_eq_true rfl) (Nat.le_of_ble_eq_true rfl) rfl rfl ?_
    refine zJ_if_ne (tgt := 24) dX11_mean_19 (by decide) rfl (fun hc => ?_) (fun hc => ?_)
    · replace h := it_f hc h
      refine zJ_aload_n dX11_mean_24 rfl rfl ?_
      refine zJ_getr (mi := mX11_mean) dX11_mean_25 F_X11_19 zW_0 rfl rfl ?_
      obtain ⟨numbers_sizen3, hcl, h⟩ := bd1_some h
      refine zJ_callV2 (mi := mX11_mean) (yi := mX6_start) (as := []) (st := []) (L2 := ([(193, numbers_sizen3), (323, course_fences), (326, course_horseCount), (328, course_planCount), (329, course_allowed), (769, course_rule_size), (1284, rounds_size)], [(6, course_kinds), (7, course_heights), (8, course_feet), (10, course_digits), (11, course_plans), (13, rule_codes), (15, rule_stack), (16, rule_things), (23, rounds_faults), (24, rounds_tenths), (25, rounds_money)], [(4, numbers_told)])) dX11_mean_28 ML_X11_171 Yv_X6_start rfl zW_3 rfl rfl (t_X6_start l _ hcl) (zsub_i (zle_c rfl zle_n) zle_n zle_n) (zjok_i rfl rfl (zle_c rfl (zle_c rfl (zle_c rfl (zle_c rfl (zle_c rfl (zle_c rfl (zle_c rfl zle_n))))))) rfl rfl (zle_c rfl (zle_c rfl (zle_c rfl (zle_c rfl (zle_c rfl (zle_c rfl (zle_c rfl (zle_c rfl (zle_c rfl (zle_c rfl (zle_c rfl zle_n))))))))))) rfl rfl (zle_c rfl zle_n)) (Nat.le_of_ble_eq_true rfl) (Nat.le_of_ble_eq_true rfl) rfl rfl ?_
      refine zJ_aload_n dX11_mean_31 rfl rfl ?_
      refine zJ_getr (mi := mX11_mean) dX11_mean_32 F_X11_19 zW_0 rfl rfl ?_
      refine zJ_aload_n dX11_mean_35 rfl rfl ?_
      refine zJ_iload_n dX11_mean_36 rfl rfl ?_
      refine zJ_iconst dX11_mean_37 zc_0 rfl ?_
      obtain ⟨rn4, hcl, h⟩ := bd1_some h
      refine zJ_callV2 (mi := mX11_mean) (yi := mX11_thoughtMoney) (as := [.int p2, .int (0 : Int32)]) (st := [.ref 3]) (L2 := ([(193, numbers_sizen3), (323, course_fences), (326, course_horseCount), (328, course_planCount), (329, course_allowed), (769, course_rule_size), (1284, rounds_size)], [(6, course_kinds), (7, course_heights), (8, course_feet), (10, course_digits), (11, course_plans), (13, rule_codes), (15, rule_stack), (16, rule_things), (23, rounds_faults), (24, rounds_tenths), (25, rounds_money)], [(4, numbers_told)])) dX11_mean_38 ML_X11_356 Yv_X11_thoughtMoney rfl zW_0 rfl rfl (t_X11_thoughtMoney l _ hcl) (zsub_i (zle_c rfl (zle_c rfl (zle_c rfl zle_n))) (zle_c rfl (zle_c rfl (zle_c rfl (zle_c rfl (zle_c rfl (zle_c rfl zle_n)))))) zle_n) (zjok_i rfl rfl (zle_c rfl (zle_c rfl (zle_c rfl (zle_c rfl (zle_c rfl (zle_c rfl (zle_c rfl zle_n))))))) rfl rfl (zle_c rfl (zle_c rfl (zle_c rfl (zle_c rfl (zle_c rfl (zle_c rfl (zle_c rfl (zle_c rfl (zle_c rfl (zle_c rfl (zle_c rfl zle_n))))))))))) rfl rfl (zle_c rfl zle_n)) (Nat.le_of_ble_eq_true rfl) (Nat.le_of_ble_eq_true rfl) rfl rfl ?_
      refine zJ_i2l dX11_mean_41 rfl ?_
      obtain ⟨numbers_sizen5, numbers_toldn6, hcl, h⟩ := bd2_some h
      refine zJ_callV2 (mi := mX11_mean) (yi := mX6_put) (as := [.long rn4.toInt64]) (st := []) (L2 := ([(193, numbers_sizen5), (323, course_fences), (326, course_horseCount), (328, course_planCount), (329, course_allowed), (769, course_rule_size), (1284, rounds_size)], [(6, course_kinds), (7, course_heights), (8, course_feet), (10, course_digits), (11, course_plans), (13, rule_codes), (15, rule_stack), (16, rule_things), (23, rounds_faults), (24, rounds_tenths), (25, rounds_money)], [(4, numbers_toldn6)])) dX11_mean_42 ML_X11_177 Yv_X6_put rfl zW_3 rfl rfl (t_X6_put l _ hcl) (zsub_i (zle_c rfl zle_n) zle_n (zle_c rfl zle_n)) (zjok_i rfl rfl (zle_c rfl (zle_c rfl (zle_c rfl (zle_c rfl (zle_c rfl (zle_c rfl (zle_c rfl zle_n))))))) rfl rfl (zle_c rfl (zle_c rfl (zle_c rfl (zle_c rfl (zle_c rfl (zle_c rfl (zle_c rfl (zle_c rfl (zle_c rfl (zle_c rfl (zle_c rfl zle_n))))))))))) rfl rfl (zle_c rfl zle_n)) (Nat.le_of_ble_eq_true rfl) (Nat.le_of_ble_eq_true rfl) rfl rfl ?_
      refine zJ_aload_n dX11_mean_45 rfl rfl ?_
      refine zJ_getr (mi := mX11_mean) dX11_mean_46 F_X11_19 zW_0 rfl rfl ?_
      refine zJ_aload_n dX11_mean_49 rfl rfl ?_
      refine zJ_iload_n dX11_mean_50 rfl rfl ?_
      refine zJ_iconst dX11_mean_51 zc_4 rfl ?_
      obtain ⟨rn7, hcl, h⟩ := bd1_some h
      refine zJ_callV2 (mi := mX11_mean) (yi := mX11_thoughtMoney) (as := [.int p2, .int (4 : Int32)]) (st := [.ref 3]) (L2 := ([(193, numbers_sizen5), (323, course_fences), (326, course_horseCount), (328, course_planCount), (329, course_allowed), (769, course_rule_size), (1284, rounds_size)], [(6, course_kinds), (7, course_heights), (8, course_feet), (10, course_digits), (11, course_plans), (13, rule_codes), (15, rule_stack), (16, rule_things), (23, rounds_faults), (24, rounds_tenths), (25, rounds_money)], [(4, numbers_toldn6)])) dX11_mean_52 ML_X11_356 Yv_X11_thoughtMoney rfl zW_0 rfl rfl (t_X11_thoughtMoney l _ hcl) (zsub_i (zle_c rfl (zle_c rfl (zle_c rfl zle_n))) (zle_c rfl (zle_c rfl (zle_c rfl (zle_c rfl (zle_c rfl (zle_c rfl zle_n)))))) zle_n) (zjok_i rfl rfl (zle_c rfl (zle_c rfl (zle_c rfl (zle_c rfl (zle_c rfl (zle_c rfl (zle_c rfl zle_n))))))) rfl rfl (zle_c rfl (zle_c rfl (zle_c rfl (zle_c rfl (zle_c rfl (zle_c rfl (zle_c rfl (zle_c rfl (zle_c rfl (zle_c rfl (zle_c rfl zle_n))))))))))) rfl rfl (zle_c rfl zle_n)) (Nat.le_of_ble_eq_true rfl) (Nat.le_of_ble_eq_true rfl) rfl rfl ?_
      refine zJ_i2l dX11_mean_55 rfl ?_
      obtain ⟨numbers_sizen8, numbers_toldn9, hcl, h⟩ := bd2_some h
      refine zJ_callV2 (mi := mX11_mean) (yi := mX6_put) (as := [.long rn7.toInt64]) (st := []) (L2 := ([(193, numbers_sizen8), (323, course_fences), (326, course_horseCount), (328, course_planCount), (329, course_allowed), (769, course_rule_size), (1284, rounds_size)], [(6, course_kinds), (7, course_heights), (8, course_feet), (10, course_digits), (11, course_plans), (13, rule_codes), (15, rule_stack), (16, rule_things), (23, rounds_faults), (24, rounds_tenths), (25, rounds_money)], [(4, numbers_toldn9)])) dX11_mean_56 ML_X11_177 Yv_X6_put rfl zW_3 rfl rfl (t_X6_put l _ hcl) (zsub_i (zle_c rfl zle_n) zle_n (zle_c rfl zle_n)) (zjok_i rfl rfl (zle_c rfl (zle_c rfl (zle_c rfl (zle_c rfl (zle_c rfl (zle_c rfl (zle_c rfl zle_n))))))) rfl rfl (zle_c rfl (zle_c rfl (zle_c rfl (zle_c rfl (zle_c rfl (zle_c rfl (zle_c rfl (zle_c rfl (zle_c rfl (zle_c rfl (zle_c rfl zle_n))))))))))) rfl rfl (zle_c rfl zle_n)) (Nat.le_of_ble_eq_true rfl) (Nat.le_of_ble_eq_true rfl) rfl rfl ?_
      refine zJ_aload_n dX11_mean_59 rfl rfl ?_
      refine zJ_iload_n dX11_mean_60 rfl rfl ?_
      refine zJ_iload_n dX11_mean_61 rfl rfl ?_
      obtain ⟨rn10, rule_stackn11, rule_thingsn12, hcl, h⟩ := bd3_some h
      refine zJ_callV2 (mi := mX11_mean) (yi := mX11_meanOf) (as := [.int p1, .int p2]) (st := []) (L2 := ([(193, numbers_sizen8), (323, course_fences), (326, course_horseCount), (328, course_planCount), (329, course_allowed), (769, course_rule_size), (1284, rounds_size)], [(6, course_kinds), (7, course_heights), (8, course_feet), (10, course_digits), (11, course_plans), (13, rule_codes), (15, rule_stackn11), (16, rule_thingsn12), (23, rounds_faults), (24, rounds_tenths), (25, rounds_money)], [(4, numbers_toldn9)])) dX11_mean_62 ML_X11_359 Yv_X11_meanOf rfl zW_0 rfl rfl (t_X11_meanOf l _ hcl) (zsub_i (zle_c rfl (zle_c rfl (zle_c rfl (zle_c rfl zle_n)))) (zle_c rfl (zle_c rfl (zle_c rfl (zle_c rfl (zle_c rfl (zle_c rfl (zle_c rfl (zle_c rfl (zle_c rfl (zle_c rfl (zle_c rfl zle_n))))))))))) zle_n) (zjok_i rfl rfl (zle_c rfl (zle_c rfl (zle_c rfl (zle_c rfl (zle_c rfl (zle_c rfl (zle_c rfl zle_n))))))) rfl rfl (zle_c rfl (zle_c rfl (zle_c rfl (zle_c rfl (zle_c rfl (zle_c rfl (zle_c rfl (zle_c rfl (zle_c rfl (zle_c rfl (zle_c rfl zle_n))))))))))) rfl rfl (zle_c rfl zle_n)) (Nat.le_of_ble_eq_true rfl) (Nat.le_of_ble_eq_true rfl) rfl rfl ?_
      obtain ⟨rfl, rfl, rfl, rfl, rfl⟩ := so5 h
      exact zJ_iret dX11_mean_65 rfl rfl
    · replace h := it_t hc h
      refine zJ_iconst dX11_mean_22 zc_m1 rfl ?_
      obtain ⟨rfl, rfl, rfl, rfl, rfl⟩ := so5 h
      exact zJ_iret dX11_mean_23 rfl rfl
set_option maxRecDepth 100000 in
set_option maxHeartbeats 4000000 in
theorem t_X11_move (l : Launch) (σ : zS) {p1 : Int32} {p2 : Int32} {course_fences : Int32} {course_feet : (Nat → Int32)} {r : Int32} {w_course_feet : (Nat → Int32)} (h : f_X11_move p1 p2 course_fences course_feet = some (r, w_course_feet)) : zMt l zW 1 mX11_move σ ([(323, course_fences)], [(8, course_feet)], []) [.ref 0, .int p1, .int p2] (some (.int r)) ([(323, course_fences)], [(8, w_course_feet)], []) := by
  refine zMt_of (ls := [(0, .ref 0), (1, .int p1), (2, .int p2)]) (by decide) rfl (fun _ => Nat.le_of_ble_eq_true rfl) rfl ?_
  unfold f_X11_move at h
  refine zJ_aload_n dX11_move_0 rfl rfl ?_
  refine zJ_getr (mi := mX11_move) dX11_move_1 F_X11_26 zW_0 rfl rfl ?_
  refine zJ_iload_n dX11_move_4 rfl rfl ?_
  obtain ⟨rn1, hcl, h⟩ := bd1_some h
  refine zJ_callV2 (mi := mX11_move) (yi := mX1_hasFence) (as := [.int p1]) (st := []) (L2 := ([(323, course_fences)], [(8, course_feet)], [])) dX11_move_5 ML_X11_132 Yv_X1_hasFence rfl zW_5 rfl rfl (t_X1_hasFence l _ hcl) (zsub_i (zle_c rfl zle_n) zle_n zle_n) (zjok_i rfl rfl (zle_c rfl zle_n) rfl rfl (zle_c rfl zle_n) rfl rfl zle_n) (Nat.le_of_ble_eq_true rfl) (Nat.le_of_ble_eq_true rfl) rfl rfl ?_
  refine zJ_if_eq (tgt := 23) dX11_move_8 (by decide) rfl (fun hc => ?_) (fun hc => ?_)
  · replace h := it_t hc h
    refine zJ_iconst dX11_move_23 zc_m1 rfl ?_
    obtain ⟨rfl, rfl⟩ := so2 h
    exact zJ_iret dX11_move_24 rfl rfl
  · replace h := it_f hc h
    refine zJ_iload_n dX11_move_11 rfl rfl ?_
    refine zJ_bipush dX11_move_12 zb_10 rfl ?_
    refine zJ_icmp_lt (tgt := 23) dX11_move_14 (by decide) rfl (fun hc => ?_) (fun hc => ?_)
    · replace h := it_t hc h
      refine zJ_iconst dX11_move_23 zc_m1 rfl ?_
      obtain ⟨rfl, rfl⟩ := so2 h
      exact zJ_iret dX11_move_24 rfl rfl
    · replace h := it_f hc h
      refine zJ_iload_n dX11_move_17 rfl rfl ?_
      refine zJ_bipush dX11_move_18 zb_99 rfl ?_
      refine zJ_icmp_le (tgt := 25) dX11_move_20 (by decide) rfl (fun hc => ?_) (fun hc => ?_)
      · replace h := it_t hc h
        refine zJ_aload_n dX11_move_25 rfl rfl ?_
        refine zJ_getr (mi := mX11_move) dX11_move_26 F_X11_26 zW_0 rfl rfl ?_
        refine zJ_getr (mi := mX11_move) dX11_move_29 F_X11_144 zW_5 rfl rfl ?_
        refine zJ_iload_n dX11_move_32 rfl rfl ?_
        obtain ⟨hg, h⟩ := gd_some h
        refine zJ_iald (mi := mX11_move) (f := course_feet) dX11_move_33 zW_8 (ix_in hg) rfl rfl ?_
        obtain ⟨v3n2, ev3n2, h⟩ := lt1_some h
        refine zJ_nmi ev3n2 ?_
        refine zJ_istore_n (ls' := [(3, .int v3n2), (0, .ref 0), (1, .int p1), (2, .int p2)]) dX11_move_34 rfl rfl rfl ?_
        refine zJ_aload_n dX11_move_35 rfl rfl ?_
        refine zJ_getr (mi := mX11_move) dX11_move_36 F_X11_26 zW_0 rfl rfl ?_
        refine zJ_getr (mi := mX11_move) dX11_move_39 F_X11_144 zW_5 rfl rfl ?_
        refine zJ_iload_n dX11_move_42 rfl rfl ?_
        refine zJ_iload_n dX11_move_43 rfl rfl ?_
        obtain ⟨hg, h⟩ := gd_some h
        refine zK_iast (mi := mX11_move) (f := course_feet) (lb' := [(8, (upd course_feet p1.toNatClampNeg p2))]) dX11_move_44 zW_8 (ix_in hg) rfl rfl rfl ?_
        refine zJ_iload_n dX11_move_45 rfl rfl ?_
        obtain ⟨rfl, rfl⟩ := so2 h
        exact zJ_iret dX11_move_46 rfl rfl
      · replace h := it_f hc h
        refine zJ_iconst dX11_move_23 zc_m1 rfl ?_
        obtain ⟨rfl, rfl⟩ := so2 h
        exact zJ_iret dX11_move_24 rfl rfl
set_option maxRecDepth 100000 in
set_option maxHeartbeats 4000000 in
theorem t_X5_countExplained (l : Launch) (σ : zS) {rounds_size : Int32} {rounds_riders : (Nat → Int32)} {rounds_horses : (Nat → Int32)} {r : Int32} (h : f_X5_countExplained rounds_size rounds_riders rounds_horses = some r) : zMt l zW 0 mX5_countExplained σ ([(1284, rounds_size)], [(21, rounds_riders), (22, rounds_horses)], []) [.ref 20] (some (.int r)) ([(1284, rounds_size)], [(21, rounds_riders), (22, rounds_horses)], []) := by
  refine zMt_of (ls := [(0, .ref 20)]) (by decide) rfl (fun _ => Nat.le_of_ble_eq_true rfl) rfl ?_
  unfold f_X5_countExplained at h
  refine zJ_iconst dX5_countExplained_0 zc_0 rfl ?_
  refine zJ_istore_n (ls' := [(1, .int (0 : Int32)), (0, .ref 20)]) dX5_countExplained_1 rfl rfl rfl ?_
  refine zJ_iconst dX5_countExplained_2 zc_0 rfl ?_
  refine zJ_istore_n (ls' := [(2, .int (0 : Int32)), (1, .int (0 : Int32)), (0, .ref 20)]) dX5_countExplained_3 rfl rfl rfl ?_
  have hk4 : ∀ (v1_4x : Int32), k_X5_countExplained_4  v1_4x = some r → zJ l zW 0 mX5_countExplained σ ([(1284, rounds_size)], [(21, rounds_riders), (22, rounds_horses)], []) 46 [(1, .int v1_4x)] [] (some (.int r)) ([(1284, rounds_size)], [(21, rounds_riders), (22, rounds_horses)], []) := by
    intro v1_4x h
    unfold k_X5_countExplained_4 at h
    refine zJ_iload_n dX5_countExplained_46 rfl rfl ?_
    obtain rfl := so1 h
    exact zJ_iret dX5_countExplained_47 rfl rfl
  refine zJ_loc (ls' := [(0, .ref 20), (1, .int (0 : Int32)), (2, .int (0 : Int32))]) (zll_c rfl (zll_c rfl (zll_c rfl zll_n))) ?_
  refine ml2_J (fun (v1_4 : Int32) (v2_4 : Int32) => zJ l zW 0 mX5_countExplained σ ([(1284, rounds_size)], [(21, rounds_riders), (22, rounds_horses)], []) 4 [(0, .ref 20), (1, .int v1_4), (2, .int v2_4)] [] (some (.int r)) ([(1284, rounds_size)], [(21, rounds_riders), (22, rounds_horses)], [])) (fun rc4 hrc4 v1_4 v2_4 h => ?_) zN _ _ h
  unfold s_X5_countExplained_4 at h
  refine zJ_iload_n dX5_countExplained_4 rfl rfl ?_
  refine zJ_aload_n dX5_countExplained_5 rfl rfl ?_
  refine zJ_geti (mi := mX5_countExplained) (x := rounds_size) dX5_countExplained_6 F_X5_41 zW_20 rfl rfl rfl ?_
  refine zJ_icmp_ge (tgt := 46) dX5_countExplained_9 (by decide) rfl (fun hc => ?_) (fun hc => ?_)
  · replace h := it_t hc h
    refine zJ_loc (ls' := [(1, .int v1_4)]) (zll_c rfl zll_n) ?_
    exact hk4 _ h
  · replace h := it_f hc h
    refine zJ_iload_n dX5_countExplained_12 rfl rfl ?_
    refine zJ_aload_n dX5_countExplained_13 rfl rfl ?_
    refine zJ_getr (mi := mX5_countExplained) dX5_countExplained_14 F_X5_47 zW_20 rfl rfl ?_
    refine zJ_iload_n dX5_countExplained_17 rfl rfl ?_
    obtain ⟨hg, h⟩ := gd_some h
    refine zJ_iald (mi := mX5_countExplained) (f := rounds_horses) dX5_countExplained_18 zW_22 (ix_in hg) rfl rfl ?_
    refine zJ_iconst dX5_countExplained_19 zc_3 rfl ?_
    refine zJ_icmp_ge (tgt := 37) dX5_countExplained_20 (by decide) rfl (fun hc => ?_) (fun hc => ?_)
    · replace h := it_t hc h
      refine zJ_iconst dX5_countExplained_37 zc_0 rfl ?_
      refine zJ_iadd dX5_countExplained_38 rfl ?_
      obtain ⟨v1n1, ev1n1, h⟩ := lt1_some h
      refine zJ_nmi ev1n1 ?_
      refine zJ_istore_n (ls' := [(1, .int v1n1), (0, .ref 20), (2, .int v2_4)]) dX5_countExplained_39 rfl rfl rfl ?_
      obtain ⟨v2n2, ev2n2, h⟩ := lt1_some h
      refine zJ_iincN (ls' := [(2, .int v2n2), (1, .int v1n1), (0, .ref 20)]) dX5_countExplained_40 rfl rfl zc_1 ev2n2 rfl rfl ?_
      refine zJ_goto (tgt := 4) dX5_countExplained_43 (by decide) ?_
      refine zJ_loc (ls' := [(0, .ref 20), (1, .int v1n1), (2, .int v2n2)]) (zll_c rfl (zll_c rfl (zll_c rfl zll_n))) ?_
      exact hrc4 _ _ h
    · replace h := it_f hc h
      refine zJ_aload_n dX5_countExplained_23 rfl rfl ?_
      refine zJ_getr (mi := mX5_countExplained) dX5_countExplained_24 F_X5_50 zW_20 rfl rfl ?_
      refine zJ_iload_n dX5_countExplained_27 rfl rfl ?_
      obtain ⟨hg, h⟩ := gd_some h
      refine zJ_iald (mi := mX5_countExplained) (f := rounds_riders) dX5_countExplained_28 zW_21 (ix_in hg) rfl rfl ?_
      refine zJ_iconst dX5_countExplained_29 zc_3 rfl ?_
      refine zJ_icmp_ge (tgt := 37) dX5_countExplained_30 (by decide) rfl (fun hc => ?_) (fun hc => ?_)
      · replace h := it_t hc h
        refine zJ_iconst dX5_countExplained_37 zc_0 rfl ?_
        refine zJ_iadd dX5_countExplained_38 rfl ?_
        obtain ⟨v1n3, ev1n3, h⟩ := lt1_some h
        refine zJ_nmi ev1n3 ?_
        refine zJ_istore_n (ls' := [(1, .int v1n3), (0, .ref 20), (2, .int v2_4)]) dX5_countExplained_39 rfl rfl rfl ?_
        obtain ⟨v2n4, ev2n4, h⟩ := lt1_some h
        refine zJ_iincN (ls' := [(2, .int v2n4), (1, .int v1n3), (0, .ref 20)]) dX5_countExplained_40 rfl rfl zc_1 ev2n4 rfl rfl ?_
        refine zJ_goto (tgt := 4) dX5_countExplained_43 (by decide) ?_
        refine zJ_loc (ls' := [(0, .ref 20), (1, .int v1n3), (2, .int v2n4)]) (zll_c rfl (zll_c rfl (zll_c rfl zll_n))) ?_
        exact hrc4 _ _ h
      · replace h := it_f hc h
        refine zJ_iconst dX5_countExplained_33 zc_1 rfl ?_
        refine zJ_goto (tgt := 38) dX5_countExplained_34 (by decide) ?_
        refine zJ_iadd dX5_countExplained_38 rfl ?_
        obtain ⟨v1n5, ev1n5, h⟩ := lt1_some h
        refine zJ_nmi ev1n5 ?_
        refine zJ_istore_n (ls' := [(1, .int v1n5), (0, .ref 20), (2, .int v2_4)]) dX5_countExplained_39 rfl rfl rfl ?_
        obtain ⟨v2n6, ev2n6, h⟩ := lt1_some h
        refine zJ_iincN (ls' := [(2, .int v2n6), (1, .int v1n5), (0, .ref 20)]) dX5_countExplained_40 rfl rfl zc_1 ev2n6 rfl rfl ?_
        refine zJ_goto (tgt := 4) dX5_countExplained_43 (by decide) ?_
        refine zJ_loc (ls' := [(0, .ref 20), (1, .int v1n5), (2, .int v2n6)]) (zll_c rfl (zll_c rfl (zll_c rfl zll_n))) ?_
        exact hrc4 _ _ h
