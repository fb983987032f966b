set_option maxRecDepth 100000 in
set_option maxHeartbeats 4000000 in
theorem t_X11_buy (l : Launch) (σ : zS) {numbers_size : Int32} {course_fences : Int32} {course_horseCount : Int32} {course_planCount : Int32} {course_allowed : Int32} {course_rule_size : Int32} {rounds_size : Int32} {course_kinds : (Nat → Int32)} {course_heights : (Nat → Int32)} {course_feet : (Nat → Int32)} {course_digits : (Nat → Int32)} {course_plans : (Nat → Int32)} {rule_codes : (Nat → Int32)} {rule_stack : (Nat → Int32)} {rule_things : (Nat → Int32)} {rounds_faults : (Nat → Int32)} {rounds_tenths : (Nat → Int32)} {rounds_money : (Nat → Int32)} {numbers_told : (Nat → Int64)} {r : Int32} {w_numbers_size : Int32} {w_rule_stack : (Nat → Int32)} {w_rule_things : (Nat → Int32)} {w_numbers_told : (Nat → Int64)} (h : f_X11_buy numbers_size course_fences course_horseCount course_planCount course_allowed course_rule_size rounds_size course_kinds course_heights course_feet course_digits course_plans rule_codes rule_stack rule_things rounds_faults rounds_tenths rounds_money numbers_told = some (r, w_numbers_size, w_rule_stack, w_rule_things, w_numbers_told)) : zMt l zW 7 mX11_buy σ ([(193, numbers_size), (323, course_fences), (326, course_horseCount), (328, course_planCount), (329, course_allowed), (769, course_rule_size), (1284, rounds_size)], [(6, course_kinds), (7, course_heights), (8, course_feet), (10, course_digits), (11, course_plans), (13, rule_codes), (15, rule_stack), (16, rule_things), (23, rounds_faults), (24, rounds_tenths), (25, rounds_money)], [(4, numbers_told)]) [.ref 0] (some (.int r)) ([(193, w_numbers_size), (323, course_fences), (326, course_horseCount), (328, course_planCount), (329, course_allowed), (769, course_rule_size), (1284, rounds_size)], [(6, course_kinds), (7, course_heights), (8, course_feet), (10, course_digits), (11, course_plans), (13, rule_codes), (15, w_rule_stack), (16, w_rule_things), (23, rounds_faults), (24, rounds_tenths), (25, rounds_money)], [(4, w_numbers_told)]) := by
  refine zMt_of (ls := [(0, .ref 0)]) (by decide) rfl (fun _ => Nat.le_of_ble_eq_true rfl) rfl ?_
  unfold f_X11_buy at h
  refine zJ_aload_n dX11_buy_0 rfl rfl ?_
  refine zJ_getr (mi := mX11_buy) dX11_buy_1 F_X11_26 zW_0 rfl rfl ?_
  refine zJ_geti (mi := mX11_buy) (x := course_horseCount) dX11_buy_4 F_X11_368 zW_5 rfl rfl rfl ?_
  refine zJ_if_eq (tgt := 20) dX11_buy_7 (by decide) rfl (fun hc => ?_) (fun hc => ?_)
  · replace h := it_t hc h
    refine zJ_bipush dX11_buy_20 zb_m2 rfl ?_
    obtain ⟨rfl, rfl, rfl, rfl, rfl⟩ := so5 h
    exact zJ_iret dX11_buy_22 rfl rfl
  · replace h := it_f hc h
    refine zJ_aload_n dX11_buy_10 rfl rfl ?_
    refine zJ_getr (mi := mX11_buy) dX11_buy_11 F_X11_26 zW_0 rfl rfl ?_
    refine zJ_geti (mi := mX11_buy) (x := course_planCount) dX11_buy_14 F_X11_362 zW_5 rfl rfl rfl ?_
    refine zJ_if_ne (tgt := 23) dX11_buy_17 (by decide) rfl (fun hc => ?_) (fun hc => ?_)
    · replace h := it_f hc h
      refine zJ_iconst dX11_buy_23 zc_m1 rfl ?_
      refine zJ_istore_n (ls' := [(1, .int (-1 : Int32)), (0, .ref 0)]) dX11_buy_24 rfl rfl rfl ?_
      refine zJ_iconst dX11_buy_25 zc_m1 rfl ?_
      refine zJ_istore_n (ls' := [(2, .int (-1 : Int32)), (1, .int (-1 : Int32)), (0, .ref 0)]) dX11_buy_26 rfl rfl rfl ?_
      refine zJ_iconst dX11_buy_27 zc_m1 rfl ?_
      refine zJ_istore_n (ls' := [(3, .int (-1 : Int32)), (2, .int (-1 : Int32)), (1, .int (-1 : Int32)), (0, .ref 0)]) dX11_buy_28 rfl rfl rfl ?_
      refine zJ_iconst dX11_buy_29 zc_0 rfl ?_
      refine zJ_istore (ls' := [(4, .int (0 : Int32)), (3, .int (-1 : Int32)), (2, .int (-1 : Int32)), (1, .int (-1 : Int32)), (0, .ref 0)]) dX11_buy_30 rfl rfl rfl ?_
      have hk32 : ∀ (v1_32x : Int32) (v2_32x : Int32) (v3_32x : Int32) (rule_stack_32x : (Nat → Int32)) (rule_things_32x : (Nat → Int32)), k_X11_buy_32 numbers_size course_fences course_planCount course_allowed course_rule_size rounds_size course_kinds course_heights course_feet course_digits course_plans rule_codes rounds_faults rounds_tenths rounds_money numbers_told v1_32x v2_32x v3_32x rule_stack_32x rule_things_32x = some (r, w_numbers_size, w_rule_stack, w_rule_things, w_numbers_told) → zJ l zW 7 mX11_buy σ ([(193, numbers_size), (323, course_fences), (326, course_horseCount), (328, course_planCount), (329, course_allowed), (769, course_rule_size), (1284, rounds_size)], [(6, course_kinds), (7, course_heights), (8, course_feet), (10, course_digits), (11, course_plans), (13, rule_codes), (15, rule_stack_32x), (16, rule_things_32x), (23, rounds_faults), (24, rounds_tenths), (25, rounds_money)], [(4, numbers_told)]) 90 [(0, .ref 0), (1, .int v1_32x), (2, .int v2_32x), (3, .int v3_32x)] [] (some (.int r)) ([(193, w_numbers_size), (323, course_fences), (326, course_horseCount), (328, course_planCount), (329, course_allowed), (769, course_rule_size), (1284, rounds_size)], [(6, course_kinds), (7, course_heights), (8, course_feet), (10, course_digits), (11, course_plans), (13, rule_codes), (15, w_rule_stack), (16, w_rule_things), (23, rounds_faults), (24, rounds_tenths), (25, rounds_money)], [(4, w_numbers_told)]) := by
        intro v1_32x v2_32x v3_32x rule_stack_32x rule_things_32x h
        unfold k_X11_buy_32 at h
        refine zJ_aload_n dX11_buy_90 rfl rfl ?_
        refine zJ_getr (mi := mX11_buy) dX11_buy_91 F_X11_19 zW_0 rfl rfl ?_
        obtain ⟨numbers_sizen1, hcl, h⟩ := bd1_some h
        refine zJ_callV2 (σ := σ) (L := ([(193, numbers_size), (323, course_fences), (326, course_horseCount), (328, course_planCount), (329, course_allowed), (769, course_rule_size), (1284, rounds_size)], [(6, course_kinds), (7, course_heights), (8, course_feet), (10, course_digits), (11, course_plans), (13, rule_codes), (15, rule_stack_32x), (16, rule_things_32x), (23, rounds_faults), (24, rounds_tenths), (25, rounds_money)], [(4, numbers_told)])) (mi := mX11_buy) (yi := mX6_start) (as := []) (st := []) (L2 := ([(193, numbers_sizen1), (323, course_fences), (326, course_horseCount), (328, course_planCount), (329, course_allowed), (769, course_rule_size), (1284, rounds_size)], [(6, course_kinds), (7, course_heights), (8, course_feet), (10, course_digits), (11, course_plans), (13, rule_codes), (15, rule_stack_32x), (16, rule_things_32x), (23, rounds_faults), (24, rounds_tenths), (25, rounds_money)], [(4, numbers_told)])) dX11_buy_94 ML_X11_171 Yv_X6_start rfl zW_3 rfl rfl (t_X6_start l _ hcl) (zsub_i (zle_c rfl zle_n) zle_n zle_n) (zjok_i rfl rfl (zle_c rfl (zle_c rfl (zle_c rfl (zle_c rfl (zle_c rfl (zle_c rfl (zle_c rfl zle_n))))))) rfl rfl (zle_c rfl (zle_c rfl (zle_c rfl (zle_c rfl (zle_c rfl (zle_c rfl (zle_c rfl (zle_c rfl (zle_c rfl (zle_c rfl (zle_c rfl zle_n))))))))))) rfl rfl (zle_c rfl zle_n)) (Nat.le_of_ble_eq_true rfl) (Nat.le_of_ble_eq_true rfl) rfl rfl ?_
        refine zJ_aload_n dX11_buy_97 rfl rfl ?_
        refine zJ_getr (mi := mX11_buy) dX11_buy_98 F_X11_19 zW_0 rfl rfl ?_
        refine zJ_iload_n dX11_buy_101 rfl rfl ?_
        refine zJ_i2l dX11_buy_102 rfl ?_
        obtain ⟨numbers_sizen2, numbers_toldn3, hcl, h⟩ := bd2_some h
        refine zJ_callV2 (σ := σ) (L := ([(193, numbers_sizen1), (323, course_fences), (326, course_horseCount), (328, course_planCount), (329, course_allowed), (769, course_rule_size), (1284, rounds_size)], [(6, course_kinds), (7, course_heights), (8, course_feet), (10, course_digits), (11, course_plans), (13, rule_codes), (15, rule_stack_32x), (16, rule_things_32x), (23, rounds_faults), (24, rounds_tenths), (25, rounds_money)], [(4, numbers_told)])) (mi := mX11_buy) (yi := mX6_put) (as := [.long v2_32x.toInt64]) (st := []) (L2 := ([(193, numbers_sizen2), (323, course_fences), (326, course_horseCount), (328, course_planCount), (329, course_allowed), (769, course_rule_size), (1284, rounds_size)], [(6, course_kinds), (7, course_heights), (8, course_feet), (10, course_digits), (11, course_plans), (13, rule_codes), (15, rule_stack_32x), (16, rule_things_32x), (23, rounds_faults), (24, rounds_tenths), (25, rounds_money)], [(4, numbers_toldn3)])) dX11_buy_103 ML_X11_177 Yv_X6_put rfl zW_3 rfl rfl (t_X6_put l _ hcl) (zsub_i (zle_c rfl zle_n) zle_n (zle_c rfl zle_n)) (zjok_i rfl rfl (zle_c rfl (zle_c rfl (zle_c rfl (zle_c rfl (zle_c rfl (zle_c rfl (zle_c rfl zle_n))))))) rfl rfl (zle_c rfl (zle_c rfl (zle_c rfl (zle_c rfl (zle_c rfl (zle_c rfl (zle_c rfl (zle_c rfl (zle_c rfl (zle_c rfl (zle_c rfl zle_n))))))))))) rfl rfl (zle_c rfl zle_n)) (Nat.le_of_ble_eq_true rfl) (Nat.le_of_ble_eq_true rfl) rfl rfl ?_
        refine zJ_aload_n dX11_buy_106 rfl rfl ?_
        refine zJ_getr (mi := mX11_buy) dX11_buy_107 F_X11_19 zW_0 rfl rfl ?_
        refine zJ_aload_n dX11_buy_110 rfl rfl ?_
        refine zJ_iload_n dX11_buy_111 rfl rfl ?_
        obtain ⟨rn4, rule_stackn5, rule_thingsn6, hcl, h⟩ := bd3_some h
        refine zJ_callV2 (σ := σ) (L := ([(193, numbers_sizen2), (323, course_fences), (326, course_horseCount), (328, course_planCount), (329, course_allowed), (769, course_rule_size), (1284, rounds_size)], [(6, course_kinds), (7, course_heights), (8, course_feet), (10, course_digits), (11, course_plans), (13, rule_codes), (15, rule_stack_32x), (16, rule_things_32x), (23, rounds_faults), (24, rounds_tenths), (25, rounds_money)], [(4, numbers_toldn3)])) (mi := mX11_buy) (yi := mX11_bestPlan) (as := [.int v1_32x]) (st := [.ref 3]) (L2 := ([(193, numbers_sizen2), (323, course_fences), (326, course_horseCount), (328, course_planCount), (329, course_allowed), (769, course_rule_size), (1284, rounds_size)], [(6, course_kinds), (7, course_heights), (8, course_feet), (10, course_digits), (11, course_plans), (13, rule_codes), (15, rule_stackn5), (16, rule_thingsn6), (23, rounds_faults), (24, rounds_tenths), (25, rounds_money)], [(4, numbers_toldn3)])) dX11_buy_112 ML_X11_365 Yv_X11_bestPlan rfl zW_0 rfl rfl (t_X11_bestPlan l _ hcl) (zsub_i (zle_c rfl (zle_c rfl (zle_c rfl (zle_c rfl (zle_c rfl zle_n))))) (zle_c rfl (zle_c rfl (zle_c rfl (zle_c rfl (zle_c rfl (zle_c rfl (zle_c rfl (zle_c rfl (zle_c rfl (zle_c rfl (zle_c rfl zle_n))))))))))) zle_n) (zjok_i rfl rfl (zle_c rfl (zle_c rfl (zle_c rfl (zle_c rfl (zle_c rfl (zle_c rfl (zle_c rfl zle_n))))))) rfl rfl (zle_c rfl (zle_c rfl (zle_c rfl (zle_c rfl (zle_c rfl (zle_c rfl (zle_c rfl (zle_c rfl (zle_c rfl (zle_c rfl (zle_c rfl zle_n))))))))))) rfl rfl (zle_c rfl zle_n)) (Nat.le_of_ble_eq_true rfl) (Nat.le_of_ble_eq_true rfl) rfl rfl ?_
        refine zJ_i2l dX11_buy_115 rfl ?_
        obtain ⟨numbers_sizen7, numbers_toldn8, hcl, h⟩ := bd2_some h
        refine zJ_callV2 (σ := σ) (L := ([(193, numbers_sizen2), (323, course_fences), (326, course_horseCount), (328, course_planCount), (329, course_allowed), (769, course_rule_size), (1284, rounds_size)], [(6, course_kinds), (7, course_heights), (8, course_feet), (10, course_digits), (11, course_plans), (13, rule_codes), (15, rule_stackn5), (16, rule_thingsn6), (23, rounds_faults), (24, rounds_tenths), (25, rounds_money)], [(4, numbers_toldn3)])) (mi := mX11_buy) (yi := mX6_put) (as := [.long rn4.toInt64]) (st := []) (L2 := ([(193, numbers_sizen7), (323, course_fences), (326, course_horseCount), (328, course_planCount), (329, course_allowed), (769, course_rule_size), (1284, rounds_size)], [(6, course_kinds), (7, course_heights), (8, course_feet), (10, course_digits), (11, course_plans), (13, rule_codes), (15, rule_stackn5), (16, rule_thingsn6), (23, rounds_faults), (24, rounds_tenths), (25, rounds_money)], [(4, numbers_toldn8)])) dX11_buy_116 ML_X11_177 Yv_X6_put rfl zW_3 rfl rfl (t_X6_put l _ hcl) (zsub_i (zle_c rfl zle_n) zle_n (zle_c rfl zle_n)) (zjok_i rfl rfl (zle_c rfl (zle_c rfl (zle_c rfl (zle_c rfl (zle_c rfl (zle_c rfl (zle_c rfl zle_n))))))) rfl rfl (zle_c rfl (zle_c rfl (zle_c rfl (zle_c rfl (zle_c rfl (zle_c rfl (zle_c rfl (zle_c rfl (zle_c rfl (zle_c rfl (zle_c rfl zle_n))))))))))) rfl rfl (zle_c rfl zle_n)) (Nat.le_of_ble_eq_true rfl) (Nat.le_of_ble_eq_true rfl) rfl rfl ?_
        refine zJ_aload_n dX11_buy_119 rfl rfl ?_
        refine zJ_getr (mi := mX11_buy) dX11_buy_120 F_X11_19 zW_0 rfl rfl ?_
        refine zJ_iload_n dX11_buy_123 rfl rfl ?_
        refine zJ_i2l dX11_buy_124 rfl ?_
        obtain ⟨numbers_sizen9, numbers_toldn10, hcl, h⟩ := bd2_some h
        refine zJ_callV2 (σ := σ) (L := ([(193, numbers_sizen7), (323, course_fences), (326, course_horseCount), (328, course_planCount), (329, course_allowed), (769, course_rule_size), (1284, rounds_size)], [(6, course_kinds), (7, course_heights), (8, course_feet), (10, course_digits), (11, course_plans), (13, rule_codes), (15, rule_stackn5), (16, rule_thingsn6), (23, rounds_faults), (24, rounds_tenths), (25, rounds_money)], [(4, numbers_toldn8)])) (mi := mX11_buy) (yi := mX6_put) (as := [.long v3_32x.toInt64]) (st := []) (L2 := ([(193, numbers_sizen9), (323, course_fences), (326, course_horseCount), (328, course_planCount), (329, course_allowed), (769, course_rule_size), (1284, rounds_size)], [(6, course_kinds), (7, course_heights), (8, course_feet), (10, course_digits), (11, course_plans), (13, rule_codes), (15, rule_stackn5), (16, rule_thingsn6), (23, rounds_faults), (24, rounds_tenths), (25, rounds_money)], [(4, numbers_toldn10)])) dX11_buy_125 ML_X11_177 Yv_X6_put rfl zW_3 rfl rfl (t_X6_put l _ hcl) (zsub_i (zle_c rfl zle_n) zle_n (zle_c rfl zle_n)) (zjok_i rfl rfl (zle_c rfl (zle_c rfl (zle_c rfl (zle_c rfl (zle_c rfl (zle_c rfl (zle_c rfl zle_n))))))) rfl rfl (zle_c rfl (zle_c rfl (zle_c rfl (zle_c rfl (zle_c rfl (zle_c rfl (zle_c rfl (zle_c rfl (zle_c rfl (zle_c rfl (zle_c rfl zle_n))))))))))) rfl rfl (zle_c rfl zle_n)) (Nat.le_of_ble_eq_true rfl) (Nat.le_of_ble_eq_true rfl) rfl rfl ?_
        refine zJ_iload_n dX11_buy_128 rfl rfl ?_
        obtain ⟨rfl, rfl, rfl, rfl, rfl⟩ := so5 h
        exact zJ_iret dX11_buy_129 rfl rfl
      refine zJ_loc (ls' := [(0, .ref 0), (1, .int (-1 : Int32)), (2, .int (-1 : Int32)), (3, .int (-1 : Int32)), (4, .int (0 : Int32))]) (zll_c rfl (zll_c rfl (zll_c rfl (zll_c rfl (zll_c rfl zll_n))))) ?_
      refine ml6_J (fun (v1_32 : Int32) (v2_32 : Int32) (v3_32 : Int32) (v4_32 : Int32) (rule_stack_32 : (Nat → Int32)) (rule_things_32 : (Nat → Int32)) => zJ l zW 7 mX11_buy σ ([(193, numbers_size), (323, course_fences), (326, course_horseCount), (328, course_planCount), (329, course_allowed), (769, course_rule_size), (1284, rounds_size)], [(6, course_kinds), (7, course_heights), (8, course_feet), (10, course_digits), (11, course_plans), (13, rule_codes), (15, rule_stack_32), (16, rule_things_32), (23, rounds_faults), (24, rounds_tenths), (25, rounds_money)], [(4, numbers_told)]) 32 [(0, .ref 0), (1, .int v1_32), (2, .int v2_32), (3, .int v3_32), (4, .int v4_32)] [] (some (.int r)) ([(193, w_numbers_size), (323, course_fences), (326, course_horseCount), (328, course_planCount), (329, course_allowed), (769, course_rule_size), (1284, rounds_size)], [(6, course_kinds), (7, course_heights), (8, course_feet), (10, course_digits), (11, course_plans), (13, rule_codes), (15, w_rule_stack), (16, w_rule_things), (23, rounds_faults), (24, rounds_tenths), (25, rounds_money)], [(4, w_numbers_told)])) (fun rc32 hrc32 v1_32 v2_32 v3_32 v4_32 rule_stack_32 rule_things_32 h => ?_) zN _ _ _ _ _ _ h
      unfold s_X11_buy_32 at h
      refine zJ_iload dX11_buy_32 rfl rfl ?_
      refine zJ_aload_n dX11_buy_34 rfl rfl ?_
      refine zJ_getr (mi := mX11_buy) dX11_buy_35 F_X11_26 zW_0 rfl rfl ?_
      refine zJ_geti (mi := mX11_buy) (x := course_horseCount) dX11_buy_38 F_X11_368 zW_5 rfl rfl rfl ?_
      refine zJ_icmp_ge (tgt := 90) dX11_buy_41 (by decide) rfl (fun hc => ?_) (fun hc => ?_)
      · replace h := it_t hc h
        refine zJ_loc (ls' := [(0, .ref 0), (1, .int v1_32), (2, .int v2_32), (3, .int v3_32)]) (zll_c rfl (zll_c rfl (zll_c rfl (zll_c rfl zll_n)))) ?_
        exact hk32 _ _ _ _ _ h
      · replace h := it_f hc h
        refine zJ_aload_n dX11_buy_44 rfl rfl ?_
        refine zJ_iload dX11_buy_45 rfl rfl ?_
        refine zJ_aload_n dX11_buy_47 rfl rfl ?_
        refine zJ_iload dX11_buy_48 rfl rfl ?_
        obtain ⟨rn11, rule_stackn12, rule_thingsn13, hcl, h⟩ := bd3_some h
        refine zJ_callV2 (σ := σ) (L := ([(193, numbers_size), (323, course_fences), (326, course_horseCount), (328, course_planCount), (329, course_allowed), (769, course_rule_size), (1284, rounds_size)], [(6, course_kinds), (7, course_heights), (8, course_feet), (10, course_digits), (11, course_plans), (13, rule_codes), (15, rule_stack_32), (16, rule_things_32), (23, rounds_faults), (24, rounds_tenths), (25, rounds_money)], [(4, numbers_told)])) (mi := mX11_buy) (yi := mX11_bestPlan) (as := [.int v4_32]) (st := [.int v4_32, .ref 0]) (L2 := ([(193, numbers_size), (323, course_fences), (326, course_horseCount), (328, course_planCount), (329, course_allowed), (769, course_rule_size), (1284, rounds_size)], [(6, course_kinds), (7, course_heights), (8, course_feet), (10, course_digits), (11, course_plans), (13, rule_codes), (15, rule_stackn12), (16, rule_thingsn13), (23, rounds_faults), (24, rounds_tenths), (25, rounds_money)], [(4, numbers_told)])) dX11_buy_50 ML_X11_365 Yv_X11_bestPlan rfl zW_0 rfl rfl (t_X11_bestPlan l _ hcl) (zsub_i (zle_c rfl (zle_c rfl (zle_c rfl (zle_c rfl (zle_c rfl zle_n))))) (zle_c rfl (zle_c rfl (zle_c rfl (zle_c rfl (zle_c rfl (zle_c rfl (zle_c rfl (zle_c rfl (zle_c rfl (zle_c rfl (zle_c rfl zle_n))))))))))) zle_n) (zjok_i rfl rfl (zle_c rfl (zle_c rfl (zle_c rfl (zle_c rfl (zle_c rfl (zle_c rfl (zle_c rfl zle_n))))))) rfl rfl (zle_c rfl (zle_c rfl (zle_c rfl (zle_c rfl (zle_c rfl (zle_c rfl (zle_c rfl (zle_c rfl (zle_c rfl (zle_c rfl (zle_c rfl zle_n))))))))))) rfl rfl (zle_c rfl zle_n)) (Nat.le_of_ble_eq_true rfl) (Nat.le_of_ble_eq_true rfl) rfl rfl ?_
        obtain ⟨rn14, rule_stackn15, rule_thingsn16, hcl, h⟩ := bd3_some h
        refine zJ_callV2 (σ := σ) (L := ([(193, numbers_size), (323, course_fences), (326, course_horseCount), (328, course_planCount), (329, course_allowed), (769, course_rule_size), (1284, rounds_size)], [(6, course_kinds), (7, course_heights), (8, course_feet), (10, course_digits), (11, course_plans), (13, rule_codes), (15, rule_stackn12), (16, rule_thingsn13), (23, rounds_faults), (24, rounds_tenths), (25, rounds_money)], [(4, numbers_told)])) (mi := mX11_buy) (yi := mX11_meanOf) (as := [.int v4_32, .int rn11]) (st := []) (L2 := ([(193, numbers_size), (323, course_fences), (326, course_horseCount), (328, course_planCount), (329, course_allowed), (769, course_rule_size), (1284, rounds_size)], [(6, course_kinds), (7, course_heights), (8, course_feet), (10, course_digits), (11, course_plans), (13, rule_codes), (15, rule_stackn15), (16, rule_thingsn16), (23, rounds_faults), (24, rounds_tenths), (25, rounds_money)], [(4, numbers_told)])) dX11_buy_53 ML_X11_359 Yv_X11_meanOf rfl zW_0 rfl rfl (t_X11_meanOf l _ hcl) (zsub_i (zle_c rfl (zle_c rfl (zle_c rfl (zle_c rfl zle_n)))) (zle_c rfl (zle_c rfl (zle_c rfl (zle_c rfl (zle_c rfl (zle_c rfl (zle_c rfl (zle_c rfl (zle_c rfl (zle_c rfl (zle_c rfl zle_n))))))))))) zle_n) (zjok_i rfl rfl (zle_c rfl (zle_c rfl (zle_c rfl (zle_c rfl (zle_c rfl (zle_c rfl (zle_c rfl zle_n))))))) rfl rfl (zle_c rfl (zle_c rfl (zle_c rfl (zle_c rfl (zle_c rfl (zle_c rfl (zle_c rfl (zle_c rfl (zle_c rfl (zle_c rfl (zle_c rfl zle_n))))))))))) rfl rfl (zle_c rfl zle_n)) (Nat.le_of_ble_eq_true rfl) (Nat.le_of_ble_eq_true rfl) rfl rfl ?_
        refine zJ_istore (ls' := [(5, .int rn14), (0, .ref 0), (1, .int v1_32), (2, .int v2_32), (3, .int v3_32), (4, .int v4_32)]) dX11_buy_56 rfl rfl rfl ?_
        refine zJ_iload dX11_buy_58 rfl rfl ?_
        refine zJ_iload_n dX11_buy_60 rfl rfl ?_
        refine zJ_icmp_le (tgt := 75) dX11_buy_61 (by decide) rfl (fun hc => ?_) (fun hc => ?_)
        · replace h := it_t hc h
          refine zJ_iload dX11_buy_75 rfl rfl ?_
          refine zJ_iload_n dX11_buy_77 rfl rfl ?_
          refine zJ_icmp_le (tgt := 84) dX11_buy_78 (by decide) rfl (fun hc => ?_) (fun hc => ?_)
          · replace h := it_t hc h
            obtain ⟨v4n17, ev4n17, h⟩ := lt1_some h
            refine zJ_iincN (ls' := [(4, .int v4n17), (5, .int rn14), (0, .ref 0), (1, .int v1_32), (2, .int v2_32), (3, .int v3_32)]) dX11_buy_84 rfl rfl zc_1 ev4n17 rfl rfl ?_
            refine zJ_goto (tgt := 32) dX11_buy_87 (by decide) ?_
            refine zJ_loc (ls' := [(0, .ref 0), (1, .int v1_32), (2, .int v2_32), (3, .int v3_32), (4, .int v4n17)]) (zll_c rfl (zll_c rfl (zll_c rfl (zll_c rfl (zll_c rfl zll_n))))) ?_
            exact hrc32 _ _ _ _ _ _ h
          · replace h := it_f hc h
            refine zJ_iload dX11_buy_81 rfl rfl ?_
            refine zJ_istore_n (ls' := [(3, .int rn14), (5, .int rn14), (0, .ref 0), (1, .int v1_32), (2, .int v2_32), (4, .int v4_32)]) dX11_buy_83 rfl rfl rfl ?_
            obtain ⟨v4n18, ev4n18, h⟩ := lt1_some h
            refine zJ_iincN (ls' := [(4, .int v4n18), (3, .int rn14), (5, .int rn14), (0, .ref 0), (1, .int v1_32), (2, .int v2_32)]) dX11_buy_84 rfl rfl zc_1 ev4n18 rfl rfl ?_
            refine zJ_goto (tgt := 32) dX11_buy_87 (by decide) ?_
            refine zJ_loc (ls' := [(0, .ref 0), (1, .int v1_32), (2, .int v2_32), (3, .int rn14), (4, .int v4n18)]) (zll_c rfl (zll_c rfl (zll_c rfl (zll_c rfl (zll_c rfl zll_n))))) ?_
            exact hrc32 _ _ _ _ _ _ h
        · replace h := it_f hc h
          refine zJ_iload_n dX11_buy_64 rfl rfl ?_
          refine zJ_istore_n (ls' := [(3, .int v2_32), (5, .int rn14), (0, .ref 0), (1, .int v1_32), (2, .int v2_32), (4, .int v4_32)]) dX11_buy_65 rfl rfl rfl ?_
          refine zJ_iload dX11_buy_66 rfl rfl ?_
          refine zJ_istore_n (ls' := [(2, .int rn14), (3, .int v2_32), (5, .int rn14), (0, .ref 0), (1, .int v1_32), (4, .int v4_32)]) dX11_buy_68 rfl rfl rfl ?_
          refine zJ_iload dX11_buy_69 rfl rfl ?_
          refine zJ_istore_n (ls' := [(1, .int v4_32), (2, .int rn14), (3, .int v2_32), (5, .int rn14), (0, .ref 0), (4, .int v4_32)]) dX11_buy_71 rfl rfl rfl ?_
          refine zJ_goto (tgt := 84) dX11_buy_72 (by decide) ?_
          obtain ⟨v4n19, ev4n19, h⟩ := lt1_some h
          refine zJ_iincN (ls' := [(4, .int v4n19), (1, .int v4_32), (2, .int rn14), (3, .int v2_32), (5, .int rn14), (0, .ref 0)]) dX11_buy_84 rfl rfl zc_1 ev4n19 rfl rfl ?_
          refine zJ_goto (tgt := 32) dX11_buy_87 (by decide) ?_
          refine zJ_loc (ls' := [(0, .ref 0), (1, .int v4_32), (2, .int rn14), (3, .int v2_32), (4, .int v4n19)]) (zll_c rfl (zll_c rfl (zll_c rfl (zll_c rfl (zll_c rfl zll_n))))) ?_
          exact hrc32 _ _ _ _ _ _ h
    · replace h := it_t hc h
      refine zJ_bipush dX11_buy_20 zb_m2 rfl ?_
      obtain ⟨rfl, rfl, rfl, rfl, rfl⟩ := so5 h
      exact zJ_iret dX11_buy_22 rfl rfl
set_option maxRecDepth 100000 in
set_option maxHeartbeats 4000000 in
theorem t_X1_hasFence (l : Launch) (σ : zS) {p1 : Int32} {course_fences : Int32} {r : Int32} (h : f_X1_hasFence p1 course_fences = some r) : zMt l zW 0 mX1_hasFence σ ([(323, course_fences)], [], []) [.ref 5, .int p1] (some (.int r)) ([(323, course_fences)], [], []) := by
  refine zMt_of (ls := [(0, .ref 5), (1, .int p1)]) (by decide) rfl (fun _ => Nat.le_of_ble_eq_true rfl) rfl ?_
  unfold f_X1_hasFence at h
  refine zJ_iload_n dX1_hasFence_0 rfl rfl ?_
  refine zJ_if_lt (tgt := 16) dX1_hasFence_1 (by decide) rfl (fun hc => ?_) (fun hc => ?_)
  · replace h := it_t hc h
    refine zJ_iconst dX1_hasFence_16 zc_0 rfl ?_
    obtain rfl := so1 h
    exact zJ_iret dX1_hasFence_17 rfl (by decide)
  · replace h := it_f hc h
    refine zJ_iload_n dX1_hasFence_4 rfl rfl ?_
    refine zJ_aload_n dX1_hasFence_5 rfl rfl ?_
    refine zJ_geti (mi := mX1_hasFence) (x := course_fences) dX1_hasFence_6 F_X1_50 zW_5 rfl rfl rfl ?_
    refine zJ_icmp_ge (tgt := 16) dX1_hasFence_9 (by decide) rfl (fun hc => ?_) (fun hc => ?_)
    · replace h := it_t hc h
      refine zJ_iconst dX1_hasFence_16 zc_0 rfl ?_
      obtain rfl := so1 h
      exact zJ_iret dX1_hasFence_17 rfl (by decide)
    · replace h := it_f hc h
      refine zJ_iconst dX1_hasFence_12 zc_1 rfl ?_
      refine zJ_goto (tgt := 17) dX1_hasFence_13 (by decide) ?_
      obtain rfl := so1 h
      exact zJ_iret dX1_hasFence_17 rfl (by decide)
set_option maxRecDepth 100000 in
set_option maxHeartbeats 4000000 in
theorem t_X11_calm (l : Launch) (σ : zS) {p1 : Int32} {p2 : Int32} {numbers_size : Int32} {course_fences : Int32} {course_horseCount : Int32} {course_rule_size : Int32} {course_kinds : (Nat → Int32)} {course_heights : (Nat → Int32)} {course_feet : (Nat → Int32)} {course_digits : (Nat → Int32)} {rule_codes : (Nat → Int32)} {rule_stack : (Nat → Int32)} {rule_things : (Nat → Int32)} {numbers_told : (Nat → Int64)} {r : Int32} {w_numbers_size : Int32} {w_rule_stack : (Nat → Int32)} {w_rule_things : (Nat → Int32)} {w_numbers_told : (Nat → Int64)} (h : f_X11_calm p1 p2 numbers_size course_fences course_horseCount course_rule_size course_kinds course_heights course_feet course_digits rule_codes rule_stack rule_things numbers_told = some (r, w_numbers_size, w_rule_stack, w_rule_things, w_numbers_told)) : zMt l zW 4 mX11_calm σ ([(193, numbers_size), (323, course_fences), (326, course_horseCount), (769, course_rule_size)], [(6, course_kinds), (7, course_heights), (8, course_feet), (10, course_digits), (13, rule_codes), (15, rule_stack), (16, rule_things)], [(4, numbers_told)]) [.ref 0, .int p1, .int p2] (some (.int r)) ([(193, w_numbers_size), (323, course_fences), (326, course_horseCount), (769, course_rule_size)], [(6, course_kinds), (7, course_heights), (8, course_feet), (10, course_digits), (13, rule_codes), (15, w_rule_stack), (16, w_rule_things)], [(4, w_numbers_told)]) := by
  refine zMt_of (ls := [(0, .ref 0), (1, .int p1), (2, .int p2)]) (by decide) rfl (fun _ => Nat.le_of_ble_eq_true rfl) rfl ?_
  unfold f_X11_calm at h
  refine zJ_aload_n dX11_calm_0 rfl rfl ?_
  refine zJ_getr (mi := mX11_calm) dX11_calm_1 F_X11_26 zW_0 rfl rfl ?_
  refine zJ_iload_n dX11_calm_4 rfl rfl ?_
  obtain ⟨rn1, hcl, h⟩ := bd1_some h
  refine zJ_callV2 (σ := σ) (L := ([(193, numbers_size), (323, course_fences), (326, course_horseCount), (769, course_rule_size)], [(6, course_kinds), (7, course_heights), (8, course_feet), (10, course_digits), (13, rule_codes), (15, rule_stack), (16, rule_things)], [(4, numbers_told)])) (mi := mX11_calm) (yi := mX1_hasHorse) (as := [.int p1]) (st := []) (L2 := ([(193, numbers_size), (323, course_fences), (326, course_horseCount), (769, course_rule_size)], [(6, course_kinds), (7, course_heights), (8, course_feet), (10, course_digits), (13, rule_codes), (15, rule_stack), (16, rule_things)], [(4, numbers_told)])) dX11_calm_5 ML_X11_147 Yv_X1_hasHorse rfl zW_5 rfl rfl (t_X1_hasHorse l _ hcl) (zsub_i (zle_c rfl zle_n) zle_n zle_n) (zjok_i rfl rfl (zle_c rfl (zle_c rfl (zle_c rfl (zle_c rfl zle_n)))) rfl rfl (zle_c rfl (zle_c rfl (zle_c rfl (zle_c rfl (zle_c rfl (zle_c rfl (zle_c rfl zle_n))))))) rfl rfl (zle_c rfl zle_n)) (Nat.le_of_ble_eq_true rfl) (Nat.le_of_ble_eq_true rfl) rfl rfl ?_
  refine zJ_if_eq (tgt := 22) dX11_calm_8 (by decide) rfl (fun hc => ?_) (fun hc => ?_)
  · replace h := it_t hc h
    refine zJ_iconst dX11_calm_22 zc_m1 rfl ?_
    obtain ⟨rfl, rfl, rfl, rfl, rfl⟩ := so5 h
    exact zJ_iret dX11_calm_23 rfl rfl
  · replace h := it_f hc h
    refine zJ_aload_n dX11_calm_11 rfl rfl ?_
    refine zJ_getr (mi := mX11_calm) dX11_calm_12 F_X11_26 zW_0 rfl rfl ?_
    refine zJ_iload_n dX11_calm_15 rfl rfl ?_
    obtain ⟨rn2, hcl, h⟩ := bd1_some h
    refine zJ_callV2 (σ := σ) (L := ([(193, numbers_size), (323, course_fences), (326, course_horseCount), (769, course_rule_size)], [(6, course_kinds), (7, course_heights), (8, course_feet), (10, course_digits), (13, rule_codes), (15, rule_stack), (16, rule_things)], [(4, numbers_told)])) (mi := mX11_calm) (yi := mX1_hasFence) (as := [.int p2]) (st := []) (L2 := ([(193, numbers_size), (323, course_fences), (326, course_horseCount), (769, course_rule_size)], [(6, course_kinds), (7, course_heights), (8, course_feet), (10, course_digits), (13, rule_codes), (15, rule_stack), (16, rule_things)], [(4, numbers_told)])) dX11_calm_16 ML_X11_132 Yv_X1_hasFence rfl zW_5 rfl rfl (t_X1_hasFence l _ hcl) (zsub_i (zle_c rfl zle_n) zle_n zle_n) (zjok_i rfl rfl (zle_c rfl (zle_c rfl (zle_c rfl (zle_c rfl zle_n)))) rfl rfl (zle_c rfl (zle_c rfl (zle_c rfl (zle_c rfl (zle_c rfl (zle_c rfl (zle_c rfl zle_n))))))) rfl rfl (zle_c rfl zle_n)) (Nat.le_of_ble_eq_true rfl) (Nat.le_of_ble_eq_true rfl) rfl rfl ?_
    refine zJ_if_ne (tgt := 24) dX11_calm_19 (by decide) rfl (fun hc => ?_) (fun hc => ?_)
    · replace h := it_f hc h
      refine zJ_aload_n dX11_calm_24 rfl rfl ?_
      refine zJ_getr (mi := mX11_calm) dX11_calm_25 F_X11_26 zW_0 rfl rfl ?_
      refine zJ_iload_n dX11_calm_28 rfl rfl ?_
      refine zJ_iload_n dX11_calm_29 rfl rfl ?_
      obtain ⟨rn3, hcl, h⟩ := bd1_some h
      refine zJ_callV2 (σ := σ) (L := ([(193, numbers_size), (323, course_fences), (326, course_horseCount), (769, course_rule_size)], [(6, course_kinds), (7, course_heights), (8, course_feet), (10, course_digits), (13, rule_codes), (15, rule_stack), (16, rule_things)], [(4, numbers_told)])) (mi := mX11_calm) (yi := mX1_refusalOdds) (as := [.int p1, .int p2]) (st := []) (L2 := ([(193, numbers_size), (323, course_fences), (326, course_horseCount), (769, course_rule_size)], [(6, course_kinds), (7, course_heights), (8, course_feet), (10, course_digits), (13, rule_codes), (15, rule_stack), (16, rule_things)], [(4, numbers_told)])) dX11_calm_30 ML_X11_174 Yv_X1_refusalOdds rfl zW_5 rfl rfl (t_X1_refusalOdds l _ hcl) (zsub_i zle_n (zle_c rfl (zle_c rfl (zle_c rfl zle_n))) zle_n) (zjok_i rfl rfl (zle_c rfl (zle_c rfl (zle_c rfl (zle_c rfl zle_n)))) rfl rfl (zle_c rfl (zle_c rfl (zle_c rfl (zle_c rfl (zle_c rfl (zle_c rfl (zle_c rfl zle_n))))))) rfl rfl (zle_c rfl zle_n)) (Nat.le_of_ble_eq_true rfl) (Nat.le_of_ble_eq_true rfl) rfl rfl ?_
      refine zJ_istore_n (ls' := [(3, .int rn3), (0, .ref 0), (1, .int p1), (2, .int p2)]) dX11_calm_33 rfl rfl rfl ?_
      refine zJ_iconst dX11_calm_34 zc_0 rfl ?_
      refine zJ_istore (ls' := [(4, .int (0 : Int32)), (3, .int rn3), (0, .ref 0), (1, .int p1), (2, .int p2)]) dX11_calm_35 rfl rfl rfl ?_
      refine zJ_iconst dX11_calm_37 zc_0 rfl ?_
      refine zJ_istore (ls' := [(5, .int (0 : Int32)), (4, .int (0 : Int32)), (3, .int rn3), (0, .ref 0), (1, .int p1), (2, .int p2)]) dX11_calm_38 rfl rfl rfl ?_
      refine zJ_iconst dX11_calm_40 zc_0 rfl ?_
      refine zJ_istore (ls' := [(6, .int (0 : Int32)), (5, .int (0 : Int32)), (4, .int (0 : Int32)), (3, .int rn3), (0, .ref 0), (1, .int p1), (2, .int p2)]) dX11_calm_41 rfl rfl rfl ?_
      refine zJ_iconst dX11_calm_43 zc_0 rfl ?_
      refine zJ_istore (ls' := [(7, .int (0 : Int32)), (6, .int (0 : Int32)), (5, .int (0 : Int32)), (4, .int (0 : Int32)), (3, .int rn3), (0, .ref 0), (1, .int p1), (2, .int p2)]) dX11_calm_44 rfl rfl rfl ?_
      have hk46 : ∀ (v4_46x : Int32) (v5_46x : Int32) (v6_46x : Int32) (rule_stack_46x : (Nat → Int32)) (rule_things_46x : (Nat → Int32)), k_X11_calm_46 numbers_size numbers_told v4_46x v5_46x v6_46x rule_stack_46x rule_things_46x = some (r, w_numbers_size, w_rule_stack, w_rule_things, w_numbers_told) → zJ l zW 4 mX11_calm σ ([(193, numbers_size), (323, course_fences), (326, course_horseCount), (769, course_rule_size)], [(6, course_kinds), (7, course_heights), (8, course_feet), (10, course_digits), (13, rule_codes), (15, rule_stack_46x), (16, rule_things_46x)], [(4, numbers_told)]) 124 [(0, .ref 0), (4, .int v4_46x), (5, .int v5_46x), (6, .int v6_46x)] [] (some (.int r)) ([(193, w_numbers_size), (323, course_fences), (326, course_horseCount), (769, course_rule_size)], [(6, course_kinds), (7, course_heights), (8, course_feet), (10, course_digits), (13, rule_codes), (15, w_rule_stack), (16, w_rule_things)], [(4, w_numbers_told)]) := by
        intro v4_46x v5_46x v6_46x rule_stack_46x rule_things_46x h
        unfold k_X11_calm_46 at h
        refine zJ_aload_n dX11_calm_124 rfl rfl ?_
        refine zJ_getr (mi := mX11_calm) dX11_calm_125 F_X11_19 zW_0 rfl rfl ?_
        obtain ⟨numbers_sizen4, hcl, h⟩ := bd1_some h
        refine zJ_callV2 (σ := σ) (L := ([(193, numbers_size), (323, course_fences), (326, course_horseCount), (769, course_rule_size)], [(6, course_kinds), (7, course_heights), (8, course_feet), (10, course_digits), (13, rule_codes), (15, rule_stack_46x), (16, rule_things_46x)], [(4, numbers_told)])) (mi := mX11_calm) (yi := mX6_start) (as := []) (st := []) (L2 := ([(193, numbers_sizen4), (323, course_fences), (326, course_horseCount), (769, course_rule_size)], [(6, course_kinds), (7, course_heights), (8, course_feet), (10, course_digits), (13, rule_codes), (15, rule_stack_46x), (16, rule_things_46x)], [(4, numbers_told)])) dX11_calm_128 ML_X11_171 Yv_X6_start rfl zW_3 rfl rfl (t_X6_start l _ hcl) (zsub_i (zle_c rfl zle_n) zle_n zle_n) (zjok_i rfl rfl (zle_c rfl (zle_c rfl (zle_c rfl (zle_c rfl zle_n)))) rfl rfl (zle_c rfl (zle_c rfl (zle_c rfl (zle_c rfl (zle_c rfl (zle_c rfl (zle_c rfl zle_n))))))) rfl rfl (zle_c rfl zle_n)) (Nat.le_of_ble_eq_true rfl) (Nat.le_of_ble_eq_true rfl) rfl rfl ?_
        refine zJ_aload_n dX11_calm_131 rfl rfl ?_
        refine zJ_getr (mi := mX11_calm) dX11_calm_132 F_X11_19 zW_0 rfl rfl ?_
        refine zJ_iload dX11_calm_135 rfl rfl ?_
        refine zJ_i2l dX11_calm_137 rfl ?_
        obtain ⟨numbers_sizen5, numbers_toldn6, hcl, h⟩ := bd2_some h
        refine zJ_callV2 (σ := σ) (L := ([(193, numbers_sizen4), (323, course_fences), (326, course_horseCount), (769, course_rule_size)], [(6, course_kinds), (7, course_heights), (8, course_feet), (10, course_digits), (13, rule_codes), (15, rule_stack_46x), (16, rule_things_46x)], [(4, numbers_told)])) (mi := mX11_calm) (yi := mX6_put) (as := [.long v5_46x.toInt64]) (st := []) (L2 := ([(193, numbers_sizen5), (323, course_fences), (326, course_horseCount), (769, course_rule_size)], [(6, course_kinds), (7, course_heights), (8, course_feet), (10, course_digits), (13, rule_codes), (15, rule_stack_46x), (16, rule_things_46x)], [(4, numbers_toldn6)])) dX11_calm_138 ML_X11_177 Yv_X6_put rfl zW_3 rfl rfl (t_X6_put l _ hcl) (zsub_i (zle_c rfl zle_n) zle_n (zle_c rfl zle_n)) (zjok_i rfl rfl (zle_c rfl (zle_c rfl (zle_c rfl (zle_c rfl zle_n)))) rfl rfl (zle_c rfl (zle_c rfl (zle_c rfl (zle_c rfl (zle_c rfl (zle_c rfl (zle_c rfl zle_n))))))) rfl rfl (zle_c rfl zle_n)) (Nat.le_of_ble_eq_true rfl) (Nat.le_of_ble_eq_true rfl) rfl rfl ?_
        refine zJ_aload_n dX11_calm_141 rfl rfl ?_
        refine zJ_getr (mi := mX11_calm) dX11_calm_142 F_X11_19 zW_0 rfl rfl ?_
        refine zJ_iload dX11_calm_145 rfl rfl ?_
        refine zJ_i2l dX11_calm_147 rfl ?_
        obtain ⟨numbers_sizen7, numbers_toldn8, hcl, h⟩ := bd2_some h
        refine zJ_callV2 (σ := σ) (L := ([(193, numbers_sizen5), (323, course_fences), (326, course_horseCount), (769, course_rule_size)], [(6, course_kinds), (7, course_heights), (8, course_feet), (10, course_digits), (13, rule_codes), (15, rule_stack_46x), (16, rule_things_46x)], [(4, numbers_toldn6)])) (mi := mX11_calm) (yi := mX6_put) (as := [.long v6_46x.toInt64]) (st := []) (L2 := ([(193, numbers_sizen7), (323, course_fences), (326, course_horseCount), (769, course_rule_size)], [(6, course_kinds), (7, course_heights), (8, course_feet), (10, course_digits), (13, rule_codes), (15, rule_stack_46x), (16, rule_things_46x)], [(4, numbers_toldn8)])) dX11_calm_148 ML_X11_177 Yv_X6_put rfl zW_3 rfl rfl (t_X6_put l _ hcl) (zsub_i (zle_c rfl zle_n) zle_n (zle_c rfl zle_n)) (zjok_i rfl rfl (zle_c rfl (zle_c rfl (zle_c rfl (zle_c rfl zle_n)))) rfl rfl (zle_c rfl (zle_c rfl (zle_c rfl (zle_c rfl (zle_c rfl (zle_c rfl (zle_c rfl zle_n))))))) rfl rfl (zle_c rfl zle_n)) (Nat.le_of_ble_eq_true rfl) (Nat.le_of_ble_eq_true rfl) rfl rfl ?_
        refine zJ_iload dX11_calm_151 rfl rfl ?_
        obtain ⟨rfl, rfl, rfl, rfl, rfl⟩ := so5 h
        exact zJ_iret dX11_calm_153 rfl rfl
      refine zJ_loc (ls' := [(0, .ref 0), (1, .int p1), (2, .int p2), (3, .int rn3), (4, .int (0 : Int32)), (5, .int (0 : Int32)), (6, .int (0 : Int32)), (7, .int (0 : Int32))]) (zll_c rfl (zll_c rfl (zll_c rfl (zll_c rfl (zll_c rfl (zll_c rfl (zll_c rfl (zll_c rfl zll_n)))))))) ?_
      refine ml6_J (fun (v4_46 : Int32) (v5_46 : Int32) (v6_46 : Int32) (v7_46 : Int32) (rule_stack_46 : (Nat → Int32)) (rule_things_46 : (Nat → Int32)) => zJ l zW 4 mX11_calm σ ([(193, numbers_size), (323, course_fences), (326, course_horseCount), (769, course_rule_size)], [(6, course_kinds), (7, course_heights), (8, course_feet), (10, course_digits), (13, rule_codes), (15, rule_stack_46), (16, rule_things_46)], [(4, numbers_told)]) 46 [(0, .ref 0), (1, .int p1), (2, .int p2), (3, .int rn3), (4, .int v4_46), (5, .int v5_46), (6, .int v6_46), (7, .int v7_46)] [] (some (.int r)) ([(193, w_numbers_size), (323, course_fences), (326, course_horseCount), (769, course_rule_size)], [(6, course_kinds), (7, course_heights), (8, course_feet), (10, course_digits), (13, rule_codes), (15, w_rule_stack), (16, w_rule_things)], [(4, w_numbers_told)])) (fun rc46 hrc46 v4_46 v5_46 v6_46 v7_46 rule_stack_46 rule_things_46 h => ?_) zN _ _ _ _ _ _ h
      unfold s_X11_calm_46 at h
      refine zJ_iload dX11_calm_46 rfl rfl ?_
      refine zJ_bipush dX11_calm_48 zb_8 rfl ?_
      refine zJ_icmp_ge (tgt := 124) dX11_calm_50 (by decide) rfl (fun hc => ?_) (fun hc => ?_)
      · replace h := it_t hc h
        refine zJ_loc (ls' := [(0, .ref 0), (4, .int v4_46), (5, .int v5_46), (6, .int v6_46)]) (zll_c rfl (zll_c rfl (zll_c rfl (zll_c rfl zll_n)))) ?_
        exact hk46 _ _ _ _ _ h
      · replace h := it_f hc h
        refine zJ_aload_n dX11_calm_53 rfl rfl ?_
        refine zJ_getr (mi := mX11_calm) dX11_calm_54 F_X11_26 zW_0 rfl rfl ?_
        refine zJ_iload_n dX11_calm_57 rfl rfl ?_
        refine zJ_iload_n dX11_calm_58 rfl rfl ?_
        refine zJ_iload dX11_calm_59 rfl rfl ?_
        obtain ⟨rn9, rule_stackn10, rule_thingsn11, hcl, h⟩ := bd3_some h
        refine zJ_callV2 (σ := σ) (L := ([(193, numbers_size), (323, course_fences), (326, course_horseCount), (769, course_rule_size)], [(6, course_kinds), (7, course_heights), (8, course_feet), (10, course_digits), (13, rule_codes), (15, rule_stack_46), (16, rule_things_46)], [(4, numbers_told)])) (mi := mX11_calm) (yi := mX1_poleOdds) (as := [.int p1, .int p2, .int v7_46]) (st := []) (L2 := ([(193, numbers_size), (323, course_fences), (326, course_horseCount), (769, course_rule_size)], [(6, course_kinds), (7, course_heights), (8, course_feet), (10, course_digits), (13, rule_codes), (15, rule_stackn10), (16, rule_thingsn11)], [(4, numbers_told)])) dX11_calm_61 ML_X11_187 Yv_X1_poleOdds rfl zW_5 rfl rfl (t_X1_poleOdds l _ hcl) (zsub_i (zle_c rfl zle_n) (zle_c rfl (zle_c rfl (zle_c rfl (zle_c rfl (zle_c rfl (zle_c rfl (zle_c rfl zle_n))))))) zle_n) (zjok_i rfl rfl (zle_c rfl (zle_c rfl (zle_c rfl (zle_c rfl zle_n)))) rfl rfl (zle_c rfl (zle_c rfl (zle_c rfl (zle_c rfl (zle_c rfl (zle_c rfl (zle_c rfl zle_n))))))) rfl rfl (zle_c rfl zle_n)) (Nat.le_of_ble_eq_true rfl) (Nat.le_of_ble_eq_true rfl) rfl rfl ?_
        refine zJ_iload_n dX11_calm_64 rfl rfl ?_
        refine zJ_iadd dX11_calm_65 rfl ?_
        obtain ⟨v8n12, ev8n12, h⟩ := lt1_some h
        refine zJ_nmi ev8n12 ?_
        refine zJ_istore (ls' := [(8, .int v8n12), (0, .ref 0), (1, .int p1), (2, .int p2), (3, .int rn3), (4, .int v4_46), (5, .int v5_46), (6, .int v6_46), (7, .int v7_46)]) dX11_calm_66 rfl rfl rfl ?_
        refine zJ_aload_n dX11_calm_68 rfl rfl ?_
        refine zJ_getr (mi := mX11_calm) dX11_calm_69 F_X11_26 zW_0 rfl rfl ?_
        refine zJ_iload_n dX11_calm_72 rfl rfl ?_
        refine zJ_iload dX11_calm_73 rfl rfl ?_
        obtain ⟨rn13, hcl, h⟩ := bd1_some h
        refine zJ_callV2 (σ := σ) (L := ([(193, numbers_size), (323, course_fences), (326, course_horseCount), (769, course_rule_size)], [(6, course_kinds), (7, course_heights), (8, course_feet), (10, course_digits), (13, rule_codes), (15, rule_stackn10), (16, rule_thingsn11)], [(4, numbers_told)])) (mi := mX11_calm) (yi := mX1_fenceTenths) (as := [.int p2, .int v7_46]) (st := []) (L2 := ([(193, numbers_size), (323, course_fences), (326, course_horseCount), (769, course_rule_size)], [(6, course_kinds), (7, course_heights), (8, course_feet), (10, course_digits), (13, rule_codes), (15, rule_stackn10), (16, rule_thingsn11)], [(4, numbers_told)])) dX11_calm_75 ML_X11_181 Yv_X1_fenceTenths rfl zW_5 rfl rfl (t_X1_fenceTenths l _ hcl) (zsub_i zle_n (zle_c rfl (zle_c rfl zle_n)) zle_n) (zjok_i rfl rfl (zle_c rfl (zle_c rfl (zle_c rfl (zle_c rfl zle_n)))) rfl rfl (zle_c rfl (zle_c rfl (zle_c rfl (zle_c rfl (zle_c rfl (zle_c rfl (zle_c rfl zle_n))))))) rfl rfl (zle_c rfl zle_n)) (Nat.le_of_ble_eq_true rfl) (Nat.le_of_ble_eq_true rfl) rfl rfl ?_
        refine zJ_istore (ls' := [(9, .int rn13), (8, .int v8n12), (0, .ref 0), (1, .int p1), (2, .int p2), (3, .int rn3), (4, .int v4_46), (5, .int v5_46), (6, .int v6_46), (7, .int v7_46)]) dX11_calm_78 rfl rfl rfl ?_
        refine zJ_iload dX11_calm_80 rfl rfl ?_
        refine zJ_if_eq (tgt := 106) dX11_calm_82 (by decide) rfl (fun hc => ?_) (fun hc => ?_)
        · replace h := it_t hc h
          refine zJ_iload dX11_calm_106 rfl rfl ?_
          refine zJ_istore (ls' := [(4, .int v7_46), (9, .int rn13), (8, .int v8n12), (0, .ref 0), (1, .int p1), (2, .int p2), (3, .int rn3), (5, .int v5_46), (6, .int v6_46), (7, .int v7_46)]) dX11_calm_108 rfl rfl rfl ?_
          refine zJ_iload dX11_calm_110 rfl rfl ?_
          refine zJ_istore (ls' := [(5, .int v8n12), (4, .int v7_46), (9, .int rn13), (8, .int v8n12), (0, .ref 0), (1, .int p1), (2, .int p2), (3, .int rn3), (6, .int v6_46), (7, .int v7_46)]) dX11_calm_112 rfl rfl rfl ?_
          refine zJ_iload dX11_calm_114 rfl rfl ?_
          refine zJ_istore (ls' := [(6, .int rn13), (5, .int v8n12), (4, .int v7_46), (9, .int rn13), (8, .int v8n12), (0, .ref 0), (1, .int p1), (2, .int p2), (3, .int rn3), (7, .int v7_46)]) dX11_calm_116 rfl rfl rfl ?_
          obtain ⟨v7n14, ev7n14, h⟩ := lt1_some h
          refine zJ_iincN (ls' := [(7, .int v7n14), (6, .int rn13), (5, .int v8n12), (4, .int v7_46), (9, .int rn13), (8, .int v8n12), (0, .ref 0), (1, .int p1), (2, .int p2), (3, .int rn3)]) dX11_calm_118 rfl rfl zc_1 ev7n14 rfl rfl ?_
          refine zJ_goto (tgt := 46) dX11_calm_121 (by decide) ?_
          refine zJ_loc (ls' := [(0, .ref 0), (1, .int p1), (2, .int p2), (3, .int rn3), (4, .int v7_46), (5, .int v8n12), (6, .int rn13), (7, .int v7n14)]) (zll_c rfl (zll_c rfl (zll_c rfl (zll_c rfl (zll_c rfl (zll_c rfl (zll_c rfl (zll_c rfl zll_n)))))))) ?_
          exact hrc46 _ _ _ _ _ _ h
        · replace h := it_f hc h
          refine zJ_iload dX11_calm_85 rfl rfl ?_
          refine zJ_iload dX11_calm_87 rfl rfl ?_
          refine zJ_icmp_lt (tgt := 106) dX11_calm_89 (by decide) rfl (fun hc => ?_) (fun hc => ?_)
          · replace h := it_t hc h
            refine zJ_iload dX11_calm_106 rfl rfl ?_
            refine zJ_istore (ls' := [(4, .int v7_46), (9, .int rn13), (8, .int v8n12), (0, .ref 0), (1, .int p1), (2, .int p2), (3, .int rn3), (5, .int v5_46), (6, .int v6_46), (7, .int v7_46)]) dX11_calm_108 rfl rfl rfl ?_
            refine zJ_iload dX11_calm_110 rfl rfl ?_
            refine zJ_istore (ls' := [(5, .int v8n12), (4, .int v7_46), (9, .int rn13), (8, .int v8n12), (0, .ref 0), (1, .int p1), (2, .int p2), (3, .int rn3), (6, .int v6_46), (7, .int v7_46)]) dX11_calm_112 rfl rfl rfl ?_
            refine zJ_iload dX11_calm_114 rfl rfl ?_
            refine zJ_istore (ls' := [(6, .int rn13), (5, .int v8n12), (4, .int v7_46), (9, .int rn13), (8, .int v8n12), (0, .ref 0), (1, .int p1), (2, .int p2), (3, .int rn3), (7, .int v7_46)]) dX11_calm_116 rfl rfl rfl ?_
            obtain ⟨v7n15, ev7n15, h⟩ := lt1_some h
            refine zJ_iincN (ls' := [(7, .int v7n15), (6, .int rn13), (5, .int v8n12), (4, .int v7_46), (9, .int rn13), (8, .int v8n12), (0, .ref 0), (1, .int p1), (2, .int p2), (3, .int rn3)]) dX11_calm_118 rfl rfl zc_1 ev7n15 rfl rfl ?_
            refine zJ_goto (tgt := 46) dX11_calm_121 (by decide) ?_
            refine zJ_loc (ls' := [(0, .ref 0), (1, .int p1), (2, .int p2), (3, .int rn3), (4, .int v7_46), (5, .int v8n12), (6, .int rn13), (7, .int v7n15)]) (zll_c rfl (zll_c rfl (zll_c rfl (zll_c rfl (zll_c rfl (zll_c rfl (zll_c rfl (zll_c rfl zll_n)))))))) ?_
            exact hrc46 _ _ _ _ _ _ h
          · replace h := it_f hc h
            refine zJ_iload dX11_calm_92 rfl rfl ?_
            refine zJ_iload dX11_calm_94 rfl rfl ?_
            refine zJ_icmp_ne (tgt := 118) dX11_calm_96 (by decide) rfl (fun hc => ?_) (fun hc => ?_)
            · replace h := it_f hc h
              obtain ⟨v7n16, ev7n16, h⟩ := lt1_some h
              refine zJ_iincN (ls' := [(7, .int v7n16), (9, .int rn13), (8, .int v8n12), (0, .ref 0), (1, .int p1), (2, .int p2), (3, .int rn3), (4, .int v4_46), (5, .int v5_46), (6, .int v6_46)]) dX11_calm_118 rfl rfl zc_1 ev7n16 rfl rfl ?_
              refine zJ_goto (tgt := 46) dX11_calm_121 (by decide) ?_
              refine zJ_loc (ls' := [(0, .ref 0), (1, .int p1), (2, .int p2), (3, .int rn3), (4, .int v4_46), (5, .int v5_46), (6, .int v6_46), (7, .int v7n16)]) (zll_c rfl (zll_c rfl (zll_c rfl (zll_c rfl (zll_c rfl (zll_c rfl (zll_c rfl (zll_c rfl zll_n)))))))) ?_
              exact hrc46 _ _ _ _ _ _ h
            · replace h := it_t hc h
              refine zJ_iload dX11_calm_99 rfl rfl ?_
              refine zJ_iload dX11_calm_101 rfl rfl ?_
              refine zJ_icmp_ge (tgt := 118) dX11_calm_103 (by decide) rfl (fun hc => ?_) (fun hc => ?_)
              · replace h := it_t hc h
                obtain ⟨v7n17, ev7n17, h⟩ := lt1_some h
                refine zJ_iincN (ls' := [(7, .int v7n17), (9, .int rn13), (8, .int v8n12), (0, .ref 0), (1, .int p1), (2, .int p2), (3, .int rn3), (4, .int v4_46), (5, .int v5_46), (6, .int v6_46)]) dX11_calm_118 rfl rfl zc_1 ev7n17 rfl rfl ?_
                refine zJ_goto (tgt := 46) dX11_calm_121 (by decide) ?_
                refine zJ_loc (ls' := [(0, .ref 0), (1, .int p1), (2, .int p2), (3, .int rn3), (4, .int v4_46), (5, .int v5_46), (6, .int v6_46), (7, .int v7n17)]) (zll_c rfl (zll_c rfl (zll_c rfl (zll_c rfl (zll_c rfl (zll_c rfl (zll_c rfl (zll_c rfl zll_n)))))))) ?_
                exact hrc46 _ _ _ _ _ _ h
              · replace h := it_f hc h
                refine zJ_iload dX11_calm_106 rfl rfl ?_
                refine zJ_istore (ls' := [(4, .int v7_46), (9, .int rn13), (8, .int v8n12), (0, .ref 0), (1, .int p1), (2, .int p2), (3, .int rn3), (5, .int v5_46), (6, .int v6_46), (7, .int v7_46)]) dX11_calm_108 rfl rfl rfl ?_
                refine zJ_iload dX11_calm_110 rfl rfl ?_
                refine zJ_istore (ls' := [(5, .int v8n12), (4, .int v7_46), (9, .int rn13), (8, .int v8n12), (0, .ref 0), (1, .int p1), (2, .int p2), (3, .int rn3), (6, .int v6_46), (7, .int v7_46)]) dX11_calm_112 rfl rfl rfl ?_
                refine zJ_iload dX11_calm_114 rfl rfl ?_
                refine zJ_istore (ls' := [(6, .int rn13), (5, .int v8n12), (4, .int v7_46), (9, .int rn13), (8, .int v8n12), (0, .ref 0), (1, .int p1), (2, .int p2), (3, .int rn3), (7, .int v7_46)]) dX11_calm_116 rfl rfl rfl ?_
                obtain ⟨v7n18, ev7n18, h⟩ := lt1_some h
                refine zJ_iincN (ls' := [(7, .int v7n18), (6, .int rn13), (5, .int v8n12), (4, .int v7_46), (9, .int rn13), (8, .int v8n12), (0, .ref 0), (1, .int p1), (2, .int p2), (3, .int rn3)]) dX11_calm_118 rfl rfl zc_1 ev7n18 rfl rfl ?_
                refine zJ_goto (tgt := 46) dX11_calm_121 (by decide) ?_
                refine zJ_loc (ls' := [(0, .ref 0), (1, .int p1), (2, .int p2), (3, .int rn3), (4, .int v7_46), (5, .int v8n12), (6, .int rn13), (7, .int v7n18)]) (zll_c rfl (zll_c rfl (zll_c rfl (zll_c rfl (zll_c rfl (zll_c rfl (zll_c rfl (zll_c rfl zll_n)))))))) ?_
                exact hrc46 _ _ _ _ _ _ h
    · replace h := it_t hc h
      refine zJ_iconst dX11_calm_22 zc_m1 rfl ?_
      obtain ⟨rfl, rfl, rfl, rfl, rfl⟩ := so5 h
      exact zJ_iret dX11_calm_23 rfl rfl
set_option maxRecDepth 100000 in
set_option maxHeartbeats 4000000 in
theorem t_X11_count (l : Launch) (σ : zS) {p1 : Int32} {text_size : Int32} {numbers_size : Int32} {course_fences : Int32} {course_horseCount : Int32} {course_planCount : Int32} {course_allowed : Int32} {rounds_size : Int32} {history_count : Int32} {rounds_money : (Nat → Int32)} {r : Int32} (h : f_X11_count p1 text_size numbers_size course_fences course_horseCount course_planCount course_allowed rounds_size history_count rounds_money = some r) : zMt l zW 1 mX11_count σ ([(65, text_size), (193, numbers_size), (323, course_fences), (326, course_horseCount), (328, course_planCount), (329, course_allowed), (1284, rounds_size), (1731, history_count)], [(25, rounds_money)], []) [.ref 0, .int p1] (some (.int r)) ([(65, text_size), (193, numbers_size), (323, course_fences), (326, course_horseCount), (328, course_planCount), (329, course_allowed), (1284, rounds_size), (1731, history_count)], [(25, rounds_money)], []) := by
  refine zMt_of (ls := [(0, .ref 0), (1, .int p1)]) (by decide) rfl (fun _ => Nat.le_of_ble_eq_true rfl) rfl ?_
  unfold f_X11_count at h
  refine zJ_iload_n dX11_count_0 rfl rfl ?_
  by_cases hc0 : p1 = (0 : Int32)
  · replace h := it_t hc0 h
    refine zJ_tswI (tgt := 52) (off := 51) dX11_count_1 0 (by rw [hc0]; decide) (by decide) (by decide) rfl (by decide) ?_
    refine zJ_aload_n dX11_count_52 rfl rfl ?_
    refine zJ_getr (mi := mX11_count) dX11_count_53 F_X11_26 zW_0 rfl rfl ?_
    refine zJ_geti (mi := mX11_count) (x := course_fences) dX11_count_56 F_X11_157 zW_5 rfl rfl rfl ?_
    obtain rfl := so1 h
    exact zJ_iret dX11_count_59 rfl rfl
  replace h := it_f hc0 h
  by_cases hc1 : p1 = (1 : Int32)
  · replace h := it_t hc1 h
    refine zJ_tswI (tgt := 60) (off := 59) dX11_count_1 1 (by rw [hc1]; decide) (by decide) (by decide) rfl (by decide) ?_
    refine zJ_aload_n dX11_count_60 rfl rfl ?_
    refine zJ_getr (mi := mX11_count) dX11_count_61 F_X11_26 zW_0 rfl rfl ?_
    refine zJ_geti (mi := mX11_count) (x := course_horseCount) dX11_count_64 F_X11_368 zW_5 rfl rfl rfl ?_
    obtain rfl := so1 h
    exact zJ_iret dX11_count_67 rfl rfl
  replace h := it_f hc1 h
  by_cases hc2 : p1 = (2 : Int32)
  · replace h := it_t hc2 h
    refine zJ_tswI (tgt := 68) (off := 67) dX11_count_1 2 (by rw [hc2]; decide) (by decide) (by decide) rfl (by decide) ?_
    refine zJ_aload_n dX11_count_68 rfl rfl ?_
    refine zJ_getr (mi := mX11_count) dX11_count_69 F_X11_26 zW_0 rfl rfl ?_
    refine zJ_geti (mi := mX11_count) (x := course_planCount) dX11_count_72 F_X11_362 zW_5 rfl rfl rfl ?_
    obtain rfl := so1 h
    exact zJ_iret dX11_count_75 rfl rfl
  replace h := it_f hc2 h
  by_cases hc3 : p1 = (3 : Int32)
  · replace h := it_t hc3 h
    refine zJ_tswI (tgt := 76) (off := 75) dX11_count_1 3 (by rw [hc3]; decide) (by decide) (by decide) rfl (by decide) ?_
    refine zJ_aload_n dX11_count_76 rfl rfl ?_
    refine zJ_getr (mi := mX11_count) dX11_count_77 F_X11_33 zW_0 rfl rfl ?_
    refine zJ_geti (mi := mX11_count) (x := rounds_size) dX11_count_80 F_X11_107 zW_20 rfl rfl rfl ?_
    obtain rfl := so1 h
    exact zJ_iret dX11_count_83 rfl rfl
  replace h := it_f hc3 h
  by_cases hc4 : p1 = (4 : Int32)
  · replace h := it_t hc4 h
    refine zJ_tswI (tgt := 84) (off := 83) dX11_count_1 4 (by rw [hc4]; decide) (by decide) (by decide) rfl (by decide) ?_
    refine zJ_aload_n dX11_count_84 rfl rfl ?_
    refine zJ_getr (mi := mX11_count) dX11_count_85 F_X11_26 zW_0 rfl rfl ?_
    refine zJ_geti (mi := mX11_count) (x := course_allowed) dX11_count_88 F_X11_154 zW_5 rfl rfl rfl ?_
    obtain rfl := so1 h
    exact zJ_iret dX11_count_91 rfl rfl
  replace h := it_f hc4 h
  by_cases hc5 : p1 = (5 : Int32)
  · replace h := it_t hc5 h
    refine zJ_tswI (tgt := 92) (off := 91) dX11_count_1 5 (by rw [hc5]; decide) (by decide) (by decide) rfl (by decide) ?_
    refine zJ_aload_n dX11_count_92 rfl rfl ?_
    refine zJ_getr (mi := mX11_count) dX11_count_93 F_X11_42 zW_0 rfl rfl ?_
    refine zJ_geti (mi := mX11_count) (x := history_count) dX11_count_96 F_X11_448 zW_27 rfl rfl rfl ?_
    obtain rfl := so1 h
    exact zJ_iret dX11_count_99 rfl rfl
  replace h := it_f hc5 h
  by_cases hc6 : p1 = (6 : Int32)
  · replace h := it_t hc6 h
    refine zJ_tswI (tgt := 100) (off := 99) dX11_count_1 6 (by rw [hc6]; decide) (by decide) (by decide) rfl (by decide) ?_
    refine zJ_aload_n dX11_count_100 rfl rfl ?_
    refine zJ_getr (mi := mX11_count) dX11_count_101 F_X11_19 zW_0 rfl rfl ?_
    refine zJ_geti (mi := mX11_count) (x := numbers_size) dX11_count_104 F_X11_451 zW_3 rfl rfl rfl ?_
    obtain rfl := so1 h
    exact zJ_iret dX11_count_107 rfl rfl
  replace h := it_f hc6 h
  by_cases hc7 : p1 = (7 : Int32)
  · replace h := it_t hc7 h
    refine zJ_tswI (tgt := 108) (off := 107) dX11_count_1 7 (by rw [hc7]; decide) (by decide) (by decide) rfl (by decide) ?_
    refine zJ_aload_n dX11_count_108 rfl rfl ?_
    refine zJ_getr (mi := mX11_count) dX11_count_109 F_X11_10 zW_0 rfl rfl ?_
    refine zJ_geti (mi := mX11_count) (x := text_size) dX11_count_112 F_X11_452 zW_1 rfl rfl rfl ?_
    obtain rfl := so1 h
    exact zJ_iret dX11_count_115 rfl rfl
  replace h := it_f hc7 h
  by_cases hc8 : p1 = (8 : Int32)
  · replace h := it_t hc8 h
    refine zJ_tswI (tgt := 116) (off := 115) dX11_count_1 8 (by rw [hc8]; decide) (by decide) (by decide) rfl (by decide) ?_
    refine zJ_aload_n dX11_count_116 rfl rfl ?_
    refine zJ_getr (mi := mX11_count) dX11_count_117 F_X11_33 zW_0 rfl rfl ?_
    obtain ⟨rn1, hcl, h⟩ := bd1_some h
    refine zJ_callV2 (σ := σ) (L := ([(65, text_size), (193, numbers_size), (323, course_fences), (326, course_horseCount), (328, course_planCount), (329, course_allowed), (1284, rounds_size), (1731, history_count)], [(25, rounds_money)], [])) (mi := mX11_count) (yi := mX10_moneyInAll) (as := []) (st := []) (L2 := ([(65, text_size), (193, numbers_size), (323, course_fences), (326, course_horseCount), (328, course_planCount), (329, course_allowed), (1284, rounds_size), (1731, history_count)], [(25, rounds_money)], [])) dX11_count_120 ML_X11_453 Yv_X10_moneyInAll rfl zW_20 rfl rfl (t_X10_moneyInAll l _ hcl) (zsub_i zle_n (zle_c rfl zle_n) zle_n) (zjok_i rfl rfl (zle_c rfl (zle_c rfl (zle_c rfl (zle_c rfl (zle_c rfl (zle_c rfl (zle_c rfl (zle_c rfl zle_n)))))))) rfl rfl (zle_c rfl zle_n) rfl rfl zle_n) (Nat.le_of_ble_eq_true rfl) (Nat.le_of_ble_eq_true rfl) rfl rfl ?_
    obtain rfl := so1 h
    exact zJ_iret dX11_count_123 rfl rfl
  replace h := it_f hc8 h
  have hq0 := z_ne (n := 0) hc0 (by decide)
  have hq1 := z_ne (n := 1) hc1 (by decide)
  have hq2 := z_ne (n := 2) hc2 (by decide)
  have hq3 := z_ne (n := 3) hc3 (by decide)
  have hq4 := z_ne (n := 4) hc4 (by decide)
  have hq5 := z_ne (n := 5) hc5 (by decide)
  have hq6 := z_ne (n := 6) hc6 (by decide)
  have hq7 := z_ne (n := 7) hc7 (by decide)
  have hq8 := z_ne (n := 8) hc8 (by decide)
  refine zJ_tswO (tgt := 124) dX11_count_1 (by omega) (by decide) ?_
  refine zJ_iconst dX11_count_124 zc_m1 rfl ?_
  obtain rfl := so1 h
  exact zJ_iret dX11_count_125 rfl rfl
set_option maxRecDepth 100000 in
set_option maxHeartbeats 4000000 in
theorem t_X4_from (l : Launch) (σ : zS) {p0 : Int32} {r : Int32} (h : f_X4_from p0 = some r) : zMt l zW 0 mX4_from σ ([], [], []) [.int p0] (some (.int r)) ([], [], []) := by
  refine zMt_of (ls := [(0, .int p0)]) (by decide) rfl (fun _ => Nat.le_of_ble_eq_true rfl) rfl ?_
  unfold f_X4_from at h
  refine zJ_sipush dX4_from_0 zs_150 rfl ?_
  refine zJ_iload_n dX4_from_3 rfl rfl ?_
  refine zJ_imul dX4_from_4 rfl ?_
  refine zJ_iload_n dX4_from_5 rfl rfl ?_
  refine zJ_iconst dX4_from_6 zc_1 rfl ?_
  refine zJ_isub dX4_from_7 rfl ?_
  refine zJ_imul dX4_from_8 rfl ?_
  refine zJ_iconst dX4_from_9 zc_2 rfl ?_
  refine zJ_idiv dX4_from_10 (by decide) rfl ?_
  refine zJ_iload_n dX4_from_11 rfl rfl ?_
  refine zJ_iadd dX4_from_12 rfl ?_
  obtain rfl := so1 h
  exact zJ_iret dX4_from_13 rfl rfl
set_option maxRecDepth 100000 in
set_option maxHeartbeats 4000000 in
theorem t_X4_fearWith (l : Launch) (σ : zS) {p1 : Int32} {letters_fences : Int32} {letters_least : (Nat → Int32)} {letters_spans : (Nat → Int32)} {r : Int32} (h : f_X4_fearWith p1 letters_fences letters_least letters_spans = some r) : zMt l zW 1 mX4_fearWith σ ([(2180, letters_fences)], [(37, letters_least), (38, letters_spans)], []) [.ref 34, .int p1] (some (.int r)) ([(2180, letters_fences)], [(37, letters_least), (38, letters_spans)], []) := by
  refine zMt_of (ls := [(0, .ref 34), (1, .int p1)]) (by decide) rfl (fun _ => Nat.le_of_ble_eq_true rfl) rfl ?_
  unfold f_X4_fearWith at h
  refine zJ_iload_n dX4_fearWith_0 rfl rfl ?_
  refine zJ_if_lt (tgt := 34) dX4_fearWith_1 (by decide) rfl (fun hc => ?_) (fun hc => ?_)
  · replace h := it_t hc h
    refine zJ_iconst dX4_fearWith_34 zc_m1 rfl ?_
    obtain rfl := so1 h
    exact zJ_iret dX4_fearWith_35 rfl rfl
  · replace h := it_f hc h
    refine zJ_iload_n dX4_fearWith_4 rfl rfl ?_
    refine zJ_aload_n dX4_fearWith_5 rfl rfl ?_
    refine zJ_getr (mi := mX4_fearWith) dX4_fearWith_6 F_X4_21 zW_34 rfl rfl ?_
    refine zJ_aload_n dX4_fearWith_9 rfl rfl ?_
    refine zJ_geti (mi := mX4_fearWith) (x := letters_fences) dX4_fearWith_10 F_X4_30 zW_34 rfl rfl rfl ?_
    obtain ⟨hg, h⟩ := gd_some h
    refine zJ_iald (mi := mX4_fearWith) (f := letters_spans) dX4_fearWith_13 zW_38 (ix_in hg) rfl rfl ?_
    refine zJ_icmp_gt (tgt := 34) dX4_fearWith_14 (by decide) rfl (fun hc => ?_) (fun hc => ?_)
    · replace h := it_t hc h
      refine zJ_iconst dX4_fearWith_34 zc_m1 rfl ?_
      obtain rfl := so1 h
      exact zJ_iret dX4_fearWith_35 rfl rfl
    · replace h := it_f hc h
      refine zJ_aload_n dX4_fearWith_17 rfl rfl ?_
      refine zJ_getr (mi := mX4_fearWith) dX4_fearWith_18 F_X4_18 zW_34 rfl rfl ?_
      refine zJ_aload_n dX4_fearWith_21 rfl rfl ?_
      refine zJ_geti (mi := mX4_fearWith) (x := letters_fences) dX4_fearWith_22 F_X4_30 zW_34 rfl rfl rfl ?_
      obtain ⟨rn1, hcl, h⟩ := bd1_some h
      refine zJ_callS2 (σ := σ) (L := ([(2180, letters_fences)], [(37, letters_least), (38, letters_spans)], [])) (mi := mX4_fearWith) (yi := mX4_from) (as := [.int letters_fences]) (st := [.ref 37]) (L2 := ([(2180, letters_fences)], [(37, letters_least), (38, letters_spans)], [])) dX4_fearWith_25 ML_X4_42 Ys_X4_from rfl (t_X4_from l _ hcl) (zsub_i zle_n zle_n zle_n) (zjok_i rfl rfl (zle_c rfl zle_n) rfl rfl (zle_c rfl (zle_c rfl zle_n)) rfl rfl zle_n) (Nat.le_of_ble_eq_true rfl) (Nat.le_of_ble_eq_true rfl) rfl rfl ?_
      refine zJ_iload_n dX4_fearWith_28 rfl rfl ?_
      refine zJ_iadd dX4_fearWith_29 rfl ?_
      obtain ⟨hg, h⟩ := gd_some h
      refine zJ_iald (mi := mX4_fearWith) (f := letters_least) dX4_fearWith_30 zW_37 (ix_in hg) rfl rfl ?_
      refine zJ_goto (tgt := 35) dX4_fearWith_31 (by decide) ?_
      obtain rfl := so1 h
      exact zJ_iret dX4_fearWith_35 rfl rfl
set_option maxRecDepth 100000 in
set_option maxHeartbeats 4000000 in
theorem t_X4_calmestTenths (l : Launch) (σ : zS) {p1 : Int32} {letters_fences : Int32} {letters_least : (Nat → Int32)} {letters_spans : (Nat → Int32)} {r : Int32} (h : f_X4_calmestTenths p1 letters_fences letters_least letters_spans = some r) : zMt l zW 2 mX4_calmestTenths σ ([(2180, letters_fences)], [(37, letters_least), (38, letters_spans)], []) [.ref 34, .int p1] (some (.int r)) ([(2180, letters_fences)], [(37, letters_least), (38, letters_spans)], []) := by
  refine zMt_of (ls := [(0, .ref 34), (1, .int p1)]) (by decide) rfl (fun _ => Nat.le_of_ble_eq_true rfl) rfl ?_
  unfold f_X4_calmestTenths at h
  refine zJ_iconst dX4_calmestTenths_0 zc_m1 rfl ?_
  refine zJ_istore_n (ls' := [(2, .int (-1 : Int32)), (0, .ref 34), (1, .int p1)]) dX4_calmestTenths_1 rfl rfl rfl ?_
  refine zJ_iconst dX4_calmestTenths_2 zc_0 rfl ?_
  refine zJ_istore_n (ls' := [(3, .int (0 : Int32)), (2, .int (-1 : Int32)), (0, .ref 34), (1, .int p1)]) dX4_calmestTenths_3 rfl rfl rfl ?_
  have hk4 : ∀ (v2_4x : Int32), k_X4_calmestTenths_4  v2_4x = some r → zJ l zW 2 mX4_calmestTenths σ ([(2180, letters_fences)], [(37, letters_least), (38, letters_spans)], []) 56 [(2, .int v2_4x)] [] (some (.int r)) ([(2180, letters_fences)], [(37, letters_least), (38, letters_spans)], []) := by
    intro v2_4x h
    unfold k_X4_calmestTenths_4 at h
    refine zJ_iload_n dX4_calmestTenths_56 rfl rfl ?_
    obtain rfl := so1 h
    exact zJ_iret dX4_calmestTenths_57 rfl rfl
  refine zJ_loc (ls' := [(0, .ref 34), (1, .int p1), (2, .int (-1 : Int32)), (3, .int (0 : Int32))]) (zll_c rfl (zll_c rfl (zll_c rfl (zll_c rfl zll_n)))) ?_
  refine ml2_J (fun (v2_4 : Int32) (v3_4 : Int32) => zJ l zW 2 mX4_calmestTenths σ ([(2180, letters_fences)], [(37, letters_least), (38, letters_spans)], []) 4 [(0, .ref 34), (1, .int p1), (2, .int v2_4), (3, .int v3_4)] [] (some (.int r)) ([(2180, letters_fences)], [(37, letters_least), (38, letters_spans)], [])) (fun rc4 hrc4 v2_4 v3_4 h => ?_) zN _ _ h
  unfold s_X4_calmestTenths_4 at h
  refine zJ_iload_n dX4_calmestTenths_4 rfl rfl ?_
  refine zJ_iload_n dX4_calmestTenths_5 rfl rfl ?_
  refine zJ_aload_n dX4_calmestTenths_6 rfl rfl ?_
  refine zJ_getr (mi := mX4_calmestTenths) dX4_calmestTenths_7 F_X4_21 zW_34 rfl rfl ?_
  refine zJ_aload_n dX4_calmestTenths_10 rfl rfl ?_
  refine zJ_geti (mi := mX4_calmestTenths) (x := letters_fences) dX4_calmestTenths_11 F_X4_30 zW_34 rfl rfl rfl ?_
  obtain ⟨hg, h⟩ := gd_some h
  refine zJ_iald (mi := mX4_calmestTenths) (f := letters_spans) dX4_calmestTenths_14 zW_38 (ix_in hg) rfl rfl ?_
  refine zJ_mmin (mi := mX4_calmestTenths) dX4_calmestTenths_15 L_X4_55 K_min_s K_math K_min_c (Nat.le_of_ble_eq_true rfl) (Nat.le_of_ble_eq_true rfl) rfl ?_
  refine zJ_icmp_gt (tgt := 56) dX4_calmestTenths_18 (by decide) rfl (fun hc => ?_) (fun hc => ?_)
  · replace h := it_t hc h
    refine zJ_loc (ls' := [(2, .int v2_4)]) (zll_c rfl zll_n) ?_
    exact hk4 _ h
  · replace h := it_f hc h
    refine zJ_aload_n dX4_calmestTenths_21 rfl rfl ?_
    refine zJ_iload_n dX4_calmestTenths_22 rfl rfl ?_
    obtain ⟨rn1, hcl, h⟩ := bd1_some h
    refine zJ_callV2 (σ := σ) (L := ([(2180, letters_fences)], [(37, letters_least), (38, letters_spans)], [])) (mi := mX4_calmestTenths) (yi := mX4_fearWith) (as := [.int v3_4]) (st := []) (L2 := ([(2180, letters_fences)], [(37, letters_least), (38, letters_spans)], [])) dX4_calmestTenths_23 ML_X4_58 Yv_X4_fearWith rfl zW_34 rfl rfl (t_X4_fearWith l _ hcl) (zsub_i (zle_c rfl zle_n) (zle_c rfl (zle_c rfl zle_n)) zle_n) (zjok_i rfl rfl (zle_c rfl zle_n) rfl rfl (zle_c rfl (zle_c rfl zle_n)) rfl rfl zle_n) (Nat.le_of_ble_eq_true rfl) (Nat.le_of_ble_eq_true rfl) rfl rfl ?_
    refine zJ_iconst dX4_calmestTenths_26 zc_m1 rfl ?_
    refine zJ_icmp_eq (tgt := 50) dX4_calmestTenths_27 (by decide) rfl (fun hc => ?_) (fun hc => ?_)
    · replace h := it_t hc h
      obtain ⟨v3n2, ev3n2, h⟩ := lt1_some h
      refine zJ_iincN (ls' := [(3, .int v3n2), (0, .ref 34), (1, .int p1), (2, .int v2_4)]) dX4_calmestTenths_50 rfl rfl zc_1 ev3n2 rfl rfl ?_
      refine zJ_goto (tgt := 4) dX4_calmestTenths_53 (by decide) ?_
      refine zJ_loc (ls' := [(0, .ref 34), (1, .int p1), (2, .int v2_4), (3, .int v3n2)]) (zll_c rfl (zll_c rfl (zll_c rfl (zll_c rfl zll_n)))) ?_
      exact hrc4 _ _ h
    · replace h := it_f hc h
      refine zJ_iload_n dX4_calmestTenths_30 rfl rfl ?_
      refine zJ_iconst dX4_calmestTenths_31 zc_m1 rfl ?_
      refine zJ_icmp_eq (tgt := 48) dX4_calmestTenths_32 (by decide) rfl (fun hc => ?_) (fun hc => ?_)
      · replace h := it_t hc h
        refine zJ_iload_n dX4_calmestTenths_48 rfl rfl ?_
        refine zJ_istore_n (ls' := [(2, .int v3_4), (0, .ref 34), (1, .int p1), (3, .int v3_4)]) dX4_calmestTenths_49 rfl rfl rfl ?_
        obtain ⟨v3n3, ev3n3, h⟩ := lt1_some h
        refine zJ_iincN (ls' := [(3, .int v3n3), (2, .int v3_4), (0, .ref 34), (1, .int p1)]) dX4_calmestTenths_50 rfl rfl zc_1 ev3n3 rfl rfl ?_
        refine zJ_goto (tgt := 4) dX4_calmestTenths_53 (by decide) ?_
        refine zJ_loc (ls' := [(0, .ref 34), (1, .int p1), (2, .int v3_4), (3, .int v3n3)]) (zll_c rfl (zll_c rfl (zll_c rfl (zll_c rfl zll_n)))) ?_
        exact hrc4 _ _ h
      · replace h := it_f hc h
        refine zJ_aload_n dX4_calmestTenths_35 rfl rfl ?_
        refine zJ_iload_n dX4_calmestTenths_36 rfl rfl ?_
        obtain ⟨rn4, hcl, h⟩ := bd1_some h
        refine zJ_callV2 (σ := σ) (L := ([(2180, letters_fences)], [(37, letters_least), (38, letters_spans)], [])) (mi := mX4_calmestTenths) (yi := mX4_fearWith) (as := [.int v3_4]) (st := []) (L2 := ([(2180, letters_fences)], [(37, letters_least), (38, letters_spans)], [])) dX4_calmestTenths_37 ML_X4_58 Yv_X4_fearWith rfl zW_34 rfl rfl (t_X4_fearWith l _ hcl) (zsub_i (zle_c rfl zle_n) (zle_c rfl (zle_c rfl zle_n)) zle_n) (zjok_i rfl rfl (zle_c rfl zle_n) rfl rfl (zle_c rfl (zle_c rfl zle_n)) rfl rfl zle_n) (Nat.le_of_ble_eq_true rfl) (Nat.le_of_ble_eq_true rfl) rfl rfl ?_
        refine zJ_aload_n dX4_calmestTenths_40 rfl rfl ?_
        refine zJ_iload_n dX4_calmestTenths_41 rfl rfl ?_
        obtain ⟨rn5, hcl, h⟩ := bd1_some h
        refine zJ_callV2 (σ := σ) (L := ([(2180, letters_fences)], [(37, letters_least), (38, letters_spans)], [])) (mi := mX4_calmestTenths) (yi := mX4_fearWith) (as := [.int v2_4]) (st := [.int rn4]) (L2 := ([(2180, letters_fences)], [(37, letters_least), (38, letters_spans)], [])) dX4_calmestTenths_42 ML_X4_58 Yv_X4_fearWith rfl zW_34 rfl rfl (t_X4_fearWith l _ hcl) (zsub_i (zle_c rfl zle_n) (zle_c rfl (zle_c rfl zle_n)) zle_n) (zjok_i rfl rfl (zle_c rfl zle_n) rfl rfl (zle_c rfl (zle_c rfl zle_n)) rfl rfl zle_n) (Nat.le_of_ble_eq_true rfl) (Nat.le_of_ble_eq_true rfl) rfl rfl ?_
        refine zJ_icmp_ge (tgt := 50) dX4_calmestTenths_45 (by decide) rfl (fun hc => ?_) (fun hc => ?_)
        · replace h := it_t hc h
          obtain ⟨v3n6, ev3n6, h⟩ := lt1_some h
          refine zJ_iincN (ls' := [(3, .int v3n6), (0, .ref 34), (1, .int p1), (2, .int v2_4)]) dX4_calmestTenths_50 rfl rfl zc_1 ev3n6 rfl rfl ?_
          refine zJ_goto (tgt := 4) dX4_calmestTenths_53 (by decide) ?_
          refine zJ_loc (ls' := [(0, .ref 34), (1, .int p1), (2, .int v2_4), (3, .int v3n6)]) (zll_c rfl (zll_c rfl (zll_c rfl (zll_c rfl zll_n)))) ?_
          exact hrc4 _ _ h
        · replace h := it_f hc h
          refine zJ_iload_n dX4_calmestTenths_48 rfl rfl ?_
          refine zJ_istore_n (ls' := [(2, .int v3_4), (0, .ref 34), (1, .int p1), (3, .int v3_4)]) dX4_calmestTenths_49 rfl rfl rfl ?_
          obtain ⟨v3n7, ev3n7, h⟩ := lt1_some h
          refine zJ_iincN (ls' := [(3, .int v3n7), (2, .int v3_4), (0, .ref 34), (1, .int p1)]) dX4_calmestTenths_50 rfl rfl zc_1 ev3n7 rfl rfl ?_
          refine zJ_goto (tgt := 4) dX4_calmestTenths_53 (by decide) ?_
          refine zJ_loc (ls' := [(0, .ref 34), (1, .int p1), (2, .int v3_4), (3, .int v3n7)]) (zll_c rfl (zll_c rfl (zll_c rfl (zll_c rfl zll_n)))) ?_
          exact hrc4 _ _ h
set_option maxRecDepth 100000 in
set_option maxHeartbeats 4000000 in
theorem t_X4_layBehind (l : Launch) (σ : zS) {p1 : Int32} {letters_fences : Int32} {letters_fears : (Nat → Int32)} {letters_tenths : (Nat → Int32)} {letters_least : (Nat → Int32)} {letters_spans : (Nat → Int32)} {w_letters_least : (Nat → Int32)} {w_letters_spans : (Nat → Int32)} (h : f_X4_layBehind p1 letters_fences letters_fears letters_tenths letters_least letters_spans = some (w_letters_least, w_letters_spans)) : zMt l zW 1 mX4_layBehind σ ([(2180, letters_fences)], [(35, letters_fears), (36, letters_tenths), (37, letters_least), (38, letters_spans)], []) [.ref 34, .int p1] none ([(2180, letters_fences)], [(35, letters_fears), (36, letters_tenths), (37, w_letters_least), (38, w_letters_spans)], []) := by
  refine zMt_of (ls := [(0, .ref 34), (1, .int p1)]) (by decide) rfl (fun _ => Nat.le_of_ble_eq_true rfl) rfl ?_
  unfold f_X4_layBehind at h
  refine zJ_aload_n dX4_layBehind_0 rfl rfl ?_
  refine zJ_geti (mi := mX4_layBehind) (x := letters_fences) dX4_layBehind_1 F_X4_30 zW_34 rfl rfl rfl ?_
  refine zJ_iload_n dX4_layBehind_4 rfl rfl ?_
  refine zJ_isub dX4_layBehind_5 rfl ?_
  refine zJ_bipush dX4_layBehind_6 zb_8 rfl ?_
  refine zJ_imul dX4_layBehind_8 rfl ?_
  obtain ⟨v2n1, ev2n1, h⟩ := lt1_some h
  refine zJ_nmi ev2n1 ?_
  refine zJ_istore_n (ls' := [(2, .int v2n1), (0, .ref 34), (1, .int p1)]) dX4_layBehind_9 rfl rfl rfl ?_
  refine zJ_iconst dX4_layBehind_10 zc_0 rfl ?_
  refine zJ_istore_n (ls' := [(3, .int (0 : Int32)), (2, .int v2n1), (0, .ref 34), (1, .int p1)]) dX4_layBehind_11 rfl rfl rfl ?_
  refine zJ_iconst dX4_layBehind_12 zc_0 rfl ?_
  refine zJ_istore (ls' := [(4, .int (0 : Int32)), (3, .int (0 : Int32)), (2, .int v2n1), (0, .ref 34), (1, .int p1)]) dX4_layBehind_13 rfl rfl rfl ?_
  have hk15 : ∀ (v3_15x : Int32), k_X4_layBehind_15 p1 letters_fears letters_tenths letters_least letters_spans v2n1 v3_15x = some (w_letters_least, w_letters_spans) → zJ l zW 1 mX4_layBehind σ ([(2180, letters_fences)], [(35, letters_fears), (36, letters_tenths), (37, letters_least), (38, letters_spans)], []) 42 [(0, .ref 34), (1, .int p1), (2, .int v2n1), (3, .int v3_15x)] [] none ([(2180, letters_fences)], [(35, letters_fears), (36, letters_tenths), (37, w_letters_least), (38, w_letters_spans)], []) := by
    intro v3_15x h
    unfold k_X4_layBehind_15 at h
    refine zJ_aload_n dX4_layBehind_42 rfl rfl ?_
    refine zJ_getr (mi := mX4_layBehind) dX4_layBehind_43 F_X4_21 zW_34 rfl rfl ?_
    refine zJ_iload_n dX4_layBehind_46 rfl rfl ?_
    refine zJ_aload_n dX4_layBehind_47 rfl rfl ?_
    refine zJ_getr (mi := mX4_layBehind) dX4_layBehind_48 F_X4_21 zW_34 rfl rfl ?_
    refine zJ_iload_n dX4_layBehind_51 rfl rfl ?_
    refine zJ_iconst dX4_layBehind_52 zc_1 rfl ?_
    refine zJ_isub dX4_layBehind_53 rfl ?_
    obtain ⟨hg, h⟩ := gd_some h
    refine zJ_iald (mi := mX4_layBehind) (f := letters_spans) dX4_layBehind_54 zW_38 (ix_in hg) rfl rfl ?_
    refine zJ_iload_n dX4_layBehind_55 rfl rfl ?_
    refine zJ_iadd dX4_layBehind_56 rfl ?_
    obtain ⟨hg, h⟩ := gd_some h
    refine zK_iast (mi := mX4_layBehind) (f := letters_spans) (lb' := [(35, letters_fears), (36, letters_tenths), (37, letters_least), (38, (upd letters_spans p1.toNatClampNeg ((letters_spans (p1 - (1 : Int32)).toNatClampNeg) + v3_15x)))]) dX4_layBehind_57 zW_38 (ix_in hg) rfl rfl rfl ?_
    refine zJ_iload_n dX4_layBehind_58 rfl rfl ?_
    obtain ⟨rn2, hcl, h⟩ := bd1_some h
    refine zJ_callS2 (σ := σ) (L := ([(2180, letters_fences)], [(35, letters_fears), (36, letters_tenths), (37, letters_least), (38, (upd letters_spans p1.toNatClampNeg ((letters_spans (p1 - (1 : Int32)).toNatClampNeg) + v3_15x)))], [])) (mi := mX4_layBehind) (yi := mX4_from) (as := [.int p1]) (st := []) (L2 := ([(2180, letters_fences)], [(35, letters_fears), (36, letters_tenths), (37, letters_least), (38, (upd letters_spans p1.toNatClampNeg ((letters_spans (p1 - (1 : Int32)).toNatClampNeg) + v3_15x)))], [])) dX4_layBehind_59 ML_X4_42 Ys_X4_from rfl (t_X4_from l _ hcl) (zsub_i zle_n zle_n zle_n) (zjok_i rfl rfl (zle_c rfl zle_n) rfl rfl (zle_c rfl (zle_c rfl (zle_c rfl (zle_c rfl zle_n)))) rfl rfl zle_n) (Nat.le_of_ble_eq_true rfl) (Nat.le_of_ble_eq_true rfl) rfl rfl ?_
    refine zJ_istore (ls' := [(4, .int rn2), (0, .ref 34), (1, .int p1), (2, .int v2n1), (3, .int v3_15x)]) dX4_layBehind_62 rfl rfl rfl ?_
    refine zJ_iconst dX4_layBehind_64 zc_0 rfl ?_
    refine zJ_istore (ls' := [(5, .int (0 : Int32)), (4, .int rn2), (0, .ref 34), (1, .int p1), (2, .int v2n1), (3, .int v3_15x)]) dX4_layBehind_65 rfl rfl rfl ?_
    have hk67 : ∀ (letters_least_67x : (Nat → Int32)), k_X4_layBehind_67 p1 letters_fears letters_tenths letters_spans v2n1 v3_15x rn2 letters_least_67x = some (w_letters_least, w_letters_spans) → zJ l zW 1 mX4_layBehind σ ([(2180, letters_fences)], [(35, letters_fears), (36, letters_tenths), (37, letters_least_67x), (38, (upd letters_spans p1.toNatClampNeg ((letters_spans (p1 - (1 : Int32)).toNatClampNeg) + v3_15x)))], []) 95 [(0, .ref 34), (1, .int p1), (2, .int v2n1), (4, .int rn2)] [] none ([(2180, letters_fences)], [(35, letters_fears), (36, letters_tenths), (37, w_letters_least), (38, w_letters_spans)], []) := by
      intro letters_least_67x h
      unfold k_X4_layBehind_67 at h
      refine zJ_iconst dX4_layBehind_95 zc_0 rfl ?_
      refine zJ_istore (ls' := [(5, .int (0 : Int32)), (0, .ref 34), (1, .int p1), (2, .int v2n1), (4, .int rn2)]) dX4_layBehind_96 rfl rfl rfl ?_
      have hk98 : ∀ (letters_least_98x : (Nat → Int32)), k_X4_layBehind_98 p1 letters_spans v3_15x letters_least_98x = some (w_letters_least, w_letters_spans) → zJ l zW 1 mX4_layBehind σ ([(2180, letters_fences)], [(35, letters_fears), (36, letters_tenths), (37, letters_least_98x), (38, (upd letters_spans p1.toNatClampNeg ((letters_spans (p1 - (1 : Int32)).toNatClampNeg) + v3_15x)))], []) 218 [] [] none ([(2180, letters_fences)], [(35, letters_fears), (36, letters_tenths), (37, w_letters_least), (38, w_letters_spans)], []) := by
        intro letters_least_98x h
        unfold k_X4_layBehind_98 at h
        obtain ⟨rfl, rfl⟩ := so2 h
        exact zJ_vret dX4_layBehind_218 rfl
      refine zJ_loc (ls' := [(0, .ref 34), (1, .int p1), (2, .int v2n1), (4, .int rn2), (5, .int (0 : Int32))]) (zll_c rfl (zll_c rfl (zll_c rfl (zll_c rfl (zll_c rfl zll_n))))) ?_
      refine ml2_J (fun (v5_98 : Int32) (letters_least_98 : (Nat → Int32)) => zJ l zW 1 mX4_layBehind σ ([(2180, letters_fences)], [(35, letters_fears), (36, letters_tenths), (37, letters_least_98), (38, (upd letters_spans p1.toNatClampNeg ((letters_spans (p1 - (1 : Int32)).toNatClampNeg) + v3_15x)))], []) 98 [(0, .ref 34), (1, .int p1), (2, .int v2n1), (4, .int rn2), (5, .int v5_98)] [] none ([(2180, letters_fences)], [(35, letters_fears), (36, letters_tenths), (37, w_letters_least), (38, w_letters_spans)], [])) (fun rc98 hrc98 v5_98 letters_least_98 h => ?_) zN _ _ h
      unfold s_X4_layBehind_98 at h
      refine zJ_iload dX4_layBehind_98 rfl rfl ?_
      refine zJ_aload_n dX4_layBehind_100 rfl rfl ?_
      refine zJ_getr (mi := mX4_layBehind) dX4_layBehind_101 F_X4_21 zW_34 rfl rfl ?_
      refine zJ_iload_n dX4_layBehind_104 rfl rfl ?_
      refine zJ_iconst dX4_layBehind_105 zc_1 rfl ?_
      refine zJ_isub dX4_layBehind_106 rfl ?_
      obtain ⟨hg, h⟩ := gd_some h
      refine zJ_iald (mi := mX4_layBehind) (f := (upd letters_spans p1.toNatClampNeg ((letters_spans (p1 - (1 : Int32)).toNatClampNeg) + v3_15x))) dX4_layBehind_107 zW_38 (ix_in hg) rfl rfl ?_
      refine zJ_icmp_gt (tgt := 218) dX4_layBehind_108 (by decide) rfl (fun hc => ?_) (fun hc => ?_)
      · replace h := it_t hc h
        refine zJ_loc (ls' := []) zll_n ?_
        exact hk98 _ h
      · replace h := it_f hc h
        refine zJ_aload_n dX4_layBehind_111 rfl rfl ?_
        refine zJ_getr (mi := mX4_layBehind) dX4_layBehind_112 F_X4_18 zW_34 rfl rfl ?_
        refine zJ_iload_n dX4_layBehind_115 rfl rfl ?_
        refine zJ_iconst dX4_layBehind_116 zc_1 rfl ?_
        refine zJ_isub dX4_layBehind_117 rfl ?_
        obtain ⟨rn3, hcl, h⟩ := bd1_some h
        refine zJ_callS2 (σ := σ) (L := ([(2180, letters_fences)], [(35, letters_fears), (36, letters_tenths), (37, letters_least_98), (38, (upd letters_spans p1.toNatClampNeg ((letters_spans (p1 - (1 : Int32)).toNatClampNeg) + v3_15x)))], [])) (mi := mX4_layBehind) (yi := mX4_from) (as := [.int (p1 - (1 : Int32))]) (st := [.ref 37]) (L2 := ([(2180, letters_fences)], [(35, letters_fears), (36, letters_tenths), (37, letters_least_98), (38, (upd letters_spans p1.toNatClampNeg ((letters_spans (p1 - (1 : Int32)).toNatClampNeg) + v3_15x)))], [])) dX4_layBehind_118 ML_X4_42 Ys_X4_from rfl (t_X4_from l _ hcl) (zsub_i zle_n zle_n zle_n) (zjok_i rfl rfl (zle_c rfl zle_n) rfl rfl (zle_c rfl (zle_c rfl (zle_c rfl (zle_c rfl zle_n)))) rfl rfl zle_n) (Nat.le_of_ble_eq_true rfl) (Nat.le_of_ble_eq_true rfl) rfl rfl ?_
        refine zJ_iload dX4_layBehind_121 rfl rfl ?_
        refine zJ_iadd dX4_layBehind_123 rfl ?_
        obtain ⟨hg, h⟩ := gd_some h
        refine zJ_iald (mi := mX4_layBehind) (f := letters_least_98) dX4_layBehind_124 zW_37 (ix_in hg) rfl rfl ?_
        obtain ⟨v6n4, ev6n4, h⟩ := lt1_some h
        refine zJ_nmi ev6n4 ?_
        refine zJ_istore (ls' := [(6, .int v6n4), (0, .ref 34), (1, .int p1), (2, .int v2n1), (4, .int rn2), (5, .int v5_98)]) dX4_layBehind_125 rfl rfl rfl ?_
        refine zJ_iconst dX4_layBehind_127 zc_0 rfl ?_
        refine zJ_istore (ls' := [(7, .int (0 : Int32)), (6, .int v6n4), (0, .ref 34), (1, .int p1), (2, .int v2n1), (4, .int rn2), (5, .int v5_98)]) dX4_layBehind_128 rfl rfl rfl ?_
        have hk130 : ∀ (letters_least_130x : (Nat → Int32)), k_X4_layBehind_130 rc98 v5_98 letters_least_130x = some (w_letters_least, w_letters_spans) → zJ l zW 1 mX4_layBehind σ ([(2180, letters_fences)], [(35, letters_fears), (36, letters_tenths), (37, letters_least_130x), (38, (upd letters_spans p1.toNatClampNeg ((letters_spans (p1 - (1 : Int32)).toNatClampNeg) + v3_15x)))], []) 212 [(0, .ref 34), (1, .int p1), (2, .int v2n1), (4, .int rn2), (5, .int v5_98)] [] none ([(2180, letters_fences)], [(35, letters_fears), (36, letters_tenths), (37, w_letters_least), (38, w_letters_spans)], []) := by
          intro letters_least_130x h
          unfold k_X4_layBehind_130 at h
          obtain ⟨v5n5, ev5n5, h⟩ := lt1_some h
          refine zJ_iincN (ls' := [(5, .int v5n5), (0, .ref 34), (1, .int p1), (2, .int v2n1), (4, .int rn2)]) dX4_layBehind_212 rfl rfl zc_1 ev5n5 rfl rfl ?_
          refine zJ_goto (tgt := 98) dX4_layBehind_215 (by decide) ?_
          refine zJ_loc (ls' := [(0, .ref 34), (1, .int p1), (2, .int v2n1), (4, .int rn2), (5, .int v5n5)]) (zll_c rfl (zll_c rfl (zll_c rfl (zll_c rfl (zll_c rfl zll_n))))) ?_
          exact hrc98 _ _ h
        refine zJ_loc (ls' := [(0, .ref 34), (1, .int p1), (2, .int v2n1), (4, .int rn2), (5, .int v5_98), (6, .int v6n4), (7, .int (0 : Int32))]) (zll_c rfl (zll_c rfl (zll_c rfl (zll_c rfl (zll_c rfl (zll_c rfl (zll_c rfl zll_n))))))) ?_
        refine ml2_J (fun (v7_130 : Int32) (letters_least_130 : (Nat → Int32)) => zJ l zW 1 mX4_layBehind σ ([(2180, letters_fences)], [(35, letters_fears), (36, letters_tenths), (37, letters_least_130), (38, (upd letters_spans p1.toNatClampNeg ((letters_spans (p1 - (1 : Int32)).toNatClampNeg) + v3_15x)))], []) 130 [(0, .ref 34), (1, .int p1), (2, .int v2n1), (4, .int rn2), (5, .int v5_98), (6, .int v6n4), (7, .int v7_130)] [] none ([(2180, letters_fences)], [(35, letters_fears), (36, letters_tenths), (37, w_letters_least), (38, w_letters_spans)], [])) (fun rc130 hrc130 v7_130 letters_least_130 h => ?_) zN _ _ h
        unfold s_X4_layBehind_130 at h
        refine zJ_iload dX4_layBehind_130 rfl rfl ?_
        refine zJ_bipush dX4_layBehind_132 zb_8 rfl ?_
        refine zJ_icmp_ge (tgt := 212) dX4_layBehind_134 (by decide) rfl (fun hc => ?_) (fun hc => ?_)
        · replace h := it_t hc h
          refine zJ_loc (ls' := [(0, .ref 34), (1, .int p1), (2, .int v2n1), (4, .int rn2), (5, .int v5_98)]) (zll_c rfl (zll_c rfl (zll_c rfl (zll_c rfl (zll_c rfl zll_n))))) ?_
          exact hk130 _ h
        · replace h := it_f hc h
          refine zJ_iload dX4_layBehind_137 rfl rfl ?_
          refine zJ_iconst dX4_layBehind_139 zc_m1 rfl ?_
          refine zJ_icmp_eq (tgt := 212) dX4_layBehind_140 (by decide) rfl (fun hc => ?_) (fun hc => ?_)
          · replace h := it_t hc h
            refine zJ_loc (ls' := [(0, .ref 34), (1, .int p1), (2, .int v2n1), (4, .int rn2), (5, .int v5_98)]) (zll_c rfl (zll_c rfl (zll_c rfl (zll_c rfl (zll_c rfl zll_n))))) ?_
            exact hk130 _ h
          · replace h := it_f hc h
            refine zJ_iload dX4_layBehind_143 rfl rfl ?_
            refine zJ_iload dX4_layBehind_145 rfl rfl ?_
            refine zJ_iadd dX4_layBehind_147 rfl ?_
            refine zJ_aload_n dX4_layBehind_148 rfl rfl ?_
            refine zJ_getr (mi := mX4_layBehind) dX4_layBehind_149 F_X4_15 zW_34 rfl rfl ?_
            refine zJ_iload_n dX4_layBehind_152 rfl rfl ?_
            refine zJ_iload dX4_layBehind_153 rfl rfl ?_
            refine zJ_iadd dX4_layBehind_155 rfl ?_
            obtain ⟨hg, h⟩ := gd_some h
            refine zJ_iald (mi := mX4_layBehind) (f := letters_tenths) dX4_layBehind_156 zW_36 (ix_in hg) rfl rfl ?_
            refine zJ_iadd dX4_layBehind_157 rfl ?_
            obtain ⟨v8n6, ev8n6, h⟩ := lt1_some h
            refine zJ_nmi ev8n6 ?_
            refine zJ_istore (ls' := [(8, .int v8n6), (0, .ref 34), (1, .int p1), (2, .int v2n1), (4, .int rn2), (5, .int v5_98), (6, .int v6n4), (7, .int v7_130)]) dX4_layBehind_158 rfl rfl rfl ?_
            refine zJ_iload dX4_layBehind_160 rfl rfl ?_
            refine zJ_aload_n dX4_layBehind_162 rfl rfl ?_
            refine zJ_getr (mi := mX4_layBehind) dX4_layBehind_163 F_X4_11 zW_34 rfl rfl ?_
            refine zJ_iload_n dX4_layBehind_166 rfl rfl ?_
            refine zJ_iload dX4_layBehind_167 rfl rfl ?_
            refine zJ_iadd dX4_layBehind_169 rfl ?_
            obtain ⟨hg, h⟩ := gd_some h
            refine zJ_iald (mi := mX4_layBehind) (f := letters_fears) dX4_layBehind_170 zW_35 (ix_in hg) rfl rfl ?_
            refine zJ_iadd dX4_layBehind_171 rfl ?_
            obtain ⟨v9n7, ev9n7, h⟩ := lt1_some h
            refine zJ_nmi ev9n7 ?_
            refine zJ_istore (ls' := [(9, .int v9n7), (8, .int v8n6), (0, .ref 34), (1, .int p1), (2, .int v2n1), (4, .int rn2), (5, .int v5_98), (6, .int v6n4), (7, .int v7_130)]) dX4_layBehind_172 rfl rfl rfl ?_
            refine zJ_aload_n dX4_layBehind_174 rfl rfl ?_
            refine zJ_getr (mi := mX4_layBehind) dX4_layBehind_175 F_X4_18 zW_34 rfl rfl ?_
            refine zJ_iload dX4_layBehind_178 rfl rfl ?_
            obtain ⟨hg, h⟩ := gd_some h
            refine zJ_iald (mi := mX4_layBehind) (f := letters_least_130) dX4_layBehind_180 zW_37 (ix_in hg) rfl rfl ?_
            refine zJ_iconst dX4_layBehind_181 zc_m1 rfl ?_
            refine zJ_icmp_eq (tgt := 197) dX4_layBehind_182 (by decide) rfl (fun hc => ?_) (fun hc => ?_)
            · replace h := it_t hc h
              refine zJ_aload_n dX4_layBehind_197 rfl rfl ?_
              refine zJ_getr (mi := mX4_layBehind) dX4_layBehind_198 F_X4_18 zW_34 rfl rfl ?_
              refine zJ_iload dX4_layBehind_201 rfl rfl ?_
              refine zJ_iload dX4_layBehind_203 rfl rfl ?_
              obtain ⟨hg, h⟩ := gd_some h
              refine zK_iast (mi := mX4_layBehind) (f := letters_least_130) (lb' := [(35, letters_fears), (36, letters_tenths), (37, (upd letters_least_130 v8n6.toNatClampNeg v9n7)), (38, (upd letters_spans p1.toNatClampNeg ((letters_spans (p1 - (1 : Int32)).toNatClampNeg) + v3_15x)))]) dX4_layBehind_205 zW_37 (ix_in hg) rfl rfl rfl ?_
              obtain ⟨v7n8, ev7n8, h⟩ := lt1_some h
              refine zJ_iincN (ls' := [(7, .int v7n8), (9, .int v9n7), (8, .int v8n6), (0, .ref 34), (1, .int p1), (2, .int v2n1), (4, .int rn2), (5, .int v5_98), (6, .int v6n4)]) dX4_layBehind_206 rfl rfl zc_1 ev7n8 rfl rfl ?_
              refine zJ_goto (tgt := 130) dX4_layBehind_209 (by decide) ?_
              refine zJ_loc (ls' := [(0, .ref 34), (1, .int p1), (2, .int v2n1), (4, .int rn2), (5, .int v5_98), (6, .int v6n4), (7, .int v7n8)]) (zll_c rfl (zll_c rfl (zll_c rfl (zll_c rfl (zll_c rfl (zll_c rfl (zll_c rfl zll_n))))))) ?_
              exact hrc130 _ _ h
            · replace h := it_f hc h
              refine zJ_iload dX4_layBehind_185 rfl rfl ?_
              refine zJ_aload_n dX4_layBehind_187 rfl rfl ?_
              refine zJ_getr (mi := mX4_layBehind) dX4_layBehind_188 F_X4_18 zW_34 rfl rfl ?_
              refine zJ_iload dX4_layBehind_191 rfl rfl ?_
              obtain ⟨hg, h⟩ := gd_some h
              refine zJ_iald (mi := mX4_layBehind) (f := letters_least_130) dX4_layBehind_193 zW_37 (ix_in hg) rfl rfl ?_
              refine zJ_icmp_ge (tgt := 206) dX4_layBehind_194 (by decide) rfl (fun hc => ?_) (fun hc => ?_)
              · replace h := it_t hc h
                obtain ⟨v7n9, ev7n9, h⟩ := lt1_some h
                refine zJ_iincN (ls' := [(7, .int v7n9), (9, .int v9n7), (8, .int v8n6), (0, .ref 34), (1, .int p1), (2, .int v2n1), (4, .int rn2), (5, .int v5_98), (6, .int v6n4)]) dX4_layBehind_206 rfl rfl zc_1 ev7n9 rfl rfl ?_
                refine zJ_goto (tgt := 130) dX4_layBehind_209 (by decide) ?_
                refine zJ_loc (ls' := [(0, .ref 34), (1, .int p1), (2, .int v2n1), (4, .int rn2), (5, .int v5_98), (6, .int v6n4), (7, .int v7n9)]) (zll_c rfl (zll_c rfl (zll_c rfl (zll_c rfl (zll_c rfl (zll_c rfl (zll_c rfl zll_n))))))) ?_
                exact hrc130 _ _ h
              · replace h := it_f hc h
                refine zJ_aload_n dX4_layBehind_197 rfl rfl ?_
                refine zJ_getr (mi := mX4_layBehind) dX4_layBehind_198 F_X4_18 zW_34 rfl rfl ?_
                refine zJ_iload dX4_layBehind_201 rfl rfl ?_
                refine zJ_iload dX4_layBehind_203 rfl rfl ?_
                obtain ⟨hg, h⟩ := gd_some h
                refine zK_iast (mi := mX4_layBehind) (f := letters_least_130) (lb' := [(35, letters_fears), (36, letters_tenths), (37, (upd letters_least_130 v8n6.toNatClampNeg v9n7)), (38, (upd letters_spans p1.toNatClampNeg ((letters_spans (p1 - (1 : Int32)).toNatClampNeg) + v3_15x)))]) dX4_layBehind_205 zW_37 (ix_in hg) rfl rfl rfl ?_
                obtain ⟨v7n10, ev7n10, h⟩ := lt1_some h
                refine zJ_iincN (ls' := [(7, .int v7n10), (9, .int v9n7), (8, .int v8n6), (0, .ref 34), (1, .int p1), (2, .int v2n1), (4, .int rn2), (5, .int v5_98), (6, .int v6n4)]) dX4_layBehind_206 rfl rfl zc_1 ev7n10 rfl rfl ?_
                refine zJ_goto (tgt := 130) dX4_layBehind_209 (by decide) ?_
                refine zJ_loc (ls' := [(0, .ref 34), (1, .int p1), (2, .int v2n1), (4, .int rn2), (5, .int v5_98), (6, .int v6n4), (7, .int v7n10)]) (zll_c rfl (zll_c rfl (zll_c rfl (zll_c rfl (zll_c rfl (zll_c rfl (zll_c rfl zll_n))))))) ?_
                exact hrc130 _ _ h
    refine zJ_loc (ls' := [(0, .ref 34), (1, .int p1), (2, .int v2n1), (4, .int rn2), (5, .int (0 : Int32))]) (zll_c rfl (zll_c rfl (zll_c rfl (zll_c rfl (zll_c rfl zll_n))))) ?_
    refine ml2_J (fun (v5_67 : Int32) (letters_least_67 : (Nat → Int32)) => zJ l zW 1 mX4_layBehind σ ([(2180, letters_fences)], [(35, letters_fears), (36, letters_tenths), (37, letters_least_67), (38, (upd letters_spans p1.toNatClampNeg ((letters_spans (p1 - (1 : Int32)).toNatClampNeg) + v3_15x)))], []) 67 [(0, .ref 34), (1, .int p1), (2, .int v2n1), (4, .int rn2), (5, .int v5_67)] [] none ([(2180, letters_fences)], [(35, letters_fears), (36, letters_tenths), (37, w_letters_least), (38, w_letters_spans)], [])) (fun rc67 hrc67 v5_67 letters_least_67 h => ?_) zN _ _ h
    unfold s_X4_layBehind_67 at h
    refine zJ_iload dX4_layBehind_67 rfl rfl ?_
    refine zJ_aload_n dX4_layBehind_69 rfl rfl ?_
    refine zJ_getr (mi := mX4_layBehind) dX4_layBehind_70 F_X4_21 zW_34 rfl rfl ?_
    refine zJ_iload_n dX4_layBehind_73 rfl rfl ?_
    obtain ⟨hg, h⟩ := gd_some h
    refine zJ_iald (mi := mX4_layBehind) (f := (upd letters_spans p1.toNatClampNeg ((letters_spans (p1 - (1 : Int32)).toNatClampNeg) + v3_15x))) dX4_layBehind_74 zW_38 (ix_in hg) rfl rfl ?_
    refine zJ_icmp_gt (tgt := 95) dX4_layBehind_75 (by decide) rfl (fun hc => ?_) (fun hc => ?_)
    · replace h := it_t hc h
      refine zJ_loc (ls' := [(0, .ref 34), (1, .int p1), (2, .int v2n1), (4, .int rn2)]) (zll_c rfl (zll_c rfl (zll_c rfl (zll_c rfl zll_n)))) ?_
      exact hk67 _ h
    · replace h := it_f hc h
      refine zJ_aload_n dX4_layBehind_78 rfl rfl ?_
      refine zJ_getr (mi := mX4_layBehind) dX4_layBehind_79 F_X4_18 zW_34 rfl rfl ?_
      refine zJ_iload dX4_layBehind_82 rfl rfl ?_
      refine zJ_iload dX4_layBehind_84 rfl rfl ?_
      refine zJ_iadd dX4_layBehind_86 rfl ?_
      refine zJ_iconst dX4_layBehind_87 zc_m1 rfl ?_
      obtain ⟨hg, h⟩ := gd_some h
      refine zK_iast (mi := mX4_layBehind) (f := letters_least_67) (lb' := [(35, letters_fears), (36, letters_tenths), (37, (upd letters_least_67 (rn2 + v5_67).toNatClampNeg (-1 : Int32))), (38, (upd letters_spans p1.toNatClampNeg ((letters_spans (p1 - (1 : Int32)).toNatClampNeg) + v3_15x)))]) dX4_layBehind_88 zW_37 (ix_in hg) rfl rfl rfl ?_
      obtain ⟨v5n11, ev5n11, h⟩ := lt1_some h
      refine zJ_iincN (ls' := [(5, .int v5n11), (0, .ref 34), (1, .int p1), (2, .int v2n1), (4, .int rn2)]) dX4_layBehind_89 rfl rfl zc_1 ev5n11 rfl rfl ?_
      refine zJ_goto (tgt := 67) dX4_layBehind_92 (by decide) ?_
      refine zJ_loc (ls' := [(0, .ref 34), (1, .int p1), (2, .int v2n1), (4, .int rn2), (5, .int v5n11)]) (zll_c rfl (zll_c rfl (zll_c rfl (zll_c rfl (zll_c rfl zll_n))))) ?_
      exact hrc67 _ _ h
  refine zJ_loc (ls' := [(0, .ref 34), (1, .int p1), (2, .int v2n1), (3, .int (0 : Int32)), (4, .int (0 : Int32))]) (zll_c rfl (zll_c rfl (zll_c rfl (zll_c rfl (zll_c rfl zll_n))))) ?_
  refine ml2_J (fun (v3_15 : Int32) (v4_15 : Int32) => zJ l zW 1 mX4_layBehind σ ([(2180, letters_fences)], [(35, letters_fears), (36, letters_tenths), (37, letters_least), (38, letters_spans)], []) 15 [(0, .ref 34), (1, .int p1), (2, .int v2n1), (3, .int v3_15), (4, .int v4_15)] [] none ([(2180, letters_fences)], [(35, letters_fears), (36, letters_tenths), (37, w_letters_least), (38, w_letters_spans)], [])) (fun rc15 hrc15 v3_15 v4_15 h => ?_) zN _ _ h
  unfold s_X4_layBehind_15 at h
  refine zJ_iload dX4_layBehind_15 rfl rfl ?_
  refine zJ_bipush dX4_layBehind_17 zb_8 rfl ?_
  refine zJ_icmp_ge (tgt := 42) dX4_layBehind_19 (by decide) rfl (fun hc => ?_) (fun hc => ?_)
  · replace h := it_t hc h
    refine zJ_loc (ls' := [(0, .ref 34), (1, .int p1), (2, .int v2n1), (3, .int v3_15)]) (zll_c rfl (zll_c rfl (zll_c rfl (zll_c rfl zll_n)))) ?_
    exact hk15 _ h
  · replace h := it_f hc h
    refine zJ_iload_n dX4_layBehind_22 rfl rfl ?_
    refine zJ_aload_n dX4_layBehind_23 rfl rfl ?_
    refine zJ_getr (mi := mX4_layBehind) dX4_layBehind_24 F_X4_15 zW_34 rfl rfl ?_
    refine zJ_iload_n dX4_layBehind_27 rfl rfl ?_
    refine zJ_iload dX4_layBehind_28 rfl rfl ?_
    refine zJ_iadd dX4_layBehind_30 rfl ?_
    obtain ⟨hg, h⟩ := gd_some h
    refine zJ_iald (mi := mX4_layBehind) (f := letters_tenths) dX4_layBehind_31 zW_36 (ix_in hg) rfl rfl ?_
    refine zJ_mmax (mi := mX4_layBehind) dX4_layBehind_32 L_X4_50 K_max_s K_math K_max_c (Nat.le_of_ble_eq_true rfl) (Nat.le_of_ble_eq_true rfl) rfl ?_
    obtain ⟨v3n12, ev3n12, h⟩ := lt1_some h
    refine zJ_nmi ev3n12 ?_
    refine zJ_istore_n (ls' := [(3, .int v3n12), (0, .ref 34), (1, .int p1), (2, .int v2n1), (4, .int v4_15)]) dX4_layBehind_35 rfl rfl rfl ?_
    obtain ⟨v4n13, ev4n13, h⟩ := lt1_some h
    refine zJ_iincN (ls' := [(4, .int v4n13), (3, .int v3n12), (0, .ref 34), (1, .int p1), (2, .int v2n1)]) dX4_layBehind_36 rfl rfl zc_1 ev4n13 rfl rfl ?_
    refine zJ_goto (tgt := 15) dX4_layBehind_39 (by decide) ?_
    refine zJ_loc (ls' := [(0, .ref 34), (1, .int p1), (2, .int v2n1), (3, .int v3n12), (4, .int v4n13)]) (zll_c rfl (zll_c rfl (zll_c rfl (zll_c rfl (zll_c rfl zll_n))))) ?_
    exact hrc15 _ _ h
