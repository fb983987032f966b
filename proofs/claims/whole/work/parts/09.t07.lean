set_option maxRecDepth 100000 in
set_option maxHeartbeats 4000000 in
theorem t_X11_fear (l : Launch) (σ : zS) {p1 : Int32} {p2 : Int32} {numbers_size : Int32} {course_fences : Int32} {course_horseCount : Int32} {course_planCount : Int32} {course_rule_size : Int32} {course_kinds : (Nat → Int32)} {course_heights : (Nat → Int32)} {course_feet : (Nat → Int32)} {course_digits : (Nat → Int32)} {course_plans : (Nat → Int32)} {rule_codes : (Nat → Int32)} {rule_stack : (Nat → Int32)} {rule_things : (Nat → Int32)} {numbers_told : (Nat → Int64)} {r : Int32} {w_numbers_size : Int32} {w_rule_stack : (Nat → Int32)} {w_rule_things : (Nat → Int32)} {w_numbers_told : (Nat → Int64)} (h : f_X11_fear p1 p2 numbers_size course_fences course_horseCount course_planCount course_rule_size course_kinds course_heights course_feet course_digits course_plans rule_codes rule_stack rule_things numbers_told = some (r, w_numbers_size, w_rule_stack, w_rule_things, w_numbers_told)) : zMt l zW 5 mX11_fear σ ([(193, numbers_size), (323, course_fences), (326, course_horseCount), (328, course_planCount), (769, course_rule_size)], [(6, course_kinds), (7, course_heights), (8, course_feet), (10, course_digits), (11, course_plans), (13, rule_codes), (15, rule_stack), (16, rule_things)], [(4, numbers_told)]) [.ref 0, .int p1, .int p2] (some (.int r)) ([(193, w_numbers_size), (323, course_fences), (326, course_horseCount), (328, course_planCount), (769, course_rule_size)], [(6, course_kinds), (7, course_heights), (8, course_feet), (10, course_digits), (11, course_plans), (13, rule_codes), (15, w_rule_stack), (16, w_rule_things)], [(4, w_numbers_told)]) := by
  refine zMt_of (ls := [(0, .ref 0), (1, .int p1), (2, .int p2)]) (by decide) rfl (fun _ => Nat.le_of_ble_eq_true rfl) rfl ?_
  unfold f_X11_fear at h
  refine zJ_aload_n dX11_fear_0 rfl rfl ?_
  refine zJ_getr (mi := mX11_fear) dX11_fear_1 F_X11_26 zW_0 rfl rfl ?_
  refine zJ_iload_n dX11_fear_4 rfl rfl ?_
  obtain ⟨rn1, hcl, h⟩ := bd1_some h
  refine zJ_callV2 (mi := mX11_fear) (yi := mX1_hasHorse) (as := [.int p1]) (st := []) (L2 := ([(193, numbers_size), (323, course_fences), (326, course_horseCount), (328, course_planCount), (769, course_rule_size)], [(6, course_kinds), (7, course_heights), (8, course_feet), (10, course_digits), (11, course_plans), (13, rule_codes), (15, rule_stack), (16, rule_things)], [(4, numbers_told)])) dX11_fear_5 ML_X11_147 Yv_X1_hasHorse rfl zW_5 rfl rfl (t_X1_hasHorse l _ hcl) (zsub_i (zle_c rfl zle_n) zle_n zle_n) (zjok_i rfl rfl (zle_c rfl (zle_c rfl (zle_c rfl (zle_c rfl (zle_c rfl zle_n))))) rfl rfl (zle_c rfl (zle_c rfl (zle_c rfl (zle_c rfl (zle_c rfl (zle_c rfl (zle_c rfl (zle_c rfl zle_n)))))))) rfl rfl (zle_c rfl zle_n)) (Nat.le_of_ble_eq_true rfl) (Nat.le_of_ble_eq_true rfl) rfl rfl ?_
  refine zJ_if_eq (tgt := 22) dX11_fear_8 (by decide) rfl (fun hc => ?_) (fun hc => ?_)
  · replace h := it_t hc h
    refine zJ_iconst dX11_fear_22 zc_m1 rfl ?_
    obtain ⟨rfl, rfl, rfl, rfl, rfl⟩ := so5 h
    exact zJ_iret dX11_fear_23 rfl rfl
  · replace h := it_f hc h
    refine zJ_aload_n dX11_fear_11 rfl rfl ?_
    refine zJ_getr (mi := mX11_fear) dX11_fear_12 F_X11_26 zW_0 rfl rfl ?_
    refine zJ_iload_n dX11_fear_15 rfl rfl ?_
    obtain ⟨rn2, hcl, h⟩ := bd1_some h
    refine zJ_callV2 (mi := mX11_fear) (yi := mX1_hasPlan) (as := [.int p2]) (st := []) (L2 := ([(193, numbers_size), (323, course_fences), (326, course_horseCount), (328, course_planCount), (769, course_rule_size)], [(6, course_kinds), (7, course_heights), (8, course_feet), (10, course_digits), (11, course_plans), (13, rule_codes), (15, rule_stack), (16, rule_things)], [(4, numbers_told)])) dX11_fear_16 ML_X11_191 Yv_X1_hasPlan rfl zW_5 rfl rfl (t_X1_hasPlan l _ hcl) (zsub_i (zle_c rfl zle_n) zle_n zle_n) (zjok_i rfl rfl (zle_c rfl (zle_c rfl (zle_c rfl (zle_c rfl (zle_c rfl zle_n))))) rfl rfl (zle_c rfl (zle_c rfl (zle_c rfl (zle_c rfl (zle_c rfl (zle_c rfl (zle_c rfl (zle_c rfl zle_n)))))))) rfl rfl (zle_c rfl zle_n)) (Nat.le_of_ble_eq_true rfl) (Nat.le_of_ble_eq_true rfl) rfl rfl ?_
    refine zJ_if_ne (tgt := 24) dX11_fear_19 (by decide) rfl (fun hc => ?_) (fun hc => ?_)
    · replace h := it_f hc h
      refine zJ_iconst dX11_fear_24 zc_0 rfl ?_
      refine zJ_istore_n (ls' := [(3, .int (0 : Int32)), (0, .ref 0), (1, .int p1), (2, .int p2)]) dX11_fear_25 rfl rfl rfl ?_
      refine zJ_iconst dX11_fear_26 zc_0 rfl ?_
      refine zJ_istore (ls' := [(4, .int (0 : Int32)), (3, .int (0 : Int32)), (0, .ref 0), (1, .int p1), (2, .int p2)]) dX11_fear_27 rfl rfl rfl ?_
      have hk29 : ∀ (v3_29x : Int32) (rule_stack_29x : (Nat → Int32)) (rule_things_29x : (Nat → Int32)), k_X11_fear_29 p1 p2 numbers_size course_fences course_rule_size course_kinds course_heights course_feet course_digits course_plans rule_codes numbers_told v3_29x rule_stack_29x rule_things_29x = some (r, w_numbers_size, w_rule_stack, w_rule_things, w_numbers_told) → zJ l zW 5 mX11_fear σ ([(193, numbers_size), (323, course_fences), (326, course_horseCount), (328, course_planCount), (769, course_rule_size)], [(6, course_kinds), (7, course_heights), (8, course_feet), (10, course_digits), (11, course_plans), (13, rule_codes), (15, rule_stack_29x), (16, rule_things_29x)], [(4, numbers_told)]) 81 [(0, .ref 0), (1, .int p1), (2, .int p2), (3, .int v3_29x)] [] (some (.int r)) ([(193, w_numbers_size), (323, course_fences), (326, course_horseCount), (328, course_planCount), (769, course_rule_size)], [(6, course_kinds), (7, course_heights), (8, course_feet), (10, course_digits), (11, course_plans), (13, rule_codes), (15, w_rule_stack), (16, w_rule_things)], [(4, w_numbers_told)]) := by
        intro v3_29x rule_stack_29x rule_things_29x h
        unfold k_X11_fear_29 at h
        refine zJ_aload_n dX11_fear_81 rfl rfl ?_
        refine zJ_getr (mi := mX11_fear) dX11_fear_82 F_X11_19 zW_0 rfl rfl ?_
        obtain ⟨numbers_sizen3, hcl, h⟩ := bd1_some h
        refine zJ_callV2 (mi := mX11_fear) (yi := mX6_start) (as := []) (st := []) (L2 := ([(193, numbers_sizen3), (323, course_fences), (326, course_horseCount), (328, course_planCount), (769, course_rule_size)], [(6, course_kinds), (7, course_heights), (8, course_feet), (10, course_digits), (11, course_plans), (13, rule_codes), (15, rule_stack_29x), (16, rule_things_29x)], [(4, numbers_told)])) dX11_fear_85 ML_X11_171 Yv_X6_start rfl zW_3 rfl rfl (t_X6_start l _ hcl) (zsub_i (zle_c rfl zle_n) zle_n zle_n) (zjok_i rfl rfl (zle_c rfl (zle_c rfl (zle_c rfl (zle_c rfl (zle_c rfl zle_n))))) rfl rfl (zle_c rfl (zle_c rfl (zle_c rfl (zle_c rfl (zle_c rfl (zle_c rfl (zle_c rfl (zle_c rfl zle_n)))))))) rfl rfl (zle_c rfl zle_n)) (Nat.le_of_ble_eq_true rfl) (Nat.le_of_ble_eq_true rfl) rfl rfl ?_
        refine zJ_aload_n dX11_fear_88 rfl rfl ?_
        refine zJ_getr (mi := mX11_fear) dX11_fear_89 F_X11_19 zW_0 rfl rfl ?_
        refine zJ_aload_n dX11_fear_92 rfl rfl ?_
        refine zJ_getr (mi := mX11_fear) dX11_fear_93 F_X11_26 zW_0 rfl rfl ?_
        refine zJ_iload_n dX11_fear_96 rfl rfl ?_
        obtain ⟨rn4, hcl, h⟩ := bd1_some h
        refine zJ_callV2 (mi := mX11_fear) (yi := mX1_planTenths) (as := [.int p2]) (st := [.ref 3]) (L2 := ([(193, numbers_sizen3), (323, course_fences), (326, course_horseCount), (328, course_planCount), (769, course_rule_size)], [(6, course_kinds), (7, course_heights), (8, course_feet), (10, course_digits), (11, course_plans), (13, rule_codes), (15, rule_stack_29x), (16, rule_things_29x)], [(4, numbers_told)])) dX11_fear_97 ML_X11_197 Yv_X1_planTenths rfl zW_5 rfl rfl (t_X1_planTenths l _ hcl) (zsub_i (zle_c rfl zle_n) (zle_c rfl (zle_c rfl (zle_c rfl zle_n))) zle_n) (zjok_i rfl rfl (zle_c rfl (zle_c rfl (zle_c rfl (zle_c rfl (zle_c rfl zle_n))))) rfl rfl (zle_c rfl (zle_c rfl (zle_c rfl (zle_c rfl (zle_c rfl (zle_c rfl (zle_c rfl (zle_c rfl zle_n)))))))) rfl rfl (zle_c rfl zle_n)) (Nat.le_of_ble_eq_true rfl) (Nat.le_of_ble_eq_true rfl) rfl rfl ?_
        refine zJ_i2l dX11_fear_100 rfl ?_
        obtain ⟨numbers_sizen5, numbers_toldn6, hcl, h⟩ := bd2_some h
        refine zJ_callV2 (mi := mX11_fear) (yi := mX6_put) (as := [.long rn4.toInt64]) (st := []) (L2 := ([(193, numbers_sizen5), (323, course_fences), (326, course_horseCount), (328, course_planCount), (769, course_rule_size)], [(6, course_kinds), (7, course_heights), (8, course_feet), (10, course_digits), (11, course_plans), (13, rule_codes), (15, rule_stack_29x), (16, rule_things_29x)], [(4, numbers_toldn6)])) dX11_fear_101 ML_X11_177 Yv_X6_put rfl zW_3 rfl rfl (t_X6_put l _ hcl) (zsub_i (zle_c rfl zle_n) zle_n (zle_c rfl zle_n)) (zjok_i rfl rfl (zle_c rfl (zle_c rfl (zle_c rfl (zle_c rfl (zle_c rfl zle_n))))) rfl rfl (zle_c rfl (zle_c rfl (zle_c rfl (zle_c rfl (zle_c rfl (zle_c rfl (zle_c rfl (zle_c rfl zle_n)))))))) rfl rfl (zle_c rfl zle_n)) (Nat.le_of_ble_eq_true rfl) (Nat.le_of_ble_eq_true rfl) rfl rfl ?_
        refine zJ_aload_n dX11_fear_104 rfl rfl ?_
        refine zJ_getr (mi := mX11_fear) dX11_fear_105 F_X11_19 zW_0 rfl rfl ?_
        refine zJ_aload_n dX11_fear_108 rfl rfl ?_
        refine zJ_getr (mi := mX11_fear) dX11_fear_109 F_X11_26 zW_0 rfl rfl ?_
        refine zJ_iload_n dX11_fear_112 rfl rfl ?_
        refine zJ_iload_n dX11_fear_113 rfl rfl ?_
        obtain ⟨rn7, rule_stackn8, rule_thingsn9, hcl, h⟩ := bd3_some h
        refine zJ_callV2 (mi := mX11_fear) (yi := mX1_clearOf) (as := [.int p1, .int p2]) (st := [.ref 3]) (L2 := ([(193, numbers_sizen5), (323, course_fences), (326, course_horseCount), (328, course_planCount), (769, course_rule_size)], [(6, course_kinds), (7, course_heights), (8, course_feet), (10, course_digits), (11, course_plans), (13, rule_codes), (15, rule_stackn8), (16, rule_thingsn9)], [(4, numbers_toldn6)])) dX11_fear_114 ML_X11_200 Yv_X1_clearOf rfl zW_5 rfl rfl (t_X1_clearOf l _ hcl) (zsub_i (zle_c rfl (zle_c rfl zle_n)) (zle_c rfl (zle_c rfl (zle_c rfl (zle_c rfl (zle_c rfl (zle_c rfl (zle_c rfl (zle_c rfl zle_n)))))))) zle_n) (zjok_i rfl rfl (zle_c rfl (zle_c rfl (zle_c rfl (zle_c rfl (zle_c rfl zle_n))))) rfl rfl (zle_c rfl (zle_c rfl (zle_c rfl (zle_c rfl (zle_c rfl (zle_c rfl (zle_c rfl (zle_c rfl zle_n)))))))) rfl rfl (zle_c rfl zle_n)) (Nat.le_of_ble_eq_true rfl) (Nat.le_of_ble_eq_true rfl) rfl rfl ?_
        refine zJ_i2l dX11_fear_117 rfl ?_
        obtain ⟨numbers_sizen10, numbers_toldn11, hcl, h⟩ := bd2_some h
        refine zJ_callV2 (mi := mX11_fear) (yi := mX6_put) (as := [.long rn7.toInt64]) (st := []) (L2 := ([(193, numbers_sizen10), (323, course_fences), (326, course_horseCount), (328, course_planCount), (769, course_rule_size)], [(6, course_kinds), (7, course_heights), (8, course_feet), (10, course_digits), (11, course_plans), (13, rule_codes), (15, rule_stackn8), (16, rule_thingsn9)], [(4, numbers_toldn11)])) dX11_fear_118 ML_X11_177 Yv_X6_put rfl zW_3 rfl rfl (t_X6_put l _ hcl) (zsub_i (zle_c rfl zle_n) zle_n (zle_c rfl zle_n)) (zjok_i rfl rfl (zle_c rfl (zle_c rfl (zle_c rfl (zle_c rfl (zle_c rfl zle_n))))) rfl rfl (zle_c rfl (zle_c rfl (zle_c rfl (zle_c rfl (zle_c rfl (zle_c rfl (zle_c rfl (zle_c rfl zle_n)))))))) rfl rfl (zle_c rfl zle_n)) (Nat.le_of_ble_eq_true rfl) (Nat.le_of_ble_eq_true rfl) rfl rfl ?_
        refine zJ_iload_n dX11_fear_121 rfl rfl ?_
        obtain ⟨rfl, rfl, rfl, rfl, rfl⟩ := so5 h
        exact zJ_iret dX11_fear_122 rfl rfl
      refine zJ_loc (ls' := [(0, .ref 0), (1, .int p1), (2, .int p2), (3, .int (0 : Int32)), (4, .int (0 : Int32))]) (zll_c rfl (zll_c rfl (zll_c rfl (zll_c rfl (zll_c rfl zll_n))))) ?_
      refine ml4_J (fun (v3_29 : Int32) (v4_29 : Int32) (rule_stack_29 : (Nat → Int32)) (rule_things_29 : (Nat → Int32)) => zJ l zW 5 mX11_fear σ ([(193, numbers_size), (323, course_fences), (326, course_horseCount), (328, course_planCount), (769, course_rule_size)], [(6, course_kinds), (7, course_heights), (8, course_feet), (10, course_digits), (11, course_plans), (13, rule_codes), (15, rule_stack_29), (16, rule_things_29)], [(4, numbers_told)]) 29 [(0, .ref 0), (1, .int p1), (2, .int p2), (3, .int v3_29), (4, .int v4_29)] [] (some (.int r)) ([(193, w_numbers_size), (323, course_fences), (326, course_horseCount), (328, course_planCount), (769, course_rule_size)], [(6, course_kinds), (7, course_heights), (8, course_feet), (10, course_digits), (11, course_plans), (13, rule_codes), (15, w_rule_stack), (16, w_rule_things)], [(4, w_numbers_told)])) (fun rc29 hrc29 v3_29 v4_29 rule_stack_29 rule_things_29 h => ?_) zN _ _ _ _ h
      unfold s_X11_fear_29 at h
      refine zJ_iload dX11_fear_29 rfl rfl ?_
      refine zJ_aload_n dX11_fear_31 rfl rfl ?_
      refine zJ_getr (mi := mX11_fear) dX11_fear_32 F_X11_26 zW_0 rfl rfl ?_
      refine zJ_geti (mi := mX11_fear) (x := course_fences) dX11_fear_35 F_X11_157 zW_5 rfl rfl rfl ?_
      refine zJ_icmp_ge (tgt := 81) dX11_fear_38 (by decide) rfl (fun hc => ?_) (fun hc => ?_)
      · replace h := it_t hc h
        refine zJ_loc (ls' := [(0, .ref 0), (1, .int p1), (2, .int p2), (3, .int v3_29)]) (zll_c rfl (zll_c rfl (zll_c rfl (zll_c rfl zll_n)))) ?_
        exact hk29 _ _ _ h
      · replace h := it_f hc h
        refine zJ_iload_n dX11_fear_41 rfl rfl ?_
        refine zJ_aload_n dX11_fear_42 rfl rfl ?_
        refine zJ_getr (mi := mX11_fear) dX11_fear_43 F_X11_26 zW_0 rfl rfl ?_
        refine zJ_iload_n dX11_fear_46 rfl rfl ?_
        refine zJ_iload dX11_fear_47 rfl rfl ?_
        refine zJ_aload_n dX11_fear_49 rfl rfl ?_
        refine zJ_getr (mi := mX11_fear) dX11_fear_50 F_X11_26 zW_0 rfl rfl ?_
        refine zJ_iload_n dX11_fear_53 rfl rfl ?_
        refine zJ_iload dX11_fear_54 rfl rfl ?_
        obtain ⟨rn12, hcl, h⟩ := bd1_some h
        refine zJ_callV2 (mi := mX11_fear) (yi := mX1_letterAt) (as := [.int p2, .int v4_29]) (st := [.int v4_29, .int p1, .ref 5, .int v3_29]) (L2 := ([(193, numbers_size), (323, course_fences), (326, course_horseCount), (328, course_planCount), (769, course_rule_size)], [(6, course_kinds), (7, course_heights), (8, course_feet), (10, course_digits), (11, course_plans), (13, rule_codes), (15, rule_stack_29), (16, rule_things_29)], [(4, numbers_told)])) dX11_fear_56 ML_X11_194 Yv_X1_letterAt rfl zW_5 rfl rfl (t_X1_letterAt l _ hcl) (zsub_i zle_n (zle_c rfl zle_n) zle_n) (zjok_i rfl rfl (zle_c rfl (zle_c rfl (zle_c rfl (zle_c rfl (zle_c rfl zle_n))))) rfl rfl (zle_c rfl (zle_c rfl (zle_c rfl (zle_c rfl (zle_c rfl (zle_c rfl (zle_c rfl (zle_c rfl zle_n)))))))) rfl rfl (zle_c rfl zle_n)) (Nat.le_of_ble_eq_true rfl) (Nat.le_of_ble_eq_true rfl) rfl rfl ?_
        obtain ⟨rn13, rule_stackn14, rule_thingsn15, hcl, h⟩ := bd3_some h
        refine zJ_callV2 (mi := mX11_fear) (yi := mX1_poleOdds) (as := [.int p1, .int v4_29, .int rn12]) (st := [.int v3_29]) (L2 := ([(193, numbers_size), (323, course_fences), (326, course_horseCount), (328, course_planCount), (769, course_rule_size)], [(6, course_kinds), (7, course_heights), (8, course_feet), (10, course_digits), (11, course_plans), (13, rule_codes), (15, rule_stackn14), (16, rule_thingsn15)], [(4, numbers_told)])) dX11_fear_59 ML_X11_187 Yv_X1_poleOdds rfl zW_5 rfl rfl (t_X1_poleOdds l _ hcl) (zsub_i (zle_c rfl zle_n) (zle_c rfl (zle_c rfl (zle_c rfl (zle_c rfl (zle_c rfl (zle_c rfl (zle_c rfl zle_n))))))) zle_n) (zjok_i rfl rfl (zle_c rfl (zle_c rfl (zle_c rfl (zle_c rfl (zle_c rfl zle_n))))) rfl rfl (zle_c rfl (zle_c rfl (zle_c rfl (zle_c rfl (zle_c rfl (zle_c rfl (zle_c rfl (zle_c rfl zle_n)))))))) rfl rfl (zle_c rfl zle_n)) (Nat.le_of_ble_eq_true rfl) (Nat.le_of_ble_eq_true rfl) rfl rfl ?_
        refine zJ_aload_n dX11_fear_62 rfl rfl ?_
        refine zJ_getr (mi := mX11_fear) dX11_fear_63 F_X11_26 zW_0 rfl rfl ?_
        refine zJ_iload_n dX11_fear_66 rfl rfl ?_
        refine zJ_iload dX11_fear_67 rfl rfl ?_
        obtain ⟨rn16, hcl, h⟩ := bd1_some h
        refine zJ_callV2 (mi := mX11_fear) (yi := mX1_refusalOdds) (as := [.int p1, .int v4_29]) (st := [.int rn13, .int v3_29]) (L2 := ([(193, numbers_size), (323, course_fences), (326, course_horseCount), (328, course_planCount), (769, course_rule_size)], [(6, course_kinds), (7, course_heights), (8, course_feet), (10, course_digits), (11, course_plans), (13, rule_codes), (15, rule_stackn14), (16, rule_thingsn15)], [(4, numbers_told)])) dX11_fear_69 ML_X11_174 Yv_X1_refusalOdds rfl zW_5 rfl rfl (t_X1_refusalOdds l _ hcl) (zsub_i zle_n (zle_c rfl (zle_c rfl (zle_c rfl zle_n))) zle_n) (zjok_i rfl rfl (zle_c rfl (zle_c rfl (zle_c rfl (zle_c rfl (zle_c rfl zle_n))))) rfl rfl (zle_c rfl (zle_c rfl (zle_c rfl (zle_c rfl (zle_c rfl (zle_c rfl (zle_c rfl (zle_c rfl zle_n)))))))) rfl rfl (zle_c rfl zle_n)) (Nat.le_of_ble_eq_true rfl) (Nat.le_of_ble_eq_true rfl) rfl rfl ?_
        refine zJ_iadd dX11_fear_72 rfl ?_
        refine zJ_iadd dX11_fear_73 rfl ?_
        obtain ⟨v3n17, ev3n17, h⟩ := lt1_some h
        refine zJ_nmi ev3n17 ?_
        refine zJ_istore_n (ls' := [(3, .int v3n17), (0, .ref 0), (1, .int p1), (2, .int p2), (4, .int v4_29)]) dX11_fear_74 rfl rfl rfl ?_
        obtain ⟨v4n18, ev4n18, h⟩ := lt1_some h
        refine zJ_iincN (ls' := [(4, .int v4n18), (3, .int v3n17), (0, .ref 0), (1, .int p1), (2, .int p2)]) dX11_fear_75 rfl rfl zc_1 ev4n18 rfl rfl ?_
        refine zJ_goto (tgt := 29) dX11_fear_78 (by decide) ?_
        refine zJ_loc (ls' := [(0, .ref 0), (1, .int p1), (2, .int p2), (3, .int v3n17), (4, .int v4n18)]) (zll_c rfl (zll_c rfl (zll_c rfl (zll_c rfl (zll_c rfl zll_n))))) ?_
        exact hrc29 _ _ _ _ h
    · replace h := it_t hc h
      refine zJ_iconst dX11_fear_22 zc_m1 rfl ?_
      obtain ⟨rfl, rfl, rfl, rfl, rfl⟩ := so5 h
      exact zJ_iret dX11_fear_23 rfl rfl
set_option maxRecDepth 100000 in
set_option maxHeartbeats 4000000 in
theorem t_X3_readPlayers (l : Launch) (σ : zS) {p2 : Int32} {p3 : Int32} {p4 : Int32} {text_size : Int32} {text_limit : Int32} {text_at : Int32} {play_players : Int32} {text_signs : (Nat → Int32)} {play_named : (Nat → Int32)} {r : Int32} {w_text_limit : Int32} {w_text_at : Int32} {w_play_players : Int32} {w_play_named : (Nat → Int32)} (h : f_X3_readPlayers p2 p3 p4 text_size text_limit text_at play_players text_signs play_named = some (r, w_text_limit, w_text_at, w_play_players, w_play_named)) : zMt l zW 2 mX3_readPlayers σ ([(65, text_size), (66, text_limit), (67, text_at), (2497, play_players)], [(2, text_signs), (40, play_named)], []) [.ref 39, .ref 1, .int p2, .int p3, .int p4] (some (.int r)) ([(65, text_size), (66, w_text_limit), (67, w_text_at), (2497, w_play_players)], [(2, text_signs), (40, w_play_named)], []) := by
  refine zMt_of (ls := [(0, .ref 39), (1, .ref 1), (2, .int p2), (3, .int p3), (4, .int p4)]) (by decide) rfl (fun _ => Nat.le_of_ble_eq_true rfl) rfl ?_
  unfold f_X3_readPlayers at h
  refine zJ_aload_n dX3_readPlayers_0 rfl rfl ?_
  refine zJ_bipush dX3_readPlayers_1 zb_80 rfl ?_
  obtain ⟨text_limitn1, text_atn2, hcl, h⟩ := bd2_some h
  refine zJ_callV2 (mi := mX3_readPlayers) (yi := mX9_open) (as := [.int (80 : Int32)]) (st := []) (L2 := ([(65, text_size), (66, text_limitn1), (67, text_atn2), (2497, play_players)], [(2, text_signs), (40, play_named)], [])) dX3_readPlayers_3 ML_X3_37 Yv_X9_open rfl zW_1 rfl rfl (t_X9_open l _ hcl) (zsub_i (zle_c rfl (zle_c rfl (zle_c rfl zle_n))) zle_n zle_n) (zjok_i rfl rfl (zle_c rfl (zle_c rfl (zle_c rfl (zle_c rfl zle_n)))) rfl rfl (zle_c rfl (zle_c rfl zle_n)) rfl rfl zle_n) (Nat.le_of_ble_eq_true rfl) (Nat.le_of_ble_eq_true rfl) rfl rfl ?_
  refine zJ_aload_n dX3_readPlayers_6 rfl rfl ?_
  refine zJ_iconst dX3_readPlayers_7 zc_0 rfl ?_
  refine zK_puti (mi := mX3_readPlayers) (la' := [(65, text_size), (66, text_limitn1), (67, text_atn2), (2497, (0 : Int32))]) zW_ok dX3_readPlayers_8 F_X3_43 P_3_1 zW_39 rfl rfl rfl ?_
  refine zJ_iconst dX3_readPlayers_11 zc_0 rfl ?_
  refine zJ_istore (ls' := [(5, .int (0 : Int32)), (0, .ref 39), (1, .ref 1), (2, .int p2), (3, .int p3), (4, .int p4)]) dX3_readPlayers_12 rfl rfl rfl ?_
  have hk14 : ∀ (text_at_14x : Int32) (play_players_14x : Int32) (play_named_14x : (Nat → Int32)), k_X3_readPlayers_14 p3 text_size text_limitn1 text_at_14x play_players_14x play_named_14x = some (r, w_text_limit, w_text_at, w_play_players, w_play_named) → zJ l zW 2 mX3_readPlayers σ ([(65, text_size), (66, text_limitn1), (67, text_at_14x), (2497, play_players_14x)], [(2, text_signs), (40, play_named_14x)], []) 74 [(0, .ref 39), (1, .ref 1), (3, .int p3)] [] (some (.int r)) ([(65, text_size), (66, w_text_limit), (67, w_text_at), (2497, w_play_players)], [(2, text_signs), (40, w_play_named)], []) := by
    intro text_at_14x play_players_14x play_named_14x h
    unfold k_X3_readPlayers_14 at h
    refine zJ_aload_n dX3_readPlayers_74 rfl rfl ?_
    refine zJ_geti (mi := mX3_readPlayers) (x := play_players_14x) dX3_readPlayers_75 F_X3_43 zW_39 rfl rfl rfl ?_
    refine zJ_iload_n dX3_readPlayers_78 rfl rfl ?_
    refine zJ_icmp_lt (tgt := 89) dX3_readPlayers_79 (by decide) rfl (fun hc => ?_) (fun hc => ?_)
    · replace h := it_t hc h
      refine zJ_aload_n dX3_readPlayers_89 rfl rfl ?_
      obtain ⟨rn3, hcl, h⟩ := bd1_some h
      refine zJ_callV2 (mi := mX3_readPlayers) (yi := mX9_fault) (as := []) (st := []) (L2 := ([(65, text_size), (66, text_limitn1), (67, text_at_14x), (2497, play_players_14x)], [(2, text_signs), (40, play_named_14x)], [])) dX3_readPlayers_90 ML_X3_55 Yv_X9_fault rfl zW_1 rfl rfl (t_X9_fault l _ hcl) (zsub_i (zle_c rfl zle_n) zle_n zle_n) (zjok_i rfl rfl (zle_c rfl (zle_c rfl (zle_c rfl (zle_c rfl zle_n)))) rfl rfl (zle_c rfl (zle_c rfl zle_n)) rfl rfl zle_n) (Nat.le_of_ble_eq_true rfl) (Nat.le_of_ble_eq_true rfl) rfl rfl ?_
      refine zJ_goto (tgt := 97) dX3_readPlayers_93 (by decide) ?_
      obtain ⟨rfl, rfl, rfl, rfl, rfl⟩ := so5 h
      exact zJ_iret dX3_readPlayers_97 rfl rfl
    · replace h := it_f hc h
      refine zJ_aload_n dX3_readPlayers_82 rfl rfl ?_
      obtain ⟨rn4, hcl, h⟩ := bd1_some h
      refine zJ_callV2 (mi := mX3_readPlayers) (yi := mX9_isDone) (as := []) (st := []) (L2 := ([(65, text_size), (66, text_limitn1), (67, text_at_14x), (2497, play_players_14x)], [(2, text_signs), (40, play_named_14x)], [])) dX3_readPlayers_83 ML_X3_47 Yv_X9_isDone rfl zW_1 rfl rfl (t_X9_isDone l _ hcl) (zsub_i (zle_c rfl (zle_c rfl zle_n)) zle_n zle_n) (zjok_i rfl rfl (zle_c rfl (zle_c rfl (zle_c rfl (zle_c rfl zle_n)))) rfl rfl (zle_c rfl (zle_c rfl zle_n)) rfl rfl zle_n) (Nat.le_of_ble_eq_true rfl) (Nat.le_of_ble_eq_true rfl) rfl rfl ?_
      refine zJ_if_ne (tgt := 96) dX3_readPlayers_86 (by decide) rfl (fun hc => ?_) (fun hc => ?_)
      · replace h := it_f hc h
        refine zJ_iconst dX3_readPlayers_96 zc_0 rfl ?_
        obtain ⟨rfl, rfl, rfl, rfl, rfl⟩ := so5 h
        exact zJ_iret dX3_readPlayers_97 rfl rfl
      · replace h := it_t hc h
        refine zJ_aload_n dX3_readPlayers_89 rfl rfl ?_
        obtain ⟨rn5, hcl, h⟩ := bd1_some h
        refine zJ_callV2 (mi := mX3_readPlayers) (yi := mX9_fault) (as := []) (st := []) (L2 := ([(65, text_size), (66, text_limitn1), (67, text_at_14x), (2497, play_players_14x)], [(2, text_signs), (40, play_named_14x)], [])) dX3_readPlayers_90 ML_X3_55 Yv_X9_fault rfl zW_1 rfl rfl (t_X9_fault l _ hcl) (zsub_i (zle_c rfl zle_n) zle_n zle_n) (zjok_i rfl rfl (zle_c rfl (zle_c rfl (zle_c rfl (zle_c rfl zle_n)))) rfl rfl (zle_c rfl (zle_c rfl zle_n)) rfl rfl zle_n) (Nat.le_of_ble_eq_true rfl) (Nat.le_of_ble_eq_true rfl) rfl rfl ?_
        refine zJ_goto (tgt := 97) dX3_readPlayers_93 (by decide) ?_
        obtain ⟨rfl, rfl, rfl, rfl, rfl⟩ := so5 h
        exact zJ_iret dX3_readPlayers_97 rfl rfl
  refine zJ_loc (ls' := [(0, .ref 39), (1, .ref 1), (2, .int p2), (3, .int p3), (4, .int p4), (5, .int (0 : Int32))]) (zll_c rfl (zll_c rfl (zll_c rfl (zll_c rfl (zll_c rfl (zll_c rfl zll_n)))))) ?_
  refine ml4_J (fun (v5_14 : Int32) (text_at_14 : Int32) (play_players_14 : Int32) (play_named_14 : (Nat → Int32)) => zJ l zW 2 mX3_readPlayers σ ([(65, text_size), (66, text_limitn1), (67, text_at_14), (2497, play_players_14)], [(2, text_signs), (40, play_named_14)], []) 14 [(0, .ref 39), (1, .ref 1), (2, .int p2), (3, .int p3), (4, .int p4), (5, .int v5_14)] [] (some (.int r)) ([(65, text_size), (66, w_text_limit), (67, w_text_at), (2497, w_play_players)], [(2, text_signs), (40, w_play_named)], [])) (fun rc14 hrc14 v5_14 text_at_14 play_players_14 play_named_14 h => ?_) zN _ _ _ _ h
  unfold s_X3_readPlayers_14 at h
  refine zJ_iload dX3_readPlayers_14 rfl rfl ?_
  refine zJ_iload dX3_readPlayers_16 rfl rfl ?_
  refine zJ_icmp_ge (tgt := 74) dX3_readPlayers_18 (by decide) rfl (fun hc => ?_) (fun hc => ?_)
  · replace h := it_t hc h
    refine zJ_loc (ls' := [(0, .ref 39), (1, .ref 1), (3, .int p3)]) (zll_c rfl (zll_c rfl (zll_c rfl zll_n))) ?_
    exact hk14 _ _ _ h
  · replace h := it_f hc h
    refine zJ_aload_n dX3_readPlayers_21 rfl rfl ?_
    obtain ⟨rn6, hcl, h⟩ := bd1_some h
    refine zJ_callV2 (mi := mX3_readPlayers) (yi := mX9_isDone) (as := []) (st := []) (L2 := ([(65, text_size), (66, text_limitn1), (67, text_at_14), (2497, play_players_14)], [(2, text_signs), (40, play_named_14)], [])) dX3_readPlayers_22 ML_X3_47 Yv_X9_isDone rfl zW_1 rfl rfl (t_X9_isDone l _ hcl) (zsub_i (zle_c rfl (zle_c rfl zle_n)) zle_n zle_n) (zjok_i rfl rfl (zle_c rfl (zle_c rfl (zle_c rfl (zle_c rfl zle_n)))) rfl rfl (zle_c rfl (zle_c rfl zle_n)) rfl rfl zle_n) (Nat.le_of_ble_eq_true rfl) (Nat.le_of_ble_eq_true rfl) rfl rfl ?_
    refine zJ_if_ne (tgt := 74) dX3_readPlayers_25 (by decide) rfl (fun hc => ?_) (fun hc => ?_)
    · replace h := it_f hc h
      refine zJ_loc (ls' := [(0, .ref 39), (1, .ref 1), (3, .int p3)]) (zll_c rfl (zll_c rfl (zll_c rfl zll_n))) ?_
      exact hk14 _ _ _ h
    · replace h := it_t hc h
      refine zJ_aload_n dX3_readPlayers_28 rfl rfl ?_
      refine zJ_iconst dX3_readPlayers_29 zc_0 rfl ?_
      refine zJ_iload_n dX3_readPlayers_30 rfl rfl ?_
      refine zJ_iconst dX3_readPlayers_31 zc_1 rfl ?_
      refine zJ_isub dX3_readPlayers_32 rfl ?_
      obtain ⟨rn7, text_atn8, hcl, h⟩ := bd2_some h
      refine zJ_callV2 (mi := mX3_readPlayers) (yi := mX9_digit) (as := [.int (0 : Int32), .int (p2 - (1 : Int32))]) (st := []) (L2 := ([(65, text_size), (66, text_limitn1), (67, text_atn8), (2497, play_players_14)], [(2, text_signs), (40, play_named_14)], [])) dX3_readPlayers_33 ML_X3_51 Yv_X9_digit rfl zW_1 rfl rfl (t_X9_digit l _ hcl) (zsub_i (zle_c rfl (zle_c rfl zle_n)) (zle_c rfl zle_n) zle_n) (zjok_i rfl rfl (zle_c rfl (zle_c rfl (zle_c rfl (zle_c rfl zle_n)))) rfl rfl (zle_c rfl (zle_c rfl zle_n)) rfl rfl zle_n) (Nat.le_of_ble_eq_true rfl) (Nat.le_of_ble_eq_true rfl) rfl rfl ?_
      refine zJ_istore (ls' := [(6, .int rn7), (0, .ref 39), (1, .ref 1), (2, .int p2), (3, .int p3), (4, .int p4), (5, .int v5_14)]) dX3_readPlayers_36 rfl rfl rfl ?_
      refine zJ_iload dX3_readPlayers_38 rfl rfl ?_
      refine zJ_iconst dX3_readPlayers_40 zc_m1 rfl ?_
      refine zJ_icmp_ne (tgt := 49) dX3_readPlayers_41 (by decide) rfl (fun hc => ?_) (fun hc => ?_)
      · replace h := it_f hc h
        refine zJ_aload_n dX3_readPlayers_49 rfl rfl ?_
        refine zJ_getr (mi := mX3_readPlayers) dX3_readPlayers_50 F_X3_11 zW_39 rfl rfl ?_
        refine zJ_iload dX3_readPlayers_53 rfl rfl ?_
        refine zJ_iload dX3_readPlayers_55 rfl rfl ?_
        obtain ⟨hg, h⟩ := gd_some h
        refine zK_iast (mi := mX3_readPlayers) (f := play_named_14) (lb' := [(2, text_signs), (40, (upd play_named_14 v5_14.toNatClampNeg rn7))]) dX3_readPlayers_57 zW_40 (ix_in hg) rfl rfl rfl ?_
        refine zJ_aload_n dX3_readPlayers_58 rfl rfl ?_
        refine zJ_dup dX3_readPlayers_59 rfl rfl ?_
        refine zJ_geti (mi := mX3_readPlayers) (x := play_players_14) dX3_readPlayers_60 F_X3_43 zW_39 rfl rfl rfl ?_
        refine zJ_iconst dX3_readPlayers_63 zc_1 rfl ?_
        refine zJ_iadd dX3_readPlayers_64 rfl ?_
        refine zK_puti (mi := mX3_readPlayers) (la' := [(65, text_size), (66, text_limitn1), (67, text_atn8), (2497, (play_players_14 + (1 : Int32)))]) zW_ok dX3_readPlayers_65 F_X3_43 P_3_1 zW_39 rfl rfl rfl ?_
        obtain ⟨v5n9, ev5n9, h⟩ := lt1_some h
        refine zJ_iincN (ls' := [(5, .int v5n9), (6, .int rn7), (0, .ref 39), (1, .ref 1), (2, .int p2), (3, .int p3), (4, .int p4)]) dX3_readPlayers_68 rfl rfl zc_1 ev5n9 rfl rfl ?_
        refine zJ_goto (tgt := 14) dX3_readPlayers_71 (by decide) ?_
        refine zJ_loc (ls' := [(0, .ref 39), (1, .ref 1), (2, .int p2), (3, .int p3), (4, .int p4), (5, .int v5n9)]) (zll_c rfl (zll_c rfl (zll_c rfl (zll_c rfl (zll_c rfl (zll_c rfl zll_n)))))) ?_
        exact hrc14 _ _ _ _ h
      · replace h := it_t hc h
        refine zJ_aload_n dX3_readPlayers_44 rfl rfl ?_
        obtain ⟨rn10, hcl, h⟩ := bd1_some h
        refine zJ_callV2 (mi := mX3_readPlayers) (yi := mX9_fault) (as := []) (st := []) (L2 := ([(65, text_size), (66, text_limitn1), (67, text_atn8), (2497, play_players_14)], [(2, text_signs), (40, play_named_14)], [])) dX3_readPlayers_45 ML_X3_55 Yv_X9_fault rfl zW_1 rfl rfl (t_X9_fault l _ hcl) (zsub_i (zle_c rfl zle_n) zle_n zle_n) (zjok_i rfl rfl (zle_c rfl (zle_c rfl (zle_c rfl (zle_c rfl zle_n)))) rfl rfl (zle_c rfl (zle_c rfl zle_n)) rfl rfl zle_n) (Nat.le_of_ble_eq_true rfl) (Nat.le_of_ble_eq_true rfl) rfl rfl ?_
        obtain ⟨rfl, rfl, rfl, rfl, rfl⟩ := so5 h
        exact zJ_iret dX3_readPlayers_48 rfl rfl
set_option maxRecDepth 100000 in
set_option maxHeartbeats 4000000 in
theorem t_X9_clear (l : Launch) (σ : zS) {text_size : Int32} {w_text_size : Int32} (h : f_X9_clear text_size = some w_text_size) : zMt l zW 0 mX9_clear σ ([(65, text_size)], [], []) [.ref 1] none ([(65, w_text_size)], [], []) := by
  refine zMt_of (ls := [(0, .ref 1)]) (by decide) rfl (fun _ => Nat.le_of_ble_eq_true rfl) rfl ?_
  unfold f_X9_clear at h
  refine zJ_aload_n dX9_clear_0 rfl rfl ?_
  refine zJ_iconst dX9_clear_1 zc_0 rfl ?_
  refine zK_puti (mi := mX9_clear) (la' := [(65, (0 : Int32))]) zW_ok dX9_clear_2 F_X9_15 P_9_1 zW_1 rfl rfl rfl ?_
  obtain rfl := so1 h
  exact zJ_vret dX9_clear_5 rfl
set_option maxRecDepth 100000 in
set_option maxHeartbeats 4000000 in
theorem t_X11_readPlayers (l : Launch) (σ : zS) {p1 : Int32} {p2 : Int32} {text_size : Int32} {text_limit : Int32} {text_at : Int32} {course_horseCount : Int32} {course_planCount : Int32} {play_players : Int32} {text_signs : (Nat → Int32)} {play_named : (Nat → Int32)} {r : Int32} {w_text_size : Int32} {w_text_limit : Int32} {w_text_at : Int32} {w_play_players : Int32} {w_play_named : (Nat → Int32)} (h : f_X11_readPlayers p1 p2 text_size text_limit text_at course_horseCount course_planCount play_players text_signs play_named = some (r, w_text_size, w_text_limit, w_text_at, w_play_players, w_play_named)) : zMt l zW 3 mX11_readPlayers σ ([(65, text_size), (66, text_limit), (67, text_at), (326, course_horseCount), (328, course_planCount), (2497, play_players)], [(2, text_signs), (40, play_named)], []) [.ref 0, .int p1, .int p2] (some (.int r)) ([(65, w_text_size), (66, w_text_limit), (67, w_text_at), (326, course_horseCount), (328, course_planCount), (2497, w_play_players)], [(2, text_signs), (40, w_play_named)], []) := by
  refine zMt_of (ls := [(0, .ref 0), (1, .int p1), (2, .int p2)]) (by decide) rfl (fun _ => Nat.le_of_ble_eq_true rfl) rfl ?_
  unfold f_X11_readPlayers at h
  refine zJ_aload_n dX11_readPlayers_0 rfl rfl ?_
  refine zJ_getr (mi := mX11_readPlayers) dX11_readPlayers_1 F_X11_26 zW_0 rfl rfl ?_
  refine zJ_geti (mi := mX11_readPlayers) (x := course_planCount) dX11_readPlayers_4 F_X11_362 zW_5 rfl rfl rfl ?_
  refine zJ_if_ne (tgt := 15) dX11_readPlayers_7 (by decide) rfl (fun hc => ?_) (fun hc => ?_)
  · replace h := it_f hc h
    refine zJ_aload_n dX11_readPlayers_15 rfl rfl ?_
    refine zJ_getr (mi := mX11_readPlayers) dX11_readPlayers_16 F_X11_66 zW_0 rfl rfl ?_
    refine zJ_aload_n dX11_readPlayers_19 rfl rfl ?_
    refine zJ_getr (mi := mX11_readPlayers) dX11_readPlayers_20 F_X11_10 zW_0 rfl rfl ?_
    refine zJ_aload_n dX11_readPlayers_23 rfl rfl ?_
    refine zJ_getr (mi := mX11_readPlayers) dX11_readPlayers_24 F_X11_26 zW_0 rfl rfl ?_
    refine zJ_geti (mi := mX11_readPlayers) (x := course_horseCount) dX11_readPlayers_27 F_X11_368 zW_5 rfl rfl rfl ?_
    refine zJ_iload_n dX11_readPlayers_30 rfl rfl ?_
    refine zJ_iload_n dX11_readPlayers_31 rfl rfl ?_
    obtain ⟨rn1, text_limitn2, text_atn3, play_playersn4, play_namedn5, hcl, h⟩ := bd5_some h
    refine zJ_callV2 (mi := mX11_readPlayers) (yi := mX3_readPlayers) (as := [.ref 1, .int course_horseCount, .int p1, .int p2]) (st := []) (L2 := ([(65, text_size), (66, text_limitn2), (67, text_atn3), (326, course_horseCount), (328, course_planCount), (2497, play_playersn4)], [(2, text_signs), (40, play_namedn5)], [])) dX11_readPlayers_32 ML_X11_403 Yv_X3_readPlayers rfl zW_39 rfl rfl (t_X3_readPlayers l _ hcl) (zsub_i (zle_c rfl (zle_c rfl (zle_c rfl (zle_c rfl zle_n)))) (zle_c rfl (zle_c rfl zle_n)) zle_n) (zjok_i rfl rfl (zle_c rfl (zle_c rfl (zle_c rfl (zle_c rfl (zle_c rfl (zle_c rfl zle_n)))))) rfl rfl (zle_c rfl (zle_c rfl zle_n)) rfl rfl zle_n) (Nat.le_of_ble_eq_true rfl) (Nat.le_of_ble_eq_true rfl) rfl rfl ?_
    refine zJ_istore_n (ls' := [(3, .int rn1), (0, .ref 0), (1, .int p1), (2, .int p2)]) dX11_readPlayers_35 rfl rfl rfl ?_
    refine zJ_aload_n dX11_readPlayers_36 rfl rfl ?_
    refine zJ_getr (mi := mX11_readPlayers) dX11_readPlayers_37 F_X11_10 zW_0 rfl rfl ?_
    obtain ⟨text_sizen6, hcl, h⟩ := bd1_some h
    refine zJ_callV2 (mi := mX11_readPlayers) (yi := mX9_clear) (as := []) (st := []) (L2 := ([(65, text_sizen6), (66, text_limitn2), (67, text_atn3), (326, course_horseCount), (328, course_planCount), (2497, play_playersn4)], [(2, text_signs), (40, play_namedn5)], [])) dX11_readPlayers_40 ML_X11_104 Yv_X9_clear rfl zW_1 rfl rfl (t_X9_clear l _ hcl) (zsub_i (zle_c rfl zle_n) zle_n zle_n) (zjok_i rfl rfl (zle_c rfl (zle_c rfl (zle_c rfl (zle_c rfl (zle_c rfl (zle_c rfl zle_n)))))) rfl rfl (zle_c rfl (zle_c rfl zle_n)) rfl rfl zle_n) (Nat.le_of_ble_eq_true rfl) (Nat.le_of_ble_eq_true rfl) rfl rfl ?_
    refine zJ_iload_n dX11_readPlayers_43 rfl rfl ?_
    obtain ⟨rfl, rfl, rfl, rfl, rfl, rfl⟩ := so6 h
    exact zJ_iret dX11_readPlayers_44 rfl rfl
  · replace h := it_t hc h
    refine zJ_bipush dX11_readPlayers_10 zb_m100 rfl ?_
    refine zJ_goto (tgt := 35) dX11_readPlayers_12 (by decide) ?_
    refine zJ_istore_n (ls' := [(3, .int (-100 : Int32)), (0, .ref 0), (1, .int p1), (2, .int p2)]) dX11_readPlayers_35 rfl rfl rfl ?_
    refine zJ_aload_n dX11_readPlayers_36 rfl rfl ?_
    refine zJ_getr (mi := mX11_readPlayers) dX11_readPlayers_37 F_X11_10 zW_0 rfl rfl ?_
    obtain ⟨text_sizen7, hcl, h⟩ := bd1_some h
    refine zJ_callV2 (mi := mX11_readPlayers) (yi := mX9_clear) (as := []) (st := []) (L2 := ([(65, text_sizen7), (66, text_limit), (67, text_at), (326, course_horseCount), (328, course_planCount), (2497, play_players)], [(2, text_signs), (40, play_named)], [])) dX11_readPlayers_40 ML_X11_104 Yv_X9_clear rfl zW_1 rfl rfl (t_X9_clear l _ hcl) (zsub_i (zle_c rfl zle_n) zle_n zle_n) (zjok_i rfl rfl (zle_c rfl (zle_c rfl (zle_c rfl (zle_c rfl (zle_c rfl (zle_c rfl zle_n)))))) rfl rfl (zle_c rfl (zle_c rfl zle_n)) rfl rfl zle_n) (Nat.le_of_ble_eq_true rfl) (Nat.le_of_ble_eq_true rfl) rfl rfl ?_
    refine zJ_iload_n dX11_readPlayers_43 rfl rfl ?_
    obtain ⟨rfl, rfl, rfl, rfl, rfl, rfl⟩ := so6 h
    exact zJ_iret dX11_readPlayers_44 rfl rfl
set_option maxRecDepth 100000 in
set_option maxHeartbeats 4000000 in
theorem t_X3_begin (l : Launch) (σ : zS) {course_fences : Int32} {course_planCount : Int32} {course_allowed : Int32} {rounds_size : Int32} {play_plans : Int32} {course_kinds : (Nat → Int32)} {course_feet : (Nat → Int32)} {course_plans : (Nat → Int32)} {rounds_faults : (Nat → Int32)} {rounds_tenths : (Nat → Int32)} {play_faults : (Nat → Int32)} {play_tenths : (Nat → Int32)} {play_places : (Nat → Int32)} {w_play_plans : Int32} {w_play_faults : (Nat → Int32)} {w_play_tenths : (Nat → Int32)} {w_play_places : (Nat → Int32)} (h : f_X3_begin course_fences course_planCount course_allowed rounds_size play_plans course_kinds course_feet course_plans rounds_faults rounds_tenths play_faults play_tenths play_places = some (w_play_plans, w_play_faults, w_play_tenths, w_play_places)) : zMt l zW 3 mX3_begin σ ([(323, course_fences), (328, course_planCount), (329, course_allowed), (1284, rounds_size), (2498, play_plans)], [(6, course_kinds), (8, course_feet), (11, course_plans), (23, rounds_faults), (24, rounds_tenths), (41, play_faults), (42, play_tenths), (43, play_places)], []) [.ref 39, .ref 5, .ref 20] none ([(323, course_fences), (328, course_planCount), (329, course_allowed), (1284, rounds_size), (2498, w_play_plans)], [(6, course_kinds), (8, course_feet), (11, course_plans), (23, rounds_faults), (24, rounds_tenths), (41, w_play_faults), (42, w_play_tenths), (43, w_play_places)], []) := by
  refine zMt_of (ls := [(0, .ref 39), (1, .ref 5), (2, .ref 20)]) (by decide) rfl (fun _ => Nat.le_of_ble_eq_true rfl) rfl ?_
  unfold f_X3_begin at h
  refine zJ_aload_n dX3_begin_0 rfl rfl ?_
  refine zJ_aload_n dX3_begin_1 rfl rfl ?_
  refine zJ_geti (mi := mX3_begin) (x := course_planCount) dX3_begin_2 F_X3_59 zW_5 rfl rfl rfl ?_
  refine zK_puti (mi := mX3_begin) (la' := [(323, course_fences), (328, course_planCount), (329, course_allowed), (1284, rounds_size), (2498, course_planCount)]) zW_ok dX3_begin_5 F_X3_64 P_3_2 zW_39 rfl rfl rfl ?_
  refine zJ_iconst dX3_begin_8 zc_0 rfl ?_
  refine zJ_istore_n (ls' := [(3, .int (0 : Int32)), (0, .ref 39), (1, .ref 5), (2, .ref 20)]) dX3_begin_9 rfl rfl rfl ?_
  have hk10 : ∀ (play_faults_10x : (Nat → Int32)) (play_tenths_10x : (Nat → Int32)) (play_places_10x : (Nat → Int32)), k_X3_begin_10 course_planCount play_faults_10x play_tenths_10x play_places_10x = some (w_play_plans, w_play_faults, w_play_tenths, w_play_places) → zJ l zW 3 mX3_begin σ ([(323, course_fences), (328, course_planCount), (329, course_allowed), (1284, rounds_size), (2498, course_planCount)], [(6, course_kinds), (8, course_feet), (11, course_plans), (23, rounds_faults), (24, rounds_tenths), (41, play_faults_10x), (42, play_tenths_10x), (43, play_places_10x)], []) 114 [] [] none ([(323, course_fences), (328, course_planCount), (329, course_allowed), (1284, rounds_size), (2498, w_play_plans)], [(6, course_kinds), (8, course_feet), (11, course_plans), (23, rounds_faults), (24, rounds_tenths), (41, w_play_faults), (42, w_play_tenths), (43, w_play_places)], []) := by
    intro play_faults_10x play_tenths_10x play_places_10x h
    unfold k_X3_begin_10 at h
    obtain ⟨rfl, rfl, rfl, rfl⟩ := so4 h
    exact zJ_vret dX3_begin_114 rfl
  refine zJ_loc (ls' := [(0, .ref 39), (1, .ref 5), (2, .ref 20), (3, .int (0 : Int32))]) (zll_c rfl (zll_c rfl (zll_c rfl (zll_c rfl zll_n)))) ?_
  refine ml4_J (fun (v3_10 : Int32) (play_faults_10 : (Nat → Int32)) (play_tenths_10 : (Nat → Int32)) (play_places_10 : (Nat → Int32)) => zJ l zW 3 mX3_begin σ ([(323, course_fences), (328, course_planCount), (329, course_allowed), (1284, rounds_size), (2498, course_planCount)], [(6, course_kinds), (8, course_feet), (11, course_plans), (23, rounds_faults), (24, rounds_tenths), (41, play_faults_10), (42, play_tenths_10), (43, play_places_10)], []) 10 [(0, .ref 39), (1, .ref 5), (2, .ref 20), (3, .int v3_10)] [] none ([(323, course_fences), (328, course_planCount), (329, course_allowed), (1284, rounds_size), (2498, w_play_plans)], [(6, course_kinds), (8, course_feet), (11, course_plans), (23, rounds_faults), (24, rounds_tenths), (41, w_play_faults), (42, w_play_tenths), (43, w_play_places)], [])) (fun rc10 hrc10 v3_10 play_faults_10 play_tenths_10 play_places_10 h => ?_) zN _ _ _ _ h
  unfold s_X3_begin_10 at h
  refine zJ_iload_n dX3_begin_10 rfl rfl ?_
  refine zJ_aload_n dX3_begin_11 rfl rfl ?_
  refine zJ_geti (mi := mX3_begin) (x := course_planCount) dX3_begin_12 F_X3_64 zW_39 rfl rfl rfl ?_
  refine zJ_icmp_ge (tgt := 114) dX3_begin_15 (by decide) rfl (fun hc => ?_) (fun hc => ?_)
  · replace h := it_t hc h
    refine zJ_loc (ls' := []) zll_n ?_
    exact hk10 _ _ _ h
  · replace h := it_f hc h
    refine zJ_aload_n dX3_begin_18 rfl rfl ?_
    refine zJ_iload_n dX3_begin_19 rfl rfl ?_
    obtain ⟨rn1, hcl, h⟩ := bd1_some h
    refine zJ_callV2 (mi := mX3_begin) (yi := mX1_planTenths) (as := [.int v3_10]) (st := []) (L2 := ([(323, course_fences), (328, course_planCount), (329, course_allowed), (1284, rounds_size), (2498, course_planCount)], [(6, course_kinds), (8, course_feet), (11, course_plans), (23, rounds_faults), (24, rounds_tenths), (41, play_faults_10), (42, play_tenths_10), (43, play_places_10)], [])) dX3_begin_20 ML_X3_67 Yv_X1_planTenths rfl zW_5 rfl rfl (t_X1_planTenths l _ hcl) (zsub_i (zle_c rfl zle_n) (zle_c rfl (zle_c rfl (zle_c rfl zle_n))) zle_n) (zjok_i rfl rfl (zle_c rfl (zle_c rfl (zle_c rfl (zle_c rfl (zle_c rfl zle_n))))) rfl rfl (zle_c rfl (zle_c rfl (zle_c rfl (zle_c rfl (zle_c rfl (zle_c rfl (zle_c rfl (zle_c rfl zle_n)))))))) rfl rfl zle_n) (Nat.le_of_ble_eq_true rfl) (Nat.le_of_ble_eq_true rfl) rfl rfl ?_
    refine zJ_istore (ls' := [(4, .int rn1), (0, .ref 39), (1, .ref 5), (2, .ref 20), (3, .int v3_10)]) dX3_begin_23 rfl rfl rfl ?_
    refine zJ_iload dX3_begin_25 rfl rfl ?_
    refine zJ_aload_n dX3_begin_27 rfl rfl ?_
    refine zJ_geti (mi := mX3_begin) (x := course_allowed) dX3_begin_28 F_X3_71 zW_5 rfl rfl rfl ?_
    refine zJ_bipush dX3_begin_31 zb_40 rfl ?_
    obtain ⟨rn2, hcl, h⟩ := bd1_some h
    refine zJ_callS2 (mi := mX3_begin) (yi := mX11_begun) (as := [.int rn1, .int course_allowed, .int (40 : Int32)]) (st := []) (L2 := ([(323, course_fences), (328, course_planCount), (329, course_allowed), (1284, rounds_size), (2498, course_planCount)], [(6, course_kinds), (8, course_feet), (11, course_plans), (23, rounds_faults), (24, rounds_tenths), (41, play_faults_10), (42, play_tenths_10), (43, play_places_10)], [])) dX3_begin_33 ML_X3_74 Ys_X11_begun rfl (t_X11_begun l _ hcl) (zsub_i zle_n zle_n zle_n) (zjok_i rfl rfl (zle_c rfl (zle_c rfl (zle_c rfl (zle_c rfl (zle_c rfl zle_n))))) rfl rfl (zle_c rfl (zle_c rfl (zle_c rfl (zle_c rfl (zle_c rfl (zle_c rfl (zle_c rfl (zle_c rfl zle_n)))))))) rfl rfl zle_n) (Nat.le_of_ble_eq_true rfl) (Nat.le_of_ble_eq_true rfl) rfl rfl ?_
    refine zJ_istore (ls' := [(5, .int rn2), (4, .int rn1), (0, .ref 39), (1, .ref 5), (2, .ref 20), (3, .int v3_10)]) dX3_begin_36 rfl rfl rfl ?_
    refine zJ_iconst dX3_begin_38 zc_0 rfl ?_
    refine zJ_istore (ls' := [(6, .int (0 : Int32)), (5, .int rn2), (4, .int rn1), (0, .ref 39), (1, .ref 5), (2, .ref 20), (3, .int v3_10)]) dX3_begin_39 rfl rfl rfl ?_
    have hk41 : ∀ (play_faults_41x : (Nat → Int32)) (play_tenths_41x : (Nat → Int32)) (play_places_41x : (Nat → Int32)), k_X3_begin_41 rc10 v3_10 play_faults_41x play_tenths_41x play_places_41x = some (w_play_plans, w_play_faults, w_play_tenths, w_play_places) → zJ l zW 3 mX3_begin σ ([(323, course_fences), (328, course_planCount), (329, course_allowed), (1284, rounds_size), (2498, course_planCount)], [(6, course_kinds), (8, course_feet), (11, course_plans), (23, rounds_faults), (24, rounds_tenths), (41, play_faults_41x), (42, play_tenths_41x), (43, play_places_41x)], []) 108 [(0, .ref 39), (1, .ref 5), (2, .ref 20), (3, .int v3_10)] [] none ([(323, course_fences), (328, course_planCount), (329, course_allowed), (1284, rounds_size), (2498, w_play_plans)], [(6, course_kinds), (8, course_feet), (11, course_plans), (23, rounds_faults), (24, rounds_tenths), (41, w_play_faults), (42, w_play_tenths), (43, w_play_places)], []) := by
      intro play_faults_41x play_tenths_41x play_places_41x h
      unfold k_X3_begin_41 at h
      obtain ⟨v3n3, ev3n3, h⟩ := lt1_some h
      refine zJ_iincN (ls' := [(3, .int v3n3), (0, .ref 39), (1, .ref 5), (2, .ref 20)]) dX3_begin_108 rfl rfl zc_1 ev3n3 rfl rfl ?_
      refine zJ_goto (tgt := 10) dX3_begin_111 (by decide) ?_
      refine zJ_loc (ls' := [(0, .ref 39), (1, .ref 5), (2, .ref 20), (3, .int v3n3)]) (zll_c rfl (zll_c rfl (zll_c rfl (zll_c rfl zll_n)))) ?_
      exact hrc10 _ _ _ _ h
    refine zJ_loc (ls' := [(0, .ref 39), (1, .ref 5), (2, .ref 20), (3, .int v3_10), (4, .int rn1), (5, .int rn2), (6, .int (0 : Int32))]) (zll_c rfl (zll_c rfl (zll_c rfl (zll_c rfl (zll_c rfl (zll_c rfl (zll_c rfl zll_n))))))) ?_
    refine ml4_J (fun (v6_41 : Int32) (play_faults_41 : (Nat → Int32)) (play_tenths_41 : (Nat → Int32)) (play_places_41 : (Nat → Int32)) => zJ l zW 3 mX3_begin σ ([(323, course_fences), (328, course_planCount), (329, course_allowed), (1284, rounds_size), (2498, course_planCount)], [(6, course_kinds), (8, course_feet), (11, course_plans), (23, rounds_faults), (24, rounds_tenths), (41, play_faults_41), (42, play_tenths_41), (43, play_places_41)], []) 41 [(0, .ref 39), (1, .ref 5), (2, .ref 20), (3, .int v3_10), (4, .int rn1), (5, .int rn2), (6, .int v6_41)] [] none ([(323, course_fences), (328, course_planCount), (329, course_allowed), (1284, rounds_size), (2498, w_play_plans)], [(6, course_kinds), (8, course_feet), (11, course_plans), (23, rounds_faults), (24, rounds_tenths), (41, w_play_faults), (42, w_play_tenths), (43, w_play_places)], [])) (fun rc41 hrc41 v6_41 play_faults_41 play_tenths_41 play_places_41 h => ?_) zN _ _ _ _ h
    unfold s_X3_begin_41 at h
    refine zJ_iload dX3_begin_41 rfl rfl ?_
    refine zJ_iconst dX3_begin_43 zc_2 rfl ?_
    refine zJ_icmp_ge (tgt := 108) dX3_begin_44 (by decide) rfl (fun hc => ?_) (fun hc => ?_)
    · replace h := it_t hc h
      refine zJ_loc (ls' := [(0, .ref 39), (1, .ref 5), (2, .ref 20), (3, .int v3_10)]) (zll_c rfl (zll_c rfl (zll_c rfl (zll_c rfl zll_n)))) ?_
      exact hk41 _ _ _ h
    · replace h := it_f hc h
      refine zJ_aload_n dX3_begin_47 rfl rfl ?_
      refine zJ_getr (mi := mX3_begin) dX3_begin_48 F_X3_15 zW_39 rfl rfl ?_
      refine zJ_iconst dX3_begin_51 zc_2 rfl ?_
      refine zJ_iload_n dX3_begin_52 rfl rfl ?_
      refine zJ_imul dX3_begin_53 rfl ?_
      refine zJ_iload dX3_begin_54 rfl rfl ?_
      refine zJ_iadd dX3_begin_56 rfl ?_
      refine zJ_iload dX3_begin_57 rfl rfl ?_
      refine zJ_iload dX3_begin_59 rfl rfl ?_
      refine zJ_iconst dX3_begin_61 zc_4 rfl ?_
      refine zJ_imul dX3_begin_62 rfl ?_
      refine zJ_iadd dX3_begin_63 rfl ?_
      obtain ⟨hg, h⟩ := gd_some h
      refine zK_iast (mi := mX3_begin) (f := play_faults_41) (lb' := [(6, course_kinds), (8, course_feet), (11, course_plans), (23, rounds_faults), (24, rounds_tenths), (41, (upd play_faults_41 (((2 : Int32) * v3_10) + v6_41).toNatClampNeg (rn2 + (v6_41 * (4 : Int32))))), (42, play_tenths_41), (43, play_places_41)]) dX3_begin_64 zW_41 (ix_in hg) rfl rfl rfl ?_
      refine zJ_aload_n dX3_begin_65 rfl rfl ?_
      refine zJ_getr (mi := mX3_begin) dX3_begin_66 F_X3_18 zW_39 rfl rfl ?_
      refine zJ_iconst dX3_begin_69 zc_2 rfl ?_
      refine zJ_iload_n dX3_begin_70 rfl rfl ?_
      refine zJ_imul dX3_begin_71 rfl ?_
      refine zJ_iload dX3_begin_72 rfl rfl ?_
      refine zJ_iadd dX3_begin_74 rfl ?_
      refine zJ_iload dX3_begin_75 rfl rfl ?_
      obtain ⟨hg, h⟩ := gd_some h
      refine zK_iast (mi := mX3_begin) (f := play_tenths_41) (lb' := [(6, course_kinds), (8, course_feet), (11, course_plans), (23, rounds_faults), (24, rounds_tenths), (41, (upd play_faults_41 (((2 : Int32) * v3_10) + v6_41).toNatClampNeg (rn2 + (v6_41 * (4 : Int32))))), (42, (upd play_tenths_41 (((2 : Int32) * v3_10) + v6_41).toNatClampNeg rn1)), (43, play_places_41)]) dX3_begin_77 zW_42 (ix_in hg) rfl rfl rfl ?_
      refine zJ_aload_n dX3_begin_78 rfl rfl ?_
      refine zJ_getr (mi := mX3_begin) dX3_begin_79 F_X3_21 zW_39 rfl rfl ?_
      refine zJ_iconst dX3_begin_82 zc_2 rfl ?_
      refine zJ_iload_n dX3_begin_83 rfl rfl ?_
      refine zJ_imul dX3_begin_84 rfl ?_
      refine zJ_iload dX3_begin_85 rfl rfl ?_
      refine zJ_iadd dX3_begin_87 rfl ?_
      refine zJ_aload_n dX3_begin_88 rfl rfl ?_
      refine zJ_iload dX3_begin_89 rfl rfl ?_
      refine zJ_iload dX3_begin_91 rfl rfl ?_
      refine zJ_iconst dX3_begin_93 zc_4 rfl ?_
      refine zJ_imul dX3_begin_94 rfl ?_
      refine zJ_iadd dX3_begin_95 rfl ?_
      refine zJ_iload dX3_begin_96 rfl rfl ?_
      obtain ⟨rn4, hcl, h⟩ := bd1_some h
      refine zJ_callV2 (mi := mX3_begin) (yi := mX10_placeFor) (as := [.int (rn2 + (v6_41 * (4 : Int32))), .int rn1]) (st := [.int (((2 : Int32) * v3_10) + v6_41), .ref 43]) (L2 := ([(323, course_fences), (328, course_planCount), (329, course_allowed), (1284, rounds_size), (2498, course_planCount)], [(6, course_kinds), (8, course_feet), (11, course_plans), (23, rounds_faults), (24, rounds_tenths), (41, (upd play_faults_41 (((2 : Int32) * v3_10) + v6_41).toNatClampNeg (rn2 + (v6_41 * (4 : Int32))))), (42, (upd play_tenths_41 (((2 : Int32) * v3_10) + v6_41).toNatClampNeg rn1)), (43, play_places_41)], [])) dX3_begin_98 ML_X3_78 Yv_X10_placeFor rfl zW_20 rfl rfl (t_X10_placeFor l _ hcl) (zsub_i (zle_c rfl zle_n) (zle_c rfl (zle_c rfl zle_n)) zle_n) (zjok_i rfl rfl (zle_c rfl (zle_c rfl (zle_c rfl (zle_c rfl (zle_c rfl zle_n))))) rfl rfl (zle_c rfl (zle_c rfl (zle_c rfl (zle_c rfl (zle_c rfl (zle_c rfl (zle_c rfl (zle_c rfl zle_n)))))))) rfl rfl zle_n) (Nat.le_of_ble_eq_true rfl) (Nat.le_of_ble_eq_true rfl) rfl rfl ?_
      obtain ⟨hg, h⟩ := gd_some h
      refine zK_iast (mi := mX3_begin) (f := play_places_41) (lb' := [(6, course_kinds), (8, course_feet), (11, course_plans), (23, rounds_faults), (24, rounds_tenths), (41, (upd play_faults_41 (((2 : Int32) * v3_10) + v6_41).toNatClampNeg (rn2 + (v6_41 * (4 : Int32))))), (42, (upd play_tenths_41 (((2 : Int32) * v3_10) + v6_41).toNatClampNeg rn1)), (43, (upd play_places_41 (((2 : Int32) * v3_10) + v6_41).toNatClampNeg rn4))]) dX3_begin_101 zW_43 (ix_in hg) rfl rfl rfl ?_
      obtain ⟨v6n5, ev6n5, h⟩ := lt1_some h
      refine zJ_iincN (ls' := [(6, .int v6n5), (0, .ref 39), (1, .ref 5), (2, .ref 20), (3, .int v3_10), (4, .int rn1), (5, .int rn2)]) dX3_begin_102 rfl rfl zc_1 ev6n5 rfl rfl ?_
      refine zJ_goto (tgt := 41) dX3_begin_105 (by decide) ?_
      refine zJ_loc (ls' := [(0, .ref 39), (1, .ref 5), (2, .ref 20), (3, .int v3_10), (4, .int rn1), (5, .int rn2), (6, .int v6n5)]) (zll_c rfl (zll_c rfl (zll_c rfl (zll_c rfl (zll_c rfl (zll_c rfl (zll_c rfl zll_n))))))) ?_
      exact hrc41 _ _ _ _ h
set_option maxRecDepth 100000 in
set_option maxHeartbeats 4000000 in
theorem t_X3_scale (l : Launch) (σ : zS) {play_players : Int32} {r : Int64} (h : f_X3_scale play_players = some r) : zMt l zW 0 mX3_scale σ ([(2497, play_players)], [], []) [.ref 39] (some (.long r)) ([(2497, play_players)], [], []) := by
  refine zMt_of (ls := [(0, .ref 39)]) (by decide) rfl (fun _ => Nat.le_of_ble_eq_true rfl) rfl ?_
  unfold f_X3_scale at h
  refine zJ_lconst dX3_scale_0 zl_1 rfl ?_
  refine zJ_lstore_n (ls' := [(1, .long (1 : Int64)), (0, .ref 39)]) dX3_scale_1 rfl rfl rfl ?_
  refine zJ_iconst dX3_scale_2 zc_0 rfl ?_
  refine zJ_istore_n (ls' := [(3, .int (0 : Int32)), (1, .long (1 : Int64)), (0, .ref 39)]) dX3_scale_3 rfl rfl rfl ?_
  have hk4 : ∀ (v1_4x : Int64), k_X3_scale_4  v1_4x = some r → zJ l zW 0 mX3_scale σ ([(2497, play_players)], [], []) 24 [(1, .long v1_4x)] [] (some (.long r)) ([(2497, play_players)], [], []) := by
    intro v1_4x h
    unfold k_X3_scale_4 at h
    refine zJ_lload_n dX3_scale_24 rfl rfl ?_
    obtain rfl := so1 h
    exact zJ_lret dX3_scale_25 rfl
  refine zJ_loc (ls' := [(0, .ref 39), (1, .long (1 : Int64)), (3, .int (0 : Int32))]) (zll_c rfl (zll_c rfl (zll_c rfl zll_n))) ?_
  refine ml2_J (fun (v1_4 : Int64) (v3_4 : Int32) => zJ l zW 0 mX3_scale σ ([(2497, play_players)], [], []) 4 [(0, .ref 39), (1, .long v1_4), (3, .int v3_4)] [] (some (.long r)) ([(2497, play_players)], [], [])) (fun rc4 hrc4 v1_4 v3_4 h => ?_) zN _ _ h
  unfold s_X3_scale_4 at h
  refine zJ_iload_n dX3_scale_4 rfl rfl ?_
  refine zJ_aload_n dX3_scale_5 rfl rfl ?_
  refine zJ_geti (mi := mX3_scale) (x := play_players) dX3_scale_6 F_X3_43 zW_39 rfl rfl rfl ?_
  refine zJ_icmp_ge (tgt := 24) dX3_scale_9 (by decide) rfl (fun hc => ?_) (fun hc => ?_)
  · replace h := it_t hc h
    refine zJ_loc (ls' := [(1, .long v1_4)]) (zll_c rfl zll_n) ?_
    exact hk4 _ h
  · replace h := it_f hc h
    refine zJ_lload_n dX3_scale_12 rfl rfl ?_
    refine zJ_ldc2_w (v := 10000) dX3_scale_13 C_X3_90 rfl ?_
    refine zJ_lmul dX3_scale_16 rfl ?_
    obtain ⟨v1n1, ev1n1, h⟩ := lt1_some h
    refine zJ_nml ev1n1 ?_
    refine zJ_lstore_n (ls' := [(1, .long v1n1), (0, .ref 39), (3, .int v3_4)]) dX3_scale_17 rfl rfl rfl ?_
    obtain ⟨v3n2, ev3n2, h⟩ := lt1_some h
    refine zJ_iincN (ls' := [(3, .int v3n2), (1, .long v1n1), (0, .ref 39)]) dX3_scale_18 rfl rfl zc_1 ev3n2 rfl rfl ?_
    refine zJ_goto (tgt := 4) dX3_scale_21 (by decide) ?_
    refine zJ_loc (ls' := [(0, .ref 39), (1, .long v1n1), (3, .int v3n2)]) (zll_c rfl (zll_c rfl (zll_c rfl zll_n))) ?_
    exact hrc4 _ _ h
set_option maxRecDepth 100000 in
set_option maxHeartbeats 4000000 in
theorem t_X3_isAhead (l : Launch) (σ : zS) {p1 : Int32} {p2 : Int32} {play_faults : (Nat → Int32)} {play_tenths : (Nat → Int32)} {play_ends : (Nat → Int32)} {r : Int32} (h : f_X3_isAhead p1 p2 play_faults play_tenths play_ends = some r) : zMt l zW 0 mX3_isAhead σ ([], [(41, play_faults), (42, play_tenths), (45, play_ends)], []) [.ref 39, .int p1, .int p2] (some (.int r)) ([], [(41, play_faults), (42, play_tenths), (45, play_ends)], []) := by
  refine zMt_of (ls := [(0, .ref 39), (1, .int p1), (2, .int p2)]) (by decide) rfl (fun _ => Nat.le_of_ble_eq_true rfl) rfl ?_
  unfold f_X3_isAhead at h
  refine zJ_aload_n dX3_isAhead_0 rfl rfl ?_
  refine zJ_getr (mi := mX3_isAhead) dX3_isAhead_1 F_X3_27 zW_39 rfl rfl ?_
  refine zJ_iload_n dX3_isAhead_4 rfl rfl ?_
  obtain ⟨hg, h⟩ := gd_some h
  refine zJ_iald (mi := mX3_isAhead) (f := play_ends) dX3_isAhead_5 zW_45 (ix_in hg) rfl rfl ?_
  obtain ⟨v3n1, ev3n1, h⟩ := lt1_some h
  refine zJ_nmi ev3n1 ?_
  refine zJ_istore_n (ls' := [(3, .int v3n1), (0, .ref 39), (1, .int p1), (2, .int p2)]) dX3_isAhead_6 rfl rfl rfl ?_
  refine zJ_aload_n dX3_isAhead_7 rfl rfl ?_
  refine zJ_getr (mi := mX3_isAhead) dX3_isAhead_8 F_X3_27 zW_39 rfl rfl ?_
  refine zJ_iload_n dX3_isAhead_11 rfl rfl ?_
  obtain ⟨hg, h⟩ := gd_some h
  refine zJ_iald (mi := mX3_isAhead) (f := play_ends) dX3_isAhead_12 zW_45 (ix_in hg) rfl rfl ?_
  obtain ⟨v4n2, ev4n2, h⟩ := lt1_some h
  refine zJ_nmi ev4n2 ?_
  refine zJ_istore (ls' := [(4, .int v4n2), (3, .int v3n1), (0, .ref 39), (1, .int p1), (2, .int p2)]) dX3_isAhead_13 rfl rfl rfl ?_
  refine zJ_aload_n dX3_isAhead_15 rfl rfl ?_
  refine zJ_getr (mi := mX3_isAhead) dX3_isAhead_16 F_X3_15 zW_39 rfl rfl ?_
  refine zJ_iload_n dX3_isAhead_19 rfl rfl ?_
  obtain ⟨hg, h⟩ := gd_some h
  refine zJ_iald (mi := mX3_isAhead) (f := play_faults) dX3_isAhead_20 zW_41 (ix_in hg) rfl rfl ?_
  refine zJ_aload_n dX3_isAhead_21 rfl rfl ?_
  refine zJ_getr (mi := mX3_isAhead) dX3_isAhead_22 F_X3_15 zW_39 rfl rfl ?_
  refine zJ_iload dX3_isAhead_25 rfl rfl ?_
  obtain ⟨hg, h⟩ := gd_some h
  refine zJ_iald (mi := mX3_isAhead) (f := play_faults) dX3_isAhead_27 zW_41 (ix_in hg) rfl rfl ?_
  refine zJ_icmp_eq (tgt := 53) dX3_isAhead_28 (by decide) rfl (fun hc => ?_) (fun hc => ?_)
  · replace h := it_t hc h
    refine zJ_aload_n dX3_isAhead_53 rfl rfl ?_
    refine zJ_getr (mi := mX3_isAhead) dX3_isAhead_54 F_X3_18 zW_39 rfl rfl ?_
    refine zJ_iload_n dX3_isAhead_57 rfl rfl ?_
    obtain ⟨hg, h⟩ := gd_some h
    refine zJ_iald (mi := mX3_isAhead) (f := play_tenths) dX3_isAhead_58 zW_42 (ix_in hg) rfl rfl ?_
    refine zJ_aload_n dX3_isAhead_59 rfl rfl ?_
    refine zJ_getr (mi := mX3_isAhead) dX3_isAhead_60 F_X3_18 zW_39 rfl rfl ?_
    refine zJ_iload dX3_isAhead_63 rfl rfl ?_
    obtain ⟨hg, h⟩ := gd_some h
    refine zJ_iald (mi := mX3_isAhead) (f := play_tenths) dX3_isAhead_65 zW_42 (ix_in hg) rfl rfl ?_
    refine zJ_icmp_lt (tgt := 90) dX3_isAhead_66 (by decide) rfl (fun hc => ?_) (fun hc => ?_)
    · replace h := it_t hc h
      refine zJ_iconst dX3_isAhead_90 zc_1 rfl ?_
      refine zJ_goto (tgt := 95) dX3_isAhead_91 (by decide) ?_
      obtain rfl := so1 h
      exact zJ_iret dX3_isAhead_95 rfl (by decide)
    · replace h := it_f hc h
      refine zJ_aload_n dX3_isAhead_69 rfl rfl ?_
      refine zJ_getr (mi := mX3_isAhead) dX3_isAhead_70 F_X3_18 zW_39 rfl rfl ?_
      refine zJ_iload_n dX3_isAhead_73 rfl rfl ?_
      obtain ⟨hg, h⟩ := gd_some h
      refine zJ_iald (mi := mX3_isAhead) (f := play_tenths) dX3_isAhead_74 zW_42 (ix_in hg) rfl rfl ?_
      refine zJ_aload_n dX3_isAhead_75 rfl rfl ?_
      refine zJ_getr (mi := mX3_isAhead) dX3_isAhead_76 F_X3_18 zW_39 rfl rfl ?_
      refine zJ_iload dX3_isAhead_79 rfl rfl ?_
      obtain ⟨hg, h⟩ := gd_some h
      refine zJ_iald (mi := mX3_isAhead) (f := play_tenths) dX3_isAhead_81 zW_42 (ix_in hg) rfl rfl ?_
      refine zJ_icmp_ne (tgt := 94) dX3_isAhead_82 (by decide) rfl (fun hc => ?_) (fun hc => ?_)
      · replace h := it_f hc h
        refine zJ_iconst dX3_isAhead_94 zc_0 rfl ?_
        obtain rfl := so1 h
        exact zJ_iret dX3_isAhead_95 rfl (by decide)
      · replace h := it_t hc h
        refine zJ_iload_n dX3_isAhead_85 rfl rfl ?_
        refine zJ_iload_n dX3_isAhead_86 rfl rfl ?_
        refine zJ_icmp_ge (tgt := 94) dX3_isAhead_87 (by decide) rfl (fun hc => ?_) (fun hc => ?_)
        · replace h := it_t hc h
          refine zJ_iconst dX3_isAhead_94 zc_0 rfl ?_
          obtain rfl := so1 h
          exact zJ_iret dX3_isAhead_95 rfl (by decide)
        · replace h := it_f hc h
          refine zJ_iconst dX3_isAhead_90 zc_1 rfl ?_
          refine zJ_goto (tgt := 95) dX3_isAhead_91 (by decide) ?_
          obtain rfl := so1 h
          exact zJ_iret dX3_isAhead_95 rfl (by decide)
  · replace h := it_f hc h
    refine zJ_aload_n dX3_isAhead_31 rfl rfl ?_
    refine zJ_getr (mi := mX3_isAhead) dX3_isAhead_32 F_X3_15 zW_39 rfl rfl ?_
    refine zJ_iload_n dX3_isAhead_35 rfl rfl ?_
    obtain ⟨hg, h⟩ := gd_some h
    refine zJ_iald (mi := mX3_isAhead) (f := play_faults) dX3_isAhead_36 zW_41 (ix_in hg) rfl rfl ?_
    refine zJ_aload_n dX3_isAhead_37 rfl rfl ?_
    refine zJ_getr (mi := mX3_isAhead) dX3_isAhead_38 F_X3_15 zW_39 rfl rfl ?_
    refine zJ_iload dX3_isAhead_41 rfl rfl ?_
    obtain ⟨hg, h⟩ := gd_some h
    refine zJ_iald (mi := mX3_isAhead) (f := play_faults) dX3_isAhead_43 zW_41 (ix_in hg) rfl rfl ?_
    refine zJ_icmp_ge (tgt := 51) dX3_isAhead_44 (by decide) rfl (fun hc => ?_) (fun hc => ?_)
    · replace h := it_t hc h
      refine zJ_iconst dX3_isAhead_51 zc_0 rfl ?_
      obtain rfl := so1 h
      exact zJ_iret dX3_isAhead_52 rfl (by decide)
    · replace h := it_f hc h
      refine zJ_iconst dX3_isAhead_47 zc_1 rfl ?_
      refine zJ_goto (tgt := 52) dX3_isAhead_48 (by decide) ?_
      obtain rfl := so1 h
      exact zJ_iret dX3_isAhead_52 rfl (by decide)
set_option maxRecDepth 100000 in
set_option maxHeartbeats 4000000 in
theorem t_X3_pay (l : Launch) (σ : zS) {play_players : Int32} {rounds_money : (Nat → Int32)} {play_faults : (Nat → Int32)} {play_tenths : (Nat → Int32)} {play_places : (Nat → Int32)} {play_ends : (Nat → Int32)} {play_worth : (Nat → Int64)} {w_play_worth : (Nat → Int64)} (h : f_X3_pay play_players rounds_money play_faults play_tenths play_places play_ends play_worth = some w_play_worth) : zMt l zW 1 mX3_pay σ ([(2497, play_players)], [(25, rounds_money), (41, play_faults), (42, play_tenths), (43, play_places), (45, play_ends)], [(46, play_worth)]) [.ref 39, .ref 20] none ([(2497, play_players)], [(25, rounds_money), (41, play_faults), (42, play_tenths), (43, play_places), (45, play_ends)], [(46, w_play_worth)]) := by
  refine zMt_of (ls := [(0, .ref 39), (1, .ref 20)]) (by decide) rfl (fun _ => Nat.le_of_ble_eq_true rfl) rfl ?_
  unfold f_X3_pay at h
  refine zJ_iconst dX3_pay_0 zc_0 rfl ?_
  refine zJ_istore_n (ls' := [(2, .int (0 : Int32)), (0, .ref 39), (1, .ref 20)]) dX3_pay_1 rfl rfl rfl ?_
  have hk2 : ∀ (play_worth_2x : (Nat → Int64)), k_X3_pay_2  play_worth_2x = some w_play_worth → zJ l zW 1 mX3_pay σ ([(2497, play_players)], [(25, rounds_money), (41, play_faults), (42, play_tenths), (43, play_places), (45, play_ends)], [(46, play_worth_2x)]) 89 [] [] none ([(2497, play_players)], [(25, rounds_money), (41, play_faults), (42, play_tenths), (43, play_places), (45, play_ends)], [(46, w_play_worth)]) := by
    intro play_worth_2x h
    unfold k_X3_pay_2 at h
    obtain rfl := so1 h
    exact zJ_vret dX3_pay_89 rfl
  refine zJ_loc (ls' := [(0, .ref 39), (1, .ref 20), (2, .int (0 : Int32))]) (zll_c rfl (zll_c rfl (zll_c rfl zll_n))) ?_
  refine ml2_J (fun (v2_2 : Int32) (play_worth_2 : (Nat → Int64)) => zJ l zW 1 mX3_pay σ ([(2497, play_players)], [(25, rounds_money), (41, play_faults), (42, play_tenths), (43, play_places), (45, play_ends)], [(46, play_worth_2)]) 2 [(0, .ref 39), (1, .ref 20), (2, .int v2_2)] [] none ([(2497, play_players)], [(25, rounds_money), (41, play_faults), (42, play_tenths), (43, play_places), (45, play_ends)], [(46, w_play_worth)])) (fun rc2 hrc2 v2_2 play_worth_2 h => ?_) zN _ _ h
  unfold s_X3_pay_2 at h
  refine zJ_iload_n dX3_pay_2 rfl rfl ?_
  refine zJ_aload_n dX3_pay_3 rfl rfl ?_
  refine zJ_geti (mi := mX3_pay) (x := play_players) dX3_pay_4 F_X3_43 zW_39 rfl rfl rfl ?_
  refine zJ_icmp_ge (tgt := 89) dX3_pay_7 (by decide) rfl (fun hc => ?_) (fun hc => ?_)
  · replace h := it_t hc h
    refine zJ_loc (ls' := []) zll_n ?_
    exact hk2 _ h
  · replace h := it_f hc h
    refine zJ_aload_n dX3_pay_10 rfl rfl ?_
    refine zJ_getr (mi := mX3_pay) dX3_pay_11 F_X3_21 zW_39 rfl rfl ?_
    refine zJ_aload_n dX3_pay_14 rfl rfl ?_
    refine zJ_getr (mi := mX3_pay) dX3_pay_15 F_X3_27 zW_39 rfl rfl ?_
    refine zJ_iload_n dX3_pay_18 rfl rfl ?_
    obtain ⟨hg, h⟩ := gd_some h
    refine zJ_iald (mi := mX3_pay) (f := play_ends) dX3_pay_19 zW_45 (ix_in hg) rfl rfl ?_
    obtain ⟨hg, h⟩ := gd_some h
    refine zJ_iald (mi := mX3_pay) (f := play_places) dX3_pay_20 zW_43 (ix_in hg) rfl rfl ?_
    obtain ⟨v3n1, ev3n1, h⟩ := lt1_some h
    refine zJ_nmi ev3n1 ?_
    refine zJ_istore_n (ls' := [(3, .int v3n1), (0, .ref 39), (1, .ref 20), (2, .int v2_2)]) dX3_pay_21 rfl rfl rfl ?_
    refine zJ_iconst dX3_pay_22 zc_0 rfl ?_
    refine zJ_istore (ls' := [(4, .int (0 : Int32)), (3, .int v3n1), (0, .ref 39), (1, .ref 20), (2, .int v2_2)]) dX3_pay_23 rfl rfl rfl ?_
    have hk25 : ∀ (v3_25x : Int32), k_X3_pay_25 play_players rounds_money rc2 v2_2 play_worth_2 v3_25x = some w_play_worth → zJ l zW 1 mX3_pay σ ([(2497, play_players)], [(25, rounds_money), (41, play_faults), (42, play_tenths), (43, play_places), (45, play_ends)], [(46, play_worth_2)]) 64 [(0, .ref 39), (1, .ref 20), (2, .int v2_2), (3, .int v3_25x)] [] none ([(2497, play_players)], [(25, rounds_money), (41, play_faults), (42, play_tenths), (43, play_places), (45, play_ends)], [(46, w_play_worth)]) := by
      intro v3_25x h
      unfold k_X3_pay_25 at h
      refine zJ_aload_n dX3_pay_64 rfl rfl ?_
      refine zJ_getr (mi := mX3_pay) dX3_pay_65 F_X3_30 zW_39 rfl rfl ?_
      refine zJ_aload_n dX3_pay_68 rfl rfl ?_
      refine zJ_geti (mi := mX3_pay) (x := play_players) dX3_pay_69 F_X3_43 zW_39 rfl rfl rfl ?_
      refine zJ_iconst dX3_pay_72 zc_3 rfl ?_
      refine zJ_imul dX3_pay_73 rfl ?_
      refine zJ_iload_n dX3_pay_74 rfl rfl ?_
      refine zJ_iadd dX3_pay_75 rfl ?_
      refine zJ_aload_n dX3_pay_76 rfl rfl ?_
      refine zJ_iload_n dX3_pay_77 rfl rfl ?_
      obtain ⟨rn2, hcl, h⟩ := bd1_some h
      refine zJ_callV2 (mi := mX3_pay) (yi := mX10_moneyAt) (as := [.int v3_25x]) (st := [.int ((play_players * (3 : Int32)) + v2_2), .ref 46]) (L2 := ([(2497, play_players)], [(25, rounds_money), (41, play_faults), (42, play_tenths), (43, play_places), (45, play_ends)], [(46, play_worth_2)])) dX3_pay_78 ML_X3_113 Yv_X10_moneyAt rfl zW_20 rfl rfl (t_X10_moneyAt l _ hcl) (zsub_i zle_n (zle_c rfl zle_n) zle_n) (zjok_i rfl rfl (zle_c rfl zle_n) rfl rfl (zle_c rfl (zle_c rfl (zle_c rfl (zle_c rfl (zle_c rfl zle_n))))) rfl rfl (zle_c rfl zle_n)) (Nat.le_of_ble_eq_true rfl) (Nat.le_of_ble_eq_true rfl) rfl rfl ?_
      refine zJ_i2l dX3_pay_81 rfl ?_
      obtain ⟨hg, h⟩ := gd_some h
      refine zK_last (mi := mX3_pay) (f := play_worth_2) (lc' := [(46, (vp_updL play_worth_2 ((play_players * (3 : Int32)) + v2_2).toNatClampNeg rn2.toInt64))]) dX3_pay_82 zW_46 (ix_in hg) rfl rfl rfl ?_
      obtain ⟨v2n3, ev2n3, h⟩ := lt1_some h
      refine zJ_iincN (ls' := [(2, .int v2n3), (0, .ref 39), (1, .ref 20), (3, .int v3_25x)]) dX3_pay_83 rfl rfl zc_1 ev2n3 rfl rfl ?_
      refine zJ_goto (tgt := 2) dX3_pay_86 (by decide) ?_
      refine zJ_loc (ls' := [(0, .ref 39), (1, .ref 20), (2, .int v2n3)]) (zll_c rfl (zll_c rfl (zll_c rfl zll_n))) ?_
      exact hrc2 _ _ h
    refine zJ_loc (ls' := [(0, .ref 39), (1, .ref 20), (2, .int v2_2), (3, .int v3n1), (4, .int (0 : Int32))]) (zll_c rfl (zll_c rfl (zll_c rfl (zll_c rfl (zll_c rfl zll_n))))) ?_
    refine ml2_J (fun (v3_25 : Int32) (v4_25 : Int32) => zJ l zW 1 mX3_pay σ ([(2497, play_players)], [(25, rounds_money), (41, play_faults), (42, play_tenths), (43, play_places), (45, play_ends)], [(46, play_worth_2)]) 25 [(0, .ref 39), (1, .ref 20), (2, .int v2_2), (3, .int v3_25), (4, .int v4_25)] [] none ([(2497, play_players)], [(25, rounds_money), (41, play_faults), (42, play_tenths), (43, play_places), (45, play_ends)], [(46, w_play_worth)])) (fun rc25 hrc25 v3_25 v4_25 h => ?_) zN _ _ h
    unfold s_X3_pay_25 at h
    refine zJ_iload dX3_pay_25 rfl rfl ?_
    refine zJ_aload_n dX3_pay_27 rfl rfl ?_
    refine zJ_geti (mi := mX3_pay) (x := play_players) dX3_pay_28 F_X3_43 zW_39 rfl rfl rfl ?_
    refine zJ_icmp_ge (tgt := 64) dX3_pay_31 (by decide) rfl (fun hc => ?_) (fun hc => ?_)
    · replace h := it_t hc h
      refine zJ_loc (ls' := [(0, .ref 39), (1, .ref 20), (2, .int v2_2), (3, .int v3_25)]) (zll_c rfl (zll_c rfl (zll_c rfl (zll_c rfl zll_n)))) ?_
      exact hk25 _ h
    · replace h := it_f hc h
      refine zJ_iload_n dX3_pay_34 rfl rfl ?_
      refine zJ_iload dX3_pay_35 rfl rfl ?_
      refine zJ_iload_n dX3_pay_37 rfl rfl ?_
      refine zJ_icmp_eq (tgt := 55) dX3_pay_38 (by decide) rfl (fun hc => ?_) (fun hc => ?_)
      · replace h := it_t hc h
        refine zJ_iconst dX3_pay_55 zc_0 rfl ?_
        refine zJ_iadd dX3_pay_56 rfl ?_
        obtain ⟨v3n4, ev3n4, h⟩ := lt1_some h
        refine zJ_nmi ev3n4 ?_
        refine zJ_istore_n (ls' := [(3, .int v3n4), (0, .ref 39), (1, .ref 20), (2, .int v2_2), (4, .int v4_25)]) dX3_pay_57 rfl rfl rfl ?_
        obtain ⟨v4n5, ev4n5, h⟩ := lt1_some h
        refine zJ_iincN (ls' := [(4, .int v4n5), (3, .int v3n4), (0, .ref 39), (1, .ref 20), (2, .int v2_2)]) dX3_pay_58 rfl rfl zc_1 ev4n5 rfl rfl ?_
        refine zJ_goto (tgt := 25) dX3_pay_61 (by decide) ?_
        refine zJ_loc (ls' := [(0, .ref 39), (1, .ref 20), (2, .int v2_2), (3, .int v3n4), (4, .int v4n5)]) (zll_c rfl (zll_c rfl (zll_c rfl (zll_c rfl (zll_c rfl zll_n))))) ?_
        exact hrc25 _ _ h
      · replace h := it_f hc h
        refine zJ_aload_n dX3_pay_41 rfl rfl ?_
        refine zJ_iload dX3_pay_42 rfl rfl ?_
        refine zJ_iload_n dX3_pay_44 rfl rfl ?_
        obtain ⟨rn6, hcl, h⟩ := bd1_some h
        refine zJ_callV2 (mi := mX3_pay) (yi := mX3_isAhead) (as := [.int v4_25, .int v2_2]) (st := [.int v3_25]) (L2 := ([(2497, play_players)], [(25, rounds_money), (41, play_faults), (42, play_tenths), (43, play_places), (45, play_ends)], [(46, play_worth_2)])) dX3_pay_45 ML_X3_109 Yv_X3_isAhead rfl zW_39 rfl rfl (t_X3_isAhead l _ hcl) (zsub_i zle_n (zle_c rfl (zle_c rfl (zle_c rfl zle_n))) zle_n) (zjok_i rfl rfl (zle_c rfl zle_n) rfl rfl (zle_c rfl (zle_c rfl (zle_c rfl (zle_c rfl (zle_c rfl zle_n))))) rfl rfl (zle_c rfl zle_n)) (Nat.le_of_ble_eq_true rfl) (Nat.le_of_ble_eq_true rfl) rfl rfl ?_
        refine zJ_if_eq (tgt := 55) dX3_pay_48 (by decide) rfl (fun hc => ?_) (fun hc => ?_)
        · replace h := it_t hc h
          refine zJ_iconst dX3_pay_55 zc_0 rfl ?_
          refine zJ_iadd dX3_pay_56 rfl ?_
          obtain ⟨v3n7, ev3n7, h⟩ := lt1_some h
          refine zJ_nmi ev3n7 ?_
          refine zJ_istore_n (ls' := [(3, .int v3n7), (0, .ref 39), (1, .ref 20), (2, .int v2_2), (4, .int v4_25)]) dX3_pay_57 rfl rfl rfl ?_
          obtain ⟨v4n8, ev4n8, h⟩ := lt1_some h
          refine zJ_iincN (ls' := [(4, .int v4n8), (3, .int v3n7), (0, .ref 39), (1, .ref 20), (2, .int v2_2)]) dX3_pay_58 rfl rfl zc_1 ev4n8 rfl rfl ?_
          refine zJ_goto (tgt := 25) dX3_pay_61 (by decide) ?_
          refine zJ_loc (ls' := [(0, .ref 39), (1, .ref 20), (2, .int v2_2), (3, .int v3n7), (4, .int v4n8)]) (zll_c rfl (zll_c rfl (zll_c rfl (zll_c rfl (zll_c rfl zll_n))))) ?_
          exact hrc25 _ _ h
        · replace h := it_f hc h
          refine zJ_iconst dX3_pay_51 zc_1 rfl ?_
          refine zJ_goto (tgt := 56) dX3_pay_52 (by decide) ?_
          refine zJ_iadd dX3_pay_56 rfl ?_
          obtain ⟨v3n9, ev3n9, h⟩ := lt1_some h
          refine zJ_nmi ev3n9 ?_
          refine zJ_istore_n (ls' := [(3, .int v3n9), (0, .ref 39), (1, .ref 20), (2, .int v2_2), (4, .int v4_25)]) dX3_pay_57 rfl rfl rfl ?_
          obtain ⟨v4n10, ev4n10, h⟩ := lt1_some h
          refine zJ_iincN (ls' := [(4, .int v4n10), (3, .int v3n9), (0, .ref 39), (1, .ref 20), (2, .int v2_2)]) dX3_pay_58 rfl rfl zc_1 ev4n10 rfl rfl ?_
          refine zJ_goto (tgt := 25) dX3_pay_61 (by decide) ?_
          refine zJ_loc (ls' := [(0, .ref 39), (1, .ref 20), (2, .int v2_2), (3, .int v3n9), (4, .int v4n10)]) (zll_c rfl (zll_c rfl (zll_c rfl (zll_c rfl (zll_c rfl zll_n))))) ?_
          exact hrc25 _ _ h
set_option maxRecDepth 100000 in
set_option maxHeartbeats 4000000 in
theorem tg_X3_settle (l : Launch) : ∀ n : Nat, (∀ (σ : zS) (p2 : Int32) (play_players : Int32) (play_plans : Int32) (play_firstPlan : Int32) (rounds_money : (Nat → Int32)) (play_faults : (Nat → Int32)) (play_tenths : (Nat → Int32)) (play_places : (Nat → Int32)) (play_clears : (Nat → Int32)) (play_ends : (Nat → Int32)) (play_worth : (Nat → Int64)) (play_trial : (Nat → Int64)) (w_play_firstPlan : Int32) (w_play_ends : (Nat → Int32)) (w_play_worth : (Nat → Int64)) (w_play_trial : (Nat → Int64)), (G_X3_settle n).1 p2 play_players play_plans play_firstPlan rounds_money play_faults play_tenths play_places play_clears play_ends play_worth play_trial = some (w_play_firstPlan, w_play_ends, w_play_worth, w_play_trial) → zMt l zW (n + 2) mX3_settle σ ([(2497, play_players), (2498, play_plans), (2499, play_firstPlan)], [(25, rounds_money), (41, play_faults), (42, play_tenths), (43, play_places), (44, play_clears), (45, play_ends)], [(46, play_worth), (47, play_trial)]) [.ref 39, .ref 20, .int p2] none ([(2497, play_players), (2498, play_plans), (2499, w_play_firstPlan)], [(25, rounds_money), (41, play_faults), (42, play_tenths), (43, play_places), (44, play_clears), (45, w_play_ends)], [(46, w_play_worth), (47, w_play_trial)])) ∧ (∀ (σ : zS) (p2 : Int32) (p3 : Int32) (play_players : Int32) (play_plans : Int32) (play_firstPlan : Int32) (rounds_money : (Nat → Int32)) (play_faults : (Nat → Int32)) (play_tenths : (Nat → Int32)) (play_places : (Nat → Int32)) (play_clears : (Nat → Int32)) (play_ends : (Nat → Int32)) (play_worth : (Nat → Int64)) (play_trial : (Nat → Int64)) (w_play_firstPlan : Int32) (w_play_ends : (Nat → Int32)) (w_play_worth : (Nat → Int64)) (w_play_trial : (Nat → Int64)), (G_X3_settle n).2 p2 p3 play_players play_plans play_firstPlan rounds_money play_faults play_tenths play_places play_clears play_ends play_worth play_trial = some (w_play_firstPlan, w_play_ends, w_play_worth, w_play_trial) → zMt l zW (n + 2) mX3_weigh σ ([(2497, play_players), (2498, play_plans), (2499, play_firstPlan)], [(25, rounds_money), (41, play_faults), (42, play_tenths), (43, play_places), (44, play_clears), (45, play_ends)], [(46, play_worth), (47, play_trial)]) [.ref 39, .ref 20, .int p2, .int p3] none ([(2497, play_players), (2498, play_plans), (2499, w_play_firstPlan)], [(25, rounds_money), (41, play_faults), (42, play_tenths), (43, play_places), (44, play_clears), (45, w_play_ends)], [(46, w_play_worth), (47, w_play_trial)])) := by
  intro n
  induction n with
  | zero => exact ⟨(fun _ _ _ _ _ _ _ _ _ _ _ _ _ _ _ _ _ h => by cases (show (none : Option _) = some _ from h)), (fun _ _ _ _ _ _ _ _ _ _ _ _ _ _ _ _ _ _ h => by cases (show (none : Option _) = some _ from h))⟩
  | succ n ih =>
    obtain ⟨ih_X3_settle, ih_X3_weigh⟩ := ih
    refine ⟨?_, ?_⟩
    · intro σ p2 play_players play_plans play_firstPlan rounds_money play_faults play_tenths play_places play_clears play_ends play_worth play_trial w_play_firstPlan w_play_ends w_play_worth w_play_trial h
      replace h : g_X3_settle (G_X3_settle n).1 (G_X3_settle n).2 p2 play_players play_plans play_firstPlan rounds_money play_faults play_tenths play_places play_clears play_ends play_worth play_trial = some (w_play_firstPlan, w_play_ends, w_play_worth, w_play_trial) := h
      generalize (G_X3_settle n).1 = q_X3_settle at h ih_X3_settle ih_X3_weigh
      generalize (G_X3_settle n).2 = q_X3_weigh at h ih_X3_settle ih_X3_weigh
      show zMt l zW (n + 3) mX3_settle σ ([(2497, play_players), (2498, play_plans), (2499, play_firstPlan)], [(25, rounds_money), (41, play_faults), (42, play_tenths), (43, play_places), (44, play_clears), (45, play_ends)], [(46, play_worth), (47, play_trial)]) [.ref 39, .ref 20, .int p2] none ([(2497, play_players), (2498, play_plans), (2499, w_play_firstPlan)], [(25, rounds_money), (41, play_faults), (42, play_tenths), (43, play_places), (44, play_clears), (45, w_play_ends)], [(46, w_play_worth), (47, w_play_trial)])
      refine zMt_of (ls := [(0, .ref 39), (1, .ref 20), (2, .int p2)]) (by decide) rfl (fun _ => Nat.le_of_ble_eq_true rfl) rfl ?_
      unfold g_X3_settle at h
      refine zJ_iload_n dX3_settle_0 rfl rfl ?_
      refine zJ_aload_n dX3_settle_1 rfl rfl ?_
      refine zJ_geti (mi := mX3_settle) (x := play_players) dX3_settle_2 F_X3_43 zW_39 rfl rfl rfl ?_
      refine zJ_icmp_lt (tgt := 14) dX3_settle_5 (by decide) rfl (fun hc => ?_) (fun hc => ?_)
      · replace h := it_t hc h
        refine zJ_iload_n dX3_settle_14 rfl rfl ?_
        refine zJ_iconst dX3_settle_15 zc_3 rfl ?_
        refine zJ_imul dX3_settle_16 rfl ?_
        obtain ⟨v3n1, ev3n1, h⟩ := lt1_some h
        refine zJ_nmi ev3n1 ?_
        refine zJ_istore_n (ls' := [(3, .int v3n1), (0, .ref 39), (1, .ref 20), (2, .int p2)]) dX3_settle_17 rfl rfl rfl ?_
        refine zJ_iconst dX3_settle_18 zc_0 rfl ?_
        refine zJ_istore (ls' := [(4, .int (0 : Int32)), (3, .int v3n1), (0, .ref 39), (1, .ref 20), (2, .int p2)]) dX3_settle_19 rfl rfl rfl ?_
        have hk21 : ∀ (play_firstPlan_21x : Int32) (play_ends_21x : (Nat → Int32)) (play_worth_21x : (Nat → Int64)) (play_trial_21x : (Nat → Int64)), k_X3_settle_21  play_firstPlan_21x play_ends_21x play_worth_21x play_trial_21x = some (w_play_firstPlan, w_play_ends, w_play_worth, w_play_trial) → zJ l zW (n + 3) mX3_settle σ ([(2497, play_players), (2498, play_plans), (2499, play_firstPlan_21x)], [(25, rounds_money), (41, play_faults), (42, play_tenths), (43, play_places), (44, play_clears), (45, play_ends_21x)], [(46, play_worth_21x), (47, play_trial_21x)]) 100 [] [] none ([(2497, play_players), (2498, play_plans), (2499, w_play_firstPlan)], [(25, rounds_money), (41, play_faults), (42, play_tenths), (43, play_places), (44, play_clears), (45, w_play_ends)], [(46, w_play_worth), (47, w_play_trial)]) := by
          intro play_firstPlan_21x play_ends_21x play_worth_21x play_trial_21x h
          unfold k_X3_settle_21 at h
          obtain ⟨rfl, rfl, rfl, rfl⟩ := so4 h
          exact zJ_vret dX3_settle_100 rfl
        refine zJ_loc (ls' := [(0, .ref 39), (1, .ref 20), (2, .int p2), (3, .int v3n1), (4, .int (0 : Int32))]) (zll_c rfl (zll_c rfl (zll_c rfl (zll_c rfl (zll_c rfl zll_n))))) ?_
        refine ml5_J (fun (v4_21 : Int32) (play_firstPlan_21 : Int32) (play_ends_21 : (Nat → Int32)) (play_worth_21 : (Nat → Int64)) (play_trial_21 : (Nat → Int64)) => zJ l zW (n + 3) mX3_settle σ ([(2497, play_players), (2498, play_plans), (2499, play_firstPlan_21)], [(25, rounds_money), (41, play_faults), (42, play_tenths), (43, play_places), (44, play_clears), (45, play_ends_21)], [(46, play_worth_21), (47, play_trial_21)]) 21 [(0, .ref 39), (1, .ref 20), (2, .int p2), (3, .int v3n1), (4, .int v4_21)] [] none ([(2497, play_players), (2498, play_plans), (2499, w_play_firstPlan)], [(25, rounds_money), (41, play_faults), (42, play_tenths), (43, play_places), (44, play_clears), (45, w_play_ends)], [(46, w_play_worth), (47, w_play_trial)])) (fun rc21 hrc21 v4_21 play_firstPlan_21 play_ends_21 play_worth_21 play_trial_21 h => ?_) zN _ _ _ _ _ h
        unfold s_X3_settle_21 at h
        refine zJ_iload dX3_settle_21 rfl rfl ?_
        refine zJ_aload_n dX3_settle_23 rfl rfl ?_
        refine zJ_geti (mi := mX3_settle) (x := play_plans) dX3_settle_24 F_X3_64 zW_39 rfl rfl rfl ?_
        refine zJ_icmp_ge (tgt := 100) dX3_settle_27 (by decide) rfl (fun hc => ?_) (fun hc => ?_)
        · replace h := it_t hc h
          refine zJ_loc (ls' := []) zll_n ?_
          exact hk21 _ _ _ _ h
        · replace h := it_f hc h
          refine zJ_aload_n dX3_settle_30 rfl rfl ?_
          refine zJ_aload_n dX3_settle_31 rfl rfl ?_
          refine zJ_iload_n dX3_settle_32 rfl rfl ?_
          refine zJ_iload dX3_settle_33 rfl rfl ?_
          obtain ⟨play_firstPlann2, play_endsn3, play_worthn4, play_trialn5, hcl, h⟩ := bd4_some h
          refine zJ_callV2 (mi := mX3_settle) (yi := mX3_weigh) (as := [.ref 20, .int p2, .int v4_21]) (st := []) (L2 := ([(2497, play_players), (2498, play_plans), (2499, play_firstPlann2)], [(25, rounds_money), (41, play_faults), (42, play_tenths), (43, play_places), (44, play_clears), (45, play_endsn3)], [(46, play_worthn4), (47, play_trialn5)])) dX3_settle_35 ML_X3_96 Yv_X3_weigh rfl zW_39 rfl rfl (ih_X3_weigh _ _ _ _ _ _ _ _ _ _ _ _ _ _ _ _ _ _ hcl) (zsub_i (zle_c rfl (zle_c rfl (zle_c rfl zle_n))) (zle_c rfl (zle_c rfl (zle_c rfl (zle_c rfl (zle_c rfl (zle_c rfl zle_n)))))) (zle_c rfl (zle_c rfl zle_n))) (zjok_i rfl rfl (zle_c rfl (zle_c rfl (zle_c rfl zle_n))) rfl rfl (zle_c rfl (zle_c rfl (zle_c rfl (zle_c rfl (zle_c rfl (zle_c rfl zle_n)))))) rfl rfl (zle_c rfl (zle_c rfl zle_n))) (by omega) (Nat.le_of_ble_eq_true rfl) rfl rfl ?_
          refine zJ_iload dX3_settle_38 rfl rfl ?_
          have hj_X3_settle_63 : ∀ (v4_63j : Int32), j_X3_settle_63 p2 v3n1 rc21 play_firstPlann2 play_endsn3 play_worthn4 play_trialn5 v4_63j = some (w_play_firstPlan, w_play_ends, w_play_worth, w_play_trial) → zJ l zW (n + 3) mX3_settle σ ([(2497, play_players), (2498, play_plans), (2499, play_firstPlann2)], [(25, rounds_money), (41, play_faults), (42, play_tenths), (43, play_places), (44, play_clears), (45, play_endsn3)], [(46, play_worthn4), (47, play_trialn5)]) 63 [(0, .ref 39), (1, .ref 20), (2, .int p2), (3, .int v3n1), (4, .int v4_63j)] [] none ([(2497, play_players), (2498, play_plans), (2499, w_play_firstPlan)], [(25, rounds_money), (41, play_faults), (42, play_tenths), (43, play_places), (44, play_clears), (45, w_play_ends)], [(46, w_play_worth), (47, w_play_trial)]) := by
            intro v4_63j h
            unfold j_X3_settle_63 at h
            refine zJ_aload_n dX3_settle_63 rfl rfl ?_
            refine zJ_getr (mi := mX3_settle) dX3_settle_64 F_X3_34 zW_39 rfl rfl ?_
            refine zJ_iload_n dX3_settle_67 rfl rfl ?_
            refine zJ_aload_n dX3_settle_68 rfl rfl ?_
            refine zJ_getr (mi := mX3_settle) dX3_settle_69 F_X3_30 zW_39 rfl rfl ?_
            refine zJ_iload_n dX3_settle_72 rfl rfl ?_
            refine zJ_iconst dX3_settle_73 zc_3 rfl ?_
            obtain ⟨hg, h⟩ := gd_some h
            refine zK_copyl (mi := mX3_settle) (f := play_trialn5) (g := play_worthn4) (lc' := [(46, (va_cpy play_trialn5 play_worthn4 v3n1.toNatClampNeg v3n1.toNatClampNeg (3 : Int32).toNatClampNeg)), (47, play_trialn5)]) dX3_settle_74 L_X3_100 K_cpy_n K_cpy_s K_sys zW_47 zW_46 rfl rfl (cpok_s hg) (by omega) (Nat.le_of_ble_eq_true rfl) rfl rfl ?_
            refine zJ_aload_n dX3_settle_77 rfl rfl ?_
            refine zJ_iload_n dX3_settle_78 rfl rfl ?_
            refine zJ_if_ne (tgt := 87) dX3_settle_79 (by decide) rfl (fun hc => ?_) (fun hc => ?_)
            · replace h := it_f hc h
              refine zJ_aload_n dX3_settle_87 rfl rfl ?_
              refine zJ_geti (mi := mX3_settle) (x := play_firstPlann2) dX3_settle_88 F_X3_106 zW_39 rfl rfl rfl ?_
              refine zK_puti (mi := mX3_settle) (la' := [(2497, play_players), (2498, play_plans), (2499, play_firstPlann2)]) zW_ok dX3_settle_91 F_X3_106 P_3_3 zW_39 rfl rfl rfl ?_
              obtain ⟨v4n6, ev4n6, h⟩ := lt1_some h
              refine zJ_iincN (ls' := [(4, .int v4n6), (0, .ref 39), (1, .ref 20), (2, .int p2), (3, .int v3n1)]) dX3_settle_94 rfl rfl zc_1 ev4n6 rfl rfl ?_
              refine zJ_goto (tgt := 21) dX3_settle_97 (by decide) ?_
              refine zJ_loc (ls' := [(0, .ref 39), (1, .ref 20), (2, .int p2), (3, .int v3n1), (4, .int v4n6)]) (zll_c rfl (zll_c rfl (zll_c rfl (zll_c rfl (zll_c rfl zll_n))))) ?_
              exact hrc21 _ _ _ _ _ h
            · replace h := it_t hc h
              refine zJ_iload dX3_settle_82 rfl rfl ?_
              refine zJ_goto (tgt := 91) dX3_settle_84 (by decide) ?_
              refine zK_puti (mi := mX3_settle) (la' := [(2497, play_players), (2498, play_plans), (2499, v4_63j)]) zW_ok dX3_settle_91 F_X3_106 P_3_3 zW_39 rfl rfl rfl ?_
              obtain ⟨v4n7, ev4n7, h⟩ := lt1_some h
              refine zJ_iincN (ls' := [(4, .int v4n7), (0, .ref 39), (1, .ref 20), (2, .int p2), (3, .int v3n1)]) dX3_settle_94 rfl rfl zc_1 ev4n7 rfl rfl ?_
              refine zJ_goto (tgt := 21) dX3_settle_97 (by decide) ?_
              refine zJ_loc (ls' := [(0, .ref 39), (1, .ref 20), (2, .int p2), (3, .int v3n1), (4, .int v4n7)]) (zll_c rfl (zll_c rfl (zll_c rfl (zll_c rfl (zll_c rfl zll_n))))) ?_
              exact hrc21 _ _ _ _ _ h
          refine zJ_if_eq (tgt := 63) dX3_settle_40 (by decide) rfl (fun hc => ?_) (fun hc => ?_)
          · replace h := it_t hc h
            refine zJ_loc (ls' := [(0, .ref 39), (1, .ref 20), (2, .int p2), (3, .int v3n1), (4, .int v4_21)]) (zll_c rfl (zll_c rfl (zll_c rfl (zll_c rfl (zll_c rfl zll_n))))) ?_
            exact hj_X3_settle_63 _ h
          · replace h := it_f hc h
            refine zJ_aload_n dX3_settle_43 rfl rfl ?_
            refine zJ_getr (mi := mX3_settle) dX3_settle_44 F_X3_34 zW_39 rfl rfl ?_
            refine zJ_iload_n dX3_settle_47 rfl rfl ?_
            refine zJ_iload_n dX3_settle_48 rfl rfl ?_
            refine zJ_iadd dX3_settle_49 rfl ?_
            obtain ⟨hg, h⟩ := gd_some h
            refine zJ_lald (mi := mX3_settle) (f := play_trialn5) dX3_settle_50 zW_47 (ix_in hg) rfl rfl ?_
            refine zJ_aload_n dX3_settle_51 rfl rfl ?_
            refine zJ_getr (mi := mX3_settle) dX3_settle_52 F_X3_30 zW_39 rfl rfl ?_
            refine zJ_iload_n dX3_settle_55 rfl rfl ?_
            refine zJ_iload_n dX3_settle_56 rfl rfl ?_
            refine zJ_iadd dX3_settle_57 rfl ?_
            obtain ⟨hg, h⟩ := gd_some h
            refine zJ_lald (mi := mX3_settle) (f := play_worthn4) dX3_settle_58 zW_46 (ix_in hg) rfl rfl ?_
            refine zJ_lcmp dX3_settle_59 rfl ?_
            refine zJ_if_le (tgt := 94) dX3_settle_60 (by decide) rfl (fun hc => ?_) (fun hc => ?_)
            · replace h := it_t hc h
              obtain ⟨v4n8, ev4n8, h⟩ := lt1_some h
              refine zJ_iincN (ls' := [(4, .int v4n8), (0, .ref 39), (1, .ref 20), (2, .int p2), (3, .int v3n1)]) dX3_settle_94 rfl rfl zc_1 ev4n8 rfl rfl ?_
              refine zJ_goto (tgt := 21) dX3_settle_97 (by decide) ?_
              refine zJ_loc (ls' := [(0, .ref 39), (1, .ref 20), (2, .int p2), (3, .int v3n1), (4, .int v4n8)]) (zll_c rfl (zll_c rfl (zll_c rfl (zll_c rfl (zll_c rfl zll_n))))) ?_
              exact hrc21 _ _ _ _ _ h
            · replace h := it_f hc h
              refine zJ_loc (ls' := [(0, .ref 39), (1, .ref 20), (2, .int p2), (3, .int v3n1), (4, .int v4_21)]) (zll_c rfl (zll_c rfl (zll_c rfl (zll_c rfl (zll_c rfl zll_n))))) ?_
              exact hj_X3_settle_63 _ h
      · replace h := it_f hc h
        refine zJ_aload_n dX3_settle_8 rfl rfl ?_
        refine zJ_aload_n dX3_settle_9 rfl rfl ?_
        obtain ⟨play_worthn9, hcl, h⟩ := bd1_some h
        refine zJ_callV2 (mi := mX3_settle) (yi := mX3_pay) (as := [.ref 20]) (st := []) (L2 := ([(2497, play_players), (2498, play_plans), (2499, play_firstPlan)], [(25, rounds_money), (41, play_faults), (42, play_tenths), (43, play_places), (44, play_clears), (45, play_ends)], [(46, play_worthn9), (47, play_trial)])) dX3_settle_10 ML_X3_92 Yv_X3_pay rfl zW_39 rfl rfl (t_X3_pay l _ hcl) (zsub_i (zle_c rfl zle_n) (zle_c rfl (zle_c rfl (zle_c rfl (zle_c rfl (zle_c rfl zle_n))))) (zle_c rfl zle_n)) (zjok_i rfl rfl (zle_c rfl (zle_c rfl (zle_c rfl zle_n))) rfl rfl (zle_c rfl (zle_c rfl (zle_c rfl (zle_c rfl (zle_c rfl (zle_c rfl zle_n)))))) rfl rfl (zle_c rfl (zle_c rfl zle_n))) (by omega) (Nat.le_of_ble_eq_true rfl) rfl rfl ?_
        obtain ⟨rfl, rfl, rfl, rfl⟩ := so4 h
        exact zJ_vret dX3_settle_13 rfl
    · intro σ p2 p3 play_players play_plans play_firstPlan rounds_money play_faults play_tenths play_places play_clears play_ends play_worth play_trial w_play_firstPlan w_play_ends w_play_worth w_play_trial h
      replace h : g_X3_weigh (G_X3_settle n).1 (G_X3_settle n).2 p2 p3 play_players play_plans play_firstPlan rounds_money play_faults play_tenths play_places play_clears play_ends play_worth play_trial = some (w_play_firstPlan, w_play_ends, w_play_worth, w_play_trial) := h
      generalize (G_X3_settle n).1 = q_X3_settle at h ih_X3_settle ih_X3_weigh
      generalize (G_X3_settle n).2 = q_X3_weigh at h ih_X3_settle ih_X3_weigh
      show zMt l zW (n + 3) mX3_weigh σ ([(2497, play_players), (2498, play_plans), (2499, play_firstPlan)], [(25, rounds_money), (41, play_faults), (42, play_tenths), (43, play_places), (44, play_clears), (45, play_ends)], [(46, play_worth), (47, play_trial)]) [.ref 39, .ref 20, .int p2, .int p3] none ([(2497, play_players), (2498, play_plans), (2499, w_play_firstPlan)], [(25, rounds_money), (41, play_faults), (42, play_tenths), (43, play_places), (44, play_clears), (45, w_play_ends)], [(46, w_play_worth), (47, w_play_trial)])
      refine zMt_of (ls := [(0, .ref 39), (1, .ref 20), (2, .int p2), (3, .int p3)]) (by decide) rfl (fun _ => Nat.le_of_ble_eq_true rfl) rfl ?_
      unfold g_X3_weigh at h
      refine zJ_iload_n dX3_weigh_0 rfl rfl ?_
      refine zJ_iconst dX3_weigh_1 zc_3 rfl ?_
      refine zJ_imul dX3_weigh_2 rfl ?_
      obtain ⟨v4n1, ev4n1, h⟩ := lt1_some h
      refine zJ_nmi ev4n1 ?_
      refine zJ_istore (ls' := [(4, .int v4n1), (0, .ref 39), (1, .ref 20), (2, .int p2), (3, .int p3)]) dX3_weigh_3 rfl rfl rfl ?_
      refine zJ_aload_n dX3_weigh_5 rfl rfl ?_
      refine zJ_getr (mi := mX3_weigh) dX3_weigh_6 F_X3_24 zW_39 rfl rfl ?_
      refine zJ_iload_n dX3_weigh_9 rfl rfl ?_
      refine zJ_bipush dX3_weigh_10 zb_6 rfl ?_
      refine zJ_imul dX3_weigh_12 rfl ?_
      refine zJ_iload_n dX3_weigh_13 rfl rfl ?_
      refine zJ_iadd dX3_weigh_14 rfl ?_
      obtain ⟨hg, h⟩ := gd_some h
      refine zJ_iald (mi := mX3_weigh) (f := play_clears) dX3_weigh_15 zW_44 (ix_in hg) rfl rfl ?_
      refine zJ_i2l dX3_weigh_16 rfl ?_
      obtain ⟨v5n2, ev5n2, h⟩ := lt1_some h
      refine zJ_nml ev5n2 ?_
      refine zJ_lstore (ls' := [(5, .long v5n2), (4, .int v4n1), (0, .ref 39), (1, .ref 20), (2, .int p2), (3, .int p3)]) dX3_weigh_17 rfl rfl rfl ?_
      refine zJ_aload_n dX3_weigh_19 rfl rfl ?_
      refine zJ_getr (mi := mX3_weigh) dX3_weigh_20 F_X3_27 zW_39 rfl rfl ?_
      refine zJ_iload_n dX3_weigh_23 rfl rfl ?_
      refine zJ_iconst dX3_weigh_24 zc_2 rfl ?_
      refine zJ_iload_n dX3_weigh_25 rfl rfl ?_
      refine zJ_imul dX3_weigh_26 rfl ?_
      obtain ⟨hg, h⟩ := gd_some h
      refine zK_iast (mi := mX3_weigh) (f := play_ends) (lb' := [(25, rounds_money), (41, play_faults), (42, play_tenths), (43, play_places), (44, play_clears), (45, (upd play_ends p2.toNatClampNeg ((2 : Int32) * p3)))]) dX3_weigh_27 zW_45 (ix_in hg) rfl rfl rfl ?_
      refine zJ_aload_n dX3_weigh_28 rfl rfl ?_
      refine zJ_aload_n dX3_weigh_29 rfl rfl ?_
      refine zJ_iload_n dX3_weigh_30 rfl rfl ?_
      refine zJ_iconst dX3_weigh_31 zc_1 rfl ?_
      refine zJ_iadd dX3_weigh_32 rfl ?_
      obtain ⟨play_firstPlann3, play_endsn4, play_worthn5, play_trialn6, hcl, h⟩ := bd4_some h
      refine zJ_callV2 (mi := mX3_weigh) (yi := mX3_settle) (as := [.ref 20, .int (p2 + (1 : Int32))]) (st := []) (L2 := ([(2497, play_players), (2498, play_plans), (2499, play_firstPlann3)], [(25, rounds_money), (41, play_faults), (42, play_tenths), (43, play_places), (44, play_clears), (45, play_endsn4)], [(46, play_worthn5), (47, play_trialn6)])) dX3_weigh_33 ML_X3_86 Yv_X3_settle rfl zW_39 rfl rfl (ih_X3_settle _ _ _ _ _ _ _ _ _ _ _ _ _ _ _ _ _ hcl) (zsub_i (zle_c rfl (zle_c rfl (zle_c rfl zle_n))) (zle_c rfl (zle_c rfl (zle_c rfl (zle_c rfl (zle_c rfl (zle_c rfl zle_n)))))) (zle_c rfl (zle_c rfl zle_n))) (zjok_i rfl rfl (zle_c rfl (zle_c rfl (zle_c rfl zle_n))) rfl rfl (zle_c rfl (zle_c rfl (zle_c rfl (zle_c rfl (zle_c rfl (zle_c rfl zle_n)))))) rfl rfl (zle_c rfl (zle_c rfl zle_n))) (by omega) (Nat.le_of_ble_eq_true rfl) rfl rfl ?_
      refine zJ_iconst dX3_weigh_36 zc_0 rfl ?_
      refine zJ_istore (ls' := [(7, .int (0 : Int32)), (5, .long v5n2), (4, .int v4n1), (0, .ref 39), (1, .ref 20), (2, .int p2), (3, .int p3)]) dX3_weigh_37 rfl rfl rfl ?_
      have hk39 : ∀ (play_trial_39x : (Nat → Int64)), k_X3_weigh_39 q_X3_settle p2 p3 play_players play_plans rounds_money play_faults play_tenths play_places play_clears v4n1 v5n2 play_firstPlann3 play_endsn4 play_worthn5 play_trial_39x = some (w_play_firstPlan, w_play_ends, w_play_worth, w_play_trial) → zJ l zW (n + 3) mX3_weigh σ ([(2497, play_players), (2498, play_plans), (2499, play_firstPlann3)], [(25, rounds_money), (41, play_faults), (42, play_tenths), (43, play_places), (44, play_clears), (45, play_endsn4)], [(46, play_worthn5), (47, play_trial_39x)]) 79 [(0, .ref 39), (1, .ref 20), (2, .int p2), (3, .int p3), (4, .int v4n1), (5, .long v5n2)] [] none ([(2497, play_players), (2498, play_plans), (2499, w_play_firstPlan)], [(25, rounds_money), (41, play_faults), (42, play_tenths), (43, play_places), (44, play_clears), (45, w_play_ends)], [(46, w_play_worth), (47, w_play_trial)]) := by
        intro play_trial_39x h
        unfold k_X3_weigh_39 at h
        refine zJ_aload_n dX3_weigh_79 rfl rfl ?_
        refine zJ_getr (mi := mX3_weigh) dX3_weigh_80 F_X3_27 zW_39 rfl rfl ?_
        refine zJ_iload_n dX3_weigh_83 rfl rfl ?_
        refine zJ_iconst dX3_weigh_84 zc_2 rfl ?_
        refine zJ_iload_n dX3_weigh_85 rfl rfl ?_
        refine zJ_imul dX3_weigh_86 rfl ?_
        refine zJ_iconst dX3_weigh_87 zc_1 rfl ?_
        refine zJ_iadd dX3_weigh_88 rfl ?_
        obtain ⟨hg, h⟩ := gd_some h
        refine zK_iast (mi := mX3_weigh) (f := play_endsn4) (lb' := [(25, rounds_money), (41, play_faults), (42, play_tenths), (43, play_places), (44, play_clears), (45, (upd play_endsn4 p2.toNatClampNeg (((2 : Int32) * p3) + (1 : Int32))))]) dX3_weigh_89 zW_45 (ix_in hg) rfl rfl rfl ?_
        refine zJ_aload_n dX3_weigh_90 rfl rfl ?_
        refine zJ_aload_n dX3_weigh_91 rfl rfl ?_
        refine zJ_iload_n dX3_weigh_92 rfl rfl ?_
        refine zJ_iconst dX3_weigh_93 zc_1 rfl ?_
        refine zJ_iadd dX3_weigh_94 rfl ?_
        obtain ⟨play_firstPlann7, play_endsn8, play_worthn9, play_trialn10, hcl, h⟩ := bd4_some h
        refine zJ_callV2 (mi := mX3_weigh) (yi := mX3_settle) (as := [.ref 20, .int (p2 + (1 : Int32))]) (st := []) (L2 := ([(2497, play_players), (2498, play_plans), (2499, play_firstPlann7)], [(25, rounds_money), (41, play_faults), (42, play_tenths), (43, play_places), (44, play_clears), (45, play_endsn8)], [(46, play_worthn9), (47, play_trialn10)])) dX3_weigh_95 ML_X3_86 Yv_X3_settle rfl zW_39 rfl rfl (ih_X3_settle _ _ _ _ _ _ _ _ _ _ _ _ _ _ _ _ _ hcl) (zsub_i (zle_c rfl (zle_c rfl (zle_c rfl zle_n))) (zle_c rfl (zle_c rfl (zle_c rfl (zle_c rfl (zle_c rfl (zle_c rfl zle_n)))))) (zle_c rfl (zle_c rfl zle_n))) (zjok_i rfl rfl (zle_c rfl (zle_c rfl (zle_c rfl zle_n))) rfl rfl (zle_c rfl (zle_c rfl (zle_c rfl (zle_c rfl (zle_c rfl (zle_c rfl zle_n)))))) rfl rfl (zle_c rfl (zle_c rfl zle_n))) (by omega) (Nat.le_of_ble_eq_true rfl) rfl rfl ?_
        refine zJ_iconst dX3_weigh_98 zc_0 rfl ?_
        refine zJ_istore (ls' := [(7, .int (0 : Int32)), (0, .ref 39), (1, .ref 20), (2, .int p2), (3, .int p3), (4, .int v4n1), (5, .long v5n2)]) dX3_weigh_99 rfl rfl rfl ?_
        have hk101 : ∀ (play_trial_101x : (Nat → Int64)), k_X3_weigh_101 play_firstPlann7 play_endsn8 play_worthn9 play_trial_101x = some (w_play_firstPlan, w_play_ends, w_play_worth, w_play_trial) → zJ l zW (n + 3) mX3_weigh σ ([(2497, play_players), (2498, play_plans), (2499, play_firstPlann7)], [(25, rounds_money), (41, play_faults), (42, play_tenths), (43, play_places), (44, play_clears), (45, play_endsn8)], [(46, play_worthn9), (47, play_trial_101x)]) 148 [] [] none ([(2497, play_players), (2498, play_plans), (2499, w_play_firstPlan)], [(25, rounds_money), (41, play_faults), (42, play_tenths), (43, play_places), (44, play_clears), (45, w_play_ends)], [(46, w_play_worth), (47, w_play_trial)]) := by
          intro play_trial_101x h
          unfold k_X3_weigh_101 at h
          obtain ⟨rfl, rfl, rfl, rfl⟩ := so4 h
          exact zJ_vret dX3_weigh_148 rfl
        refine zJ_loc (ls' := [(0, .ref 39), (4, .int v4n1), (5, .long v5n2), (7, .int (0 : Int32))]) (zll_c rfl (zll_c rfl (zll_c rfl (zll_c rfl zll_n)))) ?_
        refine ml2_J (fun (v7_101 : Int32) (play_trial_101 : (Nat → Int64)) => zJ l zW (n + 3) mX3_weigh σ ([(2497, play_players), (2498, play_plans), (2499, play_firstPlann7)], [(25, rounds_money), (41, play_faults), (42, play_tenths), (43, play_places), (44, play_clears), (45, play_endsn8)], [(46, play_worthn9), (47, play_trial_101)]) 101 [(0, .ref 39), (4, .int v4n1), (5, .long v5n2), (7, .int v7_101)] [] none ([(2497, play_players), (2498, play_plans), (2499, w_play_firstPlan)], [(25, rounds_money), (41, play_faults), (42, play_tenths), (43, play_places), (44, play_clears), (45, w_play_ends)], [(46, w_play_worth), (47, w_play_trial)])) (fun rc101 hrc101 v7_101 play_trial_101 h => ?_) zN _ _ h
        unfold s_X3_weigh_101 at h
        refine zJ_iload dX3_weigh_101 rfl rfl ?_
        refine zJ_aload_n dX3_weigh_103 rfl rfl ?_
        refine zJ_geti (mi := mX3_weigh) (x := play_players) dX3_weigh_104 F_X3_43 zW_39 rfl rfl rfl ?_
        refine zJ_icmp_ge (tgt := 148) dX3_weigh_107 (by decide) rfl (fun hc => ?_) (fun hc => ?_)
        · replace h := it_t hc h
          refine zJ_loc (ls' := []) zll_n ?_
          exact hk101 _ h
        · replace h := it_f hc h
          refine zJ_aload_n dX3_weigh_110 rfl rfl ?_
          refine zJ_getr (mi := mX3_weigh) dX3_weigh_111 F_X3_34 zW_39 rfl rfl ?_
          refine zJ_iload dX3_weigh_114 rfl rfl ?_
          refine zJ_iload dX3_weigh_116 rfl rfl ?_
          refine zJ_iadd dX3_weigh_118 rfl ?_
          refine zJ_dup2 dX3_weigh_119 rfl rfl rfl ?_
          obtain ⟨hg, h⟩ := gd_some h
          refine zJ_lald (mi := mX3_weigh) (f := play_trial_101) dX3_weigh_120 zW_47 (ix_in hg) rfl rfl ?_
          refine zJ_ldc2_w (v := 10000) dX3_weigh_121 C_X3_90 rfl ?_
          refine zJ_lload dX3_weigh_124 rfl rfl ?_
          refine zJ_lsub dX3_weigh_126 rfl ?_
          refine zJ_aload_n dX3_weigh_127 rfl rfl ?_
          refine zJ_getr (mi := mX3_weigh) dX3_weigh_128 F_X3_30 zW_39 rfl rfl ?_
          refine zJ_iload dX3_weigh_131 rfl rfl ?_
          refine zJ_iconst dX3_weigh_133 zc_3 rfl ?_
          refine zJ_iadd dX3_weigh_134 rfl ?_
          refine zJ_iload dX3_weigh_135 rfl rfl ?_
          refine zJ_iadd dX3_weigh_137 rfl ?_
          obtain ⟨hg, h⟩ := gd_some h
          refine zJ_lald (mi := mX3_weigh) (f := play_worthn9) dX3_weigh_138 zW_46 (ix_in hg) rfl rfl ?_
          refine zJ_lmul dX3_weigh_139 rfl ?_
          refine zJ_ladd dX3_weigh_140 rfl ?_
          obtain ⟨hg, h⟩ := gd_some h
          refine zK_last (mi := mX3_weigh) (f := play_trial_101) (lc' := [(46, play_worthn9), (47, (vp_updL play_trial_101 (v4n1 + v7_101).toNatClampNeg ((play_trial_101 (v4n1 + v7_101).toNatClampNeg) + (((10000 : Int64) - v5n2) * (play_worthn9 ((v4n1 + (3 : Int32)) + v7_101).toNatClampNeg)))))]) dX3_weigh_141 zW_47 (ix_in hg) rfl rfl rfl ?_
          obtain ⟨v7n11, ev7n11, h⟩ := lt1_some h
          refine zJ_iincN (ls' := [(7, .int v7n11), (0, .ref 39), (4, .int v4n1), (5, .long v5n2)]) dX3_weigh_142 rfl rfl zc_1 ev7n11 rfl rfl ?_
          refine zJ_goto (tgt := 101) dX3_weigh_145 (by decide) ?_
          refine zJ_loc (ls' := [(0, .ref 39), (4, .int v4n1), (5, .long v5n2), (7, .int v7n11)]) (zll_c rfl (zll_c rfl (zll_c rfl (zll_c rfl zll_n)))) ?_
          exact hrc101 _ _ h
      refine zJ_loc (ls' := [(0, .ref 39), (1, .ref 20), (2, .int p2), (3, .int p3), (4, .int v4n1), (5, .long v5n2), (7, .int (0 : Int32))]) (zll_c rfl (zll_c rfl (zll_c rfl (zll_c rfl (zll_c rfl (zll_c rfl (zll_c rfl zll_n))))))) ?_
      refine ml2_J (fun (v7_39 : Int32) (play_trial_39 : (Nat → Int64)) => zJ l zW (n + 3) mX3_weigh σ ([(2497, play_players), (2498, play_plans), (2499, play_firstPlann3)], [(25, rounds_money), (41, play_faults), (42, play_tenths), (43, play_places), (44, play_clears), (45, play_endsn4)], [(46, play_worthn5), (47, play_trial_39)]) 39 [(0, .ref 39), (1, .ref 20), (2, .int p2), (3, .int p3), (4, .int v4n1), (5, .long v5n2), (7, .int v7_39)] [] none ([(2497, play_players), (2498, play_plans), (2499, w_play_firstPlan)], [(25, rounds_money), (41, play_faults), (42, play_tenths), (43, play_places), (44, play_clears), (45, w_play_ends)], [(46, w_play_worth), (47, w_play_trial)])) (fun rc39 hrc39 v7_39 play_trial_39 h => ?_) zN _ _ h
      unfold s_X3_weigh_39 at h
      refine zJ_iload dX3_weigh_39 rfl rfl ?_
      refine zJ_aload_n dX3_weigh_41 rfl rfl ?_
      refine zJ_geti (mi := mX3_weigh) (x := play_players) dX3_weigh_42 F_X3_43 zW_39 rfl rfl rfl ?_
      refine zJ_icmp_ge (tgt := 79) dX3_weigh_45 (by decide) rfl (fun hc => ?_) (fun hc => ?_)
      · replace h := it_t hc h
        refine zJ_loc (ls' := [(0, .ref 39), (1, .ref 20), (2, .int p2), (3, .int p3), (4, .int v4n1), (5, .long v5n2)]) (zll_c rfl (zll_c rfl (zll_c rfl (zll_c rfl (zll_c rfl (zll_c rfl zll_n)))))) ?_
        exact hk39 _ h
      · replace h := it_f hc h
        refine zJ_aload_n dX3_weigh_48 rfl rfl ?_
        refine zJ_getr (mi := mX3_weigh) dX3_weigh_49 F_X3_34 zW_39 rfl rfl ?_
        refine zJ_iload dX3_weigh_52 rfl rfl ?_
        refine zJ_iload dX3_weigh_54 rfl rfl ?_
        refine zJ_iadd dX3_weigh_56 rfl ?_
        refine zJ_lload dX3_weigh_57 rfl rfl ?_
        refine zJ_aload_n dX3_weigh_59 rfl rfl ?_
        refine zJ_getr (mi := mX3_weigh) dX3_weigh_60 F_X3_30 zW_39 rfl rfl ?_
        refine zJ_iload dX3_weigh_63 rfl rfl ?_
        refine zJ_iconst dX3_weigh_65 zc_3 rfl ?_
        refine zJ_iadd dX3_weigh_66 rfl ?_
        refine zJ_iload dX3_weigh_67 rfl rfl ?_
        refine zJ_iadd dX3_weigh_69 rfl ?_
        obtain ⟨hg, h⟩ := gd_some h
        refine zJ_lald (mi := mX3_weigh) (f := play_worthn5) dX3_weigh_70 zW_46 (ix_in hg) rfl rfl ?_
        refine zJ_lmul dX3_weigh_71 rfl ?_
        obtain ⟨hg, h⟩ := gd_some h
        refine zK_last (mi := mX3_weigh) (f := play_trial_39) (lc' := [(46, play_worthn5), (47, (vp_updL play_trial_39 (v4n1 + v7_39).toNatClampNeg (v5n2 * (play_worthn5 ((v4n1 + (3 : Int32)) + v7_39).toNatClampNeg))))]) dX3_weigh_72 zW_47 (ix_in hg) rfl rfl rfl ?_
        obtain ⟨v7n12, ev7n12, h⟩ := lt1_some h
        refine zJ_iincN (ls' := [(7, .int v7n12), (0, .ref 39), (1, .ref 20), (2, .int p2), (3, .int p3), (4, .int v4n1), (5, .long v5n2)]) dX3_weigh_73 rfl rfl zc_1 ev7n12 rfl rfl ?_
        refine zJ_goto (tgt := 39) dX3_weigh_76 (by decide) ?_
        refine zJ_loc (ls' := [(0, .ref 39), (1, .ref 20), (2, .int p2), (3, .int p3), (4, .int v4n1), (5, .long v5n2), (7, .int v7n12)]) (zll_c rfl (zll_c rfl (zll_c rfl (zll_c rfl (zll_c rfl (zll_c rfl (zll_c rfl zll_n))))))) ?_
        exact hrc39 _ _ h

theorem t_X3_settle (l : Launch) (σ : zS) (n : Nat) {p2 : Int32} {play_players : Int32} {play_plans : Int32} {play_firstPlan : Int32} {rounds_money : (Nat → Int32)} {play_faults : (Nat → Int32)} {play_tenths : (Nat → Int32)} {play_places : (Nat → Int32)} {play_clears : (Nat → Int32)} {play_ends : (Nat → Int32)} {play_worth : (Nat → Int64)} {play_trial : (Nat → Int64)} {w_play_firstPlan : Int32} {w_play_ends : (Nat → Int32)} {w_play_worth : (Nat → Int64)} {w_play_trial : (Nat → Int64)} (h : f_X3_settle n p2 play_players play_plans play_firstPlan rounds_money play_faults play_tenths play_places play_clears play_ends play_worth play_trial = some (w_play_firstPlan, w_play_ends, w_play_worth, w_play_trial)) : zMt l zW (n + 2) mX3_settle σ ([(2497, play_players), (2498, play_plans), (2499, play_firstPlan)], [(25, rounds_money), (41, play_faults), (42, play_tenths), (43, play_places), (44, play_clears), (45, play_ends)], [(46, play_worth), (47, play_trial)]) [.ref 39, .ref 20, .int p2] none ([(2497, play_players), (2498, play_plans), (2499, w_play_firstPlan)], [(25, rounds_money), (41, play_faults), (42, play_tenths), (43, play_places), (44, play_clears), (45, w_play_ends)], [(46, w_play_worth), (47, w_play_trial)]) := (tg_X3_settle l n).1 σ _ _ _ _ _ _ _ _ _ _ _ _ _ _ _ _ h
theorem t_X3_weigh (l : Launch) (σ : zS) (n : Nat) {p2 : Int32} {p3 : Int32} {play_players : Int32} {play_plans : Int32} {play_firstPlan : Int32} {rounds_money : (Nat → Int32)} {play_faults : (Nat → Int32)} {play_tenths : (Nat → Int32)} {play_places : (Nat → Int32)} {play_clears : (Nat → Int32)} {play_ends : (Nat → Int32)} {play_worth : (Nat → Int64)} {play_trial : (Nat → Int64)} {w_play_firstPlan : Int32} {w_play_ends : (Nat → Int32)} {w_play_worth : (Nat → Int64)} {w_play_trial : (Nat → Int64)} (h : f_X3_weigh n p2 p3 play_players play_plans play_firstPlan rounds_money play_faults play_tenths play_places play_clears play_ends play_worth play_trial = some (w_play_firstPlan, w_play_ends, w_play_worth, w_play_trial)) : zMt l zW (n + 2) mX3_weigh σ ([(2497, play_players), (2498, play_plans), (2499, play_firstPlan)], [(25, rounds_money), (41, play_faults), (42, play_tenths), (43, play_places), (44, play_clears), (45, play_ends)], [(46, play_worth), (47, play_trial)]) [.ref 39, .ref 20, .int p2, .int p3] none ([(2497, play_players), (2498, play_plans), (2499, w_play_firstPlan)], [(25, rounds_money), (41, play_faults), (42, play_tenths), (43, play_places), (44, play_clears), (45, w_play_ends)], [(46, w_play_worth), (47, w_play_trial)]) := (tg_X3_settle l n).2 σ _ _ _ _ _ _ _ _ _ _ _ _ _ _ _ _ _ h
