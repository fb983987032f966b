set_option maxRecDepth 100000 in
set_option maxHeartbeats 4000000 in
theorem t_X3_start (l : Launch) (σ : zS) {p3 : Int32} {course_fences : Int32} {course_rule_size : Int32} {play_players : Int32} {play_plans : Int32} {play_firstPlan : Int32} {course_kinds : (Nat → Int32)} {course_heights : (Nat → Int32)} {course_feet : (Nat → Int32)} {course_digits : (Nat → Int32)} {course_plans : (Nat → Int32)} {rule_codes : (Nat → Int32)} {rule_stack : (Nat → Int32)} {rule_things : (Nat → Int32)} {rounds_money : (Nat → Int32)} {play_named : (Nat → Int32)} {play_faults : (Nat → Int32)} {play_tenths : (Nat → Int32)} {play_places : (Nat → Int32)} {play_clears : (Nat → Int32)} {play_ends : (Nat → Int32)} {play_worth : (Nat → Int64)} {play_trial : (Nat → Int64)} {w_play_firstPlan : Int32} {w_rule_stack : (Nat → Int32)} {w_rule_things : (Nat → Int32)} {w_play_clears : (Nat → Int32)} {w_play_ends : (Nat → Int32)} {w_play_worth : (Nat → Int64)} {w_play_trial : (Nat → Int64)} (h : f_X3_start p3 course_fences course_rule_size play_players play_plans play_firstPlan course_kinds course_heights course_feet course_digits course_plans rule_codes rule_stack rule_things rounds_money play_named play_faults play_tenths play_places play_clears play_ends play_worth play_trial = some (w_play_firstPlan, w_rule_stack, w_rule_things, w_play_clears, w_play_ends, w_play_worth, w_play_trial)) : zMt l zW 203 mX3_start σ ([(323, course_fences), (769, course_rule_size), (2497, play_players), (2498, play_plans), (2499, play_firstPlan)], [(6, course_kinds), (7, course_heights), (8, course_feet), (10, course_digits), (11, course_plans), (13, rule_codes), (15, rule_stack), (16, rule_things), (25, rounds_money), (40, play_named), (41, play_faults), (42, play_tenths), (43, play_places), (44, play_clears), (45, play_ends)], [(46, play_worth), (47, play_trial)]) [.ref 39, .ref 5, .ref 20, .int p3] none ([(323, course_fences), (769, course_rule_size), (2497, play_players), (2498, play_plans), (2499, w_play_firstPlan)], [(6, course_kinds), (7, course_heights), (8, course_feet), (10, course_digits), (11, course_plans), (13, rule_codes), (15, w_rule_stack), (16, w_rule_things), (25, rounds_money), (40, play_named), (41, play_faults), (42, play_tenths), (43, play_places), (44, w_play_clears), (45, w_play_ends)], [(46, w_play_worth), (47, w_play_trial)]) := by
  refine zMt_of (ls := [(0, .ref 39), (1, .ref 5), (2, .ref 20), (3, .int p3)]) (by decide) rfl (fun _ => Nat.le_of_ble_eq_true rfl) rfl ?_
  unfold f_X3_start at h
  refine zJ_iconst dX3_start_0 zc_0 rfl ?_
  refine zJ_istore (ls' := [(4, .int (0 : Int32)), (0, .ref 39), (1, .ref 5), (2, .ref 20), (3, .int p3)]) dX3_start_1 rfl rfl rfl ?_
  have hk3 : ∀ (rule_stack_3x : (Nat → Int32)) (rule_things_3x : (Nat → Int32)) (play_clears_3x : (Nat → Int32)), k_X3_start_3 play_players play_plans play_firstPlan rounds_money play_faults play_tenths play_places play_ends play_worth play_trial rule_stack_3x rule_things_3x play_clears_3x = some (w_play_firstPlan, w_rule_stack, w_rule_things, w_play_clears, w_play_ends, w_play_worth, w_play_trial) → zJ l zW 203 mX3_start σ ([(323, course_fences), (769, course_rule_size), (2497, play_players), (2498, play_plans), (2499, play_firstPlan)], [(6, course_kinds), (7, course_heights), (8, course_feet), (10, course_digits), (11, course_plans), (13, rule_codes), (15, rule_stack_3x), (16, rule_things_3x), (25, rounds_money), (40, play_named), (41, play_faults), (42, play_tenths), (43, play_places), (44, play_clears_3x), (45, play_ends)], [(46, play_worth), (47, play_trial)]) 97 [(0, .ref 39), (2, .ref 20)] [] none ([(323, course_fences), (769, course_rule_size), (2497, play_players), (2498, play_plans), (2499, w_play_firstPlan)], [(6, course_kinds), (7, course_heights), (8, course_feet), (10, course_digits), (11, course_plans), (13, rule_codes), (15, w_rule_stack), (16, w_rule_things), (25, rounds_money), (40, play_named), (41, play_faults), (42, play_tenths), (43, play_places), (44, w_play_clears), (45, w_play_ends)], [(46, w_play_worth), (47, w_play_trial)]) := by
    intro rule_stack_3x rule_things_3x play_clears_3x h
    unfold k_X3_start_3 at h
    refine zJ_aload_n dX3_start_97 rfl rfl ?_
    refine zJ_aload_n dX3_start_98 rfl rfl ?_
    refine zJ_iconst dX3_start_99 zc_0 rfl ?_
    obtain ⟨play_firstPlann1, play_endsn2, play_worthn3, play_trialn4, hcl, h⟩ := bd4_some h
    refine zJ_callV2 (mi := mX3_start) (yi := mX3_settle) (as := [.ref 20, .int (0 : Int32)]) (st := []) (L2 := ([(323, course_fences), (769, course_rule_size), (2497, play_players), (2498, play_plans), (2499, play_firstPlann1)], [(6, course_kinds), (7, course_heights), (8, course_feet), (10, course_digits), (11, course_plans), (13, rule_codes), (15, rule_stack_3x), (16, rule_things_3x), (25, rounds_money), (40, play_named), (41, play_faults), (42, play_tenths), (43, play_places), (44, play_clears_3x), (45, play_endsn2)], [(46, play_worthn3), (47, play_trialn4)])) dX3_start_100 ML_X3_86 Yv_X3_settle rfl zW_39 rfl rfl (t_X3_settle l _ 200 hcl) (zsub_i (zle_c rfl (zle_c rfl (zle_c rfl zle_n))) (zle_c rfl (zle_c rfl (zle_c rfl (zle_c rfl (zle_c rfl (zle_c rfl zle_n)))))) (zle_c rfl (zle_c rfl zle_n))) (zjok_i rfl rfl (zle_c rfl (zle_c rfl (zle_c rfl (zle_c rfl (zle_c rfl zle_n))))) rfl rfl (zle_c rfl (zle_c rfl (zle_c rfl (zle_c rfl (zle_c rfl (zle_c rfl (zle_c rfl (zle_c rfl (zle_c rfl (zle_c rfl (zle_c rfl (zle_c rfl (zle_c rfl (zle_c rfl (zle_c rfl zle_n))))))))))))))) rfl rfl (zle_c rfl (zle_c rfl zle_n))) (Nat.le_of_ble_eq_true rfl) (Nat.le_of_ble_eq_true rfl) rfl rfl ?_
    obtain ⟨rfl, rfl, rfl, rfl, rfl, rfl, rfl⟩ := so7 h
    exact zJ_vret dX3_start_103 rfl
  refine zJ_loc (ls' := [(0, .ref 39), (1, .ref 5), (2, .ref 20), (3, .int p3), (4, .int (0 : Int32))]) (zll_c rfl (zll_c rfl (zll_c rfl (zll_c rfl (zll_c rfl zll_n))))) ?_
  refine ml4_J (fun (v4_3 : Int32) (rule_stack_3 : (Nat → Int32)) (rule_things_3 : (Nat → Int32)) (play_clears_3 : (Nat → Int32)) => zJ l zW 203 mX3_start σ ([(323, course_fences), (769, course_rule_size), (2497, play_players), (2498, play_plans), (2499, play_firstPlan)], [(6, course_kinds), (7, course_heights), (8, course_feet), (10, course_digits), (11, course_plans), (13, rule_codes), (15, rule_stack_3), (16, rule_things_3), (25, rounds_money), (40, play_named), (41, play_faults), (42, play_tenths), (43, play_places), (44, play_clears_3), (45, play_ends)], [(46, play_worth), (47, play_trial)]) 3 [(0, .ref 39), (1, .ref 5), (2, .ref 20), (3, .int p3), (4, .int v4_3)] [] none ([(323, course_fences), (769, course_rule_size), (2497, play_players), (2498, play_plans), (2499, w_play_firstPlan)], [(6, course_kinds), (7, course_heights), (8, course_feet), (10, course_digits), (11, course_plans), (13, rule_codes), (15, w_rule_stack), (16, w_rule_things), (25, rounds_money), (40, play_named), (41, play_faults), (42, play_tenths), (43, play_places), (44, w_play_clears), (45, w_play_ends)], [(46, w_play_worth), (47, w_play_trial)])) (fun rc3 hrc3 v4_3 rule_stack_3 rule_things_3 play_clears_3 h => ?_) zN _ _ _ _ h
  unfold s_X3_start_3 at h
  refine zJ_iload dX3_start_3 rfl rfl ?_
  refine zJ_aload_n dX3_start_5 rfl rfl ?_
  refine zJ_geti (mi := mX3_start) (x := play_players) dX3_start_6 F_X3_43 zW_39 rfl rfl rfl ?_
  refine zJ_icmp_ge (tgt := 97) dX3_start_9 (by decide) rfl (fun hc => ?_) (fun hc => ?_)
  · replace h := it_t hc h
    refine zJ_loc (ls' := [(0, .ref 39), (2, .ref 20)]) (zll_c rfl (zll_c rfl zll_n)) ?_
    exact hk3 _ _ _ h
  · replace h := it_f hc h
    refine zJ_iload dX3_start_12 rfl rfl ?_
    refine zJ_iload_n dX3_start_14 rfl rfl ?_
    have hj_X3_start_24 : ∀ (t0_24j : Int32), j_X3_start_24 p3 course_fences course_rule_size play_players play_plans course_kinds course_heights course_feet course_digits course_plans rule_codes play_named rc3 v4_3 rule_stack_3 rule_things_3 play_clears_3 t0_24j = some (w_play_firstPlan, w_rule_stack, w_rule_things, w_play_clears, w_play_ends, w_play_worth, w_play_trial) → zJ l zW 203 mX3_start σ ([(323, course_fences), (769, course_rule_size), (2497, play_players), (2498, play_plans), (2499, play_firstPlan)], [(6, course_kinds), (7, course_heights), (8, course_feet), (10, course_digits), (11, course_plans), (13, rule_codes), (15, rule_stack_3), (16, rule_things_3), (25, rounds_money), (40, play_named), (41, play_faults), (42, play_tenths), (43, play_places), (44, play_clears_3), (45, play_ends)], [(46, play_worth), (47, play_trial)]) 24 [(0, .ref 39), (1, .ref 5), (2, .ref 20), (3, .int p3), (4, .int v4_3)] [.int t0_24j] none ([(323, course_fences), (769, course_rule_size), (2497, play_players), (2498, play_plans), (2499, w_play_firstPlan)], [(6, course_kinds), (7, course_heights), (8, course_feet), (10, course_digits), (11, course_plans), (13, rule_codes), (15, w_rule_stack), (16, w_rule_things), (25, rounds_money), (40, play_named), (41, play_faults), (42, play_tenths), (43, play_places), (44, w_play_clears), (45, w_play_ends)], [(46, w_play_worth), (47, w_play_trial)]) := by
      intro t0_24j h
      unfold j_X3_start_24 at h
      refine zJ_istore (ls' := [(5, .int t0_24j), (0, .ref 39), (1, .ref 5), (2, .ref 20), (3, .int p3), (4, .int v4_3)]) dX3_start_24 rfl rfl rfl ?_
      refine zJ_iload dX3_start_26 rfl rfl ?_
      refine zJ_iload_n dX3_start_28 rfl rfl ?_
      have hj_X3_start_38 : ∀ (v5_38j : Int32), j_X3_start_38 course_fences course_rule_size play_players play_plans course_kinds course_heights course_feet course_digits course_plans rule_codes play_named rc3 v4_3 rule_stack_3 rule_things_3 play_clears_3 v5_38j = some (w_play_firstPlan, w_rule_stack, w_rule_things, w_play_clears, w_play_ends, w_play_worth, w_play_trial) → zJ l zW 203 mX3_start σ ([(323, course_fences), (769, course_rule_size), (2497, play_players), (2498, play_plans), (2499, play_firstPlan)], [(6, course_kinds), (7, course_heights), (8, course_feet), (10, course_digits), (11, course_plans), (13, rule_codes), (15, rule_stack_3), (16, rule_things_3), (25, rounds_money), (40, play_named), (41, play_faults), (42, play_tenths), (43, play_places), (44, play_clears_3), (45, play_ends)], [(46, play_worth), (47, play_trial)]) 38 [(0, .ref 39), (1, .ref 5), (2, .ref 20), (3, .int p3), (4, .int v4_3), (5, .int v5_38j)] [] none ([(323, course_fences), (769, course_rule_size), (2497, play_players), (2498, play_plans), (2499, w_play_firstPlan)], [(6, course_kinds), (7, course_heights), (8, course_feet), (10, course_digits), (11, course_plans), (13, rule_codes), (15, w_rule_stack), (16, w_rule_things), (25, rounds_money), (40, play_named), (41, play_faults), (42, play_tenths), (43, play_places), (44, w_play_clears), (45, w_play_ends)], [(46, w_play_worth), (47, w_play_trial)]) := by
        intro v5_38j h
        unfold j_X3_start_38 at h
        refine zJ_iconst dX3_start_38 zc_0 rfl ?_
        refine zJ_istore (ls' := [(6, .int (0 : Int32)), (0, .ref 39), (1, .ref 5), (2, .ref 20), (3, .int p3), (4, .int v4_3), (5, .int v5_38j)]) dX3_start_39 rfl rfl rfl ?_
        have hk41 : ∀ (rule_stack_41x : (Nat → Int32)) (rule_things_41x : (Nat → Int32)) (play_clears_41x : (Nat → Int32)), k_X3_start_41 rc3 v4_3 rule_stack_41x rule_things_41x play_clears_41x = some (w_play_firstPlan, w_rule_stack, w_rule_things, w_play_clears, w_play_ends, w_play_worth, w_play_trial) → zJ l zW 203 mX3_start σ ([(323, course_fences), (769, course_rule_size), (2497, play_players), (2498, play_plans), (2499, play_firstPlan)], [(6, course_kinds), (7, course_heights), (8, course_feet), (10, course_digits), (11, course_plans), (13, rule_codes), (15, rule_stack_41x), (16, rule_things_41x), (25, rounds_money), (40, play_named), (41, play_faults), (42, play_tenths), (43, play_places), (44, play_clears_41x), (45, play_ends)], [(46, play_worth), (47, play_trial)]) 91 [(0, .ref 39), (1, .ref 5), (2, .ref 20), (3, .int p3), (4, .int v4_3)] [] none ([(323, course_fences), (769, course_rule_size), (2497, play_players), (2498, play_plans), (2499, w_play_firstPlan)], [(6, course_kinds), (7, course_heights), (8, course_feet), (10, course_digits), (11, course_plans), (13, rule_codes), (15, w_rule_stack), (16, w_rule_things), (25, rounds_money), (40, play_named), (41, play_faults), (42, play_tenths), (43, play_places), (44, w_play_clears), (45, w_play_ends)], [(46, w_play_worth), (47, w_play_trial)]) := by
          intro rule_stack_41x rule_things_41x play_clears_41x h
          unfold k_X3_start_41 at h
          obtain ⟨v4n5, ev4n5, h⟩ := lt1_some h
          refine zJ_iincN (ls' := [(4, .int v4n5), (0, .ref 39), (1, .ref 5), (2, .ref 20), (3, .int p3)]) dX3_start_91 rfl rfl zc_1 ev4n5 rfl rfl ?_
          refine zJ_goto (tgt := 3) dX3_start_94 (by decide) ?_
          refine zJ_loc (ls' := [(0, .ref 39), (1, .ref 5), (2, .ref 20), (3, .int p3), (4, .int v4n5)]) (zll_c rfl (zll_c rfl (zll_c rfl (zll_c rfl (zll_c rfl zll_n))))) ?_
          exact hrc3 _ _ _ _ h
        refine zJ_loc (ls' := [(0, .ref 39), (1, .ref 5), (2, .ref 20), (3, .int p3), (4, .int v4_3), (5, .int v5_38j), (6, .int (0 : Int32))]) (zll_c rfl (zll_c rfl (zll_c rfl (zll_c rfl (zll_c rfl (zll_c rfl (zll_c rfl zll_n))))))) ?_
        refine ml4_J (fun (v6_41 : Int32) (rule_stack_41 : (Nat → Int32)) (rule_things_41 : (Nat → Int32)) (play_clears_41 : (Nat → Int32)) => zJ l zW 203 mX3_start σ ([(323, course_fences), (769, course_rule_size), (2497, play_players), (2498, play_plans), (2499, play_firstPlan)], [(6, course_kinds), (7, course_heights), (8, course_feet), (10, course_digits), (11, course_plans), (13, rule_codes), (15, rule_stack_41), (16, rule_things_41), (25, rounds_money), (40, play_named), (41, play_faults), (42, play_tenths), (43, play_places), (44, play_clears_41), (45, play_ends)], [(46, play_worth), (47, play_trial)]) 41 [(0, .ref 39), (1, .ref 5), (2, .ref 20), (3, .int p3), (4, .int v4_3), (5, .int v5_38j), (6, .int v6_41)] [] none ([(323, course_fences), (769, course_rule_size), (2497, play_players), (2498, play_plans), (2499, w_play_firstPlan)], [(6, course_kinds), (7, course_heights), (8, course_feet), (10, course_digits), (11, course_plans), (13, rule_codes), (15, w_rule_stack), (16, w_rule_things), (25, rounds_money), (40, play_named), (41, play_faults), (42, play_tenths), (43, play_places), (44, w_play_clears), (45, w_play_ends)], [(46, w_play_worth), (47, w_play_trial)])) (fun rc41 hrc41 v6_41 rule_stack_41 rule_things_41 play_clears_41 h => ?_) zN _ _ _ _ h
        unfold s_X3_start_41 at h
        refine zJ_iload dX3_start_41 rfl rfl ?_
        refine zJ_aload_n dX3_start_43 rfl rfl ?_
        refine zJ_geti (mi := mX3_start) (x := play_plans) dX3_start_44 F_X3_64 zW_39 rfl rfl rfl ?_
        refine zJ_icmp_ge (tgt := 91) dX3_start_47 (by decide) rfl (fun hc => ?_) (fun hc => ?_)
        · replace h := it_t hc h
          refine zJ_loc (ls' := [(0, .ref 39), (1, .ref 5), (2, .ref 20), (3, .int p3), (4, .int v4_3)]) (zll_c rfl (zll_c rfl (zll_c rfl (zll_c rfl (zll_c rfl zll_n))))) ?_
          exact hk41 _ _ _ h
        · replace h := it_f hc h
          refine zJ_iload dX3_start_50 rfl rfl ?_
          refine zJ_aload_n dX3_start_52 rfl rfl ?_
          refine zJ_geti (mi := mX3_start) (x := play_players) dX3_start_53 F_X3_43 zW_39 rfl rfl rfl ?_
          refine zJ_icmp_ge (tgt := 91) dX3_start_56 (by decide) rfl (fun hc => ?_) (fun hc => ?_)
          · replace h := it_t hc h
            refine zJ_loc (ls' := [(0, .ref 39), (1, .ref 5), (2, .ref 20), (3, .int p3), (4, .int v4_3)]) (zll_c rfl (zll_c rfl (zll_c rfl (zll_c rfl (zll_c rfl zll_n))))) ?_
            exact hk41 _ _ _ h
          · replace h := it_f hc h
            refine zJ_aload_n dX3_start_59 rfl rfl ?_
            refine zJ_getr (mi := mX3_start) dX3_start_60 F_X3_24 zW_39 rfl rfl ?_
            refine zJ_iload dX3_start_63 rfl rfl ?_
            refine zJ_bipush dX3_start_65 zb_6 rfl ?_
            refine zJ_imul dX3_start_67 rfl ?_
            refine zJ_iload dX3_start_68 rfl rfl ?_
            refine zJ_iadd dX3_start_70 rfl ?_
            refine zJ_aload_n dX3_start_71 rfl rfl ?_
            refine zJ_aload_n dX3_start_72 rfl rfl ?_
            refine zJ_getr (mi := mX3_start) dX3_start_73 F_X3_11 zW_39 rfl rfl ?_
            refine zJ_iload dX3_start_76 rfl rfl ?_
            obtain ⟨hg, h⟩ := gd_some h
            refine zJ_iald (mi := mX3_start) (f := play_named) dX3_start_78 zW_40 (ix_in hg) rfl rfl ?_
            refine zJ_iload dX3_start_79 rfl rfl ?_
            obtain ⟨rn6, rule_stackn7, rule_thingsn8, hcl, h⟩ := bd3_some h
            refine zJ_callV2 (mi := mX3_start) (yi := mX1_clearOf) (as := [.int (play_named v5_38j.toNatClampNeg), .int v6_41]) (st := [.int ((v4_3 * (6 : Int32)) + v6_41), .ref 44]) (L2 := ([(323, course_fences), (769, course_rule_size), (2497, play_players), (2498, play_plans), (2499, play_firstPlan)], [(6, course_kinds), (7, course_heights), (8, course_feet), (10, course_digits), (11, course_plans), (13, rule_codes), (15, rule_stackn7), (16, rule_thingsn8), (25, rounds_money), (40, play_named), (41, play_faults), (42, play_tenths), (43, play_places), (44, play_clears_41), (45, play_ends)], [(46, play_worth), (47, play_trial)])) dX3_start_81 ML_X3_83 Yv_X1_clearOf rfl zW_5 rfl rfl (t_X1_clearOf l _ hcl) (zsub_i (zle_c rfl (zle_c rfl zle_n)) (zle_c rfl (zle_c rfl (zle_c rfl (zle_c rfl (zle_c rfl (zle_c rfl (zle_c rfl (zle_c rfl zle_n)))))))) zle_n) (zjok_i rfl rfl (zle_c rfl (zle_c rfl (zle_c rfl (zle_c rfl (zle_c rfl zle_n))))) rfl rfl (zle_c rfl (zle_c rfl (zle_c rfl (zle_c rfl (zle_c rfl (zle_c rfl (zle_c rfl (zle_c rfl (zle_c rfl (zle_c rfl (zle_c rfl (zle_c rfl (zle_c rfl (zle_c rfl (zle_c rfl zle_n))))))))))))))) rfl rfl (zle_c rfl (zle_c rfl zle_n))) (Nat.le_of_ble_eq_true rfl) (Nat.le_of_ble_eq_true rfl) rfl rfl ?_
            obtain ⟨hg, h⟩ := gd_some h
            refine zK_iast (mi := mX3_start) (f := play_clears_41) (lb' := [(6, course_kinds), (7, course_heights), (8, course_feet), (10, course_digits), (11, course_plans), (13, rule_codes), (15, rule_stackn7), (16, rule_thingsn8), (25, rounds_money), (40, play_named), (41, play_faults), (42, play_tenths), (43, play_places), (44, (upd play_clears_41 ((v4_3 * (6 : Int32)) + v6_41).toNatClampNeg rn6)), (45, play_ends)]) dX3_start_84 zW_44 (ix_in hg) rfl rfl rfl ?_
            obtain ⟨v6n9, ev6n9, h⟩ := lt1_some h
            refine zJ_iincN (ls' := [(6, .int v6n9), (0, .ref 39), (1, .ref 5), (2, .ref 20), (3, .int p3), (4, .int v4_3), (5, .int v5_38j)]) dX3_start_85 rfl rfl zc_1 ev6n9 rfl rfl ?_
            refine zJ_goto (tgt := 41) dX3_start_88 (by decide) ?_
            refine zJ_loc (ls' := [(0, .ref 39), (1, .ref 5), (2, .ref 20), (3, .int p3), (4, .int v4_3), (5, .int v5_38j), (6, .int v6n9)]) (zll_c rfl (zll_c rfl (zll_c rfl (zll_c rfl (zll_c rfl (zll_c rfl (zll_c rfl zll_n))))))) ?_
            exact hrc41 _ _ _ _ h
      refine zJ_icmp_ge (tgt := 38) dX3_start_29 (by decide) rfl (fun hc => ?_) (fun hc => ?_)
      · replace h := it_t hc h
        refine zJ_loc (ls' := [(0, .ref 39), (1, .ref 5), (2, .ref 20), (3, .int p3), (4, .int v4_3), (5, .int t0_24j)]) (zll_c rfl (zll_c rfl (zll_c rfl (zll_c rfl (zll_c rfl (zll_c rfl zll_n)))))) ?_
        exact hj_X3_start_38 _ h
      · replace h := it_f hc h
        refine zJ_iload dX3_start_32 rfl rfl ?_
        refine zJ_iconst dX3_start_34 zc_1 rfl ?_
        refine zJ_iadd dX3_start_35 rfl ?_
        obtain ⟨v5n10, ev5n10, h⟩ := lt1_some h
        refine zJ_nmi ev5n10 ?_
        refine zJ_istore (ls' := [(5, .int v5n10), (0, .ref 39), (1, .ref 5), (2, .ref 20), (3, .int p3), (4, .int v4_3)]) dX3_start_36 rfl rfl rfl ?_
        refine zJ_loc (ls' := [(0, .ref 39), (1, .ref 5), (2, .ref 20), (3, .int p3), (4, .int v4_3), (5, .int v5n10)]) (zll_c rfl (zll_c rfl (zll_c rfl (zll_c rfl (zll_c rfl (zll_c rfl zll_n)))))) ?_
        exact hj_X3_start_38 _ h
    refine zJ_icmp_ne (tgt := 22) dX3_start_15 (by decide) rfl (fun hc => ?_) (fun hc => ?_)
    · replace h := it_f hc h
      refine zJ_iload dX3_start_22 rfl rfl ?_
      refine zJ_loc (ls' := [(0, .ref 39), (1, .ref 5), (2, .ref 20), (3, .int p3), (4, .int v4_3)]) (zll_c rfl (zll_c rfl (zll_c rfl (zll_c rfl (zll_c rfl zll_n))))) ?_
      exact hj_X3_start_24 _ h
    · replace h := it_t hc h
      refine zJ_iconst dX3_start_18 zc_0 rfl ?_
      refine zJ_goto (tgt := 24) dX3_start_19 (by decide) ?_
      refine zJ_loc (ls' := [(0, .ref 39), (1, .ref 5), (2, .ref 20), (3, .int p3), (4, .int v4_3)]) (zll_c rfl (zll_c rfl (zll_c rfl (zll_c rfl (zll_c rfl zll_n))))) ?_
      exact hj_X3_start_24 _ h
set_option maxRecDepth 100000 in
set_option maxHeartbeats 4000000 in
theorem t_X3_won (l : Launch) (σ : zS) {p1 : Int32} {play_players : Int32} {play_worth : (Nat → Int64)} {r : Int64} (h : f_X3_won p1 play_players play_worth = some r) : zMt l zW 0 mX3_won σ ([(2497, play_players)], [], [(46, play_worth)]) [.ref 39, .int p1] (some (.long r)) ([(2497, play_players)], [], [(46, play_worth)]) := by
  refine zMt_of (ls := [(0, .ref 39), (1, .int p1)]) (by decide) rfl (fun _ => Nat.le_of_ble_eq_true rfl) rfl ?_
  unfold f_X3_won at h
  refine zJ_iload_n dX3_won_0 rfl rfl ?_
  refine zJ_if_lt (tgt := 21) dX3_won_1 (by decide) rfl (fun hc => ?_) (fun hc => ?_)
  · replace h := it_t hc h
    refine zJ_lconst dX3_won_21 zl_0 rfl ?_
    obtain rfl := so1 h
    exact zJ_lret dX3_won_22 rfl
  · replace h := it_f hc h
    refine zJ_iload_n dX3_won_4 rfl rfl ?_
    refine zJ_aload_n dX3_won_5 rfl rfl ?_
    refine zJ_geti (mi := mX3_won) (x := play_players) dX3_won_6 F_X3_43 zW_39 rfl rfl rfl ?_
    refine zJ_icmp_ge (tgt := 21) dX3_won_9 (by decide) rfl (fun hc => ?_) (fun hc => ?_)
    · replace h := it_t hc h
      refine zJ_lconst dX3_won_21 zl_0 rfl ?_
      obtain rfl := so1 h
      exact zJ_lret dX3_won_22 rfl
    · replace h := it_f hc h
      refine zJ_aload_n dX3_won_12 rfl rfl ?_
      refine zJ_getr (mi := mX3_won) dX3_won_13 F_X3_30 zW_39 rfl rfl ?_
      refine zJ_iload_n dX3_won_16 rfl rfl ?_
      obtain ⟨hg, h⟩ := gd_some h
      refine zJ_lald (mi := mX3_won) (f := play_worth) dX3_won_17 zW_46 (ix_in hg) rfl rfl ?_
      refine zJ_goto (tgt := 22) dX3_won_18 (by decide) ?_
      obtain rfl := so1 h
      exact zJ_lret dX3_won_22 rfl
set_option maxRecDepth 100000 in
set_option maxHeartbeats 4000000 in
theorem t_X6_common (l : Launch) (σ : zS) {p0 : Int64} {p2 : Int64} {r : Int64} (h : f_X6_common p0 p2 = some r) : zMt l zW 0 mX6_common σ ([], [], []) [.long p0, .long p2] (some (.long r)) ([], [], []) := by
  refine zMt_of (ls := [(0, .long p0), (2, .long p2)]) (by decide) rfl (fun _ => Nat.le_of_ble_eq_true rfl) rfl ?_
  unfold f_X6_common at h
  refine zJ_lload_n dX6_common_0 rfl rfl ?_
  refine zJ_lstore (ls' := [(4, .long p0), (0, .long p0), (2, .long p2)]) dX6_common_1 rfl rfl rfl ?_
  refine zJ_lload_n dX6_common_3 rfl rfl ?_
  refine zJ_lstore (ls' := [(6, .long p2), (4, .long p0), (0, .long p0), (2, .long p2)]) dX6_common_4 rfl rfl rfl ?_
  refine zJ_iconst dX6_common_6 zc_0 rfl ?_
  refine zJ_istore (ls' := [(8, .int (0 : Int32)), (6, .long p2), (4, .long p0), (0, .long p0), (2, .long p2)]) dX6_common_7 rfl rfl rfl ?_
  have hk9 : ∀ (v4_9x : Int64), k_X6_common_9  v4_9x = some r → zJ l zW 0 mX6_common σ ([], [], []) 45 [(4, .long v4_9x)] [] (some (.long r)) ([], [], []) := by
    intro v4_9x h
    unfold k_X6_common_9 at h
    refine zJ_lload dX6_common_45 rfl rfl ?_
    obtain rfl := so1 h
    exact zJ_lret dX6_common_47 rfl
  refine zJ_loc (ls' := [(4, .long p0), (6, .long p2), (8, .int (0 : Int32))]) (zll_c rfl (zll_c rfl (zll_c rfl zll_n))) ?_
  refine ml3_J (fun (v4_9 : Int64) (v6_9 : Int64) (v8_9 : Int32) => zJ l zW 0 mX6_common σ ([], [], []) 9 [(4, .long v4_9), (6, .long v6_9), (8, .int v8_9)] [] (some (.long r)) ([], [], [])) (fun rc9 hrc9 v4_9 v6_9 v8_9 h => ?_) zN _ _ _ h
  unfold s_X6_common_9 at h
  refine zJ_iload dX6_common_9 rfl rfl ?_
  refine zJ_sipush dX6_common_11 zs_200 rfl ?_
  refine zJ_icmp_ge (tgt := 45) dX6_common_14 (by decide) rfl (fun hc => ?_) (fun hc => ?_)
  · replace h := it_t hc h
    refine zJ_loc (ls' := [(4, .long v4_9)]) (zll_c rfl zll_n) ?_
    exact hk9 _ h
  · replace h := it_f hc h
    refine zJ_lload dX6_common_17 rfl rfl ?_
    refine zJ_lconst dX6_common_19 zl_0 rfl ?_
    refine zJ_lcmp dX6_common_20 rfl ?_
    refine zJ_if_eq (tgt := 45) dX6_common_21 (by decide) rfl (fun hc => ?_) (fun hc => ?_)
    · replace h := it_t hc h
      refine zJ_loc (ls' := [(4, .long v4_9)]) (zll_c rfl zll_n) ?_
      exact hk9 _ h
    · replace h := it_f hc h
      refine zJ_lload dX6_common_24 rfl rfl ?_
      refine zJ_lload dX6_common_26 rfl rfl ?_
      obtain ⟨hg, h⟩ := gd_some h
      refine zJ_lrem dX6_common_28 (nzl_ne hg) rfl ?_
      obtain ⟨v9n1, ev9n1, h⟩ := lt1_some h
      refine zJ_nml ev9n1 ?_
      refine zJ_lstore (ls' := [(9, .long v9n1), (4, .long v4_9), (6, .long v6_9), (8, .int v8_9)]) dX6_common_29 rfl rfl rfl ?_
      refine zJ_lload dX6_common_31 rfl rfl ?_
      refine zJ_lstore (ls' := [(4, .long v6_9), (9, .long v9n1), (6, .long v6_9), (8, .int v8_9)]) dX6_common_33 rfl rfl rfl ?_
      refine zJ_lload dX6_common_35 rfl rfl ?_
      refine zJ_lstore (ls' := [(6, .long v9n1), (4, .long v6_9), (9, .long v9n1), (8, .int v8_9)]) dX6_common_37 rfl rfl rfl ?_
      obtain ⟨v8n2, ev8n2, h⟩ := lt1_some h
      refine zJ_iincN (ls' := [(8, .int v8n2), (6, .long v9n1), (4, .long v6_9), (9, .long v9n1)]) dX6_common_39 rfl rfl zc_1 ev8n2 rfl rfl ?_
      refine zJ_goto (tgt := 9) dX6_common_42 (by decide) ?_
      refine zJ_loc (ls' := [(4, .long v6_9), (6, .long v9n1), (8, .int v8n2)]) (zll_c rfl (zll_c rfl (zll_c rfl zll_n))) ?_
      exact hrc9 _ _ _ h
set_option maxRecDepth 100000 in
set_option maxHeartbeats 4000000 in
theorem t_X6_putFraction (l : Launch) (σ : zS) {p1 : Int64} {p3 : Int64} {numbers_size : Int32} {numbers_told : (Nat → Int64)} {w_numbers_size : Int32} {w_numbers_told : (Nat → Int64)} (h : f_X6_putFraction p1 p3 numbers_size numbers_told = some (w_numbers_size, w_numbers_told)) : zMt l zW 1 mX6_putFraction σ ([(193, numbers_size)], [], [(4, numbers_told)]) [.ref 3, .long p1, .long p3] none ([(193, w_numbers_size)], [], [(4, w_numbers_told)]) := by
  refine zMt_of (ls := [(0, .ref 3), (1, .long p1), (3, .long p3)]) (by decide) rfl (fun _ => Nat.le_of_ble_eq_true rfl) rfl ?_
  unfold f_X6_putFraction at h
  refine zJ_lload_n dX6_putFraction_0 rfl rfl ?_
  refine zJ_mabsl (mi := mX6_putFraction) dX6_putFraction_1 L_X6_19 K_absl_s K_math K_absl_c (Nat.le_of_ble_eq_true rfl) (Nat.le_of_ble_eq_true rfl) rfl ?_
  refine zJ_lload_n dX6_putFraction_4 rfl rfl ?_
  obtain ⟨rn1, hcl, h⟩ := bd1_some h
  refine zJ_callS2 (mi := mX6_putFraction) (yi := mX6_common) (as := [.long (if 0 < p1 then p1 else -p1), .long p3]) (st := []) (L2 := ([(193, numbers_size)], [], [(4, numbers_told)])) dX6_putFraction_5 ML_X6_25 Ys_X6_common rfl (t_X6_common l _ hcl) (zsub_i zle_n zle_n zle_n) (zjok_i rfl rfl (zle_c rfl zle_n) rfl rfl zle_n rfl rfl (zle_c rfl zle_n)) (Nat.le_of_ble_eq_true rfl) (Nat.le_of_ble_eq_true rfl) rfl rfl ?_
  refine zJ_lstore (ls' := [(5, .long rn1), (0, .ref 3), (1, .long p1), (3, .long p3)]) dX6_putFraction_8 rfl rfl rfl ?_
  refine zJ_aload_n dX6_putFraction_10 rfl rfl ?_
  refine zJ_lload dX6_putFraction_11 rfl rfl ?_
  refine zJ_lconst dX6_putFraction_13 zl_0 rfl ?_
  refine zJ_lcmp dX6_putFraction_14 rfl ?_
  refine zJ_if_le (tgt := 25) dX6_putFraction_15 (by decide) rfl (fun hc => ?_) (fun hc => ?_)
  · replace h := it_t hc h
    refine zJ_lload_n dX6_putFraction_25 rfl rfl ?_
    obtain ⟨numbers_sizen2, numbers_toldn3, hcl, h⟩ := bd2_some h
    refine zJ_callV2 (mi := mX6_putFraction) (yi := mX6_put) (as := [.long p1]) (st := []) (L2 := ([(193, numbers_sizen2)], [], [(4, numbers_toldn3)])) dX6_putFraction_26 ML_X6_29 Yv_X6_put rfl zW_3 rfl rfl (t_X6_put l _ hcl) (zsub_i (zle_c rfl zle_n) zle_n (zle_c rfl zle_n)) (zjok_i rfl rfl (zle_c rfl zle_n) rfl rfl zle_n rfl rfl (zle_c rfl zle_n)) (Nat.le_of_ble_eq_true rfl) (Nat.le_of_ble_eq_true rfl) rfl rfl ?_
    refine zJ_aload_n dX6_putFraction_29 rfl rfl ?_
    refine zJ_lload dX6_putFraction_30 rfl rfl ?_
    refine zJ_lconst dX6_putFraction_32 zl_0 rfl ?_
    refine zJ_lcmp dX6_putFraction_33 rfl ?_
    refine zJ_if_le (tgt := 44) dX6_putFraction_34 (by decide) rfl (fun hc => ?_) (fun hc => ?_)
    · replace h := it_t hc h
      refine zJ_lload_n dX6_putFraction_44 rfl rfl ?_
      obtain ⟨numbers_sizen4, numbers_toldn5, hcl, h⟩ := bd2_some h
      refine zJ_callV2 (mi := mX6_putFraction) (yi := mX6_put) (as := [.long p3]) (st := []) (L2 := ([(193, numbers_sizen4)], [], [(4, numbers_toldn5)])) dX6_putFraction_45 ML_X6_29 Yv_X6_put rfl zW_3 rfl rfl (t_X6_put l _ hcl) (zsub_i (zle_c rfl zle_n) zle_n (zle_c rfl zle_n)) (zjok_i rfl rfl (zle_c rfl zle_n) rfl rfl zle_n rfl rfl (zle_c rfl zle_n)) (Nat.le_of_ble_eq_true rfl) (Nat.le_of_ble_eq_true rfl) rfl rfl ?_
      obtain ⟨rfl, rfl⟩ := so2 h
      exact zJ_vret dX6_putFraction_48 rfl
    · replace h := it_f hc h
      refine zJ_lload_n dX6_putFraction_37 rfl rfl ?_
      refine zJ_lload dX6_putFraction_38 rfl rfl ?_
      obtain ⟨hg, h⟩ := gd_some h
      refine zJ_ldiv dX6_putFraction_40 (nzl_ne hg) rfl ?_
      refine zJ_goto (tgt := 45) dX6_putFraction_41 (by decide) ?_
      obtain ⟨numbers_sizen6, numbers_toldn7, hcl, h⟩ := bd2_some h
      refine zJ_callV2 (mi := mX6_putFraction) (yi := mX6_put) (as := [.long (p3 / rn1)]) (st := []) (L2 := ([(193, numbers_sizen6)], [], [(4, numbers_toldn7)])) dX6_putFraction_45 ML_X6_29 Yv_X6_put rfl zW_3 rfl rfl (t_X6_put l _ hcl) (zsub_i (zle_c rfl zle_n) zle_n (zle_c rfl zle_n)) (zjok_i rfl rfl (zle_c rfl zle_n) rfl rfl zle_n rfl rfl (zle_c rfl zle_n)) (Nat.le_of_ble_eq_true rfl) (Nat.le_of_ble_eq_true rfl) rfl rfl ?_
      obtain ⟨rfl, rfl⟩ := so2 h
      exact zJ_vret dX6_putFraction_48 rfl
  · replace h := it_f hc h
    refine zJ_lload_n dX6_putFraction_18 rfl rfl ?_
    refine zJ_lload dX6_putFraction_19 rfl rfl ?_
    obtain ⟨hg, h⟩ := gd_some h
    refine zJ_ldiv dX6_putFraction_21 (nzl_ne hg) rfl ?_
    refine zJ_goto (tgt := 26) dX6_putFraction_22 (by decide) ?_
    obtain ⟨numbers_sizen8, numbers_toldn9, hcl, h⟩ := bd2_some h
    refine zJ_callV2 (mi := mX6_putFraction) (yi := mX6_put) (as := [.long (p1 / rn1)]) (st := []) (L2 := ([(193, numbers_sizen8)], [], [(4, numbers_toldn9)])) dX6_putFraction_26 ML_X6_29 Yv_X6_put rfl zW_3 rfl rfl (t_X6_put l _ hcl) (zsub_i (zle_c rfl zle_n) zle_n (zle_c rfl zle_n)) (zjok_i rfl rfl (zle_c rfl zle_n) rfl rfl zle_n rfl rfl (zle_c rfl zle_n)) (Nat.le_of_ble_eq_true rfl) (Nat.le_of_ble_eq_true rfl) rfl rfl ?_
    refine zJ_aload_n dX6_putFraction_29 rfl rfl ?_
    refine zJ_lload dX6_putFraction_30 rfl rfl ?_
    refine zJ_lconst dX6_putFraction_32 zl_0 rfl ?_
    refine zJ_lcmp dX6_putFraction_33 rfl ?_
    refine zJ_if_le (tgt := 44) dX6_putFraction_34 (by decide) rfl (fun hc => ?_) (fun hc => ?_)
    · replace h := it_t hc h
      refine zJ_lload_n dX6_putFraction_44 rfl rfl ?_
      obtain ⟨numbers_sizen10, numbers_toldn11, hcl, h⟩ := bd2_some h
      refine zJ_callV2 (mi := mX6_putFraction) (yi := mX6_put) (as := [.long p3]) (st := []) (L2 := ([(193, numbers_sizen10)], [], [(4, numbers_toldn11)])) dX6_putFraction_45 ML_X6_29 Yv_X6_put rfl zW_3 rfl rfl (t_X6_put l _ hcl) (zsub_i (zle_c rfl zle_n) zle_n (zle_c rfl zle_n)) (zjok_i rfl rfl (zle_c rfl zle_n) rfl rfl zle_n rfl rfl (zle_c rfl zle_n)) (Nat.le_of_ble_eq_true rfl) (Nat.le_of_ble_eq_true rfl) rfl rfl ?_
      obtain ⟨rfl, rfl⟩ := so2 h
      exact zJ_vret dX6_putFraction_48 rfl
    · replace h := it_f hc h
      refine zJ_lload_n dX6_putFraction_37 rfl rfl ?_
      refine zJ_lload dX6_putFraction_38 rfl rfl ?_
      obtain ⟨hg, h⟩ := gd_some h
      refine zJ_ldiv dX6_putFraction_40 (nzl_ne hg) rfl ?_
      refine zJ_goto (tgt := 45) dX6_putFraction_41 (by decide) ?_
      obtain ⟨numbers_sizen12, numbers_toldn13, hcl, h⟩ := bd2_some h
      refine zJ_callV2 (mi := mX6_putFraction) (yi := mX6_put) (as := [.long (p3 / rn1)]) (st := []) (L2 := ([(193, numbers_sizen12)], [], [(4, numbers_toldn13)])) dX6_putFraction_45 ML_X6_29 Yv_X6_put rfl zW_3 rfl rfl (t_X6_put l _ hcl) (zsub_i (zle_c rfl zle_n) zle_n (zle_c rfl zle_n)) (zjok_i rfl rfl (zle_c rfl zle_n) rfl rfl zle_n rfl rfl (zle_c rfl zle_n)) (Nat.le_of_ble_eq_true rfl) (Nat.le_of_ble_eq_true rfl) rfl rfl ?_
      obtain ⟨rfl, rfl⟩ := so2 h
      exact zJ_vret dX6_putFraction_48 rfl
set_option maxRecDepth 100000 in
set_option maxHeartbeats 4000000 in
theorem t_X11_game (l : Launch) (σ : zS) {text_size : Int32} {text_limit : Int32} {text_at : Int32} {numbers_size : Int32} {course_fences : Int32} {course_horseCount : Int32} {course_planCount : Int32} {course_allowed : Int32} {course_rule_size : Int32} {rounds_size : Int32} {play_players : Int32} {play_plans : Int32} {play_firstPlan : Int32} {text_signs : (Nat → Int32)} {course_kinds : (Nat → Int32)} {course_heights : (Nat → Int32)} {course_feet : (Nat → Int32)} {course_digits : (Nat → Int32)} {course_plans : (Nat → Int32)} {rule_codes : (Nat → Int32)} {rule_stack : (Nat → Int32)} {rule_things : (Nat → Int32)} {rounds_faults : (Nat → Int32)} {rounds_tenths : (Nat → Int32)} {rounds_money : (Nat → Int32)} {play_named : (Nat → Int32)} {play_faults : (Nat → Int32)} {play_tenths : (Nat → Int32)} {play_places : (Nat → Int32)} {play_clears : (Nat → Int32)} {play_ends : (Nat → Int32)} {numbers_told : (Nat → Int64)} {play_worth : (Nat → Int64)} {play_trial : (Nat → Int64)} {r : Int32} {w_text_size : Int32} {w_text_limit : Int32} {w_text_at : Int32} {w_numbers_size : Int32} {w_play_players : Int32} {w_play_plans : Int32} {w_play_firstPlan : Int32} {w_rule_stack : (Nat → Int32)} {w_rule_things : (Nat → Int32)} {w_play_named : (Nat → Int32)} {w_play_faults : (Nat → Int32)} {w_play_tenths : (Nat → Int32)} {w_play_places : (Nat → Int32)} {w_play_clears : (Nat → Int32)} {w_play_ends : (Nat → Int32)} {w_numbers_told : (Nat → Int64)} {w_play_worth : (Nat → Int64)} {w_play_trial : (Nat → Int64)} (h : f_X11_game text_size text_limit text_at numbers_size course_fences course_horseCount course_planCount course_allowed course_rule_size rounds_size play_players play_plans play_firstPlan text_signs course_kinds course_heights course_feet course_digits course_plans rule_codes rule_stack rule_things rounds_faults rounds_tenths rounds_money play_named play_faults play_tenths play_places play_clears play_ends numbers_told play_worth play_trial = some (r, w_text_size, w_text_limit, w_text_at, w_numbers_size, w_play_players, w_play_plans, w_play_firstPlan, w_rule_stack, w_rule_things, w_play_named, w_play_faults, w_play_tenths, w_play_places, w_play_clears, w_play_ends, w_numbers_told, w_play_worth, w_play_trial)) : zMt l zW 204 mX11_game σ ([(65, text_size), (66, text_limit), (67, text_at), (193, numbers_size), (323, course_fences), (326, course_horseCount), (328, course_planCount), (329, course_allowed), (769, course_rule_size), (1284, rounds_size), (2497, play_players), (2498, play_plans), (2499, play_firstPlan)], [(2, text_signs), (6, course_kinds), (7, course_heights), (8, course_feet), (10, course_digits), (11, course_plans), (13, rule_codes), (15, rule_stack), (16, rule_things), (23, rounds_faults), (24, rounds_tenths), (25, rounds_money), (40, play_named), (41, play_faults), (42, play_tenths), (43, play_places), (44, play_clears), (45, play_ends)], [(4, numbers_told), (46, play_worth), (47, play_trial)]) [.ref 0] (some (.int r)) ([(65, w_text_size), (66, w_text_limit), (67, w_text_at), (193, w_numbers_size), (323, course_fences), (326, course_horseCount), (328, course_planCount), (329, course_allowed), (769, course_rule_size), (1284, rounds_size), (2497, w_play_players), (2498, w_play_plans), (2499, w_play_firstPlan)], [(2, text_signs), (6, course_kinds), (7, course_heights), (8, course_feet), (10, course_digits), (11, course_plans), (13, rule_codes), (15, w_rule_stack), (16, w_rule_things), (23, rounds_faults), (24, rounds_tenths), (25, rounds_money), (40, w_play_named), (41, w_play_faults), (42, w_play_tenths), (43, w_play_places), (44, w_play_clears), (45, w_play_ends)], [(4, w_numbers_told), (46, w_play_worth), (47, w_play_trial)]) := by
  refine zMt_of (ls := [(0, .ref 0)]) (by decide) rfl (fun _ => Nat.le_of_ble_eq_true rfl) rfl ?_
  unfold f_X11_game at h
  refine zJ_aload_n dX11_game_0 rfl rfl ?_
  refine zJ_iconst dX11_game_1 zc_1 rfl ?_
  refine zJ_iconst dX11_game_2 zc_3 rfl ?_
  obtain ⟨rn1, text_sizen2, text_limitn3, text_atn4, play_playersn5, play_namedn6, hcl, h⟩ := bd6_some h
  refine zJ_callV2 (mi := mX11_game) (yi := mX11_readPlayers) (as := [.int (1 : Int32), .int (3 : Int32)]) (st := []) (L2 := ([(65, text_sizen2), (66, text_limitn3), (67, text_atn4), (193, numbers_size), (323, course_fences), (326, course_horseCount), (328, course_planCount), (329, course_allowed), (769, course_rule_size), (1284, rounds_size), (2497, play_playersn5), (2498, play_plans), (2499, play_firstPlan)], [(2, text_signs), (6, course_kinds), (7, course_heights), (8, course_feet), (10, course_digits), (11, course_plans), (13, rule_codes), (15, rule_stack), (16, rule_things), (23, rounds_faults), (24, rounds_tenths), (25, rounds_money), (40, play_namedn6), (41, play_faults), (42, play_tenths), (43, play_places), (44, play_clears), (45, play_ends)], [(4, numbers_told), (46, play_worth), (47, play_trial)])) dX11_game_3 ML_X11_371 Yv_X11_readPlayers rfl zW_0 rfl rfl (t_X11_readPlayers l _ hcl) (zsub_i (zle_c rfl (zle_c rfl (zle_c rfl (zle_c rfl (zle_c rfl (zle_c rfl zle_n)))))) (zle_c rfl (zle_c rfl zle_n)) zle_n) (zjok_i rfl rfl (zle_c rfl (zle_c rfl (zle_c rfl (zle_c rfl (zle_c rfl (zle_c rfl (zle_c rfl (zle_c rfl (zle_c rfl (zle_c rfl (zle_c rfl (zle_c rfl (zle_c rfl zle_n))))))))))))) rfl rfl (zle_c rfl (zle_c rfl (zle_c rfl (zle_c rfl (zle_c rfl (zle_c rfl (zle_c rfl (zle_c rfl (zle_c rfl (zle_c rfl (zle_c rfl (zle_c rfl (zle_c rfl (zle_c rfl (zle_c rfl (zle_c rfl (zle_c rfl (zle_c rfl zle_n)))))))))))))))))) rfl rfl (zle_c rfl (zle_c rfl (zle_c rfl zle_n)))) (Nat.le_of_ble_eq_true rfl) (Nat.le_of_ble_eq_true rfl) rfl rfl ?_
  refine zJ_istore_n (ls' := [(1, .int rn1), (0, .ref 0)]) dX11_game_6 rfl rfl rfl ?_
  refine zJ_iload_n dX11_game_7 rfl rfl ?_
  refine zJ_if_ge (tgt := 13) dX11_game_8 (by decide) rfl (fun hc => ?_) (fun hc => ?_)
  · replace h := it_t hc h
    refine zJ_aload_n dX11_game_13 rfl rfl ?_
    refine zJ_getr (mi := mX11_game) dX11_game_14 F_X11_66 zW_0 rfl rfl ?_
    refine zJ_aload_n dX11_game_17 rfl rfl ?_
    refine zJ_getr (mi := mX11_game) dX11_game_18 F_X11_26 zW_0 rfl rfl ?_
    refine zJ_aload_n dX11_game_21 rfl rfl ?_
    refine zJ_getr (mi := mX11_game) dX11_game_22 F_X11_33 zW_0 rfl rfl ?_
    obtain ⟨play_plansn7, play_faultsn8, play_tenthsn9, play_placesn10, hcl, h⟩ := bd4_some h
    refine zJ_callV2 (mi := mX11_game) (yi := mX3_begin) (as := [.ref 5, .ref 20]) (st := []) (L2 := ([(65, text_sizen2), (66, text_limitn3), (67, text_atn4), (193, numbers_size), (323, course_fences), (326, course_horseCount), (328, course_planCount), (329, course_allowed), (769, course_rule_size), (1284, rounds_size), (2497, play_playersn5), (2498, play_plansn7), (2499, play_firstPlan)], [(2, text_signs), (6, course_kinds), (7, course_heights), (8, course_feet), (10, course_digits), (11, course_plans), (13, rule_codes), (15, rule_stack), (16, rule_things), (23, rounds_faults), (24, rounds_tenths), (25, rounds_money), (40, play_namedn6), (41, play_faultsn8), (42, play_tenthsn9), (43, play_placesn10), (44, play_clears), (45, play_ends)], [(4, numbers_told), (46, play_worth), (47, play_trial)])) dX11_game_25 ML_X11_374 Yv_X3_begin rfl zW_39 rfl rfl (t_X3_begin l _ hcl) (zsub_i (zle_c rfl (zle_c rfl (zle_c rfl (zle_c rfl (zle_c rfl zle_n))))) (zle_c rfl (zle_c rfl (zle_c rfl (zle_c rfl (zle_c rfl (zle_c rfl (zle_c rfl (zle_c rfl zle_n)))))))) zle_n) (zjok_i rfl rfl (zle_c rfl (zle_c rfl (zle_c rfl (zle_c rfl (zle_c rfl (zle_c rfl (zle_c rfl (zle_c rfl (zle_c rfl (zle_c rfl (zle_c rfl (zle_c rfl (zle_c rfl zle_n))))))))))))) rfl rfl (zle_c rfl (zle_c rfl (zle_c rfl (zle_c rfl (zle_c rfl (zle_c rfl (zle_c rfl (zle_c rfl (zle_c rfl (zle_c rfl (zle_c rfl (zle_c rfl (zle_c rfl (zle_c rfl (zle_c rfl (zle_c rfl (zle_c rfl (zle_c rfl zle_n)))))))))))))))))) rfl rfl (zle_c rfl (zle_c rfl (zle_c rfl zle_n)))) (Nat.le_of_ble_eq_true rfl) (Nat.le_of_ble_eq_true rfl) rfl rfl ?_
    refine zJ_aload_n dX11_game_28 rfl rfl ?_
    refine zJ_getr (mi := mX11_game) dX11_game_29 F_X11_66 zW_0 rfl rfl ?_
    refine zJ_aload_n dX11_game_32 rfl rfl ?_
    refine zJ_getr (mi := mX11_game) dX11_game_33 F_X11_26 zW_0 rfl rfl ?_
    refine zJ_aload_n dX11_game_36 rfl rfl ?_
    refine zJ_getr (mi := mX11_game) dX11_game_37 F_X11_33 zW_0 rfl rfl ?_
    refine zJ_iconst dX11_game_40 zc_0 rfl ?_
    obtain ⟨play_firstPlann11, rule_stackn12, rule_thingsn13, play_clearsn14, play_endsn15, play_worthn16, play_trialn17, hcl, h⟩ := bd7_some h
    refine zJ_callV2 (mi := mX11_game) (yi := mX3_start) (as := [.ref 5, .ref 20, .int (0 : Int32)]) (st := []) (L2 := ([(65, text_sizen2), (66, text_limitn3), (67, text_atn4), (193, numbers_size), (323, course_fences), (326, course_horseCount), (328, course_planCount), (329, course_allowed), (769, course_rule_size), (1284, rounds_size), (2497, play_playersn5), (2498, play_plansn7), (2499, play_firstPlann11)], [(2, text_signs), (6, course_kinds), (7, course_heights), (8, course_feet), (10, course_digits), (11, course_plans), (13, rule_codes), (15, rule_stackn12), (16, rule_thingsn13), (23, rounds_faults), (24, rounds_tenths), (25, rounds_money), (40, play_namedn6), (41, play_faultsn8), (42, play_tenthsn9), (43, play_placesn10), (44, play_clearsn14), (45, play_endsn15)], [(4, numbers_told), (46, play_worthn16), (47, play_trialn17)])) dX11_game_41 ML_X11_378 Yv_X3_start rfl zW_39 rfl rfl (t_X3_start l _ hcl) (zsub_i (zle_c rfl (zle_c rfl (zle_c rfl (zle_c rfl (zle_c rfl zle_n))))) (zle_c rfl (zle_c rfl (zle_c rfl (zle_c rfl (zle_c rfl (zle_c rfl (zle_c rfl (zle_c rfl (zle_c rfl (zle_c rfl (zle_c rfl (zle_c rfl (zle_c rfl (zle_c rfl (zle_c rfl zle_n))))))))))))))) (zle_c rfl (zle_c rfl zle_n))) (zjok_i rfl rfl (zle_c rfl (zle_c rfl (zle_c rfl (zle_c rfl (zle_c rfl (zle_c rfl (zle_c rfl (zle_c rfl (zle_c rfl (zle_c rfl (zle_c rfl (zle_c rfl (zle_c rfl zle_n))))))))))))) rfl rfl (zle_c rfl (zle_c rfl (zle_c rfl (zle_c rfl (zle_c rfl (zle_c rfl (zle_c rfl (zle_c rfl (zle_c rfl (zle_c rfl (zle_c rfl (zle_c rfl (zle_c rfl (zle_c rfl (zle_c rfl (zle_c rfl (zle_c rfl (zle_c rfl zle_n)))))))))))))))))) rfl rfl (zle_c rfl (zle_c rfl (zle_c rfl zle_n)))) (Nat.le_of_ble_eq_true rfl) (Nat.le_of_ble_eq_true rfl) rfl rfl ?_
    refine zJ_aload_n dX11_game_44 rfl rfl ?_
    refine zJ_getr (mi := mX11_game) dX11_game_45 F_X11_19 zW_0 rfl rfl ?_
    obtain ⟨numbers_sizen18, hcl, h⟩ := bd1_some h
    refine zJ_callV2 (mi := mX11_game) (yi := mX6_start) (as := []) (st := []) (L2 := ([(65, text_sizen2), (66, text_limitn3), (67, text_atn4), (193, numbers_sizen18), (323, course_fences), (326, course_horseCount), (328, course_planCount), (329, course_allowed), (769, course_rule_size), (1284, rounds_size), (2497, play_playersn5), (2498, play_plansn7), (2499, play_firstPlann11)], [(2, text_signs), (6, course_kinds), (7, course_heights), (8, course_feet), (10, course_digits), (11, course_plans), (13, rule_codes), (15, rule_stackn12), (16, rule_thingsn13), (23, rounds_faults), (24, rounds_tenths), (25, rounds_money), (40, play_namedn6), (41, play_faultsn8), (42, play_tenthsn9), (43, play_placesn10), (44, play_clearsn14), (45, play_endsn15)], [(4, numbers_told), (46, play_worthn16), (47, play_trialn17)])) dX11_game_48 ML_X11_171 Yv_X6_start rfl zW_3 rfl rfl (t_X6_start l _ hcl) (zsub_i (zle_c rfl zle_n) zle_n zle_n) (zjok_i rfl rfl (zle_c rfl (zle_c rfl (zle_c rfl (zle_c rfl (zle_c rfl (zle_c rfl (zle_c rfl (zle_c rfl (zle_c rfl (zle_c rfl (zle_c rfl (zle_c rfl (zle_c rfl zle_n))))))))))))) rfl rfl (zle_c rfl (zle_c rfl (zle_c rfl (zle_c rfl (zle_c rfl (zle_c rfl (zle_c rfl (zle_c rfl (zle_c rfl (zle_c rfl (zle_c rfl (zle_c rfl (zle_c rfl (zle_c rfl (zle_c rfl (zle_c rfl (zle_c rfl (zle_c rfl zle_n)))))))))))))))))) rfl rfl (zle_c rfl (zle_c rfl (zle_c rfl zle_n)))) (Nat.le_of_ble_eq_true rfl) (Nat.le_of_ble_eq_true rfl) rfl rfl ?_
    refine zJ_iconst dX11_game_51 zc_0 rfl ?_
    refine zJ_istore_n (ls' := [(2, .int (0 : Int32)), (1, .int rn1), (0, .ref 0)]) dX11_game_52 rfl rfl rfl ?_
    have hk53 : ∀ (numbers_size_53x : Int32) (numbers_told_53x : (Nat → Int64)), k_X11_game_53 text_sizen2 text_limitn3 text_atn4 play_playersn5 play_namedn6 play_plansn7 play_faultsn8 play_tenthsn9 play_placesn10 play_firstPlann11 rule_stackn12 rule_thingsn13 play_clearsn14 play_endsn15 play_worthn16 play_trialn17 numbers_size_53x numbers_told_53x = some (r, w_text_size, w_text_limit, w_text_at, w_numbers_size, w_play_players, w_play_plans, w_play_firstPlan, w_rule_stack, w_rule_things, w_play_named, w_play_faults, w_play_tenths, w_play_places, w_play_clears, w_play_ends, w_numbers_told, w_play_worth, w_play_trial) → zJ l zW 204 mX11_game σ ([(65, text_sizen2), (66, text_limitn3), (67, text_atn4), (193, numbers_size_53x), (323, course_fences), (326, course_horseCount), (328, course_planCount), (329, course_allowed), (769, course_rule_size), (1284, rounds_size), (2497, play_playersn5), (2498, play_plansn7), (2499, play_firstPlann11)], [(2, text_signs), (6, course_kinds), (7, course_heights), (8, course_feet), (10, course_digits), (11, course_plans), (13, rule_codes), (15, rule_stackn12), (16, rule_thingsn13), (23, rounds_faults), (24, rounds_tenths), (25, rounds_money), (40, play_namedn6), (41, play_faultsn8), (42, play_tenthsn9), (43, play_placesn10), (44, play_clearsn14), (45, play_endsn15)], [(4, numbers_told_53x), (46, play_worthn16), (47, play_trialn17)]) 92 [(0, .ref 0)] [] (some (.int r)) ([(65, w_text_size), (66, w_text_limit), (67, w_text_at), (193, w_numbers_size), (323, course_fences), (326, course_horseCount), (328, course_planCount), (329, course_allowed), (769, course_rule_size), (1284, rounds_size), (2497, w_play_players), (2498, w_play_plans), (2499, w_play_firstPlan)], [(2, text_signs), (6, course_kinds), (7, course_heights), (8, course_feet), (10, course_digits), (11, course_plans), (13, rule_codes), (15, w_rule_stack), (16, w_rule_things), (23, rounds_faults), (24, rounds_tenths), (25, rounds_money), (40, w_play_named), (41, w_play_faults), (42, w_play_tenths), (43, w_play_places), (44, w_play_clears), (45, w_play_ends)], [(4, w_numbers_told), (46, w_play_worth), (47, w_play_trial)]) := by
      intro numbers_size_53x numbers_told_53x h
      unfold k_X11_game_53 at h
      refine zJ_aload_n dX11_game_92 rfl rfl ?_
      refine zJ_getr (mi := mX11_game) dX11_game_93 F_X11_66 zW_0 rfl rfl ?_
      refine zJ_geti (mi := mX11_game) (x := play_firstPlann11) dX11_game_96 F_X11_396 zW_39 rfl rfl rfl ?_
      obtain ⟨rfl, rfl, rfl, rfl, rfl, rfl, rfl, rfl, rfl, rfl, rfl, rfl, rfl, rfl, rfl, rfl, rfl, rfl, rfl⟩ := so19 h
      exact zJ_iret dX11_game_99 rfl rfl
    refine zJ_loc (ls' := [(0, .ref 0), (2, .int (0 : Int32))]) (zll_c rfl (zll_c rfl zll_n)) ?_
    refine ml3_J (fun (v2_53 : Int32) (numbers_size_53 : Int32) (numbers_told_53 : (Nat → Int64)) => zJ l zW 204 mX11_game σ ([(65, text_sizen2), (66, text_limitn3), (67, text_atn4), (193, numbers_size_53), (323, course_fences), (326, course_horseCount), (328, course_planCount), (329, course_allowed), (769, course_rule_size), (1284, rounds_size), (2497, play_playersn5), (2498, play_plansn7), (2499, play_firstPlann11)], [(2, text_signs), (6, course_kinds), (7, course_heights), (8, course_feet), (10, course_digits), (11, course_plans), (13, rule_codes), (15, rule_stackn12), (16, rule_thingsn13), (23, rounds_faults), (24, rounds_tenths), (25, rounds_money), (40, play_namedn6), (41, play_faultsn8), (42, play_tenthsn9), (43, play_placesn10), (44, play_clearsn14), (45, play_endsn15)], [(4, numbers_told_53), (46, play_worthn16), (47, play_trialn17)]) 53 [(0, .ref 0), (2, .int v2_53)] [] (some (.int r)) ([(65, w_text_size), (66, w_text_limit), (67, w_text_at), (193, w_numbers_size), (323, course_fences), (326, course_horseCount), (328, course_planCount), (329, course_allowed), (769, course_rule_size), (1284, rounds_size), (2497, w_play_players), (2498, w_play_plans), (2499, w_play_firstPlan)], [(2, text_signs), (6, course_kinds), (7, course_heights), (8, course_feet), (10, course_digits), (11, course_plans), (13, rule_codes), (15, w_rule_stack), (16, w_rule_things), (23, rounds_faults), (24, rounds_tenths), (25, rounds_money), (40, w_play_named), (41, w_play_faults), (42, w_play_tenths), (43, w_play_places), (44, w_play_clears), (45, w_play_ends)], [(4, w_numbers_told), (46, w_play_worth), (47, w_play_trial)])) (fun rc53 hrc53 v2_53 numbers_size_53 numbers_told_53 h => ?_) zN _ _ _ h
    unfold s_X11_game_53 at h
    refine zJ_iload_n dX11_game_53 rfl rfl ?_
    refine zJ_aload_n dX11_game_54 rfl rfl ?_
    refine zJ_getr (mi := mX11_game) dX11_game_55 F_X11_66 zW_0 rfl rfl ?_
    refine zJ_geti (mi := mX11_game) (x := play_playersn5) dX11_game_58 F_X11_381 zW_39 rfl rfl rfl ?_
    refine zJ_icmp_ge (tgt := 92) dX11_game_61 (by decide) rfl (fun hc => ?_) (fun hc => ?_)
    · replace h := it_t hc h
      refine zJ_loc (ls' := [(0, .ref 0)]) (zll_c rfl zll_n) ?_
      exact hk53 _ _ h
    · replace h := it_f hc h
      refine zJ_aload_n dX11_game_64 rfl rfl ?_
      refine zJ_getr (mi := mX11_game) dX11_game_65 F_X11_19 zW_0 rfl rfl ?_
      refine zJ_aload_n dX11_game_68 rfl rfl ?_
      refine zJ_getr (mi := mX11_game) dX11_game_69 F_X11_66 zW_0 rfl rfl ?_
      refine zJ_iload_n dX11_game_72 rfl rfl ?_
      obtain ⟨rn19, hcl, h⟩ := bd1_some h
      refine zJ_callV2 (mi := mX11_game) (yi := mX3_won) (as := [.int v2_53]) (st := [.ref 3]) (L2 := ([(65, text_sizen2), (66, text_limitn3), (67, text_atn4), (193, numbers_size_53), (323, course_fences), (326, course_horseCount), (328, course_planCount), (329, course_allowed), (769, course_rule_size), (1284, rounds_size), (2497, play_playersn5), (2498, play_plansn7), (2499, play_firstPlann11)], [(2, text_signs), (6, course_kinds), (7, course_heights), (8, course_feet), (10, course_digits), (11, course_plans), (13, rule_codes), (15, rule_stackn12), (16, rule_thingsn13), (23, rounds_faults), (24, rounds_tenths), (25, rounds_money), (40, play_namedn6), (41, play_faultsn8), (42, play_tenthsn9), (43, play_placesn10), (44, play_clearsn14), (45, play_endsn15)], [(4, numbers_told_53), (46, play_worthn16), (47, play_trialn17)])) dX11_game_73 ML_X11_384 Yv_X3_won rfl zW_39 rfl rfl (t_X3_won l _ hcl) (zsub_i (zle_c rfl zle_n) zle_n (zle_c rfl zle_n)) (zjok_i rfl rfl (zle_c rfl (zle_c rfl (zle_c rfl (zle_c rfl (zle_c rfl (zle_c rfl (zle_c rfl (zle_c rfl (zle_c rfl (zle_c rfl (zle_c rfl (zle_c rfl (zle_c rfl zle_n))))))))))))) rfl rfl (zle_c rfl (zle_c rfl (zle_c rfl (zle_c rfl (zle_c rfl (zle_c rfl (zle_c rfl (zle_c rfl (zle_c rfl (zle_c rfl (zle_c rfl (zle_c rfl (zle_c rfl (zle_c rfl (zle_c rfl (zle_c rfl (zle_c rfl (zle_c rfl zle_n)))))))))))))))))) rfl rfl (zle_c rfl (zle_c rfl (zle_c rfl zle_n)))) (Nat.le_of_ble_eq_true rfl) (Nat.le_of_ble_eq_true rfl) rfl rfl ?_
      refine zJ_aload_n dX11_game_76 rfl rfl ?_
      refine zJ_getr (mi := mX11_game) dX11_game_77 F_X11_66 zW_0 rfl rfl ?_
      obtain ⟨rn20, hcl, h⟩ := bd1_some h
      refine zJ_callV2 (mi := mX11_game) (yi := mX3_scale) (as := []) (st := [.long rn19, .ref 3]) (L2 := ([(65, text_sizen2), (66, text_limitn3), (67, text_atn4), (193, numbers_size_53), (323, course_fences), (326, course_horseCount), (328, course_planCount), (329, course_allowed), (769, course_rule_size), (1284, rounds_size), (2497, play_playersn5), (2498, play_plansn7), (2499, play_firstPlann11)], [(2, text_signs), (6, course_kinds), (7, course_heights), (8, course_feet), (10, course_digits), (11, course_plans), (13, rule_codes), (15, rule_stackn12), (16, rule_thingsn13), (23, rounds_faults), (24, rounds_tenths), (25, rounds_money), (40, play_namedn6), (41, play_faultsn8), (42, play_tenthsn9), (43, play_placesn10), (44, play_clearsn14), (45, play_endsn15)], [(4, numbers_told_53), (46, play_worthn16), (47, play_trialn17)])) dX11_game_80 ML_X11_388 Yv_X3_scale rfl zW_39 rfl rfl (t_X3_scale l _ hcl) (zsub_i (zle_c rfl zle_n) zle_n zle_n) (zjok_i rfl rfl (zle_c rfl (zle_c rfl (zle_c rfl (zle_c rfl (zle_c rfl (zle_c rfl (zle_c rfl (zle_c rfl (zle_c rfl (zle_c rfl (zle_c rfl (zle_c rfl (zle_c rfl zle_n))))))))))))) rfl rfl (zle_c rfl (zle_c rfl (zle_c rfl (zle_c rfl (zle_c rfl (zle_c rfl (zle_c rfl (zle_c rfl (zle_c rfl (zle_c rfl (zle_c rfl (zle_c rfl (zle_c rfl (zle_c rfl (zle_c rfl (zle_c rfl (zle_c rfl (zle_c rfl zle_n)))))))))))))))))) rfl rfl (zle_c rfl (zle_c rfl (zle_c rfl zle_n)))) (Nat.le_of_ble_eq_true rfl) (Nat.le_of_ble_eq_true rfl) rfl rfl ?_
      obtain ⟨numbers_sizen21, numbers_toldn22, hcl, h⟩ := bd2_some h
      refine zJ_callV2 (mi := mX11_game) (yi := mX6_putFraction) (as := [.long rn19, .long rn20]) (st := []) (L2 := ([(65, text_sizen2), (66, text_limitn3), (67, text_atn4), (193, numbers_sizen21), (323, course_fences), (326, course_horseCount), (328, course_planCount), (329, course_allowed), (769, course_rule_size), (1284, rounds_size), (2497, play_playersn5), (2498, play_plansn7), (2499, play_firstPlann11)], [(2, text_signs), (6, course_kinds), (7, course_heights), (8, course_feet), (10, course_digits), (11, course_plans), (13, rule_codes), (15, rule_stackn12), (16, rule_thingsn13), (23, rounds_faults), (24, rounds_tenths), (25, rounds_money), (40, play_namedn6), (41, play_faultsn8), (42, play_tenthsn9), (43, play_placesn10), (44, play_clearsn14), (45, play_endsn15)], [(4, numbers_toldn22), (46, play_worthn16), (47, play_trialn17)])) dX11_game_83 ML_X11_392 Yv_X6_putFraction rfl zW_3 rfl rfl (t_X6_putFraction l _ hcl) (zsub_i (zle_c rfl zle_n) zle_n (zle_c rfl zle_n)) (zjok_i rfl rfl (zle_c rfl (zle_c rfl (zle_c rfl (zle_c rfl (zle_c rfl (zle_c rfl (zle_c rfl (zle_c rfl (zle_c rfl (zle_c rfl (zle_c rfl (zle_c rfl (zle_c rfl zle_n))))))))))))) rfl rfl (zle_c rfl (zle_c rfl (zle_c rfl (zle_c rfl (zle_c rfl (zle_c rfl (zle_c rfl (zle_c rfl (zle_c rfl (zle_c rfl (zle_c rfl (zle_c rfl (zle_c rfl (zle_c rfl (zle_c rfl (zle_c rfl (zle_c rfl (zle_c rfl zle_n)))))))))))))))))) rfl rfl (zle_c rfl (zle_c rfl (zle_c rfl zle_n)))) (Nat.le_of_ble_eq_true rfl) (Nat.le_of_ble_eq_true rfl) rfl rfl ?_
      obtain ⟨v2n23, ev2n23, h⟩ := lt1_some h
      refine zJ_iincN (ls' := [(2, .int v2n23), (0, .ref 0)]) dX11_game_86 rfl rfl zc_1 ev2n23 rfl rfl ?_
      refine zJ_goto (tgt := 53) dX11_game_89 (by decide) ?_
      refine zJ_loc (ls' := [(0, .ref 0), (2, .int v2n23)]) (zll_c rfl (zll_c rfl zll_n)) ?_
      exact hrc53 _ _ _ h
  · replace h := it_f hc h
    refine zJ_iload_n dX11_game_11 rfl rfl ?_
    obtain ⟨rfl, rfl, rfl, rfl, rfl, rfl, rfl, rfl, rfl, rfl, rfl, rfl, rfl, rfl, rfl, rfl, rfl, rfl, rfl⟩ := so19 h
    exact zJ_iret dX11_game_12 rfl rfl
set_option maxRecDepth 100000 in
set_option maxHeartbeats 4000000 in
theorem t_X1_readHorse (l : Launch) (σ : zS) {p2 : Int32} {text_limit : Int32} {text_at : Int32} {text_signs : (Nat → Int32)} {course_digits : (Nat → Int32)} {r : Int32} {w_text_at : Int32} {w_course_digits : (Nat → Int32)} (h : f_X1_readHorse p2 text_limit text_at text_signs course_digits = some (r, w_text_at, w_course_digits)) : zMt l zW 1 mX1_readHorse σ ([(66, text_limit), (67, text_at)], [(2, text_signs), (10, course_digits)], []) [.ref 5, .ref 1, .int p2] (some (.int r)) ([(66, text_limit), (67, w_text_at)], [(2, text_signs), (10, w_course_digits)], []) := by
  refine zMt_of (ls := [(0, .ref 5), (1, .ref 1), (2, .int p2)]) (by decide) rfl (fun _ => Nat.le_of_ble_eq_true rfl) rfl ?_
  unfold f_X1_readHorse at h
  refine zJ_iconst dX1_readHorse_0 zc_0 rfl ?_
  refine zJ_istore_n (ls' := [(3, .int (0 : Int32)), (0, .ref 5), (1, .ref 1), (2, .int p2)]) dX1_readHorse_1 rfl rfl rfl ?_
  have hk2 : ∀ (text_at_2x : Int32) (course_digits_2x : (Nat → Int32)), k_X1_readHorse_2  text_at_2x course_digits_2x = some (r, w_text_at, w_course_digits) → zJ l zW 1 mX1_readHorse σ ([(66, text_limit), (67, text_at_2x)], [(2, text_signs), (10, course_digits_2x)], []) 52 [] [] (some (.int r)) ([(66, text_limit), (67, w_text_at)], [(2, text_signs), (10, w_course_digits)], []) := by
    intro text_at_2x course_digits_2x h
    unfold k_X1_readHorse_2 at h
    refine zJ_iconst dX1_readHorse_52 zc_1 rfl ?_
    obtain ⟨rfl, rfl, rfl⟩ := so3 h
    exact zJ_iret dX1_readHorse_53 rfl (by decide)
  refine zJ_loc (ls' := [(0, .ref 5), (1, .ref 1), (2, .int p2), (3, .int (0 : Int32))]) (zll_c rfl (zll_c rfl (zll_c rfl (zll_c rfl zll_n)))) ?_
  refine ml3_J (fun (v3_2 : Int32) (text_at_2 : Int32) (course_digits_2 : (Nat → Int32)) => zJ l zW 1 mX1_readHorse σ ([(66, text_limit), (67, text_at_2)], [(2, text_signs), (10, course_digits_2)], []) 2 [(0, .ref 5), (1, .ref 1), (2, .int p2), (3, .int v3_2)] [] (some (.int r)) ([(66, text_limit), (67, w_text_at)], [(2, text_signs), (10, w_course_digits)], [])) (fun rc2 hrc2 v3_2 text_at_2 course_digits_2 h => ?_) zN _ _ _ h
  unfold s_X1_readHorse_2 at h
  refine zJ_iload_n dX1_readHorse_2 rfl rfl ?_
  refine zJ_bipush dX1_readHorse_3 zb_6 rfl ?_
  refine zJ_icmp_ge (tgt := 52) dX1_readHorse_5 (by decide) rfl (fun hc => ?_) (fun hc => ?_)
  · replace h := it_t hc h
    refine zJ_loc (ls' := []) zll_n ?_
    exact hk2 _ _ h
  · replace h := it_f hc h
    refine zJ_aload_n dX1_readHorse_8 rfl rfl ?_
    refine zJ_iload_n dX1_readHorse_9 rfl rfl ?_
    have hj_X1_readHorse_18 : ∀ (t1_18j : Int32), j_X1_readHorse_18 p2 text_limit text_signs rc2 v3_2 text_at_2 course_digits_2 t1_18j = some (r, w_text_at, w_course_digits) → zJ l zW 1 mX1_readHorse σ ([(66, text_limit), (67, text_at_2)], [(2, text_signs), (10, course_digits_2)], []) 18 [(0, .ref 5), (1, .ref 1), (2, .int p2), (3, .int v3_2)] [.int t1_18j, .ref 1] (some (.int r)) ([(66, text_limit), (67, w_text_at)], [(2, text_signs), (10, w_course_digits)], []) := by
      intro t1_18j h
      unfold j_X1_readHorse_18 at h
      refine zJ_bipush dX1_readHorse_18 zb_9 rfl ?_
      obtain ⟨rn1, text_atn2, hcl, h⟩ := bd2_some h
      refine zJ_callV2 (mi := mX1_readHorse) (yi := mX9_digit) (as := [.int t1_18j, .int (9 : Int32)]) (st := []) (L2 := ([(66, text_limit), (67, text_atn2)], [(2, text_signs), (10, course_digits_2)], [])) dX1_readHorse_20 ML_X1_90 Yv_X9_digit rfl zW_1 rfl rfl (t_X9_digit l _ hcl) (zsub_i (zle_c rfl (zle_c rfl zle_n)) (zle_c rfl zle_n) zle_n) (zjok_i rfl rfl (zle_c rfl (zle_c rfl zle_n)) rfl rfl (zle_c rfl (zle_c rfl zle_n)) rfl rfl zle_n) (Nat.le_of_ble_eq_true rfl) (Nat.le_of_ble_eq_true rfl) rfl rfl ?_
      refine zJ_istore (ls' := [(4, .int rn1), (0, .ref 5), (1, .ref 1), (2, .int p2), (3, .int v3_2)]) dX1_readHorse_23 rfl rfl rfl ?_
      refine zJ_iload dX1_readHorse_25 rfl rfl ?_
      refine zJ_iconst dX1_readHorse_27 zc_m1 rfl ?_
      refine zJ_icmp_ne (tgt := 33) dX1_readHorse_28 (by decide) rfl (fun hc => ?_) (fun hc => ?_)
      · replace h := it_f hc h
        refine zJ_aload_n dX1_readHorse_33 rfl rfl ?_
        refine zJ_getr (mi := mX1_readHorse) dX1_readHorse_34 F_X1_24 zW_5 rfl rfl ?_
        refine zJ_iload_n dX1_readHorse_37 rfl rfl ?_
        refine zJ_bipush dX1_readHorse_38 zb_6 rfl ?_
        refine zJ_imul dX1_readHorse_40 rfl ?_
        refine zJ_iload_n dX1_readHorse_41 rfl rfl ?_
        refine zJ_iadd dX1_readHorse_42 rfl ?_
        refine zJ_iload dX1_readHorse_43 rfl rfl ?_
        obtain ⟨hg, h⟩ := gd_some h
        refine zK_iast (mi := mX1_readHorse) (f := course_digits_2) (lb' := [(2, text_signs), (10, (upd course_digits_2 ((p2 * (6 : Int32)) + v3_2).toNatClampNeg rn1))]) dX1_readHorse_45 zW_10 (ix_in hg) rfl rfl rfl ?_
        obtain ⟨v3n3, ev3n3, h⟩ := lt1_some h
        refine zJ_iincN (ls' := [(3, .int v3n3), (4, .int rn1), (0, .ref 5), (1, .ref 1), (2, .int p2)]) dX1_readHorse_46 rfl rfl zc_1 ev3n3 rfl rfl ?_
        refine zJ_goto (tgt := 2) dX1_readHorse_49 (by decide) ?_
        refine zJ_loc (ls' := [(0, .ref 5), (1, .ref 1), (2, .int p2), (3, .int v3n3)]) (zll_c rfl (zll_c rfl (zll_c rfl (zll_c rfl zll_n)))) ?_
        exact hrc2 _ _ _ h
      · replace h := it_t hc h
        refine zJ_iconst dX1_readHorse_31 zc_0 rfl ?_
        obtain ⟨rfl, rfl, rfl⟩ := so3 h
        exact zJ_iret dX1_readHorse_32 rfl (by decide)
    refine zJ_if_ne (tgt := 17) dX1_readHorse_10 (by decide) rfl (fun hc => ?_) (fun hc => ?_)
    · replace h := it_f hc h
      refine zJ_iconst dX1_readHorse_17 zc_0 rfl ?_
      refine zJ_loc (ls' := [(0, .ref 5), (1, .ref 1), (2, .int p2), (3, .int v3_2)]) (zll_c rfl (zll_c rfl (zll_c rfl (zll_c rfl zll_n)))) ?_
      exact hj_X1_readHorse_18 _ h
    · replace h := it_t hc h
      refine zJ_iconst dX1_readHorse_13 zc_3 rfl ?_
      refine zJ_goto (tgt := 18) dX1_readHorse_14 (by decide) ?_
      refine zJ_loc (ls' := [(0, .ref 5), (1, .ref 1), (2, .int p2), (3, .int v3_2)]) (zll_c rfl (zll_c rfl (zll_c rfl (zll_c rfl zll_n)))) ?_
      exact hj_X1_readHorse_18 _ h
set_option maxRecDepth 100000 in
set_option maxHeartbeats 4000000 in
theorem t_X1_readHorses (l : Launch) (σ : zS) {text_size : Int32} {text_limit : Int32} {text_at : Int32} {course_horseCount : Int32} {text_signs : (Nat → Int32)} {course_digits : (Nat → Int32)} {r : Int32} {w_text_limit : Int32} {w_text_at : Int32} {w_course_horseCount : Int32} {w_course_digits : (Nat → Int32)} (h : f_X1_readHorses text_size text_limit text_at course_horseCount text_signs course_digits = some (r, w_text_limit, w_text_at, w_course_horseCount, w_course_digits)) : zMt l zW 2 mX1_readHorses σ ([(65, text_size), (66, text_limit), (67, text_at), (326, course_horseCount)], [(2, text_signs), (10, course_digits)], []) [.ref 5, .ref 1] (some (.int r)) ([(65, text_size), (66, w_text_limit), (67, w_text_at), (326, w_course_horseCount)], [(2, text_signs), (10, w_course_digits)], []) := by
  refine zMt_of (ls := [(0, .ref 5), (1, .ref 1)]) (by decide) rfl (fun _ => Nat.le_of_ble_eq_true rfl) rfl ?_
  unfold f_X1_readHorses at h
  refine zJ_aload_n dX1_readHorses_0 rfl rfl ?_
  refine zJ_bipush dX1_readHorses_1 zb_76 rfl ?_
  obtain ⟨text_limitn1, text_atn2, hcl, h⟩ := bd2_some h
  refine zJ_callV2 (mi := mX1_readHorses) (yi := mX9_open) (as := [.int (76 : Int32)]) (st := []) (L2 := ([(65, text_size), (66, text_limitn1), (67, text_atn2), (326, course_horseCount)], [(2, text_signs), (10, course_digits)], [])) dX1_readHorses_3 ML_X1_59 Yv_X9_open rfl zW_1 rfl rfl (t_X9_open l _ hcl) (zsub_i (zle_c rfl (zle_c rfl (zle_c rfl zle_n))) zle_n zle_n) (zjok_i rfl rfl (zle_c rfl (zle_c rfl (zle_c rfl (zle_c rfl zle_n)))) rfl rfl (zle_c rfl (zle_c rfl zle_n)) rfl rfl zle_n) (Nat.le_of_ble_eq_true rfl) (Nat.le_of_ble_eq_true rfl) rfl rfl ?_
  refine zJ_aload_n dX1_readHorses_6 rfl rfl ?_
  obtain ⟨rn3, hcl, h⟩ := bd1_some h
  refine zJ_callV2 (mi := mX1_readHorses) (yi := mX9_isDone) (as := []) (st := []) (L2 := ([(65, text_size), (66, text_limitn1), (67, text_atn2), (326, course_horseCount)], [(2, text_signs), (10, course_digits)], [])) dX1_readHorses_7 ML_X1_73 Yv_X9_isDone rfl zW_1 rfl rfl (t_X9_isDone l _ hcl) (zsub_i (zle_c rfl (zle_c rfl zle_n)) zle_n zle_n) (zjok_i rfl rfl (zle_c rfl (zle_c rfl (zle_c rfl (zle_c rfl zle_n)))) rfl rfl (zle_c rfl (zle_c rfl zle_n)) rfl rfl zle_n) (Nat.le_of_ble_eq_true rfl) (Nat.le_of_ble_eq_true rfl) rfl rfl ?_
  refine zJ_if_eq (tgt := 15) dX1_readHorses_10 (by decide) rfl (fun hc => ?_) (fun hc => ?_)
  · replace h := it_t hc h
    refine zJ_iconst dX1_readHorses_15 zc_0 rfl ?_
    refine zJ_istore_n (ls' := [(2, .int (0 : Int32)), (0, .ref 5), (1, .ref 1)]) dX1_readHorses_16 rfl rfl rfl ?_
    have hk17 : ∀ (text_at_17x : Int32) (course_digits_17x : (Nat → Int32)), k_X1_readHorses_17 course_horseCount text_limitn1 text_at_17x course_digits_17x = some (r, w_text_limit, w_text_at, w_course_horseCount, w_course_digits) → zJ l zW 2 mX1_readHorses σ ([(65, text_size), (66, text_limitn1), (67, text_at_17x), (326, course_horseCount)], [(2, text_signs), (10, course_digits_17x)], []) 90 [(1, .ref 1)] [] (some (.int r)) ([(65, text_size), (66, w_text_limit), (67, w_text_at), (326, w_course_horseCount)], [(2, text_signs), (10, w_course_digits)], []) := by
      intro text_at_17x course_digits_17x h
      unfold k_X1_readHorses_17 at h
      refine zJ_aload_n dX1_readHorses_90 rfl rfl ?_
      obtain ⟨rn4, hcl, h⟩ := bd1_some h
      refine zJ_callV2 (mi := mX1_readHorses) (yi := mX9_fault) (as := []) (st := []) (L2 := ([(65, text_size), (66, text_limitn1), (67, text_at_17x), (326, course_horseCount)], [(2, text_signs), (10, course_digits_17x)], [])) dX1_readHorses_91 ML_X1_69 Yv_X9_fault rfl zW_1 rfl rfl (t_X9_fault l _ hcl) (zsub_i (zle_c rfl zle_n) zle_n zle_n) (zjok_i rfl rfl (zle_c rfl (zle_c rfl (zle_c rfl (zle_c rfl zle_n)))) rfl rfl (zle_c rfl (zle_c rfl zle_n)) rfl rfl zle_n) (Nat.le_of_ble_eq_true rfl) (Nat.le_of_ble_eq_true rfl) rfl rfl ?_
      obtain ⟨rfl, rfl, rfl, rfl, rfl⟩ := so5 h
      exact zJ_iret dX1_readHorses_94 rfl rfl
    refine zJ_loc (ls' := [(0, .ref 5), (1, .ref 1), (2, .int (0 : Int32))]) (zll_c rfl (zll_c rfl (zll_c rfl zll_n))) ?_
    refine ml3_J (fun (v2_17 : Int32) (text_at_17 : Int32) (course_digits_17 : (Nat → Int32)) => zJ l zW 2 mX1_readHorses σ ([(65, text_size), (66, text_limitn1), (67, text_at_17), (326, course_horseCount)], [(2, text_signs), (10, course_digits_17)], []) 17 [(0, .ref 5), (1, .ref 1), (2, .int v2_17)] [] (some (.int r)) ([(65, text_size), (66, w_text_limit), (67, w_text_at), (326, w_course_horseCount)], [(2, text_signs), (10, w_course_digits)], [])) (fun rc17 hrc17 v2_17 text_at_17 course_digits_17 h => ?_) zN _ _ _ h
    unfold s_X1_readHorses_17 at h
    refine zJ_aload_n dX1_readHorses_17 rfl rfl ?_
    refine zJ_geti (mi := mX1_readHorses) (x := course_horseCount) dX1_readHorses_18 F_X1_53 zW_5 rfl rfl rfl ?_
    refine zJ_iload_n dX1_readHorses_21 rfl rfl ?_
    refine zJ_iadd dX1_readHorses_22 rfl ?_
    refine zJ_bipush dX1_readHorses_23 zb_6 rfl ?_
    refine zJ_icmp_ge (tgt := 90) dX1_readHorses_25 (by decide) rfl (fun hc => ?_) (fun hc => ?_)
    · replace h := it_t hc h
      refine zJ_loc (ls' := [(1, .ref 1)]) (zll_c rfl zll_n) ?_
      exact hk17 _ _ h
    · replace h := it_f hc h
      refine zJ_aload_n dX1_readHorses_28 rfl rfl ?_
      refine zJ_aload_n dX1_readHorses_29 rfl rfl ?_
      refine zJ_aload_n dX1_readHorses_30 rfl rfl ?_
      refine zJ_geti (mi := mX1_readHorses) (x := course_horseCount) dX1_readHorses_31 F_X1_53 zW_5 rfl rfl rfl ?_
      refine zJ_iload_n dX1_readHorses_34 rfl rfl ?_
      refine zJ_iadd dX1_readHorses_35 rfl ?_
      obtain ⟨rn5, text_atn6, course_digitsn7, hcl, h⟩ := bd3_some h
      refine zJ_callV2 (mi := mX1_readHorses) (yi := mX1_readHorse) (as := [.ref 1, .int (course_horseCount + v2_17)]) (st := []) (L2 := ([(65, text_size), (66, text_limitn1), (67, text_atn6), (326, course_horseCount)], [(2, text_signs), (10, course_digitsn7)], [])) dX1_readHorses_36 ML_X1_94 Yv_X1_readHorse rfl zW_5 rfl rfl (t_X1_readHorse l _ hcl) (zsub_i (zle_c rfl (zle_c rfl zle_n)) (zle_c rfl (zle_c rfl zle_n)) zle_n) (zjok_i rfl rfl (zle_c rfl (zle_c rfl (zle_c rfl (zle_c rfl zle_n)))) rfl rfl (zle_c rfl (zle_c rfl zle_n)) rfl rfl zle_n) (Nat.le_of_ble_eq_true rfl) (Nat.le_of_ble_eq_true rfl) rfl rfl ?_
      refine zJ_if_ne (tgt := 47) dX1_readHorses_39 (by decide) rfl (fun hc => ?_) (fun hc => ?_)
      · replace h := it_f hc h
        refine zJ_aload_n dX1_readHorses_47 rfl rfl ?_
        obtain ⟨rn8, hcl, h⟩ := bd1_some h
        refine zJ_callV2 (mi := mX1_readHorses) (yi := mX9_isDone) (as := []) (st := []) (L2 := ([(65, text_size), (66, text_limitn1), (67, text_atn6), (326, course_horseCount)], [(2, text_signs), (10, course_digitsn7)], [])) dX1_readHorses_48 ML_X1_73 Yv_X9_isDone rfl zW_1 rfl rfl (t_X9_isDone l _ hcl) (zsub_i (zle_c rfl (zle_c rfl zle_n)) zle_n zle_n) (zjok_i rfl rfl (zle_c rfl (zle_c rfl (zle_c rfl (zle_c rfl zle_n)))) rfl rfl (zle_c rfl (zle_c rfl zle_n)) rfl rfl zle_n) (Nat.le_of_ble_eq_true rfl) (Nat.le_of_ble_eq_true rfl) rfl rfl ?_
        refine zJ_if_eq (tgt := 70) dX1_readHorses_51 (by decide) rfl (fun hc => ?_) (fun hc => ?_)
        · replace h := it_t hc h
          refine zJ_aload_n dX1_readHorses_70 rfl rfl ?_
          refine zJ_bipush dX1_readHorses_71 zb_59 rfl ?_
          obtain ⟨rn9, text_atn10, hcl, h⟩ := bd2_some h
          refine zJ_callV2 (mi := mX1_readHorses) (yi := mX9_take) (as := [.int (59 : Int32)]) (st := []) (L2 := ([(65, text_size), (66, text_limitn1), (67, text_atn10), (326, course_horseCount)], [(2, text_signs), (10, course_digitsn7)], [])) dX1_readHorses_73 ML_X1_80 Yv_X9_take rfl zW_1 rfl rfl (t_X9_take l _ hcl) (zsub_i (zle_c rfl (zle_c rfl zle_n)) (zle_c rfl zle_n) zle_n) (zjok_i rfl rfl (zle_c rfl (zle_c rfl (zle_c rfl (zle_c rfl zle_n)))) rfl rfl (zle_c rfl (zle_c rfl zle_n)) rfl rfl zle_n) (Nat.le_of_ble_eq_true rfl) (Nat.le_of_ble_eq_true rfl) rfl rfl ?_
          refine zJ_if_ne (tgt := 84) dX1_readHorses_76 (by decide) rfl (fun hc => ?_) (fun hc => ?_)
          · replace h := it_f hc h
            obtain ⟨v2n11, ev2n11, h⟩ := lt1_some h
            refine zJ_iincN (ls' := [(2, .int v2n11), (0, .ref 5), (1, .ref 1)]) dX1_readHorses_84 rfl rfl zc_1 ev2n11 rfl rfl ?_
            refine zJ_goto (tgt := 17) dX1_readHorses_87 (by decide) ?_
            refine zJ_loc (ls' := [(0, .ref 5), (1, .ref 1), (2, .int v2n11)]) (zll_c rfl (zll_c rfl (zll_c rfl zll_n))) ?_
            exact hrc17 _ _ _ h
          · replace h := it_t hc h
            refine zJ_aload_n dX1_readHorses_79 rfl rfl ?_
            obtain ⟨rn12, hcl, h⟩ := bd1_some h
            refine zJ_callV2 (mi := mX1_readHorses) (yi := mX9_fault) (as := []) (st := []) (L2 := ([(65, text_size), (66, text_limitn1), (67, text_atn10), (326, course_horseCount)], [(2, text_signs), (10, course_digitsn7)], [])) dX1_readHorses_80 ML_X1_69 Yv_X9_fault rfl zW_1 rfl rfl (t_X9_fault l _ hcl) (zsub_i (zle_c rfl zle_n) zle_n zle_n) (zjok_i rfl rfl (zle_c rfl (zle_c rfl (zle_c rfl (zle_c rfl zle_n)))) rfl rfl (zle_c rfl (zle_c rfl zle_n)) rfl rfl zle_n) (Nat.le_of_ble_eq_true rfl) (Nat.le_of_ble_eq_true rfl) rfl rfl ?_
            obtain ⟨rfl, rfl, rfl, rfl, rfl⟩ := so5 h
            exact zJ_iret dX1_readHorses_83 rfl rfl
        · replace h := it_f hc h
          refine zJ_aload_n dX1_readHorses_54 rfl rfl ?_
          refine zJ_dup dX1_readHorses_55 rfl rfl ?_
          refine zJ_geti (mi := mX1_readHorses) (x := course_horseCount) dX1_readHorses_56 F_X1_53 zW_5 rfl rfl rfl ?_
          refine zJ_iload_n dX1_readHorses_59 rfl rfl ?_
          refine zJ_iconst dX1_readHorses_60 zc_1 rfl ?_
          refine zJ_iadd dX1_readHorses_61 rfl ?_
          refine zJ_iadd dX1_readHorses_62 rfl ?_
          refine zK_puti (mi := mX1_readHorses) (la' := [(65, text_size), (66, text_limitn1), (67, text_atn6), (326, (course_horseCount + (v2_17 + (1 : Int32))))]) zW_ok dX1_readHorses_63 F_X1_53 P_1_6 zW_5 rfl rfl rfl ?_
          refine zJ_iload_n dX1_readHorses_66 rfl rfl ?_
          refine zJ_iconst dX1_readHorses_67 zc_1 rfl ?_
          refine zJ_iadd dX1_readHorses_68 rfl ?_
          obtain ⟨rfl, rfl, rfl, rfl, rfl⟩ := so5 h
          exact zJ_iret dX1_readHorses_69 rfl rfl
      · replace h := it_t hc h
        refine zJ_aload_n dX1_readHorses_42 rfl rfl ?_
        obtain ⟨rn13, hcl, h⟩ := bd1_some h
        refine zJ_callV2 (mi := mX1_readHorses) (yi := mX9_fault) (as := []) (st := []) (L2 := ([(65, text_size), (66, text_limitn1), (67, text_atn6), (326, course_horseCount)], [(2, text_signs), (10, course_digitsn7)], [])) dX1_readHorses_43 ML_X1_69 Yv_X9_fault rfl zW_1 rfl rfl (t_X9_fault l _ hcl) (zsub_i (zle_c rfl zle_n) zle_n zle_n) (zjok_i rfl rfl (zle_c rfl (zle_c rfl (zle_c rfl (zle_c rfl zle_n)))) rfl rfl (zle_c rfl (zle_c rfl zle_n)) rfl rfl zle_n) (Nat.le_of_ble_eq_true rfl) (Nat.le_of_ble_eq_true rfl) rfl rfl ?_
        obtain ⟨rfl, rfl, rfl, rfl, rfl⟩ := so5 h
        exact zJ_iret dX1_readHorses_46 rfl rfl
  · replace h := it_f hc h
    refine zJ_iconst dX1_readHorses_13 zc_0 rfl ?_
    obtain ⟨rfl, rfl, rfl, rfl, rfl⟩ := so5 h
    exact zJ_iret dX1_readHorses_14 rfl rfl
set_option maxRecDepth 100000 in
set_option maxHeartbeats 4000000 in
theorem t_X11_horses (l : Launch) (σ : zS) {text_size : Int32} {text_limit : Int32} {text_at : Int32} {course_horseCount : Int32} {text_signs : (Nat → Int32)} {course_digits : (Nat → Int32)} {r : Int32} {w_text_size : Int32} {w_text_limit : Int32} {w_text_at : Int32} {w_course_horseCount : Int32} {w_course_digits : (Nat → Int32)} (h : f_X11_horses text_size text_limit text_at course_horseCount text_signs course_digits = some (r, w_text_size, w_text_limit, w_text_at, w_course_horseCount, w_course_digits)) : zMt l zW 3 mX11_horses σ ([(65, text_size), (66, text_limit), (67, text_at), (326, course_horseCount)], [(2, text_signs), (10, course_digits)], []) [.ref 0] (some (.int r)) ([(65, w_text_size), (66, w_text_limit), (67, w_text_at), (326, w_course_horseCount)], [(2, text_signs), (10, w_course_digits)], []) := by
  refine zMt_of (ls := [(0, .ref 0)]) (by decide) rfl (fun _ => Nat.le_of_ble_eq_true rfl) rfl ?_
  unfold f_X11_horses at h
  refine zJ_aload_n dX11_horses_0 rfl rfl ?_
  refine zJ_getr (mi := mX11_horses) dX11_horses_1 F_X11_26 zW_0 rfl rfl ?_
  refine zJ_aload_n dX11_horses_4 rfl rfl ?_
  refine zJ_getr (mi := mX11_horses) dX11_horses_5 F_X11_10 zW_0 rfl rfl ?_
  obtain ⟨rn1, text_limitn2, text_atn3, course_horseCountn4, course_digitsn5, hcl, h⟩ := bd5_some h
  refine zJ_callV2 (mi := mX11_horses) (yi := mX1_readHorses) (as := [.ref 1]) (st := []) (L2 := ([(65, text_size), (66, text_limitn2), (67, text_atn3), (326, course_horseCountn4)], [(2, text_signs), (10, course_digitsn5)], [])) dX11_horses_8 ML_X11_114 Yv_X1_readHorses rfl zW_5 rfl rfl (t_X1_readHorses l _ hcl) (zsub_i (zle_c rfl (zle_c rfl (zle_c rfl (zle_c rfl zle_n)))) (zle_c rfl (zle_c rfl zle_n)) zle_n) (zjok_i rfl rfl (zle_c rfl (zle_c rfl (zle_c rfl (zle_c rfl zle_n)))) rfl rfl (zle_c rfl (zle_c rfl zle_n)) rfl rfl zle_n) (Nat.le_of_ble_eq_true rfl) (Nat.le_of_ble_eq_true rfl) rfl rfl ?_
  refine zJ_istore_n (ls' := [(1, .int rn1), (0, .ref 0)]) dX11_horses_11 rfl rfl rfl ?_
  refine zJ_aload_n dX11_horses_12 rfl rfl ?_
  refine zJ_getr (mi := mX11_horses) dX11_horses_13 F_X11_10 zW_0 rfl rfl ?_
  obtain ⟨text_sizen6, hcl, h⟩ := bd1_some h
  refine zJ_callV2 (mi := mX11_horses) (yi := mX9_clear) (as := []) (st := []) (L2 := ([(65, text_sizen6), (66, text_limitn2), (67, text_atn3), (326, course_horseCountn4)], [(2, text_signs), (10, course_digitsn5)], [])) dX11_horses_16 ML_X11_104 Yv_X9_clear rfl zW_1 rfl rfl (t_X9_clear l _ hcl) (zsub_i (zle_c rfl zle_n) zle_n zle_n) (zjok_i rfl rfl (zle_c rfl (zle_c rfl (zle_c rfl (zle_c rfl zle_n)))) rfl rfl (zle_c rfl (zle_c rfl zle_n)) rfl rfl zle_n) (Nat.le_of_ble_eq_true rfl) (Nat.le_of_ble_eq_true rfl) rfl rfl ?_
  refine zJ_iload_n dX11_horses_19 rfl rfl ?_
  obtain ⟨rfl, rfl, rfl, rfl, rfl, rfl⟩ := so6 h
  exact zJ_iret dX11_horses_20 rfl rfl
set_option maxRecDepth 100000 in
set_option maxHeartbeats 4000000 in
theorem t_X11_jump (l : Launch) (σ : zS) {p1 : Int32} {p2 : Int32} {p3 : Int32} {numbers_size : Int32} {course_fences : Int32} {course_horseCount : Int32} {course_rule_size : Int32} {course_kinds : (Nat → Int32)} {course_heights : (Nat → Int32)} {course_feet : (Nat → Int32)} {course_digits : (Nat → Int32)} {rule_codes : (Nat → Int32)} {rule_stack : (Nat → Int32)} {rule_things : (Nat → Int32)} {numbers_told : (Nat → Int64)} {r : Int32} {w_numbers_size : Int32} {w_rule_stack : (Nat → Int32)} {w_rule_things : (Nat → Int32)} {w_numbers_told : (Nat → Int64)} (h : f_X11_jump p1 p2 p3 numbers_size course_fences course_horseCount course_rule_size course_kinds course_heights course_feet course_digits rule_codes rule_stack rule_things numbers_told = some (r, w_numbers_size, w_rule_stack, w_rule_things, w_numbers_told)) : zMt l zW 4 mX11_jump σ ([(193, numbers_size), (323, course_fences), (326, course_horseCount), (769, course_rule_size)], [(6, course_kinds), (7, course_heights), (8, course_feet), (10, course_digits), (13, rule_codes), (15, rule_stack), (16, rule_things)], [(4, numbers_told)]) [.ref 0, .int p1, .int p2, .int p3] (some (.int r)) ([(193, w_numbers_size), (323, course_fences), (326, course_horseCount), (769, course_rule_size)], [(6, course_kinds), (7, course_heights), (8, course_feet), (10, course_digits), (13, rule_codes), (15, w_rule_stack), (16, w_rule_things)], [(4, w_numbers_told)]) := by
  refine zMt_of (ls := [(0, .ref 0), (1, .int p1), (2, .int p2), (3, .int p3)]) (by decide) rfl (fun _ => Nat.le_of_ble_eq_true rfl) rfl ?_
  unfold f_X11_jump at h
  refine zJ_aload_n dX11_jump_0 rfl rfl ?_
  refine zJ_getr (mi := mX11_jump) dX11_jump_1 F_X11_26 zW_0 rfl rfl ?_
  refine zJ_iload_n dX11_jump_4 rfl rfl ?_
  obtain ⟨rn1, hcl, h⟩ := bd1_some h
  refine zJ_callV2 (mi := mX11_jump) (yi := mX1_hasHorse) (as := [.int p1]) (st := []) (L2 := ([(193, numbers_size), (323, course_fences), (326, course_horseCount), (769, course_rule_size)], [(6, course_kinds), (7, course_heights), (8, course_feet), (10, course_digits), (13, rule_codes), (15, rule_stack), (16, rule_things)], [(4, numbers_told)])) dX11_jump_5 ML_X11_147 Yv_X1_hasHorse rfl zW_5 rfl rfl (t_X1_hasHorse l _ hcl) (zsub_i (zle_c rfl zle_n) zle_n zle_n) (zjok_i rfl rfl (zle_c rfl (zle_c rfl (zle_c rfl (zle_c rfl zle_n)))) rfl rfl (zle_c rfl (zle_c rfl (zle_c rfl (zle_c rfl (zle_c rfl (zle_c rfl (zle_c rfl zle_n))))))) rfl rfl (zle_c rfl zle_n)) (Nat.le_of_ble_eq_true rfl) (Nat.le_of_ble_eq_true rfl) rfl rfl ?_
  refine zJ_if_eq (tgt := 32) dX11_jump_8 (by decide) rfl (fun hc => ?_) (fun hc => ?_)
  · replace h := it_t hc h
    refine zJ_iconst dX11_jump_32 zc_m1 rfl ?_
    obtain ⟨rfl, rfl, rfl, rfl, rfl⟩ := so5 h
    exact zJ_iret dX11_jump_33 rfl rfl
  · replace h := it_f hc h
    refine zJ_aload_n dX11_jump_11 rfl rfl ?_
    refine zJ_getr (mi := mX11_jump) dX11_jump_12 F_X11_26 zW_0 rfl rfl ?_
    refine zJ_iload_n dX11_jump_15 rfl rfl ?_
    obtain ⟨rn2, hcl, h⟩ := bd1_some h
    refine zJ_callV2 (mi := mX11_jump) (yi := mX1_hasFence) (as := [.int p2]) (st := []) (L2 := ([(193, numbers_size), (323, course_fences), (326, course_horseCount), (769, course_rule_size)], [(6, course_kinds), (7, course_heights), (8, course_feet), (10, course_digits), (13, rule_codes), (15, rule_stack), (16, rule_things)], [(4, numbers_told)])) dX11_jump_16 ML_X11_132 Yv_X1_hasFence rfl zW_5 rfl rfl (t_X1_hasFence l _ hcl) (zsub_i (zle_c rfl zle_n) zle_n zle_n) (zjok_i rfl rfl (zle_c rfl (zle_c rfl (zle_c rfl (zle_c rfl zle_n)))) rfl rfl (zle_c rfl (zle_c rfl (zle_c rfl (zle_c rfl (zle_c rfl (zle_c rfl (zle_c rfl zle_n))))))) rfl rfl (zle_c rfl zle_n)) (Nat.le_of_ble_eq_true rfl) (Nat.le_of_ble_eq_true rfl) rfl rfl ?_
    refine zJ_if_eq (tgt := 32) dX11_jump_19 (by decide) rfl (fun hc => ?_) (fun hc => ?_)
    · replace h := it_t hc h
      refine zJ_iconst dX11_jump_32 zc_m1 rfl ?_
      obtain ⟨rfl, rfl, rfl, rfl, rfl⟩ := so5 h
      exact zJ_iret dX11_jump_33 rfl rfl
    · replace h := it_f hc h
      refine zJ_iload_n dX11_jump_22 rfl rfl ?_
      refine zJ_if_lt (tgt := 32) dX11_jump_23 (by decide) rfl (fun hc => ?_) (fun hc => ?_)
      · replace h := it_t hc h
        refine zJ_iconst dX11_jump_32 zc_m1 rfl ?_
        obtain ⟨rfl, rfl, rfl, rfl, rfl⟩ := so5 h
        exact zJ_iret dX11_jump_33 rfl rfl
      · replace h := it_f hc h
        refine zJ_iload_n dX11_jump_26 rfl rfl ?_
        refine zJ_bipush dX11_jump_27 zb_8 rfl ?_
        refine zJ_icmp_lt (tgt := 34) dX11_jump_29 (by decide) rfl (fun hc => ?_) (fun hc => ?_)
        · replace h := it_t hc h
          refine zJ_aload_n dX11_jump_34 rfl rfl ?_
          refine zJ_getr (mi := mX11_jump) dX11_jump_35 F_X11_19 zW_0 rfl rfl ?_
          obtain ⟨numbers_sizen3, hcl, h⟩ := bd1_some h
          refine zJ_callV2 (mi := mX11_jump) (yi := mX6_start) (as := []) (st := []) (L2 := ([(193, numbers_sizen3), (323, course_fences), (326, course_horseCount), (769, course_rule_size)], [(6, course_kinds), (7, course_heights), (8, course_feet), (10, course_digits), (13, rule_codes), (15, rule_stack), (16, rule_things)], [(4, numbers_told)])) dX11_jump_38 ML_X11_171 Yv_X6_start rfl zW_3 rfl rfl (t_X6_start l _ hcl) (zsub_i (zle_c rfl zle_n) zle_n zle_n) (zjok_i rfl rfl (zle_c rfl (zle_c rfl (zle_c rfl (zle_c rfl zle_n)))) rfl rfl (zle_c rfl (zle_c rfl (zle_c rfl (zle_c rfl (zle_c rfl (zle_c rfl (zle_c rfl zle_n))))))) rfl rfl (zle_c rfl zle_n)) (Nat.le_of_ble_eq_true rfl) (Nat.le_of_ble_eq_true rfl) rfl rfl ?_
          refine zJ_aload_n dX11_jump_41 rfl rfl ?_
          refine zJ_getr (mi := mX11_jump) dX11_jump_42 F_X11_19 zW_0 rfl rfl ?_
          refine zJ_aload_n dX11_jump_45 rfl rfl ?_
          refine zJ_getr (mi := mX11_jump) dX11_jump_46 F_X11_26 zW_0 rfl rfl ?_
          refine zJ_iload_n dX11_jump_49 rfl rfl ?_
          refine zJ_iload_n dX11_jump_50 rfl rfl ?_
          obtain ⟨rn4, hcl, h⟩ := bd1_some h
          refine zJ_callV2 (mi := mX11_jump) (yi := mX1_refusalOdds) (as := [.int p1, .int p2]) (st := [.ref 3]) (L2 := ([(193, numbers_sizen3), (323, course_fences), (326, course_horseCount), (769, course_rule_size)], [(6, course_kinds), (7, course_heights), (8, course_feet), (10, course_digits), (13, rule_codes), (15, rule_stack), (16, rule_things)], [(4, numbers_told)])) dX11_jump_51 ML_X11_174 Yv_X1_refusalOdds rfl zW_5 rfl rfl (t_X1_refusalOdds l _ hcl) (zsub_i zle_n (zle_c rfl (zle_c rfl (zle_c rfl zle_n))) zle_n) (zjok_i rfl rfl (zle_c rfl (zle_c rfl (zle_c rfl (zle_c rfl zle_n)))) rfl rfl (zle_c rfl (zle_c rfl (zle_c rfl (zle_c rfl (zle_c rfl (zle_c rfl (zle_c rfl zle_n))))))) rfl rfl (zle_c rfl zle_n)) (Nat.le_of_ble_eq_true rfl) (Nat.le_of_ble_eq_true rfl) rfl rfl ?_
          refine zJ_i2l dX11_jump_54 rfl ?_
          obtain ⟨numbers_sizen5, numbers_toldn6, hcl, h⟩ := bd2_some h
          refine zJ_callV2 (mi := mX11_jump) (yi := mX6_put) (as := [.long rn4.toInt64]) (st := []) (L2 := ([(193, numbers_sizen5), (323, course_fences), (326, course_horseCount), (769, course_rule_size)], [(6, course_kinds), (7, course_heights), (8, course_feet), (10, course_digits), (13, rule_codes), (15, rule_stack), (16, rule_things)], [(4, numbers_toldn6)])) dX11_jump_55 ML_X11_177 Yv_X6_put rfl zW_3 rfl rfl (t_X6_put l _ hcl) (zsub_i (zle_c rfl zle_n) zle_n (zle_c rfl zle_n)) (zjok_i rfl rfl (zle_c rfl (zle_c rfl (zle_c rfl (zle_c rfl zle_n)))) rfl rfl (zle_c rfl (zle_c rfl (zle_c rfl (zle_c rfl (zle_c rfl (zle_c rfl (zle_c rfl zle_n))))))) rfl rfl (zle_c rfl zle_n)) (Nat.le_of_ble_eq_true rfl) (Nat.le_of_ble_eq_true rfl) rfl rfl ?_
          refine zJ_aload_n dX11_jump_58 rfl rfl ?_
          refine zJ_getr (mi := mX11_jump) dX11_jump_59 F_X11_19 zW_0 rfl rfl ?_
          refine zJ_aload_n dX11_jump_62 rfl rfl ?_
          refine zJ_getr (mi := mX11_jump) dX11_jump_63 F_X11_26 zW_0 rfl rfl ?_
          refine zJ_iload_n dX11_jump_66 rfl rfl ?_
          refine zJ_iload_n dX11_jump_67 rfl rfl ?_
          obtain ⟨rn7, hcl, h⟩ := bd1_some h
          refine zJ_callV2 (mi := mX11_jump) (yi := mX1_fenceTenths) (as := [.int p2, .int p3]) (st := [.ref 3]) (L2 := ([(193, numbers_sizen5), (323, course_fences), (326, course_horseCount), (769, course_rule_size)], [(6, course_kinds), (7, course_heights), (8, course_feet), (10, course_digits), (13, rule_codes), (15, rule_stack), (16, rule_things)], [(4, numbers_toldn6)])) dX11_jump_68 ML_X11_181 Yv_X1_fenceTenths rfl zW_5 rfl rfl (t_X1_fenceTenths l _ hcl) (zsub_i zle_n (zle_c rfl (zle_c rfl zle_n)) zle_n) (zjok_i rfl rfl (zle_c rfl (zle_c rfl (zle_c rfl (zle_c rfl zle_n)))) rfl rfl (zle_c rfl (zle_c rfl (zle_c rfl (zle_c rfl (zle_c rfl (zle_c rfl (zle_c rfl zle_n))))))) rfl rfl (zle_c rfl zle_n)) (Nat.le_of_ble_eq_true rfl) (Nat.le_of_ble_eq_true rfl) rfl rfl ?_
          refine zJ_i2l dX11_jump_71 rfl ?_
          obtain ⟨numbers_sizen8, numbers_toldn9, hcl, h⟩ := bd2_some h
          refine zJ_callV2 (mi := mX11_jump) (yi := mX6_put) (as := [.long rn7.toInt64]) (st := []) (L2 := ([(193, numbers_sizen8), (323, course_fences), (326, course_horseCount), (769, course_rule_size)], [(6, course_kinds), (7, course_heights), (8, course_feet), (10, course_digits), (13, rule_codes), (15, rule_stack), (16, rule_things)], [(4, numbers_toldn9)])) dX11_jump_72 ML_X11_177 Yv_X6_put rfl zW_3 rfl rfl (t_X6_put l _ hcl) (zsub_i (zle_c rfl zle_n) zle_n (zle_c rfl zle_n)) (zjok_i rfl rfl (zle_c rfl (zle_c rfl (zle_c rfl (zle_c rfl zle_n)))) rfl rfl (zle_c rfl (zle_c rfl (zle_c rfl (zle_c rfl (zle_c rfl (zle_c rfl (zle_c rfl zle_n))))))) rfl rfl (zle_c rfl zle_n)) (Nat.le_of_ble_eq_true rfl) (Nat.le_of_ble_eq_true rfl) rfl rfl ?_
          refine zJ_aload_n dX11_jump_75 rfl rfl ?_
          refine zJ_getr (mi := mX11_jump) dX11_jump_76 F_X11_19 zW_0 rfl rfl ?_
          refine zJ_aload_n dX11_jump_79 rfl rfl ?_
          refine zJ_getr (mi := mX11_jump) dX11_jump_80 F_X11_26 zW_0 rfl rfl ?_
          refine zJ_iload_n dX11_jump_83 rfl rfl ?_
          refine zJ_iload_n dX11_jump_84 rfl rfl ?_
          obtain ⟨rn10, hcl, h⟩ := bd1_some h
          refine zJ_callV2 (mi := mX11_jump) (yi := mX1_leanAt) (as := [.int p1, .int p2]) (st := [.ref 3]) (L2 := ([(193, numbers_sizen8), (323, course_fences), (326, course_horseCount), (769, course_rule_size)], [(6, course_kinds), (7, course_heights), (8, course_feet), (10, course_digits), (13, rule_codes), (15, rule_stack), (16, rule_things)], [(4, numbers_toldn9)])) dX11_jump_85 ML_X11_184 Yv_X1_leanAt rfl zW_5 rfl rfl (t_X1_leanAt l _ hcl) (zsub_i zle_n (zle_c rfl (zle_c rfl zle_n)) zle_n) (zjok_i rfl rfl (zle_c rfl (zle_c rfl (zle_c rfl (zle_c rfl zle_n)))) rfl rfl (zle_c rfl (zle_c rfl (zle_c rfl (zle_c rfl (zle_c rfl (zle_c rfl (zle_c rfl zle_n))))))) rfl rfl (zle_c rfl zle_n)) (Nat.le_of_ble_eq_true rfl) (Nat.le_of_ble_eq_true rfl) rfl rfl ?_
          refine zJ_i2l dX11_jump_88 rfl ?_
          obtain ⟨numbers_sizen11, numbers_toldn12, hcl, h⟩ := bd2_some h
          refine zJ_callV2 (mi := mX11_jump) (yi := mX6_put) (as := [.long rn10.toInt64]) (st := []) (L2 := ([(193, numbers_sizen11), (323, course_fences), (326, course_horseCount), (769, course_rule_size)], [(6, course_kinds), (7, course_heights), (8, course_feet), (10, course_digits), (13, rule_codes), (15, rule_stack), (16, rule_things)], [(4, numbers_toldn12)])) dX11_jump_89 ML_X11_177 Yv_X6_put rfl zW_3 rfl rfl (t_X6_put l _ hcl) (zsub_i (zle_c rfl zle_n) zle_n (zle_c rfl zle_n)) (zjok_i rfl rfl (zle_c rfl (zle_c rfl (zle_c rfl (zle_c rfl zle_n)))) rfl rfl (zle_c rfl (zle_c rfl (zle_c rfl (zle_c rfl (zle_c rfl (zle_c rfl (zle_c rfl zle_n))))))) rfl rfl (zle_c rfl zle_n)) (Nat.le_of_ble_eq_true rfl) (Nat.le_of_ble_eq_true rfl) rfl rfl ?_
          refine zJ_aload_n dX11_jump_92 rfl rfl ?_
          refine zJ_getr (mi := mX11_jump) dX11_jump_93 F_X11_26 zW_0 rfl rfl ?_
          refine zJ_iload_n dX11_jump_96 rfl rfl ?_
          refine zJ_iload_n dX11_jump_97 rfl rfl ?_
          refine zJ_iload_n dX11_jump_98 rfl rfl ?_
          obtain ⟨rn13, rule_stackn14, rule_thingsn15, hcl, h⟩ := bd3_some h
          refine zJ_callV2 (mi := mX11_jump) (yi := mX1_poleOdds) (as := [.int p1, .int p2, .int p3]) (st := []) (L2 := ([(193, numbers_sizen11), (323, course_fences), (326, course_horseCount), (769, course_rule_size)], [(6, course_kinds), (7, course_heights), (8, course_feet), (10, course_digits), (13, rule_codes), (15, rule_stackn14), (16, rule_thingsn15)], [(4, numbers_toldn12)])) dX11_jump_99 ML_X11_187 Yv_X1_poleOdds rfl zW_5 rfl rfl (t_X1_poleOdds l _ hcl) (zsub_i (zle_c rfl zle_n) (zle_c rfl (zle_c rfl (zle_c rfl (zle_c rfl (zle_c rfl (zle_c rfl (zle_c rfl zle_n))))))) zle_n) (zjok_i rfl rfl (zle_c rfl (zle_c rfl (zle_c rfl (zle_c rfl zle_n)))) rfl rfl (zle_c rfl (zle_c rfl (zle_c rfl (zle_c rfl (zle_c rfl (zle_c rfl (zle_c rfl zle_n))))))) rfl rfl (zle_c rfl zle_n)) (Nat.le_of_ble_eq_true rfl) (Nat.le_of_ble_eq_true rfl) rfl rfl ?_
          obtain ⟨rfl, rfl, rfl, rfl, rfl⟩ := so5 h
          exact zJ_iret dX11_jump_102 rfl rfl
        · replace h := it_f hc h
          refine zJ_iconst dX11_jump_32 zc_m1 rfl ?_
          obtain ⟨rfl, rfl, rfl, rfl, rfl⟩ := so5 h
          exact zJ_iret dX11_jump_33 rfl rfl
set_option maxRecDepth 100000 in
set_option maxHeartbeats 4000000 in
theorem t_X11_justFall (l : Launch) (σ : zS) {p1 : Int32} {p2 : Int32} {p3 : Int32} {p4 : Int32} {course_rule_size : Int32} {course_kinds : (Nat → Int32)} {course_heights : (Nat → Int32)} {course_feet : (Nat → Int32)} {course_digits : (Nat → Int32)} {course_plans : (Nat → Int32)} {rule_codes : (Nat → Int32)} {rule_stack : (Nat → Int32)} {rule_things : (Nat → Int32)} {chances : (Nat → Int64)} {r : Int64} {w_rule_stack : (Nat → Int32)} {w_rule_things : (Nat → Int32)} {w_chances : (Nat → Int64)} (h : f_X11_justFall p1 p2 p3 p4 course_rule_size course_kinds course_heights course_feet course_digits course_plans rule_codes rule_stack rule_things chances = some (r, w_rule_stack, w_rule_things, w_chances)) : zMt l zW 4 mX11_justFall σ ([(769, course_rule_size)], [(6, course_kinds), (7, course_heights), (8, course_feet), (10, course_digits), (11, course_plans), (13, rule_codes), (15, rule_stack), (16, rule_things)], [(52, chances)]) [.ref 0, .int p1, .int p2, .int p3, .int p4] (some (.long r)) ([(769, course_rule_size)], [(6, course_kinds), (7, course_heights), (8, course_feet), (10, course_digits), (11, course_plans), (13, rule_codes), (15, w_rule_stack), (16, w_rule_things)], [(52, w_chances)]) := by
  refine zMt_of (ls := [(0, .ref 0), (1, .int p1), (2, .int p2), (3, .int p3), (4, .int p4)]) (by decide) rfl (fun _ => Nat.le_of_ble_eq_true rfl) rfl ?_
  unfold f_X11_justFall at h
  refine zJ_aload_n dX11_justFall_0 rfl rfl ?_
  refine zJ_getr (mi := mX11_justFall) dX11_justFall_1 F_X11_84 zW_0 rfl rfl ?_
  refine zJ_lconst dX11_justFall_4 zl_0 rfl ?_
  obtain ⟨chancesn1, hcl, h⟩ := bd1_some h
  refine zJ_callS2 (mi := mX11_justFall) (yi := mJ7_fill_d0a16) (as := [.ref 52, .long (0 : Int64)]) (st := []) (L2 := ([(769, course_rule_size)], [(6, course_kinds), (7, course_heights), (8, course_feet), (10, course_digits), (11, course_plans), (13, rule_codes), (15, rule_stack), (16, rule_things)], [(52, chancesn1)])) dX11_justFall_5 ML_X11_203 Ys_J7_fill_d0a16 rfl (t_J7_fill_d0a16_chances l _ hcl) (zsub_i zle_n zle_n (zle_c rfl zle_n)) (zjok_i rfl rfl (zle_c rfl zle_n) rfl rfl (zle_c rfl (zle_c rfl (zle_c rfl (zle_c rfl (zle_c rfl (zle_c rfl (zle_c rfl (zle_c rfl zle_n)))))))) rfl rfl (zle_c rfl zle_n)) (Nat.le_of_ble_eq_true rfl) (Nat.le_of_ble_eq_true rfl) rfl rfl ?_
  refine zJ_aload_n dX11_justFall_8 rfl rfl ?_
  refine zJ_getr (mi := mX11_justFall) dX11_justFall_9 F_X11_84 zW_0 rfl rfl ?_
  refine zJ_iconst dX11_justFall_12 zc_0 rfl ?_
  refine zJ_lconst dX11_justFall_13 zl_1 rfl ?_
  obtain ⟨hg, h⟩ := gd_some h
  refine zK_last (mi := mX11_justFall) (f := chancesn1) (lc' := [(52, (vp_updL chancesn1 (0 : Int32).toNatClampNeg (1 : Int64)))]) dX11_justFall_14 zW_52 (ix_in hg) rfl rfl rfl ?_
  refine zJ_iconst dX11_justFall_15 zc_0 rfl ?_
  refine zJ_istore (ls' := [(5, .int (0 : Int32)), (0, .ref 0), (1, .int p1), (2, .int p2), (3, .int p3), (4, .int p4)]) dX11_justFall_16 rfl rfl rfl ?_
  have hk18 : ∀ (rule_stack_18x : (Nat → Int32)) (rule_things_18x : (Nat → Int32)) (chances_18x : (Nat → Int64)), k_X11_justFall_18 p2 rule_stack_18x rule_things_18x chances_18x = some (r, w_rule_stack, w_rule_things, w_chances) → zJ l zW 4 mX11_justFall σ ([(769, course_rule_size)], [(6, course_kinds), (7, course_heights), (8, course_feet), (10, course_digits), (11, course_plans), (13, rule_codes), (15, rule_stack_18x), (16, rule_things_18x)], [(52, chances_18x)]) 128 [(0, .ref 0), (2, .int p2)] [] (some (.long r)) ([(769, course_rule_size)], [(6, course_kinds), (7, course_heights), (8, course_feet), (10, course_digits), (11, course_plans), (13, rule_codes), (15, w_rule_stack), (16, w_rule_things)], [(52, w_chances)]) := by
    intro rule_stack_18x rule_things_18x chances_18x h
    unfold k_X11_justFall_18 at h
    refine zJ_iload_n dX11_justFall_128 rfl rfl ?_
    refine zJ_if_lt (tgt := 147) dX11_justFall_129 (by decide) rfl (fun hc => ?_) (fun hc => ?_)
    · replace h := it_t hc h
      refine zJ_lconst dX11_justFall_147 zl_0 rfl ?_
      obtain ⟨rfl, rfl, rfl, rfl⟩ := so4 h
      exact zJ_lret dX11_justFall_148 rfl
    · replace h := it_f hc h
      refine zJ_iload_n dX11_justFall_132 rfl rfl ?_
      refine zJ_bipush dX11_justFall_133 zb_6 rfl ?_
      refine zJ_icmp_gt (tgt := 147) dX11_justFall_135 (by decide) rfl (fun hc => ?_) (fun hc => ?_)
      · replace h := it_t hc h
        refine zJ_lconst dX11_justFall_147 zl_0 rfl ?_
        obtain ⟨rfl, rfl, rfl, rfl⟩ := so4 h
        exact zJ_lret dX11_justFall_148 rfl
      · replace h := it_f hc h
        refine zJ_aload_n dX11_justFall_138 rfl rfl ?_
        refine zJ_getr (mi := mX11_justFall) dX11_justFall_139 F_X11_84 zW_0 rfl rfl ?_
        refine zJ_iload_n dX11_justFall_142 rfl rfl ?_
        obtain ⟨hg, h⟩ := gd_some h
        refine zJ_lald (mi := mX11_justFall) (f := chances_18x) dX11_justFall_143 zW_52 (ix_in hg) rfl rfl ?_
        refine zJ_goto (tgt := 148) dX11_justFall_144 (by decide) ?_
        obtain ⟨rfl, rfl, rfl, rfl⟩ := so4 h
        exact zJ_lret dX11_justFall_148 rfl
  refine zJ_loc (ls' := [(0, .ref 0), (1, .int p1), (2, .int p2), (3, .int p3), (4, .int p4), (5, .int (0 : Int32))]) (zll_c rfl (zll_c rfl (zll_c rfl (zll_c rfl (zll_c rfl (zll_c rfl zll_n)))))) ?_
  refine ml4_J (fun (v5_18 : Int32) (rule_stack_18 : (Nat → Int32)) (rule_things_18 : (Nat → Int32)) (chances_18 : (Nat → Int64)) => zJ l zW 4 mX11_justFall σ ([(769, course_rule_size)], [(6, course_kinds), (7, course_heights), (8, course_feet), (10, course_digits), (11, course_plans), (13, rule_codes), (15, rule_stack_18), (16, rule_things_18)], [(52, chances_18)]) 18 [(0, .ref 0), (1, .int p1), (2, .int p2), (3, .int p3), (4, .int p4), (5, .int v5_18)] [] (some (.long r)) ([(769, course_rule_size)], [(6, course_kinds), (7, course_heights), (8, course_feet), (10, course_digits), (11, course_plans), (13, rule_codes), (15, w_rule_stack), (16, w_rule_things)], [(52, w_chances)])) (fun rc18 hrc18 v5_18 rule_stack_18 rule_things_18 chances_18 h => ?_) zN _ _ _ _ h
  unfold s_X11_justFall_18 at h
  refine zJ_iload dX11_justFall_18 rfl rfl ?_
  refine zJ_iload_n dX11_justFall_20 rfl rfl ?_
  refine zJ_icmp_ge (tgt := 128) dX11_justFall_21 (by decide) rfl (fun hc => ?_) (fun hc => ?_)
  · replace h := it_t hc h
    refine zJ_loc (ls' := [(0, .ref 0), (2, .int p2)]) (zll_c rfl (zll_c rfl zll_n)) ?_
    exact hk18 _ _ _ h
  · replace h := it_f hc h
    refine zJ_bipush dX11_justFall_24 zb_100 rfl ?_
    refine zJ_aload_n dX11_justFall_26 rfl rfl ?_
    refine zJ_getr (mi := mX11_justFall) dX11_justFall_27 F_X11_26 zW_0 rfl rfl ?_
    refine zJ_iload dX11_justFall_30 rfl rfl ?_
    refine zJ_iload_n dX11_justFall_32 rfl rfl ?_
    refine zJ_aload_n dX11_justFall_33 rfl rfl ?_
    refine zJ_getr (mi := mX11_justFall) dX11_justFall_34 F_X11_26 zW_0 rfl rfl ?_
    refine zJ_iconst dX11_justFall_37 zc_0 rfl ?_
    refine zJ_iload_n dX11_justFall_38 rfl rfl ?_
    obtain ⟨rn2, hcl, h⟩ := bd1_some h
    refine zJ_callV2 (mi := mX11_justFall) (yi := mX1_letterAt) (as := [.int (0 : Int32), .int p1]) (st := [.int p1, .int v5_18, .ref 5, .int (100 : Int32)]) (L2 := ([(769, course_rule_size)], [(6, course_kinds), (7, course_heights), (8, course_feet), (10, course_digits), (11, course_plans), (13, rule_codes), (15, rule_stack_18), (16, rule_things_18)], [(52, chances_18)])) dX11_justFall_39 ML_X11_194 Yv_X1_letterAt rfl zW_5 rfl rfl (t_X1_letterAt l _ hcl) (zsub_i zle_n (zle_c rfl zle_n) zle_n) (zjok_i rfl rfl (zle_c rfl zle_n) rfl rfl (zle_c rfl (zle_c rfl (zle_c rfl (zle_c rfl (zle_c rfl (zle_c rfl (zle_c rfl (zle_c rfl zle_n)))))))) rfl rfl (zle_c rfl zle_n)) (Nat.le_of_ble_eq_true rfl) (Nat.le_of_ble_eq_true rfl) rfl rfl ?_
    obtain ⟨rn3, rule_stackn4, rule_thingsn5, hcl, h⟩ := bd3_some h
    refine zJ_callV2 (mi := mX11_justFall) (yi := mX1_poleOdds) (as := [.int v5_18, .int p1, .int rn2]) (st := [.int (100 : Int32)]) (L2 := ([(769, course_rule_size)], [(6, course_kinds), (7, course_heights), (8, course_feet), (10, course_digits), (11, course_plans), (13, rule_codes), (15, rule_stackn4), (16, rule_thingsn5)], [(52, chances_18)])) dX11_justFall_42 ML_X11_187 Yv_X1_poleOdds rfl zW_5 rfl rfl (t_X1_poleOdds l _ hcl) (zsub_i (zle_c rfl zle_n) (zle_c rfl (zle_c rfl (zle_c rfl (zle_c rfl (zle_c rfl (zle_c rfl (zle_c rfl zle_n))))))) zle_n) (zjok_i rfl rfl (zle_c rfl zle_n) rfl rfl (zle_c rfl (zle_c rfl (zle_c rfl (zle_c rfl (zle_c rfl (zle_c rfl (zle_c rfl (zle_c rfl zle_n)))))))) rfl rfl (zle_c rfl zle_n)) (Nat.le_of_ble_eq_true rfl) (Nat.le_of_ble_eq_true rfl) rfl rfl ?_
    refine zJ_iload dX11_justFall_45 rfl rfl ?_
    refine zJ_iadd dX11_justFall_47 rfl ?_
    refine zJ_mmin (mi := mX11_justFall) dX11_justFall_48 L_X11_163 K_min_s K_math K_min_c (Nat.le_of_ble_eq_true rfl) (Nat.le_of_ble_eq_true rfl) rfl ?_
    obtain ⟨v6n6, ev6n6, h⟩ := lt1_some h
    refine zJ_nmi ev6n6 ?_
    refine zJ_istore (ls' := [(6, .int v6n6), (0, .ref 0), (1, .int p1), (2, .int p2), (3, .int p3), (4, .int p4), (5, .int v5_18)]) dX11_justFall_51 rfl rfl rfl ?_
    refine zJ_bipush dX11_justFall_53 zb_6 rfl ?_
    refine zJ_istore (ls' := [(7, .int (6 : Int32)), (6, .int v6n6), (0, .ref 0), (1, .int p1), (2, .int p2), (3, .int p3), (4, .int p4), (5, .int v5_18)]) dX11_justFall_55 rfl rfl rfl ?_
    have hk57 : ∀ (chances_57x : (Nat → Int64)), k_X11_justFall_57 rc18 v5_18 rule_stackn4 rule_thingsn5 v6n6 chances_57x = some (r, w_rule_stack, w_rule_things, w_chances) → zJ l zW 4 mX11_justFall σ ([(769, course_rule_size)], [(6, course_kinds), (7, course_heights), (8, course_feet), (10, course_digits), (11, course_plans), (13, rule_codes), (15, rule_stackn4), (16, rule_thingsn5)], [(52, chances_57x)]) 103 [(0, .ref 0), (1, .int p1), (2, .int p2), (3, .int p3), (4, .int p4), (5, .int v5_18), (6, .int v6n6)] [] (some (.long r)) ([(769, course_rule_size)], [(6, course_kinds), (7, course_heights), (8, course_feet), (10, course_digits), (11, course_plans), (13, rule_codes), (15, w_rule_stack), (16, w_rule_things)], [(52, w_chances)]) := by
      intro chances_57x h
      unfold k_X11_justFall_57 at h
      refine zJ_aload_n dX11_justFall_103 rfl rfl ?_
      refine zJ_getr (mi := mX11_justFall) dX11_justFall_104 F_X11_84 zW_0 rfl rfl ?_
      refine zJ_iconst dX11_justFall_107 zc_0 rfl ?_
      refine zJ_aload_n dX11_justFall_108 rfl rfl ?_
      refine zJ_getr (mi := mX11_justFall) dX11_justFall_109 F_X11_84 zW_0 rfl rfl ?_
      refine zJ_iconst dX11_justFall_112 zc_0 rfl ?_
      obtain ⟨hg, h⟩ := gd_some h
      refine zJ_lald (mi := mX11_justFall) (f := chances_57x) dX11_justFall_113 zW_52 (ix_in hg) rfl rfl ?_
      refine zJ_bipush dX11_justFall_114 zb_100 rfl ?_
      refine zJ_iload dX11_justFall_116 rfl rfl ?_
      refine zJ_isub dX11_justFall_118 rfl ?_
      refine zJ_i2l dX11_justFall_119 rfl ?_
      refine zJ_lmul dX11_justFall_120 rfl ?_
      obtain ⟨hg, h⟩ := gd_some h
      refine zK_last (mi := mX11_justFall) (f := chances_57x) (lc' := [(52, (vp_updL chances_57x (0 : Int32).toNatClampNeg ((chances_57x (0 : Int32).toNatClampNeg) * (((100 : Int32) - v6n6)).toInt64)))]) dX11_justFall_121 zW_52 (ix_in hg) rfl rfl rfl ?_
      obtain ⟨v5n7, ev5n7, h⟩ := lt1_some h
      refine zJ_iincN (ls' := [(5, .int v5n7), (0, .ref 0), (1, .int p1), (2, .int p2), (3, .int p3), (4, .int p4), (6, .int v6n6)]) dX11_justFall_122 rfl rfl zc_1 ev5n7 rfl rfl ?_
      refine zJ_goto (tgt := 18) dX11_justFall_125 (by decide) ?_
      refine zJ_loc (ls' := [(0, .ref 0), (1, .int p1), (2, .int p2), (3, .int p3), (4, .int p4), (5, .int v5n7)]) (zll_c rfl (zll_c rfl (zll_c rfl (zll_c rfl (zll_c rfl (zll_c rfl zll_n)))))) ?_
      exact hrc18 _ _ _ _ h
    refine zJ_loc (ls' := [(0, .ref 0), (1, .int p1), (2, .int p2), (3, .int p3), (4, .int p4), (5, .int v5_18), (6, .int v6n6), (7, .int (6 : Int32))]) (zll_c rfl (zll_c rfl (zll_c rfl (zll_c rfl (zll_c rfl (zll_c rfl (zll_c rfl (zll_c rfl zll_n)))))))) ?_
    refine ml2_J (fun (v7_57 : Int32) (chances_57 : (Nat → Int64)) => zJ l zW 4 mX11_justFall σ ([(769, course_rule_size)], [(6, course_kinds), (7, course_heights), (8, course_feet), (10, course_digits), (11, course_plans), (13, rule_codes), (15, rule_stackn4), (16, rule_thingsn5)], [(52, chances_57)]) 57 [(0, .ref 0), (1, .int p1), (2, .int p2), (3, .int p3), (4, .int p4), (5, .int v5_18), (6, .int v6n6), (7, .int v7_57)] [] (some (.long r)) ([(769, course_rule_size)], [(6, course_kinds), (7, course_heights), (8, course_feet), (10, course_digits), (11, course_plans), (13, rule_codes), (15, w_rule_stack), (16, w_rule_things)], [(52, w_chances)])) (fun rc57 hrc57 v7_57 chances_57 h => ?_) zN _ _ h
    unfold s_X11_justFall_57 at h
    refine zJ_iload dX11_justFall_57 rfl rfl ?_
    refine zJ_if_le (tgt := 103) dX11_justFall_59 (by decide) rfl (fun hc => ?_) (fun hc => ?_)
    · replace h := it_t hc h
      refine zJ_loc (ls' := [(0, .ref 0), (1, .int p1), (2, .int p2), (3, .int p3), (4, .int p4), (5, .int v5_18), (6, .int v6n6)]) (zll_c rfl (zll_c rfl (zll_c rfl (zll_c rfl (zll_c rfl (zll_c rfl (zll_c rfl zll_n))))))) ?_
      exact hk57 _ h
    · replace h := it_f hc h
      refine zJ_aload_n dX11_justFall_62 rfl rfl ?_
      refine zJ_getr (mi := mX11_justFall) dX11_justFall_63 F_X11_84 zW_0 rfl rfl ?_
      refine zJ_iload dX11_justFall_66 rfl rfl ?_
      refine zJ_aload_n dX11_justFall_68 rfl rfl ?_
      refine zJ_getr (mi := mX11_justFall) dX11_justFall_69 F_X11_84 zW_0 rfl rfl ?_
      refine zJ_iload dX11_justFall_72 rfl rfl ?_
      obtain ⟨hg, h⟩ := gd_some h
      refine zJ_lald (mi := mX11_justFall) (f := chances_57) dX11_justFall_74 zW_52 (ix_in hg) rfl rfl ?_
      refine zJ_bipush dX11_justFall_75 zb_100 rfl ?_
      refine zJ_iload dX11_justFall_77 rfl rfl ?_
      refine zJ_isub dX11_justFall_79 rfl ?_
      refine zJ_i2l dX11_justFall_80 rfl ?_
      refine zJ_lmul dX11_justFall_81 rfl ?_
      refine zJ_aload_n dX11_justFall_82 rfl rfl ?_
      refine zJ_getr (mi := mX11_justFall) dX11_justFall_83 F_X11_84 zW_0 rfl rfl ?_
      refine zJ_iload dX11_justFall_86 rfl rfl ?_
      refine zJ_iconst dX11_justFall_88 zc_1 rfl ?_
      refine zJ_isub dX11_justFall_89 rfl ?_
      obtain ⟨hg, h⟩ := gd_some h
      refine zJ_lald (mi := mX11_justFall) (f := chances_57) dX11_justFall_90 zW_52 (ix_in hg) rfl rfl ?_
      refine zJ_iload dX11_justFall_91 rfl rfl ?_
      refine zJ_i2l dX11_justFall_93 rfl ?_
      refine zJ_lmul dX11_justFall_94 rfl ?_
      refine zJ_ladd dX11_justFall_95 rfl ?_
      obtain ⟨hg, h⟩ := gd_some h
      refine zK_last (mi := mX11_justFall) (f := chances_57) (lc' := [(52, (vp_updL chances_57 v7_57.toNatClampNeg (((chances_57 v7_57.toNatClampNeg) * (((100 : Int32) - v6n6)).toInt64) + ((chances_57 (v7_57 - (1 : Int32)).toNatClampNeg) * v6n6.toInt64))))]) dX11_justFall_96 zW_52 (ix_in hg) rfl rfl rfl ?_
      obtain ⟨v7n8, ev7n8, h⟩ := lt1_some h
      refine zJ_iincN (ls' := [(7, .int v7n8), (0, .ref 0), (1, .int p1), (2, .int p2), (3, .int p3), (4, .int p4), (5, .int v5_18), (6, .int v6n6)]) dX11_justFall_97 rfl rfl zc_m1 ev7n8 rfl rfl ?_
      refine zJ_goto (tgt := 57) dX11_justFall_100 (by decide) ?_
      refine zJ_loc (ls' := [(0, .ref 0), (1, .int p1), (2, .int p2), (3, .int p3), (4, .int p4), (5, .int v5_18), (6, .int v6n6), (7, .int v7n8)]) (zll_c rfl (zll_c rfl (zll_c rfl (zll_c rfl (zll_c rfl (zll_c rfl (zll_c rfl (zll_c rfl zll_n)))))))) ?_
      exact hrc57 _ _ h
