set_option maxRecDepth 100000 in
set_option maxHeartbeats 4000000 in
theorem t_X4_lay (l : Launch) (σ : zS) {p2 : Int32} {course_fences : Int32} {course_rule_size : Int32} {letters_fences : Int32} {course_kinds : (Nat → Int32)} {course_heights : (Nat → Int32)} {course_feet : (Nat → Int32)} {course_digits : (Nat → Int32)} {rule_codes : (Nat → Int32)} {rule_stack : (Nat → Int32)} {rule_things : (Nat → Int32)} {letters_fears : (Nat → Int32)} {letters_tenths : (Nat → Int32)} {letters_least : (Nat → Int32)} {letters_spans : (Nat → Int32)} {w_letters_fences : Int32} {w_rule_stack : (Nat → Int32)} {w_rule_things : (Nat → Int32)} {w_letters_fears : (Nat → Int32)} {w_letters_tenths : (Nat → Int32)} {w_letters_least : (Nat → Int32)} {w_letters_spans : (Nat → Int32)} (h : f_X4_lay p2 course_fences course_rule_size letters_fences course_kinds course_heights course_feet course_digits rule_codes rule_stack rule_things letters_fears letters_tenths letters_least letters_spans = some (w_letters_fences, w_rule_stack, w_rule_things, w_letters_fears, w_letters_tenths, w_letters_least, w_letters_spans)) : zMt l zW 4 mX4_lay σ ([(323, course_fences), (769, course_rule_size), (2180, letters_fences)], [(6, course_kinds), (7, course_heights), (8, course_feet), (10, course_digits), (13, rule_codes), (15, rule_stack), (16, rule_things), (35, letters_fears), (36, letters_tenths), (37, letters_least), (38, letters_spans)], []) [.ref 34, .ref 5, .int p2] none ([(323, course_fences), (769, course_rule_size), (2180, w_letters_fences)], [(6, course_kinds), (7, course_heights), (8, course_feet), (10, course_digits), (13, rule_codes), (15, w_rule_stack), (16, w_rule_things), (35, w_letters_fears), (36, w_letters_tenths), (37, w_letters_least), (38, w_letters_spans)], []) := by
  refine zMt_of (ls := [(0, .ref 34), (1, .ref 5), (2, .int p2)]) (by decide) rfl (fun _ => Nat.le_of_ble_eq_true rfl) rfl ?_
  unfold f_X4_lay at h
  refine zJ_aload_n dX4_lay_0 rfl rfl ?_
  refine zJ_aload_n dX4_lay_1 rfl rfl ?_
  refine zJ_geti (mi := mX4_lay) (x := course_fences) dX4_lay_2 F_X4_24 zW_5 rfl rfl rfl ?_
  refine zK_puti (mi := mX4_lay) (la' := [(323, course_fences), (769, course_rule_size), (2180, course_fences)]) zW_ok dX4_lay_5 F_X4_30 P_4_4 zW_34 rfl rfl rfl ?_
  refine zJ_iconst dX4_lay_8 zc_0 rfl ?_
  refine zJ_istore_n (ls' := [(3, .int (0 : Int32)), (0, .ref 34), (1, .ref 5), (2, .int p2)]) dX4_lay_9 rfl rfl rfl ?_
  have hk10 : ∀ (rule_stack_10x : (Nat → Int32)) (rule_things_10x : (Nat → Int32)) (letters_fears_10x : (Nat → Int32)) (letters_tenths_10x : (Nat → Int32)), k_X4_lay_10 course_fences letters_least letters_spans rule_stack_10x rule_things_10x letters_fears_10x letters_tenths_10x = some (w_letters_fences, w_rule_stack, w_rule_things, w_letters_fears, w_letters_tenths, w_letters_least, w_letters_spans) → zJ l zW 4 mX4_lay σ ([(323, course_fences), (769, course_rule_size), (2180, course_fences)], [(6, course_kinds), (7, course_heights), (8, course_feet), (10, course_digits), (13, rule_codes), (15, rule_stack_10x), (16, rule_things_10x), (35, letters_fears_10x), (36, letters_tenths_10x), (37, letters_least), (38, letters_spans)], []) 90 [(0, .ref 34)] [] none ([(323, course_fences), (769, course_rule_size), (2180, w_letters_fences)], [(6, course_kinds), (7, course_heights), (8, course_feet), (10, course_digits), (13, rule_codes), (15, w_rule_stack), (16, w_rule_things), (35, w_letters_fears), (36, w_letters_tenths), (37, w_letters_least), (38, w_letters_spans)], []) := by
    intro rule_stack_10x rule_things_10x letters_fears_10x letters_tenths_10x h
    unfold k_X4_lay_10 at h
    refine zJ_aload_n dX4_lay_90 rfl rfl ?_
    refine zJ_getr (mi := mX4_lay) dX4_lay_91 F_X4_21 zW_34 rfl rfl ?_
    refine zJ_iconst dX4_lay_94 zc_0 rfl ?_
    refine zJ_iconst dX4_lay_95 zc_0 rfl ?_
    obtain ⟨hg, h⟩ := gd_some h
    refine zK_iast (mi := mX4_lay) (f := letters_spans) (lb' := [(6, course_kinds), (7, course_heights), (8, course_feet), (10, course_digits), (13, rule_codes), (15, rule_stack_10x), (16, rule_things_10x), (35, letters_fears_10x), (36, letters_tenths_10x), (37, letters_least), (38, (upd letters_spans (0 : Int32).toNatClampNeg (0 : Int32)))]) dX4_lay_96 zW_38 (ix_in hg) rfl rfl rfl ?_
    refine zJ_aload_n dX4_lay_97 rfl rfl ?_
    refine zJ_getr (mi := mX4_lay) dX4_lay_98 F_X4_18 zW_34 rfl rfl ?_
    refine zJ_iconst dX4_lay_101 zc_0 rfl ?_
    obtain ⟨rn1, hcl, h⟩ := bd1_some h
    refine zJ_callS2 (σ := σ) (L := ([(323, course_fences), (769, course_rule_size), (2180, course_fences)], [(6, course_kinds), (7, course_heights), (8, course_feet), (10, course_digits), (13, rule_codes), (15, rule_stack_10x), (16, rule_things_10x), (35, letters_fears_10x), (36, letters_tenths_10x), (37, letters_least), (38, (upd letters_spans (0 : Int32).toNatClampNeg (0 : Int32)))], [])) (mi := mX4_lay) (yi := mX4_from) (as := [.int (0 : Int32)]) (st := [.ref 37]) (L2 := ([(323, course_fences), (769, course_rule_size), (2180, course_fences)], [(6, course_kinds), (7, course_heights), (8, course_feet), (10, course_digits), (13, rule_codes), (15, rule_stack_10x), (16, rule_things_10x), (35, letters_fears_10x), (36, letters_tenths_10x), (37, letters_least), (38, (upd letters_spans (0 : Int32).toNatClampNeg (0 : Int32)))], [])) dX4_lay_102 ML_X4_42 Ys_X4_from rfl (t_X4_from l _ hcl) (zsub_i zle_n zle_n zle_n) (zjok_i rfl rfl (zle_c rfl (zle_c rfl (zle_c rfl zle_n))) rfl rfl (zle_c rfl (zle_c rfl (zle_c rfl (zle_c rfl (zle_c rfl (zle_c rfl (zle_c rfl (zle_c rfl (zle_c rfl (zle_c rfl (zle_c rfl zle_n))))))))))) rfl rfl zle_n) (Nat.le_of_ble_eq_true rfl) (Nat.le_of_ble_eq_true rfl) rfl rfl ?_
    refine zJ_iconst dX4_lay_105 zc_0 rfl ?_
    obtain ⟨hg, h⟩ := gd_some h
    refine zK_iast (mi := mX4_lay) (f := letters_least) (lb' := [(6, course_kinds), (7, course_heights), (8, course_feet), (10, course_digits), (13, rule_codes), (15, rule_stack_10x), (16, rule_things_10x), (35, letters_fears_10x), (36, letters_tenths_10x), (37, (upd letters_least rn1.toNatClampNeg (0 : Int32))), (38, (upd letters_spans (0 : Int32).toNatClampNeg (0 : Int32)))]) dX4_lay_106 zW_37 (ix_in hg) rfl rfl rfl ?_
    refine zJ_iconst dX4_lay_107 zc_1 rfl ?_
    refine zJ_istore_n (ls' := [(3, .int (1 : Int32)), (0, .ref 34)]) dX4_lay_108 rfl rfl rfl ?_
    have hk109 : ∀ (letters_least_109x : (Nat → Int32)) (letters_spans_109x : (Nat → Int32)), k_X4_lay_109 course_fences rule_stack_10x rule_things_10x letters_fears_10x letters_tenths_10x letters_least_109x letters_spans_109x = some (w_letters_fences, w_rule_stack, w_rule_things, w_letters_fears, w_letters_tenths, w_letters_least, w_letters_spans) → zJ l zW 4 mX4_lay σ ([(323, course_fences), (769, course_rule_size), (2180, course_fences)], [(6, course_kinds), (7, course_heights), (8, course_feet), (10, course_digits), (13, rule_codes), (15, rule_stack_10x), (16, rule_things_10x), (35, letters_fears_10x), (36, letters_tenths_10x), (37, letters_least_109x), (38, letters_spans_109x)], []) 128 [] [] none ([(323, course_fences), (769, course_rule_size), (2180, w_letters_fences)], [(6, course_kinds), (7, course_heights), (8, course_feet), (10, course_digits), (13, rule_codes), (15, w_rule_stack), (16, w_rule_things), (35, w_letters_fears), (36, w_letters_tenths), (37, w_letters_least), (38, w_letters_spans)], []) := by
      intro letters_least_109x letters_spans_109x h
      unfold k_X4_lay_109 at h
      obtain ⟨rfl, rfl, rfl, rfl, rfl, rfl, rfl⟩ := so7 h
      exact zJ_vret dX4_lay_128 rfl
    refine zJ_loc (ls' := [(0, .ref 34), (3, .int (1 : Int32))]) (zll_c rfl (zll_c rfl zll_n)) ?_
    refine ml3_J (fun (v3_109 : Int32) (letters_least_109 : (Nat → Int32)) (letters_spans_109 : (Nat → Int32)) => zJ l zW 4 mX4_lay σ ([(323, course_fences), (769, course_rule_size), (2180, course_fences)], [(6, course_kinds), (7, course_heights), (8, course_feet), (10, course_digits), (13, rule_codes), (15, rule_stack_10x), (16, rule_things_10x), (35, letters_fears_10x), (36, letters_tenths_10x), (37, letters_least_109), (38, letters_spans_109)], []) 109 [(0, .ref 34), (3, .int v3_109)] [] none ([(323, course_fences), (769, course_rule_size), (2180, w_letters_fences)], [(6, course_kinds), (7, course_heights), (8, course_feet), (10, course_digits), (13, rule_codes), (15, w_rule_stack), (16, w_rule_things), (35, w_letters_fears), (36, w_letters_tenths), (37, w_letters_least), (38, w_letters_spans)], [])) (fun rc109 hrc109 v3_109 letters_least_109 letters_spans_109 h => ?_) zN _ _ _ h
    unfold s_X4_lay_109 at h
    refine zJ_iload_n dX4_lay_109 rfl rfl ?_
    refine zJ_aload_n dX4_lay_110 rfl rfl ?_
    refine zJ_geti (mi := mX4_lay) (x := course_fences) dX4_lay_111 F_X4_30 zW_34 rfl rfl rfl ?_
    refine zJ_icmp_gt (tgt := 128) dX4_lay_114 (by decide) rfl (fun hc => ?_) (fun hc => ?_)
    · replace h := it_t hc h
      refine zJ_loc (ls' := []) zll_n ?_
      exact hk109 _ _ h
    · replace h := it_f hc h
      refine zJ_aload_n dX4_lay_117 rfl rfl ?_
      refine zJ_iload_n dX4_lay_118 rfl rfl ?_
      obtain ⟨letters_leastn2, letters_spansn3, hcl, h⟩ := bd2_some h
      refine zJ_callV2 (σ := σ) (L := ([(323, course_fences), (769, course_rule_size), (2180, course_fences)], [(6, course_kinds), (7, course_heights), (8, course_feet), (10, course_digits), (13, rule_codes), (15, rule_stack_10x), (16, rule_things_10x), (35, letters_fears_10x), (36, letters_tenths_10x), (37, letters_least_109), (38, letters_spans_109)], [])) (mi := mX4_lay) (yi := mX4_layBehind) (as := [.int v3_109]) (st := []) (L2 := ([(323, course_fences), (769, course_rule_size), (2180, course_fences)], [(6, course_kinds), (7, course_heights), (8, course_feet), (10, course_digits), (13, rule_codes), (15, rule_stack_10x), (16, rule_things_10x), (35, letters_fears_10x), (36, letters_tenths_10x), (37, letters_leastn2), (38, letters_spansn3)], [])) dX4_lay_119 ML_X4_46 Yv_X4_layBehind rfl zW_34 rfl rfl (t_X4_layBehind l _ hcl) (zsub_i (zle_c rfl zle_n) (zle_c rfl (zle_c rfl (zle_c rfl (zle_c rfl zle_n)))) zle_n) (zjok_i rfl rfl (zle_c rfl (zle_c rfl (zle_c rfl zle_n))) rfl rfl (zle_c rfl (zle_c rfl (zle_c rfl (zle_c rfl (zle_c rfl (zle_c rfl (zle_c rfl (zle_c rfl (zle_c rfl (zle_c rfl (zle_c rfl zle_n))))))))))) rfl rfl zle_n) (Nat.le_of_ble_eq_true rfl) (Nat.le_of_ble_eq_true rfl) rfl rfl ?_
      obtain ⟨v3n4, ev3n4, h⟩ := lt1_some h
      refine zJ_iincN (ls' := [(3, .int v3n4), (0, .ref 34)]) dX4_lay_122 rfl rfl zc_1 ev3n4 rfl rfl ?_
      refine zJ_goto (tgt := 109) dX4_lay_125 (by decide) ?_
      refine zJ_loc (ls' := [(0, .ref 34), (3, .int v3n4)]) (zll_c rfl (zll_c rfl zll_n)) ?_
      exact hrc109 _ _ _ h
  refine zJ_loc (ls' := [(0, .ref 34), (1, .ref 5), (2, .int p2), (3, .int (0 : Int32))]) (zll_c rfl (zll_c rfl (zll_c rfl (zll_c rfl zll_n)))) ?_
  refine ml5_J (fun (v3_10 : Int32) (rule_stack_10 : (Nat → Int32)) (rule_things_10 : (Nat → Int32)) (letters_fears_10 : (Nat → Int32)) (letters_tenths_10 : (Nat → Int32)) => zJ l zW 4 mX4_lay σ ([(323, course_fences), (769, course_rule_size), (2180, course_fences)], [(6, course_kinds), (7, course_heights), (8, course_feet), (10, course_digits), (13, rule_codes), (15, rule_stack_10), (16, rule_things_10), (35, letters_fears_10), (36, letters_tenths_10), (37, letters_least), (38, letters_spans)], []) 10 [(0, .ref 34), (1, .ref 5), (2, .int p2), (3, .int v3_10)] [] none ([(323, course_fences), (769, course_rule_size), (2180, w_letters_fences)], [(6, course_kinds), (7, course_heights), (8, course_feet), (10, course_digits), (13, rule_codes), (15, w_rule_stack), (16, w_rule_things), (35, w_letters_fears), (36, w_letters_tenths), (37, w_letters_least), (38, w_letters_spans)], [])) (fun rc10 hrc10 v3_10 rule_stack_10 rule_things_10 letters_fears_10 letters_tenths_10 h => ?_) zN _ _ _ _ _ h
  unfold s_X4_lay_10 at h
  refine zJ_iload_n dX4_lay_10 rfl rfl ?_
  refine zJ_aload_n dX4_lay_11 rfl rfl ?_
  refine zJ_geti (mi := mX4_lay) (x := course_fences) dX4_lay_12 F_X4_30 zW_34 rfl rfl rfl ?_
  refine zJ_icmp_ge (tgt := 90) dX4_lay_15 (by decide) rfl (fun hc => ?_) (fun hc => ?_)
  · replace h := it_t hc h
    refine zJ_loc (ls' := [(0, .ref 34)]) (zll_c rfl zll_n) ?_
    exact hk10 _ _ _ _ h
  · replace h := it_f hc h
    refine zJ_aload_n dX4_lay_18 rfl rfl ?_
    refine zJ_iload_n dX4_lay_19 rfl rfl ?_
    refine zJ_iload_n dX4_lay_20 rfl rfl ?_
    obtain ⟨rn5, hcl, h⟩ := bd1_some h
    refine zJ_callV2 (σ := σ) (L := ([(323, course_fences), (769, course_rule_size), (2180, course_fences)], [(6, course_kinds), (7, course_heights), (8, course_feet), (10, course_digits), (13, rule_codes), (15, rule_stack_10), (16, rule_things_10), (35, letters_fears_10), (36, letters_tenths_10), (37, letters_least), (38, letters_spans)], [])) (mi := mX4_lay) (yi := mX1_refusalOdds) (as := [.int p2, .int v3_10]) (st := []) (L2 := ([(323, course_fences), (769, course_rule_size), (2180, course_fences)], [(6, course_kinds), (7, course_heights), (8, course_feet), (10, course_digits), (13, rule_codes), (15, rule_stack_10), (16, rule_things_10), (35, letters_fears_10), (36, letters_tenths_10), (37, letters_least), (38, letters_spans)], [])) dX4_lay_21 ML_X4_31 Yv_X1_refusalOdds rfl zW_5 rfl rfl (t_X1_refusalOdds l _ hcl) (zsub_i zle_n (zle_c rfl (zle_c rfl (zle_c rfl zle_n))) zle_n) (zjok_i rfl rfl (zle_c rfl (zle_c rfl (zle_c rfl zle_n))) rfl rfl (zle_c rfl (zle_c rfl (zle_c rfl (zle_c rfl (zle_c rfl (zle_c rfl (zle_c rfl (zle_c rfl (zle_c rfl (zle_c rfl (zle_c rfl zle_n))))))))))) rfl rfl zle_n) (Nat.le_of_ble_eq_true rfl) (Nat.le_of_ble_eq_true rfl) rfl rfl ?_
    refine zJ_istore (ls' := [(4, .int rn5), (0, .ref 34), (1, .ref 5), (2, .int p2), (3, .int v3_10)]) dX4_lay_24 rfl rfl rfl ?_
    refine zJ_iconst dX4_lay_26 zc_0 rfl ?_
    refine zJ_istore (ls' := [(5, .int (0 : Int32)), (4, .int rn5), (0, .ref 34), (1, .ref 5), (2, .int p2), (3, .int v3_10)]) dX4_lay_27 rfl rfl rfl ?_
    have hk29 : ∀ (rule_stack_29x : (Nat → Int32)) (rule_things_29x : (Nat → Int32)) (letters_fears_29x : (Nat → Int32)) (letters_tenths_29x : (Nat → Int32)), k_X4_lay_29 rc10 v3_10 rule_stack_29x rule_things_29x letters_fears_29x letters_tenths_29x = some (w_letters_fences, w_rule_stack, w_rule_things, w_letters_fears, w_letters_tenths, w_letters_least, w_letters_spans) → zJ l zW 4 mX4_lay σ ([(323, course_fences), (769, course_rule_size), (2180, course_fences)], [(6, course_kinds), (7, course_heights), (8, course_feet), (10, course_digits), (13, rule_codes), (15, rule_stack_29x), (16, rule_things_29x), (35, letters_fears_29x), (36, letters_tenths_29x), (37, letters_least), (38, letters_spans)], []) 84 [(0, .ref 34), (1, .ref 5), (2, .int p2), (3, .int v3_10)] [] none ([(323, course_fences), (769, course_rule_size), (2180, w_letters_fences)], [(6, course_kinds), (7, course_heights), (8, course_feet), (10, course_digits), (13, rule_codes), (15, w_rule_stack), (16, w_rule_things), (35, w_letters_fears), (36, w_letters_tenths), (37, w_letters_least), (38, w_letters_spans)], []) := by
      intro rule_stack_29x rule_things_29x letters_fears_29x letters_tenths_29x h
      unfold k_X4_lay_29 at h
      obtain ⟨v3n6, ev3n6, h⟩ := lt1_some h
      refine zJ_iincN (ls' := [(3, .int v3n6), (0, .ref 34), (1, .ref 5), (2, .int p2)]) dX4_lay_84 rfl rfl zc_1 ev3n6 rfl rfl ?_
      refine zJ_goto (tgt := 10) dX4_lay_87 (by decide) ?_
      refine zJ_loc (ls' := [(0, .ref 34), (1, .ref 5), (2, .int p2), (3, .int v3n6)]) (zll_c rfl (zll_c rfl (zll_c rfl (zll_c rfl zll_n)))) ?_
      exact hrc10 _ _ _ _ _ h
    refine zJ_loc (ls' := [(0, .ref 34), (1, .ref 5), (2, .int p2), (3, .int v3_10), (4, .int rn5), (5, .int (0 : Int32))]) (zll_c rfl (zll_c rfl (zll_c rfl (zll_c rfl (zll_c rfl (zll_c rfl zll_n)))))) ?_
    refine ml5_J (fun (v5_29 : Int32) (rule_stack_29 : (Nat → Int32)) (rule_things_29 : (Nat → Int32)) (letters_fears_29 : (Nat → Int32)) (letters_tenths_29 : (Nat → Int32)) => zJ l zW 4 mX4_lay σ ([(323, course_fences), (769, course_rule_size), (2180, course_fences)], [(6, course_kinds), (7, course_heights), (8, course_feet), (10, course_digits), (13, rule_codes), (15, rule_stack_29), (16, rule_things_29), (35, letters_fears_29), (36, letters_tenths_29), (37, letters_least), (38, letters_spans)], []) 29 [(0, .ref 34), (1, .ref 5), (2, .int p2), (3, .int v3_10), (4, .int rn5), (5, .int v5_29)] [] none ([(323, course_fences), (769, course_rule_size), (2180, w_letters_fences)], [(6, course_kinds), (7, course_heights), (8, course_feet), (10, course_digits), (13, rule_codes), (15, w_rule_stack), (16, w_rule_things), (35, w_letters_fears), (36, w_letters_tenths), (37, w_letters_least), (38, w_letters_spans)], [])) (fun rc29 hrc29 v5_29 rule_stack_29 rule_things_29 letters_fears_29 letters_tenths_29 h => ?_) zN _ _ _ _ _ h
    unfold s_X4_lay_29 at h
    refine zJ_iload dX4_lay_29 rfl rfl ?_
    refine zJ_bipush dX4_lay_31 zb_8 rfl ?_
    refine zJ_icmp_ge (tgt := 84) dX4_lay_33 (by decide) rfl (fun hc => ?_) (fun hc => ?_)
    · replace h := it_t hc h
      refine zJ_loc (ls' := [(0, .ref 34), (1, .ref 5), (2, .int p2), (3, .int v3_10)]) (zll_c rfl (zll_c rfl (zll_c rfl (zll_c rfl zll_n)))) ?_
      exact hk29 _ _ _ _ h
    · replace h := it_f hc h
      refine zJ_aload_n dX4_lay_36 rfl rfl ?_
      refine zJ_getr (mi := mX4_lay) dX4_lay_37 F_X4_11 zW_34 rfl rfl ?_
      refine zJ_iload_n dX4_lay_40 rfl rfl ?_
      refine zJ_bipush dX4_lay_41 zb_8 rfl ?_
      refine zJ_imul dX4_lay_43 rfl ?_
      refine zJ_iload dX4_lay_44 rfl rfl ?_
      refine zJ_iadd dX4_lay_46 rfl ?_
      refine zJ_aload_n dX4_lay_47 rfl rfl ?_
      refine zJ_iload_n dX4_lay_48 rfl rfl ?_
      refine zJ_iload_n dX4_lay_49 rfl rfl ?_
      refine zJ_iload dX4_lay_50 rfl rfl ?_
      obtain ⟨rn7, rule_stackn8, rule_thingsn9, hcl, h⟩ := bd3_some h
      refine zJ_callV2 (σ := σ) (L := ([(323, course_fences), (769, course_rule_size), (2180, course_fences)], [(6, course_kinds), (7, course_heights), (8, course_feet), (10, course_digits), (13, rule_codes), (15, rule_stack_29), (16, rule_things_29), (35, letters_fears_29), (36, letters_tenths_29), (37, letters_least), (38, letters_spans)], [])) (mi := mX4_lay) (yi := mX1_poleOdds) (as := [.int p2, .int v3_10, .int v5_29]) (st := [.int ((v3_10 * (8 : Int32)) + v5_29), .ref 35]) (L2 := ([(323, course_fences), (769, course_rule_size), (2180, course_fences)], [(6, course_kinds), (7, course_heights), (8, course_feet), (10, course_digits), (13, rule_codes), (15, rule_stackn8), (16, rule_thingsn9), (35, letters_fears_29), (36, letters_tenths_29), (37, letters_least), (38, letters_spans)], [])) dX4_lay_52 ML_X4_35 Yv_X1_poleOdds rfl zW_5 rfl rfl (t_X1_poleOdds l _ hcl) (zsub_i (zle_c rfl zle_n) (zle_c rfl (zle_c rfl (zle_c rfl (zle_c rfl (zle_c rfl (zle_c rfl (zle_c rfl zle_n))))))) zle_n) (zjok_i rfl rfl (zle_c rfl (zle_c rfl (zle_c rfl zle_n))) rfl rfl (zle_c rfl (zle_c rfl (zle_c rfl (zle_c rfl (zle_c rfl (zle_c rfl (zle_c rfl (zle_c rfl (zle_c rfl (zle_c rfl (zle_c rfl zle_n))))))))))) rfl rfl zle_n) (Nat.le_of_ble_eq_true rfl) (Nat.le_of_ble_eq_true rfl) rfl rfl ?_
      refine zJ_iload dX4_lay_55 rfl rfl ?_
      refine zJ_iadd dX4_lay_57 rfl ?_
      obtain ⟨hg, h⟩ := gd_some h
      refine zK_iast (mi := mX4_lay) (f := letters_fears_29) (lb' := [(6, course_kinds), (7, course_heights), (8, course_feet), (10, course_digits), (13, rule_codes), (15, rule_stackn8), (16, rule_thingsn9), (35, (upd letters_fears_29 ((v3_10 * (8 : Int32)) + v5_29).toNatClampNeg (rn7 + rn5))), (36, letters_tenths_29), (37, letters_least), (38, letters_spans)]) dX4_lay_58 zW_35 (ix_in hg) rfl rfl rfl ?_
      refine zJ_aload_n dX4_lay_59 rfl rfl ?_
      refine zJ_getr (mi := mX4_lay) dX4_lay_60 F_X4_15 zW_34 rfl rfl ?_
      refine zJ_iload_n dX4_lay_63 rfl rfl ?_
      refine zJ_bipush dX4_lay_64 zb_8 rfl ?_
      refine zJ_imul dX4_lay_66 rfl ?_
      refine zJ_iload dX4_lay_67 rfl rfl ?_
      refine zJ_iadd dX4_lay_69 rfl ?_
      refine zJ_aload_n dX4_lay_70 rfl rfl ?_
      refine zJ_iload_n dX4_lay_71 rfl rfl ?_
      refine zJ_iload dX4_lay_72 rfl rfl ?_
      obtain ⟨rn10, hcl, h⟩ := bd1_some h
      refine zJ_callV2 (σ := σ) (L := ([(323, course_fences), (769, course_rule_size), (2180, course_fences)], [(6, course_kinds), (7, course_heights), (8, course_feet), (10, course_digits), (13, rule_codes), (15, rule_stackn8), (16, rule_thingsn9), (35, (upd letters_fears_29 ((v3_10 * (8 : Int32)) + v5_29).toNatClampNeg (rn7 + rn5))), (36, letters_tenths_29), (37, letters_least), (38, letters_spans)], [])) (mi := mX4_lay) (yi := mX1_fenceTenths) (as := [.int v3_10, .int v5_29]) (st := [.int ((v3_10 * (8 : Int32)) + v5_29), .ref 36]) (L2 := ([(323, course_fences), (769, course_rule_size), (2180, course_fences)], [(6, course_kinds), (7, course_heights), (8, course_feet), (10, course_digits), (13, rule_codes), (15, rule_stackn8), (16, rule_thingsn9), (35, (upd letters_fears_29 ((v3_10 * (8 : Int32)) + v5_29).toNatClampNeg (rn7 + rn5))), (36, letters_tenths_29), (37, letters_least), (38, letters_spans)], [])) dX4_lay_74 ML_X4_39 Yv_X1_fenceTenths rfl zW_5 rfl rfl (t_X1_fenceTenths l _ hcl) (zsub_i zle_n (zle_c rfl (zle_c rfl zle_n)) zle_n) (zjok_i rfl rfl (zle_c rfl (zle_c rfl (zle_c rfl zle_n))) rfl rfl (zle_c rfl (zle_c rfl (zle_c rfl (zle_c rfl (zle_c rfl (zle_c rfl (zle_c rfl (zle_c rfl (zle_c rfl (zle_c rfl (zle_c rfl zle_n))))))))))) rfl rfl zle_n) (Nat.le_of_ble_eq_true rfl) (Nat.le_of_ble_eq_true rfl) rfl rfl ?_
      obtain ⟨hg, h⟩ := gd_some h
      refine zK_iast (mi := mX4_lay) (f := letters_tenths_29) (lb' := [(6, course_kinds), (7, course_heights), (8, course_feet), (10, course_digits), (13, rule_codes), (15, rule_stackn8), (16, rule_thingsn9), (35, (upd letters_fears_29 ((v3_10 * (8 : Int32)) + v5_29).toNatClampNeg (rn7 + rn5))), (36, (upd letters_tenths_29 ((v3_10 * (8 : Int32)) + v5_29).toNatClampNeg rn10)), (37, letters_least), (38, letters_spans)]) dX4_lay_77 zW_36 (ix_in hg) rfl rfl rfl ?_
      obtain ⟨v5n11, ev5n11, h⟩ := lt1_some h
      refine zJ_iincN (ls' := [(5, .int v5n11), (0, .ref 34), (1, .ref 5), (2, .int p2), (3, .int v3_10), (4, .int rn5)]) dX4_lay_78 rfl rfl zc_1 ev5n11 rfl rfl ?_
      refine zJ_goto (tgt := 29) dX4_lay_81 (by decide) ?_
      refine zJ_loc (ls' := [(0, .ref 34), (1, .ref 5), (2, .int p2), (3, .int v3_10), (4, .int rn5), (5, .int v5n11)]) (zll_c rfl (zll_c rfl (zll_c rfl (zll_c rfl (zll_c rfl (zll_c rfl zll_n)))))) ?_
      exact hrc29 _ _ _ _ _ h
set_option maxRecDepth 100000 in
set_option maxHeartbeats 4000000 in
theorem t_X4_firstLetter (l : Launch) (σ : zS) {p1 : Int32} {p2 : Int32} {p3 : Int32} {letters_fences : Int32} {letters_fears : (Nat → Int32)} {letters_tenths : (Nat → Int32)} {letters_least : (Nat → Int32)} {letters_spans : (Nat → Int32)} {r : Int32} (h : f_X4_firstLetter p1 p2 p3 letters_fences letters_fears letters_tenths letters_least letters_spans = some r) : zMt l zW 1 mX4_firstLetter σ ([(2180, letters_fences)], [(35, letters_fears), (36, letters_tenths), (37, letters_least), (38, letters_spans)], []) [.ref 34, .int p1, .int p2, .int p3] (some (.int r)) ([(2180, letters_fences)], [(35, letters_fears), (36, letters_tenths), (37, letters_least), (38, letters_spans)], []) := by
  refine zMt_of (ls := [(0, .ref 34), (1, .int p1), (2, .int p2), (3, .int p3)]) (by decide) rfl (fun _ => Nat.le_of_ble_eq_true rfl) rfl ?_
  unfold f_X4_firstLetter at h
  refine zJ_aload_n dX4_firstLetter_0 rfl rfl ?_
  refine zJ_geti (mi := mX4_firstLetter) (x := letters_fences) dX4_firstLetter_1 F_X4_30 zW_34 rfl rfl rfl ?_
  refine zJ_iload_n dX4_firstLetter_4 rfl rfl ?_
  refine zJ_isub dX4_firstLetter_5 rfl ?_
  refine zJ_iconst dX4_firstLetter_6 zc_1 rfl ?_
  refine zJ_isub dX4_firstLetter_7 rfl ?_
  obtain ⟨v4n1, ev4n1, h⟩ := lt1_some h
  refine zJ_nmi ev4n1 ?_
  refine zJ_istore (ls' := [(4, .int v4n1), (0, .ref 34), (1, .int p1), (2, .int p2), (3, .int p3)]) dX4_firstLetter_8 rfl rfl rfl ?_
  refine zJ_iconst dX4_firstLetter_10 zc_0 rfl ?_
  refine zJ_istore (ls' := [(5, .int (0 : Int32)), (4, .int v4n1), (0, .ref 34), (1, .int p1), (2, .int p2), (3, .int p3)]) dX4_firstLetter_11 rfl rfl rfl ?_
  have hk13 : ∀ (_u : Unit), k_X4_firstLetter_13  _u = some r → zJ l zW 1 mX4_firstLetter σ ([(2180, letters_fences)], [(35, letters_fears), (36, letters_tenths), (37, letters_least), (38, letters_spans)], []) 121 [] [] (some (.int r)) ([(2180, letters_fences)], [(35, letters_fears), (36, letters_tenths), (37, letters_least), (38, letters_spans)], []) := by
    intro _u h
    unfold k_X4_firstLetter_13 at h
    refine zJ_iconst dX4_firstLetter_121 zc_0 rfl ?_
    obtain rfl := so1 h
    exact zJ_iret dX4_firstLetter_122 rfl rfl
  refine zJ_loc (ls' := [(0, .ref 34), (1, .int p1), (2, .int p2), (3, .int p3), (4, .int v4n1), (5, .int (0 : Int32))]) (zll_c rfl (zll_c rfl (zll_c rfl (zll_c rfl (zll_c rfl (zll_c rfl zll_n)))))) ?_
  refine ml1_J (fun (v5_13 : Int32) => zJ l zW 1 mX4_firstLetter σ ([(2180, letters_fences)], [(35, letters_fears), (36, letters_tenths), (37, letters_least), (38, letters_spans)], []) 13 [(0, .ref 34), (1, .int p1), (2, .int p2), (3, .int p3), (4, .int v4n1), (5, .int v5_13)] [] (some (.int r)) ([(2180, letters_fences)], [(35, letters_fears), (36, letters_tenths), (37, letters_least), (38, letters_spans)], [])) (fun rc13 hrc13 v5_13 h => ?_) zN _ h
  unfold s_X4_firstLetter_13 at h
  refine zJ_iload dX4_firstLetter_13 rfl rfl ?_
  refine zJ_bipush dX4_firstLetter_15 zb_8 rfl ?_
  refine zJ_icmp_ge (tgt := 121) dX4_firstLetter_17 (by decide) rfl (fun hc => ?_) (fun hc => ?_)
  · replace h := it_t hc h
    refine zJ_loc (ls' := []) zll_n ?_
    exact hk13 _ h
  · replace h := it_f hc h
    refine zJ_iload_n dX4_firstLetter_20 rfl rfl ?_
    refine zJ_aload_n dX4_firstLetter_21 rfl rfl ?_
    refine zJ_getr (mi := mX4_firstLetter) dX4_firstLetter_22 F_X4_15 zW_34 rfl rfl ?_
    refine zJ_iload_n dX4_firstLetter_25 rfl rfl ?_
    refine zJ_bipush dX4_firstLetter_26 zb_8 rfl ?_
    refine zJ_imul dX4_firstLetter_28 rfl ?_
    refine zJ_iload dX4_firstLetter_29 rfl rfl ?_
    refine zJ_iadd dX4_firstLetter_31 rfl ?_
    obtain ⟨hg, h⟩ := gd_some h
    refine zJ_iald (mi := mX4_firstLetter) (f := letters_tenths) dX4_firstLetter_32 zW_36 (ix_in hg) rfl rfl ?_
    refine zJ_isub dX4_firstLetter_33 rfl ?_
    obtain ⟨v6n2, ev6n2, h⟩ := lt1_some h
    refine zJ_nmi ev6n2 ?_
    refine zJ_istore (ls' := [(6, .int v6n2), (0, .ref 34), (1, .int p1), (2, .int p2), (3, .int p3), (4, .int v4n1), (5, .int v5_13)]) dX4_firstLetter_34 rfl rfl rfl ?_
    refine zJ_iload dX4_firstLetter_36 rfl rfl ?_
    have hj_X4_firstLetter_75 : ∀ (t0_75j : Int32), j_X4_firstLetter_75 p1 p3 letters_fears letters_least v4n1 rc13 v5_13 v6n2 t0_75j = some r → zJ l zW 1 mX4_firstLetter σ ([(2180, letters_fences)], [(35, letters_fears), (36, letters_tenths), (37, letters_least), (38, letters_spans)], []) 75 [(0, .ref 34), (1, .int p1), (2, .int p2), (3, .int p3), (4, .int v4n1), (5, .int v5_13), (6, .int v6n2)] [.int t0_75j] (some (.int r)) ([(2180, letters_fences)], [(35, letters_fears), (36, letters_tenths), (37, letters_least), (38, letters_spans)], []) := by
      intro t0_75j h
      unfold j_X4_firstLetter_75 at h
      refine zJ_istore (ls' := [(7, .int t0_75j), (0, .ref 34), (1, .int p1), (2, .int p2), (3, .int p3), (4, .int v4n1), (5, .int v5_13), (6, .int v6n2)]) dX4_firstLetter_75 rfl rfl rfl ?_
      refine zJ_iload dX4_firstLetter_77 rfl rfl ?_
      refine zJ_if_eq (tgt := 115) dX4_firstLetter_79 (by decide) rfl (fun hc => ?_) (fun hc => ?_)
      · replace h := it_t hc h
        obtain ⟨v5n3, ev5n3, h⟩ := lt1_some h
        refine zJ_iincN (ls' := [(5, .int v5n3), (7, .int t0_75j), (0, .ref 34), (1, .int p1), (2, .int p2), (3, .int p3), (4, .int v4n1), (6, .int v6n2)]) dX4_firstLetter_115 rfl rfl zc_1 ev5n3 rfl rfl ?_
        refine zJ_goto (tgt := 13) dX4_firstLetter_118 (by decide) ?_
        refine zJ_loc (ls' := [(0, .ref 34), (1, .int p1), (2, .int p2), (3, .int p3), (4, .int v4n1), (5, .int v5n3)]) (zll_c rfl (zll_c rfl (zll_c rfl (zll_c rfl (zll_c rfl (zll_c rfl zll_n)))))) ?_
        exact hrc13 _ h
      · replace h := it_f hc h
        refine zJ_aload_n dX4_firstLetter_82 rfl rfl ?_
        refine zJ_getr (mi := mX4_firstLetter) dX4_firstLetter_83 F_X4_18 zW_34 rfl rfl ?_
        refine zJ_iload dX4_firstLetter_86 rfl rfl ?_
        obtain ⟨rn4, hcl, h⟩ := bd1_some h
        refine zJ_callS2 (σ := σ) (L := ([(2180, letters_fences)], [(35, letters_fears), (36, letters_tenths), (37, letters_least), (38, letters_spans)], [])) (mi := mX4_firstLetter) (yi := mX4_from) (as := [.int v4n1]) (st := [.ref 37]) (L2 := ([(2180, letters_fences)], [(35, letters_fears), (36, letters_tenths), (37, letters_least), (38, letters_spans)], [])) dX4_firstLetter_88 ML_X4_42 Ys_X4_from rfl (t_X4_from l _ hcl) (zsub_i zle_n zle_n zle_n) (zjok_i rfl rfl (zle_c rfl zle_n) rfl rfl (zle_c rfl (zle_c rfl (zle_c rfl (zle_c rfl zle_n)))) rfl rfl zle_n) (Nat.le_of_ble_eq_true rfl) (Nat.le_of_ble_eq_true rfl) rfl rfl ?_
        refine zJ_iload dX4_firstLetter_91 rfl rfl ?_
        refine zJ_iadd dX4_firstLetter_93 rfl ?_
        obtain ⟨hg, h⟩ := gd_some h
        refine zJ_iald (mi := mX4_firstLetter) (f := letters_least) dX4_firstLetter_94 zW_37 (ix_in hg) rfl rfl ?_
        refine zJ_aload_n dX4_firstLetter_95 rfl rfl ?_
        refine zJ_getr (mi := mX4_firstLetter) dX4_firstLetter_96 F_X4_11 zW_34 rfl rfl ?_
        refine zJ_iload_n dX4_firstLetter_99 rfl rfl ?_
        refine zJ_bipush dX4_firstLetter_100 zb_8 rfl ?_
        refine zJ_imul dX4_firstLetter_102 rfl ?_
        refine zJ_iload dX4_firstLetter_103 rfl rfl ?_
        refine zJ_iadd dX4_firstLetter_105 rfl ?_
        obtain ⟨hg, h⟩ := gd_some h
        refine zJ_iald (mi := mX4_firstLetter) (f := letters_fears) dX4_firstLetter_106 zW_35 (ix_in hg) rfl rfl ?_
        refine zJ_iadd dX4_firstLetter_107 rfl ?_
        refine zJ_iload_n dX4_firstLetter_108 rfl rfl ?_
        refine zJ_icmp_ne (tgt := 115) dX4_firstLetter_109 (by decide) rfl (fun hc => ?_) (fun hc => ?_)
        · replace h := it_f hc h
          obtain ⟨v5n5, ev5n5, h⟩ := lt1_some h
          refine zJ_iincN (ls' := [(5, .int v5n5), (7, .int t0_75j), (0, .ref 34), (1, .int p1), (2, .int p2), (3, .int p3), (4, .int v4n1), (6, .int v6n2)]) dX4_firstLetter_115 rfl rfl zc_1 ev5n5 rfl rfl ?_
          refine zJ_goto (tgt := 13) dX4_firstLetter_118 (by decide) ?_
          refine zJ_loc (ls' := [(0, .ref 34), (1, .int p1), (2, .int p2), (3, .int p3), (4, .int v4n1), (5, .int v5n5)]) (zll_c rfl (zll_c rfl (zll_c rfl (zll_c rfl (zll_c rfl (zll_c rfl zll_n)))))) ?_
          exact hrc13 _ h
        · replace h := it_t hc h
          refine zJ_iload dX4_firstLetter_112 rfl rfl ?_
          obtain rfl := so1 h
          exact zJ_iret dX4_firstLetter_114 rfl rfl
    refine zJ_if_lt (tgt := 74) dX4_firstLetter_38 (by decide) rfl (fun hc => ?_) (fun hc => ?_)
    · replace h := it_t hc h
      refine zJ_iconst dX4_firstLetter_74 zc_0 rfl ?_
      refine zJ_loc (ls' := [(0, .ref 34), (1, .int p1), (2, .int p2), (3, .int p3), (4, .int v4n1), (5, .int v5_13), (6, .int v6n2)]) (zll_c rfl (zll_c rfl (zll_c rfl (zll_c rfl (zll_c rfl (zll_c rfl (zll_c rfl zll_n))))))) ?_
      exact hj_X4_firstLetter_75 _ h
    · replace h := it_f hc h
      refine zJ_iload dX4_firstLetter_41 rfl rfl ?_
      refine zJ_aload_n dX4_firstLetter_43 rfl rfl ?_
      refine zJ_getr (mi := mX4_firstLetter) dX4_firstLetter_44 F_X4_21 zW_34 rfl rfl ?_
      refine zJ_iload dX4_firstLetter_47 rfl rfl ?_
      obtain ⟨hg, h⟩ := gd_some h
      refine zJ_iald (mi := mX4_firstLetter) (f := letters_spans) dX4_firstLetter_49 zW_38 (ix_in hg) rfl rfl ?_
      refine zJ_icmp_gt (tgt := 74) dX4_firstLetter_50 (by decide) rfl (fun hc => ?_) (fun hc => ?_)
      · replace h := it_t hc h
        refine zJ_iconst dX4_firstLetter_74 zc_0 rfl ?_
        refine zJ_loc (ls' := [(0, .ref 34), (1, .int p1), (2, .int p2), (3, .int p3), (4, .int v4n1), (5, .int v5_13), (6, .int v6n2)]) (zll_c rfl (zll_c rfl (zll_c rfl (zll_c rfl (zll_c rfl (zll_c rfl (zll_c rfl zll_n))))))) ?_
        exact hj_X4_firstLetter_75 _ h
      · replace h := it_f hc h
        refine zJ_aload_n dX4_firstLetter_53 rfl rfl ?_
        refine zJ_getr (mi := mX4_firstLetter) dX4_firstLetter_54 F_X4_18 zW_34 rfl rfl ?_
        refine zJ_iload dX4_firstLetter_57 rfl rfl ?_
        obtain ⟨rn6, hcl, h⟩ := bd1_some h
        refine zJ_callS2 (σ := σ) (L := ([(2180, letters_fences)], [(35, letters_fears), (36, letters_tenths), (37, letters_least), (38, letters_spans)], [])) (mi := mX4_firstLetter) (yi := mX4_from) (as := [.int v4n1]) (st := [.ref 37]) (L2 := ([(2180, letters_fences)], [(35, letters_fears), (36, letters_tenths), (37, letters_least), (38, letters_spans)], [])) dX4_firstLetter_59 ML_X4_42 Ys_X4_from rfl (t_X4_from l _ hcl) (zsub_i zle_n zle_n zle_n) (zjok_i rfl rfl (zle_c rfl zle_n) rfl rfl (zle_c rfl (zle_c rfl (zle_c rfl (zle_c rfl zle_n)))) rfl rfl zle_n) (Nat.le_of_ble_eq_true rfl) (Nat.le_of_ble_eq_true rfl) rfl rfl ?_
        refine zJ_iload dX4_firstLetter_62 rfl rfl ?_
        refine zJ_iadd dX4_firstLetter_64 rfl ?_
        obtain ⟨hg, h⟩ := gd_some h
        refine zJ_iald (mi := mX4_firstLetter) (f := letters_least) dX4_firstLetter_65 zW_37 (ix_in hg) rfl rfl ?_
        refine zJ_iconst dX4_firstLetter_66 zc_m1 rfl ?_
        refine zJ_icmp_eq (tgt := 74) dX4_firstLetter_67 (by decide) rfl (fun hc => ?_) (fun hc => ?_)
        · replace h := it_t hc h
          refine zJ_iconst dX4_firstLetter_74 zc_0 rfl ?_
          refine zJ_loc (ls' := [(0, .ref 34), (1, .int p1), (2, .int p2), (3, .int p3), (4, .int v4n1), (5, .int v5_13), (6, .int v6n2)]) (zll_c rfl (zll_c rfl (zll_c rfl (zll_c rfl (zll_c rfl (zll_c rfl (zll_c rfl zll_n))))))) ?_
          exact hj_X4_firstLetter_75 _ h
        · replace h := it_f hc h
          refine zJ_iconst dX4_firstLetter_70 zc_1 rfl ?_
          refine zJ_goto (tgt := 75) dX4_firstLetter_71 (by decide) ?_
          refine zJ_loc (ls' := [(0, .ref 34), (1, .int p1), (2, .int p2), (3, .int p3), (4, .int v4n1), (5, .int v5_13), (6, .int v6n2)]) (zll_c rfl (zll_c rfl (zll_c rfl (zll_c rfl (zll_c rfl (zll_c rfl (zll_c rfl zll_n))))))) ?_
          exact hj_X4_firstLetter_75 _ h
set_option maxRecDepth 100000 in
set_option maxHeartbeats 4000000 in
theorem t_X4_tell (l : Launch) (σ : zS) {p2 : Int32} {numbers_size : Int32} {letters_fences : Int32} {letters_fears : (Nat → Int32)} {letters_tenths : (Nat → Int32)} {letters_least : (Nat → Int32)} {letters_spans : (Nat → Int32)} {numbers_told : (Nat → Int64)} {w_numbers_size : Int32} {w_numbers_told : (Nat → Int64)} (h : f_X4_tell p2 numbers_size letters_fences letters_fears letters_tenths letters_least letters_spans numbers_told = some (w_numbers_size, w_numbers_told)) : zMt l zW 2 mX4_tell σ ([(193, numbers_size), (2180, letters_fences)], [(35, letters_fears), (36, letters_tenths), (37, letters_least), (38, letters_spans)], [(4, numbers_told)]) [.ref 34, .ref 3, .int p2] none ([(193, w_numbers_size), (2180, letters_fences)], [(35, letters_fears), (36, letters_tenths), (37, letters_least), (38, letters_spans)], [(4, w_numbers_told)]) := by
  refine zMt_of (ls := [(0, .ref 34), (1, .ref 3), (2, .int p2)]) (by decide) rfl (fun _ => Nat.le_of_ble_eq_true rfl) rfl ?_
  unfold f_X4_tell at h
  refine zJ_iload_n dX4_tell_0 rfl rfl ?_
  refine zJ_istore_n (ls' := [(3, .int p2), (0, .ref 34), (1, .ref 3), (2, .int p2)]) dX4_tell_1 rfl rfl rfl ?_
  refine zJ_aload_n dX4_tell_2 rfl rfl ?_
  refine zJ_iload_n dX4_tell_3 rfl rfl ?_
  obtain ⟨rn1, hcl, h⟩ := bd1_some h
  refine zJ_callV2 (σ := σ) (L := ([(193, numbers_size), (2180, letters_fences)], [(35, letters_fears), (36, letters_tenths), (37, letters_least), (38, letters_spans)], [(4, numbers_told)])) (mi := mX4_tell) (yi := mX4_fearWith) (as := [.int p2]) (st := []) (L2 := ([(193, numbers_size), (2180, letters_fences)], [(35, letters_fears), (36, letters_tenths), (37, letters_least), (38, letters_spans)], [(4, numbers_told)])) dX4_tell_4 ML_X4_58 Yv_X4_fearWith rfl zW_34 rfl rfl (t_X4_fearWith l _ hcl) (zsub_i (zle_c rfl zle_n) (zle_c rfl (zle_c rfl zle_n)) zle_n) (zjok_i rfl rfl (zle_c rfl (zle_c rfl zle_n)) rfl rfl (zle_c rfl (zle_c rfl (zle_c rfl (zle_c rfl zle_n)))) rfl rfl (zle_c rfl zle_n)) (Nat.le_of_ble_eq_true rfl) (Nat.le_of_ble_eq_true rfl) rfl rfl ?_
  refine zJ_istore (ls' := [(4, .int rn1), (3, .int p2), (0, .ref 34), (1, .ref 3), (2, .int p2)]) dX4_tell_7 rfl rfl rfl ?_
  refine zJ_iconst dX4_tell_9 zc_0 rfl ?_
  refine zJ_istore (ls' := [(5, .int (0 : Int32)), (4, .int rn1), (3, .int p2), (0, .ref 34), (1, .ref 3), (2, .int p2)]) dX4_tell_10 rfl rfl rfl ?_
  have hk12 : ∀ (numbers_size_12x : Int32) (numbers_told_12x : (Nat → Int64)), k_X4_tell_12  numbers_size_12x numbers_told_12x = some (w_numbers_size, w_numbers_told) → zJ l zW 2 mX4_tell σ ([(193, numbers_size_12x), (2180, letters_fences)], [(35, letters_fears), (36, letters_tenths), (37, letters_least), (38, letters_spans)], [(4, numbers_told_12x)]) 79 [] [] none ([(193, w_numbers_size), (2180, letters_fences)], [(35, letters_fears), (36, letters_tenths), (37, letters_least), (38, letters_spans)], [(4, w_numbers_told)]) := by
    intro numbers_size_12x numbers_told_12x h
    unfold k_X4_tell_12 at h
    obtain ⟨rfl, rfl⟩ := so2 h
    exact zJ_vret dX4_tell_79 rfl
  refine zJ_loc (ls' := [(0, .ref 34), (1, .ref 3), (3, .int p2), (4, .int rn1), (5, .int (0 : Int32))]) (zll_c rfl (zll_c rfl (zll_c rfl (zll_c rfl (zll_c rfl zll_n))))) ?_
  refine ml5_J (fun (v3_12 : Int32) (v4_12 : Int32) (v5_12 : Int32) (numbers_size_12 : Int32) (numbers_told_12 : (Nat → Int64)) => zJ l zW 2 mX4_tell σ ([(193, numbers_size_12), (2180, letters_fences)], [(35, letters_fears), (36, letters_tenths), (37, letters_least), (38, letters_spans)], [(4, numbers_told_12)]) 12 [(0, .ref 34), (1, .ref 3), (3, .int v3_12), (4, .int v4_12), (5, .int v5_12)] [] none ([(193, w_numbers_size), (2180, letters_fences)], [(35, letters_fears), (36, letters_tenths), (37, letters_least), (38, letters_spans)], [(4, w_numbers_told)])) (fun rc12 hrc12 v3_12 v4_12 v5_12 numbers_size_12 numbers_told_12 h => ?_) zN _ _ _ _ _ h
  unfold s_X4_tell_12 at h
  refine zJ_iload dX4_tell_12 rfl rfl ?_
  refine zJ_aload_n dX4_tell_14 rfl rfl ?_
  refine zJ_geti (mi := mX4_tell) (x := letters_fences) dX4_tell_15 F_X4_30 zW_34 rfl rfl rfl ?_
  refine zJ_icmp_ge (tgt := 79) dX4_tell_18 (by decide) rfl (fun hc => ?_) (fun hc => ?_)
  · replace h := it_t hc h
    refine zJ_loc (ls' := []) zll_n ?_
    exact hk12 _ _ h
  · replace h := it_f hc h
    refine zJ_aload_n dX4_tell_21 rfl rfl ?_
    refine zJ_iload dX4_tell_22 rfl rfl ?_
    refine zJ_iload_n dX4_tell_24 rfl rfl ?_
    refine zJ_iload dX4_tell_25 rfl rfl ?_
    obtain ⟨rn2, hcl, h⟩ := bd1_some h
    refine zJ_callV2 (σ := σ) (L := ([(193, numbers_size_12), (2180, letters_fences)], [(35, letters_fears), (36, letters_tenths), (37, letters_least), (38, letters_spans)], [(4, numbers_told_12)])) (mi := mX4_tell) (yi := mX4_firstLetter) (as := [.int v5_12, .int v3_12, .int v4_12]) (st := []) (L2 := ([(193, numbers_size_12), (2180, letters_fences)], [(35, letters_fears), (36, letters_tenths), (37, letters_least), (38, letters_spans)], [(4, numbers_told_12)])) dX4_tell_27 ML_X4_61 Yv_X4_firstLetter rfl zW_34 rfl rfl (t_X4_firstLetter l _ hcl) (zsub_i (zle_c rfl zle_n) (zle_c rfl (zle_c rfl (zle_c rfl (zle_c rfl zle_n)))) zle_n) (zjok_i rfl rfl (zle_c rfl (zle_c rfl zle_n)) rfl rfl (zle_c rfl (zle_c rfl (zle_c rfl (zle_c rfl zle_n)))) rfl rfl (zle_c rfl zle_n)) (Nat.le_of_ble_eq_true rfl) (Nat.le_of_ble_eq_true rfl) rfl rfl ?_
    refine zJ_istore (ls' := [(6, .int rn2), (0, .ref 34), (1, .ref 3), (3, .int v3_12), (4, .int v4_12), (5, .int v5_12)]) dX4_tell_30 rfl rfl rfl ?_
    refine zJ_aload_n dX4_tell_32 rfl rfl ?_
    refine zJ_iload dX4_tell_33 rfl rfl ?_
    refine zJ_i2l dX4_tell_35 rfl ?_
    obtain ⟨numbers_sizen3, numbers_toldn4, hcl, h⟩ := bd2_some h
    refine zJ_callV2 (σ := σ) (L := ([(193, numbers_size_12), (2180, letters_fences)], [(35, letters_fears), (36, letters_tenths), (37, letters_least), (38, letters_spans)], [(4, numbers_told_12)])) (mi := mX4_tell) (yi := mX6_put) (as := [.long rn2.toInt64]) (st := []) (L2 := ([(193, numbers_sizen3), (2180, letters_fences)], [(35, letters_fears), (36, letters_tenths), (37, letters_least), (38, letters_spans)], [(4, numbers_toldn4)])) dX4_tell_36 ML_X4_64 Yv_X6_put rfl zW_3 rfl rfl (t_X6_put l _ hcl) (zsub_i (zle_c rfl zle_n) zle_n (zle_c rfl zle_n)) (zjok_i rfl rfl (zle_c rfl (zle_c rfl zle_n)) rfl rfl (zle_c rfl (zle_c rfl (zle_c rfl (zle_c rfl zle_n)))) rfl rfl (zle_c rfl zle_n)) (Nat.le_of_ble_eq_true rfl) (Nat.le_of_ble_eq_true rfl) rfl rfl ?_
    refine zJ_iload_n dX4_tell_39 rfl rfl ?_
    refine zJ_aload_n dX4_tell_40 rfl rfl ?_
    refine zJ_getr (mi := mX4_tell) dX4_tell_41 F_X4_15 zW_34 rfl rfl ?_
    refine zJ_iload dX4_tell_44 rfl rfl ?_
    refine zJ_bipush dX4_tell_46 zb_8 rfl ?_
    refine zJ_imul dX4_tell_48 rfl ?_
    refine zJ_iload dX4_tell_49 rfl rfl ?_
    refine zJ_iadd dX4_tell_51 rfl ?_
    obtain ⟨hg, h⟩ := gd_some h
    refine zJ_iald (mi := mX4_tell) (f := letters_tenths) dX4_tell_52 zW_36 (ix_in hg) rfl rfl ?_
    refine zJ_isub dX4_tell_53 rfl ?_
    obtain ⟨v3n5, ev3n5, h⟩ := lt1_some h
    refine zJ_nmi ev3n5 ?_
    refine zJ_istore_n (ls' := [(3, .int v3n5), (6, .int rn2), (0, .ref 34), (1, .ref 3), (4, .int v4_12), (5, .int v5_12)]) dX4_tell_54 rfl rfl rfl ?_
    refine zJ_iload dX4_tell_55 rfl rfl ?_
    refine zJ_aload_n dX4_tell_57 rfl rfl ?_
    refine zJ_getr (mi := mX4_tell) dX4_tell_58 F_X4_11 zW_34 rfl rfl ?_
    refine zJ_iload dX4_tell_61 rfl rfl ?_
    refine zJ_bipush dX4_tell_63 zb_8 rfl ?_
    refine zJ_imul dX4_tell_65 rfl ?_
    refine zJ_iload dX4_tell_66 rfl rfl ?_
    refine zJ_iadd dX4_tell_68 rfl ?_
    obtain ⟨hg, h⟩ := gd_some h
    refine zJ_iald (mi := mX4_tell) (f := letters_fears) dX4_tell_69 zW_35 (ix_in hg) rfl rfl ?_
    refine zJ_isub dX4_tell_70 rfl ?_
    obtain ⟨v4n6, ev4n6, h⟩ := lt1_some h
    refine zJ_nmi ev4n6 ?_
    refine zJ_istore (ls' := [(4, .int v4n6), (3, .int v3n5), (6, .int rn2), (0, .ref 34), (1, .ref 3), (5, .int v5_12)]) dX4_tell_71 rfl rfl rfl ?_
    obtain ⟨v5n7, ev5n7, h⟩ := lt1_some h
    refine zJ_iincN (ls' := [(5, .int v5n7), (4, .int v4n6), (3, .int v3n5), (6, .int rn2), (0, .ref 34), (1, .ref 3)]) dX4_tell_73 rfl rfl zc_1 ev5n7 rfl rfl ?_
    refine zJ_goto (tgt := 12) dX4_tell_76 (by decide) ?_
    refine zJ_loc (ls' := [(0, .ref 34), (1, .ref 3), (3, .int v3n5), (4, .int v4n6), (5, .int v5n7)]) (zll_c rfl (zll_c rfl (zll_c rfl (zll_c rfl (zll_c rfl zll_n))))) ?_
    exact hrc12 _ _ _ _ _ h
set_option maxRecDepth 100000 in
set_option maxHeartbeats 4000000 in
theorem t_X11_leastFear (l : Launch) (σ : zS) {p1 : Int32} {p2 : Int32} {numbers_size : Int32} {course_fences : Int32} {course_rule_size : Int32} {letters_fences : Int32} {course_kinds : (Nat → Int32)} {course_heights : (Nat → Int32)} {course_feet : (Nat → Int32)} {course_digits : (Nat → Int32)} {rule_codes : (Nat → Int32)} {rule_stack : (Nat → Int32)} {rule_things : (Nat → Int32)} {letters_fears : (Nat → Int32)} {letters_tenths : (Nat → Int32)} {letters_least : (Nat → Int32)} {letters_spans : (Nat → Int32)} {numbers_told : (Nat → Int64)} {r : Int32} {w_numbers_size : Int32} {w_letters_fences : Int32} {w_rule_stack : (Nat → Int32)} {w_rule_things : (Nat → Int32)} {w_letters_fears : (Nat → Int32)} {w_letters_tenths : (Nat → Int32)} {w_letters_least : (Nat → Int32)} {w_letters_spans : (Nat → Int32)} {w_numbers_told : (Nat → Int64)} (h : f_X11_leastFear p1 p2 numbers_size course_fences course_rule_size letters_fences course_kinds course_heights course_feet course_digits rule_codes rule_stack rule_things letters_fears letters_tenths letters_least letters_spans numbers_told = some (r, w_numbers_size, w_letters_fences, w_rule_stack, w_rule_things, w_letters_fears, w_letters_tenths, w_letters_least, w_letters_spans, w_numbers_told)) : zMt l zW 5 mX11_leastFear σ ([(193, numbers_size), (323, course_fences), (769, course_rule_size), (2180, letters_fences)], [(6, course_kinds), (7, course_heights), (8, course_feet), (10, course_digits), (13, rule_codes), (15, rule_stack), (16, rule_things), (35, letters_fears), (36, letters_tenths), (37, letters_least), (38, letters_spans)], [(4, numbers_told)]) [.ref 0, .int p1, .int p2] (some (.int r)) ([(193, w_numbers_size), (323, course_fences), (769, course_rule_size), (2180, w_letters_fences)], [(6, course_kinds), (7, course_heights), (8, course_feet), (10, course_digits), (13, rule_codes), (15, w_rule_stack), (16, w_rule_things), (35, w_letters_fears), (36, w_letters_tenths), (37, w_letters_least), (38, w_letters_spans)], [(4, w_numbers_told)]) := by
  refine zMt_of (ls := [(0, .ref 0), (1, .int p1), (2, .int p2)]) (by decide) rfl (fun _ => Nat.le_of_ble_eq_true rfl) rfl ?_
  unfold f_X11_leastFear at h
  refine zJ_aload_n dX11_leastFear_0 rfl rfl ?_
  refine zJ_getr (mi := mX11_leastFear) dX11_leastFear_1 F_X11_59 zW_0 rfl rfl ?_
  refine zJ_aload_n dX11_leastFear_4 rfl rfl ?_
  refine zJ_getr (mi := mX11_leastFear) dX11_leastFear_5 F_X11_26 zW_0 rfl rfl ?_
  refine zJ_iload_n dX11_leastFear_8 rfl rfl ?_
  obtain ⟨letters_fencesn1, rule_stackn2, rule_thingsn3, letters_fearsn4, letters_tenthsn5, letters_leastn6, letters_spansn7, hcl, h⟩ := bd7_some h
  refine zJ_callV2 (σ := σ) (L := ([(193, numbers_size), (323, course_fences), (769, course_rule_size), (2180, letters_fences)], [(6, course_kinds), (7, course_heights), (8, course_feet), (10, course_digits), (13, rule_codes), (15, rule_stack), (16, rule_things), (35, letters_fears), (36, letters_tenths), (37, letters_least), (38, letters_spans)], [(4, numbers_told)])) (mi := mX11_leastFear) (yi := mX4_lay) (as := [.ref 5, .int p1]) (st := []) (L2 := ([(193, numbers_size), (323, course_fences), (769, course_rule_size), (2180, letters_fencesn1)], [(6, course_kinds), (7, course_heights), (8, course_feet), (10, course_digits), (13, rule_codes), (15, rule_stackn2), (16, rule_thingsn3), (35, letters_fearsn4), (36, letters_tenthsn5), (37, letters_leastn6), (38, letters_spansn7)], [(4, numbers_told)])) dX11_leastFear_9 ML_X11_219 Yv_X4_lay rfl zW_34 rfl rfl (t_X4_lay l _ hcl) (zsub_i (zle_c rfl (zle_c rfl (zle_c rfl zle_n))) (zle_c rfl (zle_c rfl (zle_c rfl (zle_c rfl (zle_c rfl (zle_c rfl (zle_c rfl (zle_c rfl (zle_c rfl (zle_c rfl (zle_c rfl zle_n))))))))))) zle_n) (zjok_i rfl rfl (zle_c rfl (zle_c rfl (zle_c rfl (zle_c rfl zle_n)))) rfl rfl (zle_c rfl (zle_c rfl (zle_c rfl (zle_c rfl (zle_c rfl (zle_c rfl (zle_c rfl (zle_c rfl (zle_c rfl (zle_c rfl (zle_c rfl zle_n))))))))))) rfl rfl (zle_c rfl zle_n)) (Nat.le_of_ble_eq_true rfl) (Nat.le_of_ble_eq_true rfl) rfl rfl ?_
  refine zJ_aload_n dX11_leastFear_12 rfl rfl ?_
  refine zJ_getr (mi := mX11_leastFear) dX11_leastFear_13 F_X11_59 zW_0 rfl rfl ?_
  refine zJ_iload_n dX11_leastFear_16 rfl rfl ?_
  obtain ⟨rn8, hcl, h⟩ := bd1_some h
  refine zJ_callV2 (σ := σ) (L := ([(193, numbers_size), (323, course_fences), (769, course_rule_size), (2180, letters_fencesn1)], [(6, course_kinds), (7, course_heights), (8, course_feet), (10, course_digits), (13, rule_codes), (15, rule_stackn2), (16, rule_thingsn3), (35, letters_fearsn4), (36, letters_tenthsn5), (37, letters_leastn6), (38, letters_spansn7)], [(4, numbers_told)])) (mi := mX11_leastFear) (yi := mX4_calmestTenths) (as := [.int p2]) (st := []) (L2 := ([(193, numbers_size), (323, course_fences), (769, course_rule_size), (2180, letters_fencesn1)], [(6, course_kinds), (7, course_heights), (8, course_feet), (10, course_digits), (13, rule_codes), (15, rule_stackn2), (16, rule_thingsn3), (35, letters_fearsn4), (36, letters_tenthsn5), (37, letters_leastn6), (38, letters_spansn7)], [(4, numbers_told)])) dX11_leastFear_17 ML_X11_233 Yv_X4_calmestTenths rfl zW_34 rfl rfl (t_X4_calmestTenths l _ hcl) (zsub_i (zle_c rfl zle_n) (zle_c rfl (zle_c rfl zle_n)) zle_n) (zjok_i rfl rfl (zle_c rfl (zle_c rfl (zle_c rfl (zle_c rfl zle_n)))) rfl rfl (zle_c rfl (zle_c rfl (zle_c rfl (zle_c rfl (zle_c rfl (zle_c rfl (zle_c rfl (zle_c rfl (zle_c rfl (zle_c rfl (zle_c rfl zle_n))))))))))) rfl rfl (zle_c rfl zle_n)) (Nat.le_of_ble_eq_true rfl) (Nat.le_of_ble_eq_true rfl) rfl rfl ?_
  refine zJ_istore_n (ls' := [(3, .int rn8), (0, .ref 0), (1, .int p1), (2, .int p2)]) dX11_leastFear_20 rfl rfl rfl ?_
  refine zJ_iload_n dX11_leastFear_21 rfl rfl ?_
  refine zJ_iconst dX11_leastFear_22 zc_m1 rfl ?_
  refine zJ_icmp_ne (tgt := 29) dX11_leastFear_23 (by decide) rfl (fun hc => ?_) (fun hc => ?_)
  · replace h := it_f hc h
    refine zJ_aload_n dX11_leastFear_29 rfl rfl ?_
    refine zJ_getr (mi := mX11_leastFear) dX11_leastFear_30 F_X11_19 zW_0 rfl rfl ?_
    obtain ⟨numbers_sizen9, hcl, h⟩ := bd1_some h
    refine zJ_callV2 (σ := σ) (L := ([(193, numbers_size), (323, course_fences), (769, course_rule_size), (2180, letters_fencesn1)], [(6, course_kinds), (7, course_heights), (8, course_feet), (10, course_digits), (13, rule_codes), (15, rule_stackn2), (16, rule_thingsn3), (35, letters_fearsn4), (36, letters_tenthsn5), (37, letters_leastn6), (38, letters_spansn7)], [(4, numbers_told)])) (mi := mX11_leastFear) (yi := mX6_start) (as := []) (st := []) (L2 := ([(193, numbers_sizen9), (323, course_fences), (769, course_rule_size), (2180, letters_fencesn1)], [(6, course_kinds), (7, course_heights), (8, course_feet), (10, course_digits), (13, rule_codes), (15, rule_stackn2), (16, rule_thingsn3), (35, letters_fearsn4), (36, letters_tenthsn5), (37, letters_leastn6), (38, letters_spansn7)], [(4, numbers_told)])) dX11_leastFear_33 ML_X11_171 Yv_X6_start rfl zW_3 rfl rfl (t_X6_start l _ hcl) (zsub_i (zle_c rfl zle_n) zle_n zle_n) (zjok_i rfl rfl (zle_c rfl (zle_c rfl (zle_c rfl (zle_c rfl zle_n)))) rfl rfl (zle_c rfl (zle_c rfl (zle_c rfl (zle_c rfl (zle_c rfl (zle_c rfl (zle_c rfl (zle_c rfl (zle_c rfl (zle_c rfl (zle_c rfl zle_n))))))))))) rfl rfl (zle_c rfl zle_n)) (Nat.le_of_ble_eq_true rfl) (Nat.le_of_ble_eq_true rfl) rfl rfl ?_
    refine zJ_aload_n dX11_leastFear_36 rfl rfl ?_
    refine zJ_getr (mi := mX11_leastFear) dX11_leastFear_37 F_X11_19 zW_0 rfl rfl ?_
    refine zJ_iload_n dX11_leastFear_40 rfl rfl ?_
    refine zJ_i2l dX11_leastFear_41 rfl ?_
    obtain ⟨numbers_sizen10, numbers_toldn11, hcl, h⟩ := bd2_some h
    refine zJ_callV2 (σ := σ) (L := ([(193, numbers_sizen9), (323, course_fences), (769, course_rule_size), (2180, letters_fencesn1)], [(6, course_kinds), (7, course_heights), (8, course_feet), (10, course_digits), (13, rule_codes), (15, rule_stackn2), (16, rule_thingsn3), (35, letters_fearsn4), (36, letters_tenthsn5), (37, letters_leastn6), (38, letters_spansn7)], [(4, numbers_told)])) (mi := mX11_leastFear) (yi := mX6_put) (as := [.long rn8.toInt64]) (st := []) (L2 := ([(193, numbers_sizen10), (323, course_fences), (769, course_rule_size), (2180, letters_fencesn1)], [(6, course_kinds), (7, course_heights), (8, course_feet), (10, course_digits), (13, rule_codes), (15, rule_stackn2), (16, rule_thingsn3), (35, letters_fearsn4), (36, letters_tenthsn5), (37, letters_leastn6), (38, letters_spansn7)], [(4, numbers_toldn11)])) dX11_leastFear_42 ML_X11_177 Yv_X6_put rfl zW_3 rfl rfl (t_X6_put l _ hcl) (zsub_i (zle_c rfl zle_n) zle_n (zle_c rfl zle_n)) (zjok_i rfl rfl (zle_c rfl (zle_c rfl (zle_c rfl (zle_c rfl zle_n)))) rfl rfl (zle_c rfl (zle_c rfl (zle_c rfl (zle_c rfl (zle_c rfl (zle_c rfl (zle_c rfl (zle_c rfl (zle_c rfl (zle_c rfl (zle_c rfl zle_n))))))))))) rfl rfl (zle_c rfl zle_n)) (Nat.le_of_ble_eq_true rfl) (Nat.le_of_ble_eq_true rfl) rfl rfl ?_
    refine zJ_aload_n dX11_leastFear_45 rfl rfl ?_
    refine zJ_getr (mi := mX11_leastFear) dX11_leastFear_46 F_X11_59 zW_0 rfl rfl ?_
    refine zJ_aload_n dX11_leastFear_49 rfl rfl ?_
    refine zJ_getr (mi := mX11_leastFear) dX11_leastFear_50 F_X11_19 zW_0 rfl rfl ?_
    refine zJ_iload_n dX11_leastFear_53 rfl rfl ?_
    obtain ⟨numbers_sizen12, numbers_toldn13, hcl, h⟩ := bd2_some h
    refine zJ_callV2 (σ := σ) (L := ([(193, numbers_sizen10), (323, course_fences), (769, course_rule_size), (2180, letters_fencesn1)], [(6, course_kinds), (7, course_heights), (8, course_feet), (10, course_digits), (13, rule_codes), (15, rule_stackn2), (16, rule_thingsn3), (35, letters_fearsn4), (36, letters_tenthsn5), (37, letters_leastn6), (38, letters_spansn7)], [(4, numbers_toldn11)])) (mi := mX11_leastFear) (yi := mX4_tell) (as := [.ref 3, .int rn8]) (st := []) (L2 := ([(193, numbers_sizen12), (323, course_fences), (769, course_rule_size), (2180, letters_fencesn1)], [(6, course_kinds), (7, course_heights), (8, course_feet), (10, course_digits), (13, rule_codes), (15, rule_stackn2), (16, rule_thingsn3), (35, letters_fearsn4), (36, letters_tenthsn5), (37, letters_leastn6), (38, letters_spansn7)], [(4, numbers_toldn13)])) dX11_leastFear_54 ML_X11_229 Yv_X4_tell rfl zW_34 rfl rfl (t_X4_tell l _ hcl) (zsub_i (zle_c rfl (zle_c rfl zle_n)) (zle_c rfl (zle_c rfl (zle_c rfl (zle_c rfl zle_n)))) (zle_c rfl zle_n)) (zjok_i rfl rfl (zle_c rfl (zle_c rfl (zle_c rfl (zle_c rfl zle_n)))) rfl rfl (zle_c rfl (zle_c rfl (zle_c rfl (zle_c rfl (zle_c rfl (zle_c rfl (zle_c rfl (zle_c rfl (zle_c rfl (zle_c rfl (zle_c rfl zle_n))))))))))) rfl rfl (zle_c rfl zle_n)) (Nat.le_of_ble_eq_true rfl) (Nat.le_of_ble_eq_true rfl) rfl rfl ?_
    refine zJ_aload_n dX11_leastFear_57 rfl rfl ?_
    refine zJ_getr (mi := mX11_leastFear) dX11_leastFear_58 F_X11_59 zW_0 rfl rfl ?_
    refine zJ_iload_n dX11_leastFear_61 rfl rfl ?_
    obtain ⟨rn14, hcl, h⟩ := bd1_some h
    refine zJ_callV2 (σ := σ) (L := ([(193, numbers_sizen12), (323, course_fences), (769, course_rule_size), (2180, letters_fencesn1)], [(6, course_kinds), (7, course_heights), (8, course_feet), (10, course_digits), (13, rule_codes), (15, rule_stackn2), (16, rule_thingsn3), (35, letters_fearsn4), (36, letters_tenthsn5), (37, letters_leastn6), (38, letters_spansn7)], [(4, numbers_toldn13)])) (mi := mX11_leastFear) (yi := mX4_fearWith) (as := [.int rn8]) (st := []) (L2 := ([(193, numbers_sizen12), (323, course_fences), (769, course_rule_size), (2180, letters_fencesn1)], [(6, course_kinds), (7, course_heights), (8, course_feet), (10, course_digits), (13, rule_codes), (15, rule_stackn2), (16, rule_thingsn3), (35, letters_fearsn4), (36, letters_tenthsn5), (37, letters_leastn6), (38, letters_spansn7)], [(4, numbers_toldn13)])) dX11_leastFear_62 ML_X11_226 Yv_X4_fearWith rfl zW_34 rfl rfl (t_X4_fearWith l _ hcl) (zsub_i (zle_c rfl zle_n) (zle_c rfl (zle_c rfl zle_n)) zle_n) (zjok_i rfl rfl (zle_c rfl (zle_c rfl (zle_c rfl (zle_c rfl zle_n)))) rfl rfl (zle_c rfl (zle_c rfl (zle_c rfl (zle_c rfl (zle_c rfl (zle_c rfl (zle_c rfl (zle_c rfl (zle_c rfl (zle_c rfl (zle_c rfl zle_n))))))))))) rfl rfl (zle_c rfl zle_n)) (Nat.le_of_ble_eq_true rfl) (Nat.le_of_ble_eq_true rfl) rfl rfl ?_
    obtain ⟨rfl, rfl, rfl, rfl, rfl, rfl, rfl, rfl, rfl, rfl⟩ := so10 h
    exact zJ_iret dX11_leastFear_65 rfl rfl
  · replace h := it_t hc h
    refine zJ_bipush dX11_leastFear_26 zb_m2 rfl ?_
    obtain ⟨rfl, rfl, rfl, rfl, rfl, rfl, rfl, rfl, rfl, rfl⟩ := so10 h
    exact zJ_iret dX11_leastFear_28 rfl rfl
set_option maxRecDepth 100000 in
set_option maxHeartbeats 4000000 in
theorem t_X11_curve (l : Launch) (σ : zS) {p1 : Int32} {p2 : Int32} {numbers_size : Int32} {course_fences : Int32} {course_horseCount : Int32} {course_rule_size : Int32} {letters_fences : Int32} {course_kinds : (Nat → Int32)} {course_heights : (Nat → Int32)} {course_feet : (Nat → Int32)} {course_digits : (Nat → Int32)} {rule_codes : (Nat → Int32)} {rule_stack : (Nat → Int32)} {rule_things : (Nat → Int32)} {letters_fears : (Nat → Int32)} {letters_tenths : (Nat → Int32)} {letters_least : (Nat → Int32)} {letters_spans : (Nat → Int32)} {numbers_told : (Nat → Int64)} {r : Int32} {w_numbers_size : Int32} {w_letters_fences : Int32} {w_rule_stack : (Nat → Int32)} {w_rule_things : (Nat → Int32)} {w_letters_fears : (Nat → Int32)} {w_letters_tenths : (Nat → Int32)} {w_letters_least : (Nat → Int32)} {w_letters_spans : (Nat → Int32)} {w_numbers_told : (Nat → Int64)} (h : f_X11_curve p1 p2 numbers_size course_fences course_horseCount course_rule_size letters_fences course_kinds course_heights course_feet course_digits rule_codes rule_stack rule_things letters_fears letters_tenths letters_least letters_spans numbers_told = some (r, w_numbers_size, w_letters_fences, w_rule_stack, w_rule_things, w_letters_fears, w_letters_tenths, w_letters_least, w_letters_spans, w_numbers_told)) : zMt l zW 6 mX11_curve σ ([(193, numbers_size), (323, course_fences), (326, course_horseCount), (769, course_rule_size), (2180, letters_fences)], [(6, course_kinds), (7, course_heights), (8, course_feet), (10, course_digits), (13, rule_codes), (15, rule_stack), (16, rule_things), (35, letters_fears), (36, letters_tenths), (37, letters_least), (38, letters_spans)], [(4, numbers_told)]) [.ref 0, .int p1, .int p2] (some (.int r)) ([(193, w_numbers_size), (323, course_fences), (326, course_horseCount), (769, course_rule_size), (2180, w_letters_fences)], [(6, course_kinds), (7, course_heights), (8, course_feet), (10, course_digits), (13, rule_codes), (15, w_rule_stack), (16, w_rule_things), (35, w_letters_fears), (36, w_letters_tenths), (37, w_letters_least), (38, w_letters_spans)], [(4, w_numbers_told)]) := by
  refine zMt_of (ls := [(0, .ref 0), (1, .int p1), (2, .int p2)]) (by decide) rfl (fun _ => Nat.le_of_ble_eq_true rfl) rfl ?_
  unfold f_X11_curve at h
  refine zJ_aload_n dX11_curve_0 rfl rfl ?_
  refine zJ_getr (mi := mX11_curve) dX11_curve_1 F_X11_26 zW_0 rfl rfl ?_
  refine zJ_iload_n dX11_curve_4 rfl rfl ?_
  obtain ⟨rn1, hcl, h⟩ := bd1_some h
  refine zJ_callV2 (σ := σ) (L := ([(193, numbers_size), (323, course_fences), (326, course_horseCount), (769, course_rule_size), (2180, letters_fences)], [(6, course_kinds), (7, course_heights), (8, course_feet), (10, course_digits), (13, rule_codes), (15, rule_stack), (16, rule_things), (35, letters_fears), (36, letters_tenths), (37, letters_least), (38, letters_spans)], [(4, numbers_told)])) (mi := mX11_curve) (yi := mX1_hasHorse) (as := [.int p1]) (st := []) (L2 := ([(193, numbers_size), (323, course_fences), (326, course_horseCount), (769, course_rule_size), (2180, letters_fences)], [(6, course_kinds), (7, course_heights), (8, course_feet), (10, course_digits), (13, rule_codes), (15, rule_stack), (16, rule_things), (35, letters_fears), (36, letters_tenths), (37, letters_least), (38, letters_spans)], [(4, numbers_told)])) dX11_curve_5 ML_X11_147 Yv_X1_hasHorse rfl zW_5 rfl rfl (t_X1_hasHorse l _ hcl) (zsub_i (zle_c rfl zle_n) zle_n zle_n) (zjok_i rfl rfl (zle_c rfl (zle_c rfl (zle_c rfl (zle_c rfl (zle_c rfl zle_n))))) rfl rfl (zle_c rfl (zle_c rfl (zle_c rfl (zle_c rfl (zle_c rfl (zle_c rfl (zle_c rfl (zle_c rfl (zle_c rfl (zle_c rfl (zle_c rfl zle_n))))))))))) rfl rfl (zle_c rfl zle_n)) (Nat.le_of_ble_eq_true rfl) (Nat.le_of_ble_eq_true rfl) rfl rfl ?_
  refine zJ_if_eq (tgt := 22) dX11_curve_8 (by decide) rfl (fun hc => ?_) (fun hc => ?_)
  · replace h := it_t hc h
    refine zJ_iconst dX11_curve_22 zc_m1 rfl ?_
    obtain ⟨rfl, rfl, rfl, rfl, rfl, rfl, rfl, rfl, rfl, rfl⟩ := so10 h
    exact zJ_iret dX11_curve_23 rfl rfl
  · replace h := it_f hc h
    refine zJ_iload_n dX11_curve_11 rfl rfl ?_
    refine zJ_if_lt (tgt := 22) dX11_curve_12 (by decide) rfl (fun hc => ?_) (fun hc => ?_)
    · replace h := it_t hc h
      refine zJ_iconst dX11_curve_22 zc_m1 rfl ?_
      obtain ⟨rfl, rfl, rfl, rfl, rfl, rfl, rfl, rfl, rfl, rfl⟩ := so10 h
      exact zJ_iret dX11_curve_23 rfl rfl
    · replace h := it_f hc h
      refine zJ_iload_n dX11_curve_15 rfl rfl ?_
      refine zJ_sipush dX11_curve_16 zs_9999 rfl ?_
      refine zJ_icmp_le (tgt := 24) dX11_curve_19 (by decide) rfl (fun hc => ?_) (fun hc => ?_)
      · replace h := it_t hc h
        refine zJ_aload_n dX11_curve_24 rfl rfl ?_
        refine zJ_iload_n dX11_curve_25 rfl rfl ?_
        refine zJ_iload_n dX11_curve_26 rfl rfl ?_
        obtain ⟨rn2, numbers_sizen3, letters_fencesn4, rule_stackn5, rule_thingsn6, letters_fearsn7, letters_tenthsn8, letters_leastn9, letters_spansn10, numbers_toldn11, hcl, h⟩ := bd10_some h
        refine zJ_callV2 (σ := σ) (L := ([(193, numbers_size), (323, course_fences), (326, course_horseCount), (769, course_rule_size), (2180, letters_fences)], [(6, course_kinds), (7, course_heights), (8, course_feet), (10, course_digits), (13, rule_codes), (15, rule_stack), (16, rule_things), (35, letters_fears), (36, letters_tenths), (37, letters_least), (38, letters_spans)], [(4, numbers_told)])) (mi := mX11_curve) (yi := mX11_leastFear) (as := [.int p1, .int p2]) (st := []) (L2 := ([(193, numbers_sizen3), (323, course_fences), (326, course_horseCount), (769, course_rule_size), (2180, letters_fencesn4)], [(6, course_kinds), (7, course_heights), (8, course_feet), (10, course_digits), (13, rule_codes), (15, rule_stackn5), (16, rule_thingsn6), (35, letters_fearsn7), (36, letters_tenthsn8), (37, letters_leastn9), (38, letters_spansn10)], [(4, numbers_toldn11)])) dX11_curve_27 ML_X11_216 Yv_X11_leastFear rfl zW_0 rfl rfl (t_X11_leastFear l _ hcl) (zsub_i (zle_c rfl (zle_c rfl (zle_c rfl (zle_c rfl zle_n)))) (zle_c rfl (zle_c rfl (zle_c rfl (zle_c rfl (zle_c rfl (zle_c rfl (zle_c rfl (zle_c rfl (zle_c rfl (zle_c rfl (zle_c rfl zle_n))))))))))) (zle_c rfl zle_n)) (zjok_i rfl rfl (zle_c rfl (zle_c rfl (zle_c rfl (zle_c rfl (zle_c rfl zle_n))))) rfl rfl (zle_c rfl (zle_c rfl (zle_c rfl (zle_c rfl (zle_c rfl (zle_c rfl (zle_c rfl (zle_c rfl (zle_c rfl (zle_c rfl (zle_c rfl zle_n))))))))))) rfl rfl (zle_c rfl zle_n)) (Nat.le_of_ble_eq_true rfl) (Nat.le_of_ble_eq_true rfl) rfl rfl ?_
        obtain ⟨rfl, rfl, rfl, rfl, rfl, rfl, rfl, rfl, rfl, rfl⟩ := so10 h
        exact zJ_iret dX11_curve_30 rfl rfl
      · replace h := it_f hc h
        refine zJ_iconst dX11_curve_22 zc_m1 rfl ?_
        obtain ⟨rfl, rfl, rfl, rfl, rfl, rfl, rfl, rfl, rfl, rfl⟩ := so10 h
        exact zJ_iret dX11_curve_23 rfl rfl
set_option maxRecDepth 100000 in
set_option maxHeartbeats 4000000 in
theorem t_X11_cuts (l : Launch) (σ : zS) {p1 : Int32} {p2 : Int32} {numbers_size : Int32} {course_fences : Int32} {course_horseCount : Int32} {course_planCount : Int32} {course_rule_size : Int32} {course_kinds : (Nat → Int32)} {course_heights : (Nat → Int32)} {course_feet : (Nat → Int32)} {course_digits : (Nat → Int32)} {course_plans : (Nat → Int32)} {rule_codes : (Nat → Int32)} {rule_stack : (Nat → Int32)} {rule_things : (Nat → Int32)} {numbers_told : (Nat → Int64)} {r : Int32} {w_numbers_size : Int32} {w_rule_stack : (Nat → Int32)} {w_rule_things : (Nat → Int32)} {w_numbers_told : (Nat → Int64)} (h : f_X11_cuts p1 p2 numbers_size course_fences course_horseCount course_planCount course_rule_size course_kinds course_heights course_feet course_digits course_plans rule_codes rule_stack rule_things numbers_told = some (r, w_numbers_size, w_rule_stack, w_rule_things, w_numbers_told)) : zMt l zW 4 mX11_cuts σ ([(193, numbers_size), (323, course_fences), (326, course_horseCount), (328, course_planCount), (769, course_rule_size)], [(6, course_kinds), (7, course_heights), (8, course_feet), (10, course_digits), (11, course_plans), (13, rule_codes), (15, rule_stack), (16, rule_things)], [(4, numbers_told)]) [.ref 0, .int p1, .int p2] (some (.int r)) ([(193, w_numbers_size), (323, course_fences), (326, course_horseCount), (328, course_planCount), (769, course_rule_size)], [(6, course_kinds), (7, course_heights), (8, course_feet), (10, course_digits), (11, course_plans), (13, rule_codes), (15, w_rule_stack), (16, w_rule_things)], [(4, w_numbers_told)]) := by
  refine zMt_of (ls := [(0, .ref 0), (1, .int p1), (2, .int p2)]) (by decide) rfl (fun _ => Nat.le_of_ble_eq_true rfl) rfl ?_
  unfold f_X11_cuts at h
  refine zJ_aload_n dX11_cuts_0 rfl rfl ?_
  refine zJ_getr (mi := mX11_cuts) dX11_cuts_1 F_X11_26 zW_0 rfl rfl ?_
  refine zJ_iload_n dX11_cuts_4 rfl rfl ?_
  obtain ⟨rn1, hcl, h⟩ := bd1_some h
  refine zJ_callV2 (σ := σ) (L := ([(193, numbers_size), (323, course_fences), (326, course_horseCount), (328, course_planCount), (769, course_rule_size)], [(6, course_kinds), (7, course_heights), (8, course_feet), (10, course_digits), (11, course_plans), (13, rule_codes), (15, rule_stack), (16, rule_things)], [(4, numbers_told)])) (mi := mX11_cuts) (yi := mX1_hasHorse) (as := [.int p1]) (st := []) (L2 := ([(193, numbers_size), (323, course_fences), (326, course_horseCount), (328, course_planCount), (769, course_rule_size)], [(6, course_kinds), (7, course_heights), (8, course_feet), (10, course_digits), (11, course_plans), (13, rule_codes), (15, rule_stack), (16, rule_things)], [(4, numbers_told)])) dX11_cuts_5 ML_X11_147 Yv_X1_hasHorse rfl zW_5 rfl rfl (t_X1_hasHorse l _ hcl) (zsub_i (zle_c rfl zle_n) zle_n zle_n) (zjok_i rfl rfl (zle_c rfl (zle_c rfl (zle_c rfl (zle_c rfl (zle_c rfl zle_n))))) rfl rfl (zle_c rfl (zle_c rfl (zle_c rfl (zle_c rfl (zle_c rfl (zle_c rfl (zle_c rfl (zle_c rfl zle_n)))))))) rfl rfl (zle_c rfl zle_n)) (Nat.le_of_ble_eq_true rfl) (Nat.le_of_ble_eq_true rfl) rfl rfl ?_
  refine zJ_if_eq (tgt := 22) dX11_cuts_8 (by decide) rfl (fun hc => ?_) (fun hc => ?_)
  · replace h := it_t hc h
    refine zJ_iconst dX11_cuts_22 zc_m1 rfl ?_
    obtain ⟨rfl, rfl, rfl, rfl, rfl⟩ := so5 h
    exact zJ_iret dX11_cuts_23 rfl rfl
  · replace h := it_f hc h
    refine zJ_aload_n dX11_cuts_11 rfl rfl ?_
    refine zJ_getr (mi := mX11_cuts) dX11_cuts_12 F_X11_26 zW_0 rfl rfl ?_
    refine zJ_iload_n dX11_cuts_15 rfl rfl ?_
    obtain ⟨rn2, hcl, h⟩ := bd1_some h
    refine zJ_callV2 (σ := σ) (L := ([(193, numbers_size), (323, course_fences), (326, course_horseCount), (328, course_planCount), (769, course_rule_size)], [(6, course_kinds), (7, course_heights), (8, course_feet), (10, course_digits), (11, course_plans), (13, rule_codes), (15, rule_stack), (16, rule_things)], [(4, numbers_told)])) (mi := mX11_cuts) (yi := mX1_hasPlan) (as := [.int p2]) (st := []) (L2 := ([(193, numbers_size), (323, course_fences), (326, course_horseCount), (328, course_planCount), (769, course_rule_size)], [(6, course_kinds), (7, course_heights), (8, course_feet), (10, course_digits), (11, course_plans), (13, rule_codes), (15, rule_stack), (16, rule_things)], [(4, numbers_told)])) dX11_cuts_16 ML_X11_191 Yv_X1_hasPlan rfl zW_5 rfl rfl (t_X1_hasPlan l _ hcl) (zsub_i (zle_c rfl zle_n) zle_n zle_n) (zjok_i rfl rfl (zle_c rfl (zle_c rfl (zle_c rfl (zle_c rfl (zle_c rfl zle_n))))) rfl rfl (zle_c rfl (zle_c rfl (zle_c rfl (zle_c rfl (zle_c rfl (zle_c rfl (zle_c rfl (zle_c rfl zle_n)))))))) rfl rfl (zle_c rfl zle_n)) (Nat.le_of_ble_eq_true rfl) (Nat.le_of_ble_eq_true rfl) rfl rfl ?_
    refine zJ_if_ne (tgt := 24) dX11_cuts_19 (by decide) rfl (fun hc => ?_) (fun hc => ?_)
    · replace h := it_f hc h
      refine zJ_iconst dX11_cuts_24 zc_m1 rfl ?_
      refine zJ_istore_n (ls' := [(3, .int (-1 : Int32)), (0, .ref 0), (1, .int p1), (2, .int p2)]) dX11_cuts_25 rfl rfl rfl ?_
      refine zJ_iconst dX11_cuts_26 zc_0 rfl ?_
      refine zJ_istore (ls' := [(4, .int (0 : Int32)), (3, .int (-1 : Int32)), (0, .ref 0), (1, .int p1), (2, .int p2)]) dX11_cuts_27 rfl rfl rfl ?_
      refine zJ_iconst dX11_cuts_29 zc_0 rfl ?_
      refine zJ_istore (ls' := [(5, .int (0 : Int32)), (4, .int (0 : Int32)), (3, .int (-1 : Int32)), (0, .ref 0), (1, .int p1), (2, .int p2)]) dX11_cuts_30 rfl rfl rfl ?_
      refine zJ_iconst dX11_cuts_32 zc_0 rfl ?_
      refine zJ_istore (ls' := [(6, .int (0 : Int32)), (5, .int (0 : Int32)), (4, .int (0 : Int32)), (3, .int (-1 : Int32)), (0, .ref 0), (1, .int p1), (2, .int p2)]) dX11_cuts_33 rfl rfl rfl ?_
      have hk35 : ∀ (v3_35x : Int32) (v4_35x : Int32) (v5_35x : Int32) (rule_stack_35x : (Nat → Int32)) (rule_things_35x : (Nat → Int32)), k_X11_cuts_35 numbers_size numbers_told v3_35x v4_35x v5_35x rule_stack_35x rule_things_35x = some (r, w_numbers_size, w_rule_stack, w_rule_things, w_numbers_told) → zJ l zW 4 mX11_cuts σ ([(193, numbers_size), (323, course_fences), (326, course_horseCount), (328, course_planCount), (769, course_rule_size)], [(6, course_kinds), (7, course_heights), (8, course_feet), (10, course_digits), (11, course_plans), (13, rule_codes), (15, rule_stack_35x), (16, rule_things_35x)], [(4, numbers_told)]) 171 [(0, .ref 0), (3, .int v3_35x), (4, .int v4_35x), (5, .int v5_35x)] [] (some (.int r)) ([(193, w_numbers_size), (323, course_fences), (326, course_horseCount), (328, course_planCount), (769, course_rule_size)], [(6, course_kinds), (7, course_heights), (8, course_feet), (10, course_digits), (11, course_plans), (13, rule_codes), (15, w_rule_stack), (16, w_rule_things)], [(4, w_numbers_told)]) := by
        intro v3_35x v4_35x v5_35x rule_stack_35x rule_things_35x h
        unfold k_X11_cuts_35 at h
        refine zJ_iload_n dX11_cuts_171 rfl rfl ?_
        refine zJ_iconst dX11_cuts_172 zc_m1 rfl ?_
        refine zJ_icmp_ne (tgt := 179) dX11_cuts_173 (by decide) rfl (fun hc => ?_) (fun hc => ?_)
        · replace h := it_f hc h
          refine zJ_aload_n dX11_cuts_179 rfl rfl ?_
          refine zJ_getr (mi := mX11_cuts) dX11_cuts_180 F_X11_19 zW_0 rfl rfl ?_
          obtain ⟨numbers_sizen3, hcl, h⟩ := bd1_some h
          refine zJ_callV2 (σ := σ) (L := ([(193, numbers_size), (323, course_fences), (326, course_horseCount), (328, course_planCount), (769, course_rule_size)], [(6, course_kinds), (7, course_heights), (8, course_feet), (10, course_digits), (11, course_plans), (13, rule_codes), (15, rule_stack_35x), (16, rule_things_35x)], [(4, numbers_told)])) (mi := mX11_cuts) (yi := mX6_start) (as := []) (st := []) (L2 := ([(193, numbers_sizen3), (323, course_fences), (326, course_horseCount), (328, course_planCount), (769, course_rule_size)], [(6, course_kinds), (7, course_heights), (8, course_feet), (10, course_digits), (11, course_plans), (13, rule_codes), (15, rule_stack_35x), (16, rule_things_35x)], [(4, numbers_told)])) dX11_cuts_183 ML_X11_171 Yv_X6_start rfl zW_3 rfl rfl (t_X6_start l _ hcl) (zsub_i (zle_c rfl zle_n) zle_n zle_n) (zjok_i rfl rfl (zle_c rfl (zle_c rfl (zle_c rfl (zle_c rfl (zle_c rfl zle_n))))) rfl rfl (zle_c rfl (zle_c rfl (zle_c rfl (zle_c rfl (zle_c rfl (zle_c rfl (zle_c rfl (zle_c rfl zle_n)))))))) rfl rfl (zle_c rfl zle_n)) (Nat.le_of_ble_eq_true rfl) (Nat.le_of_ble_eq_true rfl) rfl rfl ?_
          refine zJ_aload_n dX11_cuts_186 rfl rfl ?_
          refine zJ_getr (mi := mX11_cuts) dX11_cuts_187 F_X11_19 zW_0 rfl rfl ?_
          refine zJ_iload dX11_cuts_190 rfl rfl ?_
          refine zJ_i2l dX11_cuts_192 rfl ?_
          obtain ⟨numbers_sizen4, numbers_toldn5, hcl, h⟩ := bd2_some h
          refine zJ_callV2 (σ := σ) (L := ([(193, numbers_sizen3), (323, course_fences), (326, course_horseCount), (328, course_planCount), (769, course_rule_size)], [(6, course_kinds), (7, course_heights), (8, course_feet), (10, course_digits), (11, course_plans), (13, rule_codes), (15, rule_stack_35x), (16, rule_things_35x)], [(4, numbers_told)])) (mi := mX11_cuts) (yi := mX6_put) (as := [.long v4_35x.toInt64]) (st := []) (L2 := ([(193, numbers_sizen4), (323, course_fences), (326, course_horseCount), (328, course_planCount), (769, course_rule_size)], [(6, course_kinds), (7, course_heights), (8, course_feet), (10, course_digits), (11, course_plans), (13, rule_codes), (15, rule_stack_35x), (16, rule_things_35x)], [(4, numbers_toldn5)])) dX11_cuts_193 ML_X11_177 Yv_X6_put rfl zW_3 rfl rfl (t_X6_put l _ hcl) (zsub_i (zle_c rfl zle_n) zle_n (zle_c rfl zle_n)) (zjok_i rfl rfl (zle_c rfl (zle_c rfl (zle_c rfl (zle_c rfl (zle_c rfl zle_n))))) rfl rfl (zle_c rfl (zle_c rfl (zle_c rfl (zle_c rfl (zle_c rfl (zle_c rfl (zle_c rfl (zle_c rfl zle_n)))))))) rfl rfl (zle_c rfl zle_n)) (Nat.le_of_ble_eq_true rfl) (Nat.le_of_ble_eq_true rfl) rfl rfl ?_
          refine zJ_aload_n dX11_cuts_196 rfl rfl ?_
          refine zJ_getr (mi := mX11_cuts) dX11_cuts_197 F_X11_19 zW_0 rfl rfl ?_
          refine zJ_iload dX11_cuts_200 rfl rfl ?_
          refine zJ_i2l dX11_cuts_202 rfl ?_
          obtain ⟨numbers_sizen6, numbers_toldn7, hcl, h⟩ := bd2_some h
          refine zJ_callV2 (σ := σ) (L := ([(193, numbers_sizen4), (323, course_fences), (326, course_horseCount), (328, course_planCount), (769, course_rule_size)], [(6, course_kinds), (7, course_heights), (8, course_feet), (10, course_digits), (11, course_plans), (13, rule_codes), (15, rule_stack_35x), (16, rule_things_35x)], [(4, numbers_toldn5)])) (mi := mX11_cuts) (yi := mX6_put) (as := [.long v5_35x.toInt64]) (st := []) (L2 := ([(193, numbers_sizen6), (323, course_fences), (326, course_horseCount), (328, course_planCount), (769, course_rule_size)], [(6, course_kinds), (7, course_heights), (8, course_feet), (10, course_digits), (11, course_plans), (13, rule_codes), (15, rule_stack_35x), (16, rule_things_35x)], [(4, numbers_toldn7)])) dX11_cuts_203 ML_X11_177 Yv_X6_put rfl zW_3 rfl rfl (t_X6_put l _ hcl) (zsub_i (zle_c rfl zle_n) zle_n (zle_c rfl zle_n)) (zjok_i rfl rfl (zle_c rfl (zle_c rfl (zle_c rfl (zle_c rfl (zle_c rfl zle_n))))) rfl rfl (zle_c rfl (zle_c rfl (zle_c rfl (zle_c rfl (zle_c rfl (zle_c rfl (zle_c rfl (zle_c rfl zle_n)))))))) rfl rfl (zle_c rfl zle_n)) (Nat.le_of_ble_eq_true rfl) (Nat.le_of_ble_eq_true rfl) rfl rfl ?_
          refine zJ_iload_n dX11_cuts_206 rfl rfl ?_
          obtain ⟨rfl, rfl, rfl, rfl, rfl⟩ := so5 h
          exact zJ_iret dX11_cuts_207 rfl rfl
        · replace h := it_t hc h
          refine zJ_bipush dX11_cuts_176 zb_m2 rfl ?_
          obtain ⟨rfl, rfl, rfl, rfl, rfl⟩ := so5 h
          exact zJ_iret dX11_cuts_178 rfl rfl
      refine zJ_loc (ls' := [(0, .ref 0), (1, .int p1), (2, .int p2), (3, .int (-1 : Int32)), (4, .int (0 : Int32)), (5, .int (0 : Int32)), (6, .int (0 : Int32))]) (zll_c rfl (zll_c rfl (zll_c rfl (zll_c rfl (zll_c rfl (zll_c rfl (zll_c rfl zll_n))))))) ?_
      refine ml6_J (fun (v3_35 : Int32) (v4_35 : Int32) (v5_35 : Int32) (v6_35 : Int32) (rule_stack_35 : (Nat → Int32)) (rule_things_35 : (Nat → Int32)) => zJ l zW 4 mX11_cuts σ ([(193, numbers_size), (323, course_fences), (326, course_horseCount), (328, course_planCount), (769, course_rule_size)], [(6, course_kinds), (7, course_heights), (8, course_feet), (10, course_digits), (11, course_plans), (13, rule_codes), (15, rule_stack_35), (16, rule_things_35)], [(4, numbers_told)]) 35 [(0, .ref 0), (1, .int p1), (2, .int p2), (3, .int v3_35), (4, .int v4_35), (5, .int v5_35), (6, .int v6_35)] [] (some (.int r)) ([(193, w_numbers_size), (323, course_fences), (326, course_horseCount), (328, course_planCount), (769, course_rule_size)], [(6, course_kinds), (7, course_heights), (8, course_feet), (10, course_digits), (11, course_plans), (13, rule_codes), (15, w_rule_stack), (16, w_rule_things)], [(4, w_numbers_told)])) (fun rc35 hrc35 v3_35 v4_35 v5_35 v6_35 rule_stack_35 rule_things_35 h => ?_) zN _ _ _ _ _ _ h
      unfold s_X11_cuts_35 at h
      refine zJ_iload dX11_cuts_35 rfl rfl ?_
      refine zJ_aload_n dX11_cuts_37 rfl rfl ?_
      refine zJ_getr (mi := mX11_cuts) dX11_cuts_38 F_X11_26 zW_0 rfl rfl ?_
      refine zJ_geti (mi := mX11_cuts) (x := course_fences) dX11_cuts_41 F_X11_157 zW_5 rfl rfl rfl ?_
      refine zJ_icmp_ge (tgt := 171) dX11_cuts_44 (by decide) rfl (fun hc => ?_) (fun hc => ?_)
      · replace h := it_t hc h
        refine zJ_loc (ls' := [(0, .ref 0), (3, .int v3_35), (4, .int v4_35), (5, .int v5_35)]) (zll_c rfl (zll_c rfl (zll_c rfl (zll_c rfl zll_n)))) ?_
        exact hk35 _ _ _ _ _ h
      · replace h := it_f hc h
        refine zJ_aload_n dX11_cuts_47 rfl rfl ?_
        refine zJ_getr (mi := mX11_cuts) dX11_cuts_48 F_X11_26 zW_0 rfl rfl ?_
        refine zJ_iload_n dX11_cuts_51 rfl rfl ?_
        refine zJ_iload dX11_cuts_52 rfl rfl ?_
        obtain ⟨rn8, hcl, h⟩ := bd1_some h
        refine zJ_callV2 (σ := σ) (L := ([(193, numbers_size), (323, course_fences), (326, course_horseCount), (328, course_planCount), (769, course_rule_size)], [(6, course_kinds), (7, course_heights), (8, course_feet), (10, course_digits), (11, course_plans), (13, rule_codes), (15, rule_stack_35), (16, rule_things_35)], [(4, numbers_told)])) (mi := mX11_cuts) (yi := mX1_letterAt) (as := [.int p2, .int v6_35]) (st := []) (L2 := ([(193, numbers_size), (323, course_fences), (326, course_horseCount), (328, course_planCount), (769, course_rule_size)], [(6, course_kinds), (7, course_heights), (8, course_feet), (10, course_digits), (11, course_plans), (13, rule_codes), (15, rule_stack_35), (16, rule_things_35)], [(4, numbers_told)])) dX11_cuts_54 ML_X11_194 Yv_X1_letterAt rfl zW_5 rfl rfl (t_X1_letterAt l _ hcl) (zsub_i zle_n (zle_c rfl zle_n) zle_n) (zjok_i rfl rfl (zle_c rfl (zle_c rfl (zle_c rfl (zle_c rfl (zle_c rfl zle_n))))) rfl rfl (zle_c rfl (zle_c rfl (zle_c rfl (zle_c rfl (zle_c rfl (zle_c rfl (zle_c rfl (zle_c rfl zle_n)))))))) rfl rfl (zle_c rfl zle_n)) (Nat.le_of_ble_eq_true rfl) (Nat.le_of_ble_eq_true rfl) rfl rfl ?_
        refine zJ_istore (ls' := [(7, .int rn8), (0, .ref 0), (1, .int p1), (2, .int p2), (3, .int v3_35), (4, .int v4_35), (5, .int v5_35), (6, .int v6_35)]) dX11_cuts_57 rfl rfl rfl ?_
        refine zJ_iload dX11_cuts_59 rfl rfl ?_
        obtain ⟨rn9, hcl, h⟩ := bd1_some h
        refine zJ_callS2 (σ := σ) (L := ([(193, numbers_size), (323, course_fences), (326, course_horseCount), (328, course_planCount), (769, course_rule_size)], [(6, course_kinds), (7, course_heights), (8, course_feet), (10, course_digits), (11, course_plans), (13, rule_codes), (15, rule_stack_35), (16, rule_things_35)], [(4, numbers_told)])) (mi := mX11_cuts) (yi := mX1_isCut) (as := [.int rn8]) (st := []) (L2 := ([(193, numbers_size), (323, course_fences), (326, course_horseCount), (328, course_planCount), (769, course_rule_size)], [(6, course_kinds), (7, course_heights), (8, course_feet), (10, course_digits), (11, course_plans), (13, rule_codes), (15, rule_stack_35), (16, rule_things_35)], [(4, numbers_told)])) dX11_cuts_61 ML_X11_213 Ys_X1_isCut rfl (t_X1_isCut l _ hcl) (zsub_i zle_n zle_n zle_n) (zjok_i rfl rfl (zle_c rfl (zle_c rfl (zle_c rfl (zle_c rfl (zle_c rfl zle_n))))) rfl rfl (zle_c rfl (zle_c rfl (zle_c rfl (zle_c rfl (zle_c rfl (zle_c rfl (zle_c rfl (zle_c rfl zle_n)))))))) rfl rfl (zle_c rfl zle_n)) (Nat.le_of_ble_eq_true rfl) (Nat.le_of_ble_eq_true rfl) rfl rfl ?_
        refine zJ_if_eq (tgt := 70) dX11_cuts_64 (by decide) rfl (fun hc => ?_) (fun hc => ?_)
        · replace h := it_t hc h
          refine zJ_iload dX11_cuts_70 rfl rfl ?_
          refine zJ_iconst dX11_cuts_72 zc_4 rfl ?_
          refine zJ_iadd dX11_cuts_73 rfl ?_
          obtain ⟨v8n10, ev8n10, h⟩ := lt1_some h
          refine zJ_nmi ev8n10 ?_
          refine zJ_istore (ls' := [(8, .int v8n10), (7, .int rn8), (0, .ref 0), (1, .int p1), (2, .int p2), (3, .int v3_35), (4, .int v4_35), (5, .int v5_35), (6, .int v6_35)]) dX11_cuts_74 rfl rfl rfl ?_
          refine zJ_aload_n dX11_cuts_76 rfl rfl ?_
          refine zJ_getr (mi := mX11_cuts) dX11_cuts_77 F_X11_26 zW_0 rfl rfl ?_
          refine zJ_iload_n dX11_cuts_80 rfl rfl ?_
          refine zJ_iload dX11_cuts_81 rfl rfl ?_
          refine zJ_iload dX11_cuts_83 rfl rfl ?_
          obtain ⟨rn11, rule_stackn12, rule_thingsn13, hcl, h⟩ := bd3_some h
          refine zJ_callV2 (σ := σ) (L := ([(193, numbers_size), (323, course_fences), (326, course_horseCount), (328, course_planCount), (769, course_rule_size)], [(6, course_kinds), (7, course_heights), (8, course_feet), (10, course_digits), (11, course_plans), (13, rule_codes), (15, rule_stack_35), (16, rule_things_35)], [(4, numbers_told)])) (mi := mX11_cuts) (yi := mX1_poleOdds) (as := [.int p1, .int v6_35, .int v8n10]) (st := []) (L2 := ([(193, numbers_size), (323, course_fences), (326, course_horseCount), (328, course_planCount), (769, course_rule_size)], [(6, course_kinds), (7, course_heights), (8, course_feet), (10, course_digits), (11, course_plans), (13, rule_codes), (15, rule_stackn12), (16, rule_thingsn13)], [(4, numbers_told)])) dX11_cuts_85 ML_X11_187 Yv_X1_poleOdds rfl zW_5 rfl rfl (t_X1_poleOdds l _ hcl) (zsub_i (zle_c rfl zle_n) (zle_c rfl (zle_c rfl (zle_c rfl (zle_c rfl (zle_c rfl (zle_c rfl (zle_c rfl zle_n))))))) zle_n) (zjok_i rfl rfl (zle_c rfl (zle_c rfl (zle_c rfl (zle_c rfl (zle_c rfl zle_n))))) rfl rfl (zle_c rfl (zle_c rfl (zle_c rfl (zle_c rfl (zle_c rfl (zle_c rfl (zle_c rfl (zle_c rfl zle_n)))))))) rfl rfl (zle_c rfl zle_n)) (Nat.le_of_ble_eq_true rfl) (Nat.le_of_ble_eq_true rfl) rfl rfl ?_
          refine zJ_aload_n dX11_cuts_88 rfl rfl ?_
          refine zJ_getr (mi := mX11_cuts) dX11_cuts_89 F_X11_26 zW_0 rfl rfl ?_
          refine zJ_iload_n dX11_cuts_92 rfl rfl ?_
          refine zJ_iload dX11_cuts_93 rfl rfl ?_
          refine zJ_iload dX11_cuts_95 rfl rfl ?_
          obtain ⟨rn14, rule_stackn15, rule_thingsn16, hcl, h⟩ := bd3_some h
          refine zJ_callV2 (σ := σ) (L := ([(193, numbers_size), (323, course_fences), (326, course_horseCount), (328, course_planCount), (769, course_rule_size)], [(6, course_kinds), (7, course_heights), (8, course_feet), (10, course_digits), (11, course_plans), (13, rule_codes), (15, rule_stackn12), (16, rule_thingsn13)], [(4, numbers_told)])) (mi := mX11_cuts) (yi := mX1_poleOdds) (as := [.int p1, .int v6_35, .int rn8]) (st := [.int rn11]) (L2 := ([(193, numbers_size), (323, course_fences), (326, course_horseCount), (328, course_planCount), (769, course_rule_size)], [(6, course_kinds), (7, course_heights), (8, course_feet), (10, course_digits), (11, course_plans), (13, rule_codes), (15, rule_stackn15), (16, rule_thingsn16)], [(4, numbers_told)])) dX11_cuts_97 ML_X11_187 Yv_X1_poleOdds rfl zW_5 rfl rfl (t_X1_poleOdds l _ hcl) (zsub_i (zle_c rfl zle_n) (zle_c rfl (zle_c rfl (zle_c rfl (zle_c rfl (zle_c rfl (zle_c rfl (zle_c rfl zle_n))))))) zle_n) (zjok_i rfl rfl (zle_c rfl (zle_c rfl (zle_c rfl (zle_c rfl (zle_c rfl zle_n))))) rfl rfl (zle_c rfl (zle_c rfl (zle_c rfl (zle_c rfl (zle_c rfl (zle_c rfl (zle_c rfl (zle_c rfl zle_n)))))))) rfl rfl (zle_c rfl zle_n)) (Nat.le_of_ble_eq_true rfl) (Nat.le_of_ble_eq_true rfl) rfl rfl ?_
          refine zJ_isub dX11_cuts_100 rfl ?_
          obtain ⟨v9n17, ev9n17, h⟩ := lt1_some h
          refine zJ_nmi ev9n17 ?_
          refine zJ_istore (ls' := [(9, .int v9n17), (8, .int v8n10), (7, .int rn8), (0, .ref 0), (1, .int p1), (2, .int p2), (3, .int v3_35), (4, .int v4_35), (5, .int v5_35), (6, .int v6_35)]) dX11_cuts_101 rfl rfl rfl ?_
          refine zJ_aload_n dX11_cuts_103 rfl rfl ?_
          refine zJ_getr (mi := mX11_cuts) dX11_cuts_104 F_X11_26 zW_0 rfl rfl ?_
          refine zJ_iload dX11_cuts_107 rfl rfl ?_
          refine zJ_iload dX11_cuts_109 rfl rfl ?_
          obtain ⟨rn18, hcl, h⟩ := bd1_some h
          refine zJ_callV2 (σ := σ) (L := ([(193, numbers_size), (323, course_fences), (326, course_horseCount), (328, course_planCount), (769, course_rule_size)], [(6, course_kinds), (7, course_heights), (8, course_feet), (10, course_digits), (11, course_plans), (13, rule_codes), (15, rule_stackn15), (16, rule_thingsn16)], [(4, numbers_told)])) (mi := mX11_cuts) (yi := mX1_fenceTenths) (as := [.int v6_35, .int rn8]) (st := []) (L2 := ([(193, numbers_size), (323, course_fences), (326, course_horseCount), (328, course_planCount), (769, course_rule_size)], [(6, course_kinds), (7, course_heights), (8, course_feet), (10, course_digits), (11, course_plans), (13, rule_codes), (15, rule_stackn15), (16, rule_thingsn16)], [(4, numbers_told)])) dX11_cuts_111 ML_X11_181 Yv_X1_fenceTenths rfl zW_5 rfl rfl (t_X1_fenceTenths l _ hcl) (zsub_i zle_n (zle_c rfl (zle_c rfl zle_n)) zle_n) (zjok_i rfl rfl (zle_c rfl (zle_c rfl (zle_c rfl (zle_c rfl (zle_c rfl zle_n))))) rfl rfl (zle_c rfl (zle_c rfl (zle_c rfl (zle_c rfl (zle_c rfl (zle_c rfl (zle_c rfl (zle_c rfl zle_n)))))))) rfl rfl (zle_c rfl zle_n)) (Nat.le_of_ble_eq_true rfl) (Nat.le_of_ble_eq_true rfl) rfl rfl ?_
          refine zJ_aload_n dX11_cuts_114 rfl rfl ?_
          refine zJ_getr (mi := mX11_cuts) dX11_cuts_115 F_X11_26 zW_0 rfl rfl ?_
          refine zJ_iload dX11_cuts_118 rfl rfl ?_
          refine zJ_iload dX11_cuts_120 rfl rfl ?_
          obtain ⟨rn19, hcl, h⟩ := bd1_some h
          refine zJ_callV2 (σ := σ) (L := ([(193, numbers_size), (323, course_fences), (326, course_horseCount), (328, course_planCount), (769, course_rule_size)], [(6, course_kinds), (7, course_heights), (8, course_feet), (10, course_digits), (11, course_plans), (13, rule_codes), (15, rule_stackn15), (16, rule_thingsn16)], [(4, numbers_told)])) (mi := mX11_cuts) (yi := mX1_fenceTenths) (as := [.int v6_35, .int v8n10]) (st := [.int rn18]) (L2 := ([(193, numbers_size), (323, course_fences), (326, course_horseCount), (328, course_planCount), (769, course_rule_size)], [(6, course_kinds), (7, course_heights), (8, course_feet), (10, course_digits), (11, course_plans), (13, rule_codes), (15, rule_stackn15), (16, rule_thingsn16)], [(4, numbers_told)])) dX11_cuts_122 ML_X11_181 Yv_X1_fenceTenths rfl zW_5 rfl rfl (t_X1_fenceTenths l _ hcl) (zsub_i zle_n (zle_c rfl (zle_c rfl zle_n)) zle_n) (zjok_i rfl rfl (zle_c rfl (zle_c rfl (zle_c rfl (zle_c rfl (zle_c rfl zle_n))))) rfl rfl (zle_c rfl (zle_c rfl (zle_c rfl (zle_c rfl (zle_c rfl (zle_c rfl (zle_c rfl (zle_c rfl zle_n)))))))) rfl rfl (zle_c rfl zle_n)) (Nat.le_of_ble_eq_true rfl) (Nat.le_of_ble_eq_true rfl) rfl rfl ?_
          refine zJ_isub dX11_cuts_125 rfl ?_
          obtain ⟨v10n20, ev10n20, h⟩ := lt1_some h
          refine zJ_nmi ev10n20 ?_
          refine zJ_istore (ls' := [(10, .int v10n20), (9, .int v9n17), (8, .int v8n10), (7, .int rn8), (0, .ref 0), (1, .int p1), (2, .int p2), (3, .int v3_35), (4, .int v4_35), (5, .int v5_35), (6, .int v6_35)]) dX11_cuts_126 rfl rfl rfl ?_
          refine zJ_iload_n dX11_cuts_128 rfl rfl ?_
          refine zJ_iconst dX11_cuts_129 zc_m1 rfl ?_
          refine zJ_icmp_eq (tgt := 154) dX11_cuts_130 (by decide) rfl (fun hc => ?_) (fun hc => ?_)
          · replace h := it_t hc h
            refine zJ_iload dX11_cuts_154 rfl rfl ?_
            refine zJ_istore_n (ls' := [(3, .int v6_35), (10, .int v10n20), (9, .int v9n17), (8, .int v8n10), (7, .int rn8), (0, .ref 0), (1, .int p1), (2, .int p2), (4, .int v4_35), (5, .int v5_35), (6, .int v6_35)]) dX11_cuts_156 rfl rfl rfl ?_
            refine zJ_iload dX11_cuts_157 rfl rfl ?_
            refine zJ_istore (ls' := [(4, .int v9n17), (3, .int v6_35), (10, .int v10n20), (9, .int v9n17), (8, .int v8n10), (7, .int rn8), (0, .ref 0), (1, .int p1), (2, .int p2), (5, .int v5_35), (6, .int v6_35)]) dX11_cuts_159 rfl rfl rfl ?_
            refine zJ_iload dX11_cuts_161 rfl rfl ?_
            refine zJ_istore (ls' := [(5, .int v10n20), (4, .int v9n17), (3, .int v6_35), (10, .int v10n20), (9, .int v9n17), (8, .int v8n10), (7, .int rn8), (0, .ref 0), (1, .int p1), (2, .int p2), (6, .int v6_35)]) dX11_cuts_163 rfl rfl rfl ?_
            obtain ⟨v6n21, ev6n21, h⟩ := lt1_some h
            refine zJ_iincN (ls' := [(6, .int v6n21), (5, .int v10n20), (4, .int v9n17), (3, .int v6_35), (10, .int v10n20), (9, .int v9n17), (8, .int v8n10), (7, .int rn8), (0, .ref 0), (1, .int p1), (2, .int p2)]) dX11_cuts_165 rfl rfl zc_1 ev6n21 rfl rfl ?_
            refine zJ_goto (tgt := 35) dX11_cuts_168 (by decide) ?_
            refine zJ_loc (ls' := [(0, .ref 0), (1, .int p1), (2, .int p2), (3, .int v6_35), (4, .int v9n17), (5, .int v10n20), (6, .int v6n21)]) (zll_c rfl (zll_c rfl (zll_c rfl (zll_c rfl (zll_c rfl (zll_c rfl (zll_c rfl zll_n))))))) ?_
            exact hrc35 _ _ _ _ _ _ h
          · replace h := it_f hc h
            refine zJ_iload dX11_cuts_133 rfl rfl ?_
            refine zJ_iload dX11_cuts_135 rfl rfl ?_
            refine zJ_icmp_lt (tgt := 154) dX11_cuts_137 (by decide) rfl (fun hc => ?_) (fun hc => ?_)
            · replace h := it_t hc h
              refine zJ_iload dX11_cuts_154 rfl rfl ?_
              refine zJ_istore_n (ls' := [(3, .int v6_35), (10, .int v10n20), (9, .int v9n17), (8, .int v8n10), (7, .int rn8), (0, .ref 0), (1, .int p1), (2, .int p2), (4, .int v4_35), (5, .int v5_35), (6, .int v6_35)]) dX11_cuts_156 rfl rfl rfl ?_
              refine zJ_iload dX11_cuts_157 rfl rfl ?_
              refine zJ_istore (ls' := [(4, .int v9n17), (3, .int v6_35), (10, .int v10n20), (9, .int v9n17), (8, .int v8n10), (7, .int rn8), (0, .ref 0), (1, .int p1), (2, .int p2), (5, .int v5_35), (6, .int v6_35)]) dX11_cuts_159 rfl rfl rfl ?_
              refine zJ_iload dX11_cuts_161 rfl rfl ?_
              refine zJ_istore (ls' := [(5, .int v10n20), (4, .int v9n17), (3, .int v6_35), (10, .int v10n20), (9, .int v9n17), (8, .int v8n10), (7, .int rn8), (0, .ref 0), (1, .int p1), (2, .int p2), (6, .int v6_35)]) dX11_cuts_163 rfl rfl rfl ?_
              obtain ⟨v6n22, ev6n22, h⟩ := lt1_some h
              refine zJ_iincN (ls' := [(6, .int v6n22), (5, .int v10n20), (4, .int v9n17), (3, .int v6_35), (10, .int v10n20), (9, .int v9n17), (8, .int v8n10), (7, .int rn8), (0, .ref 0), (1, .int p1), (2, .int p2)]) dX11_cuts_165 rfl rfl zc_1 ev6n22 rfl rfl ?_
              refine zJ_goto (tgt := 35) dX11_cuts_168 (by decide) ?_
              refine zJ_loc (ls' := [(0, .ref 0), (1, .int p1), (2, .int p2), (3, .int v6_35), (4, .int v9n17), (5, .int v10n20), (6, .int v6n22)]) (zll_c rfl (zll_c rfl (zll_c rfl (zll_c rfl (zll_c rfl (zll_c rfl (zll_c rfl zll_n))))))) ?_
              exact hrc35 _ _ _ _ _ _ h
            · replace h := it_f hc h
              refine zJ_iload dX11_cuts_140 rfl rfl ?_
              refine zJ_iload dX11_cuts_142 rfl rfl ?_
              refine zJ_icmp_ne (tgt := 165) dX11_cuts_144 (by decide) rfl (fun hc => ?_) (fun hc => ?_)
              · replace h := it_f hc h
                obtain ⟨v6n23, ev6n23, h⟩ := lt1_some h
                refine zJ_iincN (ls' := [(6, .int v6n23), (10, .int v10n20), (9, .int v9n17), (8, .int v8n10), (7, .int rn8), (0, .ref 0), (1, .int p1), (2, .int p2), (3, .int v3_35), (4, .int v4_35), (5, .int v5_35)]) dX11_cuts_165 rfl rfl zc_1 ev6n23 rfl rfl ?_
                refine zJ_goto (tgt := 35) dX11_cuts_168 (by decide) ?_
                refine zJ_loc (ls' := [(0, .ref 0), (1, .int p1), (2, .int p2), (3, .int v3_35), (4, .int v4_35), (5, .int v5_35), (6, .int v6n23)]) (zll_c rfl (zll_c rfl (zll_c rfl (zll_c rfl (zll_c rfl (zll_c rfl (zll_c rfl zll_n))))))) ?_
                exact hrc35 _ _ _ _ _ _ h
              · replace h := it_t hc h
                refine zJ_iload dX11_cuts_147 rfl rfl ?_
                refine zJ_iload dX11_cuts_149 rfl rfl ?_
                refine zJ_icmp_le (tgt := 165) dX11_cuts_151 (by decide) rfl (fun hc => ?_) (fun hc => ?_)
                · replace h := it_t hc h
                  obtain ⟨v6n24, ev6n24, h⟩ := lt1_some h
                  refine zJ_iincN (ls' := [(6, .int v6n24), (10, .int v10n20), (9, .int v9n17), (8, .int v8n10), (7, .int rn8), (0, .ref 0), (1, .int p1), (2, .int p2), (3, .int v3_35), (4, .int v4_35), (5, .int v5_35)]) dX11_cuts_165 rfl rfl zc_1 ev6n24 rfl rfl ?_
                  refine zJ_goto (tgt := 35) dX11_cuts_168 (by decide) ?_
                  refine zJ_loc (ls' := [(0, .ref 0), (1, .int p1), (2, .int p2), (3, .int v3_35), (4, .int v4_35), (5, .int v5_35), (6, .int v6n24)]) (zll_c rfl (zll_c rfl (zll_c rfl (zll_c rfl (zll_c rfl (zll_c rfl (zll_c rfl zll_n))))))) ?_
                  exact hrc35 _ _ _ _ _ _ h
                · replace h := it_f hc h
                  refine zJ_iload dX11_cuts_154 rfl rfl ?_
                  refine zJ_istore_n (ls' := [(3, .int v6_35), (10, .int v10n20), (9, .int v9n17), (8, .int v8n10), (7, .int rn8), (0, .ref 0), (1, .int p1), (2, .int p2), (4, .int v4_35), (5, .int v5_35), (6, .int v6_35)]) dX11_cuts_156 rfl rfl rfl ?_
                  refine zJ_iload dX11_cuts_157 rfl rfl ?_
                  refine zJ_istore (ls' := [(4, .int v9n17), (3, .int v6_35), (10, .int v10n20), (9, .int v9n17), (8, .int v8n10), (7, .int rn8), (0, .ref 0), (1, .int p1), (2, .int p2), (5, .int v5_35), (6, .int v6_35)]) dX11_cuts_159 rfl rfl rfl ?_
                  refine zJ_iload dX11_cuts_161 rfl rfl ?_
                  refine zJ_istore (ls' := [(5, .int v10n20), (4, .int v9n17), (3, .int v6_35), (10, .int v10n20), (9, .int v9n17), (8, .int v8n10), (7, .int rn8), (0, .ref 0), (1, .int p1), (2, .int p2), (6, .int v6_35)]) dX11_cuts_163 rfl rfl rfl ?_
                  obtain ⟨v6n25, ev6n25, h⟩ := lt1_some h
                  refine zJ_iincN (ls' := [(6, .int v6n25), (5, .int v10n20), (4, .int v9n17), (3, .int v6_35), (10, .int v10n20), (9, .int v9n17), (8, .int v8n10), (7, .int rn8), (0, .ref 0), (1, .int p1), (2, .int p2)]) dX11_cuts_165 rfl rfl zc_1 ev6n25 rfl rfl ?_
                  refine zJ_goto (tgt := 35) dX11_cuts_168 (by decide) ?_
                  refine zJ_loc (ls' := [(0, .ref 0), (1, .int p1), (2, .int p2), (3, .int v6_35), (4, .int v9n17), (5, .int v10n20), (6, .int v6n25)]) (zll_c rfl (zll_c rfl (zll_c rfl (zll_c rfl (zll_c rfl (zll_c rfl (zll_c rfl zll_n))))))) ?_
                  exact hrc35 _ _ _ _ _ _ h
        · replace h := it_f hc h
          refine zJ_goto (tgt := 165) dX11_cuts_67 (by decide) ?_
          obtain ⟨v6n26, ev6n26, h⟩ := lt1_some h
          refine zJ_iincN (ls' := [(6, .int v6n26), (7, .int rn8), (0, .ref 0), (1, .int p1), (2, .int p2), (3, .int v3_35), (4, .int v4_35), (5, .int v5_35)]) dX11_cuts_165 rfl rfl zc_1 ev6n26 rfl rfl ?_
          refine zJ_goto (tgt := 35) dX11_cuts_168 (by decide) ?_
          refine zJ_loc (ls' := [(0, .ref 0), (1, .int p1), (2, .int p2), (3, .int v3_35), (4, .int v4_35), (5, .int v5_35), (6, .int v6n26)]) (zll_c rfl (zll_c rfl (zll_c rfl (zll_c rfl (zll_c rfl (zll_c rfl (zll_c rfl zll_n))))))) ?_
          exact hrc35 _ _ _ _ _ _ h
    · replace h := it_t hc h
      refine zJ_iconst dX11_cuts_22 zc_m1 rfl ?_
      obtain ⟨rfl, rfl, rfl, rfl, rfl⟩ := so5 h
      exact zJ_iret dX11_cuts_23 rfl rfl
set_option maxRecDepth 100000 in
set_option maxHeartbeats 4000000 in
theorem t_X9_cut (l : Launch) (σ : zS) {p1 : Int32} {text_size : Int32} {r : Int32} {w_text_size : Int32} (h : f_X9_cut p1 text_size = some (r, w_text_size)) : zMt l zW 0 mX9_cut σ ([(65, text_size)], [], []) [.ref 1, .int p1] (some (.int r)) ([(65, w_text_size)], [], []) := by
  refine zMt_of (ls := [(0, .ref 1), (1, .int p1)]) (by decide) rfl (fun _ => Nat.le_of_ble_eq_true rfl) rfl ?_
  unfold f_X9_cut at h
  refine zJ_iload_n dX9_cut_0 rfl rfl ?_
  refine zJ_if_lt (tgt := 12) dX9_cut_1 (by decide) rfl (fun hc => ?_) (fun hc => ?_)
  · replace h := it_t hc h
    refine zJ_iconst dX9_cut_12 zc_0 rfl ?_
    obtain ⟨rfl, rfl⟩ := so2 h
    exact zJ_iret dX9_cut_13 rfl (by decide)
  · replace h := it_f hc h
    refine zJ_iload_n dX9_cut_4 rfl rfl ?_
    refine zJ_aload_n dX9_cut_5 rfl rfl ?_
    refine zJ_geti (mi := mX9_cut) (x := text_size) dX9_cut_6 F_X9_15 zW_1 rfl rfl rfl ?_
    refine zJ_icmp_le (tgt := 14) dX9_cut_9 (by decide) rfl (fun hc => ?_) (fun hc => ?_)
    · replace h := it_t hc h
      refine zJ_aload_n dX9_cut_14 rfl rfl ?_
      refine zJ_iload_n dX9_cut_15 rfl rfl ?_
      refine zK_puti (mi := mX9_cut) (la' := [(65, p1)]) zW_ok dX9_cut_16 F_X9_15 P_9_1 zW_1 rfl rfl rfl ?_
      refine zJ_iconst dX9_cut_19 zc_1 rfl ?_
      obtain ⟨rfl, rfl⟩ := so2 h
      exact zJ_iret dX9_cut_20 rfl (by decide)
    · replace h := it_f hc h
      refine zJ_iconst dX9_cut_12 zc_0 rfl ?_
      obtain ⟨rfl, rfl⟩ := so2 h
      exact zJ_iret dX9_cut_13 rfl (by decide)
set_option maxRecDepth 100000 in
set_option maxHeartbeats 4000000 in
theorem t_X11_end (l : Launch) (σ : zS) {p1 : Int32} {text_size : Int32} {r : Int32} {w_text_size : Int32} (h : f_X11_end p1 text_size = some (r, w_text_size)) : zMt l zW 1 mX11_end σ ([(65, text_size)], [], []) [.ref 0, .int p1] (some (.int r)) ([(65, w_text_size)], [], []) := by
  refine zMt_of (ls := [(0, .ref 0), (1, .int p1)]) (by decide) rfl (fun _ => Nat.le_of_ble_eq_true rfl) rfl ?_
  unfold f_X11_end at h
  refine zJ_aload_n dX11_end_0 rfl rfl ?_
  refine zJ_getr (mi := mX11_end) dX11_end_1 F_X11_10 zW_0 rfl rfl ?_
  refine zJ_iload_n dX11_end_4 rfl rfl ?_
  obtain ⟨rn1, text_sizen2, hcl, h⟩ := bd2_some h
  refine zJ_callV2 (σ := σ) (L := ([(65, text_size)], [], [])) (mi := mX11_end) (yi := mX9_cut) (as := [.int p1]) (st := []) (L2 := ([(65, text_sizen2)], [], [])) dX11_end_5 ML_X11_96 Yv_X9_cut rfl zW_1 rfl rfl (t_X9_cut l _ hcl) (zsub_i (zle_c rfl zle_n) zle_n zle_n) (zjok_i rfl rfl (zle_c rfl zle_n) rfl rfl zle_n rfl rfl zle_n) (Nat.le_of_ble_eq_true rfl) (Nat.le_of_ble_eq_true rfl) rfl rfl ?_
  obtain ⟨hg, h⟩ := gd_some h
  obtain ⟨rfl, rfl⟩ := so2 h
  exact zJ_iret dX11_end_8 rfl (bit_n hg)
