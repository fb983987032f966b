set_option maxRecDepth 100000 in
set_option maxHeartbeats 4000000 in
theorem t_X11_poles (l : Launch) (σ : zS) {p1 : Int32} {p2 : Int32} {p3 : Int32} {course_fences : Int32} {course_horseCount : Int32} {course_planCount : Int32} {course_rule_size : Int32} {course_kinds : (Nat → Int32)} {course_heights : (Nat → Int32)} {course_feet : (Nat → Int32)} {course_digits : (Nat → Int32)} {course_plans : (Nat → Int32)} {rule_codes : (Nat → Int32)} {rule_stack : (Nat → Int32)} {rule_things : (Nat → Int32)} {chances : (Nat → Int64)} {r : Int32} {w_rule_stack : (Nat → Int32)} {w_rule_things : (Nat → Int32)} {w_chances : (Nat → Int64)} (h : f_X11_poles p1 p2 p3 course_fences course_horseCount course_planCount course_rule_size course_kinds course_heights course_feet course_digits course_plans rule_codes rule_stack rule_things chances = some (r, w_rule_stack, w_rule_things, w_chances)) : zMt l zW 4 mX11_poles σ ([(323, course_fences), (326, course_horseCount), (328, course_planCount), (769, course_rule_size)], [(6, course_kinds), (7, course_heights), (8, course_feet), (10, course_digits), (11, course_plans), (13, rule_codes), (15, rule_stack), (16, rule_things)], [(52, chances)]) [.ref 0, .int p1, .int p2, .int p3] (some (.int r)) ([(323, course_fences), (326, course_horseCount), (328, course_planCount), (769, course_rule_size)], [(6, course_kinds), (7, course_heights), (8, course_feet), (10, course_digits), (11, course_plans), (13, rule_codes), (15, w_rule_stack), (16, w_rule_things)], [(52, w_chances)]) := by
  refine zMt_of (ls := [(0, .ref 0), (1, .int p1), (2, .int p2), (3, .int p3)]) (by decide) rfl (fun _ => Nat.le_of_ble_eq_true rfl) rfl ?_
  unfold f_X11_poles at h
  refine zJ_aload_n dX11_poles_0 rfl rfl ?_
  refine zJ_getr (mi := mX11_poles) dX11_poles_1 F_X11_26 zW_0 rfl rfl ?_
  refine zJ_iload_n dX11_poles_4 rfl rfl ?_
  obtain ⟨rn1, hcl, h⟩ := bd1_some h
  refine zJ_callV (mi := mX11_poles) (yi := mX1_hasHorse) (as := [.int p1]) (st := []) (L2 := ([(323, course_fences), (326, course_horseCount), (328, course_planCount), (769, course_rule_size)], [(6, course_kinds), (7, course_heights), (8, course_feet), (10, course_digits), (11, course_plans), (13, rule_codes), (15, rule_stack), (16, rule_things)], [(52, chances)])) dX11_poles_5 ML_X11_147 Yv_X1_hasHorse rfl zW_5 rfl rfl (t_X1_hasHorse l _ hcl) (zsub_i (zle_c rfl zle_n) zle_n zle_n) rfl (Nat.le_of_ble_eq_true rfl) (Nat.le_of_ble_eq_true rfl) rfl rfl ?_
  refine zJ_if_eq (tgt := 32) dX11_poles_8 (by decide) rfl (fun hc => ?_) (fun hc => ?_)
  · replace h := it_t hc h
    refine zJ_iconst dX11_poles_32 zc_m1 rfl ?_
    obtain ⟨rfl, rfl, rfl, rfl⟩ := so4 h
    exact zJ_iret dX11_poles_33 rfl rfl
  · replace h := it_f hc h
    refine zJ_aload_n dX11_poles_11 rfl rfl ?_
    refine zJ_getr (mi := mX11_poles) dX11_poles_12 F_X11_26 zW_0 rfl rfl ?_
    refine zJ_iload_n dX11_poles_15 rfl rfl ?_
    obtain ⟨rn2, hcl, h⟩ := bd1_some h
    refine zJ_callV (mi := mX11_poles) (yi := mX1_hasPlan) (as := [.int p2]) (st := []) (L2 := ([(323, course_fences), (326, course_horseCount), (328, course_planCount), (769, course_rule_size)], [(6, course_kinds), (7, course_heights), (8, course_feet), (10, course_digits), (11, course_plans), (13, rule_codes), (15, rule_stack), (16, rule_things)], [(52, chances)])) dX11_poles_16 ML_X11_191 Yv_X1_hasPlan rfl zW_5 rfl rfl (t_X1_hasPlan l _ hcl) (zsub_i (zle_c rfl zle_n) zle_n zle_n) rfl (Nat.le_of_ble_eq_true rfl) (Nat.le_of_ble_eq_true rfl) rfl rfl ?_
    refine zJ_if_eq (tgt := 32) dX11_poles_19 (by decide) rfl (fun hc => ?_) (fun hc => ?_)
    · replace h := it_t hc h
      refine zJ_iconst dX11_poles_32 zc_m1 rfl ?_
      obtain ⟨rfl, rfl, rfl, rfl⟩ := so4 h
      exact zJ_iret dX11_poles_33 rfl rfl
    · replace h := it_f hc h
      refine zJ_iload_n dX11_poles_22 rfl rfl ?_
      refine zJ_if_lt (tgt := 32) dX11_poles_23 (by decide) rfl (fun hc => ?_) (fun hc => ?_)
      · replace h := it_t hc h
        refine zJ_iconst dX11_poles_32 zc_m1 rfl ?_
        obtain ⟨rfl, rfl, rfl, rfl⟩ := so4 h
        exact zJ_iret dX11_poles_33 rfl rfl
      · replace h := it_f hc h
        refine zJ_iload_n dX11_poles_26 rfl rfl ?_
        refine zJ_bipush dX11_poles_27 zb_8 rfl ?_
        refine zJ_icmp_le (tgt := 34) dX11_poles_29 (by decide) rfl (fun hc => ?_) (fun hc => ?_)
        · replace h := it_t hc h
          refine zJ_aload_n dX11_poles_34 rfl rfl ?_
          refine zJ_getr (mi := mX11_poles) dX11_poles_35 F_X11_84 zW_0 rfl rfl ?_
          refine zJ_lconst dX11_poles_38 zl_0 rfl ?_
          obtain ⟨chancesn3, hcl, h⟩ := bd1_some h
          refine zJ_callS (mi := mX11_poles) (yi := mJ7_fill_d0a16) (as := [.ref 52, .long (0 : Int64)]) (st := []) (L2 := ([(323, course_fences), (326, course_horseCount), (328, course_planCount), (769, course_rule_size)], [(6, course_kinds), (7, course_heights), (8, course_feet), (10, course_digits), (11, course_plans), (13, rule_codes), (15, rule_stack), (16, rule_things)], [(52, chancesn3)])) dX11_poles_39 ML_X11_203 Ys_J7_fill_d0a16 rfl (t_J7_fill_d0a16_chances l _ hcl) (zsub_i zle_n zle_n (zle_c rfl zle_n)) rfl (Nat.le_of_ble_eq_true rfl) (Nat.le_of_ble_eq_true rfl) rfl rfl ?_
          refine zJ_aload_n dX11_poles_42 rfl rfl ?_
          refine zJ_getr (mi := mX11_poles) dX11_poles_43 F_X11_84 zW_0 rfl rfl ?_
          refine zJ_iconst dX11_poles_46 zc_0 rfl ?_
          refine zJ_ldc2_w (v := 10000) dX11_poles_47 C_X11_209 rfl ?_
          obtain ⟨hg, h⟩ := gd_some h
          refine zK_last (mi := mX11_poles) (f := chancesn3) (lc' := [(52, (vp_updL chancesn3 (0 : Int32).toNatClampNeg (10000 : Int64)))]) dX11_poles_50 zW_52 (ix_in hg) rfl rfl rfl ?_
          refine zJ_iconst dX11_poles_51 zc_0 rfl ?_
          refine zJ_istore (ls' := [(4, .int (0 : Int32)), (0, .ref 0), (1, .int p1), (2, .int p2), (3, .int p3)]) dX11_poles_52 rfl rfl rfl ?_
          have hk54 : ∀ (rule_stack_54x : (Nat → Int32)) (rule_things_54x : (Nat → Int32)) (chances_54x : (Nat → Int64)), k_X11_poles_54 p3 rule_stack_54x rule_things_54x chances_54x = some (r, w_rule_stack, w_rule_things, w_chances) → zJ l zW 4 mX11_poles σ ([(323, course_fences), (326, course_horseCount), (328, course_planCount), (769, course_rule_size)], [(6, course_kinds), (7, course_heights), (8, course_feet), (10, course_digits), (11, course_plans), (13, rule_codes), (15, rule_stack_54x), (16, rule_things_54x)], [(52, chances_54x)]) 175 [(0, .ref 0), (3, .int p3)] [] (some (.int r)) ([(323, course_fences), (326, course_horseCount), (328, course_planCount), (769, course_rule_size)], [(6, course_kinds), (7, course_heights), (8, course_feet), (10, course_digits), (11, course_plans), (13, rule_codes), (15, w_rule_stack), (16, w_rule_things)], [(52, w_chances)]) := by
            intro rule_stack_54x rule_things_54x chances_54x h
            unfold k_X11_poles_54 at h
            refine zJ_aload_n dX11_poles_175 rfl rfl ?_
            refine zJ_getr (mi := mX11_poles) dX11_poles_176 F_X11_84 zW_0 rfl rfl ?_
            refine zJ_iload_n dX11_poles_179 rfl rfl ?_
            obtain ⟨hg, h⟩ := gd_some h
            refine zJ_lald (mi := mX11_poles) (f := chances_54x) dX11_poles_180 zW_52 (ix_in hg) rfl rfl ?_
            refine zJ_l2i dX11_poles_181 rfl ?_
            obtain ⟨rfl, rfl, rfl, rfl⟩ := so4 h
            exact zJ_iret dX11_poles_182 rfl rfl
          refine zJ_loc (ls' := [(0, .ref 0), (1, .int p1), (2, .int p2), (3, .int p3), (4, .int (0 : Int32))]) (zll_c rfl (zll_c rfl (zll_c rfl (zll_c rfl (zll_c rfl zll_n))))) ?_
          refine ml4_J (fun (v4_54 : Int32) (rule_stack_54 : (Nat → Int32)) (rule_things_54 : (Nat → Int32)) (chances_54 : (Nat → Int64)) => zJ l zW 4 mX11_poles σ ([(323, course_fences), (326, course_horseCount), (328, course_planCount), (769, course_rule_size)], [(6, course_kinds), (7, course_heights), (8, course_feet), (10, course_digits), (11, course_plans), (13, rule_codes), (15, rule_stack_54), (16, rule_things_54)], [(52, chances_54)]) 54 [(0, .ref 0), (1, .int p1), (2, .int p2), (3, .int p3), (4, .int v4_54)] [] (some (.int r)) ([(323, course_fences), (326, course_horseCount), (328, course_planCount), (769, course_rule_size)], [(6, course_kinds), (7, course_heights), (8, course_feet), (10, course_digits), (11, course_plans), (13, rule_codes), (15, w_rule_stack), (16, w_rule_things)], [(52, w_chances)])) (fun rc54 hrc54 v4_54 rule_stack_54 rule_things_54 chances_54 h => ?_) zN _ _ _ _ h
          unfold s_X11_poles_54 at h
          refine zJ_iload dX11_poles_54 rfl rfl ?_
          refine zJ_aload_n dX11_poles_56 rfl rfl ?_
          refine zJ_getr (mi := mX11_poles) dX11_poles_57 F_X11_26 zW_0 rfl rfl ?_
          refine zJ_geti (mi := mX11_poles) (x := course_fences) dX11_poles_60 F_X11_157 zW_5 rfl rfl rfl ?_
          refine zJ_icmp_ge (tgt := 175) dX11_poles_63 (by decide) rfl (fun hc => ?_) (fun hc => ?_)
          · replace h := it_t hc h
            refine zJ_loc (ls' := [(0, .ref 0), (3, .int p3)]) (zll_c rfl (zll_c rfl zll_n)) ?_
            exact hk54 _ _ _ h
          · replace h := it_f hc h
            refine zJ_aload_n dX11_poles_66 rfl rfl ?_
            refine zJ_getr (mi := mX11_poles) dX11_poles_67 F_X11_26 zW_0 rfl rfl ?_
            refine zJ_iload_n dX11_poles_70 rfl rfl ?_
            refine zJ_iload dX11_poles_71 rfl rfl ?_
            refine zJ_aload_n dX11_poles_73 rfl rfl ?_
            refine zJ_getr (mi := mX11_poles) dX11_poles_74 F_X11_26 zW_0 rfl rfl ?_
            refine zJ_iload_n dX11_poles_77 rfl rfl ?_
            refine zJ_iload dX11_poles_78 rfl rfl ?_
            obtain ⟨rn4, hcl, h⟩ := bd1_some h
            refine zJ_callV (mi := mX11_poles) (yi := mX1_letterAt) (as := [.int p2, .int v4_54]) (st := [.int v4_54, .int p1, .ref 5]) (L2 := ([(323, course_fences), (326, course_horseCount), (328, course_planCount), (769, course_rule_size)], [(6, course_kinds), (7, course_heights), (8, course_feet), (10, course_digits), (11, course_plans), (13, rule_codes), (15, rule_stack_54), (16, rule_things_54)], [(52, chances_54)])) dX11_poles_80 ML_X11_194 Yv_X1_letterAt rfl zW_5 rfl rfl (t_X1_letterAt l _ hcl) (zsub_i zle_n (zle_c rfl zle_n) zle_n) rfl (Nat.le_of_ble_eq_true rfl) (Nat.le_of_ble_eq_true rfl) rfl rfl ?_
            obtain ⟨rn5, rule_stackn6, rule_thingsn7, hcl, h⟩ := bd3_some h
            refine zJ_callV (mi := mX11_poles) (yi := mX1_poleOdds) (as := [.int p1, .int v4_54, .int rn4]) (st := []) (L2 := ([(323, course_fences), (326, course_horseCount), (328, course_planCount), (769, course_rule_size)], [(6, course_kinds), (7, course_heights), (8, course_feet), (10, course_digits), (11, course_plans), (13, rule_codes), (15, rule_stackn6), (16, rule_thingsn7)], [(52, chances_54)])) dX11_poles_83 ML_X11_187 Yv_X1_poleOdds rfl zW_5 rfl rfl (t_X1_poleOdds l _ hcl) (zsub_i (zle_c rfl zle_n) (zle_c rfl (zle_c rfl (zle_c rfl (zle_c rfl (zle_c rfl (zle_c rfl (zle_c rfl zle_n))))))) zle_n) rfl (Nat.le_of_ble_eq_true rfl) (Nat.le_of_ble_eq_true rfl) rfl rfl ?_
            refine zJ_istore (ls' := [(5, .int rn5), (0, .ref 0), (1, .int p1), (2, .int p2), (3, .int p3), (4, .int v4_54)]) dX11_poles_86 rfl rfl rfl ?_
            refine zJ_bipush dX11_poles_88 zb_8 rfl ?_
            refine zJ_istore (ls' := [(6, .int (8 : Int32)), (5, .int rn5), (0, .ref 0), (1, .int p1), (2, .int p2), (3, .int p3), (4, .int v4_54)]) dX11_poles_90 rfl rfl rfl ?_
            have hk92 : ∀ (chances_92x : (Nat → Int64)), k_X11_poles_92 rc54 v4_54 rn5 rule_stackn6 rule_thingsn7 chances_92x = some (r, w_rule_stack, w_rule_things, w_chances) → zJ l zW 4 mX11_poles σ ([(323, course_fences), (326, course_horseCount), (328, course_planCount), (769, course_rule_size)], [(6, course_kinds), (7, course_heights), (8, course_feet), (10, course_digits), (11, course_plans), (13, rule_codes), (15, rule_stackn6), (16, rule_thingsn7)], [(52, chances_92x)]) 146 [(0, .ref 0), (1, .int p1), (2, .int p2), (3, .int p3), (4, .int v4_54), (5, .int rn5)] [] (some (.int r)) ([(323, course_fences), (326, course_horseCount), (328, course_planCount), (769, course_rule_size)], [(6, course_kinds), (7, course_heights), (8, course_feet), (10, course_digits), (11, course_plans), (13, rule_codes), (15, w_rule_stack), (16, w_rule_things)], [(52, w_chances)]) := by
              intro chances_92x h
              unfold k_X11_poles_92 at h
              refine zJ_aload_n dX11_poles_146 rfl rfl ?_
              refine zJ_getr (mi := mX11_poles) dX11_poles_147 F_X11_84 zW_0 rfl rfl ?_
              refine zJ_iconst dX11_poles_150 zc_0 rfl ?_
              refine zJ_aload_n dX11_poles_151 rfl rfl ?_
              refine zJ_getr (mi := mX11_poles) dX11_poles_152 F_X11_84 zW_0 rfl rfl ?_
              refine zJ_iconst dX11_poles_155 zc_0 rfl ?_
              obtain ⟨hg, h⟩ := gd_some h
              refine zJ_lald (mi := mX11_poles) (f := chances_92x) dX11_poles_156 zW_52 (ix_in hg) rfl rfl ?_
              refine zJ_bipush dX11_poles_157 zb_100 rfl ?_
              refine zJ_iload dX11_poles_159 rfl rfl ?_
              refine zJ_isub dX11_poles_161 rfl ?_
              refine zJ_i2l dX11_poles_162 rfl ?_
              refine zJ_lmul dX11_poles_163 rfl ?_
              refine zJ_ldc2_w (v := 100) dX11_poles_164 C_X11_211 rfl ?_
              obtain ⟨hg, h⟩ := gd_some h
              refine zJ_ldiv dX11_poles_167 (nzl_ne hg) rfl ?_
              obtain ⟨hg, h⟩ := gd_some h
              refine zK_last (mi := mX11_poles) (f := chances_92x) (lc' := [(52, (vp_updL chances_92x (0 : Int32).toNatClampNeg (((chances_92x (0 : Int32).toNatClampNeg) * (((100 : Int32) - rn5)).toInt64) / (100 : Int64))))]) dX11_poles_168 zW_52 (ix_in hg) rfl rfl rfl ?_
              obtain ⟨v4n8, ev4n8, h⟩ := lt1_some h
              refine zJ_iincN (ls' := [(4, .int v4n8), (0, .ref 0), (1, .int p1), (2, .int p2), (3, .int p3), (5, .int rn5)]) dX11_poles_169 rfl rfl zc_1 ev4n8 rfl rfl ?_
              refine zJ_goto (tgt := 54) dX11_poles_172 (by decide) ?_
              refine zJ_loc (ls' := [(0, .ref 0), (1, .int p1), (2, .int p2), (3, .int p3), (4, .int v4n8)]) (zll_c rfl (zll_c rfl (zll_c rfl (zll_c rfl (zll_c rfl zll_n))))) ?_
              exact hrc54 _ _ _ _ h
            refine zJ_loc (ls' := [(0, .ref 0), (1, .int p1), (2, .int p2), (3, .int p3), (4, .int v4_54), (5, .int rn5), (6, .int (8 : Int32))]) (zll_c rfl (zll_c rfl (zll_c rfl (zll_c rfl (zll_c rfl (zll_c rfl (zll_c rfl zll_n))))))) ?_
            refine ml2_J (fun (v6_92 : Int32) (chances_92 : (Nat → Int64)) => zJ l zW 4 mX11_poles σ ([(323, course_fences), (326, course_horseCount), (328, course_planCount), (769, course_rule_size)], [(6, course_kinds), (7, course_heights), (8, course_feet), (10, course_digits), (11, course_plans), (13, rule_codes), (15, rule_stackn6), (16, rule_thingsn7)], [(52, chances_92)]) 92 [(0, .ref 0), (1, .int p1), (2, .int p2), (3, .int p3), (4, .int v4_54), (5, .int rn5), (6, .int v6_92)] [] (some (.int r)) ([(323, course_fences), (326, course_horseCount), (328, course_planCount), (769, course_rule_size)], [(6, course_kinds), (7, course_heights), (8, course_feet), (10, course_digits), (11, course_plans), (13, rule_codes), (15, w_rule_stack), (16, w_rule_things)], [(52, w_chances)])) (fun rc92 hrc92 v6_92 chances_92 h => ?_) zN _ _ h
            unfold s_X11_poles_92 at h
            refine zJ_iload dX11_poles_92 rfl rfl ?_
            refine zJ_if_le (tgt := 146) dX11_poles_94 (by decide) rfl (fun hc => ?_) (fun hc => ?_)
            · replace h := it_t hc h
              refine zJ_loc (ls' := [(0, .ref 0), (1, .int p1), (2, .int p2), (3, .int p3), (4, .int v4_54), (5, .int rn5)]) (zll_c rfl (zll_c rfl (zll_c rfl (zll_c rfl (zll_c rfl (zll_c rfl zll_n)))))) ?_
              exact hk92 _ h
            · replace h := it_f hc h
              refine zJ_aload_n dX11_poles_97 rfl rfl ?_
              refine zJ_getr (mi := mX11_poles) dX11_poles_98 F_X11_84 zW_0 rfl rfl ?_
              refine zJ_iload dX11_poles_101 rfl rfl ?_
              refine zJ_aload_n dX11_poles_103 rfl rfl ?_
              refine zJ_getr (mi := mX11_poles) dX11_poles_104 F_X11_84 zW_0 rfl rfl ?_
              refine zJ_iload dX11_poles_107 rfl rfl ?_
              obtain ⟨hg, h⟩ := gd_some h
              refine zJ_lald (mi := mX11_poles) (f := chances_92) dX11_poles_109 zW_52 (ix_in hg) rfl rfl ?_
              refine zJ_bipush dX11_poles_110 zb_100 rfl ?_
              refine zJ_iload dX11_poles_112 rfl rfl ?_
              refine zJ_isub dX11_poles_114 rfl ?_
              refine zJ_i2l dX11_poles_115 rfl ?_
              refine zJ_lmul dX11_poles_116 rfl ?_
              refine zJ_ldc2_w (v := 100) dX11_poles_117 C_X11_211 rfl ?_
              obtain ⟨hg, h⟩ := gd_some h
              refine zJ_ldiv dX11_poles_120 (nzl_ne hg) rfl ?_
              refine zJ_aload_n dX11_poles_121 rfl rfl ?_
              refine zJ_getr (mi := mX11_poles) dX11_poles_122 F_X11_84 zW_0 rfl rfl ?_
              refine zJ_iload dX11_poles_125 rfl rfl ?_
              refine zJ_iconst dX11_poles_127 zc_1 rfl ?_
              refine zJ_isub dX11_poles_128 rfl ?_
              obtain ⟨hg, h⟩ := gd_some h
              refine zJ_lald (mi := mX11_poles) (f := chances_92) dX11_poles_129 zW_52 (ix_in hg) rfl rfl ?_
              refine zJ_iload dX11_poles_130 rfl rfl ?_
              refine zJ_i2l dX11_poles_132 rfl ?_
              refine zJ_lmul dX11_poles_133 rfl ?_
              refine zJ_ldc2_w (v := 100) dX11_poles_134 C_X11_211 rfl ?_
              obtain ⟨hg, h⟩ := gd_some h
              refine zJ_ldiv dX11_poles_137 (nzl_ne hg) rfl ?_
              refine zJ_ladd dX11_poles_138 rfl ?_
              obtain ⟨hg, h⟩ := gd_some h
              refine zK_last (mi := mX11_poles) (f := chances_92) (lc' := [(52, (vp_updL chances_92 v6_92.toNatClampNeg ((((chances_92 v6_92.toNatClampNeg) * (((100 : Int32) - rn5)).toInt64) / (100 : Int64)) + (((chances_92 (v6_92 - (1 : Int32)).toNatClampNeg) * rn5.toInt64) / (100 : Int64)))))]) dX11_poles_139 zW_52 (ix_in hg) rfl rfl rfl ?_
              obtain ⟨v6n9, ev6n9, h⟩ := lt1_some h
              refine zJ_iincN (ls' := [(6, .int v6n9), (0, .ref 0), (1, .int p1), (2, .int p2), (3, .int p3), (4, .int v4_54), (5, .int rn5)]) dX11_poles_140 rfl rfl zc_m1 ev6n9 rfl rfl ?_
              refine zJ_goto (tgt := 92) dX11_poles_143 (by decide) ?_
              refine zJ_loc (ls' := [(0, .ref 0), (1, .int p1), (2, .int p2), (3, .int p3), (4, .int v4_54), (5, .int rn5), (6, .int v6n9)]) (zll_c rfl (zll_c rfl (zll_c rfl (zll_c rfl (zll_c rfl (zll_c rfl (zll_c rfl zll_n))))))) ?_
              exact hrc92 _ _ h
        · replace h := it_f hc h
          refine zJ_iconst dX11_poles_32 zc_m1 rfl ?_
          obtain ⟨rfl, rfl, rfl, rfl⟩ := so4 h
          exact zJ_iret dX11_poles_33 rfl rfl
set_option maxRecDepth 100000 in
set_option maxHeartbeats 4000000 in
theorem t_X11_prizes (l : Launch) (σ : zS) {text_size : Int32} {text_limit : Int32} {text_at : Int32} {text_signs : (Nat → Int32)} {rounds_money : (Nat → Int32)} {rounds_draft : (Nat → Int32)} {r : Int32} {w_text_size : Int32} {w_text_limit : Int32} {w_text_at : Int32} {w_rounds_money : (Nat → Int32)} {w_rounds_draft : (Nat → Int32)} (h : f_X11_prizes text_size text_limit text_at text_signs rounds_money rounds_draft = some (r, w_text_size, w_text_limit, w_text_at, w_rounds_money, w_rounds_draft)) : zMt l zW 3 mX11_prizes σ ([(65, text_size), (66, text_limit), (67, text_at)], [(2, text_signs), (25, rounds_money), (26, rounds_draft)], []) [.ref 0] (some (.int r)) ([(65, w_text_size), (66, w_text_limit), (67, w_text_at)], [(2, text_signs), (25, w_rounds_money), (26, w_rounds_draft)], []) := by
  refine zMt_of (ls := [(0, .ref 0)]) (by decide) rfl (fun _ => Nat.le_of_ble_eq_true rfl) rfl ?_
  unfold f_X11_prizes at h
  refine zJ_aload_n dX11_prizes_0 rfl rfl ?_
  refine zJ_getr (mi := mX11_prizes) dX11_prizes_1 F_X11_33 zW_0 rfl rfl ?_
  refine zJ_aload_n dX11_prizes_4 rfl rfl ?_
  refine zJ_getr (mi := mX11_prizes) dX11_prizes_5 F_X11_10 zW_0 rfl rfl ?_
  obtain ⟨rn1, text_limitn2, text_atn3, rounds_moneyn4, rounds_draftn5, hcl, h⟩ := bd5_some h
  refine zJ_callV (mi := mX11_prizes) (yi := mX10_readMoney) (as := [.ref 1]) (st := []) (L2 := ([(65, text_size), (66, text_limitn2), (67, text_atn3)], [(2, text_signs), (25, rounds_moneyn4), (26, rounds_draftn5)], [])) dX11_prizes_8 ML_X11_129 Yv_X10_readMoney rfl zW_20 rfl rfl (t_X10_readMoney l _ hcl) (zsub_i (zle_c rfl (zle_c rfl (zle_c rfl zle_n))) (zle_c rfl (zle_c rfl (zle_c rfl zle_n))) zle_n) rfl (Nat.le_of_ble_eq_true rfl) (Nat.le_of_ble_eq_true rfl) rfl rfl ?_
  refine zJ_istore_n (ls' := [(1, .int rn1), (0, .ref 0)]) dX11_prizes_11 rfl rfl rfl ?_
  refine zJ_aload_n dX11_prizes_12 rfl rfl ?_
  refine zJ_getr (mi := mX11_prizes) dX11_prizes_13 F_X11_10 zW_0 rfl rfl ?_
  obtain ⟨text_sizen6, hcl, h⟩ := bd1_some h
  refine zJ_callV (mi := mX11_prizes) (yi := mX9_clear) (as := []) (st := []) (L2 := ([(65, text_sizen6), (66, text_limitn2), (67, text_atn3)], [(2, text_signs), (25, rounds_moneyn4), (26, rounds_draftn5)], [])) dX11_prizes_16 ML_X11_104 Yv_X9_clear rfl zW_1 rfl rfl (t_X9_clear l _ hcl) (zsub_i (zle_c rfl zle_n) zle_n zle_n) rfl (Nat.le_of_ble_eq_true rfl) (Nat.le_of_ble_eq_true rfl) rfl rfl ?_
  refine zJ_iload_n dX11_prizes_19 rfl rfl ?_
  obtain ⟨rfl, rfl, rfl, rfl, rfl, rfl⟩ := so6 h
  exact zJ_iret dX11_prizes_20 rfl rfl
set_option maxRecDepth 100000 in
set_option maxHeartbeats 4000000 in
theorem t_X4_fewestTenths (l : Launch) (σ : zS) {p1 : Int32} {letters_fences : Int32} {letters_least : (Nat → Int32)} {letters_spans : (Nat → Int32)} {r : Int32} (h : f_X4_fewestTenths p1 letters_fences letters_least letters_spans = some r) : zMt l zW 2 mX4_fewestTenths σ ([(2180, letters_fences)], [(37, letters_least), (38, letters_spans)], []) [.ref 34, .int p1] (some (.int r)) ([(2180, letters_fences)], [(37, letters_least), (38, letters_spans)], []) := by
  refine zMt_of (ls := [(0, .ref 34), (1, .int p1)]) (by decide) rfl (fun _ => Nat.le_of_ble_eq_true rfl) rfl ?_
  unfold f_X4_fewestTenths at h
  refine zJ_iconst dX4_fewestTenths_0 zc_0 rfl ?_
  refine zJ_istore_n (ls' := [(2, .int (0 : Int32)), (0, .ref 34), (1, .int p1)]) dX4_fewestTenths_1 rfl rfl rfl ?_
  have hk2 : ∀ (_u : Unit), k_X4_fewestTenths_2  _u = some r → zJ l zW 2 mX4_fewestTenths σ ([(2180, letters_fences)], [(37, letters_least), (38, letters_spans)], []) 41 [] [] (some (.int r)) ([(2180, letters_fences)], [(37, letters_least), (38, letters_spans)], []) := by
    intro _u h
    unfold k_X4_fewestTenths_2 at h
    refine zJ_iconst dX4_fewestTenths_41 zc_m1 rfl ?_
    obtain rfl := so1 h
    exact zJ_iret dX4_fewestTenths_42 rfl rfl
  refine zJ_loc (ls' := [(0, .ref 34), (1, .int p1), (2, .int (0 : Int32))]) (zll_c rfl (zll_c rfl (zll_c rfl zll_n))) ?_
  refine ml1_J (fun (v2_2 : Int32) => zJ l zW 2 mX4_fewestTenths σ ([(2180, letters_fences)], [(37, letters_least), (38, letters_spans)], []) 2 [(0, .ref 34), (1, .int p1), (2, .int v2_2)] [] (some (.int r)) ([(2180, letters_fences)], [(37, letters_least), (38, letters_spans)], [])) (fun rc2 hrc2 v2_2 h => ?_) zN _ h
  unfold s_X4_fewestTenths_2 at h
  refine zJ_iload_n dX4_fewestTenths_2 rfl rfl ?_
  refine zJ_aload_n dX4_fewestTenths_3 rfl rfl ?_
  refine zJ_getr (mi := mX4_fewestTenths) dX4_fewestTenths_4 F_X4_21 zW_34 rfl rfl ?_
  refine zJ_aload_n dX4_fewestTenths_7 rfl rfl ?_
  refine zJ_geti (mi := mX4_fewestTenths) (x := letters_fences) dX4_fewestTenths_8 F_X4_30 zW_34 rfl rfl rfl ?_
  obtain ⟨hg, h⟩ := gd_some h
  refine zJ_iald (mi := mX4_fewestTenths) (f := letters_spans) dX4_fewestTenths_11 zW_38 (ix_in hg) rfl rfl ?_
  refine zJ_icmp_gt (tgt := 41) dX4_fewestTenths_12 (by decide) rfl (fun hc => ?_) (fun hc => ?_)
  · replace h := it_t hc h
    refine zJ_loc (ls' := []) zll_n ?_
    exact hk2 _ h
  · replace h := it_f hc h
    refine zJ_aload_n dX4_fewestTenths_15 rfl rfl ?_
    refine zJ_iload_n dX4_fewestTenths_16 rfl rfl ?_
    obtain ⟨rn1, hcl, h⟩ := bd1_some h
    refine zJ_callV (mi := mX4_fewestTenths) (yi := mX4_fearWith) (as := [.int v2_2]) (st := []) (L2 := ([(2180, letters_fences)], [(37, letters_least), (38, letters_spans)], [])) dX4_fewestTenths_17 ML_X4_58 Yv_X4_fearWith rfl zW_34 rfl rfl (t_X4_fearWith l _ hcl) (zsub_i (zle_c rfl zle_n) (zle_c rfl (zle_c rfl zle_n)) zle_n) rfl (Nat.le_of_ble_eq_true rfl) (Nat.le_of_ble_eq_true rfl) rfl rfl ?_
    refine zJ_iconst dX4_fewestTenths_20 zc_m1 rfl ?_
    refine zJ_icmp_eq (tgt := 35) dX4_fewestTenths_21 (by decide) rfl (fun hc => ?_) (fun hc => ?_)
    · replace h := it_t hc h
      obtain ⟨v2n2, ev2n2, h⟩ := lt1_some h
      refine zJ_iincN (ls' := [(2, .int v2n2), (0, .ref 34), (1, .int p1)]) dX4_fewestTenths_35 rfl rfl zc_1 ev2n2 rfl rfl ?_
      refine zJ_goto (tgt := 2) dX4_fewestTenths_38 (by decide) ?_
      refine zJ_loc (ls' := [(0, .ref 34), (1, .int p1), (2, .int v2n2)]) (zll_c rfl (zll_c rfl (zll_c rfl zll_n))) ?_
      exact hrc2 _ h
    · replace h := it_f hc h
      refine zJ_aload_n dX4_fewestTenths_24 rfl rfl ?_
      refine zJ_iload_n dX4_fewestTenths_25 rfl rfl ?_
      obtain ⟨rn3, hcl, h⟩ := bd1_some h
      refine zJ_callV (mi := mX4_fewestTenths) (yi := mX4_fearWith) (as := [.int v2_2]) (st := []) (L2 := ([(2180, letters_fences)], [(37, letters_least), (38, letters_spans)], [])) dX4_fewestTenths_26 ML_X4_58 Yv_X4_fearWith rfl zW_34 rfl rfl (t_X4_fearWith l _ hcl) (zsub_i (zle_c rfl zle_n) (zle_c rfl (zle_c rfl zle_n)) zle_n) rfl (Nat.le_of_ble_eq_true rfl) (Nat.le_of_ble_eq_true rfl) rfl rfl ?_
      refine zJ_iload_n dX4_fewestTenths_29 rfl rfl ?_
      refine zJ_icmp_gt (tgt := 35) dX4_fewestTenths_30 (by decide) rfl (fun hc => ?_) (fun hc => ?_)
      · replace h := it_t hc h
        obtain ⟨v2n4, ev2n4, h⟩ := lt1_some h
        refine zJ_iincN (ls' := [(2, .int v2n4), (0, .ref 34), (1, .int p1)]) dX4_fewestTenths_35 rfl rfl zc_1 ev2n4 rfl rfl ?_
        refine zJ_goto (tgt := 2) dX4_fewestTenths_38 (by decide) ?_
        refine zJ_loc (ls' := [(0, .ref 34), (1, .int p1), (2, .int v2n4)]) (zll_c rfl (zll_c rfl (zll_c rfl zll_n))) ?_
        exact hrc2 _ h
      · replace h := it_f hc h
        refine zJ_iload_n dX4_fewestTenths_33 rfl rfl ?_
        obtain rfl := so1 h
        exact zJ_iret dX4_fewestTenths_34 rfl rfl
set_option maxRecDepth 100000 in
set_option maxHeartbeats 4000000 in
theorem t_X11_quick (l : Launch) (σ : zS) {p1 : Int32} {p2 : Int32} {numbers_size : Int32} {course_fences : Int32} {course_horseCount : Int32} {course_rule_size : Int32} {letters_fences : Int32} {course_kinds : (Nat → Int32)} {course_heights : (Nat → Int32)} {course_feet : (Nat → Int32)} {course_digits : (Nat → Int32)} {rule_codes : (Nat → Int32)} {rule_stack : (Nat → Int32)} {rule_things : (Nat → Int32)} {letters_fears : (Nat → Int32)} {letters_tenths : (Nat → Int32)} {letters_least : (Nat → Int32)} {letters_spans : (Nat → Int32)} {numbers_told : (Nat → Int64)} {r : Int32} {w_numbers_size : Int32} {w_letters_fences : Int32} {w_rule_stack : (Nat → Int32)} {w_rule_things : (Nat → Int32)} {w_letters_fears : (Nat → Int32)} {w_letters_tenths : (Nat → Int32)} {w_letters_least : (Nat → Int32)} {w_letters_spans : (Nat → Int32)} {w_numbers_told : (Nat → Int64)} (h : f_X11_quick p1 p2 numbers_size course_fences course_horseCount course_rule_size letters_fences course_kinds course_heights course_feet course_digits rule_codes rule_stack rule_things letters_fears letters_tenths letters_least letters_spans numbers_told = some (r, w_numbers_size, w_letters_fences, w_rule_stack, w_rule_things, w_letters_fears, w_letters_tenths, w_letters_least, w_letters_spans, w_numbers_told)) : zMt l zW 5 mX11_quick σ ([(193, numbers_size), (323, course_fences), (326, course_horseCount), (769, course_rule_size), (2180, letters_fences)], [(6, course_kinds), (7, course_heights), (8, course_feet), (10, course_digits), (13, rule_codes), (15, rule_stack), (16, rule_things), (35, letters_fears), (36, letters_tenths), (37, letters_least), (38, letters_spans)], [(4, numbers_told)]) [.ref 0, .int p1, .int p2] (some (.int r)) ([(193, w_numbers_size), (323, course_fences), (326, course_horseCount), (769, course_rule_size), (2180, w_letters_fences)], [(6, course_kinds), (7, course_heights), (8, course_feet), (10, course_digits), (13, rule_codes), (15, w_rule_stack), (16, w_rule_things), (35, w_letters_fears), (36, w_letters_tenths), (37, w_letters_least), (38, w_letters_spans)], [(4, w_numbers_told)]) := by
  refine zMt_of (ls := [(0, .ref 0), (1, .int p1), (2, .int p2)]) (by decide) rfl (fun _ => Nat.le_of_ble_eq_true rfl) rfl ?_
  unfold f_X11_quick at h
  refine zJ_aload_n dX11_quick_0 rfl rfl ?_
  refine zJ_getr (mi := mX11_quick) dX11_quick_1 F_X11_26 zW_0 rfl rfl ?_
  refine zJ_iload_n dX11_quick_4 rfl rfl ?_
  obtain ⟨rn1, hcl, h⟩ := bd1_some h
  refine zJ_callV (mi := mX11_quick) (yi := mX1_hasHorse) (as := [.int p1]) (st := []) (L2 := ([(193, numbers_size), (323, course_fences), (326, course_horseCount), (769, course_rule_size), (2180, letters_fences)], [(6, course_kinds), (7, course_heights), (8, course_feet), (10, course_digits), (13, rule_codes), (15, rule_stack), (16, rule_things), (35, letters_fears), (36, letters_tenths), (37, letters_least), (38, letters_spans)], [(4, numbers_told)])) dX11_quick_5 ML_X11_147 Yv_X1_hasHorse rfl zW_5 rfl rfl (t_X1_hasHorse l _ hcl) (zsub_i (zle_c rfl zle_n) zle_n zle_n) rfl (Nat.le_of_ble_eq_true rfl) (Nat.le_of_ble_eq_true rfl) rfl rfl ?_
  refine zJ_if_eq (tgt := 22) dX11_quick_8 (by decide) rfl (fun hc => ?_) (fun hc => ?_)
  · replace h := it_t hc h
    refine zJ_iconst dX11_quick_22 zc_m1 rfl ?_
    obtain ⟨rfl, rfl, rfl, rfl, rfl, rfl, rfl, rfl, rfl, rfl⟩ := so10 h
    exact zJ_iret dX11_quick_23 rfl rfl
  · replace h := it_f hc h
    refine zJ_iload_n dX11_quick_11 rfl rfl ?_
    refine zJ_if_lt (tgt := 22) dX11_quick_12 (by decide) rfl (fun hc => ?_) (fun hc => ?_)
    · replace h := it_t hc h
      refine zJ_iconst dX11_quick_22 zc_m1 rfl ?_
      obtain ⟨rfl, rfl, rfl, rfl, rfl, rfl, rfl, rfl, rfl, rfl⟩ := so10 h
      exact zJ_iret dX11_quick_23 rfl rfl
    · replace h := it_f hc h
      refine zJ_iload_n dX11_quick_15 rfl rfl ?_
      refine zJ_sipush dX11_quick_16 zs_9999 rfl ?_
      refine zJ_icmp_le (tgt := 24) dX11_quick_19 (by decide) rfl (fun hc => ?_) (fun hc => ?_)
      · replace h := it_t hc h
        refine zJ_aload_n dX11_quick_24 rfl rfl ?_
        refine zJ_getr (mi := mX11_quick) dX11_quick_25 F_X11_59 zW_0 rfl rfl ?_
        refine zJ_aload_n dX11_quick_28 rfl rfl ?_
        refine zJ_getr (mi := mX11_quick) dX11_quick_29 F_X11_26 zW_0 rfl rfl ?_
        refine zJ_iload_n dX11_quick_32 rfl rfl ?_
        obtain ⟨letters_fencesn2, rule_stackn3, rule_thingsn4, letters_fearsn5, letters_tenthsn6, letters_leastn7, letters_spansn8, hcl, h⟩ := bd7_some h
        refine zJ_callV (mi := mX11_quick) (yi := mX4_lay) (as := [.ref 5, .int p1]) (st := []) (L2 := ([(193, numbers_size), (323, course_fences), (326, course_horseCount), (769, course_rule_size), (2180, letters_fencesn2)], [(6, course_kinds), (7, course_heights), (8, course_feet), (10, course_digits), (13, rule_codes), (15, rule_stackn3), (16, rule_thingsn4), (35, letters_fearsn5), (36, letters_tenthsn6), (37, letters_leastn7), (38, letters_spansn8)], [(4, numbers_told)])) dX11_quick_33 ML_X11_219 Yv_X4_lay rfl zW_34 rfl rfl (t_X4_lay l _ hcl) (zsub_i (zle_c rfl (zle_c rfl (zle_c rfl zle_n))) (zle_c rfl (zle_c rfl (zle_c rfl (zle_c rfl (zle_c rfl (zle_c rfl (zle_c rfl (zle_c rfl (zle_c rfl (zle_c rfl (zle_c rfl zle_n))))))))))) zle_n) rfl (Nat.le_of_ble_eq_true rfl) (Nat.le_of_ble_eq_true rfl) rfl rfl ?_
        refine zJ_aload_n dX11_quick_36 rfl rfl ?_
        refine zJ_getr (mi := mX11_quick) dX11_quick_37 F_X11_59 zW_0 rfl rfl ?_
        refine zJ_iload_n dX11_quick_40 rfl rfl ?_
        obtain ⟨rn9, hcl, h⟩ := bd1_some h
        refine zJ_callV (mi := mX11_quick) (yi := mX4_fewestTenths) (as := [.int p2]) (st := []) (L2 := ([(193, numbers_size), (323, course_fences), (326, course_horseCount), (769, course_rule_size), (2180, letters_fencesn2)], [(6, course_kinds), (7, course_heights), (8, course_feet), (10, course_digits), (13, rule_codes), (15, rule_stackn3), (16, rule_thingsn4), (35, letters_fearsn5), (36, letters_tenthsn6), (37, letters_leastn7), (38, letters_spansn8)], [(4, numbers_told)])) dX11_quick_41 ML_X11_223 Yv_X4_fewestTenths rfl zW_34 rfl rfl (t_X4_fewestTenths l _ hcl) (zsub_i (zle_c rfl zle_n) (zle_c rfl (zle_c rfl zle_n)) zle_n) rfl (Nat.le_of_ble_eq_true rfl) (Nat.le_of_ble_eq_true rfl) rfl rfl ?_
        refine zJ_istore_n (ls' := [(3, .int rn9), (0, .ref 0), (1, .int p1), (2, .int p2)]) dX11_quick_44 rfl rfl rfl ?_
        refine zJ_iload_n dX11_quick_45 rfl rfl ?_
        refine zJ_iconst dX11_quick_46 zc_m1 rfl ?_
        refine zJ_icmp_ne (tgt := 53) dX11_quick_47 (by decide) rfl (fun hc => ?_) (fun hc => ?_)
        · replace h := it_f hc h
          refine zJ_aload_n dX11_quick_53 rfl rfl ?_
          refine zJ_getr (mi := mX11_quick) dX11_quick_54 F_X11_19 zW_0 rfl rfl ?_
          obtain ⟨numbers_sizen10, hcl, h⟩ := bd1_some h
          refine zJ_callV (mi := mX11_quick) (yi := mX6_start) (as := []) (st := []) (L2 := ([(193, numbers_sizen10), (323, course_fences), (326, course_horseCount), (769, course_rule_size), (2180, letters_fencesn2)], [(6, course_kinds), (7, course_heights), (8, course_feet), (10, course_digits), (13, rule_codes), (15, rule_stackn3), (16, rule_thingsn4), (35, letters_fearsn5), (36, letters_tenthsn6), (37, letters_leastn7), (38, letters_spansn8)], [(4, numbers_told)])) dX11_quick_57 ML_X11_171 Yv_X6_start rfl zW_3 rfl rfl (t_X6_start l _ hcl) (zsub_i (zle_c rfl zle_n) zle_n zle_n) rfl (Nat.le_of_ble_eq_true rfl) (Nat.le_of_ble_eq_true rfl) rfl rfl ?_
          refine zJ_aload_n dX11_quick_60 rfl rfl ?_
          refine zJ_getr (mi := mX11_quick) dX11_quick_61 F_X11_19 zW_0 rfl rfl ?_
          refine zJ_aload_n dX11_quick_64 rfl rfl ?_
          refine zJ_getr (mi := mX11_quick) dX11_quick_65 F_X11_59 zW_0 rfl rfl ?_
          refine zJ_iload_n dX11_quick_68 rfl rfl ?_
          obtain ⟨rn11, hcl, h⟩ := bd1_some h
          refine zJ_callV (mi := mX11_quick) (yi := mX4_fearWith) (as := [.int rn9]) (st := [.ref 3]) (L2 := ([(193, numbers_sizen10), (323, course_fences), (326, course_horseCount), (769, course_rule_size), (2180, letters_fencesn2)], [(6, course_kinds), (7, course_heights), (8, course_feet), (10, course_digits), (13, rule_codes), (15, rule_stackn3), (16, rule_thingsn4), (35, letters_fearsn5), (36, letters_tenthsn6), (37, letters_leastn7), (38, letters_spansn8)], [(4, numbers_told)])) dX11_quick_69 ML_X11_226 Yv_X4_fearWith rfl zW_34 rfl rfl (t_X4_fearWith l _ hcl) (zsub_i (zle_c rfl zle_n) (zle_c rfl (zle_c rfl zle_n)) zle_n) rfl (Nat.le_of_ble_eq_true rfl) (Nat.le_of_ble_eq_true rfl) rfl rfl ?_
          refine zJ_i2l dX11_quick_72 rfl ?_
          obtain ⟨numbers_sizen12, numbers_toldn13, hcl, h⟩ := bd2_some h
          refine zJ_callV (mi := mX11_quick) (yi := mX6_put) (as := [.long rn11.toInt64]) (st := []) (L2 := ([(193, numbers_sizen12), (323, course_fences), (326, course_horseCount), (769, course_rule_size), (2180, letters_fencesn2)], [(6, course_kinds), (7, course_heights), (8, course_feet), (10, course_digits), (13, rule_codes), (15, rule_stackn3), (16, rule_thingsn4), (35, letters_fearsn5), (36, letters_tenthsn6), (37, letters_leastn7), (38, letters_spansn8)], [(4, numbers_toldn13)])) dX11_quick_73 ML_X11_177 Yv_X6_put rfl zW_3 rfl rfl (t_X6_put l _ hcl) (zsub_i (zle_c rfl zle_n) zle_n (zle_c rfl zle_n)) rfl (Nat.le_of_ble_eq_true rfl) (Nat.le_of_ble_eq_true rfl) rfl rfl ?_
          refine zJ_aload_n dX11_quick_76 rfl rfl ?_
          refine zJ_getr (mi := mX11_quick) dX11_quick_77 F_X11_59 zW_0 rfl rfl ?_
          refine zJ_aload_n dX11_quick_80 rfl rfl ?_
          refine zJ_getr (mi := mX11_quick) dX11_quick_81 F_X11_19 zW_0 rfl rfl ?_
          refine zJ_iload_n dX11_quick_84 rfl rfl ?_
          obtain ⟨numbers_sizen14, numbers_toldn15, hcl, h⟩ := bd2_some h
          refine zJ_callV (mi := mX11_quick) (yi := mX4_tell) (as := [.ref 3, .int rn9]) (st := []) (L2 := ([(193, numbers_sizen14), (323, course_fences), (326, course_horseCount), (769, course_rule_size), (2180, letters_fencesn2)], [(6, course_kinds), (7, course_heights), (8, course_feet), (10, course_digits), (13, rule_codes), (15, rule_stackn3), (16, rule_thingsn4), (35, letters_fearsn5), (36, letters_tenthsn6), (37, letters_leastn7), (38, letters_spansn8)], [(4, numbers_toldn15)])) dX11_quick_85 ML_X11_229 Yv_X4_tell rfl zW_34 rfl rfl (t_X4_tell l _ hcl) (zsub_i (zle_c rfl (zle_c rfl zle_n)) (zle_c rfl (zle_c rfl (zle_c rfl (zle_c rfl zle_n)))) (zle_c rfl zle_n)) rfl (Nat.le_of_ble_eq_true rfl) (Nat.le_of_ble_eq_true rfl) rfl rfl ?_
          refine zJ_iload_n dX11_quick_88 rfl rfl ?_
          obtain ⟨rfl, rfl, rfl, rfl, rfl, rfl, rfl, rfl, rfl, rfl⟩ := so10 h
          exact zJ_iret dX11_quick_89 rfl rfl
        · replace h := it_t hc h
          refine zJ_bipush dX11_quick_50 zb_m2 rfl ?_
          obtain ⟨rfl, rfl, rfl, rfl, rfl, rfl, rfl, rfl, rfl, rfl⟩ := so10 h
          exact zJ_iret dX11_quick_52 rfl rfl
      · replace h := it_f hc h
        refine zJ_iconst dX11_quick_22 zc_m1 rfl ?_
        obtain ⟨rfl, rfl, rfl, rfl, rfl, rfl, rfl, rfl, rfl, rfl⟩ := so10 h
        exact zJ_iret dX11_quick_23 rfl rfl
set_option maxRecDepth 100000 in
set_option maxHeartbeats 4000000 in
theorem t_X11_raise (l : Launch) (σ : zS) {p1 : Int32} {p2 : Int32} {course_fences : Int32} {course_heights : (Nat → Int32)} {r : Int32} {w_course_heights : (Nat → Int32)} (h : f_X11_raise p1 p2 course_fences course_heights = some (r, w_course_heights)) : zMt l zW 1 mX11_raise σ ([(323, course_fences)], [(7, course_heights)], []) [.ref 0, .int p1, .int p2] (some (.int r)) ([(323, course_fences)], [(7, w_course_heights)], []) := by
  refine zMt_of (ls := [(0, .ref 0), (1, .int p1), (2, .int p2)]) (by decide) rfl (fun _ => Nat.le_of_ble_eq_true rfl) rfl ?_
  unfold f_X11_raise at h
  refine zJ_aload_n dX11_raise_0 rfl rfl ?_
  refine zJ_getr (mi := mX11_raise) dX11_raise_1 F_X11_26 zW_0 rfl rfl ?_
  refine zJ_iload_n dX11_raise_4 rfl rfl ?_
  obtain ⟨rn1, hcl, h⟩ := bd1_some h
  refine zJ_callV (mi := mX11_raise) (yi := mX1_hasFence) (as := [.int p1]) (st := []) (L2 := ([(323, course_fences)], [(7, course_heights)], [])) dX11_raise_5 ML_X11_132 Yv_X1_hasFence rfl zW_5 rfl rfl (t_X1_hasFence l _ hcl) (zsub_i (zle_c rfl zle_n) zle_n zle_n) rfl (Nat.le_of_ble_eq_true rfl) (Nat.le_of_ble_eq_true rfl) rfl rfl ?_
  refine zJ_if_eq (tgt := 21) dX11_raise_8 (by decide) rfl (fun hc => ?_) (fun hc => ?_)
  · replace h := it_t hc h
    refine zJ_iconst dX11_raise_21 zc_m1 rfl ?_
    obtain ⟨rfl, rfl⟩ := so2 h
    exact zJ_iret dX11_raise_22 rfl rfl
  · replace h := it_f hc h
    refine zJ_iload_n dX11_raise_11 rfl rfl ?_
    refine zJ_if_lt (tgt := 21) dX11_raise_12 (by decide) rfl (fun hc => ?_) (fun hc => ?_)
    · replace h := it_t hc h
      refine zJ_iconst dX11_raise_21 zc_m1 rfl ?_
      obtain ⟨rfl, rfl⟩ := so2 h
      exact zJ_iret dX11_raise_22 rfl rfl
    · replace h := it_f hc h
      refine zJ_iload_n dX11_raise_15 rfl rfl ?_
      refine zJ_bipush dX11_raise_16 zb_9 rfl ?_
      refine zJ_icmp_le (tgt := 23) dX11_raise_18 (by decide) rfl (fun hc => ?_) (fun hc => ?_)
      · replace h := it_t hc h
        refine zJ_aload_n dX11_raise_23 rfl rfl ?_
        refine zJ_getr (mi := mX11_raise) dX11_raise_24 F_X11_26 zW_0 rfl rfl ?_
        refine zJ_getr (mi := mX11_raise) dX11_raise_27 F_X11_141 zW_5 rfl rfl ?_
        refine zJ_iload_n dX11_raise_30 rfl rfl ?_
        obtain ⟨hg, h⟩ := gd_some h
        refine zJ_iald (mi := mX11_raise) (f := course_heights) dX11_raise_31 zW_7 (ix_in hg) rfl rfl ?_
        obtain ⟨v3n2, ev3n2, h⟩ := lt1_some h
        refine zJ_nmi ev3n2 ?_
        refine zJ_istore_n (ls' := [(3, .int v3n2), (0, .ref 0), (1, .int p1), (2, .int p2)]) dX11_raise_32 rfl rfl rfl ?_
        refine zJ_aload_n dX11_raise_33 rfl rfl ?_
        refine zJ_getr (mi := mX11_raise) dX11_raise_34 F_X11_26 zW_0 rfl rfl ?_
        refine zJ_getr (mi := mX11_raise) dX11_raise_37 F_X11_141 zW_5 rfl rfl ?_
        refine zJ_iload_n dX11_raise_40 rfl rfl ?_
        refine zJ_iload_n dX11_raise_41 rfl rfl ?_
        obtain ⟨hg, h⟩ := gd_some h
        refine zK_iast (mi := mX11_raise) (f := course_heights) (lb' := [(7, (upd course_heights p1.toNatClampNeg p2))]) dX11_raise_42 zW_7 (ix_in hg) rfl rfl rfl ?_
        refine zJ_iload_n dX11_raise_43 rfl rfl ?_
        obtain ⟨rfl, rfl⟩ := so2 h
        exact zJ_iret dX11_raise_44 rfl rfl
      · replace h := it_f hc h
        refine zJ_iconst dX11_raise_21 zc_m1 rfl ?_
        obtain ⟨rfl, rfl⟩ := so2 h
        exact zJ_iret dX11_raise_22 rfl rfl
set_option maxRecDepth 100000 in
set_option maxHeartbeats 4000000 in
theorem t_X8_commit_history (l : Launch) (σ : zS) {history_slots : Int32} {history_count : Int32} {history_cells : (Nat → Int32)} {history_sizes : (Nat → Int32)} {w_history_count : Int32} {w_history_cells : (Nat → Int32)} {w_history_sizes : (Nat → Int32)} (h : f_X8_commit_history history_slots history_count history_cells history_sizes = some (w_history_count, w_history_cells, w_history_sizes)) : zMt l zW 1 mX8_commit σ ([(1728, history_slots), (1731, history_count)], [(28, history_cells), (29, history_sizes)], []) [.ref 27] none ([(1728, history_slots), (1731, w_history_count)], [(28, w_history_cells), (29, w_history_sizes)], []) := by
  refine zMt_of (ls := [(0, .ref 27)]) (by decide) rfl (fun _ => Nat.le_of_ble_eq_true rfl) rfl ?_
  unfold f_X8_commit_history at h
  refine zJ_aload_n dX8_commit_0 rfl rfl ?_
  refine zJ_geti (mi := mX8_commit) (x := history_count) dX8_commit_1 F_X8_34 zW_27 rfl rfl rfl ?_
  refine zJ_aload_n dX8_commit_4 rfl rfl ?_
  refine zJ_geti (mi := mX8_commit) (x := history_slots) dX8_commit_5 F_X8_15 zW_27 rfl rfl rfl ?_
  refine zJ_iconst dX8_commit_8 zc_1 rfl ?_
  refine zJ_isub dX8_commit_9 rfl ?_
  refine zJ_icmp_ge (tgt := 24) dX8_commit_10 (by decide) rfl (fun hc => ?_) (fun hc => ?_)
  · replace h := it_t hc h
    refine zJ_aload_n dX8_commit_24 rfl rfl ?_
    refine zJ_getr (mi := mX8_commit) dX8_commit_25 F_X8_21 zW_27 rfl rfl ?_
    refine zJ_bipush dX8_commit_28 zb_48 rfl ?_
    refine zJ_aload_n dX8_commit_30 rfl rfl ?_
    refine zJ_getr (mi := mX8_commit) dX8_commit_31 F_X8_21 zW_27 rfl rfl ?_
    refine zJ_iconst dX8_commit_34 zc_0 rfl ?_
    refine zJ_aload_n dX8_commit_35 rfl rfl ?_
    refine zJ_geti (mi := mX8_commit) (x := history_slots) dX8_commit_36 F_X8_15 zW_27 rfl rfl rfl ?_
    refine zJ_iconst dX8_commit_39 zc_1 rfl ?_
    refine zJ_isub dX8_commit_40 rfl ?_
    refine zJ_bipush dX8_commit_41 zb_48 rfl ?_
    refine zJ_imul dX8_commit_43 rfl ?_
    obtain ⟨hg, h⟩ := gd_some h
    refine zK_copyi (mi := mX8_commit) (f := history_cells) (g := history_cells) (lb' := [(28, (va_cpy history_cells history_cells (48 : Int32).toNatClampNeg (0 : Int32).toNatClampNeg ((history_slots - (1 : Int32)) * (48 : Int32)).toNatClampNeg)), (29, history_sizes)]) dX8_commit_44 L_X8_42 K_cpy_n K_cpy_s K_sys zW_28 zW_28 rfl rfl (cpok_s hg) (Nat.le_of_ble_eq_true rfl) (Nat.le_of_ble_eq_true rfl) rfl rfl ?_
    refine zJ_aload_n dX8_commit_47 rfl rfl ?_
    refine zJ_getr (mi := mX8_commit) dX8_commit_48 F_X8_25 zW_27 rfl rfl ?_
    refine zJ_iconst dX8_commit_51 zc_1 rfl ?_
    refine zJ_aload_n dX8_commit_52 rfl rfl ?_
    refine zJ_getr (mi := mX8_commit) dX8_commit_53 F_X8_25 zW_27 rfl rfl ?_
    refine zJ_iconst dX8_commit_56 zc_0 rfl ?_
    refine zJ_aload_n dX8_commit_57 rfl rfl ?_
    refine zJ_geti (mi := mX8_commit) (x := history_slots) dX8_commit_58 F_X8_15 zW_27 rfl rfl rfl ?_
    refine zJ_iconst dX8_commit_61 zc_1 rfl ?_
    refine zJ_isub dX8_commit_62 rfl ?_
    obtain ⟨hg, h⟩ := gd_some h
    refine zK_copyi (mi := mX8_commit) (f := history_sizes) (g := history_sizes) (lb' := [(28, (va_cpy history_cells history_cells (48 : Int32).toNatClampNeg (0 : Int32).toNatClampNeg ((history_slots - (1 : Int32)) * (48 : Int32)).toNatClampNeg)), (29, (va_cpy history_sizes history_sizes (1 : Int32).toNatClampNeg (0 : Int32).toNatClampNeg (history_slots - (1 : Int32)).toNatClampNeg))]) dX8_commit_63 L_X8_42 K_cpy_n K_cpy_s K_sys zW_29 zW_29 rfl rfl (cpok_s hg) (Nat.le_of_ble_eq_true rfl) (Nat.le_of_ble_eq_true rfl) rfl rfl ?_
    obtain ⟨rfl, rfl, rfl⟩ := so3 h
    exact zJ_vret dX8_commit_66 rfl
  · replace h := it_f hc h
    refine zJ_aload_n dX8_commit_13 rfl rfl ?_
    refine zJ_dup dX8_commit_14 rfl rfl ?_
    refine zJ_geti (mi := mX8_commit) (x := history_count) dX8_commit_15 F_X8_34 zW_27 rfl rfl rfl ?_
    refine zJ_iconst dX8_commit_18 zc_1 rfl ?_
    refine zJ_iadd dX8_commit_19 rfl ?_
    refine zK_puti (mi := mX8_commit) (la' := [(1728, history_slots), (1731, (history_count + (1 : Int32)))]) zW_ok dX8_commit_20 F_X8_34 P_8_3 zW_27 rfl rfl rfl ?_
    obtain ⟨rfl, rfl, rfl⟩ := so3 h
    exact zJ_vret dX8_commit_23 rfl
set_option maxRecDepth 100000 in
set_option maxHeartbeats 4000000 in
theorem t_X8_store_history (l : Launch) (σ : zS) {p1 : Int32} {rounds_size : Int32} {history_slots : Int32} {rounds_riders : (Nat → Int32)} {rounds_horses : (Nat → Int32)} {rounds_faults : (Nat → Int32)} {rounds_tenths : (Nat → Int32)} {history_cells : (Nat → Int32)} {history_sizes : (Nat → Int32)} {r : Int32} {w_history_cells : (Nat → Int32)} {w_history_sizes : (Nat → Int32)} (h : f_X8_store_history p1 rounds_size history_slots rounds_riders rounds_horses rounds_faults rounds_tenths history_cells history_sizes = some (r, w_history_cells, w_history_sizes)) : zMt l zW 1 mX8_store σ ([(1284, rounds_size), (1728, history_slots)], [(21, rounds_riders), (22, rounds_horses), (23, rounds_faults), (24, rounds_tenths), (28, history_cells), (29, history_sizes)], []) [.ref 27, .int p1, .ref 20] (some (.int r)) ([(1284, rounds_size), (1728, history_slots)], [(21, rounds_riders), (22, rounds_horses), (23, rounds_faults), (24, rounds_tenths), (28, w_history_cells), (29, w_history_sizes)], []) := by
  refine zMt_of (ls := [(0, .ref 27), (1, .int p1), (2, .ref 20)]) (by decide) rfl (fun _ => Nat.le_of_ble_eq_true rfl) rfl ?_
  unfold f_X8_store_history at h
  refine zJ_iload_n dX8_store_0 rfl rfl ?_
  refine zJ_if_lt (tgt := 12) dX8_store_1 (by decide) rfl (fun hc => ?_) (fun hc => ?_)
  · replace h := it_t hc h
    refine zJ_iconst dX8_store_12 zc_0 rfl ?_
    obtain ⟨rfl, rfl, rfl⟩ := so3 h
    exact zJ_iret dX8_store_13 rfl (by decide)
  · replace h := it_f hc h
    refine zJ_iload_n dX8_store_4 rfl rfl ?_
    refine zJ_aload_n dX8_store_5 rfl rfl ?_
    refine zJ_geti (mi := mX8_store) (x := history_slots) dX8_store_6 F_X8_15 zW_27 rfl rfl rfl ?_
    refine zJ_icmp_lt (tgt := 14) dX8_store_9 (by decide) rfl (fun hc => ?_) (fun hc => ?_)
    · replace h := it_t hc h
      refine zJ_iload_n dX8_store_14 rfl rfl ?_
      refine zJ_bipush dX8_store_15 zb_48 rfl ?_
      refine zJ_imul dX8_store_17 rfl ?_
      obtain ⟨v3n1, ev3n1, h⟩ := lt1_some h
      refine zJ_nmi ev3n1 ?_
      refine zJ_istore_n (ls' := [(3, .int v3n1), (0, .ref 27), (1, .int p1), (2, .ref 20)]) dX8_store_18 rfl rfl rfl ?_
      refine zJ_aload_n dX8_store_19 rfl rfl ?_
      refine zJ_getr (mi := mX8_store) dX8_store_20 F_X8_37 zW_20 rfl rfl ?_
      refine zJ_iconst dX8_store_23 zc_0 rfl ?_
      refine zJ_aload_n dX8_store_24 rfl rfl ?_
      refine zJ_getr (mi := mX8_store) dX8_store_25 F_X8_21 zW_27 rfl rfl ?_
      refine zJ_iload_n dX8_store_28 rfl rfl ?_
      refine zJ_bipush dX8_store_29 zb_12 rfl ?_
      obtain ⟨hg, h⟩ := gd_some h
      refine zK_copyi (mi := mX8_store) (f := rounds_riders) (g := history_cells) (lb' := [(21, rounds_riders), (22, rounds_horses), (23, rounds_faults), (24, rounds_tenths), (28, (va_cpy rounds_riders history_cells (0 : Int32).toNatClampNeg v3n1.toNatClampNeg (12 : Int32).toNatClampNeg)), (29, history_sizes)]) dX8_store_31 L_X8_42 K_cpy_n K_cpy_s K_sys zW_21 zW_28 rfl rfl (cpok_s hg) (Nat.le_of_ble_eq_true rfl) (Nat.le_of_ble_eq_true rfl) rfl rfl ?_
      refine zJ_aload_n dX8_store_34 rfl rfl ?_
      refine zJ_getr (mi := mX8_store) dX8_store_35 F_X8_48 zW_20 rfl rfl ?_
      refine zJ_iconst dX8_store_38 zc_0 rfl ?_
      refine zJ_aload_n dX8_store_39 rfl rfl ?_
      refine zJ_getr (mi := mX8_store) dX8_store_40 F_X8_21 zW_27 rfl rfl ?_
      refine zJ_iload_n dX8_store_43 rfl rfl ?_
      refine zJ_bipush dX8_store_44 zb_12 rfl ?_
      refine zJ_iadd dX8_store_46 rfl ?_
      refine zJ_bipush dX8_store_47 zb_12 rfl ?_
      obtain ⟨hg, h⟩ := gd_some h
      refine zK_copyi (mi := mX8_store) (f := rounds_horses) (g := ((va_cpy rounds_riders history_cells (0 : Int32).toNatClampNeg v3n1.toNatClampNeg (12 : Int32).toNatClampNeg))) (lb' := [(21, rounds_riders), (22, rounds_horses), (23, rounds_faults), (24, rounds_tenths), (28, (va_cpy rounds_horses ((va_cpy rounds_riders history_cells (0 : Int32).toNatClampNeg v3n1.toNatClampNeg (12 : Int32).toNatClampNeg)) (0 : Int32).toNatClampNeg (v3n1 + (12 : Int32)).toNatClampNeg (12 : Int32).toNatClampNeg)), (29, history_sizes)]) dX8_store_49 L_X8_42 K_cpy_n K_cpy_s K_sys zW_22 zW_28 rfl rfl (cpok_s hg) (Nat.le_of_ble_eq_true rfl) (Nat.le_of_ble_eq_true rfl) rfl rfl ?_
      refine zJ_aload_n dX8_store_52 rfl rfl ?_
      refine zJ_getr (mi := mX8_store) dX8_store_53 F_X8_51 zW_20 rfl rfl ?_
      refine zJ_iconst dX8_store_56 zc_0 rfl ?_
      refine zJ_aload_n dX8_store_57 rfl rfl ?_
      refine zJ_getr (mi := mX8_store) dX8_store_58 F_X8_21 zW_27 rfl rfl ?_
      refine zJ_iload_n dX8_store_61 rfl rfl ?_
      refine zJ_bipush dX8_store_62 zb_24 rfl ?_
      refine zJ_iadd dX8_store_64 rfl ?_
      refine zJ_bipush dX8_store_65 zb_12 rfl ?_
      obtain ⟨hg, h⟩ := gd_some h
      refine zK_copyi (mi := mX8_store) (f := rounds_faults) (g := ((va_cpy rounds_horses ((va_cpy rounds_riders history_cells (0 : Int32).toNatClampNeg v3n1.toNatClampNeg (12 : Int32).toNatClampNeg)) (0 : Int32).toNatClampNeg (v3n1 + (12 : Int32)).toNatClampNeg (12 : Int32).toNatClampNeg))) (lb' := [(21, rounds_riders), (22, rounds_horses), (23, rounds_faults), (24, rounds_tenths), (28, (va_cpy rounds_faults ((va_cpy rounds_horses ((va_cpy rounds_riders history_cells (0 : Int32).toNatClampNeg v3n1.toNatClampNeg (12 : Int32).toNatClampNeg)) (0 : Int32).toNatClampNeg (v3n1 + (12 : Int32)).toNatClampNeg (12 : Int32).toNatClampNeg)) (0 : Int32).toNatClampNeg (v3n1 + (24 : Int32)).toNatClampNeg (12 : Int32).toNatClampNeg)), (29, history_sizes)]) dX8_store_67 L_X8_42 K_cpy_n K_cpy_s K_sys zW_23 zW_28 rfl rfl (cpok_s hg) (Nat.le_of_ble_eq_true rfl) (Nat.le_of_ble_eq_true rfl) rfl rfl ?_
      refine zJ_aload_n dX8_store_70 rfl rfl ?_
      refine zJ_getr (mi := mX8_store) dX8_store_71 F_X8_54 zW_20 rfl rfl ?_
      refine zJ_iconst dX8_store_74 zc_0 rfl ?_
      refine zJ_aload_n dX8_store_75 rfl rfl ?_
      refine zJ_getr (mi := mX8_store) dX8_store_76 F_X8_21 zW_27 rfl rfl ?_
      refine zJ_iload_n dX8_store_79 rfl rfl ?_
      refine zJ_bipush dX8_store_80 zb_36 rfl ?_
      refine zJ_iadd dX8_store_82 rfl ?_
      refine zJ_bipush dX8_store_83 zb_12 rfl ?_
      obtain ⟨hg, h⟩ := gd_some h
      refine zK_copyi (mi := mX8_store) (f := rounds_tenths) (g := ((va_cpy rounds_faults ((va_cpy rounds_horses ((va_cpy rounds_riders history_cells (0 : Int32).toNatClampNeg v3n1.toNatClampNeg (12 : Int32).toNatClampNeg)) (0 : Int32).toNatClampNeg (v3n1 + (12 : Int32)).toNatClampNeg (12 : Int32).toNatClampNeg)) (0 : Int32).toNatClampNeg (v3n1 + (24 : Int32)).toNatClampNeg (12 : Int32).toNatClampNeg))) (lb' := [(21, rounds_riders), (22, rounds_horses), (23, rounds_faults), (24, rounds_tenths), (28, (va_cpy rounds_tenths ((va_cpy rounds_faults ((va_cpy rounds_horses ((va_cpy rounds_riders history_cells (0 : Int32).toNatClampNeg v3n1.toNatClampNeg (12 : Int32).toNatClampNeg)) (0 : Int32).toNatClampNeg (v3n1 + (12 : Int32)).toNatClampNeg (12 : Int32).toNatClampNeg)) (0 : Int32).toNatClampNeg (v3n1 + (24 : Int32)).toNatClampNeg (12 : Int32).toNatClampNeg)) (0 : Int32).toNatClampNeg (v3n1 + (36 : Int32)).toNatClampNeg (12 : Int32).toNatClampNeg)), (29, history_sizes)]) dX8_store_85 L_X8_42 K_cpy_n K_cpy_s K_sys zW_24 zW_28 rfl rfl (cpok_s hg) (Nat.le_of_ble_eq_true rfl) (Nat.le_of_ble_eq_true rfl) rfl rfl ?_
      refine zJ_aload_n dX8_store_88 rfl rfl ?_
      refine zJ_getr (mi := mX8_store) dX8_store_89 F_X8_25 zW_27 rfl rfl ?_
      refine zJ_iload_n dX8_store_92 rfl rfl ?_
      refine zJ_aload_n dX8_store_93 rfl rfl ?_
      refine zJ_geti (mi := mX8_store) (x := rounds_size) dX8_store_94 F_X8_57 zW_20 rfl rfl rfl ?_
      obtain ⟨hg, h⟩ := gd_some h
      refine zK_iast (mi := mX8_store) (f := history_sizes) (lb' := [(21, rounds_riders), (22, rounds_horses), (23, rounds_faults), (24, rounds_tenths), (28, (va_cpy rounds_tenths ((va_cpy rounds_faults ((va_cpy rounds_horses ((va_cpy rounds_riders history_cells (0 : Int32).toNatClampNeg v3n1.toNatClampNeg (12 : Int32).toNatClampNeg)) (0 : Int32).toNatClampNeg (v3n1 + (12 : Int32)).toNatClampNeg (12 : Int32).toNatClampNeg)) (0 : Int32).toNatClampNeg (v3n1 + (24 : Int32)).toNatClampNeg (12 : Int32).toNatClampNeg)) (0 : Int32).toNatClampNeg (v3n1 + (36 : Int32)).toNatClampNeg (12 : Int32).toNatClampNeg)), (29, (upd history_sizes p1.toNatClampNeg rounds_size))]) dX8_store_97 zW_29 (ix_in hg) rfl rfl rfl ?_
      refine zJ_iconst dX8_store_98 zc_1 rfl ?_
      obtain ⟨rfl, rfl, rfl⟩ := so3 h
      exact zJ_iret dX8_store_99 rfl (by decide)
    · replace h := it_f hc h
      refine zJ_iconst dX8_store_12 zc_0 rfl ?_
      obtain ⟨rfl, rfl, rfl⟩ := so3 h
      exact zJ_iret dX8_store_13 rfl (by decide)
set_option maxRecDepth 100000 in
set_option maxHeartbeats 4000000 in
theorem t_X8_mark_history (l : Launch) (σ : zS) {rounds_size : Int32} {history_slots : Int32} {history_count : Int32} {rounds_riders : (Nat → Int32)} {rounds_horses : (Nat → Int32)} {rounds_faults : (Nat → Int32)} {rounds_tenths : (Nat → Int32)} {history_cells : (Nat → Int32)} {history_sizes : (Nat → Int32)} {w_history_cells : (Nat → Int32)} {w_history_sizes : (Nat → Int32)} (h : f_X8_mark_history rounds_size history_slots history_count rounds_riders rounds_horses rounds_faults rounds_tenths history_cells history_sizes = some (w_history_cells, w_history_sizes)) : zMt l zW 2 mX8_mark σ ([(1284, rounds_size), (1728, history_slots), (1731, history_count)], [(21, rounds_riders), (22, rounds_horses), (23, rounds_faults), (24, rounds_tenths), (28, history_cells), (29, history_sizes)], []) [.ref 27, .ref 20] none ([(1284, rounds_size), (1728, history_slots), (1731, history_count)], [(21, rounds_riders), (22, rounds_horses), (23, rounds_faults), (24, rounds_tenths), (28, w_history_cells), (29, w_history_sizes)], []) := by
  refine zMt_of (ls := [(0, .ref 27), (1, .ref 20)]) (by decide) rfl (fun _ => Nat.le_of_ble_eq_true rfl) rfl ?_
  unfold f_X8_mark_history at h
  refine zJ_aload_n dX8_mark_0 rfl rfl ?_
  refine zJ_aload_n dX8_mark_1 rfl rfl ?_
  refine zJ_geti (mi := mX8_mark) (x := history_count) dX8_mark_2 F_X8_34 zW_27 rfl rfl rfl ?_
  refine zJ_aload_n dX8_mark_5 rfl rfl ?_
  obtain ⟨rn1, history_cellsn2, history_sizesn3, hcl, h⟩ := bd3_some h
  refine zJ_callV (mi := mX8_mark) (yi := mX8_store) (as := [.int history_count, .ref 20]) (st := []) (L2 := ([(1284, rounds_size), (1728, history_slots), (1731, history_count)], [(21, rounds_riders), (22, rounds_horses), (23, rounds_faults), (24, rounds_tenths), (28, history_cellsn2), (29, history_sizesn3)], [])) dX8_mark_6 ML_X8_60 Yv_X8_store rfl zW_27 rfl rfl (t_X8_store_history l _ hcl) (zsub_i (zle_c rfl (zle_c rfl zle_n)) (zle_c rfl (zle_c rfl (zle_c rfl (zle_c rfl (zle_c rfl (zle_c rfl zle_n)))))) zle_n) rfl (Nat.le_of_ble_eq_true rfl) (Nat.le_of_ble_eq_true rfl) rfl rfl ?_
  refine zJ_pop dX8_mark_9 rfl rfl ?_
  obtain ⟨rfl, rfl⟩ := so2 h
  exact zJ_vret dX8_mark_10 rfl
set_option maxRecDepth 100000 in
set_option maxHeartbeats 4000000 in
theorem t_X11_ride (l : Launch) (σ : zS) {p1 : Int32} {p2 : Int32} {p3 : Int32} {p4 : Int32} {numbers_size : Int32} {course_fences : Int32} {course_horseCount : Int32} {course_planCount : Int32} {course_allowed : Int32} {course_rule_size : Int32} {rounds_size : Int32} {history_slots : Int32} {history_count : Int32} {drawn_state : Int32} {drawn_faults : Int32} {drawn_tenths : Int32} {drawn_refused : Int32} {drawn_fallen : Int32} {course_kinds : (Nat → Int32)} {course_heights : (Nat → Int32)} {course_feet : (Nat → Int32)} {course_digits : (Nat → Int32)} {course_plans : (Nat → Int32)} {rule_codes : (Nat → Int32)} {rule_stack : (Nat → Int32)} {rule_things : (Nat → Int32)} {rounds_riders : (Nat → Int32)} {rounds_horses : (Nat → Int32)} {rounds_faults : (Nat → Int32)} {rounds_tenths : (Nat → Int32)} {history_cells : (Nat → Int32)} {history_sizes : (Nat → Int32)} {numbers_told : (Nat → Int64)} {r : Int32} {w_numbers_size : Int32} {w_rounds_size : Int32} {w_history_count : Int32} {w_drawn_state : Int32} {w_drawn_faults : Int32} {w_drawn_tenths : Int32} {w_drawn_refused : Int32} {w_drawn_fallen : Int32} {w_rule_stack : (Nat → Int32)} {w_rule_things : (Nat → Int32)} {w_rounds_riders : (Nat → Int32)} {w_rounds_horses : (Nat → Int32)} {w_rounds_faults : (Nat → Int32)} {w_rounds_tenths : (Nat → Int32)} {w_history_cells : (Nat → Int32)} {w_history_sizes : (Nat → Int32)} {w_numbers_told : (Nat → Int64)} (h : f_X11_ride p1 p2 p3 p4 numbers_size course_fences course_horseCount course_planCount course_allowed course_rule_size rounds_size history_slots history_count drawn_state drawn_faults drawn_tenths drawn_refused drawn_fallen course_kinds course_heights course_feet course_digits course_plans rule_codes rule_stack rule_things rounds_riders rounds_horses rounds_faults rounds_tenths history_cells history_sizes numbers_told = some (r, w_numbers_size, w_rounds_size, w_history_count, w_drawn_state, w_drawn_faults, w_drawn_tenths, w_drawn_refused, w_drawn_fallen, w_rule_stack, w_rule_things, w_rounds_riders, w_rounds_horses, w_rounds_faults, w_rounds_tenths, w_history_cells, w_history_sizes, w_numbers_told)) : zMt l zW 6 mX11_ride σ ([(193, numbers_size), (323, course_fences), (326, course_horseCount), (328, course_planCount), (329, course_allowed), (769, course_rule_size), (1284, rounds_size), (1728, history_slots), (1731, history_count), (2112, drawn_state), (2113, drawn_faults), (2114, drawn_tenths), (2115, drawn_refused), (2116, drawn_fallen)], [(6, course_kinds), (7, course_heights), (8, course_feet), (10, course_digits), (11, course_plans), (13, rule_codes), (15, rule_stack), (16, rule_things), (21, rounds_riders), (22, rounds_horses), (23, rounds_faults), (24, rounds_tenths), (28, history_cells), (29, history_sizes)], [(4, numbers_told)]) [.ref 0, .int p1, .int p2, .int p3, .int p4] (some (.int r)) ([(193, w_numbers_size), (323, course_fences), (326, course_horseCount), (328, course_planCount), (329, course_allowed), (769, course_rule_size), (1284, w_rounds_size), (1728, history_slots), (1731, w_history_count), (2112, w_drawn_state), (2113, w_drawn_faults), (2114, w_drawn_tenths), (2115, w_drawn_refused), (2116, w_drawn_fallen)], [(6, course_kinds), (7, course_heights), (8, course_feet), (10, course_digits), (11, course_plans), (13, rule_codes), (15, w_rule_stack), (16, w_rule_things), (21, w_rounds_riders), (22, w_rounds_horses), (23, w_rounds_faults), (24, w_rounds_tenths), (28, w_history_cells), (29, w_history_sizes)], [(4, w_numbers_told)]) := by
  refine zMt_of (ls := [(0, .ref 0), (1, .int p1), (2, .int p2), (3, .int p3), (4, .int p4)]) (by decide) rfl (fun _ => Nat.le_of_ble_eq_true rfl) rfl ?_
  unfold f_X11_ride at h
  refine zJ_aload_n dX11_ride_0 rfl rfl ?_
  refine zJ_getr (mi := mX11_ride) dX11_ride_1 F_X11_42 zW_0 rfl rfl ?_
  refine zJ_aload_n dX11_ride_4 rfl rfl ?_
  refine zJ_getr (mi := mX11_ride) dX11_ride_5 F_X11_33 zW_0 rfl rfl ?_
  obtain ⟨history_cellsn1, history_sizesn2, hcl, h⟩ := bd2_some h
  refine zJ_callV (mi := mX11_ride) (yi := mX8_mark) (as := [.ref 20]) (st := []) (L2 := ([(193, numbers_size), (323, course_fences), (326, course_horseCount), (328, course_planCount), (329, course_allowed), (769, course_rule_size), (1284, rounds_size), (1728, history_slots), (1731, history_count), (2112, drawn_state), (2113, drawn_faults), (2114, drawn_tenths), (2115, drawn_refused), (2116, drawn_fallen)], [(6, course_kinds), (7, course_heights), (8, course_feet), (10, course_digits), (11, course_plans), (13, rule_codes), (15, rule_stack), (16, rule_things), (21, rounds_riders), (22, rounds_horses), (23, rounds_faults), (24, rounds_tenths), (28, history_cellsn1), (29, history_sizesn2)], [(4, numbers_told)])) dX11_ride_8 ML_X11_236 Yv_X8_mark rfl zW_27 rfl rfl (t_X8_mark_history l _ hcl) (zsub_i (zle_c rfl (zle_c rfl (zle_c rfl zle_n))) (zle_c rfl (zle_c rfl (zle_c rfl (zle_c rfl (zle_c rfl (zle_c rfl zle_n)))))) zle_n) rfl (Nat.le_of_ble_eq_true rfl) (Nat.le_of_ble_eq_true rfl) rfl rfl ?_
  refine zJ_aload_n dX11_ride_11 rfl rfl ?_
  refine zJ_iload_n dX11_ride_12 rfl rfl ?_
  refine zJ_iload_n dX11_ride_13 rfl rfl ?_
  refine zJ_iload_n dX11_ride_14 rfl rfl ?_
  refine zJ_iload dX11_ride_15 rfl rfl ?_
  obtain ⟨rn3, rounds_sizen4, drawn_staten5, drawn_faultsn6, drawn_tenthsn7, drawn_refusedn8, drawn_fallenn9, rule_stackn10, rule_thingsn11, rounds_ridersn12, rounds_horsesn13, rounds_faultsn14, rounds_tenthsn15, hcl, h⟩ := bd13_some h
  refine zJ_callV (mi := mX11_ride) (yi := mX11_addRide) (as := [.int p1, .int p2, .int p3, .int p4]) (st := []) (L2 := ([(193, numbers_size), (323, course_fences), (326, course_horseCount), (328, course_planCount), (329, course_allowed), (769, course_rule_size), (1284, rounds_sizen4), (1728, history_slots), (1731, history_count), (2112, drawn_staten5), (2113, drawn_faultsn6), (2114, drawn_tenthsn7), (2115, drawn_refusedn8), (2116, drawn_fallenn9)], [(6, course_kinds), (7, course_heights), (8, course_feet), (10, course_digits), (11, course_plans), (13, rule_codes), (15, rule_stackn10), (16, rule_thingsn11), (21, rounds_ridersn12), (22, rounds_horsesn13), (23, rounds_faultsn14), (24, rounds_tenthsn15), (28, history_cellsn1), (29, history_sizesn2)], [(4, numbers_told)])) dX11_ride_17 ML_X11_240 Yv_X11_addRide rfl zW_0 rfl rfl (t_X11_addRide l _ hcl) (zsub_i (zle_c rfl (zle_c rfl (zle_c rfl (zle_c rfl (zle_c rfl (zle_c rfl (zle_c rfl (zle_c rfl (zle_c rfl (zle_c rfl (zle_c rfl zle_n))))))))))) (zle_c rfl (zle_c rfl (zle_c rfl (zle_c rfl (zle_c rfl (zle_c rfl (zle_c rfl (zle_c rfl (zle_c rfl (zle_c rfl (zle_c rfl (zle_c rfl zle_n)))))))))))) zle_n) rfl (Nat.le_of_ble_eq_true rfl) (Nat.le_of_ble_eq_true rfl) rfl rfl ?_
  refine zJ_istore (ls' := [(5, .int rn3), (0, .ref 0), (1, .int p1), (2, .int p2), (3, .int p3), (4, .int p4)]) dX11_ride_20 rfl rfl rfl ?_
  refine zJ_iload dX11_ride_22 rfl rfl ?_
  refine zJ_if_lt (tgt := 38) dX11_ride_24 (by decide) rfl (fun hc => ?_) (fun hc => ?_)
  · replace h := it_t hc h
    refine zJ_iload dX11_ride_38 rfl rfl ?_
    obtain ⟨rfl, rfl, rfl, rfl, rfl, rfl, rfl, rfl, rfl, rfl, rfl, rfl, rfl, rfl, rfl, rfl, rfl, rfl⟩ := so18 h
    exact zJ_iret dX11_ride_40 rfl rfl
  · replace h := it_f hc h
    refine zJ_aload_n dX11_ride_27 rfl rfl ?_
    refine zJ_getr (mi := mX11_ride) dX11_ride_28 F_X11_42 zW_0 rfl rfl ?_
    obtain ⟨history_countn16, history_cellsn17, history_sizesn18, hcl, h⟩ := bd3_some h
    refine zJ_callV (mi := mX11_ride) (yi := mX8_commit) (as := []) (st := []) (L2 := ([(193, numbers_size), (323, course_fences), (326, course_horseCount), (328, course_planCount), (329, course_allowed), (769, course_rule_size), (1284, rounds_sizen4), (1728, history_slots), (1731, history_countn16), (2112, drawn_staten5), (2113, drawn_faultsn6), (2114, drawn_tenthsn7), (2115, drawn_refusedn8), (2116, drawn_fallenn9)], [(6, course_kinds), (7, course_heights), (8, course_feet), (10, course_digits), (11, course_plans), (13, rule_codes), (15, rule_stackn10), (16, rule_thingsn11), (21, rounds_ridersn12), (22, rounds_horsesn13), (23, rounds_faultsn14), (24, rounds_tenthsn15), (28, history_cellsn17), (29, history_sizesn18)], [(4, numbers_told)])) dX11_ride_31 ML_X11_244 Yv_X8_commit rfl zW_27 rfl rfl (t_X8_commit_history l _ hcl) (zsub_i (zle_c rfl (zle_c rfl zle_n)) (zle_c rfl (zle_c rfl zle_n)) zle_n) rfl (Nat.le_of_ble_eq_true rfl) (Nat.le_of_ble_eq_true rfl) rfl rfl ?_
    refine zJ_aload_n dX11_ride_34 rfl rfl ?_
    obtain ⟨numbers_sizen19, numbers_toldn20, hcl, h⟩ := bd2_some h
    refine zJ_callV (mi := mX11_ride) (yi := mX11_tellDrawn) (as := []) (st := []) (L2 := ([(193, numbers_sizen19), (323, course_fences), (326, course_horseCount), (328, course_planCount), (329, course_allowed), (769, course_rule_size), (1284, rounds_sizen4), (1728, history_slots), (1731, history_countn16), (2112, drawn_staten5), (2113, drawn_faultsn6), (2114, drawn_tenthsn7), (2115, drawn_refusedn8), (2116, drawn_fallenn9)], [(6, course_kinds), (7, course_heights), (8, course_feet), (10, course_digits), (11, course_plans), (13, rule_codes), (15, rule_stackn10), (16, rule_thingsn11), (21, rounds_ridersn12), (22, rounds_horsesn13), (23, rounds_faultsn14), (24, rounds_tenthsn15), (28, history_cellsn17), (29, history_sizesn18)], [(4, numbers_toldn20)])) dX11_ride_35 ML_X11_247 Yv_X11_tellDrawn rfl zW_0 rfl rfl (t_X11_tellDrawn l _ hcl) (zsub_i (zle_c rfl (zle_c rfl (zle_c rfl (zle_c rfl (zle_c rfl zle_n))))) zle_n (zle_c rfl zle_n)) rfl (Nat.le_of_ble_eq_true rfl) (Nat.le_of_ble_eq_true rfl) rfl rfl ?_
    refine zJ_iload dX11_ride_38 rfl rfl ?_
    obtain ⟨rfl, rfl, rfl, rfl, rfl, rfl, rfl, rfl, rfl, rfl, rfl, rfl, rfl, rfl, rfl, rfl, rfl, rfl⟩ := so18 h
    exact zJ_iret dX11_ride_40 rfl rfl
set_option maxRecDepth 100000 in
set_option maxHeartbeats 4000000 in
theorem t_X11_riders (l : Launch) (σ : zS) {p1 : Int32} {p2 : Int32} {numbers_size : Int32} {course_horseCount : Int32} {rounds_size : Int32} {rounds_riders : (Nat → Int32)} {rounds_horses : (Nat → Int32)} {rounds_faults : (Nat → Int32)} {numbers_told : (Nat → Int64)} {r : Int32} {w_numbers_size : Int32} {w_numbers_told : (Nat → Int64)} (h : f_X11_riders p1 p2 numbers_size course_horseCount rounds_size rounds_riders rounds_horses rounds_faults numbers_told = some (r, w_numbers_size, w_numbers_told)) : zMt l zW 2 mX11_riders σ ([(193, numbers_size), (326, course_horseCount), (1284, rounds_size)], [(21, rounds_riders), (22, rounds_horses), (23, rounds_faults)], [(4, numbers_told)]) [.ref 0, .int p1, .int p2] (some (.int r)) ([(193, w_numbers_size), (326, course_horseCount), (1284, rounds_size)], [(21, rounds_riders), (22, rounds_horses), (23, rounds_faults)], [(4, w_numbers_told)]) := by
  refine zMt_of (ls := [(0, .ref 0), (1, .int p1), (2, .int p2)]) (by decide) rfl (fun _ => Nat.le_of_ble_eq_true rfl) rfl ?_
  unfold f_X11_riders at h
  refine zJ_iload_n dX11_riders_0 rfl rfl ?_
  obtain ⟨rn1, hcl, h⟩ := bd1_some h
  refine zJ_callS (mi := mX11_riders) (yi := mX11_isRider) (as := [.int p1]) (st := []) (L2 := ([(193, numbers_size), (326, course_horseCount), (1284, rounds_size)], [(21, rounds_riders), (22, rounds_horses), (23, rounds_faults)], [(4, numbers_told)])) dX11_riders_1 ML_X11_260 Ys_X11_isRider rfl (t_X11_isRider l _ hcl) (zsub_i zle_n zle_n zle_n) rfl (Nat.le_of_ble_eq_true rfl) (Nat.le_of_ble_eq_true rfl) rfl rfl ?_
  refine zJ_if_eq (tgt := 19) dX11_riders_4 (by decide) rfl (fun hc => ?_) (fun hc => ?_)
  · replace h := it_t hc h
    refine zJ_iconst dX11_riders_19 zc_m1 rfl ?_
    obtain ⟨rfl, rfl, rfl⟩ := so3 h
    exact zJ_iret dX11_riders_20 rfl rfl
  · replace h := it_f hc h
    refine zJ_iload_n dX11_riders_7 rfl rfl ?_
    obtain ⟨rn2, hcl, h⟩ := bd1_some h
    refine zJ_callS (mi := mX11_riders) (yi := mX11_isRider) (as := [.int p2]) (st := []) (L2 := ([(193, numbers_size), (326, course_horseCount), (1284, rounds_size)], [(21, rounds_riders), (22, rounds_horses), (23, rounds_faults)], [(4, numbers_told)])) dX11_riders_8 ML_X11_260 Ys_X11_isRider rfl (t_X11_isRider l _ hcl) (zsub_i zle_n zle_n zle_n) rfl (Nat.le_of_ble_eq_true rfl) (Nat.le_of_ble_eq_true rfl) rfl rfl ?_
    refine zJ_if_eq (tgt := 19) dX11_riders_11 (by decide) rfl (fun hc => ?_) (fun hc => ?_)
    · replace h := it_t hc h
      refine zJ_iconst dX11_riders_19 zc_m1 rfl ?_
      obtain ⟨rfl, rfl, rfl⟩ := so3 h
      exact zJ_iret dX11_riders_20 rfl rfl
    · replace h := it_f hc h
      refine zJ_iload_n dX11_riders_14 rfl rfl ?_
      refine zJ_iload_n dX11_riders_15 rfl rfl ?_
      refine zJ_icmp_ne (tgt := 21) dX11_riders_16 (by decide) rfl (fun hc => ?_) (fun hc => ?_)
      · replace h := it_f hc h
        refine zJ_lconst dX11_riders_21 zl_0 rfl ?_
        refine zJ_lstore_n (ls' := [(3, .long (0 : Int64)), (0, .ref 0), (1, .int p1), (2, .int p2)]) dX11_riders_22 rfl rfl rfl ?_
        refine zJ_iconst dX11_riders_23 zc_0 rfl ?_
        refine zJ_istore (ls' := [(5, .int (0 : Int32)), (3, .long (0 : Int64)), (0, .ref 0), (1, .int p1), (2, .int p2)]) dX11_riders_24 rfl rfl rfl ?_
        refine zJ_iconst dX11_riders_26 zc_0 rfl ?_
        refine zJ_istore (ls' := [(6, .int (0 : Int32)), (5, .int (0 : Int32)), (3, .long (0 : Int64)), (0, .ref 0), (1, .int p1), (2, .int p2)]) dX11_riders_27 rfl rfl rfl ?_
        have hk29 : ∀ (v3_29x : Int64) (v5_29x : Int32), k_X11_riders_29 numbers_size numbers_told v3_29x v5_29x = some (r, w_numbers_size, w_numbers_told) → zJ l zW 2 mX11_riders σ ([(193, numbers_size), (326, course_horseCount), (1284, rounds_size)], [(21, rounds_riders), (22, rounds_horses), (23, rounds_faults)], [(4, numbers_told)]) 100 [(0, .ref 0), (3, .long v3_29x), (5, .int v5_29x)] [] (some (.int r)) ([(193, w_numbers_size), (326, course_horseCount), (1284, rounds_size)], [(21, rounds_riders), (22, rounds_horses), (23, rounds_faults)], [(4, w_numbers_told)]) := by
          intro v3_29x v5_29x h
          unfold k_X11_riders_29 at h
          refine zJ_iload dX11_riders_100 rfl rfl ?_
          refine zJ_if_ne (tgt := 108) dX11_riders_102 (by decide) rfl (fun hc => ?_) (fun hc => ?_)
          · replace h := it_f hc h
            refine zJ_aload_n dX11_riders_108 rfl rfl ?_
            refine zJ_getr (mi := mX11_riders) dX11_riders_109 F_X11_19 zW_0 rfl rfl ?_
            obtain ⟨numbers_sizen3, hcl, h⟩ := bd1_some h
            refine zJ_callV (mi := mX11_riders) (yi := mX6_start) (as := []) (st := []) (L2 := ([(193, numbers_sizen3), (326, course_horseCount), (1284, rounds_size)], [(21, rounds_riders), (22, rounds_horses), (23, rounds_faults)], [(4, numbers_told)])) dX11_riders_112 ML_X11_171 Yv_X6_start rfl zW_3 rfl rfl (t_X6_start l _ hcl) (zsub_i (zle_c rfl zle_n) zle_n zle_n) rfl (Nat.le_of_ble_eq_true rfl) (Nat.le_of_ble_eq_true rfl) rfl rfl ?_
            refine zJ_aload_n dX11_riders_115 rfl rfl ?_
            refine zJ_getr (mi := mX11_riders) dX11_riders_116 F_X11_19 zW_0 rfl rfl ?_
            refine zJ_lload_n dX11_riders_119 rfl rfl ?_
            refine zJ_iload dX11_riders_120 rfl rfl ?_
            refine zJ_i2l dX11_riders_122 rfl ?_
            refine zJ_ldc2_w (v := 27720) dX11_riders_123 C_X11_435 rfl ?_
            refine zJ_lmul dX11_riders_126 rfl ?_
            obtain ⟨numbers_sizen4, numbers_toldn5, hcl, h⟩ := bd2_some h
            refine zJ_callV (mi := mX11_riders) (yi := mX6_putFraction) (as := [.long v3_29x, .long (v5_29x.toInt64 * (27720 : Int64))]) (st := []) (L2 := ([(193, numbers_sizen4), (326, course_horseCount), (1284, rounds_size)], [(21, rounds_riders), (22, rounds_horses), (23, rounds_faults)], [(4, numbers_toldn5)])) dX11_riders_127 ML_X11_392 Yv_X6_putFraction rfl zW_3 rfl rfl (t_X6_putFraction l _ hcl) (zsub_i (zle_c rfl zle_n) zle_n (zle_c rfl zle_n)) rfl (Nat.le_of_ble_eq_true rfl) (Nat.le_of_ble_eq_true rfl) rfl rfl ?_
            refine zJ_iload dX11_riders_130 rfl rfl ?_
            obtain ⟨rfl, rfl, rfl⟩ := so3 h
            exact zJ_iret dX11_riders_132 rfl rfl
          · replace h := it_t hc h
            refine zJ_bipush dX11_riders_105 zb_m2 rfl ?_
            obtain ⟨rfl, rfl, rfl⟩ := so3 h
            exact zJ_iret dX11_riders_107 rfl rfl
        refine zJ_loc (ls' := [(0, .ref 0), (1, .int p1), (2, .int p2), (3, .long (0 : Int64)), (5, .int (0 : Int32)), (6, .int (0 : Int32))]) (zll_c rfl (zll_c rfl (zll_c rfl (zll_c rfl (zll_c rfl (zll_c rfl zll_n)))))) ?_
        refine ml3_J (fun (v3_29 : Int64) (v5_29 : Int32) (v6_29 : Int32) => zJ l zW 2 mX11_riders σ ([(193, numbers_size), (326, course_horseCount), (1284, rounds_size)], [(21, rounds_riders), (22, rounds_horses), (23, rounds_faults)], [(4, numbers_told)]) 29 [(0, .ref 0), (1, .int p1), (2, .int p2), (3, .long v3_29), (5, .int v5_29), (6, .int v6_29)] [] (some (.int r)) ([(193, w_numbers_size), (326, course_horseCount), (1284, rounds_size)], [(21, rounds_riders), (22, rounds_horses), (23, rounds_faults)], [(4, w_numbers_told)])) (fun rc29 hrc29 v3_29 v5_29 v6_29 h => ?_) zN _ _ _ h
        unfold s_X11_riders_29 at h
        refine zJ_iload dX11_riders_29 rfl rfl ?_
        refine zJ_aload_n dX11_riders_31 rfl rfl ?_
        refine zJ_getr (mi := mX11_riders) dX11_riders_32 F_X11_26 zW_0 rfl rfl ?_
        refine zJ_geti (mi := mX11_riders) (x := course_horseCount) dX11_riders_35 F_X11_368 zW_5 rfl rfl rfl ?_
        refine zJ_icmp_ge (tgt := 100) dX11_riders_38 (by decide) rfl (fun hc => ?_) (fun hc => ?_)
        · replace h := it_t hc h
          refine zJ_loc (ls' := [(0, .ref 0), (3, .long v3_29), (5, .int v5_29)]) (zll_c rfl (zll_c rfl (zll_c rfl zll_n))) ?_
          exact hk29 _ _ h
        · replace h := it_f hc h
          refine zJ_aload_n dX11_riders_41 rfl rfl ?_
          refine zJ_getr (mi := mX11_riders) dX11_riders_42 F_X11_33 zW_0 rfl rfl ?_
          refine zJ_iload_n dX11_riders_45 rfl rfl ?_
          refine zJ_iload dX11_riders_46 rfl rfl ?_
          obtain ⟨rn6, hcl, h⟩ := bd1_some h
          refine zJ_callV (mi := mX11_riders) (yi := mX10_scaledMean) (as := [.int p1, .int v6_29]) (st := []) (L2 := ([(193, numbers_size), (326, course_horseCount), (1284, rounds_size)], [(21, rounds_riders), (22, rounds_horses), (23, rounds_faults)], [(4, numbers_told)])) dX11_riders_48 ML_X11_431 Yv_X10_scaledMean rfl zW_20 rfl rfl (t_X10_scaledMean l _ hcl) (zsub_i (zle_c rfl zle_n) (zle_c rfl (zle_c rfl (zle_c rfl zle_n))) zle_n) rfl (Nat.le_of_ble_eq_true rfl) (Nat.le_of_ble_eq_true rfl) rfl rfl ?_
          refine zJ_lstore (ls' := [(7, .long rn6), (0, .ref 0), (1, .int p1), (2, .int p2), (3, .long v3_29), (5, .int v5_29), (6, .int v6_29)]) dX11_riders_51 rfl rfl rfl ?_
          refine zJ_aload_n dX11_riders_53 rfl rfl ?_
          refine zJ_getr (mi := mX11_riders) dX11_riders_54 F_X11_33 zW_0 rfl rfl ?_
          refine zJ_iload_n dX11_riders_57 rfl rfl ?_
          refine zJ_iload dX11_riders_58 rfl rfl ?_
          obtain ⟨rn7, hcl, h⟩ := bd1_some h
          refine zJ_callV (mi := mX11_riders) (yi := mX10_scaledMean) (as := [.int p2, .int v6_29]) (st := []) (L2 := ([(193, numbers_size), (326, course_horseCount), (1284, rounds_size)], [(21, rounds_riders), (22, rounds_horses), (23, rounds_faults)], [(4, numbers_told)])) dX11_riders_60 ML_X11_431 Yv_X10_scaledMean rfl zW_20 rfl rfl (t_X10_scaledMean l _ hcl) (zsub_i (zle_c rfl zle_n) (zle_c rfl (zle_c rfl (zle_c rfl zle_n))) zle_n) rfl (Nat.le_of_ble_eq_true rfl) (Nat.le_of_ble_eq_true rfl) rfl rfl ?_
          refine zJ_lstore (ls' := [(9, .long rn7), (7, .long rn6), (0, .ref 0), (1, .int p1), (2, .int p2), (3, .long v3_29), (5, .int v5_29), (6, .int v6_29)]) dX11_riders_63 rfl rfl rfl ?_
          refine zJ_lload dX11_riders_65 rfl rfl ?_
          refine zJ_ldc2_w (v := -1) dX11_riders_67 C_X11_399 rfl ?_
          refine zJ_lcmp dX11_riders_70 rfl ?_
          refine zJ_if_eq (tgt := 94) dX11_riders_71 (by decide) rfl (fun hc => ?_) (fun hc => ?_)
          · replace h := it_t hc h
            obtain ⟨v6n8, ev6n8, h⟩ := lt1_some h
            refine zJ_iincN (ls' := [(6, .int v6n8), (9, .long rn7), (7, .long rn6), (0, .ref 0), (1, .int p1), (2, .int p2), (3, .long v3_29), (5, .int v5_29)]) dX11_riders_94 rfl rfl zc_1 ev6n8 rfl rfl ?_
            refine zJ_goto (tgt := 29) dX11_riders_97 (by decide) ?_
            refine zJ_loc (ls' := [(0, .ref 0), (1, .int p1), (2, .int p2), (3, .long v3_29), (5, .int v5_29), (6, .int v6n8)]) (zll_c rfl (zll_c rfl (zll_c rfl (zll_c rfl (zll_c rfl (zll_c rfl zll_n)))))) ?_
            exact hrc29 _ _ _ h
          · replace h := it_f hc h
            refine zJ_lload dX11_riders_74 rfl rfl ?_
            refine zJ_ldc2_w (v := -1) dX11_riders_76 C_X11_399 rfl ?_
            refine zJ_lcmp dX11_riders_79 rfl ?_
            refine zJ_if_eq (tgt := 94) dX11_riders_80 (by decide) rfl (fun hc => ?_) (fun hc => ?_)
            · replace h := it_t hc h
              obtain ⟨v6n9, ev6n9, h⟩ := lt1_some h
              refine zJ_iincN (ls' := [(6, .int v6n9), (9, .long rn7), (7, .long rn6), (0, .ref 0), (1, .int p1), (2, .int p2), (3, .long v3_29), (5, .int v5_29)]) dX11_riders_94 rfl rfl zc_1 ev6n9 rfl rfl ?_
              refine zJ_goto (tgt := 29) dX11_riders_97 (by decide) ?_
              refine zJ_loc (ls' := [(0, .ref 0), (1, .int p1), (2, .int p2), (3, .long v3_29), (5, .int v5_29), (6, .int v6n9)]) (zll_c rfl (zll_c rfl (zll_c rfl (zll_c rfl (zll_c rfl (zll_c rfl zll_n)))))) ?_
              exact hrc29 _ _ _ h
            · replace h := it_f hc h
              refine zJ_lload_n dX11_riders_83 rfl rfl ?_
              refine zJ_lload dX11_riders_84 rfl rfl ?_
              refine zJ_lload dX11_riders_86 rfl rfl ?_
              refine zJ_lsub dX11_riders_88 rfl ?_
              refine zJ_ladd dX11_riders_89 rfl ?_
              obtain ⟨v3n10, ev3n10, h⟩ := lt1_some h
              refine zJ_nml ev3n10 ?_
              refine zJ_lstore_n (ls' := [(3, .long v3n10), (9, .long rn7), (7, .long rn6), (0, .ref 0), (1, .int p1), (2, .int p2), (5, .int v5_29), (6, .int v6_29)]) dX11_riders_90 rfl rfl rfl ?_
              obtain ⟨v5n11, ev5n11, h⟩ := lt1_some h
              refine zJ_iincN (ls' := [(5, .int v5n11), (3, .long v3n10), (9, .long rn7), (7, .long rn6), (0, .ref 0), (1, .int p1), (2, .int p2), (6, .int v6_29)]) dX11_riders_91 rfl rfl zc_1 ev5n11 rfl rfl ?_
              obtain ⟨v6n12, ev6n12, h⟩ := lt1_some h
              refine zJ_iincN (ls' := [(6, .int v6n12), (5, .int v5n11), (3, .long v3n10), (9, .long rn7), (7, .long rn6), (0, .ref 0), (1, .int p1), (2, .int p2)]) dX11_riders_94 rfl rfl zc_1 ev6n12 rfl rfl ?_
              refine zJ_goto (tgt := 29) dX11_riders_97 (by decide) ?_
              refine zJ_loc (ls' := [(0, .ref 0), (1, .int p1), (2, .int p2), (3, .long v3n10), (5, .int v5n11), (6, .int v6n12)]) (zll_c rfl (zll_c rfl (zll_c rfl (zll_c rfl (zll_c rfl (zll_c rfl zll_n)))))) ?_
              exact hrc29 _ _ _ h
      · replace h := it_t hc h
        refine zJ_iconst dX11_riders_19 zc_m1 rfl ?_
        obtain ⟨rfl, rfl, rfl⟩ := so3 h
        exact zJ_iret dX11_riders_20 rfl rfl
set_option maxRecDepth 100000 in
set_option maxHeartbeats 4000000 in
theorem t_X1_readFence (l : Launch) (σ : zS) {p2 : Int32} {text_limit : Int32} {text_at : Int32} {text_signs : (Nat → Int32)} {course_draft : (Nat → Int32)} {r : Int32} {w_text_at : Int32} {w_course_draft : (Nat → Int32)} (h : f_X1_readFence p2 text_limit text_at text_signs course_draft = some (r, w_text_at, w_course_draft)) : zMt l zW 9 mX1_readFence σ ([(66, text_limit), (67, text_at)], [(2, text_signs), (9, course_draft)], []) [.ref 5, .ref 1, .int p2] (some (.int r)) ([(66, text_limit), (67, w_text_at)], [(2, text_signs), (9, w_course_draft)], []) := by
  refine zMt_of (ls := [(0, .ref 5), (1, .ref 1), (2, .int p2)]) (by decide) rfl (fun _ => Nat.le_of_ble_eq_true rfl) rfl ?_
  unfold f_X1_readFence at h
  refine zJ_aload_n dX1_readFence_0 rfl rfl ?_
  refine zJ_ldcS (i := 0) (q := 88) dX1_readFence_1 rfl rfl rfl ?_
  obtain ⟨rn1, text_atn2, hcl, h⟩ := bd2_some h
  refine zJ_callV (mi := mX1_readFence) (yi := mX9_oneOf) (as := [.ref 88]) (st := []) (L2 := ([(66, text_limit), (67, text_atn2)], [(2, text_signs), (9, course_draft)], [])) dX1_readFence_3 ML_X1_86 Yv_X9_oneOf rfl zW_1 rfl rfl (t_X9_oneOf l _ hcl) (zsub_i (zle_c rfl (zle_c rfl zle_n)) (zle_c rfl zle_n) zle_n) rfl (Nat.le_of_ble_eq_true rfl) (Nat.le_of_ble_eq_true rfl) rfl rfl ?_
  refine zJ_istore_n (ls' := [(3, .int rn1), (0, .ref 5), (1, .ref 1), (2, .int p2)]) dX1_readFence_6 rfl rfl rfl ?_
  refine zJ_iload_n dX1_readFence_7 rfl rfl ?_
  refine zJ_if_ge (tgt := 13) dX1_readFence_8 (by decide) rfl (fun hc => ?_) (fun hc => ?_)
  · replace h := it_t hc h
    refine zJ_aload_n dX1_readFence_13 rfl rfl ?_
    refine zJ_iconst dX1_readFence_14 zc_0 rfl ?_
    refine zJ_bipush dX1_readFence_15 zb_9 rfl ?_
    obtain ⟨rn3, text_atn4, hcl, h⟩ := bd2_some h
    refine zJ_callV (mi := mX1_readFence) (yi := mX9_digit) (as := [.int (0 : Int32), .int (9 : Int32)]) (st := []) (L2 := ([(66, text_limit), (67, text_atn4)], [(2, text_signs), (9, course_draft)], [])) dX1_readFence_17 ML_X1_90 Yv_X9_digit rfl zW_1 rfl rfl (t_X9_digit l _ hcl) (zsub_i (zle_c rfl (zle_c rfl zle_n)) (zle_c rfl zle_n) zle_n) rfl (Nat.le_of_ble_eq_true rfl) (Nat.le_of_ble_eq_true rfl) rfl rfl ?_
    refine zJ_istore (ls' := [(4, .int rn3), (3, .int rn1), (0, .ref 5), (1, .ref 1), (2, .int p2)]) dX1_readFence_20 rfl rfl rfl ?_
    refine zJ_iload dX1_readFence_22 rfl rfl ?_
    refine zJ_iconst dX1_readFence_24 zc_m1 rfl ?_
    refine zJ_icmp_eq (tgt := 37) dX1_readFence_25 (by decide) rfl (fun hc => ?_) (fun hc => ?_)
    · replace h := it_t hc h
      refine zJ_iconst dX1_readFence_37 zc_0 rfl ?_
      obtain ⟨rfl, rfl, rfl⟩ := so3 h
      exact zJ_iret dX1_readFence_38 rfl (by decide)
    · replace h := it_f hc h
      refine zJ_aload_n dX1_readFence_28 rfl rfl ?_
      refine zJ_bipush dX1_readFence_29 zb_64 rfl ?_
      obtain ⟨rn5, text_atn6, hcl, h⟩ := bd2_some h
      refine zJ_callV (mi := mX1_readFence) (yi := mX9_take) (as := [.int (64 : Int32)]) (st := []) (L2 := ([(66, text_limit), (67, text_atn6)], [(2, text_signs), (9, course_draft)], [])) dX1_readFence_31 ML_X1_80 Yv_X9_take rfl zW_1 rfl rfl (t_X9_take l _ hcl) (zsub_i (zle_c rfl (zle_c rfl zle_n)) (zle_c rfl zle_n) zle_n) rfl (Nat.le_of_ble_eq_true rfl) (Nat.le_of_ble_eq_true rfl) rfl rfl ?_
      refine zJ_if_ne (tgt := 39) dX1_readFence_34 (by decide) rfl (fun hc => ?_) (fun hc => ?_)
      · replace h := it_f hc h
        refine zJ_aload_n dX1_readFence_39 rfl rfl ?_
        refine zJ_iconst dX1_readFence_40 zc_1 rfl ?_
        refine zJ_bipush dX1_readFence_41 zb_9 rfl ?_
        obtain ⟨rn7, text_atn8, hcl, h⟩ := bd2_some h
        refine zJ_callV (mi := mX1_readFence) (yi := mX9_digit) (as := [.int (1 : Int32), .int (9 : Int32)]) (st := []) (L2 := ([(66, text_limit), (67, text_atn8)], [(2, text_signs), (9, course_draft)], [])) dX1_readFence_43 ML_X1_90 Yv_X9_digit rfl zW_1 rfl rfl (t_X9_digit l _ hcl) (zsub_i (zle_c rfl (zle_c rfl zle_n)) (zle_c rfl zle_n) zle_n) rfl (Nat.le_of_ble_eq_true rfl) (Nat.le_of_ble_eq_true rfl) rfl rfl ?_
        refine zJ_istore (ls' := [(5, .int rn7), (4, .int rn3), (3, .int rn1), (0, .ref 5), (1, .ref 1), (2, .int p2)]) dX1_readFence_46 rfl rfl rfl ?_
        refine zJ_iload dX1_readFence_48 rfl rfl ?_
        refine zJ_iconst dX1_readFence_50 zc_m1 rfl ?_
        have hj_X1_readFence_65 : ∀ (t0_65j : Int32) (text_at_65j : Int32), j_X1_readFence_65 p2 course_draft rn1 rn3 rn7 t0_65j text_at_65j = some (r, w_text_at, w_course_draft) → zJ l zW 9 mX1_readFence σ ([(66, text_limit), (67, text_at_65j)], [(2, text_signs), (9, course_draft)], []) 65 [(0, .ref 5), (2, .int p2), (3, .int rn1), (4, .int rn3), (5, .int rn7)] [.int t0_65j] (some (.int r)) ([(66, text_limit), (67, w_text_at)], [(2, text_signs), (9, w_course_draft)], []) := by
          intro t0_65j text_at_65j h
          unfold j_X1_readFence_65 at h
          refine zJ_istore (ls' := [(6, .int t0_65j), (0, .ref 5), (2, .int p2), (3, .int rn1), (4, .int rn3), (5, .int rn7)]) dX1_readFence_65 rfl rfl rfl ?_
          refine zJ_aload_n dX1_readFence_67 rfl rfl ?_
          refine zJ_getr (mi := mX1_readFence) dX1_readFence_68 F_X1_21 zW_5 rfl rfl ?_
          refine zJ_iconst dX1_readFence_71 zc_3 rfl ?_
          refine zJ_iload_n dX1_readFence_72 rfl rfl ?_
          refine zJ_imul dX1_readFence_73 rfl ?_
          refine zJ_iload_n dX1_readFence_74 rfl rfl ?_
          obtain ⟨hg, h⟩ := gd_some h
          refine zK_iast (mi := mX1_readFence) (f := course_draft) (lb' := [(2, text_signs), (9, (upd course_draft ((3 : Int32) * p2).toNatClampNeg rn1))]) dX1_readFence_75 zW_9 (ix_in hg) rfl rfl rfl ?_
          refine zJ_aload_n dX1_readFence_76 rfl rfl ?_
          refine zJ_getr (mi := mX1_readFence) dX1_readFence_77 F_X1_21 zW_5 rfl rfl ?_
          refine zJ_iconst dX1_readFence_80 zc_3 rfl ?_
          refine zJ_iload_n dX1_readFence_81 rfl rfl ?_
          refine zJ_imul dX1_readFence_82 rfl ?_
          refine zJ_iconst dX1_readFence_83 zc_1 rfl ?_
          refine zJ_iadd dX1_readFence_84 rfl ?_
          refine zJ_iload dX1_readFence_85 rfl rfl ?_
          obtain ⟨hg, h⟩ := gd_some h
          refine zK_iast (mi := mX1_readFence) (f := ((upd course_draft ((3 : Int32) * p2).toNatClampNeg rn1))) (lb' := [(2, text_signs), (9, (upd ((upd course_draft ((3 : Int32) * p2).toNatClampNeg rn1)) (((3 : Int32) * p2) + (1 : Int32)).toNatClampNeg rn3))]) dX1_readFence_87 zW_9 (ix_in hg) rfl rfl rfl ?_
          refine zJ_aload_n dX1_readFence_88 rfl rfl ?_
          refine zJ_getr (mi := mX1_readFence) dX1_readFence_89 F_X1_21 zW_5 rfl rfl ?_
          refine zJ_iconst dX1_readFence_92 zc_3 rfl ?_
          refine zJ_iload_n dX1_readFence_93 rfl rfl ?_
          refine zJ_imul dX1_readFence_94 rfl ?_
          refine zJ_iconst dX1_readFence_95 zc_2 rfl ?_
          refine zJ_iadd dX1_readFence_96 rfl ?_
          refine zJ_iload dX1_readFence_97 rfl rfl ?_
          refine zJ_bipush dX1_readFence_99 zb_10 rfl ?_
          refine zJ_imul dX1_readFence_101 rfl ?_
          refine zJ_iload dX1_readFence_102 rfl rfl ?_
          refine zJ_iadd dX1_readFence_104 rfl ?_
          obtain ⟨hg, h⟩ := gd_some h
          refine zK_iast (mi := mX1_readFence) (f := ((upd ((upd course_draft ((3 : Int32) * p2).toNatClampNeg rn1)) (((3 : Int32) * p2) + (1 : Int32)).toNatClampNeg rn3))) (lb' := [(2, text_signs), (9, (upd ((upd ((upd course_draft ((3 : Int32) * p2).toNatClampNeg rn1)) (((3 : Int32) * p2) + (1 : Int32)).toNatClampNeg rn3)) (((3 : Int32) * p2) + (2 : Int32)).toNatClampNeg ((rn7 * (10 : Int32)) + t0_65j)))]) dX1_readFence_105 zW_9 (ix_in hg) rfl rfl rfl ?_
          refine zJ_iload dX1_readFence_106 rfl rfl ?_
          refine zJ_iconst dX1_readFence_108 zc_m1 rfl ?_
          refine zJ_icmp_eq (tgt := 116) dX1_readFence_109 (by decide) rfl (fun hc => ?_) (fun hc => ?_)
          · replace h := it_t hc h
            refine zJ_iconst dX1_readFence_116 zc_0 rfl ?_
            obtain ⟨rfl, rfl, rfl⟩ := so3 h
            exact zJ_iret dX1_readFence_117 rfl (by decide)
          · replace h := it_f hc h
            refine zJ_iconst dX1_readFence_112 zc_1 rfl ?_
            refine zJ_goto (tgt := 117) dX1_readFence_113 (by decide) ?_
            obtain ⟨rfl, rfl, rfl⟩ := so3 h
            exact zJ_iret dX1_readFence_117 rfl (by decide)
        refine zJ_icmp_ne (tgt := 58) dX1_readFence_51 (by decide) rfl (fun hc => ?_) (fun hc => ?_)
        · replace h := it_f hc h
          refine zJ_aload_n dX1_readFence_58 rfl rfl ?_
          refine zJ_iconst dX1_readFence_59 zc_0 rfl ?_
          refine zJ_bipush dX1_readFence_60 zb_9 rfl ?_
          obtain ⟨rn9, text_atn10, hcl, h⟩ := bd2_some h
          refine zJ_callV (mi := mX1_readFence) (yi := mX9_digit) (as := [.int (0 : Int32), .int (9 : Int32)]) (st := []) (L2 := ([(66, text_limit), (67, text_atn10)], [(2, text_signs), (9, course_draft)], [])) dX1_readFence_62 ML_X1_90 Yv_X9_digit rfl zW_1 rfl rfl (t_X9_digit l _ hcl) (zsub_i (zle_c rfl (zle_c rfl zle_n)) (zle_c rfl zle_n) zle_n) rfl (Nat.le_of_ble_eq_true rfl) (Nat.le_of_ble_eq_true rfl) rfl rfl ?_
          refine zJ_loc (ls' := [(0, .ref 5), (2, .int p2), (3, .int rn1), (4, .int rn3), (5, .int rn7)]) (zll_c rfl (zll_c rfl (zll_c rfl (zll_c rfl (zll_c rfl zll_n))))) ?_
          exact hj_X1_readFence_65 _ _ h
        · replace h := it_t hc h
          refine zJ_iconst dX1_readFence_54 zc_m1 rfl ?_
          refine zJ_goto (tgt := 65) dX1_readFence_55 (by decide) ?_
          refine zJ_loc (ls' := [(0, .ref 5), (2, .int p2), (3, .int rn1), (4, .int rn3), (5, .int rn7)]) (zll_c rfl (zll_c rfl (zll_c rfl (zll_c rfl (zll_c rfl zll_n))))) ?_
          exact hj_X1_readFence_65 _ _ h
      · replace h := it_t hc h
        refine zJ_iconst dX1_readFence_37 zc_0 rfl ?_
        obtain ⟨rfl, rfl, rfl⟩ := so3 h
        exact zJ_iret dX1_readFence_38 rfl (by decide)
  · replace h := it_f hc h
    refine zJ_iconst dX1_readFence_11 zc_0 rfl ?_
    obtain ⟨rfl, rfl, rfl⟩ := so3 h
    exact zJ_iret dX1_readFence_12 rfl (by decide)
set_option maxRecDepth 100000 in
set_option maxHeartbeats 4000000 in
theorem t_X1_takeDraft (l : Launch) (σ : zS) {p1 : Int32} {course_fences : Int32} {course_planCount : Int32} {course_kinds : (Nat → Int32)} {course_heights : (Nat → Int32)} {course_feet : (Nat → Int32)} {course_draft : (Nat → Int32)} {w_course_fences : Int32} {w_course_planCount : Int32} {w_course_kinds : (Nat → Int32)} {w_course_heights : (Nat → Int32)} {w_course_feet : (Nat → Int32)} (h : f_X1_takeDraft p1 course_fences course_planCount course_kinds course_heights course_feet course_draft = some (w_course_fences, w_course_planCount, w_course_kinds, w_course_heights, w_course_feet)) : zMt l zW 0 mX1_takeDraft σ ([(323, course_fences), (328, course_planCount)], [(6, course_kinds), (7, course_heights), (8, course_feet), (9, course_draft)], []) [.ref 5, .int p1] none ([(323, w_course_fences), (328, w_course_planCount)], [(6, w_course_kinds), (7, w_course_heights), (8, w_course_feet), (9, course_draft)], []) := by
  refine zMt_of (ls := [(0, .ref 5), (1, .int p1)]) (by decide) rfl (fun _ => Nat.le_of_ble_eq_true rfl) rfl ?_
  unfold f_X1_takeDraft at h
  refine zJ_iconst dX1_takeDraft_0 zc_0 rfl ?_
  refine zJ_istore_n (ls' := [(2, .int (0 : Int32)), (0, .ref 5), (1, .int p1)]) dX1_takeDraft_1 rfl rfl rfl ?_
  have hk2 : ∀ (course_kinds_2x : (Nat → Int32)) (course_heights_2x : (Nat → Int32)) (course_feet_2x : (Nat → Int32)), k_X1_takeDraft_2 p1 course_kinds_2x course_heights_2x course_feet_2x = some (w_course_fences, w_course_planCount, w_course_kinds, w_course_heights, w_course_feet) → zJ l zW 0 mX1_takeDraft σ ([(323, course_fences), (328, course_planCount)], [(6, course_kinds_2x), (7, course_heights_2x), (8, course_feet_2x), (9, course_draft)], []) 59 [(0, .ref 5), (1, .int p1)] [] none ([(323, w_course_fences), (328, w_course_planCount)], [(6, w_course_kinds), (7, w_course_heights), (8, w_course_feet), (9, course_draft)], []) := by
    intro course_kinds_2x course_heights_2x course_feet_2x h
    unfold k_X1_takeDraft_2 at h
    refine zJ_aload_n dX1_takeDraft_59 rfl rfl ?_
    refine zJ_iload_n dX1_takeDraft_60 rfl rfl ?_
    refine zK_puti (mi := mX1_takeDraft) (la' := [(323, p1), (328, course_planCount)]) zW_ok dX1_takeDraft_61 F_X1_50 P_1_3 zW_5 rfl rfl rfl ?_
    refine zJ_aload_n dX1_takeDraft_64 rfl rfl ?_
    refine zJ_iconst dX1_takeDraft_65 zc_0 rfl ?_
    refine zK_puti (mi := mX1_takeDraft) (la' := [(323, p1), (328, (0 : Int32))]) zW_ok dX1_takeDraft_66 F_X1_56 P_1_8 zW_5 rfl rfl rfl ?_
    obtain ⟨rfl, rfl, rfl, rfl, rfl⟩ := so5 h
    exact zJ_vret dX1_takeDraft_69 rfl
  refine zJ_loc (ls' := [(0, .ref 5), (1, .int p1), (2, .int (0 : Int32))]) (zll_c rfl (zll_c rfl (zll_c rfl zll_n))) ?_
  refine ml4_J (fun (v2_2 : Int32) (course_kinds_2 : (Nat → Int32)) (course_heights_2 : (Nat → Int32)) (course_feet_2 : (Nat → Int32)) => zJ l zW 0 mX1_takeDraft σ ([(323, course_fences), (328, course_planCount)], [(6, course_kinds_2), (7, course_heights_2), (8, course_feet_2), (9, course_draft)], []) 2 [(0, .ref 5), (1, .int p1), (2, .int v2_2)] [] none ([(323, w_course_fences), (328, w_course_planCount)], [(6, w_course_kinds), (7, w_course_heights), (8, w_course_feet), (9, course_draft)], [])) (fun rc2 hrc2 v2_2 course_kinds_2 course_heights_2 course_feet_2 h => ?_) zN _ _ _ _ h
  unfold s_X1_takeDraft_2 at h
  refine zJ_iload_n dX1_takeDraft_2 rfl rfl ?_
  refine zJ_iload_n dX1_takeDraft_3 rfl rfl ?_
  refine zJ_icmp_ge (tgt := 59) dX1_takeDraft_4 (by decide) rfl (fun hc => ?_) (fun hc => ?_)
  · replace h := it_t hc h
    refine zJ_loc (ls' := [(0, .ref 5), (1, .int p1)]) (zll_c rfl (zll_c rfl zll_n)) ?_
    exact hk2 _ _ _ h
  · replace h := it_f hc h
    refine zJ_aload_n dX1_takeDraft_7 rfl rfl ?_
    refine zJ_getr (mi := mX1_takeDraft) dX1_takeDraft_8 F_X1_11 zW_5 rfl rfl ?_
    refine zJ_iload_n dX1_takeDraft_11 rfl rfl ?_
    refine zJ_aload_n dX1_takeDraft_12 rfl rfl ?_
    refine zJ_getr (mi := mX1_takeDraft) dX1_takeDraft_13 F_X1_21 zW_5 rfl rfl ?_
    refine zJ_iconst dX1_takeDraft_16 zc_3 rfl ?_
    refine zJ_iload_n dX1_takeDraft_17 rfl rfl ?_
    refine zJ_imul dX1_takeDraft_18 rfl ?_
    obtain ⟨hg, h⟩ := gd_some h
    refine zJ_iald (mi := mX1_takeDraft) (f := course_draft) dX1_takeDraft_19 zW_9 (ix_in hg) rfl rfl ?_
    obtain ⟨hg, h⟩ := gd_some h
    refine zK_iast (mi := mX1_takeDraft) (f := course_kinds_2) (lb' := [(6, (upd course_kinds_2 v2_2.toNatClampNeg (course_draft ((3 : Int32) * v2_2).toNatClampNeg))), (7, course_heights_2), (8, course_feet_2), (9, course_draft)]) dX1_takeDraft_20 zW_6 (ix_in hg) rfl rfl rfl ?_
    refine zJ_aload_n dX1_takeDraft_21 rfl rfl ?_
    refine zJ_getr (mi := mX1_takeDraft) dX1_takeDraft_22 F_X1_15 zW_5 rfl rfl ?_
    refine zJ_iload_n dX1_takeDraft_25 rfl rfl ?_
    refine zJ_aload_n dX1_takeDraft_26 rfl rfl ?_
    refine zJ_getr (mi := mX1_takeDraft) dX1_takeDraft_27 F_X1_21 zW_5 rfl rfl ?_
    refine zJ_iconst dX1_takeDraft_30 zc_3 rfl ?_
    refine zJ_iload_n dX1_takeDraft_31 rfl rfl ?_
    refine zJ_imul dX1_takeDraft_32 rfl ?_
    refine zJ_iconst dX1_takeDraft_33 zc_1 rfl ?_
    refine zJ_iadd dX1_takeDraft_34 rfl ?_
    obtain ⟨hg, h⟩ := gd_some h
    refine zJ_iald (mi := mX1_takeDraft) (f := course_draft) dX1_takeDraft_35 zW_9 (ix_in hg) rfl rfl ?_
    obtain ⟨hg, h⟩ := gd_some h
    refine zK_iast (mi := mX1_takeDraft) (f := course_heights_2) (lb' := [(6, (upd course_kinds_2 v2_2.toNatClampNeg (course_draft ((3 : Int32) * v2_2).toNatClampNeg))), (7, (upd course_heights_2 v2_2.toNatClampNeg (course_draft (((3 : Int32) * v2_2) + (1 : Int32)).toNatClampNeg))), (8, course_feet_2), (9, course_draft)]) dX1_takeDraft_36 zW_7 (ix_in hg) rfl rfl rfl ?_
    refine zJ_aload_n dX1_takeDraft_37 rfl rfl ?_
    refine zJ_getr (mi := mX1_takeDraft) dX1_takeDraft_38 F_X1_18 zW_5 rfl rfl ?_
    refine zJ_iload_n dX1_takeDraft_41 rfl rfl ?_
    refine zJ_aload_n dX1_takeDraft_42 rfl rfl ?_
    refine zJ_getr (mi := mX1_takeDraft) dX1_takeDraft_43 F_X1_21 zW_5 rfl rfl ?_
    refine zJ_iconst dX1_takeDraft_46 zc_3 rfl ?_
    refine zJ_iload_n dX1_takeDraft_47 rfl rfl ?_
    refine zJ_imul dX1_takeDraft_48 rfl ?_
    refine zJ_iconst dX1_takeDraft_49 zc_2 rfl ?_
    refine zJ_iadd dX1_takeDraft_50 rfl ?_
    obtain ⟨hg, h⟩ := gd_some h
    refine zJ_iald (mi := mX1_takeDraft) (f := course_draft) dX1_takeDraft_51 zW_9 (ix_in hg) rfl rfl ?_
    obtain ⟨hg, h⟩ := gd_some h
    refine zK_iast (mi := mX1_takeDraft) (f := course_feet_2) (lb' := [(6, (upd course_kinds_2 v2_2.toNatClampNeg (course_draft ((3 : Int32) * v2_2).toNatClampNeg))), (7, (upd course_heights_2 v2_2.toNatClampNeg (course_draft (((3 : Int32) * v2_2) + (1 : Int32)).toNatClampNeg))), (8, (upd course_feet_2 v2_2.toNatClampNeg (course_draft (((3 : Int32) * v2_2) + (2 : Int32)).toNatClampNeg))), (9, course_draft)]) dX1_takeDraft_52 zW_8 (ix_in hg) rfl rfl rfl ?_
    obtain ⟨v2n1, ev2n1, h⟩ := lt1_some h
    refine zJ_iincN (ls' := [(2, .int v2n1), (0, .ref 5), (1, .int p1)]) dX1_takeDraft_53 rfl rfl zc_1 ev2n1 rfl rfl ?_
    refine zJ_goto (tgt := 2) dX1_takeDraft_56 (by decide) ?_
    refine zJ_loc (ls' := [(0, .ref 5), (1, .int p1), (2, .int v2n1)]) (zll_c rfl (zll_c rfl (zll_c rfl zll_n))) ?_
    exact hrc2 _ _ _ _ h
set_option maxRecDepth 100000 in
set_option maxHeartbeats 4000000 in
theorem t_X1_readRing (l : Launch) (σ : zS) {text_size : Int32} {text_limit : Int32} {text_at : Int32} {course_fences : Int32} {course_planCount : Int32} {text_signs : (Nat → Int32)} {course_kinds : (Nat → Int32)} {course_heights : (Nat → Int32)} {course_feet : (Nat → Int32)} {course_draft : (Nat → Int32)} {r : Int32} {w_text_limit : Int32} {w_text_at : Int32} {w_course_fences : Int32} {w_course_planCount : Int32} {w_course_kinds : (Nat → Int32)} {w_course_heights : (Nat → Int32)} {w_course_feet : (Nat → Int32)} {w_course_draft : (Nat → Int32)} (h : f_X1_readRing text_size text_limit text_at course_fences course_planCount text_signs course_kinds course_heights course_feet course_draft = some (r, w_text_limit, w_text_at, w_course_fences, w_course_planCount, w_course_kinds, w_course_heights, w_course_feet, w_course_draft)) : zMt l zW 10 mX1_readRing σ ([(65, text_size), (66, text_limit), (67, text_at), (323, course_fences), (328, course_planCount)], [(2, text_signs), (6, course_kinds), (7, course_heights), (8, course_feet), (9, course_draft)], []) [.ref 5, .ref 1] (some (.int r)) ([(65, text_size), (66, w_text_limit), (67, w_text_at), (323, w_course_fences), (328, w_course_planCount)], [(2, text_signs), (6, w_course_kinds), (7, w_course_heights), (8, w_course_feet), (9, w_course_draft)], []) := by
  refine zMt_of (ls := [(0, .ref 5), (1, .ref 1)]) (by decide) rfl (fun _ => Nat.le_of_ble_eq_true rfl) rfl ?_
  unfold f_X1_readRing at h
  refine zJ_aload_n dX1_readRing_0 rfl rfl ?_
  refine zJ_bipush dX1_readRing_1 zb_76 rfl ?_
  obtain ⟨text_limitn1, text_atn2, hcl, h⟩ := bd2_some h
  refine zJ_callV (mi := mX1_readRing) (yi := mX9_open) (as := [.int (76 : Int32)]) (st := []) (L2 := ([(65, text_size), (66, text_limitn1), (67, text_atn2), (323, course_fences), (328, course_planCount)], [(2, text_signs), (6, course_kinds), (7, course_heights), (8, course_feet), (9, course_draft)], [])) dX1_readRing_3 ML_X1_59 Yv_X9_open rfl zW_1 rfl rfl (t_X9_open l _ hcl) (zsub_i (zle_c rfl (zle_c rfl (zle_c rfl zle_n))) zle_n zle_n) rfl (Nat.le_of_ble_eq_true rfl) (Nat.le_of_ble_eq_true rfl) rfl rfl ?_
  refine zJ_iconst dX1_readRing_6 zc_0 rfl ?_
  refine zJ_istore_n (ls' := [(2, .int (0 : Int32)), (0, .ref 5), (1, .ref 1)]) dX1_readRing_7 rfl rfl rfl ?_
  have hk8 : ∀ (text_at_8x : Int32) (course_draft_8x : (Nat → Int32)), k_X1_readRing_8 course_fences course_planCount course_kinds course_heights course_feet text_limitn1 text_at_8x course_draft_8x = some (r, w_text_limit, w_text_at, w_course_fences, w_course_planCount, w_course_kinds, w_course_heights, w_course_feet, w_course_draft) → zJ l zW 10 mX1_readRing σ ([(65, text_size), (66, text_limitn1), (67, text_at_8x), (323, course_fences), (328, course_planCount)], [(2, text_signs), (6, course_kinds), (7, course_heights), (8, course_feet), (9, course_draft_8x)], []) 66 [(1, .ref 1)] [] (some (.int r)) ([(65, text_size), (66, w_text_limit), (67, w_text_at), (323, w_course_fences), (328, w_course_planCount)], [(2, text_signs), (6, w_course_kinds), (7, w_course_heights), (8, w_course_feet), (9, w_course_draft)], []) := by
    intro text_at_8x course_draft_8x h
    unfold k_X1_readRing_8 at h
    refine zJ_aload_n dX1_readRing_66 rfl rfl ?_
    obtain ⟨rn3, hcl, h⟩ := bd1_some h
    refine zJ_callV (mi := mX1_readRing) (yi := mX9_fault) (as := []) (st := []) (L2 := ([(65, text_size), (66, text_limitn1), (67, text_at_8x), (323, course_fences), (328, course_planCount)], [(2, text_signs), (6, course_kinds), (7, course_heights), (8, course_feet), (9, course_draft_8x)], [])) dX1_readRing_67 ML_X1_69 Yv_X9_fault rfl zW_1 rfl rfl (t_X9_fault l _ hcl) (zsub_i (zle_c rfl zle_n) zle_n zle_n) rfl (Nat.le_of_ble_eq_true rfl) (Nat.le_of_ble_eq_true rfl) rfl rfl ?_
    obtain ⟨rfl, rfl, rfl, rfl, rfl, rfl, rfl, rfl, rfl⟩ := so9 h
    exact zJ_iret dX1_readRing_70 rfl rfl
  refine zJ_loc (ls' := [(0, .ref 5), (1, .ref 1), (2, .int (0 : Int32))]) (zll_c rfl (zll_c rfl (zll_c rfl zll_n))) ?_
  refine ml3_J (fun (v2_8 : Int32) (text_at_8 : Int32) (course_draft_8 : (Nat → Int32)) => zJ l zW 10 mX1_readRing σ ([(65, text_size), (66, text_limitn1), (67, text_at_8), (323, course_fences), (328, course_planCount)], [(2, text_signs), (6, course_kinds), (7, course_heights), (8, course_feet), (9, course_draft_8)], []) 8 [(0, .ref 5), (1, .ref 1), (2, .int v2_8)] [] (some (.int r)) ([(65, text_size), (66, w_text_limit), (67, w_text_at), (323, w_course_fences), (328, w_course_planCount)], [(2, text_signs), (6, w_course_kinds), (7, w_course_heights), (8, w_course_feet), (9, w_course_draft)], [])) (fun rc8 hrc8 v2_8 text_at_8 course_draft_8 h => ?_) zN _ _ _ h
  unfold s_X1_readRing_8 at h
  refine zJ_iload_n dX1_readRing_8 rfl rfl ?_
  refine zJ_bipush dX1_readRing_9 zb_8 rfl ?_
  refine zJ_icmp_ge (tgt := 66) dX1_readRing_11 (by decide) rfl (fun hc => ?_) (fun hc => ?_)
  · replace h := it_t hc h
    refine zJ_loc (ls' := [(1, .ref 1)]) (zll_c rfl zll_n) ?_
    exact hk8 _ _ h
  · replace h := it_f hc h
    refine zJ_aload_n dX1_readRing_14 rfl rfl ?_
    refine zJ_aload_n dX1_readRing_15 rfl rfl ?_
    refine zJ_iload_n dX1_readRing_16 rfl rfl ?_
    obtain ⟨rn4, text_atn5, course_draftn6, hcl, h⟩ := bd3_some h
    refine zJ_callV (mi := mX1_readRing) (yi := mX1_readFence) (as := [.ref 1, .int v2_8]) (st := []) (L2 := ([(65, text_size), (66, text_limitn1), (67, text_atn5), (323, course_fences), (328, course_planCount)], [(2, text_signs), (6, course_kinds), (7, course_heights), (8, course_feet), (9, course_draftn6)], [])) dX1_readRing_17 ML_X1_65 Yv_X1_readFence rfl zW_5 rfl rfl (t_X1_readFence l _ hcl) (zsub_i (zle_c rfl (zle_c rfl zle_n)) (zle_c rfl (zle_c rfl zle_n)) zle_n) rfl (Nat.le_of_ble_eq_true rfl) (Nat.le_of_ble_eq_true rfl) rfl rfl ?_
    refine zJ_if_ne (tgt := 28) dX1_readRing_20 (by decide) rfl (fun hc => ?_) (fun hc => ?_)
    · replace h := it_f hc h
      refine zJ_aload_n dX1_readRing_28 rfl rfl ?_
      obtain ⟨rn7, hcl, h⟩ := bd1_some h
      refine zJ_callV (mi := mX1_readRing) (yi := mX9_isDone) (as := []) (st := []) (L2 := ([(65, text_size), (66, text_limitn1), (67, text_atn5), (323, course_fences), (328, course_planCount)], [(2, text_signs), (6, course_kinds), (7, course_heights), (8, course_feet), (9, course_draftn6)], [])) dX1_readRing_29 ML_X1_73 Yv_X9_isDone rfl zW_1 rfl rfl (t_X9_isDone l _ hcl) (zsub_i (zle_c rfl (zle_c rfl zle_n)) zle_n zle_n) rfl (Nat.le_of_ble_eq_true rfl) (Nat.le_of_ble_eq_true rfl) rfl rfl ?_
      refine zJ_if_eq (tgt := 46) dX1_readRing_32 (by decide) rfl (fun hc => ?_) (fun hc => ?_)
      · replace h := it_t hc h
        refine zJ_aload_n dX1_readRing_46 rfl rfl ?_
        refine zJ_bipush dX1_readRing_47 zb_59 rfl ?_
        obtain ⟨rn8, text_atn9, hcl, h⟩ := bd2_some h
        refine zJ_callV (mi := mX1_readRing) (yi := mX9_take) (as := [.int (59 : Int32)]) (st := []) (L2 := ([(65, text_size), (66, text_limitn1), (67, text_atn9), (323, course_fences), (328, course_planCount)], [(2, text_signs), (6, course_kinds), (7, course_heights), (8, course_feet), (9, course_draftn6)], [])) dX1_readRing_49 ML_X1_80 Yv_X9_take rfl zW_1 rfl rfl (t_X9_take l _ hcl) (zsub_i (zle_c rfl (zle_c rfl zle_n)) (zle_c rfl zle_n) zle_n) rfl (Nat.le_of_ble_eq_true rfl) (Nat.le_of_ble_eq_true rfl) rfl rfl ?_
        refine zJ_if_ne (tgt := 60) dX1_readRing_52 (by decide) rfl (fun hc => ?_) (fun hc => ?_)
        · replace h := it_f hc h
          obtain ⟨v2n10, ev2n10, h⟩ := lt1_some h
          refine zJ_iincN (ls' := [(2, .int v2n10), (0, .ref 5), (1, .ref 1)]) dX1_readRing_60 rfl rfl zc_1 ev2n10 rfl rfl ?_
          refine zJ_goto (tgt := 8) dX1_readRing_63 (by decide) ?_
          refine zJ_loc (ls' := [(0, .ref 5), (1, .ref 1), (2, .int v2n10)]) (zll_c rfl (zll_c rfl (zll_c rfl zll_n))) ?_
          exact hrc8 _ _ _ h
        · replace h := it_t hc h
          refine zJ_aload_n dX1_readRing_55 rfl rfl ?_
          obtain ⟨rn11, hcl, h⟩ := bd1_some h
          refine zJ_callV (mi := mX1_readRing) (yi := mX9_fault) (as := []) (st := []) (L2 := ([(65, text_size), (66, text_limitn1), (67, text_atn9), (323, course_fences), (328, course_planCount)], [(2, text_signs), (6, course_kinds), (7, course_heights), (8, course_feet), (9, course_draftn6)], [])) dX1_readRing_56 ML_X1_69 Yv_X9_fault rfl zW_1 rfl rfl (t_X9_fault l _ hcl) (zsub_i (zle_c rfl zle_n) zle_n zle_n) rfl (Nat.le_of_ble_eq_true rfl) (Nat.le_of_ble_eq_true rfl) rfl rfl ?_
          obtain ⟨rfl, rfl, rfl, rfl, rfl, rfl, rfl, rfl, rfl⟩ := so9 h
          exact zJ_iret dX1_readRing_59 rfl rfl
      · replace h := it_f hc h
        refine zJ_aload_n dX1_readRing_35 rfl rfl ?_
        refine zJ_iload_n dX1_readRing_36 rfl rfl ?_
        refine zJ_iconst dX1_readRing_37 zc_1 rfl ?_
        refine zJ_iadd dX1_readRing_38 rfl ?_
        obtain ⟨course_fencesn12, course_planCountn13, course_kindsn14, course_heightsn15, course_feetn16, hcl, h⟩ := bd5_some h
        refine zJ_callV (mi := mX1_readRing) (yi := mX1_takeDraft) (as := [.int (v2_8 + (1 : Int32))]) (st := []) (L2 := ([(65, text_size), (66, text_limitn1), (67, text_atn5), (323, course_fencesn12), (328, course_planCountn13)], [(2, text_signs), (6, course_kindsn14), (7, course_heightsn15), (8, course_feetn16), (9, course_draftn6)], [])) dX1_readRing_39 ML_X1_77 Yv_X1_takeDraft rfl zW_5 rfl rfl (t_X1_takeDraft l _ hcl) (zsub_i (zle_c rfl (zle_c rfl zle_n)) (zle_c rfl (zle_c rfl (zle_c rfl (zle_c rfl zle_n)))) zle_n) rfl (Nat.le_of_ble_eq_true rfl) (Nat.le_of_ble_eq_true rfl) rfl rfl ?_
        refine zJ_iload_n dX1_readRing_42 rfl rfl ?_
        refine zJ_iconst dX1_readRing_43 zc_1 rfl ?_
        refine zJ_iadd dX1_readRing_44 rfl ?_
        obtain ⟨rfl, rfl, rfl, rfl, rfl, rfl, rfl, rfl, rfl⟩ := so9 h
        exact zJ_iret dX1_readRing_45 rfl rfl
    · replace h := it_t hc h
      refine zJ_aload_n dX1_readRing_23 rfl rfl ?_
      obtain ⟨rn17, hcl, h⟩ := bd1_some h
      refine zJ_callV (mi := mX1_readRing) (yi := mX9_fault) (as := []) (st := []) (L2 := ([(65, text_size), (66, text_limitn1), (67, text_atn5), (323, course_fences), (328, course_planCount)], [(2, text_signs), (6, course_kinds), (7, course_heights), (8, course_feet), (9, course_draftn6)], [])) dX1_readRing_24 ML_X1_69 Yv_X9_fault rfl zW_1 rfl rfl (t_X9_fault l _ hcl) (zsub_i (zle_c rfl zle_n) zle_n zle_n) rfl (Nat.le_of_ble_eq_true rfl) (Nat.le_of_ble_eq_true rfl) rfl rfl ?_
      obtain ⟨rfl, rfl, rfl, rfl, rfl, rfl, rfl, rfl, rfl⟩ := so9 h
      exact zJ_iret dX1_readRing_27 rfl rfl
set_option maxRecDepth 100000 in
set_option maxHeartbeats 4000000 in
theorem t_X8_forget_kept (l : Launch) (σ : zS) {kept_count : Int32} {kept_sizes : (Nat → Int32)} {w_kept_count : Int32} {w_kept_sizes : (Nat → Int32)} (h : f_X8_forget_kept kept_count kept_sizes = some (w_kept_count, w_kept_sizes)) : zMt l zW 1 mX8_forget σ ([(1923, kept_count)], [(32, kept_sizes)], []) [.ref 30] none ([(1923, w_kept_count)], [(32, w_kept_sizes)], []) := by
  refine zMt_of (ls := [(0, .ref 30)]) (by decide) rfl (fun _ => Nat.le_of_ble_eq_true rfl) rfl ?_
  unfold f_X8_forget_kept at h
  refine zJ_aload_n dX8_forget_0 rfl rfl ?_
  refine zJ_getr (mi := mX8_forget) dX8_forget_1 F_X8_25 zW_30 rfl rfl ?_
  refine zJ_iconst dX8_forget_4 zc_m1 rfl ?_
  obtain ⟨kept_sizesn1, hcl, h⟩ := bd1_some h
  refine zJ_callS (mi := mX8_forget) (yi := mJ7_fill_53178) (as := [.ref 32, .int (-1 : Int32)]) (st := []) (L2 := ([(1923, kept_count)], [(32, kept_sizesn1)], [])) dX8_forget_5 ML_X8_28 Ys_J7_fill_53178 rfl (t_J7_fill_53178_kept_sizes l _ hcl) (zsub_i zle_n (zle_c rfl zle_n) zle_n) rfl (Nat.le_of_ble_eq_true rfl) (Nat.le_of_ble_eq_true rfl) rfl rfl ?_
  refine zJ_aload_n dX8_forget_8 rfl rfl ?_
  refine zJ_iconst dX8_forget_9 zc_0 rfl ?_
  refine zK_puti (mi := mX8_forget) (la' := [(1923, (0 : Int32))]) zW_ok dX8_forget_10 F_X8_34 P_8_3 zW_30 rfl rfl rfl ?_
  obtain ⟨rfl, rfl⟩ := so2 h
  exact zJ_vret dX8_forget_13 rfl
