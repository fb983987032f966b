set_option maxRecDepth 100000 in
set_option maxHeartbeats 4000000 in
theorem t_X1_poleOdds (l : Launch) (σ : zS) {p1 : Int32} {p2 : Int32} {p3 : Int32} {course_rule_size : Int32} {course_kinds : (Nat → Int32)} {course_heights : (Nat → Int32)} {course_feet : (Nat → Int32)} {course_digits : (Nat → Int32)} {rule_codes : (Nat → Int32)} {rule_stack : (Nat → Int32)} {rule_things : (Nat → Int32)} {r : Int32} {w_rule_stack : (Nat → Int32)} {w_rule_things : (Nat → Int32)} (h : f_X1_poleOdds p1 p2 p3 course_rule_size course_kinds course_heights course_feet course_digits rule_codes rule_stack rule_things = some (r, w_rule_stack, w_rule_things)) : zMt l zW 3 mX1_poleOdds σ ([(769, course_rule_size)], [(6, course_kinds), (7, course_heights), (8, course_feet), (10, course_digits), (13, rule_codes), (15, rule_stack), (16, rule_things)], []) [.ref 5, .int p1, .int p2, .int p3] (some (.int r)) ([(769, course_rule_size)], [(6, course_kinds), (7, course_heights), (8, course_feet), (10, course_digits), (13, rule_codes), (15, w_rule_stack), (16, w_rule_things)], []) := by
  refine zMt_of (ls := [(0, .ref 5), (1, .int p1), (2, .int p2), (3, .int p3)]) (by decide) rfl (fun _ => Nat.le_of_ble_eq_true rfl) rfl ?_
  unfold f_X1_poleOdds at h
  refine zJ_aload_n dX1_poleOdds_0 rfl rfl ?_
  refine zJ_getr (mi := mX1_poleOdds) dX1_poleOdds_1 F_X1_37 zW_5 rfl rfl ?_
  refine zJ_getr (mi := mX1_poleOdds) dX1_poleOdds_4 F_X1_126 zW_12 rfl rfl ?_
  refine zJ_astore (ls' := [(4, .ref 16), (0, .ref 5), (1, .int p1), (2, .int p2), (3, .int p3)]) dX1_poleOdds_7 rfl rfl rfl ?_
  refine zJ_aload dX1_poleOdds_9 rfl rfl ?_
  refine zJ_iconst dX1_poleOdds_11 zc_0 rfl ?_
  refine zJ_aload_n dX1_poleOdds_12 rfl rfl ?_
  refine zJ_getr (mi := mX1_poleOdds) dX1_poleOdds_13 F_X1_15 zW_5 rfl rfl ?_
  refine zJ_iload_n dX1_poleOdds_16 rfl rfl ?_
  obtain ⟨hg, h⟩ := gd_some h
  refine zJ_iald (mi := mX1_poleOdds) (f := course_heights) dX1_poleOdds_17 zW_7 (ix_in hg) rfl rfl ?_
  obtain ⟨hg, h⟩ := gd_some h
  refine zK_iast (mi := mX1_poleOdds) (f := rule_things) (lb' := [(6, course_kinds), (7, course_heights), (8, course_feet), (10, course_digits), (13, rule_codes), (15, rule_stack), (16, (upd rule_things (0 : Int32).toNatClampNeg (course_heights p2.toNatClampNeg)))]) dX1_poleOdds_18 zW_16 (ix_in hg) rfl rfl rfl ?_
  refine zJ_aload dX1_poleOdds_19 rfl rfl ?_
  refine zJ_iconst dX1_poleOdds_21 zc_1 rfl ?_
  refine zJ_aload_n dX1_poleOdds_22 rfl rfl ?_
  refine zJ_iload_n dX1_poleOdds_23 rfl rfl ?_
  refine zJ_iconst dX1_poleOdds_24 zc_1 rfl ?_
  obtain ⟨rn1, hcl, h⟩ := bd1_some h
  refine zJ_callV2 (σ := σ) (L := ([(769, course_rule_size)], [(6, course_kinds), (7, course_heights), (8, course_feet), (10, course_digits), (13, rule_codes), (15, rule_stack), (16, (upd rule_things (0 : Int32).toNatClampNeg (course_heights p2.toNatClampNeg)))], [])) (mi := mX1_poleOdds) (yi := mX1_ofHorse) (as := [.int p1, .int (1 : Int32)]) (st := [.int (1 : Int32), .ref 16]) (L2 := ([(769, course_rule_size)], [(6, course_kinds), (7, course_heights), (8, course_feet), (10, course_digits), (13, rule_codes), (15, rule_stack), (16, (upd rule_things (0 : Int32).toNatClampNeg (course_heights p2.toNatClampNeg)))], [])) dX1_poleOdds_25 ML_X1_104 Yv_X1_ofHorse rfl zW_5 rfl rfl (t_X1_ofHorse l _ hcl) (zsub_i zle_n (zle_c rfl zle_n) zle_n) (zjok_i rfl rfl (zle_c rfl zle_n) rfl rfl (zle_c rfl (zle_c rfl (zle_c rfl (zle_c rfl (zle_c rfl (zle_c rfl (zle_c rfl zle_n))))))) rfl rfl zle_n) (Nat.le_of_ble_eq_true rfl) (Nat.le_of_ble_eq_true rfl) rfl rfl ?_
  obtain ⟨hg, h⟩ := gd_some h
  refine zK_iast (mi := mX1_poleOdds) (f := ((upd rule_things (0 : Int32).toNatClampNeg (course_heights p2.toNatClampNeg)))) (lb' := [(6, course_kinds), (7, course_heights), (8, course_feet), (10, course_digits), (13, rule_codes), (15, rule_stack), (16, (upd ((upd rule_things (0 : Int32).toNatClampNeg (course_heights p2.toNatClampNeg))) (1 : Int32).toNatClampNeg rn1))]) dX1_poleOdds_28 zW_16 (ix_in hg) rfl rfl rfl ?_
  refine zJ_aload dX1_poleOdds_29 rfl rfl ?_
  refine zJ_iconst dX1_poleOdds_31 zc_2 rfl ?_
  refine zJ_aload_n dX1_poleOdds_32 rfl rfl ?_
  refine zJ_iload_n dX1_poleOdds_33 rfl rfl ?_
  refine zJ_iconst dX1_poleOdds_34 zc_2 rfl ?_
  refine zJ_aload_n dX1_poleOdds_35 rfl rfl ?_
  refine zJ_getr (mi := mX1_poleOdds) dX1_poleOdds_36 F_X1_11 zW_5 rfl rfl ?_
  refine zJ_iload_n dX1_poleOdds_39 rfl rfl ?_
  obtain ⟨hg, h⟩ := gd_some h
  refine zJ_iald (mi := mX1_poleOdds) (f := course_kinds) dX1_poleOdds_40 zW_6 (ix_in hg) rfl rfl ?_
  refine zJ_iadd dX1_poleOdds_41 rfl ?_
  obtain ⟨rn2, hcl, h⟩ := bd1_some h
  refine zJ_callV2 (σ := σ) (L := ([(769, course_rule_size)], [(6, course_kinds), (7, course_heights), (8, course_feet), (10, course_digits), (13, rule_codes), (15, rule_stack), (16, (upd ((upd rule_things (0 : Int32).toNatClampNeg (course_heights p2.toNatClampNeg))) (1 : Int32).toNatClampNeg rn1))], [])) (mi := mX1_poleOdds) (yi := mX1_ofHorse) (as := [.int p1, .int ((2 : Int32) + (course_kinds p2.toNatClampNeg))]) (st := [.int (2 : Int32), .ref 16]) (L2 := ([(769, course_rule_size)], [(6, course_kinds), (7, course_heights), (8, course_feet), (10, course_digits), (13, rule_codes), (15, rule_stack), (16, (upd ((upd rule_things (0 : Int32).toNatClampNeg (course_heights p2.toNatClampNeg))) (1 : Int32).toNatClampNeg rn1))], [])) dX1_poleOdds_42 ML_X1_104 Yv_X1_ofHorse rfl zW_5 rfl rfl (t_X1_ofHorse l _ hcl) (zsub_i zle_n (zle_c rfl zle_n) zle_n) (zjok_i rfl rfl (zle_c rfl zle_n) rfl rfl (zle_c rfl (zle_c rfl (zle_c rfl (zle_c rfl (zle_c rfl (zle_c rfl (zle_c rfl zle_n))))))) rfl rfl zle_n) (Nat.le_of_ble_eq_true rfl) (Nat.le_of_ble_eq_true rfl) rfl rfl ?_
  obtain ⟨hg, h⟩ := gd_some h
  refine zK_iast (mi := mX1_poleOdds) (f := ((upd ((upd rule_things (0 : Int32).toNatClampNeg (course_heights p2.toNatClampNeg))) (1 : Int32).toNatClampNeg rn1))) (lb' := [(6, course_kinds), (7, course_heights), (8, course_feet), (10, course_digits), (13, rule_codes), (15, rule_stack), (16, (upd ((upd ((upd rule_things (0 : Int32).toNatClampNeg (course_heights p2.toNatClampNeg))) (1 : Int32).toNatClampNeg rn1)) (2 : Int32).toNatClampNeg rn2))]) dX1_poleOdds_45 zW_16 (ix_in hg) rfl rfl rfl ?_
  refine zJ_aload dX1_poleOdds_46 rfl rfl ?_
  refine zJ_iconst dX1_poleOdds_48 zc_3 rfl ?_
  refine zJ_iload_n dX1_poleOdds_49 rfl rfl ?_
  refine zJ_iconst dX1_poleOdds_50 zc_4 rfl ?_
  refine zJ_irem dX1_poleOdds_51 (by decide) rfl ?_
  obtain ⟨hg, h⟩ := gd_some h
  refine zK_iast (mi := mX1_poleOdds) (f := ((upd ((upd ((upd rule_things (0 : Int32).toNatClampNeg (course_heights p2.toNatClampNeg))) (1 : Int32).toNatClampNeg rn1)) (2 : Int32).toNatClampNeg rn2))) (lb' := [(6, course_kinds), (7, course_heights), (8, course_feet), (10, course_digits), (13, rule_codes), (15, rule_stack), (16, (upd ((upd ((upd ((upd rule_things (0 : Int32).toNatClampNeg (course_heights p2.toNatClampNeg))) (1 : Int32).toNatClampNeg rn1)) (2 : Int32).toNatClampNeg rn2)) (3 : Int32).toNatClampNeg (p3 - p3 / (4 : Int32) * (4 : Int32))))]) dX1_poleOdds_52 zW_16 (ix_in hg) rfl rfl rfl ?_
  refine zJ_aload dX1_poleOdds_53 rfl rfl ?_
  refine zJ_iconst dX1_poleOdds_55 zc_4 rfl ?_
  refine zJ_iload_n dX1_poleOdds_56 rfl rfl ?_
  obtain ⟨rn3, hcl, h⟩ := bd1_some h
  refine zJ_callS2 (σ := σ) (L := ([(769, course_rule_size)], [(6, course_kinds), (7, course_heights), (8, course_feet), (10, course_digits), (13, rule_codes), (15, rule_stack), (16, (upd ((upd ((upd ((upd rule_things (0 : Int32).toNatClampNeg (course_heights p2.toNatClampNeg))) (1 : Int32).toNatClampNeg rn1)) (2 : Int32).toNatClampNeg rn2)) (3 : Int32).toNatClampNeg (p3 - p3 / (4 : Int32) * (4 : Int32))))], [])) (mi := mX1_poleOdds) (yi := mX1_isCut) (as := [.int p3]) (st := [.int (4 : Int32), .ref 16]) (L2 := ([(769, course_rule_size)], [(6, course_kinds), (7, course_heights), (8, course_feet), (10, course_digits), (13, rule_codes), (15, rule_stack), (16, (upd ((upd ((upd ((upd rule_things (0 : Int32).toNatClampNeg (course_heights p2.toNatClampNeg))) (1 : Int32).toNatClampNeg rn1)) (2 : Int32).toNatClampNeg rn2)) (3 : Int32).toNatClampNeg (p3 - p3 / (4 : Int32) * (4 : Int32))))], [])) dX1_poleOdds_57 ML_X1_110 Ys_X1_isCut rfl (t_X1_isCut l _ hcl) (zsub_i zle_n zle_n zle_n) (zjok_i rfl rfl (zle_c rfl zle_n) rfl rfl (zle_c rfl (zle_c rfl (zle_c rfl (zle_c rfl (zle_c rfl (zle_c rfl (zle_c rfl zle_n))))))) rfl rfl zle_n) (Nat.le_of_ble_eq_true rfl) (Nat.le_of_ble_eq_true rfl) rfl rfl ?_
  have hj_X1_poleOdds_68 : ∀ (t2_68j : Int32), j_X1_poleOdds_68 p1 p2 p3 course_rule_size course_heights course_feet course_digits rule_codes rule_stack rule_things rn1 rn2 t2_68j = some (r, w_rule_stack, w_rule_things) → zJ l zW 3 mX1_poleOdds σ ([(769, course_rule_size)], [(6, course_kinds), (7, course_heights), (8, course_feet), (10, course_digits), (13, rule_codes), (15, rule_stack), (16, (upd ((upd ((upd ((upd rule_things (0 : Int32).toNatClampNeg (course_heights p2.toNatClampNeg))) (1 : Int32).toNatClampNeg rn1)) (2 : Int32).toNatClampNeg rn2)) (3 : Int32).toNatClampNeg (p3 - p3 / (4 : Int32) * (4 : Int32))))], []) 68 [(0, .ref 5), (1, .int p1), (2, .int p2), (4, .ref 16)] [.int t2_68j, .int (4 : Int32), .ref 16] (some (.int r)) ([(769, course_rule_size)], [(6, course_kinds), (7, course_heights), (8, course_feet), (10, course_digits), (13, rule_codes), (15, w_rule_stack), (16, w_rule_things)], []) := by
    intro t2_68j h
    unfold j_X1_poleOdds_68 at h
    obtain ⟨hg, h⟩ := gd_some h
    refine zK_iast (mi := mX1_poleOdds) (f := ((upd ((upd ((upd ((upd rule_things (0 : Int32).toNatClampNeg (course_heights p2.toNatClampNeg))) (1 : Int32).toNatClampNeg rn1)) (2 : Int32).toNatClampNeg rn2)) (3 : Int32).toNatClampNeg (p3 - p3 / (4 : Int32) * (4 : Int32))))) (lb' := [(6, course_kinds), (7, course_heights), (8, course_feet), (10, course_digits), (13, rule_codes), (15, rule_stack), (16, (upd ((upd ((upd ((upd ((upd rule_things (0 : Int32).toNatClampNeg (course_heights p2.toNatClampNeg))) (1 : Int32).toNatClampNeg rn1)) (2 : Int32).toNatClampNeg rn2)) (3 : Int32).toNatClampNeg (p3 - p3 / (4 : Int32) * (4 : Int32)))) (4 : Int32).toNatClampNeg t2_68j))]) dX1_poleOdds_68 zW_16 (ix_in hg) rfl rfl rfl ?_
    refine zJ_aload dX1_poleOdds_69 rfl rfl ?_
    refine zJ_iconst dX1_poleOdds_71 zc_5 rfl ?_
    refine zJ_aload_n dX1_poleOdds_72 rfl rfl ?_
    refine zJ_iload_n dX1_poleOdds_73 rfl rfl ?_
    refine zJ_iload_n dX1_poleOdds_74 rfl rfl ?_
    obtain ⟨rn4, hcl, h⟩ := bd1_some h
    refine zJ_callV2 (σ := σ) (L := ([(769, course_rule_size)], [(6, course_kinds), (7, course_heights), (8, course_feet), (10, course_digits), (13, rule_codes), (15, rule_stack), (16, (upd ((upd ((upd ((upd ((upd rule_things (0 : Int32).toNatClampNeg (course_heights p2.toNatClampNeg))) (1 : Int32).toNatClampNeg rn1)) (2 : Int32).toNatClampNeg rn2)) (3 : Int32).toNatClampNeg (p3 - p3 / (4 : Int32) * (4 : Int32)))) (4 : Int32).toNatClampNeg t2_68j))], [])) (mi := mX1_poleOdds) (yi := mX1_leanAt) (as := [.int p1, .int p2]) (st := [.int (5 : Int32), .ref 16]) (L2 := ([(769, course_rule_size)], [(6, course_kinds), (7, course_heights), (8, course_feet), (10, course_digits), (13, rule_codes), (15, rule_stack), (16, (upd ((upd ((upd ((upd ((upd rule_things (0 : Int32).toNatClampNeg (course_heights p2.toNatClampNeg))) (1 : Int32).toNatClampNeg rn1)) (2 : Int32).toNatClampNeg rn2)) (3 : Int32).toNatClampNeg (p3 - p3 / (4 : Int32) * (4 : Int32)))) (4 : Int32).toNatClampNeg t2_68j))], [])) dX1_poleOdds_75 ML_X1_123 Yv_X1_leanAt rfl zW_5 rfl rfl (t_X1_leanAt l _ hcl) (zsub_i zle_n (zle_c rfl (zle_c rfl zle_n)) zle_n) (zjok_i rfl rfl (zle_c rfl zle_n) rfl rfl (zle_c rfl (zle_c rfl (zle_c rfl (zle_c rfl (zle_c rfl (zle_c rfl (zle_c rfl zle_n))))))) rfl rfl zle_n) (Nat.le_of_ble_eq_true rfl) (Nat.le_of_ble_eq_true rfl) rfl rfl ?_
    obtain ⟨hg, h⟩ := gd_some h
    refine zK_iast (mi := mX1_poleOdds) (f := ((upd ((upd ((upd ((upd ((upd rule_things (0 : Int32).toNatClampNeg (course_heights p2.toNatClampNeg))) (1 : Int32).toNatClampNeg rn1)) (2 : Int32).toNatClampNeg rn2)) (3 : Int32).toNatClampNeg (p3 - p3 / (4 : Int32) * (4 : Int32)))) (4 : Int32).toNatClampNeg t2_68j))) (lb' := [(6, course_kinds), (7, course_heights), (8, course_feet), (10, course_digits), (13, rule_codes), (15, rule_stack), (16, (upd ((upd ((upd ((upd ((upd ((upd rule_things (0 : Int32).toNatClampNeg (course_heights p2.toNatClampNeg))) (1 : Int32).toNatClampNeg rn1)) (2 : Int32).toNatClampNeg rn2)) (3 : Int32).toNatClampNeg (p3 - p3 / (4 : Int32) * (4 : Int32)))) (4 : Int32).toNatClampNeg t2_68j)) (5 : Int32).toNatClampNeg rn4))]) dX1_poleOdds_78 zW_16 (ix_in hg) rfl rfl rfl ?_
    refine zJ_aload dX1_poleOdds_79 rfl rfl ?_
    refine zJ_bipush dX1_poleOdds_81 zb_6 rfl ?_
    refine zJ_iload_n dX1_poleOdds_83 rfl rfl ?_
    obtain ⟨hg, h⟩ := gd_some h
    refine zK_iast (mi := mX1_poleOdds) (f := ((upd ((upd ((upd ((upd ((upd ((upd rule_things (0 : Int32).toNatClampNeg (course_heights p2.toNatClampNeg))) (1 : Int32).toNatClampNeg rn1)) (2 : Int32).toNatClampNeg rn2)) (3 : Int32).toNatClampNeg (p3 - p3 / (4 : Int32) * (4 : Int32)))) (4 : Int32).toNatClampNeg t2_68j)) (5 : Int32).toNatClampNeg rn4))) (lb' := [(6, course_kinds), (7, course_heights), (8, course_feet), (10, course_digits), (13, rule_codes), (15, rule_stack), (16, (upd ((upd ((upd ((upd ((upd ((upd ((upd rule_things (0 : Int32).toNatClampNeg (course_heights p2.toNatClampNeg))) (1 : Int32).toNatClampNeg rn1)) (2 : Int32).toNatClampNeg rn2)) (3 : Int32).toNatClampNeg (p3 - p3 / (4 : Int32) * (4 : Int32)))) (4 : Int32).toNatClampNeg t2_68j)) (5 : Int32).toNatClampNeg rn4)) (6 : Int32).toNatClampNeg p2))]) dX1_poleOdds_84 zW_16 (ix_in hg) rfl rfl rfl ?_
    refine zJ_aload dX1_poleOdds_85 rfl rfl ?_
    refine zJ_bipush dX1_poleOdds_87 zb_7 rfl ?_
    refine zJ_aload_n dX1_poleOdds_89 rfl rfl ?_
    refine zJ_getr (mi := mX1_poleOdds) dX1_poleOdds_90 F_X1_18 zW_5 rfl rfl ?_
    refine zJ_iload_n dX1_poleOdds_93 rfl rfl ?_
    obtain ⟨hg, h⟩ := gd_some h
    refine zJ_iald (mi := mX1_poleOdds) (f := course_feet) dX1_poleOdds_94 zW_8 (ix_in hg) rfl rfl ?_
    obtain ⟨hg, h⟩ := gd_some h
    refine zK_iast (mi := mX1_poleOdds) (f := ((upd ((upd ((upd ((upd ((upd ((upd ((upd rule_things (0 : Int32).toNatClampNeg (course_heights p2.toNatClampNeg))) (1 : Int32).toNatClampNeg rn1)) (2 : Int32).toNatClampNeg rn2)) (3 : Int32).toNatClampNeg (p3 - p3 / (4 : Int32) * (4 : Int32)))) (4 : Int32).toNatClampNeg t2_68j)) (5 : Int32).toNatClampNeg rn4)) (6 : Int32).toNatClampNeg p2))) (lb' := [(6, course_kinds), (7, course_heights), (8, course_feet), (10, course_digits), (13, rule_codes), (15, rule_stack), (16, (upd ((upd ((upd ((upd ((upd ((upd ((upd ((upd rule_things (0 : Int32).toNatClampNeg (course_heights p2.toNatClampNeg))) (1 : Int32).toNatClampNeg rn1)) (2 : Int32).toNatClampNeg rn2)) (3 : Int32).toNatClampNeg (p3 - p3 / (4 : Int32) * (4 : Int32)))) (4 : Int32).toNatClampNeg t2_68j)) (5 : Int32).toNatClampNeg rn4)) (6 : Int32).toNatClampNeg p2)) (7 : Int32).toNatClampNeg (course_feet p2.toNatClampNeg)))]) dX1_poleOdds_95 zW_16 (ix_in hg) rfl rfl rfl ?_
    refine zJ_aload_n dX1_poleOdds_96 rfl rfl ?_
    refine zJ_getr (mi := mX1_poleOdds) dX1_poleOdds_97 F_X1_37 zW_5 rfl rfl ?_
    obtain ⟨rn5, rule_stackn6, hcl, h⟩ := bd2_some h
    refine zJ_callV2 (σ := σ) (L := ([(769, course_rule_size)], [(6, course_kinds), (7, course_heights), (8, course_feet), (10, course_digits), (13, rule_codes), (15, rule_stack), (16, (upd ((upd ((upd ((upd ((upd ((upd ((upd ((upd rule_things (0 : Int32).toNatClampNeg (course_heights p2.toNatClampNeg))) (1 : Int32).toNatClampNeg rn1)) (2 : Int32).toNatClampNeg rn2)) (3 : Int32).toNatClampNeg (p3 - p3 / (4 : Int32) * (4 : Int32)))) (4 : Int32).toNatClampNeg t2_68j)) (5 : Int32).toNatClampNeg rn4)) (6 : Int32).toNatClampNeg p2)) (7 : Int32).toNatClampNeg (course_feet p2.toNatClampNeg)))], [])) (mi := mX1_poleOdds) (yi := mX7_odds) (as := []) (st := []) (L2 := ([(769, course_rule_size)], [(6, course_kinds), (7, course_heights), (8, course_feet), (10, course_digits), (13, rule_codes), (15, rule_stackn6), (16, (upd ((upd ((upd ((upd ((upd ((upd ((upd ((upd rule_things (0 : Int32).toNatClampNeg (course_heights p2.toNatClampNeg))) (1 : Int32).toNatClampNeg rn1)) (2 : Int32).toNatClampNeg rn2)) (3 : Int32).toNatClampNeg (p3 - p3 / (4 : Int32) * (4 : Int32)))) (4 : Int32).toNatClampNeg t2_68j)) (5 : Int32).toNatClampNeg rn4)) (6 : Int32).toNatClampNeg p2)) (7 : Int32).toNatClampNeg (course_feet p2.toNatClampNeg)))], [])) dX1_poleOdds_100 ML_X1_129 Yv_X7_odds rfl zW_12 rfl rfl (t_X7_odds l _ hcl) (zsub_i (zle_c rfl zle_n) (zle_c rfl (zle_c rfl (zle_c rfl zle_n))) zle_n) (zjok_i rfl rfl (zle_c rfl zle_n) rfl rfl (zle_c rfl (zle_c rfl (zle_c rfl (zle_c rfl (zle_c rfl (zle_c rfl (zle_c rfl zle_n))))))) rfl rfl zle_n) (Nat.le_of_ble_eq_true rfl) (Nat.le_of_ble_eq_true rfl) rfl rfl ?_
    obtain ⟨rfl, rfl, rfl⟩ := so3 h
    exact zJ_iret dX1_poleOdds_103 rfl rfl
  refine zJ_if_eq (tgt := 67) dX1_poleOdds_60 (by decide) rfl (fun hc => ?_) (fun hc => ?_)
  · replace h := it_t hc h
    refine zJ_iconst dX1_poleOdds_67 zc_0 rfl ?_
    refine zJ_loc (ls' := [(0, .ref 5), (1, .int p1), (2, .int p2), (4, .ref 16)]) (zll_c rfl (zll_c rfl (zll_c rfl (zll_c rfl zll_n)))) ?_
    exact hj_X1_poleOdds_68 _ h
  · replace h := it_f hc h
    refine zJ_iconst dX1_poleOdds_63 zc_1 rfl ?_
    refine zJ_goto (tgt := 68) dX1_poleOdds_64 (by decide) ?_
    refine zJ_loc (ls' := [(0, .ref 5), (1, .int p1), (2, .int p2), (4, .ref 16)]) (zll_c rfl (zll_c rfl (zll_c rfl (zll_c rfl zll_n)))) ?_
    exact hj_X1_poleOdds_68 _ h
set_option maxRecDepth 100000 in
set_option maxHeartbeats 4000000 in
theorem t_X1_refusalOdds (l : Launch) (σ : zS) {p1 : Int32} {p2 : Int32} {course_kinds : (Nat → Int32)} {course_feet : (Nat → Int32)} {course_digits : (Nat → Int32)} {r : Int32} (h : f_X1_refusalOdds p1 p2 course_kinds course_feet course_digits = some r) : zMt l zW 3 mX1_refusalOdds σ ([], [(6, course_kinds), (8, course_feet), (10, course_digits)], []) [.ref 5, .int p1, .int p2] (some (.int r)) ([], [(6, course_kinds), (8, course_feet), (10, course_digits)], []) := by
  refine zMt_of (ls := [(0, .ref 5), (1, .int p1), (2, .int p2)]) (by decide) rfl (fun _ => Nat.le_of_ble_eq_true rfl) rfl ?_
  unfold f_X1_refusalOdds at h
  refine zJ_iconst dX1_refusalOdds_0 zc_0 rfl ?_
  refine zJ_bipush dX1_refusalOdds_1 zb_8 rfl ?_
  refine zJ_aload_n dX1_refusalOdds_3 rfl rfl ?_
  refine zJ_iload_n dX1_refusalOdds_4 rfl rfl ?_
  refine zJ_iload_n dX1_refusalOdds_5 rfl rfl ?_
  obtain ⟨rn1, hcl, h⟩ := bd1_some h
  refine zJ_callV2 (σ := σ) (L := ([], [(6, course_kinds), (8, course_feet), (10, course_digits)], [])) (mi := mX1_refusalOdds) (yi := mX1_leanAt) (as := [.int p1, .int p2]) (st := [.int (8 : Int32), .int (0 : Int32)]) (L2 := ([], [(6, course_kinds), (8, course_feet), (10, course_digits)], [])) dX1_refusalOdds_6 ML_X1_123 Yv_X1_leanAt rfl zW_5 rfl rfl (t_X1_leanAt l _ hcl) (zsub_i zle_n (zle_c rfl (zle_c rfl zle_n)) zle_n) (zjok_i rfl rfl zle_n rfl rfl (zle_c rfl (zle_c rfl (zle_c rfl zle_n))) rfl rfl zle_n) (Nat.le_of_ble_eq_true rfl) (Nat.le_of_ble_eq_true rfl) rfl rfl ?_
  refine zJ_iconst dX1_refusalOdds_9 zc_2 rfl ?_
  refine zJ_isub dX1_refusalOdds_10 rfl ?_
  refine zJ_imul dX1_refusalOdds_11 rfl ?_
  refine zJ_mmax (mi := mX1_refusalOdds) dX1_refusalOdds_12 L_X1_114 K_max_s K_math K_max_c (Nat.le_of_ble_eq_true rfl) (Nat.le_of_ble_eq_true rfl) rfl ?_
  obtain ⟨v3n2, ev3n2, h⟩ := lt1_some h
  refine zJ_nmi ev3n2 ?_
  refine zJ_istore_n (ls' := [(3, .int v3n2), (0, .ref 5), (1, .int p1), (2, .int p2)]) dX1_refusalOdds_15 rfl rfl rfl ?_
  refine zJ_aload_n dX1_refusalOdds_16 rfl rfl ?_
  refine zJ_getr (mi := mX1_refusalOdds) dX1_refusalOdds_17 F_X1_11 zW_5 rfl rfl ?_
  refine zJ_iload_n dX1_refusalOdds_20 rfl rfl ?_
  obtain ⟨hg, h⟩ := gd_some h
  refine zJ_iald (mi := mX1_refusalOdds) (f := course_kinds) dX1_refusalOdds_21 zW_6 (ix_in hg) rfl rfl ?_
  refine zJ_iconst dX1_refusalOdds_22 zc_3 rfl ?_
  refine zJ_icmp_ne (tgt := 40) dX1_refusalOdds_23 (by decide) rfl (fun hc => ?_) (fun hc => ?_)
  · replace h := it_f hc h
    refine zJ_iconst dX1_refusalOdds_40 zc_0 rfl ?_
    refine zJ_istore (ls' := [(4, .int (0 : Int32)), (3, .int v3n2), (0, .ref 5), (1, .int p1), (2, .int p2)]) dX1_refusalOdds_41 rfl rfl rfl ?_
    refine zJ_iload dX1_refusalOdds_43 rfl rfl ?_
    refine zJ_if_eq (tgt := 54) dX1_refusalOdds_45 (by decide) rfl (fun hc => ?_) (fun hc => ?_)
    · refine zJ_iload_n dX1_refusalOdds_54 rfl rfl ?_
      obtain rfl := so1 h
      exact zJ_iret dX1_refusalOdds_55 rfl rfl
    · exact absurd hc (by decide)
  · replace h := it_t hc h
    refine zJ_aload_n dX1_refusalOdds_26 rfl rfl ?_
    refine zJ_iload_n dX1_refusalOdds_27 rfl rfl ?_
    refine zJ_iconst dX1_refusalOdds_28 zc_5 rfl ?_
    obtain ⟨rn3, hcl, h⟩ := bd1_some h
    refine zJ_callV2 (σ := σ) (L := ([], [(6, course_kinds), (8, course_feet), (10, course_digits)], [])) (mi := mX1_refusalOdds) (yi := mX1_ofHorse) (as := [.int p1, .int (5 : Int32)]) (st := []) (L2 := ([], [(6, course_kinds), (8, course_feet), (10, course_digits)], [])) dX1_refusalOdds_29 ML_X1_104 Yv_X1_ofHorse rfl zW_5 rfl rfl (t_X1_ofHorse l _ hcl) (zsub_i zle_n (zle_c rfl zle_n) zle_n) (zjok_i rfl rfl zle_n rfl rfl (zle_c rfl (zle_c rfl (zle_c rfl zle_n))) rfl rfl zle_n) (Nat.le_of_ble_eq_true rfl) (Nat.le_of_ble_eq_true rfl) rfl rfl ?_
    refine zJ_iconst dX1_refusalOdds_32 zc_5 rfl ?_
    refine zJ_icmp_ge (tgt := 40) dX1_refusalOdds_33 (by decide) rfl (fun hc => ?_) (fun hc => ?_)
    · replace h := it_t hc h
      refine zJ_iconst dX1_refusalOdds_40 zc_0 rfl ?_
      refine zJ_istore (ls' := [(4, .int (0 : Int32)), (3, .int v3n2), (0, .ref 5), (1, .int p1), (2, .int p2)]) dX1_refusalOdds_41 rfl rfl rfl ?_
      refine zJ_iload dX1_refusalOdds_43 rfl rfl ?_
      refine zJ_if_eq (tgt := 54) dX1_refusalOdds_45 (by decide) rfl (fun hc => ?_) (fun hc => ?_)
      · refine zJ_iload_n dX1_refusalOdds_54 rfl rfl ?_
        obtain rfl := so1 h
        exact zJ_iret dX1_refusalOdds_55 rfl rfl
      · exact absurd hc (by decide)
    · replace h := it_f hc h
      refine zJ_iconst dX1_refusalOdds_36 zc_1 rfl ?_
      refine zJ_goto (tgt := 41) dX1_refusalOdds_37 (by decide) ?_
      refine zJ_istore (ls' := [(4, .int (1 : Int32)), (3, .int v3n2), (0, .ref 5), (1, .int p1), (2, .int p2)]) dX1_refusalOdds_41 rfl rfl rfl ?_
      refine zJ_iload dX1_refusalOdds_43 rfl rfl ?_
      refine zJ_if_eq (tgt := 54) dX1_refusalOdds_45 (by decide) rfl (fun hc => ?_) (fun hc => ?_)
      · exact absurd hc (by decide)
      · refine zJ_iload_n dX1_refusalOdds_48 rfl rfl ?_
        refine zJ_iconst dX1_refusalOdds_49 zc_5 rfl ?_
        refine zJ_iadd dX1_refusalOdds_50 rfl ?_
        refine zJ_goto (tgt := 55) dX1_refusalOdds_51 (by decide) ?_
        obtain rfl := so1 h
        exact zJ_iret dX1_refusalOdds_55 rfl rfl
set_option maxRecDepth 100000 in
set_option maxHeartbeats 4000000 in
theorem t_X2_next (l : Launch) (σ : zS) {p1 : Int32} {drawn_state : Int32} {r : Int32} {w_drawn_state : Int32} (h : f_X2_next p1 drawn_state = some (r, w_drawn_state)) : zMt l zW 0 mX2_next σ ([(2112, drawn_state)], [], []) [.ref 33, .int p1] (some (.int r)) ([(2112, w_drawn_state)], [], []) := by
  refine zMt_of (ls := [(0, .ref 33), (1, .int p1)]) (by decide) rfl (fun _ => Nat.le_of_ble_eq_true rfl) rfl ?_
  unfold f_X2_next at h
  refine zJ_aload_n dX2_next_0 rfl rfl ?_
  refine zJ_aload_n dX2_next_1 rfl rfl ?_
  refine zJ_geti (mi := mX2_next) (x := drawn_state) dX2_next_2 F_X2_9 zW_33 rfl rfl rfl ?_
  refine zJ_ldc (v := 1103515245) dX2_next_5 C_X2_56 rfl ?_
  refine zJ_imul dX2_next_7 rfl ?_
  refine zJ_sipush dX2_next_8 zs_12345 rfl ?_
  refine zJ_iadd dX2_next_11 rfl ?_
  refine zK_puti (mi := mX2_next) (la' := [(2112, ((drawn_state * (1103515245 : Int32)) + (12345 : Int32)))]) zW_ok dX2_next_12 F_X2_9 P_2_0 zW_33 rfl rfl rfl ?_
  refine zJ_iload_n dX2_next_15 rfl rfl ?_
  refine zJ_if_le (tgt := 31) dX2_next_16 (by decide) rfl (fun hc => ?_) (fun hc => ?_)
  · replace h := it_t hc h
    refine zJ_iconst dX2_next_31 zc_0 rfl ?_
    obtain ⟨rfl, rfl⟩ := so2 h
    exact zJ_iret dX2_next_32 rfl rfl
  · replace h := it_f hc h
    refine zJ_aload_n dX2_next_19 rfl rfl ?_
    refine zJ_geti (mi := mX2_next) (x := ((drawn_state * (1103515245 : Int32)) + (12345 : Int32))) dX2_next_20 F_X2_9 zW_33 rfl rfl rfl ?_
    refine zJ_bipush dX2_next_23 zb_16 rfl ?_
    refine zJ_iushr dX2_next_25 rfl ?_
    refine zJ_iload_n dX2_next_26 rfl rfl ?_
    obtain ⟨hg, h⟩ := gd_some h
    refine zJ_irem dX2_next_27 (nz_ne hg) rfl ?_
    refine zJ_goto (tgt := 32) dX2_next_28 (by decide) ?_
    obtain ⟨rfl, rfl⟩ := so2 h
    exact zJ_iret dX2_next_32 rfl rfl
set_option maxRecDepth 100000 in
set_option maxHeartbeats 4000000 in
theorem t_X2_draw (l : Launch) (σ : zS) {p2 : Int32} {p3 : Int32} {p4 : Int32} {course_fences : Int32} {course_allowed : Int32} {course_rule_size : Int32} {drawn_state : Int32} {drawn_faults : Int32} {drawn_tenths : Int32} {drawn_refused : Int32} {drawn_fallen : Int32} {course_kinds : (Nat → Int32)} {course_heights : (Nat → Int32)} {course_feet : (Nat → Int32)} {course_digits : (Nat → Int32)} {course_plans : (Nat → Int32)} {rule_codes : (Nat → Int32)} {rule_stack : (Nat → Int32)} {rule_things : (Nat → Int32)} {w_drawn_state : Int32} {w_drawn_faults : Int32} {w_drawn_tenths : Int32} {w_drawn_refused : Int32} {w_drawn_fallen : Int32} {w_rule_stack : (Nat → Int32)} {w_rule_things : (Nat → Int32)} (h : f_X2_draw p2 p3 p4 course_fences course_allowed course_rule_size drawn_state drawn_faults drawn_tenths drawn_refused drawn_fallen course_kinds course_heights course_feet course_digits course_plans rule_codes rule_stack rule_things = some (w_drawn_state, w_drawn_faults, w_drawn_tenths, w_drawn_refused, w_drawn_fallen, w_rule_stack, w_rule_things)) : zMt l zW 4 mX2_draw σ ([(323, course_fences), (329, course_allowed), (769, course_rule_size), (2112, drawn_state), (2113, drawn_faults), (2114, drawn_tenths), (2115, drawn_refused), (2116, drawn_fallen)], [(6, course_kinds), (7, course_heights), (8, course_feet), (10, course_digits), (11, course_plans), (13, rule_codes), (15, rule_stack), (16, rule_things)], []) [.ref 33, .ref 5, .int p2, .int p3, .int p4] none ([(323, course_fences), (329, course_allowed), (769, course_rule_size), (2112, w_drawn_state), (2113, w_drawn_faults), (2114, w_drawn_tenths), (2115, w_drawn_refused), (2116, w_drawn_fallen)], [(6, course_kinds), (7, course_heights), (8, course_feet), (10, course_digits), (11, course_plans), (13, rule_codes), (15, w_rule_stack), (16, w_rule_things)], []) := by
  refine zMt_of (ls := [(0, .ref 33), (1, .ref 5), (2, .int p2), (3, .int p3), (4, .int p4)]) (by decide) rfl (fun _ => Nat.le_of_ble_eq_true rfl) rfl ?_
  unfold f_X2_draw at h
  refine zJ_aload_n dX2_draw_0 rfl rfl ?_
  refine zJ_iload dX2_draw_1 rfl rfl ?_
  refine zK_puti (mi := mX2_draw) (la' := [(323, course_fences), (329, course_allowed), (769, course_rule_size), (2112, p4), (2113, drawn_faults), (2114, drawn_tenths), (2115, drawn_refused), (2116, drawn_fallen)]) zW_ok dX2_draw_3 F_X2_9 P_2_0 zW_33 rfl rfl rfl ?_
  refine zJ_aload_n dX2_draw_6 rfl rfl ?_
  refine zJ_iconst dX2_draw_7 zc_0 rfl ?_
  refine zK_puti (mi := mX2_draw) (la' := [(323, course_fences), (329, course_allowed), (769, course_rule_size), (2112, p4), (2113, (0 : Int32)), (2114, drawn_tenths), (2115, drawn_refused), (2116, drawn_fallen)]) zW_ok dX2_draw_8 F_X2_15 P_2_1 zW_33 rfl rfl rfl ?_
  refine zJ_aload_n dX2_draw_11 rfl rfl ?_
  refine zJ_aload_n dX2_draw_12 rfl rfl ?_
  refine zJ_iload_n dX2_draw_13 rfl rfl ?_
  obtain ⟨rn1, hcl, h⟩ := bd1_some h
  refine zJ_callV2 (σ := σ) (L := ([(323, course_fences), (329, course_allowed), (769, course_rule_size), (2112, p4), (2113, (0 : Int32)), (2114, drawn_tenths), (2115, drawn_refused), (2116, drawn_fallen)], [(6, course_kinds), (7, course_heights), (8, course_feet), (10, course_digits), (11, course_plans), (13, rule_codes), (15, rule_stack), (16, rule_things)], [])) (mi := mX2_draw) (yi := mX1_planTenths) (as := [.int p3]) (st := [.ref 33]) (L2 := ([(323, course_fences), (329, course_allowed), (769, course_rule_size), (2112, p4), (2113, (0 : Int32)), (2114, drawn_tenths), (2115, drawn_refused), (2116, drawn_fallen)], [(6, course_kinds), (7, course_heights), (8, course_feet), (10, course_digits), (11, course_plans), (13, rule_codes), (15, rule_stack), (16, rule_things)], [])) dX2_draw_14 ML_X2_18 Yv_X1_planTenths rfl zW_5 rfl rfl (t_X1_planTenths l _ hcl) (zsub_i (zle_c rfl zle_n) (zle_c rfl (zle_c rfl (zle_c rfl zle_n))) zle_n) (zjok_i rfl rfl (zle_c rfl (zle_c rfl (zle_c rfl (zle_c rfl (zle_c rfl (zle_c rfl (zle_c rfl (zle_c rfl zle_n)))))))) rfl rfl (zle_c rfl (zle_c rfl (zle_c rfl (zle_c rfl (zle_c rfl (zle_c rfl (zle_c rfl (zle_c rfl zle_n)))))))) rfl rfl zle_n) (Nat.le_of_ble_eq_true rfl) (Nat.le_of_ble_eq_true rfl) rfl rfl ?_
  refine zK_puti (mi := mX2_draw) (la' := [(323, course_fences), (329, course_allowed), (769, course_rule_size), (2112, p4), (2113, (0 : Int32)), (2114, rn1), (2115, drawn_refused), (2116, drawn_fallen)]) zW_ok dX2_draw_17 F_X2_24 P_2_2 zW_33 rfl rfl rfl ?_
  refine zJ_aload_n dX2_draw_20 rfl rfl ?_
  refine zJ_iconst dX2_draw_21 zc_0 rfl ?_
  refine zK_puti (mi := mX2_draw) (la' := [(323, course_fences), (329, course_allowed), (769, course_rule_size), (2112, p4), (2113, (0 : Int32)), (2114, rn1), (2115, (0 : Int32)), (2116, drawn_fallen)]) zW_ok dX2_draw_22 F_X2_27 P_2_3 zW_33 rfl rfl rfl ?_
  refine zJ_aload_n dX2_draw_25 rfl rfl ?_
  refine zJ_iconst dX2_draw_26 zc_0 rfl ?_
  refine zK_puti (mi := mX2_draw) (la' := [(323, course_fences), (329, course_allowed), (769, course_rule_size), (2112, p4), (2113, (0 : Int32)), (2114, rn1), (2115, (0 : Int32)), (2116, (0 : Int32))]) zW_ok dX2_draw_27 F_X2_30 P_2_4 zW_33 rfl rfl rfl ?_
  refine zJ_iconst dX2_draw_30 zc_0 rfl ?_
  refine zJ_istore (ls' := [(5, .int (0 : Int32)), (0, .ref 33), (1, .ref 5), (2, .int p2), (3, .int p3), (4, .int p4)]) dX2_draw_31 rfl rfl rfl ?_
  have hk33 : ∀ (drawn_state_33x : Int32) (drawn_faults_33x : Int32) (drawn_tenths_33x : Int32) (drawn_refused_33x : Int32) (drawn_fallen_33x : Int32) (rule_stack_33x : (Nat → Int32)) (rule_things_33x : (Nat → Int32)), k_X2_draw_33 course_allowed drawn_state_33x drawn_faults_33x drawn_tenths_33x drawn_refused_33x drawn_fallen_33x rule_stack_33x rule_things_33x = some (w_drawn_state, w_drawn_faults, w_drawn_tenths, w_drawn_refused, w_drawn_fallen, w_rule_stack, w_rule_things) → zJ l zW 4 mX2_draw σ ([(323, course_fences), (329, course_allowed), (769, course_rule_size), (2112, drawn_state_33x), (2113, drawn_faults_33x), (2114, drawn_tenths_33x), (2115, drawn_refused_33x), (2116, drawn_fallen_33x)], [(6, course_kinds), (7, course_heights), (8, course_feet), (10, course_digits), (11, course_plans), (13, rule_codes), (15, rule_stack_33x), (16, rule_things_33x)], []) 144 [(0, .ref 33), (1, .ref 5)] [] none ([(323, course_fences), (329, course_allowed), (769, course_rule_size), (2112, w_drawn_state), (2113, w_drawn_faults), (2114, w_drawn_tenths), (2115, w_drawn_refused), (2116, w_drawn_fallen)], [(6, course_kinds), (7, course_heights), (8, course_feet), (10, course_digits), (11, course_plans), (13, rule_codes), (15, w_rule_stack), (16, w_rule_things)], []) := by
    intro drawn_state_33x drawn_faults_33x drawn_tenths_33x drawn_refused_33x drawn_fallen_33x rule_stack_33x rule_things_33x h
    unfold k_X2_draw_33 at h
    refine zJ_aload_n dX2_draw_144 rfl rfl ?_
    refine zJ_dup dX2_draw_145 rfl rfl ?_
    refine zJ_geti (mi := mX2_draw) (x := drawn_faults_33x) dX2_draw_146 F_X2_15 zW_33 rfl rfl rfl ?_
    refine zJ_aload_n dX2_draw_149 rfl rfl ?_
    refine zJ_geti (mi := mX2_draw) (x := drawn_tenths_33x) dX2_draw_150 F_X2_24 zW_33 rfl rfl rfl ?_
    refine zJ_aload_n dX2_draw_153 rfl rfl ?_
    refine zJ_geti (mi := mX2_draw) (x := course_allowed) dX2_draw_154 F_X2_50 zW_5 rfl rfl rfl ?_
    refine zJ_bipush dX2_draw_157 zb_40 rfl ?_
    obtain ⟨rn2, hcl, h⟩ := bd1_some h
    refine zJ_callS2 (σ := σ) (L := ([(323, course_fences), (329, course_allowed), (769, course_rule_size), (2112, drawn_state_33x), (2113, drawn_faults_33x), (2114, drawn_tenths_33x), (2115, drawn_refused_33x), (2116, drawn_fallen_33x)], [(6, course_kinds), (7, course_heights), (8, course_feet), (10, course_digits), (11, course_plans), (13, rule_codes), (15, rule_stack_33x), (16, rule_things_33x)], [])) (mi := mX2_draw) (yi := mX11_begun) (as := [.int drawn_tenths_33x, .int course_allowed, .int (40 : Int32)]) (st := [.int drawn_faults_33x, .ref 33]) (L2 := ([(323, course_fences), (329, course_allowed), (769, course_rule_size), (2112, drawn_state_33x), (2113, drawn_faults_33x), (2114, drawn_tenths_33x), (2115, drawn_refused_33x), (2116, drawn_fallen_33x)], [(6, course_kinds), (7, course_heights), (8, course_feet), (10, course_digits), (11, course_plans), (13, rule_codes), (15, rule_stack_33x), (16, rule_things_33x)], [])) dX2_draw_159 ML_X2_53 Ys_X11_begun rfl (t_X11_begun l _ hcl) (zsub_i zle_n zle_n zle_n) (zjok_i rfl rfl (zle_c rfl (zle_c rfl (zle_c rfl (zle_c rfl (zle_c rfl (zle_c rfl (zle_c rfl (zle_c rfl zle_n)))))))) rfl rfl (zle_c rfl (zle_c rfl (zle_c rfl (zle_c rfl (zle_c rfl (zle_c rfl (zle_c rfl (zle_c rfl zle_n)))))))) rfl rfl zle_n) (Nat.le_of_ble_eq_true rfl) (Nat.le_of_ble_eq_true rfl) rfl rfl ?_
    refine zJ_iadd dX2_draw_162 rfl ?_
    refine zK_puti (mi := mX2_draw) (la' := [(323, course_fences), (329, course_allowed), (769, course_rule_size), (2112, drawn_state_33x), (2113, (drawn_faults_33x + rn2)), (2114, drawn_tenths_33x), (2115, drawn_refused_33x), (2116, drawn_fallen_33x)]) zW_ok dX2_draw_163 F_X2_15 P_2_1 zW_33 rfl rfl rfl ?_
    obtain ⟨rfl, rfl, rfl, rfl, rfl, rfl, rfl⟩ := so7 h
    exact zJ_vret dX2_draw_166 rfl
  refine zJ_loc (ls' := [(0, .ref 33), (1, .ref 5), (2, .int p2), (3, .int p3), (5, .int (0 : Int32))]) (zll_c rfl (zll_c rfl (zll_c rfl (zll_c rfl (zll_c rfl zll_n))))) ?_
  refine ml8_J (fun (v5_33 : Int32) (drawn_state_33 : Int32) (drawn_faults_33 : Int32) (drawn_tenths_33 : Int32) (drawn_refused_33 : Int32) (drawn_fallen_33 : Int32) (rule_stack_33 : (Nat → Int32)) (rule_things_33 : (Nat → Int32)) => zJ l zW 4 mX2_draw σ ([(323, course_fences), (329, course_allowed), (769, course_rule_size), (2112, drawn_state_33), (2113, drawn_faults_33), (2114, drawn_tenths_33), (2115, drawn_refused_33), (2116, drawn_fallen_33)], [(6, course_kinds), (7, course_heights), (8, course_feet), (10, course_digits), (11, course_plans), (13, rule_codes), (15, rule_stack_33), (16, rule_things_33)], []) 33 [(0, .ref 33), (1, .ref 5), (2, .int p2), (3, .int p3), (5, .int v5_33)] [] none ([(323, course_fences), (329, course_allowed), (769, course_rule_size), (2112, w_drawn_state), (2113, w_drawn_faults), (2114, w_drawn_tenths), (2115, w_drawn_refused), (2116, w_drawn_fallen)], [(6, course_kinds), (7, course_heights), (8, course_feet), (10, course_digits), (11, course_plans), (13, rule_codes), (15, w_rule_stack), (16, w_rule_things)], [])) (fun rc33 hrc33 v5_33 drawn_state_33 drawn_faults_33 drawn_tenths_33 drawn_refused_33 drawn_fallen_33 rule_stack_33 rule_things_33 h => ?_) zN _ _ _ _ _ _ _ _ h
  unfold s_X2_draw_33 at h
  refine zJ_iload dX2_draw_33 rfl rfl ?_
  refine zJ_aload_n dX2_draw_35 rfl rfl ?_
  refine zJ_geti (mi := mX2_draw) (x := course_fences) dX2_draw_36 F_X2_33 zW_5 rfl rfl rfl ?_
  refine zJ_icmp_ge (tgt := 144) dX2_draw_39 (by decide) rfl (fun hc => ?_) (fun hc => ?_)
  · replace h := it_t hc h
    refine zJ_loc (ls' := [(0, .ref 33), (1, .ref 5)]) (zll_c rfl (zll_c rfl zll_n)) ?_
    exact hk33 _ _ _ _ _ _ _ h
  · replace h := it_f hc h
    refine zJ_aload_n dX2_draw_42 rfl rfl ?_
    refine zJ_bipush dX2_draw_43 zb_100 rfl ?_
    obtain ⟨rn3, drawn_staten4, hcl, h⟩ := bd2_some h
    refine zJ_callV2 (σ := σ) (L := ([(323, course_fences), (329, course_allowed), (769, course_rule_size), (2112, drawn_state_33), (2113, drawn_faults_33), (2114, drawn_tenths_33), (2115, drawn_refused_33), (2116, drawn_fallen_33)], [(6, course_kinds), (7, course_heights), (8, course_feet), (10, course_digits), (11, course_plans), (13, rule_codes), (15, rule_stack_33), (16, rule_things_33)], [])) (mi := mX2_draw) (yi := mX2_next) (as := [.int (100 : Int32)]) (st := []) (L2 := ([(323, course_fences), (329, course_allowed), (769, course_rule_size), (2112, drawn_staten4), (2113, drawn_faults_33), (2114, drawn_tenths_33), (2115, drawn_refused_33), (2116, drawn_fallen_33)], [(6, course_kinds), (7, course_heights), (8, course_feet), (10, course_digits), (11, course_plans), (13, rule_codes), (15, rule_stack_33), (16, rule_things_33)], [])) dX2_draw_45 ML_X2_36 Yv_X2_next rfl zW_33 rfl rfl (t_X2_next l _ hcl) (zsub_i (zle_c rfl zle_n) zle_n zle_n) (zjok_i rfl rfl (zle_c rfl (zle_c rfl (zle_c rfl (zle_c rfl (zle_c rfl (zle_c rfl (zle_c rfl (zle_c rfl zle_n)))))))) rfl rfl (zle_c rfl (zle_c rfl (zle_c rfl (zle_c rfl (zle_c rfl (zle_c rfl (zle_c rfl (zle_c rfl zle_n)))))))) rfl rfl zle_n) (Nat.le_of_ble_eq_true rfl) (Nat.le_of_ble_eq_true rfl) rfl rfl ?_
    refine zJ_aload_n dX2_draw_48 rfl rfl ?_
    refine zJ_iload_n dX2_draw_49 rfl rfl ?_
    refine zJ_iload dX2_draw_50 rfl rfl ?_
    obtain ⟨rn5, hcl, h⟩ := bd1_some h
    refine zJ_callV2 (σ := σ) (L := ([(323, course_fences), (329, course_allowed), (769, course_rule_size), (2112, drawn_staten4), (2113, drawn_faults_33), (2114, drawn_tenths_33), (2115, drawn_refused_33), (2116, drawn_fallen_33)], [(6, course_kinds), (7, course_heights), (8, course_feet), (10, course_digits), (11, course_plans), (13, rule_codes), (15, rule_stack_33), (16, rule_things_33)], [])) (mi := mX2_draw) (yi := mX1_refusalOdds) (as := [.int p2, .int v5_33]) (st := [.int rn3]) (L2 := ([(323, course_fences), (329, course_allowed), (769, course_rule_size), (2112, drawn_staten4), (2113, drawn_faults_33), (2114, drawn_tenths_33), (2115, drawn_refused_33), (2116, drawn_fallen_33)], [(6, course_kinds), (7, course_heights), (8, course_feet), (10, course_digits), (11, course_plans), (13, rule_codes), (15, rule_stack_33), (16, rule_things_33)], [])) dX2_draw_52 ML_X2_39 Yv_X1_refusalOdds rfl zW_5 rfl rfl (t_X1_refusalOdds l _ hcl) (zsub_i zle_n (zle_c rfl (zle_c rfl (zle_c rfl zle_n))) zle_n) (zjok_i rfl rfl (zle_c rfl (zle_c rfl (zle_c rfl (zle_c rfl (zle_c rfl (zle_c rfl (zle_c rfl (zle_c rfl zle_n)))))))) rfl rfl (zle_c rfl (zle_c rfl (zle_c rfl (zle_c rfl (zle_c rfl (zle_c rfl (zle_c rfl (zle_c rfl zle_n)))))))) rfl rfl zle_n) (Nat.le_of_ble_eq_true rfl) (Nat.le_of_ble_eq_true rfl) rfl rfl ?_
    have hj_X2_draw_92 : ∀ (drawn_faults_92j : Int32) (drawn_tenths_92j : Int32) (drawn_refused_92j : Int32), j_X2_draw_92 p2 p3 course_rule_size course_kinds course_heights course_feet course_digits course_plans rule_codes rc33 v5_33 drawn_fallen_33 rule_stack_33 rule_things_33 drawn_staten4 drawn_faults_92j drawn_tenths_92j drawn_refused_92j = some (w_drawn_state, w_drawn_faults, w_drawn_tenths, w_drawn_refused, w_drawn_fallen, w_rule_stack, w_rule_things) → zJ l zW 4 mX2_draw σ ([(323, course_fences), (329, course_allowed), (769, course_rule_size), (2112, drawn_staten4), (2113, drawn_faults_92j), (2114, drawn_tenths_92j), (2115, drawn_refused_92j), (2116, drawn_fallen_33)], [(6, course_kinds), (7, course_heights), (8, course_feet), (10, course_digits), (11, course_plans), (13, rule_codes), (15, rule_stack_33), (16, rule_things_33)], []) 92 [(0, .ref 33), (1, .ref 5), (2, .int p2), (3, .int p3), (5, .int v5_33)] [] none ([(323, course_fences), (329, course_allowed), (769, course_rule_size), (2112, w_drawn_state), (2113, w_drawn_faults), (2114, w_drawn_tenths), (2115, w_drawn_refused), (2116, w_drawn_fallen)], [(6, course_kinds), (7, course_heights), (8, course_feet), (10, course_digits), (11, course_plans), (13, rule_codes), (15, w_rule_stack), (16, w_rule_things)], []) := by
      intro drawn_faults_92j drawn_tenths_92j drawn_refused_92j h
      unfold j_X2_draw_92 at h
      refine zJ_aload_n dX2_draw_92 rfl rfl ?_
      refine zJ_bipush dX2_draw_93 zb_100 rfl ?_
      obtain ⟨rn6, drawn_staten7, hcl, h⟩ := bd2_some h
      refine zJ_callV2 (σ := σ) (L := ([(323, course_fences), (329, course_allowed), (769, course_rule_size), (2112, drawn_staten4), (2113, drawn_faults_92j), (2114, drawn_tenths_92j), (2115, drawn_refused_92j), (2116, drawn_fallen_33)], [(6, course_kinds), (7, course_heights), (8, course_feet), (10, course_digits), (11, course_plans), (13, rule_codes), (15, rule_stack_33), (16, rule_things_33)], [])) (mi := mX2_draw) (yi := mX2_next) (as := [.int (100 : Int32)]) (st := []) (L2 := ([(323, course_fences), (329, course_allowed), (769, course_rule_size), (2112, drawn_staten7), (2113, drawn_faults_92j), (2114, drawn_tenths_92j), (2115, drawn_refused_92j), (2116, drawn_fallen_33)], [(6, course_kinds), (7, course_heights), (8, course_feet), (10, course_digits), (11, course_plans), (13, rule_codes), (15, rule_stack_33), (16, rule_things_33)], [])) dX2_draw_95 ML_X2_36 Yv_X2_next rfl zW_33 rfl rfl (t_X2_next l _ hcl) (zsub_i (zle_c rfl zle_n) zle_n zle_n) (zjok_i rfl rfl (zle_c rfl (zle_c rfl (zle_c rfl (zle_c rfl (zle_c rfl (zle_c rfl (zle_c rfl (zle_c rfl zle_n)))))))) rfl rfl (zle_c rfl (zle_c rfl (zle_c rfl (zle_c rfl (zle_c rfl (zle_c rfl (zle_c rfl (zle_c rfl zle_n)))))))) rfl rfl zle_n) (Nat.le_of_ble_eq_true rfl) (Nat.le_of_ble_eq_true rfl) rfl rfl ?_
      refine zJ_aload_n dX2_draw_98 rfl rfl ?_
      refine zJ_iload_n dX2_draw_99 rfl rfl ?_
      refine zJ_iload dX2_draw_100 rfl rfl ?_
      refine zJ_aload_n dX2_draw_102 rfl rfl ?_
      refine zJ_iload_n dX2_draw_103 rfl rfl ?_
      refine zJ_iload dX2_draw_104 rfl rfl ?_
      obtain ⟨rn8, hcl, h⟩ := bd1_some h
      refine zJ_callV2 (σ := σ) (L := ([(323, course_fences), (329, course_allowed), (769, course_rule_size), (2112, drawn_staten7), (2113, drawn_faults_92j), (2114, drawn_tenths_92j), (2115, drawn_refused_92j), (2116, drawn_fallen_33)], [(6, course_kinds), (7, course_heights), (8, course_feet), (10, course_digits), (11, course_plans), (13, rule_codes), (15, rule_stack_33), (16, rule_things_33)], [])) (mi := mX2_draw) (yi := mX1_letterAt) (as := [.int p3, .int v5_33]) (st := [.int v5_33, .int p2, .ref 5, .int rn6]) (L2 := ([(323, course_fences), (329, course_allowed), (769, course_rule_size), (2112, drawn_staten7), (2113, drawn_faults_92j), (2114, drawn_tenths_92j), (2115, drawn_refused_92j), (2116, drawn_fallen_33)], [(6, course_kinds), (7, course_heights), (8, course_feet), (10, course_digits), (11, course_plans), (13, rule_codes), (15, rule_stack_33), (16, rule_things_33)], [])) dX2_draw_106 ML_X2_43 Yv_X1_letterAt rfl zW_5 rfl rfl (t_X1_letterAt l _ hcl) (zsub_i zle_n (zle_c rfl zle_n) zle_n) (zjok_i rfl rfl (zle_c rfl (zle_c rfl (zle_c rfl (zle_c rfl (zle_c rfl (zle_c rfl (zle_c rfl (zle_c rfl zle_n)))))))) rfl rfl (zle_c rfl (zle_c rfl (zle_c rfl (zle_c rfl (zle_c rfl (zle_c rfl (zle_c rfl (zle_c rfl zle_n)))))))) rfl rfl zle_n) (Nat.le_of_ble_eq_true rfl) (Nat.le_of_ble_eq_true rfl) rfl rfl ?_
      obtain ⟨rn9, rule_stackn10, rule_thingsn11, hcl, h⟩ := bd3_some h
      refine zJ_callV2 (σ := σ) (L := ([(323, course_fences), (329, course_allowed), (769, course_rule_size), (2112, drawn_staten7), (2113, drawn_faults_92j), (2114, drawn_tenths_92j), (2115, drawn_refused_92j), (2116, drawn_fallen_33)], [(6, course_kinds), (7, course_heights), (8, course_feet), (10, course_digits), (11, course_plans), (13, rule_codes), (15, rule_stack_33), (16, rule_things_33)], [])) (mi := mX2_draw) (yi := mX1_poleOdds) (as := [.int p2, .int v5_33, .int rn8]) (st := [.int rn6]) (L2 := ([(323, course_fences), (329, course_allowed), (769, course_rule_size), (2112, drawn_staten7), (2113, drawn_faults_92j), (2114, drawn_tenths_92j), (2115, drawn_refused_92j), (2116, drawn_fallen_33)], [(6, course_kinds), (7, course_heights), (8, course_feet), (10, course_digits), (11, course_plans), (13, rule_codes), (15, rule_stackn10), (16, rule_thingsn11)], [])) dX2_draw_109 ML_X2_46 Yv_X1_poleOdds rfl zW_5 rfl rfl (t_X1_poleOdds l _ hcl) (zsub_i (zle_c rfl zle_n) (zle_c rfl (zle_c rfl (zle_c rfl (zle_c rfl (zle_c rfl (zle_c rfl (zle_c rfl zle_n))))))) zle_n) (zjok_i rfl rfl (zle_c rfl (zle_c rfl (zle_c rfl (zle_c rfl (zle_c rfl (zle_c rfl (zle_c rfl (zle_c rfl zle_n)))))))) rfl rfl (zle_c rfl (zle_c rfl (zle_c rfl (zle_c rfl (zle_c rfl (zle_c rfl (zle_c rfl (zle_c rfl zle_n)))))))) rfl rfl zle_n) (Nat.le_of_ble_eq_true rfl) (Nat.le_of_ble_eq_true rfl) rfl rfl ?_
      refine zJ_icmp_ge (tgt := 138) dX2_draw_112 (by decide) rfl (fun hc => ?_) (fun hc => ?_)
      · replace h := it_t hc h
        obtain ⟨v5n12, ev5n12, h⟩ := lt1_some h
        refine zJ_iincN (ls' := [(5, .int v5n12), (0, .ref 33), (1, .ref 5), (2, .int p2), (3, .int p3)]) dX2_draw_138 rfl rfl zc_1 ev5n12 rfl rfl ?_
        refine zJ_goto (tgt := 33) dX2_draw_141 (by decide) ?_
        refine zJ_loc (ls' := [(0, .ref 33), (1, .ref 5), (2, .int p2), (3, .int p3), (5, .int v5n12)]) (zll_c rfl (zll_c rfl (zll_c rfl (zll_c rfl (zll_c rfl zll_n))))) ?_
        exact hrc33 _ _ _ _ _ _ _ _ h
      · replace h := it_f hc h
        refine zJ_aload_n dX2_draw_115 rfl rfl ?_
        refine zJ_dup dX2_draw_116 rfl rfl ?_
        refine zJ_geti (mi := mX2_draw) (x := drawn_fallen_33) dX2_draw_117 F_X2_30 zW_33 rfl rfl rfl ?_
        refine zJ_iconst dX2_draw_120 zc_1 rfl ?_
        refine zJ_iload dX2_draw_121 rfl rfl ?_
        refine zJ_ishl dX2_draw_123 rfl ?_
        refine zJ_ior dX2_draw_124 rfl ?_
        refine zK_puti (mi := mX2_draw) (la' := [(323, course_fences), (329, course_allowed), (769, course_rule_size), (2112, drawn_staten7), (2113, drawn_faults_92j), (2114, drawn_tenths_92j), (2115, drawn_refused_92j), (2116, (drawn_fallen_33 ||| ((1 : Int32) <<< (v5_33 &&& 31))))]) zW_ok dX2_draw_125 F_X2_30 P_2_4 zW_33 rfl rfl rfl ?_
        refine zJ_aload_n dX2_draw_128 rfl rfl ?_
        refine zJ_dup dX2_draw_129 rfl rfl ?_
        refine zJ_geti (mi := mX2_draw) (x := drawn_faults_92j) dX2_draw_130 F_X2_15 zW_33 rfl rfl rfl ?_
        refine zJ_iconst dX2_draw_133 zc_4 rfl ?_
        refine zJ_iadd dX2_draw_134 rfl ?_
        refine zK_puti (mi := mX2_draw) (la' := [(323, course_fences), (329, course_allowed), (769, course_rule_size), (2112, drawn_staten7), (2113, (drawn_faults_92j + (4 : Int32))), (2114, drawn_tenths_92j), (2115, drawn_refused_92j), (2116, (drawn_fallen_33 ||| ((1 : Int32) <<< (v5_33 &&& 31))))]) zW_ok dX2_draw_135 F_X2_15 P_2_1 zW_33 rfl rfl rfl ?_
        obtain ⟨v5n13, ev5n13, h⟩ := lt1_some h
        refine zJ_iincN (ls' := [(5, .int v5n13), (0, .ref 33), (1, .ref 5), (2, .int p2), (3, .int p3)]) dX2_draw_138 rfl rfl zc_1 ev5n13 rfl rfl ?_
        refine zJ_goto (tgt := 33) dX2_draw_141 (by decide) ?_
        refine zJ_loc (ls' := [(0, .ref 33), (1, .ref 5), (2, .int p2), (3, .int p3), (5, .int v5n13)]) (zll_c rfl (zll_c rfl (zll_c rfl (zll_c rfl (zll_c rfl zll_n))))) ?_
        exact hrc33 _ _ _ _ _ _ _ _ h
    refine zJ_icmp_ge (tgt := 92) dX2_draw_55 (by decide) rfl (fun hc => ?_) (fun hc => ?_)
    · replace h := it_t hc h
      refine zJ_loc (ls' := [(0, .ref 33), (1, .ref 5), (2, .int p2), (3, .int p3), (5, .int v5_33)]) (zll_c rfl (zll_c rfl (zll_c rfl (zll_c rfl (zll_c rfl zll_n))))) ?_
      exact hj_X2_draw_92 _ _ _ h
    · replace h := it_f hc h
      refine zJ_aload_n dX2_draw_58 rfl rfl ?_
      refine zJ_dup dX2_draw_59 rfl rfl ?_
      refine zJ_geti (mi := mX2_draw) (x := drawn_refused_33) dX2_draw_60 F_X2_27 zW_33 rfl rfl rfl ?_
      refine zJ_iconst dX2_draw_63 zc_1 rfl ?_
      refine zJ_iload dX2_draw_64 rfl rfl ?_
      refine zJ_ishl dX2_draw_66 rfl ?_
      refine zJ_ior dX2_draw_67 rfl ?_
      refine zK_puti (mi := mX2_draw) (la' := [(323, course_fences), (329, course_allowed), (769, course_rule_size), (2112, drawn_staten4), (2113, drawn_faults_33), (2114, drawn_tenths_33), (2115, (drawn_refused_33 ||| ((1 : Int32) <<< (v5_33 &&& 31)))), (2116, drawn_fallen_33)]) zW_ok dX2_draw_68 F_X2_27 P_2_3 zW_33 rfl rfl rfl ?_
      refine zJ_aload_n dX2_draw_71 rfl rfl ?_
      refine zJ_dup dX2_draw_72 rfl rfl ?_
      refine zJ_geti (mi := mX2_draw) (x := drawn_faults_33) dX2_draw_73 F_X2_15 zW_33 rfl rfl rfl ?_
      refine zJ_iconst dX2_draw_76 zc_4 rfl ?_
      refine zJ_iadd dX2_draw_77 rfl ?_
      refine zK_puti (mi := mX2_draw) (la' := [(323, course_fences), (329, course_allowed), (769, course_rule_size), (2112, drawn_staten4), (2113, (drawn_faults_33 + (4 : Int32))), (2114, drawn_tenths_33), (2115, (drawn_refused_33 ||| ((1 : Int32) <<< (v5_33 &&& 31)))), (2116, drawn_fallen_33)]) zW_ok dX2_draw_78 F_X2_15 P_2_1 zW_33 rfl rfl rfl ?_
      refine zJ_aload_n dX2_draw_81 rfl rfl ?_
      refine zJ_dup dX2_draw_82 rfl rfl ?_
      refine zJ_geti (mi := mX2_draw) (x := drawn_tenths_33) dX2_draw_83 F_X2_24 zW_33 rfl rfl rfl ?_
      refine zJ_bipush dX2_draw_86 zb_60 rfl ?_
      refine zJ_iadd dX2_draw_88 rfl ?_
      refine zK_puti (mi := mX2_draw) (la' := [(323, course_fences), (329, course_allowed), (769, course_rule_size), (2112, drawn_staten4), (2113, (drawn_faults_33 + (4 : Int32))), (2114, (drawn_tenths_33 + (60 : Int32))), (2115, (drawn_refused_33 ||| ((1 : Int32) <<< (v5_33 &&& 31)))), (2116, drawn_fallen_33)]) zW_ok dX2_draw_89 F_X2_24 P_2_2 zW_33 rfl rfl rfl ?_
      refine zJ_loc (ls' := [(0, .ref 33), (1, .ref 5), (2, .int p2), (3, .int p3), (5, .int v5_33)]) (zll_c rfl (zll_c rfl (zll_c rfl (zll_c rfl (zll_c rfl zll_n))))) ?_
      exact hj_X2_draw_92 _ _ _ h
set_option maxRecDepth 100000 in
set_option maxHeartbeats 4000000 in
theorem t_X11_addRide (l : Launch) (σ : zS) {p1 : Int32} {p2 : Int32} {p3 : Int32} {p4 : Int32} {course_fences : Int32} {course_horseCount : Int32} {course_planCount : Int32} {course_allowed : Int32} {course_rule_size : Int32} {rounds_size : Int32} {drawn_state : Int32} {drawn_faults : Int32} {drawn_tenths : Int32} {drawn_refused : Int32} {drawn_fallen : Int32} {course_kinds : (Nat → Int32)} {course_heights : (Nat → Int32)} {course_feet : (Nat → Int32)} {course_digits : (Nat → Int32)} {course_plans : (Nat → Int32)} {rule_codes : (Nat → Int32)} {rule_stack : (Nat → Int32)} {rule_things : (Nat → Int32)} {rounds_riders : (Nat → Int32)} {rounds_horses : (Nat → Int32)} {rounds_faults : (Nat → Int32)} {rounds_tenths : (Nat → Int32)} {r : Int32} {w_rounds_size : Int32} {w_drawn_state : Int32} {w_drawn_faults : Int32} {w_drawn_tenths : Int32} {w_drawn_refused : Int32} {w_drawn_fallen : Int32} {w_rule_stack : (Nat → Int32)} {w_rule_things : (Nat → Int32)} {w_rounds_riders : (Nat → Int32)} {w_rounds_horses : (Nat → Int32)} {w_rounds_faults : (Nat → Int32)} {w_rounds_tenths : (Nat → Int32)} (h : f_X11_addRide p1 p2 p3 p4 course_fences course_horseCount course_planCount course_allowed course_rule_size rounds_size drawn_state drawn_faults drawn_tenths drawn_refused drawn_fallen course_kinds course_heights course_feet course_digits course_plans rule_codes rule_stack rule_things rounds_riders rounds_horses rounds_faults rounds_tenths = some (r, w_rounds_size, w_drawn_state, w_drawn_faults, w_drawn_tenths, w_drawn_refused, w_drawn_fallen, w_rule_stack, w_rule_things, w_rounds_riders, w_rounds_horses, w_rounds_faults, w_rounds_tenths)) : zMt l zW 5 mX11_addRide σ ([(323, course_fences), (326, course_horseCount), (328, course_planCount), (329, course_allowed), (769, course_rule_size), (1284, rounds_size), (2112, drawn_state), (2113, drawn_faults), (2114, drawn_tenths), (2115, drawn_refused), (2116, drawn_fallen)], [(6, course_kinds), (7, course_heights), (8, course_feet), (10, course_digits), (11, course_plans), (13, rule_codes), (15, rule_stack), (16, rule_things), (21, rounds_riders), (22, rounds_horses), (23, rounds_faults), (24, rounds_tenths)], []) [.ref 0, .int p1, .int p2, .int p3, .int p4] (some (.int r)) ([(323, course_fences), (326, course_horseCount), (328, course_planCount), (329, course_allowed), (769, course_rule_size), (1284, w_rounds_size), (2112, w_drawn_state), (2113, w_drawn_faults), (2114, w_drawn_tenths), (2115, w_drawn_refused), (2116, w_drawn_fallen)], [(6, course_kinds), (7, course_heights), (8, course_feet), (10, course_digits), (11, course_plans), (13, rule_codes), (15, w_rule_stack), (16, w_rule_things), (21, w_rounds_riders), (22, w_rounds_horses), (23, w_rounds_faults), (24, w_rounds_tenths)], []) := by
  refine zMt_of (ls := [(0, .ref 0), (1, .int p1), (2, .int p2), (3, .int p3), (4, .int p4)]) (by decide) rfl (fun _ => Nat.le_of_ble_eq_true rfl) rfl ?_
  unfold f_X11_addRide at h
  refine zJ_iload_n dX11_addRide_0 rfl rfl ?_
  obtain ⟨rn1, hcl, h⟩ := bd1_some h
  refine zJ_callS2 (σ := σ) (L := ([(323, course_fences), (326, course_horseCount), (328, course_planCount), (329, course_allowed), (769, course_rule_size), (1284, rounds_size), (2112, drawn_state), (2113, drawn_faults), (2114, drawn_tenths), (2115, drawn_refused), (2116, drawn_fallen)], [(6, course_kinds), (7, course_heights), (8, course_feet), (10, course_digits), (11, course_plans), (13, rule_codes), (15, rule_stack), (16, rule_things), (21, rounds_riders), (22, rounds_horses), (23, rounds_faults), (24, rounds_tenths)], [])) (mi := mX11_addRide) (yi := mX11_isRider) (as := [.int p1]) (st := []) (L2 := ([(323, course_fences), (326, course_horseCount), (328, course_planCount), (329, course_allowed), (769, course_rule_size), (1284, rounds_size), (2112, drawn_state), (2113, drawn_faults), (2114, drawn_tenths), (2115, drawn_refused), (2116, drawn_fallen)], [(6, course_kinds), (7, course_heights), (8, course_feet), (10, course_digits), (11, course_plans), (13, rule_codes), (15, rule_stack), (16, rule_things), (21, rounds_riders), (22, rounds_horses), (23, rounds_faults), (24, rounds_tenths)], [])) dX11_addRide_1 ML_X11_260 Ys_X11_isRider rfl (t_X11_isRider l _ hcl) (zsub_i zle_n zle_n zle_n) (zjok_i rfl rfl (zle_c rfl (zle_c rfl (zle_c rfl (zle_c rfl (zle_c rfl (zle_c rfl (zle_c rfl (zle_c rfl (zle_c rfl (zle_c rfl (zle_c rfl zle_n))))))))))) rfl rfl (zle_c rfl (zle_c rfl (zle_c rfl (zle_c rfl (zle_c rfl (zle_c rfl (zle_c rfl (zle_c rfl (zle_c rfl (zle_c rfl (zle_c rfl (zle_c rfl zle_n)))))))))))) rfl rfl zle_n) (Nat.le_of_ble_eq_true rfl) (Nat.le_of_ble_eq_true rfl) rfl rfl ?_
  refine zJ_if_eq (tgt := 29) dX11_addRide_4 (by decide) rfl (fun hc => ?_) (fun hc => ?_)
  · replace h := it_t hc h
    refine zJ_iconst dX11_addRide_29 zc_m1 rfl ?_
    obtain ⟨rfl, rfl, rfl, rfl, rfl, rfl, rfl, rfl, rfl, rfl, rfl, rfl, rfl⟩ := so13 h
    exact zJ_iret dX11_addRide_30 rfl rfl
  · replace h := it_f hc h
    refine zJ_aload_n dX11_addRide_7 rfl rfl ?_
    refine zJ_getr (mi := mX11_addRide) dX11_addRide_8 F_X11_26 zW_0 rfl rfl ?_
    refine zJ_iload_n dX11_addRide_11 rfl rfl ?_
    obtain ⟨rn2, hcl, h⟩ := bd1_some h
    refine zJ_callV2 (σ := σ) (L := ([(323, course_fences), (326, course_horseCount), (328, course_planCount), (329, course_allowed), (769, course_rule_size), (1284, rounds_size), (2112, drawn_state), (2113, drawn_faults), (2114, drawn_tenths), (2115, drawn_refused), (2116, drawn_fallen)], [(6, course_kinds), (7, course_heights), (8, course_feet), (10, course_digits), (11, course_plans), (13, rule_codes), (15, rule_stack), (16, rule_things), (21, rounds_riders), (22, rounds_horses), (23, rounds_faults), (24, rounds_tenths)], [])) (mi := mX11_addRide) (yi := mX1_hasHorse) (as := [.int p2]) (st := []) (L2 := ([(323, course_fences), (326, course_horseCount), (328, course_planCount), (329, course_allowed), (769, course_rule_size), (1284, rounds_size), (2112, drawn_state), (2113, drawn_faults), (2114, drawn_tenths), (2115, drawn_refused), (2116, drawn_fallen)], [(6, course_kinds), (7, course_heights), (8, course_feet), (10, course_digits), (11, course_plans), (13, rule_codes), (15, rule_stack), (16, rule_things), (21, rounds_riders), (22, rounds_horses), (23, rounds_faults), (24, rounds_tenths)], [])) dX11_addRide_12 ML_X11_147 Yv_X1_hasHorse rfl zW_5 rfl rfl (t_X1_hasHorse l _ hcl) (zsub_i (zle_c rfl zle_n) zle_n zle_n) (zjok_i rfl rfl (zle_c rfl (zle_c rfl (zle_c rfl (zle_c rfl (zle_c rfl (zle_c rfl (zle_c rfl (zle_c rfl (zle_c rfl (zle_c rfl (zle_c rfl zle_n))))))))))) rfl rfl (zle_c rfl (zle_c rfl (zle_c rfl (zle_c rfl (zle_c rfl (zle_c rfl (zle_c rfl (zle_c rfl (zle_c rfl (zle_c rfl (zle_c rfl (zle_c rfl zle_n)))))))))))) rfl rfl zle_n) (Nat.le_of_ble_eq_true rfl) (Nat.le_of_ble_eq_true rfl) rfl rfl ?_
    refine zJ_if_eq (tgt := 29) dX11_addRide_15 (by decide) rfl (fun hc => ?_) (fun hc => ?_)
    · replace h := it_t hc h
      refine zJ_iconst dX11_addRide_29 zc_m1 rfl ?_
      obtain ⟨rfl, rfl, rfl, rfl, rfl, rfl, rfl, rfl, rfl, rfl, rfl, rfl, rfl⟩ := so13 h
      exact zJ_iret dX11_addRide_30 rfl rfl
    · replace h := it_f hc h
      refine zJ_aload_n dX11_addRide_18 rfl rfl ?_
      refine zJ_getr (mi := mX11_addRide) dX11_addRide_19 F_X11_26 zW_0 rfl rfl ?_
      refine zJ_iload_n dX11_addRide_22 rfl rfl ?_
      obtain ⟨rn3, hcl, h⟩ := bd1_some h
      refine zJ_callV2 (σ := σ) (L := ([(323, course_fences), (326, course_horseCount), (328, course_planCount), (329, course_allowed), (769, course_rule_size), (1284, rounds_size), (2112, drawn_state), (2113, drawn_faults), (2114, drawn_tenths), (2115, drawn_refused), (2116, drawn_fallen)], [(6, course_kinds), (7, course_heights), (8, course_feet), (10, course_digits), (11, course_plans), (13, rule_codes), (15, rule_stack), (16, rule_things), (21, rounds_riders), (22, rounds_horses), (23, rounds_faults), (24, rounds_tenths)], [])) (mi := mX11_addRide) (yi := mX1_hasPlan) (as := [.int p3]) (st := []) (L2 := ([(323, course_fences), (326, course_horseCount), (328, course_planCount), (329, course_allowed), (769, course_rule_size), (1284, rounds_size), (2112, drawn_state), (2113, drawn_faults), (2114, drawn_tenths), (2115, drawn_refused), (2116, drawn_fallen)], [(6, course_kinds), (7, course_heights), (8, course_feet), (10, course_digits), (11, course_plans), (13, rule_codes), (15, rule_stack), (16, rule_things), (21, rounds_riders), (22, rounds_horses), (23, rounds_faults), (24, rounds_tenths)], [])) dX11_addRide_23 ML_X11_191 Yv_X1_hasPlan rfl zW_5 rfl rfl (t_X1_hasPlan l _ hcl) (zsub_i (zle_c rfl zle_n) zle_n zle_n) (zjok_i rfl rfl (zle_c rfl (zle_c rfl (zle_c rfl (zle_c rfl (zle_c rfl (zle_c rfl (zle_c rfl (zle_c rfl (zle_c rfl (zle_c rfl (zle_c rfl zle_n))))))))))) rfl rfl (zle_c rfl (zle_c rfl (zle_c rfl (zle_c rfl (zle_c rfl (zle_c rfl (zle_c rfl (zle_c rfl (zle_c rfl (zle_c rfl (zle_c rfl (zle_c rfl zle_n)))))))))))) rfl rfl zle_n) (Nat.le_of_ble_eq_true rfl) (Nat.le_of_ble_eq_true rfl) rfl rfl ?_
      refine zJ_if_ne (tgt := 31) dX11_addRide_26 (by decide) rfl (fun hc => ?_) (fun hc => ?_)
      · replace h := it_f hc h
        refine zJ_aload_n dX11_addRide_31 rfl rfl ?_
        refine zJ_getr (mi := mX11_addRide) dX11_addRide_32 F_X11_33 zW_0 rfl rfl ?_
        obtain ⟨rn4, hcl, h⟩ := bd1_some h
        refine zJ_callV2 (σ := σ) (L := ([(323, course_fences), (326, course_horseCount), (328, course_planCount), (329, course_allowed), (769, course_rule_size), (1284, rounds_size), (2112, drawn_state), (2113, drawn_faults), (2114, drawn_tenths), (2115, drawn_refused), (2116, drawn_fallen)], [(6, course_kinds), (7, course_heights), (8, course_feet), (10, course_digits), (11, course_plans), (13, rule_codes), (15, rule_stack), (16, rule_things), (21, rounds_riders), (22, rounds_horses), (23, rounds_faults), (24, rounds_tenths)], [])) (mi := mX11_addRide) (yi := mX10_isFull) (as := []) (st := []) (L2 := ([(323, course_fences), (326, course_horseCount), (328, course_planCount), (329, course_allowed), (769, course_rule_size), (1284, rounds_size), (2112, drawn_state), (2113, drawn_faults), (2114, drawn_tenths), (2115, drawn_refused), (2116, drawn_fallen)], [(6, course_kinds), (7, course_heights), (8, course_feet), (10, course_digits), (11, course_plans), (13, rule_codes), (15, rule_stack), (16, rule_things), (21, rounds_riders), (22, rounds_horses), (23, rounds_faults), (24, rounds_tenths)], [])) dX11_addRide_35 ML_X11_263 Yv_X10_isFull rfl zW_20 rfl rfl (t_X10_isFull l _ hcl) (zsub_i (zle_c rfl zle_n) zle_n zle_n) (zjok_i rfl rfl (zle_c rfl (zle_c rfl (zle_c rfl (zle_c rfl (zle_c rfl (zle_c rfl (zle_c rfl (zle_c rfl (zle_c rfl (zle_c rfl (zle_c rfl zle_n))))))))))) rfl rfl (zle_c rfl (zle_c rfl (zle_c rfl (zle_c rfl (zle_c rfl (zle_c rfl (zle_c rfl (zle_c rfl (zle_c rfl (zle_c rfl (zle_c rfl (zle_c rfl zle_n)))))))))))) rfl rfl zle_n) (Nat.le_of_ble_eq_true rfl) (Nat.le_of_ble_eq_true rfl) rfl rfl ?_
        refine zJ_if_eq (tgt := 44) dX11_addRide_38 (by decide) rfl (fun hc => ?_) (fun hc => ?_)
        · replace h := it_t hc h
          refine zJ_aload_n dX11_addRide_44 rfl rfl ?_
          refine zJ_getr (mi := mX11_addRide) dX11_addRide_45 F_X11_52 zW_0 rfl rfl ?_
          refine zJ_aload_n dX11_addRide_48 rfl rfl ?_
          refine zJ_getr (mi := mX11_addRide) dX11_addRide_49 F_X11_26 zW_0 rfl rfl ?_
          refine zJ_iload_n dX11_addRide_52 rfl rfl ?_
          refine zJ_iload_n dX11_addRide_53 rfl rfl ?_
          refine zJ_iload dX11_addRide_54 rfl rfl ?_
          obtain ⟨drawn_staten5, drawn_faultsn6, drawn_tenthsn7, drawn_refusedn8, drawn_fallenn9, rule_stackn10, rule_thingsn11, hcl, h⟩ := bd7_some h
          refine zJ_callV2 (σ := σ) (L := ([(323, course_fences), (326, course_horseCount), (328, course_planCount), (329, course_allowed), (769, course_rule_size), (1284, rounds_size), (2112, drawn_state), (2113, drawn_faults), (2114, drawn_tenths), (2115, drawn_refused), (2116, drawn_fallen)], [(6, course_kinds), (7, course_heights), (8, course_feet), (10, course_digits), (11, course_plans), (13, rule_codes), (15, rule_stack), (16, rule_things), (21, rounds_riders), (22, rounds_horses), (23, rounds_faults), (24, rounds_tenths)], [])) (mi := mX11_addRide) (yi := mX2_draw) (as := [.ref 5, .int p2, .int p3, .int p4]) (st := []) (L2 := ([(323, course_fences), (326, course_horseCount), (328, course_planCount), (329, course_allowed), (769, course_rule_size), (1284, rounds_size), (2112, drawn_staten5), (2113, drawn_faultsn6), (2114, drawn_tenthsn7), (2115, drawn_refusedn8), (2116, drawn_fallenn9)], [(6, course_kinds), (7, course_heights), (8, course_feet), (10, course_digits), (11, course_plans), (13, rule_codes), (15, rule_stackn10), (16, rule_thingsn11), (21, rounds_riders), (22, rounds_horses), (23, rounds_faults), (24, rounds_tenths)], [])) dX11_addRide_56 ML_X11_250 Yv_X2_draw rfl zW_33 rfl rfl (t_X2_draw l _ hcl) (zsub_i (zle_c rfl (zle_c rfl (zle_c rfl (zle_c rfl (zle_c rfl (zle_c rfl (zle_c rfl (zle_c rfl zle_n)))))))) (zle_c rfl (zle_c rfl (zle_c rfl (zle_c rfl (zle_c rfl (zle_c rfl (zle_c rfl (zle_c rfl zle_n)))))))) zle_n) (zjok_i rfl rfl (zle_c rfl (zle_c rfl (zle_c rfl (zle_c rfl (zle_c rfl (zle_c rfl (zle_c rfl (zle_c rfl (zle_c rfl (zle_c rfl (zle_c rfl zle_n))))))))))) rfl rfl (zle_c rfl (zle_c rfl (zle_c rfl (zle_c rfl (zle_c rfl (zle_c rfl (zle_c rfl (zle_c rfl (zle_c rfl (zle_c rfl (zle_c rfl (zle_c rfl zle_n)))))))))))) rfl rfl zle_n) (Nat.le_of_ble_eq_true rfl) (Nat.le_of_ble_eq_true rfl) rfl rfl ?_
          refine zJ_aload_n dX11_addRide_59 rfl rfl ?_
          refine zJ_getr (mi := mX11_addRide) dX11_addRide_60 F_X11_33 zW_0 rfl rfl ?_
          refine zJ_iload_n dX11_addRide_63 rfl rfl ?_
          refine zJ_iload_n dX11_addRide_64 rfl rfl ?_
          refine zJ_aload_n dX11_addRide_65 rfl rfl ?_
          refine zJ_getr (mi := mX11_addRide) dX11_addRide_66 F_X11_52 zW_0 rfl rfl ?_
          refine zJ_geti (mi := mX11_addRide) (x := drawn_faultsn6) dX11_addRide_69 F_X11_254 zW_33 rfl rfl rfl ?_
          refine zJ_aload_n dX11_addRide_72 rfl rfl ?_
          refine zJ_getr (mi := mX11_addRide) dX11_addRide_73 F_X11_52 zW_0 rfl rfl ?_
          refine zJ_geti (mi := mX11_addRide) (x := drawn_tenthsn7) dX11_addRide_76 F_X11_267 zW_33 rfl rfl rfl ?_
          obtain ⟨rounds_sizen12, rounds_ridersn13, rounds_horsesn14, rounds_faultsn15, rounds_tenthsn16, hcl, h⟩ := bd5_some h
          refine zJ_callV2 (σ := σ) (L := ([(323, course_fences), (326, course_horseCount), (328, course_planCount), (329, course_allowed), (769, course_rule_size), (1284, rounds_size), (2112, drawn_staten5), (2113, drawn_faultsn6), (2114, drawn_tenthsn7), (2115, drawn_refusedn8), (2116, drawn_fallenn9)], [(6, course_kinds), (7, course_heights), (8, course_feet), (10, course_digits), (11, course_plans), (13, rule_codes), (15, rule_stackn10), (16, rule_thingsn11), (21, rounds_riders), (22, rounds_horses), (23, rounds_faults), (24, rounds_tenths)], [])) (mi := mX11_addRide) (yi := mX10_add) (as := [.int p1, .int p2, .int drawn_faultsn6, .int drawn_tenthsn7]) (st := []) (L2 := ([(323, course_fences), (326, course_horseCount), (328, course_planCount), (329, course_allowed), (769, course_rule_size), (1284, rounds_sizen12), (2112, drawn_staten5), (2113, drawn_faultsn6), (2114, drawn_tenthsn7), (2115, drawn_refusedn8), (2116, drawn_fallenn9)], [(6, course_kinds), (7, course_heights), (8, course_feet), (10, course_digits), (11, course_plans), (13, rule_codes), (15, rule_stackn10), (16, rule_thingsn11), (21, rounds_ridersn13), (22, rounds_horsesn14), (23, rounds_faultsn15), (24, rounds_tenthsn16)], [])) dX11_addRide_79 ML_X11_270 Yv_X10_add rfl zW_20 rfl rfl (t_X10_add l _ hcl) (zsub_i (zle_c rfl zle_n) (zle_c rfl (zle_c rfl (zle_c rfl (zle_c rfl zle_n)))) zle_n) (zjok_i rfl rfl (zle_c rfl (zle_c rfl (zle_c rfl (zle_c rfl (zle_c rfl (zle_c rfl (zle_c rfl (zle_c rfl (zle_c rfl (zle_c rfl (zle_c rfl zle_n))))))))))) rfl rfl (zle_c rfl (zle_c rfl (zle_c rfl (zle_c rfl (zle_c rfl (zle_c rfl (zle_c rfl (zle_c rfl (zle_c rfl (zle_c rfl (zle_c rfl (zle_c rfl zle_n)))))))))))) rfl rfl zle_n) (Nat.le_of_ble_eq_true rfl) (Nat.le_of_ble_eq_true rfl) rfl rfl ?_
          refine zJ_aload_n dX11_addRide_82 rfl rfl ?_
          refine zJ_getr (mi := mX11_addRide) dX11_addRide_83 F_X11_52 zW_0 rfl rfl ?_
          refine zJ_geti (mi := mX11_addRide) (x := drawn_faultsn6) dX11_addRide_86 F_X11_254 zW_33 rfl rfl rfl ?_
          obtain ⟨rfl, rfl, rfl, rfl, rfl, rfl, rfl, rfl, rfl, rfl, rfl, rfl, rfl⟩ := so13 h
          exact zJ_iret dX11_addRide_89 rfl rfl
        · replace h := it_f hc h
          refine zJ_bipush dX11_addRide_41 zb_m2 rfl ?_
          obtain ⟨rfl, rfl, rfl, rfl, rfl, rfl, rfl, rfl, rfl, rfl, rfl, rfl, rfl⟩ := so13 h
          exact zJ_iret dX11_addRide_43 rfl rfl
      · replace h := it_t hc h
        refine zJ_iconst dX11_addRide_29 zc_m1 rfl ?_
        obtain ⟨rfl, rfl, rfl, rfl, rfl, rfl, rfl, rfl, rfl, rfl, rfl, rfl, rfl⟩ := so13 h
        exact zJ_iret dX11_addRide_30 rfl rfl
set_option maxRecDepth 100000 in
set_option maxHeartbeats 4000000 in
theorem t_X11_isResult (l : Launch) (σ : zS) {p0 : Int32} {p1 : Int32} {r : Int32} (h : f_X11_isResult p0 p1 = some r) : zMt l zW 0 mX11_isResult σ ([], [], []) [.int p0, .int p1] (some (.int r)) ([], [], []) := by
  refine zMt_of (ls := [(0, .int p0), (1, .int p1)]) (by decide) rfl (fun _ => Nat.le_of_ble_eq_true rfl) rfl ?_
  unfold f_X11_isResult at h
  refine zJ_iload_n dX11_isResult_0 rfl rfl ?_
  refine zJ_if_lt (tgt := 25) dX11_isResult_1 (by decide) rfl (fun hc => ?_) (fun hc => ?_)
  · replace h := it_t hc h
    refine zJ_iconst dX11_isResult_25 zc_0 rfl ?_
    obtain rfl := so1 h
    exact zJ_iret dX11_isResult_26 rfl (by decide)
  · replace h := it_f hc h
    refine zJ_iload_n dX11_isResult_4 rfl rfl ?_
    refine zJ_bipush dX11_isResult_5 zb_99 rfl ?_
    refine zJ_icmp_gt (tgt := 25) dX11_isResult_7 (by decide) rfl (fun hc => ?_) (fun hc => ?_)
    · replace h := it_t hc h
      refine zJ_iconst dX11_isResult_25 zc_0 rfl ?_
      obtain rfl := so1 h
      exact zJ_iret dX11_isResult_26 rfl (by decide)
    · replace h := it_f hc h
      refine zJ_iload_n dX11_isResult_10 rfl rfl ?_
      refine zJ_if_lt (tgt := 25) dX11_isResult_11 (by decide) rfl (fun hc => ?_) (fun hc => ?_)
      · replace h := it_t hc h
        refine zJ_iconst dX11_isResult_25 zc_0 rfl ?_
        obtain rfl := so1 h
        exact zJ_iret dX11_isResult_26 rfl (by decide)
      · replace h := it_f hc h
        refine zJ_iload_n dX11_isResult_14 rfl rfl ?_
        refine zJ_sipush dX11_isResult_15 zs_9999 rfl ?_
        refine zJ_icmp_gt (tgt := 25) dX11_isResult_18 (by decide) rfl (fun hc => ?_) (fun hc => ?_)
        · replace h := it_t hc h
          refine zJ_iconst dX11_isResult_25 zc_0 rfl ?_
          obtain rfl := so1 h
          exact zJ_iret dX11_isResult_26 rfl (by decide)
        · replace h := it_f hc h
          refine zJ_iconst dX11_isResult_21 zc_1 rfl ?_
          refine zJ_goto (tgt := 26) dX11_isResult_22 (by decide) ?_
          obtain rfl := so1 h
          exact zJ_iret dX11_isResult_26 rfl (by decide)
set_option maxRecDepth 100000 in
set_option maxHeartbeats 4000000 in
theorem t_X11_addTold (l : Launch) (σ : zS) {p1 : Int32} {p2 : Int32} {p3 : Int32} {p4 : Int32} {course_horseCount : Int32} {rounds_size : Int32} {rounds_riders : (Nat → Int32)} {rounds_horses : (Nat → Int32)} {rounds_faults : (Nat → Int32)} {rounds_tenths : (Nat → Int32)} {r : Int32} {w_rounds_size : Int32} {w_rounds_riders : (Nat → Int32)} {w_rounds_horses : (Nat → Int32)} {w_rounds_faults : (Nat → Int32)} {w_rounds_tenths : (Nat → Int32)} (h : f_X11_addTold p1 p2 p3 p4 course_horseCount rounds_size rounds_riders rounds_horses rounds_faults rounds_tenths = some (r, w_rounds_size, w_rounds_riders, w_rounds_horses, w_rounds_faults, w_rounds_tenths)) : zMt l zW 2 mX11_addTold σ ([(326, course_horseCount), (1284, rounds_size)], [(21, rounds_riders), (22, rounds_horses), (23, rounds_faults), (24, rounds_tenths)], []) [.ref 0, .int p1, .int p2, .int p3, .int p4] (some (.int r)) ([(326, course_horseCount), (1284, w_rounds_size)], [(21, w_rounds_riders), (22, w_rounds_horses), (23, w_rounds_faults), (24, w_rounds_tenths)], []) := by
  refine zMt_of (ls := [(0, .ref 0), (1, .int p1), (2, .int p2), (3, .int p3), (4, .int p4)]) (by decide) rfl (fun _ => Nat.le_of_ble_eq_true rfl) rfl ?_
  unfold f_X11_addTold at h
  refine zJ_iload_n dX11_addTold_0 rfl rfl ?_
  obtain ⟨rn1, hcl, h⟩ := bd1_some h
  refine zJ_callS2 (σ := σ) (L := ([(326, course_horseCount), (1284, rounds_size)], [(21, rounds_riders), (22, rounds_horses), (23, rounds_faults), (24, rounds_tenths)], [])) (mi := mX11_addTold) (yi := mX11_isRider) (as := [.int p1]) (st := []) (L2 := ([(326, course_horseCount), (1284, rounds_size)], [(21, rounds_riders), (22, rounds_horses), (23, rounds_faults), (24, rounds_tenths)], [])) dX11_addTold_1 ML_X11_260 Ys_X11_isRider rfl (t_X11_isRider l _ hcl) (zsub_i zle_n zle_n zle_n) (zjok_i rfl rfl (zle_c rfl (zle_c rfl zle_n)) rfl rfl (zle_c rfl (zle_c rfl (zle_c rfl (zle_c rfl zle_n)))) rfl rfl zle_n) (Nat.le_of_ble_eq_true rfl) (Nat.le_of_ble_eq_true rfl) rfl rfl ?_
  refine zJ_if_eq (tgt := 27) dX11_addTold_4 (by decide) rfl (fun hc => ?_) (fun hc => ?_)
  · replace h := it_t hc h
    refine zJ_iconst dX11_addTold_27 zc_m1 rfl ?_
    obtain ⟨rfl, rfl, rfl, rfl, rfl, rfl⟩ := so6 h
    exact zJ_iret dX11_addTold_28 rfl rfl
  · replace h := it_f hc h
    refine zJ_aload_n dX11_addTold_7 rfl rfl ?_
    refine zJ_getr (mi := mX11_addTold) dX11_addTold_8 F_X11_26 zW_0 rfl rfl ?_
    refine zJ_iload_n dX11_addTold_11 rfl rfl ?_
    obtain ⟨rn2, hcl, h⟩ := bd1_some h
    refine zJ_callV2 (σ := σ) (L := ([(326, course_horseCount), (1284, rounds_size)], [(21, rounds_riders), (22, rounds_horses), (23, rounds_faults), (24, rounds_tenths)], [])) (mi := mX11_addTold) (yi := mX1_hasHorse) (as := [.int p2]) (st := []) (L2 := ([(326, course_horseCount), (1284, rounds_size)], [(21, rounds_riders), (22, rounds_horses), (23, rounds_faults), (24, rounds_tenths)], [])) dX11_addTold_12 ML_X11_147 Yv_X1_hasHorse rfl zW_5 rfl rfl (t_X1_hasHorse l _ hcl) (zsub_i (zle_c rfl zle_n) zle_n zle_n) (zjok_i rfl rfl (zle_c rfl (zle_c rfl zle_n)) rfl rfl (zle_c rfl (zle_c rfl (zle_c rfl (zle_c rfl zle_n)))) rfl rfl zle_n) (Nat.le_of_ble_eq_true rfl) (Nat.le_of_ble_eq_true rfl) rfl rfl ?_
    refine zJ_if_eq (tgt := 27) dX11_addTold_15 (by decide) rfl (fun hc => ?_) (fun hc => ?_)
    · replace h := it_t hc h
      refine zJ_iconst dX11_addTold_27 zc_m1 rfl ?_
      obtain ⟨rfl, rfl, rfl, rfl, rfl, rfl⟩ := so6 h
      exact zJ_iret dX11_addTold_28 rfl rfl
    · replace h := it_f hc h
      refine zJ_iload_n dX11_addTold_18 rfl rfl ?_
      refine zJ_iload dX11_addTold_19 rfl rfl ?_
      obtain ⟨rn3, hcl, h⟩ := bd1_some h
      refine zJ_callS2 (σ := σ) (L := ([(326, course_horseCount), (1284, rounds_size)], [(21, rounds_riders), (22, rounds_horses), (23, rounds_faults), (24, rounds_tenths)], [])) (mi := mX11_addTold) (yi := mX11_isResult) (as := [.int p3, .int p4]) (st := []) (L2 := ([(326, course_horseCount), (1284, rounds_size)], [(21, rounds_riders), (22, rounds_horses), (23, rounds_faults), (24, rounds_tenths)], [])) dX11_addTold_21 ML_X11_273 Ys_X11_isResult rfl (t_X11_isResult l _ hcl) (zsub_i zle_n zle_n zle_n) (zjok_i rfl rfl (zle_c rfl (zle_c rfl zle_n)) rfl rfl (zle_c rfl (zle_c rfl (zle_c rfl (zle_c rfl zle_n)))) rfl rfl zle_n) (Nat.le_of_ble_eq_true rfl) (Nat.le_of_ble_eq_true rfl) rfl rfl ?_
      refine zJ_if_ne (tgt := 29) dX11_addTold_24 (by decide) rfl (fun hc => ?_) (fun hc => ?_)
      · replace h := it_f hc h
        refine zJ_aload_n dX11_addTold_29 rfl rfl ?_
        refine zJ_getr (mi := mX11_addTold) dX11_addTold_30 F_X11_33 zW_0 rfl rfl ?_
        obtain ⟨rn4, hcl, h⟩ := bd1_some h
        refine zJ_callV2 (σ := σ) (L := ([(326, course_horseCount), (1284, rounds_size)], [(21, rounds_riders), (22, rounds_horses), (23, rounds_faults), (24, rounds_tenths)], [])) (mi := mX11_addTold) (yi := mX10_isFull) (as := []) (st := []) (L2 := ([(326, course_horseCount), (1284, rounds_size)], [(21, rounds_riders), (22, rounds_horses), (23, rounds_faults), (24, rounds_tenths)], [])) dX11_addTold_33 ML_X11_263 Yv_X10_isFull rfl zW_20 rfl rfl (t_X10_isFull l _ hcl) (zsub_i (zle_c rfl zle_n) zle_n zle_n) (zjok_i rfl rfl (zle_c rfl (zle_c rfl zle_n)) rfl rfl (zle_c rfl (zle_c rfl (zle_c rfl (zle_c rfl zle_n)))) rfl rfl zle_n) (Nat.le_of_ble_eq_true rfl) (Nat.le_of_ble_eq_true rfl) rfl rfl ?_
        refine zJ_if_eq (tgt := 42) dX11_addTold_36 (by decide) rfl (fun hc => ?_) (fun hc => ?_)
        · replace h := it_t hc h
          refine zJ_aload_n dX11_addTold_42 rfl rfl ?_
          refine zJ_getr (mi := mX11_addTold) dX11_addTold_43 F_X11_33 zW_0 rfl rfl ?_
          refine zJ_iload_n dX11_addTold_46 rfl rfl ?_
          refine zJ_iload_n dX11_addTold_47 rfl rfl ?_
          refine zJ_iload_n dX11_addTold_48 rfl rfl ?_
          refine zJ_iload dX11_addTold_49 rfl rfl ?_
          obtain ⟨rounds_sizen5, rounds_ridersn6, rounds_horsesn7, rounds_faultsn8, rounds_tenthsn9, hcl, h⟩ := bd5_some h
          refine zJ_callV2 (σ := σ) (L := ([(326, course_horseCount), (1284, rounds_size)], [(21, rounds_riders), (22, rounds_horses), (23, rounds_faults), (24, rounds_tenths)], [])) (mi := mX11_addTold) (yi := mX10_add) (as := [.int p1, .int p2, .int p3, .int p4]) (st := []) (L2 := ([(326, course_horseCount), (1284, rounds_sizen5)], [(21, rounds_ridersn6), (22, rounds_horsesn7), (23, rounds_faultsn8), (24, rounds_tenthsn9)], [])) dX11_addTold_51 ML_X11_270 Yv_X10_add rfl zW_20 rfl rfl (t_X10_add l _ hcl) (zsub_i (zle_c rfl zle_n) (zle_c rfl (zle_c rfl (zle_c rfl (zle_c rfl zle_n)))) zle_n) (zjok_i rfl rfl (zle_c rfl (zle_c rfl zle_n)) rfl rfl (zle_c rfl (zle_c rfl (zle_c rfl (zle_c rfl zle_n)))) rfl rfl zle_n) (Nat.le_of_ble_eq_true rfl) (Nat.le_of_ble_eq_true rfl) rfl rfl ?_
          refine zJ_aload_n dX11_addTold_54 rfl rfl ?_
          refine zJ_getr (mi := mX11_addTold) dX11_addTold_55 F_X11_33 zW_0 rfl rfl ?_
          refine zJ_geti (mi := mX11_addTold) (x := rounds_sizen5) dX11_addTold_58 F_X11_107 zW_20 rfl rfl rfl ?_
          obtain ⟨rfl, rfl, rfl, rfl, rfl, rfl⟩ := so6 h
          exact zJ_iret dX11_addTold_61 rfl rfl
        · replace h := it_f hc h
          refine zJ_bipush dX11_addTold_39 zb_m2 rfl ?_
          obtain ⟨rfl, rfl, rfl, rfl, rfl, rfl⟩ := so6 h
          exact zJ_iret dX11_addTold_41 rfl rfl
      · replace h := it_t hc h
        refine zJ_iconst dX11_addTold_27 zc_m1 rfl ?_
        obtain ⟨rfl, rfl, rfl, rfl, rfl, rfl⟩ := so6 h
        exact zJ_iret dX11_addTold_28 rfl rfl
set_option maxRecDepth 100000 in
set_option maxHeartbeats 4000000 in
theorem t_X8_forget_history (l : Launch) (σ : zS) {history_count : Int32} {history_sizes : (Nat → Int32)} {w_history_count : Int32} {w_history_sizes : (Nat → Int32)} (h : f_X8_forget_history history_count history_sizes = some (w_history_count, w_history_sizes)) : zMt l zW 1 mX8_forget σ ([(1731, history_count)], [(29, history_sizes)], []) [.ref 27] none ([(1731, w_history_count)], [(29, w_history_sizes)], []) := by
  refine zMt_of (ls := [(0, .ref 27)]) (by decide) rfl (fun _ => Nat.le_of_ble_eq_true rfl) rfl ?_
  unfold f_X8_forget_history at h
  refine zJ_aload_n dX8_forget_0 rfl rfl ?_
  refine zJ_getr (mi := mX8_forget) dX8_forget_1 F_X8_25 zW_27 rfl rfl ?_
  refine zJ_iconst dX8_forget_4 zc_m1 rfl ?_
  obtain ⟨history_sizesn1, hcl, h⟩ := bd1_some h
  refine zJ_callS2 (σ := σ) (L := ([(1731, history_count)], [(29, history_sizes)], [])) (mi := mX8_forget) (yi := mJ7_fill_53178) (as := [.ref 29, .int (-1 : Int32)]) (st := []) (L2 := ([(1731, history_count)], [(29, history_sizesn1)], [])) dX8_forget_5 ML_X8_28 Ys_J7_fill_53178 rfl (t_J7_fill_53178_history_sizes l _ hcl) (zsub_i zle_n (zle_c rfl zle_n) zle_n) (zjok_i rfl rfl (zle_c rfl zle_n) rfl rfl (zle_c rfl zle_n) rfl rfl zle_n) (Nat.le_of_ble_eq_true rfl) (Nat.le_of_ble_eq_true rfl) rfl rfl ?_
  refine zJ_aload_n dX8_forget_8 rfl rfl ?_
  refine zJ_iconst dX8_forget_9 zc_0 rfl ?_
  refine zK_puti (mi := mX8_forget) (la' := [(1731, (0 : Int32))]) zW_ok dX8_forget_10 F_X8_34 P_8_3 zW_27 rfl rfl rfl ?_
  obtain ⟨rfl, rfl⟩ := so2 h
  exact zJ_vret dX8_forget_13 rfl
set_option maxRecDepth 100000 in
set_option maxHeartbeats 4000000 in
theorem t_X8_load_kept (l : Launch) (σ : zS) {p1 : Int32} {rounds_size : Int32} {kept_slots : Int32} {rounds_riders : (Nat → Int32)} {rounds_horses : (Nat → Int32)} {rounds_faults : (Nat → Int32)} {rounds_tenths : (Nat → Int32)} {kept_cells : (Nat → Int32)} {kept_sizes : (Nat → Int32)} {r : Int32} {w_rounds_size : Int32} {w_rounds_riders : (Nat → Int32)} {w_rounds_horses : (Nat → Int32)} {w_rounds_faults : (Nat → Int32)} {w_rounds_tenths : (Nat → Int32)} (h : f_X8_load_kept p1 rounds_size kept_slots rounds_riders rounds_horses rounds_faults rounds_tenths kept_cells kept_sizes = some (r, w_rounds_size, w_rounds_riders, w_rounds_horses, w_rounds_faults, w_rounds_tenths)) : zMt l zW 1 mX8_load σ ([(1284, rounds_size), (1920, kept_slots)], [(21, rounds_riders), (22, rounds_horses), (23, rounds_faults), (24, rounds_tenths), (31, kept_cells), (32, kept_sizes)], []) [.ref 30, .int p1, .ref 20] (some (.int r)) ([(1284, w_rounds_size), (1920, kept_slots)], [(21, w_rounds_riders), (22, w_rounds_horses), (23, w_rounds_faults), (24, w_rounds_tenths), (31, kept_cells), (32, kept_sizes)], []) := by
  refine zMt_of (ls := [(0, .ref 30), (1, .int p1), (2, .ref 20)]) (by decide) rfl (fun _ => Nat.le_of_ble_eq_true rfl) rfl ?_
  unfold f_X8_load_kept at h
  refine zJ_iload_n dX8_load_0 rfl rfl ?_
  refine zJ_if_lt (tgt := 22) dX8_load_1 (by decide) rfl (fun hc => ?_) (fun hc => ?_)
  · replace h := it_t hc h
    refine zJ_iconst dX8_load_22 zc_0 rfl ?_
    obtain ⟨rfl, rfl, rfl, rfl, rfl, rfl⟩ := so6 h
    exact zJ_iret dX8_load_23 rfl (by decide)
  · replace h := it_f hc h
    refine zJ_iload_n dX8_load_4 rfl rfl ?_
    refine zJ_aload_n dX8_load_5 rfl rfl ?_
    refine zJ_geti (mi := mX8_load) (x := kept_slots) dX8_load_6 F_X8_15 zW_30 rfl rfl rfl ?_
    refine zJ_icmp_ge (tgt := 22) dX8_load_9 (by decide) rfl (fun hc => ?_) (fun hc => ?_)
    · replace h := it_t hc h
      refine zJ_iconst dX8_load_22 zc_0 rfl ?_
      obtain ⟨rfl, rfl, rfl, rfl, rfl, rfl⟩ := so6 h
      exact zJ_iret dX8_load_23 rfl (by decide)
    · replace h := it_f hc h
      refine zJ_aload_n dX8_load_12 rfl rfl ?_
      refine zJ_getr (mi := mX8_load) dX8_load_13 F_X8_25 zW_30 rfl rfl ?_
      refine zJ_iload_n dX8_load_16 rfl rfl ?_
      obtain ⟨hg, h⟩ := gd_some h
      refine zJ_iald (mi := mX8_load) (f := kept_sizes) dX8_load_17 zW_32 (ix_in hg) rfl rfl ?_
      refine zJ_iconst dX8_load_18 zc_m1 rfl ?_
      refine zJ_icmp_ne (tgt := 24) dX8_load_19 (by decide) rfl (fun hc => ?_) (fun hc => ?_)
      · replace h := it_f hc h
        refine zJ_iload_n dX8_load_24 rfl rfl ?_
        refine zJ_bipush dX8_load_25 zb_48 rfl ?_
        refine zJ_imul dX8_load_27 rfl ?_
        obtain ⟨v3n1, ev3n1, h⟩ := lt1_some h
        refine zJ_nmi ev3n1 ?_
        refine zJ_istore_n (ls' := [(3, .int v3n1), (0, .ref 30), (1, .int p1), (2, .ref 20)]) dX8_load_28 rfl rfl rfl ?_
        refine zJ_aload_n dX8_load_29 rfl rfl ?_
        refine zJ_getr (mi := mX8_load) dX8_load_30 F_X8_21 zW_30 rfl rfl ?_
        refine zJ_iload_n dX8_load_33 rfl rfl ?_
        refine zJ_aload_n dX8_load_34 rfl rfl ?_
        refine zJ_getr (mi := mX8_load) dX8_load_35 F_X8_37 zW_20 rfl rfl ?_
        refine zJ_iconst dX8_load_38 zc_0 rfl ?_
        refine zJ_bipush dX8_load_39 zb_12 rfl ?_
        obtain ⟨hg, h⟩ := gd_some h
        refine zK_copyi (mi := mX8_load) (f := kept_cells) (g := rounds_riders) (lb' := [(21, (va_cpy kept_cells rounds_riders v3n1.toNatClampNeg (0 : Int32).toNatClampNeg (12 : Int32).toNatClampNeg)), (22, rounds_horses), (23, rounds_faults), (24, rounds_tenths), (31, kept_cells), (32, kept_sizes)]) dX8_load_41 L_X8_42 K_cpy_n K_cpy_s K_sys zW_31 zW_21 rfl rfl (cpok_s hg) (Nat.le_of_ble_eq_true rfl) (Nat.le_of_ble_eq_true rfl) rfl rfl ?_
        refine zJ_aload_n dX8_load_44 rfl rfl ?_
        refine zJ_getr (mi := mX8_load) dX8_load_45 F_X8_21 zW_30 rfl rfl ?_
        refine zJ_iload_n dX8_load_48 rfl rfl ?_
        refine zJ_bipush dX8_load_49 zb_12 rfl ?_
        refine zJ_iadd dX8_load_51 rfl ?_
        refine zJ_aload_n dX8_load_52 rfl rfl ?_
        refine zJ_getr (mi := mX8_load) dX8_load_53 F_X8_48 zW_20 rfl rfl ?_
        refine zJ_iconst dX8_load_56 zc_0 rfl ?_
        refine zJ_bipush dX8_load_57 zb_12 rfl ?_
        obtain ⟨hg, h⟩ := gd_some h
        refine zK_copyi (mi := mX8_load) (f := kept_cells) (g := rounds_horses) (lb' := [(21, (va_cpy kept_cells rounds_riders v3n1.toNatClampNeg (0 : Int32).toNatClampNeg (12 : Int32).toNatClampNeg)), (22, (va_cpy kept_cells rounds_horses (v3n1 + (12 : Int32)).toNatClampNeg (0 : Int32).toNatClampNeg (12 : Int32).toNatClampNeg)), (23, rounds_faults), (24, rounds_tenths), (31, kept_cells), (32, kept_sizes)]) dX8_load_59 L_X8_42 K_cpy_n K_cpy_s K_sys zW_31 zW_22 rfl rfl (cpok_s hg) (Nat.le_of_ble_eq_true rfl) (Nat.le_of_ble_eq_true rfl) rfl rfl ?_
        refine zJ_aload_n dX8_load_62 rfl rfl ?_
        refine zJ_getr (mi := mX8_load) dX8_load_63 F_X8_21 zW_30 rfl rfl ?_
        refine zJ_iload_n dX8_load_66 rfl rfl ?_
        refine zJ_bipush dX8_load_67 zb_24 rfl ?_
        refine zJ_iadd dX8_load_69 rfl ?_
        refine zJ_aload_n dX8_load_70 rfl rfl ?_
        refine zJ_getr (mi := mX8_load) dX8_load_71 F_X8_51 zW_20 rfl rfl ?_
        refine zJ_iconst dX8_load_74 zc_0 rfl ?_
        refine zJ_bipush dX8_load_75 zb_12 rfl ?_
        obtain ⟨hg, h⟩ := gd_some h
        refine zK_copyi (mi := mX8_load) (f := kept_cells) (g := rounds_faults) (lb' := [(21, (va_cpy kept_cells rounds_riders v3n1.toNatClampNeg (0 : Int32).toNatClampNeg (12 : Int32).toNatClampNeg)), (22, (va_cpy kept_cells rounds_horses (v3n1 + (12 : Int32)).toNatClampNeg (0 : Int32).toNatClampNeg (12 : Int32).toNatClampNeg)), (23, (va_cpy kept_cells rounds_faults (v3n1 + (24 : Int32)).toNatClampNeg (0 : Int32).toNatClampNeg (12 : Int32).toNatClampNeg)), (24, rounds_tenths), (31, kept_cells), (32, kept_sizes)]) dX8_load_77 L_X8_42 K_cpy_n K_cpy_s K_sys zW_31 zW_23 rfl rfl (cpok_s hg) (Nat.le_of_ble_eq_true rfl) (Nat.le_of_ble_eq_true rfl) rfl rfl ?_
        refine zJ_aload_n dX8_load_80 rfl rfl ?_
        refine zJ_getr (mi := mX8_load) dX8_load_81 F_X8_21 zW_30 rfl rfl ?_
        refine zJ_iload_n dX8_load_84 rfl rfl ?_
        refine zJ_bipush dX8_load_85 zb_36 rfl ?_
        refine zJ_iadd dX8_load_87 rfl ?_
        refine zJ_aload_n dX8_load_88 rfl rfl ?_
        refine zJ_getr (mi := mX8_load) dX8_load_89 F_X8_54 zW_20 rfl rfl ?_
        refine zJ_iconst dX8_load_92 zc_0 rfl ?_
        refine zJ_bipush dX8_load_93 zb_12 rfl ?_
        obtain ⟨hg, h⟩ := gd_some h
        refine zK_copyi (mi := mX8_load) (f := kept_cells) (g := rounds_tenths) (lb' := [(21, (va_cpy kept_cells rounds_riders v3n1.toNatClampNeg (0 : Int32).toNatClampNeg (12 : Int32).toNatClampNeg)), (22, (va_cpy kept_cells rounds_horses (v3n1 + (12 : Int32)).toNatClampNeg (0 : Int32).toNatClampNeg (12 : Int32).toNatClampNeg)), (23, (va_cpy kept_cells rounds_faults (v3n1 + (24 : Int32)).toNatClampNeg (0 : Int32).toNatClampNeg (12 : Int32).toNatClampNeg)), (24, (va_cpy kept_cells rounds_tenths (v3n1 + (36 : Int32)).toNatClampNeg (0 : Int32).toNatClampNeg (12 : Int32).toNatClampNeg)), (31, kept_cells), (32, kept_sizes)]) dX8_load_95 L_X8_42 K_cpy_n K_cpy_s K_sys zW_31 zW_24 rfl rfl (cpok_s hg) (Nat.le_of_ble_eq_true rfl) (Nat.le_of_ble_eq_true rfl) rfl rfl ?_
        refine zJ_aload_n dX8_load_98 rfl rfl ?_
        refine zJ_aload_n dX8_load_99 rfl rfl ?_
        refine zJ_getr (mi := mX8_load) dX8_load_100 F_X8_25 zW_30 rfl rfl ?_
        refine zJ_iload_n dX8_load_103 rfl rfl ?_
        obtain ⟨hg, h⟩ := gd_some h
        refine zJ_iald (mi := mX8_load) (f := kept_sizes) dX8_load_104 zW_32 (ix_in hg) rfl rfl ?_
        refine zK_puti (mi := mX8_load) (la' := [(1284, (kept_sizes p1.toNatClampNeg)), (1920, kept_slots)]) zW_ok dX8_load_105 F_X8_57 P_10_4 zW_20 rfl rfl rfl ?_
        refine zJ_iconst dX8_load_108 zc_1 rfl ?_
        obtain ⟨rfl, rfl, rfl, rfl, rfl, rfl⟩ := so6 h
        exact zJ_iret dX8_load_109 rfl (by decide)
      · replace h := it_t hc h
        refine zJ_iconst dX8_load_22 zc_0 rfl ?_
        obtain ⟨rfl, rfl, rfl, rfl, rfl, rfl⟩ := so6 h
        exact zJ_iret dX8_load_23 rfl (by decide)
set_option maxRecDepth 100000 in
set_option maxHeartbeats 4000000 in
theorem t_X11_again (l : Launch) (σ : zS) {p1 : Int32} {rounds_size : Int32} {history_count : Int32} {kept_slots : Int32} {rounds_riders : (Nat → Int32)} {rounds_horses : (Nat → Int32)} {rounds_faults : (Nat → Int32)} {rounds_tenths : (Nat → Int32)} {history_sizes : (Nat → Int32)} {kept_cells : (Nat → Int32)} {kept_sizes : (Nat → Int32)} {r : Int32} {w_rounds_size : Int32} {w_history_count : Int32} {w_rounds_riders : (Nat → Int32)} {w_rounds_horses : (Nat → Int32)} {w_rounds_faults : (Nat → Int32)} {w_rounds_tenths : (Nat → Int32)} {w_history_sizes : (Nat → Int32)} (h : f_X11_again p1 rounds_size history_count kept_slots rounds_riders rounds_horses rounds_faults rounds_tenths history_sizes kept_cells kept_sizes = some (r, w_rounds_size, w_history_count, w_rounds_riders, w_rounds_horses, w_rounds_faults, w_rounds_tenths, w_history_sizes)) : zMt l zW 2 mX11_again σ ([(1284, rounds_size), (1731, history_count), (1920, kept_slots)], [(21, rounds_riders), (22, rounds_horses), (23, rounds_faults), (24, rounds_tenths), (29, history_sizes), (31, kept_cells), (32, kept_sizes)], []) [.ref 0, .int p1] (some (.int r)) ([(1284, w_rounds_size), (1731, w_history_count), (1920, kept_slots)], [(21, w_rounds_riders), (22, w_rounds_horses), (23, w_rounds_faults), (24, w_rounds_tenths), (29, w_history_sizes), (31, kept_cells), (32, kept_sizes)], []) := by
  refine zMt_of (ls := [(0, .ref 0), (1, .int p1)]) (by decide) rfl (fun _ => Nat.le_of_ble_eq_true rfl) rfl ?_
  unfold f_X11_again at h
  refine zJ_aload_n dX11_again_0 rfl rfl ?_
  refine zJ_getr (mi := mX11_again) dX11_again_1 F_X11_46 zW_0 rfl rfl ?_
  refine zJ_iload_n dX11_again_4 rfl rfl ?_
  refine zJ_aload_n dX11_again_5 rfl rfl ?_
  refine zJ_getr (mi := mX11_again) dX11_again_6 F_X11_33 zW_0 rfl rfl ?_
  obtain ⟨rn1, rounds_sizen2, rounds_ridersn3, rounds_horsesn4, rounds_faultsn5, rounds_tenthsn6, hcl, h⟩ := bd6_some h
  refine zJ_callV2 (σ := σ) (L := ([(1284, rounds_size), (1731, history_count), (1920, kept_slots)], [(21, rounds_riders), (22, rounds_horses), (23, rounds_faults), (24, rounds_tenths), (29, history_sizes), (31, kept_cells), (32, kept_sizes)], [])) (mi := mX11_again) (yi := mX8_load) (as := [.int p1, .ref 20]) (st := []) (L2 := ([(1284, rounds_sizen2), (1731, history_count), (1920, kept_slots)], [(21, rounds_ridersn3), (22, rounds_horsesn4), (23, rounds_faultsn5), (24, rounds_tenthsn6), (29, history_sizes), (31, kept_cells), (32, kept_sizes)], [])) dX11_again_9 ML_X11_445 Yv_X8_load rfl zW_30 rfl rfl (t_X8_load_kept l _ hcl) (zsub_i (zle_c rfl (zle_c rfl zle_n)) (zle_c rfl (zle_c rfl (zle_c rfl (zle_c rfl (zle_c rfl (zle_c rfl zle_n)))))) zle_n) (zjok_i rfl rfl (zle_c rfl (zle_c rfl (zle_c rfl zle_n))) rfl rfl (zle_c rfl (zle_c rfl (zle_c rfl (zle_c rfl (zle_c rfl (zle_c rfl (zle_c rfl zle_n))))))) rfl rfl zle_n) (Nat.le_of_ble_eq_true rfl) (Nat.le_of_ble_eq_true rfl) rfl rfl ?_
  refine zJ_if_ne (tgt := 17) dX11_again_12 (by decide) rfl (fun hc => ?_) (fun hc => ?_)
  · replace h := it_f hc h
    refine zJ_aload_n dX11_again_17 rfl rfl ?_
    refine zJ_getr (mi := mX11_again) dX11_again_18 F_X11_42 zW_0 rfl rfl ?_
    obtain ⟨history_countn7, history_sizesn8, hcl, h⟩ := bd2_some h
    refine zJ_callV2 (σ := σ) (L := ([(1284, rounds_sizen2), (1731, history_count), (1920, kept_slots)], [(21, rounds_ridersn3), (22, rounds_horsesn4), (23, rounds_faultsn5), (24, rounds_tenthsn6), (29, history_sizes), (31, kept_cells), (32, kept_sizes)], [])) (mi := mX11_again) (yi := mX8_forget) (as := []) (st := []) (L2 := ([(1284, rounds_sizen2), (1731, history_countn7), (1920, kept_slots)], [(21, rounds_ridersn3), (22, rounds_horsesn4), (23, rounds_faultsn5), (24, rounds_tenthsn6), (29, history_sizesn8), (31, kept_cells), (32, kept_sizes)], [])) dX11_again_21 ML_X11_111 Yv_X8_forget rfl zW_27 rfl rfl (t_X8_forget_history l _ hcl) (zsub_i (zle_c rfl zle_n) (zle_c rfl zle_n) zle_n) (zjok_i rfl rfl (zle_c rfl (zle_c rfl (zle_c rfl zle_n))) rfl rfl (zle_c rfl (zle_c rfl (zle_c rfl (zle_c rfl (zle_c rfl (zle_c rfl (zle_c rfl zle_n))))))) rfl rfl zle_n) (Nat.le_of_ble_eq_true rfl) (Nat.le_of_ble_eq_true rfl) rfl rfl ?_
    refine zJ_iconst dX11_again_24 zc_1 rfl ?_
    obtain ⟨rfl, rfl, rfl, rfl, rfl, rfl, rfl, rfl⟩ := so8 h
    exact zJ_iret dX11_again_25 rfl (by decide)
  · replace h := it_t hc h
    refine zJ_iconst dX11_again_15 zc_0 rfl ?_
    obtain ⟨rfl, rfl, rfl, rfl, rfl, rfl, rfl, rfl⟩ := so8 h
    exact zJ_iret dX11_again_16 rfl (by decide)
set_option maxRecDepth 100000 in
set_option maxHeartbeats 4000000 in
theorem t_X11_allow (l : Launch) (σ : zS) {p1 : Int32} {course_allowed : Int32} {r : Int32} {w_course_allowed : Int32} (h : f_X11_allow p1 course_allowed = some (r, w_course_allowed)) : zMt l zW 0 mX11_allow σ ([(329, course_allowed)], [], []) [.ref 0, .int p1] (some (.int r)) ([(329, w_course_allowed)], [], []) := by
  refine zMt_of (ls := [(0, .ref 0), (1, .int p1)]) (by decide) rfl (fun _ => Nat.le_of_ble_eq_true rfl) rfl ?_
  unfold f_X11_allow at h
  refine zJ_iload_n dX11_allow_0 rfl rfl ?_
  refine zJ_if_lt (tgt := 11) dX11_allow_1 (by decide) rfl (fun hc => ?_) (fun hc => ?_)
  · replace h := it_t hc h
    refine zJ_iconst dX11_allow_11 zc_m1 rfl ?_
    obtain ⟨rfl, rfl⟩ := so2 h
    exact zJ_iret dX11_allow_12 rfl rfl
  · replace h := it_f hc h
    refine zJ_iload_n dX11_allow_4 rfl rfl ?_
    refine zJ_sipush dX11_allow_5 zs_9999 rfl ?_
    refine zJ_icmp_le (tgt := 13) dX11_allow_8 (by decide) rfl (fun hc => ?_) (fun hc => ?_)
    · replace h := it_t hc h
      refine zJ_aload_n dX11_allow_13 rfl rfl ?_
      refine zJ_getr (mi := mX11_allow) dX11_allow_14 F_X11_26 zW_0 rfl rfl ?_
      refine zJ_geti (mi := mX11_allow) (x := course_allowed) dX11_allow_17 F_X11_154 zW_5 rfl rfl rfl ?_
      refine zJ_istore_n (ls' := [(2, .int course_allowed), (0, .ref 0), (1, .int p1)]) dX11_allow_20 rfl rfl rfl ?_
      refine zJ_aload_n dX11_allow_21 rfl rfl ?_
      refine zJ_getr (mi := mX11_allow) dX11_allow_22 F_X11_26 zW_0 rfl rfl ?_
      refine zJ_iload_n dX11_allow_25 rfl rfl ?_
      refine zK_puti (mi := mX11_allow) (la' := [(329, p1)]) zW_ok dX11_allow_26 F_X11_154 P_1_9 zW_5 rfl rfl rfl ?_
      refine zJ_iload_n dX11_allow_29 rfl rfl ?_
      obtain ⟨rfl, rfl⟩ := so2 h
      exact zJ_iret dX11_allow_30 rfl rfl
    · replace h := it_f hc h
      refine zJ_iconst dX11_allow_11 zc_m1 rfl ?_
      obtain ⟨rfl, rfl⟩ := so2 h
      exact zJ_iret dX11_allow_12 rfl rfl
set_option maxRecDepth 100000 in
set_option maxHeartbeats 4000000 in
theorem t_X11_beat (l : Launch) (σ : zS) {p1 : Int32} {numbers_size : Int32} {rounds_size : Int32} {rounds_faults : (Nat → Int32)} {rounds_tenths : (Nat → Int32)} {rounds_money : (Nat → Int32)} {numbers_told : (Nat → Int64)} {r : Int32} {w_numbers_size : Int32} {w_numbers_told : (Nat → Int64)} (h : f_X11_beat p1 numbers_size rounds_size rounds_faults rounds_tenths rounds_money numbers_told = some (r, w_numbers_size, w_numbers_told)) : zMt l zW 1 mX11_beat σ ([(193, numbers_size), (1284, rounds_size)], [(23, rounds_faults), (24, rounds_tenths), (25, rounds_money)], [(4, numbers_told)]) [.ref 0, .int p1] (some (.int r)) ([(193, w_numbers_size), (1284, rounds_size)], [(23, rounds_faults), (24, rounds_tenths), (25, rounds_money)], [(4, w_numbers_told)]) := by
  refine zMt_of (ls := [(0, .ref 0), (1, .int p1)]) (by decide) rfl (fun _ => Nat.le_of_ble_eq_true rfl) rfl ?_
  unfold f_X11_beat at h
  refine zJ_iload_n dX11_beat_0 rfl rfl ?_
  refine zJ_iconst dX11_beat_1 zc_1 rfl ?_
  refine zJ_icmp_lt (tgt := 11) dX11_beat_2 (by decide) rfl (fun hc => ?_) (fun hc => ?_)
  · replace h := it_t hc h
    refine zJ_iconst dX11_beat_11 zc_m1 rfl ?_
    obtain ⟨rfl, rfl, rfl⟩ := so3 h
    exact zJ_iret dX11_beat_12 rfl rfl
  · replace h := it_f hc h
    refine zJ_iload_n dX11_beat_5 rfl rfl ?_
    refine zJ_bipush dX11_beat_6 zb_12 rfl ?_
    refine zJ_icmp_le (tgt := 13) dX11_beat_8 (by decide) rfl (fun hc => ?_) (fun hc => ?_)
    · replace h := it_t hc h
      refine zJ_iconst dX11_beat_13 zc_m1 rfl ?_
      refine zJ_istore_n (ls' := [(2, .int (-1 : Int32)), (0, .ref 0), (1, .int p1)]) dX11_beat_14 rfl rfl rfl ?_
      refine zJ_aload_n dX11_beat_15 rfl rfl ?_
      refine zJ_getr (mi := mX11_beat) dX11_beat_16 F_X11_33 zW_0 rfl rfl ?_
      refine zJ_iconst dX11_beat_19 zc_0 rfl ?_
      refine zJ_sipush dX11_beat_20 zs_9999 rfl ?_
      obtain ⟨rn1, hcl, h⟩ := bd1_some h
      refine zJ_callV2 (σ := σ) (L := ([(193, numbers_size), (1284, rounds_size)], [(23, rounds_faults), (24, rounds_tenths), (25, rounds_money)], [(4, numbers_told)])) (mi := mX11_beat) (yi := mX10_placeFor) (as := [.int (0 : Int32), .int (9999 : Int32)]) (st := []) (L2 := ([(193, numbers_size), (1284, rounds_size)], [(23, rounds_faults), (24, rounds_tenths), (25, rounds_money)], [(4, numbers_told)])) dX11_beat_23 ML_X11_350 Yv_X10_placeFor rfl zW_20 rfl rfl (t_X10_placeFor l _ hcl) (zsub_i (zle_c rfl zle_n) (zle_c rfl (zle_c rfl zle_n)) zle_n) (zjok_i rfl rfl (zle_c rfl (zle_c rfl zle_n)) rfl rfl (zle_c rfl (zle_c rfl (zle_c rfl zle_n))) rfl rfl (zle_c rfl zle_n)) (Nat.le_of_ble_eq_true rfl) (Nat.le_of_ble_eq_true rfl) rfl rfl ?_
      refine zJ_iload_n dX11_beat_26 rfl rfl ?_
      have hj_X11_beat_34 : ∀ (v2_34j : Int32), j_X11_beat_34 p1 numbers_size rounds_size rounds_faults rounds_tenths rounds_money numbers_told v2_34j = some (r, w_numbers_size, w_numbers_told) → zJ l zW 1 mX11_beat σ ([(193, numbers_size), (1284, rounds_size)], [(23, rounds_faults), (24, rounds_tenths), (25, rounds_money)], [(4, numbers_told)]) 34 [(0, .ref 0), (1, .int p1), (2, .int v2_34j)] [] (some (.int r)) ([(193, w_numbers_size), (1284, rounds_size)], [(23, rounds_faults), (24, rounds_tenths), (25, rounds_money)], [(4, w_numbers_told)]) := by
        intro v2_34j h
        unfold j_X11_beat_34 at h
        refine zJ_iconst dX11_beat_34 zc_0 rfl ?_
        refine zJ_istore_n (ls' := [(3, .int (0 : Int32)), (0, .ref 0), (1, .int p1), (2, .int v2_34j)]) dX11_beat_35 rfl rfl rfl ?_
        have hk36 : ∀ (v2_36x : Int32), k_X11_beat_36 numbers_size rounds_size rounds_faults rounds_tenths rounds_money numbers_told v2_36x = some (r, w_numbers_size, w_numbers_told) → zJ l zW 1 mX11_beat σ ([(193, numbers_size), (1284, rounds_size)], [(23, rounds_faults), (24, rounds_tenths), (25, rounds_money)], [(4, numbers_told)]) 108 [(0, .ref 0), (2, .int v2_36x)] [] (some (.int r)) ([(193, w_numbers_size), (1284, rounds_size)], [(23, rounds_faults), (24, rounds_tenths), (25, rounds_money)], [(4, w_numbers_told)]) := by
          intro v2_36x h
          unfold k_X11_beat_36 at h
          refine zJ_iload_n dX11_beat_108 rfl rfl ?_
          refine zJ_iconst dX11_beat_109 zc_m1 rfl ?_
          refine zJ_icmp_ne (tgt := 116) dX11_beat_110 (by decide) rfl (fun hc => ?_) (fun hc => ?_)
          · replace h := it_f hc h
            refine zJ_aload_n dX11_beat_116 rfl rfl ?_
            refine zJ_getr (mi := mX11_beat) dX11_beat_117 F_X11_19 zW_0 rfl rfl ?_
            obtain ⟨numbers_sizen2, hcl, h⟩ := bd1_some h
            refine zJ_callV2 (σ := σ) (L := ([(193, numbers_size), (1284, rounds_size)], [(23, rounds_faults), (24, rounds_tenths), (25, rounds_money)], [(4, numbers_told)])) (mi := mX11_beat) (yi := mX6_start) (as := []) (st := []) (L2 := ([(193, numbers_sizen2), (1284, rounds_size)], [(23, rounds_faults), (24, rounds_tenths), (25, rounds_money)], [(4, numbers_told)])) dX11_beat_120 ML_X11_171 Yv_X6_start rfl zW_3 rfl rfl (t_X6_start l _ hcl) (zsub_i (zle_c rfl zle_n) zle_n zle_n) (zjok_i rfl rfl (zle_c rfl (zle_c rfl zle_n)) rfl rfl (zle_c rfl (zle_c rfl (zle_c rfl zle_n))) rfl rfl (zle_c rfl zle_n)) (Nat.le_of_ble_eq_true rfl) (Nat.le_of_ble_eq_true rfl) rfl rfl ?_
            refine zJ_aload_n dX11_beat_123 rfl rfl ?_
            refine zJ_getr (mi := mX11_beat) dX11_beat_124 F_X11_19 zW_0 rfl rfl ?_
            refine zJ_aload_n dX11_beat_127 rfl rfl ?_
            refine zJ_getr (mi := mX11_beat) dX11_beat_128 F_X11_33 zW_0 rfl rfl ?_
            refine zJ_aload_n dX11_beat_131 rfl rfl ?_
            refine zJ_getr (mi := mX11_beat) dX11_beat_132 F_X11_33 zW_0 rfl rfl ?_
            refine zJ_iconst dX11_beat_135 zc_0 rfl ?_
            refine zJ_iload_n dX11_beat_136 rfl rfl ?_
            obtain ⟨rn3, hcl, h⟩ := bd1_some h
            refine zJ_callV2 (σ := σ) (L := ([(193, numbers_sizen2), (1284, rounds_size)], [(23, rounds_faults), (24, rounds_tenths), (25, rounds_money)], [(4, numbers_told)])) (mi := mX11_beat) (yi := mX10_placeFor) (as := [.int (0 : Int32), .int v2_36x]) (st := [.ref 20, .ref 3]) (L2 := ([(193, numbers_sizen2), (1284, rounds_size)], [(23, rounds_faults), (24, rounds_tenths), (25, rounds_money)], [(4, numbers_told)])) dX11_beat_137 ML_X11_350 Yv_X10_placeFor rfl zW_20 rfl rfl (t_X10_placeFor l _ hcl) (zsub_i (zle_c rfl zle_n) (zle_c rfl (zle_c rfl zle_n)) zle_n) (zjok_i rfl rfl (zle_c rfl (zle_c rfl zle_n)) rfl rfl (zle_c rfl (zle_c rfl (zle_c rfl zle_n))) rfl rfl (zle_c rfl zle_n)) (Nat.le_of_ble_eq_true rfl) (Nat.le_of_ble_eq_true rfl) rfl rfl ?_
            obtain ⟨rn4, hcl, h⟩ := bd1_some h
            refine zJ_callV2 (σ := σ) (L := ([(193, numbers_sizen2), (1284, rounds_size)], [(23, rounds_faults), (24, rounds_tenths), (25, rounds_money)], [(4, numbers_told)])) (mi := mX11_beat) (yi := mX10_moneyAt) (as := [.int rn3]) (st := [.ref 3]) (L2 := ([(193, numbers_sizen2), (1284, rounds_size)], [(23, rounds_faults), (24, rounds_tenths), (25, rounds_money)], [(4, numbers_told)])) dX11_beat_140 ML_X11_343 Yv_X10_moneyAt rfl zW_20 rfl rfl (t_X10_moneyAt l _ hcl) (zsub_i zle_n (zle_c rfl zle_n) zle_n) (zjok_i rfl rfl (zle_c rfl (zle_c rfl zle_n)) rfl rfl (zle_c rfl (zle_c rfl (zle_c rfl zle_n))) rfl rfl (zle_c rfl zle_n)) (Nat.le_of_ble_eq_true rfl) (Nat.le_of_ble_eq_true rfl) rfl rfl ?_
            refine zJ_i2l dX11_beat_143 rfl ?_
            obtain ⟨numbers_sizen5, numbers_toldn6, hcl, h⟩ := bd2_some h
            refine zJ_callV2 (σ := σ) (L := ([(193, numbers_sizen2), (1284, rounds_size)], [(23, rounds_faults), (24, rounds_tenths), (25, rounds_money)], [(4, numbers_told)])) (mi := mX11_beat) (yi := mX6_put) (as := [.long rn4.toInt64]) (st := []) (L2 := ([(193, numbers_sizen5), (1284, rounds_size)], [(23, rounds_faults), (24, rounds_tenths), (25, rounds_money)], [(4, numbers_toldn6)])) dX11_beat_144 ML_X11_177 Yv_X6_put rfl zW_3 rfl rfl (t_X6_put l _ hcl) (zsub_i (zle_c rfl zle_n) zle_n (zle_c rfl zle_n)) (zjok_i rfl rfl (zle_c rfl (zle_c rfl zle_n)) rfl rfl (zle_c rfl (zle_c rfl (zle_c rfl zle_n))) rfl rfl (zle_c rfl zle_n)) (Nat.le_of_ble_eq_true rfl) (Nat.le_of_ble_eq_true rfl) rfl rfl ?_
            refine zJ_iload_n dX11_beat_147 rfl rfl ?_
            obtain ⟨rfl, rfl, rfl⟩ := so3 h
            exact zJ_iret dX11_beat_148 rfl rfl
          · replace h := it_t hc h
            refine zJ_bipush dX11_beat_113 zb_m2 rfl ?_
            obtain ⟨rfl, rfl, rfl⟩ := so3 h
            exact zJ_iret dX11_beat_115 rfl rfl
        refine zJ_loc (ls' := [(0, .ref 0), (1, .int p1), (2, .int v2_34j), (3, .int (0 : Int32))]) (zll_c rfl (zll_c rfl (zll_c rfl (zll_c rfl zll_n)))) ?_
        refine ml2_J (fun (v2_36 : Int32) (v3_36 : Int32) => zJ l zW 1 mX11_beat σ ([(193, numbers_size), (1284, rounds_size)], [(23, rounds_faults), (24, rounds_tenths), (25, rounds_money)], [(4, numbers_told)]) 36 [(0, .ref 0), (1, .int p1), (2, .int v2_36), (3, .int v3_36)] [] (some (.int r)) ([(193, w_numbers_size), (1284, rounds_size)], [(23, rounds_faults), (24, rounds_tenths), (25, rounds_money)], [(4, w_numbers_told)])) (fun rc36 hrc36 v2_36 v3_36 h => ?_) zN _ _ h
        unfold s_X11_beat_36 at h
        refine zJ_iload_n dX11_beat_36 rfl rfl ?_
        refine zJ_aload_n dX11_beat_37 rfl rfl ?_
        refine zJ_getr (mi := mX11_beat) dX11_beat_38 F_X11_33 zW_0 rfl rfl ?_
        refine zJ_geti (mi := mX11_beat) (x := rounds_size) dX11_beat_41 F_X11_107 zW_20 rfl rfl rfl ?_
        refine zJ_icmp_ge (tgt := 108) dX11_beat_44 (by decide) rfl (fun hc => ?_) (fun hc => ?_)
        · replace h := it_t hc h
          refine zJ_loc (ls' := [(0, .ref 0), (2, .int v2_36)]) (zll_c rfl (zll_c rfl zll_n)) ?_
          exact hk36 _ h
        · replace h := it_f hc h
          refine zJ_iload_n dX11_beat_47 rfl rfl ?_
          refine zJ_sipush dX11_beat_48 zs_9999 rfl ?_
          refine zJ_icmp_eq (tgt := 108) dX11_beat_51 (by decide) rfl (fun hc => ?_) (fun hc => ?_)
          · replace h := it_t hc h
            refine zJ_loc (ls' := [(0, .ref 0), (2, .int v2_36)]) (zll_c rfl (zll_c rfl zll_n)) ?_
            exact hk36 _ h
          · replace h := it_f hc h
            refine zJ_aload_n dX11_beat_54 rfl rfl ?_
            refine zJ_getr (mi := mX11_beat) dX11_beat_55 F_X11_33 zW_0 rfl rfl ?_
            refine zJ_getr (mi := mX11_beat) dX11_beat_58 F_X11_337 zW_20 rfl rfl ?_
            refine zJ_iload_n dX11_beat_61 rfl rfl ?_
            obtain ⟨hg, h⟩ := gd_some h
            refine zJ_iald (mi := mX11_beat) (f := rounds_tenths) dX11_beat_62 zW_24 (ix_in hg) rfl rfl ?_
            refine zJ_iconst dX11_beat_63 zc_1 rfl ?_
            refine zJ_isub dX11_beat_64 rfl ?_
            obtain ⟨v4n7, ev4n7, h⟩ := lt1_some h
            refine zJ_nmi ev4n7 ?_
            refine zJ_istore (ls' := [(4, .int v4n7), (0, .ref 0), (1, .int p1), (2, .int v2_36), (3, .int v3_36)]) dX11_beat_65 rfl rfl rfl ?_
            refine zJ_aload_n dX11_beat_67 rfl rfl ?_
            refine zJ_getr (mi := mX11_beat) dX11_beat_68 F_X11_33 zW_0 rfl rfl ?_
            refine zJ_getr (mi := mX11_beat) dX11_beat_71 F_X11_335 zW_20 rfl rfl ?_
            refine zJ_iload_n dX11_beat_74 rfl rfl ?_
            obtain ⟨hg, h⟩ := gd_some h
            refine zJ_iald (mi := mX11_beat) (f := rounds_faults) dX11_beat_75 zW_23 (ix_in hg) rfl rfl ?_
            refine zJ_if_ne (tgt := 102) dX11_beat_76 (by decide) rfl (fun hc => ?_) (fun hc => ?_)
            · replace h := it_f hc h
              obtain ⟨v3n8, ev3n8, h⟩ := lt1_some h
              refine zJ_iincN (ls' := [(3, .int v3n8), (4, .int v4n7), (0, .ref 0), (1, .int p1), (2, .int v2_36)]) dX11_beat_102 rfl rfl zc_1 ev3n8 rfl rfl ?_
              refine zJ_goto (tgt := 36) dX11_beat_105 (by decide) ?_
              refine zJ_loc (ls' := [(0, .ref 0), (1, .int p1), (2, .int v2_36), (3, .int v3n8)]) (zll_c rfl (zll_c rfl (zll_c rfl (zll_c rfl zll_n)))) ?_
              exact hrc36 _ _ h
            · replace h := it_t hc h
              refine zJ_iload dX11_beat_79 rfl rfl ?_
              refine zJ_iload_n dX11_beat_81 rfl rfl ?_
              refine zJ_icmp_le (tgt := 102) dX11_beat_82 (by decide) rfl (fun hc => ?_) (fun hc => ?_)
              · replace h := it_t hc h
                obtain ⟨v3n9, ev3n9, h⟩ := lt1_some h
                refine zJ_iincN (ls' := [(3, .int v3n9), (4, .int v4n7), (0, .ref 0), (1, .int p1), (2, .int v2_36)]) dX11_beat_102 rfl rfl zc_1 ev3n9 rfl rfl ?_
                refine zJ_goto (tgt := 36) dX11_beat_105 (by decide) ?_
                refine zJ_loc (ls' := [(0, .ref 0), (1, .int p1), (2, .int v2_36), (3, .int v3n9)]) (zll_c rfl (zll_c rfl (zll_c rfl (zll_c rfl zll_n)))) ?_
                exact hrc36 _ _ h
              · replace h := it_f hc h
                refine zJ_aload_n dX11_beat_85 rfl rfl ?_
                refine zJ_getr (mi := mX11_beat) dX11_beat_86 F_X11_33 zW_0 rfl rfl ?_
                refine zJ_iconst dX11_beat_89 zc_0 rfl ?_
                refine zJ_iload dX11_beat_90 rfl rfl ?_
                obtain ⟨rn10, hcl, h⟩ := bd1_some h
                refine zJ_callV2 (σ := σ) (L := ([(193, numbers_size), (1284, rounds_size)], [(23, rounds_faults), (24, rounds_tenths), (25, rounds_money)], [(4, numbers_told)])) (mi := mX11_beat) (yi := mX10_placeFor) (as := [.int (0 : Int32), .int v4n7]) (st := []) (L2 := ([(193, numbers_size), (1284, rounds_size)], [(23, rounds_faults), (24, rounds_tenths), (25, rounds_money)], [(4, numbers_told)])) dX11_beat_92 ML_X11_350 Yv_X10_placeFor rfl zW_20 rfl rfl (t_X10_placeFor l _ hcl) (zsub_i (zle_c rfl zle_n) (zle_c rfl (zle_c rfl zle_n)) zle_n) (zjok_i rfl rfl (zle_c rfl (zle_c rfl zle_n)) rfl rfl (zle_c rfl (zle_c rfl (zle_c rfl zle_n))) rfl rfl (zle_c rfl zle_n)) (Nat.le_of_ble_eq_true rfl) (Nat.le_of_ble_eq_true rfl) rfl rfl ?_
                refine zJ_iload_n dX11_beat_95 rfl rfl ?_
                refine zJ_icmp_gt (tgt := 102) dX11_beat_96 (by decide) rfl (fun hc => ?_) (fun hc => ?_)
                · replace h := it_t hc h
                  obtain ⟨v3n11, ev3n11, h⟩ := lt1_some h
                  refine zJ_iincN (ls' := [(3, .int v3n11), (4, .int v4n7), (0, .ref 0), (1, .int p1), (2, .int v2_36)]) dX11_beat_102 rfl rfl zc_1 ev3n11 rfl rfl ?_
                  refine zJ_goto (tgt := 36) dX11_beat_105 (by decide) ?_
                  refine zJ_loc (ls' := [(0, .ref 0), (1, .int p1), (2, .int v2_36), (3, .int v3n11)]) (zll_c rfl (zll_c rfl (zll_c rfl (zll_c rfl zll_n)))) ?_
                  exact hrc36 _ _ h
                · replace h := it_f hc h
                  refine zJ_iload dX11_beat_99 rfl rfl ?_
                  refine zJ_istore_n (ls' := [(2, .int v4n7), (4, .int v4n7), (0, .ref 0), (1, .int p1), (3, .int v3_36)]) dX11_beat_101 rfl rfl rfl ?_
                  obtain ⟨v3n12, ev3n12, h⟩ := lt1_some h
                  refine zJ_iincN (ls' := [(3, .int v3n12), (2, .int v4n7), (4, .int v4n7), (0, .ref 0), (1, .int p1)]) dX11_beat_102 rfl rfl zc_1 ev3n12 rfl rfl ?_
                  refine zJ_goto (tgt := 36) dX11_beat_105 (by decide) ?_
                  refine zJ_loc (ls' := [(0, .ref 0), (1, .int p1), (2, .int v4n7), (3, .int v3n12)]) (zll_c rfl (zll_c rfl (zll_c rfl (zll_c rfl zll_n)))) ?_
                  exact hrc36 _ _ h
      refine zJ_icmp_gt (tgt := 34) dX11_beat_27 (by decide) rfl (fun hc => ?_) (fun hc => ?_)
      · replace h := it_t hc h
        refine zJ_loc (ls' := [(0, .ref 0), (1, .int p1), (2, .int (-1 : Int32))]) (zll_c rfl (zll_c rfl (zll_c rfl zll_n))) ?_
        exact hj_X11_beat_34 _ h
      · replace h := it_f hc h
        refine zJ_sipush dX11_beat_30 zs_9999 rfl ?_
        refine zJ_istore_n (ls' := [(2, .int (9999 : Int32)), (0, .ref 0), (1, .int p1)]) dX11_beat_33 rfl rfl rfl ?_
        refine zJ_loc (ls' := [(0, .ref 0), (1, .int p1), (2, .int (9999 : Int32))]) (zll_c rfl (zll_c rfl (zll_c rfl zll_n))) ?_
        exact hj_X11_beat_34 _ h
    · replace h := it_f hc h
      refine zJ_iconst dX11_beat_11 zc_m1 rfl ?_
      obtain ⟨rfl, rfl, rfl⟩ := so3 h
      exact zJ_iret dX11_beat_12 rfl rfl
