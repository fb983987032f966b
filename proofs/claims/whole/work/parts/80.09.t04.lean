set_option maxRecDepth 100000 in
set_option maxHeartbeats 4000000 in
theorem t_X11_thoughtMoney (l : Launch) (σ : zS) {p1 : Int32} {p2 : Int32} {course_fences : Int32} {course_allowed : Int32} {rounds_size : Int32} {course_kinds : (Nat → Int32)} {course_feet : (Nat → Int32)} {course_plans : (Nat → Int32)} {rounds_faults : (Nat → Int32)} {rounds_tenths : (Nat → Int32)} {rounds_money : (Nat → Int32)} {r : Int32} (h : f_X11_thoughtMoney p1 p2 course_fences course_allowed rounds_size course_kinds course_feet course_plans rounds_faults rounds_tenths rounds_money = some r) : zMt l zW 3 mX11_thoughtMoney σ ([(323, course_fences), (329, course_allowed), (1284, rounds_size)], [(6, course_kinds), (8, course_feet), (11, course_plans), (23, rounds_faults), (24, rounds_tenths), (25, rounds_money)], []) [.ref 0, .int p1, .int p2] (some (.int r)) ([(323, course_fences), (329, course_allowed), (1284, rounds_size)], [(6, course_kinds), (8, course_feet), (11, course_plans), (23, rounds_faults), (24, rounds_tenths), (25, rounds_money)], []) := by
  refine zMt_of (ls := [(0, .ref 0), (1, .int p1), (2, .int p2)]) (by decide) rfl (fun _ => Nat.le_of_ble_eq_true rfl) rfl ?_
  unfold f_X11_thoughtMoney at h
  refine zJ_aload_n dX11_thoughtMoney_0 rfl rfl ?_
  refine zJ_getr (mi := mX11_thoughtMoney) dX11_thoughtMoney_1 F_X11_26 zW_0 rfl rfl ?_
  refine zJ_iload_n dX11_thoughtMoney_4 rfl rfl ?_
  obtain ⟨rn1, hcl, h⟩ := bd1_some h
  refine zJ_callV2 (σ := σ) (L := ([(323, course_fences), (329, course_allowed), (1284, rounds_size)], [(6, course_kinds), (8, course_feet), (11, course_plans), (23, rounds_faults), (24, rounds_tenths), (25, rounds_money)], [])) (mi := mX11_thoughtMoney) (yi := mX1_planTenths) (as := [.int p1]) (st := []) (L2 := ([(323, course_fences), (329, course_allowed), (1284, rounds_size)], [(6, course_kinds), (8, course_feet), (11, course_plans), (23, rounds_faults), (24, rounds_tenths), (25, rounds_money)], [])) dX11_thoughtMoney_5 ML_X11_197 Yv_X1_planTenths rfl zW_5 rfl rfl (t_X1_planTenths l _ hcl) (zsub_i (zle_c rfl zle_n) (zle_c rfl (zle_c rfl (zle_c rfl zle_n))) zle_n) (zjok_i rfl rfl (zle_c rfl (zle_c rfl (zle_c rfl zle_n))) rfl rfl (zle_c rfl (zle_c rfl (zle_c rfl (zle_c rfl (zle_c rfl (zle_c rfl zle_n)))))) rfl rfl zle_n) (Nat.le_of_ble_eq_true rfl) (Nat.le_of_ble_eq_true rfl) rfl rfl ?_
  refine zJ_istore_n (ls' := [(3, .int rn1), (0, .ref 0), (1, .int p1), (2, .int p2)]) dX11_thoughtMoney_8 rfl rfl rfl ?_
  refine zJ_iload_n dX11_thoughtMoney_9 rfl rfl ?_
  refine zJ_aload_n dX11_thoughtMoney_10 rfl rfl ?_
  refine zJ_getr (mi := mX11_thoughtMoney) dX11_thoughtMoney_11 F_X11_26 zW_0 rfl rfl ?_
  refine zJ_geti (mi := mX11_thoughtMoney) (x := course_allowed) dX11_thoughtMoney_14 F_X11_154 zW_5 rfl rfl rfl ?_
  refine zJ_bipush dX11_thoughtMoney_17 zb_40 rfl ?_
  obtain ⟨rn2, hcl, h⟩ := bd1_some h
  refine zJ_callS2 (σ := σ) (L := ([(323, course_fences), (329, course_allowed), (1284, rounds_size)], [(6, course_kinds), (8, course_feet), (11, course_plans), (23, rounds_faults), (24, rounds_tenths), (25, rounds_money)], [])) (mi := mX11_thoughtMoney) (yi := mX11_begun) (as := [.int rn1, .int course_allowed, .int (40 : Int32)]) (st := []) (L2 := ([(323, course_fences), (329, course_allowed), (1284, rounds_size)], [(6, course_kinds), (8, course_feet), (11, course_plans), (23, rounds_faults), (24, rounds_tenths), (25, rounds_money)], [])) dX11_thoughtMoney_19 ML_X11_353 Ys_X11_begun rfl (t_X11_begun l _ hcl) (zsub_i zle_n zle_n zle_n) (zjok_i rfl rfl (zle_c rfl (zle_c rfl (zle_c rfl zle_n))) rfl rfl (zle_c rfl (zle_c rfl (zle_c rfl (zle_c rfl (zle_c rfl (zle_c rfl zle_n)))))) rfl rfl zle_n) (Nat.le_of_ble_eq_true rfl) (Nat.le_of_ble_eq_true rfl) rfl rfl ?_
  refine zJ_istore (ls' := [(4, .int rn2), (3, .int rn1), (0, .ref 0), (1, .int p1), (2, .int p2)]) dX11_thoughtMoney_22 rfl rfl rfl ?_
  refine zJ_aload_n dX11_thoughtMoney_24 rfl rfl ?_
  refine zJ_getr (mi := mX11_thoughtMoney) dX11_thoughtMoney_25 F_X11_33 zW_0 rfl rfl ?_
  refine zJ_aload_n dX11_thoughtMoney_28 rfl rfl ?_
  refine zJ_getr (mi := mX11_thoughtMoney) dX11_thoughtMoney_29 F_X11_33 zW_0 rfl rfl ?_
  refine zJ_iload_n dX11_thoughtMoney_32 rfl rfl ?_
  refine zJ_iload dX11_thoughtMoney_33 rfl rfl ?_
  refine zJ_iadd dX11_thoughtMoney_35 rfl ?_
  refine zJ_iload_n dX11_thoughtMoney_36 rfl rfl ?_
  obtain ⟨rn3, hcl, h⟩ := bd1_some h
  refine zJ_callV2 (σ := σ) (L := ([(323, course_fences), (329, course_allowed), (1284, rounds_size)], [(6, course_kinds), (8, course_feet), (11, course_plans), (23, rounds_faults), (24, rounds_tenths), (25, rounds_money)], [])) (mi := mX11_thoughtMoney) (yi := mX10_placeFor) (as := [.int (p2 + rn2), .int rn1]) (st := [.ref 20]) (L2 := ([(323, course_fences), (329, course_allowed), (1284, rounds_size)], [(6, course_kinds), (8, course_feet), (11, course_plans), (23, rounds_faults), (24, rounds_tenths), (25, rounds_money)], [])) dX11_thoughtMoney_37 ML_X11_350 Yv_X10_placeFor rfl zW_20 rfl rfl (t_X10_placeFor l _ hcl) (zsub_i (zle_c rfl zle_n) (zle_c rfl (zle_c rfl zle_n)) zle_n) (zjok_i rfl rfl (zle_c rfl (zle_c rfl (zle_c rfl zle_n))) rfl rfl (zle_c rfl (zle_c rfl (zle_c rfl (zle_c rfl (zle_c rfl (zle_c rfl zle_n)))))) rfl rfl zle_n) (Nat.le_of_ble_eq_true rfl) (Nat.le_of_ble_eq_true rfl) rfl rfl ?_
  obtain ⟨rn4, hcl, h⟩ := bd1_some h
  refine zJ_callV2 (σ := σ) (L := ([(323, course_fences), (329, course_allowed), (1284, rounds_size)], [(6, course_kinds), (8, course_feet), (11, course_plans), (23, rounds_faults), (24, rounds_tenths), (25, rounds_money)], [])) (mi := mX11_thoughtMoney) (yi := mX10_moneyAt) (as := [.int rn3]) (st := []) (L2 := ([(323, course_fences), (329, course_allowed), (1284, rounds_size)], [(6, course_kinds), (8, course_feet), (11, course_plans), (23, rounds_faults), (24, rounds_tenths), (25, rounds_money)], [])) dX11_thoughtMoney_40 ML_X11_343 Yv_X10_moneyAt rfl zW_20 rfl rfl (t_X10_moneyAt l _ hcl) (zsub_i zle_n (zle_c rfl zle_n) zle_n) (zjok_i rfl rfl (zle_c rfl (zle_c rfl (zle_c rfl zle_n))) rfl rfl (zle_c rfl (zle_c rfl (zle_c rfl (zle_c rfl (zle_c rfl (zle_c rfl zle_n)))))) rfl rfl zle_n) (Nat.le_of_ble_eq_true rfl) (Nat.le_of_ble_eq_true rfl) rfl rfl ?_
  obtain rfl := so1 h
  exact zJ_iret dX11_thoughtMoney_43 rfl rfl
set_option maxRecDepth 100000 in
set_option maxHeartbeats 4000000 in
theorem t_X1_passing (l : Launch) (σ : zS) {p0 : Int32} {p1 : Int32} {p2 : Int32} {r : Int32} (h : f_X1_passing p0 p1 p2 = some r) : zMt l zW 0 mX1_passing σ ([], [], []) [.int p0, .int p1, .int p2] (some (.int r)) ([], [], []) := by
  refine zMt_of (ls := [(0, .int p0), (1, .int p1), (2, .int p2)]) (by decide) rfl (fun _ => Nat.le_of_ble_eq_true rfl) rfl ?_
  unfold f_X1_passing at h
  refine zJ_iload_n dX1_passing_0 rfl rfl ?_
  refine zJ_bipush dX1_passing_1 zb_100 rfl ?_
  refine zJ_iload_n dX1_passing_3 rfl rfl ?_
  refine zJ_isub dX1_passing_4 rfl ?_
  refine zJ_imul dX1_passing_5 rfl ?_
  refine zJ_bipush dX1_passing_6 zb_100 rfl ?_
  refine zJ_idiv dX1_passing_8 (by decide) rfl ?_
  refine zJ_bipush dX1_passing_9 zb_100 rfl ?_
  refine zJ_iload_n dX1_passing_11 rfl rfl ?_
  refine zJ_isub dX1_passing_12 rfl ?_
  refine zJ_imul dX1_passing_13 rfl ?_
  refine zJ_bipush dX1_passing_14 zb_100 rfl ?_
  refine zJ_idiv dX1_passing_16 (by decide) rfl ?_
  obtain rfl := so1 h
  exact zJ_iret dX1_passing_17 rfl rfl
set_option maxRecDepth 100000 in
set_option maxHeartbeats 4000000 in
theorem t_X1_clearOf (l : Launch) (σ : zS) {p1 : Int32} {p2 : Int32} {course_fences : Int32} {course_rule_size : Int32} {course_kinds : (Nat → Int32)} {course_heights : (Nat → Int32)} {course_feet : (Nat → Int32)} {course_digits : (Nat → Int32)} {course_plans : (Nat → Int32)} {rule_codes : (Nat → Int32)} {rule_stack : (Nat → Int32)} {rule_things : (Nat → Int32)} {r : Int32} {w_rule_stack : (Nat → Int32)} {w_rule_things : (Nat → Int32)} (h : f_X1_clearOf p1 p2 course_fences course_rule_size course_kinds course_heights course_feet course_digits course_plans rule_codes rule_stack rule_things = some (r, w_rule_stack, w_rule_things)) : zMt l zW 4 mX1_clearOf σ ([(323, course_fences), (769, course_rule_size)], [(6, course_kinds), (7, course_heights), (8, course_feet), (10, course_digits), (11, course_plans), (13, rule_codes), (15, rule_stack), (16, rule_things)], []) [.ref 5, .int p1, .int p2] (some (.int r)) ([(323, course_fences), (769, course_rule_size)], [(6, course_kinds), (7, course_heights), (8, course_feet), (10, course_digits), (11, course_plans), (13, rule_codes), (15, w_rule_stack), (16, w_rule_things)], []) := by
  refine zMt_of (ls := [(0, .ref 5), (1, .int p1), (2, .int p2)]) (by decide) rfl (fun _ => Nat.le_of_ble_eq_true rfl) rfl ?_
  unfold f_X1_clearOf at h
  refine zJ_sipush dX1_clearOf_0 zs_10000 rfl ?_
  refine zJ_istore_n (ls' := [(3, .int (10000 : Int32)), (0, .ref 5), (1, .int p1), (2, .int p2)]) dX1_clearOf_3 rfl rfl rfl ?_
  refine zJ_iconst dX1_clearOf_4 zc_0 rfl ?_
  refine zJ_istore (ls' := [(4, .int (0 : Int32)), (3, .int (10000 : Int32)), (0, .ref 5), (1, .int p1), (2, .int p2)]) dX1_clearOf_5 rfl rfl rfl ?_
  have hk7 : ∀ (v3_7x : Int32) (rule_stack_7x : (Nat → Int32)) (rule_things_7x : (Nat → Int32)), k_X1_clearOf_7  v3_7x rule_stack_7x rule_things_7x = some (r, w_rule_stack, w_rule_things) → zJ l zW 4 mX1_clearOf σ ([(323, course_fences), (769, course_rule_size)], [(6, course_kinds), (7, course_heights), (8, course_feet), (10, course_digits), (11, course_plans), (13, rule_codes), (15, rule_stack_7x), (16, rule_things_7x)], []) 52 [(3, .int v3_7x)] [] (some (.int r)) ([(323, course_fences), (769, course_rule_size)], [(6, course_kinds), (7, course_heights), (8, course_feet), (10, course_digits), (11, course_plans), (13, rule_codes), (15, w_rule_stack), (16, w_rule_things)], []) := by
    intro v3_7x rule_stack_7x rule_things_7x h
    unfold k_X1_clearOf_7 at h
    refine zJ_iload_n dX1_clearOf_52 rfl rfl ?_
    obtain ⟨rfl, rfl, rfl⟩ := so3 h
    exact zJ_iret dX1_clearOf_53 rfl rfl
  refine zJ_loc (ls' := [(0, .ref 5), (1, .int p1), (2, .int p2), (3, .int (10000 : Int32)), (4, .int (0 : Int32))]) (zll_c rfl (zll_c rfl (zll_c rfl (zll_c rfl (zll_c rfl zll_n))))) ?_
  refine ml4_J (fun (v3_7 : Int32) (v4_7 : Int32) (rule_stack_7 : (Nat → Int32)) (rule_things_7 : (Nat → Int32)) => zJ l zW 4 mX1_clearOf σ ([(323, course_fences), (769, course_rule_size)], [(6, course_kinds), (7, course_heights), (8, course_feet), (10, course_digits), (11, course_plans), (13, rule_codes), (15, rule_stack_7), (16, rule_things_7)], []) 7 [(0, .ref 5), (1, .int p1), (2, .int p2), (3, .int v3_7), (4, .int v4_7)] [] (some (.int r)) ([(323, course_fences), (769, course_rule_size)], [(6, course_kinds), (7, course_heights), (8, course_feet), (10, course_digits), (11, course_plans), (13, rule_codes), (15, w_rule_stack), (16, w_rule_things)], [])) (fun rc7 hrc7 v3_7 v4_7 rule_stack_7 rule_things_7 h => ?_) zN _ _ _ _ h
  unfold s_X1_clearOf_7 at h
  refine zJ_iload dX1_clearOf_7 rfl rfl ?_
  refine zJ_aload_n dX1_clearOf_9 rfl rfl ?_
  refine zJ_geti (mi := mX1_clearOf) (x := course_fences) dX1_clearOf_10 F_X1_50 zW_5 rfl rfl rfl ?_
  refine zJ_icmp_ge (tgt := 52) dX1_clearOf_13 (by decide) rfl (fun hc => ?_) (fun hc => ?_)
  · replace h := it_t hc h
    refine zJ_loc (ls' := [(3, .int v3_7)]) (zll_c rfl zll_n) ?_
    exact hk7 _ _ _ h
  · replace h := it_f hc h
    refine zJ_aload_n dX1_clearOf_16 rfl rfl ?_
    refine zJ_iload_n dX1_clearOf_17 rfl rfl ?_
    refine zJ_iload dX1_clearOf_18 rfl rfl ?_
    refine zJ_aload_n dX1_clearOf_20 rfl rfl ?_
    refine zJ_iload_n dX1_clearOf_21 rfl rfl ?_
    refine zJ_iload dX1_clearOf_22 rfl rfl ?_
    obtain ⟨rn1, hcl, h⟩ := bd1_some h
    refine zJ_callV2 (σ := σ) (L := ([(323, course_fences), (769, course_rule_size)], [(6, course_kinds), (7, course_heights), (8, course_feet), (10, course_digits), (11, course_plans), (13, rule_codes), (15, rule_stack_7), (16, rule_things_7)], [])) (mi := mX1_clearOf) (yi := mX1_letterAt) (as := [.int p2, .int v4_7]) (st := [.int v4_7, .int p1, .ref 5]) (L2 := ([(323, course_fences), (769, course_rule_size)], [(6, course_kinds), (7, course_heights), (8, course_feet), (10, course_digits), (11, course_plans), (13, rule_codes), (15, rule_stack_7), (16, rule_things_7)], [])) dX1_clearOf_24 ML_X1_117 Yv_X1_letterAt rfl zW_5 rfl rfl (t_X1_letterAt l _ hcl) (zsub_i zle_n (zle_c rfl zle_n) zle_n) (zjok_i rfl rfl (zle_c rfl (zle_c rfl zle_n)) rfl rfl (zle_c rfl (zle_c rfl (zle_c rfl (zle_c rfl (zle_c rfl (zle_c rfl (zle_c rfl (zle_c rfl zle_n)))))))) rfl rfl zle_n) (Nat.le_of_ble_eq_true rfl) (Nat.le_of_ble_eq_true rfl) rfl rfl ?_
    obtain ⟨rn2, rule_stackn3, rule_thingsn4, hcl, h⟩ := bd3_some h
    refine zJ_callV2 (σ := σ) (L := ([(323, course_fences), (769, course_rule_size)], [(6, course_kinds), (7, course_heights), (8, course_feet), (10, course_digits), (11, course_plans), (13, rule_codes), (15, rule_stack_7), (16, rule_things_7)], [])) (mi := mX1_clearOf) (yi := mX1_poleOdds) (as := [.int p1, .int v4_7, .int rn1]) (st := []) (L2 := ([(323, course_fences), (769, course_rule_size)], [(6, course_kinds), (7, course_heights), (8, course_feet), (10, course_digits), (11, course_plans), (13, rule_codes), (15, rule_stackn3), (16, rule_thingsn4)], [])) dX1_clearOf_27 ML_X1_132 Yv_X1_poleOdds rfl zW_5 rfl rfl (t_X1_poleOdds l _ hcl) (zsub_i (zle_c rfl zle_n) (zle_c rfl (zle_c rfl (zle_c rfl (zle_c rfl (zle_c rfl (zle_c rfl (zle_c rfl zle_n))))))) zle_n) (zjok_i rfl rfl (zle_c rfl (zle_c rfl zle_n)) rfl rfl (zle_c rfl (zle_c rfl (zle_c rfl (zle_c rfl (zle_c rfl (zle_c rfl (zle_c rfl (zle_c rfl zle_n)))))))) rfl rfl zle_n) (Nat.le_of_ble_eq_true rfl) (Nat.le_of_ble_eq_true rfl) rfl rfl ?_
    refine zJ_istore (ls' := [(5, .int rn2), (0, .ref 5), (1, .int p1), (2, .int p2), (3, .int v3_7), (4, .int v4_7)]) dX1_clearOf_30 rfl rfl rfl ?_
    refine zJ_iload_n dX1_clearOf_32 rfl rfl ?_
    refine zJ_aload_n dX1_clearOf_33 rfl rfl ?_
    refine zJ_iload_n dX1_clearOf_34 rfl rfl ?_
    refine zJ_iload dX1_clearOf_35 rfl rfl ?_
    obtain ⟨rn5, hcl, h⟩ := bd1_some h
    refine zJ_callV2 (σ := σ) (L := ([(323, course_fences), (769, course_rule_size)], [(6, course_kinds), (7, course_heights), (8, course_feet), (10, course_digits), (11, course_plans), (13, rule_codes), (15, rule_stackn3), (16, rule_thingsn4)], [])) (mi := mX1_clearOf) (yi := mX1_refusalOdds) (as := [.int p1, .int v4_7]) (st := [.int v3_7]) (L2 := ([(323, course_fences), (769, course_rule_size)], [(6, course_kinds), (7, course_heights), (8, course_feet), (10, course_digits), (11, course_plans), (13, rule_codes), (15, rule_stackn3), (16, rule_thingsn4)], [])) dX1_clearOf_37 ML_X1_136 Yv_X1_refusalOdds rfl zW_5 rfl rfl (t_X1_refusalOdds l _ hcl) (zsub_i zle_n (zle_c rfl (zle_c rfl (zle_c rfl zle_n))) zle_n) (zjok_i rfl rfl (zle_c rfl (zle_c rfl zle_n)) rfl rfl (zle_c rfl (zle_c rfl (zle_c rfl (zle_c rfl (zle_c rfl (zle_c rfl (zle_c rfl (zle_c rfl zle_n)))))))) rfl rfl zle_n) (Nat.le_of_ble_eq_true rfl) (Nat.le_of_ble_eq_true rfl) rfl rfl ?_
    refine zJ_iload dX1_clearOf_40 rfl rfl ?_
    obtain ⟨rn6, hcl, h⟩ := bd1_some h
    refine zJ_callS2 (σ := σ) (L := ([(323, course_fences), (769, course_rule_size)], [(6, course_kinds), (7, course_heights), (8, course_feet), (10, course_digits), (11, course_plans), (13, rule_codes), (15, rule_stackn3), (16, rule_thingsn4)], [])) (mi := mX1_clearOf) (yi := mX1_passing) (as := [.int v3_7, .int rn5, .int rn2]) (st := []) (L2 := ([(323, course_fences), (769, course_rule_size)], [(6, course_kinds), (7, course_heights), (8, course_feet), (10, course_digits), (11, course_plans), (13, rule_codes), (15, rule_stackn3), (16, rule_thingsn4)], [])) dX1_clearOf_42 ML_X1_139 Ys_X1_passing rfl (t_X1_passing l _ hcl) (zsub_i zle_n zle_n zle_n) (zjok_i rfl rfl (zle_c rfl (zle_c rfl zle_n)) rfl rfl (zle_c rfl (zle_c rfl (zle_c rfl (zle_c rfl (zle_c rfl (zle_c rfl (zle_c rfl (zle_c rfl zle_n)))))))) rfl rfl zle_n) (Nat.le_of_ble_eq_true rfl) (Nat.le_of_ble_eq_true rfl) rfl rfl ?_
    refine zJ_istore_n (ls' := [(3, .int rn6), (5, .int rn2), (0, .ref 5), (1, .int p1), (2, .int p2), (4, .int v4_7)]) dX1_clearOf_45 rfl rfl rfl ?_
    obtain ⟨v4n7, ev4n7, h⟩ := lt1_some h
    refine zJ_iincN (ls' := [(4, .int v4n7), (3, .int rn6), (5, .int rn2), (0, .ref 5), (1, .int p1), (2, .int p2)]) dX1_clearOf_46 rfl rfl zc_1 ev4n7 rfl rfl ?_
    refine zJ_goto (tgt := 7) dX1_clearOf_49 (by decide) ?_
    refine zJ_loc (ls' := [(0, .ref 5), (1, .int p1), (2, .int p2), (3, .int rn6), (4, .int v4n7)]) (zll_c rfl (zll_c rfl (zll_c rfl (zll_c rfl (zll_c rfl zll_n))))) ?_
    exact hrc7 _ _ _ _ h
set_option maxRecDepth 100000 in
set_option maxHeartbeats 4000000 in
theorem t_X11_meanOf (l : Launch) (σ : zS) {p1 : Int32} {p2 : Int32} {course_fences : Int32} {course_allowed : Int32} {course_rule_size : Int32} {rounds_size : Int32} {course_kinds : (Nat → Int32)} {course_heights : (Nat → Int32)} {course_feet : (Nat → Int32)} {course_digits : (Nat → Int32)} {course_plans : (Nat → Int32)} {rule_codes : (Nat → Int32)} {rule_stack : (Nat → Int32)} {rule_things : (Nat → Int32)} {rounds_faults : (Nat → Int32)} {rounds_tenths : (Nat → Int32)} {rounds_money : (Nat → Int32)} {r : Int32} {w_rule_stack : (Nat → Int32)} {w_rule_things : (Nat → Int32)} (h : f_X11_meanOf p1 p2 course_fences course_allowed course_rule_size rounds_size course_kinds course_heights course_feet course_digits course_plans rule_codes rule_stack rule_things rounds_faults rounds_tenths rounds_money = some (r, w_rule_stack, w_rule_things)) : zMt l zW 5 mX11_meanOf σ ([(323, course_fences), (329, course_allowed), (769, course_rule_size), (1284, rounds_size)], [(6, course_kinds), (7, course_heights), (8, course_feet), (10, course_digits), (11, course_plans), (13, rule_codes), (15, rule_stack), (16, rule_things), (23, rounds_faults), (24, rounds_tenths), (25, rounds_money)], []) [.ref 0, .int p1, .int p2] (some (.int r)) ([(323, course_fences), (329, course_allowed), (769, course_rule_size), (1284, rounds_size)], [(6, course_kinds), (7, course_heights), (8, course_feet), (10, course_digits), (11, course_plans), (13, rule_codes), (15, w_rule_stack), (16, w_rule_things), (23, rounds_faults), (24, rounds_tenths), (25, rounds_money)], []) := by
  refine zMt_of (ls := [(0, .ref 0), (1, .int p1), (2, .int p2)]) (by decide) rfl (fun _ => Nat.le_of_ble_eq_true rfl) rfl ?_
  unfold f_X11_meanOf at h
  refine zJ_aload_n dX11_meanOf_0 rfl rfl ?_
  refine zJ_getr (mi := mX11_meanOf) dX11_meanOf_1 F_X11_26 zW_0 rfl rfl ?_
  refine zJ_iload_n dX11_meanOf_4 rfl rfl ?_
  refine zJ_iload_n dX11_meanOf_5 rfl rfl ?_
  obtain ⟨rn1, rule_stackn2, rule_thingsn3, hcl, h⟩ := bd3_some h
  refine zJ_callV2 (σ := σ) (L := ([(323, course_fences), (329, course_allowed), (769, course_rule_size), (1284, rounds_size)], [(6, course_kinds), (7, course_heights), (8, course_feet), (10, course_digits), (11, course_plans), (13, rule_codes), (15, rule_stack), (16, rule_things), (23, rounds_faults), (24, rounds_tenths), (25, rounds_money)], [])) (mi := mX11_meanOf) (yi := mX1_clearOf) (as := [.int p1, .int p2]) (st := []) (L2 := ([(323, course_fences), (329, course_allowed), (769, course_rule_size), (1284, rounds_size)], [(6, course_kinds), (7, course_heights), (8, course_feet), (10, course_digits), (11, course_plans), (13, rule_codes), (15, rule_stackn2), (16, rule_thingsn3), (23, rounds_faults), (24, rounds_tenths), (25, rounds_money)], [])) dX11_meanOf_6 ML_X11_200 Yv_X1_clearOf rfl zW_5 rfl rfl (t_X1_clearOf l _ hcl) (zsub_i (zle_c rfl (zle_c rfl zle_n)) (zle_c rfl (zle_c rfl (zle_c rfl (zle_c rfl (zle_c rfl (zle_c rfl (zle_c rfl (zle_c rfl zle_n)))))))) zle_n) (zjok_i rfl rfl (zle_c rfl (zle_c rfl (zle_c rfl (zle_c rfl zle_n)))) rfl rfl (zle_c rfl (zle_c rfl (zle_c rfl (zle_c rfl (zle_c rfl (zle_c rfl (zle_c rfl (zle_c rfl (zle_c rfl (zle_c rfl (zle_c rfl zle_n))))))))))) rfl rfl zle_n) (Nat.le_of_ble_eq_true rfl) (Nat.le_of_ble_eq_true rfl) rfl rfl ?_
  refine zJ_istore_n (ls' := [(3, .int rn1), (0, .ref 0), (1, .int p1), (2, .int p2)]) dX11_meanOf_9 rfl rfl rfl ?_
  refine zJ_iload_n dX11_meanOf_10 rfl rfl ?_
  refine zJ_aload_n dX11_meanOf_11 rfl rfl ?_
  refine zJ_iload_n dX11_meanOf_12 rfl rfl ?_
  refine zJ_iconst dX11_meanOf_13 zc_0 rfl ?_
  obtain ⟨rn4, hcl, h⟩ := bd1_some h
  refine zJ_callV2 (σ := σ) (L := ([(323, course_fences), (329, course_allowed), (769, course_rule_size), (1284, rounds_size)], [(6, course_kinds), (7, course_heights), (8, course_feet), (10, course_digits), (11, course_plans), (13, rule_codes), (15, rule_stackn2), (16, rule_thingsn3), (23, rounds_faults), (24, rounds_tenths), (25, rounds_money)], [])) (mi := mX11_meanOf) (yi := mX11_thoughtMoney) (as := [.int p2, .int (0 : Int32)]) (st := [.int rn1]) (L2 := ([(323, course_fences), (329, course_allowed), (769, course_rule_size), (1284, rounds_size)], [(6, course_kinds), (7, course_heights), (8, course_feet), (10, course_digits), (11, course_plans), (13, rule_codes), (15, rule_stackn2), (16, rule_thingsn3), (23, rounds_faults), (24, rounds_tenths), (25, rounds_money)], [])) dX11_meanOf_14 ML_X11_356 Yv_X11_thoughtMoney rfl zW_0 rfl rfl (t_X11_thoughtMoney l _ hcl) (zsub_i (zle_c rfl (zle_c rfl (zle_c rfl zle_n))) (zle_c rfl (zle_c rfl (zle_c rfl (zle_c rfl (zle_c rfl (zle_c rfl zle_n)))))) zle_n) (zjok_i rfl rfl (zle_c rfl (zle_c rfl (zle_c rfl (zle_c rfl zle_n)))) rfl rfl (zle_c rfl (zle_c rfl (zle_c rfl (zle_c rfl (zle_c rfl (zle_c rfl (zle_c rfl (zle_c rfl (zle_c rfl (zle_c rfl (zle_c rfl zle_n))))))))))) rfl rfl zle_n) (Nat.le_of_ble_eq_true rfl) (Nat.le_of_ble_eq_true rfl) rfl rfl ?_
  refine zJ_imul dX11_meanOf_17 rfl ?_
  refine zJ_sipush dX11_meanOf_18 zs_10000 rfl ?_
  refine zJ_iload_n dX11_meanOf_21 rfl rfl ?_
  refine zJ_isub dX11_meanOf_22 rfl ?_
  refine zJ_aload_n dX11_meanOf_23 rfl rfl ?_
  refine zJ_iload_n dX11_meanOf_24 rfl rfl ?_
  refine zJ_iconst dX11_meanOf_25 zc_4 rfl ?_
  obtain ⟨rn5, hcl, h⟩ := bd1_some h
  refine zJ_callV2 (σ := σ) (L := ([(323, course_fences), (329, course_allowed), (769, course_rule_size), (1284, rounds_size)], [(6, course_kinds), (7, course_heights), (8, course_feet), (10, course_digits), (11, course_plans), (13, rule_codes), (15, rule_stackn2), (16, rule_thingsn3), (23, rounds_faults), (24, rounds_tenths), (25, rounds_money)], [])) (mi := mX11_meanOf) (yi := mX11_thoughtMoney) (as := [.int p2, .int (4 : Int32)]) (st := [.int ((10000 : Int32) - rn1), .int (rn1 * rn4)]) (L2 := ([(323, course_fences), (329, course_allowed), (769, course_rule_size), (1284, rounds_size)], [(6, course_kinds), (7, course_heights), (8, course_feet), (10, course_digits), (11, course_plans), (13, rule_codes), (15, rule_stackn2), (16, rule_thingsn3), (23, rounds_faults), (24, rounds_tenths), (25, rounds_money)], [])) dX11_meanOf_26 ML_X11_356 Yv_X11_thoughtMoney rfl zW_0 rfl rfl (t_X11_thoughtMoney l _ hcl) (zsub_i (zle_c rfl (zle_c rfl (zle_c rfl zle_n))) (zle_c rfl (zle_c rfl (zle_c rfl (zle_c rfl (zle_c rfl (zle_c rfl zle_n)))))) zle_n) (zjok_i rfl rfl (zle_c rfl (zle_c rfl (zle_c rfl (zle_c rfl zle_n)))) rfl rfl (zle_c rfl (zle_c rfl (zle_c rfl (zle_c rfl (zle_c rfl (zle_c rfl (zle_c rfl (zle_c rfl (zle_c rfl (zle_c rfl (zle_c rfl zle_n))))))))))) rfl rfl zle_n) (Nat.le_of_ble_eq_true rfl) (Nat.le_of_ble_eq_true rfl) rfl rfl ?_
  refine zJ_imul dX11_meanOf_29 rfl ?_
  refine zJ_iadd dX11_meanOf_30 rfl ?_
  obtain ⟨rfl, rfl, rfl⟩ := so3 h
  exact zJ_iret dX11_meanOf_31 rfl rfl
set_option maxRecDepth 100000 in
set_option maxHeartbeats 4000000 in
theorem t_X11_bestPlan (l : Launch) (σ : zS) {p1 : Int32} {course_fences : Int32} {course_planCount : Int32} {course_allowed : Int32} {course_rule_size : Int32} {rounds_size : Int32} {course_kinds : (Nat → Int32)} {course_heights : (Nat → Int32)} {course_feet : (Nat → Int32)} {course_digits : (Nat → Int32)} {course_plans : (Nat → Int32)} {rule_codes : (Nat → Int32)} {rule_stack : (Nat → Int32)} {rule_things : (Nat → Int32)} {rounds_faults : (Nat → Int32)} {rounds_tenths : (Nat → Int32)} {rounds_money : (Nat → Int32)} {r : Int32} {w_rule_stack : (Nat → Int32)} {w_rule_things : (Nat → Int32)} (h : f_X11_bestPlan p1 course_fences course_planCount course_allowed course_rule_size rounds_size course_kinds course_heights course_feet course_digits course_plans rule_codes rule_stack rule_things rounds_faults rounds_tenths rounds_money = some (r, w_rule_stack, w_rule_things)) : zMt l zW 6 mX11_bestPlan σ ([(323, course_fences), (328, course_planCount), (329, course_allowed), (769, course_rule_size), (1284, rounds_size)], [(6, course_kinds), (7, course_heights), (8, course_feet), (10, course_digits), (11, course_plans), (13, rule_codes), (15, rule_stack), (16, rule_things), (23, rounds_faults), (24, rounds_tenths), (25, rounds_money)], []) [.ref 0, .int p1] (some (.int r)) ([(323, course_fences), (328, course_planCount), (329, course_allowed), (769, course_rule_size), (1284, rounds_size)], [(6, course_kinds), (7, course_heights), (8, course_feet), (10, course_digits), (11, course_plans), (13, rule_codes), (15, w_rule_stack), (16, w_rule_things), (23, rounds_faults), (24, rounds_tenths), (25, rounds_money)], []) := by
  refine zMt_of (ls := [(0, .ref 0), (1, .int p1)]) (by decide) rfl (fun _ => Nat.le_of_ble_eq_true rfl) rfl ?_
  unfold f_X11_bestPlan at h
  refine zJ_iconst dX11_bestPlan_0 zc_0 rfl ?_
  refine zJ_istore_n (ls' := [(2, .int (0 : Int32)), (0, .ref 0), (1, .int p1)]) dX11_bestPlan_1 rfl rfl rfl ?_
  refine zJ_iconst dX11_bestPlan_2 zc_m1 rfl ?_
  refine zJ_istore_n (ls' := [(3, .int (-1 : Int32)), (2, .int (0 : Int32)), (0, .ref 0), (1, .int p1)]) dX11_bestPlan_3 rfl rfl rfl ?_
  refine zJ_iconst dX11_bestPlan_4 zc_0 rfl ?_
  refine zJ_istore (ls' := [(4, .int (0 : Int32)), (3, .int (-1 : Int32)), (2, .int (0 : Int32)), (0, .ref 0), (1, .int p1)]) dX11_bestPlan_5 rfl rfl rfl ?_
  have hk7 : ∀ (v2_7x : Int32) (rule_stack_7x : (Nat → Int32)) (rule_things_7x : (Nat → Int32)), k_X11_bestPlan_7  v2_7x rule_stack_7x rule_things_7x = some (r, w_rule_stack, w_rule_things) → zJ l zW 6 mX11_bestPlan σ ([(323, course_fences), (328, course_planCount), (329, course_allowed), (769, course_rule_size), (1284, rounds_size)], [(6, course_kinds), (7, course_heights), (8, course_feet), (10, course_digits), (11, course_plans), (13, rule_codes), (15, rule_stack_7x), (16, rule_things_7x), (23, rounds_faults), (24, rounds_tenths), (25, rounds_money)], []) 46 [(2, .int v2_7x)] [] (some (.int r)) ([(323, course_fences), (328, course_planCount), (329, course_allowed), (769, course_rule_size), (1284, rounds_size)], [(6, course_kinds), (7, course_heights), (8, course_feet), (10, course_digits), (11, course_plans), (13, rule_codes), (15, w_rule_stack), (16, w_rule_things), (23, rounds_faults), (24, rounds_tenths), (25, rounds_money)], []) := by
    intro v2_7x rule_stack_7x rule_things_7x h
    unfold k_X11_bestPlan_7 at h
    refine zJ_iload_n dX11_bestPlan_46 rfl rfl ?_
    obtain ⟨rfl, rfl, rfl⟩ := so3 h
    exact zJ_iret dX11_bestPlan_47 rfl rfl
  refine zJ_loc (ls' := [(0, .ref 0), (1, .int p1), (2, .int (0 : Int32)), (3, .int (-1 : Int32)), (4, .int (0 : Int32))]) (zll_c rfl (zll_c rfl (zll_c rfl (zll_c rfl (zll_c rfl zll_n))))) ?_
  refine ml5_J (fun (v2_7 : Int32) (v3_7 : Int32) (v4_7 : Int32) (rule_stack_7 : (Nat → Int32)) (rule_things_7 : (Nat → Int32)) => zJ l zW 6 mX11_bestPlan σ ([(323, course_fences), (328, course_planCount), (329, course_allowed), (769, course_rule_size), (1284, rounds_size)], [(6, course_kinds), (7, course_heights), (8, course_feet), (10, course_digits), (11, course_plans), (13, rule_codes), (15, rule_stack_7), (16, rule_things_7), (23, rounds_faults), (24, rounds_tenths), (25, rounds_money)], []) 7 [(0, .ref 0), (1, .int p1), (2, .int v2_7), (3, .int v3_7), (4, .int v4_7)] [] (some (.int r)) ([(323, course_fences), (328, course_planCount), (329, course_allowed), (769, course_rule_size), (1284, rounds_size)], [(6, course_kinds), (7, course_heights), (8, course_feet), (10, course_digits), (11, course_plans), (13, rule_codes), (15, w_rule_stack), (16, w_rule_things), (23, rounds_faults), (24, rounds_tenths), (25, rounds_money)], [])) (fun rc7 hrc7 v2_7 v3_7 v4_7 rule_stack_7 rule_things_7 h => ?_) zN _ _ _ _ _ h
  unfold s_X11_bestPlan_7 at h
  refine zJ_iload dX11_bestPlan_7 rfl rfl ?_
  refine zJ_aload_n dX11_bestPlan_9 rfl rfl ?_
  refine zJ_getr (mi := mX11_bestPlan) dX11_bestPlan_10 F_X11_26 zW_0 rfl rfl ?_
  refine zJ_geti (mi := mX11_bestPlan) (x := course_planCount) dX11_bestPlan_13 F_X11_362 zW_5 rfl rfl rfl ?_
  refine zJ_icmp_ge (tgt := 46) dX11_bestPlan_16 (by decide) rfl (fun hc => ?_) (fun hc => ?_)
  · replace h := it_t hc h
    refine zJ_loc (ls' := [(2, .int v2_7)]) (zll_c rfl zll_n) ?_
    exact hk7 _ _ _ h
  · replace h := it_f hc h
    refine zJ_aload_n dX11_bestPlan_19 rfl rfl ?_
    refine zJ_iload_n dX11_bestPlan_20 rfl rfl ?_
    refine zJ_iload dX11_bestPlan_21 rfl rfl ?_
    obtain ⟨rn1, rule_stackn2, rule_thingsn3, hcl, h⟩ := bd3_some h
    refine zJ_callV2 (σ := σ) (L := ([(323, course_fences), (328, course_planCount), (329, course_allowed), (769, course_rule_size), (1284, rounds_size)], [(6, course_kinds), (7, course_heights), (8, course_feet), (10, course_digits), (11, course_plans), (13, rule_codes), (15, rule_stack_7), (16, rule_things_7), (23, rounds_faults), (24, rounds_tenths), (25, rounds_money)], [])) (mi := mX11_bestPlan) (yi := mX11_meanOf) (as := [.int p1, .int v4_7]) (st := []) (L2 := ([(323, course_fences), (328, course_planCount), (329, course_allowed), (769, course_rule_size), (1284, rounds_size)], [(6, course_kinds), (7, course_heights), (8, course_feet), (10, course_digits), (11, course_plans), (13, rule_codes), (15, rule_stackn2), (16, rule_thingsn3), (23, rounds_faults), (24, rounds_tenths), (25, rounds_money)], [])) dX11_bestPlan_23 ML_X11_359 Yv_X11_meanOf rfl zW_0 rfl rfl (t_X11_meanOf l _ hcl) (zsub_i (zle_c rfl (zle_c rfl (zle_c rfl (zle_c rfl zle_n)))) (zle_c rfl (zle_c rfl (zle_c rfl (zle_c rfl (zle_c rfl (zle_c rfl (zle_c rfl (zle_c rfl (zle_c rfl (zle_c rfl (zle_c rfl zle_n))))))))))) zle_n) (zjok_i rfl rfl (zle_c rfl (zle_c rfl (zle_c rfl (zle_c rfl (zle_c rfl zle_n))))) rfl rfl (zle_c rfl (zle_c rfl (zle_c rfl (zle_c rfl (zle_c rfl (zle_c rfl (zle_c rfl (zle_c rfl (zle_c rfl (zle_c rfl (zle_c rfl zle_n))))))))))) rfl rfl zle_n) (Nat.le_of_ble_eq_true rfl) (Nat.le_of_ble_eq_true rfl) rfl rfl ?_
    refine zJ_istore (ls' := [(5, .int rn1), (0, .ref 0), (1, .int p1), (2, .int v2_7), (3, .int v3_7), (4, .int v4_7)]) dX11_bestPlan_26 rfl rfl rfl ?_
    refine zJ_iload dX11_bestPlan_28 rfl rfl ?_
    refine zJ_iload_n dX11_bestPlan_30 rfl rfl ?_
    refine zJ_icmp_le (tgt := 40) dX11_bestPlan_31 (by decide) rfl (fun hc => ?_) (fun hc => ?_)
    · replace h := it_t hc h
      obtain ⟨v4n4, ev4n4, h⟩ := lt1_some h
      refine zJ_iincN (ls' := [(4, .int v4n4), (5, .int rn1), (0, .ref 0), (1, .int p1), (2, .int v2_7), (3, .int v3_7)]) dX11_bestPlan_40 rfl rfl zc_1 ev4n4 rfl rfl ?_
      refine zJ_goto (tgt := 7) dX11_bestPlan_43 (by decide) ?_
      refine zJ_loc (ls' := [(0, .ref 0), (1, .int p1), (2, .int v2_7), (3, .int v3_7), (4, .int v4n4)]) (zll_c rfl (zll_c rfl (zll_c rfl (zll_c rfl (zll_c rfl zll_n))))) ?_
      exact hrc7 _ _ _ _ _ h
    · replace h := it_f hc h
      refine zJ_iload dX11_bestPlan_34 rfl rfl ?_
      refine zJ_istore_n (ls' := [(2, .int v4_7), (5, .int rn1), (0, .ref 0), (1, .int p1), (3, .int v3_7), (4, .int v4_7)]) dX11_bestPlan_36 rfl rfl rfl ?_
      refine zJ_iload dX11_bestPlan_37 rfl rfl ?_
      refine zJ_istore_n (ls' := [(3, .int rn1), (2, .int v4_7), (5, .int rn1), (0, .ref 0), (1, .int p1), (4, .int v4_7)]) dX11_bestPlan_39 rfl rfl rfl ?_
      obtain ⟨v4n5, ev4n5, h⟩ := lt1_some h
      refine zJ_iincN (ls' := [(4, .int v4n5), (3, .int rn1), (2, .int v4_7), (5, .int rn1), (0, .ref 0), (1, .int p1)]) dX11_bestPlan_40 rfl rfl zc_1 ev4n5 rfl rfl ?_
      refine zJ_goto (tgt := 7) dX11_bestPlan_43 (by decide) ?_
      refine zJ_loc (ls' := [(0, .ref 0), (1, .int p1), (2, .int v4_7), (3, .int rn1), (4, .int v4n5)]) (zll_c rfl (zll_c rfl (zll_c rfl (zll_c rfl (zll_c rfl zll_n))))) ?_
      exact hrc7 _ _ _ _ _ h
set_option maxRecDepth 100000 in
set_option maxHeartbeats 4000000 in
theorem t_X11_bitsThrough (l : Launch) (σ : zS) {p1 : Int32} {p2 : Int32} {course_fences : Int32} {course_horseCount : Int32} {course_rule_size : Int32} {course_kinds : (Nat → Int32)} {course_heights : (Nat → Int32)} {course_feet : (Nat → Int32)} {course_digits : (Nat → Int32)} {course_plans : (Nat → Int32)} {rule_codes : (Nat → Int32)} {rule_stack : (Nat → Int32)} {rule_things : (Nat → Int32)} {r : Int32} {w_rule_stack : (Nat → Int32)} {w_rule_things : (Nat → Int32)} (h : f_X11_bitsThrough p1 p2 course_fences course_horseCount course_rule_size course_kinds course_heights course_feet course_digits course_plans rule_codes rule_stack rule_things = some (r, w_rule_stack, w_rule_things)) : zMt l zW 5 mX11_bitsThrough σ ([(323, course_fences), (326, course_horseCount), (769, course_rule_size)], [(6, course_kinds), (7, course_heights), (8, course_feet), (10, course_digits), (11, course_plans), (13, rule_codes), (15, rule_stack), (16, rule_things)], []) [.ref 0, .int p1, .int p2] (some (.int r)) ([(323, course_fences), (326, course_horseCount), (769, course_rule_size)], [(6, course_kinds), (7, course_heights), (8, course_feet), (10, course_digits), (11, course_plans), (13, rule_codes), (15, w_rule_stack), (16, w_rule_things)], []) := by
  refine zMt_of (ls := [(0, .ref 0), (1, .int p1), (2, .int p2)]) (by decide) rfl (fun _ => Nat.le_of_ble_eq_true rfl) rfl ?_
  unfold f_X11_bitsThrough at h
  refine zJ_iconst dX11_bitsThrough_0 zc_0 rfl ?_
  refine zJ_istore_n (ls' := [(3, .int (0 : Int32)), (0, .ref 0), (1, .int p1), (2, .int p2)]) dX11_bitsThrough_1 rfl rfl rfl ?_
  refine zJ_iconst dX11_bitsThrough_2 zc_0 rfl ?_
  refine zJ_istore (ls' := [(4, .int (0 : Int32)), (3, .int (0 : Int32)), (0, .ref 0), (1, .int p1), (2, .int p2)]) dX11_bitsThrough_3 rfl rfl rfl ?_
  have hk5 : ∀ (v3_5x : Int32) (rule_stack_5x : (Nat → Int32)) (rule_things_5x : (Nat → Int32)), k_X11_bitsThrough_5  v3_5x rule_stack_5x rule_things_5x = some (r, w_rule_stack, w_rule_things) → zJ l zW 5 mX11_bitsThrough σ ([(323, course_fences), (326, course_horseCount), (769, course_rule_size)], [(6, course_kinds), (7, course_heights), (8, course_feet), (10, course_digits), (11, course_plans), (13, rule_codes), (15, rule_stack_5x), (16, rule_things_5x)], []) 44 [(3, .int v3_5x)] [] (some (.int r)) ([(323, course_fences), (326, course_horseCount), (769, course_rule_size)], [(6, course_kinds), (7, course_heights), (8, course_feet), (10, course_digits), (11, course_plans), (13, rule_codes), (15, w_rule_stack), (16, w_rule_things)], []) := by
    intro v3_5x rule_stack_5x rule_things_5x h
    unfold k_X11_bitsThrough_5 at h
    refine zJ_iload_n dX11_bitsThrough_44 rfl rfl ?_
    obtain ⟨rfl, rfl, rfl⟩ := so3 h
    exact zJ_iret dX11_bitsThrough_45 rfl rfl
  refine zJ_loc (ls' := [(0, .ref 0), (1, .int p1), (2, .int p2), (3, .int (0 : Int32)), (4, .int (0 : Int32))]) (zll_c rfl (zll_c rfl (zll_c rfl (zll_c rfl (zll_c rfl zll_n))))) ?_
  refine ml4_J (fun (v3_5 : Int32) (v4_5 : Int32) (rule_stack_5 : (Nat → Int32)) (rule_things_5 : (Nat → Int32)) => zJ l zW 5 mX11_bitsThrough σ ([(323, course_fences), (326, course_horseCount), (769, course_rule_size)], [(6, course_kinds), (7, course_heights), (8, course_feet), (10, course_digits), (11, course_plans), (13, rule_codes), (15, rule_stack_5), (16, rule_things_5)], []) 5 [(0, .ref 0), (1, .int p1), (2, .int p2), (3, .int v3_5), (4, .int v4_5)] [] (some (.int r)) ([(323, course_fences), (326, course_horseCount), (769, course_rule_size)], [(6, course_kinds), (7, course_heights), (8, course_feet), (10, course_digits), (11, course_plans), (13, rule_codes), (15, w_rule_stack), (16, w_rule_things)], [])) (fun rc5 hrc5 v3_5 v4_5 rule_stack_5 rule_things_5 h => ?_) zN _ _ _ _ h
  unfold s_X11_bitsThrough_5 at h
  refine zJ_iload dX11_bitsThrough_5 rfl rfl ?_
  refine zJ_aload_n dX11_bitsThrough_7 rfl rfl ?_
  refine zJ_getr (mi := mX11_bitsThrough) dX11_bitsThrough_8 F_X11_26 zW_0 rfl rfl ?_
  refine zJ_geti (mi := mX11_bitsThrough) (x := course_horseCount) dX11_bitsThrough_11 F_X11_368 zW_5 rfl rfl rfl ?_
  refine zJ_icmp_ge (tgt := 44) dX11_bitsThrough_14 (by decide) rfl (fun hc => ?_) (fun hc => ?_)
  · replace h := it_t hc h
    refine zJ_loc (ls' := [(3, .int v3_5)]) (zll_c rfl zll_n) ?_
    exact hk5 _ _ _ h
  · replace h := it_f hc h
    refine zJ_aload_n dX11_bitsThrough_17 rfl rfl ?_
    refine zJ_getr (mi := mX11_bitsThrough) dX11_bitsThrough_18 F_X11_26 zW_0 rfl rfl ?_
    refine zJ_iload dX11_bitsThrough_21 rfl rfl ?_
    refine zJ_iload_n dX11_bitsThrough_23 rfl rfl ?_
    obtain ⟨rn1, rule_stackn2, rule_thingsn3, hcl, h⟩ := bd3_some h
    refine zJ_callV2 (σ := σ) (L := ([(323, course_fences), (326, course_horseCount), (769, course_rule_size)], [(6, course_kinds), (7, course_heights), (8, course_feet), (10, course_digits), (11, course_plans), (13, rule_codes), (15, rule_stack_5), (16, rule_things_5)], [])) (mi := mX11_bitsThrough) (yi := mX1_clearOf) (as := [.int v4_5, .int p1]) (st := []) (L2 := ([(323, course_fences), (326, course_horseCount), (769, course_rule_size)], [(6, course_kinds), (7, course_heights), (8, course_feet), (10, course_digits), (11, course_plans), (13, rule_codes), (15, rule_stackn2), (16, rule_thingsn3)], [])) dX11_bitsThrough_24 ML_X11_200 Yv_X1_clearOf rfl zW_5 rfl rfl (t_X1_clearOf l _ hcl) (zsub_i (zle_c rfl (zle_c rfl zle_n)) (zle_c rfl (zle_c rfl (zle_c rfl (zle_c rfl (zle_c rfl (zle_c rfl (zle_c rfl (zle_c rfl zle_n)))))))) zle_n) (zjok_i rfl rfl (zle_c rfl (zle_c rfl (zle_c rfl zle_n))) rfl rfl (zle_c rfl (zle_c rfl (zle_c rfl (zle_c rfl (zle_c rfl (zle_c rfl (zle_c rfl (zle_c rfl zle_n)))))))) rfl rfl zle_n) (Nat.le_of_ble_eq_true rfl) (Nat.le_of_ble_eq_true rfl) rfl rfl ?_
    refine zJ_iload_n dX11_bitsThrough_27 rfl rfl ?_
    refine zJ_icmp_lt (tgt := 38) dX11_bitsThrough_28 (by decide) rfl (fun hc => ?_) (fun hc => ?_)
    · replace h := it_t hc h
      obtain ⟨v4n4, ev4n4, h⟩ := lt1_some h
      refine zJ_iincN (ls' := [(4, .int v4n4), (0, .ref 0), (1, .int p1), (2, .int p2), (3, .int v3_5)]) dX11_bitsThrough_38 rfl rfl zc_1 ev4n4 rfl rfl ?_
      refine zJ_goto (tgt := 5) dX11_bitsThrough_41 (by decide) ?_
      refine zJ_loc (ls' := [(0, .ref 0), (1, .int p1), (2, .int p2), (3, .int v3_5), (4, .int v4n4)]) (zll_c rfl (zll_c rfl (zll_c rfl (zll_c rfl (zll_c rfl zll_n))))) ?_
      exact hrc5 _ _ _ _ h
    · replace h := it_f hc h
      refine zJ_iload_n dX11_bitsThrough_31 rfl rfl ?_
      refine zJ_iconst dX11_bitsThrough_32 zc_1 rfl ?_
      refine zJ_iload dX11_bitsThrough_33 rfl rfl ?_
      refine zJ_ishl dX11_bitsThrough_35 rfl ?_
      refine zJ_ior dX11_bitsThrough_36 rfl ?_
      obtain ⟨v3n5, ev3n5, h⟩ := lt1_some h
      refine zJ_nmi ev3n5 ?_
      refine zJ_istore_n (ls' := [(3, .int v3n5), (0, .ref 0), (1, .int p1), (2, .int p2), (4, .int v4_5)]) dX11_bitsThrough_37 rfl rfl rfl ?_
      obtain ⟨v4n6, ev4n6, h⟩ := lt1_some h
      refine zJ_iincN (ls' := [(4, .int v4n6), (3, .int v3n5), (0, .ref 0), (1, .int p1), (2, .int p2)]) dX11_bitsThrough_38 rfl rfl zc_1 ev4n6 rfl rfl ?_
      refine zJ_goto (tgt := 5) dX11_bitsThrough_41 (by decide) ?_
      refine zJ_loc (ls' := [(0, .ref 0), (1, .int p1), (2, .int p2), (3, .int v3n5), (4, .int v4n6)]) (zll_c rfl (zll_c rfl (zll_c rfl (zll_c rfl (zll_c rfl zll_n))))) ?_
      exact hrc5 _ _ _ _ h
set_option maxRecDepth 100000 in
set_option maxHeartbeats 4000000 in
theorem t_X1_countAtHeights (l : Launch) (σ : zS) {p1 : Int32} {p2 : Int32} {p3 : Int32} {p4 : Int32} {course_fences : Int32} {course_rule_size : Int32} {course_kinds : (Nat → Int32)} {course_heights : (Nat → Int32)} {course_feet : (Nat → Int32)} {course_digits : (Nat → Int32)} {rule_codes : (Nat → Int32)} {rule_stack : (Nat → Int32)} {rule_things : (Nat → Int32)} {course_counts : (Nat → Int32)} {course_poles : (Nat → Int32)} {course_refusals : (Nat → Int32)} {w_course_heights : (Nat → Int32)} {w_rule_stack : (Nat → Int32)} {w_rule_things : (Nat → Int32)} {w_course_counts : (Nat → Int32)} (h : f_X1_countAtHeights p1 p2 p3 p4 course_fences course_rule_size course_kinds course_heights course_feet course_digits rule_codes rule_stack rule_things course_counts course_poles course_refusals = some (w_course_heights, w_rule_stack, w_rule_things, w_course_counts)) : zMt l zW 4 mX1_countAtHeights σ ([(323, course_fences), (769, course_rule_size)], [(6, course_kinds), (7, course_heights), (8, course_feet), (10, course_digits), (13, rule_codes), (15, rule_stack), (16, rule_things), (17, course_counts), (18, course_poles), (19, course_refusals)], []) [.ref 5, .int p1, .int p2, .int p3, .int p4] none ([(323, course_fences), (769, course_rule_size)], [(6, course_kinds), (7, w_course_heights), (8, course_feet), (10, course_digits), (13, rule_codes), (15, w_rule_stack), (16, w_rule_things), (17, w_course_counts), (18, course_poles), (19, course_refusals)], []) := by
  refine zMt_of (ls := [(0, .ref 5), (1, .int p1), (2, .int p2), (3, .int p3), (4, .int p4)]) (by decide) rfl (fun _ => Nat.le_of_ble_eq_true rfl) rfl ?_
  unfold f_X1_countAtHeights at h
  refine zJ_aload_n dX1_countAtHeights_0 rfl rfl ?_
  refine zJ_getr (mi := mX1_countAtHeights) dX1_countAtHeights_1 F_X1_15 zW_5 rfl rfl ?_
  refine zJ_iload_n dX1_countAtHeights_4 rfl rfl ?_
  obtain ⟨hg, h⟩ := gd_some h
  refine zJ_iald (mi := mX1_countAtHeights) (f := course_heights) dX1_countAtHeights_5 zW_7 (ix_in hg) rfl rfl ?_
  obtain ⟨v5n1, ev5n1, h⟩ := lt1_some h
  refine zJ_nmi ev5n1 ?_
  refine zJ_istore (ls' := [(5, .int v5n1), (0, .ref 5), (1, .int p1), (2, .int p2), (3, .int p3), (4, .int p4)]) dX1_countAtHeights_6 rfl rfl rfl ?_
  refine zJ_iconst dX1_countAtHeights_8 zc_0 rfl ?_
  refine zJ_istore (ls' := [(6, .int (0 : Int32)), (5, .int v5n1), (0, .ref 5), (1, .int p1), (2, .int p2), (3, .int p3), (4, .int p4)]) dX1_countAtHeights_9 rfl rfl rfl ?_
  have hk11 : ∀ (course_heights_11x : (Nat → Int32)) (rule_stack_11x : (Nat → Int32)) (rule_things_11x : (Nat → Int32)) (course_counts_11x : (Nat → Int32)), k_X1_countAtHeights_11 p2 v5n1 course_heights_11x rule_stack_11x rule_things_11x course_counts_11x = some (w_course_heights, w_rule_stack, w_rule_things, w_course_counts) → zJ l zW 4 mX1_countAtHeights σ ([(323, course_fences), (769, course_rule_size)], [(6, course_kinds), (7, course_heights_11x), (8, course_feet), (10, course_digits), (13, rule_codes), (15, rule_stack_11x), (16, rule_things_11x), (17, course_counts_11x), (18, course_poles), (19, course_refusals)], []) 123 [(0, .ref 5), (2, .int p2), (5, .int v5n1)] [] none ([(323, course_fences), (769, course_rule_size)], [(6, course_kinds), (7, w_course_heights), (8, course_feet), (10, course_digits), (13, rule_codes), (15, w_rule_stack), (16, w_rule_things), (17, w_course_counts), (18, course_poles), (19, course_refusals)], []) := by
    intro course_heights_11x rule_stack_11x rule_things_11x course_counts_11x h
    unfold k_X1_countAtHeights_11 at h
    refine zJ_aload_n dX1_countAtHeights_123 rfl rfl ?_
    refine zJ_getr (mi := mX1_countAtHeights) dX1_countAtHeights_124 F_X1_15 zW_5 rfl rfl ?_
    refine zJ_iload_n dX1_countAtHeights_127 rfl rfl ?_
    refine zJ_iload dX1_countAtHeights_128 rfl rfl ?_
    obtain ⟨hg, h⟩ := gd_some h
    refine zK_iast (mi := mX1_countAtHeights) (f := course_heights_11x) (lb' := [(6, course_kinds), (7, (upd course_heights_11x p2.toNatClampNeg v5n1)), (8, course_feet), (10, course_digits), (13, rule_codes), (15, rule_stack_11x), (16, rule_things_11x), (17, course_counts_11x), (18, course_poles), (19, course_refusals)]) dX1_countAtHeights_130 zW_7 (ix_in hg) rfl rfl rfl ?_
    obtain ⟨rfl, rfl, rfl, rfl⟩ := so4 h
    exact zJ_vret dX1_countAtHeights_131 rfl
  refine zJ_loc (ls' := [(0, .ref 5), (1, .int p1), (2, .int p2), (3, .int p3), (4, .int p4), (5, .int v5n1), (6, .int (0 : Int32))]) (zll_c rfl (zll_c rfl (zll_c rfl (zll_c rfl (zll_c rfl (zll_c rfl (zll_c rfl zll_n))))))) ?_
  refine ml5_J (fun (v6_11 : Int32) (course_heights_11 : (Nat → Int32)) (rule_stack_11 : (Nat → Int32)) (rule_things_11 : (Nat → Int32)) (course_counts_11 : (Nat → Int32)) => zJ l zW 4 mX1_countAtHeights σ ([(323, course_fences), (769, course_rule_size)], [(6, course_kinds), (7, course_heights_11), (8, course_feet), (10, course_digits), (13, rule_codes), (15, rule_stack_11), (16, rule_things_11), (17, course_counts_11), (18, course_poles), (19, course_refusals)], []) 11 [(0, .ref 5), (1, .int p1), (2, .int p2), (3, .int p3), (4, .int p4), (5, .int v5n1), (6, .int v6_11)] [] none ([(323, course_fences), (769, course_rule_size)], [(6, course_kinds), (7, w_course_heights), (8, course_feet), (10, course_digits), (13, rule_codes), (15, w_rule_stack), (16, w_rule_things), (17, w_course_counts), (18, course_poles), (19, course_refusals)], [])) (fun rc11 hrc11 v6_11 course_heights_11 rule_stack_11 rule_things_11 course_counts_11 h => ?_) zN _ _ _ _ _ h
  unfold s_X1_countAtHeights_11 at h
  refine zJ_iload dX1_countAtHeights_11 rfl rfl ?_
  refine zJ_bipush dX1_countAtHeights_13 zb_10 rfl ?_
  refine zJ_icmp_ge (tgt := 123) dX1_countAtHeights_15 (by decide) rfl (fun hc => ?_) (fun hc => ?_)
  · replace h := it_t hc h
    refine zJ_loc (ls' := [(0, .ref 5), (2, .int p2), (5, .int v5n1)]) (zll_c rfl (zll_c rfl (zll_c rfl zll_n))) ?_
    exact hk11 _ _ _ _ h
  · replace h := it_f hc h
    refine zJ_aload_n dX1_countAtHeights_18 rfl rfl ?_
    refine zJ_getr (mi := mX1_countAtHeights) dX1_countAtHeights_19 F_X1_15 zW_5 rfl rfl ?_
    refine zJ_iload_n dX1_countAtHeights_22 rfl rfl ?_
    refine zJ_iload dX1_countAtHeights_23 rfl rfl ?_
    obtain ⟨hg, h⟩ := gd_some h
    refine zK_iast (mi := mX1_countAtHeights) (f := course_heights_11) (lb' := [(6, course_kinds), (7, (upd course_heights_11 p2.toNatClampNeg v6_11)), (8, course_feet), (10, course_digits), (13, rule_codes), (15, rule_stack_11), (16, rule_things_11), (17, course_counts_11), (18, course_poles), (19, course_refusals)]) dX1_countAtHeights_25 zW_7 (ix_in hg) rfl rfl rfl ?_
    refine zJ_aload_n dX1_countAtHeights_26 rfl rfl ?_
    refine zJ_iload_n dX1_countAtHeights_27 rfl rfl ?_
    refine zJ_iload_n dX1_countAtHeights_28 rfl rfl ?_
    refine zJ_iload_n dX1_countAtHeights_29 rfl rfl ?_
    obtain ⟨rn2, rule_stackn3, rule_thingsn4, hcl, h⟩ := bd3_some h
    refine zJ_callV2 (σ := σ) (L := ([(323, course_fences), (769, course_rule_size)], [(6, course_kinds), (7, (upd course_heights_11 p2.toNatClampNeg v6_11)), (8, course_feet), (10, course_digits), (13, rule_codes), (15, rule_stack_11), (16, rule_things_11), (17, course_counts_11), (18, course_poles), (19, course_refusals)], [])) (mi := mX1_countAtHeights) (yi := mX1_poleOdds) (as := [.int p1, .int p2, .int p3]) (st := []) (L2 := ([(323, course_fences), (769, course_rule_size)], [(6, course_kinds), (7, (upd course_heights_11 p2.toNatClampNeg v6_11)), (8, course_feet), (10, course_digits), (13, rule_codes), (15, rule_stackn3), (16, rule_thingsn4), (17, course_counts_11), (18, course_poles), (19, course_refusals)], [])) dX1_countAtHeights_30 ML_X1_132 Yv_X1_poleOdds rfl zW_5 rfl rfl (t_X1_poleOdds l _ hcl) (zsub_i (zle_c rfl zle_n) (zle_c rfl (zle_c rfl (zle_c rfl (zle_c rfl (zle_c rfl (zle_c rfl (zle_c rfl zle_n))))))) zle_n) (zjok_i rfl rfl (zle_c rfl (zle_c rfl zle_n)) rfl rfl (zle_c rfl (zle_c rfl (zle_c rfl (zle_c rfl (zle_c rfl (zle_c rfl (zle_c rfl (zle_c rfl (zle_c rfl (zle_c rfl zle_n)))))))))) rfl rfl zle_n) (Nat.le_of_ble_eq_true rfl) (Nat.le_of_ble_eq_true rfl) rfl rfl ?_
    refine zJ_istore (ls' := [(7, .int rn2), (0, .ref 5), (1, .int p1), (2, .int p2), (3, .int p3), (4, .int p4), (5, .int v5n1), (6, .int v6_11)]) dX1_countAtHeights_33 rfl rfl rfl ?_
    refine zJ_sipush dX1_countAtHeights_35 zs_10000 rfl ?_
    refine zJ_istore (ls' := [(8, .int (10000 : Int32)), (7, .int rn2), (0, .ref 5), (1, .int p1), (2, .int p2), (3, .int p3), (4, .int p4), (5, .int v5n1), (6, .int v6_11)]) dX1_countAtHeights_38 rfl rfl rfl ?_
    refine zJ_iconst dX1_countAtHeights_40 zc_0 rfl ?_
    refine zJ_istore (ls' := [(9, .int (0 : Int32)), (8, .int (10000 : Int32)), (7, .int rn2), (0, .ref 5), (1, .int p1), (2, .int p2), (3, .int p3), (4, .int p4), (5, .int v5n1), (6, .int v6_11)]) dX1_countAtHeights_41 rfl rfl rfl ?_
    have hk43 : ∀ (v8_43x : Int32), k_X1_countAtHeights_43 p2 p4 rc11 v6_11 course_heights_11 course_counts_11 rule_stackn3 rule_thingsn4 v8_43x = some (w_course_heights, w_rule_stack, w_rule_things, w_course_counts) → zJ l zW 4 mX1_countAtHeights σ ([(323, course_fences), (769, course_rule_size)], [(6, course_kinds), (7, (upd course_heights_11 p2.toNatClampNeg v6_11)), (8, course_feet), (10, course_digits), (13, rule_codes), (15, rule_stackn3), (16, rule_thingsn4), (17, course_counts_11), (18, course_poles), (19, course_refusals)], []) 90 [(0, .ref 5), (1, .int p1), (2, .int p2), (3, .int p3), (4, .int p4), (5, .int v5n1), (6, .int v6_11), (8, .int v8_43x)] [] none ([(323, course_fences), (769, course_rule_size)], [(6, course_kinds), (7, w_course_heights), (8, course_feet), (10, course_digits), (13, rule_codes), (15, w_rule_stack), (16, w_rule_things), (17, w_course_counts), (18, course_poles), (19, course_refusals)], []) := by
      intro v8_43x h
      unfold k_X1_countAtHeights_43 at h
      refine zJ_aload_n dX1_countAtHeights_90 rfl rfl ?_
      refine zJ_getr (mi := mX1_countAtHeights) dX1_countAtHeights_91 F_X1_41 zW_5 rfl rfl ?_
      refine zJ_iload_n dX1_countAtHeights_94 rfl rfl ?_
      refine zJ_bipush dX1_countAtHeights_95 zb_10 rfl ?_
      refine zJ_imul dX1_countAtHeights_97 rfl ?_
      refine zJ_iload dX1_countAtHeights_98 rfl rfl ?_
      refine zJ_iadd dX1_countAtHeights_100 rfl ?_
      refine zJ_dup2 dX1_countAtHeights_101 rfl rfl rfl ?_
      obtain ⟨hg, h⟩ := gd_some h
      refine zJ_iald (mi := mX1_countAtHeights) (f := course_counts_11) dX1_countAtHeights_102 zW_17 (ix_in hg) rfl rfl ?_
      refine zJ_iload dX1_countAtHeights_103 rfl rfl ?_
      refine zJ_iload dX1_countAtHeights_105 rfl rfl ?_
      refine zJ_icmp_lt (tgt := 114) dX1_countAtHeights_107 (by decide) rfl (fun hc => ?_) (fun hc => ?_)
      · replace h := it_t hc h
        refine zJ_iconst dX1_countAtHeights_114 zc_0 rfl ?_
        refine zJ_iadd dX1_countAtHeights_115 rfl ?_
        obtain ⟨hg, h⟩ := gd_some h
        refine zK_iast (mi := mX1_countAtHeights) (f := course_counts_11) (lb' := [(6, course_kinds), (7, (upd course_heights_11 p2.toNatClampNeg v6_11)), (8, course_feet), (10, course_digits), (13, rule_codes), (15, rule_stackn3), (16, rule_thingsn4), (17, (upd course_counts_11 ((p2 * (10 : Int32)) + v6_11).toNatClampNeg ((course_counts_11 ((p2 * (10 : Int32)) + v6_11).toNatClampNeg) + (0 : Int32)))), (18, course_poles), (19, course_refusals)]) dX1_countAtHeights_116 zW_17 (ix_in hg) rfl rfl rfl ?_
        obtain ⟨v6n5, ev6n5, h⟩ := lt1_some h
        refine zJ_iincN (ls' := [(6, .int v6n5), (0, .ref 5), (1, .int p1), (2, .int p2), (3, .int p3), (4, .int p4), (5, .int v5n1), (8, .int v8_43x)]) dX1_countAtHeights_117 rfl rfl zc_1 ev6n5 rfl rfl ?_
        refine zJ_goto (tgt := 11) dX1_countAtHeights_120 (by decide) ?_
        refine zJ_loc (ls' := [(0, .ref 5), (1, .int p1), (2, .int p2), (3, .int p3), (4, .int p4), (5, .int v5n1), (6, .int v6n5)]) (zll_c rfl (zll_c rfl (zll_c rfl (zll_c rfl (zll_c rfl (zll_c rfl (zll_c rfl zll_n))))))) ?_
        exact hrc11 _ _ _ _ _ h
      · replace h := it_f hc h
        refine zJ_iconst dX1_countAtHeights_110 zc_1 rfl ?_
        refine zJ_goto (tgt := 115) dX1_countAtHeights_111 (by decide) ?_
        refine zJ_iadd dX1_countAtHeights_115 rfl ?_
        obtain ⟨hg, h⟩ := gd_some h
        refine zK_iast (mi := mX1_countAtHeights) (f := course_counts_11) (lb' := [(6, course_kinds), (7, (upd course_heights_11 p2.toNatClampNeg v6_11)), (8, course_feet), (10, course_digits), (13, rule_codes), (15, rule_stackn3), (16, rule_thingsn4), (17, (upd course_counts_11 ((p2 * (10 : Int32)) + v6_11).toNatClampNeg ((course_counts_11 ((p2 * (10 : Int32)) + v6_11).toNatClampNeg) + (1 : Int32)))), (18, course_poles), (19, course_refusals)]) dX1_countAtHeights_116 zW_17 (ix_in hg) rfl rfl rfl ?_
        obtain ⟨v6n6, ev6n6, h⟩ := lt1_some h
        refine zJ_iincN (ls' := [(6, .int v6n6), (0, .ref 5), (1, .int p1), (2, .int p2), (3, .int p3), (4, .int p4), (5, .int v5n1), (8, .int v8_43x)]) dX1_countAtHeights_117 rfl rfl zc_1 ev6n6 rfl rfl ?_
        refine zJ_goto (tgt := 11) dX1_countAtHeights_120 (by decide) ?_
        refine zJ_loc (ls' := [(0, .ref 5), (1, .int p1), (2, .int p2), (3, .int p3), (4, .int p4), (5, .int v5n1), (6, .int v6n6)]) (zll_c rfl (zll_c rfl (zll_c rfl (zll_c rfl (zll_c rfl (zll_c rfl (zll_c rfl zll_n))))))) ?_
        exact hrc11 _ _ _ _ _ h
    refine zJ_loc (ls' := [(0, .ref 5), (1, .int p1), (2, .int p2), (3, .int p3), (4, .int p4), (5, .int v5n1), (6, .int v6_11), (7, .int rn2), (8, .int (10000 : Int32)), (9, .int (0 : Int32))]) (zll_c rfl (zll_c rfl (zll_c rfl (zll_c rfl (zll_c rfl (zll_c rfl (zll_c rfl (zll_c rfl (zll_c rfl (zll_c rfl zll_n)))))))))) ?_
    refine ml2_J (fun (v8_43 : Int32) (v9_43 : Int32) => zJ l zW 4 mX1_countAtHeights σ ([(323, course_fences), (769, course_rule_size)], [(6, course_kinds), (7, (upd course_heights_11 p2.toNatClampNeg v6_11)), (8, course_feet), (10, course_digits), (13, rule_codes), (15, rule_stackn3), (16, rule_thingsn4), (17, course_counts_11), (18, course_poles), (19, course_refusals)], []) 43 [(0, .ref 5), (1, .int p1), (2, .int p2), (3, .int p3), (4, .int p4), (5, .int v5n1), (6, .int v6_11), (7, .int rn2), (8, .int v8_43), (9, .int v9_43)] [] none ([(323, course_fences), (769, course_rule_size)], [(6, course_kinds), (7, w_course_heights), (8, course_feet), (10, course_digits), (13, rule_codes), (15, w_rule_stack), (16, w_rule_things), (17, w_course_counts), (18, course_poles), (19, course_refusals)], [])) (fun rc43 hrc43 v8_43 v9_43 h => ?_) zN _ _ h
    unfold s_X1_countAtHeights_43 at h
    refine zJ_iload dX1_countAtHeights_43 rfl rfl ?_
    refine zJ_aload_n dX1_countAtHeights_45 rfl rfl ?_
    refine zJ_geti (mi := mX1_countAtHeights) (x := course_fences) dX1_countAtHeights_46 F_X1_50 zW_5 rfl rfl rfl ?_
    refine zJ_icmp_ge (tgt := 90) dX1_countAtHeights_49 (by decide) rfl (fun hc => ?_) (fun hc => ?_)
    · replace h := it_t hc h
      refine zJ_loc (ls' := [(0, .ref 5), (1, .int p1), (2, .int p2), (3, .int p3), (4, .int p4), (5, .int v5n1), (6, .int v6_11), (8, .int v8_43)]) (zll_c rfl (zll_c rfl (zll_c rfl (zll_c rfl (zll_c rfl (zll_c rfl (zll_c rfl (zll_c rfl zll_n)))))))) ?_
      exact hk43 _ h
    · replace h := it_f hc h
      refine zJ_iload dX1_countAtHeights_52 rfl rfl ?_
      refine zJ_aload_n dX1_countAtHeights_54 rfl rfl ?_
      refine zJ_getr (mi := mX1_countAtHeights) dX1_countAtHeights_55 F_X1_47 zW_5 rfl rfl ?_
      refine zJ_iload dX1_countAtHeights_58 rfl rfl ?_
      obtain ⟨hg, h⟩ := gd_some h
      refine zJ_iald (mi := mX1_countAtHeights) (f := course_refusals) dX1_countAtHeights_60 zW_19 (ix_in hg) rfl rfl ?_
      refine zJ_iload dX1_countAtHeights_61 rfl rfl ?_
      refine zJ_iload_n dX1_countAtHeights_63 rfl rfl ?_
      refine zJ_icmp_ne (tgt := 72) dX1_countAtHeights_64 (by decide) rfl (fun hc => ?_) (fun hc => ?_)
      · replace h := it_f hc h
        refine zJ_aload_n dX1_countAtHeights_72 rfl rfl ?_
        refine zJ_getr (mi := mX1_countAtHeights) dX1_countAtHeights_73 F_X1_44 zW_5 rfl rfl ?_
        refine zJ_iload dX1_countAtHeights_76 rfl rfl ?_
        obtain ⟨hg, h⟩ := gd_some h
        refine zJ_iald (mi := mX1_countAtHeights) (f := course_poles) dX1_countAtHeights_78 zW_18 (ix_in hg) rfl rfl ?_
        obtain ⟨rn7, hcl, h⟩ := bd1_some h
        refine zJ_callS2 (σ := σ) (L := ([(323, course_fences), (769, course_rule_size)], [(6, course_kinds), (7, (upd course_heights_11 p2.toNatClampNeg v6_11)), (8, course_feet), (10, course_digits), (13, rule_codes), (15, rule_stackn3), (16, rule_thingsn4), (17, course_counts_11), (18, course_poles), (19, course_refusals)], [])) (mi := mX1_countAtHeights) (yi := mX1_passing) (as := [.int v8_43, .int (course_refusals v9_43.toNatClampNeg), .int (course_poles v9_43.toNatClampNeg)]) (st := []) (L2 := ([(323, course_fences), (769, course_rule_size)], [(6, course_kinds), (7, (upd course_heights_11 p2.toNatClampNeg v6_11)), (8, course_feet), (10, course_digits), (13, rule_codes), (15, rule_stackn3), (16, rule_thingsn4), (17, course_counts_11), (18, course_poles), (19, course_refusals)], [])) dX1_countAtHeights_79 ML_X1_139 Ys_X1_passing rfl (t_X1_passing l _ hcl) (zsub_i zle_n zle_n zle_n) (zjok_i rfl rfl (zle_c rfl (zle_c rfl zle_n)) rfl rfl (zle_c rfl (zle_c rfl (zle_c rfl (zle_c rfl (zle_c rfl (zle_c rfl (zle_c rfl (zle_c rfl (zle_c rfl (zle_c rfl zle_n)))))))))) rfl rfl zle_n) (Nat.le_of_ble_eq_true rfl) (Nat.le_of_ble_eq_true rfl) rfl rfl ?_
        refine zJ_istore (ls' := [(8, .int rn7), (0, .ref 5), (1, .int p1), (2, .int p2), (3, .int p3), (4, .int p4), (5, .int v5n1), (6, .int v6_11), (7, .int rn2), (9, .int v9_43)]) dX1_countAtHeights_82 rfl rfl rfl ?_
        obtain ⟨v9n8, ev9n8, h⟩ := lt1_some h
        refine zJ_iincN (ls' := [(9, .int v9n8), (8, .int rn7), (0, .ref 5), (1, .int p1), (2, .int p2), (3, .int p3), (4, .int p4), (5, .int v5n1), (6, .int v6_11), (7, .int rn2)]) dX1_countAtHeights_84 rfl rfl zc_1 ev9n8 rfl rfl ?_
        refine zJ_goto (tgt := 43) dX1_countAtHeights_87 (by decide) ?_
        refine zJ_loc (ls' := [(0, .ref 5), (1, .int p1), (2, .int p2), (3, .int p3), (4, .int p4), (5, .int v5n1), (6, .int v6_11), (7, .int rn2), (8, .int rn7), (9, .int v9n8)]) (zll_c rfl (zll_c rfl (zll_c rfl (zll_c rfl (zll_c rfl (zll_c rfl (zll_c rfl (zll_c rfl (zll_c rfl (zll_c rfl zll_n)))))))))) ?_
        exact hrc43 _ _ h
      · replace h := it_t hc h
        refine zJ_iload dX1_countAtHeights_67 rfl rfl ?_
        refine zJ_goto (tgt := 79) dX1_countAtHeights_69 (by decide) ?_
        obtain ⟨rn9, hcl, h⟩ := bd1_some h
        refine zJ_callS2 (σ := σ) (L := ([(323, course_fences), (769, course_rule_size)], [(6, course_kinds), (7, (upd course_heights_11 p2.toNatClampNeg v6_11)), (8, course_feet), (10, course_digits), (13, rule_codes), (15, rule_stackn3), (16, rule_thingsn4), (17, course_counts_11), (18, course_poles), (19, course_refusals)], [])) (mi := mX1_countAtHeights) (yi := mX1_passing) (as := [.int v8_43, .int (course_refusals v9_43.toNatClampNeg), .int rn2]) (st := []) (L2 := ([(323, course_fences), (769, course_rule_size)], [(6, course_kinds), (7, (upd course_heights_11 p2.toNatClampNeg v6_11)), (8, course_feet), (10, course_digits), (13, rule_codes), (15, rule_stackn3), (16, rule_thingsn4), (17, course_counts_11), (18, course_poles), (19, course_refusals)], [])) dX1_countAtHeights_79 ML_X1_139 Ys_X1_passing rfl (t_X1_passing l _ hcl) (zsub_i zle_n zle_n zle_n) (zjok_i rfl rfl (zle_c rfl (zle_c rfl zle_n)) rfl rfl (zle_c rfl (zle_c rfl (zle_c rfl (zle_c rfl (zle_c rfl (zle_c rfl (zle_c rfl (zle_c rfl (zle_c rfl (zle_c rfl zle_n)))))))))) rfl rfl zle_n) (Nat.le_of_ble_eq_true rfl) (Nat.le_of_ble_eq_true rfl) rfl rfl ?_
        refine zJ_istore (ls' := [(8, .int rn9), (0, .ref 5), (1, .int p1), (2, .int p2), (3, .int p3), (4, .int p4), (5, .int v5n1), (6, .int v6_11), (7, .int rn2), (9, .int v9_43)]) dX1_countAtHeights_82 rfl rfl rfl ?_
        obtain ⟨v9n10, ev9n10, h⟩ := lt1_some h
        refine zJ_iincN (ls' := [(9, .int v9n10), (8, .int rn9), (0, .ref 5), (1, .int p1), (2, .int p2), (3, .int p3), (4, .int p4), (5, .int v5n1), (6, .int v6_11), (7, .int rn2)]) dX1_countAtHeights_84 rfl rfl zc_1 ev9n10 rfl rfl ?_
        refine zJ_goto (tgt := 43) dX1_countAtHeights_87 (by decide) ?_
        refine zJ_loc (ls' := [(0, .ref 5), (1, .int p1), (2, .int p2), (3, .int p3), (4, .int p4), (5, .int v5n1), (6, .int v6_11), (7, .int rn2), (8, .int rn9), (9, .int v9n10)]) (zll_c rfl (zll_c rfl (zll_c rfl (zll_c rfl (zll_c rfl (zll_c rfl (zll_c rfl (zll_c rfl (zll_c rfl (zll_c rfl zll_n)))))))))) ?_
        exact hrc43 _ _ h
set_option maxRecDepth 100000 in
set_option maxHeartbeats 4000000 in
theorem t_X1_countThrough (l : Launch) (σ : zS) {p1 : Int32} {p2 : Int32} {course_fences : Int32} {course_horseCount : Int32} {course_rule_size : Int32} {course_kinds : (Nat → Int32)} {course_heights : (Nat → Int32)} {course_feet : (Nat → Int32)} {course_digits : (Nat → Int32)} {course_plans : (Nat → Int32)} {rule_codes : (Nat → Int32)} {rule_stack : (Nat → Int32)} {rule_things : (Nat → Int32)} {course_counts : (Nat → Int32)} {course_poles : (Nat → Int32)} {course_refusals : (Nat → Int32)} {w_course_heights : (Nat → Int32)} {w_rule_stack : (Nat → Int32)} {w_rule_things : (Nat → Int32)} {w_course_counts : (Nat → Int32)} {w_course_poles : (Nat → Int32)} {w_course_refusals : (Nat → Int32)} (h : f_X1_countThrough p1 p2 course_fences course_horseCount course_rule_size course_kinds course_heights course_feet course_digits course_plans rule_codes rule_stack rule_things course_counts course_poles course_refusals = some (w_course_heights, w_rule_stack, w_rule_things, w_course_counts, w_course_poles, w_course_refusals)) : zMt l zW 5 mX1_countThrough σ ([(323, course_fences), (326, course_horseCount), (769, course_rule_size)], [(6, course_kinds), (7, course_heights), (8, course_feet), (10, course_digits), (11, course_plans), (13, rule_codes), (15, rule_stack), (16, rule_things), (17, course_counts), (18, course_poles), (19, course_refusals)], []) [.ref 5, .int p1, .int p2] none ([(323, course_fences), (326, course_horseCount), (769, course_rule_size)], [(6, course_kinds), (7, w_course_heights), (8, course_feet), (10, course_digits), (11, course_plans), (13, rule_codes), (15, w_rule_stack), (16, w_rule_things), (17, w_course_counts), (18, w_course_poles), (19, w_course_refusals)], []) := by
  refine zMt_of (ls := [(0, .ref 5), (1, .int p1), (2, .int p2)]) (by decide) rfl (fun _ => Nat.le_of_ble_eq_true rfl) rfl ?_
  unfold f_X1_countThrough at h
  refine zJ_aload_n dX1_countThrough_0 rfl rfl ?_
  refine zJ_getr (mi := mX1_countThrough) dX1_countThrough_1 F_X1_41 zW_5 rfl rfl ?_
  refine zJ_iconst dX1_countThrough_4 zc_0 rfl ?_
  obtain ⟨course_countsn1, hcl, h⟩ := bd1_some h
  refine zJ_callS2 (σ := σ) (L := ([(323, course_fences), (326, course_horseCount), (769, course_rule_size)], [(6, course_kinds), (7, course_heights), (8, course_feet), (10, course_digits), (11, course_plans), (13, rule_codes), (15, rule_stack), (16, rule_things), (17, course_counts), (18, course_poles), (19, course_refusals)], [])) (mi := mX1_countThrough) (yi := mJ7_fill_53178) (as := [.ref 17, .int (0 : Int32)]) (st := []) (L2 := ([(323, course_fences), (326, course_horseCount), (769, course_rule_size)], [(6, course_kinds), (7, course_heights), (8, course_feet), (10, course_digits), (11, course_plans), (13, rule_codes), (15, rule_stack), (16, rule_things), (17, course_countsn1), (18, course_poles), (19, course_refusals)], [])) dX1_countThrough_5 ML_X1_142 Ys_J7_fill_53178 rfl (t_J7_fill_53178_course_counts l _ hcl) (zsub_i zle_n (zle_c rfl zle_n) zle_n) (zjok_i rfl rfl (zle_c rfl (zle_c rfl (zle_c rfl zle_n))) rfl rfl (zle_c rfl (zle_c rfl (zle_c rfl (zle_c rfl (zle_c rfl (zle_c rfl (zle_c rfl (zle_c rfl (zle_c rfl (zle_c rfl (zle_c rfl zle_n))))))))))) rfl rfl zle_n) (Nat.le_of_ble_eq_true rfl) (Nat.le_of_ble_eq_true rfl) rfl rfl ?_
  refine zJ_iconst dX1_countThrough_8 zc_0 rfl ?_
  refine zJ_istore_n (ls' := [(3, .int (0 : Int32)), (0, .ref 5), (1, .int p1), (2, .int p2)]) dX1_countThrough_9 rfl rfl rfl ?_
  have hk10 : ∀ (course_heights_10x : (Nat → Int32)) (rule_stack_10x : (Nat → Int32)) (rule_things_10x : (Nat → Int32)) (course_counts_10x : (Nat → Int32)) (course_poles_10x : (Nat → Int32)) (course_refusals_10x : (Nat → Int32)), k_X1_countThrough_10  course_heights_10x rule_stack_10x rule_things_10x course_counts_10x course_poles_10x course_refusals_10x = some (w_course_heights, w_rule_stack, w_rule_things, w_course_counts, w_course_poles, w_course_refusals) → zJ l zW 5 mX1_countThrough σ ([(323, course_fences), (326, course_horseCount), (769, course_rule_size)], [(6, course_kinds), (7, course_heights_10x), (8, course_feet), (10, course_digits), (11, course_plans), (13, rule_codes), (15, rule_stack_10x), (16, rule_things_10x), (17, course_counts_10x), (18, course_poles_10x), (19, course_refusals_10x)], []) 110 [] [] none ([(323, course_fences), (326, course_horseCount), (769, course_rule_size)], [(6, course_kinds), (7, w_course_heights), (8, course_feet), (10, course_digits), (11, course_plans), (13, rule_codes), (15, w_rule_stack), (16, w_rule_things), (17, w_course_counts), (18, w_course_poles), (19, w_course_refusals)], []) := by
    intro course_heights_10x rule_stack_10x rule_things_10x course_counts_10x course_poles_10x course_refusals_10x h
    unfold k_X1_countThrough_10 at h
    obtain ⟨rfl, rfl, rfl, rfl, rfl, rfl⟩ := so6 h
    exact zJ_vret dX1_countThrough_110 rfl
  refine zJ_loc (ls' := [(0, .ref 5), (1, .int p1), (2, .int p2), (3, .int (0 : Int32))]) (zll_c rfl (zll_c rfl (zll_c rfl (zll_c rfl zll_n)))) ?_
  refine ml7_J (fun (v3_10 : Int32) (course_heights_10 : (Nat → Int32)) (rule_stack_10 : (Nat → Int32)) (rule_things_10 : (Nat → Int32)) (course_counts_10 : (Nat → Int32)) (course_poles_10 : (Nat → Int32)) (course_refusals_10 : (Nat → Int32)) => zJ l zW 5 mX1_countThrough σ ([(323, course_fences), (326, course_horseCount), (769, course_rule_size)], [(6, course_kinds), (7, course_heights_10), (8, course_feet), (10, course_digits), (11, course_plans), (13, rule_codes), (15, rule_stack_10), (16, rule_things_10), (17, course_counts_10), (18, course_poles_10), (19, course_refusals_10)], []) 10 [(0, .ref 5), (1, .int p1), (2, .int p2), (3, .int v3_10)] [] none ([(323, course_fences), (326, course_horseCount), (769, course_rule_size)], [(6, course_kinds), (7, w_course_heights), (8, course_feet), (10, course_digits), (11, course_plans), (13, rule_codes), (15, w_rule_stack), (16, w_rule_things), (17, w_course_counts), (18, w_course_poles), (19, w_course_refusals)], [])) (fun rc10 hrc10 v3_10 course_heights_10 rule_stack_10 rule_things_10 course_counts_10 course_poles_10 course_refusals_10 h => ?_) zN _ _ _ _ _ _ _ h
  unfold s_X1_countThrough_10 at h
  refine zJ_iload_n dX1_countThrough_10 rfl rfl ?_
  refine zJ_aload_n dX1_countThrough_11 rfl rfl ?_
  refine zJ_geti (mi := mX1_countThrough) (x := course_horseCount) dX1_countThrough_12 F_X1_53 zW_5 rfl rfl rfl ?_
  refine zJ_icmp_ge (tgt := 110) dX1_countThrough_15 (by decide) rfl (fun hc => ?_) (fun hc => ?_)
  · replace h := it_t hc h
    refine zJ_loc (ls' := []) zll_n ?_
    exact hk10 _ _ _ _ _ _ h
  · replace h := it_f hc h
    refine zJ_iconst dX1_countThrough_18 zc_0 rfl ?_
    refine zJ_istore (ls' := [(4, .int (0 : Int32)), (0, .ref 5), (1, .int p1), (2, .int p2), (3, .int v3_10)]) dX1_countThrough_19 rfl rfl rfl ?_
    have hk21 : ∀ (rule_stack_21x : (Nat → Int32)) (rule_things_21x : (Nat → Int32)) (course_poles_21x : (Nat → Int32)) (course_refusals_21x : (Nat → Int32)), k_X1_countThrough_21 p1 p2 course_fences course_rule_size course_kinds course_feet course_digits course_plans rule_codes rc10 v3_10 course_heights_10 course_counts_10 rule_stack_21x rule_things_21x course_poles_21x course_refusals_21x = some (w_course_heights, w_rule_stack, w_rule_things, w_course_counts, w_course_poles, w_course_refusals) → zJ l zW 5 mX1_countThrough σ ([(323, course_fences), (326, course_horseCount), (769, course_rule_size)], [(6, course_kinds), (7, course_heights_10), (8, course_feet), (10, course_digits), (11, course_plans), (13, rule_codes), (15, rule_stack_21x), (16, rule_things_21x), (17, course_counts_10), (18, course_poles_21x), (19, course_refusals_21x)], []) 71 [(0, .ref 5), (1, .int p1), (2, .int p2), (3, .int v3_10)] [] none ([(323, course_fences), (326, course_horseCount), (769, course_rule_size)], [(6, course_kinds), (7, w_course_heights), (8, course_feet), (10, course_digits), (11, course_plans), (13, rule_codes), (15, w_rule_stack), (16, w_rule_things), (17, w_course_counts), (18, w_course_poles), (19, w_course_refusals)], []) := by
      intro rule_stack_21x rule_things_21x course_poles_21x course_refusals_21x h
      unfold k_X1_countThrough_21 at h
      refine zJ_iconst dX1_countThrough_71 zc_0 rfl ?_
      refine zJ_istore (ls' := [(4, .int (0 : Int32)), (0, .ref 5), (1, .int p1), (2, .int p2), (3, .int v3_10)]) dX1_countThrough_72 rfl rfl rfl ?_
      have hk74 : ∀ (course_heights_74x : (Nat → Int32)) (rule_stack_74x : (Nat → Int32)) (rule_things_74x : (Nat → Int32)) (course_counts_74x : (Nat → Int32)), k_X1_countThrough_74 rc10 v3_10 course_poles_21x course_refusals_21x course_heights_74x rule_stack_74x rule_things_74x course_counts_74x = some (w_course_heights, w_rule_stack, w_rule_things, w_course_counts, w_course_poles, w_course_refusals) → zJ l zW 5 mX1_countThrough σ ([(323, course_fences), (326, course_horseCount), (769, course_rule_size)], [(6, course_kinds), (7, course_heights_74x), (8, course_feet), (10, course_digits), (11, course_plans), (13, rule_codes), (15, rule_stack_74x), (16, rule_things_74x), (17, course_counts_74x), (18, course_poles_21x), (19, course_refusals_21x)], []) 104 [(0, .ref 5), (1, .int p1), (2, .int p2), (3, .int v3_10)] [] none ([(323, course_fences), (326, course_horseCount), (769, course_rule_size)], [(6, course_kinds), (7, w_course_heights), (8, course_feet), (10, course_digits), (11, course_plans), (13, rule_codes), (15, w_rule_stack), (16, w_rule_things), (17, w_course_counts), (18, w_course_poles), (19, w_course_refusals)], []) := by
        intro course_heights_74x rule_stack_74x rule_things_74x course_counts_74x h
        unfold k_X1_countThrough_74 at h
        obtain ⟨v3n2, ev3n2, h⟩ := lt1_some h
        refine zJ_iincN (ls' := [(3, .int v3n2), (0, .ref 5), (1, .int p1), (2, .int p2)]) dX1_countThrough_104 rfl rfl zc_1 ev3n2 rfl rfl ?_
        refine zJ_goto (tgt := 10) dX1_countThrough_107 (by decide) ?_
        refine zJ_loc (ls' := [(0, .ref 5), (1, .int p1), (2, .int p2), (3, .int v3n2)]) (zll_c rfl (zll_c rfl (zll_c rfl (zll_c rfl zll_n)))) ?_
        exact hrc10 _ _ _ _ _ _ _ h
      refine zJ_loc (ls' := [(0, .ref 5), (1, .int p1), (2, .int p2), (3, .int v3_10), (4, .int (0 : Int32))]) (zll_c rfl (zll_c rfl (zll_c rfl (zll_c rfl (zll_c rfl zll_n))))) ?_
      refine ml5_J (fun (v4_74 : Int32) (course_heights_74 : (Nat → Int32)) (rule_stack_74 : (Nat → Int32)) (rule_things_74 : (Nat → Int32)) (course_counts_74 : (Nat → Int32)) => zJ l zW 5 mX1_countThrough σ ([(323, course_fences), (326, course_horseCount), (769, course_rule_size)], [(6, course_kinds), (7, course_heights_74), (8, course_feet), (10, course_digits), (11, course_plans), (13, rule_codes), (15, rule_stack_74), (16, rule_things_74), (17, course_counts_74), (18, course_poles_21x), (19, course_refusals_21x)], []) 74 [(0, .ref 5), (1, .int p1), (2, .int p2), (3, .int v3_10), (4, .int v4_74)] [] none ([(323, course_fences), (326, course_horseCount), (769, course_rule_size)], [(6, course_kinds), (7, w_course_heights), (8, course_feet), (10, course_digits), (11, course_plans), (13, rule_codes), (15, w_rule_stack), (16, w_rule_things), (17, w_course_counts), (18, w_course_poles), (19, w_course_refusals)], [])) (fun rc74 hrc74 v4_74 course_heights_74 rule_stack_74 rule_things_74 course_counts_74 h => ?_) zN _ _ _ _ _ h
      unfold s_X1_countThrough_74 at h
      refine zJ_iload dX1_countThrough_74 rfl rfl ?_
      refine zJ_aload_n dX1_countThrough_76 rfl rfl ?_
      refine zJ_geti (mi := mX1_countThrough) (x := course_fences) dX1_countThrough_77 F_X1_50 zW_5 rfl rfl rfl ?_
      refine zJ_icmp_ge (tgt := 104) dX1_countThrough_80 (by decide) rfl (fun hc => ?_) (fun hc => ?_)
      · replace h := it_t hc h
        refine zJ_loc (ls' := [(0, .ref 5), (1, .int p1), (2, .int p2), (3, .int v3_10)]) (zll_c rfl (zll_c rfl (zll_c rfl (zll_c rfl zll_n)))) ?_
        exact hk74 _ _ _ _ h
      · replace h := it_f hc h
        refine zJ_aload_n dX1_countThrough_83 rfl rfl ?_
        refine zJ_iload_n dX1_countThrough_84 rfl rfl ?_
        refine zJ_iload dX1_countThrough_85 rfl rfl ?_
        refine zJ_aload_n dX1_countThrough_87 rfl rfl ?_
        refine zJ_iload_n dX1_countThrough_88 rfl rfl ?_
        refine zJ_iload dX1_countThrough_89 rfl rfl ?_
        obtain ⟨rn3, hcl, h⟩ := bd1_some h
        refine zJ_callV2 (σ := σ) (L := ([(323, course_fences), (326, course_horseCount), (769, course_rule_size)], [(6, course_kinds), (7, course_heights_74), (8, course_feet), (10, course_digits), (11, course_plans), (13, rule_codes), (15, rule_stack_74), (16, rule_things_74), (17, course_counts_74), (18, course_poles_21x), (19, course_refusals_21x)], [])) (mi := mX1_countThrough) (yi := mX1_letterAt) (as := [.int p1, .int v4_74]) (st := [.int v4_74, .int v3_10, .ref 5]) (L2 := ([(323, course_fences), (326, course_horseCount), (769, course_rule_size)], [(6, course_kinds), (7, course_heights_74), (8, course_feet), (10, course_digits), (11, course_plans), (13, rule_codes), (15, rule_stack_74), (16, rule_things_74), (17, course_counts_74), (18, course_poles_21x), (19, course_refusals_21x)], [])) dX1_countThrough_91 ML_X1_117 Yv_X1_letterAt rfl zW_5 rfl rfl (t_X1_letterAt l _ hcl) (zsub_i zle_n (zle_c rfl zle_n) zle_n) (zjok_i rfl rfl (zle_c rfl (zle_c rfl (zle_c rfl zle_n))) rfl rfl (zle_c rfl (zle_c rfl (zle_c rfl (zle_c rfl (zle_c rfl (zle_c rfl (zle_c rfl (zle_c rfl (zle_c rfl (zle_c rfl (zle_c rfl zle_n))))))))))) rfl rfl zle_n) (Nat.le_of_ble_eq_true rfl) (Nat.le_of_ble_eq_true rfl) rfl rfl ?_
        refine zJ_iload_n dX1_countThrough_94 rfl rfl ?_
        obtain ⟨course_heightsn4, rule_stackn5, rule_thingsn6, course_countsn7, hcl, h⟩ := bd4_some h
        refine zJ_callV2 (σ := σ) (L := ([(323, course_fences), (326, course_horseCount), (769, course_rule_size)], [(6, course_kinds), (7, course_heights_74), (8, course_feet), (10, course_digits), (11, course_plans), (13, rule_codes), (15, rule_stack_74), (16, rule_things_74), (17, course_counts_74), (18, course_poles_21x), (19, course_refusals_21x)], [])) (mi := mX1_countThrough) (yi := mX1_countAtHeights) (as := [.int v3_10, .int v4_74, .int rn3, .int p2]) (st := []) (L2 := ([(323, course_fences), (326, course_horseCount), (769, course_rule_size)], [(6, course_kinds), (7, course_heightsn4), (8, course_feet), (10, course_digits), (11, course_plans), (13, rule_codes), (15, rule_stackn5), (16, rule_thingsn6), (17, course_countsn7), (18, course_poles_21x), (19, course_refusals_21x)], [])) dX1_countThrough_95 ML_X1_148 Yv_X1_countAtHeights rfl zW_5 rfl rfl (t_X1_countAtHeights l _ hcl) (zsub_i (zle_c rfl (zle_c rfl zle_n)) (zle_c rfl (zle_c rfl (zle_c rfl (zle_c rfl (zle_c rfl (zle_c rfl (zle_c rfl (zle_c rfl (zle_c rfl (zle_c rfl zle_n)))))))))) zle_n) (zjok_i rfl rfl (zle_c rfl (zle_c rfl (zle_c rfl zle_n))) rfl rfl (zle_c rfl (zle_c rfl (zle_c rfl (zle_c rfl (zle_c rfl (zle_c rfl (zle_c rfl (zle_c rfl (zle_c rfl (zle_c rfl (zle_c rfl zle_n))))))))))) rfl rfl zle_n) (Nat.le_of_ble_eq_true rfl) (Nat.le_of_ble_eq_true rfl) rfl rfl ?_
        obtain ⟨v4n8, ev4n8, h⟩ := lt1_some h
        refine zJ_iincN (ls' := [(4, .int v4n8), (0, .ref 5), (1, .int p1), (2, .int p2), (3, .int v3_10)]) dX1_countThrough_98 rfl rfl zc_1 ev4n8 rfl rfl ?_
        refine zJ_goto (tgt := 74) dX1_countThrough_101 (by decide) ?_
        refine zJ_loc (ls' := [(0, .ref 5), (1, .int p1), (2, .int p2), (3, .int v3_10), (4, .int v4n8)]) (zll_c rfl (zll_c rfl (zll_c rfl (zll_c rfl (zll_c rfl zll_n))))) ?_
        exact hrc74 _ _ _ _ _ h
    refine zJ_loc (ls' := [(0, .ref 5), (1, .int p1), (2, .int p2), (3, .int v3_10), (4, .int (0 : Int32))]) (zll_c rfl (zll_c rfl (zll_c rfl (zll_c rfl (zll_c rfl zll_n))))) ?_
    refine ml5_J (fun (v4_21 : Int32) (rule_stack_21 : (Nat → Int32)) (rule_things_21 : (Nat → Int32)) (course_poles_21 : (Nat → Int32)) (course_refusals_21 : (Nat → Int32)) => zJ l zW 5 mX1_countThrough σ ([(323, course_fences), (326, course_horseCount), (769, course_rule_size)], [(6, course_kinds), (7, course_heights_10), (8, course_feet), (10, course_digits), (11, course_plans), (13, rule_codes), (15, rule_stack_21), (16, rule_things_21), (17, course_counts_10), (18, course_poles_21), (19, course_refusals_21)], []) 21 [(0, .ref 5), (1, .int p1), (2, .int p2), (3, .int v3_10), (4, .int v4_21)] [] none ([(323, course_fences), (326, course_horseCount), (769, course_rule_size)], [(6, course_kinds), (7, w_course_heights), (8, course_feet), (10, course_digits), (11, course_plans), (13, rule_codes), (15, w_rule_stack), (16, w_rule_things), (17, w_course_counts), (18, w_course_poles), (19, w_course_refusals)], [])) (fun rc21 hrc21 v4_21 rule_stack_21 rule_things_21 course_poles_21 course_refusals_21 h => ?_) zN _ _ _ _ _ h
    unfold s_X1_countThrough_21 at h
    refine zJ_iload dX1_countThrough_21 rfl rfl ?_
    refine zJ_aload_n dX1_countThrough_23 rfl rfl ?_
    refine zJ_geti (mi := mX1_countThrough) (x := course_fences) dX1_countThrough_24 F_X1_50 zW_5 rfl rfl rfl ?_
    refine zJ_icmp_ge (tgt := 71) dX1_countThrough_27 (by decide) rfl (fun hc => ?_) (fun hc => ?_)
    · replace h := it_t hc h
      refine zJ_loc (ls' := [(0, .ref 5), (1, .int p1), (2, .int p2), (3, .int v3_10)]) (zll_c rfl (zll_c rfl (zll_c rfl (zll_c rfl zll_n)))) ?_
      exact hk21 _ _ _ _ h
    · replace h := it_f hc h
      refine zJ_aload_n dX1_countThrough_30 rfl rfl ?_
      refine zJ_getr (mi := mX1_countThrough) dX1_countThrough_31 F_X1_44 zW_5 rfl rfl ?_
      refine zJ_iload dX1_countThrough_34 rfl rfl ?_
      refine zJ_aload_n dX1_countThrough_36 rfl rfl ?_
      refine zJ_iload_n dX1_countThrough_37 rfl rfl ?_
      refine zJ_iload dX1_countThrough_38 rfl rfl ?_
      refine zJ_aload_n dX1_countThrough_40 rfl rfl ?_
      refine zJ_iload_n dX1_countThrough_41 rfl rfl ?_
      refine zJ_iload dX1_countThrough_42 rfl rfl ?_
      obtain ⟨rn9, hcl, h⟩ := bd1_some h
      refine zJ_callV2 (σ := σ) (L := ([(323, course_fences), (326, course_horseCount), (769, course_rule_size)], [(6, course_kinds), (7, course_heights_10), (8, course_feet), (10, course_digits), (11, course_plans), (13, rule_codes), (15, rule_stack_21), (16, rule_things_21), (17, course_counts_10), (18, course_poles_21), (19, course_refusals_21)], [])) (mi := mX1_countThrough) (yi := mX1_letterAt) (as := [.int p1, .int v4_21]) (st := [.int v4_21, .int v3_10, .ref 5, .int v4_21, .ref 18]) (L2 := ([(323, course_fences), (326, course_horseCount), (769, course_rule_size)], [(6, course_kinds), (7, course_heights_10), (8, course_feet), (10, course_digits), (11, course_plans), (13, rule_codes), (15, rule_stack_21), (16, rule_things_21), (17, course_counts_10), (18, course_poles_21), (19, course_refusals_21)], [])) dX1_countThrough_44 ML_X1_117 Yv_X1_letterAt rfl zW_5 rfl rfl (t_X1_letterAt l _ hcl) (zsub_i zle_n (zle_c rfl zle_n) zle_n) (zjok_i rfl rfl (zle_c rfl (zle_c rfl (zle_c rfl zle_n))) rfl rfl (zle_c rfl (zle_c rfl (zle_c rfl (zle_c rfl (zle_c rfl (zle_c rfl (zle_c rfl (zle_c rfl (zle_c rfl (zle_c rfl (zle_c rfl zle_n))))))))))) rfl rfl zle_n) (Nat.le_of_ble_eq_true rfl) (Nat.le_of_ble_eq_true rfl) rfl rfl ?_
      obtain ⟨rn10, rule_stackn11, rule_thingsn12, hcl, h⟩ := bd3_some h
      refine zJ_callV2 (σ := σ) (L := ([(323, course_fences), (326, course_horseCount), (769, course_rule_size)], [(6, course_kinds), (7, course_heights_10), (8, course_feet), (10, course_digits), (11, course_plans), (13, rule_codes), (15, rule_stack_21), (16, rule_things_21), (17, course_counts_10), (18, course_poles_21), (19, course_refusals_21)], [])) (mi := mX1_countThrough) (yi := mX1_poleOdds) (as := [.int v3_10, .int v4_21, .int rn9]) (st := [.int v4_21, .ref 18]) (L2 := ([(323, course_fences), (326, course_horseCount), (769, course_rule_size)], [(6, course_kinds), (7, course_heights_10), (8, course_feet), (10, course_digits), (11, course_plans), (13, rule_codes), (15, rule_stackn11), (16, rule_thingsn12), (17, course_counts_10), (18, course_poles_21), (19, course_refusals_21)], [])) dX1_countThrough_47 ML_X1_132 Yv_X1_poleOdds rfl zW_5 rfl rfl (t_X1_poleOdds l _ hcl) (zsub_i (zle_c rfl zle_n) (zle_c rfl (zle_c rfl (zle_c rfl (zle_c rfl (zle_c rfl (zle_c rfl (zle_c rfl zle_n))))))) zle_n) (zjok_i rfl rfl (zle_c rfl (zle_c rfl (zle_c rfl zle_n))) rfl rfl (zle_c rfl (zle_c rfl (zle_c rfl (zle_c rfl (zle_c rfl (zle_c rfl (zle_c rfl (zle_c rfl (zle_c rfl (zle_c rfl (zle_c rfl zle_n))))))))))) rfl rfl zle_n) (Nat.le_of_ble_eq_true rfl) (Nat.le_of_ble_eq_true rfl) rfl rfl ?_
      obtain ⟨hg, h⟩ := gd_some h
      refine zK_iast (mi := mX1_countThrough) (f := course_poles_21) (lb' := [(6, course_kinds), (7, course_heights_10), (8, course_feet), (10, course_digits), (11, course_plans), (13, rule_codes), (15, rule_stackn11), (16, rule_thingsn12), (17, course_counts_10), (18, (upd course_poles_21 v4_21.toNatClampNeg rn10)), (19, course_refusals_21)]) dX1_countThrough_50 zW_18 (ix_in hg) rfl rfl rfl ?_
      refine zJ_aload_n dX1_countThrough_51 rfl rfl ?_
      refine zJ_getr (mi := mX1_countThrough) dX1_countThrough_52 F_X1_47 zW_5 rfl rfl ?_
      refine zJ_iload dX1_countThrough_55 rfl rfl ?_
      refine zJ_aload_n dX1_countThrough_57 rfl rfl ?_
      refine zJ_iload_n dX1_countThrough_58 rfl rfl ?_
      refine zJ_iload dX1_countThrough_59 rfl rfl ?_
      obtain ⟨rn13, hcl, h⟩ := bd1_some h
      refine zJ_callV2 (σ := σ) (L := ([(323, course_fences), (326, course_horseCount), (769, course_rule_size)], [(6, course_kinds), (7, course_heights_10), (8, course_feet), (10, course_digits), (11, course_plans), (13, rule_codes), (15, rule_stackn11), (16, rule_thingsn12), (17, course_counts_10), (18, (upd course_poles_21 v4_21.toNatClampNeg rn10)), (19, course_refusals_21)], [])) (mi := mX1_countThrough) (yi := mX1_refusalOdds) (as := [.int v3_10, .int v4_21]) (st := [.int v4_21, .ref 19]) (L2 := ([(323, course_fences), (326, course_horseCount), (769, course_rule_size)], [(6, course_kinds), (7, course_heights_10), (8, course_feet), (10, course_digits), (11, course_plans), (13, rule_codes), (15, rule_stackn11), (16, rule_thingsn12), (17, course_counts_10), (18, (upd course_poles_21 v4_21.toNatClampNeg rn10)), (19, course_refusals_21)], [])) dX1_countThrough_61 ML_X1_136 Yv_X1_refusalOdds rfl zW_5 rfl rfl (t_X1_refusalOdds l _ hcl) (zsub_i zle_n (zle_c rfl (zle_c rfl (zle_c rfl zle_n))) zle_n) (zjok_i rfl rfl (zle_c rfl (zle_c rfl (zle_c rfl zle_n))) rfl rfl (zle_c rfl (zle_c rfl (zle_c rfl (zle_c rfl (zle_c rfl (zle_c rfl (zle_c rfl (zle_c rfl (zle_c rfl (zle_c rfl (zle_c rfl zle_n))))))))))) rfl rfl zle_n) (Nat.le_of_ble_eq_true rfl) (Nat.le_of_ble_eq_true rfl) rfl rfl ?_
      obtain ⟨hg, h⟩ := gd_some h
      refine zK_iast (mi := mX1_countThrough) (f := course_refusals_21) (lb' := [(6, course_kinds), (7, course_heights_10), (8, course_feet), (10, course_digits), (11, course_plans), (13, rule_codes), (15, rule_stackn11), (16, rule_thingsn12), (17, course_counts_10), (18, (upd course_poles_21 v4_21.toNatClampNeg rn10)), (19, (upd course_refusals_21 v4_21.toNatClampNeg rn13))]) dX1_countThrough_64 zW_19 (ix_in hg) rfl rfl rfl ?_
      obtain ⟨v4n14, ev4n14, h⟩ := lt1_some h
      refine zJ_iincN (ls' := [(4, .int v4n14), (0, .ref 5), (1, .int p1), (2, .int p2), (3, .int v3_10)]) dX1_countThrough_65 rfl rfl zc_1 ev4n14 rfl rfl ?_
      refine zJ_goto (tgt := 21) dX1_countThrough_68 (by decide) ?_
      refine zJ_loc (ls' := [(0, .ref 5), (1, .int p1), (2, .int p2), (3, .int v3_10), (4, .int v4n14)]) (zll_c rfl (zll_c rfl (zll_c rfl (zll_c rfl (zll_c rfl zll_n))))) ?_
      exact hrc21 _ _ _ _ _ h
set_option maxRecDepth 100000 in
set_option maxHeartbeats 4000000 in
theorem t_X11_built (l : Launch) (σ : zS) {p1 : Int32} {p2 : Int32} {p3 : Int32} {numbers_size : Int32} {course_fences : Int32} {course_horseCount : Int32} {course_planCount : Int32} {course_rule_size : Int32} {course_kinds : (Nat → Int32)} {course_heights : (Nat → Int32)} {course_feet : (Nat → Int32)} {course_digits : (Nat → Int32)} {course_plans : (Nat → Int32)} {rule_codes : (Nat → Int32)} {rule_stack : (Nat → Int32)} {rule_things : (Nat → Int32)} {course_counts : (Nat → Int32)} {course_poles : (Nat → Int32)} {course_refusals : (Nat → Int32)} {numbers_told : (Nat → Int64)} {r : Int32} {w_numbers_size : Int32} {w_course_heights : (Nat → Int32)} {w_rule_stack : (Nat → Int32)} {w_rule_things : (Nat → Int32)} {w_course_counts : (Nat → Int32)} {w_course_poles : (Nat → Int32)} {w_course_refusals : (Nat → Int32)} {w_numbers_told : (Nat → Int64)} (h : f_X11_built p1 p2 p3 numbers_size course_fences course_horseCount course_planCount course_rule_size course_kinds course_heights course_feet course_digits course_plans rule_codes rule_stack rule_things course_counts course_poles course_refusals numbers_told = some (r, w_numbers_size, w_course_heights, w_rule_stack, w_rule_things, w_course_counts, w_course_poles, w_course_refusals, w_numbers_told)) : zMt l zW 6 mX11_built σ ([(193, numbers_size), (323, course_fences), (326, course_horseCount), (328, course_planCount), (769, course_rule_size)], [(6, course_kinds), (7, course_heights), (8, course_feet), (10, course_digits), (11, course_plans), (13, rule_codes), (15, rule_stack), (16, rule_things), (17, course_counts), (18, course_poles), (19, course_refusals)], [(4, numbers_told)]) [.ref 0, .int p1, .int p2, .int p3] (some (.int r)) ([(193, w_numbers_size), (323, course_fences), (326, course_horseCount), (328, course_planCount), (769, course_rule_size)], [(6, course_kinds), (7, w_course_heights), (8, course_feet), (10, course_digits), (11, course_plans), (13, rule_codes), (15, w_rule_stack), (16, w_rule_things), (17, w_course_counts), (18, w_course_poles), (19, w_course_refusals)], [(4, w_numbers_told)]) := by
  refine zMt_of (ls := [(0, .ref 0), (1, .int p1), (2, .int p2), (3, .int p3)]) (by decide) rfl (fun _ => Nat.le_of_ble_eq_true rfl) rfl ?_
  unfold f_X11_built at h
  refine zJ_aload_n dX11_built_0 rfl rfl ?_
  refine zJ_getr (mi := mX11_built) dX11_built_1 F_X11_26 zW_0 rfl rfl ?_
  refine zJ_iload_n dX11_built_4 rfl rfl ?_
  obtain ⟨rn1, hcl, h⟩ := bd1_some h
  refine zJ_callV2 (σ := σ) (L := ([(193, numbers_size), (323, course_fences), (326, course_horseCount), (328, course_planCount), (769, course_rule_size)], [(6, course_kinds), (7, course_heights), (8, course_feet), (10, course_digits), (11, course_plans), (13, rule_codes), (15, rule_stack), (16, rule_things), (17, course_counts), (18, course_poles), (19, course_refusals)], [(4, numbers_told)])) (mi := mX11_built) (yi := mX1_hasPlan) (as := [.int p1]) (st := []) (L2 := ([(193, numbers_size), (323, course_fences), (326, course_horseCount), (328, course_planCount), (769, course_rule_size)], [(6, course_kinds), (7, course_heights), (8, course_feet), (10, course_digits), (11, course_plans), (13, rule_codes), (15, rule_stack), (16, rule_things), (17, course_counts), (18, course_poles), (19, course_refusals)], [(4, numbers_told)])) dX11_built_5 ML_X11_191 Yv_X1_hasPlan rfl zW_5 rfl rfl (t_X1_hasPlan l _ hcl) (zsub_i (zle_c rfl zle_n) zle_n zle_n) (zjok_i rfl rfl (zle_c rfl (zle_c rfl (zle_c rfl (zle_c rfl (zle_c rfl zle_n))))) rfl rfl (zle_c rfl (zle_c rfl (zle_c rfl (zle_c rfl (zle_c rfl (zle_c rfl (zle_c rfl (zle_c rfl (zle_c rfl (zle_c rfl (zle_c rfl zle_n))))))))))) rfl rfl (zle_c rfl zle_n)) (Nat.le_of_ble_eq_true rfl) (Nat.le_of_ble_eq_true rfl) rfl rfl ?_
  refine zJ_if_eq (tgt := 32) dX11_built_8 (by decide) rfl (fun hc => ?_) (fun hc => ?_)
  · replace h := it_t hc h
    refine zJ_bipush dX11_built_32 zb_m2 rfl ?_
    obtain ⟨rfl, rfl, rfl, rfl, rfl, rfl, rfl, rfl, rfl⟩ := so9 h
    exact zJ_iret dX11_built_34 rfl rfl
  · replace h := it_f hc h
    refine zJ_iload_n dX11_built_11 rfl rfl ?_
    refine zJ_if_lt (tgt := 32) dX11_built_12 (by decide) rfl (fun hc => ?_) (fun hc => ?_)
    · replace h := it_t hc h
      refine zJ_bipush dX11_built_32 zb_m2 rfl ?_
      obtain ⟨rfl, rfl, rfl, rfl, rfl, rfl, rfl, rfl, rfl⟩ := so9 h
      exact zJ_iret dX11_built_34 rfl rfl
    · replace h := it_f hc h
      refine zJ_iload_n dX11_built_15 rfl rfl ?_
      refine zJ_sipush dX11_built_16 zs_10000 rfl ?_
      refine zJ_icmp_gt (tgt := 32) dX11_built_19 (by decide) rfl (fun hc => ?_) (fun hc => ?_)
      · replace h := it_t hc h
        refine zJ_bipush dX11_built_32 zb_m2 rfl ?_
        obtain ⟨rfl, rfl, rfl, rfl, rfl, rfl, rfl, rfl, rfl⟩ := so9 h
        exact zJ_iret dX11_built_34 rfl rfl
      · replace h := it_f hc h
        refine zJ_iload_n dX11_built_22 rfl rfl ?_
        refine zJ_if_lt (tgt := 32) dX11_built_23 (by decide) rfl (fun hc => ?_) (fun hc => ?_)
        · replace h := it_t hc h
          refine zJ_bipush dX11_built_32 zb_m2 rfl ?_
          obtain ⟨rfl, rfl, rfl, rfl, rfl, rfl, rfl, rfl, rfl⟩ := so9 h
          exact zJ_iret dX11_built_34 rfl rfl
        · replace h := it_f hc h
          refine zJ_iload_n dX11_built_26 rfl rfl ?_
          refine zJ_bipush dX11_built_27 zb_6 rfl ?_
          refine zJ_icmp_le (tgt := 35) dX11_built_29 (by decide) rfl (fun hc => ?_) (fun hc => ?_)
          · replace h := it_t hc h
            refine zJ_aload_n dX11_built_35 rfl rfl ?_
            refine zJ_getr (mi := mX11_built) dX11_built_36 F_X11_26 zW_0 rfl rfl ?_
            refine zJ_iload_n dX11_built_39 rfl rfl ?_
            refine zJ_iload_n dX11_built_40 rfl rfl ?_
            obtain ⟨course_heightsn2, rule_stackn3, rule_thingsn4, course_countsn5, course_polesn6, course_refusalsn7, hcl, h⟩ := bd6_some h
            refine zJ_callV2 (σ := σ) (L := ([(193, numbers_size), (323, course_fences), (326, course_horseCount), (328, course_planCount), (769, course_rule_size)], [(6, course_kinds), (7, course_heights), (8, course_feet), (10, course_digits), (11, course_plans), (13, rule_codes), (15, rule_stack), (16, rule_things), (17, course_counts), (18, course_poles), (19, course_refusals)], [(4, numbers_told)])) (mi := mX11_built) (yi := mX1_countThrough) (as := [.int p1, .int p2]) (st := []) (L2 := ([(193, numbers_size), (323, course_fences), (326, course_horseCount), (328, course_planCount), (769, course_rule_size)], [(6, course_kinds), (7, course_heightsn2), (8, course_feet), (10, course_digits), (11, course_plans), (13, rule_codes), (15, rule_stackn3), (16, rule_thingsn4), (17, course_countsn5), (18, course_polesn6), (19, course_refusalsn7)], [(4, numbers_told)])) dX11_built_41 ML_X11_414 Yv_X1_countThrough rfl zW_5 rfl rfl (t_X1_countThrough l _ hcl) (zsub_i (zle_c rfl (zle_c rfl (zle_c rfl zle_n))) (zle_c rfl (zle_c rfl (zle_c rfl (zle_c rfl (zle_c rfl (zle_c rfl (zle_c rfl (zle_c rfl (zle_c rfl (zle_c rfl (zle_c rfl zle_n))))))))))) zle_n) (zjok_i rfl rfl (zle_c rfl (zle_c rfl (zle_c rfl (zle_c rfl (zle_c rfl zle_n))))) rfl rfl (zle_c rfl (zle_c rfl (zle_c rfl (zle_c rfl (zle_c rfl (zle_c rfl (zle_c rfl (zle_c rfl (zle_c rfl (zle_c rfl (zle_c rfl zle_n))))))))))) rfl rfl (zle_c rfl zle_n)) (Nat.le_of_ble_eq_true rfl) (Nat.le_of_ble_eq_true rfl) rfl rfl ?_
            refine zJ_iconst dX11_built_44 zc_m1 rfl ?_
            refine zJ_istore (ls' := [(4, .int (-1 : Int32)), (0, .ref 0), (1, .int p1), (2, .int p2), (3, .int p3)]) dX11_built_45 rfl rfl rfl ?_
            refine zJ_aload_n dX11_built_47 rfl rfl ?_
            refine zJ_iload_n dX11_built_48 rfl rfl ?_
            refine zJ_iload_n dX11_built_49 rfl rfl ?_
            obtain ⟨rn8, rule_stackn9, rule_thingsn10, hcl, h⟩ := bd3_some h
            refine zJ_callV2 (σ := σ) (L := ([(193, numbers_size), (323, course_fences), (326, course_horseCount), (328, course_planCount), (769, course_rule_size)], [(6, course_kinds), (7, course_heightsn2), (8, course_feet), (10, course_digits), (11, course_plans), (13, rule_codes), (15, rule_stackn3), (16, rule_thingsn4), (17, course_countsn5), (18, course_polesn6), (19, course_refusalsn7)], [(4, numbers_told)])) (mi := mX11_built) (yi := mX11_bitsThrough) (as := [.int p1, .int p2]) (st := []) (L2 := ([(193, numbers_size), (323, course_fences), (326, course_horseCount), (328, course_planCount), (769, course_rule_size)], [(6, course_kinds), (7, course_heightsn2), (8, course_feet), (10, course_digits), (11, course_plans), (13, rule_codes), (15, rule_stackn9), (16, rule_thingsn10), (17, course_countsn5), (18, course_polesn6), (19, course_refusalsn7)], [(4, numbers_told)])) dX11_built_50 ML_X11_406 Yv_X11_bitsThrough rfl zW_0 rfl rfl (t_X11_bitsThrough l _ hcl) (zsub_i (zle_c rfl (zle_c rfl (zle_c rfl zle_n))) (zle_c rfl (zle_c rfl (zle_c rfl (zle_c rfl (zle_c rfl (zle_c rfl (zle_c rfl (zle_c rfl zle_n)))))))) zle_n) (zjok_i rfl rfl (zle_c rfl (zle_c rfl (zle_c rfl (zle_c rfl (zle_c rfl zle_n))))) rfl rfl (zle_c rfl (zle_c rfl (zle_c rfl (zle_c rfl (zle_c rfl (zle_c rfl (zle_c rfl (zle_c rfl (zle_c rfl (zle_c rfl (zle_c rfl zle_n))))))))))) rfl rfl (zle_c rfl zle_n)) (Nat.le_of_ble_eq_true rfl) (Nat.le_of_ble_eq_true rfl) rfl rfl ?_
            obtain ⟨rn11, hcl, h⟩ := bd1_some h
            refine zJ_callS2 (σ := σ) (L := ([(193, numbers_size), (323, course_fences), (326, course_horseCount), (328, course_planCount), (769, course_rule_size)], [(6, course_kinds), (7, course_heightsn2), (8, course_feet), (10, course_digits), (11, course_plans), (13, rule_codes), (15, rule_stackn9), (16, rule_thingsn10), (17, course_countsn5), (18, course_polesn6), (19, course_refusalsn7)], [(4, numbers_told)])) (mi := mX11_built) (yi := mJ6_bitCount_0f7a4) (as := [.int rn8]) (st := []) (L2 := ([(193, numbers_size), (323, course_fences), (326, course_horseCount), (328, course_planCount), (769, course_rule_size)], [(6, course_kinds), (7, course_heightsn2), (8, course_feet), (10, course_digits), (11, course_plans), (13, rule_codes), (15, rule_stackn9), (16, rule_thingsn10), (17, course_countsn5), (18, course_polesn6), (19, course_refusalsn7)], [(4, numbers_told)])) dX11_built_53 ML_X11_409 Ys_J6_bitCount_0f7a4 rfl (t_J6_bitCount_0f7a4 l _ hcl) (zsub_i zle_n zle_n zle_n) (zjok_i rfl rfl (zle_c rfl (zle_c rfl (zle_c rfl (zle_c rfl (zle_c rfl zle_n))))) rfl rfl (zle_c rfl (zle_c rfl (zle_c rfl (zle_c rfl (zle_c rfl (zle_c rfl (zle_c rfl (zle_c rfl (zle_c rfl (zle_c rfl (zle_c rfl zle_n))))))))))) rfl rfl (zle_c rfl zle_n)) (Nat.le_of_ble_eq_true rfl) (Nat.le_of_ble_eq_true rfl) rfl rfl ?_
            refine zJ_istore (ls' := [(5, .int rn11), (4, .int (-1 : Int32)), (0, .ref 0), (1, .int p1), (2, .int p2), (3, .int p3)]) dX11_built_56 rfl rfl rfl ?_
            refine zJ_iconst dX11_built_58 zc_0 rfl ?_
            refine zJ_istore (ls' := [(6, .int (0 : Int32)), (5, .int rn11), (4, .int (-1 : Int32)), (0, .ref 0), (1, .int p1), (2, .int p2), (3, .int p3)]) dX11_built_59 rfl rfl rfl ?_
            have hk61 : ∀ (v4_61x : Int32) (v5_61x : Int32), k_X11_built_61 numbers_size numbers_told course_heightsn2 course_countsn5 course_polesn6 course_refusalsn7 rule_stackn9 rule_thingsn10 v4_61x v5_61x = some (r, w_numbers_size, w_course_heights, w_rule_stack, w_rule_things, w_course_counts, w_course_poles, w_course_refusals, w_numbers_told) → zJ l zW 6 mX11_built σ ([(193, numbers_size), (323, course_fences), (326, course_horseCount), (328, course_planCount), (769, course_rule_size)], [(6, course_kinds), (7, course_heightsn2), (8, course_feet), (10, course_digits), (11, course_plans), (13, rule_codes), (15, rule_stackn9), (16, rule_thingsn10), (17, course_countsn5), (18, course_polesn6), (19, course_refusalsn7)], [(4, numbers_told)]) 123 [(0, .ref 0), (4, .int v4_61x), (5, .int v5_61x)] [] (some (.int r)) ([(193, w_numbers_size), (323, course_fences), (326, course_horseCount), (328, course_planCount), (769, course_rule_size)], [(6, course_kinds), (7, w_course_heights), (8, course_feet), (10, course_digits), (11, course_plans), (13, rule_codes), (15, w_rule_stack), (16, w_rule_things), (17, w_course_counts), (18, w_course_poles), (19, w_course_refusals)], [(4, w_numbers_told)]) := by
              intro v4_61x v5_61x h
              unfold k_X11_built_61 at h
              refine zJ_aload_n dX11_built_123 rfl rfl ?_
              refine zJ_getr (mi := mX11_built) dX11_built_124 F_X11_19 zW_0 rfl rfl ?_
              obtain ⟨numbers_sizen12, hcl, h⟩ := bd1_some h
              refine zJ_callV2 (σ := σ) (L := ([(193, numbers_size), (323, course_fences), (326, course_horseCount), (328, course_planCount), (769, course_rule_size)], [(6, course_kinds), (7, course_heightsn2), (8, course_feet), (10, course_digits), (11, course_plans), (13, rule_codes), (15, rule_stackn9), (16, rule_thingsn10), (17, course_countsn5), (18, course_polesn6), (19, course_refusalsn7)], [(4, numbers_told)])) (mi := mX11_built) (yi := mX6_start) (as := []) (st := []) (L2 := ([(193, numbers_sizen12), (323, course_fences), (326, course_horseCount), (328, course_planCount), (769, course_rule_size)], [(6, course_kinds), (7, course_heightsn2), (8, course_feet), (10, course_digits), (11, course_plans), (13, rule_codes), (15, rule_stackn9), (16, rule_thingsn10), (17, course_countsn5), (18, course_polesn6), (19, course_refusalsn7)], [(4, numbers_told)])) dX11_built_127 ML_X11_171 Yv_X6_start rfl zW_3 rfl rfl (t_X6_start l _ hcl) (zsub_i (zle_c rfl zle_n) zle_n zle_n) (zjok_i rfl rfl (zle_c rfl (zle_c rfl (zle_c rfl (zle_c rfl (zle_c rfl zle_n))))) rfl rfl (zle_c rfl (zle_c rfl (zle_c rfl (zle_c rfl (zle_c rfl (zle_c rfl (zle_c rfl (zle_c rfl (zle_c rfl (zle_c rfl (zle_c rfl zle_n))))))))))) rfl rfl (zle_c rfl zle_n)) (Nat.le_of_ble_eq_true rfl) (Nat.le_of_ble_eq_true rfl) rfl rfl ?_
              refine zJ_aload_n dX11_built_130 rfl rfl ?_
              refine zJ_getr (mi := mX11_built) dX11_built_131 F_X11_19 zW_0 rfl rfl ?_
              refine zJ_iload dX11_built_134 rfl rfl ?_
              refine zJ_iconst dX11_built_136 zc_m1 rfl ?_
              have hj_X11_built_152 : ∀ (t1_152j : Int64), j_X11_built_152 numbers_told course_heightsn2 course_countsn5 course_polesn6 course_refusalsn7 rule_stackn9 rule_thingsn10 v4_61x v5_61x numbers_sizen12 t1_152j = some (r, w_numbers_size, w_course_heights, w_rule_stack, w_rule_things, w_course_counts, w_course_poles, w_course_refusals, w_numbers_told) → zJ l zW 6 mX11_built σ ([(193, numbers_sizen12), (323, course_fences), (326, course_horseCount), (328, course_planCount), (769, course_rule_size)], [(6, course_kinds), (7, course_heightsn2), (8, course_feet), (10, course_digits), (11, course_plans), (13, rule_codes), (15, rule_stackn9), (16, rule_thingsn10), (17, course_countsn5), (18, course_polesn6), (19, course_refusalsn7)], [(4, numbers_told)]) 152 [(0, .ref 0), (4, .int v4_61x), (5, .int v5_61x)] [.long t1_152j, .ref 3] (some (.int r)) ([(193, w_numbers_size), (323, course_fences), (326, course_horseCount), (328, course_planCount), (769, course_rule_size)], [(6, course_kinds), (7, w_course_heights), (8, course_feet), (10, course_digits), (11, course_plans), (13, rule_codes), (15, w_rule_stack), (16, w_rule_things), (17, w_course_counts), (18, w_course_poles), (19, w_course_refusals)], [(4, w_numbers_told)]) := by
                intro t1_152j h
                unfold j_X11_built_152 at h
                obtain ⟨numbers_sizen13, numbers_toldn14, hcl, h⟩ := bd2_some h
                refine zJ_callV2 (σ := σ) (L := ([(193, numbers_sizen12), (323, course_fences), (326, course_horseCount), (328, course_planCount), (769, course_rule_size)], [(6, course_kinds), (7, course_heightsn2), (8, course_feet), (10, course_digits), (11, course_plans), (13, rule_codes), (15, rule_stackn9), (16, rule_thingsn10), (17, course_countsn5), (18, course_polesn6), (19, course_refusalsn7)], [(4, numbers_told)])) (mi := mX11_built) (yi := mX6_put) (as := [.long t1_152j]) (st := []) (L2 := ([(193, numbers_sizen13), (323, course_fences), (326, course_horseCount), (328, course_planCount), (769, course_rule_size)], [(6, course_kinds), (7, course_heightsn2), (8, course_feet), (10, course_digits), (11, course_plans), (13, rule_codes), (15, rule_stackn9), (16, rule_thingsn10), (17, course_countsn5), (18, course_polesn6), (19, course_refusalsn7)], [(4, numbers_toldn14)])) dX11_built_152 ML_X11_177 Yv_X6_put rfl zW_3 rfl rfl (t_X6_put l _ hcl) (zsub_i (zle_c rfl zle_n) zle_n (zle_c rfl zle_n)) (zjok_i rfl rfl (zle_c rfl (zle_c rfl (zle_c rfl (zle_c rfl (zle_c rfl zle_n))))) rfl rfl (zle_c rfl (zle_c rfl (zle_c rfl (zle_c rfl (zle_c rfl (zle_c rfl (zle_c rfl (zle_c rfl (zle_c rfl (zle_c rfl (zle_c rfl zle_n))))))))))) rfl rfl (zle_c rfl zle_n)) (Nat.le_of_ble_eq_true rfl) (Nat.le_of_ble_eq_true rfl) rfl rfl ?_
                refine zJ_aload_n dX11_built_155 rfl rfl ?_
                refine zJ_getr (mi := mX11_built) dX11_built_156 F_X11_19 zW_0 rfl rfl ?_
                refine zJ_iload dX11_built_159 rfl rfl ?_
                refine zJ_i2l dX11_built_161 rfl ?_
                obtain ⟨numbers_sizen15, numbers_toldn16, hcl, h⟩ := bd2_some h
                refine zJ_callV2 (σ := σ) (L := ([(193, numbers_sizen13), (323, course_fences), (326, course_horseCount), (328, course_planCount), (769, course_rule_size)], [(6, course_kinds), (7, course_heightsn2), (8, course_feet), (10, course_digits), (11, course_plans), (13, rule_codes), (15, rule_stackn9), (16, rule_thingsn10), (17, course_countsn5), (18, course_polesn6), (19, course_refusalsn7)], [(4, numbers_toldn14)])) (mi := mX11_built) (yi := mX6_put) (as := [.long v5_61x.toInt64]) (st := []) (L2 := ([(193, numbers_sizen15), (323, course_fences), (326, course_horseCount), (328, course_planCount), (769, course_rule_size)], [(6, course_kinds), (7, course_heightsn2), (8, course_feet), (10, course_digits), (11, course_plans), (13, rule_codes), (15, rule_stackn9), (16, rule_thingsn10), (17, course_countsn5), (18, course_polesn6), (19, course_refusalsn7)], [(4, numbers_toldn16)])) dX11_built_162 ML_X11_177 Yv_X6_put rfl zW_3 rfl rfl (t_X6_put l _ hcl) (zsub_i (zle_c rfl zle_n) zle_n (zle_c rfl zle_n)) (zjok_i rfl rfl (zle_c rfl (zle_c rfl (zle_c rfl (zle_c rfl (zle_c rfl zle_n))))) rfl rfl (zle_c rfl (zle_c rfl (zle_c rfl (zle_c rfl (zle_c rfl (zle_c rfl (zle_c rfl (zle_c rfl (zle_c rfl (zle_c rfl (zle_c rfl zle_n))))))))))) rfl rfl (zle_c rfl zle_n)) (Nat.le_of_ble_eq_true rfl) (Nat.le_of_ble_eq_true rfl) rfl rfl ?_
                refine zJ_iload dX11_built_165 rfl rfl ?_
                refine zJ_iconst dX11_built_167 zc_m1 rfl ?_
                refine zJ_icmp_ne (tgt := 175) dX11_built_168 (by decide) rfl (fun hc => ?_) (fun hc => ?_)
                · replace h := it_f hc h
                  refine zJ_iload dX11_built_175 rfl rfl ?_
                  refine zJ_bipush dX11_built_177 zb_10 rfl ?_
                  refine zJ_idiv dX11_built_179 (by decide) rfl ?_
                  obtain ⟨rfl, rfl, rfl, rfl, rfl, rfl, rfl, rfl, rfl⟩ := so9 h
                  exact zJ_iret dX11_built_180 rfl rfl
                · replace h := it_t hc h
                  refine zJ_iconst dX11_built_171 zc_m1 rfl ?_
                  refine zJ_goto (tgt := 180) dX11_built_172 (by decide) ?_
                  obtain ⟨rfl, rfl, rfl, rfl, rfl, rfl, rfl, rfl, rfl⟩ := so9 h
                  exact zJ_iret dX11_built_180 rfl rfl
              refine zJ_icmp_ne (tgt := 146) dX11_built_137 (by decide) rfl (fun hc => ?_) (fun hc => ?_)
              · replace h := it_f hc h
                refine zJ_iload dX11_built_146 rfl rfl ?_
                refine zJ_bipush dX11_built_148 zb_10 rfl ?_
                refine zJ_irem dX11_built_150 (by decide) rfl ?_
                refine zJ_i2l dX11_built_151 rfl ?_
                refine zJ_loc (ls' := [(0, .ref 0), (4, .int v4_61x), (5, .int v5_61x)]) (zll_c rfl (zll_c rfl (zll_c rfl zll_n))) ?_
                exact hj_X11_built_152 _ h
              · replace h := it_t hc h
                refine zJ_ldc2_w (v := -1) dX11_built_140 C_X11_399 rfl ?_
                refine zJ_goto (tgt := 152) dX11_built_143 (by decide) ?_
                refine zJ_loc (ls' := [(0, .ref 0), (4, .int v4_61x), (5, .int v5_61x)]) (zll_c rfl (zll_c rfl (zll_c rfl zll_n))) ?_
                exact hj_X11_built_152 _ h
            refine zJ_loc (ls' := [(0, .ref 0), (3, .int p3), (4, .int (-1 : Int32)), (5, .int rn11), (6, .int (0 : Int32))]) (zll_c rfl (zll_c rfl (zll_c rfl (zll_c rfl (zll_c rfl zll_n))))) ?_
            refine ml3_J (fun (v4_61 : Int32) (v5_61 : Int32) (v6_61 : Int32) => zJ l zW 6 mX11_built σ ([(193, numbers_size), (323, course_fences), (326, course_horseCount), (328, course_planCount), (769, course_rule_size)], [(6, course_kinds), (7, course_heightsn2), (8, course_feet), (10, course_digits), (11, course_plans), (13, rule_codes), (15, rule_stackn9), (16, rule_thingsn10), (17, course_countsn5), (18, course_polesn6), (19, course_refusalsn7)], [(4, numbers_told)]) 61 [(0, .ref 0), (3, .int p3), (4, .int v4_61), (5, .int v5_61), (6, .int v6_61)] [] (some (.int r)) ([(193, w_numbers_size), (323, course_fences), (326, course_horseCount), (328, course_planCount), (769, course_rule_size)], [(6, course_kinds), (7, w_course_heights), (8, course_feet), (10, course_digits), (11, course_plans), (13, rule_codes), (15, w_rule_stack), (16, w_rule_things), (17, w_course_counts), (18, w_course_poles), (19, w_course_refusals)], [(4, w_numbers_told)])) (fun rc61 hrc61 v4_61 v5_61 v6_61 h => ?_) zN _ _ _ h
            unfold s_X11_built_61 at h
            refine zJ_iload dX11_built_61 rfl rfl ?_
            refine zJ_aload_n dX11_built_63 rfl rfl ?_
            refine zJ_getr (mi := mX11_built) dX11_built_64 F_X11_26 zW_0 rfl rfl ?_
            refine zJ_geti (mi := mX11_built) (x := course_fences) dX11_built_67 F_X11_157 zW_5 rfl rfl rfl ?_
            refine zJ_bipush dX11_built_70 zb_10 rfl ?_
            refine zJ_imul dX11_built_72 rfl ?_
            refine zJ_icmp_ge (tgt := 123) dX11_built_73 (by decide) rfl (fun hc => ?_) (fun hc => ?_)
            · replace h := it_t hc h
              refine zJ_loc (ls' := [(0, .ref 0), (4, .int v4_61), (5, .int v5_61)]) (zll_c rfl (zll_c rfl (zll_c rfl zll_n))) ?_
              exact hk61 _ _ h
            · replace h := it_f hc h
              refine zJ_aload_n dX11_built_76 rfl rfl ?_
              refine zJ_getr (mi := mX11_built) dX11_built_77 F_X11_26 zW_0 rfl rfl ?_
              refine zJ_getr (mi := mX11_built) dX11_built_80 F_X11_418 zW_5 rfl rfl ?_
              refine zJ_iload dX11_built_83 rfl rfl ?_
              obtain ⟨hg, h⟩ := gd_some h
              refine zJ_iald (mi := mX11_built) (f := course_countsn5) dX11_built_85 zW_17 (ix_in hg) rfl rfl ?_
              refine zJ_iload_n dX11_built_86 rfl rfl ?_
              refine zJ_isub dX11_built_87 rfl ?_
              refine zJ_mabs (mi := mX11_built) dX11_built_88 L_X11_421 K_abs_s K_math K_abs_c (Nat.le_of_ble_eq_true rfl) (Nat.le_of_ble_eq_true rfl) rfl ?_
              refine zJ_iload dX11_built_91 rfl rfl ?_
              refine zJ_iload_n dX11_built_93 rfl rfl ?_
              refine zJ_isub dX11_built_94 rfl ?_
              refine zJ_mabs (mi := mX11_built) dX11_built_95 L_X11_421 K_abs_s K_math K_abs_c (Nat.le_of_ble_eq_true rfl) (Nat.le_of_ble_eq_true rfl) rfl ?_
              refine zJ_icmp_ge (tgt := 117) dX11_built_98 (by decide) rfl (fun hc => ?_) (fun hc => ?_)
              · replace h := it_t hc h
                obtain ⟨v6n17, ev6n17, h⟩ := lt1_some h
                refine zJ_iincN (ls' := [(6, .int v6n17), (0, .ref 0), (3, .int p3), (4, .int v4_61), (5, .int v5_61)]) dX11_built_117 rfl rfl zc_1 ev6n17 rfl rfl ?_
                refine zJ_goto (tgt := 61) dX11_built_120 (by decide) ?_
                refine zJ_loc (ls' := [(0, .ref 0), (3, .int p3), (4, .int v4_61), (5, .int v5_61), (6, .int v6n17)]) (zll_c rfl (zll_c rfl (zll_c rfl (zll_c rfl (zll_c rfl zll_n))))) ?_
                exact hrc61 _ _ _ h
              · replace h := it_f hc h
                refine zJ_iload dX11_built_101 rfl rfl ?_
                refine zJ_istore (ls' := [(4, .int v6_61), (0, .ref 0), (3, .int p3), (5, .int v5_61), (6, .int v6_61)]) dX11_built_103 rfl rfl rfl ?_
                refine zJ_aload_n dX11_built_105 rfl rfl ?_
                refine zJ_getr (mi := mX11_built) dX11_built_106 F_X11_26 zW_0 rfl rfl ?_
                refine zJ_getr (mi := mX11_built) dX11_built_109 F_X11_418 zW_5 rfl rfl ?_
                refine zJ_iload dX11_built_112 rfl rfl ?_
                obtain ⟨hg, h⟩ := gd_some h
                refine zJ_iald (mi := mX11_built) (f := course_countsn5) dX11_built_114 zW_17 (ix_in hg) rfl rfl ?_
                obtain ⟨v5n18, ev5n18, h⟩ := lt1_some h
                refine zJ_nmi ev5n18 ?_
                refine zJ_istore (ls' := [(5, .int v5n18), (4, .int v6_61), (0, .ref 0), (3, .int p3), (6, .int v6_61)]) dX11_built_115 rfl rfl rfl ?_
                obtain ⟨v6n19, ev6n19, h⟩ := lt1_some h
                refine zJ_iincN (ls' := [(6, .int v6n19), (5, .int v5n18), (4, .int v6_61), (0, .ref 0), (3, .int p3)]) dX11_built_117 rfl rfl zc_1 ev6n19 rfl rfl ?_
                refine zJ_goto (tgt := 61) dX11_built_120 (by decide) ?_
                refine zJ_loc (ls' := [(0, .ref 0), (3, .int p3), (4, .int v6_61), (5, .int v5n18), (6, .int v6n19)]) (zll_c rfl (zll_c rfl (zll_c rfl (zll_c rfl (zll_c rfl zll_n))))) ?_
                exact hrc61 _ _ _ h
          · replace h := it_f hc h
            refine zJ_bipush dX11_built_32 zb_m2 rfl ?_
            obtain ⟨rfl, rfl, rfl, rfl, rfl, rfl, rfl, rfl, rfl⟩ := so9 h
            exact zJ_iret dX11_built_34 rfl rfl
