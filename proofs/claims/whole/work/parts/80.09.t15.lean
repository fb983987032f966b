set_option maxRecDepth 100000 in
set_option maxHeartbeats 4000000 in
theorem t_X11_through (l : Launch) (σ : zS) {p1 : Int32} {p2 : Int32} {numbers_size : Int32} {course_fences : Int32} {course_horseCount : Int32} {course_planCount : Int32} {course_rule_size : Int32} {course_kinds : (Nat → Int32)} {course_heights : (Nat → Int32)} {course_feet : (Nat → Int32)} {course_digits : (Nat → Int32)} {course_plans : (Nat → Int32)} {rule_codes : (Nat → Int32)} {rule_stack : (Nat → Int32)} {rule_things : (Nat → Int32)} {numbers_told : (Nat → Int64)} {r : Int32} {w_numbers_size : Int32} {w_rule_stack : (Nat → Int32)} {w_rule_things : (Nat → Int32)} {w_numbers_told : (Nat → Int64)} (h : f_X11_through p1 p2 numbers_size course_fences course_horseCount course_planCount course_rule_size course_kinds course_heights course_feet course_digits course_plans rule_codes rule_stack rule_things numbers_told = some (r, w_numbers_size, w_rule_stack, w_rule_things, w_numbers_told)) : zMt l zW 6 mX11_through σ ([(193, numbers_size), (323, course_fences), (326, course_horseCount), (328, course_planCount), (769, course_rule_size)], [(6, course_kinds), (7, course_heights), (8, course_feet), (10, course_digits), (11, course_plans), (13, rule_codes), (15, rule_stack), (16, rule_things)], [(4, numbers_told)]) [.ref 0, .int p1, .int p2] (some (.int r)) ([(193, w_numbers_size), (323, course_fences), (326, course_horseCount), (328, course_planCount), (769, course_rule_size)], [(6, course_kinds), (7, course_heights), (8, course_feet), (10, course_digits), (11, course_plans), (13, rule_codes), (15, w_rule_stack), (16, w_rule_things)], [(4, w_numbers_told)]) := by
  refine zMt_of (ls := [(0, .ref 0), (1, .int p1), (2, .int p2)]) (by decide) rfl (fun _ => Nat.le_of_ble_eq_true rfl) rfl ?_
  unfold f_X11_through at h
  refine zJ_aload_n dX11_through_0 rfl rfl ?_
  refine zJ_getr (mi := mX11_through) dX11_through_1 F_X11_26 zW_0 rfl rfl ?_
  refine zJ_iload_n dX11_through_4 rfl rfl ?_
  obtain ⟨rn1, hcl, h⟩ := bd1_some h
  refine zJ_callV2 (σ := σ) (L := ([(193, numbers_size), (323, course_fences), (326, course_horseCount), (328, course_planCount), (769, course_rule_size)], [(6, course_kinds), (7, course_heights), (8, course_feet), (10, course_digits), (11, course_plans), (13, rule_codes), (15, rule_stack), (16, rule_things)], [(4, numbers_told)])) (mi := mX11_through) (yi := mX1_hasPlan) (as := [.int p1]) (st := []) (L2 := ([(193, numbers_size), (323, course_fences), (326, course_horseCount), (328, course_planCount), (769, course_rule_size)], [(6, course_kinds), (7, course_heights), (8, course_feet), (10, course_digits), (11, course_plans), (13, rule_codes), (15, rule_stack), (16, rule_things)], [(4, numbers_told)])) dX11_through_5 ML_X11_191 Yv_X1_hasPlan rfl zW_5 rfl rfl (t_X1_hasPlan l _ hcl) (zsub_i (zle_c rfl zle_n) zle_n zle_n) (zjok_i rfl rfl (zle_c rfl (zle_c rfl (zle_c rfl (zle_c rfl (zle_c rfl zle_n))))) rfl rfl (zle_c rfl (zle_c rfl (zle_c rfl (zle_c rfl (zle_c rfl (zle_c rfl (zle_c rfl (zle_c rfl zle_n)))))))) rfl rfl (zle_c rfl zle_n)) (Nat.le_of_ble_eq_true rfl) (Nat.le_of_ble_eq_true rfl) rfl rfl ?_
  refine zJ_if_eq (tgt := 22) dX11_through_8 (by decide) rfl (fun hc => ?_) (fun hc => ?_)
  · replace h := it_t hc h
    refine zJ_iconst dX11_through_22 zc_m1 rfl ?_
    obtain ⟨rfl, rfl, rfl, rfl, rfl⟩ := so5 h
    exact zJ_iret dX11_through_23 rfl rfl
  · replace h := it_f hc h
    refine zJ_iload_n dX11_through_11 rfl rfl ?_
    refine zJ_if_lt (tgt := 22) dX11_through_12 (by decide) rfl (fun hc => ?_) (fun hc => ?_)
    · replace h := it_t hc h
      refine zJ_iconst dX11_through_22 zc_m1 rfl ?_
      obtain ⟨rfl, rfl, rfl, rfl, rfl⟩ := so5 h
      exact zJ_iret dX11_through_23 rfl rfl
    · replace h := it_f hc h
      refine zJ_iload_n dX11_through_15 rfl rfl ?_
      refine zJ_sipush dX11_through_16 zs_10000 rfl ?_
      refine zJ_icmp_le (tgt := 24) dX11_through_19 (by decide) rfl (fun hc => ?_) (fun hc => ?_)
      · replace h := it_t hc h
        refine zJ_aload_n dX11_through_24 rfl rfl ?_
        refine zJ_iload_n dX11_through_25 rfl rfl ?_
        refine zJ_iload_n dX11_through_26 rfl rfl ?_
        obtain ⟨rn2, rule_stackn3, rule_thingsn4, hcl, h⟩ := bd3_some h
        refine zJ_callV2 (σ := σ) (L := ([(193, numbers_size), (323, course_fences), (326, course_horseCount), (328, course_planCount), (769, course_rule_size)], [(6, course_kinds), (7, course_heights), (8, course_feet), (10, course_digits), (11, course_plans), (13, rule_codes), (15, rule_stack), (16, rule_things)], [(4, numbers_told)])) (mi := mX11_through) (yi := mX11_bitsThrough) (as := [.int p1, .int p2]) (st := []) (L2 := ([(193, numbers_size), (323, course_fences), (326, course_horseCount), (328, course_planCount), (769, course_rule_size)], [(6, course_kinds), (7, course_heights), (8, course_feet), (10, course_digits), (11, course_plans), (13, rule_codes), (15, rule_stackn3), (16, rule_thingsn4)], [(4, numbers_told)])) dX11_through_27 ML_X11_406 Yv_X11_bitsThrough rfl zW_0 rfl rfl (t_X11_bitsThrough l _ hcl) (zsub_i (zle_c rfl (zle_c rfl (zle_c rfl zle_n))) (zle_c rfl (zle_c rfl (zle_c rfl (zle_c rfl (zle_c rfl (zle_c rfl (zle_c rfl (zle_c rfl zle_n)))))))) zle_n) (zjok_i rfl rfl (zle_c rfl (zle_c rfl (zle_c rfl (zle_c rfl (zle_c rfl zle_n))))) rfl rfl (zle_c rfl (zle_c rfl (zle_c rfl (zle_c rfl (zle_c rfl (zle_c rfl (zle_c rfl (zle_c rfl zle_n)))))))) rfl rfl (zle_c rfl zle_n)) (Nat.le_of_ble_eq_true rfl) (Nat.le_of_ble_eq_true rfl) rfl rfl ?_
        refine zJ_istore_n (ls' := [(3, .int rn2), (0, .ref 0), (1, .int p1), (2, .int p2)]) dX11_through_30 rfl rfl rfl ?_
        refine zJ_aload_n dX11_through_31 rfl rfl ?_
        refine zJ_getr (mi := mX11_through) dX11_through_32 F_X11_19 zW_0 rfl rfl ?_
        obtain ⟨numbers_sizen5, hcl, h⟩ := bd1_some h
        refine zJ_callV2 (σ := σ) (L := ([(193, numbers_size), (323, course_fences), (326, course_horseCount), (328, course_planCount), (769, course_rule_size)], [(6, course_kinds), (7, course_heights), (8, course_feet), (10, course_digits), (11, course_plans), (13, rule_codes), (15, rule_stackn3), (16, rule_thingsn4)], [(4, numbers_told)])) (mi := mX11_through) (yi := mX6_start) (as := []) (st := []) (L2 := ([(193, numbers_sizen5), (323, course_fences), (326, course_horseCount), (328, course_planCount), (769, course_rule_size)], [(6, course_kinds), (7, course_heights), (8, course_feet), (10, course_digits), (11, course_plans), (13, rule_codes), (15, rule_stackn3), (16, rule_thingsn4)], [(4, numbers_told)])) dX11_through_35 ML_X11_171 Yv_X6_start rfl zW_3 rfl rfl (t_X6_start l _ hcl) (zsub_i (zle_c rfl zle_n) zle_n zle_n) (zjok_i rfl rfl (zle_c rfl (zle_c rfl (zle_c rfl (zle_c rfl (zle_c rfl zle_n))))) rfl rfl (zle_c rfl (zle_c rfl (zle_c rfl (zle_c rfl (zle_c rfl (zle_c rfl (zle_c rfl (zle_c rfl zle_n)))))))) rfl rfl (zle_c rfl zle_n)) (Nat.le_of_ble_eq_true rfl) (Nat.le_of_ble_eq_true rfl) rfl rfl ?_
        refine zJ_aload_n dX11_through_38 rfl rfl ?_
        refine zJ_getr (mi := mX11_through) dX11_through_39 F_X11_19 zW_0 rfl rfl ?_
        refine zJ_iload_n dX11_through_42 rfl rfl ?_
        obtain ⟨rn6, hcl, h⟩ := bd1_some h
        refine zJ_callS2 (σ := σ) (L := ([(193, numbers_sizen5), (323, course_fences), (326, course_horseCount), (328, course_planCount), (769, course_rule_size)], [(6, course_kinds), (7, course_heights), (8, course_feet), (10, course_digits), (11, course_plans), (13, rule_codes), (15, rule_stackn3), (16, rule_thingsn4)], [(4, numbers_told)])) (mi := mX11_through) (yi := mJ6_bitCount_0f7a4) (as := [.int rn2]) (st := [.ref 3]) (L2 := ([(193, numbers_sizen5), (323, course_fences), (326, course_horseCount), (328, course_planCount), (769, course_rule_size)], [(6, course_kinds), (7, course_heights), (8, course_feet), (10, course_digits), (11, course_plans), (13, rule_codes), (15, rule_stackn3), (16, rule_thingsn4)], [(4, numbers_told)])) dX11_through_43 ML_X11_409 Ys_J6_bitCount_0f7a4 rfl (t_J6_bitCount_0f7a4 l _ hcl) (zsub_i zle_n zle_n zle_n) (zjok_i rfl rfl (zle_c rfl (zle_c rfl (zle_c rfl (zle_c rfl (zle_c rfl zle_n))))) rfl rfl (zle_c rfl (zle_c rfl (zle_c rfl (zle_c rfl (zle_c rfl (zle_c rfl (zle_c rfl (zle_c rfl zle_n)))))))) rfl rfl (zle_c rfl zle_n)) (Nat.le_of_ble_eq_true rfl) (Nat.le_of_ble_eq_true rfl) rfl rfl ?_
        refine zJ_i2l dX11_through_46 rfl ?_
        obtain ⟨numbers_sizen7, numbers_toldn8, hcl, h⟩ := bd2_some h
        refine zJ_callV2 (σ := σ) (L := ([(193, numbers_sizen5), (323, course_fences), (326, course_horseCount), (328, course_planCount), (769, course_rule_size)], [(6, course_kinds), (7, course_heights), (8, course_feet), (10, course_digits), (11, course_plans), (13, rule_codes), (15, rule_stackn3), (16, rule_thingsn4)], [(4, numbers_told)])) (mi := mX11_through) (yi := mX6_put) (as := [.long rn6.toInt64]) (st := []) (L2 := ([(193, numbers_sizen7), (323, course_fences), (326, course_horseCount), (328, course_planCount), (769, course_rule_size)], [(6, course_kinds), (7, course_heights), (8, course_feet), (10, course_digits), (11, course_plans), (13, rule_codes), (15, rule_stackn3), (16, rule_thingsn4)], [(4, numbers_toldn8)])) dX11_through_47 ML_X11_177 Yv_X6_put rfl zW_3 rfl rfl (t_X6_put l _ hcl) (zsub_i (zle_c rfl zle_n) zle_n (zle_c rfl zle_n)) (zjok_i rfl rfl (zle_c rfl (zle_c rfl (zle_c rfl (zle_c rfl (zle_c rfl zle_n))))) rfl rfl (zle_c rfl (zle_c rfl (zle_c rfl (zle_c rfl (zle_c rfl (zle_c rfl (zle_c rfl (zle_c rfl zle_n)))))))) rfl rfl (zle_c rfl zle_n)) (Nat.le_of_ble_eq_true rfl) (Nat.le_of_ble_eq_true rfl) rfl rfl ?_
        refine zJ_iload_n dX11_through_50 rfl rfl ?_
        obtain ⟨rfl, rfl, rfl, rfl, rfl⟩ := so5 h
        exact zJ_iret dX11_through_51 rfl rfl
      · replace h := it_f hc h
        refine zJ_iconst dX11_through_22 zc_m1 rfl ?_
        obtain ⟨rfl, rfl, rfl, rfl, rfl⟩ := so5 h
        exact zJ_iret dX11_through_23 rfl rfl
set_option maxRecDepth 100000 in
set_option maxHeartbeats 4000000 in
theorem t_X11_told (l : Launch) (σ : zS) {p1 : Int32} {p2 : Int32} {p3 : Int32} {p4 : Int32} {course_horseCount : Int32} {rounds_size : Int32} {history_slots : Int32} {history_count : Int32} {rounds_riders : (Nat → Int32)} {rounds_horses : (Nat → Int32)} {rounds_faults : (Nat → Int32)} {rounds_tenths : (Nat → Int32)} {history_cells : (Nat → Int32)} {history_sizes : (Nat → Int32)} {r : Int32} {w_rounds_size : Int32} {w_history_count : Int32} {w_rounds_riders : (Nat → Int32)} {w_rounds_horses : (Nat → Int32)} {w_rounds_faults : (Nat → Int32)} {w_rounds_tenths : (Nat → Int32)} {w_history_cells : (Nat → Int32)} {w_history_sizes : (Nat → Int32)} (h : f_X11_told p1 p2 p3 p4 course_horseCount rounds_size history_slots history_count rounds_riders rounds_horses rounds_faults rounds_tenths history_cells history_sizes = some (r, w_rounds_size, w_history_count, w_rounds_riders, w_rounds_horses, w_rounds_faults, w_rounds_tenths, w_history_cells, w_history_sizes)) : zMt l zW 3 mX11_told σ ([(326, course_horseCount), (1284, rounds_size), (1728, history_slots), (1731, history_count)], [(21, rounds_riders), (22, rounds_horses), (23, rounds_faults), (24, rounds_tenths), (28, history_cells), (29, history_sizes)], []) [.ref 0, .int p1, .int p2, .int p3, .int p4] (some (.int r)) ([(326, course_horseCount), (1284, w_rounds_size), (1728, history_slots), (1731, w_history_count)], [(21, w_rounds_riders), (22, w_rounds_horses), (23, w_rounds_faults), (24, w_rounds_tenths), (28, w_history_cells), (29, w_history_sizes)], []) := by
  refine zMt_of (ls := [(0, .ref 0), (1, .int p1), (2, .int p2), (3, .int p3), (4, .int p4)]) (by decide) rfl (fun _ => Nat.le_of_ble_eq_true rfl) rfl ?_
  unfold f_X11_told at h
  refine zJ_aload_n dX11_told_0 rfl rfl ?_
  refine zJ_getr (mi := mX11_told) dX11_told_1 F_X11_42 zW_0 rfl rfl ?_
  refine zJ_aload_n dX11_told_4 rfl rfl ?_
  refine zJ_getr (mi := mX11_told) dX11_told_5 F_X11_33 zW_0 rfl rfl ?_
  obtain ⟨history_cellsn1, history_sizesn2, hcl, h⟩ := bd2_some h
  refine zJ_callV2 (σ := σ) (L := ([(326, course_horseCount), (1284, rounds_size), (1728, history_slots), (1731, history_count)], [(21, rounds_riders), (22, rounds_horses), (23, rounds_faults), (24, rounds_tenths), (28, history_cells), (29, history_sizes)], [])) (mi := mX11_told) (yi := mX8_mark) (as := [.ref 20]) (st := []) (L2 := ([(326, course_horseCount), (1284, rounds_size), (1728, history_slots), (1731, history_count)], [(21, rounds_riders), (22, rounds_horses), (23, rounds_faults), (24, rounds_tenths), (28, history_cellsn1), (29, history_sizesn2)], [])) dX11_told_8 ML_X11_236 Yv_X8_mark rfl zW_27 rfl rfl (t_X8_mark_history l _ hcl) (zsub_i (zle_c rfl (zle_c rfl (zle_c rfl zle_n))) (zle_c rfl (zle_c rfl (zle_c rfl (zle_c rfl (zle_c rfl (zle_c rfl zle_n)))))) zle_n) (zjok_i rfl rfl (zle_c rfl (zle_c rfl (zle_c rfl (zle_c rfl zle_n)))) rfl rfl (zle_c rfl (zle_c rfl (zle_c rfl (zle_c rfl (zle_c rfl (zle_c rfl zle_n)))))) rfl rfl zle_n) (Nat.le_of_ble_eq_true rfl) (Nat.le_of_ble_eq_true rfl) rfl rfl ?_
  refine zJ_aload_n dX11_told_11 rfl rfl ?_
  refine zJ_iload_n dX11_told_12 rfl rfl ?_
  refine zJ_iload_n dX11_told_13 rfl rfl ?_
  refine zJ_iload_n dX11_told_14 rfl rfl ?_
  refine zJ_iload dX11_told_15 rfl rfl ?_
  obtain ⟨rn3, rounds_sizen4, rounds_ridersn5, rounds_horsesn6, rounds_faultsn7, rounds_tenthsn8, hcl, h⟩ := bd6_some h
  refine zJ_callV2 (σ := σ) (L := ([(326, course_horseCount), (1284, rounds_size), (1728, history_slots), (1731, history_count)], [(21, rounds_riders), (22, rounds_horses), (23, rounds_faults), (24, rounds_tenths), (28, history_cellsn1), (29, history_sizesn2)], [])) (mi := mX11_told) (yi := mX11_addTold) (as := [.int p1, .int p2, .int p3, .int p4]) (st := []) (L2 := ([(326, course_horseCount), (1284, rounds_sizen4), (1728, history_slots), (1731, history_count)], [(21, rounds_ridersn5), (22, rounds_horsesn6), (23, rounds_faultsn7), (24, rounds_tenthsn8), (28, history_cellsn1), (29, history_sizesn2)], [])) dX11_told_17 ML_X11_257 Yv_X11_addTold rfl zW_0 rfl rfl (t_X11_addTold l _ hcl) (zsub_i (zle_c rfl (zle_c rfl zle_n)) (zle_c rfl (zle_c rfl (zle_c rfl (zle_c rfl zle_n)))) zle_n) (zjok_i rfl rfl (zle_c rfl (zle_c rfl (zle_c rfl (zle_c rfl zle_n)))) rfl rfl (zle_c rfl (zle_c rfl (zle_c rfl (zle_c rfl (zle_c rfl (zle_c rfl zle_n)))))) rfl rfl zle_n) (Nat.le_of_ble_eq_true rfl) (Nat.le_of_ble_eq_true rfl) rfl rfl ?_
  refine zJ_istore (ls' := [(5, .int rn3), (0, .ref 0), (1, .int p1), (2, .int p2), (3, .int p3), (4, .int p4)]) dX11_told_20 rfl rfl rfl ?_
  refine zJ_iload dX11_told_22 rfl rfl ?_
  refine zJ_if_lt (tgt := 34) dX11_told_24 (by decide) rfl (fun hc => ?_) (fun hc => ?_)
  · replace h := it_t hc h
    refine zJ_iload dX11_told_34 rfl rfl ?_
    obtain ⟨rfl, rfl, rfl, rfl, rfl, rfl, rfl, rfl, rfl⟩ := so9 h
    exact zJ_iret dX11_told_36 rfl rfl
  · replace h := it_f hc h
    refine zJ_aload_n dX11_told_27 rfl rfl ?_
    refine zJ_getr (mi := mX11_told) dX11_told_28 F_X11_42 zW_0 rfl rfl ?_
    obtain ⟨history_countn9, history_cellsn10, history_sizesn11, hcl, h⟩ := bd3_some h
    refine zJ_callV2 (σ := σ) (L := ([(326, course_horseCount), (1284, rounds_sizen4), (1728, history_slots), (1731, history_count)], [(21, rounds_ridersn5), (22, rounds_horsesn6), (23, rounds_faultsn7), (24, rounds_tenthsn8), (28, history_cellsn1), (29, history_sizesn2)], [])) (mi := mX11_told) (yi := mX8_commit) (as := []) (st := []) (L2 := ([(326, course_horseCount), (1284, rounds_sizen4), (1728, history_slots), (1731, history_countn9)], [(21, rounds_ridersn5), (22, rounds_horsesn6), (23, rounds_faultsn7), (24, rounds_tenthsn8), (28, history_cellsn10), (29, history_sizesn11)], [])) dX11_told_31 ML_X11_244 Yv_X8_commit rfl zW_27 rfl rfl (t_X8_commit_history l _ hcl) (zsub_i (zle_c rfl (zle_c rfl zle_n)) (zle_c rfl (zle_c rfl zle_n)) zle_n) (zjok_i rfl rfl (zle_c rfl (zle_c rfl (zle_c rfl (zle_c rfl zle_n)))) rfl rfl (zle_c rfl (zle_c rfl (zle_c rfl (zle_c rfl (zle_c rfl (zle_c rfl zle_n)))))) rfl rfl zle_n) (Nat.le_of_ble_eq_true rfl) (Nat.le_of_ble_eq_true rfl) rfl rfl ?_
    refine zJ_iload dX11_told_34 rfl rfl ?_
    obtain ⟨rfl, rfl, rfl, rfl, rfl, rfl, rfl, rfl, rfl⟩ := so9 h
    exact zJ_iret dX11_told_36 rfl rfl
set_option maxRecDepth 100000 in
set_option maxHeartbeats 4000000 in
theorem t_X8_load_history (l : Launch) (σ : zS) {p1 : Int32} {rounds_size : Int32} {history_slots : Int32} {rounds_riders : (Nat → Int32)} {rounds_horses : (Nat → Int32)} {rounds_faults : (Nat → Int32)} {rounds_tenths : (Nat → Int32)} {history_cells : (Nat → Int32)} {history_sizes : (Nat → Int32)} {r : Int32} {w_rounds_size : Int32} {w_rounds_riders : (Nat → Int32)} {w_rounds_horses : (Nat → Int32)} {w_rounds_faults : (Nat → Int32)} {w_rounds_tenths : (Nat → Int32)} (h : f_X8_load_history p1 rounds_size history_slots rounds_riders rounds_horses rounds_faults rounds_tenths history_cells history_sizes = some (r, w_rounds_size, w_rounds_riders, w_rounds_horses, w_rounds_faults, w_rounds_tenths)) : zMt l zW 1 mX8_load σ ([(1284, rounds_size), (1728, history_slots)], [(21, rounds_riders), (22, rounds_horses), (23, rounds_faults), (24, rounds_tenths), (28, history_cells), (29, history_sizes)], []) [.ref 27, .int p1, .ref 20] (some (.int r)) ([(1284, w_rounds_size), (1728, history_slots)], [(21, w_rounds_riders), (22, w_rounds_horses), (23, w_rounds_faults), (24, w_rounds_tenths), (28, history_cells), (29, history_sizes)], []) := by
  refine zMt_of (ls := [(0, .ref 27), (1, .int p1), (2, .ref 20)]) (by decide) rfl (fun _ => Nat.le_of_ble_eq_true rfl) rfl ?_
  unfold f_X8_load_history at h
  refine zJ_iload_n dX8_load_0 rfl rfl ?_
  refine zJ_if_lt (tgt := 22) dX8_load_1 (by decide) rfl (fun hc => ?_) (fun hc => ?_)
  · replace h := it_t hc h
    refine zJ_iconst dX8_load_22 zc_0 rfl ?_
    obtain ⟨rfl, rfl, rfl, rfl, rfl, rfl⟩ := so6 h
    exact zJ_iret dX8_load_23 rfl (by decide)
  · replace h := it_f hc h
    refine zJ_iload_n dX8_load_4 rfl rfl ?_
    refine zJ_aload_n dX8_load_5 rfl rfl ?_
    refine zJ_geti (mi := mX8_load) (x := history_slots) dX8_load_6 F_X8_15 zW_27 rfl rfl rfl ?_
    refine zJ_icmp_ge (tgt := 22) dX8_load_9 (by decide) rfl (fun hc => ?_) (fun hc => ?_)
    · replace h := it_t hc h
      refine zJ_iconst dX8_load_22 zc_0 rfl ?_
      obtain ⟨rfl, rfl, rfl, rfl, rfl, rfl⟩ := so6 h
      exact zJ_iret dX8_load_23 rfl (by decide)
    · replace h := it_f hc h
      refine zJ_aload_n dX8_load_12 rfl rfl ?_
      refine zJ_getr (mi := mX8_load) dX8_load_13 F_X8_25 zW_27 rfl rfl ?_
      refine zJ_iload_n dX8_load_16 rfl rfl ?_
      obtain ⟨hg, h⟩ := gd_some h
      refine zJ_iald (mi := mX8_load) (f := history_sizes) dX8_load_17 zW_29 (ix_in hg) rfl rfl ?_
      refine zJ_iconst dX8_load_18 zc_m1 rfl ?_
      refine zJ_icmp_ne (tgt := 24) dX8_load_19 (by decide) rfl (fun hc => ?_) (fun hc => ?_)
      · replace h := it_f hc h
        refine zJ_iload_n dX8_load_24 rfl rfl ?_
        refine zJ_bipush dX8_load_25 zb_48 rfl ?_
        refine zJ_imul dX8_load_27 rfl ?_
        obtain ⟨v3n1, ev3n1, h⟩ := lt1_some h
        refine zJ_nmi ev3n1 ?_
        refine zJ_istore_n (ls' := [(3, .int v3n1), (0, .ref 27), (1, .int p1), (2, .ref 20)]) dX8_load_28 rfl rfl rfl ?_
        refine zJ_aload_n dX8_load_29 rfl rfl ?_
        refine zJ_getr (mi := mX8_load) dX8_load_30 F_X8_21 zW_27 rfl rfl ?_
        refine zJ_iload_n dX8_load_33 rfl rfl ?_
        refine zJ_aload_n dX8_load_34 rfl rfl ?_
        refine zJ_getr (mi := mX8_load) dX8_load_35 F_X8_37 zW_20 rfl rfl ?_
        refine zJ_iconst dX8_load_38 zc_0 rfl ?_
        refine zJ_bipush dX8_load_39 zb_12 rfl ?_
        obtain ⟨hg, h⟩ := gd_some h
        refine zK_copyi (mi := mX8_load) (f := history_cells) (g := rounds_riders) (lb' := [(21, (va_cpy history_cells rounds_riders v3n1.toNatClampNeg (0 : Int32).toNatClampNeg (12 : Int32).toNatClampNeg)), (22, rounds_horses), (23, rounds_faults), (24, rounds_tenths), (28, history_cells), (29, history_sizes)]) dX8_load_41 L_X8_42 K_cpy_n K_cpy_s K_sys zW_28 zW_21 rfl rfl (cpok_s hg) (Nat.le_of_ble_eq_true rfl) (Nat.le_of_ble_eq_true rfl) rfl rfl ?_
        refine zJ_aload_n dX8_load_44 rfl rfl ?_
        refine zJ_getr (mi := mX8_load) dX8_load_45 F_X8_21 zW_27 rfl rfl ?_
        refine zJ_iload_n dX8_load_48 rfl rfl ?_
        refine zJ_bipush dX8_load_49 zb_12 rfl ?_
        refine zJ_iadd dX8_load_51 rfl ?_
        refine zJ_aload_n dX8_load_52 rfl rfl ?_
        refine zJ_getr (mi := mX8_load) dX8_load_53 F_X8_48 zW_20 rfl rfl ?_
        refine zJ_iconst dX8_load_56 zc_0 rfl ?_
        refine zJ_bipush dX8_load_57 zb_12 rfl ?_
        obtain ⟨hg, h⟩ := gd_some h
        refine zK_copyi (mi := mX8_load) (f := history_cells) (g := rounds_horses) (lb' := [(21, (va_cpy history_cells rounds_riders v3n1.toNatClampNeg (0 : Int32).toNatClampNeg (12 : Int32).toNatClampNeg)), (22, (va_cpy history_cells rounds_horses (v3n1 + (12 : Int32)).toNatClampNeg (0 : Int32).toNatClampNeg (12 : Int32).toNatClampNeg)), (23, rounds_faults), (24, rounds_tenths), (28, history_cells), (29, history_sizes)]) dX8_load_59 L_X8_42 K_cpy_n K_cpy_s K_sys zW_28 zW_22 rfl rfl (cpok_s hg) (Nat.le_of_ble_eq_true rfl) (Nat.le_of_ble_eq_true rfl) rfl rfl ?_
        refine zJ_aload_n dX8_load_62 rfl rfl ?_
        refine zJ_getr (mi := mX8_load) dX8_load_63 F_X8_21 zW_27 rfl rfl ?_
        refine zJ_iload_n dX8_load_66 rfl rfl ?_
        refine zJ_bipush dX8_load_67 zb_24 rfl ?_
        refine zJ_iadd dX8_load_69 rfl ?_
        refine zJ_aload_n dX8_load_70 rfl rfl ?_
        refine zJ_getr (mi := mX8_load) dX8_load_71 F_X8_51 zW_20 rfl rfl ?_
        refine zJ_iconst dX8_load_74 zc_0 rfl ?_
        refine zJ_bipush dX8_load_75 zb_12 rfl ?_
        obtain ⟨hg, h⟩ := gd_some h
        refine zK_copyi (mi := mX8_load) (f := history_cells) (g := rounds_faults) (lb' := [(21, (va_cpy history_cells rounds_riders v3n1.toNatClampNeg (0 : Int32).toNatClampNeg (12 : Int32).toNatClampNeg)), (22, (va_cpy history_cells rounds_horses (v3n1 + (12 : Int32)).toNatClampNeg (0 : Int32).toNatClampNeg (12 : Int32).toNatClampNeg)), (23, (va_cpy history_cells rounds_faults (v3n1 + (24 : Int32)).toNatClampNeg (0 : Int32).toNatClampNeg (12 : Int32).toNatClampNeg)), (24, rounds_tenths), (28, history_cells), (29, history_sizes)]) dX8_load_77 L_X8_42 K_cpy_n K_cpy_s K_sys zW_28 zW_23 rfl rfl (cpok_s hg) (Nat.le_of_ble_eq_true rfl) (Nat.le_of_ble_eq_true rfl) rfl rfl ?_
        refine zJ_aload_n dX8_load_80 rfl rfl ?_
        refine zJ_getr (mi := mX8_load) dX8_load_81 F_X8_21 zW_27 rfl rfl ?_
        refine zJ_iload_n dX8_load_84 rfl rfl ?_
        refine zJ_bipush dX8_load_85 zb_36 rfl ?_
        refine zJ_iadd dX8_load_87 rfl ?_
        refine zJ_aload_n dX8_load_88 rfl rfl ?_
        refine zJ_getr (mi := mX8_load) dX8_load_89 F_X8_54 zW_20 rfl rfl ?_
        refine zJ_iconst dX8_load_92 zc_0 rfl ?_
        refine zJ_bipush dX8_load_93 zb_12 rfl ?_
        obtain ⟨hg, h⟩ := gd_some h
        refine zK_copyi (mi := mX8_load) (f := history_cells) (g := rounds_tenths) (lb' := [(21, (va_cpy history_cells rounds_riders v3n1.toNatClampNeg (0 : Int32).toNatClampNeg (12 : Int32).toNatClampNeg)), (22, (va_cpy history_cells rounds_horses (v3n1 + (12 : Int32)).toNatClampNeg (0 : Int32).toNatClampNeg (12 : Int32).toNatClampNeg)), (23, (va_cpy history_cells rounds_faults (v3n1 + (24 : Int32)).toNatClampNeg (0 : Int32).toNatClampNeg (12 : Int32).toNatClampNeg)), (24, (va_cpy history_cells rounds_tenths (v3n1 + (36 : Int32)).toNatClampNeg (0 : Int32).toNatClampNeg (12 : Int32).toNatClampNeg)), (28, history_cells), (29, history_sizes)]) dX8_load_95 L_X8_42 K_cpy_n K_cpy_s K_sys zW_28 zW_24 rfl rfl (cpok_s hg) (Nat.le_of_ble_eq_true rfl) (Nat.le_of_ble_eq_true rfl) rfl rfl ?_
        refine zJ_aload_n dX8_load_98 rfl rfl ?_
        refine zJ_aload_n dX8_load_99 rfl rfl ?_
        refine zJ_getr (mi := mX8_load) dX8_load_100 F_X8_25 zW_27 rfl rfl ?_
        refine zJ_iload_n dX8_load_103 rfl rfl ?_
        obtain ⟨hg, h⟩ := gd_some h
        refine zJ_iald (mi := mX8_load) (f := history_sizes) dX8_load_104 zW_29 (ix_in hg) rfl rfl ?_
        refine zK_puti (mi := mX8_load) (la' := [(1284, (history_sizes p1.toNatClampNeg)), (1728, history_slots)]) zW_ok dX8_load_105 F_X8_57 P_10_4 zW_20 rfl rfl rfl ?_
        refine zJ_iconst dX8_load_108 zc_1 rfl ?_
        obtain ⟨rfl, rfl, rfl, rfl, rfl, rfl⟩ := so6 h
        exact zJ_iret dX8_load_109 rfl (by decide)
      · replace h := it_t hc h
        refine zJ_iconst dX8_load_22 zc_0 rfl ?_
        obtain ⟨rfl, rfl, rfl, rfl, rfl, rfl⟩ := so6 h
        exact zJ_iret dX8_load_23 rfl (by decide)
set_option maxRecDepth 100000 in
set_option maxHeartbeats 4000000 in
theorem t_X8_back_history (l : Launch) (σ : zS) {rounds_size : Int32} {history_slots : Int32} {history_count : Int32} {rounds_riders : (Nat → Int32)} {rounds_horses : (Nat → Int32)} {rounds_faults : (Nat → Int32)} {rounds_tenths : (Nat → Int32)} {history_cells : (Nat → Int32)} {history_sizes : (Nat → Int32)} {r : Int32} {w_rounds_size : Int32} {w_history_count : Int32} {w_rounds_riders : (Nat → Int32)} {w_rounds_horses : (Nat → Int32)} {w_rounds_faults : (Nat → Int32)} {w_rounds_tenths : (Nat → Int32)} (h : f_X8_back_history rounds_size history_slots history_count rounds_riders rounds_horses rounds_faults rounds_tenths history_cells history_sizes = some (r, w_rounds_size, w_history_count, w_rounds_riders, w_rounds_horses, w_rounds_faults, w_rounds_tenths)) : zMt l zW 2 mX8_back σ ([(1284, rounds_size), (1728, history_slots), (1731, history_count)], [(21, rounds_riders), (22, rounds_horses), (23, rounds_faults), (24, rounds_tenths), (28, history_cells), (29, history_sizes)], []) [.ref 27, .ref 20] (some (.int r)) ([(1284, w_rounds_size), (1728, history_slots), (1731, w_history_count)], [(21, w_rounds_riders), (22, w_rounds_horses), (23, w_rounds_faults), (24, w_rounds_tenths), (28, history_cells), (29, history_sizes)], []) := by
  refine zMt_of (ls := [(0, .ref 27), (1, .ref 20)]) (by decide) rfl (fun _ => Nat.le_of_ble_eq_true rfl) rfl ?_
  unfold f_X8_back_history at h
  refine zJ_aload_n dX8_back_0 rfl rfl ?_
  refine zJ_geti (mi := mX8_back) (x := history_count) dX8_back_1 F_X8_34 zW_27 rfl rfl rfl ?_
  refine zJ_if_eq (tgt := 21) dX8_back_4 (by decide) rfl (fun hc => ?_) (fun hc => ?_)
  · replace h := it_t hc h
    refine zJ_iconst dX8_back_21 zc_m1 rfl ?_
    obtain ⟨rfl, rfl, rfl, rfl, rfl, rfl, rfl⟩ := so7 h
    exact zJ_iret dX8_back_22 rfl rfl
  · replace h := it_f hc h
    refine zJ_aload_n dX8_back_7 rfl rfl ?_
    refine zJ_aload_n dX8_back_8 rfl rfl ?_
    refine zJ_geti (mi := mX8_back) (x := history_count) dX8_back_9 F_X8_34 zW_27 rfl rfl rfl ?_
    refine zJ_iconst dX8_back_12 zc_1 rfl ?_
    refine zJ_isub dX8_back_13 rfl ?_
    refine zJ_aload_n dX8_back_14 rfl rfl ?_
    obtain ⟨rn1, rounds_sizen2, rounds_ridersn3, rounds_horsesn4, rounds_faultsn5, rounds_tenthsn6, hcl, h⟩ := bd6_some h
    refine zJ_callV2 (σ := σ) (L := ([(1284, rounds_size), (1728, history_slots), (1731, history_count)], [(21, rounds_riders), (22, rounds_horses), (23, rounds_faults), (24, rounds_tenths), (28, history_cells), (29, history_sizes)], [])) (mi := mX8_back) (yi := mX8_load) (as := [.int (history_count - (1 : Int32)), .ref 20]) (st := []) (L2 := ([(1284, rounds_sizen2), (1728, history_slots), (1731, history_count)], [(21, rounds_ridersn3), (22, rounds_horsesn4), (23, rounds_faultsn5), (24, rounds_tenthsn6), (28, history_cells), (29, history_sizes)], [])) dX8_back_15 ML_X8_64 Yv_X8_load rfl zW_27 rfl rfl (t_X8_load_history l _ hcl) (zsub_i (zle_c rfl (zle_c rfl zle_n)) (zle_c rfl (zle_c rfl (zle_c rfl (zle_c rfl (zle_c rfl (zle_c rfl zle_n)))))) zle_n) (zjok_i rfl rfl (zle_c rfl (zle_c rfl (zle_c rfl zle_n))) rfl rfl (zle_c rfl (zle_c rfl (zle_c rfl (zle_c rfl (zle_c rfl (zle_c rfl zle_n)))))) rfl rfl zle_n) (Nat.le_of_ble_eq_true rfl) (Nat.le_of_ble_eq_true rfl) rfl rfl ?_
    refine zJ_if_ne (tgt := 23) dX8_back_18 (by decide) rfl (fun hc => ?_) (fun hc => ?_)
    · replace h := it_f hc h
      refine zJ_aload_n dX8_back_23 rfl rfl ?_
      refine zJ_dup dX8_back_24 rfl rfl ?_
      refine zJ_geti (mi := mX8_back) (x := history_count) dX8_back_25 F_X8_34 zW_27 rfl rfl rfl ?_
      refine zJ_iconst dX8_back_28 zc_1 rfl ?_
      refine zJ_isub dX8_back_29 rfl ?_
      refine zK_puti (mi := mX8_back) (la' := [(1284, rounds_sizen2), (1728, history_slots), (1731, (history_count - (1 : Int32)))]) zW_ok dX8_back_30 F_X8_34 P_8_3 zW_27 rfl rfl rfl ?_
      refine zJ_aload_n dX8_back_33 rfl rfl ?_
      refine zJ_geti (mi := mX8_back) (x := (history_count - (1 : Int32))) dX8_back_34 F_X8_34 zW_27 rfl rfl rfl ?_
      obtain ⟨rfl, rfl, rfl, rfl, rfl, rfl, rfl⟩ := so7 h
      exact zJ_iret dX8_back_37 rfl rfl
    · replace h := it_t hc h
      refine zJ_iconst dX8_back_21 zc_m1 rfl ?_
      obtain ⟨rfl, rfl, rfl, rfl, rfl, rfl, rfl⟩ := so7 h
      exact zJ_iret dX8_back_22 rfl rfl
set_option maxRecDepth 100000 in
set_option maxHeartbeats 4000000 in
theorem t_X11_undo (l : Launch) (σ : zS) {rounds_size : Int32} {history_slots : Int32} {history_count : Int32} {rounds_riders : (Nat → Int32)} {rounds_horses : (Nat → Int32)} {rounds_faults : (Nat → Int32)} {rounds_tenths : (Nat → Int32)} {history_cells : (Nat → Int32)} {history_sizes : (Nat → Int32)} {r : Int32} {w_rounds_size : Int32} {w_history_count : Int32} {w_rounds_riders : (Nat → Int32)} {w_rounds_horses : (Nat → Int32)} {w_rounds_faults : (Nat → Int32)} {w_rounds_tenths : (Nat → Int32)} (h : f_X11_undo rounds_size history_slots history_count rounds_riders rounds_horses rounds_faults rounds_tenths history_cells history_sizes = some (r, w_rounds_size, w_history_count, w_rounds_riders, w_rounds_horses, w_rounds_faults, w_rounds_tenths)) : zMt l zW 3 mX11_undo σ ([(1284, rounds_size), (1728, history_slots), (1731, history_count)], [(21, rounds_riders), (22, rounds_horses), (23, rounds_faults), (24, rounds_tenths), (28, history_cells), (29, history_sizes)], []) [.ref 0] (some (.int r)) ([(1284, w_rounds_size), (1728, history_slots), (1731, w_history_count)], [(21, w_rounds_riders), (22, w_rounds_horses), (23, w_rounds_faults), (24, w_rounds_tenths), (28, history_cells), (29, history_sizes)], []) := by
  refine zMt_of (ls := [(0, .ref 0)]) (by decide) rfl (fun _ => Nat.le_of_ble_eq_true rfl) rfl ?_
  unfold f_X11_undo at h
  refine zJ_aload_n dX11_undo_0 rfl rfl ?_
  refine zJ_getr (mi := mX11_undo) dX11_undo_1 F_X11_42 zW_0 rfl rfl ?_
  refine zJ_aload_n dX11_undo_4 rfl rfl ?_
  refine zJ_getr (mi := mX11_undo) dX11_undo_5 F_X11_33 zW_0 rfl rfl ?_
  obtain ⟨rn1, rounds_sizen2, history_countn3, rounds_ridersn4, rounds_horsesn5, rounds_faultsn6, rounds_tenthsn7, hcl, h⟩ := bd7_some h
  refine zJ_callV2 (σ := σ) (L := ([(1284, rounds_size), (1728, history_slots), (1731, history_count)], [(21, rounds_riders), (22, rounds_horses), (23, rounds_faults), (24, rounds_tenths), (28, history_cells), (29, history_sizes)], [])) (mi := mX11_undo) (yi := mX8_back) (as := [.ref 20]) (st := []) (L2 := ([(1284, rounds_sizen2), (1728, history_slots), (1731, history_countn3)], [(21, rounds_ridersn4), (22, rounds_horsesn5), (23, rounds_faultsn6), (24, rounds_tenthsn7), (28, history_cells), (29, history_sizes)], [])) dX11_undo_8 ML_X11_325 Yv_X8_back rfl zW_27 rfl rfl (t_X8_back_history l _ hcl) (zsub_i (zle_c rfl (zle_c rfl (zle_c rfl zle_n))) (zle_c rfl (zle_c rfl (zle_c rfl (zle_c rfl (zle_c rfl (zle_c rfl zle_n)))))) zle_n) (zjok_i rfl rfl (zle_c rfl (zle_c rfl (zle_c rfl zle_n))) rfl rfl (zle_c rfl (zle_c rfl (zle_c rfl (zle_c rfl (zle_c rfl (zle_c rfl zle_n)))))) rfl rfl zle_n) (Nat.le_of_ble_eq_true rfl) (Nat.le_of_ble_eq_true rfl) rfl rfl ?_
  obtain ⟨rfl, rfl, rfl, rfl, rfl, rfl, rfl⟩ := so7 h
  exact zJ_iret dX11_undo_11 rfl rfl
set_option maxRecDepth 100000 in
set_option maxHeartbeats 4000000 in
theorem t_X11_wind (l : Launch) (σ : zS) {p1 : Int32} {p2 : Int32} {p3 : Int32} {p4 : Int32} {numbers_size : Int32} {course_fences : Int32} {course_horseCount : Int32} {course_planCount : Int32} {course_rule_size : Int32} {course_kinds : (Nat → Int32)} {course_heights : (Nat → Int32)} {course_feet : (Nat → Int32)} {course_digits : (Nat → Int32)} {course_plans : (Nat → Int32)} {rule_codes : (Nat → Int32)} {rule_stack : (Nat → Int32)} {rule_things : (Nat → Int32)} {numbers_told : (Nat → Int64)} {chances : (Nat → Int64)} {r : Int32} {w_numbers_size : Int32} {w_rule_stack : (Nat → Int32)} {w_rule_things : (Nat → Int32)} {w_numbers_told : (Nat → Int64)} {w_chances : (Nat → Int64)} (h : f_X11_wind p1 p2 p3 p4 numbers_size course_fences course_horseCount course_planCount course_rule_size course_kinds course_heights course_feet course_digits course_plans rule_codes rule_stack rule_things numbers_told chances = some (r, w_numbers_size, w_rule_stack, w_rule_things, w_numbers_told, w_chances)) : zMt l zW 5 mX11_wind σ ([(193, numbers_size), (323, course_fences), (326, course_horseCount), (328, course_planCount), (769, course_rule_size)], [(6, course_kinds), (7, course_heights), (8, course_feet), (10, course_digits), (11, course_plans), (13, rule_codes), (15, rule_stack), (16, rule_things)], [(4, numbers_told), (52, chances)]) [.ref 0, .int p1, .int p2, .int p3, .int p4] (some (.int r)) ([(193, w_numbers_size), (323, course_fences), (326, course_horseCount), (328, course_planCount), (769, course_rule_size)], [(6, course_kinds), (7, course_heights), (8, course_feet), (10, course_digits), (11, course_plans), (13, rule_codes), (15, w_rule_stack), (16, w_rule_things)], [(4, w_numbers_told), (52, w_chances)]) := by
  refine zMt_of (ls := [(0, .ref 0), (1, .int p1), (2, .int p2), (3, .int p3), (4, .int p4)]) (by decide) rfl (fun _ => Nat.le_of_ble_eq_true rfl) rfl ?_
  unfold f_X11_wind at h
  refine zJ_aload_n dX11_wind_0 rfl rfl ?_
  refine zJ_getr (mi := mX11_wind) dX11_wind_1 F_X11_26 zW_0 rfl rfl ?_
  refine zJ_iload_n dX11_wind_4 rfl rfl ?_
  obtain ⟨rn1, hcl, h⟩ := bd1_some h
  refine zJ_callV2 (σ := σ) (L := ([(193, numbers_size), (323, course_fences), (326, course_horseCount), (328, course_planCount), (769, course_rule_size)], [(6, course_kinds), (7, course_heights), (8, course_feet), (10, course_digits), (11, course_plans), (13, rule_codes), (15, rule_stack), (16, rule_things)], [(4, numbers_told), (52, chances)])) (mi := mX11_wind) (yi := mX1_hasFence) (as := [.int p1]) (st := []) (L2 := ([(193, numbers_size), (323, course_fences), (326, course_horseCount), (328, course_planCount), (769, course_rule_size)], [(6, course_kinds), (7, course_heights), (8, course_feet), (10, course_digits), (11, course_plans), (13, rule_codes), (15, rule_stack), (16, rule_things)], [(4, numbers_told), (52, chances)])) dX11_wind_5 ML_X11_132 Yv_X1_hasFence rfl zW_5 rfl rfl (t_X1_hasFence l _ hcl) (zsub_i (zle_c rfl zle_n) zle_n zle_n) (zjok_i rfl rfl (zle_c rfl (zle_c rfl (zle_c rfl (zle_c rfl (zle_c rfl zle_n))))) rfl rfl (zle_c rfl (zle_c rfl (zle_c rfl (zle_c rfl (zle_c rfl (zle_c rfl (zle_c rfl (zle_c rfl zle_n)))))))) rfl rfl (zle_c rfl (zle_c rfl zle_n))) (Nat.le_of_ble_eq_true rfl) (Nat.le_of_ble_eq_true rfl) rfl rfl ?_
  refine zJ_if_eq (tgt := 31) dX11_wind_8 (by decide) rfl (fun hc => ?_) (fun hc => ?_)
  · replace h := it_t hc h
    refine zJ_iconst dX11_wind_31 zc_m1 rfl ?_
    obtain ⟨rfl, rfl, rfl, rfl, rfl, rfl⟩ := so6 h
    exact zJ_iret dX11_wind_32 rfl rfl
  · replace h := it_f hc h
    refine zJ_iload_n dX11_wind_11 rfl rfl ?_
    refine zJ_if_lt (tgt := 31) dX11_wind_12 (by decide) rfl (fun hc => ?_) (fun hc => ?_)
    · replace h := it_t hc h
      refine zJ_iconst dX11_wind_31 zc_m1 rfl ?_
      obtain ⟨rfl, rfl, rfl, rfl, rfl, rfl⟩ := so6 h
      exact zJ_iret dX11_wind_32 rfl rfl
    · replace h := it_f hc h
      refine zJ_iload_n dX11_wind_15 rfl rfl ?_
      refine zJ_iload_n dX11_wind_16 rfl rfl ?_
      refine zJ_icmp_lt (tgt := 31) dX11_wind_17 (by decide) rfl (fun hc => ?_) (fun hc => ?_)
      · replace h := it_t hc h
        refine zJ_iconst dX11_wind_31 zc_m1 rfl ?_
        obtain ⟨rfl, rfl, rfl, rfl, rfl, rfl⟩ := so6 h
        exact zJ_iret dX11_wind_32 rfl rfl
      · replace h := it_f hc h
        refine zJ_iload_n dX11_wind_20 rfl rfl ?_
        refine zJ_aload_n dX11_wind_21 rfl rfl ?_
        refine zJ_getr (mi := mX11_wind) dX11_wind_22 F_X11_26 zW_0 rfl rfl ?_
        refine zJ_geti (mi := mX11_wind) (x := course_horseCount) dX11_wind_25 F_X11_368 zW_5 rfl rfl rfl ?_
        refine zJ_icmp_le (tgt := 33) dX11_wind_28 (by decide) rfl (fun hc => ?_) (fun hc => ?_)
        · replace h := it_t hc h
          refine zJ_iload dX11_wind_33 rfl rfl ?_
          refine zJ_if_lt (tgt := 55) dX11_wind_35 (by decide) rfl (fun hc => ?_) (fun hc => ?_)
          · replace h := it_t hc h
            refine zJ_iconst dX11_wind_55 zc_m1 rfl ?_
            obtain ⟨rfl, rfl, rfl, rfl, rfl, rfl⟩ := so6 h
            exact zJ_iret dX11_wind_56 rfl rfl
          · replace h := it_f hc h
            refine zJ_iload dX11_wind_38 rfl rfl ?_
            refine zJ_bipush dX11_wind_40 zb_100 rfl ?_
            refine zJ_icmp_gt (tgt := 55) dX11_wind_42 (by decide) rfl (fun hc => ?_) (fun hc => ?_)
            · replace h := it_t hc h
              refine zJ_iconst dX11_wind_55 zc_m1 rfl ?_
              obtain ⟨rfl, rfl, rfl, rfl, rfl, rfl⟩ := so6 h
              exact zJ_iret dX11_wind_56 rfl rfl
            · replace h := it_f hc h
              refine zJ_aload_n dX11_wind_45 rfl rfl ?_
              refine zJ_getr (mi := mX11_wind) dX11_wind_46 F_X11_26 zW_0 rfl rfl ?_
              refine zJ_geti (mi := mX11_wind) (x := course_planCount) dX11_wind_49 F_X11_362 zW_5 rfl rfl rfl ?_
              refine zJ_if_ne (tgt := 57) dX11_wind_52 (by decide) rfl (fun hc => ?_) (fun hc => ?_)
              · replace h := it_f hc h
                refine zJ_lconst dX11_wind_57 zl_1 rfl ?_
                refine zJ_lstore (ls' := [(5, .long (1 : Int64)), (0, .ref 0), (1, .int p1), (2, .int p2), (3, .int p3), (4, .int p4)]) dX11_wind_58 rfl rfl rfl ?_
                refine zJ_iconst dX11_wind_60 zc_0 rfl ?_
                refine zJ_istore (ls' := [(7, .int (0 : Int32)), (5, .long (1 : Int64)), (0, .ref 0), (1, .int p1), (2, .int p2), (3, .int p3), (4, .int p4)]) dX11_wind_61 rfl rfl rfl ?_
                have hk63 : ∀ (v5_63x : Int64), k_X11_wind_63 p1 p2 p3 p4 numbers_size course_rule_size course_kinds course_heights course_feet course_digits course_plans rule_codes rule_stack rule_things numbers_told chances v5_63x = some (r, w_numbers_size, w_rule_stack, w_rule_things, w_numbers_told, w_chances) → zJ l zW 5 mX11_wind σ ([(193, numbers_size), (323, course_fences), (326, course_horseCount), (328, course_planCount), (769, course_rule_size)], [(6, course_kinds), (7, course_heights), (8, course_feet), (10, course_digits), (11, course_plans), (13, rule_codes), (15, rule_stack), (16, rule_things)], [(4, numbers_told), (52, chances)]) 83 [(0, .ref 0), (1, .int p1), (2, .int p2), (3, .int p3), (4, .int p4), (5, .long v5_63x)] [] (some (.int r)) ([(193, w_numbers_size), (323, course_fences), (326, course_horseCount), (328, course_planCount), (769, course_rule_size)], [(6, course_kinds), (7, course_heights), (8, course_feet), (10, course_digits), (11, course_plans), (13, rule_codes), (15, w_rule_stack), (16, w_rule_things)], [(4, w_numbers_told), (52, w_chances)]) := by
                  intro v5_63x h
                  unfold k_X11_wind_63 at h
                  refine zJ_aload_n dX11_wind_83 rfl rfl ?_
                  refine zJ_iload_n dX11_wind_84 rfl rfl ?_
                  refine zJ_iload_n dX11_wind_85 rfl rfl ?_
                  refine zJ_iload_n dX11_wind_86 rfl rfl ?_
                  refine zJ_iconst dX11_wind_87 zc_0 rfl ?_
                  obtain ⟨rn2, rule_stackn3, rule_thingsn4, chancesn5, hcl, h⟩ := bd4_some h
                  refine zJ_callV2 (σ := σ) (L := ([(193, numbers_size), (323, course_fences), (326, course_horseCount), (328, course_planCount), (769, course_rule_size)], [(6, course_kinds), (7, course_heights), (8, course_feet), (10, course_digits), (11, course_plans), (13, rule_codes), (15, rule_stack), (16, rule_things)], [(4, numbers_told), (52, chances)])) (mi := mX11_wind) (yi := mX11_justFall) (as := [.int p1, .int p2, .int p3, .int (0 : Int32)]) (st := []) (L2 := ([(193, numbers_size), (323, course_fences), (326, course_horseCount), (328, course_planCount), (769, course_rule_size)], [(6, course_kinds), (7, course_heights), (8, course_feet), (10, course_digits), (11, course_plans), (13, rule_codes), (15, rule_stackn3), (16, rule_thingsn4)], [(4, numbers_told), (52, chancesn5)])) dX11_wind_88 ML_X11_437 Yv_X11_justFall rfl zW_0 rfl rfl (t_X11_justFall l _ hcl) (zsub_i (zle_c rfl zle_n) (zle_c rfl (zle_c rfl (zle_c rfl (zle_c rfl (zle_c rfl (zle_c rfl (zle_c rfl (zle_c rfl zle_n)))))))) (zle_c rfl zle_n)) (zjok_i rfl rfl (zle_c rfl (zle_c rfl (zle_c rfl (zle_c rfl (zle_c rfl zle_n))))) rfl rfl (zle_c rfl (zle_c rfl (zle_c rfl (zle_c rfl (zle_c rfl (zle_c rfl (zle_c rfl (zle_c rfl zle_n)))))))) rfl rfl (zle_c rfl (zle_c rfl zle_n))) (Nat.le_of_ble_eq_true rfl) (Nat.le_of_ble_eq_true rfl) rfl rfl ?_
                  refine zJ_lstore (ls' := [(7, .long rn2), (0, .ref 0), (1, .int p1), (2, .int p2), (3, .int p3), (4, .int p4), (5, .long v5_63x)]) dX11_wind_91 rfl rfl rfl ?_
                  refine zJ_aload_n dX11_wind_93 rfl rfl ?_
                  refine zJ_iload_n dX11_wind_94 rfl rfl ?_
                  refine zJ_iload_n dX11_wind_95 rfl rfl ?_
                  refine zJ_iload_n dX11_wind_96 rfl rfl ?_
                  refine zJ_iload dX11_wind_97 rfl rfl ?_
                  obtain ⟨rn6, rule_stackn7, rule_thingsn8, chancesn9, hcl, h⟩ := bd4_some h
                  refine zJ_callV2 (σ := σ) (L := ([(193, numbers_size), (323, course_fences), (326, course_horseCount), (328, course_planCount), (769, course_rule_size)], [(6, course_kinds), (7, course_heights), (8, course_feet), (10, course_digits), (11, course_plans), (13, rule_codes), (15, rule_stackn3), (16, rule_thingsn4)], [(4, numbers_told), (52, chancesn5)])) (mi := mX11_wind) (yi := mX11_justFall) (as := [.int p1, .int p2, .int p3, .int p4]) (st := []) (L2 := ([(193, numbers_size), (323, course_fences), (326, course_horseCount), (328, course_planCount), (769, course_rule_size)], [(6, course_kinds), (7, course_heights), (8, course_feet), (10, course_digits), (11, course_plans), (13, rule_codes), (15, rule_stackn7), (16, rule_thingsn8)], [(4, numbers_told), (52, chancesn9)])) dX11_wind_99 ML_X11_437 Yv_X11_justFall rfl zW_0 rfl rfl (t_X11_justFall l _ hcl) (zsub_i (zle_c rfl zle_n) (zle_c rfl (zle_c rfl (zle_c rfl (zle_c rfl (zle_c rfl (zle_c rfl (zle_c rfl (zle_c rfl zle_n)))))))) (zle_c rfl zle_n)) (zjok_i rfl rfl (zle_c rfl (zle_c rfl (zle_c rfl (zle_c rfl (zle_c rfl zle_n))))) rfl rfl (zle_c rfl (zle_c rfl (zle_c rfl (zle_c rfl (zle_c rfl (zle_c rfl (zle_c rfl (zle_c rfl zle_n)))))))) rfl rfl (zle_c rfl (zle_c rfl zle_n))) (Nat.le_of_ble_eq_true rfl) (Nat.le_of_ble_eq_true rfl) rfl rfl ?_
                  refine zJ_lstore (ls' := [(9, .long rn6), (7, .long rn2), (0, .ref 0), (1, .int p1), (2, .int p2), (3, .int p3), (4, .int p4), (5, .long v5_63x)]) dX11_wind_102 rfl rfl rfl ?_
                  refine zJ_aload_n dX11_wind_104 rfl rfl ?_
                  refine zJ_getr (mi := mX11_wind) dX11_wind_105 F_X11_19 zW_0 rfl rfl ?_
                  obtain ⟨numbers_sizen10, hcl, h⟩ := bd1_some h
                  refine zJ_callV2 (σ := σ) (L := ([(193, numbers_size), (323, course_fences), (326, course_horseCount), (328, course_planCount), (769, course_rule_size)], [(6, course_kinds), (7, course_heights), (8, course_feet), (10, course_digits), (11, course_plans), (13, rule_codes), (15, rule_stackn7), (16, rule_thingsn8)], [(4, numbers_told), (52, chancesn9)])) (mi := mX11_wind) (yi := mX6_start) (as := []) (st := []) (L2 := ([(193, numbers_sizen10), (323, course_fences), (326, course_horseCount), (328, course_planCount), (769, course_rule_size)], [(6, course_kinds), (7, course_heights), (8, course_feet), (10, course_digits), (11, course_plans), (13, rule_codes), (15, rule_stackn7), (16, rule_thingsn8)], [(4, numbers_told), (52, chancesn9)])) dX11_wind_108 ML_X11_171 Yv_X6_start rfl zW_3 rfl rfl (t_X6_start l _ hcl) (zsub_i (zle_c rfl zle_n) zle_n zle_n) (zjok_i rfl rfl (zle_c rfl (zle_c rfl (zle_c rfl (zle_c rfl (zle_c rfl zle_n))))) rfl rfl (zle_c rfl (zle_c rfl (zle_c rfl (zle_c rfl (zle_c rfl (zle_c rfl (zle_c rfl (zle_c rfl zle_n)))))))) rfl rfl (zle_c rfl (zle_c rfl zle_n))) (Nat.le_of_ble_eq_true rfl) (Nat.le_of_ble_eq_true rfl) rfl rfl ?_
                  refine zJ_aload_n dX11_wind_111 rfl rfl ?_
                  refine zJ_getr (mi := mX11_wind) dX11_wind_112 F_X11_19 zW_0 rfl rfl ?_
                  refine zJ_lload dX11_wind_115 rfl rfl ?_
                  refine zJ_lload dX11_wind_117 rfl rfl ?_
                  obtain ⟨numbers_sizen11, numbers_toldn12, hcl, h⟩ := bd2_some h
                  refine zJ_callV2 (σ := σ) (L := ([(193, numbers_sizen10), (323, course_fences), (326, course_horseCount), (328, course_planCount), (769, course_rule_size)], [(6, course_kinds), (7, course_heights), (8, course_feet), (10, course_digits), (11, course_plans), (13, rule_codes), (15, rule_stackn7), (16, rule_thingsn8)], [(4, numbers_told), (52, chancesn9)])) (mi := mX11_wind) (yi := mX6_putFraction) (as := [.long rn2, .long v5_63x]) (st := []) (L2 := ([(193, numbers_sizen11), (323, course_fences), (326, course_horseCount), (328, course_planCount), (769, course_rule_size)], [(6, course_kinds), (7, course_heights), (8, course_feet), (10, course_digits), (11, course_plans), (13, rule_codes), (15, rule_stackn7), (16, rule_thingsn8)], [(4, numbers_toldn12), (52, chancesn9)])) dX11_wind_119 ML_X11_392 Yv_X6_putFraction rfl zW_3 rfl rfl (t_X6_putFraction l _ hcl) (zsub_i (zle_c rfl zle_n) zle_n (zle_c rfl zle_n)) (zjok_i rfl rfl (zle_c rfl (zle_c rfl (zle_c rfl (zle_c rfl (zle_c rfl zle_n))))) rfl rfl (zle_c rfl (zle_c rfl (zle_c rfl (zle_c rfl (zle_c rfl (zle_c rfl (zle_c rfl (zle_c rfl zle_n)))))))) rfl rfl (zle_c rfl (zle_c rfl zle_n))) (Nat.le_of_ble_eq_true rfl) (Nat.le_of_ble_eq_true rfl) rfl rfl ?_
                  refine zJ_aload_n dX11_wind_122 rfl rfl ?_
                  refine zJ_getr (mi := mX11_wind) dX11_wind_123 F_X11_19 zW_0 rfl rfl ?_
                  refine zJ_lload dX11_wind_126 rfl rfl ?_
                  refine zJ_lload dX11_wind_128 rfl rfl ?_
                  obtain ⟨numbers_sizen13, numbers_toldn14, hcl, h⟩ := bd2_some h
                  refine zJ_callV2 (σ := σ) (L := ([(193, numbers_sizen11), (323, course_fences), (326, course_horseCount), (328, course_planCount), (769, course_rule_size)], [(6, course_kinds), (7, course_heights), (8, course_feet), (10, course_digits), (11, course_plans), (13, rule_codes), (15, rule_stackn7), (16, rule_thingsn8)], [(4, numbers_toldn12), (52, chancesn9)])) (mi := mX11_wind) (yi := mX6_putFraction) (as := [.long rn6, .long v5_63x]) (st := []) (L2 := ([(193, numbers_sizen13), (323, course_fences), (326, course_horseCount), (328, course_planCount), (769, course_rule_size)], [(6, course_kinds), (7, course_heights), (8, course_feet), (10, course_digits), (11, course_plans), (13, rule_codes), (15, rule_stackn7), (16, rule_thingsn8)], [(4, numbers_toldn14), (52, chancesn9)])) dX11_wind_130 ML_X11_392 Yv_X6_putFraction rfl zW_3 rfl rfl (t_X6_putFraction l _ hcl) (zsub_i (zle_c rfl zle_n) zle_n (zle_c rfl zle_n)) (zjok_i rfl rfl (zle_c rfl (zle_c rfl (zle_c rfl (zle_c rfl (zle_c rfl zle_n))))) rfl rfl (zle_c rfl (zle_c rfl (zle_c rfl (zle_c rfl (zle_c rfl (zle_c rfl (zle_c rfl (zle_c rfl zle_n)))))))) rfl rfl (zle_c rfl (zle_c rfl zle_n))) (Nat.le_of_ble_eq_true rfl) (Nat.le_of_ble_eq_true rfl) rfl rfl ?_
                  refine zJ_lload dX11_wind_133 rfl rfl ?_
                  refine zJ_lload dX11_wind_135 rfl rfl ?_
                  refine zJ_lcmp dX11_wind_137 rfl ?_
                  refine zJ_if_le (tgt := 145) dX11_wind_138 (by decide) rfl (fun hc => ?_) (fun hc => ?_)
                  · replace h := it_t hc h
                    refine zJ_iconst dX11_wind_145 zc_0 rfl ?_
                    obtain ⟨rfl, rfl, rfl, rfl, rfl, rfl⟩ := so6 h
                    exact zJ_iret dX11_wind_146 rfl rfl
                  · replace h := it_f hc h
                    refine zJ_iconst dX11_wind_141 zc_1 rfl ?_
                    refine zJ_goto (tgt := 146) dX11_wind_142 (by decide) ?_
                    obtain ⟨rfl, rfl, rfl, rfl, rfl, rfl⟩ := so6 h
                    exact zJ_iret dX11_wind_146 rfl rfl
                refine zJ_loc (ls' := [(0, .ref 0), (1, .int p1), (2, .int p2), (3, .int p3), (4, .int p4), (5, .long (1 : Int64)), (7, .int (0 : Int32))]) (zll_c rfl (zll_c rfl (zll_c rfl (zll_c rfl (zll_c rfl (zll_c rfl (zll_c rfl zll_n))))))) ?_
                refine ml2_J (fun (v5_63 : Int64) (v7_63 : Int32) => zJ l zW 5 mX11_wind σ ([(193, numbers_size), (323, course_fences), (326, course_horseCount), (328, course_planCount), (769, course_rule_size)], [(6, course_kinds), (7, course_heights), (8, course_feet), (10, course_digits), (11, course_plans), (13, rule_codes), (15, rule_stack), (16, rule_things)], [(4, numbers_told), (52, chances)]) 63 [(0, .ref 0), (1, .int p1), (2, .int p2), (3, .int p3), (4, .int p4), (5, .long v5_63), (7, .int v7_63)] [] (some (.int r)) ([(193, w_numbers_size), (323, course_fences), (326, course_horseCount), (328, course_planCount), (769, course_rule_size)], [(6, course_kinds), (7, course_heights), (8, course_feet), (10, course_digits), (11, course_plans), (13, rule_codes), (15, w_rule_stack), (16, w_rule_things)], [(4, w_numbers_told), (52, w_chances)])) (fun rc63 hrc63 v5_63 v7_63 h => ?_) zN _ _ h
                unfold s_X11_wind_63 at h
                refine zJ_iload dX11_wind_63 rfl rfl ?_
                refine zJ_iload_n dX11_wind_65 rfl rfl ?_
                refine zJ_icmp_ge (tgt := 83) dX11_wind_66 (by decide) rfl (fun hc => ?_) (fun hc => ?_)
                · replace h := it_t hc h
                  refine zJ_loc (ls' := [(0, .ref 0), (1, .int p1), (2, .int p2), (3, .int p3), (4, .int p4), (5, .long v5_63)]) (zll_c rfl (zll_c rfl (zll_c rfl (zll_c rfl (zll_c rfl (zll_c rfl zll_n)))))) ?_
                  exact hk63 _ h
                · replace h := it_f hc h
                  refine zJ_lload dX11_wind_69 rfl rfl ?_
                  refine zJ_ldc2_w (v := 100) dX11_wind_71 C_X11_211 rfl ?_
                  refine zJ_lmul dX11_wind_74 rfl ?_
                  obtain ⟨v5n15, ev5n15, h⟩ := lt1_some h
                  refine zJ_nml ev5n15 ?_
                  refine zJ_lstore (ls' := [(5, .long v5n15), (0, .ref 0), (1, .int p1), (2, .int p2), (3, .int p3), (4, .int p4), (7, .int v7_63)]) dX11_wind_75 rfl rfl rfl ?_
                  obtain ⟨v7n16, ev7n16, h⟩ := lt1_some h
                  refine zJ_iincN (ls' := [(7, .int v7n16), (5, .long v5n15), (0, .ref 0), (1, .int p1), (2, .int p2), (3, .int p3), (4, .int p4)]) dX11_wind_77 rfl rfl zc_1 ev7n16 rfl rfl ?_
                  refine zJ_goto (tgt := 63) dX11_wind_80 (by decide) ?_
                  refine zJ_loc (ls' := [(0, .ref 0), (1, .int p1), (2, .int p2), (3, .int p3), (4, .int p4), (5, .long v5n15), (7, .int v7n16)]) (zll_c rfl (zll_c rfl (zll_c rfl (zll_c rfl (zll_c rfl (zll_c rfl (zll_c rfl zll_n))))))) ?_
                  exact hrc63 _ _ h
              · replace h := it_t hc h
                refine zJ_iconst dX11_wind_55 zc_m1 rfl ?_
                obtain ⟨rfl, rfl, rfl, rfl, rfl, rfl⟩ := so6 h
                exact zJ_iret dX11_wind_56 rfl rfl
        · replace h := it_f hc h
          refine zJ_iconst dX11_wind_31 zc_m1 rfl ?_
          obtain ⟨rfl, rfl, rfl, rfl, rfl, rfl⟩ := so6 h
          exact zJ_iret dX11_wind_32 rfl rfl
set_option maxRecDepth 100000 in
set_option maxHeartbeats 4000000 in
theorem t_X12_add_m_now (l : Launch) (σ : zS) {p1 : Int32} {p2 : Int32} {p3 : Int32} {p4 : Int32} {m_now : (Nat → Int32)} {w_m_now : (Nat → Int32)} (h : f_X12_add_m_now p1 p2 p3 p4 m_now = some w_m_now) : zMt l zW 0 mX12_add σ ([], [(55, m_now)], []) [.ref 55, .int p1, .int p2, .int p3, .int p4] none ([], [(55, w_m_now)], []) := by
  refine zMt_of (ls := [(0, .ref 55), (1, .int p1), (2, .int p2), (3, .int p3), (4, .int p4)]) (by decide) rfl (fun _ => Nat.le_of_ble_eq_true rfl) rfl ?_
  unfold f_X12_add_m_now at h
  refine zJ_iconst dX12_add_0 zc_4 rfl ?_
  refine zJ_aload_n dX12_add_1 rfl rfl ?_
  refine zJ_bipush dX12_add_2 zb_48 rfl ?_
  obtain ⟨hg, h⟩ := gd_some h
  refine zJ_iald (mi := mX12_add) (f := m_now) dX12_add_4 zW_55 (ix_in hg) rfl rfl ?_
  refine zJ_imul dX12_add_5 rfl ?_
  obtain ⟨v5n1, ev5n1, h⟩ := lt1_some h
  refine zJ_nmi ev5n1 ?_
  refine zJ_istore (ls' := [(5, .int v5n1), (0, .ref 55), (1, .int p1), (2, .int p2), (3, .int p3), (4, .int p4)]) dX12_add_6 rfl rfl rfl ?_
  refine zJ_aload_n dX12_add_8 rfl rfl ?_
  refine zJ_iload dX12_add_9 rfl rfl ?_
  refine zJ_iload_n dX12_add_11 rfl rfl ?_
  obtain ⟨hg, h⟩ := gd_some h
  refine zK_iast (mi := mX12_add) (f := m_now) (lb' := [(55, (upd m_now v5n1.toNatClampNeg p1))]) dX12_add_12 zW_55 (ix_in hg) rfl rfl rfl ?_
  refine zJ_aload_n dX12_add_13 rfl rfl ?_
  refine zJ_iload dX12_add_14 rfl rfl ?_
  refine zJ_iconst dX12_add_16 zc_1 rfl ?_
  refine zJ_iadd dX12_add_17 rfl ?_
  refine zJ_iload_n dX12_add_18 rfl rfl ?_
  obtain ⟨hg, h⟩ := gd_some h
  refine zK_iast (mi := mX12_add) (f := ((upd m_now v5n1.toNatClampNeg p1))) (lb' := [(55, (upd ((upd m_now v5n1.toNatClampNeg p1)) (v5n1 + (1 : Int32)).toNatClampNeg p2))]) dX12_add_19 zW_55 (ix_in hg) rfl rfl rfl ?_
  refine zJ_aload_n dX12_add_20 rfl rfl ?_
  refine zJ_iload dX12_add_21 rfl rfl ?_
  refine zJ_iconst dX12_add_23 zc_2 rfl ?_
  refine zJ_iadd dX12_add_24 rfl ?_
  refine zJ_iload_n dX12_add_25 rfl rfl ?_
  obtain ⟨hg, h⟩ := gd_some h
  refine zK_iast (mi := mX12_add) (f := ((upd ((upd m_now v5n1.toNatClampNeg p1)) (v5n1 + (1 : Int32)).toNatClampNeg p2))) (lb' := [(55, (upd ((upd ((upd m_now v5n1.toNatClampNeg p1)) (v5n1 + (1 : Int32)).toNatClampNeg p2)) (v5n1 + (2 : Int32)).toNatClampNeg p3))]) dX12_add_26 zW_55 (ix_in hg) rfl rfl rfl ?_
  refine zJ_aload_n dX12_add_27 rfl rfl ?_
  refine zJ_iload dX12_add_28 rfl rfl ?_
  refine zJ_iconst dX12_add_30 zc_3 rfl ?_
  refine zJ_iadd dX12_add_31 rfl ?_
  refine zJ_iload dX12_add_32 rfl rfl ?_
  obtain ⟨hg, h⟩ := gd_some h
  refine zK_iast (mi := mX12_add) (f := ((upd ((upd ((upd m_now v5n1.toNatClampNeg p1)) (v5n1 + (1 : Int32)).toNatClampNeg p2)) (v5n1 + (2 : Int32)).toNatClampNeg p3))) (lb' := [(55, (upd ((upd ((upd ((upd m_now v5n1.toNatClampNeg p1)) (v5n1 + (1 : Int32)).toNatClampNeg p2)) (v5n1 + (2 : Int32)).toNatClampNeg p3)) (v5n1 + (3 : Int32)).toNatClampNeg p4))]) dX12_add_34 zW_55 (ix_in hg) rfl rfl rfl ?_
  refine zJ_aload_n dX12_add_35 rfl rfl ?_
  refine zJ_bipush dX12_add_36 zb_48 rfl ?_
  refine zJ_dup2 dX12_add_38 rfl rfl rfl ?_
  obtain ⟨hg, h⟩ := gd_some h
  refine zJ_iald (mi := mX12_add) (f := (upd ((upd ((upd ((upd m_now v5n1.toNatClampNeg p1)) (v5n1 + (1 : Int32)).toNatClampNeg p2)) (v5n1 + (2 : Int32)).toNatClampNeg p3)) (v5n1 + (3 : Int32)).toNatClampNeg p4)) dX12_add_39 zW_55 (ix_in hg) rfl rfl ?_
  refine zJ_iconst dX12_add_40 zc_1 rfl ?_
  refine zJ_iadd dX12_add_41 rfl ?_
  obtain ⟨hg, h⟩ := gd_some h
  refine zK_iast (mi := mX12_add) (f := ((upd ((upd ((upd ((upd m_now v5n1.toNatClampNeg p1)) (v5n1 + (1 : Int32)).toNatClampNeg p2)) (v5n1 + (2 : Int32)).toNatClampNeg p3)) (v5n1 + (3 : Int32)).toNatClampNeg p4))) (lb' := [(55, (upd ((upd ((upd ((upd ((upd m_now v5n1.toNatClampNeg p1)) (v5n1 + (1 : Int32)).toNatClampNeg p2)) (v5n1 + (2 : Int32)).toNatClampNeg p3)) (v5n1 + (3 : Int32)).toNatClampNeg p4)) (48 : Int32).toNatClampNeg ((((upd ((upd ((upd ((upd m_now v5n1.toNatClampNeg p1)) (v5n1 + (1 : Int32)).toNatClampNeg p2)) (v5n1 + (2 : Int32)).toNatClampNeg p3)) (v5n1 + (3 : Int32)).toNatClampNeg p4)) (48 : Int32).toNatClampNeg) + (1 : Int32))))]) dX12_add_42 zW_55 (ix_in hg) rfl rfl rfl ?_
  obtain rfl := so1 h
  exact zJ_vret dX12_add_43 rfl
set_option maxRecDepth 100000 in
set_option maxHeartbeats 4000000 in
theorem t_X12_draw (l : Launch) (σ : zS) {p1 : Int32} {m_drawn : Int32} {r : Int32} {w_m_drawn : Int32} (h : f_X12_draw p1 m_drawn = some (r, w_m_drawn)) : zMt l zW 0 mX12_draw σ ([(3499, m_drawn)], [], []) [.ref 54, .int p1] (some (.int r)) ([(3499, w_m_drawn)], [], []) := by
  refine zMt_of (ls := [(0, .ref 54), (1, .int p1)]) (by decide) rfl (fun _ => Nat.le_of_ble_eq_true rfl) rfl ?_
  unfold f_X12_draw at h
  refine zJ_aload_n dX12_draw_0 rfl rfl ?_
  refine zJ_aload_n dX12_draw_1 rfl rfl ?_
  refine zJ_geti (mi := mX12_draw) (x := m_drawn) dX12_draw_2 F_X12_309 zW_54 rfl rfl rfl ?_
  refine zJ_ldc_w (v := 1103515245) dX12_draw_5 C_X12_312 rfl ?_
  refine zJ_imul dX12_draw_8 rfl ?_
  refine zJ_sipush dX12_draw_9 zs_12345 rfl ?_
  refine zJ_iadd dX12_draw_12 rfl ?_
  refine zK_puti (mi := mX12_draw) (la' := [(3499, ((m_drawn * (1103515245 : Int32)) + (12345 : Int32)))]) zW_ok dX12_draw_13 F_X12_309 P_12_43 zW_54 rfl rfl rfl ?_
  refine zJ_aload_n dX12_draw_16 rfl rfl ?_
  refine zJ_geti (mi := mX12_draw) (x := ((m_drawn * (1103515245 : Int32)) + (12345 : Int32))) dX12_draw_17 F_X12_309 zW_54 rfl rfl rfl ?_
  refine zJ_bipush dX12_draw_20 zb_16 rfl ?_
  refine zJ_iushr dX12_draw_22 rfl ?_
  refine zJ_iload_n dX12_draw_23 rfl rfl ?_
  obtain ⟨hg, h⟩ := gd_some h
  refine zJ_irem dX12_draw_24 (nz_ne hg) rfl ?_
  obtain ⟨rfl, rfl⟩ := so2 h
  exact zJ_iret dX12_draw_25 rfl rfl
set_option maxRecDepth 100000 in
set_option maxHeartbeats 4000000 in
theorem t_X12_letterOf (l : Launch) (σ : zS) {p1 : Int32} {p2 : Int32} {m_plan : (Nat → Int32)} {r : Int32} (h : f_X12_letterOf p1 p2 m_plan = some r) : zMt l zW 0 mX12_letterOf σ ([], [(62, m_plan)], []) [.ref 54, .int p1, .int p2] (some (.int r)) ([], [(62, m_plan)], []) := by
  refine zMt_of (ls := [(0, .ref 54), (1, .int p1), (2, .int p2)]) (by decide) rfl (fun _ => Nat.le_of_ble_eq_true rfl) rfl ?_
  unfold f_X12_letterOf at h
  refine zJ_aload_n dX12_letterOf_0 rfl rfl ?_
  refine zJ_getr (mi := mX12_letterOf) dX12_letterOf_1 F_X12_35 zW_54 rfl rfl ?_
  refine zJ_bipush dX12_letterOf_4 zb_8 rfl ?_
  refine zJ_iload_n dX12_letterOf_6 rfl rfl ?_
  refine zJ_imul dX12_letterOf_7 rfl ?_
  refine zJ_iload_n dX12_letterOf_8 rfl rfl ?_
  refine zJ_iadd dX12_letterOf_9 rfl ?_
  obtain ⟨hg, h⟩ := gd_some h
  refine zJ_iald (mi := mX12_letterOf) (f := m_plan) dX12_letterOf_10 zW_62 (ix_in hg) rfl rfl ?_
  obtain rfl := so1 h
  exact zJ_iret dX12_letterOf_11 rfl rfl
set_option maxRecDepth 100000 in
set_option maxHeartbeats 4000000 in
theorem t_X12_begin_m_rule (l : Launch) (σ : zS) {p2 : Int32} {p3 : Int32} {m_read : Int32} {m_length : Int32} {m_top : Int32} {m_at : Int32} {m_wrong : Int32} {w_m_length : Int32} {w_m_top : Int32} {w_m_at : Int32} {w_m_wrong : Int32} (h : f_X12_begin_m_rule p2 p3 m_read m_length m_top m_at m_wrong = some (w_m_length, w_m_top, w_m_at, w_m_wrong)) : zMt l zW 0 mX12_begin σ ([(3474, m_read), (3475, m_length), (3476, m_top), (3477, m_at), (3478, m_wrong)], [], []) [.ref 54, .ref 69, .int p2, .int p3] none ([(3474, (nI 69)), (3475, w_m_length), (3476, w_m_top), (3477, w_m_at), (3478, w_m_wrong)], [], []) := by
  refine zMt_of (ls := [(0, .ref 54), (1, .ref 69), (2, .int p2), (3, .int p3)]) (by decide) rfl (fun _ => Nat.le_of_ble_eq_true rfl) rfl ?_
  unfold f_X12_begin_m_rule at h
  refine zJ_aload_n dX12_begin_0 rfl rfl ?_
  refine zJ_aload_n dX12_begin_1 rfl rfl ?_
  refine zK_putq (mi := mX12_begin) (la' := [(3474, (nI 69)), (3475, m_length), (3476, m_top), (3477, m_at), (3478, m_wrong)]) zW_ok dX12_begin_2 F_X12_142 P_12_18 zW_54 rfl (fun _ => rfl) (fun _ => rfl) (by decide) rfl rfl ?_
  refine zJ_aload_n dX12_begin_5 rfl rfl ?_
  refine zJ_iload_n dX12_begin_6 rfl rfl ?_
  refine zK_puti (mi := mX12_begin) (la' := [(3474, (nI 69)), (3475, p2), (3476, m_top), (3477, m_at), (3478, m_wrong)]) zW_ok dX12_begin_7 F_X12_145 P_12_19 zW_54 rfl rfl rfl ?_
  refine zJ_aload_n dX12_begin_10 rfl rfl ?_
  refine zJ_iload_n dX12_begin_11 rfl rfl ?_
  refine zK_puti (mi := mX12_begin) (la' := [(3474, (nI 69)), (3475, p2), (3476, p3), (3477, m_at), (3478, m_wrong)]) zW_ok dX12_begin_12 F_X12_148 P_12_20 zW_54 rfl rfl rfl ?_
  refine zJ_aload_n dX12_begin_15 rfl rfl ?_
  refine zJ_iconst dX12_begin_16 zc_0 rfl ?_
  refine zK_puti (mi := mX12_begin) (la' := [(3474, (nI 69)), (3475, p2), (3476, p3), (3477, (0 : Int32)), (3478, m_wrong)]) zW_ok dX12_begin_17 F_X12_151 P_12_21 zW_54 rfl rfl rfl ?_
  refine zJ_aload_n dX12_begin_20 rfl rfl ?_
  refine zJ_iconst dX12_begin_21 zc_m1 rfl ?_
  refine zK_puti (mi := mX12_begin) (la' := [(3474, (nI 69)), (3475, p2), (3476, p3), (3477, (0 : Int32)), (3478, (-1 : Int32))]) zW_ok dX12_begin_22 F_X12_154 P_12_22 zW_54 rfl rfl rfl ?_
  obtain ⟨rfl, rfl, rfl, rfl⟩ := so4 h
  exact zJ_vret dX12_begin_25 rfl
set_option maxRecDepth 100000 in
set_option maxHeartbeats 4000000 in
theorem t_X12_fine (l : Launch) (σ : zS) {m_wrong : Int32} {r : Int32} (h : f_X12_fine m_wrong = some r) : zMt l zW 0 mX12_fine σ ([(3478, m_wrong)], [], []) [.ref 54] (some (.int r)) ([(3478, m_wrong)], [], []) := by
  refine zMt_of (ls := [(0, .ref 54)]) (by decide) rfl (fun _ => Nat.le_of_ble_eq_true rfl) rfl ?_
  unfold f_X12_fine at h
  refine zJ_aload_n dX12_fine_0 rfl rfl ?_
  refine zJ_geti (mi := mX12_fine) (x := m_wrong) dX12_fine_1 F_X12_154 zW_54 rfl rfl rfl ?_
  refine zJ_iconst dX12_fine_4 zc_m1 rfl ?_
  refine zJ_icmp_ne (tgt := 12) dX12_fine_5 (by decide) rfl (fun hc => ?_) (fun hc => ?_)
  · replace h := it_f hc h
    refine zJ_iconst dX12_fine_12 zc_0 rfl ?_
    obtain rfl := so1 h
    exact zJ_iret dX12_fine_13 rfl (by decide)
  · replace h := it_t hc h
    refine zJ_iconst dX12_fine_8 zc_1 rfl ?_
    refine zJ_goto (tgt := 13) dX12_fine_9 (by decide) ?_
    obtain rfl := so1 h
    exact zJ_iret dX12_fine_13 rfl (by decide)
set_option maxRecDepth 100000 in
set_option maxHeartbeats 4000000 in
theorem t_X12_here_r (l : Launch) (σ : zS) {m_length : Int32} {m_top : Int32} {m_at : Int32} {m_rule : (Nat → Int32)} {r : Int32} (h : f_X12_here_r m_length m_top m_at m_rule = some r) : zMt l zW 0 mX12_here σ ([(3474, (nI 69)), (3475, m_length), (3476, m_top), (3477, m_at)], [(69, m_rule)], []) [.ref 54] (some (.int r)) ([(3474, (nI 69)), (3475, m_length), (3476, m_top), (3477, m_at)], [(69, m_rule)], []) := by
  refine zMt_of (ls := [(0, .ref 54)]) (by decide) rfl (fun _ => Nat.le_of_ble_eq_true rfl) rfl ?_
  unfold f_X12_here_r at h
  refine zJ_aload_n dX12_here_0 rfl rfl ?_
  refine zJ_geti (mi := mX12_here) (x := m_at) dX12_here_1 F_X12_151 zW_54 rfl rfl rfl ?_
  refine zJ_aload_n dX12_here_4 rfl rfl ?_
  refine zJ_geti (mi := mX12_here) (x := m_length) dX12_here_5 F_X12_145 zW_54 rfl rfl rfl ?_
  refine zJ_icmp_ge (tgt := 38) dX12_here_8 (by decide) rfl (fun hc => ?_) (fun hc => ?_)
  · replace h := it_t hc h
    refine zJ_iconst dX12_here_38 zc_m1 rfl ?_
    obtain rfl := so1 h
    exact zJ_iret dX12_here_39 rfl rfl
  · replace h := it_f hc h
    refine zJ_aload_n dX12_here_11 rfl rfl ?_
    refine zJ_geti (mi := mX12_here) (x := m_at) dX12_here_12 F_X12_151 zW_54 rfl rfl rfl ?_
    refine zJ_aload_n dX12_here_15 rfl rfl ?_
    refine zJ_geti (mi := mX12_here) (x := m_top) dX12_here_16 F_X12_148 zW_54 rfl rfl rfl ?_
    refine zJ_icmp_ge (tgt := 38) dX12_here_19 (by decide) rfl (fun hc => ?_) (fun hc => ?_)
    · replace h := it_t hc h
      refine zJ_iconst dX12_here_38 zc_m1 rfl ?_
      obtain rfl := so1 h
      exact zJ_iret dX12_here_39 rfl rfl
    · replace h := it_f hc h
      refine zJ_aload_n dX12_here_22 rfl rfl ?_
      refine zJ_getq (mi := mX12_here) (q := 69) dX12_here_23 F_X12_142 zW_54 rfl rfl (by decide) rfl ?_
      refine zJ_aload_n dX12_here_26 rfl rfl ?_
      refine zJ_geti (mi := mX12_here) (x := m_at) dX12_here_27 F_X12_151 zW_54 rfl rfl rfl ?_
      obtain ⟨hg, h⟩ := gd_some h
      refine zJ_bald (mi := mX12_here) (f := m_rule) dX12_here_30 zW_69 (ix_in hg) rfl rfl ?_
      refine zJ_sipush dX12_here_31 zs_255 rfl ?_
      refine zJ_iand dX12_here_34 rfl ?_
      refine zJ_goto (tgt := 39) dX12_here_35 (by decide) ?_
      obtain rfl := so1 h
      exact zJ_iret dX12_here_39 rfl rfl
set_option maxRecDepth 100000 in
set_option maxHeartbeats 4000000 in
theorem t_X12_passes_r (l : Launch) (σ : zS) {p1 : Int32} {m_length : Int32} {m_top : Int32} {m_at : Int32} {m_wrong : Int32} {m_rule : (Nat → Int32)} {r : Int32} {w_m_at : Int32} (h : f_X12_passes_r p1 m_length m_top m_at m_wrong m_rule = some (r, w_m_at)) : zMt l zW 1 mX12_passes σ ([(3474, (nI 69)), (3475, m_length), (3476, m_top), (3477, m_at), (3478, m_wrong)], [(69, m_rule)], []) [.ref 54, .int p1] (some (.int r)) ([(3474, (nI 69)), (3475, m_length), (3476, m_top), (3477, w_m_at), (3478, m_wrong)], [(69, m_rule)], []) := by
  refine zMt_of (ls := [(0, .ref 54), (1, .int p1)]) (by decide) rfl (fun _ => Nat.le_of_ble_eq_true rfl) rfl ?_
  unfold f_X12_passes_r at h
  refine zJ_aload_n dX12_passes_0 rfl rfl ?_
  obtain ⟨rn1, hcl, h⟩ := bd1_some h
  refine zJ_callV2 (σ := σ) (L := ([(3474, (nI 69)), (3475, m_length), (3476, m_top), (3477, m_at), (3478, m_wrong)], [(69, m_rule)], [])) (mi := mX12_passes) (yi := mX12_fine) (as := []) (st := []) (L2 := ([(3474, (nI 69)), (3475, m_length), (3476, m_top), (3477, m_at), (3478, m_wrong)], [(69, m_rule)], [])) dX12_passes_1 ML_X12_157 Yv_X12_fine rfl zW_54 rfl rfl (t_X12_fine l _ hcl) (zsub_i (zle_c rfl zle_n) zle_n zle_n) (zjok_i rfl rfl (zle_c rfl (zle_c rfl (zle_c rfl (zle_c rfl (zle_c rfl zle_n))))) rfl rfl (zle_c rfl zle_n) rfl rfl zle_n) (Nat.le_of_ble_eq_true rfl) (Nat.le_of_ble_eq_true rfl) rfl rfl ?_
  refine zJ_if_eq (tgt := 15) dX12_passes_4 (by decide) rfl (fun hc => ?_) (fun hc => ?_)
  · replace h := it_t hc h
    refine zJ_iconst dX12_passes_15 zc_0 rfl ?_
    obtain ⟨rfl, rfl⟩ := so2 h
    exact zJ_iret dX12_passes_16 rfl (by decide)
  · replace h := it_f hc h
    refine zJ_aload_n dX12_passes_7 rfl rfl ?_
    obtain ⟨rn2, hcl, h⟩ := bd1_some h
    refine zJ_callV2 (σ := σ) (L := ([(3474, (nI 69)), (3475, m_length), (3476, m_top), (3477, m_at), (3478, m_wrong)], [(69, m_rule)], [])) (mi := mX12_passes) (yi := mX12_here) (as := []) (st := []) (L2 := ([(3474, (nI 69)), (3475, m_length), (3476, m_top), (3477, m_at), (3478, m_wrong)], [(69, m_rule)], [])) dX12_passes_8 ML_X12_161 Yv_X12_here rfl zW_54 rfl rfl (t_X12_here_r l _ hcl) (zsub_i (zle_c rfl (zle_c rfl (zle_c rfl (zle_c rfl zle_n)))) (zle_c rfl zle_n) zle_n) (zjok_i rfl rfl (zle_c rfl (zle_c rfl (zle_c rfl (zle_c rfl (zle_c rfl zle_n))))) rfl rfl (zle_c rfl zle_n) rfl rfl zle_n) (Nat.le_of_ble_eq_true rfl) (Nat.le_of_ble_eq_true rfl) rfl rfl ?_
    refine zJ_iload_n dX12_passes_11 rfl rfl ?_
    refine zJ_icmp_eq (tgt := 17) dX12_passes_12 (by decide) rfl (fun hc => ?_) (fun hc => ?_)
    · replace h := it_t hc h
      refine zJ_aload_n dX12_passes_17 rfl rfl ?_
      refine zJ_dup dX12_passes_18 rfl rfl ?_
      refine zJ_geti (mi := mX12_passes) (x := m_at) dX12_passes_19 F_X12_151 zW_54 rfl rfl rfl ?_
      refine zJ_iconst dX12_passes_22 zc_1 rfl ?_
      refine zJ_iadd dX12_passes_23 rfl ?_
      refine zK_puti (mi := mX12_passes) (la' := [(3474, (nI 69)), (3475, m_length), (3476, m_top), (3477, (m_at + (1 : Int32))), (3478, m_wrong)]) zW_ok dX12_passes_24 F_X12_151 P_12_21 zW_54 rfl rfl rfl ?_
      refine zJ_iconst dX12_passes_27 zc_1 rfl ?_
      obtain ⟨rfl, rfl⟩ := so2 h
      exact zJ_iret dX12_passes_28 rfl (by decide)
    · replace h := it_f hc h
      refine zJ_iconst dX12_passes_15 zc_0 rfl ?_
      obtain ⟨rfl, rfl⟩ := so2 h
      exact zJ_iret dX12_passes_16 rfl (by decide)
set_option maxRecDepth 100000 in
set_option maxHeartbeats 4000000 in
theorem t_X12_fault (l : Launch) (σ : zS) {p1 : Int32} {m_wrong : Int32} {w_m_wrong : Int32} (h : f_X12_fault p1 m_wrong = some w_m_wrong) : zMt l zW 1 mX12_fault σ ([(3478, m_wrong)], [], []) [.ref 54, .int p1] none ([(3478, w_m_wrong)], [], []) := by
  refine zMt_of (ls := [(0, .ref 54), (1, .int p1)]) (by decide) rfl (fun _ => Nat.le_of_ble_eq_true rfl) rfl ?_
  unfold f_X12_fault at h
  refine zJ_aload_n dX12_fault_0 rfl rfl ?_
  obtain ⟨rn1, hcl, h⟩ := bd1_some h
  refine zJ_callV2 (σ := σ) (L := ([(3478, m_wrong)], [], [])) (mi := mX12_fault) (yi := mX12_fine) (as := []) (st := []) (L2 := ([(3478, m_wrong)], [], [])) dX12_fault_1 ML_X12_157 Yv_X12_fine rfl zW_54 rfl rfl (t_X12_fine l _ hcl) (zsub_i (zle_c rfl zle_n) zle_n zle_n) (zjok_i rfl rfl (zle_c rfl zle_n) rfl rfl zle_n rfl rfl zle_n) (Nat.le_of_ble_eq_true rfl) (Nat.le_of_ble_eq_true rfl) rfl rfl ?_
  refine zJ_if_eq (tgt := 12) dX12_fault_4 (by decide) rfl (fun hc => ?_) (fun hc => ?_)
  · replace h := it_t hc h
    obtain rfl := so1 h
    exact zJ_vret dX12_fault_12 rfl
  · replace h := it_f hc h
    refine zJ_aload_n dX12_fault_7 rfl rfl ?_
    refine zJ_iload_n dX12_fault_8 rfl rfl ?_
    refine zK_puti (mi := mX12_fault) (la' := [(3478, p1)]) zW_ok dX12_fault_9 F_X12_154 P_12_22 zW_54 rfl rfl rfl ?_
    obtain rfl := so1 h
    exact zJ_vret dX12_fault_12 rfl
set_option maxRecDepth 100000 in
set_option maxHeartbeats 4000000 in
theorem t_X12_in (l : Launch) (σ : zS) {p0 : Int32} {p1 : Int32} {p2 : Int32} {r : Int32} (h : f_X12_in p0 p1 p2 = some r) : zMt l zW 0 mX12_in σ ([], [], []) [.int p0, .int p1, .int p2] (some (.int r)) ([], [], []) := by
  refine zMt_of (ls := [(0, .int p0), (1, .int p1), (2, .int p2)]) (by decide) rfl (fun _ => Nat.le_of_ble_eq_true rfl) rfl ?_
  unfold f_X12_in at h
  refine zJ_iload_n dX12_in_0 rfl rfl ?_
  refine zJ_iload_n dX12_in_1 rfl rfl ?_
  refine zJ_icmp_lt (tgt := 14) dX12_in_2 (by decide) rfl (fun hc => ?_) (fun hc => ?_)
  · replace h := it_t hc h
    refine zJ_iconst dX12_in_14 zc_0 rfl ?_
    obtain rfl := so1 h
    exact zJ_iret dX12_in_15 rfl (by decide)
  · replace h := it_f hc h
    refine zJ_iload_n dX12_in_5 rfl rfl ?_
    refine zJ_iload_n dX12_in_6 rfl rfl ?_
    refine zJ_icmp_gt (tgt := 14) dX12_in_7 (by decide) rfl (fun hc => ?_) (fun hc => ?_)
    · replace h := it_t hc h
      refine zJ_iconst dX12_in_14 zc_0 rfl ?_
      obtain rfl := so1 h
      exact zJ_iret dX12_in_15 rfl (by decide)
    · replace h := it_f hc h
      refine zJ_iconst dX12_in_10 zc_1 rfl ?_
      refine zJ_goto (tgt := 15) dX12_in_11 (by decide) ?_
      obtain rfl := so1 h
      exact zJ_iret dX12_in_15 rfl (by decide)
set_option maxRecDepth 100000 in
set_option maxHeartbeats 4000000 in
theorem t_X12_need_r (l : Launch) (σ : zS) {p1 : Int32} {m_length : Int32} {m_top : Int32} {m_at : Int32} {m_wrong : Int32} {m_rule : (Nat → Int32)} {w_m_at : Int32} {w_m_wrong : Int32} (h : f_X12_need_r p1 m_length m_top m_at m_wrong m_rule = some (w_m_at, w_m_wrong)) : zMt l zW 2 mX12_need σ ([(3474, (nI 69)), (3475, m_length), (3476, m_top), (3477, m_at), (3478, m_wrong)], [(69, m_rule)], []) [.ref 54, .int p1] none ([(3474, (nI 69)), (3475, m_length), (3476, m_top), (3477, w_m_at), (3478, w_m_wrong)], [(69, m_rule)], []) := by
  refine zMt_of (ls := [(0, .ref 54), (1, .int p1)]) (by decide) rfl (fun _ => Nat.le_of_ble_eq_true rfl) rfl ?_
  unfold f_X12_need_r at h
  refine zJ_aload_n dX12_need_0 rfl rfl ?_
  refine zJ_iload_n dX12_need_1 rfl rfl ?_
  obtain ⟨rn1, m_atn2, hcl, h⟩ := bd2_some h
  refine zJ_callV2 (σ := σ) (L := ([(3474, (nI 69)), (3475, m_length), (3476, m_top), (3477, m_at), (3478, m_wrong)], [(69, m_rule)], [])) (mi := mX12_need) (yi := mX12_passes) (as := [.int p1]) (st := []) (L2 := ([(3474, (nI 69)), (3475, m_length), (3476, m_top), (3477, m_atn2), (3478, m_wrong)], [(69, m_rule)], [])) dX12_need_2 ML_X12_165 Yv_X12_passes rfl zW_54 rfl rfl (t_X12_passes_r l _ hcl) (zsub_i (zle_c rfl (zle_c rfl (zle_c rfl (zle_c rfl (zle_c rfl zle_n))))) (zle_c rfl zle_n) zle_n) (zjok_i rfl rfl (zle_c rfl (zle_c rfl (zle_c rfl (zle_c rfl (zle_c rfl zle_n))))) rfl rfl (zle_c rfl zle_n) rfl rfl zle_n) (Nat.le_of_ble_eq_true rfl) (Nat.le_of_ble_eq_true rfl) rfl rfl ?_
  refine zJ_if_ne (tgt := 16) dX12_need_5 (by decide) rfl (fun hc => ?_) (fun hc => ?_)
  · replace h := it_f hc h
    obtain ⟨rfl, rfl⟩ := so2 h
    exact zJ_vret dX12_need_16 rfl
  · replace h := it_t hc h
    refine zJ_aload_n dX12_need_8 rfl rfl ?_
    refine zJ_aload_n dX12_need_9 rfl rfl ?_
    refine zJ_geti (mi := mX12_need) (x := m_atn2) dX12_need_10 F_X12_151 zW_54 rfl rfl rfl ?_
    obtain ⟨m_wrongn3, hcl, h⟩ := bd1_some h
    refine zJ_callV2 (σ := σ) (L := ([(3474, (nI 69)), (3475, m_length), (3476, m_top), (3477, m_atn2), (3478, m_wrong)], [(69, m_rule)], [])) (mi := mX12_need) (yi := mX12_fault) (as := [.int m_atn2]) (st := []) (L2 := ([(3474, (nI 69)), (3475, m_length), (3476, m_top), (3477, m_atn2), (3478, m_wrongn3)], [(69, m_rule)], [])) dX12_need_13 ML_X12_169 Yv_X12_fault rfl zW_54 rfl rfl (t_X12_fault l _ hcl) (zsub_i (zle_c rfl zle_n) zle_n zle_n) (zjok_i rfl rfl (zle_c rfl (zle_c rfl (zle_c rfl (zle_c rfl (zle_c rfl zle_n))))) rfl rfl (zle_c rfl zle_n) rfl rfl zle_n) (Nat.le_of_ble_eq_true rfl) (Nat.le_of_ble_eq_true rfl) rfl rfl ?_
    obtain ⟨rfl, rfl⟩ := so2 h
    exact zJ_vret dX12_need_16 rfl
set_option maxRecDepth 100000 in
set_option maxHeartbeats 4000000 in
theorem t_X12_digit_r (l : Launch) (σ : zS) {p1 : Int32} {p2 : Int32} {m_length : Int32} {m_top : Int32} {m_at : Int32} {m_wrong : Int32} {m_rule : (Nat → Int32)} {r : Int32} {w_m_at : Int32} {w_m_wrong : Int32} (h : f_X12_digit_r p1 p2 m_length m_top m_at m_wrong m_rule = some (r, w_m_at, w_m_wrong)) : zMt l zW 2 mX12_digit σ ([(3474, (nI 69)), (3475, m_length), (3476, m_top), (3477, m_at), (3478, m_wrong)], [(69, m_rule)], []) [.ref 54, .int p1, .int p2] (some (.int r)) ([(3474, (nI 69)), (3475, m_length), (3476, m_top), (3477, w_m_at), (3478, w_m_wrong)], [(69, m_rule)], []) := by
  refine zMt_of (ls := [(0, .ref 54), (1, .int p1), (2, .int p2)]) (by decide) rfl (fun _ => Nat.le_of_ble_eq_true rfl) rfl ?_
  unfold f_X12_digit_r at h
  refine zJ_aload_n dX12_digit_0 rfl rfl ?_
  obtain ⟨rn1, hcl, h⟩ := bd1_some h
  refine zJ_callV2 (σ := σ) (L := ([(3474, (nI 69)), (3475, m_length), (3476, m_top), (3477, m_at), (3478, m_wrong)], [(69, m_rule)], [])) (mi := mX12_digit) (yi := mX12_fine) (as := []) (st := []) (L2 := ([(3474, (nI 69)), (3475, m_length), (3476, m_top), (3477, m_at), (3478, m_wrong)], [(69, m_rule)], [])) dX12_digit_1 ML_X12_157 Yv_X12_fine rfl zW_54 rfl rfl (t_X12_fine l _ hcl) (zsub_i (zle_c rfl zle_n) zle_n zle_n) (zjok_i rfl rfl (zle_c rfl (zle_c rfl (zle_c rfl (zle_c rfl (zle_c rfl zle_n))))) rfl rfl (zle_c rfl zle_n) rfl rfl zle_n) (Nat.le_of_ble_eq_true rfl) (Nat.le_of_ble_eq_true rfl) rfl rfl ?_
  refine zJ_if_ne (tgt := 9) dX12_digit_4 (by decide) rfl (fun hc => ?_) (fun hc => ?_)
  · replace h := it_f hc h
    refine zJ_aload_n dX12_digit_9 rfl rfl ?_
    obtain ⟨rn2, hcl, h⟩ := bd1_some h
    refine zJ_callV2 (σ := σ) (L := ([(3474, (nI 69)), (3475, m_length), (3476, m_top), (3477, m_at), (3478, m_wrong)], [(69, m_rule)], [])) (mi := mX12_digit) (yi := mX12_here) (as := []) (st := []) (L2 := ([(3474, (nI 69)), (3475, m_length), (3476, m_top), (3477, m_at), (3478, m_wrong)], [(69, m_rule)], [])) dX12_digit_10 ML_X12_161 Yv_X12_here rfl zW_54 rfl rfl (t_X12_here_r l _ hcl) (zsub_i (zle_c rfl (zle_c rfl (zle_c rfl (zle_c rfl zle_n)))) (zle_c rfl zle_n) zle_n) (zjok_i rfl rfl (zle_c rfl (zle_c rfl (zle_c rfl (zle_c rfl (zle_c rfl zle_n))))) rfl rfl (zle_c rfl zle_n) rfl rfl zle_n) (Nat.le_of_ble_eq_true rfl) (Nat.le_of_ble_eq_true rfl) rfl rfl ?_
    refine zJ_bipush dX12_digit_13 zb_48 rfl ?_
    refine zJ_iload_n dX12_digit_15 rfl rfl ?_
    refine zJ_iadd dX12_digit_16 rfl ?_
    refine zJ_bipush dX12_digit_17 zb_48 rfl ?_
    refine zJ_iload_n dX12_digit_19 rfl rfl ?_
    refine zJ_iadd dX12_digit_20 rfl ?_
    obtain ⟨rn3, hcl, h⟩ := bd1_some h
    refine zJ_callS2 (σ := σ) (L := ([(3474, (nI 69)), (3475, m_length), (3476, m_top), (3477, m_at), (3478, m_wrong)], [(69, m_rule)], [])) (mi := mX12_digit) (yi := mX12_in) (as := [.int rn2, .int ((48 : Int32) + p1), .int ((48 : Int32) + p2)]) (st := []) (L2 := ([(3474, (nI 69)), (3475, m_length), (3476, m_top), (3477, m_at), (3478, m_wrong)], [(69, m_rule)], [])) dX12_digit_21 ML_X12_122 Ys_X12_in rfl (t_X12_in l _ hcl) (zsub_i zle_n zle_n zle_n) (zjok_i rfl rfl (zle_c rfl (zle_c rfl (zle_c rfl (zle_c rfl (zle_c rfl zle_n))))) rfl rfl (zle_c rfl zle_n) rfl rfl zle_n) (Nat.le_of_ble_eq_true rfl) (Nat.le_of_ble_eq_true rfl) rfl rfl ?_
    refine zJ_if_ne (tgt := 37) dX12_digit_24 (by decide) rfl (fun hc => ?_) (fun hc => ?_)
    · replace h := it_f hc h
      refine zJ_aload_n dX12_digit_37 rfl rfl ?_
      refine zJ_dup dX12_digit_38 rfl rfl ?_
      refine zJ_geti (mi := mX12_digit) (x := m_at) dX12_digit_39 F_X12_151 zW_54 rfl rfl rfl ?_
      refine zJ_iconst dX12_digit_42 zc_1 rfl ?_
      refine zJ_iadd dX12_digit_43 rfl ?_
      refine zK_puti (mi := mX12_digit) (la' := [(3474, (nI 69)), (3475, m_length), (3476, m_top), (3477, (m_at + (1 : Int32))), (3478, m_wrong)]) zW_ok dX12_digit_44 F_X12_151 P_12_21 zW_54 rfl rfl rfl ?_
      refine zJ_aload_n dX12_digit_47 rfl rfl ?_
      refine zJ_getq (mi := mX12_digit) (q := 69) dX12_digit_48 F_X12_142 zW_54 rfl rfl (by decide) rfl ?_
      refine zJ_aload_n dX12_digit_51 rfl rfl ?_
      refine zJ_geti (mi := mX12_digit) (x := (m_at + (1 : Int32))) dX12_digit_52 F_X12_151 zW_54 rfl rfl rfl ?_
      refine zJ_iconst dX12_digit_55 zc_1 rfl ?_
      refine zJ_isub dX12_digit_56 rfl ?_
      obtain ⟨hg, h⟩ := gd_some h
      refine zJ_bald (mi := mX12_digit) (f := m_rule) dX12_digit_57 zW_69 (ix_in hg) rfl rfl ?_
      refine zJ_bipush dX12_digit_58 zb_48 rfl ?_
      refine zJ_isub dX12_digit_60 rfl ?_
      obtain ⟨rfl, rfl, rfl⟩ := so3 h
      exact zJ_iret dX12_digit_61 rfl rfl
    · replace h := it_t hc h
      refine zJ_aload_n dX12_digit_27 rfl rfl ?_
      refine zJ_aload_n dX12_digit_28 rfl rfl ?_
      refine zJ_geti (mi := mX12_digit) (x := m_at) dX12_digit_29 F_X12_151 zW_54 rfl rfl rfl ?_
      obtain ⟨m_wrongn4, hcl, h⟩ := bd1_some h
      refine zJ_callV2 (σ := σ) (L := ([(3474, (nI 69)), (3475, m_length), (3476, m_top), (3477, m_at), (3478, m_wrong)], [(69, m_rule)], [])) (mi := mX12_digit) (yi := mX12_fault) (as := [.int m_at]) (st := []) (L2 := ([(3474, (nI 69)), (3475, m_length), (3476, m_top), (3477, m_at), (3478, m_wrongn4)], [(69, m_rule)], [])) dX12_digit_32 ML_X12_169 Yv_X12_fault rfl zW_54 rfl rfl (t_X12_fault l _ hcl) (zsub_i (zle_c rfl zle_n) zle_n zle_n) (zjok_i rfl rfl (zle_c rfl (zle_c rfl (zle_c rfl (zle_c rfl (zle_c rfl zle_n))))) rfl rfl (zle_c rfl zle_n) rfl rfl zle_n) (Nat.le_of_ble_eq_true rfl) (Nat.le_of_ble_eq_true rfl) rfl rfl ?_
      refine zJ_iconst dX12_digit_35 zc_0 rfl ?_
      obtain ⟨rfl, rfl, rfl⟩ := so3 h
      exact zJ_iret dX12_digit_36 rfl rfl
  · replace h := it_t hc h
    refine zJ_iconst dX12_digit_7 zc_0 rfl ?_
    obtain ⟨rfl, rfl, rfl⟩ := so3 h
    exact zJ_iret dX12_digit_8 rfl rfl
set_option maxRecDepth 100000 in
set_option maxHeartbeats 4000000 in
theorem t_X12_number_r (l : Launch) (σ : zS) {p1 : Int32} {m_length : Int32} {m_top : Int32} {m_at : Int32} {m_wrong : Int32} {m_rule : (Nat → Int32)} {r : Int32} {w_m_at : Int32} {w_m_wrong : Int32} (h : f_X12_number_r p1 m_length m_top m_at m_wrong m_rule = some (r, w_m_at, w_m_wrong)) : zMt l zW 3 mX12_number σ ([(3474, (nI 69)), (3475, m_length), (3476, m_top), (3477, m_at), (3478, m_wrong)], [(69, m_rule)], []) [.ref 54, .int p1] (some (.int r)) ([(3474, (nI 69)), (3475, m_length), (3476, m_top), (3477, w_m_at), (3478, w_m_wrong)], [(69, m_rule)], []) := by
  refine zMt_of (ls := [(0, .ref 54), (1, .int p1)]) (by decide) rfl (fun _ => Nat.le_of_ble_eq_true rfl) rfl ?_
  unfold f_X12_number_r at h
  refine zJ_aload_n dX12_number_0 rfl rfl ?_
  refine zJ_iconst dX12_number_1 zc_0 rfl ?_
  refine zJ_bipush dX12_number_2 zb_9 rfl ?_
  obtain ⟨rn1, m_atn2, m_wrongn3, hcl, h⟩ := bd3_some h
  refine zJ_callV2 (σ := σ) (L := ([(3474, (nI 69)), (3475, m_length), (3476, m_top), (3477, m_at), (3478, m_wrong)], [(69, m_rule)], [])) (mi := mX12_number) (yi := mX12_digit) (as := [.int (0 : Int32), .int (9 : Int32)]) (st := []) (L2 := ([(3474, (nI 69)), (3475, m_length), (3476, m_top), (3477, m_atn2), (3478, m_wrongn3)], [(69, m_rule)], [])) dX12_number_4 ML_X12_173 Yv_X12_digit rfl zW_54 rfl rfl (t_X12_digit_r l _ hcl) (zsub_i (zle_c rfl (zle_c rfl (zle_c rfl (zle_c rfl (zle_c rfl zle_n))))) (zle_c rfl zle_n) zle_n) (zjok_i rfl rfl (zle_c rfl (zle_c rfl (zle_c rfl (zle_c rfl (zle_c rfl zle_n))))) rfl rfl (zle_c rfl zle_n) rfl rfl zle_n) (Nat.le_of_ble_eq_true rfl) (Nat.le_of_ble_eq_true rfl) rfl rfl ?_
  refine zJ_istore_n (ls' := [(2, .int rn1), (0, .ref 54), (1, .int p1)]) dX12_number_7 rfl rfl rfl ?_
  refine zJ_iconst dX12_number_8 zc_1 rfl ?_
  refine zJ_istore_n (ls' := [(3, .int (1 : Int32)), (2, .int rn1), (0, .ref 54), (1, .int p1)]) dX12_number_9 rfl rfl rfl ?_
  have hk10 : ∀ (v2_10x : Int32) (m_at_10x : Int32) (m_wrong_10x : Int32), k_X12_number_r_10  v2_10x m_at_10x m_wrong_10x = some (r, w_m_at, w_m_wrong) → zJ l zW 3 mX12_number σ ([(3474, (nI 69)), (3475, m_length), (3476, m_top), (3477, m_at_10x), (3478, m_wrong_10x)], [(69, m_rule)], []) 55 [(2, .int v2_10x)] [] (some (.int r)) ([(3474, (nI 69)), (3475, m_length), (3476, m_top), (3477, w_m_at), (3478, w_m_wrong)], [(69, m_rule)], []) := by
    intro v2_10x m_at_10x m_wrong_10x h
    unfold k_X12_number_r_10 at h
    refine zJ_iload_n dX12_number_55 rfl rfl ?_
    obtain ⟨rfl, rfl, rfl⟩ := so3 h
    exact zJ_iret dX12_number_56 rfl rfl
  refine zJ_loc (ls' := [(0, .ref 54), (1, .int p1), (2, .int rn1), (3, .int (1 : Int32))]) (zll_c rfl (zll_c rfl (zll_c rfl (zll_c rfl zll_n)))) ?_
  refine ml4_J (fun (v2_10 : Int32) (v3_10 : Int32) (m_at_10 : Int32) (m_wrong_10 : Int32) => zJ l zW 3 mX12_number σ ([(3474, (nI 69)), (3475, m_length), (3476, m_top), (3477, m_at_10), (3478, m_wrong_10)], [(69, m_rule)], []) 10 [(0, .ref 54), (1, .int p1), (2, .int v2_10), (3, .int v3_10)] [] (some (.int r)) ([(3474, (nI 69)), (3475, m_length), (3476, m_top), (3477, w_m_at), (3478, w_m_wrong)], [(69, m_rule)], [])) (fun rc10 hrc10 v2_10 v3_10 m_at_10 m_wrong_10 h => ?_) zN _ _ _ _ h
  unfold s_X12_number_r_10 at h
  refine zJ_iload_n dX12_number_10 rfl rfl ?_
  refine zJ_iload_n dX12_number_11 rfl rfl ?_
  refine zJ_icmp_ge (tgt := 55) dX12_number_12 (by decide) rfl (fun hc => ?_) (fun hc => ?_)
  · replace h := it_t hc h
    refine zJ_loc (ls' := [(2, .int v2_10)]) (zll_c rfl zll_n) ?_
    exact hk10 _ _ _ h
  · replace h := it_f hc h
    refine zJ_aload_n dX12_number_15 rfl rfl ?_
    obtain ⟨rn4, hcl, h⟩ := bd1_some h
    refine zJ_callV2 (σ := σ) (L := ([(3474, (nI 69)), (3475, m_length), (3476, m_top), (3477, m_at_10), (3478, m_wrong_10)], [(69, m_rule)], [])) (mi := mX12_number) (yi := mX12_fine) (as := []) (st := []) (L2 := ([(3474, (nI 69)), (3475, m_length), (3476, m_top), (3477, m_at_10), (3478, m_wrong_10)], [(69, m_rule)], [])) dX12_number_16 ML_X12_157 Yv_X12_fine rfl zW_54 rfl rfl (t_X12_fine l _ hcl) (zsub_i (zle_c rfl zle_n) zle_n zle_n) (zjok_i rfl rfl (zle_c rfl (zle_c rfl (zle_c rfl (zle_c rfl (zle_c rfl zle_n))))) rfl rfl (zle_c rfl zle_n) rfl rfl zle_n) (Nat.le_of_ble_eq_true rfl) (Nat.le_of_ble_eq_true rfl) rfl rfl ?_
    refine zJ_if_eq (tgt := 55) dX12_number_19 (by decide) rfl (fun hc => ?_) (fun hc => ?_)
    · replace h := it_t hc h
      refine zJ_loc (ls' := [(2, .int v2_10)]) (zll_c rfl zll_n) ?_
      exact hk10 _ _ _ h
    · replace h := it_f hc h
      refine zJ_aload_n dX12_number_22 rfl rfl ?_
      obtain ⟨rn5, hcl, h⟩ := bd1_some h
      refine zJ_callV2 (σ := σ) (L := ([(3474, (nI 69)), (3475, m_length), (3476, m_top), (3477, m_at_10), (3478, m_wrong_10)], [(69, m_rule)], [])) (mi := mX12_number) (yi := mX12_here) (as := []) (st := []) (L2 := ([(3474, (nI 69)), (3475, m_length), (3476, m_top), (3477, m_at_10), (3478, m_wrong_10)], [(69, m_rule)], [])) dX12_number_23 ML_X12_161 Yv_X12_here rfl zW_54 rfl rfl (t_X12_here_r l _ hcl) (zsub_i (zle_c rfl (zle_c rfl (zle_c rfl (zle_c rfl zle_n)))) (zle_c rfl zle_n) zle_n) (zjok_i rfl rfl (zle_c rfl (zle_c rfl (zle_c rfl (zle_c rfl (zle_c rfl zle_n))))) rfl rfl (zle_c rfl zle_n) rfl rfl zle_n) (Nat.le_of_ble_eq_true rfl) (Nat.le_of_ble_eq_true rfl) rfl rfl ?_
      refine zJ_bipush dX12_number_26 zb_48 rfl ?_
      refine zJ_bipush dX12_number_28 zb_57 rfl ?_
      obtain ⟨rn6, hcl, h⟩ := bd1_some h
      refine zJ_callS2 (σ := σ) (L := ([(3474, (nI 69)), (3475, m_length), (3476, m_top), (3477, m_at_10), (3478, m_wrong_10)], [(69, m_rule)], [])) (mi := mX12_number) (yi := mX12_in) (as := [.int rn5, .int (48 : Int32), .int (57 : Int32)]) (st := []) (L2 := ([(3474, (nI 69)), (3475, m_length), (3476, m_top), (3477, m_at_10), (3478, m_wrong_10)], [(69, m_rule)], [])) dX12_number_30 ML_X12_122 Ys_X12_in rfl (t_X12_in l _ hcl) (zsub_i zle_n zle_n zle_n) (zjok_i rfl rfl (zle_c rfl (zle_c rfl (zle_c rfl (zle_c rfl (zle_c rfl zle_n))))) rfl rfl (zle_c rfl zle_n) rfl rfl zle_n) (Nat.le_of_ble_eq_true rfl) (Nat.le_of_ble_eq_true rfl) rfl rfl ?_
      refine zJ_if_eq (tgt := 55) dX12_number_33 (by decide) rfl (fun hc => ?_) (fun hc => ?_)
      · replace h := it_t hc h
        refine zJ_loc (ls' := [(2, .int v2_10)]) (zll_c rfl zll_n) ?_
        exact hk10 _ _ _ h
      · replace h := it_f hc h
        refine zJ_bipush dX12_number_36 zb_10 rfl ?_
        refine zJ_iload_n dX12_number_38 rfl rfl ?_
        refine zJ_imul dX12_number_39 rfl ?_
        refine zJ_aload_n dX12_number_40 rfl rfl ?_
        refine zJ_iconst dX12_number_41 zc_0 rfl ?_
        refine zJ_bipush dX12_number_42 zb_9 rfl ?_
        obtain ⟨rn7, m_atn8, m_wrongn9, hcl, h⟩ := bd3_some h
        refine zJ_callV2 (σ := σ) (L := ([(3474, (nI 69)), (3475, m_length), (3476, m_top), (3477, m_at_10), (3478, m_wrong_10)], [(69, m_rule)], [])) (mi := mX12_number) (yi := mX12_digit) (as := [.int (0 : Int32), .int (9 : Int32)]) (st := [.int ((10 : Int32) * v2_10)]) (L2 := ([(3474, (nI 69)), (3475, m_length), (3476, m_top), (3477, m_atn8), (3478, m_wrongn9)], [(69, m_rule)], [])) dX12_number_44 ML_X12_173 Yv_X12_digit rfl zW_54 rfl rfl (t_X12_digit_r l _ hcl) (zsub_i (zle_c rfl (zle_c rfl (zle_c rfl (zle_c rfl (zle_c rfl zle_n))))) (zle_c rfl zle_n) zle_n) (zjok_i rfl rfl (zle_c rfl (zle_c rfl (zle_c rfl (zle_c rfl (zle_c rfl zle_n))))) rfl rfl (zle_c rfl zle_n) rfl rfl zle_n) (Nat.le_of_ble_eq_true rfl) (Nat.le_of_ble_eq_true rfl) rfl rfl ?_
        refine zJ_iadd dX12_number_47 rfl ?_
        obtain ⟨v2n10, ev2n10, h⟩ := lt1_some h
        refine zJ_nmi ev2n10 ?_
        refine zJ_istore_n (ls' := [(2, .int v2n10), (0, .ref 54), (1, .int p1), (3, .int v3_10)]) dX12_number_48 rfl rfl rfl ?_
        obtain ⟨v3n11, ev3n11, h⟩ := lt1_some h
        refine zJ_iincN (ls' := [(3, .int v3n11), (2, .int v2n10), (0, .ref 54), (1, .int p1)]) dX12_number_49 rfl rfl zc_1 ev3n11 rfl rfl ?_
        refine zJ_goto (tgt := 10) dX12_number_52 (by decide) ?_
        refine zJ_loc (ls' := [(0, .ref 54), (1, .int p1), (2, .int v2n10), (3, .int v3n11)]) (zll_c rfl (zll_c rfl (zll_c rfl (zll_c rfl zll_n)))) ?_
        exact hrc10 _ _ _ _ h
set_option maxRecDepth 100000 in
set_option maxHeartbeats 4000000 in
theorem t_X12_leanOf (l : Launch) (σ : zS) {p1 : Int32} {p2 : Int32} {m_stride : (Nat → Int32)} {r : Int32} (h : f_X12_leanOf p1 p2 m_stride = some r) : zMt l zW 1 mX12_leanOf σ ([], [(59, m_stride)], []) [.ref 54, .int p1, .int p2] (some (.int r)) ([], [(59, m_stride)], []) := by
  refine zMt_of (ls := [(0, .ref 54), (1, .int p1), (2, .int p2)]) (by decide) rfl (fun _ => Nat.le_of_ble_eq_true rfl) rfl ?_
  unfold f_X12_leanOf at h
  refine zJ_iload_n dX12_leanOf_0 rfl rfl ?_
  refine zJ_aload_n dX12_leanOf_1 rfl rfl ?_
  refine zJ_getr (mi := mX12_leanOf) dX12_leanOf_2 F_X12_26 zW_54 rfl rfl ?_
  refine zJ_iload_n dX12_leanOf_5 rfl rfl ?_
  obtain ⟨hg, h⟩ := gd_some h
  refine zJ_iald (mi := mX12_leanOf) (f := m_stride) dX12_leanOf_6 zW_59 (ix_in hg) rfl rfl ?_
  obtain ⟨hg, h⟩ := gd_some h
  refine zJ_irem dX12_leanOf_7 (nz_ne hg) rfl ?_
  obtain ⟨v3n1, ev3n1, h⟩ := lt1_some h
  refine zJ_nmi ev3n1 ?_
  refine zJ_istore_n (ls' := [(3, .int v3n1), (0, .ref 54), (1, .int p1), (2, .int p2)]) dX12_leanOf_8 rfl rfl rfl ?_
  refine zJ_iload_n dX12_leanOf_9 rfl rfl ?_
  refine zJ_aload_n dX12_leanOf_10 rfl rfl ?_
  refine zJ_getr (mi := mX12_leanOf) dX12_leanOf_11 F_X12_26 zW_54 rfl rfl ?_
  refine zJ_iload_n dX12_leanOf_14 rfl rfl ?_
  obtain ⟨hg, h⟩ := gd_some h
  refine zJ_iald (mi := mX12_leanOf) (f := m_stride) dX12_leanOf_15 zW_59 (ix_in hg) rfl rfl ?_
  refine zJ_iload_n dX12_leanOf_16 rfl rfl ?_
  refine zJ_isub dX12_leanOf_17 rfl ?_
  refine zJ_mmin (mi := mX12_leanOf) dX12_leanOf_18 L_X12_238 K_min_s K_math K_min_c (Nat.le_of_ble_eq_true rfl) (Nat.le_of_ble_eq_true rfl) rfl ?_
  obtain rfl := so1 h
  exact zJ_iret dX12_leanOf_21 rfl rfl
set_option maxRecDepth 100000 in
set_option maxHeartbeats 4000000 in
theorem t_X12_valueOf (l : Launch) (σ : zS) {p1 : Int32} {m_askedHorse : Int32} {m_askedFence : Int32} {m_askedLetter : Int32} {m_askedHeight : Int32} {m_kind : (Nat → Int32)} {m_feet : (Nat → Int32)} {m_stride : (Nat → Int32)} {m_scope : (Nat → Int32)} {m_care : (Nat → Int32)} {r : Int32} (h : f_X12_valueOf p1 m_askedHorse m_askedFence m_askedLetter m_askedHeight m_kind m_feet m_stride m_scope m_care = some r) : zMt l zW 2 mX12_valueOf σ ([(3485, m_askedHorse), (3486, m_askedFence), (3487, m_askedLetter), (3488, m_askedHeight)], [(56, m_kind), (58, m_feet), (59, m_stride), (60, m_scope), (61, m_care)], []) [.ref 54, .int p1] (some (.int r)) ([(3485, m_askedHorse), (3486, m_askedFence), (3487, m_askedLetter), (3488, m_askedHeight)], [(56, m_kind), (58, m_feet), (59, m_stride), (60, m_scope), (61, m_care)], []) := by
  refine zMt_of (ls := [(0, .ref 54), (1, .int p1)]) (by decide) rfl (fun _ => Nat.le_of_ble_eq_true rfl) rfl ?_
  unfold f_X12_valueOf at h
  refine zJ_iload_n dX12_valueOf_0 rfl rfl ?_
  by_cases hc0 : p1 = (99 : Int32)
  · replace h := it_t hc0 h
    refine zJ_tswI (tgt := 119) (off := 118) dX12_valueOf_1 99 (by rw [hc0]; decide) (by decide) (by decide) rfl (by decide) ?_
    refine zJ_aload_n dX12_valueOf_119 rfl rfl ?_
    refine zJ_getr (mi := mX12_valueOf) dX12_valueOf_120 F_X12_32 zW_54 rfl rfl ?_
    refine zJ_iconst dX12_valueOf_123 zc_4 rfl ?_
    refine zJ_aload_n dX12_valueOf_124 rfl rfl ?_
    refine zJ_geti (mi := mX12_valueOf) (x := m_askedHorse) dX12_valueOf_125 F_X12_223 zW_54 rfl rfl rfl ?_
    refine zJ_imul dX12_valueOf_128 rfl ?_
    refine zJ_aload_n dX12_valueOf_129 rfl rfl ?_
    refine zJ_getr (mi := mX12_valueOf) dX12_valueOf_130 F_X12_13 zW_54 rfl rfl ?_
    refine zJ_aload_n dX12_valueOf_133 rfl rfl ?_
    refine zJ_geti (mi := mX12_valueOf) (x := m_askedFence) dX12_valueOf_134 F_X12_226 zW_54 rfl rfl rfl ?_
    obtain ⟨hg, h⟩ := gd_some h
    refine zJ_iald (mi := mX12_valueOf) (f := m_kind) dX12_valueOf_137 zW_56 (ix_in hg) rfl rfl ?_
    refine zJ_iadd dX12_valueOf_138 rfl ?_
    obtain ⟨hg, h⟩ := gd_some h
    refine zJ_iald (mi := mX12_valueOf) (f := m_care) dX12_valueOf_139 zW_61 (ix_in hg) rfl rfl ?_
    obtain rfl := so1 h
    exact zJ_iret dX12_valueOf_140 rfl rfl
  replace h := it_f hc0 h
  by_cases hc1 : p1 = (100 : Int32)
  · replace h := it_t hc1 h
    refine zJ_tswI (tgt := 178) (off := 177) dX12_valueOf_1 100 (by rw [hc1]; decide) (by decide) (by decide) rfl (by decide) ?_
    refine zJ_aload_n dX12_valueOf_178 rfl rfl ?_
    refine zJ_getr (mi := mX12_valueOf) dX12_valueOf_179 F_X12_19 zW_54 rfl rfl ?_
    refine zJ_aload_n dX12_valueOf_182 rfl rfl ?_
    refine zJ_geti (mi := mX12_valueOf) (x := m_askedFence) dX12_valueOf_183 F_X12_226 zW_54 rfl rfl rfl ?_
    obtain ⟨hg, h⟩ := gd_some h
    refine zJ_iald (mi := mX12_valueOf) (f := m_feet) dX12_valueOf_186 zW_58 (ix_in hg) rfl rfl ?_
    obtain rfl := so1 h
    exact zJ_iret dX12_valueOf_187 rfl rfl
  replace h := it_f hc1 h
  by_cases hc2 : p1 = (101 : Int32)
  · replace h := it_t hc2 h
    refine zJ_tswI (tgt := 178) (off := 177) dX12_valueOf_1 101 (by rw [hc2]; decide) (by decide) (by decide) rfl (by decide) ?_
    refine zJ_aload_n dX12_valueOf_178 rfl rfl ?_
    refine zJ_getr (mi := mX12_valueOf) dX12_valueOf_179 F_X12_19 zW_54 rfl rfl ?_
    refine zJ_aload_n dX12_valueOf_182 rfl rfl ?_
    refine zJ_geti (mi := mX12_valueOf) (x := m_askedFence) dX12_valueOf_183 F_X12_226 zW_54 rfl rfl rfl ?_
    obtain ⟨hg, h⟩ := gd_some h
    refine zJ_iald (mi := mX12_valueOf) (f := m_feet) dX12_valueOf_186 zW_58 (ix_in hg) rfl rfl ?_
    obtain rfl := so1 h
    exact zJ_iret dX12_valueOf_187 rfl rfl
  replace h := it_f hc2 h
  by_cases hc3 : p1 = (102 : Int32)
  · replace h := it_t hc3 h
    refine zJ_tswI (tgt := 155) (off := 154) dX12_valueOf_1 102 (by rw [hc3]; decide) (by decide) (by decide) rfl (by decide) ?_
    refine zJ_aload_n dX12_valueOf_155 rfl rfl ?_
    refine zJ_aload_n dX12_valueOf_156 rfl rfl ?_
    refine zJ_geti (mi := mX12_valueOf) (x := m_askedHorse) dX12_valueOf_157 F_X12_223 zW_54 rfl rfl rfl ?_
    refine zJ_aload_n dX12_valueOf_160 rfl rfl ?_
    refine zJ_getr (mi := mX12_valueOf) dX12_valueOf_161 F_X12_19 zW_54 rfl rfl ?_
    refine zJ_aload_n dX12_valueOf_164 rfl rfl ?_
    refine zJ_geti (mi := mX12_valueOf) (x := m_askedFence) dX12_valueOf_165 F_X12_226 zW_54 rfl rfl rfl ?_
    obtain ⟨hg, h⟩ := gd_some h
    refine zJ_iald (mi := mX12_valueOf) (f := m_feet) dX12_valueOf_168 zW_58 (ix_in hg) rfl rfl ?_
    obtain ⟨rn1, hcl, h⟩ := bd1_some h
    refine zJ_callV2 (σ := σ) (L := ([(3485, m_askedHorse), (3486, m_askedFence), (3487, m_askedLetter), (3488, m_askedHeight)], [(56, m_kind), (58, m_feet), (59, m_stride), (60, m_scope), (61, m_care)], [])) (mi := mX12_valueOf) (yi := mX12_leanOf) (as := [.int m_askedHorse, .int (m_feet m_askedFence.toNatClampNeg)]) (st := []) (L2 := ([(3485, m_askedHorse), (3486, m_askedFence), (3487, m_askedLetter), (3488, m_askedHeight)], [(56, m_kind), (58, m_feet), (59, m_stride), (60, m_scope), (61, m_care)], [])) dX12_valueOf_169 ML_X12_232 Yv_X12_leanOf rfl zW_54 rfl rfl (t_X12_leanOf l _ hcl) (zsub_i zle_n (zle_c rfl zle_n) zle_n) (zjok_i rfl rfl (zle_c rfl (zle_c rfl (zle_c rfl (zle_c rfl zle_n)))) rfl rfl (zle_c rfl (zle_c rfl (zle_c rfl (zle_c rfl (zle_c rfl zle_n))))) rfl rfl zle_n) (Nat.le_of_ble_eq_true rfl) (Nat.le_of_ble_eq_true rfl) rfl rfl ?_
    obtain rfl := so1 h
    exact zJ_iret dX12_valueOf_172 rfl rfl
  replace h := it_f hc3 h
  by_cases hc4 : p1 = (103 : Int32)
  · replace h := it_t hc4 h
    refine zJ_tswI (tgt := 178) (off := 177) dX12_valueOf_1 103 (by rw [hc4]; decide) (by decide) (by decide) rfl (by decide) ?_
    refine zJ_aload_n dX12_valueOf_178 rfl rfl ?_
    refine zJ_getr (mi := mX12_valueOf) dX12_valueOf_179 F_X12_19 zW_54 rfl rfl ?_
    refine zJ_aload_n dX12_valueOf_182 rfl rfl ?_
    refine zJ_geti (mi := mX12_valueOf) (x := m_askedFence) dX12_valueOf_183 F_X12_226 zW_54 rfl rfl rfl ?_
    obtain ⟨hg, h⟩ := gd_some h
    refine zJ_iald (mi := mX12_valueOf) (f := m_feet) dX12_valueOf_186 zW_58 (ix_in hg) rfl rfl ?_
    obtain rfl := so1 h
    exact zJ_iret dX12_valueOf_187 rfl rfl
  replace h := it_f hc4 h
  by_cases hc5 : p1 = (104 : Int32)
  · replace h := it_t hc5 h
    refine zJ_tswI (tgt := 104) (off := 103) dX12_valueOf_1 104 (by rw [hc5]; decide) (by decide) (by decide) rfl (by decide) ?_
    refine zJ_aload_n dX12_valueOf_104 rfl rfl ?_
    refine zJ_geti (mi := mX12_valueOf) (x := m_askedHeight) dX12_valueOf_105 F_X12_220 zW_54 rfl rfl rfl ?_
    obtain rfl := so1 h
    exact zJ_iret dX12_valueOf_108 rfl rfl
  replace h := it_f hc5 h
  by_cases hc6 : p1 = (105 : Int32)
  · replace h := it_t hc6 h
    refine zJ_tswI (tgt := 178) (off := 177) dX12_valueOf_1 105 (by rw [hc6]; decide) (by decide) (by decide) rfl (by decide) ?_
    refine zJ_aload_n dX12_valueOf_178 rfl rfl ?_
    refine zJ_getr (mi := mX12_valueOf) dX12_valueOf_179 F_X12_19 zW_54 rfl rfl ?_
    refine zJ_aload_n dX12_valueOf_182 rfl rfl ?_
    refine zJ_geti (mi := mX12_valueOf) (x := m_askedFence) dX12_valueOf_183 F_X12_226 zW_54 rfl rfl rfl ?_
    obtain ⟨hg, h⟩ := gd_some h
    refine zJ_iald (mi := mX12_valueOf) (f := m_feet) dX12_valueOf_186 zW_58 (ix_in hg) rfl rfl ?_
    obtain rfl := so1 h
    exact zJ_iret dX12_valueOf_187 rfl rfl
  replace h := it_f hc6 h
  by_cases hc7 : p1 = (106 : Int32)
  · replace h := it_t hc7 h
    refine zJ_tswI (tgt := 178) (off := 177) dX12_valueOf_1 106 (by rw [hc7]; decide) (by decide) (by decide) rfl (by decide) ?_
    refine zJ_aload_n dX12_valueOf_178 rfl rfl ?_
    refine zJ_getr (mi := mX12_valueOf) dX12_valueOf_179 F_X12_19 zW_54 rfl rfl ?_
    refine zJ_aload_n dX12_valueOf_182 rfl rfl ?_
    refine zJ_geti (mi := mX12_valueOf) (x := m_askedFence) dX12_valueOf_183 F_X12_226 zW_54 rfl rfl rfl ?_
    obtain ⟨hg, h⟩ := gd_some h
    refine zJ_iald (mi := mX12_valueOf) (f := m_feet) dX12_valueOf_186 zW_58 (ix_in hg) rfl rfl ?_
    obtain rfl := so1 h
    exact zJ_iret dX12_valueOf_187 rfl rfl
  replace h := it_f hc7 h
  by_cases hc8 : p1 = (107 : Int32)
  · replace h := it_t hc8 h
    refine zJ_tswI (tgt := 173) (off := 172) dX12_valueOf_1 107 (by rw [hc8]; decide) (by decide) (by decide) rfl (by decide) ?_
    refine zJ_aload_n dX12_valueOf_173 rfl rfl ?_
    refine zJ_geti (mi := mX12_valueOf) (x := m_askedFence) dX12_valueOf_174 F_X12_226 zW_54 rfl rfl rfl ?_
    obtain rfl := so1 h
    exact zJ_iret dX12_valueOf_177 rfl rfl
  replace h := it_f hc8 h
  by_cases hc9 : p1 = (108 : Int32)
  · replace h := it_t hc9 h
    refine zJ_tswI (tgt := 178) (off := 177) dX12_valueOf_1 108 (by rw [hc9]; decide) (by decide) (by decide) rfl (by decide) ?_
    refine zJ_aload_n dX12_valueOf_178 rfl rfl ?_
    refine zJ_getr (mi := mX12_valueOf) dX12_valueOf_179 F_X12_19 zW_54 rfl rfl ?_
    refine zJ_aload_n dX12_valueOf_182 rfl rfl ?_
    refine zJ_geti (mi := mX12_valueOf) (x := m_askedFence) dX12_valueOf_183 F_X12_226 zW_54 rfl rfl rfl ?_
    obtain ⟨hg, h⟩ := gd_some h
    refine zJ_iald (mi := mX12_valueOf) (f := m_feet) dX12_valueOf_186 zW_58 (ix_in hg) rfl rfl ?_
    obtain rfl := so1 h
    exact zJ_iret dX12_valueOf_187 rfl rfl
  replace h := it_f hc9 h
  by_cases hc10 : p1 = (109 : Int32)
  · replace h := it_t hc10 h
    refine zJ_tswI (tgt := 178) (off := 177) dX12_valueOf_1 109 (by rw [hc10]; decide) (by decide) (by decide) rfl (by decide) ?_
    refine zJ_aload_n dX12_valueOf_178 rfl rfl ?_
    refine zJ_getr (mi := mX12_valueOf) dX12_valueOf_179 F_X12_19 zW_54 rfl rfl ?_
    refine zJ_aload_n dX12_valueOf_182 rfl rfl ?_
    refine zJ_geti (mi := mX12_valueOf) (x := m_askedFence) dX12_valueOf_183 F_X12_226 zW_54 rfl rfl rfl ?_
    obtain ⟨hg, h⟩ := gd_some h
    refine zJ_iald (mi := mX12_valueOf) (f := m_feet) dX12_valueOf_186 zW_58 (ix_in hg) rfl rfl ?_
    obtain rfl := so1 h
    exact zJ_iret dX12_valueOf_187 rfl rfl
  replace h := it_f hc10 h
  by_cases hc11 : p1 = (110 : Int32)
  · replace h := it_t hc11 h
    refine zJ_tswI (tgt := 178) (off := 177) dX12_valueOf_1 110 (by rw [hc11]; decide) (by decide) (by decide) rfl (by decide) ?_
    refine zJ_aload_n dX12_valueOf_178 rfl rfl ?_
    refine zJ_getr (mi := mX12_valueOf) dX12_valueOf_179 F_X12_19 zW_54 rfl rfl ?_
    refine zJ_aload_n dX12_valueOf_182 rfl rfl ?_
    refine zJ_geti (mi := mX12_valueOf) (x := m_askedFence) dX12_valueOf_183 F_X12_226 zW_54 rfl rfl rfl ?_
    obtain ⟨hg, h⟩ := gd_some h
    refine zJ_iald (mi := mX12_valueOf) (f := m_feet) dX12_valueOf_186 zW_58 (ix_in hg) rfl rfl ?_
    obtain rfl := so1 h
    exact zJ_iret dX12_valueOf_187 rfl rfl
  replace h := it_f hc11 h
  by_cases hc12 : p1 = (111 : Int32)
  · replace h := it_t hc12 h
    refine zJ_tswI (tgt := 178) (off := 177) dX12_valueOf_1 111 (by rw [hc12]; decide) (by decide) (by decide) rfl (by decide) ?_
    refine zJ_aload_n dX12_valueOf_178 rfl rfl ?_
    refine zJ_getr (mi := mX12_valueOf) dX12_valueOf_179 F_X12_19 zW_54 rfl rfl ?_
    refine zJ_aload_n dX12_valueOf_182 rfl rfl ?_
    refine zJ_geti (mi := mX12_valueOf) (x := m_askedFence) dX12_valueOf_183 F_X12_226 zW_54 rfl rfl rfl ?_
    obtain ⟨hg, h⟩ := gd_some h
    refine zJ_iald (mi := mX12_valueOf) (f := m_feet) dX12_valueOf_186 zW_58 (ix_in hg) rfl rfl ?_
    obtain rfl := so1 h
    exact zJ_iret dX12_valueOf_187 rfl rfl
  replace h := it_f hc12 h
  by_cases hc13 : p1 = (112 : Int32)
  · replace h := it_t hc13 h
    refine zJ_tswI (tgt := 141) (off := 140) dX12_valueOf_1 112 (by rw [hc13]; decide) (by decide) (by decide) rfl (by decide) ?_
    refine zJ_aload_n dX12_valueOf_141 rfl rfl ?_
    refine zJ_geti (mi := mX12_valueOf) (x := m_askedLetter) dX12_valueOf_142 F_X12_229 zW_54 rfl rfl rfl ?_
    refine zJ_iconst dX12_valueOf_145 zc_4 rfl ?_
    refine zJ_irem dX12_valueOf_146 (by decide) rfl ?_
    obtain rfl := so1 h
    exact zJ_iret dX12_valueOf_147 rfl rfl
  replace h := it_f hc13 h
  by_cases hc14 : p1 = (113 : Int32)
  · replace h := it_t hc14 h
    refine zJ_tswI (tgt := 178) (off := 177) dX12_valueOf_1 113 (by rw [hc14]; decide) (by decide) (by decide) rfl (by decide) ?_
    refine zJ_aload_n dX12_valueOf_178 rfl rfl ?_
    refine zJ_getr (mi := mX12_valueOf) dX12_valueOf_179 F_X12_19 zW_54 rfl rfl ?_
    refine zJ_aload_n dX12_valueOf_182 rfl rfl ?_
    refine zJ_geti (mi := mX12_valueOf) (x := m_askedFence) dX12_valueOf_183 F_X12_226 zW_54 rfl rfl rfl ?_
    obtain ⟨hg, h⟩ := gd_some h
    refine zJ_iald (mi := mX12_valueOf) (f := m_feet) dX12_valueOf_186 zW_58 (ix_in hg) rfl rfl ?_
    obtain rfl := so1 h
    exact zJ_iret dX12_valueOf_187 rfl rfl
  replace h := it_f hc14 h
  by_cases hc15 : p1 = (114 : Int32)
  · replace h := it_t hc15 h
    refine zJ_tswI (tgt := 178) (off := 177) dX12_valueOf_1 114 (by rw [hc15]; decide) (by decide) (by decide) rfl (by decide) ?_
    refine zJ_aload_n dX12_valueOf_178 rfl rfl ?_
    refine zJ_getr (mi := mX12_valueOf) dX12_valueOf_179 F_X12_19 zW_54 rfl rfl ?_
    refine zJ_aload_n dX12_valueOf_182 rfl rfl ?_
    refine zJ_geti (mi := mX12_valueOf) (x := m_askedFence) dX12_valueOf_183 F_X12_226 zW_54 rfl rfl rfl ?_
    obtain ⟨hg, h⟩ := gd_some h
    refine zJ_iald (mi := mX12_valueOf) (f := m_feet) dX12_valueOf_186 zW_58 (ix_in hg) rfl rfl ?_
    obtain rfl := so1 h
    exact zJ_iret dX12_valueOf_187 rfl rfl
  replace h := it_f hc15 h
  by_cases hc16 : p1 = (115 : Int32)
  · replace h := it_t hc16 h
    refine zJ_tswI (tgt := 109) (off := 108) dX12_valueOf_1 115 (by rw [hc16]; decide) (by decide) (by decide) rfl (by decide) ?_
    refine zJ_aload_n dX12_valueOf_109 rfl rfl ?_
    refine zJ_getr (mi := mX12_valueOf) dX12_valueOf_110 F_X12_29 zW_54 rfl rfl ?_
    refine zJ_aload_n dX12_valueOf_113 rfl rfl ?_
    refine zJ_geti (mi := mX12_valueOf) (x := m_askedHorse) dX12_valueOf_114 F_X12_223 zW_54 rfl rfl rfl ?_
    obtain ⟨hg, h⟩ := gd_some h
    refine zJ_iald (mi := mX12_valueOf) (f := m_scope) dX12_valueOf_117 zW_60 (ix_in hg) rfl rfl ?_
    obtain rfl := so1 h
    exact zJ_iret dX12_valueOf_118 rfl rfl
  replace h := it_f hc16 h
  by_cases hc17 : p1 = (116 : Int32)
  · replace h := it_t hc17 h
    refine zJ_tswI (tgt := 178) (off := 177) dX12_valueOf_1 116 (by rw [hc17]; decide) (by decide) (by decide) rfl (by decide) ?_
    refine zJ_aload_n dX12_valueOf_178 rfl rfl ?_
    refine zJ_getr (mi := mX12_valueOf) dX12_valueOf_179 F_X12_19 zW_54 rfl rfl ?_
    refine zJ_aload_n dX12_valueOf_182 rfl rfl ?_
    refine zJ_geti (mi := mX12_valueOf) (x := m_askedFence) dX12_valueOf_183 F_X12_226 zW_54 rfl rfl rfl ?_
    obtain ⟨hg, h⟩ := gd_some h
    refine zJ_iald (mi := mX12_valueOf) (f := m_feet) dX12_valueOf_186 zW_58 (ix_in hg) rfl rfl ?_
    obtain rfl := so1 h
    exact zJ_iret dX12_valueOf_187 rfl rfl
  replace h := it_f hc17 h
  by_cases hc18 : p1 = (117 : Int32)
  · replace h := it_t hc18 h
    refine zJ_tswI (tgt := 178) (off := 177) dX12_valueOf_1 117 (by rw [hc18]; decide) (by decide) (by decide) rfl (by decide) ?_
    refine zJ_aload_n dX12_valueOf_178 rfl rfl ?_
    refine zJ_getr (mi := mX12_valueOf) dX12_valueOf_179 F_X12_19 zW_54 rfl rfl ?_
    refine zJ_aload_n dX12_valueOf_182 rfl rfl ?_
    refine zJ_geti (mi := mX12_valueOf) (x := m_askedFence) dX12_valueOf_183 F_X12_226 zW_54 rfl rfl rfl ?_
    obtain ⟨hg, h⟩ := gd_some h
    refine zJ_iald (mi := mX12_valueOf) (f := m_feet) dX12_valueOf_186 zW_58 (ix_in hg) rfl rfl ?_
    obtain rfl := so1 h
    exact zJ_iret dX12_valueOf_187 rfl rfl
  replace h := it_f hc18 h
  by_cases hc19 : p1 = (118 : Int32)
  · replace h := it_t hc19 h
    refine zJ_tswI (tgt := 178) (off := 177) dX12_valueOf_1 118 (by rw [hc19]; decide) (by decide) (by decide) rfl (by decide) ?_
    refine zJ_aload_n dX12_valueOf_178 rfl rfl ?_
    refine zJ_getr (mi := mX12_valueOf) dX12_valueOf_179 F_X12_19 zW_54 rfl rfl ?_
    refine zJ_aload_n dX12_valueOf_182 rfl rfl ?_
    refine zJ_geti (mi := mX12_valueOf) (x := m_askedFence) dX12_valueOf_183 F_X12_226 zW_54 rfl rfl rfl ?_
    obtain ⟨hg, h⟩ := gd_some h
    refine zJ_iald (mi := mX12_valueOf) (f := m_feet) dX12_valueOf_186 zW_58 (ix_in hg) rfl rfl ?_
    obtain rfl := so1 h
    exact zJ_iret dX12_valueOf_187 rfl rfl
  replace h := it_f hc19 h
  by_cases hc20 : p1 = (119 : Int32)
  · replace h := it_t hc20 h
    refine zJ_tswI (tgt := 178) (off := 177) dX12_valueOf_1 119 (by rw [hc20]; decide) (by decide) (by decide) rfl (by decide) ?_
    refine zJ_aload_n dX12_valueOf_178 rfl rfl ?_
    refine zJ_getr (mi := mX12_valueOf) dX12_valueOf_179 F_X12_19 zW_54 rfl rfl ?_
    refine zJ_aload_n dX12_valueOf_182 rfl rfl ?_
    refine zJ_geti (mi := mX12_valueOf) (x := m_askedFence) dX12_valueOf_183 F_X12_226 zW_54 rfl rfl rfl ?_
    obtain ⟨hg, h⟩ := gd_some h
    refine zJ_iald (mi := mX12_valueOf) (f := m_feet) dX12_valueOf_186 zW_58 (ix_in hg) rfl rfl ?_
    obtain rfl := so1 h
    exact zJ_iret dX12_valueOf_187 rfl rfl
  replace h := it_f hc20 h
  by_cases hc21 : p1 = (120 : Int32)
  · replace h := it_t hc21 h
    refine zJ_tswI (tgt := 148) (off := 147) dX12_valueOf_1 120 (by rw [hc21]; decide) (by decide) (by decide) rfl (by decide) ?_
    refine zJ_aload_n dX12_valueOf_148 rfl rfl ?_
    refine zJ_geti (mi := mX12_valueOf) (x := m_askedLetter) dX12_valueOf_149 F_X12_229 zW_54 rfl rfl rfl ?_
    refine zJ_iconst dX12_valueOf_152 zc_4 rfl ?_
    refine zJ_idiv dX12_valueOf_153 (by decide) rfl ?_
    obtain rfl := so1 h
    exact zJ_iret dX12_valueOf_154 rfl rfl
  replace h := it_f hc21 h
  have hq0 := z_ne (n := 99) hc0 (by decide)
  have hq1 := z_ne (n := 100) hc1 (by decide)
  have hq2 := z_ne (n := 101) hc2 (by decide)
  have hq3 := z_ne (n := 102) hc3 (by decide)
  have hq4 := z_ne (n := 103) hc4 (by decide)
  have hq5 := z_ne (n := 104) hc5 (by decide)
  have hq6 := z_ne (n := 105) hc6 (by decide)
  have hq7 := z_ne (n := 106) hc7 (by decide)
  have hq8 := z_ne (n := 107) hc8 (by decide)
  have hq9 := z_ne (n := 108) hc9 (by decide)
  have hq10 := z_ne (n := 109) hc10 (by decide)
  have hq11 := z_ne (n := 110) hc11 (by decide)
  have hq12 := z_ne (n := 111) hc12 (by decide)
  have hq13 := z_ne (n := 112) hc13 (by decide)
  have hq14 := z_ne (n := 113) hc14 (by decide)
  have hq15 := z_ne (n := 114) hc15 (by decide)
  have hq16 := z_ne (n := 115) hc16 (by decide)
  have hq17 := z_ne (n := 116) hc17 (by decide)
  have hq18 := z_ne (n := 117) hc18 (by decide)
  have hq19 := z_ne (n := 118) hc19 (by decide)
  have hq20 := z_ne (n := 119) hc20 (by decide)
  have hq21 := z_ne (n := 120) hc21 (by decide)
  refine zJ_tswO (tgt := 178) dX12_valueOf_1 (by omega) (by decide) ?_
  refine zJ_aload_n dX12_valueOf_178 rfl rfl ?_
  refine zJ_getr (mi := mX12_valueOf) dX12_valueOf_179 F_X12_19 zW_54 rfl rfl ?_
  refine zJ_aload_n dX12_valueOf_182 rfl rfl ?_
  refine zJ_geti (mi := mX12_valueOf) (x := m_askedFence) dX12_valueOf_183 F_X12_226 zW_54 rfl rfl rfl ?_
  obtain ⟨hg, h⟩ := gd_some h
  refine zJ_iald (mi := mX12_valueOf) (f := m_feet) dX12_valueOf_186 zW_58 (ix_in hg) rfl rfl ?_
  obtain rfl := so1 h
  exact zJ_iret dX12_valueOf_187 rfl rfl
