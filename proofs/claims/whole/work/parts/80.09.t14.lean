set_option maxRecDepth 100000 in
set_option maxHeartbeats 4000000 in
theorem t_X11_sheet (l : Launch) (σ : zS) {p1 : Int32} {p2 : Int32} {p3 : Int32} {p4 : Int32} {course_fences : Int32} {course_heights : (Nat → Int32)} {r : Int32} {w_course_heights : (Nat → Int32)} (h : f_X11_sheet p1 p2 p3 p4 course_fences course_heights = some (r, w_course_heights)) : zMt l zW 2 mX11_sheet σ ([(323, course_fences)], [(7, course_heights)], []) [.ref 0, .int p1, .int p2, .int p3, .int p4] (some (.int r)) ([(323, course_fences)], [(7, w_course_heights)], []) := by
  refine zMt_of (ls := [(0, .ref 0), (1, .int p1), (2, .int p2), (3, .int p3), (4, .int p4)]) (by decide) rfl (fun _ => Nat.le_of_ble_eq_true rfl) rfl ?_
  unfold f_X11_sheet at h
  refine zJ_iload_n dX11_sheet_0 rfl rfl ?_
  refine zJ_if_lt (tgt := 15) dX11_sheet_1 (by decide) rfl (fun hc => ?_) (fun hc => ?_)
  · replace h := it_t hc h
    refine zJ_iconst dX11_sheet_15 zc_m1 rfl ?_
    obtain ⟨rfl, rfl⟩ := so2 h
    exact zJ_iret dX11_sheet_16 rfl rfl
  · replace h := it_f hc h
    refine zJ_iload_n dX11_sheet_4 rfl rfl ?_
    refine zJ_iconst dX11_sheet_5 zc_3 rfl ?_
    refine zJ_icmp_gt (tgt := 15) dX11_sheet_6 (by decide) rfl (fun hc => ?_) (fun hc => ?_)
    · replace h := it_t hc h
      refine zJ_iconst dX11_sheet_15 zc_m1 rfl ?_
      obtain ⟨rfl, rfl⟩ := so2 h
      exact zJ_iret dX11_sheet_16 rfl rfl
    · replace h := it_f hc h
      refine zJ_iload_n dX11_sheet_9 rfl rfl ?_
      refine zJ_bipush dX11_sheet_10 zb_8 rfl ?_
      refine zJ_icmp_le (tgt := 17) dX11_sheet_12 (by decide) rfl (fun hc => ?_) (fun hc => ?_)
      · replace h := it_t hc h
        refine zJ_iload_n dX11_sheet_17 rfl rfl ?_
        refine zJ_iconst dX11_sheet_18 zc_3 rfl ?_
        have hj_X11_sheet_27 : ∀ (t0_27j : Int32), j_X11_sheet_27 p1 p2 p3 p4 course_fences course_heights t0_27j = some (r, w_course_heights) → zJ l zW 2 mX11_sheet σ ([(323, course_fences)], [(7, course_heights)], []) 27 [(0, .ref 0), (1, .int p1), (2, .int p2), (3, .int p3), (4, .int p4)] [.int t0_27j] (some (.int r)) ([(323, course_fences)], [(7, w_course_heights)], []) := by
          intro t0_27j h
          unfold j_X11_sheet_27 at h
          refine zJ_istore (ls' := [(5, .int t0_27j), (0, .ref 0), (1, .int p1), (2, .int p2), (3, .int p3), (4, .int p4)]) dX11_sheet_27 rfl rfl rfl ?_
          refine zJ_iload dX11_sheet_29 rfl rfl ?_
          have hj_X11_sheet_41 : ∀ (_u : Unit), j_X11_sheet_41 p1 p2 p3 p4 course_fences course_heights t0_27j _u = some (r, w_course_heights) → zJ l zW 2 mX11_sheet σ ([(323, course_fences)], [(7, course_heights)], []) 41 [(0, .ref 0), (1, .int p1), (2, .int p2), (3, .int p3), (4, .int p4), (5, .int t0_27j)] [] (some (.int r)) ([(323, course_fences)], [(7, w_course_heights)], []) := by
            intro _u h
            unfold j_X11_sheet_41 at h
            refine zJ_iload dX11_sheet_41 rfl rfl ?_
            have hj_X11_sheet_51 : ∀ (t0_51j : Int32), j_X11_sheet_51 p1 p3 p4 course_fences course_heights t0_27j t0_51j = some (r, w_course_heights) → zJ l zW 2 mX11_sheet σ ([(323, course_fences)], [(7, course_heights)], []) 51 [(0, .ref 0), (1, .int p1), (3, .int p3), (4, .int p4), (5, .int t0_27j)] [.int t0_51j] (some (.int r)) ([(323, course_fences)], [(7, w_course_heights)], []) := by
              intro t0_51j h
              unfold j_X11_sheet_51 at h
              refine zJ_istore (ls' := [(6, .int t0_51j), (0, .ref 0), (1, .int p1), (3, .int p3), (4, .int p4), (5, .int t0_27j)]) dX11_sheet_51 rfl rfl rfl ?_
              refine zJ_iconst dX11_sheet_53 zc_0 rfl ?_
              refine zJ_istore (ls' := [(7, .int (0 : Int32)), (6, .int t0_51j), (0, .ref 0), (1, .int p1), (3, .int p3), (4, .int p4), (5, .int t0_27j)]) dX11_sheet_54 rfl rfl rfl ?_
              refine zJ_iconst dX11_sheet_56 zc_0 rfl ?_
              refine zJ_istore (ls' := [(8, .int (0 : Int32)), (7, .int (0 : Int32)), (6, .int t0_51j), (0, .ref 0), (1, .int p1), (3, .int p3), (4, .int p4), (5, .int t0_27j)]) dX11_sheet_57 rfl rfl rfl ?_
              have hk59 : ∀ (v7_59x : Int32) (course_heights_59x : (Nat → Int32)), k_X11_sheet_59 t0_27j v7_59x course_heights_59x = some (r, w_course_heights) → zJ l zW 2 mX11_sheet σ ([(323, course_fences)], [(7, course_heights_59x)], []) 120 [(5, .int t0_27j), (7, .int v7_59x)] [] (some (.int r)) ([(323, course_fences)], [(7, w_course_heights)], []) := by
                intro v7_59x course_heights_59x h
                unfold k_X11_sheet_59 at h
                refine zJ_iload dX11_sheet_120 rfl rfl ?_
                refine zJ_if_eq (tgt := 130) dX11_sheet_122 (by decide) rfl (fun hc => ?_) (fun hc => ?_)
                · replace h := it_t hc h
                  refine zJ_iload dX11_sheet_130 rfl rfl ?_
                  obtain ⟨rfl, rfl⟩ := so2 h
                  exact zJ_iret dX11_sheet_132 rfl rfl
                · replace h := it_f hc h
                  refine zJ_bipush dX11_sheet_125 zb_m3 rfl ?_
                  refine zJ_goto (tgt := 132) dX11_sheet_127 (by decide) ?_
                  obtain ⟨rfl, rfl⟩ := so2 h
                  exact zJ_iret dX11_sheet_132 rfl rfl
              refine zJ_loc (ls' := [(0, .ref 0), (1, .int p1), (3, .int p3), (4, .int p4), (5, .int t0_27j), (6, .int t0_51j), (7, .int (0 : Int32)), (8, .int (0 : Int32))]) (zll_c rfl (zll_c rfl (zll_c rfl (zll_c rfl (zll_c rfl (zll_c rfl (zll_c rfl (zll_c rfl zll_n)))))))) ?_
              refine ml3_J (fun (v7_59 : Int32) (v8_59 : Int32) (course_heights_59 : (Nat → Int32)) => zJ l zW 2 mX11_sheet σ ([(323, course_fences)], [(7, course_heights_59)], []) 59 [(0, .ref 0), (1, .int p1), (3, .int p3), (4, .int p4), (5, .int t0_27j), (6, .int t0_51j), (7, .int v7_59), (8, .int v8_59)] [] (some (.int r)) ([(323, course_fences)], [(7, w_course_heights)], [])) (fun rc59 hrc59 v7_59 v8_59 course_heights_59 h => ?_) zN _ _ _ h
              unfold s_X11_sheet_59 at h
              refine zJ_iload dX11_sheet_59 rfl rfl ?_
              refine zJ_aload_n dX11_sheet_61 rfl rfl ?_
              refine zJ_getr (mi := mX11_sheet) dX11_sheet_62 F_X11_26 zW_0 rfl rfl ?_
              refine zJ_geti (mi := mX11_sheet) (x := course_fences) dX11_sheet_65 F_X11_157 zW_5 rfl rfl rfl ?_
              refine zJ_icmp_ge (tgt := 120) dX11_sheet_68 (by decide) rfl (fun hc => ?_) (fun hc => ?_)
              · replace h := it_t hc h
                refine zJ_loc (ls' := [(5, .int t0_27j), (7, .int v7_59)]) (zll_c rfl (zll_c rfl zll_n)) ?_
                exact hk59 _ _ h
              · replace h := it_f hc h
                refine zJ_iload dX11_sheet_71 rfl rfl ?_
                refine zJ_iload dX11_sheet_73 rfl rfl ?_
                refine zJ_icmp_ge (tgt := 92) dX11_sheet_75 (by decide) rfl (fun hc => ?_) (fun hc => ?_)
                · replace h := it_t hc h
                  refine zJ_iconst dX11_sheet_92 zc_0 rfl ?_
                  refine zJ_istore (ls' := [(9, .int (0 : Int32)), (0, .ref 0), (1, .int p1), (3, .int p3), (4, .int p4), (5, .int t0_27j), (6, .int t0_51j), (7, .int v7_59), (8, .int v8_59)]) dX11_sheet_93 rfl rfl rfl ?_
                  refine zJ_aload_n dX11_sheet_95 rfl rfl ?_
                  refine zJ_getr (mi := mX11_sheet) dX11_sheet_96 F_X11_26 zW_0 rfl rfl ?_
                  refine zJ_getr (mi := mX11_sheet) dX11_sheet_99 F_X11_141 zW_5 rfl rfl ?_
                  refine zJ_iload dX11_sheet_102 rfl rfl ?_
                  refine zJ_iload dX11_sheet_104 rfl rfl ?_
                  obtain ⟨hg, h⟩ := gd_some h
                  refine zK_iast (mi := mX11_sheet) (f := course_heights_59) (lb' := [(7, (upd course_heights_59 v8_59.toNatClampNeg (0 : Int32)))]) dX11_sheet_106 zW_7 (ix_in hg) rfl rfl rfl ?_
                  refine zJ_iload dX11_sheet_107 rfl rfl ?_
                  refine zJ_iload dX11_sheet_109 rfl rfl ?_
                  refine zJ_iadd dX11_sheet_111 rfl ?_
                  obtain ⟨v7n1, ev7n1, h⟩ := lt1_some h
                  refine zJ_nmi ev7n1 ?_
                  refine zJ_istore (ls' := [(7, .int v7n1), (9, .int (0 : Int32)), (0, .ref 0), (1, .int p1), (3, .int p3), (4, .int p4), (5, .int t0_27j), (6, .int t0_51j), (8, .int v8_59)]) dX11_sheet_112 rfl rfl rfl ?_
                  obtain ⟨v8n2, ev8n2, h⟩ := lt1_some h
                  refine zJ_iincN (ls' := [(8, .int v8n2), (7, .int v7n1), (9, .int (0 : Int32)), (0, .ref 0), (1, .int p1), (3, .int p3), (4, .int p4), (5, .int t0_27j), (6, .int t0_51j)]) dX11_sheet_114 rfl rfl zc_1 ev8n2 rfl rfl ?_
                  refine zJ_goto (tgt := 59) dX11_sheet_117 (by decide) ?_
                  refine zJ_loc (ls' := [(0, .ref 0), (1, .int p1), (3, .int p3), (4, .int p4), (5, .int t0_27j), (6, .int t0_51j), (7, .int v7n1), (8, .int v8n2)]) (zll_c rfl (zll_c rfl (zll_c rfl (zll_c rfl (zll_c rfl (zll_c rfl (zll_c rfl (zll_c rfl zll_n)))))))) ?_
                  exact hrc59 _ _ _ h
                · replace h := it_f hc h
                  refine zJ_iload_n dX11_sheet_78 rfl rfl ?_
                  refine zJ_iload_n dX11_sheet_79 rfl rfl ?_
                  refine zJ_iload dX11_sheet_80 rfl rfl ?_
                  refine zJ_iload dX11_sheet_82 rfl rfl ?_
                  refine zJ_imul dX11_sheet_84 rfl ?_
                  refine zJ_iadd dX11_sheet_85 rfl ?_
                  obtain ⟨rn3, hcl, h⟩ := bd1_some h
                  refine zJ_callS2 (σ := σ) (L := ([(323, course_fences)], [(7, course_heights_59)], [])) (mi := mX11_sheet) (yi := mX11_sheetEntry) (as := [.int p1, .int (p3 + (v8_59 * p4))]) (st := []) (L2 := ([(323, course_fences)], [(7, course_heights_59)], [])) dX11_sheet_86 ML_X11_160 Ys_X11_sheetEntry rfl (t_X11_sheetEntry l _ hcl) (zsub_i zle_n zle_n zle_n) (zjok_i rfl rfl (zle_c rfl zle_n) rfl rfl (zle_c rfl zle_n) rfl rfl zle_n) (Nat.le_of_ble_eq_true rfl) (Nat.le_of_ble_eq_true rfl) rfl rfl ?_
                  refine zJ_goto (tgt := 93) dX11_sheet_89 (by decide) ?_
                  refine zJ_istore (ls' := [(9, .int rn3), (0, .ref 0), (1, .int p1), (3, .int p3), (4, .int p4), (5, .int t0_27j), (6, .int t0_51j), (7, .int v7_59), (8, .int v8_59)]) dX11_sheet_93 rfl rfl rfl ?_
                  refine zJ_aload_n dX11_sheet_95 rfl rfl ?_
                  refine zJ_getr (mi := mX11_sheet) dX11_sheet_96 F_X11_26 zW_0 rfl rfl ?_
                  refine zJ_getr (mi := mX11_sheet) dX11_sheet_99 F_X11_141 zW_5 rfl rfl ?_
                  refine zJ_iload dX11_sheet_102 rfl rfl ?_
                  refine zJ_iload dX11_sheet_104 rfl rfl ?_
                  obtain ⟨hg, h⟩ := gd_some h
                  refine zK_iast (mi := mX11_sheet) (f := course_heights_59) (lb' := [(7, (upd course_heights_59 v8_59.toNatClampNeg rn3))]) dX11_sheet_106 zW_7 (ix_in hg) rfl rfl rfl ?_
                  refine zJ_iload dX11_sheet_107 rfl rfl ?_
                  refine zJ_iload dX11_sheet_109 rfl rfl ?_
                  refine zJ_iadd dX11_sheet_111 rfl ?_
                  obtain ⟨v7n4, ev7n4, h⟩ := lt1_some h
                  refine zJ_nmi ev7n4 ?_
                  refine zJ_istore (ls' := [(7, .int v7n4), (9, .int rn3), (0, .ref 0), (1, .int p1), (3, .int p3), (4, .int p4), (5, .int t0_27j), (6, .int t0_51j), (8, .int v8_59)]) dX11_sheet_112 rfl rfl rfl ?_
                  obtain ⟨v8n5, ev8n5, h⟩ := lt1_some h
                  refine zJ_iincN (ls' := [(8, .int v8n5), (7, .int v7n4), (9, .int rn3), (0, .ref 0), (1, .int p1), (3, .int p3), (4, .int p4), (5, .int t0_27j), (6, .int t0_51j)]) dX11_sheet_114 rfl rfl zc_1 ev8n5 rfl rfl ?_
                  refine zJ_goto (tgt := 59) dX11_sheet_117 (by decide) ?_
                  refine zJ_loc (ls' := [(0, .ref 0), (1, .int p1), (3, .int p3), (4, .int p4), (5, .int t0_27j), (6, .int t0_51j), (7, .int v7n4), (8, .int v8n5)]) (zll_c rfl (zll_c rfl (zll_c rfl (zll_c rfl (zll_c rfl (zll_c rfl (zll_c rfl (zll_c rfl zll_n)))))))) ?_
                  exact hrc59 _ _ _ h
            refine zJ_if_eq (tgt := 50) dX11_sheet_43 (by decide) rfl (fun hc => ?_) (fun hc => ?_)
            · replace h := it_t hc h
              refine zJ_iload_n dX11_sheet_50 rfl rfl ?_
              refine zJ_loc (ls' := [(0, .ref 0), (1, .int p1), (3, .int p3), (4, .int p4), (5, .int t0_27j)]) (zll_c rfl (zll_c rfl (zll_c rfl (zll_c rfl (zll_c rfl zll_n))))) ?_
              exact hj_X11_sheet_51 _ h
            · replace h := it_f hc h
              refine zJ_iconst dX11_sheet_46 zc_0 rfl ?_
              refine zJ_goto (tgt := 51) dX11_sheet_47 (by decide) ?_
              refine zJ_loc (ls' := [(0, .ref 0), (1, .int p1), (3, .int p3), (4, .int p4), (5, .int t0_27j)]) (zll_c rfl (zll_c rfl (zll_c rfl (zll_c rfl (zll_c rfl zll_n))))) ?_
              exact hj_X11_sheet_51 _ h
          refine zJ_if_ne (tgt := 41) dX11_sheet_31 (by decide) rfl (fun hc => ?_) (fun hc => ?_)
          · replace h := it_f hc h
            refine zJ_loc (ls' := [(0, .ref 0), (1, .int p1), (2, .int p2), (3, .int p3), (4, .int p4), (5, .int t0_27j)]) (zll_c rfl (zll_c rfl (zll_c rfl (zll_c rfl (zll_c rfl (zll_c rfl zll_n)))))) ?_
            exact hj_X11_sheet_41 _ h
          · replace h := it_t hc h
            refine zJ_iload_n dX11_sheet_34 rfl rfl ?_
            refine zJ_if_ge (tgt := 41) dX11_sheet_35 (by decide) rfl (fun hc => ?_) (fun hc => ?_)
            · replace h := it_t hc h
              refine zJ_loc (ls' := [(0, .ref 0), (1, .int p1), (2, .int p2), (3, .int p3), (4, .int p4), (5, .int t0_27j)]) (zll_c rfl (zll_c rfl (zll_c rfl (zll_c rfl (zll_c rfl (zll_c rfl zll_n)))))) ?_
              exact hj_X11_sheet_41 _ h
            · replace h := it_f hc h
              refine zJ_bipush dX11_sheet_38 zb_m2 rfl ?_
              obtain ⟨rfl, rfl⟩ := so2 h
              exact zJ_iret dX11_sheet_40 rfl rfl
        refine zJ_icmp_ne (tgt := 26) dX11_sheet_19 (by decide) rfl (fun hc => ?_) (fun hc => ?_)
        · replace h := it_f hc h
          refine zJ_iconst dX11_sheet_26 zc_0 rfl ?_
          refine zJ_loc (ls' := [(0, .ref 0), (1, .int p1), (2, .int p2), (3, .int p3), (4, .int p4)]) (zll_c rfl (zll_c rfl (zll_c rfl (zll_c rfl (zll_c rfl zll_n))))) ?_
          exact hj_X11_sheet_27 _ h
        · replace h := it_t hc h
          refine zJ_iconst dX11_sheet_22 zc_1 rfl ?_
          refine zJ_goto (tgt := 27) dX11_sheet_23 (by decide) ?_
          refine zJ_loc (ls' := [(0, .ref 0), (1, .int p1), (2, .int p2), (3, .int p3), (4, .int p4)]) (zll_c rfl (zll_c rfl (zll_c rfl (zll_c rfl (zll_c rfl zll_n))))) ?_
          exact hj_X11_sheet_27 _ h
      · replace h := it_f hc h
        refine zJ_iconst dX11_sheet_15 zc_m1 rfl ?_
        obtain ⟨rfl, rfl⟩ := so2 h
        exact zJ_iret dX11_sheet_16 rfl rfl
set_option maxRecDepth 100000 in
set_option maxHeartbeats 4000000 in
theorem t_X11_show (l : Launch) (σ : zS) {text_size : Int32} {text_limit : Int32} {text_at : Int32} {numbers_size : Int32} {course_fences : Int32} {course_horseCount : Int32} {course_planCount : Int32} {course_allowed : Int32} {course_rule_size : Int32} {rounds_size : Int32} {history_slots : Int32} {history_count : Int32} {drawn_state : Int32} {drawn_faults : Int32} {drawn_tenths : Int32} {drawn_refused : Int32} {drawn_fallen : Int32} {act_kind : Int32} {act_rider : Int32} {act_horse : Int32} {act_third : Int32} {act_fourth : Int32} {text_signs : (Nat → Int32)} {course_kinds : (Nat → Int32)} {course_heights : (Nat → Int32)} {course_feet : (Nat → Int32)} {course_digits : (Nat → Int32)} {course_plans : (Nat → Int32)} {rule_codes : (Nat → Int32)} {rule_stack : (Nat → Int32)} {rule_things : (Nat → Int32)} {rounds_riders : (Nat → Int32)} {rounds_horses : (Nat → Int32)} {rounds_faults : (Nat → Int32)} {rounds_tenths : (Nat → Int32)} {history_cells : (Nat → Int32)} {history_sizes : (Nat → Int32)} {numbers_told : (Nat → Int64)} {r : Int32} {w_text_size : Int32} {w_text_limit : Int32} {w_text_at : Int32} {w_numbers_size : Int32} {w_rounds_size : Int32} {w_history_count : Int32} {w_drawn_state : Int32} {w_drawn_faults : Int32} {w_drawn_tenths : Int32} {w_drawn_refused : Int32} {w_drawn_fallen : Int32} {w_act_kind : Int32} {w_act_rider : Int32} {w_act_horse : Int32} {w_act_third : Int32} {w_act_fourth : Int32} {w_rule_stack : (Nat → Int32)} {w_rule_things : (Nat → Int32)} {w_rounds_riders : (Nat → Int32)} {w_rounds_horses : (Nat → Int32)} {w_rounds_faults : (Nat → Int32)} {w_rounds_tenths : (Nat → Int32)} {w_history_cells : (Nat → Int32)} {w_history_sizes : (Nat → Int32)} {w_numbers_told : (Nat → Int64)} (h : f_X11_show text_size text_limit text_at numbers_size course_fences course_horseCount course_planCount course_allowed course_rule_size rounds_size history_slots history_count drawn_state drawn_faults drawn_tenths drawn_refused drawn_fallen act_kind act_rider act_horse act_third act_fourth text_signs course_kinds course_heights course_feet course_digits course_plans rule_codes rule_stack rule_things rounds_riders rounds_horses rounds_faults rounds_tenths history_cells history_sizes numbers_told = some (r, w_text_size, w_text_limit, w_text_at, w_numbers_size, w_rounds_size, w_history_count, w_drawn_state, w_drawn_faults, w_drawn_tenths, w_drawn_refused, w_drawn_fallen, w_act_kind, w_act_rider, w_act_horse, w_act_third, w_act_fourth, w_rule_stack, w_rule_things, w_rounds_riders, w_rounds_horses, w_rounds_faults, w_rounds_tenths, w_history_cells, w_history_sizes, w_numbers_told)) : zMt l zW 7 mX11_show σ ([(65, text_size), (66, text_limit), (67, text_at), (193, numbers_size), (323, course_fences), (326, course_horseCount), (328, course_planCount), (329, course_allowed), (769, course_rule_size), (1284, rounds_size), (1728, history_slots), (1731, history_count), (2112, drawn_state), (2113, drawn_faults), (2114, drawn_tenths), (2115, drawn_refused), (2116, drawn_fallen), (3072, act_kind), (3073, act_rider), (3074, act_horse), (3075, act_third), (3076, act_fourth)], [(2, text_signs), (6, course_kinds), (7, course_heights), (8, course_feet), (10, course_digits), (11, course_plans), (13, rule_codes), (15, rule_stack), (16, rule_things), (21, rounds_riders), (22, rounds_horses), (23, rounds_faults), (24, rounds_tenths), (28, history_cells), (29, history_sizes)], [(4, numbers_told)]) [.ref 0] (some (.int r)) ([(65, w_text_size), (66, w_text_limit), (67, w_text_at), (193, w_numbers_size), (323, course_fences), (326, course_horseCount), (328, course_planCount), (329, course_allowed), (769, course_rule_size), (1284, w_rounds_size), (1728, history_slots), (1731, w_history_count), (2112, w_drawn_state), (2113, w_drawn_faults), (2114, w_drawn_tenths), (2115, w_drawn_refused), (2116, w_drawn_fallen), (3072, w_act_kind), (3073, w_act_rider), (3074, w_act_horse), (3075, w_act_third), (3076, w_act_fourth)], [(2, text_signs), (6, course_kinds), (7, course_heights), (8, course_feet), (10, course_digits), (11, course_plans), (13, rule_codes), (15, w_rule_stack), (16, w_rule_things), (21, w_rounds_riders), (22, w_rounds_horses), (23, w_rounds_faults), (24, w_rounds_tenths), (28, w_history_cells), (29, w_history_sizes)], [(4, w_numbers_told)]) := by
  refine zMt_of (ls := [(0, .ref 0)]) (by decide) rfl (fun _ => Nat.le_of_ble_eq_true rfl) rfl ?_
  unfold f_X11_show at h
  refine zJ_aload_n dX11_show_0 rfl rfl ?_
  refine zJ_getr (mi := mX11_show) dX11_show_1 F_X11_73 zW_0 rfl rfl ?_
  refine zJ_aload_n dX11_show_4 rfl rfl ?_
  refine zJ_getr (mi := mX11_show) dX11_show_5 F_X11_10 zW_0 rfl rfl ?_
  obtain ⟨rn1, text_limitn2, text_atn3, act_kindn4, act_ridern5, act_horsen6, act_thirdn7, act_fourthn8, hcl, h⟩ := bd8_some h
  refine zJ_callV2 (σ := σ) (L := ([(65, text_size), (66, text_limit), (67, text_at), (193, numbers_size), (323, course_fences), (326, course_horseCount), (328, course_planCount), (329, course_allowed), (769, course_rule_size), (1284, rounds_size), (1728, history_slots), (1731, history_count), (2112, drawn_state), (2113, drawn_faults), (2114, drawn_tenths), (2115, drawn_refused), (2116, drawn_fallen), (3072, act_kind), (3073, act_rider), (3074, act_horse), (3075, act_third), (3076, act_fourth)], [(2, text_signs), (6, course_kinds), (7, course_heights), (8, course_feet), (10, course_digits), (11, course_plans), (13, rule_codes), (15, rule_stack), (16, rule_things), (21, rounds_riders), (22, rounds_horses), (23, rounds_faults), (24, rounds_tenths), (28, history_cells), (29, history_sizes)], [(4, numbers_told)])) (mi := mX11_show) (yi := mX0_check) (as := [.ref 1]) (st := []) (L2 := ([(65, text_size), (66, text_limitn2), (67, text_atn3), (193, numbers_size), (323, course_fences), (326, course_horseCount), (328, course_planCount), (329, course_allowed), (769, course_rule_size), (1284, rounds_size), (1728, history_slots), (1731, history_count), (2112, drawn_state), (2113, drawn_faults), (2114, drawn_tenths), (2115, drawn_refused), (2116, drawn_fallen), (3072, act_kindn4), (3073, act_ridern5), (3074, act_horsen6), (3075, act_thirdn7), (3076, act_fourthn8)], [(2, text_signs), (6, course_kinds), (7, course_heights), (8, course_feet), (10, course_digits), (11, course_plans), (13, rule_codes), (15, rule_stack), (16, rule_things), (21, rounds_riders), (22, rounds_horses), (23, rounds_faults), (24, rounds_tenths), (28, history_cells), (29, history_sizes)], [(4, numbers_told)])) dX11_show_8 ML_X11_286 Yv_X0_check rfl zW_48 rfl rfl (t_X0_check l _ hcl) (zsub_i (zle_c rfl (zle_c rfl (zle_c rfl (zle_c rfl (zle_c rfl (zle_c rfl (zle_c rfl (zle_c rfl zle_n)))))))) (zle_c rfl zle_n) zle_n) (zjok_i rfl rfl (zle_c rfl (zle_c rfl (zle_c rfl (zle_c rfl (zle_c rfl (zle_c rfl (zle_c rfl (zle_c rfl (zle_c rfl (zle_c rfl (zle_c rfl (zle_c rfl (zle_c rfl (zle_c rfl (zle_c rfl (zle_c rfl (zle_c rfl (zle_c rfl (zle_c rfl (zle_c rfl (zle_c rfl (zle_c rfl zle_n)))))))))))))))))))))) rfl rfl (zle_c rfl (zle_c rfl (zle_c rfl (zle_c rfl (zle_c rfl (zle_c rfl (zle_c rfl (zle_c rfl (zle_c rfl (zle_c rfl (zle_c rfl (zle_c rfl (zle_c rfl (zle_c rfl (zle_c rfl zle_n))))))))))))))) rfl rfl (zle_c rfl zle_n)) (Nat.le_of_ble_eq_true rfl) (Nat.le_of_ble_eq_true rfl) rfl rfl ?_
  refine zJ_istore_n (ls' := [(1, .int rn1), (0, .ref 0)]) dX11_show_11 rfl rfl rfl ?_
  refine zJ_iload_n dX11_show_12 rfl rfl ?_
  refine zJ_if_ge (tgt := 25) dX11_show_13 (by decide) rfl (fun hc => ?_) (fun hc => ?_)
  · replace h := it_t hc h
    refine zJ_aload_n dX11_show_25 rfl rfl ?_
    refine zJ_getr (mi := mX11_show) dX11_show_26 F_X11_42 zW_0 rfl rfl ?_
    refine zJ_aload_n dX11_show_29 rfl rfl ?_
    refine zJ_getr (mi := mX11_show) dX11_show_30 F_X11_33 zW_0 rfl rfl ?_
    obtain ⟨history_cellsn9, history_sizesn10, hcl, h⟩ := bd2_some h
    refine zJ_callV2 (σ := σ) (L := ([(65, text_size), (66, text_limitn2), (67, text_atn3), (193, numbers_size), (323, course_fences), (326, course_horseCount), (328, course_planCount), (329, course_allowed), (769, course_rule_size), (1284, rounds_size), (1728, history_slots), (1731, history_count), (2112, drawn_state), (2113, drawn_faults), (2114, drawn_tenths), (2115, drawn_refused), (2116, drawn_fallen), (3072, act_kindn4), (3073, act_ridern5), (3074, act_horsen6), (3075, act_thirdn7), (3076, act_fourthn8)], [(2, text_signs), (6, course_kinds), (7, course_heights), (8, course_feet), (10, course_digits), (11, course_plans), (13, rule_codes), (15, rule_stack), (16, rule_things), (21, rounds_riders), (22, rounds_horses), (23, rounds_faults), (24, rounds_tenths), (28, history_cells), (29, history_sizes)], [(4, numbers_told)])) (mi := mX11_show) (yi := mX8_mark) (as := [.ref 20]) (st := []) (L2 := ([(65, text_size), (66, text_limitn2), (67, text_atn3), (193, numbers_size), (323, course_fences), (326, course_horseCount), (328, course_planCount), (329, course_allowed), (769, course_rule_size), (1284, rounds_size), (1728, history_slots), (1731, history_count), (2112, drawn_state), (2113, drawn_faults), (2114, drawn_tenths), (2115, drawn_refused), (2116, drawn_fallen), (3072, act_kindn4), (3073, act_ridern5), (3074, act_horsen6), (3075, act_thirdn7), (3076, act_fourthn8)], [(2, text_signs), (6, course_kinds), (7, course_heights), (8, course_feet), (10, course_digits), (11, course_plans), (13, rule_codes), (15, rule_stack), (16, rule_things), (21, rounds_riders), (22, rounds_horses), (23, rounds_faults), (24, rounds_tenths), (28, history_cellsn9), (29, history_sizesn10)], [(4, numbers_told)])) dX11_show_33 ML_X11_236 Yv_X8_mark rfl zW_27 rfl rfl (t_X8_mark_history l _ hcl) (zsub_i (zle_c rfl (zle_c rfl (zle_c rfl zle_n))) (zle_c rfl (zle_c rfl (zle_c rfl (zle_c rfl (zle_c rfl (zle_c rfl zle_n)))))) zle_n) (zjok_i rfl rfl (zle_c rfl (zle_c rfl (zle_c rfl (zle_c rfl (zle_c rfl (zle_c rfl (zle_c rfl (zle_c rfl (zle_c rfl (zle_c rfl (zle_c rfl (zle_c rfl (zle_c rfl (zle_c rfl (zle_c rfl (zle_c rfl (zle_c rfl (zle_c rfl (zle_c rfl (zle_c rfl (zle_c rfl (zle_c rfl zle_n)))))))))))))))))))))) rfl rfl (zle_c rfl (zle_c rfl (zle_c rfl (zle_c rfl (zle_c rfl (zle_c rfl (zle_c rfl (zle_c rfl (zle_c rfl (zle_c rfl (zle_c rfl (zle_c rfl (zle_c rfl (zle_c rfl (zle_c rfl zle_n))))))))))))))) rfl rfl (zle_c rfl zle_n)) (Nat.le_of_ble_eq_true rfl) (Nat.le_of_ble_eq_true rfl) rfl rfl ?_
    refine zJ_aload_n dX11_show_36 rfl rfl ?_
    refine zJ_getr (mi := mX11_show) dX11_show_37 F_X11_10 zW_0 rfl rfl ?_
    refine zJ_bipush dX11_show_40 zb_60 rfl ?_
    obtain ⟨text_limitn11, text_atn12, hcl, h⟩ := bd2_some h
    refine zJ_callV2 (σ := σ) (L := ([(65, text_size), (66, text_limitn2), (67, text_atn3), (193, numbers_size), (323, course_fences), (326, course_horseCount), (328, course_planCount), (329, course_allowed), (769, course_rule_size), (1284, rounds_size), (1728, history_slots), (1731, history_count), (2112, drawn_state), (2113, drawn_faults), (2114, drawn_tenths), (2115, drawn_refused), (2116, drawn_fallen), (3072, act_kindn4), (3073, act_ridern5), (3074, act_horsen6), (3075, act_thirdn7), (3076, act_fourthn8)], [(2, text_signs), (6, course_kinds), (7, course_heights), (8, course_feet), (10, course_digits), (11, course_plans), (13, rule_codes), (15, rule_stack), (16, rule_things), (21, rounds_riders), (22, rounds_horses), (23, rounds_faults), (24, rounds_tenths), (28, history_cellsn9), (29, history_sizesn10)], [(4, numbers_told)])) (mi := mX11_show) (yi := mX9_open) (as := [.int (60 : Int32)]) (st := []) (L2 := ([(65, text_size), (66, text_limitn11), (67, text_atn12), (193, numbers_size), (323, course_fences), (326, course_horseCount), (328, course_planCount), (329, course_allowed), (769, course_rule_size), (1284, rounds_size), (1728, history_slots), (1731, history_count), (2112, drawn_state), (2113, drawn_faults), (2114, drawn_tenths), (2115, drawn_refused), (2116, drawn_fallen), (3072, act_kindn4), (3073, act_ridern5), (3074, act_horsen6), (3075, act_thirdn7), (3076, act_fourthn8)], [(2, text_signs), (6, course_kinds), (7, course_heights), (8, course_feet), (10, course_digits), (11, course_plans), (13, rule_codes), (15, rule_stack), (16, rule_things), (21, rounds_riders), (22, rounds_horses), (23, rounds_faults), (24, rounds_tenths), (28, history_cellsn9), (29, history_sizesn10)], [(4, numbers_told)])) dX11_show_42 ML_X11_289 Yv_X9_open rfl zW_1 rfl rfl (t_X9_open l _ hcl) (zsub_i (zle_c rfl (zle_c rfl (zle_c rfl zle_n))) zle_n zle_n) (zjok_i rfl rfl (zle_c rfl (zle_c rfl (zle_c rfl (zle_c rfl (zle_c rfl (zle_c rfl (zle_c rfl (zle_c rfl (zle_c rfl (zle_c rfl (zle_c rfl (zle_c rfl (zle_c rfl (zle_c rfl (zle_c rfl (zle_c rfl (zle_c rfl (zle_c rfl (zle_c rfl (zle_c rfl (zle_c rfl (zle_c rfl zle_n)))))))))))))))))))))) rfl rfl (zle_c rfl (zle_c rfl (zle_c rfl (zle_c rfl (zle_c rfl (zle_c rfl (zle_c rfl (zle_c rfl (zle_c rfl (zle_c rfl (zle_c rfl (zle_c rfl (zle_c rfl (zle_c rfl (zle_c rfl zle_n))))))))))))))) rfl rfl (zle_c rfl zle_n)) (Nat.le_of_ble_eq_true rfl) (Nat.le_of_ble_eq_true rfl) rfl rfl ?_
    refine zJ_iconst dX11_show_45 zc_0 rfl ?_
    refine zJ_istore_n (ls' := [(2, .int (0 : Int32)), (1, .int rn1), (0, .ref 0)]) dX11_show_46 rfl rfl rfl ?_
    refine zJ_iconst dX11_show_47 zc_0 rfl ?_
    refine zJ_istore_n (ls' := [(3, .int (0 : Int32)), (2, .int (0 : Int32)), (1, .int rn1), (0, .ref 0)]) dX11_show_48 rfl rfl rfl ?_
    refine zJ_iconst dX11_show_49 zc_0 rfl ?_
    refine zJ_istore (ls' := [(4, .int (0 : Int32)), (3, .int (0 : Int32)), (2, .int (0 : Int32)), (1, .int rn1), (0, .ref 0)]) dX11_show_50 rfl rfl rfl ?_
    have hk52 : ∀ (v2_52x : Int32) (v3_52x : Int32) (text_at_52x : Int32) (rounds_size_52x : Int32) (drawn_state_52x : Int32) (drawn_faults_52x : Int32) (drawn_tenths_52x : Int32) (drawn_refused_52x : Int32) (drawn_fallen_52x : Int32) (act_kind_52x : Int32) (act_rider_52x : Int32) (act_horse_52x : Int32) (act_third_52x : Int32) (act_fourth_52x : Int32) (rule_stack_52x : (Nat → Int32)) (rule_things_52x : (Nat → Int32)) (rounds_riders_52x : (Nat → Int32)) (rounds_horses_52x : (Nat → Int32)) (rounds_faults_52x : (Nat → Int32)) (rounds_tenths_52x : (Nat → Int32)), k_X11_show_52 text_size numbers_size history_slots history_count numbers_told history_cellsn9 history_sizesn10 text_limitn11 v2_52x v3_52x text_at_52x rounds_size_52x drawn_state_52x drawn_faults_52x drawn_tenths_52x drawn_refused_52x drawn_fallen_52x act_kind_52x act_rider_52x act_horse_52x act_third_52x act_fourth_52x rule_stack_52x rule_things_52x rounds_riders_52x rounds_horses_52x rounds_faults_52x rounds_tenths_52x = some (r, w_text_size, w_text_limit, w_text_at, w_numbers_size, w_rounds_size, w_history_count, w_drawn_state, w_drawn_faults, w_drawn_tenths, w_drawn_refused, w_drawn_fallen, w_act_kind, w_act_rider, w_act_horse, w_act_third, w_act_fourth, w_rule_stack, w_rule_things, w_rounds_riders, w_rounds_horses, w_rounds_faults, w_rounds_tenths, w_history_cells, w_history_sizes, w_numbers_told) → zJ l zW 7 mX11_show σ ([(65, text_size), (66, text_limitn11), (67, text_at_52x), (193, numbers_size), (323, course_fences), (326, course_horseCount), (328, course_planCount), (329, course_allowed), (769, course_rule_size), (1284, rounds_size_52x), (1728, history_slots), (1731, history_count), (2112, drawn_state_52x), (2113, drawn_faults_52x), (2114, drawn_tenths_52x), (2115, drawn_refused_52x), (2116, drawn_fallen_52x), (3072, act_kind_52x), (3073, act_rider_52x), (3074, act_horse_52x), (3075, act_third_52x), (3076, act_fourth_52x)], [(2, text_signs), (6, course_kinds), (7, course_heights), (8, course_feet), (10, course_digits), (11, course_plans), (13, rule_codes), (15, rule_stack_52x), (16, rule_things_52x), (21, rounds_riders_52x), (22, rounds_horses_52x), (23, rounds_faults_52x), (24, rounds_tenths_52x), (28, history_cellsn9), (29, history_sizesn10)], [(4, numbers_told)]) 126 [(0, .ref 0), (2, .int v2_52x), (3, .int v3_52x)] [] (some (.int r)) ([(65, w_text_size), (66, w_text_limit), (67, w_text_at), (193, w_numbers_size), (323, course_fences), (326, course_horseCount), (328, course_planCount), (329, course_allowed), (769, course_rule_size), (1284, w_rounds_size), (1728, history_slots), (1731, w_history_count), (2112, w_drawn_state), (2113, w_drawn_faults), (2114, w_drawn_tenths), (2115, w_drawn_refused), (2116, w_drawn_fallen), (3072, w_act_kind), (3073, w_act_rider), (3074, w_act_horse), (3075, w_act_third), (3076, w_act_fourth)], [(2, text_signs), (6, course_kinds), (7, course_heights), (8, course_feet), (10, course_digits), (11, course_plans), (13, rule_codes), (15, w_rule_stack), (16, w_rule_things), (21, w_rounds_riders), (22, w_rounds_horses), (23, w_rounds_faults), (24, w_rounds_tenths), (28, w_history_cells), (29, w_history_sizes)], [(4, w_numbers_told)]) := by
      intro v2_52x v3_52x text_at_52x rounds_size_52x drawn_state_52x drawn_faults_52x drawn_tenths_52x drawn_refused_52x drawn_fallen_52x act_kind_52x act_rider_52x act_horse_52x act_third_52x act_fourth_52x rule_stack_52x rule_things_52x rounds_riders_52x rounds_horses_52x rounds_faults_52x rounds_tenths_52x h
      unfold k_X11_show_52 at h
      refine zJ_aload_n dX11_show_126 rfl rfl ?_
      refine zJ_getr (mi := mX11_show) dX11_show_127 F_X11_10 zW_0 rfl rfl ?_
      obtain ⟨text_sizen13, hcl, h⟩ := bd1_some h
      refine zJ_callV2 (σ := σ) (L := ([(65, text_size), (66, text_limitn11), (67, text_at_52x), (193, numbers_size), (323, course_fences), (326, course_horseCount), (328, course_planCount), (329, course_allowed), (769, course_rule_size), (1284, rounds_size_52x), (1728, history_slots), (1731, history_count), (2112, drawn_state_52x), (2113, drawn_faults_52x), (2114, drawn_tenths_52x), (2115, drawn_refused_52x), (2116, drawn_fallen_52x), (3072, act_kind_52x), (3073, act_rider_52x), (3074, act_horse_52x), (3075, act_third_52x), (3076, act_fourth_52x)], [(2, text_signs), (6, course_kinds), (7, course_heights), (8, course_feet), (10, course_digits), (11, course_plans), (13, rule_codes), (15, rule_stack_52x), (16, rule_things_52x), (21, rounds_riders_52x), (22, rounds_horses_52x), (23, rounds_faults_52x), (24, rounds_tenths_52x), (28, history_cellsn9), (29, history_sizesn10)], [(4, numbers_told)])) (mi := mX11_show) (yi := mX9_clear) (as := []) (st := []) (L2 := ([(65, text_sizen13), (66, text_limitn11), (67, text_at_52x), (193, numbers_size), (323, course_fences), (326, course_horseCount), (328, course_planCount), (329, course_allowed), (769, course_rule_size), (1284, rounds_size_52x), (1728, history_slots), (1731, history_count), (2112, drawn_state_52x), (2113, drawn_faults_52x), (2114, drawn_tenths_52x), (2115, drawn_refused_52x), (2116, drawn_fallen_52x), (3072, act_kind_52x), (3073, act_rider_52x), (3074, act_horse_52x), (3075, act_third_52x), (3076, act_fourth_52x)], [(2, text_signs), (6, course_kinds), (7, course_heights), (8, course_feet), (10, course_digits), (11, course_plans), (13, rule_codes), (15, rule_stack_52x), (16, rule_things_52x), (21, rounds_riders_52x), (22, rounds_horses_52x), (23, rounds_faults_52x), (24, rounds_tenths_52x), (28, history_cellsn9), (29, history_sizesn10)], [(4, numbers_told)])) dX11_show_130 ML_X11_104 Yv_X9_clear rfl zW_1 rfl rfl (t_X9_clear l _ hcl) (zsub_i (zle_c rfl zle_n) zle_n zle_n) (zjok_i rfl rfl (zle_c rfl (zle_c rfl (zle_c rfl (zle_c rfl (zle_c rfl (zle_c rfl (zle_c rfl (zle_c rfl (zle_c rfl (zle_c rfl (zle_c rfl (zle_c rfl (zle_c rfl (zle_c rfl (zle_c rfl (zle_c rfl (zle_c rfl (zle_c rfl (zle_c rfl (zle_c rfl (zle_c rfl (zle_c rfl zle_n)))))))))))))))))))))) rfl rfl (zle_c rfl (zle_c rfl (zle_c rfl (zle_c rfl (zle_c rfl (zle_c rfl (zle_c rfl (zle_c rfl (zle_c rfl (zle_c rfl (zle_c rfl (zle_c rfl (zle_c rfl (zle_c rfl (zle_c rfl zle_n))))))))))))))) rfl rfl (zle_c rfl zle_n)) (Nat.le_of_ble_eq_true rfl) (Nat.le_of_ble_eq_true rfl) rfl rfl ?_
      refine zJ_iload_n dX11_show_133 rfl rfl ?_
      have hj_X11_show_144 : ∀ (history_count_144j : Int32) (history_cells_144j : (Nat → Int32)) (history_sizes_144j : (Nat → Int32)), j_X11_show_144 numbers_size numbers_told text_limitn11 v2_52x v3_52x text_at_52x rounds_size_52x drawn_state_52x drawn_faults_52x drawn_tenths_52x drawn_refused_52x drawn_fallen_52x act_kind_52x act_rider_52x act_horse_52x act_third_52x act_fourth_52x rule_stack_52x rule_things_52x rounds_riders_52x rounds_horses_52x rounds_faults_52x rounds_tenths_52x text_sizen13 history_count_144j history_cells_144j history_sizes_144j = some (r, w_text_size, w_text_limit, w_text_at, w_numbers_size, w_rounds_size, w_history_count, w_drawn_state, w_drawn_faults, w_drawn_tenths, w_drawn_refused, w_drawn_fallen, w_act_kind, w_act_rider, w_act_horse, w_act_third, w_act_fourth, w_rule_stack, w_rule_things, w_rounds_riders, w_rounds_horses, w_rounds_faults, w_rounds_tenths, w_history_cells, w_history_sizes, w_numbers_told) → zJ l zW 7 mX11_show σ ([(65, text_sizen13), (66, text_limitn11), (67, text_at_52x), (193, numbers_size), (323, course_fences), (326, course_horseCount), (328, course_planCount), (329, course_allowed), (769, course_rule_size), (1284, rounds_size_52x), (1728, history_slots), (1731, history_count_144j), (2112, drawn_state_52x), (2113, drawn_faults_52x), (2114, drawn_tenths_52x), (2115, drawn_refused_52x), (2116, drawn_fallen_52x), (3072, act_kind_52x), (3073, act_rider_52x), (3074, act_horse_52x), (3075, act_third_52x), (3076, act_fourth_52x)], [(2, text_signs), (6, course_kinds), (7, course_heights), (8, course_feet), (10, course_digits), (11, course_plans), (13, rule_codes), (15, rule_stack_52x), (16, rule_things_52x), (21, rounds_riders_52x), (22, rounds_horses_52x), (23, rounds_faults_52x), (24, rounds_tenths_52x), (28, history_cells_144j), (29, history_sizes_144j)], [(4, numbers_told)]) 144 [(0, .ref 0), (2, .int v2_52x), (3, .int v3_52x)] [] (some (.int r)) ([(65, w_text_size), (66, w_text_limit), (67, w_text_at), (193, w_numbers_size), (323, course_fences), (326, course_horseCount), (328, course_planCount), (329, course_allowed), (769, course_rule_size), (1284, w_rounds_size), (1728, history_slots), (1731, w_history_count), (2112, w_drawn_state), (2113, w_drawn_faults), (2114, w_drawn_tenths), (2115, w_drawn_refused), (2116, w_drawn_fallen), (3072, w_act_kind), (3073, w_act_rider), (3074, w_act_horse), (3075, w_act_third), (3076, w_act_fourth)], [(2, text_signs), (6, course_kinds), (7, course_heights), (8, course_feet), (10, course_digits), (11, course_plans), (13, rule_codes), (15, w_rule_stack), (16, w_rule_things), (21, w_rounds_riders), (22, w_rounds_horses), (23, w_rounds_faults), (24, w_rounds_tenths), (28, w_history_cells), (29, w_history_sizes)], [(4, w_numbers_told)]) := by
        intro history_count_144j history_cells_144j history_sizes_144j h
        unfold j_X11_show_144 at h
        refine zJ_aload_n dX11_show_144 rfl rfl ?_
        refine zJ_getr (mi := mX11_show) dX11_show_145 F_X11_19 zW_0 rfl rfl ?_
        obtain ⟨numbers_sizen14, hcl, h⟩ := bd1_some h
        refine zJ_callV2 (σ := σ) (L := ([(65, text_sizen13), (66, text_limitn11), (67, text_at_52x), (193, numbers_size), (323, course_fences), (326, course_horseCount), (328, course_planCount), (329, course_allowed), (769, course_rule_size), (1284, rounds_size_52x), (1728, history_slots), (1731, history_count_144j), (2112, drawn_state_52x), (2113, drawn_faults_52x), (2114, drawn_tenths_52x), (2115, drawn_refused_52x), (2116, drawn_fallen_52x), (3072, act_kind_52x), (3073, act_rider_52x), (3074, act_horse_52x), (3075, act_third_52x), (3076, act_fourth_52x)], [(2, text_signs), (6, course_kinds), (7, course_heights), (8, course_feet), (10, course_digits), (11, course_plans), (13, rule_codes), (15, rule_stack_52x), (16, rule_things_52x), (21, rounds_riders_52x), (22, rounds_horses_52x), (23, rounds_faults_52x), (24, rounds_tenths_52x), (28, history_cells_144j), (29, history_sizes_144j)], [(4, numbers_told)])) (mi := mX11_show) (yi := mX6_start) (as := []) (st := []) (L2 := ([(65, text_sizen13), (66, text_limitn11), (67, text_at_52x), (193, numbers_sizen14), (323, course_fences), (326, course_horseCount), (328, course_planCount), (329, course_allowed), (769, course_rule_size), (1284, rounds_size_52x), (1728, history_slots), (1731, history_count_144j), (2112, drawn_state_52x), (2113, drawn_faults_52x), (2114, drawn_tenths_52x), (2115, drawn_refused_52x), (2116, drawn_fallen_52x), (3072, act_kind_52x), (3073, act_rider_52x), (3074, act_horse_52x), (3075, act_third_52x), (3076, act_fourth_52x)], [(2, text_signs), (6, course_kinds), (7, course_heights), (8, course_feet), (10, course_digits), (11, course_plans), (13, rule_codes), (15, rule_stack_52x), (16, rule_things_52x), (21, rounds_riders_52x), (22, rounds_horses_52x), (23, rounds_faults_52x), (24, rounds_tenths_52x), (28, history_cells_144j), (29, history_sizes_144j)], [(4, numbers_told)])) dX11_show_148 ML_X11_171 Yv_X6_start rfl zW_3 rfl rfl (t_X6_start l _ hcl) (zsub_i (zle_c rfl zle_n) zle_n zle_n) (zjok_i rfl rfl (zle_c rfl (zle_c rfl (zle_c rfl (zle_c rfl (zle_c rfl (zle_c rfl (zle_c rfl (zle_c rfl (zle_c rfl (zle_c rfl (zle_c rfl (zle_c rfl (zle_c rfl (zle_c rfl (zle_c rfl (zle_c rfl (zle_c rfl (zle_c rfl (zle_c rfl (zle_c rfl (zle_c rfl (zle_c rfl zle_n)))))))))))))))))))))) rfl rfl (zle_c rfl (zle_c rfl (zle_c rfl (zle_c rfl (zle_c rfl (zle_c rfl (zle_c rfl (zle_c rfl (zle_c rfl (zle_c rfl (zle_c rfl (zle_c rfl (zle_c rfl (zle_c rfl (zle_c rfl zle_n))))))))))))))) rfl rfl (zle_c rfl zle_n)) (Nat.le_of_ble_eq_true rfl) (Nat.le_of_ble_eq_true rfl) rfl rfl ?_
        refine zJ_aload_n dX11_show_151 rfl rfl ?_
        refine zJ_getr (mi := mX11_show) dX11_show_152 F_X11_19 zW_0 rfl rfl ?_
        refine zJ_iload_n dX11_show_155 rfl rfl ?_
        refine zJ_if_eq (tgt := 163) dX11_show_156 (by decide) rfl (fun hc => ?_) (fun hc => ?_)
        · replace h := it_t hc h
          refine zJ_lconst dX11_show_163 zl_0 rfl ?_
          obtain ⟨numbers_sizen15, numbers_toldn16, hcl, h⟩ := bd2_some h
          refine zJ_callV2 (σ := σ) (L := ([(65, text_sizen13), (66, text_limitn11), (67, text_at_52x), (193, numbers_sizen14), (323, course_fences), (326, course_horseCount), (328, course_planCount), (329, course_allowed), (769, course_rule_size), (1284, rounds_size_52x), (1728, history_slots), (1731, history_count_144j), (2112, drawn_state_52x), (2113, drawn_faults_52x), (2114, drawn_tenths_52x), (2115, drawn_refused_52x), (2116, drawn_fallen_52x), (3072, act_kind_52x), (3073, act_rider_52x), (3074, act_horse_52x), (3075, act_third_52x), (3076, act_fourth_52x)], [(2, text_signs), (6, course_kinds), (7, course_heights), (8, course_feet), (10, course_digits), (11, course_plans), (13, rule_codes), (15, rule_stack_52x), (16, rule_things_52x), (21, rounds_riders_52x), (22, rounds_horses_52x), (23, rounds_faults_52x), (24, rounds_tenths_52x), (28, history_cells_144j), (29, history_sizes_144j)], [(4, numbers_told)])) (mi := mX11_show) (yi := mX6_put) (as := [.long (0 : Int64)]) (st := []) (L2 := ([(65, text_sizen13), (66, text_limitn11), (67, text_at_52x), (193, numbers_sizen15), (323, course_fences), (326, course_horseCount), (328, course_planCount), (329, course_allowed), (769, course_rule_size), (1284, rounds_size_52x), (1728, history_slots), (1731, history_count_144j), (2112, drawn_state_52x), (2113, drawn_faults_52x), (2114, drawn_tenths_52x), (2115, drawn_refused_52x), (2116, drawn_fallen_52x), (3072, act_kind_52x), (3073, act_rider_52x), (3074, act_horse_52x), (3075, act_third_52x), (3076, act_fourth_52x)], [(2, text_signs), (6, course_kinds), (7, course_heights), (8, course_feet), (10, course_digits), (11, course_plans), (13, rule_codes), (15, rule_stack_52x), (16, rule_things_52x), (21, rounds_riders_52x), (22, rounds_horses_52x), (23, rounds_faults_52x), (24, rounds_tenths_52x), (28, history_cells_144j), (29, history_sizes_144j)], [(4, numbers_toldn16)])) dX11_show_164 ML_X11_177 Yv_X6_put rfl zW_3 rfl rfl (t_X6_put l _ hcl) (zsub_i (zle_c rfl zle_n) zle_n (zle_c rfl zle_n)) (zjok_i rfl rfl (zle_c rfl (zle_c rfl (zle_c rfl (zle_c rfl (zle_c rfl (zle_c rfl (zle_c rfl (zle_c rfl (zle_c rfl (zle_c rfl (zle_c rfl (zle_c rfl (zle_c rfl (zle_c rfl (zle_c rfl (zle_c rfl (zle_c rfl (zle_c rfl (zle_c rfl (zle_c rfl (zle_c rfl (zle_c rfl zle_n)))))))))))))))))))))) rfl rfl (zle_c rfl (zle_c rfl (zle_c rfl (zle_c rfl (zle_c rfl (zle_c rfl (zle_c rfl (zle_c rfl (zle_c rfl (zle_c rfl (zle_c rfl (zle_c rfl (zle_c rfl (zle_c rfl (zle_c rfl zle_n))))))))))))))) rfl rfl (zle_c rfl zle_n)) (Nat.le_of_ble_eq_true rfl) (Nat.le_of_ble_eq_true rfl) rfl rfl ?_
          refine zJ_aload_n dX11_show_167 rfl rfl ?_
          refine zJ_getr (mi := mX11_show) dX11_show_168 F_X11_19 zW_0 rfl rfl ?_
          refine zJ_aload_n dX11_show_171 rfl rfl ?_
          refine zJ_getr (mi := mX11_show) dX11_show_172 F_X11_33 zW_0 rfl rfl ?_
          refine zJ_geti (mi := mX11_show) (x := rounds_size_52x) dX11_show_175 F_X11_107 zW_20 rfl rfl rfl ?_
          refine zJ_i2l dX11_show_178 rfl ?_
          obtain ⟨numbers_sizen17, numbers_toldn18, hcl, h⟩ := bd2_some h
          refine zJ_callV2 (σ := σ) (L := ([(65, text_sizen13), (66, text_limitn11), (67, text_at_52x), (193, numbers_sizen15), (323, course_fences), (326, course_horseCount), (328, course_planCount), (329, course_allowed), (769, course_rule_size), (1284, rounds_size_52x), (1728, history_slots), (1731, history_count_144j), (2112, drawn_state_52x), (2113, drawn_faults_52x), (2114, drawn_tenths_52x), (2115, drawn_refused_52x), (2116, drawn_fallen_52x), (3072, act_kind_52x), (3073, act_rider_52x), (3074, act_horse_52x), (3075, act_third_52x), (3076, act_fourth_52x)], [(2, text_signs), (6, course_kinds), (7, course_heights), (8, course_feet), (10, course_digits), (11, course_plans), (13, rule_codes), (15, rule_stack_52x), (16, rule_things_52x), (21, rounds_riders_52x), (22, rounds_horses_52x), (23, rounds_faults_52x), (24, rounds_tenths_52x), (28, history_cells_144j), (29, history_sizes_144j)], [(4, numbers_toldn16)])) (mi := mX11_show) (yi := mX6_put) (as := [.long rounds_size_52x.toInt64]) (st := []) (L2 := ([(65, text_sizen13), (66, text_limitn11), (67, text_at_52x), (193, numbers_sizen17), (323, course_fences), (326, course_horseCount), (328, course_planCount), (329, course_allowed), (769, course_rule_size), (1284, rounds_size_52x), (1728, history_slots), (1731, history_count_144j), (2112, drawn_state_52x), (2113, drawn_faults_52x), (2114, drawn_tenths_52x), (2115, drawn_refused_52x), (2116, drawn_fallen_52x), (3072, act_kind_52x), (3073, act_rider_52x), (3074, act_horse_52x), (3075, act_third_52x), (3076, act_fourth_52x)], [(2, text_signs), (6, course_kinds), (7, course_heights), (8, course_feet), (10, course_digits), (11, course_plans), (13, rule_codes), (15, rule_stack_52x), (16, rule_things_52x), (21, rounds_riders_52x), (22, rounds_horses_52x), (23, rounds_faults_52x), (24, rounds_tenths_52x), (28, history_cells_144j), (29, history_sizes_144j)], [(4, numbers_toldn18)])) dX11_show_179 ML_X11_177 Yv_X6_put rfl zW_3 rfl rfl (t_X6_put l _ hcl) (zsub_i (zle_c rfl zle_n) zle_n (zle_c rfl zle_n)) (zjok_i rfl rfl (zle_c rfl (zle_c rfl (zle_c rfl (zle_c rfl (zle_c rfl (zle_c rfl (zle_c rfl (zle_c rfl (zle_c rfl (zle_c rfl (zle_c rfl (zle_c rfl (zle_c rfl (zle_c rfl (zle_c rfl (zle_c rfl (zle_c rfl (zle_c rfl (zle_c rfl (zle_c rfl (zle_c rfl (zle_c rfl zle_n)))))))))))))))))))))) rfl rfl (zle_c rfl (zle_c rfl (zle_c rfl (zle_c rfl (zle_c rfl (zle_c rfl (zle_c rfl (zle_c rfl (zle_c rfl (zle_c rfl (zle_c rfl (zle_c rfl (zle_c rfl (zle_c rfl (zle_c rfl zle_n))))))))))))))) rfl rfl (zle_c rfl zle_n)) (Nat.le_of_ble_eq_true rfl) (Nat.le_of_ble_eq_true rfl) rfl rfl ?_
          refine zJ_iload_n dX11_show_182 rfl rfl ?_
          obtain ⟨rfl, rfl, rfl, rfl, rfl, rfl, rfl, rfl, rfl, rfl, rfl, rfl, rfl, rfl, rfl, rfl, rfl, rfl, rfl, rfl, rfl, rfl, rfl, rfl, rfl, rfl⟩ := so26 h
          exact zJ_iret dX11_show_183 rfl rfl
        · replace h := it_f hc h
          refine zJ_lconst dX11_show_159 zl_1 rfl ?_
          refine zJ_goto (tgt := 164) dX11_show_160 (by decide) ?_
          obtain ⟨numbers_sizen19, numbers_toldn20, hcl, h⟩ := bd2_some h
          refine zJ_callV2 (σ := σ) (L := ([(65, text_sizen13), (66, text_limitn11), (67, text_at_52x), (193, numbers_sizen14), (323, course_fences), (326, course_horseCount), (328, course_planCount), (329, course_allowed), (769, course_rule_size), (1284, rounds_size_52x), (1728, history_slots), (1731, history_count_144j), (2112, drawn_state_52x), (2113, drawn_faults_52x), (2114, drawn_tenths_52x), (2115, drawn_refused_52x), (2116, drawn_fallen_52x), (3072, act_kind_52x), (3073, act_rider_52x), (3074, act_horse_52x), (3075, act_third_52x), (3076, act_fourth_52x)], [(2, text_signs), (6, course_kinds), (7, course_heights), (8, course_feet), (10, course_digits), (11, course_plans), (13, rule_codes), (15, rule_stack_52x), (16, rule_things_52x), (21, rounds_riders_52x), (22, rounds_horses_52x), (23, rounds_faults_52x), (24, rounds_tenths_52x), (28, history_cells_144j), (29, history_sizes_144j)], [(4, numbers_told)])) (mi := mX11_show) (yi := mX6_put) (as := [.long (1 : Int64)]) (st := []) (L2 := ([(65, text_sizen13), (66, text_limitn11), (67, text_at_52x), (193, numbers_sizen19), (323, course_fences), (326, course_horseCount), (328, course_planCount), (329, course_allowed), (769, course_rule_size), (1284, rounds_size_52x), (1728, history_slots), (1731, history_count_144j), (2112, drawn_state_52x), (2113, drawn_faults_52x), (2114, drawn_tenths_52x), (2115, drawn_refused_52x), (2116, drawn_fallen_52x), (3072, act_kind_52x), (3073, act_rider_52x), (3074, act_horse_52x), (3075, act_third_52x), (3076, act_fourth_52x)], [(2, text_signs), (6, course_kinds), (7, course_heights), (8, course_feet), (10, course_digits), (11, course_plans), (13, rule_codes), (15, rule_stack_52x), (16, rule_things_52x), (21, rounds_riders_52x), (22, rounds_horses_52x), (23, rounds_faults_52x), (24, rounds_tenths_52x), (28, history_cells_144j), (29, history_sizes_144j)], [(4, numbers_toldn20)])) dX11_show_164 ML_X11_177 Yv_X6_put rfl zW_3 rfl rfl (t_X6_put l _ hcl) (zsub_i (zle_c rfl zle_n) zle_n (zle_c rfl zle_n)) (zjok_i rfl rfl (zle_c rfl (zle_c rfl (zle_c rfl (zle_c rfl (zle_c rfl (zle_c rfl (zle_c rfl (zle_c rfl (zle_c rfl (zle_c rfl (zle_c rfl (zle_c rfl (zle_c rfl (zle_c rfl (zle_c rfl (zle_c rfl (zle_c rfl (zle_c rfl (zle_c rfl (zle_c rfl (zle_c rfl (zle_c rfl zle_n)))))))))))))))))))))) rfl rfl (zle_c rfl (zle_c rfl (zle_c rfl (zle_c rfl (zle_c rfl (zle_c rfl (zle_c rfl (zle_c rfl (zle_c rfl (zle_c rfl (zle_c rfl (zle_c rfl (zle_c rfl (zle_c rfl (zle_c rfl zle_n))))))))))))))) rfl rfl (zle_c rfl zle_n)) (Nat.le_of_ble_eq_true rfl) (Nat.le_of_ble_eq_true rfl) rfl rfl ?_
          refine zJ_aload_n dX11_show_167 rfl rfl ?_
          refine zJ_getr (mi := mX11_show) dX11_show_168 F_X11_19 zW_0 rfl rfl ?_
          refine zJ_aload_n dX11_show_171 rfl rfl ?_
          refine zJ_getr (mi := mX11_show) dX11_show_172 F_X11_33 zW_0 rfl rfl ?_
          refine zJ_geti (mi := mX11_show) (x := rounds_size_52x) dX11_show_175 F_X11_107 zW_20 rfl rfl rfl ?_
          refine zJ_i2l dX11_show_178 rfl ?_
          obtain ⟨numbers_sizen21, numbers_toldn22, hcl, h⟩ := bd2_some h
          refine zJ_callV2 (σ := σ) (L := ([(65, text_sizen13), (66, text_limitn11), (67, text_at_52x), (193, numbers_sizen19), (323, course_fences), (326, course_horseCount), (328, course_planCount), (329, course_allowed), (769, course_rule_size), (1284, rounds_size_52x), (1728, history_slots), (1731, history_count_144j), (2112, drawn_state_52x), (2113, drawn_faults_52x), (2114, drawn_tenths_52x), (2115, drawn_refused_52x), (2116, drawn_fallen_52x), (3072, act_kind_52x), (3073, act_rider_52x), (3074, act_horse_52x), (3075, act_third_52x), (3076, act_fourth_52x)], [(2, text_signs), (6, course_kinds), (7, course_heights), (8, course_feet), (10, course_digits), (11, course_plans), (13, rule_codes), (15, rule_stack_52x), (16, rule_things_52x), (21, rounds_riders_52x), (22, rounds_horses_52x), (23, rounds_faults_52x), (24, rounds_tenths_52x), (28, history_cells_144j), (29, history_sizes_144j)], [(4, numbers_toldn20)])) (mi := mX11_show) (yi := mX6_put) (as := [.long rounds_size_52x.toInt64]) (st := []) (L2 := ([(65, text_sizen13), (66, text_limitn11), (67, text_at_52x), (193, numbers_sizen21), (323, course_fences), (326, course_horseCount), (328, course_planCount), (329, course_allowed), (769, course_rule_size), (1284, rounds_size_52x), (1728, history_slots), (1731, history_count_144j), (2112, drawn_state_52x), (2113, drawn_faults_52x), (2114, drawn_tenths_52x), (2115, drawn_refused_52x), (2116, drawn_fallen_52x), (3072, act_kind_52x), (3073, act_rider_52x), (3074, act_horse_52x), (3075, act_third_52x), (3076, act_fourth_52x)], [(2, text_signs), (6, course_kinds), (7, course_heights), (8, course_feet), (10, course_digits), (11, course_plans), (13, rule_codes), (15, rule_stack_52x), (16, rule_things_52x), (21, rounds_riders_52x), (22, rounds_horses_52x), (23, rounds_faults_52x), (24, rounds_tenths_52x), (28, history_cells_144j), (29, history_sizes_144j)], [(4, numbers_toldn22)])) dX11_show_179 ML_X11_177 Yv_X6_put rfl zW_3 rfl rfl (t_X6_put l _ hcl) (zsub_i (zle_c rfl zle_n) zle_n (zle_c rfl zle_n)) (zjok_i rfl rfl (zle_c rfl (zle_c rfl (zle_c rfl (zle_c rfl (zle_c rfl (zle_c rfl (zle_c rfl (zle_c rfl (zle_c rfl (zle_c rfl (zle_c rfl (zle_c rfl (zle_c rfl (zle_c rfl (zle_c rfl (zle_c rfl (zle_c rfl (zle_c rfl (zle_c rfl (zle_c rfl (zle_c rfl (zle_c rfl zle_n)))))))))))))))))))))) rfl rfl (zle_c rfl (zle_c rfl (zle_c rfl (zle_c rfl (zle_c rfl (zle_c rfl (zle_c rfl (zle_c rfl (zle_c rfl (zle_c rfl (zle_c rfl (zle_c rfl (zle_c rfl (zle_c rfl (zle_c rfl zle_n))))))))))))))) rfl rfl (zle_c rfl zle_n)) (Nat.le_of_ble_eq_true rfl) (Nat.le_of_ble_eq_true rfl) rfl rfl ?_
          refine zJ_iload_n dX11_show_182 rfl rfl ?_
          obtain ⟨rfl, rfl, rfl, rfl, rfl, rfl, rfl, rfl, rfl, rfl, rfl, rfl, rfl, rfl, rfl, rfl, rfl, rfl, rfl, rfl, rfl, rfl, rfl, rfl, rfl, rfl⟩ := so26 h
          exact zJ_iret dX11_show_183 rfl rfl
      refine zJ_if_le (tgt := 144) dX11_show_134 (by decide) rfl (fun hc => ?_) (fun hc => ?_)
      · replace h := it_t hc h
        refine zJ_loc (ls' := [(0, .ref 0), (2, .int v2_52x), (3, .int v3_52x)]) (zll_c rfl (zll_c rfl (zll_c rfl zll_n))) ?_
        exact hj_X11_show_144 _ _ _ h
      · replace h := it_f hc h
        refine zJ_aload_n dX11_show_137 rfl rfl ?_
        refine zJ_getr (mi := mX11_show) dX11_show_138 F_X11_42 zW_0 rfl rfl ?_
        obtain ⟨history_countn23, history_cellsn24, history_sizesn25, hcl, h⟩ := bd3_some h
        refine zJ_callV2 (σ := σ) (L := ([(65, text_sizen13), (66, text_limitn11), (67, text_at_52x), (193, numbers_size), (323, course_fences), (326, course_horseCount), (328, course_planCount), (329, course_allowed), (769, course_rule_size), (1284, rounds_size_52x), (1728, history_slots), (1731, history_count), (2112, drawn_state_52x), (2113, drawn_faults_52x), (2114, drawn_tenths_52x), (2115, drawn_refused_52x), (2116, drawn_fallen_52x), (3072, act_kind_52x), (3073, act_rider_52x), (3074, act_horse_52x), (3075, act_third_52x), (3076, act_fourth_52x)], [(2, text_signs), (6, course_kinds), (7, course_heights), (8, course_feet), (10, course_digits), (11, course_plans), (13, rule_codes), (15, rule_stack_52x), (16, rule_things_52x), (21, rounds_riders_52x), (22, rounds_horses_52x), (23, rounds_faults_52x), (24, rounds_tenths_52x), (28, history_cellsn9), (29, history_sizesn10)], [(4, numbers_told)])) (mi := mX11_show) (yi := mX8_commit) (as := []) (st := []) (L2 := ([(65, text_sizen13), (66, text_limitn11), (67, text_at_52x), (193, numbers_size), (323, course_fences), (326, course_horseCount), (328, course_planCount), (329, course_allowed), (769, course_rule_size), (1284, rounds_size_52x), (1728, history_slots), (1731, history_countn23), (2112, drawn_state_52x), (2113, drawn_faults_52x), (2114, drawn_tenths_52x), (2115, drawn_refused_52x), (2116, drawn_fallen_52x), (3072, act_kind_52x), (3073, act_rider_52x), (3074, act_horse_52x), (3075, act_third_52x), (3076, act_fourth_52x)], [(2, text_signs), (6, course_kinds), (7, course_heights), (8, course_feet), (10, course_digits), (11, course_plans), (13, rule_codes), (15, rule_stack_52x), (16, rule_things_52x), (21, rounds_riders_52x), (22, rounds_horses_52x), (23, rounds_faults_52x), (24, rounds_tenths_52x), (28, history_cellsn24), (29, history_sizesn25)], [(4, numbers_told)])) dX11_show_141 ML_X11_244 Yv_X8_commit rfl zW_27 rfl rfl (t_X8_commit_history l _ hcl) (zsub_i (zle_c rfl (zle_c rfl zle_n)) (zle_c rfl (zle_c rfl zle_n)) zle_n) (zjok_i rfl rfl (zle_c rfl (zle_c rfl (zle_c rfl (zle_c rfl (zle_c rfl (zle_c rfl (zle_c rfl (zle_c rfl (zle_c rfl (zle_c rfl (zle_c rfl (zle_c rfl (zle_c rfl (zle_c rfl (zle_c rfl (zle_c rfl (zle_c rfl (zle_c rfl (zle_c rfl (zle_c rfl (zle_c rfl (zle_c rfl zle_n)))))))))))))))))))))) rfl rfl (zle_c rfl (zle_c rfl (zle_c rfl (zle_c rfl (zle_c rfl (zle_c rfl (zle_c rfl (zle_c rfl (zle_c rfl (zle_c rfl (zle_c rfl (zle_c rfl (zle_c rfl (zle_c rfl (zle_c rfl zle_n))))))))))))))) rfl rfl (zle_c rfl zle_n)) (Nat.le_of_ble_eq_true rfl) (Nat.le_of_ble_eq_true rfl) rfl rfl ?_
        refine zJ_loc (ls' := [(0, .ref 0), (2, .int v2_52x), (3, .int v3_52x)]) (zll_c rfl (zll_c rfl (zll_c rfl zll_n))) ?_
        exact hj_X11_show_144 _ _ _ h
    refine zJ_loc (ls' := [(0, .ref 0), (2, .int (0 : Int32)), (3, .int (0 : Int32)), (4, .int (0 : Int32))]) (zll_c rfl (zll_c rfl (zll_c rfl (zll_c rfl zll_n)))) ?_
    refine ml21_J (fun (v2_52 : Int32) (v3_52 : Int32) (v4_52 : Int32) (text_at_52 : Int32) (rounds_size_52 : Int32) (drawn_state_52 : Int32) (drawn_faults_52 : Int32) (drawn_tenths_52 : Int32) (drawn_refused_52 : Int32) (drawn_fallen_52 : Int32) (act_kind_52 : Int32) (act_rider_52 : Int32) (act_horse_52 : Int32) (act_third_52 : Int32) (act_fourth_52 : Int32) (rule_stack_52 : (Nat → Int32)) (rule_things_52 : (Nat → Int32)) (rounds_riders_52 : (Nat → Int32)) (rounds_horses_52 : (Nat → Int32)) (rounds_faults_52 : (Nat → Int32)) (rounds_tenths_52 : (Nat → Int32)) => zJ l zW 7 mX11_show σ ([(65, text_size), (66, text_limitn11), (67, text_at_52), (193, numbers_size), (323, course_fences), (326, course_horseCount), (328, course_planCount), (329, course_allowed), (769, course_rule_size), (1284, rounds_size_52), (1728, history_slots), (1731, history_count), (2112, drawn_state_52), (2113, drawn_faults_52), (2114, drawn_tenths_52), (2115, drawn_refused_52), (2116, drawn_fallen_52), (3072, act_kind_52), (3073, act_rider_52), (3074, act_horse_52), (3075, act_third_52), (3076, act_fourth_52)], [(2, text_signs), (6, course_kinds), (7, course_heights), (8, course_feet), (10, course_digits), (11, course_plans), (13, rule_codes), (15, rule_stack_52), (16, rule_things_52), (21, rounds_riders_52), (22, rounds_horses_52), (23, rounds_faults_52), (24, rounds_tenths_52), (28, history_cellsn9), (29, history_sizesn10)], [(4, numbers_told)]) 52 [(0, .ref 0), (2, .int v2_52), (3, .int v3_52), (4, .int v4_52)] [] (some (.int r)) ([(65, w_text_size), (66, w_text_limit), (67, w_text_at), (193, w_numbers_size), (323, course_fences), (326, course_horseCount), (328, course_planCount), (329, course_allowed), (769, course_rule_size), (1284, w_rounds_size), (1728, history_slots), (1731, w_history_count), (2112, w_drawn_state), (2113, w_drawn_faults), (2114, w_drawn_tenths), (2115, w_drawn_refused), (2116, w_drawn_fallen), (3072, w_act_kind), (3073, w_act_rider), (3074, w_act_horse), (3075, w_act_third), (3076, w_act_fourth)], [(2, text_signs), (6, course_kinds), (7, course_heights), (8, course_feet), (10, course_digits), (11, course_plans), (13, rule_codes), (15, w_rule_stack), (16, w_rule_things), (21, w_rounds_riders), (22, w_rounds_horses), (23, w_rounds_faults), (24, w_rounds_tenths), (28, w_history_cells), (29, w_history_sizes)], [(4, w_numbers_told)])) (fun rc52 hrc52 v2_52 v3_52 v4_52 text_at_52 rounds_size_52 drawn_state_52 drawn_faults_52 drawn_tenths_52 drawn_refused_52 drawn_fallen_52 act_kind_52 act_rider_52 act_horse_52 act_third_52 act_fourth_52 rule_stack_52 rule_things_52 rounds_riders_52 rounds_horses_52 rounds_faults_52 rounds_tenths_52 h => ?_) zN _ _ _ _ _ _ _ _ _ _ _ _ _ _ _ _ _ _ _ _ _ h
    unfold s_X11_show_52 at h
    refine zJ_iload dX11_show_52 rfl rfl ?_
    refine zJ_bipush dX11_show_54 zb_60 rfl ?_
    refine zJ_icmp_ge (tgt := 126) dX11_show_56 (by decide) rfl (fun hc => ?_) (fun hc => ?_)
    · replace h := it_t hc h
      refine zJ_loc (ls' := [(0, .ref 0), (2, .int v2_52), (3, .int v3_52)]) (zll_c rfl (zll_c rfl (zll_c rfl zll_n))) ?_
      exact hk52 _ _ _ _ _ _ _ _ _ _ _ _ _ _ _ _ _ _ _ _ h
    · replace h := it_f hc h
      refine zJ_iload_n dX11_show_59 rfl rfl ?_
      refine zJ_if_ne (tgt := 126) dX11_show_60 (by decide) rfl (fun hc => ?_) (fun hc => ?_)
      · replace h := it_f hc h
        refine zJ_loc (ls' := [(0, .ref 0), (2, .int v2_52), (3, .int v3_52)]) (zll_c rfl (zll_c rfl (zll_c rfl zll_n))) ?_
        exact hk52 _ _ _ _ _ _ _ _ _ _ _ _ _ _ _ _ _ _ _ _ h
      · replace h := it_t hc h
        refine zJ_aload_n dX11_show_63 rfl rfl ?_
        refine zJ_getr (mi := mX11_show) dX11_show_64 F_X11_10 zW_0 rfl rfl ?_
        obtain ⟨rn26, hcl, h⟩ := bd1_some h
        refine zJ_callV2 (σ := σ) (L := ([(65, text_size), (66, text_limitn11), (67, text_at_52), (193, numbers_size), (323, course_fences), (326, course_horseCount), (328, course_planCount), (329, course_allowed), (769, course_rule_size), (1284, rounds_size_52), (1728, history_slots), (1731, history_count), (2112, drawn_state_52), (2113, drawn_faults_52), (2114, drawn_tenths_52), (2115, drawn_refused_52), (2116, drawn_fallen_52), (3072, act_kind_52), (3073, act_rider_52), (3074, act_horse_52), (3075, act_third_52), (3076, act_fourth_52)], [(2, text_signs), (6, course_kinds), (7, course_heights), (8, course_feet), (10, course_digits), (11, course_plans), (13, rule_codes), (15, rule_stack_52), (16, rule_things_52), (21, rounds_riders_52), (22, rounds_horses_52), (23, rounds_faults_52), (24, rounds_tenths_52), (28, history_cellsn9), (29, history_sizesn10)], [(4, numbers_told)])) (mi := mX11_show) (yi := mX9_isDone) (as := []) (st := []) (L2 := ([(65, text_size), (66, text_limitn11), (67, text_at_52), (193, numbers_size), (323, course_fences), (326, course_horseCount), (328, course_planCount), (329, course_allowed), (769, course_rule_size), (1284, rounds_size_52), (1728, history_slots), (1731, history_count), (2112, drawn_state_52), (2113, drawn_faults_52), (2114, drawn_tenths_52), (2115, drawn_refused_52), (2116, drawn_fallen_52), (3072, act_kind_52), (3073, act_rider_52), (3074, act_horse_52), (3075, act_third_52), (3076, act_fourth_52)], [(2, text_signs), (6, course_kinds), (7, course_heights), (8, course_feet), (10, course_digits), (11, course_plans), (13, rule_codes), (15, rule_stack_52), (16, rule_things_52), (21, rounds_riders_52), (22, rounds_horses_52), (23, rounds_faults_52), (24, rounds_tenths_52), (28, history_cellsn9), (29, history_sizesn10)], [(4, numbers_told)])) dX11_show_67 ML_X11_292 Yv_X9_isDone rfl zW_1 rfl rfl (t_X9_isDone l _ hcl) (zsub_i (zle_c rfl (zle_c rfl zle_n)) zle_n zle_n) (zjok_i rfl rfl (zle_c rfl (zle_c rfl (zle_c rfl (zle_c rfl (zle_c rfl (zle_c rfl (zle_c rfl (zle_c rfl (zle_c rfl (zle_c rfl (zle_c rfl (zle_c rfl (zle_c rfl (zle_c rfl (zle_c rfl (zle_c rfl (zle_c rfl (zle_c rfl (zle_c rfl (zle_c rfl (zle_c rfl (zle_c rfl zle_n)))))))))))))))))))))) rfl rfl (zle_c rfl (zle_c rfl (zle_c rfl (zle_c rfl (zle_c rfl (zle_c rfl (zle_c rfl (zle_c rfl (zle_c rfl (zle_c rfl (zle_c rfl (zle_c rfl (zle_c rfl (zle_c rfl (zle_c rfl zle_n))))))))))))))) rfl rfl (zle_c rfl zle_n)) (Nat.le_of_ble_eq_true rfl) (Nat.le_of_ble_eq_true rfl) rfl rfl ?_
        refine zJ_if_ne (tgt := 126) dX11_show_70 (by decide) rfl (fun hc => ?_) (fun hc => ?_)
        · replace h := it_f hc h
          refine zJ_loc (ls' := [(0, .ref 0), (2, .int v2_52), (3, .int v3_52)]) (zll_c rfl (zll_c rfl (zll_c rfl zll_n))) ?_
          exact hk52 _ _ _ _ _ _ _ _ _ _ _ _ _ _ _ _ _ _ _ _ h
        · replace h := it_t hc h
          refine zJ_aload_n dX11_show_73 rfl rfl ?_
          refine zJ_getr (mi := mX11_show) dX11_show_74 F_X11_73 zW_0 rfl rfl ?_
          refine zJ_aload_n dX11_show_77 rfl rfl ?_
          refine zJ_getr (mi := mX11_show) dX11_show_78 F_X11_10 zW_0 rfl rfl ?_
          obtain ⟨rn27, text_atn28, act_kindn29, act_ridern30, act_horsen31, act_thirdn32, act_fourthn33, hcl, h⟩ := bd7_some h
          refine zJ_callV2 (σ := σ) (L := ([(65, text_size), (66, text_limitn11), (67, text_at_52), (193, numbers_size), (323, course_fences), (326, course_horseCount), (328, course_planCount), (329, course_allowed), (769, course_rule_size), (1284, rounds_size_52), (1728, history_slots), (1731, history_count), (2112, drawn_state_52), (2113, drawn_faults_52), (2114, drawn_tenths_52), (2115, drawn_refused_52), (2116, drawn_fallen_52), (3072, act_kind_52), (3073, act_rider_52), (3074, act_horse_52), (3075, act_third_52), (3076, act_fourth_52)], [(2, text_signs), (6, course_kinds), (7, course_heights), (8, course_feet), (10, course_digits), (11, course_plans), (13, rule_codes), (15, rule_stack_52), (16, rule_things_52), (21, rounds_riders_52), (22, rounds_horses_52), (23, rounds_faults_52), (24, rounds_tenths_52), (28, history_cellsn9), (29, history_sizesn10)], [(4, numbers_told)])) (mi := mX11_show) (yi := mX0_read) (as := [.ref 1]) (st := []) (L2 := ([(65, text_size), (66, text_limitn11), (67, text_atn28), (193, numbers_size), (323, course_fences), (326, course_horseCount), (328, course_planCount), (329, course_allowed), (769, course_rule_size), (1284, rounds_size_52), (1728, history_slots), (1731, history_count), (2112, drawn_state_52), (2113, drawn_faults_52), (2114, drawn_tenths_52), (2115, drawn_refused_52), (2116, drawn_fallen_52), (3072, act_kindn29), (3073, act_ridern30), (3074, act_horsen31), (3075, act_thirdn32), (3076, act_fourthn33)], [(2, text_signs), (6, course_kinds), (7, course_heights), (8, course_feet), (10, course_digits), (11, course_plans), (13, rule_codes), (15, rule_stack_52), (16, rule_things_52), (21, rounds_riders_52), (22, rounds_horses_52), (23, rounds_faults_52), (24, rounds_tenths_52), (28, history_cellsn9), (29, history_sizesn10)], [(4, numbers_told)])) dX11_show_81 ML_X11_295 Yv_X0_read rfl zW_48 rfl rfl (t_X0_read l _ hcl) (zsub_i (zle_c rfl (zle_c rfl (zle_c rfl (zle_c rfl (zle_c rfl (zle_c rfl (zle_c rfl zle_n))))))) (zle_c rfl zle_n) zle_n) (zjok_i rfl rfl (zle_c rfl (zle_c rfl (zle_c rfl (zle_c rfl (zle_c rfl (zle_c rfl (zle_c rfl (zle_c rfl (zle_c rfl (zle_c rfl (zle_c rfl (zle_c rfl (zle_c rfl (zle_c rfl (zle_c rfl (zle_c rfl (zle_c rfl (zle_c rfl (zle_c rfl (zle_c rfl (zle_c rfl (zle_c rfl zle_n)))))))))))))))))))))) rfl rfl (zle_c rfl (zle_c rfl (zle_c rfl (zle_c rfl (zle_c rfl (zle_c rfl (zle_c rfl (zle_c rfl (zle_c rfl (zle_c rfl (zle_c rfl (zle_c rfl (zle_c rfl (zle_c rfl (zle_c rfl zle_n))))))))))))))) rfl rfl (zle_c rfl zle_n)) (Nat.le_of_ble_eq_true rfl) (Nat.le_of_ble_eq_true rfl) rfl rfl ?_
          refine zJ_pop dX11_show_84 rfl rfl ?_
          refine zJ_aload_n dX11_show_85 rfl rfl ?_
          refine zJ_getr (mi := mX11_show) dX11_show_86 F_X11_10 zW_0 rfl rfl ?_
          refine zJ_bipush dX11_show_89 zb_59 rfl ?_
          obtain ⟨rn34, text_atn35, hcl, h⟩ := bd2_some h
          refine zJ_callV2 (σ := σ) (L := ([(65, text_size), (66, text_limitn11), (67, text_atn28), (193, numbers_size), (323, course_fences), (326, course_horseCount), (328, course_planCount), (329, course_allowed), (769, course_rule_size), (1284, rounds_size_52), (1728, history_slots), (1731, history_count), (2112, drawn_state_52), (2113, drawn_faults_52), (2114, drawn_tenths_52), (2115, drawn_refused_52), (2116, drawn_fallen_52), (3072, act_kindn29), (3073, act_ridern30), (3074, act_horsen31), (3075, act_thirdn32), (3076, act_fourthn33)], [(2, text_signs), (6, course_kinds), (7, course_heights), (8, course_feet), (10, course_digits), (11, course_plans), (13, rule_codes), (15, rule_stack_52), (16, rule_things_52), (21, rounds_riders_52), (22, rounds_horses_52), (23, rounds_faults_52), (24, rounds_tenths_52), (28, history_cellsn9), (29, history_sizesn10)], [(4, numbers_told)])) (mi := mX11_show) (yi := mX9_take) (as := [.int (59 : Int32)]) (st := []) (L2 := ([(65, text_size), (66, text_limitn11), (67, text_atn35), (193, numbers_size), (323, course_fences), (326, course_horseCount), (328, course_planCount), (329, course_allowed), (769, course_rule_size), (1284, rounds_size_52), (1728, history_slots), (1731, history_count), (2112, drawn_state_52), (2113, drawn_faults_52), (2114, drawn_tenths_52), (2115, drawn_refused_52), (2116, drawn_fallen_52), (3072, act_kindn29), (3073, act_ridern30), (3074, act_horsen31), (3075, act_thirdn32), (3076, act_fourthn33)], [(2, text_signs), (6, course_kinds), (7, course_heights), (8, course_feet), (10, course_digits), (11, course_plans), (13, rule_codes), (15, rule_stack_52), (16, rule_things_52), (21, rounds_riders_52), (22, rounds_horses_52), (23, rounds_faults_52), (24, rounds_tenths_52), (28, history_cellsn9), (29, history_sizesn10)], [(4, numbers_told)])) dX11_show_91 ML_X11_299 Yv_X9_take rfl zW_1 rfl rfl (t_X9_take l _ hcl) (zsub_i (zle_c rfl (zle_c rfl zle_n)) (zle_c rfl zle_n) zle_n) (zjok_i rfl rfl (zle_c rfl (zle_c rfl (zle_c rfl (zle_c rfl (zle_c rfl (zle_c rfl (zle_c rfl (zle_c rfl (zle_c rfl (zle_c rfl (zle_c rfl (zle_c rfl (zle_c rfl (zle_c rfl (zle_c rfl (zle_c rfl (zle_c rfl (zle_c rfl (zle_c rfl (zle_c rfl (zle_c rfl (zle_c rfl zle_n)))))))))))))))))))))) rfl rfl (zle_c rfl (zle_c rfl (zle_c rfl (zle_c rfl (zle_c rfl (zle_c rfl (zle_c rfl (zle_c rfl (zle_c rfl (zle_c rfl (zle_c rfl (zle_c rfl (zle_c rfl (zle_c rfl (zle_c rfl zle_n))))))))))))))) rfl rfl (zle_c rfl zle_n)) (Nat.le_of_ble_eq_true rfl) (Nat.le_of_ble_eq_true rfl) rfl rfl ?_
          refine zJ_pop dX11_show_94 rfl rfl ?_
          refine zJ_aload_n dX11_show_95 rfl rfl ?_
          obtain ⟨rn36, rounds_sizen37, drawn_staten38, drawn_faultsn39, drawn_tenthsn40, drawn_refusedn41, drawn_fallenn42, rule_stackn43, rule_thingsn44, rounds_ridersn45, rounds_horsesn46, rounds_faultsn47, rounds_tenthsn48, hcl, h⟩ := bd13_some h
          refine zJ_callV2 (σ := σ) (L := ([(65, text_size), (66, text_limitn11), (67, text_atn35), (193, numbers_size), (323, course_fences), (326, course_horseCount), (328, course_planCount), (329, course_allowed), (769, course_rule_size), (1284, rounds_size_52), (1728, history_slots), (1731, history_count), (2112, drawn_state_52), (2113, drawn_faults_52), (2114, drawn_tenths_52), (2115, drawn_refused_52), (2116, drawn_fallen_52), (3072, act_kindn29), (3073, act_ridern30), (3074, act_horsen31), (3075, act_thirdn32), (3076, act_fourthn33)], [(2, text_signs), (6, course_kinds), (7, course_heights), (8, course_feet), (10, course_digits), (11, course_plans), (13, rule_codes), (15, rule_stack_52), (16, rule_things_52), (21, rounds_riders_52), (22, rounds_horses_52), (23, rounds_faults_52), (24, rounds_tenths_52), (28, history_cellsn9), (29, history_sizesn10)], [(4, numbers_told)])) (mi := mX11_show) (yi := mX11_perform) (as := []) (st := []) (L2 := ([(65, text_size), (66, text_limitn11), (67, text_atn35), (193, numbers_size), (323, course_fences), (326, course_horseCount), (328, course_planCount), (329, course_allowed), (769, course_rule_size), (1284, rounds_sizen37), (1728, history_slots), (1731, history_count), (2112, drawn_staten38), (2113, drawn_faultsn39), (2114, drawn_tenthsn40), (2115, drawn_refusedn41), (2116, drawn_fallenn42), (3072, act_kindn29), (3073, act_ridern30), (3074, act_horsen31), (3075, act_thirdn32), (3076, act_fourthn33)], [(2, text_signs), (6, course_kinds), (7, course_heights), (8, course_feet), (10, course_digits), (11, course_plans), (13, rule_codes), (15, rule_stackn43), (16, rule_thingsn44), (21, rounds_ridersn45), (22, rounds_horsesn46), (23, rounds_faultsn47), (24, rounds_tenthsn48), (28, history_cellsn9), (29, history_sizesn10)], [(4, numbers_told)])) dX11_show_96 ML_X11_303 Yv_X11_perform rfl zW_0 rfl rfl (t_X11_perform l _ hcl) (zsub_i (zle_c rfl (zle_c rfl (zle_c rfl (zle_c rfl (zle_c rfl (zle_c rfl (zle_c rfl (zle_c rfl (zle_c rfl (zle_c rfl (zle_c rfl (zle_c rfl (zle_c rfl (zle_c rfl (zle_c rfl (zle_c rfl zle_n)))))))))))))))) (zle_c rfl (zle_c rfl (zle_c rfl (zle_c rfl (zle_c rfl (zle_c rfl (zle_c rfl (zle_c rfl (zle_c rfl (zle_c rfl (zle_c rfl (zle_c rfl zle_n)))))))))))) zle_n) (zjok_i rfl rfl (zle_c rfl (zle_c rfl (zle_c rfl (zle_c rfl (zle_c rfl (zle_c rfl (zle_c rfl (zle_c rfl (zle_c rfl (zle_c rfl (zle_c rfl (zle_c rfl (zle_c rfl (zle_c rfl (zle_c rfl (zle_c rfl (zle_c rfl (zle_c rfl (zle_c rfl (zle_c rfl (zle_c rfl (zle_c rfl zle_n)))))))))))))))))))))) rfl rfl (zle_c rfl (zle_c rfl (zle_c rfl (zle_c rfl (zle_c rfl (zle_c rfl (zle_c rfl (zle_c rfl (zle_c rfl (zle_c rfl (zle_c rfl (zle_c rfl (zle_c rfl (zle_c rfl (zle_c rfl zle_n))))))))))))))) rfl rfl (zle_c rfl zle_n)) (Nat.le_of_ble_eq_true rfl) (Nat.le_of_ble_eq_true rfl) rfl rfl ?_
          refine zJ_if_ne (tgt := 106) dX11_show_99 (by decide) rfl (fun hc => ?_) (fun hc => ?_)
          · replace h := it_f hc h
            refine zJ_iconst dX11_show_106 zc_0 rfl ?_
            refine zJ_istore_n (ls' := [(3, .int (0 : Int32)), (0, .ref 0), (2, .int v2_52), (4, .int v4_52)]) dX11_show_107 rfl rfl rfl ?_
            refine zJ_iload_n dX11_show_108 rfl rfl ?_
            refine zJ_iload_n dX11_show_109 rfl rfl ?_
            refine zJ_if_eq (tgt := 117) dX11_show_110 (by decide) rfl (fun hc => ?_) (fun hc => ?_)
            · refine zJ_iconst dX11_show_117 zc_1 rfl ?_
              refine zJ_iadd dX11_show_118 rfl ?_
              obtain ⟨v2n49, ev2n49, h⟩ := lt1_some h
              refine zJ_nmi ev2n49 ?_
              refine zJ_istore_n (ls' := [(2, .int v2n49), (3, .int (0 : Int32)), (0, .ref 0), (4, .int v4_52)]) dX11_show_119 rfl rfl rfl ?_
              obtain ⟨v4n50, ev4n50, h⟩ := lt1_some h
              refine zJ_iincN (ls' := [(4, .int v4n50), (2, .int v2n49), (3, .int (0 : Int32)), (0, .ref 0)]) dX11_show_120 rfl rfl zc_1 ev4n50 rfl rfl ?_
              refine zJ_goto (tgt := 52) dX11_show_123 (by decide) ?_
              refine zJ_loc (ls' := [(0, .ref 0), (2, .int v2n49), (3, .int (0 : Int32)), (4, .int v4n50)]) (zll_c rfl (zll_c rfl (zll_c rfl (zll_c rfl zll_n)))) ?_
              exact hrc52 _ _ _ _ _ _ _ _ _ _ _ _ _ _ _ _ _ _ _ _ _ h
            · exact absurd hc (by decide)
          · replace h := it_t hc h
            refine zJ_iconst dX11_show_102 zc_1 rfl ?_
            refine zJ_goto (tgt := 107) dX11_show_103 (by decide) ?_
            refine zJ_istore_n (ls' := [(3, .int (1 : Int32)), (0, .ref 0), (2, .int v2_52), (4, .int v4_52)]) dX11_show_107 rfl rfl rfl ?_
            refine zJ_iload_n dX11_show_108 rfl rfl ?_
            refine zJ_iload_n dX11_show_109 rfl rfl ?_
            refine zJ_if_eq (tgt := 117) dX11_show_110 (by decide) rfl (fun hc => ?_) (fun hc => ?_)
            · exact absurd hc (by decide)
            · refine zJ_iconst dX11_show_113 zc_0 rfl ?_
              refine zJ_goto (tgt := 118) dX11_show_114 (by decide) ?_
              refine zJ_iadd dX11_show_118 rfl ?_
              obtain ⟨v2n51, ev2n51, h⟩ := lt1_some h
              refine zJ_nmi ev2n51 ?_
              refine zJ_istore_n (ls' := [(2, .int v2n51), (3, .int (1 : Int32)), (0, .ref 0), (4, .int v4_52)]) dX11_show_119 rfl rfl rfl ?_
              obtain ⟨v4n52, ev4n52, h⟩ := lt1_some h
              refine zJ_iincN (ls' := [(4, .int v4n52), (2, .int v2n51), (3, .int (1 : Int32)), (0, .ref 0)]) dX11_show_120 rfl rfl zc_1 ev4n52 rfl rfl ?_
              refine zJ_goto (tgt := 52) dX11_show_123 (by decide) ?_
              refine zJ_loc (ls' := [(0, .ref 0), (2, .int v2n51), (3, .int (1 : Int32)), (4, .int v4n52)]) (zll_c rfl (zll_c rfl (zll_c rfl (zll_c rfl zll_n)))) ?_
              exact hrc52 _ _ _ _ _ _ _ _ _ _ _ _ _ _ _ _ _ _ _ _ _ h
  · replace h := it_f hc h
    refine zJ_aload_n dX11_show_16 rfl rfl ?_
    refine zJ_getr (mi := mX11_show) dX11_show_17 F_X11_10 zW_0 rfl rfl ?_
    obtain ⟨text_sizen53, hcl, h⟩ := bd1_some h
    refine zJ_callV2 (σ := σ) (L := ([(65, text_size), (66, text_limitn2), (67, text_atn3), (193, numbers_size), (323, course_fences), (326, course_horseCount), (328, course_planCount), (329, course_allowed), (769, course_rule_size), (1284, rounds_size), (1728, history_slots), (1731, history_count), (2112, drawn_state), (2113, drawn_faults), (2114, drawn_tenths), (2115, drawn_refused), (2116, drawn_fallen), (3072, act_kindn4), (3073, act_ridern5), (3074, act_horsen6), (3075, act_thirdn7), (3076, act_fourthn8)], [(2, text_signs), (6, course_kinds), (7, course_heights), (8, course_feet), (10, course_digits), (11, course_plans), (13, rule_codes), (15, rule_stack), (16, rule_things), (21, rounds_riders), (22, rounds_horses), (23, rounds_faults), (24, rounds_tenths), (28, history_cells), (29, history_sizes)], [(4, numbers_told)])) (mi := mX11_show) (yi := mX9_clear) (as := []) (st := []) (L2 := ([(65, text_sizen53), (66, text_limitn2), (67, text_atn3), (193, numbers_size), (323, course_fences), (326, course_horseCount), (328, course_planCount), (329, course_allowed), (769, course_rule_size), (1284, rounds_size), (1728, history_slots), (1731, history_count), (2112, drawn_state), (2113, drawn_faults), (2114, drawn_tenths), (2115, drawn_refused), (2116, drawn_fallen), (3072, act_kindn4), (3073, act_ridern5), (3074, act_horsen6), (3075, act_thirdn7), (3076, act_fourthn8)], [(2, text_signs), (6, course_kinds), (7, course_heights), (8, course_feet), (10, course_digits), (11, course_plans), (13, rule_codes), (15, rule_stack), (16, rule_things), (21, rounds_riders), (22, rounds_horses), (23, rounds_faults), (24, rounds_tenths), (28, history_cells), (29, history_sizes)], [(4, numbers_told)])) dX11_show_20 ML_X11_104 Yv_X9_clear rfl zW_1 rfl rfl (t_X9_clear l _ hcl) (zsub_i (zle_c rfl zle_n) zle_n zle_n) (zjok_i rfl rfl (zle_c rfl (zle_c rfl (zle_c rfl (zle_c rfl (zle_c rfl (zle_c rfl (zle_c rfl (zle_c rfl (zle_c rfl (zle_c rfl (zle_c rfl (zle_c rfl (zle_c rfl (zle_c rfl (zle_c rfl (zle_c rfl (zle_c rfl (zle_c rfl (zle_c rfl (zle_c rfl (zle_c rfl (zle_c rfl zle_n)))))))))))))))))))))) rfl rfl (zle_c rfl (zle_c rfl (zle_c rfl (zle_c rfl (zle_c rfl (zle_c rfl (zle_c rfl (zle_c rfl (zle_c rfl (zle_c rfl (zle_c rfl (zle_c rfl (zle_c rfl (zle_c rfl (zle_c rfl zle_n))))))))))))))) rfl rfl (zle_c rfl zle_n)) (Nat.le_of_ble_eq_true rfl) (Nat.le_of_ble_eq_true rfl) rfl rfl ?_
    refine zJ_iload_n dX11_show_23 rfl rfl ?_
    obtain ⟨rfl, rfl, rfl, rfl, rfl, rfl, rfl, rfl, rfl, rfl, rfl, rfl, rfl, rfl, rfl, rfl, rfl, rfl, rfl, rfl, rfl, rfl, rfl, rfl, rfl, rfl⟩ := so26 h
    exact zJ_iret dX11_show_24 rfl rfl
set_option maxRecDepth 100000 in
set_option maxHeartbeats 4000000 in
theorem t_X9_add (l : Launch) (σ : zS) {p1 : Int32} {text_size : Int32} {text_signs : (Nat → Int32)} {r : Int32} {w_text_size : Int32} {w_text_signs : (Nat → Int32)} (h : f_X9_add p1 text_size text_signs = some (r, w_text_size, w_text_signs)) : zMt l zW 0 mX9_add σ ([(65, text_size)], [(2, text_signs)], []) [.ref 1, .int p1] (some (.int r)) ([(65, w_text_size)], [(2, w_text_signs)], []) := by
  refine zMt_of (ls := [(0, .ref 1), (1, .int p1)]) (by decide) rfl (fun _ => Nat.le_of_ble_eq_true rfl) rfl ?_
  unfold f_X9_add at h
  refine zJ_aload_n dX9_add_0 rfl rfl ?_
  refine zJ_geti (mi := mX9_add) (x := text_size) dX9_add_1 F_X9_15 zW_1 rfl rfl rfl ?_
  refine zJ_bipush dX9_add_4 zb_76 rfl ?_
  refine zJ_icmp_le (tgt := 11) dX9_add_6 (by decide) rfl (fun hc => ?_) (fun hc => ?_)
  · replace h := it_t hc h
    refine zJ_bipush dX9_add_11 zb_24 rfl ?_
    refine zJ_istore_n (ls' := [(2, .int (24 : Int32)), (0, .ref 1), (1, .int p1)]) dX9_add_13 rfl rfl rfl ?_
    have hk14 : ∀ (text_size_14x : Int32) (text_signs_14x : (Nat → Int32)), k_X9_add_14  text_size_14x text_signs_14x = some (r, w_text_size, w_text_signs) → zJ l zW 0 mX9_add σ ([(65, text_size_14x)], [(2, text_signs_14x)], []) 51 [(0, .ref 1)] [] (some (.int r)) ([(65, w_text_size)], [(2, w_text_signs)], []) := by
      intro text_size_14x text_signs_14x h
      unfold k_X9_add_14 at h
      refine zJ_aload_n dX9_add_51 rfl rfl ?_
      refine zJ_geti (mi := mX9_add) (x := text_size_14x) dX9_add_52 F_X9_15 zW_1 rfl rfl rfl ?_
      obtain ⟨rfl, rfl, rfl⟩ := so3 h
      exact zJ_iret dX9_add_55 rfl rfl
    refine zJ_loc (ls' := [(0, .ref 1), (1, .int p1), (2, .int (24 : Int32))]) (zll_c rfl (zll_c rfl (zll_c rfl zll_n))) ?_
    refine ml3_J (fun (v2_14 : Int32) (text_size_14 : Int32) (text_signs_14 : (Nat → Int32)) => zJ l zW 0 mX9_add σ ([(65, text_size_14)], [(2, text_signs_14)], []) 14 [(0, .ref 1), (1, .int p1), (2, .int v2_14)] [] (some (.int r)) ([(65, w_text_size)], [(2, w_text_signs)], [])) (fun rc14 hrc14 v2_14 text_size_14 text_signs_14 h => ?_) zN _ _ _ h
    unfold s_X9_add_14 at h
    refine zJ_iload_n dX9_add_14 rfl rfl ?_
    refine zJ_if_lt (tgt := 51) dX9_add_15 (by decide) rfl (fun hc => ?_) (fun hc => ?_)
    · replace h := it_t hc h
      refine zJ_loc (ls' := [(0, .ref 1)]) (zll_c rfl zll_n) ?_
      exact hk14 _ _ h
    · replace h := it_f hc h
      refine zJ_aload_n dX9_add_18 rfl rfl ?_
      refine zJ_getr (mi := mX9_add) dX9_add_19 F_X9_9 zW_1 rfl rfl ?_
      refine zJ_aload_n dX9_add_22 rfl rfl ?_
      refine zJ_geti (mi := mX9_add) (x := text_size_14) dX9_add_23 F_X9_15 zW_1 rfl rfl rfl ?_
      refine zJ_iload_n dX9_add_26 rfl rfl ?_
      refine zJ_iload_n dX9_add_27 rfl rfl ?_
      refine zJ_iushr dX9_add_28 rfl ?_
      refine zJ_sipush dX9_add_29 zs_255 rfl ?_
      refine zJ_iand dX9_add_32 rfl ?_
      refine zJ_i2c dX9_add_33 rfl ?_
      obtain ⟨hg, h⟩ := gd_some h
      refine zK_cast (mi := mX9_add) (f := text_signs_14) (lb' := [(2, (upd text_signs_14 text_size_14.toNatClampNeg (vp_nar .char (((((p1).toUInt32 >>> ((v2_14).toUInt32 &&& Int32.toUInt32 31)).toInt32 &&& (255 : Int32))).toUInt32 % 65536).toInt32)))]) dX9_add_34 zW_2 (ix_in hg) rfl rfl rfl ?_
      refine zJ_aload_n dX9_add_35 rfl rfl ?_
      refine zJ_dup dX9_add_36 rfl rfl ?_
      refine zJ_geti (mi := mX9_add) (x := text_size_14) dX9_add_37 F_X9_15 zW_1 rfl rfl rfl ?_
      refine zJ_iconst dX9_add_40 zc_1 rfl ?_
      refine zJ_iadd dX9_add_41 rfl ?_
      refine zK_puti (mi := mX9_add) (la' := [(65, (text_size_14 + (1 : Int32)))]) zW_ok dX9_add_42 F_X9_15 P_9_1 zW_1 rfl rfl rfl ?_
      obtain ⟨v2n1, ev2n1, h⟩ := lt1_some h
      refine zJ_iincN (ls' := [(2, .int v2n1), (0, .ref 1), (1, .int p1)]) dX9_add_45 rfl rfl zc_m8 ev2n1 rfl rfl ?_
      refine zJ_goto (tgt := 14) dX9_add_48 (by decide) ?_
      refine zJ_loc (ls' := [(0, .ref 1), (1, .int p1), (2, .int v2n1)]) (zll_c rfl (zll_c rfl (zll_c rfl zll_n))) ?_
      exact hrc14 _ _ _ h
  · replace h := it_f hc h
    refine zJ_iconst dX9_add_9 zc_m1 rfl ?_
    obtain ⟨rfl, rfl, rfl⟩ := so3 h
    exact zJ_iret dX9_add_10 rfl rfl
set_option maxRecDepth 100000 in
set_option maxHeartbeats 4000000 in
theorem t_X11_sign (l : Launch) (σ : zS) {p1 : Int32} {text_size : Int32} {text_signs : (Nat → Int32)} {r : Int32} {w_text_size : Int32} {w_text_signs : (Nat → Int32)} (h : f_X11_sign p1 text_size text_signs = some (r, w_text_size, w_text_signs)) : zMt l zW 1 mX11_sign σ ([(65, text_size)], [(2, text_signs)], []) [.ref 0, .int p1] (some (.int r)) ([(65, w_text_size)], [(2, w_text_signs)], []) := by
  refine zMt_of (ls := [(0, .ref 0), (1, .int p1)]) (by decide) rfl (fun _ => Nat.le_of_ble_eq_true rfl) rfl ?_
  unfold f_X11_sign at h
  refine zJ_aload_n dX11_sign_0 rfl rfl ?_
  refine zJ_getr (mi := mX11_sign) dX11_sign_1 F_X11_10 zW_0 rfl rfl ?_
  refine zJ_iload_n dX11_sign_4 rfl rfl ?_
  obtain ⟨rn1, text_sizen2, text_signsn3, hcl, h⟩ := bd3_some h
  refine zJ_callV2 (σ := σ) (L := ([(65, text_size)], [(2, text_signs)], [])) (mi := mX11_sign) (yi := mX9_add) (as := [.int p1]) (st := []) (L2 := ([(65, text_sizen2)], [(2, text_signsn3)], [])) dX11_sign_5 ML_X11_92 Yv_X9_add rfl zW_1 rfl rfl (t_X9_add l _ hcl) (zsub_i (zle_c rfl zle_n) (zle_c rfl zle_n) zle_n) (zjok_i rfl rfl (zle_c rfl zle_n) rfl rfl (zle_c rfl zle_n) rfl rfl zle_n) (Nat.le_of_ble_eq_true rfl) (Nat.le_of_ble_eq_true rfl) rfl rfl ?_
  obtain ⟨rfl, rfl, rfl⟩ := so3 h
  exact zJ_iret dX11_sign_8 rfl rfl
set_option maxRecDepth 100000 in
set_option maxHeartbeats 4000000 in
theorem t_X11_strides (l : Launch) (σ : zS) {p1 : Int32} {p2 : Int32} {numbers_size : Int32} {course_fences : Int32} {course_horseCount : Int32} {course_feet : (Nat → Int32)} {course_digits : (Nat → Int32)} {numbers_told : (Nat → Int64)} {r : Int32} {w_numbers_size : Int32} {w_numbers_told : (Nat → Int64)} (h : f_X11_strides p1 p2 numbers_size course_fences course_horseCount course_feet course_digits numbers_told = some (r, w_numbers_size, w_numbers_told)) : zMt l zW 3 mX11_strides σ ([(193, numbers_size), (323, course_fences), (326, course_horseCount)], [(8, course_feet), (10, course_digits)], [(4, numbers_told)]) [.ref 0, .int p1, .int p2] (some (.int r)) ([(193, w_numbers_size), (323, course_fences), (326, course_horseCount)], [(8, course_feet), (10, course_digits)], [(4, w_numbers_told)]) := by
  refine zMt_of (ls := [(0, .ref 0), (1, .int p1), (2, .int p2)]) (by decide) rfl (fun _ => Nat.le_of_ble_eq_true rfl) rfl ?_
  unfold f_X11_strides at h
  refine zJ_aload_n dX11_strides_0 rfl rfl ?_
  refine zJ_getr (mi := mX11_strides) dX11_strides_1 F_X11_26 zW_0 rfl rfl ?_
  refine zJ_iload_n dX11_strides_4 rfl rfl ?_
  obtain ⟨rn1, hcl, h⟩ := bd1_some h
  refine zJ_callV2 (σ := σ) (L := ([(193, numbers_size), (323, course_fences), (326, course_horseCount)], [(8, course_feet), (10, course_digits)], [(4, numbers_told)])) (mi := mX11_strides) (yi := mX1_hasHorse) (as := [.int p1]) (st := []) (L2 := ([(193, numbers_size), (323, course_fences), (326, course_horseCount)], [(8, course_feet), (10, course_digits)], [(4, numbers_told)])) dX11_strides_5 ML_X11_147 Yv_X1_hasHorse rfl zW_5 rfl rfl (t_X1_hasHorse l _ hcl) (zsub_i (zle_c rfl zle_n) zle_n zle_n) (zjok_i rfl rfl (zle_c rfl (zle_c rfl (zle_c rfl zle_n))) rfl rfl (zle_c rfl (zle_c rfl zle_n)) rfl rfl (zle_c rfl zle_n)) (Nat.le_of_ble_eq_true rfl) (Nat.le_of_ble_eq_true rfl) rfl rfl ?_
  refine zJ_if_eq (tgt := 22) dX11_strides_8 (by decide) rfl (fun hc => ?_) (fun hc => ?_)
  · replace h := it_t hc h
    refine zJ_iconst dX11_strides_22 zc_m1 rfl ?_
    obtain ⟨rfl, rfl, rfl⟩ := so3 h
    exact zJ_iret dX11_strides_23 rfl rfl
  · replace h := it_f hc h
    refine zJ_aload_n dX11_strides_11 rfl rfl ?_
    refine zJ_getr (mi := mX11_strides) dX11_strides_12 F_X11_26 zW_0 rfl rfl ?_
    refine zJ_iload_n dX11_strides_15 rfl rfl ?_
    obtain ⟨rn2, hcl, h⟩ := bd1_some h
    refine zJ_callV2 (σ := σ) (L := ([(193, numbers_size), (323, course_fences), (326, course_horseCount)], [(8, course_feet), (10, course_digits)], [(4, numbers_told)])) (mi := mX11_strides) (yi := mX1_hasFence) (as := [.int p2]) (st := []) (L2 := ([(193, numbers_size), (323, course_fences), (326, course_horseCount)], [(8, course_feet), (10, course_digits)], [(4, numbers_told)])) dX11_strides_16 ML_X11_132 Yv_X1_hasFence rfl zW_5 rfl rfl (t_X1_hasFence l _ hcl) (zsub_i (zle_c rfl zle_n) zle_n zle_n) (zjok_i rfl rfl (zle_c rfl (zle_c rfl (zle_c rfl zle_n))) rfl rfl (zle_c rfl (zle_c rfl zle_n)) rfl rfl (zle_c rfl zle_n)) (Nat.le_of_ble_eq_true rfl) (Nat.le_of_ble_eq_true rfl) rfl rfl ?_
    refine zJ_if_ne (tgt := 24) dX11_strides_19 (by decide) rfl (fun hc => ?_) (fun hc => ?_)
    · replace h := it_f hc h
      refine zJ_aload_n dX11_strides_24 rfl rfl ?_
      refine zJ_getr (mi := mX11_strides) dX11_strides_25 F_X11_26 zW_0 rfl rfl ?_
      refine zJ_iload_n dX11_strides_28 rfl rfl ?_
      refine zJ_iconst dX11_strides_29 zc_0 rfl ?_
      obtain ⟨rn3, hcl, h⟩ := bd1_some h
      refine zJ_callV2 (σ := σ) (L := ([(193, numbers_size), (323, course_fences), (326, course_horseCount)], [(8, course_feet), (10, course_digits)], [(4, numbers_told)])) (mi := mX11_strides) (yi := mX1_ofHorse) (as := [.int p1, .int (0 : Int32)]) (st := []) (L2 := ([(193, numbers_size), (323, course_fences), (326, course_horseCount)], [(8, course_feet), (10, course_digits)], [(4, numbers_told)])) dX11_strides_30 ML_X11_150 Yv_X1_ofHorse rfl zW_5 rfl rfl (t_X1_ofHorse l _ hcl) (zsub_i zle_n (zle_c rfl zle_n) zle_n) (zjok_i rfl rfl (zle_c rfl (zle_c rfl (zle_c rfl zle_n))) rfl rfl (zle_c rfl (zle_c rfl zle_n)) rfl rfl (zle_c rfl zle_n)) (Nat.le_of_ble_eq_true rfl) (Nat.le_of_ble_eq_true rfl) rfl rfl ?_
      refine zJ_istore_n (ls' := [(3, .int rn3), (0, .ref 0), (1, .int p1), (2, .int p2)]) dX11_strides_33 rfl rfl rfl ?_
      refine zJ_aload_n dX11_strides_34 rfl rfl ?_
      refine zJ_getr (mi := mX11_strides) dX11_strides_35 F_X11_26 zW_0 rfl rfl ?_
      refine zJ_getr (mi := mX11_strides) dX11_strides_38 F_X11_144 zW_5 rfl rfl ?_
      refine zJ_iload_n dX11_strides_41 rfl rfl ?_
      obtain ⟨hg, h⟩ := gd_some h
      refine zJ_iald (mi := mX11_strides) (f := course_feet) dX11_strides_42 zW_8 (ix_in hg) rfl rfl ?_
      obtain ⟨v4n4, ev4n4, h⟩ := lt1_some h
      refine zJ_nmi ev4n4 ?_
      refine zJ_istore (ls' := [(4, .int v4n4), (3, .int rn3), (0, .ref 0), (1, .int p1), (2, .int p2)]) dX11_strides_43 rfl rfl rfl ?_
      refine zJ_iload_n dX11_strides_45 rfl rfl ?_
      have hj_X11_strides_57 : ∀ (t0_57j : Int32), j_X11_strides_57 p1 p2 numbers_size course_feet course_digits numbers_told rn3 v4n4 t0_57j = some (r, w_numbers_size, w_numbers_told) → zJ l zW 3 mX11_strides σ ([(193, numbers_size), (323, course_fences), (326, course_horseCount)], [(8, course_feet), (10, course_digits)], [(4, numbers_told)]) 57 [(0, .ref 0), (1, .int p1), (2, .int p2), (3, .int rn3), (4, .int v4n4)] [.int t0_57j] (some (.int r)) ([(193, w_numbers_size), (323, course_fences), (326, course_horseCount)], [(8, course_feet), (10, course_digits)], [(4, w_numbers_told)]) := by
        intro t0_57j h
        unfold j_X11_strides_57 at h
        refine zJ_istore (ls' := [(5, .int t0_57j), (0, .ref 0), (1, .int p1), (2, .int p2), (3, .int rn3), (4, .int v4n4)]) dX11_strides_57 rfl rfl rfl ?_
        refine zJ_iload dX11_strides_59 rfl rfl ?_
        refine zJ_iload dX11_strides_61 rfl rfl ?_
        refine zJ_iload_n dX11_strides_63 rfl rfl ?_
        refine zJ_imul dX11_strides_64 rfl ?_
        refine zJ_isub dX11_strides_65 rfl ?_
        obtain ⟨v6n5, ev6n5, h⟩ := lt1_some h
        refine zJ_nmi ev6n5 ?_
        refine zJ_istore (ls' := [(6, .int v6n5), (5, .int t0_57j), (0, .ref 0), (1, .int p1), (2, .int p2), (3, .int rn3), (4, .int v4n4)]) dX11_strides_66 rfl rfl rfl ?_
        refine zJ_aload_n dX11_strides_68 rfl rfl ?_
        refine zJ_getr (mi := mX11_strides) dX11_strides_69 F_X11_26 zW_0 rfl rfl ?_
        refine zJ_iload_n dX11_strides_72 rfl rfl ?_
        refine zJ_iload_n dX11_strides_73 rfl rfl ?_
        obtain ⟨rn6, hcl, h⟩ := bd1_some h
        refine zJ_callV2 (σ := σ) (L := ([(193, numbers_size), (323, course_fences), (326, course_horseCount)], [(8, course_feet), (10, course_digits)], [(4, numbers_told)])) (mi := mX11_strides) (yi := mX1_leanAt) (as := [.int p1, .int p2]) (st := []) (L2 := ([(193, numbers_size), (323, course_fences), (326, course_horseCount)], [(8, course_feet), (10, course_digits)], [(4, numbers_told)])) dX11_strides_74 ML_X11_184 Yv_X1_leanAt rfl zW_5 rfl rfl (t_X1_leanAt l _ hcl) (zsub_i zle_n (zle_c rfl (zle_c rfl zle_n)) zle_n) (zjok_i rfl rfl (zle_c rfl (zle_c rfl (zle_c rfl zle_n))) rfl rfl (zle_c rfl (zle_c rfl zle_n)) rfl rfl (zle_c rfl zle_n)) (Nat.le_of_ble_eq_true rfl) (Nat.le_of_ble_eq_true rfl) rfl rfl ?_
        refine zJ_istore (ls' := [(7, .int rn6), (6, .int v6n5), (5, .int t0_57j), (0, .ref 0), (1, .int p1), (2, .int p2), (3, .int rn3), (4, .int v4n4)]) dX11_strides_77 rfl rfl rfl ?_
        refine zJ_iload dX11_strides_79 rfl rfl ?_
        refine zJ_iload dX11_strides_81 rfl rfl ?_
        have hj_X11_strides_91 : ∀ (t0_91j : Int32), j_X11_strides_91 numbers_size numbers_told t0_57j rn6 t0_91j = some (r, w_numbers_size, w_numbers_told) → zJ l zW 3 mX11_strides σ ([(193, numbers_size), (323, course_fences), (326, course_horseCount)], [(8, course_feet), (10, course_digits)], [(4, numbers_told)]) 91 [(0, .ref 0), (5, .int t0_57j), (7, .int rn6)] [.int t0_91j] (some (.int r)) ([(193, w_numbers_size), (323, course_fences), (326, course_horseCount)], [(8, course_feet), (10, course_digits)], [(4, w_numbers_told)]) := by
          intro t0_91j h
          unfold j_X11_strides_91 at h
          refine zJ_istore (ls' := [(8, .int t0_91j), (0, .ref 0), (5, .int t0_57j), (7, .int rn6)]) dX11_strides_91 rfl rfl rfl ?_
          refine zJ_aload_n dX11_strides_93 rfl rfl ?_
          refine zJ_getr (mi := mX11_strides) dX11_strides_94 F_X11_19 zW_0 rfl rfl ?_
          obtain ⟨numbers_sizen7, hcl, h⟩ := bd1_some h
          refine zJ_callV2 (σ := σ) (L := ([(193, numbers_size), (323, course_fences), (326, course_horseCount)], [(8, course_feet), (10, course_digits)], [(4, numbers_told)])) (mi := mX11_strides) (yi := mX6_start) (as := []) (st := []) (L2 := ([(193, numbers_sizen7), (323, course_fences), (326, course_horseCount)], [(8, course_feet), (10, course_digits)], [(4, numbers_told)])) dX11_strides_97 ML_X11_171 Yv_X6_start rfl zW_3 rfl rfl (t_X6_start l _ hcl) (zsub_i (zle_c rfl zle_n) zle_n zle_n) (zjok_i rfl rfl (zle_c rfl (zle_c rfl (zle_c rfl zle_n))) rfl rfl (zle_c rfl (zle_c rfl zle_n)) rfl rfl (zle_c rfl zle_n)) (Nat.le_of_ble_eq_true rfl) (Nat.le_of_ble_eq_true rfl) rfl rfl ?_
          refine zJ_aload_n dX11_strides_100 rfl rfl ?_
          refine zJ_getr (mi := mX11_strides) dX11_strides_101 F_X11_19 zW_0 rfl rfl ?_
          refine zJ_iload dX11_strides_104 rfl rfl ?_
          refine zJ_i2l dX11_strides_106 rfl ?_
          obtain ⟨numbers_sizen8, numbers_toldn9, hcl, h⟩ := bd2_some h
          refine zJ_callV2 (σ := σ) (L := ([(193, numbers_sizen7), (323, course_fences), (326, course_horseCount)], [(8, course_feet), (10, course_digits)], [(4, numbers_told)])) (mi := mX11_strides) (yi := mX6_put) (as := [.long rn6.toInt64]) (st := []) (L2 := ([(193, numbers_sizen8), (323, course_fences), (326, course_horseCount)], [(8, course_feet), (10, course_digits)], [(4, numbers_toldn9)])) dX11_strides_107 ML_X11_177 Yv_X6_put rfl zW_3 rfl rfl (t_X6_put l _ hcl) (zsub_i (zle_c rfl zle_n) zle_n (zle_c rfl zle_n)) (zjok_i rfl rfl (zle_c rfl (zle_c rfl (zle_c rfl zle_n))) rfl rfl (zle_c rfl (zle_c rfl zle_n)) rfl rfl (zle_c rfl zle_n)) (Nat.le_of_ble_eq_true rfl) (Nat.le_of_ble_eq_true rfl) rfl rfl ?_
          refine zJ_aload_n dX11_strides_110 rfl rfl ?_
          refine zJ_getr (mi := mX11_strides) dX11_strides_111 F_X11_19 zW_0 rfl rfl ?_
          refine zJ_iload dX11_strides_114 rfl rfl ?_
          refine zJ_i2l dX11_strides_116 rfl ?_
          obtain ⟨numbers_sizen10, numbers_toldn11, hcl, h⟩ := bd2_some h
          refine zJ_callV2 (σ := σ) (L := ([(193, numbers_sizen8), (323, course_fences), (326, course_horseCount)], [(8, course_feet), (10, course_digits)], [(4, numbers_toldn9)])) (mi := mX11_strides) (yi := mX6_put) (as := [.long t0_91j.toInt64]) (st := []) (L2 := ([(193, numbers_sizen10), (323, course_fences), (326, course_horseCount)], [(8, course_feet), (10, course_digits)], [(4, numbers_toldn11)])) dX11_strides_117 ML_X11_177 Yv_X6_put rfl zW_3 rfl rfl (t_X6_put l _ hcl) (zsub_i (zle_c rfl zle_n) zle_n (zle_c rfl zle_n)) (zjok_i rfl rfl (zle_c rfl (zle_c rfl (zle_c rfl zle_n))) rfl rfl (zle_c rfl (zle_c rfl zle_n)) rfl rfl (zle_c rfl zle_n)) (Nat.le_of_ble_eq_true rfl) (Nat.le_of_ble_eq_true rfl) rfl rfl ?_
          refine zJ_iload dX11_strides_120 rfl rfl ?_
          refine zJ_iload dX11_strides_122 rfl rfl ?_
          refine zJ_iadd dX11_strides_124 rfl ?_
          obtain ⟨rfl, rfl, rfl⟩ := so3 h
          exact zJ_iret dX11_strides_125 rfl rfl
        refine zJ_icmp_ge (tgt := 90) dX11_strides_83 (by decide) rfl (fun hc => ?_) (fun hc => ?_)
        · replace h := it_t hc h
          refine zJ_iconst dX11_strides_90 zc_0 rfl ?_
          refine zJ_loc (ls' := [(0, .ref 0), (5, .int t0_57j), (7, .int rn6)]) (zll_c rfl (zll_c rfl (zll_c rfl zll_n))) ?_
          exact hj_X11_strides_91 _ h
        · replace h := it_f hc h
          refine zJ_iconst dX11_strides_86 zc_1 rfl ?_
          refine zJ_goto (tgt := 91) dX11_strides_87 (by decide) ?_
          refine zJ_loc (ls' := [(0, .ref 0), (5, .int t0_57j), (7, .int rn6)]) (zll_c rfl (zll_c rfl (zll_c rfl zll_n))) ?_
          exact hj_X11_strides_91 _ h
      refine zJ_if_le (tgt := 56) dX11_strides_46 (by decide) rfl (fun hc => ?_) (fun hc => ?_)
      · replace h := it_t hc h
        refine zJ_iconst dX11_strides_56 zc_0 rfl ?_
        refine zJ_loc (ls' := [(0, .ref 0), (1, .int p1), (2, .int p2), (3, .int rn3), (4, .int v4n4)]) (zll_c rfl (zll_c rfl (zll_c rfl (zll_c rfl (zll_c rfl zll_n))))) ?_
        exact hj_X11_strides_57 _ h
      · replace h := it_f hc h
        refine zJ_iload dX11_strides_49 rfl rfl ?_
        refine zJ_iload_n dX11_strides_51 rfl rfl ?_
        obtain ⟨hg, h⟩ := gd_some h
        refine zJ_idiv dX11_strides_52 (nz_ne hg) rfl ?_
        refine zJ_goto (tgt := 57) dX11_strides_53 (by decide) ?_
        refine zJ_loc (ls' := [(0, .ref 0), (1, .int p1), (2, .int p2), (3, .int rn3), (4, .int v4n4)]) (zll_c rfl (zll_c rfl (zll_c rfl (zll_c rfl (zll_c rfl zll_n))))) ?_
        exact hj_X11_strides_57 _ h
    · replace h := it_t hc h
      refine zJ_iconst dX11_strides_22 zc_m1 rfl ?_
      obtain ⟨rfl, rfl, rfl⟩ := so3 h
      exact zJ_iret dX11_strides_23 rfl rfl
set_option maxRecDepth 100000 in
set_option maxHeartbeats 4000000 in
theorem t_X11_sure (l : Launch) (σ : zS) {p1 : Int32} {numbers_size : Int32} {course_fences : Int32} {course_horseCount : Int32} {course_allowed : Int32} {course_rule_size : Int32} {letters_fences : Int32} {course_kinds : (Nat → Int32)} {course_heights : (Nat → Int32)} {course_feet : (Nat → Int32)} {course_digits : (Nat → Int32)} {rule_codes : (Nat → Int32)} {rule_stack : (Nat → Int32)} {rule_things : (Nat → Int32)} {letters_fears : (Nat → Int32)} {letters_tenths : (Nat → Int32)} {letters_least : (Nat → Int32)} {letters_spans : (Nat → Int32)} {numbers_told : (Nat → Int64)} {r : Int32} {w_numbers_size : Int32} {w_letters_fences : Int32} {w_rule_stack : (Nat → Int32)} {w_rule_things : (Nat → Int32)} {w_letters_fears : (Nat → Int32)} {w_letters_tenths : (Nat → Int32)} {w_letters_least : (Nat → Int32)} {w_letters_spans : (Nat → Int32)} {w_numbers_told : (Nat → Int64)} (h : f_X11_sure p1 numbers_size course_fences course_horseCount course_allowed course_rule_size letters_fences course_kinds course_heights course_feet course_digits rule_codes rule_stack rule_things letters_fears letters_tenths letters_least letters_spans numbers_told = some (r, w_numbers_size, w_letters_fences, w_rule_stack, w_rule_things, w_letters_fears, w_letters_tenths, w_letters_least, w_letters_spans, w_numbers_told)) : zMt l zW 6 mX11_sure σ ([(193, numbers_size), (323, course_fences), (326, course_horseCount), (329, course_allowed), (769, course_rule_size), (2180, letters_fences)], [(6, course_kinds), (7, course_heights), (8, course_feet), (10, course_digits), (13, rule_codes), (15, rule_stack), (16, rule_things), (35, letters_fears), (36, letters_tenths), (37, letters_least), (38, letters_spans)], [(4, numbers_told)]) [.ref 0, .int p1] (some (.int r)) ([(193, w_numbers_size), (323, course_fences), (326, course_horseCount), (329, course_allowed), (769, course_rule_size), (2180, w_letters_fences)], [(6, course_kinds), (7, course_heights), (8, course_feet), (10, course_digits), (13, rule_codes), (15, w_rule_stack), (16, w_rule_things), (35, w_letters_fears), (36, w_letters_tenths), (37, w_letters_least), (38, w_letters_spans)], [(4, w_numbers_told)]) := by
  refine zMt_of (ls := [(0, .ref 0), (1, .int p1)]) (by decide) rfl (fun _ => Nat.le_of_ble_eq_true rfl) rfl ?_
  unfold f_X11_sure at h
  refine zJ_aload_n dX11_sure_0 rfl rfl ?_
  refine zJ_getr (mi := mX11_sure) dX11_sure_1 F_X11_26 zW_0 rfl rfl ?_
  refine zJ_iload_n dX11_sure_4 rfl rfl ?_
  obtain ⟨rn1, hcl, h⟩ := bd1_some h
  refine zJ_callV2 (σ := σ) (L := ([(193, numbers_size), (323, course_fences), (326, course_horseCount), (329, course_allowed), (769, course_rule_size), (2180, letters_fences)], [(6, course_kinds), (7, course_heights), (8, course_feet), (10, course_digits), (13, rule_codes), (15, rule_stack), (16, rule_things), (35, letters_fears), (36, letters_tenths), (37, letters_least), (38, letters_spans)], [(4, numbers_told)])) (mi := mX11_sure) (yi := mX1_hasHorse) (as := [.int p1]) (st := []) (L2 := ([(193, numbers_size), (323, course_fences), (326, course_horseCount), (329, course_allowed), (769, course_rule_size), (2180, letters_fences)], [(6, course_kinds), (7, course_heights), (8, course_feet), (10, course_digits), (13, rule_codes), (15, rule_stack), (16, rule_things), (35, letters_fears), (36, letters_tenths), (37, letters_least), (38, letters_spans)], [(4, numbers_told)])) dX11_sure_5 ML_X11_147 Yv_X1_hasHorse rfl zW_5 rfl rfl (t_X1_hasHorse l _ hcl) (zsub_i (zle_c rfl zle_n) zle_n zle_n) (zjok_i rfl rfl (zle_c rfl (zle_c rfl (zle_c rfl (zle_c rfl (zle_c rfl (zle_c rfl zle_n)))))) rfl rfl (zle_c rfl (zle_c rfl (zle_c rfl (zle_c rfl (zle_c rfl (zle_c rfl (zle_c rfl (zle_c rfl (zle_c rfl (zle_c rfl (zle_c rfl zle_n))))))))))) rfl rfl (zle_c rfl zle_n)) (Nat.le_of_ble_eq_true rfl) (Nat.le_of_ble_eq_true rfl) rfl rfl ?_
  refine zJ_if_ne (tgt := 13) dX11_sure_8 (by decide) rfl (fun hc => ?_) (fun hc => ?_)
  · replace h := it_f hc h
    refine zJ_aload_n dX11_sure_13 rfl rfl ?_
    refine zJ_iload_n dX11_sure_14 rfl rfl ?_
    refine zJ_aload_n dX11_sure_15 rfl rfl ?_
    refine zJ_getr (mi := mX11_sure) dX11_sure_16 F_X11_26 zW_0 rfl rfl ?_
    refine zJ_geti (mi := mX11_sure) (x := course_allowed) dX11_sure_19 F_X11_154 zW_5 rfl rfl rfl ?_
    obtain ⟨rn2, numbers_sizen3, letters_fencesn4, rule_stackn5, rule_thingsn6, letters_fearsn7, letters_tenthsn8, letters_leastn9, letters_spansn10, numbers_toldn11, hcl, h⟩ := bd10_some h
    refine zJ_callV2 (σ := σ) (L := ([(193, numbers_size), (323, course_fences), (326, course_horseCount), (329, course_allowed), (769, course_rule_size), (2180, letters_fences)], [(6, course_kinds), (7, course_heights), (8, course_feet), (10, course_digits), (13, rule_codes), (15, rule_stack), (16, rule_things), (35, letters_fears), (36, letters_tenths), (37, letters_least), (38, letters_spans)], [(4, numbers_told)])) (mi := mX11_sure) (yi := mX11_leastFear) (as := [.int p1, .int course_allowed]) (st := []) (L2 := ([(193, numbers_sizen3), (323, course_fences), (326, course_horseCount), (329, course_allowed), (769, course_rule_size), (2180, letters_fencesn4)], [(6, course_kinds), (7, course_heights), (8, course_feet), (10, course_digits), (13, rule_codes), (15, rule_stackn5), (16, rule_thingsn6), (35, letters_fearsn7), (36, letters_tenthsn8), (37, letters_leastn9), (38, letters_spansn10)], [(4, numbers_toldn11)])) dX11_sure_22 ML_X11_216 Yv_X11_leastFear rfl zW_0 rfl rfl (t_X11_leastFear l _ hcl) (zsub_i (zle_c rfl (zle_c rfl (zle_c rfl (zle_c rfl zle_n)))) (zle_c rfl (zle_c rfl (zle_c rfl (zle_c rfl (zle_c rfl (zle_c rfl (zle_c rfl (zle_c rfl (zle_c rfl (zle_c rfl (zle_c rfl zle_n))))))))))) (zle_c rfl zle_n)) (zjok_i rfl rfl (zle_c rfl (zle_c rfl (zle_c rfl (zle_c rfl (zle_c rfl (zle_c rfl zle_n)))))) rfl rfl (zle_c rfl (zle_c rfl (zle_c rfl (zle_c rfl (zle_c rfl (zle_c rfl (zle_c rfl (zle_c rfl (zle_c rfl (zle_c rfl (zle_c rfl zle_n))))))))))) rfl rfl (zle_c rfl zle_n)) (Nat.le_of_ble_eq_true rfl) (Nat.le_of_ble_eq_true rfl) rfl rfl ?_
    obtain ⟨rfl, rfl, rfl, rfl, rfl, rfl, rfl, rfl, rfl, rfl⟩ := so10 h
    exact zJ_iret dX11_sure_25 rfl rfl
  · replace h := it_t hc h
    refine zJ_iconst dX11_sure_11 zc_m1 rfl ?_
    obtain ⟨rfl, rfl, rfl, rfl, rfl, rfl, rfl, rfl, rfl, rfl⟩ := so10 h
    exact zJ_iret dX11_sure_12 rfl rfl
set_option maxRecDepth 100000 in
set_option maxHeartbeats 4000000 in
theorem t_X11_table (l : Launch) (σ : zS) {numbers_size : Int32} {rounds_size : Int32} {rounds_faults : (Nat → Int32)} {rounds_tenths : (Nat → Int32)} {numbers_told : (Nat → Int64)} {r : Int32} {w_numbers_size : Int32} {w_numbers_told : (Nat → Int64)} (h : f_X11_table numbers_size rounds_size rounds_faults rounds_tenths numbers_told = some (r, w_numbers_size, w_numbers_told)) : zMt l zW 2 mX11_table σ ([(193, numbers_size), (1284, rounds_size)], [(23, rounds_faults), (24, rounds_tenths)], [(4, numbers_told)]) [.ref 0] (some (.int r)) ([(193, w_numbers_size), (1284, rounds_size)], [(23, rounds_faults), (24, rounds_tenths)], [(4, w_numbers_told)]) := by
  refine zMt_of (ls := [(0, .ref 0)]) (by decide) rfl (fun _ => Nat.le_of_ble_eq_true rfl) rfl ?_
  unfold f_X11_table at h
  refine zJ_aload_n dX11_table_0 rfl rfl ?_
  refine zJ_getr (mi := mX11_table) dX11_table_1 F_X11_33 zW_0 rfl rfl ?_
  refine zJ_aload_n dX11_table_4 rfl rfl ?_
  refine zJ_getr (mi := mX11_table) dX11_table_5 F_X11_19 zW_0 rfl rfl ?_
  refine zJ_aload_n dX11_table_8 rfl rfl ?_
  refine zJ_getr (mi := mX11_table) dX11_table_9 F_X11_33 zW_0 rfl rfl ?_
  refine zJ_getr (mi := mX11_table) dX11_table_12 F_X11_335 zW_20 rfl rfl ?_
  obtain ⟨numbers_sizen1, numbers_toldn2, hcl, h⟩ := bd2_some h
  refine zJ_callV2 (σ := σ) (L := ([(193, numbers_size), (1284, rounds_size)], [(23, rounds_faults), (24, rounds_tenths)], [(4, numbers_told)])) (mi := mX11_table) (yi := mX10_tellOrder) (as := [.ref 3, .ref 23]) (st := []) (L2 := ([(193, numbers_sizen1), (1284, rounds_size)], [(23, rounds_faults), (24, rounds_tenths)], [(4, numbers_toldn2)])) dX11_table_15 ML_X11_346 Yv_X10_tellOrder rfl zW_20 rfl rfl (t_X10_tellOrder_rounds_faults l _ hcl) (zsub_i (zle_c rfl (zle_c rfl zle_n)) (zle_c rfl (zle_c rfl zle_n)) (zle_c rfl zle_n)) (zjok_i rfl rfl (zle_c rfl (zle_c rfl zle_n)) rfl rfl (zle_c rfl (zle_c rfl zle_n)) rfl rfl (zle_c rfl zle_n)) (Nat.le_of_ble_eq_true rfl) (Nat.le_of_ble_eq_true rfl) rfl rfl ?_
  refine zJ_iconst dX11_table_18 zc_0 rfl ?_
  refine zJ_istore_n (ls' := [(1, .int (0 : Int32)), (0, .ref 0)]) dX11_table_19 rfl rfl rfl ?_
  refine zJ_iconst dX11_table_20 zc_0 rfl ?_
  refine zJ_istore_n (ls' := [(2, .int (0 : Int32)), (1, .int (0 : Int32)), (0, .ref 0)]) dX11_table_21 rfl rfl rfl ?_
  have hk22 : ∀ (v1_22x : Int32), k_X11_table_22 numbers_sizen1 numbers_toldn2 v1_22x = some (r, w_numbers_size, w_numbers_told) → zJ l zW 2 mX11_table σ ([(193, numbers_sizen1), (1284, rounds_size)], [(23, rounds_faults), (24, rounds_tenths)], [(4, numbers_toldn2)]) 59 [(1, .int v1_22x)] [] (some (.int r)) ([(193, w_numbers_size), (1284, rounds_size)], [(23, rounds_faults), (24, rounds_tenths)], [(4, w_numbers_told)]) := by
    intro v1_22x h
    unfold k_X11_table_22 at h
    refine zJ_iload_n dX11_table_59 rfl rfl ?_
    obtain ⟨rfl, rfl, rfl⟩ := so3 h
    exact zJ_iret dX11_table_60 rfl rfl
  refine zJ_loc (ls' := [(0, .ref 0), (1, .int (0 : Int32)), (2, .int (0 : Int32))]) (zll_c rfl (zll_c rfl (zll_c rfl zll_n))) ?_
  refine ml2_J (fun (v1_22 : Int32) (v2_22 : Int32) => zJ l zW 2 mX11_table σ ([(193, numbers_sizen1), (1284, rounds_size)], [(23, rounds_faults), (24, rounds_tenths)], [(4, numbers_toldn2)]) 22 [(0, .ref 0), (1, .int v1_22), (2, .int v2_22)] [] (some (.int r)) ([(193, w_numbers_size), (1284, rounds_size)], [(23, rounds_faults), (24, rounds_tenths)], [(4, w_numbers_told)])) (fun rc22 hrc22 v1_22 v2_22 h => ?_) zN _ _ h
  unfold s_X11_table_22 at h
  refine zJ_iload_n dX11_table_22 rfl rfl ?_
  refine zJ_aload_n dX11_table_23 rfl rfl ?_
  refine zJ_getr (mi := mX11_table) dX11_table_24 F_X11_33 zW_0 rfl rfl ?_
  refine zJ_geti (mi := mX11_table) (x := rounds_size) dX11_table_27 F_X11_107 zW_20 rfl rfl rfl ?_
  refine zJ_icmp_ge (tgt := 59) dX11_table_30 (by decide) rfl (fun hc => ?_) (fun hc => ?_)
  · replace h := it_t hc h
    refine zJ_loc (ls' := [(1, .int v1_22)]) (zll_c rfl zll_n) ?_
    exact hk22 _ h
  · replace h := it_f hc h
    refine zJ_iload_n dX11_table_33 rfl rfl ?_
    refine zJ_aload_n dX11_table_34 rfl rfl ?_
    refine zJ_getr (mi := mX11_table) dX11_table_35 F_X11_33 zW_0 rfl rfl ?_
    refine zJ_getr (mi := mX11_table) dX11_table_38 F_X11_335 zW_20 rfl rfl ?_
    refine zJ_iload_n dX11_table_41 rfl rfl ?_
    obtain ⟨hg, h⟩ := gd_some h
    refine zJ_iald (mi := mX11_table) (f := rounds_faults) dX11_table_42 zW_23 (ix_in hg) rfl rfl ?_
    refine zJ_if_ne (tgt := 50) dX11_table_43 (by decide) rfl (fun hc => ?_) (fun hc => ?_)
    · replace h := it_f hc h
      refine zJ_iconst dX11_table_50 zc_0 rfl ?_
      refine zJ_iadd dX11_table_51 rfl ?_
      obtain ⟨v1n3, ev1n3, h⟩ := lt1_some h
      refine zJ_nmi ev1n3 ?_
      refine zJ_istore_n (ls' := [(1, .int v1n3), (0, .ref 0), (2, .int v2_22)]) dX11_table_52 rfl rfl rfl ?_
      obtain ⟨v2n4, ev2n4, h⟩ := lt1_some h
      refine zJ_iincN (ls' := [(2, .int v2n4), (1, .int v1n3), (0, .ref 0)]) dX11_table_53 rfl rfl zc_1 ev2n4 rfl rfl ?_
      refine zJ_goto (tgt := 22) dX11_table_56 (by decide) ?_
      refine zJ_loc (ls' := [(0, .ref 0), (1, .int v1n3), (2, .int v2n4)]) (zll_c rfl (zll_c rfl (zll_c rfl zll_n))) ?_
      exact hrc22 _ _ h
    · replace h := it_t hc h
      refine zJ_iconst dX11_table_46 zc_1 rfl ?_
      refine zJ_goto (tgt := 51) dX11_table_47 (by decide) ?_
      refine zJ_iadd dX11_table_51 rfl ?_
      obtain ⟨v1n5, ev1n5, h⟩ := lt1_some h
      refine zJ_nmi ev1n5 ?_
      refine zJ_istore_n (ls' := [(1, .int v1n5), (0, .ref 0), (2, .int v2_22)]) dX11_table_52 rfl rfl rfl ?_
      obtain ⟨v2n6, ev2n6, h⟩ := lt1_some h
      refine zJ_iincN (ls' := [(2, .int v2n6), (1, .int v1n5), (0, .ref 0)]) dX11_table_53 rfl rfl zc_1 ev2n6 rfl rfl ?_
      refine zJ_goto (tgt := 22) dX11_table_56 (by decide) ?_
      refine zJ_loc (ls' := [(0, .ref 0), (1, .int v1n5), (2, .int v2n6)]) (zll_c rfl (zll_c rfl (zll_c rfl zll_n))) ?_
      exact hrc22 _ _ h
