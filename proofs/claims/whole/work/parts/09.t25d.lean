set_option maxRecDepth 100000 in
set_option maxHeartbeats 4000000 in
theorem t_X12_share (l : Launch) (σ : zS) {p1 : Int32} {m_fences : Int32} {m_allowed : Int32} {m_horses : Int32} {m_plans : Int32} {m_typed : Int32} {m_rowMany : Int32} {m_thrown : Int32} {m_read : Int32} {m_length : Int32} {m_top : Int32} {m_at : Int32} {m_wrong : Int32} {m_ruleSize : Int32} {m_isAsked : Int32} {m_askedHorse : Int32} {m_askedFence : Int32} {m_askedLetter : Int32} {m_askedHeight : Int32} {m_comingMany : Int32} {m_now : (Nat → Int32)} {m_kind : (Nat → Int32)} {m_height : (Nat → Int32)} {m_feet : (Nat → Int32)} {m_stride : (Nat → Int32)} {m_scope : (Nat → Int32)} {m_care : (Nat → Int32)} {m_plan : (Nat → Int32)} {m_money : (Nat → Int32)} {m_text : (Nat → Int32)} {m_rule : (Nat → Int32)} {m_coming : (Nat → Int32)} {m_planOf : (Nat → Int32)} {m_extra : (Nat → Int32)} {m_row : (Nat → Int64)} {m_wins : (Nat → Int64)} {r : Int32} {w_m_typed : Int32} {w_m_rowMany : Int32} {w_m_thrown : Int32} {w_m_read : Int32} {w_m_length : Int32} {w_m_top : Int32} {w_m_at : Int32} {w_m_wrong : Int32} {w_m_isAsked : Int32} {w_m_askedHorse : Int32} {w_m_askedFence : Int32} {w_m_askedLetter : Int32} {w_m_askedHeight : Int32} {w_m_comingMany : Int32} {w_m_coming : (Nat → Int32)} {w_m_planOf : (Nat → Int32)} {w_m_extra : (Nat → Int32)} {w_m_row : (Nat → Int64)} {w_m_wins : (Nat → Int64)} (h : f_X12_share p1 m_fences m_allowed m_horses m_plans m_typed m_rowMany m_thrown m_read m_length m_top m_at m_wrong m_ruleSize m_isAsked m_askedHorse m_askedFence m_askedLetter m_askedHeight m_comingMany m_now m_kind m_height m_feet m_stride m_scope m_care m_plan m_money m_text m_rule m_coming m_planOf m_extra m_row m_wins = some (r, w_m_typed, w_m_rowMany, w_m_thrown, w_m_read, w_m_length, w_m_top, w_m_at, w_m_wrong, w_m_isAsked, w_m_askedHorse, w_m_askedFence, w_m_askedLetter, w_m_askedHeight, w_m_comingMany, w_m_coming, w_m_planOf, w_m_extra, w_m_row, w_m_wins)) : zMt l zW 409 mX12_share σ ([(3457, m_fences), (3461, m_allowed), (3462, m_horses), (3466, m_plans), (3470, m_typed), (3472, m_rowMany), (3473, m_thrown), (3474, m_read), (3475, m_length), (3476, m_top), (3477, m_at), (3478, m_wrong), (3483, m_ruleSize), (3484, m_isAsked), (3485, m_askedHorse), (3486, m_askedFence), (3487, m_askedLetter), (3488, m_askedHeight), (3503, m_comingMany)], [(55, m_now), (56, m_kind), (57, m_height), (58, m_feet), (59, m_stride), (60, m_scope), (61, m_care), (62, m_plan), (63, m_money), (64, m_text), (69, m_rule), (78, m_coming), (80, m_planOf), (81, m_extra)], [(65, m_row), (79, m_wins)]) [.ref 54, .int p1] (some (.int r)) ([(3457, m_fences), (3461, m_allowed), (3462, m_horses), (3466, m_plans), (3470, w_m_typed), (3472, w_m_rowMany), (3473, w_m_thrown), (3474, w_m_read), (3475, w_m_length), (3476, w_m_top), (3477, w_m_at), (3478, w_m_wrong), (3483, m_ruleSize), (3484, w_m_isAsked), (3485, w_m_askedHorse), (3486, w_m_askedFence), (3487, w_m_askedLetter), (3488, w_m_askedHeight), (3503, w_m_comingMany)], [(55, m_now), (56, m_kind), (57, m_height), (58, m_feet), (59, m_stride), (60, m_scope), (61, m_care), (62, m_plan), (63, m_money), (64, m_text), (69, m_rule), (78, w_m_coming), (80, w_m_planOf), (81, w_m_extra)], [(65, w_m_row), (79, w_m_wins)]) := by
  refine zMt_of (ls := [(0, .ref 54), (1, .int p1)]) (by decide) rfl (fun _ => Nat.le_of_ble_eq_true rfl) rfl ?_
  unfold f_X12_share at h
  refine zJ_aload_n dX12_share_0 rfl rfl ?_
  refine zJ_iconst dX12_share_1 zc_0 rfl ?_
  refine zK_puti (mi := mX12_share) (la' := [(3457, m_fences), (3461, m_allowed), (3462, m_horses), (3466, m_plans), (3470, m_typed), (3472, m_rowMany), (3473, (0 : Int32)), (3474, m_read), (3475, m_length), (3476, m_top), (3477, m_at), (3478, m_wrong), (3483, m_ruleSize), (3484, m_isAsked), (3485, m_askedHorse), (3486, m_askedFence), (3487, m_askedLetter), (3488, m_askedHeight), (3503, m_comingMany)]) zW_ok dX12_share_2 F_X12_113 P_12_17 zW_54 rfl rfl rfl ?_
  refine zJ_aload_n dX12_share_5 rfl rfl ?_
  refine zJ_geti (mi := mX12_share) (x := m_plans) dX12_share_6 F_X12_129 zW_54 rfl rfl rfl ?_
  have hj_X12_share_30 : ∀ (m_typed_30j : Int32), j_X12_share_30 p1 m_fences m_allowed m_horses m_plans m_rowMany m_read m_length m_top m_at m_wrong m_ruleSize m_isAsked m_askedHorse m_askedFence m_askedLetter m_askedHeight m_comingMany m_now m_kind m_height m_feet m_stride m_scope m_care m_plan m_money m_text m_rule m_coming m_planOf m_extra m_row m_wins m_typed_30j = some (r, w_m_typed, w_m_rowMany, w_m_thrown, w_m_read, w_m_length, w_m_top, w_m_at, w_m_wrong, w_m_isAsked, w_m_askedHorse, w_m_askedFence, w_m_askedLetter, w_m_askedHeight, w_m_comingMany, w_m_coming, w_m_planOf, w_m_extra, w_m_row, w_m_wins) → zJ l zW 409 mX12_share σ ([(3457, m_fences), (3461, m_allowed), (3462, m_horses), (3466, m_plans), (3470, m_typed_30j), (3472, m_rowMany), (3473, (0 : Int32)), (3474, m_read), (3475, m_length), (3476, m_top), (3477, m_at), (3478, m_wrong), (3483, m_ruleSize), (3484, m_isAsked), (3485, m_askedHorse), (3486, m_askedFence), (3487, m_askedLetter), (3488, m_askedHeight), (3503, m_comingMany)], [(55, m_now), (56, m_kind), (57, m_height), (58, m_feet), (59, m_stride), (60, m_scope), (61, m_care), (62, m_plan), (63, m_money), (64, m_text), (69, m_rule), (78, m_coming), (80, m_planOf), (81, m_extra)], [(65, m_row), (79, m_wins)]) 30 [(0, .ref 54), (1, .int p1)] [] (some (.int r)) ([(3457, m_fences), (3461, m_allowed), (3462, m_horses), (3466, m_plans), (3470, w_m_typed), (3472, w_m_rowMany), (3473, w_m_thrown), (3474, w_m_read), (3475, w_m_length), (3476, w_m_top), (3477, w_m_at), (3478, w_m_wrong), (3483, m_ruleSize), (3484, w_m_isAsked), (3485, w_m_askedHorse), (3486, w_m_askedFence), (3487, w_m_askedLetter), (3488, w_m_askedHeight), (3503, w_m_comingMany)], [(55, m_now), (56, m_kind), (57, m_height), (58, m_feet), (59, m_stride), (60, m_scope), (61, m_care), (62, m_plan), (63, m_money), (64, m_text), (69, m_rule), (78, w_m_coming), (80, w_m_planOf), (81, w_m_extra)], [(65, w_m_row), (79, w_m_wins)]) := by
    intro m_typed_30j h
    unfold j_X12_share_30 at h
    refine zJ_aload_n dX12_share_30 rfl rfl ?_
    refine zJ_iconst dX12_share_31 zc_2 rfl ?_
    refine zJ_iconst dX12_share_32 zc_2 rfl ?_
    obtain ⟨rn1, m_typedn2, m_comingManyn3, m_comingn4, hcl, h⟩ := bd4_some h
    refine zJ_callV (mi := mX12_share) (yi := mX12_readComing) (as := [.int (2 : Int32), .int (2 : Int32)]) (st := []) (L2 := ([(3457, m_fences), (3461, m_allowed), (3462, m_horses), (3466, m_plans), (3470, m_typedn2), (3472, m_rowMany), (3473, (0 : Int32)), (3474, m_read), (3475, m_length), (3476, m_top), (3477, m_at), (3478, m_wrong), (3483, m_ruleSize), (3484, m_isAsked), (3485, m_askedHorse), (3486, m_askedFence), (3487, m_askedLetter), (3488, m_askedHeight), (3503, m_comingManyn3)], [(55, m_now), (56, m_kind), (57, m_height), (58, m_feet), (59, m_stride), (60, m_scope), (61, m_care), (62, m_plan), (63, m_money), (64, m_text), (69, m_rule), (78, m_comingn4), (80, m_planOf), (81, m_extra)], [(65, m_row), (79, m_wins)])) dX12_share_33 ML_X12_405 Yv_X12_readComing rfl zW_54 rfl rfl (t_X12_readComing l _ hcl) (zsub_i (zle_c rfl (zle_c rfl (zle_c rfl (zle_c rfl zle_n)))) (zle_c rfl (zle_c rfl zle_n)) zle_n) rfl (Nat.le_of_ble_eq_true rfl) (Nat.le_of_ble_eq_true rfl) rfl rfl ?_
    refine zJ_istore_n (ls' := [(2, .int rn1), (0, .ref 54), (1, .int p1)]) dX12_share_36 rfl rfl rfl ?_
    refine zJ_iload_n dX12_share_37 rfl rfl ?_
    refine zJ_if_ge (tgt := 43) dX12_share_38 (by decide) rfl (fun hc => ?_) (fun hc => ?_)
    · replace h := it_t hc h
      refine zJ_aload_n dX12_share_43 rfl rfl ?_
      refine zJ_iconst dX12_share_44 zc_0 rfl ?_
      obtain ⟨m_readn5, m_lengthn6, m_topn7, m_atn8, m_wrongn9, m_isAskedn10, m_askedHorsen11, m_askedFencen12, m_askedLettern13, m_askedHeightn14, m_planOfn15, m_extran16, m_winsn17, hcl, h⟩ := bd13_some h
      refine zJ_callV (mi := mX12_share) (yi := mX12_goGame) (as := [.int (0 : Int32)]) (st := []) (L2 := ([(3457, m_fences), (3461, m_allowed), (3462, m_horses), (3466, m_plans), (3470, m_typedn2), (3472, m_rowMany), (3473, (0 : Int32)), (3474, m_readn5), (3475, m_lengthn6), (3476, m_topn7), (3477, m_atn8), (3478, m_wrongn9), (3483, m_ruleSize), (3484, m_isAskedn10), (3485, m_askedHorsen11), (3486, m_askedFencen12), (3487, m_askedLettern13), (3488, m_askedHeightn14), (3503, m_comingManyn3)], [(55, m_now), (56, m_kind), (57, m_height), (58, m_feet), (59, m_stride), (60, m_scope), (61, m_care), (62, m_plan), (63, m_money), (64, m_text), (69, m_rule), (78, m_comingn4), (80, m_planOfn15), (81, m_extran16)], [(65, m_row), (79, m_winsn17)])) dX12_share_45 ML_X12_394 Yv_X12_goGame rfl zW_54 rfl rfl (t_X12_goGame l _ 200 hcl) (zsub_i (zle_c rfl (zle_c rfl (zle_c rfl (zle_c rfl (zle_c rfl (zle_c rfl (zle_c rfl (zle_c rfl (zle_c rfl (zle_c rfl (zle_c rfl (zle_c rfl (zle_c rfl (zle_c rfl (zle_c rfl zle_n))))))))))))))) (zle_c rfl (zle_c rfl (zle_c rfl (zle_c rfl (zle_c rfl (zle_c rfl (zle_c rfl (zle_c rfl (zle_c rfl (zle_c rfl (zle_c rfl (zle_c rfl (zle_c rfl zle_n))))))))))))) (zle_c rfl zle_n)) rfl (Nat.le_of_ble_eq_true rfl) (Nat.le_of_ble_eq_true rfl) rfl rfl ?_
      refine zJ_ldc2_w (v := 100000000) dX12_share_48 C_X12_418 rfl ?_
      refine zJ_lstore_n (ls' := [(3, .long (100000000 : Int64)), (2, .int rn1), (0, .ref 54), (1, .int p1)]) dX12_share_51 rfl rfl rfl ?_
      refine zJ_aload_n dX12_share_52 rfl rfl ?_
      refine zJ_iload_n dX12_share_53 rfl rfl ?_
      obtain ⟨rn18, hcl, h⟩ := bd1_some h
      refine zJ_callV (mi := mX12_share) (yi := mX12_moneyOf) (as := [.int p1]) (st := []) (L2 := ([(3457, m_fences), (3461, m_allowed), (3462, m_horses), (3466, m_plans), (3470, m_typedn2), (3472, m_rowMany), (3473, (0 : Int32)), (3474, m_readn5), (3475, m_lengthn6), (3476, m_topn7), (3477, m_atn8), (3478, m_wrongn9), (3483, m_ruleSize), (3484, m_isAskedn10), (3485, m_askedHorsen11), (3486, m_askedFencen12), (3487, m_askedLettern13), (3488, m_askedHeightn14), (3503, m_comingManyn3)], [(55, m_now), (56, m_kind), (57, m_height), (58, m_feet), (59, m_stride), (60, m_scope), (61, m_care), (62, m_plan), (63, m_money), (64, m_text), (69, m_rule), (78, m_comingn4), (80, m_planOfn15), (81, m_extran16)], [(65, m_row), (79, m_winsn17)])) dX12_share_54 ML_X12_362 Yv_X12_moneyOf rfl zW_54 rfl rfl (t_X12_moneyOf l _ hcl) (zsub_i zle_n (zle_c rfl zle_n) zle_n) rfl (Nat.le_of_ble_eq_true rfl) (Nat.le_of_ble_eq_true rfl) rfl rfl ?_
      refine zJ_aload_n dX12_share_57 rfl rfl ?_
      refine zJ_iload_n dX12_share_58 rfl rfl ?_
      refine zJ_iconst dX12_share_59 zc_1 rfl ?_
      refine zJ_iadd dX12_share_60 rfl ?_
      obtain ⟨rn19, hcl, h⟩ := bd1_some h
      refine zJ_callV (mi := mX12_share) (yi := mX12_moneyOf) (as := [.int (p1 + (1 : Int32))]) (st := [.int rn18]) (L2 := ([(3457, m_fences), (3461, m_allowed), (3462, m_horses), (3466, m_plans), (3470, m_typedn2), (3472, m_rowMany), (3473, (0 : Int32)), (3474, m_readn5), (3475, m_lengthn6), (3476, m_topn7), (3477, m_atn8), (3478, m_wrongn9), (3483, m_ruleSize), (3484, m_isAskedn10), (3485, m_askedHorsen11), (3486, m_askedFencen12), (3487, m_askedLettern13), (3488, m_askedHeightn14), (3503, m_comingManyn3)], [(55, m_now), (56, m_kind), (57, m_height), (58, m_feet), (59, m_stride), (60, m_scope), (61, m_care), (62, m_plan), (63, m_money), (64, m_text), (69, m_rule), (78, m_comingn4), (80, m_planOfn15), (81, m_extran16)], [(65, m_row), (79, m_winsn17)])) dX12_share_61 ML_X12_362 Yv_X12_moneyOf rfl zW_54 rfl rfl (t_X12_moneyOf l _ hcl) (zsub_i zle_n (zle_c rfl zle_n) zle_n) rfl (Nat.le_of_ble_eq_true rfl) (Nat.le_of_ble_eq_true rfl) rfl rfl ?_
      refine zJ_iadd dX12_share_64 rfl ?_
      refine zJ_i2l dX12_share_65 rfl ?_
      obtain ⟨v5n20, ev5n20, h⟩ := lt1_some h
      refine zJ_nml ev5n20 ?_
      refine zJ_lstore (ls' := [(5, .long v5n20), (3, .long (100000000 : Int64)), (2, .int rn1), (0, .ref 54), (1, .int p1)]) dX12_share_66 rfl rfl rfl ?_
      refine zJ_lload dX12_share_68 rfl rfl ?_
      refine zJ_lload_n dX12_share_70 rfl rfl ?_
      refine zJ_lmul dX12_share_71 rfl ?_
      refine zJ_ldc2_w (v := 2) dX12_share_72 C_X12_420 rfl ?_
      refine zJ_aload_n dX12_share_75 rfl rfl ?_
      refine zJ_getr (mi := mX12_share) dX12_share_76 F_X12_88 zW_54 rfl rfl ?_
      refine zJ_iconst dX12_share_79 zc_0 rfl ?_
      obtain ⟨hg, h⟩ := gd_some h
      refine zJ_lald (mi := mX12_share) (f := m_winsn17) dX12_share_80 zW_79 (ix_in hg) rfl rfl ?_
      refine zJ_lmul dX12_share_81 rfl ?_
      refine zJ_lcmp dX12_share_82 rfl ?_
      have hj_X12_share_109 : ∀ (t0_109j : Int32), j_X12_share_109 m_row m_typedn2 m_comingManyn3 m_comingn4 m_readn5 m_lengthn6 m_topn7 m_atn8 m_wrongn9 m_isAskedn10 m_askedHorsen11 m_askedFencen12 m_askedLettern13 m_askedHeightn14 m_planOfn15 m_extran16 m_winsn17 v5n20 t0_109j = some (r, w_m_typed, w_m_rowMany, w_m_thrown, w_m_read, w_m_length, w_m_top, w_m_at, w_m_wrong, w_m_isAsked, w_m_askedHorse, w_m_askedFence, w_m_askedLetter, w_m_askedHeight, w_m_comingMany, w_m_coming, w_m_planOf, w_m_extra, w_m_row, w_m_wins) → zJ l zW 409 mX12_share σ ([(3457, m_fences), (3461, m_allowed), (3462, m_horses), (3466, m_plans), (3470, m_typedn2), (3472, m_rowMany), (3473, (0 : Int32)), (3474, m_readn5), (3475, m_lengthn6), (3476, m_topn7), (3477, m_atn8), (3478, m_wrongn9), (3483, m_ruleSize), (3484, m_isAskedn10), (3485, m_askedHorsen11), (3486, m_askedFencen12), (3487, m_askedLettern13), (3488, m_askedHeightn14), (3503, m_comingManyn3)], [(55, m_now), (56, m_kind), (57, m_height), (58, m_feet), (59, m_stride), (60, m_scope), (61, m_care), (62, m_plan), (63, m_money), (64, m_text), (69, m_rule), (78, m_comingn4), (80, m_planOfn15), (81, m_extran16)], [(65, m_row), (79, m_winsn17)]) 109 [(0, .ref 54), (3, .long (100000000 : Int64)), (5, .long v5n20)] [.int t0_109j] (some (.int r)) ([(3457, m_fences), (3461, m_allowed), (3462, m_horses), (3466, m_plans), (3470, w_m_typed), (3472, w_m_rowMany), (3473, w_m_thrown), (3474, w_m_read), (3475, w_m_length), (3476, w_m_top), (3477, w_m_at), (3478, w_m_wrong), (3483, m_ruleSize), (3484, w_m_isAsked), (3485, w_m_askedHorse), (3486, w_m_askedFence), (3487, w_m_askedLetter), (3488, w_m_askedHeight), (3503, w_m_comingMany)], [(55, m_now), (56, m_kind), (57, m_height), (58, m_feet), (59, m_stride), (60, m_scope), (61, m_care), (62, m_plan), (63, m_money), (64, m_text), (69, m_rule), (78, w_m_coming), (80, w_m_planOf), (81, w_m_extra)], [(65, w_m_row), (79, w_m_wins)]) := by
        intro t0_109j h
        unfold j_X12_share_109 at h
        refine zJ_istore (ls' := [(7, .int t0_109j), (0, .ref 54), (3, .long (100000000 : Int64)), (5, .long v5n20)]) dX12_share_109 rfl rfl rfl ?_
        refine zJ_aload_n dX12_share_111 rfl rfl ?_
        refine zJ_iconst dX12_share_112 zc_0 rfl ?_
        refine zK_puti (mi := mX12_share) (la' := [(3457, m_fences), (3461, m_allowed), (3462, m_horses), (3466, m_plans), (3470, m_typedn2), (3472, (0 : Int32)), (3473, (0 : Int32)), (3474, m_readn5), (3475, m_lengthn6), (3476, m_topn7), (3477, m_atn8), (3478, m_wrongn9), (3483, m_ruleSize), (3484, m_isAskedn10), (3485, m_askedHorsen11), (3486, m_askedFencen12), (3487, m_askedLettern13), (3488, m_askedHeightn14), (3503, m_comingManyn3)]) zW_ok dX12_share_113 F_X12_116 P_12_16 zW_54 rfl rfl rfl ?_
        refine zJ_aload_n dX12_share_116 rfl rfl ?_
        refine zJ_lload dX12_share_117 rfl rfl ?_
        obtain ⟨m_rowManyn21, m_rown22, hcl, h⟩ := bd2_some h
        refine zJ_callV (mi := mX12_share) (yi := mX12_tell) (as := [.long v5n20]) (st := []) (L2 := ([(3457, m_fences), (3461, m_allowed), (3462, m_horses), (3466, m_plans), (3470, m_typedn2), (3472, m_rowManyn21), (3473, (0 : Int32)), (3474, m_readn5), (3475, m_lengthn6), (3476, m_topn7), (3477, m_atn8), (3478, m_wrongn9), (3483, m_ruleSize), (3484, m_isAskedn10), (3485, m_askedHorsen11), (3486, m_askedFencen12), (3487, m_askedLettern13), (3488, m_askedHeightn14), (3503, m_comingManyn3)], [(55, m_now), (56, m_kind), (57, m_height), (58, m_feet), (59, m_stride), (60, m_scope), (61, m_care), (62, m_plan), (63, m_money), (64, m_text), (69, m_rule), (78, m_comingn4), (80, m_planOfn15), (81, m_extran16)], [(65, m_rown22), (79, m_winsn17)])) dX12_share_119 ML_X12_265 Yv_X12_tell rfl zW_54 rfl rfl (t_X12_tell l _ hcl) (zsub_i (zle_c rfl zle_n) zle_n (zle_c rfl zle_n)) rfl (Nat.le_of_ble_eq_true rfl) (Nat.le_of_ble_eq_true rfl) rfl rfl ?_
        refine zJ_aload_n dX12_share_122 rfl rfl ?_
        refine zJ_aload_n dX12_share_123 rfl rfl ?_
        refine zJ_getr (mi := mX12_share) dX12_share_124 F_X12_88 zW_54 rfl rfl ?_
        refine zJ_iconst dX12_share_127 zc_0 rfl ?_
        obtain ⟨hg, h⟩ := gd_some h
        refine zJ_lald (mi := mX12_share) (f := m_winsn17) dX12_share_128 zW_79 (ix_in hg) rfl rfl ?_
        refine zJ_lload_n dX12_share_129 rfl rfl ?_
        obtain ⟨m_rowManyn23, m_rown24, hcl, h⟩ := bd2_some h
        refine zJ_callV (mi := mX12_share) (yi := mX12_tellPart) (as := [.long (m_winsn17 (0 : Int32).toNatClampNeg), .long (100000000 : Int64)]) (st := []) (L2 := ([(3457, m_fences), (3461, m_allowed), (3462, m_horses), (3466, m_plans), (3470, m_typedn2), (3472, m_rowManyn23), (3473, (0 : Int32)), (3474, m_readn5), (3475, m_lengthn6), (3476, m_topn7), (3477, m_atn8), (3478, m_wrongn9), (3483, m_ruleSize), (3484, m_isAskedn10), (3485, m_askedHorsen11), (3486, m_askedFencen12), (3487, m_askedLettern13), (3488, m_askedHeightn14), (3503, m_comingManyn3)], [(55, m_now), (56, m_kind), (57, m_height), (58, m_feet), (59, m_stride), (60, m_scope), (61, m_care), (62, m_plan), (63, m_money), (64, m_text), (69, m_rule), (78, m_comingn4), (80, m_planOfn15), (81, m_extran16)], [(65, m_rown24), (79, m_winsn17)])) dX12_share_130 ML_X12_414 Yv_X12_tellPart rfl zW_54 rfl rfl (t_X12_tellPart l _ hcl) (zsub_i (zle_c rfl zle_n) zle_n (zle_c rfl zle_n)) rfl (Nat.le_of_ble_eq_true rfl) (Nat.le_of_ble_eq_true rfl) rfl rfl ?_
        refine zJ_aload_n dX12_share_133 rfl rfl ?_
        refine zJ_aload_n dX12_share_134 rfl rfl ?_
        refine zJ_getr (mi := mX12_share) dX12_share_135 F_X12_88 zW_54 rfl rfl ?_
        refine zJ_iconst dX12_share_138 zc_1 rfl ?_
        obtain ⟨hg, h⟩ := gd_some h
        refine zJ_lald (mi := mX12_share) (f := m_winsn17) dX12_share_139 zW_79 (ix_in hg) rfl rfl ?_
        refine zJ_lload_n dX12_share_140 rfl rfl ?_
        obtain ⟨m_rowManyn25, m_rown26, hcl, h⟩ := bd2_some h
        refine zJ_callV (mi := mX12_share) (yi := mX12_tellPart) (as := [.long (m_winsn17 (1 : Int32).toNatClampNeg), .long (100000000 : Int64)]) (st := []) (L2 := ([(3457, m_fences), (3461, m_allowed), (3462, m_horses), (3466, m_plans), (3470, m_typedn2), (3472, m_rowManyn25), (3473, (0 : Int32)), (3474, m_readn5), (3475, m_lengthn6), (3476, m_topn7), (3477, m_atn8), (3478, m_wrongn9), (3483, m_ruleSize), (3484, m_isAskedn10), (3485, m_askedHorsen11), (3486, m_askedFencen12), (3487, m_askedLettern13), (3488, m_askedHeightn14), (3503, m_comingManyn3)], [(55, m_now), (56, m_kind), (57, m_height), (58, m_feet), (59, m_stride), (60, m_scope), (61, m_care), (62, m_plan), (63, m_money), (64, m_text), (69, m_rule), (78, m_comingn4), (80, m_planOfn15), (81, m_extran16)], [(65, m_rown26), (79, m_winsn17)])) dX12_share_141 ML_X12_414 Yv_X12_tellPart rfl zW_54 rfl rfl (t_X12_tellPart l _ hcl) (zsub_i (zle_c rfl zle_n) zle_n (zle_c rfl zle_n)) rfl (Nat.le_of_ble_eq_true rfl) (Nat.le_of_ble_eq_true rfl) rfl rfl ?_
        refine zJ_iload dX12_share_144 rfl rfl ?_
        refine zJ_if_eq (tgt := 153) dX12_share_146 (by decide) rfl (fun hc => ?_) (fun hc => ?_)
        · replace h := it_t hc h
          refine zJ_iconst dX12_share_153 zc_0 rfl ?_
          obtain ⟨rfl, rfl, rfl, rfl, rfl, rfl, rfl, rfl, rfl, rfl, rfl, rfl, rfl, rfl, rfl, rfl, rfl, rfl, rfl, rfl⟩ := so20 h
          exact zJ_iret dX12_share_154 rfl rfl
        · replace h := it_f hc h
          refine zJ_iconst dX12_share_149 zc_1 rfl ?_
          refine zJ_goto (tgt := 154) dX12_share_150 (by decide) ?_
          obtain ⟨rfl, rfl, rfl, rfl, rfl, rfl, rfl, rfl, rfl, rfl, rfl, rfl, rfl, rfl, rfl, rfl, rfl, rfl, rfl, rfl⟩ := so20 h
          exact zJ_iret dX12_share_154 rfl rfl
      refine zJ_if_lt (tgt := 108) dX12_share_83 (by decide) rfl (fun hc => ?_) (fun hc => ?_)
      · replace h := it_t hc h
        refine zJ_iconst dX12_share_108 zc_0 rfl ?_
        refine zJ_loc (ls' := [(0, .ref 54), (3, .long (100000000 : Int64)), (5, .long v5n20)]) (zll_c rfl (zll_c rfl (zll_c rfl zll_n))) ?_
        exact hj_X12_share_109 _ h
      · replace h := it_f hc h
        refine zJ_lload dX12_share_86 rfl rfl ?_
        refine zJ_lload_n dX12_share_88 rfl rfl ?_
        refine zJ_lmul dX12_share_89 rfl ?_
        refine zJ_ldc2_w (v := 2) dX12_share_90 C_X12_420 rfl ?_
        refine zJ_aload_n dX12_share_93 rfl rfl ?_
        refine zJ_getr (mi := mX12_share) dX12_share_94 F_X12_88 zW_54 rfl rfl ?_
        refine zJ_iconst dX12_share_97 zc_1 rfl ?_
        obtain ⟨hg, h⟩ := gd_some h
        refine zJ_lald (mi := mX12_share) (f := m_winsn17) dX12_share_98 zW_79 (ix_in hg) rfl rfl ?_
        refine zJ_lmul dX12_share_99 rfl ?_
        refine zJ_lcmp dX12_share_100 rfl ?_
        refine zJ_if_lt (tgt := 108) dX12_share_101 (by decide) rfl (fun hc => ?_) (fun hc => ?_)
        · replace h := it_t hc h
          refine zJ_iconst dX12_share_108 zc_0 rfl ?_
          refine zJ_loc (ls' := [(0, .ref 54), (3, .long (100000000 : Int64)), (5, .long v5n20)]) (zll_c rfl (zll_c rfl (zll_c rfl zll_n))) ?_
          exact hj_X12_share_109 _ h
        · replace h := it_f hc h
          refine zJ_iconst dX12_share_104 zc_1 rfl ?_
          refine zJ_goto (tgt := 109) dX12_share_105 (by decide) ?_
          refine zJ_loc (ls' := [(0, .ref 54), (3, .long (100000000 : Int64)), (5, .long v5n20)]) (zll_c rfl (zll_c rfl (zll_c rfl zll_n))) ?_
          exact hj_X12_share_109 _ h
    · replace h := it_f hc h
      refine zJ_iload_n dX12_share_41 rfl rfl ?_
      obtain ⟨rfl, rfl, rfl, rfl, rfl, rfl, rfl, rfl, rfl, rfl, rfl, rfl, rfl, rfl, rfl, rfl, rfl, rfl, rfl, rfl⟩ := so20 h
      exact zJ_iret dX12_share_42 rfl rfl
  refine zJ_if_le (tgt := 30) dX12_share_9 (by decide) rfl (fun hc => ?_) (fun hc => ?_)
  · replace h := it_t hc h
    refine zJ_loc (ls' := [(0, .ref 54), (1, .int p1)]) (zll_c rfl (zll_c rfl zll_n)) ?_
    exact hj_X12_share_30 _ h
  · replace h := it_f hc h
    refine zJ_iload_n dX12_share_12 rfl rfl ?_
    refine zJ_iconst dX12_share_13 zc_1 rfl ?_
    refine zJ_iconst dX12_share_14 zc_5 rfl ?_
    obtain ⟨rn27, hcl, h⟩ := bd1_some h
    refine zJ_callS (mi := mX12_share) (yi := mX12_in) (as := [.int p1, .int (1 : Int32), .int (5 : Int32)]) (st := []) (L2 := ([(3457, m_fences), (3461, m_allowed), (3462, m_horses), (3466, m_plans), (3470, m_typed), (3472, m_rowMany), (3473, (0 : Int32)), (3474, m_read), (3475, m_length), (3476, m_top), (3477, m_at), (3478, m_wrong), (3483, m_ruleSize), (3484, m_isAsked), (3485, m_askedHorse), (3486, m_askedFence), (3487, m_askedLetter), (3488, m_askedHeight), (3503, m_comingMany)], [(55, m_now), (56, m_kind), (57, m_height), (58, m_feet), (59, m_stride), (60, m_scope), (61, m_care), (62, m_plan), (63, m_money), (64, m_text), (69, m_rule), (78, m_coming), (80, m_planOf), (81, m_extra)], [(65, m_row), (79, m_wins)])) dX12_share_15 ML_X12_122 Ys_X12_in rfl (t_X12_in l _ hcl) (zsub_i zle_n zle_n zle_n) rfl (Nat.le_of_ble_eq_true rfl) (Nat.le_of_ble_eq_true rfl) rfl rfl ?_
    refine zJ_if_ne (tgt := 30) dX12_share_18 (by decide) rfl (fun hc => ?_) (fun hc => ?_)
    · replace h := it_f hc h
      refine zJ_loc (ls' := [(0, .ref 54), (1, .int p1)]) (zll_c rfl (zll_c rfl zll_n)) ?_
      exact hj_X12_share_30 _ h
    · replace h := it_t hc h
      refine zJ_aload_n dX12_share_21 rfl rfl ?_
      refine zJ_iconst dX12_share_22 zc_0 rfl ?_
      refine zK_puti (mi := mX12_share) (la' := [(3457, m_fences), (3461, m_allowed), (3462, m_horses), (3466, m_plans), (3470, (0 : Int32)), (3472, m_rowMany), (3473, (0 : Int32)), (3474, m_read), (3475, m_length), (3476, m_top), (3477, m_at), (3478, m_wrong), (3483, m_ruleSize), (3484, m_isAsked), (3485, m_askedHorse), (3486, m_askedFence), (3487, m_askedLetter), (3488, m_askedHeight), (3503, m_comingMany)]) zW_ok dX12_share_23 F_X12_139 P_12_14 zW_54 rfl rfl rfl ?_
      refine zJ_sipush dX12_share_26 zs_m200 rfl ?_
      obtain ⟨rfl, rfl, rfl, rfl, rfl, rfl, rfl, rfl, rfl, rfl, rfl, rfl, rfl, rfl, rfl, rfl, rfl, rfl, rfl, rfl⟩ := so20 h
      exact zJ_iret dX12_share_29 rfl rfl
