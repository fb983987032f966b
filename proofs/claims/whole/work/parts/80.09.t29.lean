set_option maxRecDepth 100000 in
set_option maxHeartbeats 4000000 in
theorem t_X12_share (l : Launch) (σ : zS) {p1 : Int32} {m_fences : Int32} {m_allowed : Int32} {m_horses : Int32} {m_plans : Int32} {m_typed : Int32} {m_rowMany : Int32} {m_thrown : Int32} {m_read : Int32} {m_length : Int32} {m_top : Int32} {m_at : Int32} {m_wrong : Int32} {m_ruleSize : Int32} {m_isAsked : Int32} {m_askedHorse : Int32} {m_askedFence : Int32} {m_askedLetter : Int32} {m_askedHeight : Int32} {m_comingMany : Int32} {m_now : (Nat → Int32)} {m_kind : (Nat → Int32)} {m_height : (Nat → Int32)} {m_feet : (Nat → Int32)} {m_stride : (Nat → Int32)} {m_scope : (Nat → Int32)} {m_care : (Nat → Int32)} {m_plan : (Nat → Int32)} {m_money : (Nat → Int32)} {m_text : (Nat → Int32)} {m_rule : (Nat → Int32)} {m_coming : (Nat → Int32)} {m_planOf : (Nat → Int32)} {m_extra : (Nat → Int32)} {m_row : (Nat → Int64)} {m_wins : (Nat → Int64)} {r : Int32} {w_m_typed : Int32} {w_m_rowMany : Int32} {w_m_thrown : Int32} {w_m_read : Int32} {w_m_length : Int32} {w_m_top : Int32} {w_m_at : Int32} {w_m_wrong : Int32} {w_m_isAsked : Int32} {w_m_askedHorse : Int32} {w_m_askedFence : Int32} {w_m_askedLetter : Int32} {w_m_askedHeight : Int32} {w_m_comingMany : Int32} {w_m_coming : (Nat → Int32)} {w_m_planOf : (Nat → Int32)} {w_m_extra : (Nat → Int32)} {w_m_row : (Nat → Int64)} {w_m_wins : (Nat → Int64)} (h : f_X12_share p1 m_fences m_allowed m_horses m_plans m_typed m_rowMany m_thrown m_read m_length m_top m_at m_wrong m_ruleSize m_isAsked m_askedHorse m_askedFence m_askedLetter m_askedHeight m_comingMany m_now m_kind m_height m_feet m_stride m_scope m_care m_plan m_money m_text m_rule m_coming m_planOf m_extra m_row m_wins = some (r, w_m_typed, w_m_rowMany, w_m_thrown, w_m_read, w_m_length, w_m_top, w_m_at, w_m_wrong, w_m_isAsked, w_m_askedHorse, w_m_askedFence, w_m_askedLetter, w_m_askedHeight, w_m_comingMany, w_m_coming, w_m_planOf, w_m_extra, w_m_row, w_m_wins)) : zMt l zW 409 mX12_share σ ([(3457, m_fences), (3461, m_allowed), (3462, m_horses), (3466, m_plans), (3470, m_typed), (3472, m_rowMany), (3473, m_thrown), (3474, m_read), (3475, m_length), (3476, m_top), (3477, m_at), (3478, m_wrong), (3483, m_ruleSize), (3484, m_isAsked), (3485, m_askedHorse), (3486, m_askedFence), (3487, m_askedLetter), (3488, m_askedHeight), (3503, m_comingMany)], [(55, m_now), (56, m_kind), (57, m_height), (58, m_feet), (59, m_stride), (60, m_scope), (61, m_care), (62, m_plan), (63, m_money), (64, m_text), (69, m_rule), (78, m_coming), (80, m_planOf), (81, m_extra)], [(65, m_row), (79, m_wins)]) [.ref 54, .int p1] (some (.int r)) ([(3457, m_fences), (3461, m_allowed), (3462, m_horses), (3466, m_plans), (3470, w_m_typed), (3472, w_m_rowMany), (3473, w_m_thrown), (3474, w_m_read), (3475, w_m_length), (3476, w_m_top), (3477, w_m_at), (3478, w_m_wrong), (3483, m_ruleSize), (3484, w_m_isAsked), (3485, w_m_askedHorse), (3486, w_m_askedFence), (3487, w_m_askedLetter), (3488, w_m_askedHeight), (3503, w_m_comingMany)], [(55, m_now), (56, m_kind), (57, m_height), (58, m_feet), (59, m_stride), (60, m_scope), (61, m_care), (62, m_plan), (63, m_money), (64, m_text), (69, m_rule), (78, w_m_coming), (80, w_m_planOf), (81, w_m_extra)], [(65, w_m_row), (79, w_m_wins)]) := by
  refine zMt_of (ls := [(0, .ref 54), (1, .int p1)]) (by decide) rfl (fun _ => Nat.le_of_ble_eq_true rfl) rfl ?_
  unfold f_X12_share at h
  refine zJ_aload_n dX12_share_0 rfl rfl ?_
  refine zJ_iconst dX12_share_1 zc_0 rfl ?_
  refine zK_puti (mi := mX12_share) (la' := [(3457, m_fences), (3461, m_allowed), (3462, m_horses), (3466, m_plans), (3470, m_typed), (3472, m_rowMany), (3473, (0 : Int32)), (3474, m_read), (3475, m_length), (3476, m_top), (3477, m_at), (3478, m_wrong), (3483, m_ruleSize), (3484, m_isAsked), (3485, m_askedHorse), (3486, m_askedFence), (3487, m_askedLetter), (3488, m_askedHeight), (3503, m_comingMany)]) zW_ok dX12_share_2 F_X12_113 P_12_17 zW_54 rfl rfl rfl ?_
  refine zJ_aload_n dX12_share_5 rfl rfl ?_
  refine zJ_geti (mi := mX12_share) (x := m_plans) dX12_share_6 F_X12_129 zW_54 rfl rfl rfl ?_
  have hj_X12_share_30 : ∀ (m_typed_30j : Int32), j_X12_share_30 p1 m_fences m_allowed m_horses m_plans m_rowMany m_read m_length m_top m_at m_wrong m_ruleSize m_isAsked m_askedHorse m_askedFence m_askedLetter m_askedHeight m_comingMany m_now m_kind m_height m_feet m_stride m_scope m_care m_plan m_money m_text m_rule m_coming m_planOf m_extra m_row m_wins m_typed_30j = some (r, w_m_typed, w_m_rowMany, w_m_thrown, w_m_read, w_m_length, w_m_top, w_m_at, w_m_wrong, w_m_isAsked, w_m_askedHorse, w_m_askedFence, w_m_askedLetter, w_m_askedHeight, w_m_comingMany, w_m_coming, w_m_planOf, w_m_extra, w_m_row, w_m_wins) → zJ l zW 409 mX12_share σ ([(3457, m_fences), (3461, m_allowed), (3462, m_horses), (3466, m_plans), (3470, m_typed_30j), (3472, m_rowMany), (3473, (0 : Int32)), (3474, m_read), (3475, m_length), (3476, m_top), (3477, m_at), (3478, m_wrong), (3483, m_ruleSize), (3484, m_isAsked), (3485, m_askedHorse), (3486, m_askedFence), (3487, m_askedLetter), (3488, m_askedHeight), (3503, m_comingMany)], [(55, m_now), (56, m_kind), (57, m_height), (58, m_feet), (59, m_stride), (60, m_scope), (61, m_care), (62, m_plan), (63, m_money), (64, m_text), (69, m_rule), (78, m_coming), (80, m_planOf), (81, m_extra)], [(65, m_row), (79, m_wins)]) 30 [(0, .ref 54), (1, .int p1)] [] (some (.int r)) ([(3457, m_fences), (3461, m_allowed), (3462, m_horses), (3466, m_plans), (3470, w_m_typed), (3472, w_m_rowMany), (3473, w_m_thrown), (3474, w_m_read), (3475, w_m_length), (3476, w_m_top), (3477, w_m_at), (3478, w_m_wrong), (3483, m_ruleSize), (3484, w_m_isAsked), (3485, w_m_askedHorse), (3486, w_m_askedFence), (3487, w_m_askedLetter), (3488, w_m_askedHeight), (3503, w_m_comingMany)], [(55, m_now), (56, m_kind), (57, m_height), (58, m_feet), (59, m_stride), (60, m_scope), (61, m_care), (62, m_plan), (63, m_money), (64, m_text), (69, m_rule), (78, w_m_coming), (80, w_m_planOf), (81, w_m_extra)], [(65, w_m_row), (79, w_m_wins)]) := by
    intro m_typed_30j h
    unfold j_X12_share_30 at h
    refine zJ_aload_n dX12_share_30 rfl rfl ?_
    refine zJ_iconst dX12_share_31 zc_2 rfl ?_
    refine zJ_iconst dX12_share_32 zc_2 rfl ?_
    obtain ⟨rn1, m_typedn2, m_comingManyn3, m_comingn4, hcl, h⟩ := bd4_some h
    refine zJ_callV2 (σ := σ) (L := ([(3457, m_fences), (3461, m_allowed), (3462, m_horses), (3466, m_plans), (3470, m_typed_30j), (3472, m_rowMany), (3473, (0 : Int32)), (3474, m_read), (3475, m_length), (3476, m_top), (3477, m_at), (3478, m_wrong), (3483, m_ruleSize), (3484, m_isAsked), (3485, m_askedHorse), (3486, m_askedFence), (3487, m_askedLetter), (3488, m_askedHeight), (3503, m_comingMany)], [(55, m_now), (56, m_kind), (57, m_height), (58, m_feet), (59, m_stride), (60, m_scope), (61, m_care), (62, m_plan), (63, m_money), (64, m_text), (69, m_rule), (78, m_coming), (80, m_planOf), (81, m_extra)], [(65, m_row), (79, m_wins)])) (mi := mX12_share) (yi := mX12_readComing) (as := [.int (2 : Int32), .int (2 : Int32)]) (st := []) (L2 := ([(3457, m_fences), (3461, m_allowed), (3462, m_horses), (3466, m_plans), (3470, m_typedn2), (3472, m_rowMany), (3473, (0 : Int32)), (3474, m_read), (3475, m_length), (3476, m_top), (3477, m_at), (3478, m_wrong), (3483, m_ruleSize), (3484, m_isAsked), (3485, m_askedHorse), (3486, m_askedFence), (3487, m_askedLetter), (3488, m_askedHeight), (3503, m_comingManyn3)], [(55, m_now), (56, m_kind), (57, m_height), (58, m_feet), (59, m_stride), (60, m_scope), (61, m_care), (62, m_plan), (63, m_money), (64, m_text), (69, m_rule), (78, m_comingn4), (80, m_planOf), (81, m_extra)], [(65, m_row), (79, m_wins)])) dX12_share_33 ML_X12_405 Yv_X12_readComing rfl zW_54 rfl rfl (t_X12_readComing l _ hcl) (zsub_i (zle_c rfl (zle_c rfl (zle_c rfl (zle_c rfl zle_n)))) (zle_c rfl (zle_c rfl zle_n)) zle_n) (zjok_i rfl rfl (zle_c rfl (zle_c rfl (zle_c rfl (zle_c rfl (zle_c rfl (zle_c rfl (zle_c rfl (zle_c rfl (zle_c rfl (zle_c rfl (zle_c rfl (zle_c rfl (zle_c rfl (zle_c rfl (zle_c rfl (zle_c rfl (zle_c rfl (zle_c rfl (zle_c rfl zle_n))))))))))))))))))) rfl rfl (zle_c rfl (zle_c rfl (zle_c rfl (zle_c rfl (zle_c rfl (zle_c rfl (zle_c rfl (zle_c rfl (zle_c rfl (zle_c rfl (zle_c rfl (zle_c rfl (zle_c rfl (zle_c rfl zle_n)))))))))))))) rfl rfl (zle_c rfl (zle_c rfl zle_n))) (Nat.le_of_ble_eq_true rfl) (Nat.le_of_ble_eq_true rfl) rfl rfl ?_
    refine zJ_istore_n (ls' := [(2, .int rn1), (0, .ref 54), (1, .int p1)]) dX12_share_36 rfl rfl rfl ?_
    refine zJ_iload_n dX12_share_37 rfl rfl ?_
    refine zJ_if_ge (tgt := 43) dX12_share_38 (by decide) rfl (fun hc => ?_) (fun hc => ?_)
    · replace h := it_t hc h
      refine zJ_aload_n dX12_share_43 rfl rfl ?_
      refine zJ_iconst dX12_share_44 zc_0 rfl ?_
      obtain ⟨m_readn5, m_lengthn6, m_topn7, m_atn8, m_wrongn9, m_isAskedn10, m_askedHorsen11, m_askedFencen12, m_askedLettern13, m_askedHeightn14, m_planOfn15, m_extran16, m_winsn17, hcl, h⟩ := bd13_some h
      refine zJ_callV2 (σ := σ) (L := ([(3457, m_fences), (3461, m_allowed), (3462, m_horses), (3466, m_plans), (3470, m_typedn2), (3472, m_rowMany), (3473, (0 : Int32)), (3474, m_read), (3475, m_length), (3476, m_top), (3477, m_at), (3478, m_wrong), (3483, m_ruleSize), (3484, m_isAsked), (3485, m_askedHorse), (3486, m_askedFence), (3487, m_askedLetter), (3488, m_askedHeight), (3503, m_comingManyn3)], [(55, m_now), (56, m_kind), (57, m_height), (58, m_feet), (59, m_stride), (60, m_scope), (61, m_care), (62, m_plan), (63, m_money), (64, m_text), (69, m_rule), (78, m_comingn4), (80, m_planOf), (81, m_extra)], [(65, m_row), (79, m_wins)])) (mi := mX12_share) (yi := mX12_goGame) (as := [.int (0 : Int32)]) (st := []) (L2 := ([(3457, m_fences), (3461, m_allowed), (3462, m_horses), (3466, m_plans), (3470, m_typedn2), (3472, m_rowMany), (3473, (0 : Int32)), (3474, m_readn5), (3475, m_lengthn6), (3476, m_topn7), (3477, m_atn8), (3478, m_wrongn9), (3483, m_ruleSize), (3484, m_isAskedn10), (3485, m_askedHorsen11), (3486, m_askedFencen12), (3487, m_askedLettern13), (3488, m_askedHeightn14), (3503, m_comingManyn3)], [(55, m_now), (56, m_kind), (57, m_height), (58, m_feet), (59, m_stride), (60, m_scope), (61, m_care), (62, m_plan), (63, m_money), (64, m_text), (69, m_rule), (78, m_comingn4), (80, m_planOfn15), (81, m_extran16)], [(65, m_row), (79, m_winsn17)])) dX12_share_45 ML_X12_394 Yv_X12_goGame rfl zW_54 rfl rfl (t_X12_goGame l _ 200 hcl) (zsub_i (zle_c rfl (zle_c rfl (zle_c rfl (zle_c rfl (zle_c rfl (zle_c rfl (zle_c rfl (zle_c rfl (zle_c rfl (zle_c rfl (zle_c rfl (zle_c rfl (zle_c rfl (zle_c rfl (zle_c rfl zle_n))))))))))))))) (zle_c rfl (zle_c rfl (zle_c rfl (zle_c rfl (zle_c rfl (zle_c rfl (zle_c rfl (zle_c rfl (zle_c rfl (zle_c rfl (zle_c rfl (zle_c rfl (zle_c rfl zle_n))))))))))))) (zle_c rfl zle_n)) (zjok_i rfl rfl (zle_c rfl (zle_c rfl (zle_c rfl (zle_c rfl (zle_c rfl (zle_c rfl (zle_c rfl (zle_c rfl (zle_c rfl (zle_c rfl (zle_c rfl (zle_c rfl (zle_c rfl (zle_c rfl (zle_c rfl (zle_c rfl (zle_c rfl (zle_c rfl (zle_c rfl zle_n))))))))))))))))))) rfl rfl (zle_c rfl (zle_c rfl (zle_c rfl (zle_c rfl (zle_c rfl (zle_c rfl (zle_c rfl (zle_c rfl (zle_c rfl (zle_c rfl (zle_c rfl (zle_c rfl (zle_c rfl (zle_c rfl zle_n)))))))))))))) rfl rfl (zle_c rfl (zle_c rfl zle_n))) (Nat.le_of_ble_eq_true rfl) (Nat.le_of_ble_eq_true rfl) rfl rfl ?_
      refine zJ_ldc2_w (v := 100000000) dX12_share_48 C_X12_418 rfl ?_
      refine zJ_lstore_n (ls' := [(3, .long (100000000 : Int64)), (2, .int rn1), (0, .ref 54), (1, .int p1)]) dX12_share_51 rfl rfl rfl ?_
      refine zJ_aload_n dX12_share_52 rfl rfl ?_
      refine zJ_iload_n dX12_share_53 rfl rfl ?_
      obtain ⟨rn18, hcl, h⟩ := bd1_some h
      refine zJ_callV2 (σ := σ) (L := ([(3457, m_fences), (3461, m_allowed), (3462, m_horses), (3466, m_plans), (3470, m_typedn2), (3472, m_rowMany), (3473, (0 : Int32)), (3474, m_readn5), (3475, m_lengthn6), (3476, m_topn7), (3477, m_atn8), (3478, m_wrongn9), (3483, m_ruleSize), (3484, m_isAskedn10), (3485, m_askedHorsen11), (3486, m_askedFencen12), (3487, m_askedLettern13), (3488, m_askedHeightn14), (3503, m_comingManyn3)], [(55, m_now), (56, m_kind), (57, m_height), (58, m_feet), (59, m_stride), (60, m_scope), (61, m_care), (62, m_plan), (63, m_money), (64, m_text), (69, m_rule), (78, m_comingn4), (80, m_planOfn15), (81, m_extran16)], [(65, m_row), (79, m_winsn17)])) (mi := mX12_share) (yi := mX12_moneyOf) (as := [.int p1]) (st := []) (L2 := ([(3457, m_fences), (3461, m_allowed), (3462, m_horses), (3466, m_plans), (3470, m_typedn2), (3472, m_rowMany), (3473, (0 : Int32)), (3474, m_readn5), (3475, m_lengthn6), (3476, m_topn7), (3477, m_atn8), (3478, m_wrongn9), (3483, m_ruleSize), (3484, m_isAskedn10), (3485, m_askedHorsen11), (3486, m_askedFencen12), (3487, m_askedLettern13), (3488, m_askedHeightn14), (3503, m_comingManyn3)], [(55, m_now), (56, m_kind), (57, m_height), (58, m_feet), (59, m_stride), (60, m_scope), (61, m_care), (62, m_plan), (63, m_money), (64, m_text), (69, m_rule), (78, m_comingn4), (80, m_planOfn15), (81, m_extran16)], [(65, m_row), (79, m_winsn17)])) dX12_share_54 ML_X12_362 Yv_X12_moneyOf rfl zW_54 rfl rfl (t_X12_moneyOf l _ hcl) (zsub_i zle_n (zle_c rfl zle_n) zle_n) (zjok_i rfl rfl (zle_c rfl (zle_c rfl (zle_c rfl (zle_c rfl (zle_c rfl (zle_c rfl (zle_c rfl (zle_c rfl (zle_c rfl (zle_c rfl (zle_c rfl (zle_c rfl (zle_c rfl (zle_c rfl (zle_c rfl (zle_c rfl (zle_c rfl (zle_c rfl (zle_c rfl zle_n))))))))))))))))))) rfl rfl (zle_c rfl (zle_c rfl (zle_c rfl (zle_c rfl (zle_c rfl (zle_c rfl (zle_c rfl (zle_c rfl (zle_c rfl (zle_c rfl (zle_c rfl (zle_c rfl (zle_c rfl (zle_c rfl zle_n)))))))))))))) rfl rfl (zle_c rfl (zle_c rfl zle_n))) (Nat.le_of_ble_eq_true rfl) (Nat.le_of_ble_eq_true rfl) rfl rfl ?_
      refine zJ_aload_n dX12_share_57 rfl rfl ?_
      refine zJ_iload_n dX12_share_58 rfl rfl ?_
      refine zJ_iconst dX12_share_59 zc_1 rfl ?_
      refine zJ_iadd dX12_share_60 rfl ?_
      obtain ⟨rn19, hcl, h⟩ := bd1_some h
      refine zJ_callV2 (σ := σ) (L := ([(3457, m_fences), (3461, m_allowed), (3462, m_horses), (3466, m_plans), (3470, m_typedn2), (3472, m_rowMany), (3473, (0 : Int32)), (3474, m_readn5), (3475, m_lengthn6), (3476, m_topn7), (3477, m_atn8), (3478, m_wrongn9), (3483, m_ruleSize), (3484, m_isAskedn10), (3485, m_askedHorsen11), (3486, m_askedFencen12), (3487, m_askedLettern13), (3488, m_askedHeightn14), (3503, m_comingManyn3)], [(55, m_now), (56, m_kind), (57, m_height), (58, m_feet), (59, m_stride), (60, m_scope), (61, m_care), (62, m_plan), (63, m_money), (64, m_text), (69, m_rule), (78, m_comingn4), (80, m_planOfn15), (81, m_extran16)], [(65, m_row), (79, m_winsn17)])) (mi := mX12_share) (yi := mX12_moneyOf) (as := [.int (p1 + (1 : Int32))]) (st := [.int rn18]) (L2 := ([(3457, m_fences), (3461, m_allowed), (3462, m_horses), (3466, m_plans), (3470, m_typedn2), (3472, m_rowMany), (3473, (0 : Int32)), (3474, m_readn5), (3475, m_lengthn6), (3476, m_topn7), (3477, m_atn8), (3478, m_wrongn9), (3483, m_ruleSize), (3484, m_isAskedn10), (3485, m_askedHorsen11), (3486, m_askedFencen12), (3487, m_askedLettern13), (3488, m_askedHeightn14), (3503, m_comingManyn3)], [(55, m_now), (56, m_kind), (57, m_height), (58, m_feet), (59, m_stride), (60, m_scope), (61, m_care), (62, m_plan), (63, m_money), (64, m_text), (69, m_rule), (78, m_comingn4), (80, m_planOfn15), (81, m_extran16)], [(65, m_row), (79, m_winsn17)])) dX12_share_61 ML_X12_362 Yv_X12_moneyOf rfl zW_54 rfl rfl (t_X12_moneyOf l _ hcl) (zsub_i zle_n (zle_c rfl zle_n) zle_n) (zjok_i rfl rfl (zle_c rfl (zle_c rfl (zle_c rfl (zle_c rfl (zle_c rfl (zle_c rfl (zle_c rfl (zle_c rfl (zle_c rfl (zle_c rfl (zle_c rfl (zle_c rfl (zle_c rfl (zle_c rfl (zle_c rfl (zle_c rfl (zle_c rfl (zle_c rfl (zle_c rfl zle_n))))))))))))))))))) rfl rfl (zle_c rfl (zle_c rfl (zle_c rfl (zle_c rfl (zle_c rfl (zle_c rfl (zle_c rfl (zle_c rfl (zle_c rfl (zle_c rfl (zle_c rfl (zle_c rfl (zle_c rfl (zle_c rfl zle_n)))))))))))))) rfl rfl (zle_c rfl (zle_c rfl zle_n))) (Nat.le_of_ble_eq_true rfl) (Nat.le_of_ble_eq_true rfl) rfl rfl ?_
      refine zJ_iadd dX12_share_64 rfl ?_
      refine zJ_i2l dX12_share_65 rfl ?_
      obtain ⟨v5n20, ev5n20, h⟩ := lt1_some h
      refine zJ_nml ev5n20 ?_
      refine zJ_lstore (ls' := [(5, .long v5n20), (3, .long (100000000 : Int64)), (2, .int rn1), (0, .ref 54), (1, .int p1)]) dX12_share_66 rfl rfl rfl ?_
      refine zJ_lload dX12_share_68 rfl rfl ?_
      refine zJ_lload_n dX12_share_70 rfl rfl ?_
      refine zJ_lmul dX12_share_71 rfl ?_
      refine zJ_ldc2_w (v := 2) dX12_share_72 C_X12_420 rfl ?_
      refine zJ_aload_n dX12_share_75 rfl rfl ?_
      refine zJ_getr (mi := mX12_share) dX12_share_76 F_X12_88 zW_54 rfl rfl ?_
      refine zJ_iconst dX12_share_79 zc_0 rfl ?_
      obtain ⟨hg, h⟩ := gd_some h
      refine zJ_lald (mi := mX12_share) (f := m_winsn17) dX12_share_80 zW_79 (ix_in hg) rfl rfl ?_
      refine zJ_lmul dX12_share_81 rfl ?_
      refine zJ_lcmp dX12_share_82 rfl ?_
      have hj_X12_share_109 : ∀ (t0_109j : Int32), j_X12_share_109 m_row m_typedn2 m_comingManyn3 m_comingn4 m_readn5 m_lengthn6 m_topn7 m_atn8 m_wrongn9 m_isAskedn10 m_askedHorsen11 m_askedFencen12 m_askedLettern13 m_askedHeightn14 m_planOfn15 m_extran16 m_winsn17 v5n20 t0_109j = some (r, w_m_typed, w_m_rowMany, w_m_thrown, w_m_read, w_m_length, w_m_top, w_m_at, w_m_wrong, w_m_isAsked, w_m_askedHorse, w_m_askedFence, w_m_askedLetter, w_m_askedHeight, w_m_comingMany, w_m_coming, w_m_planOf, w_m_extra, w_m_row, w_m_wins) → zJ l zW 409 mX12_share σ ([(3457, m_fences), (3461, m_allowed), (3462, m_horses), (3466, m_plans), (3470, m_typedn2), (3472, m_rowMany), (3473, (0 : Int32)), (3474, m_readn5), (3475, m_lengthn6), (3476, m_topn7), (3477, m_atn8), (3478, m_wrongn9), (3483, m_ruleSize), (3484, m_isAskedn10), (3485, m_askedHorsen11), (3486, m_askedFencen12), (3487, m_askedLettern13), (3488, m_askedHeightn14), (3503, m_comingManyn3)], [(55, m_now), (56, m_kind), (57, m_height), (58, m_feet), (59, m_stride), (60, m_scope), (61, m_care), (62, m_plan), (63, m_money), (64, m_text), (69, m_rule), (78, m_comingn4), (80, m_planOfn15), (81, m_extran16)], [(65, m_row), (79, m_winsn17)]) 109 [(0, .ref 54), (3, .long (100000000 : Int64)), (5, .long v5n20)] [.int t0_109j] (some (.int r)) ([(3457, m_fences), (3461, m_allowed), (3462, m_horses), (3466, m_plans), (3470, w_m_typed), (3472, w_m_rowMany), (3473, w_m_thrown), (3474, w_m_read), (3475, w_m_length), (3476, w_m_top), (3477, w_m_at), (3478, w_m_wrong), (3483, m_ruleSize), (3484, w_m_isAsked), (3485, w_m_askedHorse), (3486, w_m_askedFence), (3487, w_m_askedLetter), (3488, w_m_askedHeight), (3503, w_m_comingMany)], [(55, m_now), (56, m_kind), (57, m_height), (58, m_feet), (59, m_stride), (60, m_scope), (61, m_care), (62, m_plan), (63, m_money), (64, m_text), (69, m_rule), (78, w_m_coming), (80, w_m_planOf), (81, w_m_extra)], [(65, w_m_row), (79, w_m_wins)]) := by
        intro t0_109j h
        unfold j_X12_share_109 at h
        refine zJ_istore (ls' := [(7, .int t0_109j), (0, .ref 54), (3, .long (100000000 : Int64)), (5, .long v5n20)]) dX12_share_109 rfl rfl rfl ?_
        refine zJ_aload_n dX12_share_111 rfl rfl ?_
        refine zJ_iconst dX12_share_112 zc_0 rfl ?_
        refine zK_puti (mi := mX12_share) (la' := [(3457, m_fences), (3461, m_allowed), (3462, m_horses), (3466, m_plans), (3470, m_typedn2), (3472, (0 : Int32)), (3473, (0 : Int32)), (3474, m_readn5), (3475, m_lengthn6), (3476, m_topn7), (3477, m_atn8), (3478, m_wrongn9), (3483, m_ruleSize), (3484, m_isAskedn10), (3485, m_askedHorsen11), (3486, m_askedFencen12), (3487, m_askedLettern13), (3488, m_askedHeightn14), (3503, m_comingManyn3)]) zW_ok dX12_share_113 F_X12_116 P_12_16 zW_54 rfl rfl rfl ?_
        refine zJ_aload_n dX12_share_116 rfl rfl ?_
        refine zJ_lload dX12_share_117 rfl rfl ?_
        obtain ⟨m_rowManyn21, m_rown22, hcl, h⟩ := bd2_some h
        refine zJ_callV2 (σ := σ) (L := ([(3457, m_fences), (3461, m_allowed), (3462, m_horses), (3466, m_plans), (3470, m_typedn2), (3472, (0 : Int32)), (3473, (0 : Int32)), (3474, m_readn5), (3475, m_lengthn6), (3476, m_topn7), (3477, m_atn8), (3478, m_wrongn9), (3483, m_ruleSize), (3484, m_isAskedn10), (3485, m_askedHorsen11), (3486, m_askedFencen12), (3487, m_askedLettern13), (3488, m_askedHeightn14), (3503, m_comingManyn3)], [(55, m_now), (56, m_kind), (57, m_height), (58, m_feet), (59, m_stride), (60, m_scope), (61, m_care), (62, m_plan), (63, m_money), (64, m_text), (69, m_rule), (78, m_comingn4), (80, m_planOfn15), (81, m_extran16)], [(65, m_row), (79, m_winsn17)])) (mi := mX12_share) (yi := mX12_tell) (as := [.long v5n20]) (st := []) (L2 := ([(3457, m_fences), (3461, m_allowed), (3462, m_horses), (3466, m_plans), (3470, m_typedn2), (3472, m_rowManyn21), (3473, (0 : Int32)), (3474, m_readn5), (3475, m_lengthn6), (3476, m_topn7), (3477, m_atn8), (3478, m_wrongn9), (3483, m_ruleSize), (3484, m_isAskedn10), (3485, m_askedHorsen11), (3486, m_askedFencen12), (3487, m_askedLettern13), (3488, m_askedHeightn14), (3503, m_comingManyn3)], [(55, m_now), (56, m_kind), (57, m_height), (58, m_feet), (59, m_stride), (60, m_scope), (61, m_care), (62, m_plan), (63, m_money), (64, m_text), (69, m_rule), (78, m_comingn4), (80, m_planOfn15), (81, m_extran16)], [(65, m_rown22), (79, m_winsn17)])) dX12_share_119 ML_X12_265 Yv_X12_tell rfl zW_54 rfl rfl (t_X12_tell l _ hcl) (zsub_i (zle_c rfl zle_n) zle_n (zle_c rfl zle_n)) (zjok_i rfl rfl (zle_c rfl (zle_c rfl (zle_c rfl (zle_c rfl (zle_c rfl (zle_c rfl (zle_c rfl (zle_c rfl (zle_c rfl (zle_c rfl (zle_c rfl (zle_c rfl (zle_c rfl (zle_c rfl (zle_c rfl (zle_c rfl (zle_c rfl (zle_c rfl (zle_c rfl zle_n))))))))))))))))))) rfl rfl (zle_c rfl (zle_c rfl (zle_c rfl (zle_c rfl (zle_c rfl (zle_c rfl (zle_c rfl (zle_c rfl (zle_c rfl (zle_c rfl (zle_c rfl (zle_c rfl (zle_c rfl (zle_c rfl zle_n)))))))))))))) rfl rfl (zle_c rfl (zle_c rfl zle_n))) (Nat.le_of_ble_eq_true rfl) (Nat.le_of_ble_eq_true rfl) rfl rfl ?_
        refine zJ_aload_n dX12_share_122 rfl rfl ?_
        refine zJ_aload_n dX12_share_123 rfl rfl ?_
        refine zJ_getr (mi := mX12_share) dX12_share_124 F_X12_88 zW_54 rfl rfl ?_
        refine zJ_iconst dX12_share_127 zc_0 rfl ?_
        obtain ⟨hg, h⟩ := gd_some h
        refine zJ_lald (mi := mX12_share) (f := m_winsn17) dX12_share_128 zW_79 (ix_in hg) rfl rfl ?_
        refine zJ_lload_n dX12_share_129 rfl rfl ?_
        obtain ⟨m_rowManyn23, m_rown24, hcl, h⟩ := bd2_some h
        refine zJ_callV2 (σ := σ) (L := ([(3457, m_fences), (3461, m_allowed), (3462, m_horses), (3466, m_plans), (3470, m_typedn2), (3472, m_rowManyn21), (3473, (0 : Int32)), (3474, m_readn5), (3475, m_lengthn6), (3476, m_topn7), (3477, m_atn8), (3478, m_wrongn9), (3483, m_ruleSize), (3484, m_isAskedn10), (3485, m_askedHorsen11), (3486, m_askedFencen12), (3487, m_askedLettern13), (3488, m_askedHeightn14), (3503, m_comingManyn3)], [(55, m_now), (56, m_kind), (57, m_height), (58, m_feet), (59, m_stride), (60, m_scope), (61, m_care), (62, m_plan), (63, m_money), (64, m_text), (69, m_rule), (78, m_comingn4), (80, m_planOfn15), (81, m_extran16)], [(65, m_rown22), (79, m_winsn17)])) (mi := mX12_share) (yi := mX12_tellPart) (as := [.long (m_winsn17 (0 : Int32).toNatClampNeg), .long (100000000 : Int64)]) (st := []) (L2 := ([(3457, m_fences), (3461, m_allowed), (3462, m_horses), (3466, m_plans), (3470, m_typedn2), (3472, m_rowManyn23), (3473, (0 : Int32)), (3474, m_readn5), (3475, m_lengthn6), (3476, m_topn7), (3477, m_atn8), (3478, m_wrongn9), (3483, m_ruleSize), (3484, m_isAskedn10), (3485, m_askedHorsen11), (3486, m_askedFencen12), (3487, m_askedLettern13), (3488, m_askedHeightn14), (3503, m_comingManyn3)], [(55, m_now), (56, m_kind), (57, m_height), (58, m_feet), (59, m_stride), (60, m_scope), (61, m_care), (62, m_plan), (63, m_money), (64, m_text), (69, m_rule), (78, m_comingn4), (80, m_planOfn15), (81, m_extran16)], [(65, m_rown24), (79, m_winsn17)])) dX12_share_130 ML_X12_414 Yv_X12_tellPart rfl zW_54 rfl rfl (t_X12_tellPart l _ hcl) (zsub_i (zle_c rfl zle_n) zle_n (zle_c rfl zle_n)) (zjok_i rfl rfl (zle_c rfl (zle_c rfl (zle_c rfl (zle_c rfl (zle_c rfl (zle_c rfl (zle_c rfl (zle_c rfl (zle_c rfl (zle_c rfl (zle_c rfl (zle_c rfl (zle_c rfl (zle_c rfl (zle_c rfl (zle_c rfl (zle_c rfl (zle_c rfl (zle_c rfl zle_n))))))))))))))))))) rfl rfl (zle_c rfl (zle_c rfl (zle_c rfl (zle_c rfl (zle_c rfl (zle_c rfl (zle_c rfl (zle_c rfl (zle_c rfl (zle_c rfl (zle_c rfl (zle_c rfl (zle_c rfl (zle_c rfl zle_n)))))))))))))) rfl rfl (zle_c rfl (zle_c rfl zle_n))) (Nat.le_of_ble_eq_true rfl) (Nat.le_of_ble_eq_true rfl) rfl rfl ?_
        refine zJ_aload_n dX12_share_133 rfl rfl ?_
        refine zJ_aload_n dX12_share_134 rfl rfl ?_
        refine zJ_getr (mi := mX12_share) dX12_share_135 F_X12_88 zW_54 rfl rfl ?_
        refine zJ_iconst dX12_share_138 zc_1 rfl ?_
        obtain ⟨hg, h⟩ := gd_some h
        refine zJ_lald (mi := mX12_share) (f := m_winsn17) dX12_share_139 zW_79 (ix_in hg) rfl rfl ?_
        refine zJ_lload_n dX12_share_140 rfl rfl ?_
        obtain ⟨m_rowManyn25, m_rown26, hcl, h⟩ := bd2_some h
        refine zJ_callV2 (σ := σ) (L := ([(3457, m_fences), (3461, m_allowed), (3462, m_horses), (3466, m_plans), (3470, m_typedn2), (3472, m_rowManyn23), (3473, (0 : Int32)), (3474, m_readn5), (3475, m_lengthn6), (3476, m_topn7), (3477, m_atn8), (3478, m_wrongn9), (3483, m_ruleSize), (3484, m_isAskedn10), (3485, m_askedHorsen11), (3486, m_askedFencen12), (3487, m_askedLettern13), (3488, m_askedHeightn14), (3503, m_comingManyn3)], [(55, m_now), (56, m_kind), (57, m_height), (58, m_feet), (59, m_stride), (60, m_scope), (61, m_care), (62, m_plan), (63, m_money), (64, m_text), (69, m_rule), (78, m_comingn4), (80, m_planOfn15), (81, m_extran16)], [(65, m_rown24), (79, m_winsn17)])) (mi := mX12_share) (yi := mX12_tellPart) (as := [.long (m_winsn17 (1 : Int32).toNatClampNeg), .long (100000000 : Int64)]) (st := []) (L2 := ([(3457, m_fences), (3461, m_allowed), (3462, m_horses), (3466, m_plans), (3470, m_typedn2), (3472, m_rowManyn25), (3473, (0 : Int32)), (3474, m_readn5), (3475, m_lengthn6), (3476, m_topn7), (3477, m_atn8), (3478, m_wrongn9), (3483, m_ruleSize), (3484, m_isAskedn10), (3485, m_askedHorsen11), (3486, m_askedFencen12), (3487, m_askedLettern13), (3488, m_askedHeightn14), (3503, m_comingManyn3)], [(55, m_now), (56, m_kind), (57, m_height), (58, m_feet), (59, m_stride), (60, m_scope), (61, m_care), (62, m_plan), (63, m_money), (64, m_text), (69, m_rule), (78, m_comingn4), (80, m_planOfn15), (81, m_extran16)], [(65, m_rown26), (79, m_winsn17)])) dX12_share_141 ML_X12_414 Yv_X12_tellPart rfl zW_54 rfl rfl (t_X12_tellPart l _ hcl) (zsub_i (zle_c rfl zle_n) zle_n (zle_c rfl zle_n)) (zjok_i rfl rfl (zle_c rfl (zle_c rfl (zle_c rfl (zle_c rfl (zle_c rfl (zle_c rfl (zle_c rfl (zle_c rfl (zle_c rfl (zle_c rfl (zle_c rfl (zle_c rfl (zle_c rfl (zle_c rfl (zle_c rfl (zle_c rfl (zle_c rfl (zle_c rfl (zle_c rfl zle_n))))))))))))))))))) rfl rfl (zle_c rfl (zle_c rfl (zle_c rfl (zle_c rfl (zle_c rfl (zle_c rfl (zle_c rfl (zle_c rfl (zle_c rfl (zle_c rfl (zle_c rfl (zle_c rfl (zle_c rfl (zle_c rfl zle_n)))))))))))))) rfl rfl (zle_c rfl (zle_c rfl zle_n))) (Nat.le_of_ble_eq_true rfl) (Nat.le_of_ble_eq_true rfl) rfl rfl ?_
        refine zJ_iload dX12_share_144 rfl rfl ?_
        refine zJ_if_eq (tgt := 153) dX12_share_146 (by decide) rfl (fun hc => ?_) (fun hc => ?_)
        · replace h := it_t hc h
          refine zJ_iconst dX12_share_153 zc_0 rfl ?_
          obtain ⟨rfl, rfl, rfl, rfl, rfl, rfl, rfl, rfl, rfl, rfl, rfl, rfl, rfl, rfl, rfl, rfl, rfl, rfl, rfl, rfl⟩ := so20 h
          exact zJ_iret dX12_share_154 rfl rfl
        · replace h := it_f hc h
          refine zJ_iconst dX12_share_149 zc_1 rfl ?_
          refine zJ_goto (tgt := 154) dX12_share_150 (by decide) ?_
          obtain ⟨rfl, rfl, rfl, rfl, rfl, rfl, rfl, rfl, rfl, rfl, rfl, rfl, rfl, rfl, rfl, rfl, rfl, rfl, rfl, rfl⟩ := so20 h
          exact zJ_iret dX12_share_154 rfl rfl
      refine zJ_if_lt (tgt := 108) dX12_share_83 (by decide) rfl (fun hc => ?_) (fun hc => ?_)
      · replace h := it_t hc h
        refine zJ_iconst dX12_share_108 zc_0 rfl ?_
        refine zJ_loc (ls' := [(0, .ref 54), (3, .long (100000000 : Int64)), (5, .long v5n20)]) (zll_c rfl (zll_c rfl (zll_c rfl zll_n))) ?_
        exact hj_X12_share_109 _ h
      · replace h := it_f hc h
        refine zJ_lload dX12_share_86 rfl rfl ?_
        refine zJ_lload_n dX12_share_88 rfl rfl ?_
        refine zJ_lmul dX12_share_89 rfl ?_
        refine zJ_ldc2_w (v := 2) dX12_share_90 C_X12_420 rfl ?_
        refine zJ_aload_n dX12_share_93 rfl rfl ?_
        refine zJ_getr (mi := mX12_share) dX12_share_94 F_X12_88 zW_54 rfl rfl ?_
        refine zJ_iconst dX12_share_97 zc_1 rfl ?_
        obtain ⟨hg, h⟩ := gd_some h
        refine zJ_lald (mi := mX12_share) (f := m_winsn17) dX12_share_98 zW_79 (ix_in hg) rfl rfl ?_
        refine zJ_lmul dX12_share_99 rfl ?_
        refine zJ_lcmp dX12_share_100 rfl ?_
        refine zJ_if_lt (tgt := 108) dX12_share_101 (by decide) rfl (fun hc => ?_) (fun hc => ?_)
        · replace h := it_t hc h
          refine zJ_iconst dX12_share_108 zc_0 rfl ?_
          refine zJ_loc (ls' := [(0, .ref 54), (3, .long (100000000 : Int64)), (5, .long v5n20)]) (zll_c rfl (zll_c rfl (zll_c rfl zll_n))) ?_
          exact hj_X12_share_109 _ h
        · replace h := it_f hc h
          refine zJ_iconst dX12_share_104 zc_1 rfl ?_
          refine zJ_goto (tgt := 109) dX12_share_105 (by decide) ?_
          refine zJ_loc (ls' := [(0, .ref 54), (3, .long (100000000 : Int64)), (5, .long v5n20)]) (zll_c rfl (zll_c rfl (zll_c rfl zll_n))) ?_
          exact hj_X12_share_109 _ h
    · replace h := it_f hc h
      refine zJ_iload_n dX12_share_41 rfl rfl ?_
      obtain ⟨rfl, rfl, rfl, rfl, rfl, rfl, rfl, rfl, rfl, rfl, rfl, rfl, rfl, rfl, rfl, rfl, rfl, rfl, rfl, rfl⟩ := so20 h
      exact zJ_iret dX12_share_42 rfl rfl
  refine zJ_if_le (tgt := 30) dX12_share_9 (by decide) rfl (fun hc => ?_) (fun hc => ?_)
  · replace h := it_t hc h
    refine zJ_loc (ls' := [(0, .ref 54), (1, .int p1)]) (zll_c rfl (zll_c rfl zll_n)) ?_
    exact hj_X12_share_30 _ h
  · replace h := it_f hc h
    refine zJ_iload_n dX12_share_12 rfl rfl ?_
    refine zJ_iconst dX12_share_13 zc_1 rfl ?_
    refine zJ_iconst dX12_share_14 zc_5 rfl ?_
    obtain ⟨rn27, hcl, h⟩ := bd1_some h
    refine zJ_callS2 (σ := σ) (L := ([(3457, m_fences), (3461, m_allowed), (3462, m_horses), (3466, m_plans), (3470, m_typed), (3472, m_rowMany), (3473, (0 : Int32)), (3474, m_read), (3475, m_length), (3476, m_top), (3477, m_at), (3478, m_wrong), (3483, m_ruleSize), (3484, m_isAsked), (3485, m_askedHorse), (3486, m_askedFence), (3487, m_askedLetter), (3488, m_askedHeight), (3503, m_comingMany)], [(55, m_now), (56, m_kind), (57, m_height), (58, m_feet), (59, m_stride), (60, m_scope), (61, m_care), (62, m_plan), (63, m_money), (64, m_text), (69, m_rule), (78, m_coming), (80, m_planOf), (81, m_extra)], [(65, m_row), (79, m_wins)])) (mi := mX12_share) (yi := mX12_in) (as := [.int p1, .int (1 : Int32), .int (5 : Int32)]) (st := []) (L2 := ([(3457, m_fences), (3461, m_allowed), (3462, m_horses), (3466, m_plans), (3470, m_typed), (3472, m_rowMany), (3473, (0 : Int32)), (3474, m_read), (3475, m_length), (3476, m_top), (3477, m_at), (3478, m_wrong), (3483, m_ruleSize), (3484, m_isAsked), (3485, m_askedHorse), (3486, m_askedFence), (3487, m_askedLetter), (3488, m_askedHeight), (3503, m_comingMany)], [(55, m_now), (56, m_kind), (57, m_height), (58, m_feet), (59, m_stride), (60, m_scope), (61, m_care), (62, m_plan), (63, m_money), (64, m_text), (69, m_rule), (78, m_coming), (80, m_planOf), (81, m_extra)], [(65, m_row), (79, m_wins)])) dX12_share_15 ML_X12_122 Ys_X12_in rfl (t_X12_in l _ hcl) (zsub_i zle_n zle_n zle_n) (zjok_i rfl rfl (zle_c rfl (zle_c rfl (zle_c rfl (zle_c rfl (zle_c rfl (zle_c rfl (zle_c rfl (zle_c rfl (zle_c rfl (zle_c rfl (zle_c rfl (zle_c rfl (zle_c rfl (zle_c rfl (zle_c rfl (zle_c rfl (zle_c rfl (zle_c rfl (zle_c rfl zle_n))))))))))))))))))) rfl rfl (zle_c rfl (zle_c rfl (zle_c rfl (zle_c rfl (zle_c rfl (zle_c rfl (zle_c rfl (zle_c rfl (zle_c rfl (zle_c rfl (zle_c rfl (zle_c rfl (zle_c rfl (zle_c rfl zle_n)))))))))))))) rfl rfl (zle_c rfl (zle_c rfl zle_n))) (Nat.le_of_ble_eq_true rfl) (Nat.le_of_ble_eq_true rfl) rfl rfl ?_
    refine zJ_if_ne (tgt := 30) dX12_share_18 (by decide) rfl (fun hc => ?_) (fun hc => ?_)
    · replace h := it_f hc h
      refine zJ_loc (ls' := [(0, .ref 54), (1, .int p1)]) (zll_c rfl (zll_c rfl zll_n)) ?_
      exact hj_X12_share_30 _ h
    · replace h := it_t hc h
      refine zJ_aload_n dX12_share_21 rfl rfl ?_
      refine zJ_iconst dX12_share_22 zc_0 rfl ?_
      refine zK_puti (mi := mX12_share) (la' := [(3457, m_fences), (3461, m_allowed), (3462, m_horses), (3466, m_plans), (3470, (0 : Int32)), (3472, m_rowMany), (3473, (0 : Int32)), (3474, m_read), (3475, m_length), (3476, m_top), (3477, m_at), (3478, m_wrong), (3483, m_ruleSize), (3484, m_isAsked), (3485, m_askedHorse), (3486, m_askedFence), (3487, m_askedLetter), (3488, m_askedHeight), (3503, m_comingMany)]) zW_ok dX12_share_23 F_X12_139 P_12_14 zW_54 rfl rfl rfl ?_
      refine zJ_sipush dX12_share_26 zs_m200 rfl ?_
      obtain ⟨rfl, rfl, rfl, rfl, rfl, rfl, rfl, rfl, rfl, rfl, rfl, rfl, rfl, rfl, rfl, rfl, rfl, rfl, rfl, rfl⟩ := so20 h
      exact zJ_iret dX12_share_29 rfl rfl
set_option maxRecDepth 100000 in
set_option maxHeartbeats 4000000 in
theorem t_X12_sheet (l : Launch) (σ : zS) {p1 : Int32} {p2 : Int32} {p3 : Int32} {p4 : Int32} {m_fences : Int32} {m_thrown : Int32} {m_height : (Nat → Int32)} {r : Int32} {w_m_thrown : Int32} {w_m_height : (Nat → Int32)} (h : f_X12_sheet p1 p2 p3 p4 m_fences m_thrown m_height = some (r, w_m_thrown, w_m_height)) : zMt l zW 1 mX12_sheet σ ([(3457, m_fences), (3473, m_thrown)], [(57, m_height)], []) [.ref 54, .int p1, .int p2, .int p3, .int p4] (some (.int r)) ([(3457, m_fences), (3473, w_m_thrown)], [(57, w_m_height)], []) := by
  refine zMt_of (ls := [(0, .ref 54), (1, .int p1), (2, .int p2), (3, .int p3), (4, .int p4)]) (by decide) rfl (fun _ => Nat.le_of_ble_eq_true rfl) rfl ?_
  unfold f_X12_sheet at h
  refine zJ_aload_n dX12_sheet_0 rfl rfl ?_
  refine zJ_iconst dX12_sheet_1 zc_0 rfl ?_
  refine zK_puti (mi := mX12_sheet) (la' := [(3457, m_fences), (3473, (0 : Int32))]) zW_ok dX12_sheet_2 F_X12_113 P_12_17 zW_54 rfl rfl rfl ?_
  refine zJ_iload_n dX12_sheet_5 rfl rfl ?_
  refine zJ_iconst dX12_sheet_6 zc_0 rfl ?_
  refine zJ_iconst dX12_sheet_7 zc_3 rfl ?_
  obtain ⟨rn1, hcl, h⟩ := bd1_some h
  refine zJ_callS2 (σ := σ) (L := ([(3457, m_fences), (3473, (0 : Int32))], [(57, m_height)], [])) (mi := mX12_sheet) (yi := mX12_in) (as := [.int p1, .int (0 : Int32), .int (3 : Int32)]) (st := []) (L2 := ([(3457, m_fences), (3473, (0 : Int32))], [(57, m_height)], [])) dX12_sheet_8 ML_X12_122 Ys_X12_in rfl (t_X12_in l _ hcl) (zsub_i zle_n zle_n zle_n) (zjok_i rfl rfl (zle_c rfl (zle_c rfl zle_n)) rfl rfl (zle_c rfl zle_n) rfl rfl zle_n) (Nat.le_of_ble_eq_true rfl) (Nat.le_of_ble_eq_true rfl) rfl rfl ?_
  refine zJ_if_eq (tgt := 20) dX12_sheet_11 (by decide) rfl (fun hc => ?_) (fun hc => ?_)
  · replace h := it_t hc h
    refine zJ_iconst dX12_sheet_20 zc_m1 rfl ?_
    obtain ⟨rfl, rfl, rfl⟩ := so3 h
    exact zJ_iret dX12_sheet_21 rfl rfl
  · replace h := it_f hc h
    refine zJ_iload_n dX12_sheet_14 rfl rfl ?_
    refine zJ_bipush dX12_sheet_15 zb_8 rfl ?_
    refine zJ_icmp_le (tgt := 22) dX12_sheet_17 (by decide) rfl (fun hc => ?_) (fun hc => ?_)
    · replace h := it_t hc h
      refine zJ_iload_n dX12_sheet_22 rfl rfl ?_
      refine zJ_iconst dX12_sheet_23 zc_3 rfl ?_
      have hj_X12_sheet_34 : ∀ (_u : Unit), j_X12_sheet_34 p1 p2 p3 p4 m_fences m_height _u = some (r, w_m_thrown, w_m_height) → zJ l zW 1 mX12_sheet σ ([(3457, m_fences), (3473, (0 : Int32))], [(57, m_height)], []) 34 [(0, .ref 54), (1, .int p1), (2, .int p2), (3, .int p3), (4, .int p4)] [] (some (.int r)) ([(3457, m_fences), (3473, w_m_thrown)], [(57, w_m_height)], []) := by
        intro _u h
        unfold j_X12_sheet_34 at h
        refine zJ_iconst dX12_sheet_34 zc_0 rfl ?_
        refine zJ_istore (ls' := [(5, .int (0 : Int32)), (0, .ref 54), (1, .int p1), (2, .int p2), (3, .int p3), (4, .int p4)]) dX12_sheet_35 rfl rfl rfl ?_
        refine zJ_iload_n dX12_sheet_37 rfl rfl ?_
        refine zJ_istore (ls' := [(6, .int p3), (5, .int (0 : Int32)), (0, .ref 54), (1, .int p1), (2, .int p2), (3, .int p3), (4, .int p4)]) dX12_sheet_38 rfl rfl rfl ?_
        refine zJ_iconst dX12_sheet_40 zc_0 rfl ?_
        refine zJ_istore (ls' := [(7, .int (0 : Int32)), (6, .int p3), (5, .int (0 : Int32)), (0, .ref 54), (1, .int p1), (2, .int p2), (3, .int p3), (4, .int p4)]) dX12_sheet_41 rfl rfl rfl ?_
        have hk43 : ∀ (v5_43x : Int32) (m_height_43x : (Nat → Int32)), k_X12_sheet_43 p1 v5_43x m_height_43x = some (r, w_m_thrown, w_m_height) → zJ l zW 1 mX12_sheet σ ([(3457, m_fences), (3473, (0 : Int32))], [(57, m_height_43x)], []) 135 [(1, .int p1), (5, .int v5_43x)] [] (some (.int r)) ([(3457, m_fences), (3473, w_m_thrown)], [(57, w_m_height)], []) := by
          intro v5_43x m_height_43x h
          unfold k_X12_sheet_43 at h
          refine zJ_iload_n dX12_sheet_135 rfl rfl ?_
          refine zJ_iconst dX12_sheet_136 zc_3 rfl ?_
          refine zJ_icmp_ne (tgt := 145) dX12_sheet_137 (by decide) rfl (fun hc => ?_) (fun hc => ?_)
          · replace h := it_f hc h
            refine zJ_iload dX12_sheet_145 rfl rfl ?_
            obtain ⟨rfl, rfl, rfl⟩ := so3 h
            exact zJ_iret dX12_sheet_147 rfl rfl
          · replace h := it_t hc h
            refine zJ_bipush dX12_sheet_140 zb_m3 rfl ?_
            refine zJ_goto (tgt := 147) dX12_sheet_142 (by decide) ?_
            obtain ⟨rfl, rfl, rfl⟩ := so3 h
            exact zJ_iret dX12_sheet_147 rfl rfl
        refine zJ_loc (ls' := [(0, .ref 54), (1, .int p1), (2, .int p2), (4, .int p4), (5, .int (0 : Int32)), (6, .int p3), (7, .int (0 : Int32))]) (zll_c rfl (zll_c rfl (zll_c rfl (zll_c rfl (zll_c rfl (zll_c rfl (zll_c rfl zll_n))))))) ?_
        refine ml4_J (fun (v5_43 : Int32) (v6_43 : Int32) (v7_43 : Int32) (m_height_43 : (Nat → Int32)) => zJ l zW 1 mX12_sheet σ ([(3457, m_fences), (3473, (0 : Int32))], [(57, m_height_43)], []) 43 [(0, .ref 54), (1, .int p1), (2, .int p2), (4, .int p4), (5, .int v5_43), (6, .int v6_43), (7, .int v7_43)] [] (some (.int r)) ([(3457, m_fences), (3473, w_m_thrown)], [(57, w_m_height)], [])) (fun rc43 hrc43 v5_43 v6_43 v7_43 m_height_43 h => ?_) zN _ _ _ _ h
        unfold s_X12_sheet_43 at h
        refine zJ_iload dX12_sheet_43 rfl rfl ?_
        refine zJ_aload_n dX12_sheet_45 rfl rfl ?_
        refine zJ_geti (mi := mX12_sheet) (x := m_fences) dX12_sheet_46 F_X12_119 zW_54 rfl rfl rfl ?_
        refine zJ_icmp_ge (tgt := 135) dX12_sheet_49 (by decide) rfl (fun hc => ?_) (fun hc => ?_)
        · replace h := it_t hc h
          refine zJ_loc (ls' := [(1, .int p1), (5, .int v5_43)]) (zll_c rfl (zll_c rfl zll_n)) ?_
          exact hk43 _ _ h
        · replace h := it_f hc h
          refine zJ_iload_n dX12_sheet_52 rfl rfl ?_
          have hj_X12_sheet_75 : ∀ (t0_75j : Int32), j_X12_sheet_75 p1 p2 p4 rc43 v5_43 v6_43 v7_43 m_height_43 t0_75j = some (r, w_m_thrown, w_m_height) → zJ l zW 1 mX12_sheet σ ([(3457, m_fences), (3473, (0 : Int32))], [(57, m_height_43)], []) 75 [(0, .ref 54), (1, .int p1), (2, .int p2), (4, .int p4), (5, .int v5_43), (6, .int v6_43), (7, .int v7_43)] [.int t0_75j] (some (.int r)) ([(3457, m_fences), (3473, w_m_thrown)], [(57, w_m_height)], []) := by
            intro t0_75j h
            unfold j_X12_sheet_75 at h
            refine zJ_istore (ls' := [(8, .int t0_75j), (0, .ref 54), (1, .int p1), (2, .int p2), (4, .int p4), (5, .int v5_43), (6, .int v6_43), (7, .int v7_43)]) dX12_sheet_75 rfl rfl rfl ?_
            refine zJ_aload_n dX12_sheet_77 rfl rfl ?_
            refine zJ_getr (mi := mX12_sheet) dX12_sheet_78 F_X12_16 zW_54 rfl rfl ?_
            refine zJ_iload dX12_sheet_81 rfl rfl ?_
            refine zJ_iload_n dX12_sheet_83 rfl rfl ?_
            refine zJ_iconst dX12_sheet_84 zc_3 rfl ?_
            have hj_X12_sheet_94 : ∀ (v5_94j : Int32) (v6_94j : Int32) (v7_94j : Int32) (m_height_94j : (Nat → Int32)), j_X12_sheet_94 p4 rc43 v7_43 v5_94j v6_94j v7_94j m_height_94j = some (r, w_m_thrown, w_m_height) → zJ l zW 1 mX12_sheet σ ([(3457, m_fences), (3473, (0 : Int32))], [(57, m_height_94j)], []) 94 [(0, .ref 54), (1, .int p1), (2, .int p2), (4, .int p4), (5, .int v5_94j), (6, .int v6_94j), (7, .int v7_94j)] [.int v7_43, .ref 57] (some (.int r)) ([(3457, m_fences), (3473, w_m_thrown)], [(57, w_m_height)], []) := by
              intro v5_94j v6_94j v7_94j m_height_94j h
              unfold j_X12_sheet_94 at h
              refine zJ_iconst dX12_sheet_94 zc_0 rfl ?_
              refine zJ_goto (tgt := 109) dX12_sheet_95 (by decide) ?_
              obtain ⟨hg, h⟩ := gd_some h
              refine zK_iast (mi := mX12_sheet) (f := m_height_94j) (lb' := [(57, (upd m_height_94j v7_43.toNatClampNeg (0 : Int32)))]) dX12_sheet_109 zW_57 (ix_in hg) rfl rfl rfl ?_
              refine zJ_iload dX12_sheet_110 rfl rfl ?_
              refine zJ_aload_n dX12_sheet_112 rfl rfl ?_
              refine zJ_getr (mi := mX12_sheet) dX12_sheet_113 F_X12_16 zW_54 rfl rfl ?_
              refine zJ_iload dX12_sheet_116 rfl rfl ?_
              obtain ⟨hg, h⟩ := gd_some h
              refine zJ_iald (mi := mX12_sheet) (f := (upd m_height_94j v7_43.toNatClampNeg (0 : Int32))) dX12_sheet_118 zW_57 (ix_in hg) rfl rfl ?_
              refine zJ_iadd dX12_sheet_119 rfl ?_
              obtain ⟨v5n2, ev5n2, h⟩ := lt1_some h
              refine zJ_nmi ev5n2 ?_
              refine zJ_istore (ls' := [(5, .int v5n2), (0, .ref 54), (1, .int p1), (2, .int p2), (4, .int p4), (6, .int v6_94j), (7, .int v7_94j)]) dX12_sheet_120 rfl rfl rfl ?_
              refine zJ_iload dX12_sheet_122 rfl rfl ?_
              refine zJ_iload dX12_sheet_124 rfl rfl ?_
              refine zJ_iadd dX12_sheet_126 rfl ?_
              obtain ⟨v6n3, ev6n3, h⟩ := lt1_some h
              refine zJ_nmi ev6n3 ?_
              refine zJ_istore (ls' := [(6, .int v6n3), (5, .int v5n2), (0, .ref 54), (1, .int p1), (2, .int p2), (4, .int p4), (7, .int v7_94j)]) dX12_sheet_127 rfl rfl rfl ?_
              obtain ⟨v7n4, ev7n4, h⟩ := lt1_some h
              refine zJ_iincN (ls' := [(7, .int v7n4), (6, .int v6n3), (5, .int v5n2), (0, .ref 54), (1, .int p1), (2, .int p2), (4, .int p4)]) dX12_sheet_129 rfl rfl zc_1 ev7n4 rfl rfl ?_
              refine zJ_goto (tgt := 43) dX12_sheet_132 (by decide) ?_
              refine zJ_loc (ls' := [(0, .ref 54), (1, .int p1), (2, .int p2), (4, .int p4), (5, .int v5n2), (6, .int v6n3), (7, .int v7n4)]) (zll_c rfl (zll_c rfl (zll_c rfl (zll_c rfl (zll_c rfl (zll_c rfl (zll_c rfl zll_n))))))) ?_
              exact hrc43 _ _ _ _ h
            refine zJ_icmp_eq (tgt := 94) dX12_sheet_85 (by decide) rfl (fun hc => ?_) (fun hc => ?_)
            · replace h := it_t hc h
              refine zJ_loc (ls' := [(0, .ref 54), (1, .int p1), (2, .int p2), (4, .int p4), (5, .int v5_43), (6, .int v6_43), (7, .int v7_43)]) (zll_c rfl (zll_c rfl (zll_c rfl (zll_c rfl (zll_c rfl (zll_c rfl (zll_c rfl zll_n))))))) ?_
              exact hj_X12_sheet_94 _ _ _ _ h
            · replace h := it_f hc h
              refine zJ_iload dX12_sheet_88 rfl rfl ?_
              refine zJ_iload_n dX12_sheet_90 rfl rfl ?_
              refine zJ_icmp_lt (tgt := 98) dX12_sheet_91 (by decide) rfl (fun hc => ?_) (fun hc => ?_)
              · replace h := it_t hc h
                refine zJ_iconst dX12_sheet_98 zc_0 rfl ?_
                refine zJ_bipush dX12_sheet_99 zb_9 rfl ?_
                refine zJ_iload dX12_sheet_101 rfl rfl ?_
                refine zJ_mmin (mi := mX12_sheet) dX12_sheet_103 L_X12_238 K_min_s K_math K_min_c (Nat.le_of_ble_eq_true rfl) (Nat.le_of_ble_eq_true rfl) rfl ?_
                refine zJ_mmax (mi := mX12_sheet) dX12_sheet_106 L_X12_243 K_max_s K_math K_max_c (Nat.le_of_ble_eq_true rfl) (Nat.le_of_ble_eq_true rfl) rfl ?_
                obtain ⟨hg, h⟩ := gd_some h
                refine zK_iast (mi := mX12_sheet) (f := m_height_43) (lb' := [(57, (upd m_height_43 v7_43.toNatClampNeg (if (0 : Int32) < (if t0_75j < (9 : Int32) then t0_75j else (9 : Int32)) then (if t0_75j < (9 : Int32) then t0_75j else (9 : Int32)) else (0 : Int32))))]) dX12_sheet_109 zW_57 (ix_in hg) rfl rfl rfl ?_
                refine zJ_iload dX12_sheet_110 rfl rfl ?_
                refine zJ_aload_n dX12_sheet_112 rfl rfl ?_
                refine zJ_getr (mi := mX12_sheet) dX12_sheet_113 F_X12_16 zW_54 rfl rfl ?_
                refine zJ_iload dX12_sheet_116 rfl rfl ?_
                obtain ⟨hg, h⟩ := gd_some h
                refine zJ_iald (mi := mX12_sheet) (f := (upd m_height_43 v7_43.toNatClampNeg (if (0 : Int32) < (if t0_75j < (9 : Int32) then t0_75j else (9 : Int32)) then (if t0_75j < (9 : Int32) then t0_75j else (9 : Int32)) else (0 : Int32)))) dX12_sheet_118 zW_57 (ix_in hg) rfl rfl ?_
                refine zJ_iadd dX12_sheet_119 rfl ?_
                obtain ⟨v5n5, ev5n5, h⟩ := lt1_some h
                refine zJ_nmi ev5n5 ?_
                refine zJ_istore (ls' := [(5, .int v5n5), (8, .int t0_75j), (0, .ref 54), (1, .int p1), (2, .int p2), (4, .int p4), (6, .int v6_43), (7, .int v7_43)]) dX12_sheet_120 rfl rfl rfl ?_
                refine zJ_iload dX12_sheet_122 rfl rfl ?_
                refine zJ_iload dX12_sheet_124 rfl rfl ?_
                refine zJ_iadd dX12_sheet_126 rfl ?_
                obtain ⟨v6n6, ev6n6, h⟩ := lt1_some h
                refine zJ_nmi ev6n6 ?_
                refine zJ_istore (ls' := [(6, .int v6n6), (5, .int v5n5), (8, .int t0_75j), (0, .ref 54), (1, .int p1), (2, .int p2), (4, .int p4), (7, .int v7_43)]) dX12_sheet_127 rfl rfl rfl ?_
                obtain ⟨v7n7, ev7n7, h⟩ := lt1_some h
                refine zJ_iincN (ls' := [(7, .int v7n7), (6, .int v6n6), (5, .int v5n5), (8, .int t0_75j), (0, .ref 54), (1, .int p1), (2, .int p2), (4, .int p4)]) dX12_sheet_129 rfl rfl zc_1 ev7n7 rfl rfl ?_
                refine zJ_goto (tgt := 43) dX12_sheet_132 (by decide) ?_
                refine zJ_loc (ls' := [(0, .ref 54), (1, .int p1), (2, .int p2), (4, .int p4), (5, .int v5n5), (6, .int v6n6), (7, .int v7n7)]) (zll_c rfl (zll_c rfl (zll_c rfl (zll_c rfl (zll_c rfl (zll_c rfl (zll_c rfl zll_n))))))) ?_
                exact hrc43 _ _ _ _ h
              · replace h := it_f hc h
                refine zJ_loc (ls' := [(0, .ref 54), (1, .int p1), (2, .int p2), (4, .int p4), (5, .int v5_43), (6, .int v6_43), (7, .int v7_43)]) (zll_c rfl (zll_c rfl (zll_c rfl (zll_c rfl (zll_c rfl (zll_c rfl (zll_c rfl zll_n))))))) ?_
                exact hj_X12_sheet_94 _ _ _ _ h
          refine zJ_if_ne (tgt := 62) dX12_sheet_53 (by decide) rfl (fun hc => ?_) (fun hc => ?_)
          · replace h := it_f hc h
            refine zJ_iload_n dX12_sheet_62 rfl rfl ?_
            refine zJ_iconst dX12_sheet_63 zc_1 rfl ?_
            refine zJ_icmp_ne (tgt := 73) dX12_sheet_64 (by decide) rfl (fun hc => ?_) (fun hc => ?_)
            · replace h := it_f hc h
              refine zJ_iload dX12_sheet_73 rfl rfl ?_
              refine zJ_loc (ls' := [(0, .ref 54), (1, .int p1), (2, .int p2), (4, .int p4), (5, .int v5_43), (6, .int v6_43), (7, .int v7_43)]) (zll_c rfl (zll_c rfl (zll_c rfl (zll_c rfl (zll_c rfl (zll_c rfl (zll_c rfl zll_n))))))) ?_
              exact hj_X12_sheet_75 _ h
            · replace h := it_t hc h
              refine zJ_iload dX12_sheet_67 rfl rfl ?_
              refine zJ_i2s dX12_sheet_69 rfl ?_
              refine zJ_goto (tgt := 75) dX12_sheet_70 (by decide) ?_
              refine zJ_loc (ls' := [(0, .ref 54), (1, .int p1), (2, .int p2), (4, .int p4), (5, .int v5_43), (6, .int v6_43), (7, .int v7_43)]) (zll_c rfl (zll_c rfl (zll_c rfl (zll_c rfl (zll_c rfl (zll_c rfl (zll_c rfl zll_n))))))) ?_
              exact hj_X12_sheet_75 _ h
          · replace h := it_t hc h
            refine zJ_iload dX12_sheet_56 rfl rfl ?_
            refine zJ_i2b dX12_sheet_58 rfl ?_
            refine zJ_goto (tgt := 75) dX12_sheet_59 (by decide) ?_
            refine zJ_loc (ls' := [(0, .ref 54), (1, .int p1), (2, .int p2), (4, .int p4), (5, .int v5_43), (6, .int v6_43), (7, .int v7_43)]) (zll_c rfl (zll_c rfl (zll_c rfl (zll_c rfl (zll_c rfl (zll_c rfl (zll_c rfl zll_n))))))) ?_
            exact hj_X12_sheet_75 _ h
      refine zJ_icmp_ge (tgt := 34) dX12_sheet_24 (by decide) rfl (fun hc => ?_) (fun hc => ?_)
      · replace h := it_t hc h
        refine zJ_loc (ls' := [(0, .ref 54), (1, .int p1), (2, .int p2), (3, .int p3), (4, .int p4)]) (zll_c rfl (zll_c rfl (zll_c rfl (zll_c rfl (zll_c rfl zll_n))))) ?_
        exact hj_X12_sheet_34 _ h
      · replace h := it_f hc h
        refine zJ_iload_n dX12_sheet_27 rfl rfl ?_
        refine zJ_if_ge (tgt := 34) dX12_sheet_28 (by decide) rfl (fun hc => ?_) (fun hc => ?_)
        · replace h := it_t hc h
          refine zJ_loc (ls' := [(0, .ref 54), (1, .int p1), (2, .int p2), (3, .int p3), (4, .int p4)]) (zll_c rfl (zll_c rfl (zll_c rfl (zll_c rfl (zll_c rfl zll_n))))) ?_
          exact hj_X12_sheet_34 _ h
        · replace h := it_f hc h
          refine zJ_bipush dX12_sheet_31 zb_m2 rfl ?_
          obtain ⟨rfl, rfl, rfl⟩ := so3 h
          exact zJ_iret dX12_sheet_33 rfl rfl
    · replace h := it_f hc h
      refine zJ_iconst dX12_sheet_20 zc_m1 rfl ?_
      obtain ⟨rfl, rfl, rfl⟩ := so3 h
      exact zJ_iret dX12_sheet_21 rfl rfl
