set_option maxRecDepth 100000 in
set_option maxHeartbeats 4000000 in
theorem t_X12_buy (l : Launch) (σ : zS) {m_fences : Int32} {m_allowed : Int32} {m_horses : Int32} {m_plans : Int32} {m_rowMany : Int32} {m_thrown : Int32} {m_read : Int32} {m_length : Int32} {m_top : Int32} {m_at : Int32} {m_wrong : Int32} {m_ruleSize : Int32} {m_isAsked : Int32} {m_askedHorse : Int32} {m_askedFence : Int32} {m_askedLetter : Int32} {m_askedHeight : Int32} {m_now : (Nat → Int32)} {m_kind : (Nat → Int32)} {m_height : (Nat → Int32)} {m_feet : (Nat → Int32)} {m_stride : (Nat → Int32)} {m_scope : (Nat → Int32)} {m_care : (Nat → Int32)} {m_plan : (Nat → Int32)} {m_money : (Nat → Int32)} {m_rule : (Nat → Int32)} {m_row : (Nat → Int64)} {r : Int32} {w_m_rowMany : Int32} {w_m_thrown : Int32} {w_m_read : Int32} {w_m_length : Int32} {w_m_top : Int32} {w_m_at : Int32} {w_m_wrong : Int32} {w_m_isAsked : Int32} {w_m_askedHorse : Int32} {w_m_askedFence : Int32} {w_m_askedLetter : Int32} {w_m_askedHeight : Int32} {w_m_row : (Nat → Int64)} (h : f_X12_buy m_fences m_allowed m_horses m_plans m_rowMany m_thrown m_read m_length m_top m_at m_wrong m_ruleSize m_isAsked m_askedHorse m_askedFence m_askedLetter m_askedHeight m_now m_kind m_height m_feet m_stride m_scope m_care m_plan m_money m_rule m_row = some (r, w_m_rowMany, w_m_thrown, w_m_read, w_m_length, w_m_top, w_m_at, w_m_wrong, w_m_isAsked, w_m_askedHorse, w_m_askedFence, w_m_askedLetter, w_m_askedHeight, w_m_row)) : zMt l zW 210 mX12_buy σ ([(3457, m_fences), (3461, m_allowed), (3462, m_horses), (3466, m_plans), (3472, m_rowMany), (3473, m_thrown), (3474, m_read), (3475, m_length), (3476, m_top), (3477, m_at), (3478, m_wrong), (3483, m_ruleSize), (3484, m_isAsked), (3485, m_askedHorse), (3486, m_askedFence), (3487, m_askedLetter), (3488, m_askedHeight)], [(55, m_now), (56, m_kind), (57, m_height), (58, m_feet), (59, m_stride), (60, m_scope), (61, m_care), (62, m_plan), (63, m_money), (69, m_rule)], [(65, m_row)]) [.ref 54] (some (.int r)) ([(3457, m_fences), (3461, m_allowed), (3462, m_horses), (3466, m_plans), (3472, w_m_rowMany), (3473, w_m_thrown), (3474, w_m_read), (3475, w_m_length), (3476, w_m_top), (3477, w_m_at), (3478, w_m_wrong), (3483, m_ruleSize), (3484, w_m_isAsked), (3485, w_m_askedHorse), (3486, w_m_askedFence), (3487, w_m_askedLetter), (3488, w_m_askedHeight)], [(55, m_now), (56, m_kind), (57, m_height), (58, m_feet), (59, m_stride), (60, m_scope), (61, m_care), (62, m_plan), (63, m_money), (69, m_rule)], [(65, w_m_row)]) := by
  refine zMt_of (ls := [(0, .ref 54)]) (by decide) rfl (fun _ => Nat.le_of_ble_eq_true rfl) rfl ?_
  unfold f_X12_buy at h
  refine zJ_aload_n dX12_buy_0 rfl rfl ?_
  refine zJ_iconst dX12_buy_1 zc_0 rfl ?_
  refine zK_puti (mi := mX12_buy) (la' := [(3457, m_fences), (3461, m_allowed), (3462, m_horses), (3466, m_plans), (3472, m_rowMany), (3473, (0 : Int32)), (3474, m_read), (3475, m_length), (3476, m_top), (3477, m_at), (3478, m_wrong), (3483, m_ruleSize), (3484, m_isAsked), (3485, m_askedHorse), (3486, m_askedFence), (3487, m_askedLetter), (3488, m_askedHeight)]) zW_ok dX12_buy_2 F_X12_113 P_12_17 zW_54 rfl rfl rfl ?_
  refine zJ_aload_n dX12_buy_5 rfl rfl ?_
  refine zJ_geti (mi := mX12_buy) (x := m_horses) dX12_buy_6 F_X12_126 zW_54 rfl rfl rfl ?_
  refine zJ_if_eq (tgt := 19) dX12_buy_9 (by decide) rfl (fun hc => ?_) (fun hc => ?_)
  · replace h := it_t hc h
    refine zJ_bipush dX12_buy_19 zb_m2 rfl ?_
    obtain ⟨rfl, rfl, rfl, rfl, rfl, rfl, rfl, rfl, rfl, rfl, rfl, rfl, rfl, rfl⟩ := so14 h
    exact zJ_iret dX12_buy_21 rfl rfl
  · replace h := it_f hc h
    refine zJ_aload_n dX12_buy_12 rfl rfl ?_
    refine zJ_geti (mi := mX12_buy) (x := m_plans) dX12_buy_13 F_X12_129 zW_54 rfl rfl rfl ?_
    refine zJ_if_ne (tgt := 22) dX12_buy_16 (by decide) rfl (fun hc => ?_) (fun hc => ?_)
    · replace h := it_f hc h
      refine zJ_iconst dX12_buy_22 zc_m1 rfl ?_
      refine zJ_istore_n (ls' := [(1, .int (-1 : Int32)), (0, .ref 54)]) dX12_buy_23 rfl rfl rfl ?_
      refine zJ_iconst dX12_buy_24 zc_m1 rfl ?_
      refine zJ_istore_n (ls' := [(2, .int (-1 : Int32)), (1, .int (-1 : Int32)), (0, .ref 54)]) dX12_buy_25 rfl rfl rfl ?_
      refine zJ_iconst dX12_buy_26 zc_m1 rfl ?_
      refine zJ_istore_n (ls' := [(3, .int (-1 : Int32)), (2, .int (-1 : Int32)), (1, .int (-1 : Int32)), (0, .ref 54)]) dX12_buy_27 rfl rfl rfl ?_
      refine zJ_iconst dX12_buy_28 zc_0 rfl ?_
      refine zJ_istore (ls' := [(4, .int (0 : Int32)), (3, .int (-1 : Int32)), (2, .int (-1 : Int32)), (1, .int (-1 : Int32)), (0, .ref 54)]) dX12_buy_29 rfl rfl rfl ?_
      have hk31 : ∀ (v1_31x : Int32) (v2_31x : Int32) (v3_31x : Int32) (m_read_31x : Int32) (m_length_31x : Int32) (m_top_31x : Int32) (m_at_31x : Int32) (m_wrong_31x : Int32) (m_isAsked_31x : Int32) (m_askedHorse_31x : Int32) (m_askedFence_31x : Int32) (m_askedLetter_31x : Int32) (m_askedHeight_31x : Int32), k_X12_buy_31 m_fences m_allowed m_plans m_ruleSize m_now m_kind m_height m_feet m_stride m_scope m_care m_plan m_money m_rule m_row v1_31x v2_31x v3_31x m_read_31x m_length_31x m_top_31x m_at_31x m_wrong_31x m_isAsked_31x m_askedHorse_31x m_askedFence_31x m_askedLetter_31x m_askedHeight_31x = some (r, w_m_rowMany, w_m_thrown, w_m_read, w_m_length, w_m_top, w_m_at, w_m_wrong, w_m_isAsked, w_m_askedHorse, w_m_askedFence, w_m_askedLetter, w_m_askedHeight, w_m_row) → zJ l zW 210 mX12_buy σ ([(3457, m_fences), (3461, m_allowed), (3462, m_horses), (3466, m_plans), (3472, m_rowMany), (3473, (0 : Int32)), (3474, m_read_31x), (3475, m_length_31x), (3476, m_top_31x), (3477, m_at_31x), (3478, m_wrong_31x), (3483, m_ruleSize), (3484, m_isAsked_31x), (3485, m_askedHorse_31x), (3486, m_askedFence_31x), (3487, m_askedLetter_31x), (3488, m_askedHeight_31x)], [(55, m_now), (56, m_kind), (57, m_height), (58, m_feet), (59, m_stride), (60, m_scope), (61, m_care), (62, m_plan), (63, m_money), (69, m_rule)], [(65, m_row)]) 84 [(0, .ref 54), (1, .int v1_31x), (2, .int v2_31x), (3, .int v3_31x)] [] (some (.int r)) ([(3457, m_fences), (3461, m_allowed), (3462, m_horses), (3466, m_plans), (3472, w_m_rowMany), (3473, w_m_thrown), (3474, w_m_read), (3475, w_m_length), (3476, w_m_top), (3477, w_m_at), (3478, w_m_wrong), (3483, m_ruleSize), (3484, w_m_isAsked), (3485, w_m_askedHorse), (3486, w_m_askedFence), (3487, w_m_askedLetter), (3488, w_m_askedHeight)], [(55, m_now), (56, m_kind), (57, m_height), (58, m_feet), (59, m_stride), (60, m_scope), (61, m_care), (62, m_plan), (63, m_money), (69, m_rule)], [(65, w_m_row)]) := by
        intro v1_31x v2_31x v3_31x m_read_31x m_length_31x m_top_31x m_at_31x m_wrong_31x m_isAsked_31x m_askedHorse_31x m_askedFence_31x m_askedLetter_31x m_askedHeight_31x h
        unfold k_X12_buy_31 at h
        refine zJ_aload_n dX12_buy_84 rfl rfl ?_
        refine zJ_iconst dX12_buy_85 zc_0 rfl ?_
        refine zK_puti (mi := mX12_buy) (la' := [(3457, m_fences), (3461, m_allowed), (3462, m_horses), (3466, m_plans), (3472, (0 : Int32)), (3473, (0 : Int32)), (3474, m_read_31x), (3475, m_length_31x), (3476, m_top_31x), (3477, m_at_31x), (3478, m_wrong_31x), (3483, m_ruleSize), (3484, m_isAsked_31x), (3485, m_askedHorse_31x), (3486, m_askedFence_31x), (3487, m_askedLetter_31x), (3488, m_askedHeight_31x)]) zW_ok dX12_buy_86 F_X12_116 P_12_16 zW_54 rfl rfl rfl ?_
        refine zJ_aload_n dX12_buy_89 rfl rfl ?_
        refine zJ_iload_n dX12_buy_90 rfl rfl ?_
        refine zJ_i2l dX12_buy_91 rfl ?_
        obtain ⟨m_rowManyn1, m_rown2, hcl, h⟩ := bd2_some h
        refine zJ_callV2 (σ := σ) (L := ([(3457, m_fences), (3461, m_allowed), (3462, m_horses), (3466, m_plans), (3472, (0 : Int32)), (3473, (0 : Int32)), (3474, m_read_31x), (3475, m_length_31x), (3476, m_top_31x), (3477, m_at_31x), (3478, m_wrong_31x), (3483, m_ruleSize), (3484, m_isAsked_31x), (3485, m_askedHorse_31x), (3486, m_askedFence_31x), (3487, m_askedLetter_31x), (3488, m_askedHeight_31x)], [(55, m_now), (56, m_kind), (57, m_height), (58, m_feet), (59, m_stride), (60, m_scope), (61, m_care), (62, m_plan), (63, m_money), (69, m_rule)], [(65, m_row)])) (mi := mX12_buy) (yi := mX12_tell) (as := [.long v2_31x.toInt64]) (st := []) (L2 := ([(3457, m_fences), (3461, m_allowed), (3462, m_horses), (3466, m_plans), (3472, m_rowManyn1), (3473, (0 : Int32)), (3474, m_read_31x), (3475, m_length_31x), (3476, m_top_31x), (3477, m_at_31x), (3478, m_wrong_31x), (3483, m_ruleSize), (3484, m_isAsked_31x), (3485, m_askedHorse_31x), (3486, m_askedFence_31x), (3487, m_askedLetter_31x), (3488, m_askedHeight_31x)], [(55, m_now), (56, m_kind), (57, m_height), (58, m_feet), (59, m_stride), (60, m_scope), (61, m_care), (62, m_plan), (63, m_money), (69, m_rule)], [(65, m_rown2)])) dX12_buy_92 ML_X12_265 Yv_X12_tell rfl zW_54 rfl rfl (t_X12_tell l _ hcl) (zsub_i (zle_c rfl zle_n) zle_n (zle_c rfl zle_n)) (zjok_i rfl rfl (zle_c rfl (zle_c rfl (zle_c rfl (zle_c rfl (zle_c rfl (zle_c rfl (zle_c rfl (zle_c rfl (zle_c rfl (zle_c rfl (zle_c rfl (zle_c rfl (zle_c rfl (zle_c rfl (zle_c rfl (zle_c rfl (zle_c rfl zle_n))))))))))))))))) rfl rfl (zle_c rfl (zle_c rfl (zle_c rfl (zle_c rfl (zle_c rfl (zle_c rfl (zle_c rfl (zle_c rfl (zle_c rfl (zle_c rfl zle_n)))))))))) rfl rfl (zle_c rfl zle_n)) (Nat.le_of_ble_eq_true rfl) (Nat.le_of_ble_eq_true rfl) rfl rfl ?_
        refine zJ_aload_n dX12_buy_95 rfl rfl ?_
        refine zJ_aload_n dX12_buy_96 rfl rfl ?_
        refine zJ_iload_n dX12_buy_97 rfl rfl ?_
        obtain ⟨rn3, m_readn4, m_lengthn5, m_topn6, m_atn7, m_wrongn8, m_isAskedn9, m_askedHorsen10, m_askedFencen11, m_askedLettern12, m_askedHeightn13, hcl, h⟩ := bd11_some h
        refine zJ_callV2 (σ := σ) (L := ([(3457, m_fences), (3461, m_allowed), (3462, m_horses), (3466, m_plans), (3472, m_rowManyn1), (3473, (0 : Int32)), (3474, m_read_31x), (3475, m_length_31x), (3476, m_top_31x), (3477, m_at_31x), (3478, m_wrong_31x), (3483, m_ruleSize), (3484, m_isAsked_31x), (3485, m_askedHorse_31x), (3486, m_askedFence_31x), (3487, m_askedLetter_31x), (3488, m_askedHeight_31x)], [(55, m_now), (56, m_kind), (57, m_height), (58, m_feet), (59, m_stride), (60, m_scope), (61, m_care), (62, m_plan), (63, m_money), (69, m_rule)], [(65, m_rown2)])) (mi := mX12_buy) (yi := mX12_bestPlan) (as := [.int v1_31x]) (st := [.ref 54]) (L2 := ([(3457, m_fences), (3461, m_allowed), (3462, m_horses), (3466, m_plans), (3472, m_rowManyn1), (3473, (0 : Int32)), (3474, m_readn4), (3475, m_lengthn5), (3476, m_topn6), (3477, m_atn7), (3478, m_wrongn8), (3483, m_ruleSize), (3484, m_isAskedn9), (3485, m_askedHorsen10), (3486, m_askedFencen11), (3487, m_askedLettern12), (3488, m_askedHeightn13)], [(55, m_now), (56, m_kind), (57, m_height), (58, m_feet), (59, m_stride), (60, m_scope), (61, m_care), (62, m_plan), (63, m_money), (69, m_rule)], [(65, m_rown2)])) dX12_buy_98 ML_X12_379 Yv_X12_bestPlan rfl zW_54 rfl rfl (t_X12_bestPlan l _ hcl) (zsub_i (zle_c rfl (zle_c rfl (zle_c rfl (zle_c rfl (zle_c rfl (zle_c rfl (zle_c rfl (zle_c rfl (zle_c rfl (zle_c rfl (zle_c rfl (zle_c rfl (zle_c rfl (zle_c rfl zle_n)))))))))))))) (zle_c rfl (zle_c rfl (zle_c rfl (zle_c rfl (zle_c rfl (zle_c rfl (zle_c rfl (zle_c rfl (zle_c rfl (zle_c rfl zle_n)))))))))) zle_n) (zjok_i rfl rfl (zle_c rfl (zle_c rfl (zle_c rfl (zle_c rfl (zle_c rfl (zle_c rfl (zle_c rfl (zle_c rfl (zle_c rfl (zle_c rfl (zle_c rfl (zle_c rfl (zle_c rfl (zle_c rfl (zle_c rfl (zle_c rfl (zle_c rfl zle_n))))))))))))))))) rfl rfl (zle_c rfl (zle_c rfl (zle_c rfl (zle_c rfl (zle_c rfl (zle_c rfl (zle_c rfl (zle_c rfl (zle_c rfl (zle_c rfl zle_n)))))))))) rfl rfl (zle_c rfl zle_n)) (Nat.le_of_ble_eq_true rfl) (Nat.le_of_ble_eq_true rfl) rfl rfl ?_
        refine zJ_i2l dX12_buy_101 rfl ?_
        obtain ⟨m_rowManyn14, m_rown15, hcl, h⟩ := bd2_some h
        refine zJ_callV2 (σ := σ) (L := ([(3457, m_fences), (3461, m_allowed), (3462, m_horses), (3466, m_plans), (3472, m_rowManyn1), (3473, (0 : Int32)), (3474, m_readn4), (3475, m_lengthn5), (3476, m_topn6), (3477, m_atn7), (3478, m_wrongn8), (3483, m_ruleSize), (3484, m_isAskedn9), (3485, m_askedHorsen10), (3486, m_askedFencen11), (3487, m_askedLettern12), (3488, m_askedHeightn13)], [(55, m_now), (56, m_kind), (57, m_height), (58, m_feet), (59, m_stride), (60, m_scope), (61, m_care), (62, m_plan), (63, m_money), (69, m_rule)], [(65, m_rown2)])) (mi := mX12_buy) (yi := mX12_tell) (as := [.long rn3.toInt64]) (st := []) (L2 := ([(3457, m_fences), (3461, m_allowed), (3462, m_horses), (3466, m_plans), (3472, m_rowManyn14), (3473, (0 : Int32)), (3474, m_readn4), (3475, m_lengthn5), (3476, m_topn6), (3477, m_atn7), (3478, m_wrongn8), (3483, m_ruleSize), (3484, m_isAskedn9), (3485, m_askedHorsen10), (3486, m_askedFencen11), (3487, m_askedLettern12), (3488, m_askedHeightn13)], [(55, m_now), (56, m_kind), (57, m_height), (58, m_feet), (59, m_stride), (60, m_scope), (61, m_care), (62, m_plan), (63, m_money), (69, m_rule)], [(65, m_rown15)])) dX12_buy_102 ML_X12_265 Yv_X12_tell rfl zW_54 rfl rfl (t_X12_tell l _ hcl) (zsub_i (zle_c rfl zle_n) zle_n (zle_c rfl zle_n)) (zjok_i rfl rfl (zle_c rfl (zle_c rfl (zle_c rfl (zle_c rfl (zle_c rfl (zle_c rfl (zle_c rfl (zle_c rfl (zle_c rfl (zle_c rfl (zle_c rfl (zle_c rfl (zle_c rfl (zle_c rfl (zle_c rfl (zle_c rfl (zle_c rfl zle_n))))))))))))))))) rfl rfl (zle_c rfl (zle_c rfl (zle_c rfl (zle_c rfl (zle_c rfl (zle_c rfl (zle_c rfl (zle_c rfl (zle_c rfl (zle_c rfl zle_n)))))))))) rfl rfl (zle_c rfl zle_n)) (Nat.le_of_ble_eq_true rfl) (Nat.le_of_ble_eq_true rfl) rfl rfl ?_
        refine zJ_aload_n dX12_buy_105 rfl rfl ?_
        refine zJ_iload_n dX12_buy_106 rfl rfl ?_
        refine zJ_i2l dX12_buy_107 rfl ?_
        obtain ⟨m_rowManyn16, m_rown17, hcl, h⟩ := bd2_some h
        refine zJ_callV2 (σ := σ) (L := ([(3457, m_fences), (3461, m_allowed), (3462, m_horses), (3466, m_plans), (3472, m_rowManyn14), (3473, (0 : Int32)), (3474, m_readn4), (3475, m_lengthn5), (3476, m_topn6), (3477, m_atn7), (3478, m_wrongn8), (3483, m_ruleSize), (3484, m_isAskedn9), (3485, m_askedHorsen10), (3486, m_askedFencen11), (3487, m_askedLettern12), (3488, m_askedHeightn13)], [(55, m_now), (56, m_kind), (57, m_height), (58, m_feet), (59, m_stride), (60, m_scope), (61, m_care), (62, m_plan), (63, m_money), (69, m_rule)], [(65, m_rown15)])) (mi := mX12_buy) (yi := mX12_tell) (as := [.long v3_31x.toInt64]) (st := []) (L2 := ([(3457, m_fences), (3461, m_allowed), (3462, m_horses), (3466, m_plans), (3472, m_rowManyn16), (3473, (0 : Int32)), (3474, m_readn4), (3475, m_lengthn5), (3476, m_topn6), (3477, m_atn7), (3478, m_wrongn8), (3483, m_ruleSize), (3484, m_isAskedn9), (3485, m_askedHorsen10), (3486, m_askedFencen11), (3487, m_askedLettern12), (3488, m_askedHeightn13)], [(55, m_now), (56, m_kind), (57, m_height), (58, m_feet), (59, m_stride), (60, m_scope), (61, m_care), (62, m_plan), (63, m_money), (69, m_rule)], [(65, m_rown17)])) dX12_buy_108 ML_X12_265 Yv_X12_tell rfl zW_54 rfl rfl (t_X12_tell l _ hcl) (zsub_i (zle_c rfl zle_n) zle_n (zle_c rfl zle_n)) (zjok_i rfl rfl (zle_c rfl (zle_c rfl (zle_c rfl (zle_c rfl (zle_c rfl (zle_c rfl (zle_c rfl (zle_c rfl (zle_c rfl (zle_c rfl (zle_c rfl (zle_c rfl (zle_c rfl (zle_c rfl (zle_c rfl (zle_c rfl (zle_c rfl zle_n))))))))))))))))) rfl rfl (zle_c rfl (zle_c rfl (zle_c rfl (zle_c rfl (zle_c rfl (zle_c rfl (zle_c rfl (zle_c rfl (zle_c rfl (zle_c rfl zle_n)))))))))) rfl rfl (zle_c rfl zle_n)) (Nat.le_of_ble_eq_true rfl) (Nat.le_of_ble_eq_true rfl) rfl rfl ?_
        refine zJ_iload_n dX12_buy_111 rfl rfl ?_
        obtain ⟨rfl, rfl, rfl, rfl, rfl, rfl, rfl, rfl, rfl, rfl, rfl, rfl, rfl, rfl⟩ := so14 h
        exact zJ_iret dX12_buy_112 rfl rfl
      refine zJ_loc (ls' := [(0, .ref 54), (1, .int (-1 : Int32)), (2, .int (-1 : Int32)), (3, .int (-1 : Int32)), (4, .int (0 : Int32))]) (zll_c rfl (zll_c rfl (zll_c rfl (zll_c rfl (zll_c rfl zll_n))))) ?_
      refine ml14_J (fun (v1_31 : Int32) (v2_31 : Int32) (v3_31 : Int32) (v4_31 : Int32) (m_read_31 : Int32) (m_length_31 : Int32) (m_top_31 : Int32) (m_at_31 : Int32) (m_wrong_31 : Int32) (m_isAsked_31 : Int32) (m_askedHorse_31 : Int32) (m_askedFence_31 : Int32) (m_askedLetter_31 : Int32) (m_askedHeight_31 : Int32) => zJ l zW 210 mX12_buy σ ([(3457, m_fences), (3461, m_allowed), (3462, m_horses), (3466, m_plans), (3472, m_rowMany), (3473, (0 : Int32)), (3474, m_read_31), (3475, m_length_31), (3476, m_top_31), (3477, m_at_31), (3478, m_wrong_31), (3483, m_ruleSize), (3484, m_isAsked_31), (3485, m_askedHorse_31), (3486, m_askedFence_31), (3487, m_askedLetter_31), (3488, m_askedHeight_31)], [(55, m_now), (56, m_kind), (57, m_height), (58, m_feet), (59, m_stride), (60, m_scope), (61, m_care), (62, m_plan), (63, m_money), (69, m_rule)], [(65, m_row)]) 31 [(0, .ref 54), (1, .int v1_31), (2, .int v2_31), (3, .int v3_31), (4, .int v4_31)] [] (some (.int r)) ([(3457, m_fences), (3461, m_allowed), (3462, m_horses), (3466, m_plans), (3472, w_m_rowMany), (3473, w_m_thrown), (3474, w_m_read), (3475, w_m_length), (3476, w_m_top), (3477, w_m_at), (3478, w_m_wrong), (3483, m_ruleSize), (3484, w_m_isAsked), (3485, w_m_askedHorse), (3486, w_m_askedFence), (3487, w_m_askedLetter), (3488, w_m_askedHeight)], [(55, m_now), (56, m_kind), (57, m_height), (58, m_feet), (59, m_stride), (60, m_scope), (61, m_care), (62, m_plan), (63, m_money), (69, m_rule)], [(65, w_m_row)])) (fun rc31 hrc31 v1_31 v2_31 v3_31 v4_31 m_read_31 m_length_31 m_top_31 m_at_31 m_wrong_31 m_isAsked_31 m_askedHorse_31 m_askedFence_31 m_askedLetter_31 m_askedHeight_31 h => ?_) zN _ _ _ _ _ _ _ _ _ _ _ _ _ _ h
      unfold s_X12_buy_31 at h
      refine zJ_iload dX12_buy_31 rfl rfl ?_
      refine zJ_aload_n dX12_buy_33 rfl rfl ?_
      refine zJ_geti (mi := mX12_buy) (x := m_horses) dX12_buy_34 F_X12_126 zW_54 rfl rfl rfl ?_
      refine zJ_icmp_ge (tgt := 84) dX12_buy_37 (by decide) rfl (fun hc => ?_) (fun hc => ?_)
      · replace h := it_t hc h
        refine zJ_loc (ls' := [(0, .ref 54), (1, .int v1_31), (2, .int v2_31), (3, .int v3_31)]) (zll_c rfl (zll_c rfl (zll_c rfl (zll_c rfl zll_n)))) ?_
        exact hk31 _ _ _ _ _ _ _ _ _ _ _ _ _ h
      · replace h := it_f hc h
        refine zJ_aload_n dX12_buy_40 rfl rfl ?_
        refine zJ_iload dX12_buy_41 rfl rfl ?_
        refine zJ_aload_n dX12_buy_43 rfl rfl ?_
        refine zJ_iload dX12_buy_44 rfl rfl ?_
        obtain ⟨rn18, m_readn19, m_lengthn20, m_topn21, m_atn22, m_wrongn23, m_isAskedn24, m_askedHorsen25, m_askedFencen26, m_askedLettern27, m_askedHeightn28, hcl, h⟩ := bd11_some h
        refine zJ_callV2 (σ := σ) (L := ([(3457, m_fences), (3461, m_allowed), (3462, m_horses), (3466, m_plans), (3472, m_rowMany), (3473, (0 : Int32)), (3474, m_read_31), (3475, m_length_31), (3476, m_top_31), (3477, m_at_31), (3478, m_wrong_31), (3483, m_ruleSize), (3484, m_isAsked_31), (3485, m_askedHorse_31), (3486, m_askedFence_31), (3487, m_askedLetter_31), (3488, m_askedHeight_31)], [(55, m_now), (56, m_kind), (57, m_height), (58, m_feet), (59, m_stride), (60, m_scope), (61, m_care), (62, m_plan), (63, m_money), (69, m_rule)], [(65, m_row)])) (mi := mX12_buy) (yi := mX12_bestPlan) (as := [.int v4_31]) (st := [.int v4_31, .ref 54]) (L2 := ([(3457, m_fences), (3461, m_allowed), (3462, m_horses), (3466, m_plans), (3472, m_rowMany), (3473, (0 : Int32)), (3474, m_readn19), (3475, m_lengthn20), (3476, m_topn21), (3477, m_atn22), (3478, m_wrongn23), (3483, m_ruleSize), (3484, m_isAskedn24), (3485, m_askedHorsen25), (3486, m_askedFencen26), (3487, m_askedLettern27), (3488, m_askedHeightn28)], [(55, m_now), (56, m_kind), (57, m_height), (58, m_feet), (59, m_stride), (60, m_scope), (61, m_care), (62, m_plan), (63, m_money), (69, m_rule)], [(65, m_row)])) dX12_buy_46 ML_X12_379 Yv_X12_bestPlan rfl zW_54 rfl rfl (t_X12_bestPlan l _ hcl) (zsub_i (zle_c rfl (zle_c rfl (zle_c rfl (zle_c rfl (zle_c rfl (zle_c rfl (zle_c rfl (zle_c rfl (zle_c rfl (zle_c rfl (zle_c rfl (zle_c rfl (zle_c rfl (zle_c rfl zle_n)))))))))))))) (zle_c rfl (zle_c rfl (zle_c rfl (zle_c rfl (zle_c rfl (zle_c rfl (zle_c rfl (zle_c rfl (zle_c rfl (zle_c rfl zle_n)))))))))) zle_n) (zjok_i rfl rfl (zle_c rfl (zle_c rfl (zle_c rfl (zle_c rfl (zle_c rfl (zle_c rfl (zle_c rfl (zle_c rfl (zle_c rfl (zle_c rfl (zle_c rfl (zle_c rfl (zle_c rfl (zle_c rfl (zle_c rfl (zle_c rfl (zle_c rfl zle_n))))))))))))))))) rfl rfl (zle_c rfl (zle_c rfl (zle_c rfl (zle_c rfl (zle_c rfl (zle_c rfl (zle_c rfl (zle_c rfl (zle_c rfl (zle_c rfl zle_n)))))))))) rfl rfl (zle_c rfl zle_n)) (Nat.le_of_ble_eq_true rfl) (Nat.le_of_ble_eq_true rfl) rfl rfl ?_
        obtain ⟨rn29, m_readn30, m_lengthn31, m_topn32, m_atn33, m_wrongn34, m_isAskedn35, m_askedHorsen36, m_askedFencen37, m_askedLettern38, m_askedHeightn39, hcl, h⟩ := bd11_some h
        refine zJ_callV2 (σ := σ) (L := ([(3457, m_fences), (3461, m_allowed), (3462, m_horses), (3466, m_plans), (3472, m_rowMany), (3473, (0 : Int32)), (3474, m_readn19), (3475, m_lengthn20), (3476, m_topn21), (3477, m_atn22), (3478, m_wrongn23), (3483, m_ruleSize), (3484, m_isAskedn24), (3485, m_askedHorsen25), (3486, m_askedFencen26), (3487, m_askedLettern27), (3488, m_askedHeightn28)], [(55, m_now), (56, m_kind), (57, m_height), (58, m_feet), (59, m_stride), (60, m_scope), (61, m_care), (62, m_plan), (63, m_money), (69, m_rule)], [(65, m_row)])) (mi := mX12_buy) (yi := mX12_meanOf) (as := [.int v4_31, .int rn18]) (st := []) (L2 := ([(3457, m_fences), (3461, m_allowed), (3462, m_horses), (3466, m_plans), (3472, m_rowMany), (3473, (0 : Int32)), (3474, m_readn30), (3475, m_lengthn31), (3476, m_topn32), (3477, m_atn33), (3478, m_wrongn34), (3483, m_ruleSize), (3484, m_isAskedn35), (3485, m_askedHorsen36), (3486, m_askedFencen37), (3487, m_askedLettern38), (3488, m_askedHeightn39)], [(55, m_now), (56, m_kind), (57, m_height), (58, m_feet), (59, m_stride), (60, m_scope), (61, m_care), (62, m_plan), (63, m_money), (69, m_rule)], [(65, m_row)])) dX12_buy_49 ML_X12_376 Yv_X12_meanOf rfl zW_54 rfl rfl (t_X12_meanOf l _ hcl) (zsub_i (zle_c rfl (zle_c rfl (zle_c rfl (zle_c rfl (zle_c rfl (zle_c rfl (zle_c rfl (zle_c rfl (zle_c rfl (zle_c rfl (zle_c rfl (zle_c rfl (zle_c rfl zle_n))))))))))))) (zle_c rfl (zle_c rfl (zle_c rfl (zle_c rfl (zle_c rfl (zle_c rfl (zle_c rfl (zle_c rfl (zle_c rfl (zle_c rfl zle_n)))))))))) zle_n) (zjok_i rfl rfl (zle_c rfl (zle_c rfl (zle_c rfl (zle_c rfl (zle_c rfl (zle_c rfl (zle_c rfl (zle_c rfl (zle_c rfl (zle_c rfl (zle_c rfl (zle_c rfl (zle_c rfl (zle_c rfl (zle_c rfl (zle_c rfl (zle_c rfl zle_n))))))))))))))))) rfl rfl (zle_c rfl (zle_c rfl (zle_c rfl (zle_c rfl (zle_c rfl (zle_c rfl (zle_c rfl (zle_c rfl (zle_c rfl (zle_c rfl zle_n)))))))))) rfl rfl (zle_c rfl zle_n)) (Nat.le_of_ble_eq_true rfl) (Nat.le_of_ble_eq_true rfl) rfl rfl ?_
        refine zJ_istore (ls' := [(5, .int rn29), (0, .ref 54), (1, .int v1_31), (2, .int v2_31), (3, .int v3_31), (4, .int v4_31)]) dX12_buy_52 rfl rfl rfl ?_
        refine zJ_iload dX12_buy_54 rfl rfl ?_
        refine zJ_iload_n dX12_buy_56 rfl rfl ?_
        refine zJ_icmp_le (tgt := 71) dX12_buy_57 (by decide) rfl (fun hc => ?_) (fun hc => ?_)
        · replace h := it_t hc h
          refine zJ_iload_n dX12_buy_71 rfl rfl ?_
          refine zJ_iload dX12_buy_72 rfl rfl ?_
          refine zJ_mmax (mi := mX12_buy) dX12_buy_74 L_X12_243 K_max_s K_math K_max_c (Nat.le_of_ble_eq_true rfl) (Nat.le_of_ble_eq_true rfl) rfl ?_
          obtain ⟨v3n40, ev3n40, h⟩ := lt1_some h
          refine zJ_nmi ev3n40 ?_
          refine zJ_istore_n (ls' := [(3, .int v3n40), (5, .int rn29), (0, .ref 54), (1, .int v1_31), (2, .int v2_31), (4, .int v4_31)]) dX12_buy_77 rfl rfl rfl ?_
          obtain ⟨v4n41, ev4n41, h⟩ := lt1_some h
          refine zJ_iincN (ls' := [(4, .int v4n41), (3, .int v3n40), (5, .int rn29), (0, .ref 54), (1, .int v1_31), (2, .int v2_31)]) dX12_buy_78 rfl rfl zc_1 ev4n41 rfl rfl ?_
          refine zJ_goto (tgt := 31) dX12_buy_81 (by decide) ?_
          refine zJ_loc (ls' := [(0, .ref 54), (1, .int v1_31), (2, .int v2_31), (3, .int v3n40), (4, .int v4n41)]) (zll_c rfl (zll_c rfl (zll_c rfl (zll_c rfl (zll_c rfl zll_n))))) ?_
          exact hrc31 _ _ _ _ _ _ _ _ _ _ _ _ _ _ h
        · replace h := it_f hc h
          refine zJ_iload_n dX12_buy_60 rfl rfl ?_
          refine zJ_istore_n (ls' := [(3, .int v2_31), (5, .int rn29), (0, .ref 54), (1, .int v1_31), (2, .int v2_31), (4, .int v4_31)]) dX12_buy_61 rfl rfl rfl ?_
          refine zJ_iload dX12_buy_62 rfl rfl ?_
          refine zJ_istore_n (ls' := [(2, .int rn29), (3, .int v2_31), (5, .int rn29), (0, .ref 54), (1, .int v1_31), (4, .int v4_31)]) dX12_buy_64 rfl rfl rfl ?_
          refine zJ_iload dX12_buy_65 rfl rfl ?_
          refine zJ_istore_n (ls' := [(1, .int v4_31), (2, .int rn29), (3, .int v2_31), (5, .int rn29), (0, .ref 54), (4, .int v4_31)]) dX12_buy_67 rfl rfl rfl ?_
          refine zJ_goto (tgt := 78) dX12_buy_68 (by decide) ?_
          obtain ⟨v4n42, ev4n42, h⟩ := lt1_some h
          refine zJ_iincN (ls' := [(4, .int v4n42), (1, .int v4_31), (2, .int rn29), (3, .int v2_31), (5, .int rn29), (0, .ref 54)]) dX12_buy_78 rfl rfl zc_1 ev4n42 rfl rfl ?_
          refine zJ_goto (tgt := 31) dX12_buy_81 (by decide) ?_
          refine zJ_loc (ls' := [(0, .ref 54), (1, .int v4_31), (2, .int rn29), (3, .int v2_31), (4, .int v4n42)]) (zll_c rfl (zll_c rfl (zll_c rfl (zll_c rfl (zll_c rfl zll_n))))) ?_
          exact hrc31 _ _ _ _ _ _ _ _ _ _ _ _ _ _ h
    · replace h := it_t hc h
      refine zJ_bipush dX12_buy_19 zb_m2 rfl ?_
      obtain ⟨rfl, rfl, rfl, rfl, rfl, rfl, rfl, rfl, rfl, rfl, rfl, rfl, rfl, rfl⟩ := so14 h
      exact zJ_iret dX12_buy_21 rfl rfl
set_option maxRecDepth 100000 in
set_option maxHeartbeats 4000000 in
theorem t_X12_isFence (l : Launch) (σ : zS) {p1 : Int32} {m_fences : Int32} {r : Int32} (h : f_X12_isFence p1 m_fences = some r) : zMt l zW 1 mX12_isFence σ ([(3457, m_fences)], [], []) [.ref 54, .int p1] (some (.int r)) ([(3457, m_fences)], [], []) := by
  refine zMt_of (ls := [(0, .ref 54), (1, .int p1)]) (by decide) rfl (fun _ => Nat.le_of_ble_eq_true rfl) rfl ?_
  unfold f_X12_isFence at h
  refine zJ_iload_n dX12_isFence_0 rfl rfl ?_
  refine zJ_iconst dX12_isFence_1 zc_0 rfl ?_
  refine zJ_aload_n dX12_isFence_2 rfl rfl ?_
  refine zJ_geti (mi := mX12_isFence) (x := m_fences) dX12_isFence_3 F_X12_119 zW_54 rfl rfl rfl ?_
  refine zJ_iconst dX12_isFence_6 zc_1 rfl ?_
  refine zJ_isub dX12_isFence_7 rfl ?_
  obtain ⟨rn1, hcl, h⟩ := bd1_some h
  refine zJ_callS2 (σ := σ) (L := ([(3457, m_fences)], [], [])) (mi := mX12_isFence) (yi := mX12_in) (as := [.int p1, .int (0 : Int32), .int (m_fences - (1 : Int32))]) (st := []) (L2 := ([(3457, m_fences)], [], [])) dX12_isFence_8 ML_X12_122 Ys_X12_in rfl (t_X12_in l _ hcl) (zsub_i zle_n zle_n zle_n) (zjok_i rfl rfl (zle_c rfl zle_n) rfl rfl zle_n rfl rfl zle_n) (Nat.le_of_ble_eq_true rfl) (Nat.le_of_ble_eq_true rfl) rfl rfl ?_
  obtain ⟨hg, h⟩ := gd_some h
  obtain rfl := so1 h
  exact zJ_iret dX12_isFence_11 rfl (bit_n hg)
set_option maxRecDepth 100000 in
set_option maxHeartbeats 4000000 in
theorem t_X12_calm (l : Launch) (σ : zS) {p1 : Int32} {p2 : Int32} {m_fences : Int32} {m_horses : Int32} {m_rowMany : Int32} {m_thrown : Int32} {m_read : Int32} {m_length : Int32} {m_top : Int32} {m_at : Int32} {m_wrong : Int32} {m_ruleSize : Int32} {m_isAsked : Int32} {m_askedHorse : Int32} {m_askedFence : Int32} {m_askedLetter : Int32} {m_askedHeight : Int32} {m_kind : (Nat → Int32)} {m_height : (Nat → Int32)} {m_feet : (Nat → Int32)} {m_stride : (Nat → Int32)} {m_scope : (Nat → Int32)} {m_care : (Nat → Int32)} {m_rule : (Nat → Int32)} {m_row : (Nat → Int64)} {r : Int32} {w_m_rowMany : Int32} {w_m_thrown : Int32} {w_m_read : Int32} {w_m_length : Int32} {w_m_top : Int32} {w_m_at : Int32} {w_m_wrong : Int32} {w_m_isAsked : Int32} {w_m_askedHorse : Int32} {w_m_askedFence : Int32} {w_m_askedLetter : Int32} {w_m_askedHeight : Int32} {w_m_row : (Nat → Int64)} (h : f_X12_calm p1 p2 m_fences m_horses m_rowMany m_thrown m_read m_length m_top m_at m_wrong m_ruleSize m_isAsked m_askedHorse m_askedFence m_askedLetter m_askedHeight m_kind m_height m_feet m_stride m_scope m_care m_rule m_row = some (r, w_m_rowMany, w_m_thrown, w_m_read, w_m_length, w_m_top, w_m_at, w_m_wrong, w_m_isAsked, w_m_askedHorse, w_m_askedFence, w_m_askedLetter, w_m_askedHeight, w_m_row)) : zMt l zW 207 mX12_calm σ ([(3457, m_fences), (3462, m_horses), (3472, m_rowMany), (3473, m_thrown), (3474, m_read), (3475, m_length), (3476, m_top), (3477, m_at), (3478, m_wrong), (3483, m_ruleSize), (3484, m_isAsked), (3485, m_askedHorse), (3486, m_askedFence), (3487, m_askedLetter), (3488, m_askedHeight)], [(56, m_kind), (57, m_height), (58, m_feet), (59, m_stride), (60, m_scope), (61, m_care), (69, m_rule)], [(65, m_row)]) [.ref 54, .int p1, .int p2] (some (.int r)) ([(3457, m_fences), (3462, m_horses), (3472, w_m_rowMany), (3473, w_m_thrown), (3474, w_m_read), (3475, w_m_length), (3476, w_m_top), (3477, w_m_at), (3478, w_m_wrong), (3483, m_ruleSize), (3484, w_m_isAsked), (3485, w_m_askedHorse), (3486, w_m_askedFence), (3487, w_m_askedLetter), (3488, w_m_askedHeight)], [(56, m_kind), (57, m_height), (58, m_feet), (59, m_stride), (60, m_scope), (61, m_care), (69, m_rule)], [(65, w_m_row)]) := by
  refine zMt_of (ls := [(0, .ref 54), (1, .int p1), (2, .int p2)]) (by decide) rfl (fun _ => Nat.le_of_ble_eq_true rfl) rfl ?_
  unfold f_X12_calm at h
  refine zJ_aload_n dX12_calm_0 rfl rfl ?_
  refine zJ_iconst dX12_calm_1 zc_0 rfl ?_
  refine zK_puti (mi := mX12_calm) (la' := [(3457, m_fences), (3462, m_horses), (3472, m_rowMany), (3473, (0 : Int32)), (3474, m_read), (3475, m_length), (3476, m_top), (3477, m_at), (3478, m_wrong), (3483, m_ruleSize), (3484, m_isAsked), (3485, m_askedHorse), (3486, m_askedFence), (3487, m_askedLetter), (3488, m_askedHeight)]) zW_ok dX12_calm_2 F_X12_113 P_12_17 zW_54 rfl rfl rfl ?_
  refine zJ_aload_n dX12_calm_5 rfl rfl ?_
  refine zJ_iload_n dX12_calm_6 rfl rfl ?_
  obtain ⟨rn1, hcl, h⟩ := bd1_some h
  refine zJ_callV2 (σ := σ) (L := ([(3457, m_fences), (3462, m_horses), (3472, m_rowMany), (3473, (0 : Int32)), (3474, m_read), (3475, m_length), (3476, m_top), (3477, m_at), (3478, m_wrong), (3483, m_ruleSize), (3484, m_isAsked), (3485, m_askedHorse), (3486, m_askedFence), (3487, m_askedLetter), (3488, m_askedHeight)], [(56, m_kind), (57, m_height), (58, m_feet), (59, m_stride), (60, m_scope), (61, m_care), (69, m_rule)], [(65, m_row)])) (mi := mX12_calm) (yi := mX12_isHorse) (as := [.int p1]) (st := []) (L2 := ([(3457, m_fences), (3462, m_horses), (3472, m_rowMany), (3473, (0 : Int32)), (3474, m_read), (3475, m_length), (3476, m_top), (3477, m_at), (3478, m_wrong), (3483, m_ruleSize), (3484, m_isAsked), (3485, m_askedHorse), (3486, m_askedFence), (3487, m_askedLetter), (3488, m_askedHeight)], [(56, m_kind), (57, m_height), (58, m_feet), (59, m_stride), (60, m_scope), (61, m_care), (69, m_rule)], [(65, m_row)])) dX12_calm_7 ML_X12_132 Yv_X12_isHorse rfl zW_54 rfl rfl (t_X12_isHorse l _ hcl) (zsub_i (zle_c rfl zle_n) zle_n zle_n) (zjok_i rfl rfl (zle_c rfl (zle_c rfl (zle_c rfl (zle_c rfl (zle_c rfl (zle_c rfl (zle_c rfl (zle_c rfl (zle_c rfl (zle_c rfl (zle_c rfl (zle_c rfl (zle_c rfl (zle_c rfl (zle_c rfl zle_n))))))))))))))) rfl rfl (zle_c rfl (zle_c rfl (zle_c rfl (zle_c rfl (zle_c rfl (zle_c rfl (zle_c rfl zle_n))))))) rfl rfl (zle_c rfl zle_n)) (Nat.le_of_ble_eq_true rfl) (Nat.le_of_ble_eq_true rfl) rfl rfl ?_
  refine zJ_if_eq (tgt := 21) dX12_calm_10 (by decide) rfl (fun hc => ?_) (fun hc => ?_)
  · replace h := it_t hc h
    refine zJ_iconst dX12_calm_21 zc_m1 rfl ?_
    obtain ⟨rfl, rfl, rfl, rfl, rfl, rfl, rfl, rfl, rfl, rfl, rfl, rfl, rfl, rfl⟩ := so14 h
    exact zJ_iret dX12_calm_22 rfl rfl
  · replace h := it_f hc h
    refine zJ_aload_n dX12_calm_13 rfl rfl ?_
    refine zJ_iload_n dX12_calm_14 rfl rfl ?_
    obtain ⟨rn2, hcl, h⟩ := bd1_some h
    refine zJ_callV2 (σ := σ) (L := ([(3457, m_fences), (3462, m_horses), (3472, m_rowMany), (3473, (0 : Int32)), (3474, m_read), (3475, m_length), (3476, m_top), (3477, m_at), (3478, m_wrong), (3483, m_ruleSize), (3484, m_isAsked), (3485, m_askedHorse), (3486, m_askedFence), (3487, m_askedLetter), (3488, m_askedHeight)], [(56, m_kind), (57, m_height), (58, m_feet), (59, m_stride), (60, m_scope), (61, m_care), (69, m_rule)], [(65, m_row)])) (mi := mX12_calm) (yi := mX12_isFence) (as := [.int p2]) (st := []) (L2 := ([(3457, m_fences), (3462, m_horses), (3472, m_rowMany), (3473, (0 : Int32)), (3474, m_read), (3475, m_length), (3476, m_top), (3477, m_at), (3478, m_wrong), (3483, m_ruleSize), (3484, m_isAsked), (3485, m_askedHorse), (3486, m_askedFence), (3487, m_askedLetter), (3488, m_askedHeight)], [(56, m_kind), (57, m_height), (58, m_feet), (59, m_stride), (60, m_scope), (61, m_care), (69, m_rule)], [(65, m_row)])) dX12_calm_15 ML_X12_250 Yv_X12_isFence rfl zW_54 rfl rfl (t_X12_isFence l _ hcl) (zsub_i (zle_c rfl zle_n) zle_n zle_n) (zjok_i rfl rfl (zle_c rfl (zle_c rfl (zle_c rfl (zle_c rfl (zle_c rfl (zle_c rfl (zle_c rfl (zle_c rfl (zle_c rfl (zle_c rfl (zle_c rfl (zle_c rfl (zle_c rfl (zle_c rfl (zle_c rfl zle_n))))))))))))))) rfl rfl (zle_c rfl (zle_c rfl (zle_c rfl (zle_c rfl (zle_c rfl (zle_c rfl (zle_c rfl zle_n))))))) rfl rfl (zle_c rfl zle_n)) (Nat.le_of_ble_eq_true rfl) (Nat.le_of_ble_eq_true rfl) rfl rfl ?_
    refine zJ_if_ne (tgt := 23) dX12_calm_18 (by decide) rfl (fun hc => ?_) (fun hc => ?_)
    · replace h := it_f hc h
      refine zJ_iconst dX12_calm_23 zc_0 rfl ?_
      refine zJ_istore_n (ls' := [(3, .int (0 : Int32)), (0, .ref 54), (1, .int p1), (2, .int p2)]) dX12_calm_24 rfl rfl rfl ?_
      refine zJ_ldc_w (v := 100000000) dX12_calm_25 C_X12_272 rfl ?_
      refine zJ_istore (ls' := [(4, .int (100000000 : Int32)), (3, .int (0 : Int32)), (0, .ref 54), (1, .int p1), (2, .int p2)]) dX12_calm_28 rfl rfl rfl ?_
      refine zJ_iconst dX12_calm_30 zc_0 rfl ?_
      refine zJ_istore (ls' := [(5, .int (0 : Int32)), (4, .int (100000000 : Int32)), (3, .int (0 : Int32)), (0, .ref 54), (1, .int p1), (2, .int p2)]) dX12_calm_31 rfl rfl rfl ?_
      have hk33 : ∀ (v3_33x : Int32) (v4_33x : Int32) (m_read_33x : Int32) (m_length_33x : Int32) (m_top_33x : Int32) (m_at_33x : Int32) (m_wrong_33x : Int32) (m_isAsked_33x : Int32) (m_askedHorse_33x : Int32) (m_askedFence_33x : Int32) (m_askedLetter_33x : Int32) (m_askedHeight_33x : Int32), k_X12_calm_33 p1 p2 m_kind m_feet m_stride m_care m_row v3_33x v4_33x m_read_33x m_length_33x m_top_33x m_at_33x m_wrong_33x m_isAsked_33x m_askedHorse_33x m_askedFence_33x m_askedLetter_33x m_askedHeight_33x = some (r, w_m_rowMany, w_m_thrown, w_m_read, w_m_length, w_m_top, w_m_at, w_m_wrong, w_m_isAsked, w_m_askedHorse, w_m_askedFence, w_m_askedLetter, w_m_askedHeight, w_m_row) → zJ l zW 207 mX12_calm σ ([(3457, m_fences), (3462, m_horses), (3472, m_rowMany), (3473, (0 : Int32)), (3474, m_read_33x), (3475, m_length_33x), (3476, m_top_33x), (3477, m_at_33x), (3478, m_wrong_33x), (3483, m_ruleSize), (3484, m_isAsked_33x), (3485, m_askedHorse_33x), (3486, m_askedFence_33x), (3487, m_askedLetter_33x), (3488, m_askedHeight_33x)], [(56, m_kind), (57, m_height), (58, m_feet), (59, m_stride), (60, m_scope), (61, m_care), (69, m_rule)], [(65, m_row)]) 96 [(0, .ref 54), (1, .int p1), (2, .int p2), (3, .int v3_33x), (4, .int v4_33x)] [] (some (.int r)) ([(3457, m_fences), (3462, m_horses), (3472, w_m_rowMany), (3473, w_m_thrown), (3474, w_m_read), (3475, w_m_length), (3476, w_m_top), (3477, w_m_at), (3478, w_m_wrong), (3483, m_ruleSize), (3484, w_m_isAsked), (3485, w_m_askedHorse), (3486, w_m_askedFence), (3487, w_m_askedLetter), (3488, w_m_askedHeight)], [(56, m_kind), (57, m_height), (58, m_feet), (59, m_stride), (60, m_scope), (61, m_care), (69, m_rule)], [(65, w_m_row)]) := by
        intro v3_33x v4_33x m_read_33x m_length_33x m_top_33x m_at_33x m_wrong_33x m_isAsked_33x m_askedHorse_33x m_askedFence_33x m_askedLetter_33x m_askedHeight_33x h
        unfold k_X12_calm_33 at h
        refine zJ_aload_n dX12_calm_96 rfl rfl ?_
        refine zJ_iconst dX12_calm_97 zc_0 rfl ?_
        refine zK_puti (mi := mX12_calm) (la' := [(3457, m_fences), (3462, m_horses), (3472, (0 : Int32)), (3473, (0 : Int32)), (3474, m_read_33x), (3475, m_length_33x), (3476, m_top_33x), (3477, m_at_33x), (3478, m_wrong_33x), (3483, m_ruleSize), (3484, m_isAsked_33x), (3485, m_askedHorse_33x), (3486, m_askedFence_33x), (3487, m_askedLetter_33x), (3488, m_askedHeight_33x)]) zW_ok dX12_calm_98 F_X12_116 P_12_16 zW_54 rfl rfl rfl ?_
        refine zJ_aload_n dX12_calm_101 rfl rfl ?_
        refine zJ_iload dX12_calm_102 rfl rfl ?_
        refine zJ_aload_n dX12_calm_104 rfl rfl ?_
        refine zJ_iload_n dX12_calm_105 rfl rfl ?_
        refine zJ_iload_n dX12_calm_106 rfl rfl ?_
        obtain ⟨rn3, hcl, h⟩ := bd1_some h
        refine zJ_callV2 (σ := σ) (L := ([(3457, m_fences), (3462, m_horses), (3472, (0 : Int32)), (3473, (0 : Int32)), (3474, m_read_33x), (3475, m_length_33x), (3476, m_top_33x), (3477, m_at_33x), (3478, m_wrong_33x), (3483, m_ruleSize), (3484, m_isAsked_33x), (3485, m_askedHorse_33x), (3486, m_askedFence_33x), (3487, m_askedLetter_33x), (3488, m_askedHeight_33x)], [(56, m_kind), (57, m_height), (58, m_feet), (59, m_stride), (60, m_scope), (61, m_care), (69, m_rule)], [(65, m_row)])) (mi := mX12_calm) (yi := mX12_refusalOf) (as := [.int p1, .int p2]) (st := [.int v4_33x, .ref 54]) (L2 := ([(3457, m_fences), (3462, m_horses), (3472, (0 : Int32)), (3473, (0 : Int32)), (3474, m_read_33x), (3475, m_length_33x), (3476, m_top_33x), (3477, m_at_33x), (3478, m_wrong_33x), (3483, m_ruleSize), (3484, m_isAsked_33x), (3485, m_askedHorse_33x), (3486, m_askedFence_33x), (3487, m_askedLetter_33x), (3488, m_askedHeight_33x)], [(56, m_kind), (57, m_height), (58, m_feet), (59, m_stride), (60, m_scope), (61, m_care), (69, m_rule)], [(65, m_row)])) dX12_calm_107 ML_X12_262 Yv_X12_refusalOf rfl zW_54 rfl rfl (t_X12_refusalOf l _ hcl) (zsub_i zle_n (zle_c rfl (zle_c rfl (zle_c rfl (zle_c rfl zle_n)))) zle_n) (zjok_i rfl rfl (zle_c rfl (zle_c rfl (zle_c rfl (zle_c rfl (zle_c rfl (zle_c rfl (zle_c rfl (zle_c rfl (zle_c rfl (zle_c rfl (zle_c rfl (zle_c rfl (zle_c rfl (zle_c rfl (zle_c rfl zle_n))))))))))))))) rfl rfl (zle_c rfl (zle_c rfl (zle_c rfl (zle_c rfl (zle_c rfl (zle_c rfl (zle_c rfl zle_n))))))) rfl rfl (zle_c rfl zle_n)) (Nat.le_of_ble_eq_true rfl) (Nat.le_of_ble_eq_true rfl) rfl rfl ?_
        refine zJ_iadd dX12_calm_110 rfl ?_
        refine zJ_i2l dX12_calm_111 rfl ?_
        obtain ⟨m_rowManyn4, m_rown5, hcl, h⟩ := bd2_some h
        refine zJ_callV2 (σ := σ) (L := ([(3457, m_fences), (3462, m_horses), (3472, (0 : Int32)), (3473, (0 : Int32)), (3474, m_read_33x), (3475, m_length_33x), (3476, m_top_33x), (3477, m_at_33x), (3478, m_wrong_33x), (3483, m_ruleSize), (3484, m_isAsked_33x), (3485, m_askedHorse_33x), (3486, m_askedFence_33x), (3487, m_askedLetter_33x), (3488, m_askedHeight_33x)], [(56, m_kind), (57, m_height), (58, m_feet), (59, m_stride), (60, m_scope), (61, m_care), (69, m_rule)], [(65, m_row)])) (mi := mX12_calm) (yi := mX12_tell) (as := [.long ((v4_33x + rn3)).toInt64]) (st := []) (L2 := ([(3457, m_fences), (3462, m_horses), (3472, m_rowManyn4), (3473, (0 : Int32)), (3474, m_read_33x), (3475, m_length_33x), (3476, m_top_33x), (3477, m_at_33x), (3478, m_wrong_33x), (3483, m_ruleSize), (3484, m_isAsked_33x), (3485, m_askedHorse_33x), (3486, m_askedFence_33x), (3487, m_askedLetter_33x), (3488, m_askedHeight_33x)], [(56, m_kind), (57, m_height), (58, m_feet), (59, m_stride), (60, m_scope), (61, m_care), (69, m_rule)], [(65, m_rown5)])) dX12_calm_112 ML_X12_265 Yv_X12_tell rfl zW_54 rfl rfl (t_X12_tell l _ hcl) (zsub_i (zle_c rfl zle_n) zle_n (zle_c rfl zle_n)) (zjok_i rfl rfl (zle_c rfl (zle_c rfl (zle_c rfl (zle_c rfl (zle_c rfl (zle_c rfl (zle_c rfl (zle_c rfl (zle_c rfl (zle_c rfl (zle_c rfl (zle_c rfl (zle_c rfl (zle_c rfl (zle_c rfl zle_n))))))))))))))) rfl rfl (zle_c rfl (zle_c rfl (zle_c rfl (zle_c rfl (zle_c rfl (zle_c rfl (zle_c rfl zle_n))))))) rfl rfl (zle_c rfl zle_n)) (Nat.le_of_ble_eq_true rfl) (Nat.le_of_ble_eq_true rfl) rfl rfl ?_
        refine zJ_aload_n dX12_calm_115 rfl rfl ?_
        refine zJ_aload_n dX12_calm_116 rfl rfl ?_
        refine zJ_iload_n dX12_calm_117 rfl rfl ?_
        refine zJ_iload_n dX12_calm_118 rfl rfl ?_
        obtain ⟨rn6, hcl, h⟩ := bd1_some h
        refine zJ_callV2 (σ := σ) (L := ([(3457, m_fences), (3462, m_horses), (3472, m_rowManyn4), (3473, (0 : Int32)), (3474, m_read_33x), (3475, m_length_33x), (3476, m_top_33x), (3477, m_at_33x), (3478, m_wrong_33x), (3483, m_ruleSize), (3484, m_isAsked_33x), (3485, m_askedHorse_33x), (3486, m_askedFence_33x), (3487, m_askedLetter_33x), (3488, m_askedHeight_33x)], [(56, m_kind), (57, m_height), (58, m_feet), (59, m_stride), (60, m_scope), (61, m_care), (69, m_rule)], [(65, m_rown5)])) (mi := mX12_calm) (yi := mX12_tenthsOf) (as := [.int p2, .int v3_33x]) (st := [.ref 54]) (L2 := ([(3457, m_fences), (3462, m_horses), (3472, m_rowManyn4), (3473, (0 : Int32)), (3474, m_read_33x), (3475, m_length_33x), (3476, m_top_33x), (3477, m_at_33x), (3478, m_wrong_33x), (3483, m_ruleSize), (3484, m_isAsked_33x), (3485, m_askedHorse_33x), (3486, m_askedFence_33x), (3487, m_askedLetter_33x), (3488, m_askedHeight_33x)], [(56, m_kind), (57, m_height), (58, m_feet), (59, m_stride), (60, m_scope), (61, m_care), (69, m_rule)], [(65, m_rown5)])) dX12_calm_119 ML_X12_269 Yv_X12_tenthsOf rfl zW_54 rfl rfl (t_X12_tenthsOf l _ hcl) (zsub_i zle_n (zle_c rfl (zle_c rfl zle_n)) zle_n) (zjok_i rfl rfl (zle_c rfl (zle_c rfl (zle_c rfl (zle_c rfl (zle_c rfl (zle_c rfl (zle_c rfl (zle_c rfl (zle_c rfl (zle_c rfl (zle_c rfl (zle_c rfl (zle_c rfl (zle_c rfl (zle_c rfl zle_n))))))))))))))) rfl rfl (zle_c rfl (zle_c rfl (zle_c rfl (zle_c rfl (zle_c rfl (zle_c rfl (zle_c rfl zle_n))))))) rfl rfl (zle_c rfl zle_n)) (Nat.le_of_ble_eq_true rfl) (Nat.le_of_ble_eq_true rfl) rfl rfl ?_
        refine zJ_i2l dX12_calm_122 rfl ?_
        obtain ⟨m_rowManyn7, m_rown8, hcl, h⟩ := bd2_some h
        refine zJ_callV2 (σ := σ) (L := ([(3457, m_fences), (3462, m_horses), (3472, m_rowManyn4), (3473, (0 : Int32)), (3474, m_read_33x), (3475, m_length_33x), (3476, m_top_33x), (3477, m_at_33x), (3478, m_wrong_33x), (3483, m_ruleSize), (3484, m_isAsked_33x), (3485, m_askedHorse_33x), (3486, m_askedFence_33x), (3487, m_askedLetter_33x), (3488, m_askedHeight_33x)], [(56, m_kind), (57, m_height), (58, m_feet), (59, m_stride), (60, m_scope), (61, m_care), (69, m_rule)], [(65, m_rown5)])) (mi := mX12_calm) (yi := mX12_tell) (as := [.long rn6.toInt64]) (st := []) (L2 := ([(3457, m_fences), (3462, m_horses), (3472, m_rowManyn7), (3473, (0 : Int32)), (3474, m_read_33x), (3475, m_length_33x), (3476, m_top_33x), (3477, m_at_33x), (3478, m_wrong_33x), (3483, m_ruleSize), (3484, m_isAsked_33x), (3485, m_askedHorse_33x), (3486, m_askedFence_33x), (3487, m_askedLetter_33x), (3488, m_askedHeight_33x)], [(56, m_kind), (57, m_height), (58, m_feet), (59, m_stride), (60, m_scope), (61, m_care), (69, m_rule)], [(65, m_rown8)])) dX12_calm_123 ML_X12_265 Yv_X12_tell rfl zW_54 rfl rfl (t_X12_tell l _ hcl) (zsub_i (zle_c rfl zle_n) zle_n (zle_c rfl zle_n)) (zjok_i rfl rfl (zle_c rfl (zle_c rfl (zle_c rfl (zle_c rfl (zle_c rfl (zle_c rfl (zle_c rfl (zle_c rfl (zle_c rfl (zle_c rfl (zle_c rfl (zle_c rfl (zle_c rfl (zle_c rfl (zle_c rfl zle_n))))))))))))))) rfl rfl (zle_c rfl (zle_c rfl (zle_c rfl (zle_c rfl (zle_c rfl (zle_c rfl (zle_c rfl zle_n))))))) rfl rfl (zle_c rfl zle_n)) (Nat.le_of_ble_eq_true rfl) (Nat.le_of_ble_eq_true rfl) rfl rfl ?_
        refine zJ_iload_n dX12_calm_126 rfl rfl ?_
        obtain ⟨rfl, rfl, rfl, rfl, rfl, rfl, rfl, rfl, rfl, rfl, rfl, rfl, rfl, rfl⟩ := so14 h
        exact zJ_iret dX12_calm_127 rfl rfl
      refine zJ_loc (ls' := [(0, .ref 54), (1, .int p1), (2, .int p2), (3, .int (0 : Int32)), (4, .int (100000000 : Int32)), (5, .int (0 : Int32))]) (zll_c rfl (zll_c rfl (zll_c rfl (zll_c rfl (zll_c rfl (zll_c rfl zll_n)))))) ?_
      refine ml13_J (fun (v3_33 : Int32) (v4_33 : Int32) (v5_33 : Int32) (m_read_33 : Int32) (m_length_33 : Int32) (m_top_33 : Int32) (m_at_33 : Int32) (m_wrong_33 : Int32) (m_isAsked_33 : Int32) (m_askedHorse_33 : Int32) (m_askedFence_33 : Int32) (m_askedLetter_33 : Int32) (m_askedHeight_33 : Int32) => zJ l zW 207 mX12_calm σ ([(3457, m_fences), (3462, m_horses), (3472, m_rowMany), (3473, (0 : Int32)), (3474, m_read_33), (3475, m_length_33), (3476, m_top_33), (3477, m_at_33), (3478, m_wrong_33), (3483, m_ruleSize), (3484, m_isAsked_33), (3485, m_askedHorse_33), (3486, m_askedFence_33), (3487, m_askedLetter_33), (3488, m_askedHeight_33)], [(56, m_kind), (57, m_height), (58, m_feet), (59, m_stride), (60, m_scope), (61, m_care), (69, m_rule)], [(65, m_row)]) 33 [(0, .ref 54), (1, .int p1), (2, .int p2), (3, .int v3_33), (4, .int v4_33), (5, .int v5_33)] [] (some (.int r)) ([(3457, m_fences), (3462, m_horses), (3472, w_m_rowMany), (3473, w_m_thrown), (3474, w_m_read), (3475, w_m_length), (3476, w_m_top), (3477, w_m_at), (3478, w_m_wrong), (3483, m_ruleSize), (3484, w_m_isAsked), (3485, w_m_askedHorse), (3486, w_m_askedFence), (3487, w_m_askedLetter), (3488, w_m_askedHeight)], [(56, m_kind), (57, m_height), (58, m_feet), (59, m_stride), (60, m_scope), (61, m_care), (69, m_rule)], [(65, w_m_row)])) (fun rc33 hrc33 v3_33 v4_33 v5_33 m_read_33 m_length_33 m_top_33 m_at_33 m_wrong_33 m_isAsked_33 m_askedHorse_33 m_askedFence_33 m_askedLetter_33 m_askedHeight_33 h => ?_) zN _ _ _ _ _ _ _ _ _ _ _ _ _ h
      unfold s_X12_calm_33 at h
      refine zJ_iload dX12_calm_33 rfl rfl ?_
      refine zJ_bipush dX12_calm_35 zb_8 rfl ?_
      refine zJ_icmp_ge (tgt := 96) dX12_calm_37 (by decide) rfl (fun hc => ?_) (fun hc => ?_)
      · replace h := it_t hc h
        refine zJ_loc (ls' := [(0, .ref 54), (1, .int p1), (2, .int p2), (3, .int v3_33), (4, .int v4_33)]) (zll_c rfl (zll_c rfl (zll_c rfl (zll_c rfl (zll_c rfl zll_n))))) ?_
        exact hk33 _ _ _ _ _ _ _ _ _ _ _ _ h
      · replace h := it_f hc h
        refine zJ_aload_n dX12_calm_40 rfl rfl ?_
        refine zJ_iload_n dX12_calm_41 rfl rfl ?_
        refine zJ_iload_n dX12_calm_42 rfl rfl ?_
        refine zJ_iload dX12_calm_43 rfl rfl ?_
        obtain ⟨rn9, m_readn10, m_lengthn11, m_topn12, m_atn13, m_wrongn14, m_isAskedn15, m_askedHorsen16, m_askedFencen17, m_askedLettern18, m_askedHeightn19, hcl, h⟩ := bd11_some h
        refine zJ_callV2 (σ := σ) (L := ([(3457, m_fences), (3462, m_horses), (3472, m_rowMany), (3473, (0 : Int32)), (3474, m_read_33), (3475, m_length_33), (3476, m_top_33), (3477, m_at_33), (3478, m_wrong_33), (3483, m_ruleSize), (3484, m_isAsked_33), (3485, m_askedHorse_33), (3486, m_askedFence_33), (3487, m_askedLetter_33), (3488, m_askedHeight_33)], [(56, m_kind), (57, m_height), (58, m_feet), (59, m_stride), (60, m_scope), (61, m_care), (69, m_rule)], [(65, m_row)])) (mi := mX12_calm) (yi := mX12_oddsOf_) (as := [.int p1, .int p2, .int v5_33]) (st := []) (L2 := ([(3457, m_fences), (3462, m_horses), (3472, m_rowMany), (3473, (0 : Int32)), (3474, m_readn10), (3475, m_lengthn11), (3476, m_topn12), (3477, m_atn13), (3478, m_wrongn14), (3483, m_ruleSize), (3484, m_isAskedn15), (3485, m_askedHorsen16), (3486, m_askedFencen17), (3487, m_askedLettern18), (3488, m_askedHeightn19)], [(56, m_kind), (57, m_height), (58, m_feet), (59, m_stride), (60, m_scope), (61, m_care), (69, m_rule)], [(65, m_row)])) dX12_calm_45 ML_X12_259 Yv_X12_oddsOf_ rfl zW_54 rfl rfl (t_X12_oddsOf_ l _ hcl) (zsub_i (zle_c rfl (zle_c rfl (zle_c rfl (zle_c rfl (zle_c rfl (zle_c rfl (zle_c rfl (zle_c rfl (zle_c rfl (zle_c rfl (zle_c rfl zle_n))))))))))) (zle_c rfl (zle_c rfl (zle_c rfl (zle_c rfl (zle_c rfl (zle_c rfl (zle_c rfl zle_n))))))) zle_n) (zjok_i rfl rfl (zle_c rfl (zle_c rfl (zle_c rfl (zle_c rfl (zle_c rfl (zle_c rfl (zle_c rfl (zle_c rfl (zle_c rfl (zle_c rfl (zle_c rfl (zle_c rfl (zle_c rfl (zle_c rfl (zle_c rfl zle_n))))))))))))))) rfl rfl (zle_c rfl (zle_c rfl (zle_c rfl (zle_c rfl (zle_c rfl (zle_c rfl (zle_c rfl zle_n))))))) rfl rfl (zle_c rfl zle_n)) (Nat.le_of_ble_eq_true rfl) (Nat.le_of_ble_eq_true rfl) rfl rfl ?_
        refine zJ_istore (ls' := [(6, .int rn9), (0, .ref 54), (1, .int p1), (2, .int p2), (3, .int v3_33), (4, .int v4_33), (5, .int v5_33)]) dX12_calm_48 rfl rfl rfl ?_
        refine zJ_iload dX12_calm_50 rfl rfl ?_
        refine zJ_iload dX12_calm_52 rfl rfl ?_
        refine zJ_icmp_gt (tgt := 90) dX12_calm_54 (by decide) rfl (fun hc => ?_) (fun hc => ?_)
        · replace h := it_t hc h
          obtain ⟨v5n20, ev5n20, h⟩ := lt1_some h
          refine zJ_iincN (ls' := [(5, .int v5n20), (6, .int rn9), (0, .ref 54), (1, .int p1), (2, .int p2), (3, .int v3_33), (4, .int v4_33)]) dX12_calm_90 rfl rfl zc_1 ev5n20 rfl rfl ?_
          refine zJ_goto (tgt := 33) dX12_calm_93 (by decide) ?_
          refine zJ_loc (ls' := [(0, .ref 54), (1, .int p1), (2, .int p2), (3, .int v3_33), (4, .int v4_33), (5, .int v5n20)]) (zll_c rfl (zll_c rfl (zll_c rfl (zll_c rfl (zll_c rfl (zll_c rfl zll_n)))))) ?_
          exact hrc33 _ _ _ _ _ _ _ _ _ _ _ _ _ h
        · replace h := it_f hc h
          refine zJ_iload dX12_calm_57 rfl rfl ?_
          refine zJ_iload dX12_calm_59 rfl rfl ?_
          refine zJ_icmp_ne (tgt := 83) dX12_calm_61 (by decide) rfl (fun hc => ?_) (fun hc => ?_)
          · replace h := it_f hc h
            refine zJ_iload dX12_calm_83 rfl rfl ?_
            refine zJ_istore_n (ls' := [(3, .int v5_33), (6, .int rn9), (0, .ref 54), (1, .int p1), (2, .int p2), (4, .int v4_33), (5, .int v5_33)]) dX12_calm_85 rfl rfl rfl ?_
            refine zJ_iload dX12_calm_86 rfl rfl ?_
            refine zJ_istore (ls' := [(4, .int rn9), (3, .int v5_33), (6, .int rn9), (0, .ref 54), (1, .int p1), (2, .int p2), (5, .int v5_33)]) dX12_calm_88 rfl rfl rfl ?_
            obtain ⟨v5n21, ev5n21, h⟩ := lt1_some h
            refine zJ_iincN (ls' := [(5, .int v5n21), (4, .int rn9), (3, .int v5_33), (6, .int rn9), (0, .ref 54), (1, .int p1), (2, .int p2)]) dX12_calm_90 rfl rfl zc_1 ev5n21 rfl rfl ?_
            refine zJ_goto (tgt := 33) dX12_calm_93 (by decide) ?_
            refine zJ_loc (ls' := [(0, .ref 54), (1, .int p1), (2, .int p2), (3, .int v5_33), (4, .int rn9), (5, .int v5n21)]) (zll_c rfl (zll_c rfl (zll_c rfl (zll_c rfl (zll_c rfl (zll_c rfl zll_n)))))) ?_
            exact hrc33 _ _ _ _ _ _ _ _ _ _ _ _ _ h
          · replace h := it_t hc h
            refine zJ_aload_n dX12_calm_64 rfl rfl ?_
            refine zJ_iload_n dX12_calm_65 rfl rfl ?_
            refine zJ_iload dX12_calm_66 rfl rfl ?_
            obtain ⟨rn22, hcl, h⟩ := bd1_some h
            refine zJ_callV2 (σ := σ) (L := ([(3457, m_fences), (3462, m_horses), (3472, m_rowMany), (3473, (0 : Int32)), (3474, m_readn10), (3475, m_lengthn11), (3476, m_topn12), (3477, m_atn13), (3478, m_wrongn14), (3483, m_ruleSize), (3484, m_isAskedn15), (3485, m_askedHorsen16), (3486, m_askedFencen17), (3487, m_askedLettern18), (3488, m_askedHeightn19)], [(56, m_kind), (57, m_height), (58, m_feet), (59, m_stride), (60, m_scope), (61, m_care), (69, m_rule)], [(65, m_row)])) (mi := mX12_calm) (yi := mX12_tenthsOf) (as := [.int p2, .int v5_33]) (st := []) (L2 := ([(3457, m_fences), (3462, m_horses), (3472, m_rowMany), (3473, (0 : Int32)), (3474, m_readn10), (3475, m_lengthn11), (3476, m_topn12), (3477, m_atn13), (3478, m_wrongn14), (3483, m_ruleSize), (3484, m_isAskedn15), (3485, m_askedHorsen16), (3486, m_askedFencen17), (3487, m_askedLettern18), (3488, m_askedHeightn19)], [(56, m_kind), (57, m_height), (58, m_feet), (59, m_stride), (60, m_scope), (61, m_care), (69, m_rule)], [(65, m_row)])) dX12_calm_68 ML_X12_269 Yv_X12_tenthsOf rfl zW_54 rfl rfl (t_X12_tenthsOf l _ hcl) (zsub_i zle_n (zle_c rfl (zle_c rfl zle_n)) zle_n) (zjok_i rfl rfl (zle_c rfl (zle_c rfl (zle_c rfl (zle_c rfl (zle_c rfl (zle_c rfl (zle_c rfl (zle_c rfl (zle_c rfl (zle_c rfl (zle_c rfl (zle_c rfl (zle_c rfl (zle_c rfl (zle_c rfl zle_n))))))))))))))) rfl rfl (zle_c rfl (zle_c rfl (zle_c rfl (zle_c rfl (zle_c rfl (zle_c rfl (zle_c rfl zle_n))))))) rfl rfl (zle_c rfl zle_n)) (Nat.le_of_ble_eq_true rfl) (Nat.le_of_ble_eq_true rfl) rfl rfl ?_
            refine zJ_aload_n dX12_calm_71 rfl rfl ?_
            refine zJ_iload_n dX12_calm_72 rfl rfl ?_
            refine zJ_iload_n dX12_calm_73 rfl rfl ?_
            obtain ⟨rn23, hcl, h⟩ := bd1_some h
            refine zJ_callV2 (σ := σ) (L := ([(3457, m_fences), (3462, m_horses), (3472, m_rowMany), (3473, (0 : Int32)), (3474, m_readn10), (3475, m_lengthn11), (3476, m_topn12), (3477, m_atn13), (3478, m_wrongn14), (3483, m_ruleSize), (3484, m_isAskedn15), (3485, m_askedHorsen16), (3486, m_askedFencen17), (3487, m_askedLettern18), (3488, m_askedHeightn19)], [(56, m_kind), (57, m_height), (58, m_feet), (59, m_stride), (60, m_scope), (61, m_care), (69, m_rule)], [(65, m_row)])) (mi := mX12_calm) (yi := mX12_tenthsOf) (as := [.int p2, .int v3_33]) (st := [.int rn22]) (L2 := ([(3457, m_fences), (3462, m_horses), (3472, m_rowMany), (3473, (0 : Int32)), (3474, m_readn10), (3475, m_lengthn11), (3476, m_topn12), (3477, m_atn13), (3478, m_wrongn14), (3483, m_ruleSize), (3484, m_isAskedn15), (3485, m_askedHorsen16), (3486, m_askedFencen17), (3487, m_askedLettern18), (3488, m_askedHeightn19)], [(56, m_kind), (57, m_height), (58, m_feet), (59, m_stride), (60, m_scope), (61, m_care), (69, m_rule)], [(65, m_row)])) dX12_calm_74 ML_X12_269 Yv_X12_tenthsOf rfl zW_54 rfl rfl (t_X12_tenthsOf l _ hcl) (zsub_i zle_n (zle_c rfl (zle_c rfl zle_n)) zle_n) (zjok_i rfl rfl (zle_c rfl (zle_c rfl (zle_c rfl (zle_c rfl (zle_c rfl (zle_c rfl (zle_c rfl (zle_c rfl (zle_c rfl (zle_c rfl (zle_c rfl (zle_c rfl (zle_c rfl (zle_c rfl (zle_c rfl zle_n))))))))))))))) rfl rfl (zle_c rfl (zle_c rfl (zle_c rfl (zle_c rfl (zle_c rfl (zle_c rfl (zle_c rfl zle_n))))))) rfl rfl (zle_c rfl zle_n)) (Nat.le_of_ble_eq_true rfl) (Nat.le_of_ble_eq_true rfl) rfl rfl ?_
            refine zJ_icmp_lt (tgt := 83) dX12_calm_77 (by decide) rfl (fun hc => ?_) (fun hc => ?_)
            · replace h := it_t hc h
              refine zJ_iload dX12_calm_83 rfl rfl ?_
              refine zJ_istore_n (ls' := [(3, .int v5_33), (6, .int rn9), (0, .ref 54), (1, .int p1), (2, .int p2), (4, .int v4_33), (5, .int v5_33)]) dX12_calm_85 rfl rfl rfl ?_
              refine zJ_iload dX12_calm_86 rfl rfl ?_
              refine zJ_istore (ls' := [(4, .int rn9), (3, .int v5_33), (6, .int rn9), (0, .ref 54), (1, .int p1), (2, .int p2), (5, .int v5_33)]) dX12_calm_88 rfl rfl rfl ?_
              obtain ⟨v5n24, ev5n24, h⟩ := lt1_some h
              refine zJ_iincN (ls' := [(5, .int v5n24), (4, .int rn9), (3, .int v5_33), (6, .int rn9), (0, .ref 54), (1, .int p1), (2, .int p2)]) dX12_calm_90 rfl rfl zc_1 ev5n24 rfl rfl ?_
              refine zJ_goto (tgt := 33) dX12_calm_93 (by decide) ?_
              refine zJ_loc (ls' := [(0, .ref 54), (1, .int p1), (2, .int p2), (3, .int v5_33), (4, .int rn9), (5, .int v5n24)]) (zll_c rfl (zll_c rfl (zll_c rfl (zll_c rfl (zll_c rfl (zll_c rfl zll_n)))))) ?_
              exact hrc33 _ _ _ _ _ _ _ _ _ _ _ _ _ h
            · replace h := it_f hc h
              refine zJ_goto (tgt := 90) dX12_calm_80 (by decide) ?_
              obtain ⟨v5n25, ev5n25, h⟩ := lt1_some h
              refine zJ_iincN (ls' := [(5, .int v5n25), (6, .int rn9), (0, .ref 54), (1, .int p1), (2, .int p2), (3, .int v3_33), (4, .int v4_33)]) dX12_calm_90 rfl rfl zc_1 ev5n25 rfl rfl ?_
              refine zJ_goto (tgt := 33) dX12_calm_93 (by decide) ?_
              refine zJ_loc (ls' := [(0, .ref 54), (1, .int p1), (2, .int p2), (3, .int v3_33), (4, .int v4_33), (5, .int v5n25)]) (zll_c rfl (zll_c rfl (zll_c rfl (zll_c rfl (zll_c rfl (zll_c rfl zll_n)))))) ?_
              exact hrc33 _ _ _ _ _ _ _ _ _ _ _ _ _ h
    · replace h := it_t hc h
      refine zJ_iconst dX12_calm_21 zc_m1 rfl ?_
      obtain ⟨rfl, rfl, rfl, rfl, rfl, rfl, rfl, rfl, rfl, rfl, rfl, rfl, rfl, rfl⟩ := so14 h
      exact zJ_iret dX12_calm_22 rfl rfl
set_option maxRecDepth 100000 in
set_option maxHeartbeats 4000000 in
theorem tg_X12_common (l : Launch) : ∀ n : Nat, (∀ (σ : zS) (p0 : Int64) (p2 : Int64) (r : Int64), (G_X12_common n) p0 p2 = some r → zMt l zW (n + 0) mX12_common σ ([], [], []) [.long p0, .long p2] (some (.long r)) ([], [], [])) := by
  intro n
  induction n with
  | zero => exact (fun _ _ _ _ h => by cases (show (none : Option _) = some _ from h))
  | succ n ih =>
    have ih_X12_common := ih
    intro σ p0 p2 r h
    replace h : g_X12_common (G_X12_common n) p0 p2 = some r := h
    generalize (G_X12_common n) = q_X12_common at h ih_X12_common
    show zMt l zW (n + 1) mX12_common σ ([], [], []) [.long p0, .long p2] (some (.long r)) ([], [], [])
    refine zMt_of (ls := [(0, .long p0), (2, .long p2)]) (by decide) rfl (fun _ => Nat.le_of_ble_eq_true rfl) rfl ?_
    unfold g_X12_common at h
    refine zJ_lload_n dX12_common_0 rfl rfl ?_
    refine zJ_lconst dX12_common_1 zl_0 rfl ?_
    refine zJ_lcmp dX12_common_2 rfl ?_
    refine zJ_if_ne (tgt := 10) dX12_common_3 (by decide) rfl (fun hc => ?_) (fun hc => ?_)
    · replace h := it_f hc h
      refine zJ_lload_n dX12_common_10 rfl rfl ?_
      refine zJ_lload_n dX12_common_11 rfl rfl ?_
      refine zJ_lload_n dX12_common_12 rfl rfl ?_
      obtain ⟨hg, h⟩ := gd_some h
      refine zJ_lrem dX12_common_13 (nzl_ne hg) rfl ?_
      obtain ⟨rn1, hcl, h⟩ := bd1_some h
      refine zJ_callS2 (σ := σ) (L := ([], [], [])) (mi := mX12_common) (yi := mX12_common) (as := [.long p2, .long (p0 - p0 / p2 * p2)]) (st := []) (L2 := ([], [], [])) dX12_common_14 ML_X12_397 Ys_X12_common rfl (ih_X12_common _ _ _ _ hcl) (zsub_i zle_n zle_n zle_n) (zjok_i rfl rfl zle_n rfl rfl zle_n rfl rfl zle_n) (by omega) (Nat.le_of_ble_eq_true rfl) rfl rfl ?_
      obtain rfl := so1 h
      exact zJ_lret dX12_common_17 rfl
    · replace h := it_t hc h
      refine zJ_lload_n dX12_common_6 rfl rfl ?_
      refine zJ_goto (tgt := 17) dX12_common_7 (by decide) ?_
      obtain rfl := so1 h
      exact zJ_lret dX12_common_17 rfl

theorem t_X12_common (l : Launch) (σ : zS) (n : Nat) {p0 : Int64} {p2 : Int64} {r : Int64} (h : f_X12_common n p0 p2 = some r) : zMt l zW (n + 0) mX12_common σ ([], [], []) [.long p0, .long p2] (some (.long r)) ([], [], []) := (tg_X12_common l n) σ _ _ _ h
set_option maxRecDepth 100000 in
set_option maxHeartbeats 4000000 in
theorem t_X12_count (l : Launch) (σ : zS) {p1 : Int32} {m_fences : Int32} {m_allowed : Int32} {m_horses : Int32} {m_plans : Int32} {m_typed : Int32} {m_rowMany : Int32} {m_thrown : Int32} {m_undoMany : Int32} {m_now : (Nat → Int32)} {m_money : (Nat → Int32)} {r : Int32} {w_m_thrown : Int32} (h : f_X12_count p1 m_fences m_allowed m_horses m_plans m_typed m_rowMany m_thrown m_undoMany m_now m_money = some (r, w_m_thrown)) : zMt l zW 0 mX12_count σ ([(3457, m_fences), (3461, m_allowed), (3462, m_horses), (3466, m_plans), (3470, m_typed), (3472, m_rowMany), (3473, m_thrown), (3494, m_undoMany)], [(55, m_now), (63, m_money)], []) [.ref 54, .int p1] (some (.int r)) ([(3457, m_fences), (3461, m_allowed), (3462, m_horses), (3466, m_plans), (3470, m_typed), (3472, m_rowMany), (3473, w_m_thrown), (3494, m_undoMany)], [(55, m_now), (63, m_money)], []) := by
  refine zMt_of (ls := [(0, .ref 54), (1, .int p1)]) (by decide) rfl (fun _ => Nat.le_of_ble_eq_true rfl) rfl ?_
  unfold f_X12_count at h
  refine zJ_aload_n dX12_count_0 rfl rfl ?_
  refine zJ_iconst dX12_count_1 zc_0 rfl ?_
  refine zK_puti (mi := mX12_count) (la' := [(3457, m_fences), (3461, m_allowed), (3462, m_horses), (3466, m_plans), (3470, m_typed), (3472, m_rowMany), (3473, (0 : Int32)), (3494, m_undoMany)]) zW_ok dX12_count_2 F_X12_113 P_12_17 zW_54 rfl rfl rfl ?_
  refine zJ_iconst dX12_count_5 zc_0 rfl ?_
  refine zJ_istore_n (ls' := [(2, .int (0 : Int32)), (0, .ref 54), (1, .int p1)]) dX12_count_6 rfl rfl rfl ?_
  refine zJ_iload_n dX12_count_7 rfl rfl ?_
  by_cases hc0 : p1 = (0 : Int32)
  · replace h := it_t hc0 h
    refine zJ_tswI (tgt := 60) (off := 52) dX12_count_8 0 (by rw [hc0]; decide) (by decide) (by decide) rfl (by decide) ?_
    refine zJ_aload_n dX12_count_60 rfl rfl ?_
    refine zJ_geti (mi := mX12_count) (x := m_fences) dX12_count_61 F_X12_119 zW_54 rfl rfl rfl ?_
    obtain ⟨rfl, rfl⟩ := so2 h
    exact zJ_iret dX12_count_64 rfl rfl
  replace h := it_f hc0 h
  by_cases hc1 : p1 = (1 : Int32)
  · replace h := it_t hc1 h
    refine zJ_tswI (tgt := 65) (off := 57) dX12_count_8 1 (by rw [hc1]; decide) (by decide) (by decide) rfl (by decide) ?_
    refine zJ_aload_n dX12_count_65 rfl rfl ?_
    refine zJ_geti (mi := mX12_count) (x := m_horses) dX12_count_66 F_X12_126 zW_54 rfl rfl rfl ?_
    obtain ⟨rfl, rfl⟩ := so2 h
    exact zJ_iret dX12_count_69 rfl rfl
  replace h := it_f hc1 h
  by_cases hc2 : p1 = (2 : Int32)
  · replace h := it_t hc2 h
    refine zJ_tswI (tgt := 70) (off := 62) dX12_count_8 2 (by rw [hc2]; decide) (by decide) (by decide) rfl (by decide) ?_
    refine zJ_aload_n dX12_count_70 rfl rfl ?_
    refine zJ_geti (mi := mX12_count) (x := m_plans) dX12_count_71 F_X12_129 zW_54 rfl rfl rfl ?_
    obtain ⟨rfl, rfl⟩ := so2 h
    exact zJ_iret dX12_count_74 rfl rfl
  replace h := it_f hc2 h
  by_cases hc3 : p1 = (3 : Int32)
  · replace h := it_t hc3 h
    refine zJ_tswI (tgt := 75) (off := 67) dX12_count_8 3 (by rw [hc3]; decide) (by decide) (by decide) rfl (by decide) ?_
    refine zJ_aload_n dX12_count_75 rfl rfl ?_
    refine zJ_getr (mi := mX12_count) dX12_count_76 F_X12_9 zW_54 rfl rfl ?_
    refine zJ_bipush dX12_count_79 zb_48 rfl ?_
    obtain ⟨hg, h⟩ := gd_some h
    refine zJ_iald (mi := mX12_count) (f := m_now) dX12_count_81 zW_55 (ix_in hg) rfl rfl ?_
    obtain ⟨rfl, rfl⟩ := so2 h
    exact zJ_iret dX12_count_82 rfl rfl
  replace h := it_f hc3 h
  by_cases hc4 : p1 = (4 : Int32)
  · replace h := it_t hc4 h
    refine zJ_tswI (tgt := 83) (off := 75) dX12_count_8 4 (by rw [hc4]; decide) (by decide) (by decide) rfl (by decide) ?_
    refine zJ_aload_n dX12_count_83 rfl rfl ?_
    refine zJ_geti (mi := mX12_count) (x := m_allowed) dX12_count_84 F_X12_22 zW_54 rfl rfl rfl ?_
    obtain ⟨rfl, rfl⟩ := so2 h
    exact zJ_iret dX12_count_87 rfl rfl
  replace h := it_f hc4 h
  by_cases hc5 : p1 = (5 : Int32)
  · replace h := it_t hc5 h
    refine zJ_tswI (tgt := 88) (off := 80) dX12_count_8 5 (by rw [hc5]; decide) (by decide) (by decide) rfl (by decide) ?_
    refine zJ_aload_n dX12_count_88 rfl rfl ?_
    refine zJ_geti (mi := mX12_count) (x := m_undoMany) dX12_count_89 F_X12_192 zW_54 rfl rfl rfl ?_
    obtain ⟨rfl, rfl⟩ := so2 h
    exact zJ_iret dX12_count_92 rfl rfl
  replace h := it_f hc5 h
  by_cases hc6 : p1 = (6 : Int32)
  · replace h := it_t hc6 h
    refine zJ_tswI (tgt := 93) (off := 85) dX12_count_8 6 (by rw [hc6]; decide) (by decide) (by decide) rfl (by decide) ?_
    refine zJ_aload_n dX12_count_93 rfl rfl ?_
    refine zJ_geti (mi := mX12_count) (x := m_rowMany) dX12_count_94 F_X12_116 zW_54 rfl rfl rfl ?_
    obtain ⟨rfl, rfl⟩ := so2 h
    exact zJ_iret dX12_count_97 rfl rfl
  replace h := it_f hc6 h
  by_cases hc7 : p1 = (7 : Int32)
  · replace h := it_t hc7 h
    refine zJ_tswI (tgt := 98) (off := 90) dX12_count_8 7 (by rw [hc7]; decide) (by decide) (by decide) rfl (by decide) ?_
    refine zJ_aload_n dX12_count_98 rfl rfl ?_
    refine zJ_geti (mi := mX12_count) (x := m_typed) dX12_count_99 F_X12_139 zW_54 rfl rfl rfl ?_
    obtain ⟨rfl, rfl⟩ := so2 h
    exact zJ_iret dX12_count_102 rfl rfl
  replace h := it_f hc7 h
  by_cases hc8 : p1 = (8 : Int32)
  · replace h := it_t hc8 h
    refine zJ_tswI (tgt := 103) (off := 95) dX12_count_8 8 (by rw [hc8]; decide) (by decide) (by decide) rfl (by decide) ?_
    refine zJ_aload_n dX12_count_103 rfl rfl ?_
    refine zJ_getr (mi := mX12_count) dX12_count_104 F_X12_38 zW_54 rfl rfl ?_
    refine zJ_astore_n (ls' := [(3, .ref 63), (2, .int (0 : Int32)), (0, .ref 54), (1, .int p1)]) dX12_count_107 rfl rfl rfl ?_
    refine zJ_aload_n dX12_count_108 rfl rfl ?_
    refine zJ_alen (v := 6) dX12_count_109 zW_63 (by decide) (by decide) rfl ?_
    refine zJ_istore (ls' := [(4, .int (6 : Int32)), (3, .ref 63), (2, .int (0 : Int32)), (0, .ref 54), (1, .int p1)]) dX12_count_110 rfl rfl rfl ?_
    refine zJ_iconst dX12_count_112 zc_0 rfl ?_
    refine zJ_istore (ls' := [(5, .int (0 : Int32)), (4, .int (6 : Int32)), (3, .ref 63), (2, .int (0 : Int32)), (0, .ref 54), (1, .int p1)]) dX12_count_113 rfl rfl rfl ?_
    have hk115 : ∀ (v2_115x : Int32), k_X12_count_115  v2_115x = some (r, w_m_thrown) → zJ l zW 0 mX12_count σ ([(3457, m_fences), (3461, m_allowed), (3462, m_horses), (3466, m_plans), (3470, m_typed), (3472, m_rowMany), (3473, (0 : Int32)), (3494, m_undoMany)], [(55, m_now), (63, m_money)], []) 139 [(2, .int v2_115x)] [] (some (.int r)) ([(3457, m_fences), (3461, m_allowed), (3462, m_horses), (3466, m_plans), (3470, m_typed), (3472, m_rowMany), (3473, w_m_thrown), (3494, m_undoMany)], [(55, m_now), (63, m_money)], []) := by
      intro v2_115x h
      unfold k_X12_count_115 at h
      refine zJ_iload_n dX12_count_139 rfl rfl ?_
      obtain ⟨rfl, rfl⟩ := so2 h
      exact zJ_iret dX12_count_140 rfl rfl
    refine zJ_loc (ls' := [(2, .int (0 : Int32)), (3, .ref 63), (4, .int (6 : Int32)), (5, .int (0 : Int32))]) (zll_c rfl (zll_c rfl (zll_c rfl (zll_c rfl zll_n)))) ?_
    refine ml2_J (fun (v2_115 : Int32) (v5_115 : Int32) => zJ l zW 0 mX12_count σ ([(3457, m_fences), (3461, m_allowed), (3462, m_horses), (3466, m_plans), (3470, m_typed), (3472, m_rowMany), (3473, (0 : Int32)), (3494, m_undoMany)], [(55, m_now), (63, m_money)], []) 115 [(2, .int v2_115), (3, .ref 63), (4, .int (6 : Int32)), (5, .int v5_115)] [] (some (.int r)) ([(3457, m_fences), (3461, m_allowed), (3462, m_horses), (3466, m_plans), (3470, m_typed), (3472, m_rowMany), (3473, w_m_thrown), (3494, m_undoMany)], [(55, m_now), (63, m_money)], [])) (fun rc115 hrc115 v2_115 v5_115 h => ?_) zN _ _ h
    unfold s_X12_count_115 at h
    refine zJ_iload dX12_count_115 rfl rfl ?_
    refine zJ_iload dX12_count_117 rfl rfl ?_
    refine zJ_icmp_ge (tgt := 139) dX12_count_119 (by decide) rfl (fun hc => ?_) (fun hc => ?_)
    · replace h := it_t hc h
      refine zJ_loc (ls' := [(2, .int v2_115)]) (zll_c rfl zll_n) ?_
      exact hk115 _ h
    · replace h := it_f hc h
      refine zJ_aload_n dX12_count_122 rfl rfl ?_
      refine zJ_iload dX12_count_123 rfl rfl ?_
      obtain ⟨hg, h⟩ := gd_some h
      refine zJ_iald (mi := mX12_count) (f := m_money) dX12_count_125 zW_63 (ix_in hg) rfl rfl ?_
      obtain ⟨v6n1, ev6n1, h⟩ := lt1_some h
      refine zJ_nmi ev6n1 ?_
      refine zJ_istore (ls' := [(6, .int v6n1), (2, .int v2_115), (3, .ref 63), (4, .int (6 : Int32)), (5, .int v5_115)]) dX12_count_126 rfl rfl rfl ?_
      refine zJ_iload_n dX12_count_128 rfl rfl ?_
      refine zJ_iload dX12_count_129 rfl rfl ?_
      refine zJ_iadd dX12_count_131 rfl ?_
      obtain ⟨v2n2, ev2n2, h⟩ := lt1_some h
      refine zJ_nmi ev2n2 ?_
      refine zJ_istore_n (ls' := [(2, .int v2n2), (6, .int v6n1), (3, .ref 63), (4, .int (6 : Int32)), (5, .int v5_115)]) dX12_count_132 rfl rfl rfl ?_
      obtain ⟨v5n3, ev5n3, h⟩ := lt1_some h
      refine zJ_iincN (ls' := [(5, .int v5n3), (2, .int v2n2), (6, .int v6n1), (3, .ref 63), (4, .int (6 : Int32))]) dX12_count_133 rfl rfl zc_1 ev5n3 rfl rfl ?_
      refine zJ_goto (tgt := 115) dX12_count_136 (by decide) ?_
      refine zJ_loc (ls' := [(2, .int v2n2), (3, .ref 63), (4, .int (6 : Int32)), (5, .int v5n3)]) (zll_c rfl (zll_c rfl (zll_c rfl (zll_c rfl zll_n)))) ?_
      exact hrc115 _ _ h
  replace h := it_f hc8 h
  have hq0 := z_ne (n := 0) hc0 (by decide)
  have hq1 := z_ne (n := 1) hc1 (by decide)
  have hq2 := z_ne (n := 2) hc2 (by decide)
  have hq3 := z_ne (n := 3) hc3 (by decide)
  have hq4 := z_ne (n := 4) hc4 (by decide)
  have hq5 := z_ne (n := 5) hc5 (by decide)
  have hq6 := z_ne (n := 6) hc6 (by decide)
  have hq7 := z_ne (n := 7) hc7 (by decide)
  have hq8 := z_ne (n := 8) hc8 (by decide)
  refine zJ_tswO (tgt := 141) dX12_count_8 (by omega) (by decide) ?_
  refine zJ_iconst dX12_count_141 zc_m1 rfl ?_
  obtain ⟨rfl, rfl⟩ := so2 h
  exact zJ_iret dX12_count_142 rfl rfl
set_option maxRecDepth 100000 in
set_option maxHeartbeats 4000000 in
theorem t_X12_layFences (l : Launch) (σ : zS) {p1 : Int32} {p2 : Int32} {m_fences : Int32} {m_read : Int32} {m_length : Int32} {m_top : Int32} {m_at : Int32} {m_wrong : Int32} {m_ruleSize : Int32} {m_isAsked : Int32} {m_askedHorse : Int32} {m_askedFence : Int32} {m_askedLetter : Int32} {m_askedHeight : Int32} {m_kind : (Nat → Int32)} {m_height : (Nat → Int32)} {m_feet : (Nat → Int32)} {m_stride : (Nat → Int32)} {m_scope : (Nat → Int32)} {m_care : (Nat → Int32)} {m_rule : (Nat → Int32)} {m_spent : (Nat → Int32)} {m_little : (Nat → Int32)} {w_m_read : Int32} {w_m_length : Int32} {w_m_top : Int32} {w_m_at : Int32} {w_m_wrong : Int32} {w_m_isAsked : Int32} {w_m_askedHorse : Int32} {w_m_askedFence : Int32} {w_m_askedLetter : Int32} {w_m_askedHeight : Int32} {w_m_spent : (Nat → Int32)} {w_m_little : (Nat → Int32)} (h : f_X12_layFences p1 p2 m_fences m_read m_length m_top m_at m_wrong m_ruleSize m_isAsked m_askedHorse m_askedFence m_askedLetter m_askedHeight m_kind m_height m_feet m_stride m_scope m_care m_rule m_spent m_little = some (w_m_read, w_m_length, w_m_top, w_m_at, w_m_wrong, w_m_isAsked, w_m_askedHorse, w_m_askedFence, w_m_askedLetter, w_m_askedHeight, w_m_spent, w_m_little)) : zMt l zW 207 mX12_layFences σ ([(3457, m_fences), (3474, m_read), (3475, m_length), (3476, m_top), (3477, m_at), (3478, m_wrong), (3483, m_ruleSize), (3484, m_isAsked), (3485, m_askedHorse), (3486, m_askedFence), (3487, m_askedLetter), (3488, m_askedHeight)], [(56, m_kind), (57, m_height), (58, m_feet), (59, m_stride), (60, m_scope), (61, m_care), (69, m_rule), (72, m_spent), (73, m_little)], []) [.ref 54, .int p1, .int p2] none ([(3457, m_fences), (3474, w_m_read), (3475, w_m_length), (3476, w_m_top), (3477, w_m_at), (3478, w_m_wrong), (3483, m_ruleSize), (3484, w_m_isAsked), (3485, w_m_askedHorse), (3486, w_m_askedFence), (3487, w_m_askedLetter), (3488, w_m_askedHeight)], [(56, m_kind), (57, m_height), (58, m_feet), (59, m_stride), (60, m_scope), (61, m_care), (69, m_rule), (72, w_m_spent), (73, w_m_little)], []) := by
  refine zMt_of (ls := [(0, .ref 54), (1, .int p1), (2, .int p2)]) (by decide) rfl (fun _ => Nat.le_of_ble_eq_true rfl) rfl ?_
  unfold f_X12_layFences at h
  refine zJ_iconst dX12_layFences_0 zc_0 rfl ?_
  refine zJ_istore_n (ls' := [(3, .int (0 : Int32)), (0, .ref 54), (1, .int p1), (2, .int p2)]) dX12_layFences_1 rfl rfl rfl ?_
  have hk2 : ∀ (m_read_2x : Int32) (m_length_2x : Int32) (m_top_2x : Int32) (m_at_2x : Int32) (m_wrong_2x : Int32) (m_isAsked_2x : Int32) (m_askedHorse_2x : Int32) (m_askedFence_2x : Int32) (m_askedLetter_2x : Int32) (m_askedHeight_2x : Int32) (m_spent_2x : (Nat → Int32)) (m_little_2x : (Nat → Int32)), k_X12_layFences_2  m_read_2x m_length_2x m_top_2x m_at_2x m_wrong_2x m_isAsked_2x m_askedHorse_2x m_askedFence_2x m_askedLetter_2x m_askedHeight_2x m_spent_2x m_little_2x = some (w_m_read, w_m_length, w_m_top, w_m_at, w_m_wrong, w_m_isAsked, w_m_askedHorse, w_m_askedFence, w_m_askedLetter, w_m_askedHeight, w_m_spent, w_m_little) → zJ l zW 207 mX12_layFences σ ([(3457, m_fences), (3474, m_read_2x), (3475, m_length_2x), (3476, m_top_2x), (3477, m_at_2x), (3478, m_wrong_2x), (3483, m_ruleSize), (3484, m_isAsked_2x), (3485, m_askedHorse_2x), (3486, m_askedFence_2x), (3487, m_askedLetter_2x), (3488, m_askedHeight_2x)], [(56, m_kind), (57, m_height), (58, m_feet), (59, m_stride), (60, m_scope), (61, m_care), (69, m_rule), (72, m_spent_2x), (73, m_little_2x)], []) 104 [] [] none ([(3457, m_fences), (3474, w_m_read), (3475, w_m_length), (3476, w_m_top), (3477, w_m_at), (3478, w_m_wrong), (3483, m_ruleSize), (3484, w_m_isAsked), (3485, w_m_askedHorse), (3486, w_m_askedFence), (3487, w_m_askedLetter), (3488, w_m_askedHeight)], [(56, m_kind), (57, m_height), (58, m_feet), (59, m_stride), (60, m_scope), (61, m_care), (69, m_rule), (72, w_m_spent), (73, w_m_little)], []) := by
    intro m_read_2x m_length_2x m_top_2x m_at_2x m_wrong_2x m_isAsked_2x m_askedHorse_2x m_askedFence_2x m_askedLetter_2x m_askedHeight_2x m_spent_2x m_little_2x h
    unfold k_X12_layFences_2 at h
    obtain ⟨rfl, rfl, rfl, rfl, rfl, rfl, rfl, rfl, rfl, rfl, rfl, rfl⟩ := so12 h
    exact zJ_vret dX12_layFences_104 rfl
  refine zJ_loc (ls' := [(0, .ref 54), (1, .int p1), (2, .int p2), (3, .int (0 : Int32))]) (zll_c rfl (zll_c rfl (zll_c rfl (zll_c rfl zll_n)))) ?_
  refine ml13_J (fun (v3_2 : Int32) (m_read_2 : Int32) (m_length_2 : Int32) (m_top_2 : Int32) (m_at_2 : Int32) (m_wrong_2 : Int32) (m_isAsked_2 : Int32) (m_askedHorse_2 : Int32) (m_askedFence_2 : Int32) (m_askedLetter_2 : Int32) (m_askedHeight_2 : Int32) (m_spent_2 : (Nat → Int32)) (m_little_2 : (Nat → Int32)) => zJ l zW 207 mX12_layFences σ ([(3457, m_fences), (3474, m_read_2), (3475, m_length_2), (3476, m_top_2), (3477, m_at_2), (3478, m_wrong_2), (3483, m_ruleSize), (3484, m_isAsked_2), (3485, m_askedHorse_2), (3486, m_askedFence_2), (3487, m_askedLetter_2), (3488, m_askedHeight_2)], [(56, m_kind), (57, m_height), (58, m_feet), (59, m_stride), (60, m_scope), (61, m_care), (69, m_rule), (72, m_spent_2), (73, m_little_2)], []) 2 [(0, .ref 54), (1, .int p1), (2, .int p2), (3, .int v3_2)] [] none ([(3457, m_fences), (3474, w_m_read), (3475, w_m_length), (3476, w_m_top), (3477, w_m_at), (3478, w_m_wrong), (3483, m_ruleSize), (3484, w_m_isAsked), (3485, w_m_askedHorse), (3486, w_m_askedFence), (3487, w_m_askedLetter), (3488, w_m_askedHeight)], [(56, m_kind), (57, m_height), (58, m_feet), (59, m_stride), (60, m_scope), (61, m_care), (69, m_rule), (72, w_m_spent), (73, w_m_little)], [])) (fun rc2 hrc2 v3_2 m_read_2 m_length_2 m_top_2 m_at_2 m_wrong_2 m_isAsked_2 m_askedHorse_2 m_askedFence_2 m_askedLetter_2 m_askedHeight_2 m_spent_2 m_little_2 h => ?_) zN _ _ _ _ _ _ _ _ _ _ _ _ _ h
  unfold s_X12_layFences_2 at h
  refine zJ_iload_n dX12_layFences_2 rfl rfl ?_
  refine zJ_aload_n dX12_layFences_3 rfl rfl ?_
  refine zJ_geti (mi := mX12_layFences) (x := m_fences) dX12_layFences_4 F_X12_119 zW_54 rfl rfl rfl ?_
  refine zJ_icmp_ge (tgt := 104) dX12_layFences_7 (by decide) rfl (fun hc => ?_) (fun hc => ?_)
  · replace h := it_t hc h
    refine zJ_loc (ls' := []) zll_n ?_
    exact hk2 _ _ _ _ _ _ _ _ _ _ _ _ h
  · replace h := it_f hc h
    refine zJ_iconst dX12_layFences_10 zc_0 rfl ?_
    refine zJ_istore (ls' := [(4, .int (0 : Int32)), (0, .ref 54), (1, .int p1), (2, .int p2), (3, .int v3_2)]) dX12_layFences_11 rfl rfl rfl ?_
    have hk13 : ∀ (m_read_13x : Int32) (m_length_13x : Int32) (m_top_13x : Int32) (m_at_13x : Int32) (m_wrong_13x : Int32) (m_isAsked_13x : Int32) (m_askedHorse_13x : Int32) (m_askedFence_13x : Int32) (m_askedLetter_13x : Int32) (m_askedHeight_13x : Int32) (m_spent_13x : (Nat → Int32)) (m_little_13x : (Nat → Int32)), k_X12_layFences_13 rc2 v3_2 m_read_13x m_length_13x m_top_13x m_at_13x m_wrong_13x m_isAsked_13x m_askedHorse_13x m_askedFence_13x m_askedLetter_13x m_askedHeight_13x m_spent_13x m_little_13x = some (w_m_read, w_m_length, w_m_top, w_m_at, w_m_wrong, w_m_isAsked, w_m_askedHorse, w_m_askedFence, w_m_askedLetter, w_m_askedHeight, w_m_spent, w_m_little) → zJ l zW 207 mX12_layFences σ ([(3457, m_fences), (3474, m_read_13x), (3475, m_length_13x), (3476, m_top_13x), (3477, m_at_13x), (3478, m_wrong_13x), (3483, m_ruleSize), (3484, m_isAsked_13x), (3485, m_askedHorse_13x), (3486, m_askedFence_13x), (3487, m_askedLetter_13x), (3488, m_askedHeight_13x)], [(56, m_kind), (57, m_height), (58, m_feet), (59, m_stride), (60, m_scope), (61, m_care), (69, m_rule), (72, m_spent_13x), (73, m_little_13x)], []) 98 [(0, .ref 54), (1, .int p1), (2, .int p2), (3, .int v3_2)] [] none ([(3457, m_fences), (3474, w_m_read), (3475, w_m_length), (3476, w_m_top), (3477, w_m_at), (3478, w_m_wrong), (3483, m_ruleSize), (3484, w_m_isAsked), (3485, w_m_askedHorse), (3486, w_m_askedFence), (3487, w_m_askedLetter), (3488, w_m_askedHeight)], [(56, m_kind), (57, m_height), (58, m_feet), (59, m_stride), (60, m_scope), (61, m_care), (69, m_rule), (72, w_m_spent), (73, w_m_little)], []) := by
      intro m_read_13x m_length_13x m_top_13x m_at_13x m_wrong_13x m_isAsked_13x m_askedHorse_13x m_askedFence_13x m_askedLetter_13x m_askedHeight_13x m_spent_13x m_little_13x h
      unfold k_X12_layFences_13 at h
      obtain ⟨v3n1, ev3n1, h⟩ := lt1_some h
      refine zJ_iincN (ls' := [(3, .int v3n1), (0, .ref 54), (1, .int p1), (2, .int p2)]) dX12_layFences_98 rfl rfl zc_1 ev3n1 rfl rfl ?_
      refine zJ_goto (tgt := 2) dX12_layFences_101 (by decide) ?_
      refine zJ_loc (ls' := [(0, .ref 54), (1, .int p1), (2, .int p2), (3, .int v3n1)]) (zll_c rfl (zll_c rfl (zll_c rfl (zll_c rfl zll_n)))) ?_
      exact hrc2 _ _ _ _ _ _ _ _ _ _ _ _ _ h
    refine zJ_loc (ls' := [(0, .ref 54), (1, .int p1), (2, .int p2), (3, .int v3_2), (4, .int (0 : Int32))]) (zll_c rfl (zll_c rfl (zll_c rfl (zll_c rfl (zll_c rfl zll_n))))) ?_
    refine ml13_J (fun (v4_13 : Int32) (m_read_13 : Int32) (m_length_13 : Int32) (m_top_13 : Int32) (m_at_13 : Int32) (m_wrong_13 : Int32) (m_isAsked_13 : Int32) (m_askedHorse_13 : Int32) (m_askedFence_13 : Int32) (m_askedLetter_13 : Int32) (m_askedHeight_13 : Int32) (m_spent_13 : (Nat → Int32)) (m_little_13 : (Nat → Int32)) => zJ l zW 207 mX12_layFences σ ([(3457, m_fences), (3474, m_read_13), (3475, m_length_13), (3476, m_top_13), (3477, m_at_13), (3478, m_wrong_13), (3483, m_ruleSize), (3484, m_isAsked_13), (3485, m_askedHorse_13), (3486, m_askedFence_13), (3487, m_askedLetter_13), (3488, m_askedHeight_13)], [(56, m_kind), (57, m_height), (58, m_feet), (59, m_stride), (60, m_scope), (61, m_care), (69, m_rule), (72, m_spent_13), (73, m_little_13)], []) 13 [(0, .ref 54), (1, .int p1), (2, .int p2), (3, .int v3_2), (4, .int v4_13)] [] none ([(3457, m_fences), (3474, w_m_read), (3475, w_m_length), (3476, w_m_top), (3477, w_m_at), (3478, w_m_wrong), (3483, m_ruleSize), (3484, w_m_isAsked), (3485, w_m_askedHorse), (3486, w_m_askedFence), (3487, w_m_askedLetter), (3488, w_m_askedHeight)], [(56, m_kind), (57, m_height), (58, m_feet), (59, m_stride), (60, m_scope), (61, m_care), (69, m_rule), (72, w_m_spent), (73, w_m_little)], [])) (fun rc13 hrc13 v4_13 m_read_13 m_length_13 m_top_13 m_at_13 m_wrong_13 m_isAsked_13 m_askedHorse_13 m_askedFence_13 m_askedLetter_13 m_askedHeight_13 m_spent_13 m_little_13 h => ?_) zN _ _ _ _ _ _ _ _ _ _ _ _ _ h
    unfold s_X12_layFences_13 at h
    refine zJ_iload dX12_layFences_13 rfl rfl ?_
    refine zJ_bipush dX12_layFences_15 zb_8 rfl ?_
    refine zJ_icmp_ge (tgt := 98) dX12_layFences_17 (by decide) rfl (fun hc => ?_) (fun hc => ?_)
    · replace h := it_t hc h
      refine zJ_loc (ls' := [(0, .ref 54), (1, .int p1), (2, .int p2), (3, .int v3_2)]) (zll_c rfl (zll_c rfl (zll_c rfl (zll_c rfl zll_n)))) ?_
      exact hk13 _ _ _ _ _ _ _ _ _ _ _ _ h
    · replace h := it_f hc h
      refine zJ_aload_n dX12_layFences_20 rfl rfl ?_
      refine zJ_iload_n dX12_layFences_21 rfl rfl ?_
      refine zJ_iload dX12_layFences_22 rfl rfl ?_
      obtain ⟨rn2, hcl, h⟩ := bd1_some h
      refine zJ_callV2 (σ := σ) (L := ([(3457, m_fences), (3474, m_read_13), (3475, m_length_13), (3476, m_top_13), (3477, m_at_13), (3478, m_wrong_13), (3483, m_ruleSize), (3484, m_isAsked_13), (3485, m_askedHorse_13), (3486, m_askedFence_13), (3487, m_askedLetter_13), (3488, m_askedHeight_13)], [(56, m_kind), (57, m_height), (58, m_feet), (59, m_stride), (60, m_scope), (61, m_care), (69, m_rule), (72, m_spent_13), (73, m_little_13)], [])) (mi := mX12_layFences) (yi := mX12_tenthsOf) (as := [.int v3_2, .int v4_13]) (st := []) (L2 := ([(3457, m_fences), (3474, m_read_13), (3475, m_length_13), (3476, m_top_13), (3477, m_at_13), (3478, m_wrong_13), (3483, m_ruleSize), (3484, m_isAsked_13), (3485, m_askedHorse_13), (3486, m_askedFence_13), (3487, m_askedLetter_13), (3488, m_askedHeight_13)], [(56, m_kind), (57, m_height), (58, m_feet), (59, m_stride), (60, m_scope), (61, m_care), (69, m_rule), (72, m_spent_13), (73, m_little_13)], [])) dX12_layFences_24 ML_X12_269 Yv_X12_tenthsOf rfl zW_54 rfl rfl (t_X12_tenthsOf l _ hcl) (zsub_i zle_n (zle_c rfl (zle_c rfl zle_n)) zle_n) (zjok_i rfl rfl (zle_c rfl (zle_c rfl (zle_c rfl (zle_c rfl (zle_c rfl (zle_c rfl (zle_c rfl (zle_c rfl (zle_c rfl (zle_c rfl (zle_c rfl (zle_c rfl zle_n)))))))))))) rfl rfl (zle_c rfl (zle_c rfl (zle_c rfl (zle_c rfl (zle_c rfl (zle_c rfl (zle_c rfl (zle_c rfl (zle_c rfl zle_n))))))))) rfl rfl zle_n) (Nat.le_of_ble_eq_true rfl) (Nat.le_of_ble_eq_true rfl) rfl rfl ?_
      refine zJ_istore (ls' := [(5, .int rn2), (0, .ref 54), (1, .int p1), (2, .int p2), (3, .int v3_2), (4, .int v4_13)]) dX12_layFences_27 rfl rfl rfl ?_
      refine zJ_aload_n dX12_layFences_29 rfl rfl ?_
      refine zJ_iload_n dX12_layFences_30 rfl rfl ?_
      refine zJ_iload_n dX12_layFences_31 rfl rfl ?_
      refine zJ_iload dX12_layFences_32 rfl rfl ?_
      obtain ⟨rn3, m_readn4, m_lengthn5, m_topn6, m_atn7, m_wrongn8, m_isAskedn9, m_askedHorsen10, m_askedFencen11, m_askedLettern12, m_askedHeightn13, hcl, h⟩ := bd11_some h
      refine zJ_callV2 (σ := σ) (L := ([(3457, m_fences), (3474, m_read_13), (3475, m_length_13), (3476, m_top_13), (3477, m_at_13), (3478, m_wrong_13), (3483, m_ruleSize), (3484, m_isAsked_13), (3485, m_askedHorse_13), (3486, m_askedFence_13), (3487, m_askedLetter_13), (3488, m_askedHeight_13)], [(56, m_kind), (57, m_height), (58, m_feet), (59, m_stride), (60, m_scope), (61, m_care), (69, m_rule), (72, m_spent_13), (73, m_little_13)], [])) (mi := mX12_layFences) (yi := mX12_oddsOf_) (as := [.int p1, .int v3_2, .int v4_13]) (st := []) (L2 := ([(3457, m_fences), (3474, m_readn4), (3475, m_lengthn5), (3476, m_topn6), (3477, m_atn7), (3478, m_wrongn8), (3483, m_ruleSize), (3484, m_isAskedn9), (3485, m_askedHorsen10), (3486, m_askedFencen11), (3487, m_askedLettern12), (3488, m_askedHeightn13)], [(56, m_kind), (57, m_height), (58, m_feet), (59, m_stride), (60, m_scope), (61, m_care), (69, m_rule), (72, m_spent_13), (73, m_little_13)], [])) dX12_layFences_34 ML_X12_259 Yv_X12_oddsOf_ rfl zW_54 rfl rfl (t_X12_oddsOf_ l _ hcl) (zsub_i (zle_c rfl (zle_c rfl (zle_c rfl (zle_c rfl (zle_c rfl (zle_c rfl (zle_c rfl (zle_c rfl (zle_c rfl (zle_c rfl (zle_c rfl zle_n))))))))))) (zle_c rfl (zle_c rfl (zle_c rfl (zle_c rfl (zle_c rfl (zle_c rfl (zle_c rfl zle_n))))))) zle_n) (zjok_i rfl rfl (zle_c rfl (zle_c rfl (zle_c rfl (zle_c rfl (zle_c rfl (zle_c rfl (zle_c rfl (zle_c rfl (zle_c rfl (zle_c rfl (zle_c rfl (zle_c rfl zle_n)))))))))))) rfl rfl (zle_c rfl (zle_c rfl (zle_c rfl (zle_c rfl (zle_c rfl (zle_c rfl (zle_c rfl (zle_c rfl (zle_c rfl zle_n))))))))) rfl rfl zle_n) (Nat.le_of_ble_eq_true rfl) (Nat.le_of_ble_eq_true rfl) rfl rfl ?_
      refine zJ_aload_n dX12_layFences_37 rfl rfl ?_
      refine zJ_iload_n dX12_layFences_38 rfl rfl ?_
      refine zJ_iload_n dX12_layFences_39 rfl rfl ?_
      obtain ⟨rn14, hcl, h⟩ := bd1_some h
      refine zJ_callV2 (σ := σ) (L := ([(3457, m_fences), (3474, m_readn4), (3475, m_lengthn5), (3476, m_topn6), (3477, m_atn7), (3478, m_wrongn8), (3483, m_ruleSize), (3484, m_isAskedn9), (3485, m_askedHorsen10), (3486, m_askedFencen11), (3487, m_askedLettern12), (3488, m_askedHeightn13)], [(56, m_kind), (57, m_height), (58, m_feet), (59, m_stride), (60, m_scope), (61, m_care), (69, m_rule), (72, m_spent_13), (73, m_little_13)], [])) (mi := mX12_layFences) (yi := mX12_refusalOf) (as := [.int p1, .int v3_2]) (st := [.int rn3]) (L2 := ([(3457, m_fences), (3474, m_readn4), (3475, m_lengthn5), (3476, m_topn6), (3477, m_atn7), (3478, m_wrongn8), (3483, m_ruleSize), (3484, m_isAskedn9), (3485, m_askedHorsen10), (3486, m_askedFencen11), (3487, m_askedLettern12), (3488, m_askedHeightn13)], [(56, m_kind), (57, m_height), (58, m_feet), (59, m_stride), (60, m_scope), (61, m_care), (69, m_rule), (72, m_spent_13), (73, m_little_13)], [])) dX12_layFences_40 ML_X12_262 Yv_X12_refusalOf rfl zW_54 rfl rfl (t_X12_refusalOf l _ hcl) (zsub_i zle_n (zle_c rfl (zle_c rfl (zle_c rfl (zle_c rfl zle_n)))) zle_n) (zjok_i rfl rfl (zle_c rfl (zle_c rfl (zle_c rfl (zle_c rfl (zle_c rfl (zle_c rfl (zle_c rfl (zle_c rfl (zle_c rfl (zle_c rfl (zle_c rfl (zle_c rfl zle_n)))))))))))) rfl rfl (zle_c rfl (zle_c rfl (zle_c rfl (zle_c rfl (zle_c rfl (zle_c rfl (zle_c rfl (zle_c rfl (zle_c rfl zle_n))))))))) rfl rfl zle_n) (Nat.le_of_ble_eq_true rfl) (Nat.le_of_ble_eq_true rfl) rfl rfl ?_
      refine zJ_iadd dX12_layFences_43 rfl ?_
      obtain ⟨v6n15, ev6n15, h⟩ := lt1_some h
      refine zJ_nmi ev6n15 ?_
      refine zJ_istore (ls' := [(6, .int v6n15), (5, .int rn2), (0, .ref 54), (1, .int p1), (2, .int p2), (3, .int v3_2), (4, .int v4_13)]) dX12_layFences_44 rfl rfl rfl ?_
      refine zJ_aload_n dX12_layFences_46 rfl rfl ?_
      refine zJ_getr (mi := mX12_layFences) dX12_layFences_47 F_X12_67 zW_54 rfl rfl ?_
      refine zJ_bipush dX12_layFences_50 zb_8 rfl ?_
      refine zJ_iload_n dX12_layFences_52 rfl rfl ?_
      refine zJ_imul dX12_layFences_53 rfl ?_
      refine zJ_iload dX12_layFences_54 rfl rfl ?_
      refine zJ_iadd dX12_layFences_56 rfl ?_
      refine zJ_iload_n dX12_layFences_57 rfl rfl ?_
      have hj_X12_layFences_68 : ∀ (t2_68j : Int32), j_X12_layFences_68 p2 v3_2 rc13 v4_13 m_spent_13 m_little_13 rn2 m_readn4 m_lengthn5 m_topn6 m_atn7 m_wrongn8 m_isAskedn9 m_askedHorsen10 m_askedFencen11 m_askedLettern12 m_askedHeightn13 v6n15 t2_68j = some (w_m_read, w_m_length, w_m_top, w_m_at, w_m_wrong, w_m_isAsked, w_m_askedHorse, w_m_askedFence, w_m_askedLetter, w_m_askedHeight, w_m_spent, w_m_little) → zJ l zW 207 mX12_layFences σ ([(3457, m_fences), (3474, m_readn4), (3475, m_lengthn5), (3476, m_topn6), (3477, m_atn7), (3478, m_wrongn8), (3483, m_ruleSize), (3484, m_isAskedn9), (3485, m_askedHorsen10), (3486, m_askedFencen11), (3487, m_askedLettern12), (3488, m_askedHeightn13)], [(56, m_kind), (57, m_height), (58, m_feet), (59, m_stride), (60, m_scope), (61, m_care), (69, m_rule), (72, m_spent_13), (73, m_little_13)], []) 68 [(0, .ref 54), (1, .int p1), (2, .int p2), (3, .int v3_2), (4, .int v4_13), (5, .int rn2), (6, .int v6n15)] [.int t2_68j, .int (((8 : Int32) * v3_2) + v4_13), .ref 72] none ([(3457, m_fences), (3474, w_m_read), (3475, w_m_length), (3476, w_m_top), (3477, w_m_at), (3478, w_m_wrong), (3483, m_ruleSize), (3484, w_m_isAsked), (3485, w_m_askedHorse), (3486, w_m_askedFence), (3487, w_m_askedLetter), (3488, w_m_askedHeight)], [(56, m_kind), (57, m_height), (58, m_feet), (59, m_stride), (60, m_scope), (61, m_care), (69, m_rule), (72, w_m_spent), (73, w_m_little)], []) := by
        intro t2_68j h
        unfold j_X12_layFences_68 at h
        obtain ⟨hg, h⟩ := gd_some h
        refine zK_iast (mi := mX12_layFences) (f := m_spent_13) (lb' := [(56, m_kind), (57, m_height), (58, m_feet), (59, m_stride), (60, m_scope), (61, m_care), (69, m_rule), (72, (upd m_spent_13 (((8 : Int32) * v3_2) + v4_13).toNatClampNeg t2_68j)), (73, m_little_13)]) dX12_layFences_68 zW_72 (ix_in hg) rfl rfl rfl ?_
        refine zJ_aload_n dX12_layFences_69 rfl rfl ?_
        refine zJ_getr (mi := mX12_layFences) dX12_layFences_70 F_X12_70 zW_54 rfl rfl ?_
        refine zJ_bipush dX12_layFences_73 zb_8 rfl ?_
        refine zJ_iload_n dX12_layFences_75 rfl rfl ?_
        refine zJ_imul dX12_layFences_76 rfl ?_
        refine zJ_iload dX12_layFences_77 rfl rfl ?_
        refine zJ_iadd dX12_layFences_79 rfl ?_
        refine zJ_iload_n dX12_layFences_80 rfl rfl ?_
        refine zJ_if_eq (tgt := 89) dX12_layFences_81 (by decide) rfl (fun hc => ?_) (fun hc => ?_)
        · replace h := it_t hc h
          refine zJ_iload dX12_layFences_89 rfl rfl ?_
          obtain ⟨hg, h⟩ := gd_some h
          refine zK_iast (mi := mX12_layFences) (f := m_little_13) (lb' := [(56, m_kind), (57, m_height), (58, m_feet), (59, m_stride), (60, m_scope), (61, m_care), (69, m_rule), (72, (upd m_spent_13 (((8 : Int32) * v3_2) + v4_13).toNatClampNeg t2_68j)), (73, (upd m_little_13 (((8 : Int32) * v3_2) + v4_13).toNatClampNeg rn2))]) dX12_layFences_91 zW_73 (ix_in hg) rfl rfl rfl ?_
          obtain ⟨v4n16, ev4n16, h⟩ := lt1_some h
          refine zJ_iincN (ls' := [(4, .int v4n16), (0, .ref 54), (1, .int p1), (2, .int p2), (3, .int v3_2), (5, .int rn2), (6, .int v6n15)]) dX12_layFences_92 rfl rfl zc_1 ev4n16 rfl rfl ?_
          refine zJ_goto (tgt := 13) dX12_layFences_95 (by decide) ?_
          refine zJ_loc (ls' := [(0, .ref 54), (1, .int p1), (2, .int p2), (3, .int v3_2), (4, .int v4n16)]) (zll_c rfl (zll_c rfl (zll_c rfl (zll_c rfl (zll_c rfl zll_n))))) ?_
          exact hrc13 _ _ _ _ _ _ _ _ _ _ _ _ _ h
        · replace h := it_f hc h
          refine zJ_iload dX12_layFences_84 rfl rfl ?_
          refine zJ_goto (tgt := 91) dX12_layFences_86 (by decide) ?_
          obtain ⟨hg, h⟩ := gd_some h
          refine zK_iast (mi := mX12_layFences) (f := m_little_13) (lb' := [(56, m_kind), (57, m_height), (58, m_feet), (59, m_stride), (60, m_scope), (61, m_care), (69, m_rule), (72, (upd m_spent_13 (((8 : Int32) * v3_2) + v4_13).toNatClampNeg t2_68j)), (73, (upd m_little_13 (((8 : Int32) * v3_2) + v4_13).toNatClampNeg v6n15))]) dX12_layFences_91 zW_73 (ix_in hg) rfl rfl rfl ?_
          obtain ⟨v4n17, ev4n17, h⟩ := lt1_some h
          refine zJ_iincN (ls' := [(4, .int v4n17), (0, .ref 54), (1, .int p1), (2, .int p2), (3, .int v3_2), (5, .int rn2), (6, .int v6n15)]) dX12_layFences_92 rfl rfl zc_1 ev4n17 rfl rfl ?_
          refine zJ_goto (tgt := 13) dX12_layFences_95 (by decide) ?_
          refine zJ_loc (ls' := [(0, .ref 54), (1, .int p1), (2, .int p2), (3, .int v3_2), (4, .int v4n17)]) (zll_c rfl (zll_c rfl (zll_c rfl (zll_c rfl (zll_c rfl zll_n))))) ?_
          exact hrc13 _ _ _ _ _ _ _ _ _ _ _ _ _ h
      refine zJ_if_eq (tgt := 66) dX12_layFences_58 (by decide) rfl (fun hc => ?_) (fun hc => ?_)
      · replace h := it_t hc h
        refine zJ_iload dX12_layFences_66 rfl rfl ?_
        refine zJ_loc (ls' := [(0, .ref 54), (1, .int p1), (2, .int p2), (3, .int v3_2), (4, .int v4_13), (5, .int rn2), (6, .int v6n15)]) (zll_c rfl (zll_c rfl (zll_c rfl (zll_c rfl (zll_c rfl (zll_c rfl (zll_c rfl zll_n))))))) ?_
        exact hj_X12_layFences_68 _ h
      · replace h := it_f hc h
        refine zJ_iload dX12_layFences_61 rfl rfl ?_
        refine zJ_goto (tgt := 68) dX12_layFences_63 (by decide) ?_
        refine zJ_loc (ls' := [(0, .ref 54), (1, .int p1), (2, .int p2), (3, .int v3_2), (4, .int v4_13), (5, .int rn2), (6, .int v6n15)]) (zll_c rfl (zll_c rfl (zll_c rfl (zll_c rfl (zll_c rfl (zll_c rfl (zll_c rfl zll_n))))))) ?_
        exact hj_X12_layFences_68 _ h
set_option maxRecDepth 100000 in
set_option maxHeartbeats 4000000 in
theorem t_X12_leftBy (l : Launch) (σ : zS) {p1 : Int32} {p2 : Int32} {p3 : Int32} {m_left : (Nat → Int32)} {m_spent : (Nat → Int32)} {m_little : (Nat → Int32)} {r : Int32} (h : f_X12_leftBy p1 p2 p3 m_left m_spent m_little = some r) : zMt l zW 0 mX12_leftBy σ ([], [(71, m_left), (72, m_spent), (73, m_little)], []) [.ref 54, .int p1, .int p2, .int p3] (some (.int r)) ([], [(71, m_left), (72, m_spent), (73, m_little)], []) := by
  refine zMt_of (ls := [(0, .ref 54), (1, .int p1), (2, .int p2), (3, .int p3)]) (by decide) rfl (fun _ => Nat.le_of_ble_eq_true rfl) rfl ?_
  unfold f_X12_leftBy at h
  refine zJ_bipush dX12_leftBy_0 zb_8 rfl ?_
  refine zJ_iload_n dX12_leftBy_2 rfl rfl ?_
  refine zJ_imul dX12_leftBy_3 rfl ?_
  refine zJ_iload_n dX12_leftBy_4 rfl rfl ?_
  refine zJ_iadd dX12_leftBy_5 rfl ?_
  obtain ⟨v4n1, ev4n1, h⟩ := lt1_some h
  refine zJ_nmi ev4n1 ?_
  refine zJ_istore (ls' := [(4, .int v4n1), (0, .ref 54), (1, .int p1), (2, .int p2), (3, .int p3)]) dX12_leftBy_6 rfl rfl rfl ?_
  refine zJ_aload_n dX12_leftBy_8 rfl rfl ?_
  refine zJ_getr (mi := mX12_leftBy) dX12_leftBy_9 F_X12_67 zW_54 rfl rfl ?_
  refine zJ_iload dX12_leftBy_12 rfl rfl ?_
  obtain ⟨hg, h⟩ := gd_some h
  refine zJ_iald (mi := mX12_leftBy) (f := m_spent) dX12_leftBy_14 zW_72 (ix_in hg) rfl rfl ?_
  refine zJ_iload_n dX12_leftBy_15 rfl rfl ?_
  refine zJ_icmp_le (tgt := 23) dX12_leftBy_16 (by decide) rfl (fun hc => ?_) (fun hc => ?_)
  · replace h := it_t hc h
    refine zJ_aload_n dX12_leftBy_23 rfl rfl ?_
    refine zJ_getr (mi := mX12_leftBy) dX12_leftBy_24 F_X12_64 zW_54 rfl rfl ?_
    refine zJ_sipush dX12_leftBy_27 zs_1300 rfl ?_
    refine zJ_iload_n dX12_leftBy_30 rfl rfl ?_
    refine zJ_iconst dX12_leftBy_31 zc_1 rfl ?_
    refine zJ_iadd dX12_leftBy_32 rfl ?_
    refine zJ_imul dX12_leftBy_33 rfl ?_
    refine zJ_iload_n dX12_leftBy_34 rfl rfl ?_
    refine zJ_iadd dX12_leftBy_35 rfl ?_
    refine zJ_aload_n dX12_leftBy_36 rfl rfl ?_
    refine zJ_getr (mi := mX12_leftBy) dX12_leftBy_37 F_X12_67 zW_54 rfl rfl ?_
    refine zJ_iload dX12_leftBy_40 rfl rfl ?_
    obtain ⟨hg, h⟩ := gd_some h
    refine zJ_iald (mi := mX12_leftBy) (f := m_spent) dX12_leftBy_42 zW_72 (ix_in hg) rfl rfl ?_
    refine zJ_isub dX12_leftBy_43 rfl ?_
    obtain ⟨hg, h⟩ := gd_some h
    refine zJ_iald (mi := mX12_leftBy) (f := m_left) dX12_leftBy_44 zW_71 (ix_in hg) rfl rfl ?_
    obtain ⟨v5n2, ev5n2, h⟩ := lt1_some h
    refine zJ_nmi ev5n2 ?_
    refine zJ_istore (ls' := [(5, .int v5n2), (4, .int v4n1), (0, .ref 54), (1, .int p1), (2, .int p2), (3, .int p3)]) dX12_leftBy_45 rfl rfl rfl ?_
    refine zJ_iload dX12_leftBy_47 rfl rfl ?_
    refine zJ_ldc_w (v := 100000000) dX12_leftBy_49 C_X12_272 rfl ?_
    refine zJ_icmp_ne (tgt := 61) dX12_leftBy_52 (by decide) rfl (fun hc => ?_) (fun hc => ?_)
    · replace h := it_f hc h
      refine zJ_iload dX12_leftBy_61 rfl rfl ?_
      refine zJ_sipush dX12_leftBy_63 zs_10000 rfl ?_
      refine zJ_aload_n dX12_leftBy_66 rfl rfl ?_
      refine zJ_getr (mi := mX12_leftBy) dX12_leftBy_67 F_X12_70 zW_54 rfl rfl ?_
      refine zJ_iload dX12_leftBy_70 rfl rfl ?_
      obtain ⟨hg, h⟩ := gd_some h
      refine zJ_iald (mi := mX12_leftBy) (f := m_little) dX12_leftBy_72 zW_73 (ix_in hg) rfl rfl ?_
      refine zJ_imul dX12_leftBy_73 rfl ?_
      refine zJ_iadd dX12_leftBy_74 rfl ?_
      refine zJ_aload_n dX12_leftBy_75 rfl rfl ?_
      refine zJ_getr (mi := mX12_leftBy) dX12_leftBy_76 F_X12_67 zW_54 rfl rfl ?_
      refine zJ_iload dX12_leftBy_79 rfl rfl ?_
      obtain ⟨hg, h⟩ := gd_some h
      refine zJ_iald (mi := mX12_leftBy) (f := m_spent) dX12_leftBy_81 zW_72 (ix_in hg) rfl rfl ?_
      refine zJ_iadd dX12_leftBy_82 rfl ?_
      obtain rfl := so1 h
      exact zJ_iret dX12_leftBy_83 rfl rfl
    · replace h := it_t hc h
      refine zJ_ldc_w (v := 100000000) dX12_leftBy_55 C_X12_272 rfl ?_
      refine zJ_goto (tgt := 83) dX12_leftBy_58 (by decide) ?_
      obtain rfl := so1 h
      exact zJ_iret dX12_leftBy_83 rfl rfl
  · replace h := it_f hc h
    refine zJ_ldc_w (v := 100000000) dX12_leftBy_19 C_X12_272 rfl ?_
    obtain rfl := so1 h
    exact zJ_iret dX12_leftBy_22 rfl rfl
