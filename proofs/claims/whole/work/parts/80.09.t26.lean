set_option maxRecDepth 100000 in
set_option maxHeartbeats 4000000 in
theorem t_X12_mean (l : Launch) (σ : zS) {p1 : Int32} {p2 : Int32} {m_fences : Int32} {m_allowed : Int32} {m_horses : Int32} {m_plans : Int32} {m_rowMany : Int32} {m_thrown : Int32} {m_read : Int32} {m_length : Int32} {m_top : Int32} {m_at : Int32} {m_wrong : Int32} {m_ruleSize : Int32} {m_isAsked : Int32} {m_askedHorse : Int32} {m_askedFence : Int32} {m_askedLetter : Int32} {m_askedHeight : Int32} {m_now : (Nat → Int32)} {m_kind : (Nat → Int32)} {m_height : (Nat → Int32)} {m_feet : (Nat → Int32)} {m_stride : (Nat → Int32)} {m_scope : (Nat → Int32)} {m_care : (Nat → Int32)} {m_plan : (Nat → Int32)} {m_money : (Nat → Int32)} {m_rule : (Nat → Int32)} {m_row : (Nat → Int64)} {r : Int32} {w_m_rowMany : Int32} {w_m_thrown : Int32} {w_m_read : Int32} {w_m_length : Int32} {w_m_top : Int32} {w_m_at : Int32} {w_m_wrong : Int32} {w_m_isAsked : Int32} {w_m_askedHorse : Int32} {w_m_askedFence : Int32} {w_m_askedLetter : Int32} {w_m_askedHeight : Int32} {w_m_row : (Nat → Int64)} (h : f_X12_mean p1 p2 m_fences m_allowed m_horses m_plans m_rowMany m_thrown m_read m_length m_top m_at m_wrong m_ruleSize m_isAsked m_askedHorse m_askedFence m_askedLetter m_askedHeight m_now m_kind m_height m_feet m_stride m_scope m_care m_plan m_money m_rule m_row = some (r, w_m_rowMany, w_m_thrown, w_m_read, w_m_length, w_m_top, w_m_at, w_m_wrong, w_m_isAsked, w_m_askedHorse, w_m_askedFence, w_m_askedLetter, w_m_askedHeight, w_m_row)) : zMt l zW 209 mX12_mean σ ([(3457, m_fences), (3461, m_allowed), (3462, m_horses), (3466, m_plans), (3472, m_rowMany), (3473, m_thrown), (3474, m_read), (3475, m_length), (3476, m_top), (3477, m_at), (3478, m_wrong), (3483, m_ruleSize), (3484, m_isAsked), (3485, m_askedHorse), (3486, m_askedFence), (3487, m_askedLetter), (3488, m_askedHeight)], [(55, m_now), (56, m_kind), (57, m_height), (58, m_feet), (59, m_stride), (60, m_scope), (61, m_care), (62, m_plan), (63, m_money), (69, m_rule)], [(65, m_row)]) [.ref 54, .int p1, .int p2] (some (.int r)) ([(3457, m_fences), (3461, m_allowed), (3462, m_horses), (3466, m_plans), (3472, w_m_rowMany), (3473, w_m_thrown), (3474, w_m_read), (3475, w_m_length), (3476, w_m_top), (3477, w_m_at), (3478, w_m_wrong), (3483, m_ruleSize), (3484, w_m_isAsked), (3485, w_m_askedHorse), (3486, w_m_askedFence), (3487, w_m_askedLetter), (3488, w_m_askedHeight)], [(55, m_now), (56, m_kind), (57, m_height), (58, m_feet), (59, m_stride), (60, m_scope), (61, m_care), (62, m_plan), (63, m_money), (69, m_rule)], [(65, w_m_row)]) := by
  refine zMt_of (ls := [(0, .ref 54), (1, .int p1), (2, .int p2)]) (by decide) rfl (fun _ => Nat.le_of_ble_eq_true rfl) rfl ?_
  unfold f_X12_mean at h
  refine zJ_aload_n dX12_mean_0 rfl rfl ?_
  refine zJ_iconst dX12_mean_1 zc_0 rfl ?_
  refine zK_puti (mi := mX12_mean) (la' := [(3457, m_fences), (3461, m_allowed), (3462, m_horses), (3466, m_plans), (3472, m_rowMany), (3473, (0 : Int32)), (3474, m_read), (3475, m_length), (3476, m_top), (3477, m_at), (3478, m_wrong), (3483, m_ruleSize), (3484, m_isAsked), (3485, m_askedHorse), (3486, m_askedFence), (3487, m_askedLetter), (3488, m_askedHeight)]) zW_ok dX12_mean_2 F_X12_113 P_12_17 zW_54 rfl rfl rfl ?_
  refine zJ_aload_n dX12_mean_5 rfl rfl ?_
  refine zJ_iload_n dX12_mean_6 rfl rfl ?_
  refine zJ_iload_n dX12_mean_7 rfl rfl ?_
  obtain ⟨rn1, hcl, h⟩ := bd1_some h
  refine zJ_callV2 (σ := σ) (L := ([(3457, m_fences), (3461, m_allowed), (3462, m_horses), (3466, m_plans), (3472, m_rowMany), (3473, (0 : Int32)), (3474, m_read), (3475, m_length), (3476, m_top), (3477, m_at), (3478, m_wrong), (3483, m_ruleSize), (3484, m_isAsked), (3485, m_askedHorse), (3486, m_askedFence), (3487, m_askedLetter), (3488, m_askedHeight)], [(55, m_now), (56, m_kind), (57, m_height), (58, m_feet), (59, m_stride), (60, m_scope), (61, m_care), (62, m_plan), (63, m_money), (69, m_rule)], [(65, m_row)])) (mi := mX12_mean) (yi := mX12_areBoth) (as := [.int p1, .int p2]) (st := []) (L2 := ([(3457, m_fences), (3461, m_allowed), (3462, m_horses), (3466, m_plans), (3472, m_rowMany), (3473, (0 : Int32)), (3474, m_read), (3475, m_length), (3476, m_top), (3477, m_at), (3478, m_wrong), (3483, m_ruleSize), (3484, m_isAsked), (3485, m_askedHorse), (3486, m_askedFence), (3487, m_askedLetter), (3488, m_askedHeight)], [(55, m_now), (56, m_kind), (57, m_height), (58, m_feet), (59, m_stride), (60, m_scope), (61, m_care), (62, m_plan), (63, m_money), (69, m_rule)], [(65, m_row)])) dX12_mean_8 ML_X12_279 Yv_X12_areBoth rfl zW_54 rfl rfl (t_X12_areBoth l _ hcl) (zsub_i (zle_c rfl (zle_c rfl zle_n)) zle_n zle_n) (zjok_i rfl rfl (zle_c rfl (zle_c rfl (zle_c rfl (zle_c rfl (zle_c rfl (zle_c rfl (zle_c rfl (zle_c rfl (zle_c rfl (zle_c rfl (zle_c rfl (zle_c rfl (zle_c rfl (zle_c rfl (zle_c rfl (zle_c rfl (zle_c rfl zle_n))))))))))))))))) rfl rfl (zle_c rfl (zle_c rfl (zle_c rfl (zle_c rfl (zle_c rfl (zle_c rfl (zle_c rfl (zle_c rfl (zle_c rfl (zle_c rfl zle_n)))))))))) rfl rfl (zle_c rfl zle_n)) (Nat.le_of_ble_eq_true rfl) (Nat.le_of_ble_eq_true rfl) rfl rfl ?_
  refine zJ_if_ne (tgt := 16) dX12_mean_11 (by decide) rfl (fun hc => ?_) (fun hc => ?_)
  · replace h := it_f hc h
    refine zJ_aload_n dX12_mean_16 rfl rfl ?_
    refine zJ_iconst dX12_mean_17 zc_0 rfl ?_
    refine zK_puti (mi := mX12_mean) (la' := [(3457, m_fences), (3461, m_allowed), (3462, m_horses), (3466, m_plans), (3472, (0 : Int32)), (3473, (0 : Int32)), (3474, m_read), (3475, m_length), (3476, m_top), (3477, m_at), (3478, m_wrong), (3483, m_ruleSize), (3484, m_isAsked), (3485, m_askedHorse), (3486, m_askedFence), (3487, m_askedLetter), (3488, m_askedHeight)]) zW_ok dX12_mean_18 F_X12_116 P_12_16 zW_54 rfl rfl rfl ?_
    refine zJ_aload_n dX12_mean_21 rfl rfl ?_
    refine zJ_aload_n dX12_mean_22 rfl rfl ?_
    refine zJ_aload_n dX12_mean_23 rfl rfl ?_
    refine zJ_getr (mi := mX12_mean) dX12_mean_24 F_X12_9 zW_54 rfl rfl ?_
    refine zJ_iload_n dX12_mean_27 rfl rfl ?_
    refine zJ_iconst dX12_mean_28 zc_1 rfl ?_
    obtain ⟨rn2, hcl, h⟩ := bd1_some h
    refine zJ_callV2 (σ := σ) (L := ([(3457, m_fences), (3461, m_allowed), (3462, m_horses), (3466, m_plans), (3472, (0 : Int32)), (3473, (0 : Int32)), (3474, m_read), (3475, m_length), (3476, m_top), (3477, m_at), (3478, m_wrong), (3483, m_ruleSize), (3484, m_isAsked), (3485, m_askedHorse), (3486, m_askedFence), (3487, m_askedLetter), (3488, m_askedHeight)], [(55, m_now), (56, m_kind), (57, m_height), (58, m_feet), (59, m_stride), (60, m_scope), (61, m_care), (62, m_plan), (63, m_money), (69, m_rule)], [(65, m_row)])) (mi := mX12_mean) (yi := mX12_moneyFor) (as := [.ref 55, .int p2, .int (1 : Int32)]) (st := [.ref 54]) (L2 := ([(3457, m_fences), (3461, m_allowed), (3462, m_horses), (3466, m_plans), (3472, (0 : Int32)), (3473, (0 : Int32)), (3474, m_read), (3475, m_length), (3476, m_top), (3477, m_at), (3478, m_wrong), (3483, m_ruleSize), (3484, m_isAsked), (3485, m_askedHorse), (3486, m_askedFence), (3487, m_askedLetter), (3488, m_askedHeight)], [(55, m_now), (56, m_kind), (57, m_height), (58, m_feet), (59, m_stride), (60, m_scope), (61, m_care), (62, m_plan), (63, m_money), (69, m_rule)], [(65, m_row)])) dX12_mean_29 ML_X12_372 Yv_X12_moneyFor rfl zW_54 rfl rfl (t_X12_moneyFor_m_now l _ hcl) (zsub_i (zle_c rfl (zle_c rfl zle_n)) (zle_c rfl (zle_c rfl (zle_c rfl (zle_c rfl (zle_c rfl zle_n))))) zle_n) (zjok_i rfl rfl (zle_c rfl (zle_c rfl (zle_c rfl (zle_c rfl (zle_c rfl (zle_c rfl (zle_c rfl (zle_c rfl (zle_c rfl (zle_c rfl (zle_c rfl (zle_c rfl (zle_c rfl (zle_c rfl (zle_c rfl (zle_c rfl (zle_c rfl zle_n))))))))))))))))) rfl rfl (zle_c rfl (zle_c rfl (zle_c rfl (zle_c rfl (zle_c rfl (zle_c rfl (zle_c rfl (zle_c rfl (zle_c rfl (zle_c rfl zle_n)))))))))) rfl rfl (zle_c rfl zle_n)) (Nat.le_of_ble_eq_true rfl) (Nat.le_of_ble_eq_true rfl) rfl rfl ?_
    refine zJ_i2l dX12_mean_32 rfl ?_
    obtain ⟨m_rowManyn3, m_rown4, hcl, h⟩ := bd2_some h
    refine zJ_callV2 (σ := σ) (L := ([(3457, m_fences), (3461, m_allowed), (3462, m_horses), (3466, m_plans), (3472, (0 : Int32)), (3473, (0 : Int32)), (3474, m_read), (3475, m_length), (3476, m_top), (3477, m_at), (3478, m_wrong), (3483, m_ruleSize), (3484, m_isAsked), (3485, m_askedHorse), (3486, m_askedFence), (3487, m_askedLetter), (3488, m_askedHeight)], [(55, m_now), (56, m_kind), (57, m_height), (58, m_feet), (59, m_stride), (60, m_scope), (61, m_care), (62, m_plan), (63, m_money), (69, m_rule)], [(65, m_row)])) (mi := mX12_mean) (yi := mX12_tell) (as := [.long rn2.toInt64]) (st := []) (L2 := ([(3457, m_fences), (3461, m_allowed), (3462, m_horses), (3466, m_plans), (3472, m_rowManyn3), (3473, (0 : Int32)), (3474, m_read), (3475, m_length), (3476, m_top), (3477, m_at), (3478, m_wrong), (3483, m_ruleSize), (3484, m_isAsked), (3485, m_askedHorse), (3486, m_askedFence), (3487, m_askedLetter), (3488, m_askedHeight)], [(55, m_now), (56, m_kind), (57, m_height), (58, m_feet), (59, m_stride), (60, m_scope), (61, m_care), (62, m_plan), (63, m_money), (69, m_rule)], [(65, m_rown4)])) dX12_mean_33 ML_X12_265 Yv_X12_tell rfl zW_54 rfl rfl (t_X12_tell l _ hcl) (zsub_i (zle_c rfl zle_n) zle_n (zle_c rfl zle_n)) (zjok_i rfl rfl (zle_c rfl (zle_c rfl (zle_c rfl (zle_c rfl (zle_c rfl (zle_c rfl (zle_c rfl (zle_c rfl (zle_c rfl (zle_c rfl (zle_c rfl (zle_c rfl (zle_c rfl (zle_c rfl (zle_c rfl (zle_c rfl (zle_c rfl zle_n))))))))))))))))) rfl rfl (zle_c rfl (zle_c rfl (zle_c rfl (zle_c rfl (zle_c rfl (zle_c rfl (zle_c rfl (zle_c rfl (zle_c rfl (zle_c rfl zle_n)))))))))) rfl rfl (zle_c rfl zle_n)) (Nat.le_of_ble_eq_true rfl) (Nat.le_of_ble_eq_true rfl) rfl rfl ?_
    refine zJ_aload_n dX12_mean_36 rfl rfl ?_
    refine zJ_aload_n dX12_mean_37 rfl rfl ?_
    refine zJ_aload_n dX12_mean_38 rfl rfl ?_
    refine zJ_getr (mi := mX12_mean) dX12_mean_39 F_X12_9 zW_54 rfl rfl ?_
    refine zJ_iload_n dX12_mean_42 rfl rfl ?_
    refine zJ_iconst dX12_mean_43 zc_0 rfl ?_
    obtain ⟨rn5, hcl, h⟩ := bd1_some h
    refine zJ_callV2 (σ := σ) (L := ([(3457, m_fences), (3461, m_allowed), (3462, m_horses), (3466, m_plans), (3472, m_rowManyn3), (3473, (0 : Int32)), (3474, m_read), (3475, m_length), (3476, m_top), (3477, m_at), (3478, m_wrong), (3483, m_ruleSize), (3484, m_isAsked), (3485, m_askedHorse), (3486, m_askedFence), (3487, m_askedLetter), (3488, m_askedHeight)], [(55, m_now), (56, m_kind), (57, m_height), (58, m_feet), (59, m_stride), (60, m_scope), (61, m_care), (62, m_plan), (63, m_money), (69, m_rule)], [(65, m_rown4)])) (mi := mX12_mean) (yi := mX12_moneyFor) (as := [.ref 55, .int p2, .int (0 : Int32)]) (st := [.ref 54]) (L2 := ([(3457, m_fences), (3461, m_allowed), (3462, m_horses), (3466, m_plans), (3472, m_rowManyn3), (3473, (0 : Int32)), (3474, m_read), (3475, m_length), (3476, m_top), (3477, m_at), (3478, m_wrong), (3483, m_ruleSize), (3484, m_isAsked), (3485, m_askedHorse), (3486, m_askedFence), (3487, m_askedLetter), (3488, m_askedHeight)], [(55, m_now), (56, m_kind), (57, m_height), (58, m_feet), (59, m_stride), (60, m_scope), (61, m_care), (62, m_plan), (63, m_money), (69, m_rule)], [(65, m_rown4)])) dX12_mean_44 ML_X12_372 Yv_X12_moneyFor rfl zW_54 rfl rfl (t_X12_moneyFor_m_now l _ hcl) (zsub_i (zle_c rfl (zle_c rfl zle_n)) (zle_c rfl (zle_c rfl (zle_c rfl (zle_c rfl (zle_c rfl zle_n))))) zle_n) (zjok_i rfl rfl (zle_c rfl (zle_c rfl (zle_c rfl (zle_c rfl (zle_c rfl (zle_c rfl (zle_c rfl (zle_c rfl (zle_c rfl (zle_c rfl (zle_c rfl (zle_c rfl (zle_c rfl (zle_c rfl (zle_c rfl (zle_c rfl (zle_c rfl zle_n))))))))))))))))) rfl rfl (zle_c rfl (zle_c rfl (zle_c rfl (zle_c rfl (zle_c rfl (zle_c rfl (zle_c rfl (zle_c rfl (zle_c rfl (zle_c rfl zle_n)))))))))) rfl rfl (zle_c rfl zle_n)) (Nat.le_of_ble_eq_true rfl) (Nat.le_of_ble_eq_true rfl) rfl rfl ?_
    refine zJ_i2l dX12_mean_47 rfl ?_
    obtain ⟨m_rowManyn6, m_rown7, hcl, h⟩ := bd2_some h
    refine zJ_callV2 (σ := σ) (L := ([(3457, m_fences), (3461, m_allowed), (3462, m_horses), (3466, m_plans), (3472, m_rowManyn3), (3473, (0 : Int32)), (3474, m_read), (3475, m_length), (3476, m_top), (3477, m_at), (3478, m_wrong), (3483, m_ruleSize), (3484, m_isAsked), (3485, m_askedHorse), (3486, m_askedFence), (3487, m_askedLetter), (3488, m_askedHeight)], [(55, m_now), (56, m_kind), (57, m_height), (58, m_feet), (59, m_stride), (60, m_scope), (61, m_care), (62, m_plan), (63, m_money), (69, m_rule)], [(65, m_rown4)])) (mi := mX12_mean) (yi := mX12_tell) (as := [.long rn5.toInt64]) (st := []) (L2 := ([(3457, m_fences), (3461, m_allowed), (3462, m_horses), (3466, m_plans), (3472, m_rowManyn6), (3473, (0 : Int32)), (3474, m_read), (3475, m_length), (3476, m_top), (3477, m_at), (3478, m_wrong), (3483, m_ruleSize), (3484, m_isAsked), (3485, m_askedHorse), (3486, m_askedFence), (3487, m_askedLetter), (3488, m_askedHeight)], [(55, m_now), (56, m_kind), (57, m_height), (58, m_feet), (59, m_stride), (60, m_scope), (61, m_care), (62, m_plan), (63, m_money), (69, m_rule)], [(65, m_rown7)])) dX12_mean_48 ML_X12_265 Yv_X12_tell rfl zW_54 rfl rfl (t_X12_tell l _ hcl) (zsub_i (zle_c rfl zle_n) zle_n (zle_c rfl zle_n)) (zjok_i rfl rfl (zle_c rfl (zle_c rfl (zle_c rfl (zle_c rfl (zle_c rfl (zle_c rfl (zle_c rfl (zle_c rfl (zle_c rfl (zle_c rfl (zle_c rfl (zle_c rfl (zle_c rfl (zle_c rfl (zle_c rfl (zle_c rfl (zle_c rfl zle_n))))))))))))))))) rfl rfl (zle_c rfl (zle_c rfl (zle_c rfl (zle_c rfl (zle_c rfl (zle_c rfl (zle_c rfl (zle_c rfl (zle_c rfl (zle_c rfl zle_n)))))))))) rfl rfl (zle_c rfl zle_n)) (Nat.le_of_ble_eq_true rfl) (Nat.le_of_ble_eq_true rfl) rfl rfl ?_
    refine zJ_aload_n dX12_mean_51 rfl rfl ?_
    refine zJ_iload_n dX12_mean_52 rfl rfl ?_
    refine zJ_iload_n dX12_mean_53 rfl rfl ?_
    obtain ⟨rn8, m_readn9, m_lengthn10, m_topn11, m_atn12, m_wrongn13, m_isAskedn14, m_askedHorsen15, m_askedFencen16, m_askedLettern17, m_askedHeightn18, hcl, h⟩ := bd11_some h
    refine zJ_callV2 (σ := σ) (L := ([(3457, m_fences), (3461, m_allowed), (3462, m_horses), (3466, m_plans), (3472, m_rowManyn6), (3473, (0 : Int32)), (3474, m_read), (3475, m_length), (3476, m_top), (3477, m_at), (3478, m_wrong), (3483, m_ruleSize), (3484, m_isAsked), (3485, m_askedHorse), (3486, m_askedFence), (3487, m_askedLetter), (3488, m_askedHeight)], [(55, m_now), (56, m_kind), (57, m_height), (58, m_feet), (59, m_stride), (60, m_scope), (61, m_care), (62, m_plan), (63, m_money), (69, m_rule)], [(65, m_rown7)])) (mi := mX12_mean) (yi := mX12_meanOf) (as := [.int p1, .int p2]) (st := []) (L2 := ([(3457, m_fences), (3461, m_allowed), (3462, m_horses), (3466, m_plans), (3472, m_rowManyn6), (3473, (0 : Int32)), (3474, m_readn9), (3475, m_lengthn10), (3476, m_topn11), (3477, m_atn12), (3478, m_wrongn13), (3483, m_ruleSize), (3484, m_isAskedn14), (3485, m_askedHorsen15), (3486, m_askedFencen16), (3487, m_askedLettern17), (3488, m_askedHeightn18)], [(55, m_now), (56, m_kind), (57, m_height), (58, m_feet), (59, m_stride), (60, m_scope), (61, m_care), (62, m_plan), (63, m_money), (69, m_rule)], [(65, m_rown7)])) dX12_mean_54 ML_X12_376 Yv_X12_meanOf rfl zW_54 rfl rfl (t_X12_meanOf l _ hcl) (zsub_i (zle_c rfl (zle_c rfl (zle_c rfl (zle_c rfl (zle_c rfl (zle_c rfl (zle_c rfl (zle_c rfl (zle_c rfl (zle_c rfl (zle_c rfl (zle_c rfl (zle_c rfl zle_n))))))))))))) (zle_c rfl (zle_c rfl (zle_c rfl (zle_c rfl (zle_c rfl (zle_c rfl (zle_c rfl (zle_c rfl (zle_c rfl (zle_c rfl zle_n)))))))))) zle_n) (zjok_i rfl rfl (zle_c rfl (zle_c rfl (zle_c rfl (zle_c rfl (zle_c rfl (zle_c rfl (zle_c rfl (zle_c rfl (zle_c rfl (zle_c rfl (zle_c rfl (zle_c rfl (zle_c rfl (zle_c rfl (zle_c rfl (zle_c rfl (zle_c rfl zle_n))))))))))))))))) rfl rfl (zle_c rfl (zle_c rfl (zle_c rfl (zle_c rfl (zle_c rfl (zle_c rfl (zle_c rfl (zle_c rfl (zle_c rfl (zle_c rfl zle_n)))))))))) rfl rfl (zle_c rfl zle_n)) (Nat.le_of_ble_eq_true rfl) (Nat.le_of_ble_eq_true rfl) rfl rfl ?_
    obtain ⟨rfl, rfl, rfl, rfl, rfl, rfl, rfl, rfl, rfl, rfl, rfl, rfl, rfl, rfl⟩ := so14 h
    exact zJ_iret dX12_mean_57 rfl rfl
  · replace h := it_t hc h
    refine zJ_iconst dX12_mean_14 zc_m1 rfl ?_
    obtain ⟨rfl, rfl, rfl, rfl, rfl, rfl, rfl, rfl, rfl, rfl, rfl, rfl, rfl, rfl⟩ := so14 h
    exact zJ_iret dX12_mean_15 rfl rfl
set_option maxRecDepth 100000 in
set_option maxHeartbeats 4000000 in
theorem t_X12_move (l : Launch) (σ : zS) {p1 : Int32} {p2 : Int32} {m_fences : Int32} {m_thrown : Int32} {m_feet : (Nat → Int32)} {r : Int32} {w_m_thrown : Int32} {w_m_feet : (Nat → Int32)} (h : f_X12_move p1 p2 m_fences m_thrown m_feet = some (r, w_m_thrown, w_m_feet)) : zMt l zW 2 mX12_move σ ([(3457, m_fences), (3473, m_thrown)], [(58, m_feet)], []) [.ref 54, .int p1, .int p2] (some (.int r)) ([(3457, m_fences), (3473, w_m_thrown)], [(58, w_m_feet)], []) := by
  refine zMt_of (ls := [(0, .ref 54), (1, .int p1), (2, .int p2)]) (by decide) rfl (fun _ => Nat.le_of_ble_eq_true rfl) rfl ?_
  unfold f_X12_move at h
  refine zJ_aload_n dX12_move_0 rfl rfl ?_
  refine zJ_iconst dX12_move_1 zc_0 rfl ?_
  refine zK_puti (mi := mX12_move) (la' := [(3457, m_fences), (3473, (0 : Int32))]) zW_ok dX12_move_2 F_X12_113 P_12_17 zW_54 rfl rfl rfl ?_
  refine zJ_aload_n dX12_move_5 rfl rfl ?_
  refine zJ_iload_n dX12_move_6 rfl rfl ?_
  obtain ⟨rn1, hcl, h⟩ := bd1_some h
  refine zJ_callV2 (σ := σ) (L := ([(3457, m_fences), (3473, (0 : Int32))], [(58, m_feet)], [])) (mi := mX12_move) (yi := mX12_isFence) (as := [.int p1]) (st := []) (L2 := ([(3457, m_fences), (3473, (0 : Int32))], [(58, m_feet)], [])) dX12_move_7 ML_X12_250 Yv_X12_isFence rfl zW_54 rfl rfl (t_X12_isFence l _ hcl) (zsub_i (zle_c rfl zle_n) zle_n zle_n) (zjok_i rfl rfl (zle_c rfl (zle_c rfl zle_n)) rfl rfl (zle_c rfl zle_n) rfl rfl zle_n) (Nat.le_of_ble_eq_true rfl) (Nat.le_of_ble_eq_true rfl) rfl rfl ?_
  refine zJ_if_eq (tgt := 24) dX12_move_10 (by decide) rfl (fun hc => ?_) (fun hc => ?_)
  · replace h := it_t hc h
    refine zJ_iconst dX12_move_24 zc_m1 rfl ?_
    obtain ⟨rfl, rfl, rfl⟩ := so3 h
    exact zJ_iret dX12_move_25 rfl rfl
  · replace h := it_f hc h
    refine zJ_iload_n dX12_move_13 rfl rfl ?_
    refine zJ_bipush dX12_move_14 zb_10 rfl ?_
    refine zJ_bipush dX12_move_16 zb_99 rfl ?_
    obtain ⟨rn2, hcl, h⟩ := bd1_some h
    refine zJ_callS2 (σ := σ) (L := ([(3457, m_fences), (3473, (0 : Int32))], [(58, m_feet)], [])) (mi := mX12_move) (yi := mX12_in) (as := [.int p2, .int (10 : Int32), .int (99 : Int32)]) (st := []) (L2 := ([(3457, m_fences), (3473, (0 : Int32))], [(58, m_feet)], [])) dX12_move_18 ML_X12_122 Ys_X12_in rfl (t_X12_in l _ hcl) (zsub_i zle_n zle_n zle_n) (zjok_i rfl rfl (zle_c rfl (zle_c rfl zle_n)) rfl rfl (zle_c rfl zle_n) rfl rfl zle_n) (Nat.le_of_ble_eq_true rfl) (Nat.le_of_ble_eq_true rfl) rfl rfl ?_
    refine zJ_if_ne (tgt := 26) dX12_move_21 (by decide) rfl (fun hc => ?_) (fun hc => ?_)
    · replace h := it_f hc h
      refine zJ_aload_n dX12_move_26 rfl rfl ?_
      refine zJ_getr (mi := mX12_move) dX12_move_27 F_X12_19 zW_54 rfl rfl ?_
      refine zJ_iload_n dX12_move_30 rfl rfl ?_
      obtain ⟨hg, h⟩ := gd_some h
      refine zJ_iald (mi := mX12_move) (f := m_feet) dX12_move_31 zW_58 (ix_in hg) rfl rfl ?_
      obtain ⟨v3n3, ev3n3, h⟩ := lt1_some h
      refine zJ_nmi ev3n3 ?_
      refine zJ_istore_n (ls' := [(3, .int v3n3), (0, .ref 54), (1, .int p1), (2, .int p2)]) dX12_move_32 rfl rfl rfl ?_
      refine zJ_aload_n dX12_move_33 rfl rfl ?_
      refine zJ_getr (mi := mX12_move) dX12_move_34 F_X12_19 zW_54 rfl rfl ?_
      refine zJ_iload_n dX12_move_37 rfl rfl ?_
      refine zJ_iload_n dX12_move_38 rfl rfl ?_
      obtain ⟨hg, h⟩ := gd_some h
      refine zK_iast (mi := mX12_move) (f := m_feet) (lb' := [(58, (upd m_feet p1.toNatClampNeg p2))]) dX12_move_39 zW_58 (ix_in hg) rfl rfl rfl ?_
      refine zJ_iload_n dX12_move_40 rfl rfl ?_
      obtain ⟨rfl, rfl, rfl⟩ := so3 h
      exact zJ_iret dX12_move_41 rfl rfl
    · replace h := it_t hc h
      refine zJ_iconst dX12_move_24 zc_m1 rfl ?_
      obtain ⟨rfl, rfl, rfl⟩ := so3 h
      exact zJ_iret dX12_move_25 rfl rfl
set_option maxRecDepth 100000 in
set_option maxHeartbeats 4000000 in
theorem t_X12_offBy (l : Launch) (σ : zS) {p1 : Int32} {m_now : (Nat → Int32)} {m_part : (Nat → Int32)} {r : Int32} {w_m_part : (Nat → Int32)} (h : f_X12_offBy p1 m_now m_part = some (r, w_m_part)) : zMt l zW 1 mX12_offBy σ ([], [(55, m_now), (83, m_part)], []) [.ref 54, .int p1] (some (.int r)) ([], [(55, m_now), (83, w_m_part)], []) := by
  refine zMt_of (ls := [(0, .ref 54), (1, .int p1)]) (by decide) rfl (fun _ => Nat.le_of_ble_eq_true rfl) rfl ?_
  unfold f_X12_offBy at h
  refine zJ_iload_n dX12_offBy_0 rfl rfl ?_
  refine zJ_istore_n (ls' := [(2, .int p1), (0, .ref 54), (1, .int p1)]) dX12_offBy_1 rfl rfl rfl ?_
  refine zJ_iconst dX12_offBy_2 zc_5 rfl ?_
  refine zJ_istore_n (ls' := [(3, .int (5 : Int32)), (2, .int p1), (0, .ref 54), (1, .int p1)]) dX12_offBy_3 rfl rfl rfl ?_
  have hk4 : ∀ (m_part_4x : (Nat → Int32)), k_X12_offBy_4 m_now m_part_4x = some (r, w_m_part) → zJ l zW 1 mX12_offBy σ ([], [(55, m_now), (83, m_part_4x)], []) 27 [(0, .ref 54)] [] (some (.int r)) ([], [(55, m_now), (83, w_m_part)], []) := by
    intro m_part_4x h
    unfold k_X12_offBy_4 at h
    refine zJ_iconst dX12_offBy_27 zc_0 rfl ?_
    refine zJ_istore_n (ls' := [(3, .int (0 : Int32)), (0, .ref 54)]) dX12_offBy_28 rfl rfl rfl ?_
    refine zJ_iconst dX12_offBy_29 zc_0 rfl ?_
    refine zJ_istore (ls' := [(4, .int (0 : Int32)), (3, .int (0 : Int32)), (0, .ref 54)]) dX12_offBy_30 rfl rfl rfl ?_
    have hk32 : ∀ (v3_32x : Int32), k_X12_offBy_32 m_part_4x v3_32x = some (r, w_m_part) → zJ l zW 1 mX12_offBy σ ([], [(55, m_now), (83, m_part_4x)], []) 129 [(3, .int v3_32x)] [] (some (.int r)) ([], [(55, m_now), (83, w_m_part)], []) := by
      intro v3_32x h
      unfold k_X12_offBy_32 at h
      refine zJ_iload_n dX12_offBy_129 rfl rfl ?_
      obtain ⟨rfl, rfl⟩ := so2 h
      exact zJ_iret dX12_offBy_130 rfl rfl
    refine zJ_loc (ls' := [(0, .ref 54), (3, .int (0 : Int32)), (4, .int (0 : Int32))]) (zll_c rfl (zll_c rfl (zll_c rfl zll_n))) ?_
    refine ml2_J (fun (v3_32 : Int32) (v4_32 : Int32) => zJ l zW 1 mX12_offBy σ ([], [(55, m_now), (83, m_part_4x)], []) 32 [(0, .ref 54), (3, .int v3_32), (4, .int v4_32)] [] (some (.int r)) ([], [(55, m_now), (83, w_m_part)], [])) (fun rc32 hrc32 v3_32 v4_32 h => ?_) zN _ _ h
    unfold s_X12_offBy_32 at h
    refine zJ_iload dX12_offBy_32 rfl rfl ?_
    refine zJ_aload_n dX12_offBy_34 rfl rfl ?_
    refine zJ_getr (mi := mX12_offBy) dX12_offBy_35 F_X12_9 zW_54 rfl rfl ?_
    refine zJ_bipush dX12_offBy_38 zb_48 rfl ?_
    obtain ⟨hg, h⟩ := gd_some h
    refine zJ_iald (mi := mX12_offBy) (f := m_now) dX12_offBy_40 zW_55 (ix_in hg) rfl rfl ?_
    refine zJ_icmp_ge (tgt := 129) dX12_offBy_41 (by decide) rfl (fun hc => ?_) (fun hc => ?_)
    · replace h := it_t hc h
      refine zJ_loc (ls' := [(3, .int v3_32)]) (zll_c rfl zll_n) ?_
      exact hk32 _ h
    · replace h := it_f hc h
      refine zJ_aload_n dX12_offBy_44 rfl rfl ?_
      refine zJ_getr (mi := mX12_offBy) dX12_offBy_45 F_X12_9 zW_54 rfl rfl ?_
      refine zJ_iconst dX12_offBy_48 zc_4 rfl ?_
      refine zJ_iload dX12_offBy_49 rfl rfl ?_
      refine zJ_imul dX12_offBy_51 rfl ?_
      obtain ⟨hg, h⟩ := gd_some h
      refine zJ_iald (mi := mX12_offBy) (f := m_now) dX12_offBy_52 zW_55 (ix_in hg) rfl rfl ?_
      refine zJ_iconst dX12_offBy_53 zc_3 rfl ?_
      refine zJ_icmp_ge (tgt := 123) dX12_offBy_54 (by decide) rfl (fun hc => ?_) (fun hc => ?_)
      · replace h := it_t hc h
        obtain ⟨v4n1, ev4n1, h⟩ := lt1_some h
        refine zJ_iincN (ls' := [(4, .int v4n1), (0, .ref 54), (3, .int v3_32)]) dX12_offBy_123 rfl rfl zc_1 ev4n1 rfl rfl ?_
        refine zJ_goto (tgt := 32) dX12_offBy_126 (by decide) ?_
        refine zJ_loc (ls' := [(0, .ref 54), (3, .int v3_32), (4, .int v4n1)]) (zll_c rfl (zll_c rfl (zll_c rfl zll_n))) ?_
        exact hrc32 _ _ h
      · replace h := it_f hc h
        refine zJ_aload_n dX12_offBy_57 rfl rfl ?_
        refine zJ_getr (mi := mX12_offBy) dX12_offBy_58 F_X12_9 zW_54 rfl rfl ?_
        refine zJ_iconst dX12_offBy_61 zc_4 rfl ?_
        refine zJ_iload dX12_offBy_62 rfl rfl ?_
        refine zJ_imul dX12_offBy_64 rfl ?_
        refine zJ_iconst dX12_offBy_65 zc_1 rfl ?_
        refine zJ_iadd dX12_offBy_66 rfl ?_
        obtain ⟨hg, h⟩ := gd_some h
        refine zJ_iald (mi := mX12_offBy) (f := m_now) dX12_offBy_67 zW_55 (ix_in hg) rfl rfl ?_
        refine zJ_iconst dX12_offBy_68 zc_3 rfl ?_
        refine zJ_icmp_ge (tgt := 123) dX12_offBy_69 (by decide) rfl (fun hc => ?_) (fun hc => ?_)
        · replace h := it_t hc h
          obtain ⟨v4n2, ev4n2, h⟩ := lt1_some h
          refine zJ_iincN (ls' := [(4, .int v4n2), (0, .ref 54), (3, .int v3_32)]) dX12_offBy_123 rfl rfl zc_1 ev4n2 rfl rfl ?_
          refine zJ_goto (tgt := 32) dX12_offBy_126 (by decide) ?_
          refine zJ_loc (ls' := [(0, .ref 54), (3, .int v3_32), (4, .int v4n2)]) (zll_c rfl (zll_c rfl (zll_c rfl zll_n))) ?_
          exact hrc32 _ _ h
        · replace h := it_f hc h
          refine zJ_iload_n dX12_offBy_72 rfl rfl ?_
          refine zJ_aload_n dX12_offBy_73 rfl rfl ?_
          refine zJ_getr (mi := mX12_offBy) dX12_offBy_74 F_X12_9 zW_54 rfl rfl ?_
          refine zJ_iconst dX12_offBy_77 zc_4 rfl ?_
          refine zJ_iload dX12_offBy_78 rfl rfl ?_
          refine zJ_imul dX12_offBy_80 rfl ?_
          refine zJ_iconst dX12_offBy_81 zc_2 rfl ?_
          refine zJ_iadd dX12_offBy_82 rfl ?_
          obtain ⟨hg, h⟩ := gd_some h
          refine zJ_iald (mi := mX12_offBy) (f := m_now) dX12_offBy_83 zW_55 (ix_in hg) rfl rfl ?_
          refine zJ_aload_n dX12_offBy_84 rfl rfl ?_
          refine zJ_getr (mi := mX12_offBy) dX12_offBy_85 F_X12_100 zW_54 rfl rfl ?_
          refine zJ_aload_n dX12_offBy_88 rfl rfl ?_
          refine zJ_getr (mi := mX12_offBy) dX12_offBy_89 F_X12_9 zW_54 rfl rfl ?_
          refine zJ_iconst dX12_offBy_92 zc_4 rfl ?_
          refine zJ_iload dX12_offBy_93 rfl rfl ?_
          refine zJ_imul dX12_offBy_95 rfl ?_
          obtain ⟨hg, h⟩ := gd_some h
          refine zJ_iald (mi := mX12_offBy) (f := m_now) dX12_offBy_96 zW_55 (ix_in hg) rfl rfl ?_
          obtain ⟨hg, h⟩ := gd_some h
          refine zJ_iald (mi := mX12_offBy) (f := m_part_4x) dX12_offBy_97 zW_83 (ix_in hg) rfl rfl ?_
          refine zJ_isub dX12_offBy_98 rfl ?_
          refine zJ_aload_n dX12_offBy_99 rfl rfl ?_
          refine zJ_getr (mi := mX12_offBy) dX12_offBy_100 F_X12_100 zW_54 rfl rfl ?_
          refine zJ_iconst dX12_offBy_103 zc_3 rfl ?_
          refine zJ_aload_n dX12_offBy_104 rfl rfl ?_
          refine zJ_getr (mi := mX12_offBy) dX12_offBy_105 F_X12_9 zW_54 rfl rfl ?_
          refine zJ_iconst dX12_offBy_108 zc_4 rfl ?_
          refine zJ_iload dX12_offBy_109 rfl rfl ?_
          refine zJ_imul dX12_offBy_111 rfl ?_
          refine zJ_iconst dX12_offBy_112 zc_1 rfl ?_
          refine zJ_iadd dX12_offBy_113 rfl ?_
          obtain ⟨hg, h⟩ := gd_some h
          refine zJ_iald (mi := mX12_offBy) (f := m_now) dX12_offBy_114 zW_55 (ix_in hg) rfl rfl ?_
          refine zJ_iadd dX12_offBy_115 rfl ?_
          obtain ⟨hg, h⟩ := gd_some h
          refine zJ_iald (mi := mX12_offBy) (f := m_part_4x) dX12_offBy_116 zW_83 (ix_in hg) rfl rfl ?_
          refine zJ_isub dX12_offBy_117 rfl ?_
          refine zJ_mabs (mi := mX12_offBy) dX12_offBy_118 L_X12_430 K_abs_s K_math K_abs_c (Nat.le_of_ble_eq_true rfl) (Nat.le_of_ble_eq_true rfl) rfl ?_
          refine zJ_iadd dX12_offBy_121 rfl ?_
          obtain ⟨v3n3, ev3n3, h⟩ := lt1_some h
          refine zJ_nmi ev3n3 ?_
          refine zJ_istore_n (ls' := [(3, .int v3n3), (0, .ref 54), (4, .int v4_32)]) dX12_offBy_122 rfl rfl rfl ?_
          obtain ⟨v4n4, ev4n4, h⟩ := lt1_some h
          refine zJ_iincN (ls' := [(4, .int v4n4), (3, .int v3n3), (0, .ref 54)]) dX12_offBy_123 rfl rfl zc_1 ev4n4 rfl rfl ?_
          refine zJ_goto (tgt := 32) dX12_offBy_126 (by decide) ?_
          refine zJ_loc (ls' := [(0, .ref 54), (3, .int v3n3), (4, .int v4n4)]) (zll_c rfl (zll_c rfl (zll_c rfl zll_n))) ?_
          exact hrc32 _ _ h
  refine zJ_loc (ls' := [(0, .ref 54), (2, .int p1), (3, .int (5 : Int32))]) (zll_c rfl (zll_c rfl (zll_c rfl zll_n))) ?_
  refine ml3_J (fun (v2_4 : Int32) (v3_4 : Int32) (m_part_4 : (Nat → Int32)) => zJ l zW 1 mX12_offBy σ ([], [(55, m_now), (83, m_part_4)], []) 4 [(0, .ref 54), (2, .int v2_4), (3, .int v3_4)] [] (some (.int r)) ([], [(55, m_now), (83, w_m_part)], [])) (fun rc4 hrc4 v2_4 v3_4 m_part_4 h => ?_) zN _ _ _ h
  unfold s_X12_offBy_4 at h
  refine zJ_iload_n dX12_offBy_4 rfl rfl ?_
  refine zJ_if_lt (tgt := 27) dX12_offBy_5 (by decide) rfl (fun hc => ?_) (fun hc => ?_)
  · replace h := it_t hc h
    refine zJ_loc (ls' := [(0, .ref 54)]) (zll_c rfl zll_n) ?_
    exact hk4 _ h
  · replace h := it_f hc h
    refine zJ_aload_n dX12_offBy_8 rfl rfl ?_
    refine zJ_getr (mi := mX12_offBy) dX12_offBy_9 F_X12_100 zW_54 rfl rfl ?_
    refine zJ_iload_n dX12_offBy_12 rfl rfl ?_
    refine zJ_iload_n dX12_offBy_13 rfl rfl ?_
    refine zJ_iconst dX12_offBy_14 zc_5 rfl ?_
    refine zJ_irem dX12_offBy_15 (by decide) rfl ?_
    obtain ⟨hg, h⟩ := gd_some h
    refine zK_iast (mi := mX12_offBy) (f := m_part_4) (lb' := [(55, m_now), (83, (upd m_part_4 v3_4.toNatClampNeg (v2_4 - v2_4 / (5 : Int32) * (5 : Int32))))]) dX12_offBy_16 zW_83 (ix_in hg) rfl rfl rfl ?_
    refine zJ_iload_n dX12_offBy_17 rfl rfl ?_
    refine zJ_iconst dX12_offBy_18 zc_5 rfl ?_
    refine zJ_idiv dX12_offBy_19 (by decide) rfl ?_
    obtain ⟨v2n5, ev2n5, h⟩ := lt1_some h
    refine zJ_nmi ev2n5 ?_
    refine zJ_istore_n (ls' := [(2, .int v2n5), (0, .ref 54), (3, .int v3_4)]) dX12_offBy_20 rfl rfl rfl ?_
    obtain ⟨v3n6, ev3n6, h⟩ := lt1_some h
    refine zJ_iincN (ls' := [(3, .int v3n6), (2, .int v2n5), (0, .ref 54)]) dX12_offBy_21 rfl rfl zc_m1 ev3n6 rfl rfl ?_
    refine zJ_goto (tgt := 4) dX12_offBy_24 (by decide) ?_
    refine zJ_loc (ls' := [(0, .ref 54), (2, .int v2n5), (3, .int v3n6)]) (zll_c rfl (zll_c rfl (zll_c rfl zll_n))) ?_
    exact hrc4 _ _ _ h
set_option maxRecDepth 100000 in
set_option maxHeartbeats 4000000 in
theorem t_X12_parts (l : Launch) (σ : zS) {m_rowMany : Int32} {m_thrown : Int32} {m_now : (Nat → Int32)} {m_part : (Nat → Int32)} {m_row : (Nat → Int64)} {r : Int32} {w_m_rowMany : Int32} {w_m_thrown : Int32} {w_m_part : (Nat → Int32)} {w_m_row : (Nat → Int64)} (h : f_X12_parts m_rowMany m_thrown m_now m_part m_row = some (r, w_m_rowMany, w_m_thrown, w_m_part, w_m_row)) : zMt l zW 2 mX12_parts σ ([(3472, m_rowMany), (3473, m_thrown)], [(55, m_now), (83, m_part)], [(65, m_row)]) [.ref 54] (some (.int r)) ([(3472, w_m_rowMany), (3473, w_m_thrown)], [(55, m_now), (83, w_m_part)], [(65, w_m_row)]) := by
  refine zMt_of (ls := [(0, .ref 54)]) (by decide) rfl (fun _ => Nat.le_of_ble_eq_true rfl) rfl ?_
  unfold f_X12_parts at h
  refine zJ_aload_n dX12_parts_0 rfl rfl ?_
  refine zJ_iconst dX12_parts_1 zc_0 rfl ?_
  refine zK_puti (mi := mX12_parts) (la' := [(3472, m_rowMany), (3473, (0 : Int32))]) zW_ok dX12_parts_2 F_X12_113 P_12_17 zW_54 rfl rfl rfl ?_
  refine zJ_iconst dX12_parts_5 zc_0 rfl ?_
  refine zJ_istore_n (ls' := [(1, .int (0 : Int32)), (0, .ref 54)]) dX12_parts_6 rfl rfl rfl ?_
  refine zJ_ldc_w (v := 100000000) dX12_parts_7 C_X12_272 rfl ?_
  refine zJ_istore_n (ls' := [(2, .int (100000000 : Int32)), (1, .int (0 : Int32)), (0, .ref 54)]) dX12_parts_10 rfl rfl rfl ?_
  refine zJ_iconst dX12_parts_11 zc_0 rfl ?_
  refine zJ_istore_n (ls' := [(3, .int (0 : Int32)), (2, .int (100000000 : Int32)), (1, .int (0 : Int32)), (0, .ref 54)]) dX12_parts_12 rfl rfl rfl ?_
  have hk13 : ∀ (v1_13x : Int32) (v2_13x : Int32) (m_part_13x : (Nat → Int32)), k_X12_parts_13 m_now m_row v1_13x v2_13x m_part_13x = some (r, w_m_rowMany, w_m_thrown, w_m_part, w_m_row) → zJ l zW 2 mX12_parts σ ([(3472, m_rowMany), (3473, (0 : Int32))], [(55, m_now), (83, m_part_13x)], [(65, m_row)]) 47 [(0, .ref 54), (1, .int v1_13x), (2, .int v2_13x)] [] (some (.int r)) ([(3472, w_m_rowMany), (3473, w_m_thrown)], [(55, m_now), (83, w_m_part)], [(65, w_m_row)]) := by
    intro v1_13x v2_13x m_part_13x h
    unfold k_X12_parts_13 at h
    refine zJ_aload_n dX12_parts_47 rfl rfl ?_
    refine zJ_iload_n dX12_parts_48 rfl rfl ?_
    obtain ⟨rn1, m_partn2, hcl, h⟩ := bd2_some h
    refine zJ_callV2 (σ := σ) (L := ([(3472, m_rowMany), (3473, (0 : Int32))], [(55, m_now), (83, m_part_13x)], [(65, m_row)])) (mi := mX12_parts) (yi := mX12_offBy) (as := [.int v1_13x]) (st := []) (L2 := ([(3472, m_rowMany), (3473, (0 : Int32))], [(55, m_now), (83, m_partn2)], [(65, m_row)])) dX12_parts_49 ML_X12_432 Yv_X12_offBy rfl zW_54 rfl rfl (t_X12_offBy l _ hcl) (zsub_i zle_n (zle_c rfl (zle_c rfl zle_n)) zle_n) (zjok_i rfl rfl (zle_c rfl (zle_c rfl zle_n)) rfl rfl (zle_c rfl (zle_c rfl zle_n)) rfl rfl (zle_c rfl zle_n)) (Nat.le_of_ble_eq_true rfl) (Nat.le_of_ble_eq_true rfl) rfl rfl ?_
    refine zJ_pop dX12_parts_52 rfl rfl ?_
    refine zJ_iconst dX12_parts_53 zc_0 rfl ?_
    refine zJ_istore_n (ls' := [(3, .int (0 : Int32)), (0, .ref 54), (1, .int v1_13x), (2, .int v2_13x)]) dX12_parts_54 rfl rfl rfl ?_
    refine zJ_iconst dX12_parts_55 zc_0 rfl ?_
    refine zJ_istore (ls' := [(4, .int (0 : Int32)), (3, .int (0 : Int32)), (0, .ref 54), (1, .int v1_13x), (2, .int v2_13x)]) dX12_parts_56 rfl rfl rfl ?_
    have hk58 : ∀ (v3_58x : Int32), k_X12_parts_58 m_row v2_13x m_partn2 v3_58x = some (r, w_m_rowMany, w_m_thrown, w_m_part, w_m_row) → zJ l zW 2 mX12_parts σ ([(3472, m_rowMany), (3473, (0 : Int32))], [(55, m_now), (83, m_partn2)], [(65, m_row)]) 112 [(0, .ref 54), (2, .int v2_13x), (3, .int v3_58x)] [] (some (.int r)) ([(3472, w_m_rowMany), (3473, w_m_thrown)], [(55, m_now), (83, w_m_part)], [(65, w_m_row)]) := by
      intro v3_58x h
      unfold k_X12_parts_58 at h
      refine zJ_aload_n dX12_parts_112 rfl rfl ?_
      refine zJ_iconst dX12_parts_113 zc_0 rfl ?_
      refine zK_puti (mi := mX12_parts) (la' := [(3472, (0 : Int32)), (3473, (0 : Int32))]) zW_ok dX12_parts_114 F_X12_116 P_12_16 zW_54 rfl rfl rfl ?_
      refine zJ_iconst dX12_parts_117 zc_0 rfl ?_
      refine zJ_istore (ls' := [(4, .int (0 : Int32)), (0, .ref 54), (2, .int v2_13x), (3, .int v3_58x)]) dX12_parts_118 rfl rfl rfl ?_
      have hk120 : ∀ (m_rowMany_120x : Int32) (m_row_120x : (Nat → Int64)), k_X12_parts_120 v2_13x m_partn2 v3_58x m_rowMany_120x m_row_120x = some (r, w_m_rowMany, w_m_thrown, w_m_part, w_m_row) → zJ l zW 2 mX12_parts σ ([(3472, m_rowMany_120x), (3473, (0 : Int32))], [(55, m_now), (83, m_partn2)], [(65, m_row_120x)]) 145 [(0, .ref 54), (2, .int v2_13x), (3, .int v3_58x)] [] (some (.int r)) ([(3472, w_m_rowMany), (3473, w_m_thrown)], [(55, m_now), (83, w_m_part)], [(65, w_m_row)]) := by
        intro m_rowMany_120x m_row_120x h
        unfold k_X12_parts_120 at h
        refine zJ_aload_n dX12_parts_145 rfl rfl ?_
        refine zJ_iload_n dX12_parts_146 rfl rfl ?_
        refine zJ_i2l dX12_parts_147 rfl ?_
        obtain ⟨m_rowManyn3, m_rown4, hcl, h⟩ := bd2_some h
        refine zJ_callV2 (σ := σ) (L := ([(3472, m_rowMany_120x), (3473, (0 : Int32))], [(55, m_now), (83, m_partn2)], [(65, m_row_120x)])) (mi := mX12_parts) (yi := mX12_tell) (as := [.long v3_58x.toInt64]) (st := []) (L2 := ([(3472, m_rowManyn3), (3473, (0 : Int32))], [(55, m_now), (83, m_partn2)], [(65, m_rown4)])) dX12_parts_148 ML_X12_265 Yv_X12_tell rfl zW_54 rfl rfl (t_X12_tell l _ hcl) (zsub_i (zle_c rfl zle_n) zle_n (zle_c rfl zle_n)) (zjok_i rfl rfl (zle_c rfl (zle_c rfl zle_n)) rfl rfl (zle_c rfl (zle_c rfl zle_n)) rfl rfl (zle_c rfl zle_n)) (Nat.le_of_ble_eq_true rfl) (Nat.le_of_ble_eq_true rfl) rfl rfl ?_
        refine zJ_iload_n dX12_parts_151 rfl rfl ?_
        obtain ⟨rfl, rfl, rfl, rfl, rfl⟩ := so5 h
        exact zJ_iret dX12_parts_152 rfl rfl
      refine zJ_loc (ls' := [(0, .ref 54), (2, .int v2_13x), (3, .int v3_58x), (4, .int (0 : Int32))]) (zll_c rfl (zll_c rfl (zll_c rfl (zll_c rfl zll_n)))) ?_
      refine ml3_J (fun (v4_120 : Int32) (m_rowMany_120 : Int32) (m_row_120 : (Nat → Int64)) => zJ l zW 2 mX12_parts σ ([(3472, m_rowMany_120), (3473, (0 : Int32))], [(55, m_now), (83, m_partn2)], [(65, m_row_120)]) 120 [(0, .ref 54), (2, .int v2_13x), (3, .int v3_58x), (4, .int v4_120)] [] (some (.int r)) ([(3472, w_m_rowMany), (3473, w_m_thrown)], [(55, m_now), (83, w_m_part)], [(65, w_m_row)])) (fun rc120 hrc120 v4_120 m_rowMany_120 m_row_120 h => ?_) zN _ _ _ h
      unfold s_X12_parts_120 at h
      refine zJ_iload dX12_parts_120 rfl rfl ?_
      refine zJ_bipush dX12_parts_122 zb_6 rfl ?_
      refine zJ_icmp_ge (tgt := 145) dX12_parts_124 (by decide) rfl (fun hc => ?_) (fun hc => ?_)
      · replace h := it_t hc h
        refine zJ_loc (ls' := [(0, .ref 54), (2, .int v2_13x), (3, .int v3_58x)]) (zll_c rfl (zll_c rfl (zll_c rfl zll_n))) ?_
        exact hk120 _ _ h
      · replace h := it_f hc h
        refine zJ_aload_n dX12_parts_127 rfl rfl ?_
        refine zJ_aload_n dX12_parts_128 rfl rfl ?_
        refine zJ_getr (mi := mX12_parts) dX12_parts_129 F_X12_100 zW_54 rfl rfl ?_
        refine zJ_iload dX12_parts_132 rfl rfl ?_
        obtain ⟨hg, h⟩ := gd_some h
        refine zJ_iald (mi := mX12_parts) (f := m_partn2) dX12_parts_134 zW_83 (ix_in hg) rfl rfl ?_
        refine zJ_i2l dX12_parts_135 rfl ?_
        obtain ⟨m_rowManyn5, m_rown6, hcl, h⟩ := bd2_some h
        refine zJ_callV2 (σ := σ) (L := ([(3472, m_rowMany_120), (3473, (0 : Int32))], [(55, m_now), (83, m_partn2)], [(65, m_row_120)])) (mi := mX12_parts) (yi := mX12_tell) (as := [.long ((m_partn2 v4_120.toNatClampNeg)).toInt64]) (st := []) (L2 := ([(3472, m_rowManyn5), (3473, (0 : Int32))], [(55, m_now), (83, m_partn2)], [(65, m_rown6)])) dX12_parts_136 ML_X12_265 Yv_X12_tell rfl zW_54 rfl rfl (t_X12_tell l _ hcl) (zsub_i (zle_c rfl zle_n) zle_n (zle_c rfl zle_n)) (zjok_i rfl rfl (zle_c rfl (zle_c rfl zle_n)) rfl rfl (zle_c rfl (zle_c rfl zle_n)) rfl rfl (zle_c rfl zle_n)) (Nat.le_of_ble_eq_true rfl) (Nat.le_of_ble_eq_true rfl) rfl rfl ?_
        obtain ⟨v4n7, ev4n7, h⟩ := lt1_some h
        refine zJ_iincN (ls' := [(4, .int v4n7), (0, .ref 54), (2, .int v2_13x), (3, .int v3_58x)]) dX12_parts_139 rfl rfl zc_1 ev4n7 rfl rfl ?_
        refine zJ_goto (tgt := 120) dX12_parts_142 (by decide) ?_
        refine zJ_loc (ls' := [(0, .ref 54), (2, .int v2_13x), (3, .int v3_58x), (4, .int v4n7)]) (zll_c rfl (zll_c rfl (zll_c rfl (zll_c rfl zll_n)))) ?_
        exact hrc120 _ _ _ h
    refine zJ_loc (ls' := [(0, .ref 54), (2, .int v2_13x), (3, .int (0 : Int32)), (4, .int (0 : Int32))]) (zll_c rfl (zll_c rfl (zll_c rfl (zll_c rfl zll_n)))) ?_
    refine ml2_J (fun (v3_58 : Int32) (v4_58 : Int32) => zJ l zW 2 mX12_parts σ ([(3472, m_rowMany), (3473, (0 : Int32))], [(55, m_now), (83, m_partn2)], [(65, m_row)]) 58 [(0, .ref 54), (2, .int v2_13x), (3, .int v3_58), (4, .int v4_58)] [] (some (.int r)) ([(3472, w_m_rowMany), (3473, w_m_thrown)], [(55, m_now), (83, w_m_part)], [(65, w_m_row)])) (fun rc58 hrc58 v3_58 v4_58 h => ?_) zN _ _ h
    unfold s_X12_parts_58 at h
    refine zJ_iload dX12_parts_58 rfl rfl ?_
    refine zJ_aload_n dX12_parts_60 rfl rfl ?_
    refine zJ_getr (mi := mX12_parts) dX12_parts_61 F_X12_9 zW_54 rfl rfl ?_
    refine zJ_bipush dX12_parts_64 zb_48 rfl ?_
    obtain ⟨hg, h⟩ := gd_some h
    refine zJ_iald (mi := mX12_parts) (f := m_now) dX12_parts_66 zW_55 (ix_in hg) rfl rfl ?_
    refine zJ_icmp_ge (tgt := 112) dX12_parts_67 (by decide) rfl (fun hc => ?_) (fun hc => ?_)
    · replace h := it_t hc h
      refine zJ_loc (ls' := [(0, .ref 54), (2, .int v2_13x), (3, .int v3_58)]) (zll_c rfl (zll_c rfl (zll_c rfl zll_n))) ?_
      exact hk58 _ h
    · replace h := it_f hc h
      refine zJ_iload_n dX12_parts_70 rfl rfl ?_
      refine zJ_aload_n dX12_parts_71 rfl rfl ?_
      refine zJ_getr (mi := mX12_parts) dX12_parts_72 F_X12_9 zW_54 rfl rfl ?_
      refine zJ_iconst dX12_parts_75 zc_4 rfl ?_
      refine zJ_iload dX12_parts_76 rfl rfl ?_
      refine zJ_imul dX12_parts_78 rfl ?_
      obtain ⟨hg, h⟩ := gd_some h
      refine zJ_iald (mi := mX12_parts) (f := m_now) dX12_parts_79 zW_55 (ix_in hg) rfl rfl ?_
      refine zJ_iconst dX12_parts_80 zc_3 rfl ?_
      refine zJ_icmp_ge (tgt := 103) dX12_parts_81 (by decide) rfl (fun hc => ?_) (fun hc => ?_)
      · replace h := it_t hc h
        refine zJ_iconst dX12_parts_103 zc_0 rfl ?_
        refine zJ_iadd dX12_parts_104 rfl ?_
        obtain ⟨v3n8, ev3n8, h⟩ := lt1_some h
        refine zJ_nmi ev3n8 ?_
        refine zJ_istore_n (ls' := [(3, .int v3n8), (0, .ref 54), (2, .int v2_13x), (4, .int v4_58)]) dX12_parts_105 rfl rfl rfl ?_
        obtain ⟨v4n9, ev4n9, h⟩ := lt1_some h
        refine zJ_iincN (ls' := [(4, .int v4n9), (3, .int v3n8), (0, .ref 54), (2, .int v2_13x)]) dX12_parts_106 rfl rfl zc_1 ev4n9 rfl rfl ?_
        refine zJ_goto (tgt := 58) dX12_parts_109 (by decide) ?_
        refine zJ_loc (ls' := [(0, .ref 54), (2, .int v2_13x), (3, .int v3n8), (4, .int v4n9)]) (zll_c rfl (zll_c rfl (zll_c rfl (zll_c rfl zll_n)))) ?_
        exact hrc58 _ _ h
      · replace h := it_f hc h
        refine zJ_aload_n dX12_parts_84 rfl rfl ?_
        refine zJ_getr (mi := mX12_parts) dX12_parts_85 F_X12_9 zW_54 rfl rfl ?_
        refine zJ_iconst dX12_parts_88 zc_4 rfl ?_
        refine zJ_iload dX12_parts_89 rfl rfl ?_
        refine zJ_imul dX12_parts_91 rfl ?_
        refine zJ_iconst dX12_parts_92 zc_1 rfl ?_
        refine zJ_iadd dX12_parts_93 rfl ?_
        obtain ⟨hg, h⟩ := gd_some h
        refine zJ_iald (mi := mX12_parts) (f := m_now) dX12_parts_94 zW_55 (ix_in hg) rfl rfl ?_
        refine zJ_iconst dX12_parts_95 zc_3 rfl ?_
        refine zJ_icmp_ge (tgt := 103) dX12_parts_96 (by decide) rfl (fun hc => ?_) (fun hc => ?_)
        · replace h := it_t hc h
          refine zJ_iconst dX12_parts_103 zc_0 rfl ?_
          refine zJ_iadd dX12_parts_104 rfl ?_
          obtain ⟨v3n10, ev3n10, h⟩ := lt1_some h
          refine zJ_nmi ev3n10 ?_
          refine zJ_istore_n (ls' := [(3, .int v3n10), (0, .ref 54), (2, .int v2_13x), (4, .int v4_58)]) dX12_parts_105 rfl rfl rfl ?_
          obtain ⟨v4n11, ev4n11, h⟩ := lt1_some h
          refine zJ_iincN (ls' := [(4, .int v4n11), (3, .int v3n10), (0, .ref 54), (2, .int v2_13x)]) dX12_parts_106 rfl rfl zc_1 ev4n11 rfl rfl ?_
          refine zJ_goto (tgt := 58) dX12_parts_109 (by decide) ?_
          refine zJ_loc (ls' := [(0, .ref 54), (2, .int v2_13x), (3, .int v3n10), (4, .int v4n11)]) (zll_c rfl (zll_c rfl (zll_c rfl (zll_c rfl zll_n)))) ?_
          exact hrc58 _ _ h
        · replace h := it_f hc h
          refine zJ_iconst dX12_parts_99 zc_1 rfl ?_
          refine zJ_goto (tgt := 104) dX12_parts_100 (by decide) ?_
          refine zJ_iadd dX12_parts_104 rfl ?_
          obtain ⟨v3n12, ev3n12, h⟩ := lt1_some h
          refine zJ_nmi ev3n12 ?_
          refine zJ_istore_n (ls' := [(3, .int v3n12), (0, .ref 54), (2, .int v2_13x), (4, .int v4_58)]) dX12_parts_105 rfl rfl rfl ?_
          obtain ⟨v4n13, ev4n13, h⟩ := lt1_some h
          refine zJ_iincN (ls' := [(4, .int v4n13), (3, .int v3n12), (0, .ref 54), (2, .int v2_13x)]) dX12_parts_106 rfl rfl zc_1 ev4n13 rfl rfl ?_
          refine zJ_goto (tgt := 58) dX12_parts_109 (by decide) ?_
          refine zJ_loc (ls' := [(0, .ref 54), (2, .int v2_13x), (3, .int v3n12), (4, .int v4n13)]) (zll_c rfl (zll_c rfl (zll_c rfl (zll_c rfl zll_n)))) ?_
          exact hrc58 _ _ h
  refine zJ_loc (ls' := [(0, .ref 54), (1, .int (0 : Int32)), (2, .int (100000000 : Int32)), (3, .int (0 : Int32))]) (zll_c rfl (zll_c rfl (zll_c rfl (zll_c rfl zll_n)))) ?_
  refine ml4_J (fun (v1_13 : Int32) (v2_13 : Int32) (v3_13 : Int32) (m_part_13 : (Nat → Int32)) => zJ l zW 2 mX12_parts σ ([(3472, m_rowMany), (3473, (0 : Int32))], [(55, m_now), (83, m_part_13)], [(65, m_row)]) 13 [(0, .ref 54), (1, .int v1_13), (2, .int v2_13), (3, .int v3_13)] [] (some (.int r)) ([(3472, w_m_rowMany), (3473, w_m_thrown)], [(55, m_now), (83, w_m_part)], [(65, w_m_row)])) (fun rc13 hrc13 v1_13 v2_13 v3_13 m_part_13 h => ?_) zN _ _ _ _ h
  unfold s_X12_parts_13 at h
  refine zJ_iload_n dX12_parts_13 rfl rfl ?_
  refine zJ_sipush dX12_parts_14 zs_15625 rfl ?_
  refine zJ_icmp_ge (tgt := 47) dX12_parts_17 (by decide) rfl (fun hc => ?_) (fun hc => ?_)
  · replace h := it_t hc h
    refine zJ_loc (ls' := [(0, .ref 54), (1, .int v1_13), (2, .int v2_13)]) (zll_c rfl (zll_c rfl (zll_c rfl zll_n))) ?_
    exact hk13 _ _ _ h
  · replace h := it_f hc h
    refine zJ_aload_n dX12_parts_20 rfl rfl ?_
    refine zJ_iload_n dX12_parts_21 rfl rfl ?_
    obtain ⟨rn14, m_partn15, hcl, h⟩ := bd2_some h
    refine zJ_callV2 (σ := σ) (L := ([(3472, m_rowMany), (3473, (0 : Int32))], [(55, m_now), (83, m_part_13)], [(65, m_row)])) (mi := mX12_parts) (yi := mX12_offBy) (as := [.int v3_13]) (st := []) (L2 := ([(3472, m_rowMany), (3473, (0 : Int32))], [(55, m_now), (83, m_partn15)], [(65, m_row)])) dX12_parts_22 ML_X12_432 Yv_X12_offBy rfl zW_54 rfl rfl (t_X12_offBy l _ hcl) (zsub_i zle_n (zle_c rfl (zle_c rfl zle_n)) zle_n) (zjok_i rfl rfl (zle_c rfl (zle_c rfl zle_n)) rfl rfl (zle_c rfl (zle_c rfl zle_n)) rfl rfl (zle_c rfl zle_n)) (Nat.le_of_ble_eq_true rfl) (Nat.le_of_ble_eq_true rfl) rfl rfl ?_
    refine zJ_istore (ls' := [(4, .int rn14), (0, .ref 54), (1, .int v1_13), (2, .int v2_13), (3, .int v3_13)]) dX12_parts_25 rfl rfl rfl ?_
    refine zJ_iload dX12_parts_27 rfl rfl ?_
    refine zJ_iload_n dX12_parts_29 rfl rfl ?_
    refine zJ_icmp_lt (tgt := 36) dX12_parts_30 (by decide) rfl (fun hc => ?_) (fun hc => ?_)
    · replace h := it_t hc h
      refine zJ_iload_n dX12_parts_36 rfl rfl ?_
      refine zJ_istore_n (ls' := [(1, .int v3_13), (4, .int rn14), (0, .ref 54), (2, .int v2_13), (3, .int v3_13)]) dX12_parts_37 rfl rfl rfl ?_
      refine zJ_iload dX12_parts_38 rfl rfl ?_
      refine zJ_istore_n (ls' := [(2, .int rn14), (1, .int v3_13), (4, .int rn14), (0, .ref 54), (3, .int v3_13)]) dX12_parts_40 rfl rfl rfl ?_
      obtain ⟨v3n16, ev3n16, h⟩ := lt1_some h
      refine zJ_iincN (ls' := [(3, .int v3n16), (2, .int rn14), (1, .int v3_13), (4, .int rn14), (0, .ref 54)]) dX12_parts_41 rfl rfl zc_1 ev3n16 rfl rfl ?_
      refine zJ_goto (tgt := 13) dX12_parts_44 (by decide) ?_
      refine zJ_loc (ls' := [(0, .ref 54), (1, .int v3_13), (2, .int rn14), (3, .int v3n16)]) (zll_c rfl (zll_c rfl (zll_c rfl (zll_c rfl zll_n)))) ?_
      exact hrc13 _ _ _ _ h
    · replace h := it_f hc h
      refine zJ_goto (tgt := 41) dX12_parts_33 (by decide) ?_
      obtain ⟨v3n17, ev3n17, h⟩ := lt1_some h
      refine zJ_iincN (ls' := [(3, .int v3n17), (4, .int rn14), (0, .ref 54), (1, .int v1_13), (2, .int v2_13)]) dX12_parts_41 rfl rfl zc_1 ev3n17 rfl rfl ?_
      refine zJ_goto (tgt := 13) dX12_parts_44 (by decide) ?_
      refine zJ_loc (ls' := [(0, .ref 54), (1, .int v1_13), (2, .int v2_13), (3, .int v3n17)]) (zll_c rfl (zll_c rfl (zll_c rfl (zll_c rfl zll_n)))) ?_
      exact hrc13 _ _ _ _ h
set_option maxRecDepth 100000 in
set_option maxHeartbeats 4000000 in
theorem t_X12_place (l : Launch) (σ : zS) {p1 : Int32} {p2 : Int32} {m_rowMany : Int32} {m_thrown : Int32} {m_now : (Nat → Int32)} {m_money : (Nat → Int32)} {m_row : (Nat → Int64)} {r : Int32} {w_m_rowMany : Int32} {w_m_thrown : Int32} {w_m_row : (Nat → Int64)} (h : f_X12_place p1 p2 m_rowMany m_thrown m_now m_money m_row = some (r, w_m_rowMany, w_m_thrown, w_m_row)) : zMt l zW 2 mX12_place σ ([(3472, m_rowMany), (3473, m_thrown)], [(55, m_now), (63, m_money)], [(65, m_row)]) [.ref 54, .int p1, .int p2] (some (.int r)) ([(3472, w_m_rowMany), (3473, w_m_thrown)], [(55, m_now), (63, m_money)], [(65, w_m_row)]) := by
  refine zMt_of (ls := [(0, .ref 54), (1, .int p1), (2, .int p2)]) (by decide) rfl (fun _ => Nat.le_of_ble_eq_true rfl) rfl ?_
  unfold f_X12_place at h
  refine zJ_aload_n dX12_place_0 rfl rfl ?_
  refine zJ_iconst dX12_place_1 zc_0 rfl ?_
  refine zK_puti (mi := mX12_place) (la' := [(3472, m_rowMany), (3473, (0 : Int32))]) zW_ok dX12_place_2 F_X12_113 P_12_17 zW_54 rfl rfl rfl ?_
  refine zJ_iload_n dX12_place_5 rfl rfl ?_
  refine zJ_iconst dX12_place_6 zc_0 rfl ?_
  refine zJ_bipush dX12_place_7 zb_99 rfl ?_
  obtain ⟨rn1, hcl, h⟩ := bd1_some h
  refine zJ_callS2 (σ := σ) (L := ([(3472, m_rowMany), (3473, (0 : Int32))], [(55, m_now), (63, m_money)], [(65, m_row)])) (mi := mX12_place) (yi := mX12_in) (as := [.int p1, .int (0 : Int32), .int (99 : Int32)]) (st := []) (L2 := ([(3472, m_rowMany), (3473, (0 : Int32))], [(55, m_now), (63, m_money)], [(65, m_row)])) dX12_place_9 ML_X12_122 Ys_X12_in rfl (t_X12_in l _ hcl) (zsub_i zle_n zle_n zle_n) (zjok_i rfl rfl (zle_c rfl (zle_c rfl zle_n)) rfl rfl (zle_c rfl (zle_c rfl zle_n)) rfl rfl (zle_c rfl zle_n)) (Nat.le_of_ble_eq_true rfl) (Nat.le_of_ble_eq_true rfl) rfl rfl ?_
  refine zJ_if_eq (tgt := 22) dX12_place_12 (by decide) rfl (fun hc => ?_) (fun hc => ?_)
  · replace h := it_t hc h
    refine zJ_iconst dX12_place_22 zc_m1 rfl ?_
    obtain ⟨rfl, rfl, rfl, rfl⟩ := so4 h
    exact zJ_iret dX12_place_23 rfl rfl
  · replace h := it_f hc h
    refine zJ_iload_n dX12_place_15 rfl rfl ?_
    obtain ⟨rn2, hcl, h⟩ := bd1_some h
    refine zJ_callS2 (σ := σ) (L := ([(3472, m_rowMany), (3473, (0 : Int32))], [(55, m_now), (63, m_money)], [(65, m_row)])) (mi := mX12_place) (yi := mX12_isMost) (as := [.int p2]) (st := []) (L2 := ([(3472, m_rowMany), (3473, (0 : Int32))], [(55, m_now), (63, m_money)], [(65, m_row)])) dX12_place_16 ML_X12_256 Ys_X12_isMost rfl (t_X12_isMost l _ hcl) (zsub_i zle_n zle_n zle_n) (zjok_i rfl rfl (zle_c rfl (zle_c rfl zle_n)) rfl rfl (zle_c rfl (zle_c rfl zle_n)) rfl rfl (zle_c rfl zle_n)) (Nat.le_of_ble_eq_true rfl) (Nat.le_of_ble_eq_true rfl) rfl rfl ?_
    refine zJ_if_ne (tgt := 24) dX12_place_19 (by decide) rfl (fun hc => ?_) (fun hc => ?_)
    · replace h := it_f hc h
      refine zJ_aload_n dX12_place_24 rfl rfl ?_
      refine zJ_getr (mi := mX12_place) dX12_place_25 F_X12_9 zW_54 rfl rfl ?_
      refine zJ_iload_n dX12_place_28 rfl rfl ?_
      refine zJ_iload_n dX12_place_29 rfl rfl ?_
      obtain ⟨rn3, hcl, h⟩ := bd1_some h
      refine zJ_callS2 (σ := σ) (L := ([(3472, m_rowMany), (3473, (0 : Int32))], [(55, m_now), (63, m_money)], [(65, m_row)])) (mi := mX12_place) (yi := mX12_placeFor) (as := [.ref 55, .int p1, .int p2]) (st := []) (L2 := ([(3472, m_rowMany), (3473, (0 : Int32))], [(55, m_now), (63, m_money)], [(65, m_row)])) dX12_place_30 ML_X12_368 Ys_X12_placeFor rfl (t_X12_placeFor_m_now l _ hcl) (zsub_i zle_n (zle_c rfl zle_n) zle_n) (zjok_i rfl rfl (zle_c rfl (zle_c rfl zle_n)) rfl rfl (zle_c rfl (zle_c rfl zle_n)) rfl rfl (zle_c rfl zle_n)) (Nat.le_of_ble_eq_true rfl) (Nat.le_of_ble_eq_true rfl) rfl rfl ?_
      refine zJ_istore_n (ls' := [(3, .int rn3), (0, .ref 54), (1, .int p1), (2, .int p2)]) dX12_place_33 rfl rfl rfl ?_
      refine zJ_aload_n dX12_place_34 rfl rfl ?_
      refine zJ_iconst dX12_place_35 zc_0 rfl ?_
      refine zK_puti (mi := mX12_place) (la' := [(3472, (0 : Int32)), (3473, (0 : Int32))]) zW_ok dX12_place_36 F_X12_116 P_12_16 zW_54 rfl rfl rfl ?_
      refine zJ_aload_n dX12_place_39 rfl rfl ?_
      refine zJ_aload_n dX12_place_40 rfl rfl ?_
      refine zJ_iload_n dX12_place_41 rfl rfl ?_
      obtain ⟨rn4, hcl, h⟩ := bd1_some h
      refine zJ_callV2 (σ := σ) (L := ([(3472, (0 : Int32)), (3473, (0 : Int32))], [(55, m_now), (63, m_money)], [(65, m_row)])) (mi := mX12_place) (yi := mX12_moneyOf) (as := [.int rn3]) (st := [.ref 54]) (L2 := ([(3472, (0 : Int32)), (3473, (0 : Int32))], [(55, m_now), (63, m_money)], [(65, m_row)])) dX12_place_42 ML_X12_362 Yv_X12_moneyOf rfl zW_54 rfl rfl (t_X12_moneyOf l _ hcl) (zsub_i zle_n (zle_c rfl zle_n) zle_n) (zjok_i rfl rfl (zle_c rfl (zle_c rfl zle_n)) rfl rfl (zle_c rfl (zle_c rfl zle_n)) rfl rfl (zle_c rfl zle_n)) (Nat.le_of_ble_eq_true rfl) (Nat.le_of_ble_eq_true rfl) rfl rfl ?_
      refine zJ_i2l dX12_place_45 rfl ?_
      obtain ⟨m_rowManyn5, m_rown6, hcl, h⟩ := bd2_some h
      refine zJ_callV2 (σ := σ) (L := ([(3472, (0 : Int32)), (3473, (0 : Int32))], [(55, m_now), (63, m_money)], [(65, m_row)])) (mi := mX12_place) (yi := mX12_tell) (as := [.long rn4.toInt64]) (st := []) (L2 := ([(3472, m_rowManyn5), (3473, (0 : Int32))], [(55, m_now), (63, m_money)], [(65, m_rown6)])) dX12_place_46 ML_X12_265 Yv_X12_tell rfl zW_54 rfl rfl (t_X12_tell l _ hcl) (zsub_i (zle_c rfl zle_n) zle_n (zle_c rfl zle_n)) (zjok_i rfl rfl (zle_c rfl (zle_c rfl zle_n)) rfl rfl (zle_c rfl (zle_c rfl zle_n)) rfl rfl (zle_c rfl zle_n)) (Nat.le_of_ble_eq_true rfl) (Nat.le_of_ble_eq_true rfl) rfl rfl ?_
      refine zJ_iload_n dX12_place_49 rfl rfl ?_
      obtain ⟨rfl, rfl, rfl, rfl⟩ := so4 h
      exact zJ_iret dX12_place_50 rfl rfl
    · replace h := it_t hc h
      refine zJ_iconst dX12_place_22 zc_m1 rfl ?_
      obtain ⟨rfl, rfl, rfl, rfl⟩ := so4 h
      exact zJ_iret dX12_place_23 rfl rfl
set_option maxRecDepth 100000 in
set_option maxHeartbeats 4000000 in
theorem t_X12_plan (l : Launch) (σ : zS) {m_fences : Int32} {m_plans : Int32} {m_typed : Int32} {m_thrown : Int32} {m_plan : (Nat → Int32)} {m_text : (Nat → Int32)} {r : Int32} {w_m_plans : Int32} {w_m_typed : Int32} {w_m_thrown : Int32} {w_m_plan : (Nat → Int32)} (h : f_X12_plan m_fences m_plans m_typed m_thrown m_plan m_text = some (r, w_m_plans, w_m_typed, w_m_thrown, w_m_plan)) : zMt l zW 1 mX12_plan σ ([(3457, m_fences), (3466, m_plans), (3470, m_typed), (3473, m_thrown)], [(62, m_plan), (64, m_text)], []) [.ref 54] (some (.int r)) ([(3457, m_fences), (3466, w_m_plans), (3470, w_m_typed), (3473, w_m_thrown)], [(62, w_m_plan), (64, m_text)], []) := by
  refine zMt_of (ls := [(0, .ref 54)]) (by decide) rfl (fun _ => Nat.le_of_ble_eq_true rfl) rfl ?_
  unfold f_X12_plan at h
  refine zJ_aload_n dX12_plan_0 rfl rfl ?_
  refine zJ_iconst dX12_plan_1 zc_0 rfl ?_
  refine zK_puti (mi := mX12_plan) (la' := [(3457, m_fences), (3466, m_plans), (3470, m_typed), (3473, (0 : Int32))]) zW_ok dX12_plan_2 F_X12_113 P_12_17 zW_54 rfl rfl rfl ?_
  refine zJ_aload_n dX12_plan_5 rfl rfl ?_
  refine zJ_geti (mi := mX12_plan) (x := m_typed) dX12_plan_6 F_X12_139 zW_54 rfl rfl rfl ?_
  refine zJ_istore_n (ls' := [(1, .int m_typed), (0, .ref 54)]) dX12_plan_9 rfl rfl rfl ?_
  refine zJ_aload_n dX12_plan_10 rfl rfl ?_
  refine zJ_iconst dX12_plan_11 zc_0 rfl ?_
  refine zK_puti (mi := mX12_plan) (la' := [(3457, m_fences), (3466, m_plans), (3470, (0 : Int32)), (3473, (0 : Int32))]) zW_ok dX12_plan_12 F_X12_139 P_12_14 zW_54 rfl rfl rfl ?_
  refine zJ_aload_n dX12_plan_15 rfl rfl ?_
  refine zJ_geti (mi := mX12_plan) (x := m_plans) dX12_plan_16 F_X12_129 zW_54 rfl rfl rfl ?_
  refine zJ_bipush dX12_plan_19 zb_6 rfl ?_
  refine zJ_icmp_ne (tgt := 27) dX12_plan_21 (by decide) rfl (fun hc => ?_) (fun hc => ?_)
  · replace h := it_f hc h
    refine zJ_iconst dX12_plan_27 zc_0 rfl ?_
    refine zJ_istore_n (ls' := [(2, .int (0 : Int32)), (1, .int m_typed), (0, .ref 54)]) dX12_plan_28 rfl rfl rfl ?_
    have hk29 : ∀ (_u : Unit), k_X12_plan_29 m_fences m_plans m_typed m_plan m_text _u = some (r, w_m_plans, w_m_typed, w_m_thrown, w_m_plan) → zJ l zW 1 mX12_plan σ ([(3457, m_fences), (3466, m_plans), (3470, (0 : Int32)), (3473, (0 : Int32))], [(62, m_plan), (64, m_text)], []) 68 [(0, .ref 54), (1, .int m_typed)] [] (some (.int r)) ([(3457, m_fences), (3466, w_m_plans), (3470, w_m_typed), (3473, w_m_thrown)], [(62, w_m_plan), (64, m_text)], []) := by
      intro _u h
      unfold k_X12_plan_29 at h
      refine zJ_iload_n dX12_plan_68 rfl rfl ?_
      refine zJ_aload_n dX12_plan_69 rfl rfl ?_
      refine zJ_geti (mi := mX12_plan) (x := m_fences) dX12_plan_70 F_X12_119 zW_54 rfl rfl rfl ?_
      refine zJ_icmp_ge (tgt := 80) dX12_plan_73 (by decide) rfl (fun hc => ?_) (fun hc => ?_)
      · replace h := it_t hc h
        refine zJ_iconst dX12_plan_80 zc_0 rfl ?_
        refine zJ_istore_n (ls' := [(2, .int (0 : Int32)), (0, .ref 54), (1, .int m_typed)]) dX12_plan_81 rfl rfl rfl ?_
        have hk82 : ∀ (m_plan_82x : (Nat → Int32)), k_X12_plan_82 m_plans m_plan_82x = some (r, w_m_plans, w_m_typed, w_m_thrown, w_m_plan) → zJ l zW 1 mX12_plan σ ([(3457, m_fences), (3466, m_plans), (3470, (0 : Int32)), (3473, (0 : Int32))], [(62, m_plan_82x), (64, m_text)], []) 116 [(0, .ref 54)] [] (some (.int r)) ([(3457, m_fences), (3466, w_m_plans), (3470, w_m_typed), (3473, w_m_thrown)], [(62, w_m_plan), (64, m_text)], []) := by
          intro m_plan_82x h
          unfold k_X12_plan_82 at h
          refine zJ_aload_n dX12_plan_116 rfl rfl ?_
          refine zJ_dup dX12_plan_117 rfl rfl ?_
          refine zJ_geti (mi := mX12_plan) (x := m_plans) dX12_plan_118 F_X12_129 zW_54 rfl rfl rfl ?_
          refine zJ_iconst dX12_plan_121 zc_1 rfl ?_
          refine zJ_iadd dX12_plan_122 rfl ?_
          refine zK_puti (mi := mX12_plan) (la' := [(3457, m_fences), (3466, (m_plans + (1 : Int32))), (3470, (0 : Int32)), (3473, (0 : Int32))]) zW_ok dX12_plan_123 F_X12_129 P_12_10 zW_54 rfl rfl rfl ?_
          refine zJ_aload_n dX12_plan_126 rfl rfl ?_
          refine zJ_geti (mi := mX12_plan) (x := (m_plans + (1 : Int32))) dX12_plan_127 F_X12_129 zW_54 rfl rfl rfl ?_
          refine zJ_iconst dX12_plan_130 zc_1 rfl ?_
          refine zJ_isub dX12_plan_131 rfl ?_
          obtain ⟨rfl, rfl, rfl, rfl, rfl⟩ := so5 h
          exact zJ_iret dX12_plan_132 rfl rfl
        refine zJ_loc (ls' := [(0, .ref 54), (1, .int m_typed), (2, .int (0 : Int32))]) (zll_c rfl (zll_c rfl (zll_c rfl zll_n))) ?_
        refine ml2_J (fun (v2_82 : Int32) (m_plan_82 : (Nat → Int32)) => zJ l zW 1 mX12_plan σ ([(3457, m_fences), (3466, m_plans), (3470, (0 : Int32)), (3473, (0 : Int32))], [(62, m_plan_82), (64, m_text)], []) 82 [(0, .ref 54), (1, .int m_typed), (2, .int v2_82)] [] (some (.int r)) ([(3457, m_fences), (3466, w_m_plans), (3470, w_m_typed), (3473, w_m_thrown)], [(62, w_m_plan), (64, m_text)], [])) (fun rc82 hrc82 v2_82 m_plan_82 h => ?_) zN _ _ h
        unfold s_X12_plan_82 at h
        refine zJ_iload_n dX12_plan_82 rfl rfl ?_
        refine zJ_iload_n dX12_plan_83 rfl rfl ?_
        refine zJ_icmp_ge (tgt := 116) dX12_plan_84 (by decide) rfl (fun hc => ?_) (fun hc => ?_)
        · replace h := it_t hc h
          refine zJ_loc (ls' := [(0, .ref 54)]) (zll_c rfl zll_n) ?_
          exact hk82 _ h
        · replace h := it_f hc h
          refine zJ_aload_n dX12_plan_87 rfl rfl ?_
          refine zJ_getr (mi := mX12_plan) dX12_plan_88 F_X12_35 zW_54 rfl rfl ?_
          refine zJ_bipush dX12_plan_91 zb_8 rfl ?_
          refine zJ_aload_n dX12_plan_93 rfl rfl ?_
          refine zJ_geti (mi := mX12_plan) (x := m_plans) dX12_plan_94 F_X12_129 zW_54 rfl rfl rfl ?_
          refine zJ_imul dX12_plan_97 rfl ?_
          refine zJ_iload_n dX12_plan_98 rfl rfl ?_
          refine zJ_iadd dX12_plan_99 rfl ?_
          refine zJ_aload_n dX12_plan_100 rfl rfl ?_
          refine zJ_getr (mi := mX12_plan) dX12_plan_101 F_X12_41 zW_54 rfl rfl ?_
          refine zJ_iload_n dX12_plan_104 rfl rfl ?_
          obtain ⟨hg, h⟩ := gd_some h
          refine zJ_bald (mi := mX12_plan) (f := m_text) dX12_plan_105 zW_64 (ix_in hg) rfl rfl ?_
          refine zJ_bipush dX12_plan_106 zb_97 rfl ?_
          refine zJ_isub dX12_plan_108 rfl ?_
          obtain ⟨hg, h⟩ := gd_some h
          refine zK_iast (mi := mX12_plan) (f := m_plan_82) (lb' := [(62, (upd m_plan_82 (((8 : Int32) * m_plans) + v2_82).toNatClampNeg ((m_text v2_82.toNatClampNeg) - (97 : Int32)))), (64, m_text)]) dX12_plan_109 zW_62 (ix_in hg) rfl rfl rfl ?_
          obtain ⟨v2n1, ev2n1, h⟩ := lt1_some h
          refine zJ_iincN (ls' := [(2, .int v2n1), (0, .ref 54), (1, .int m_typed)]) dX12_plan_110 rfl rfl zc_1 ev2n1 rfl rfl ?_
          refine zJ_goto (tgt := 82) dX12_plan_113 (by decide) ?_
          refine zJ_loc (ls' := [(0, .ref 54), (1, .int m_typed), (2, .int v2n1)]) (zll_c rfl (zll_c rfl (zll_c rfl zll_n))) ?_
          exact hrc82 _ _ h
      · replace h := it_f hc h
        refine zJ_iconst dX12_plan_76 zc_m1 rfl ?_
        refine zJ_iload_n dX12_plan_77 rfl rfl ?_
        refine zJ_isub dX12_plan_78 rfl ?_
        obtain ⟨rfl, rfl, rfl, rfl, rfl⟩ := so5 h
        exact zJ_iret dX12_plan_79 rfl rfl
    refine zJ_loc (ls' := [(0, .ref 54), (1, .int m_typed), (2, .int (0 : Int32))]) (zll_c rfl (zll_c rfl (zll_c rfl zll_n))) ?_
    refine ml1_J (fun (v2_29 : Int32) => zJ l zW 1 mX12_plan σ ([(3457, m_fences), (3466, m_plans), (3470, (0 : Int32)), (3473, (0 : Int32))], [(62, m_plan), (64, m_text)], []) 29 [(0, .ref 54), (1, .int m_typed), (2, .int v2_29)] [] (some (.int r)) ([(3457, m_fences), (3466, w_m_plans), (3470, w_m_typed), (3473, w_m_thrown)], [(62, w_m_plan), (64, m_text)], [])) (fun rc29 hrc29 v2_29 h => ?_) zN _ h
    unfold s_X12_plan_29 at h
    refine zJ_iload_n dX12_plan_29 rfl rfl ?_
    refine zJ_iload_n dX12_plan_30 rfl rfl ?_
    refine zJ_icmp_ge (tgt := 68) dX12_plan_31 (by decide) rfl (fun hc => ?_) (fun hc => ?_)
    · replace h := it_t hc h
      refine zJ_loc (ls' := [(0, .ref 54), (1, .int m_typed)]) (zll_c rfl (zll_c rfl zll_n)) ?_
      exact hk29 _ h
    · replace h := it_f hc h
      refine zJ_iload_n dX12_plan_34 rfl rfl ?_
      refine zJ_aload_n dX12_plan_35 rfl rfl ?_
      refine zJ_geti (mi := mX12_plan) (x := m_fences) dX12_plan_36 F_X12_119 zW_54 rfl rfl rfl ?_
      refine zJ_icmp_eq (tgt := 58) dX12_plan_39 (by decide) rfl (fun hc => ?_) (fun hc => ?_)
      · replace h := it_t hc h
        refine zJ_iconst dX12_plan_58 zc_m1 rfl ?_
        refine zJ_iload_n dX12_plan_59 rfl rfl ?_
        refine zJ_isub dX12_plan_60 rfl ?_
        obtain ⟨rfl, rfl, rfl, rfl, rfl⟩ := so5 h
        exact zJ_iret dX12_plan_61 rfl rfl
      · replace h := it_f hc h
        refine zJ_aload_n dX12_plan_42 rfl rfl ?_
        refine zJ_getr (mi := mX12_plan) dX12_plan_43 F_X12_41 zW_54 rfl rfl ?_
        refine zJ_iload_n dX12_plan_46 rfl rfl ?_
        obtain ⟨hg, h⟩ := gd_some h
        refine zJ_bald (mi := mX12_plan) (f := m_text) dX12_plan_47 zW_64 (ix_in hg) rfl rfl ?_
        refine zJ_bipush dX12_plan_48 zb_97 rfl ?_
        refine zJ_bipush dX12_plan_50 zb_104 rfl ?_
        obtain ⟨rn2, hcl, h⟩ := bd1_some h
        refine zJ_callS2 (σ := σ) (L := ([(3457, m_fences), (3466, m_plans), (3470, (0 : Int32)), (3473, (0 : Int32))], [(62, m_plan), (64, m_text)], [])) (mi := mX12_plan) (yi := mX12_in) (as := [.int (m_text v2_29.toNatClampNeg), .int (97 : Int32), .int (104 : Int32)]) (st := []) (L2 := ([(3457, m_fences), (3466, m_plans), (3470, (0 : Int32)), (3473, (0 : Int32))], [(62, m_plan), (64, m_text)], [])) dX12_plan_52 ML_X12_122 Ys_X12_in rfl (t_X12_in l _ hcl) (zsub_i zle_n zle_n zle_n) (zjok_i rfl rfl (zle_c rfl (zle_c rfl (zle_c rfl (zle_c rfl zle_n)))) rfl rfl (zle_c rfl (zle_c rfl zle_n)) rfl rfl zle_n) (Nat.le_of_ble_eq_true rfl) (Nat.le_of_ble_eq_true rfl) rfl rfl ?_
        refine zJ_if_ne (tgt := 62) dX12_plan_55 (by decide) rfl (fun hc => ?_) (fun hc => ?_)
        · replace h := it_f hc h
          obtain ⟨v2n3, ev2n3, h⟩ := lt1_some h
          refine zJ_iincN (ls' := [(2, .int v2n3), (0, .ref 54), (1, .int m_typed)]) dX12_plan_62 rfl rfl zc_1 ev2n3 rfl rfl ?_
          refine zJ_goto (tgt := 29) dX12_plan_65 (by decide) ?_
          refine zJ_loc (ls' := [(0, .ref 54), (1, .int m_typed), (2, .int v2n3)]) (zll_c rfl (zll_c rfl (zll_c rfl zll_n))) ?_
          exact hrc29 _ h
        · replace h := it_t hc h
          refine zJ_iconst dX12_plan_58 zc_m1 rfl ?_
          refine zJ_iload_n dX12_plan_59 rfl rfl ?_
          refine zJ_isub dX12_plan_60 rfl ?_
          obtain ⟨rfl, rfl, rfl, rfl, rfl⟩ := so5 h
          exact zJ_iret dX12_plan_61 rfl rfl
  · replace h := it_t hc h
    refine zJ_bipush dX12_plan_24 zb_m100 rfl ?_
    obtain ⟨rfl, rfl, rfl, rfl, rfl⟩ := so5 h
    exact zJ_iret dX12_plan_26 rfl rfl
set_option maxRecDepth 100000 in
set_option maxHeartbeats 4000000 in
theorem t_X12_poles (l : Launch) (σ : zS) {p1 : Int32} {p2 : Int32} {p3 : Int32} {m_fences : Int32} {m_horses : Int32} {m_plans : Int32} {m_thrown : Int32} {m_read : Int32} {m_length : Int32} {m_top : Int32} {m_at : Int32} {m_wrong : Int32} {m_ruleSize : Int32} {m_isAsked : Int32} {m_askedHorse : Int32} {m_askedFence : Int32} {m_askedLetter : Int32} {m_askedHeight : Int32} {m_kind : (Nat → Int32)} {m_height : (Nat → Int32)} {m_feet : (Nat → Int32)} {m_stride : (Nat → Int32)} {m_scope : (Nat → Int32)} {m_care : (Nat → Int32)} {m_plan : (Nat → Int32)} {m_rule : (Nat → Int32)} {m_fallen : (Nat → Int32)} {r : Int32} {w_m_thrown : Int32} {w_m_read : Int32} {w_m_length : Int32} {w_m_top : Int32} {w_m_at : Int32} {w_m_wrong : Int32} {w_m_isAsked : Int32} {w_m_askedHorse : Int32} {w_m_askedFence : Int32} {w_m_askedLetter : Int32} {w_m_askedHeight : Int32} {w_m_fallen : (Nat → Int32)} (h : f_X12_poles p1 p2 p3 m_fences m_horses m_plans m_thrown m_read m_length m_top m_at m_wrong m_ruleSize m_isAsked m_askedHorse m_askedFence m_askedLetter m_askedHeight m_kind m_height m_feet m_stride m_scope m_care m_plan m_rule m_fallen = some (r, w_m_thrown, w_m_read, w_m_length, w_m_top, w_m_at, w_m_wrong, w_m_isAsked, w_m_askedHorse, w_m_askedFence, w_m_askedLetter, w_m_askedHeight, w_m_fallen)) : zMt l zW 207 mX12_poles σ ([(3457, m_fences), (3462, m_horses), (3466, m_plans), (3473, m_thrown), (3474, m_read), (3475, m_length), (3476, m_top), (3477, m_at), (3478, m_wrong), (3483, m_ruleSize), (3484, m_isAsked), (3485, m_askedHorse), (3486, m_askedFence), (3487, m_askedLetter), (3488, m_askedHeight)], [(56, m_kind), (57, m_height), (58, m_feet), (59, m_stride), (60, m_scope), (61, m_care), (62, m_plan), (69, m_rule), (70, m_fallen)], []) [.ref 54, .int p1, .int p2, .int p3] (some (.int r)) ([(3457, m_fences), (3462, m_horses), (3466, m_plans), (3473, w_m_thrown), (3474, w_m_read), (3475, w_m_length), (3476, w_m_top), (3477, w_m_at), (3478, w_m_wrong), (3483, m_ruleSize), (3484, w_m_isAsked), (3485, w_m_askedHorse), (3486, w_m_askedFence), (3487, w_m_askedLetter), (3488, w_m_askedHeight)], [(56, m_kind), (57, m_height), (58, m_feet), (59, m_stride), (60, m_scope), (61, m_care), (62, m_plan), (69, m_rule), (70, w_m_fallen)], []) := by
  refine zMt_of (ls := [(0, .ref 54), (1, .int p1), (2, .int p2), (3, .int p3)]) (by decide) rfl (fun _ => Nat.le_of_ble_eq_true rfl) rfl ?_
  unfold f_X12_poles at h
  refine zJ_aload_n dX12_poles_0 rfl rfl ?_
  refine zJ_iconst dX12_poles_1 zc_0 rfl ?_
  refine zK_puti (mi := mX12_poles) (la' := [(3457, m_fences), (3462, m_horses), (3466, m_plans), (3473, (0 : Int32)), (3474, m_read), (3475, m_length), (3476, m_top), (3477, m_at), (3478, m_wrong), (3483, m_ruleSize), (3484, m_isAsked), (3485, m_askedHorse), (3486, m_askedFence), (3487, m_askedLetter), (3488, m_askedHeight)]) zW_ok dX12_poles_2 F_X12_113 P_12_17 zW_54 rfl rfl rfl ?_
  refine zJ_aload_n dX12_poles_5 rfl rfl ?_
  refine zJ_iload_n dX12_poles_6 rfl rfl ?_
  refine zJ_iload_n dX12_poles_7 rfl rfl ?_
  obtain ⟨rn1, hcl, h⟩ := bd1_some h
  refine zJ_callV2 (σ := σ) (L := ([(3457, m_fences), (3462, m_horses), (3466, m_plans), (3473, (0 : Int32)), (3474, m_read), (3475, m_length), (3476, m_top), (3477, m_at), (3478, m_wrong), (3483, m_ruleSize), (3484, m_isAsked), (3485, m_askedHorse), (3486, m_askedFence), (3487, m_askedLetter), (3488, m_askedHeight)], [(56, m_kind), (57, m_height), (58, m_feet), (59, m_stride), (60, m_scope), (61, m_care), (62, m_plan), (69, m_rule), (70, m_fallen)], [])) (mi := mX12_poles) (yi := mX12_areBoth) (as := [.int p1, .int p2]) (st := []) (L2 := ([(3457, m_fences), (3462, m_horses), (3466, m_plans), (3473, (0 : Int32)), (3474, m_read), (3475, m_length), (3476, m_top), (3477, m_at), (3478, m_wrong), (3483, m_ruleSize), (3484, m_isAsked), (3485, m_askedHorse), (3486, m_askedFence), (3487, m_askedLetter), (3488, m_askedHeight)], [(56, m_kind), (57, m_height), (58, m_feet), (59, m_stride), (60, m_scope), (61, m_care), (62, m_plan), (69, m_rule), (70, m_fallen)], [])) dX12_poles_8 ML_X12_279 Yv_X12_areBoth rfl zW_54 rfl rfl (t_X12_areBoth l _ hcl) (zsub_i (zle_c rfl (zle_c rfl zle_n)) zle_n zle_n) (zjok_i rfl rfl (zle_c rfl (zle_c rfl (zle_c rfl (zle_c rfl (zle_c rfl (zle_c rfl (zle_c rfl (zle_c rfl (zle_c rfl (zle_c rfl (zle_c rfl (zle_c rfl (zle_c rfl (zle_c rfl (zle_c rfl zle_n))))))))))))))) rfl rfl (zle_c rfl (zle_c rfl (zle_c rfl (zle_c rfl (zle_c rfl (zle_c rfl (zle_c rfl (zle_c rfl (zle_c rfl zle_n))))))))) rfl rfl zle_n) (Nat.le_of_ble_eq_true rfl) (Nat.le_of_ble_eq_true rfl) rfl rfl ?_
  refine zJ_if_eq (tgt := 24) dX12_poles_11 (by decide) rfl (fun hc => ?_) (fun hc => ?_)
  · replace h := it_t hc h
    refine zJ_iconst dX12_poles_24 zc_m1 rfl ?_
    obtain ⟨rfl, rfl, rfl, rfl, rfl, rfl, rfl, rfl, rfl, rfl, rfl, rfl, rfl⟩ := so13 h
    exact zJ_iret dX12_poles_25 rfl rfl
  · replace h := it_f hc h
    refine zJ_iload_n dX12_poles_14 rfl rfl ?_
    refine zJ_iconst dX12_poles_15 zc_0 rfl ?_
    refine zJ_bipush dX12_poles_16 zb_8 rfl ?_
    obtain ⟨rn2, hcl, h⟩ := bd1_some h
    refine zJ_callS2 (σ := σ) (L := ([(3457, m_fences), (3462, m_horses), (3466, m_plans), (3473, (0 : Int32)), (3474, m_read), (3475, m_length), (3476, m_top), (3477, m_at), (3478, m_wrong), (3483, m_ruleSize), (3484, m_isAsked), (3485, m_askedHorse), (3486, m_askedFence), (3487, m_askedLetter), (3488, m_askedHeight)], [(56, m_kind), (57, m_height), (58, m_feet), (59, m_stride), (60, m_scope), (61, m_care), (62, m_plan), (69, m_rule), (70, m_fallen)], [])) (mi := mX12_poles) (yi := mX12_in) (as := [.int p3, .int (0 : Int32), .int (8 : Int32)]) (st := []) (L2 := ([(3457, m_fences), (3462, m_horses), (3466, m_plans), (3473, (0 : Int32)), (3474, m_read), (3475, m_length), (3476, m_top), (3477, m_at), (3478, m_wrong), (3483, m_ruleSize), (3484, m_isAsked), (3485, m_askedHorse), (3486, m_askedFence), (3487, m_askedLetter), (3488, m_askedHeight)], [(56, m_kind), (57, m_height), (58, m_feet), (59, m_stride), (60, m_scope), (61, m_care), (62, m_plan), (69, m_rule), (70, m_fallen)], [])) dX12_poles_18 ML_X12_122 Ys_X12_in rfl (t_X12_in l _ hcl) (zsub_i zle_n zle_n zle_n) (zjok_i rfl rfl (zle_c rfl (zle_c rfl (zle_c rfl (zle_c rfl (zle_c rfl (zle_c rfl (zle_c rfl (zle_c rfl (zle_c rfl (zle_c rfl (zle_c rfl (zle_c rfl (zle_c rfl (zle_c rfl (zle_c rfl zle_n))))))))))))))) rfl rfl (zle_c rfl (zle_c rfl (zle_c rfl (zle_c rfl (zle_c rfl (zle_c rfl (zle_c rfl (zle_c rfl (zle_c rfl zle_n))))))))) rfl rfl zle_n) (Nat.le_of_ble_eq_true rfl) (Nat.le_of_ble_eq_true rfl) rfl rfl ?_
    refine zJ_if_ne (tgt := 26) dX12_poles_21 (by decide) rfl (fun hc => ?_) (fun hc => ?_)
    · replace h := it_f hc h
      refine zJ_iconst dX12_poles_26 zc_0 rfl ?_
      refine zJ_istore (ls' := [(4, .int (0 : Int32)), (0, .ref 54), (1, .int p1), (2, .int p2), (3, .int p3)]) dX12_poles_27 rfl rfl rfl ?_
      have hk29 : ∀ (m_fallen_29x : (Nat → Int32)), k_X12_poles_29 p1 p2 p3 m_fences m_read m_length m_top m_at m_wrong m_ruleSize m_isAsked m_askedHorse m_askedFence m_askedLetter m_askedHeight m_kind m_height m_feet m_stride m_scope m_care m_plan m_rule m_fallen_29x = some (r, w_m_thrown, w_m_read, w_m_length, w_m_top, w_m_at, w_m_wrong, w_m_isAsked, w_m_askedHorse, w_m_askedFence, w_m_askedLetter, w_m_askedHeight, w_m_fallen) → zJ l zW 207 mX12_poles σ ([(3457, m_fences), (3462, m_horses), (3466, m_plans), (3473, (0 : Int32)), (3474, m_read), (3475, m_length), (3476, m_top), (3477, m_at), (3478, m_wrong), (3483, m_ruleSize), (3484, m_isAsked), (3485, m_askedHorse), (3486, m_askedFence), (3487, m_askedLetter), (3488, m_askedHeight)], [(56, m_kind), (57, m_height), (58, m_feet), (59, m_stride), (60, m_scope), (61, m_care), (62, m_plan), (69, m_rule), (70, m_fallen_29x)], []) 61 [(0, .ref 54), (1, .int p1), (2, .int p2), (3, .int p3)] [] (some (.int r)) ([(3457, m_fences), (3462, m_horses), (3466, m_plans), (3473, w_m_thrown), (3474, w_m_read), (3475, w_m_length), (3476, w_m_top), (3477, w_m_at), (3478, w_m_wrong), (3483, m_ruleSize), (3484, w_m_isAsked), (3485, w_m_askedHorse), (3486, w_m_askedFence), (3487, w_m_askedLetter), (3488, w_m_askedHeight)], [(56, m_kind), (57, m_height), (58, m_feet), (59, m_stride), (60, m_scope), (61, m_care), (62, m_plan), (69, m_rule), (70, w_m_fallen)], []) := by
        intro m_fallen_29x h
        unfold k_X12_poles_29 at h
        refine zJ_iconst dX12_poles_61 zc_0 rfl ?_
        refine zJ_istore (ls' := [(4, .int (0 : Int32)), (0, .ref 54), (1, .int p1), (2, .int p2), (3, .int p3)]) dX12_poles_62 rfl rfl rfl ?_
        have hk64 : ∀ (m_read_64x : Int32) (m_length_64x : Int32) (m_top_64x : Int32) (m_at_64x : Int32) (m_wrong_64x : Int32) (m_isAsked_64x : Int32) (m_askedHorse_64x : Int32) (m_askedFence_64x : Int32) (m_askedLetter_64x : Int32) (m_askedHeight_64x : Int32) (m_fallen_64x : (Nat → Int32)), k_X12_poles_64 p3 m_read_64x m_length_64x m_top_64x m_at_64x m_wrong_64x m_isAsked_64x m_askedHorse_64x m_askedFence_64x m_askedLetter_64x m_askedHeight_64x m_fallen_64x = some (r, w_m_thrown, w_m_read, w_m_length, w_m_top, w_m_at, w_m_wrong, w_m_isAsked, w_m_askedHorse, w_m_askedFence, w_m_askedLetter, w_m_askedHeight, w_m_fallen) → zJ l zW 207 mX12_poles σ ([(3457, m_fences), (3462, m_horses), (3466, m_plans), (3473, (0 : Int32)), (3474, m_read_64x), (3475, m_length_64x), (3476, m_top_64x), (3477, m_at_64x), (3478, m_wrong_64x), (3483, m_ruleSize), (3484, m_isAsked_64x), (3485, m_askedHorse_64x), (3486, m_askedFence_64x), (3487, m_askedLetter_64x), (3488, m_askedHeight_64x)], [(56, m_kind), (57, m_height), (58, m_feet), (59, m_stride), (60, m_scope), (61, m_care), (62, m_plan), (69, m_rule), (70, m_fallen_64x)], []) 158 [(0, .ref 54), (3, .int p3)] [] (some (.int r)) ([(3457, m_fences), (3462, m_horses), (3466, m_plans), (3473, w_m_thrown), (3474, w_m_read), (3475, w_m_length), (3476, w_m_top), (3477, w_m_at), (3478, w_m_wrong), (3483, m_ruleSize), (3484, w_m_isAsked), (3485, w_m_askedHorse), (3486, w_m_askedFence), (3487, w_m_askedLetter), (3488, w_m_askedHeight)], [(56, m_kind), (57, m_height), (58, m_feet), (59, m_stride), (60, m_scope), (61, m_care), (62, m_plan), (69, m_rule), (70, w_m_fallen)], []) := by
          intro m_read_64x m_length_64x m_top_64x m_at_64x m_wrong_64x m_isAsked_64x m_askedHorse_64x m_askedFence_64x m_askedLetter_64x m_askedHeight_64x m_fallen_64x h
          unfold k_X12_poles_64 at h
          refine zJ_aload_n dX12_poles_158 rfl rfl ?_
          refine zJ_getr (mi := mX12_poles) dX12_poles_159 F_X12_61 zW_54 rfl rfl ?_
          refine zJ_iload_n dX12_poles_162 rfl rfl ?_
          obtain ⟨hg, h⟩ := gd_some h
          refine zJ_iald (mi := mX12_poles) (f := m_fallen_64x) dX12_poles_163 zW_70 (ix_in hg) rfl rfl ?_
          obtain ⟨rfl, rfl, rfl, rfl, rfl, rfl, rfl, rfl, rfl, rfl, rfl, rfl, rfl⟩ := so13 h
          exact zJ_iret dX12_poles_164 rfl rfl
        refine zJ_loc (ls' := [(0, .ref 54), (1, .int p1), (2, .int p2), (3, .int p3), (4, .int (0 : Int32))]) (zll_c rfl (zll_c rfl (zll_c rfl (zll_c rfl (zll_c rfl zll_n))))) ?_
        refine ml12_J (fun (v4_64 : Int32) (m_read_64 : Int32) (m_length_64 : Int32) (m_top_64 : Int32) (m_at_64 : Int32) (m_wrong_64 : Int32) (m_isAsked_64 : Int32) (m_askedHorse_64 : Int32) (m_askedFence_64 : Int32) (m_askedLetter_64 : Int32) (m_askedHeight_64 : Int32) (m_fallen_64 : (Nat → Int32)) => zJ l zW 207 mX12_poles σ ([(3457, m_fences), (3462, m_horses), (3466, m_plans), (3473, (0 : Int32)), (3474, m_read_64), (3475, m_length_64), (3476, m_top_64), (3477, m_at_64), (3478, m_wrong_64), (3483, m_ruleSize), (3484, m_isAsked_64), (3485, m_askedHorse_64), (3486, m_askedFence_64), (3487, m_askedLetter_64), (3488, m_askedHeight_64)], [(56, m_kind), (57, m_height), (58, m_feet), (59, m_stride), (60, m_scope), (61, m_care), (62, m_plan), (69, m_rule), (70, m_fallen_64)], []) 64 [(0, .ref 54), (1, .int p1), (2, .int p2), (3, .int p3), (4, .int v4_64)] [] (some (.int r)) ([(3457, m_fences), (3462, m_horses), (3466, m_plans), (3473, w_m_thrown), (3474, w_m_read), (3475, w_m_length), (3476, w_m_top), (3477, w_m_at), (3478, w_m_wrong), (3483, m_ruleSize), (3484, w_m_isAsked), (3485, w_m_askedHorse), (3486, w_m_askedFence), (3487, w_m_askedLetter), (3488, w_m_askedHeight)], [(56, m_kind), (57, m_height), (58, m_feet), (59, m_stride), (60, m_scope), (61, m_care), (62, m_plan), (69, m_rule), (70, w_m_fallen)], [])) (fun rc64 hrc64 v4_64 m_read_64 m_length_64 m_top_64 m_at_64 m_wrong_64 m_isAsked_64 m_askedHorse_64 m_askedFence_64 m_askedLetter_64 m_askedHeight_64 m_fallen_64 h => ?_) zN _ _ _ _ _ _ _ _ _ _ _ _ h
        unfold s_X12_poles_64 at h
        refine zJ_iload dX12_poles_64 rfl rfl ?_
        refine zJ_aload_n dX12_poles_66 rfl rfl ?_
        refine zJ_geti (mi := mX12_poles) (x := m_fences) dX12_poles_67 F_X12_119 zW_54 rfl rfl rfl ?_
        refine zJ_icmp_ge (tgt := 158) dX12_poles_70 (by decide) rfl (fun hc => ?_) (fun hc => ?_)
        · replace h := it_t hc h
          refine zJ_loc (ls' := [(0, .ref 54), (3, .int p3)]) (zll_c rfl (zll_c rfl zll_n)) ?_
          exact hk64 _ _ _ _ _ _ _ _ _ _ _ h
        · replace h := it_f hc h
          refine zJ_aload_n dX12_poles_73 rfl rfl ?_
          refine zJ_iload_n dX12_poles_74 rfl rfl ?_
          refine zJ_iload dX12_poles_75 rfl rfl ?_
          refine zJ_aload_n dX12_poles_77 rfl rfl ?_
          refine zJ_iload_n dX12_poles_78 rfl rfl ?_
          refine zJ_iload dX12_poles_79 rfl rfl ?_
          obtain ⟨rn3, hcl, h⟩ := bd1_some h
          refine zJ_callV2 (σ := σ) (L := ([(3457, m_fences), (3462, m_horses), (3466, m_plans), (3473, (0 : Int32)), (3474, m_read_64), (3475, m_length_64), (3476, m_top_64), (3477, m_at_64), (3478, m_wrong_64), (3483, m_ruleSize), (3484, m_isAsked_64), (3485, m_askedHorse_64), (3486, m_askedFence_64), (3487, m_askedLetter_64), (3488, m_askedHeight_64)], [(56, m_kind), (57, m_height), (58, m_feet), (59, m_stride), (60, m_scope), (61, m_care), (62, m_plan), (69, m_rule), (70, m_fallen_64)], [])) (mi := mX12_poles) (yi := mX12_letterOf) (as := [.int p2, .int v4_64]) (st := [.int v4_64, .int p1, .ref 54]) (L2 := ([(3457, m_fences), (3462, m_horses), (3466, m_plans), (3473, (0 : Int32)), (3474, m_read_64), (3475, m_length_64), (3476, m_top_64), (3477, m_at_64), (3478, m_wrong_64), (3483, m_ruleSize), (3484, m_isAsked_64), (3485, m_askedHorse_64), (3486, m_askedFence_64), (3487, m_askedLetter_64), (3488, m_askedHeight_64)], [(56, m_kind), (57, m_height), (58, m_feet), (59, m_stride), (60, m_scope), (61, m_care), (62, m_plan), (69, m_rule), (70, m_fallen_64)], [])) dX12_poles_81 ML_X12_273 Yv_X12_letterOf rfl zW_54 rfl rfl (t_X12_letterOf l _ hcl) (zsub_i zle_n (zle_c rfl zle_n) zle_n) (zjok_i rfl rfl (zle_c rfl (zle_c rfl (zle_c rfl (zle_c rfl (zle_c rfl (zle_c rfl (zle_c rfl (zle_c rfl (zle_c rfl (zle_c rfl (zle_c rfl (zle_c rfl (zle_c rfl (zle_c rfl (zle_c rfl zle_n))))))))))))))) rfl rfl (zle_c rfl (zle_c rfl (zle_c rfl (zle_c rfl (zle_c rfl (zle_c rfl (zle_c rfl (zle_c rfl (zle_c rfl zle_n))))))))) rfl rfl zle_n) (Nat.le_of_ble_eq_true rfl) (Nat.le_of_ble_eq_true rfl) rfl rfl ?_
          obtain ⟨rn4, m_readn5, m_lengthn6, m_topn7, m_atn8, m_wrongn9, m_isAskedn10, m_askedHorsen11, m_askedFencen12, m_askedLettern13, m_askedHeightn14, hcl, h⟩ := bd11_some h
          refine zJ_callV2 (σ := σ) (L := ([(3457, m_fences), (3462, m_horses), (3466, m_plans), (3473, (0 : Int32)), (3474, m_read_64), (3475, m_length_64), (3476, m_top_64), (3477, m_at_64), (3478, m_wrong_64), (3483, m_ruleSize), (3484, m_isAsked_64), (3485, m_askedHorse_64), (3486, m_askedFence_64), (3487, m_askedLetter_64), (3488, m_askedHeight_64)], [(56, m_kind), (57, m_height), (58, m_feet), (59, m_stride), (60, m_scope), (61, m_care), (62, m_plan), (69, m_rule), (70, m_fallen_64)], [])) (mi := mX12_poles) (yi := mX12_oddsOf_) (as := [.int p1, .int v4_64, .int rn3]) (st := []) (L2 := ([(3457, m_fences), (3462, m_horses), (3466, m_plans), (3473, (0 : Int32)), (3474, m_readn5), (3475, m_lengthn6), (3476, m_topn7), (3477, m_atn8), (3478, m_wrongn9), (3483, m_ruleSize), (3484, m_isAskedn10), (3485, m_askedHorsen11), (3486, m_askedFencen12), (3487, m_askedLettern13), (3488, m_askedHeightn14)], [(56, m_kind), (57, m_height), (58, m_feet), (59, m_stride), (60, m_scope), (61, m_care), (62, m_plan), (69, m_rule), (70, m_fallen_64)], [])) dX12_poles_84 ML_X12_259 Yv_X12_oddsOf_ rfl zW_54 rfl rfl (t_X12_oddsOf_ l _ hcl) (zsub_i (zle_c rfl (zle_c rfl (zle_c rfl (zle_c rfl (zle_c rfl (zle_c rfl (zle_c rfl (zle_c rfl (zle_c rfl (zle_c rfl (zle_c rfl zle_n))))))))))) (zle_c rfl (zle_c rfl (zle_c rfl (zle_c rfl (zle_c rfl (zle_c rfl (zle_c rfl zle_n))))))) zle_n) (zjok_i rfl rfl (zle_c rfl (zle_c rfl (zle_c rfl (zle_c rfl (zle_c rfl (zle_c rfl (zle_c rfl (zle_c rfl (zle_c rfl (zle_c rfl (zle_c rfl (zle_c rfl (zle_c rfl (zle_c rfl (zle_c rfl zle_n))))))))))))))) rfl rfl (zle_c rfl (zle_c rfl (zle_c rfl (zle_c rfl (zle_c rfl (zle_c rfl (zle_c rfl (zle_c rfl (zle_c rfl zle_n))))))))) rfl rfl zle_n) (Nat.le_of_ble_eq_true rfl) (Nat.le_of_ble_eq_true rfl) rfl rfl ?_
          refine zJ_istore (ls' := [(5, .int rn4), (0, .ref 54), (1, .int p1), (2, .int p2), (3, .int p3), (4, .int v4_64)]) dX12_poles_87 rfl rfl rfl ?_
          refine zJ_bipush dX12_poles_89 zb_8 rfl ?_
          refine zJ_istore (ls' := [(6, .int (8 : Int32)), (5, .int rn4), (0, .ref 54), (1, .int p1), (2, .int p2), (3, .int p3), (4, .int v4_64)]) dX12_poles_91 rfl rfl rfl ?_
          have hk93 : ∀ (m_fallen_93x : (Nat → Int32)), k_X12_poles_93 rc64 v4_64 m_readn5 m_lengthn6 m_topn7 m_atn8 m_wrongn9 m_isAskedn10 m_askedHorsen11 m_askedFencen12 m_askedLettern13 m_askedHeightn14 m_fallen_93x = some (r, w_m_thrown, w_m_read, w_m_length, w_m_top, w_m_at, w_m_wrong, w_m_isAsked, w_m_askedHorse, w_m_askedFence, w_m_askedLetter, w_m_askedHeight, w_m_fallen) → zJ l zW 207 mX12_poles σ ([(3457, m_fences), (3462, m_horses), (3466, m_plans), (3473, (0 : Int32)), (3474, m_readn5), (3475, m_lengthn6), (3476, m_topn7), (3477, m_atn8), (3478, m_wrongn9), (3483, m_ruleSize), (3484, m_isAskedn10), (3485, m_askedHorsen11), (3486, m_askedFencen12), (3487, m_askedLettern13), (3488, m_askedHeightn14)], [(56, m_kind), (57, m_height), (58, m_feet), (59, m_stride), (60, m_scope), (61, m_care), (62, m_plan), (69, m_rule), (70, m_fallen_93x)], []) 152 [(0, .ref 54), (1, .int p1), (2, .int p2), (3, .int p3), (4, .int v4_64)] [] (some (.int r)) ([(3457, m_fences), (3462, m_horses), (3466, m_plans), (3473, w_m_thrown), (3474, w_m_read), (3475, w_m_length), (3476, w_m_top), (3477, w_m_at), (3478, w_m_wrong), (3483, m_ruleSize), (3484, w_m_isAsked), (3485, w_m_askedHorse), (3486, w_m_askedFence), (3487, w_m_askedLetter), (3488, w_m_askedHeight)], [(56, m_kind), (57, m_height), (58, m_feet), (59, m_stride), (60, m_scope), (61, m_care), (62, m_plan), (69, m_rule), (70, w_m_fallen)], []) := by
            intro m_fallen_93x h
            unfold k_X12_poles_93 at h
            obtain ⟨v4n15, ev4n15, h⟩ := lt1_some h
            refine zJ_iincN (ls' := [(4, .int v4n15), (0, .ref 54), (1, .int p1), (2, .int p2), (3, .int p3)]) dX12_poles_152 rfl rfl zc_1 ev4n15 rfl rfl ?_
            refine zJ_goto (tgt := 64) dX12_poles_155 (by decide) ?_
            refine zJ_loc (ls' := [(0, .ref 54), (1, .int p1), (2, .int p2), (3, .int p3), (4, .int v4n15)]) (zll_c rfl (zll_c rfl (zll_c rfl (zll_c rfl (zll_c rfl zll_n))))) ?_
            exact hrc64 _ _ _ _ _ _ _ _ _ _ _ _ h
          refine zJ_loc (ls' := [(0, .ref 54), (1, .int p1), (2, .int p2), (3, .int p3), (4, .int v4_64), (5, .int rn4), (6, .int (8 : Int32))]) (zll_c rfl (zll_c rfl (zll_c rfl (zll_c rfl (zll_c rfl (zll_c rfl (zll_c rfl zll_n))))))) ?_
          refine ml2_J (fun (v6_93 : Int32) (m_fallen_93 : (Nat → Int32)) => zJ l zW 207 mX12_poles σ ([(3457, m_fences), (3462, m_horses), (3466, m_plans), (3473, (0 : Int32)), (3474, m_readn5), (3475, m_lengthn6), (3476, m_topn7), (3477, m_atn8), (3478, m_wrongn9), (3483, m_ruleSize), (3484, m_isAskedn10), (3485, m_askedHorsen11), (3486, m_askedFencen12), (3487, m_askedLettern13), (3488, m_askedHeightn14)], [(56, m_kind), (57, m_height), (58, m_feet), (59, m_stride), (60, m_scope), (61, m_care), (62, m_plan), (69, m_rule), (70, m_fallen_93)], []) 93 [(0, .ref 54), (1, .int p1), (2, .int p2), (3, .int p3), (4, .int v4_64), (5, .int rn4), (6, .int v6_93)] [] (some (.int r)) ([(3457, m_fences), (3462, m_horses), (3466, m_plans), (3473, w_m_thrown), (3474, w_m_read), (3475, w_m_length), (3476, w_m_top), (3477, w_m_at), (3478, w_m_wrong), (3483, m_ruleSize), (3484, w_m_isAsked), (3485, w_m_askedHorse), (3486, w_m_askedFence), (3487, w_m_askedLetter), (3488, w_m_askedHeight)], [(56, m_kind), (57, m_height), (58, m_feet), (59, m_stride), (60, m_scope), (61, m_care), (62, m_plan), (69, m_rule), (70, w_m_fallen)], [])) (fun rc93 hrc93 v6_93 m_fallen_93 h => ?_) zN _ _ h
          unfold s_X12_poles_93 at h
          refine zJ_iload dX12_poles_93 rfl rfl ?_
          refine zJ_if_lt (tgt := 152) dX12_poles_95 (by decide) rfl (fun hc => ?_) (fun hc => ?_)
          · replace h := it_t hc h
            refine zJ_loc (ls' := [(0, .ref 54), (1, .int p1), (2, .int p2), (3, .int p3), (4, .int v4_64)]) (zll_c rfl (zll_c rfl (zll_c rfl (zll_c rfl (zll_c rfl zll_n))))) ?_
            exact hk93 _ h
          · replace h := it_f hc h
            refine zJ_aload_n dX12_poles_98 rfl rfl ?_
            refine zJ_getr (mi := mX12_poles) dX12_poles_99 F_X12_61 zW_54 rfl rfl ?_
            refine zJ_iload dX12_poles_102 rfl rfl ?_
            refine zJ_aload_n dX12_poles_104 rfl rfl ?_
            refine zJ_getr (mi := mX12_poles) dX12_poles_105 F_X12_61 zW_54 rfl rfl ?_
            refine zJ_iload dX12_poles_108 rfl rfl ?_
            obtain ⟨hg, h⟩ := gd_some h
            refine zJ_iald (mi := mX12_poles) (f := m_fallen_93) dX12_poles_110 zW_70 (ix_in hg) rfl rfl ?_
            refine zJ_bipush dX12_poles_111 zb_100 rfl ?_
            refine zJ_iload dX12_poles_113 rfl rfl ?_
            refine zJ_isub dX12_poles_115 rfl ?_
            refine zJ_imul dX12_poles_116 rfl ?_
            refine zJ_bipush dX12_poles_117 zb_100 rfl ?_
            refine zJ_idiv dX12_poles_119 (by decide) rfl ?_
            refine zJ_iload dX12_poles_120 rfl rfl ?_
            refine zJ_if_ne (tgt := 129) dX12_poles_122 (by decide) rfl (fun hc => ?_) (fun hc => ?_)
            · replace h := it_f hc h
              refine zJ_aload_n dX12_poles_129 rfl rfl ?_
              refine zJ_getr (mi := mX12_poles) dX12_poles_130 F_X12_61 zW_54 rfl rfl ?_
              refine zJ_iload dX12_poles_133 rfl rfl ?_
              refine zJ_iconst dX12_poles_135 zc_1 rfl ?_
              refine zJ_isub dX12_poles_136 rfl ?_
              obtain ⟨hg, h⟩ := gd_some h
              refine zJ_iald (mi := mX12_poles) (f := m_fallen_93) dX12_poles_137 zW_70 (ix_in hg) rfl rfl ?_
              refine zJ_iload dX12_poles_138 rfl rfl ?_
              refine zJ_imul dX12_poles_140 rfl ?_
              refine zJ_bipush dX12_poles_141 zb_100 rfl ?_
              refine zJ_idiv dX12_poles_143 (by decide) rfl ?_
              refine zJ_iadd dX12_poles_144 rfl ?_
              obtain ⟨hg, h⟩ := gd_some h
              refine zK_iast (mi := mX12_poles) (f := m_fallen_93) (lb' := [(56, m_kind), (57, m_height), (58, m_feet), (59, m_stride), (60, m_scope), (61, m_care), (62, m_plan), (69, m_rule), (70, (upd m_fallen_93 v6_93.toNatClampNeg ((((m_fallen_93 v6_93.toNatClampNeg) * ((100 : Int32) - rn4)) / (100 : Int32)) + (((m_fallen_93 (v6_93 - (1 : Int32)).toNatClampNeg) * rn4) / (100 : Int32)))))]) dX12_poles_145 zW_70 (ix_in hg) rfl rfl rfl ?_
              obtain ⟨v6n16, ev6n16, h⟩ := lt1_some h
              refine zJ_iincN (ls' := [(6, .int v6n16), (0, .ref 54), (1, .int p1), (2, .int p2), (3, .int p3), (4, .int v4_64), (5, .int rn4)]) dX12_poles_146 rfl rfl zc_m1 ev6n16 rfl rfl ?_
              refine zJ_goto (tgt := 93) dX12_poles_149 (by decide) ?_
              refine zJ_loc (ls' := [(0, .ref 54), (1, .int p1), (2, .int p2), (3, .int p3), (4, .int v4_64), (5, .int rn4), (6, .int v6n16)]) (zll_c rfl (zll_c rfl (zll_c rfl (zll_c rfl (zll_c rfl (zll_c rfl (zll_c rfl zll_n))))))) ?_
              exact hrc93 _ _ h
            · replace h := it_t hc h
              refine zJ_iconst dX12_poles_125 zc_0 rfl ?_
              refine zJ_goto (tgt := 144) dX12_poles_126 (by decide) ?_
              refine zJ_iadd dX12_poles_144 rfl ?_
              obtain ⟨hg, h⟩ := gd_some h
              refine zK_iast (mi := mX12_poles) (f := m_fallen_93) (lb' := [(56, m_kind), (57, m_height), (58, m_feet), (59, m_stride), (60, m_scope), (61, m_care), (62, m_plan), (69, m_rule), (70, (upd m_fallen_93 v6_93.toNatClampNeg ((((m_fallen_93 v6_93.toNatClampNeg) * ((100 : Int32) - rn4)) / (100 : Int32)) + (0 : Int32))))]) dX12_poles_145 zW_70 (ix_in hg) rfl rfl rfl ?_
              obtain ⟨v6n17, ev6n17, h⟩ := lt1_some h
              refine zJ_iincN (ls' := [(6, .int v6n17), (0, .ref 54), (1, .int p1), (2, .int p2), (3, .int p3), (4, .int v4_64), (5, .int rn4)]) dX12_poles_146 rfl rfl zc_m1 ev6n17 rfl rfl ?_
              refine zJ_goto (tgt := 93) dX12_poles_149 (by decide) ?_
              refine zJ_loc (ls' := [(0, .ref 54), (1, .int p1), (2, .int p2), (3, .int p3), (4, .int v4_64), (5, .int rn4), (6, .int v6n17)]) (zll_c rfl (zll_c rfl (zll_c rfl (zll_c rfl (zll_c rfl (zll_c rfl (zll_c rfl zll_n))))))) ?_
              exact hrc93 _ _ h
      refine zJ_loc (ls' := [(0, .ref 54), (1, .int p1), (2, .int p2), (3, .int p3), (4, .int (0 : Int32))]) (zll_c rfl (zll_c rfl (zll_c rfl (zll_c rfl (zll_c rfl zll_n))))) ?_
      refine ml2_J (fun (v4_29 : Int32) (m_fallen_29 : (Nat → Int32)) => zJ l zW 207 mX12_poles σ ([(3457, m_fences), (3462, m_horses), (3466, m_plans), (3473, (0 : Int32)), (3474, m_read), (3475, m_length), (3476, m_top), (3477, m_at), (3478, m_wrong), (3483, m_ruleSize), (3484, m_isAsked), (3485, m_askedHorse), (3486, m_askedFence), (3487, m_askedLetter), (3488, m_askedHeight)], [(56, m_kind), (57, m_height), (58, m_feet), (59, m_stride), (60, m_scope), (61, m_care), (62, m_plan), (69, m_rule), (70, m_fallen_29)], []) 29 [(0, .ref 54), (1, .int p1), (2, .int p2), (3, .int p3), (4, .int v4_29)] [] (some (.int r)) ([(3457, m_fences), (3462, m_horses), (3466, m_plans), (3473, w_m_thrown), (3474, w_m_read), (3475, w_m_length), (3476, w_m_top), (3477, w_m_at), (3478, w_m_wrong), (3483, m_ruleSize), (3484, w_m_isAsked), (3485, w_m_askedHorse), (3486, w_m_askedFence), (3487, w_m_askedLetter), (3488, w_m_askedHeight)], [(56, m_kind), (57, m_height), (58, m_feet), (59, m_stride), (60, m_scope), (61, m_care), (62, m_plan), (69, m_rule), (70, w_m_fallen)], [])) (fun rc29 hrc29 v4_29 m_fallen_29 h => ?_) zN _ _ h
      unfold s_X12_poles_29 at h
      refine zJ_iload dX12_poles_29 rfl rfl ?_
      refine zJ_bipush dX12_poles_31 zb_8 rfl ?_
      refine zJ_icmp_gt (tgt := 61) dX12_poles_33 (by decide) rfl (fun hc => ?_) (fun hc => ?_)
      · replace h := it_t hc h
        refine zJ_loc (ls' := [(0, .ref 54), (1, .int p1), (2, .int p2), (3, .int p3)]) (zll_c rfl (zll_c rfl (zll_c rfl (zll_c rfl zll_n)))) ?_
        exact hk29 _ h
      · replace h := it_f hc h
        refine zJ_aload_n dX12_poles_36 rfl rfl ?_
        refine zJ_getr (mi := mX12_poles) dX12_poles_37 F_X12_61 zW_54 rfl rfl ?_
        refine zJ_iload dX12_poles_40 rfl rfl ?_
        refine zJ_iload dX12_poles_42 rfl rfl ?_
        refine zJ_if_ne (tgt := 53) dX12_poles_44 (by decide) rfl (fun hc => ?_) (fun hc => ?_)
        · replace h := it_f hc h
          refine zJ_iconst dX12_poles_53 zc_0 rfl ?_
          obtain ⟨hg, h⟩ := gd_some h
          refine zK_iast (mi := mX12_poles) (f := m_fallen_29) (lb' := [(56, m_kind), (57, m_height), (58, m_feet), (59, m_stride), (60, m_scope), (61, m_care), (62, m_plan), (69, m_rule), (70, (upd m_fallen_29 v4_29.toNatClampNeg (0 : Int32)))]) dX12_poles_54 zW_70 (ix_in hg) rfl rfl rfl ?_
          obtain ⟨v4n18, ev4n18, h⟩ := lt1_some h
          refine zJ_iincN (ls' := [(4, .int v4n18), (0, .ref 54), (1, .int p1), (2, .int p2), (3, .int p3)]) dX12_poles_55 rfl rfl zc_1 ev4n18 rfl rfl ?_
          refine zJ_goto (tgt := 29) dX12_poles_58 (by decide) ?_
          refine zJ_loc (ls' := [(0, .ref 54), (1, .int p1), (2, .int p2), (3, .int p3), (4, .int v4n18)]) (zll_c rfl (zll_c rfl (zll_c rfl (zll_c rfl (zll_c rfl zll_n))))) ?_
          exact hrc29 _ _ h
        · replace h := it_t hc h
          refine zJ_sipush dX12_poles_47 zs_10000 rfl ?_
          refine zJ_goto (tgt := 54) dX12_poles_50 (by decide) ?_
          obtain ⟨hg, h⟩ := gd_some h
          refine zK_iast (mi := mX12_poles) (f := m_fallen_29) (lb' := [(56, m_kind), (57, m_height), (58, m_feet), (59, m_stride), (60, m_scope), (61, m_care), (62, m_plan), (69, m_rule), (70, (upd m_fallen_29 v4_29.toNatClampNeg (10000 : Int32)))]) dX12_poles_54 zW_70 (ix_in hg) rfl rfl rfl ?_
          obtain ⟨v4n19, ev4n19, h⟩ := lt1_some h
          refine zJ_iincN (ls' := [(4, .int v4n19), (0, .ref 54), (1, .int p1), (2, .int p2), (3, .int p3)]) dX12_poles_55 rfl rfl zc_1 ev4n19 rfl rfl ?_
          refine zJ_goto (tgt := 29) dX12_poles_58 (by decide) ?_
          refine zJ_loc (ls' := [(0, .ref 54), (1, .int p1), (2, .int p2), (3, .int p3), (4, .int v4n19)]) (zll_c rfl (zll_c rfl (zll_c rfl (zll_c rfl (zll_c rfl zll_n))))) ?_
          exact hrc29 _ _ h
    · replace h := it_t hc h
      refine zJ_iconst dX12_poles_24 zc_m1 rfl ?_
      obtain ⟨rfl, rfl, rfl, rfl, rfl, rfl, rfl, rfl, rfl, rfl, rfl, rfl, rfl⟩ := so13 h
      exact zJ_iret dX12_poles_25 rfl rfl
