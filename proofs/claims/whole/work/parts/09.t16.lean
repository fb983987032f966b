set_option maxRecDepth 100000 in
set_option maxHeartbeats 4000000 in
theorem t_X12_meanOf (l : Launch) (σ : zS) {p1 : Int32} {p2 : Int32} {m_fences : Int32} {m_allowed : Int32} {m_read : Int32} {m_length : Int32} {m_top : Int32} {m_at : Int32} {m_wrong : Int32} {m_ruleSize : Int32} {m_isAsked : Int32} {m_askedHorse : Int32} {m_askedFence : Int32} {m_askedLetter : Int32} {m_askedHeight : Int32} {m_now : (Nat → Int32)} {m_kind : (Nat → Int32)} {m_height : (Nat → Int32)} {m_feet : (Nat → Int32)} {m_stride : (Nat → Int32)} {m_scope : (Nat → Int32)} {m_care : (Nat → Int32)} {m_plan : (Nat → Int32)} {m_money : (Nat → Int32)} {m_rule : (Nat → Int32)} {r : Int32} {w_m_read : Int32} {w_m_length : Int32} {w_m_top : Int32} {w_m_at : Int32} {w_m_wrong : Int32} {w_m_isAsked : Int32} {w_m_askedHorse : Int32} {w_m_askedFence : Int32} {w_m_askedLetter : Int32} {w_m_askedHeight : Int32} (h : f_X12_meanOf p1 p2 m_fences m_allowed m_read m_length m_top m_at m_wrong m_ruleSize m_isAsked m_askedHorse m_askedFence m_askedLetter m_askedHeight m_now m_kind m_height m_feet m_stride m_scope m_care m_plan m_money m_rule = some (r, w_m_read, w_m_length, w_m_top, w_m_at, w_m_wrong, w_m_isAsked, w_m_askedHorse, w_m_askedFence, w_m_askedLetter, w_m_askedHeight)) : zMt l zW 208 mX12_meanOf σ ([(3457, m_fences), (3461, m_allowed), (3474, m_read), (3475, m_length), (3476, m_top), (3477, m_at), (3478, m_wrong), (3483, m_ruleSize), (3484, m_isAsked), (3485, m_askedHorse), (3486, m_askedFence), (3487, m_askedLetter), (3488, m_askedHeight)], [(55, m_now), (56, m_kind), (57, m_height), (58, m_feet), (59, m_stride), (60, m_scope), (61, m_care), (62, m_plan), (63, m_money), (69, m_rule)], []) [.ref 54, .int p1, .int p2] (some (.int r)) ([(3457, m_fences), (3461, m_allowed), (3474, w_m_read), (3475, w_m_length), (3476, w_m_top), (3477, w_m_at), (3478, w_m_wrong), (3483, m_ruleSize), (3484, w_m_isAsked), (3485, w_m_askedHorse), (3486, w_m_askedFence), (3487, w_m_askedLetter), (3488, w_m_askedHeight)], [(55, m_now), (56, m_kind), (57, m_height), (58, m_feet), (59, m_stride), (60, m_scope), (61, m_care), (62, m_plan), (63, m_money), (69, m_rule)], []) := by
  refine zMt_of (ls := [(0, .ref 54), (1, .int p1), (2, .int p2)]) (by decide) rfl (fun _ => Nat.le_of_ble_eq_true rfl) rfl ?_
  unfold f_X12_meanOf at h
  refine zJ_aload_n dX12_meanOf_0 rfl rfl ?_
  refine zJ_iload_n dX12_meanOf_1 rfl rfl ?_
  refine zJ_iload_n dX12_meanOf_2 rfl rfl ?_
  obtain ⟨rn1, m_readn2, m_lengthn3, m_topn4, m_atn5, m_wrongn6, m_isAskedn7, m_askedHorsen8, m_askedFencen9, m_askedLettern10, m_askedHeightn11, hcl, h⟩ := bd11_some h
  refine zJ_callV (mi := mX12_meanOf) (yi := mX12_clearOf) (as := [.int p1, .int p2]) (st := []) (L2 := ([(3457, m_fences), (3461, m_allowed), (3474, m_readn2), (3475, m_lengthn3), (3476, m_topn4), (3477, m_atn5), (3478, m_wrongn6), (3483, m_ruleSize), (3484, m_isAskedn7), (3485, m_askedHorsen8), (3486, m_askedFencen9), (3487, m_askedLettern10), (3488, m_askedHeightn11)], [(55, m_now), (56, m_kind), (57, m_height), (58, m_feet), (59, m_stride), (60, m_scope), (61, m_care), (62, m_plan), (63, m_money), (69, m_rule)], [])) dX12_meanOf_3 ML_X12_286 Yv_X12_clearOf rfl zW_54 rfl rfl (t_X12_clearOf l _ hcl) (zsub_i (zle_c rfl (zle_c rfl (zle_c rfl (zle_c rfl (zle_c rfl (zle_c rfl (zle_c rfl (zle_c rfl (zle_c rfl (zle_c rfl (zle_c rfl (zle_c rfl zle_n)))))))))))) (zle_c rfl (zle_c rfl (zle_c rfl (zle_c rfl (zle_c rfl (zle_c rfl (zle_c rfl (zle_c rfl zle_n)))))))) zle_n) rfl (Nat.le_of_ble_eq_true rfl) (Nat.le_of_ble_eq_true rfl) rfl rfl ?_
  refine zJ_istore_n (ls' := [(3, .int rn1), (0, .ref 54), (1, .int p1), (2, .int p2)]) dX12_meanOf_6 rfl rfl rfl ?_
  refine zJ_iload_n dX12_meanOf_7 rfl rfl ?_
  refine zJ_aload_n dX12_meanOf_8 rfl rfl ?_
  refine zJ_aload_n dX12_meanOf_9 rfl rfl ?_
  refine zJ_getr (mi := mX12_meanOf) dX12_meanOf_10 F_X12_9 zW_54 rfl rfl ?_
  refine zJ_iload_n dX12_meanOf_13 rfl rfl ?_
  refine zJ_iconst dX12_meanOf_14 zc_1 rfl ?_
  obtain ⟨rn12, hcl, h⟩ := bd1_some h
  refine zJ_callV (mi := mX12_meanOf) (yi := mX12_moneyFor) (as := [.ref 55, .int p2, .int (1 : Int32)]) (st := [.int rn1]) (L2 := ([(3457, m_fences), (3461, m_allowed), (3474, m_readn2), (3475, m_lengthn3), (3476, m_topn4), (3477, m_atn5), (3478, m_wrongn6), (3483, m_ruleSize), (3484, m_isAskedn7), (3485, m_askedHorsen8), (3486, m_askedFencen9), (3487, m_askedLettern10), (3488, m_askedHeightn11)], [(55, m_now), (56, m_kind), (57, m_height), (58, m_feet), (59, m_stride), (60, m_scope), (61, m_care), (62, m_plan), (63, m_money), (69, m_rule)], [])) dX12_meanOf_15 ML_X12_372 Yv_X12_moneyFor rfl zW_54 rfl rfl (t_X12_moneyFor_m_now l _ hcl) (zsub_i (zle_c rfl (zle_c rfl zle_n)) (zle_c rfl (zle_c rfl (zle_c rfl (zle_c rfl (zle_c rfl zle_n))))) zle_n) rfl (Nat.le_of_ble_eq_true rfl) (Nat.le_of_ble_eq_true rfl) rfl rfl ?_
  refine zJ_imul dX12_meanOf_18 rfl ?_
  refine zJ_sipush dX12_meanOf_19 zs_10000 rfl ?_
  refine zJ_iload_n dX12_meanOf_22 rfl rfl ?_
  refine zJ_isub dX12_meanOf_23 rfl ?_
  refine zJ_aload_n dX12_meanOf_24 rfl rfl ?_
  refine zJ_aload_n dX12_meanOf_25 rfl rfl ?_
  refine zJ_getr (mi := mX12_meanOf) dX12_meanOf_26 F_X12_9 zW_54 rfl rfl ?_
  refine zJ_iload_n dX12_meanOf_29 rfl rfl ?_
  refine zJ_iconst dX12_meanOf_30 zc_0 rfl ?_
  obtain ⟨rn13, hcl, h⟩ := bd1_some h
  refine zJ_callV (mi := mX12_meanOf) (yi := mX12_moneyFor) (as := [.ref 55, .int p2, .int (0 : Int32)]) (st := [.int ((10000 : Int32) - rn1), .int (rn1 * rn12)]) (L2 := ([(3457, m_fences), (3461, m_allowed), (3474, m_readn2), (3475, m_lengthn3), (3476, m_topn4), (3477, m_atn5), (3478, m_wrongn6), (3483, m_ruleSize), (3484, m_isAskedn7), (3485, m_askedHorsen8), (3486, m_askedFencen9), (3487, m_askedLettern10), (3488, m_askedHeightn11)], [(55, m_now), (56, m_kind), (57, m_height), (58, m_feet), (59, m_stride), (60, m_scope), (61, m_care), (62, m_plan), (63, m_money), (69, m_rule)], [])) dX12_meanOf_31 ML_X12_372 Yv_X12_moneyFor rfl zW_54 rfl rfl (t_X12_moneyFor_m_now l _ hcl) (zsub_i (zle_c rfl (zle_c rfl zle_n)) (zle_c rfl (zle_c rfl (zle_c rfl (zle_c rfl (zle_c rfl zle_n))))) zle_n) rfl (Nat.le_of_ble_eq_true rfl) (Nat.le_of_ble_eq_true rfl) rfl rfl ?_
  refine zJ_imul dX12_meanOf_34 rfl ?_
  refine zJ_iadd dX12_meanOf_35 rfl ?_
  obtain ⟨rfl, rfl, rfl, rfl, rfl, rfl, rfl, rfl, rfl, rfl, rfl⟩ := so11 h
  exact zJ_iret dX12_meanOf_36 rfl rfl
set_option maxRecDepth 100000 in
set_option maxHeartbeats 4000000 in
theorem t_X12_bestPlan (l : Launch) (σ : zS) {p1 : Int32} {m_fences : Int32} {m_allowed : Int32} {m_plans : Int32} {m_read : Int32} {m_length : Int32} {m_top : Int32} {m_at : Int32} {m_wrong : Int32} {m_ruleSize : Int32} {m_isAsked : Int32} {m_askedHorse : Int32} {m_askedFence : Int32} {m_askedLetter : Int32} {m_askedHeight : Int32} {m_now : (Nat → Int32)} {m_kind : (Nat → Int32)} {m_height : (Nat → Int32)} {m_feet : (Nat → Int32)} {m_stride : (Nat → Int32)} {m_scope : (Nat → Int32)} {m_care : (Nat → Int32)} {m_plan : (Nat → Int32)} {m_money : (Nat → Int32)} {m_rule : (Nat → Int32)} {r : Int32} {w_m_read : Int32} {w_m_length : Int32} {w_m_top : Int32} {w_m_at : Int32} {w_m_wrong : Int32} {w_m_isAsked : Int32} {w_m_askedHorse : Int32} {w_m_askedFence : Int32} {w_m_askedLetter : Int32} {w_m_askedHeight : Int32} (h : f_X12_bestPlan p1 m_fences m_allowed m_plans m_read m_length m_top m_at m_wrong m_ruleSize m_isAsked m_askedHorse m_askedFence m_askedLetter m_askedHeight m_now m_kind m_height m_feet m_stride m_scope m_care m_plan m_money m_rule = some (r, w_m_read, w_m_length, w_m_top, w_m_at, w_m_wrong, w_m_isAsked, w_m_askedHorse, w_m_askedFence, w_m_askedLetter, w_m_askedHeight)) : zMt l zW 209 mX12_bestPlan σ ([(3457, m_fences), (3461, m_allowed), (3466, m_plans), (3474, m_read), (3475, m_length), (3476, m_top), (3477, m_at), (3478, m_wrong), (3483, m_ruleSize), (3484, m_isAsked), (3485, m_askedHorse), (3486, m_askedFence), (3487, m_askedLetter), (3488, m_askedHeight)], [(55, m_now), (56, m_kind), (57, m_height), (58, m_feet), (59, m_stride), (60, m_scope), (61, m_care), (62, m_plan), (63, m_money), (69, m_rule)], []) [.ref 54, .int p1] (some (.int r)) ([(3457, m_fences), (3461, m_allowed), (3466, m_plans), (3474, w_m_read), (3475, w_m_length), (3476, w_m_top), (3477, w_m_at), (3478, w_m_wrong), (3483, m_ruleSize), (3484, w_m_isAsked), (3485, w_m_askedHorse), (3486, w_m_askedFence), (3487, w_m_askedLetter), (3488, w_m_askedHeight)], [(55, m_now), (56, m_kind), (57, m_height), (58, m_feet), (59, m_stride), (60, m_scope), (61, m_care), (62, m_plan), (63, m_money), (69, m_rule)], []) := by
  refine zMt_of (ls := [(0, .ref 54), (1, .int p1)]) (by decide) rfl (fun _ => Nat.le_of_ble_eq_true rfl) rfl ?_
  unfold f_X12_bestPlan at h
  refine zJ_iconst dX12_bestPlan_0 zc_0 rfl ?_
  refine zJ_istore_n (ls' := [(2, .int (0 : Int32)), (0, .ref 54), (1, .int p1)]) dX12_bestPlan_1 rfl rfl rfl ?_
  refine zJ_iconst dX12_bestPlan_2 zc_1 rfl ?_
  refine zJ_istore_n (ls' := [(3, .int (1 : Int32)), (2, .int (0 : Int32)), (0, .ref 54), (1, .int p1)]) dX12_bestPlan_3 rfl rfl rfl ?_
  have hk4 : ∀ (v2_4x : Int32) (m_read_4x : Int32) (m_length_4x : Int32) (m_top_4x : Int32) (m_at_4x : Int32) (m_wrong_4x : Int32) (m_isAsked_4x : Int32) (m_askedHorse_4x : Int32) (m_askedFence_4x : Int32) (m_askedLetter_4x : Int32) (m_askedHeight_4x : Int32), k_X12_bestPlan_4  v2_4x m_read_4x m_length_4x m_top_4x m_at_4x m_wrong_4x m_isAsked_4x m_askedHorse_4x m_askedFence_4x m_askedLetter_4x m_askedHeight_4x = some (r, w_m_read, w_m_length, w_m_top, w_m_at, w_m_wrong, w_m_isAsked, w_m_askedHorse, w_m_askedFence, w_m_askedLetter, w_m_askedHeight) → zJ l zW 209 mX12_bestPlan σ ([(3457, m_fences), (3461, m_allowed), (3466, m_plans), (3474, m_read_4x), (3475, m_length_4x), (3476, m_top_4x), (3477, m_at_4x), (3478, m_wrong_4x), (3483, m_ruleSize), (3484, m_isAsked_4x), (3485, m_askedHorse_4x), (3486, m_askedFence_4x), (3487, m_askedLetter_4x), (3488, m_askedHeight_4x)], [(55, m_now), (56, m_kind), (57, m_height), (58, m_feet), (59, m_stride), (60, m_scope), (61, m_care), (62, m_plan), (63, m_money), (69, m_rule)], []) 35 [(2, .int v2_4x)] [] (some (.int r)) ([(3457, m_fences), (3461, m_allowed), (3466, m_plans), (3474, w_m_read), (3475, w_m_length), (3476, w_m_top), (3477, w_m_at), (3478, w_m_wrong), (3483, m_ruleSize), (3484, w_m_isAsked), (3485, w_m_askedHorse), (3486, w_m_askedFence), (3487, w_m_askedLetter), (3488, w_m_askedHeight)], [(55, m_now), (56, m_kind), (57, m_height), (58, m_feet), (59, m_stride), (60, m_scope), (61, m_care), (62, m_plan), (63, m_money), (69, m_rule)], []) := by
    intro v2_4x m_read_4x m_length_4x m_top_4x m_at_4x m_wrong_4x m_isAsked_4x m_askedHorse_4x m_askedFence_4x m_askedLetter_4x m_askedHeight_4x h
    unfold k_X12_bestPlan_4 at h
    refine zJ_iload_n dX12_bestPlan_35 rfl rfl ?_
    obtain ⟨rfl, rfl, rfl, rfl, rfl, rfl, rfl, rfl, rfl, rfl, rfl⟩ := so11 h
    exact zJ_iret dX12_bestPlan_36 rfl rfl
  refine zJ_loc (ls' := [(0, .ref 54), (1, .int p1), (2, .int (0 : Int32)), (3, .int (1 : Int32))]) (zll_c rfl (zll_c rfl (zll_c rfl (zll_c rfl zll_n)))) ?_
  refine ml12_J (fun (v2_4 : Int32) (v3_4 : Int32) (m_read_4 : Int32) (m_length_4 : Int32) (m_top_4 : Int32) (m_at_4 : Int32) (m_wrong_4 : Int32) (m_isAsked_4 : Int32) (m_askedHorse_4 : Int32) (m_askedFence_4 : Int32) (m_askedLetter_4 : Int32) (m_askedHeight_4 : Int32) => zJ l zW 209 mX12_bestPlan σ ([(3457, m_fences), (3461, m_allowed), (3466, m_plans), (3474, m_read_4), (3475, m_length_4), (3476, m_top_4), (3477, m_at_4), (3478, m_wrong_4), (3483, m_ruleSize), (3484, m_isAsked_4), (3485, m_askedHorse_4), (3486, m_askedFence_4), (3487, m_askedLetter_4), (3488, m_askedHeight_4)], [(55, m_now), (56, m_kind), (57, m_height), (58, m_feet), (59, m_stride), (60, m_scope), (61, m_care), (62, m_plan), (63, m_money), (69, m_rule)], []) 4 [(0, .ref 54), (1, .int p1), (2, .int v2_4), (3, .int v3_4)] [] (some (.int r)) ([(3457, m_fences), (3461, m_allowed), (3466, m_plans), (3474, w_m_read), (3475, w_m_length), (3476, w_m_top), (3477, w_m_at), (3478, w_m_wrong), (3483, m_ruleSize), (3484, w_m_isAsked), (3485, w_m_askedHorse), (3486, w_m_askedFence), (3487, w_m_askedLetter), (3488, w_m_askedHeight)], [(55, m_now), (56, m_kind), (57, m_height), (58, m_feet), (59, m_stride), (60, m_scope), (61, m_care), (62, m_plan), (63, m_money), (69, m_rule)], [])) (fun rc4 hrc4 v2_4 v3_4 m_read_4 m_length_4 m_top_4 m_at_4 m_wrong_4 m_isAsked_4 m_askedHorse_4 m_askedFence_4 m_askedLetter_4 m_askedHeight_4 h => ?_) zN _ _ _ _ _ _ _ _ _ _ _ _ h
  unfold s_X12_bestPlan_4 at h
  refine zJ_iload_n dX12_bestPlan_4 rfl rfl ?_
  refine zJ_aload_n dX12_bestPlan_5 rfl rfl ?_
  refine zJ_geti (mi := mX12_bestPlan) (x := m_plans) dX12_bestPlan_6 F_X12_129 zW_54 rfl rfl rfl ?_
  refine zJ_icmp_ge (tgt := 35) dX12_bestPlan_9 (by decide) rfl (fun hc => ?_) (fun hc => ?_)
  · replace h := it_t hc h
    refine zJ_loc (ls' := [(2, .int v2_4)]) (zll_c rfl zll_n) ?_
    exact hk4 _ _ _ _ _ _ _ _ _ _ _ h
  · replace h := it_f hc h
    refine zJ_aload_n dX12_bestPlan_12 rfl rfl ?_
    refine zJ_iload_n dX12_bestPlan_13 rfl rfl ?_
    refine zJ_iload_n dX12_bestPlan_14 rfl rfl ?_
    obtain ⟨rn1, m_readn2, m_lengthn3, m_topn4, m_atn5, m_wrongn6, m_isAskedn7, m_askedHorsen8, m_askedFencen9, m_askedLettern10, m_askedHeightn11, hcl, h⟩ := bd11_some h
    refine zJ_callV (mi := mX12_bestPlan) (yi := mX12_meanOf) (as := [.int p1, .int v3_4]) (st := []) (L2 := ([(3457, m_fences), (3461, m_allowed), (3466, m_plans), (3474, m_readn2), (3475, m_lengthn3), (3476, m_topn4), (3477, m_atn5), (3478, m_wrongn6), (3483, m_ruleSize), (3484, m_isAskedn7), (3485, m_askedHorsen8), (3486, m_askedFencen9), (3487, m_askedLettern10), (3488, m_askedHeightn11)], [(55, m_now), (56, m_kind), (57, m_height), (58, m_feet), (59, m_stride), (60, m_scope), (61, m_care), (62, m_plan), (63, m_money), (69, m_rule)], [])) dX12_bestPlan_15 ML_X12_376 Yv_X12_meanOf rfl zW_54 rfl rfl (t_X12_meanOf l _ hcl) (zsub_i (zle_c rfl (zle_c rfl (zle_c rfl (zle_c rfl (zle_c rfl (zle_c rfl (zle_c rfl (zle_c rfl (zle_c rfl (zle_c rfl (zle_c rfl (zle_c rfl (zle_c rfl zle_n))))))))))))) (zle_c rfl (zle_c rfl (zle_c rfl (zle_c rfl (zle_c rfl (zle_c rfl (zle_c rfl (zle_c rfl (zle_c rfl (zle_c rfl zle_n)))))))))) zle_n) rfl (Nat.le_of_ble_eq_true rfl) (Nat.le_of_ble_eq_true rfl) rfl rfl ?_
    refine zJ_aload_n dX12_bestPlan_18 rfl rfl ?_
    refine zJ_iload_n dX12_bestPlan_19 rfl rfl ?_
    refine zJ_iload_n dX12_bestPlan_20 rfl rfl ?_
    obtain ⟨rn12, m_readn13, m_lengthn14, m_topn15, m_atn16, m_wrongn17, m_isAskedn18, m_askedHorsen19, m_askedFencen20, m_askedLettern21, m_askedHeightn22, hcl, h⟩ := bd11_some h
    refine zJ_callV (mi := mX12_bestPlan) (yi := mX12_meanOf) (as := [.int p1, .int v2_4]) (st := [.int rn1]) (L2 := ([(3457, m_fences), (3461, m_allowed), (3466, m_plans), (3474, m_readn13), (3475, m_lengthn14), (3476, m_topn15), (3477, m_atn16), (3478, m_wrongn17), (3483, m_ruleSize), (3484, m_isAskedn18), (3485, m_askedHorsen19), (3486, m_askedFencen20), (3487, m_askedLettern21), (3488, m_askedHeightn22)], [(55, m_now), (56, m_kind), (57, m_height), (58, m_feet), (59, m_stride), (60, m_scope), (61, m_care), (62, m_plan), (63, m_money), (69, m_rule)], [])) dX12_bestPlan_21 ML_X12_376 Yv_X12_meanOf rfl zW_54 rfl rfl (t_X12_meanOf l _ hcl) (zsub_i (zle_c rfl (zle_c rfl (zle_c rfl (zle_c rfl (zle_c rfl (zle_c rfl (zle_c rfl (zle_c rfl (zle_c rfl (zle_c rfl (zle_c rfl (zle_c rfl (zle_c rfl zle_n))))))))))))) (zle_c rfl (zle_c rfl (zle_c rfl (zle_c rfl (zle_c rfl (zle_c rfl (zle_c rfl (zle_c rfl (zle_c rfl (zle_c rfl zle_n)))))))))) zle_n) rfl (Nat.le_of_ble_eq_true rfl) (Nat.le_of_ble_eq_true rfl) rfl rfl ?_
    refine zJ_icmp_le (tgt := 29) dX12_bestPlan_24 (by decide) rfl (fun hc => ?_) (fun hc => ?_)
    · replace h := it_t hc h
      obtain ⟨v3n23, ev3n23, h⟩ := lt1_some h
      refine zJ_iincN (ls' := [(3, .int v3n23), (0, .ref 54), (1, .int p1), (2, .int v2_4)]) dX12_bestPlan_29 rfl rfl zc_1 ev3n23 rfl rfl ?_
      refine zJ_goto (tgt := 4) dX12_bestPlan_32 (by decide) ?_
      refine zJ_loc (ls' := [(0, .ref 54), (1, .int p1), (2, .int v2_4), (3, .int v3n23)]) (zll_c rfl (zll_c rfl (zll_c rfl (zll_c rfl zll_n)))) ?_
      exact hrc4 _ _ _ _ _ _ _ _ _ _ _ _ h
    · replace h := it_f hc h
      refine zJ_iload_n dX12_bestPlan_27 rfl rfl ?_
      refine zJ_istore_n (ls' := [(2, .int v3_4), (0, .ref 54), (1, .int p1), (3, .int v3_4)]) dX12_bestPlan_28 rfl rfl rfl ?_
      obtain ⟨v3n24, ev3n24, h⟩ := lt1_some h
      refine zJ_iincN (ls' := [(3, .int v3n24), (2, .int v3_4), (0, .ref 54), (1, .int p1)]) dX12_bestPlan_29 rfl rfl zc_1 ev3n24 rfl rfl ?_
      refine zJ_goto (tgt := 4) dX12_bestPlan_32 (by decide) ?_
      refine zJ_loc (ls' := [(0, .ref 54), (1, .int p1), (2, .int v3_4), (3, .int v3n24)]) (zll_c rfl (zll_c rfl (zll_c rfl (zll_c rfl zll_n)))) ?_
      exact hrc4 _ _ _ _ _ _ _ _ _ _ _ _ h
set_option maxRecDepth 100000 in
set_option maxHeartbeats 4000000 in
theorem t_X12_throughBy (l : Launch) (σ : zS) {p1 : Int32} {p2 : Int32} {p3 : Int32} {p4 : Int32} {m_fences : Int32} {m_horses : Int32} {m_read : Int32} {m_length : Int32} {m_top : Int32} {m_at : Int32} {m_wrong : Int32} {m_ruleSize : Int32} {m_isAsked : Int32} {m_askedHorse : Int32} {m_askedFence : Int32} {m_askedLetter : Int32} {m_askedHeight : Int32} {m_kind : (Nat → Int32)} {m_height : (Nat → Int32)} {m_feet : (Nat → Int32)} {m_stride : (Nat → Int32)} {m_scope : (Nat → Int32)} {m_care : (Nat → Int32)} {m_plan : (Nat → Int32)} {m_rule : (Nat → Int32)} {r : Int32} {w_m_read : Int32} {w_m_length : Int32} {w_m_top : Int32} {w_m_at : Int32} {w_m_wrong : Int32} {w_m_isAsked : Int32} {w_m_askedHorse : Int32} {w_m_askedFence : Int32} {w_m_askedLetter : Int32} {w_m_askedHeight : Int32} (h : f_X12_throughBy p1 p2 p3 p4 m_fences m_horses m_read m_length m_top m_at m_wrong m_ruleSize m_isAsked m_askedHorse m_askedFence m_askedLetter m_askedHeight m_kind m_height m_feet m_stride m_scope m_care m_plan m_rule = some (r, w_m_read, w_m_length, w_m_top, w_m_at, w_m_wrong, w_m_isAsked, w_m_askedHorse, w_m_askedFence, w_m_askedLetter, w_m_askedHeight)) : zMt l zW 207 mX12_throughBy σ ([(3457, m_fences), (3462, m_horses), (3474, m_read), (3475, m_length), (3476, m_top), (3477, m_at), (3478, m_wrong), (3483, m_ruleSize), (3484, m_isAsked), (3485, m_askedHorse), (3486, m_askedFence), (3487, m_askedLetter), (3488, m_askedHeight)], [(56, m_kind), (57, m_height), (58, m_feet), (59, m_stride), (60, m_scope), (61, m_care), (62, m_plan), (69, m_rule)], []) [.ref 54, .int p1, .int p2, .int p3, .int p4] (some (.int r)) ([(3457, m_fences), (3462, m_horses), (3474, w_m_read), (3475, w_m_length), (3476, w_m_top), (3477, w_m_at), (3478, w_m_wrong), (3483, m_ruleSize), (3484, w_m_isAsked), (3485, w_m_askedHorse), (3486, w_m_askedFence), (3487, w_m_askedLetter), (3488, w_m_askedHeight)], [(56, m_kind), (57, m_height), (58, m_feet), (59, m_stride), (60, m_scope), (61, m_care), (62, m_plan), (69, m_rule)], []) := by
  refine zMt_of (ls := [(0, .ref 54), (1, .int p1), (2, .int p2), (3, .int p3), (4, .int p4)]) (by decide) rfl (fun _ => Nat.le_of_ble_eq_true rfl) rfl ?_
  unfold f_X12_throughBy at h
  refine zJ_iconst dX12_throughBy_0 zc_0 rfl ?_
  refine zJ_istore (ls' := [(5, .int (0 : Int32)), (0, .ref 54), (1, .int p1), (2, .int p2), (3, .int p3), (4, .int p4)]) dX12_throughBy_1 rfl rfl rfl ?_
  refine zJ_iconst dX12_throughBy_3 zc_0 rfl ?_
  refine zJ_istore (ls' := [(6, .int (0 : Int32)), (5, .int (0 : Int32)), (0, .ref 54), (1, .int p1), (2, .int p2), (3, .int p3), (4, .int p4)]) dX12_throughBy_4 rfl rfl rfl ?_
  have hk6 : ∀ (v5_6x : Int32) (m_read_6x : Int32) (m_length_6x : Int32) (m_top_6x : Int32) (m_at_6x : Int32) (m_wrong_6x : Int32) (m_isAsked_6x : Int32) (m_askedHorse_6x : Int32) (m_askedFence_6x : Int32) (m_askedLetter_6x : Int32) (m_askedHeight_6x : Int32), k_X12_throughBy_6  v5_6x m_read_6x m_length_6x m_top_6x m_at_6x m_wrong_6x m_isAsked_6x m_askedHorse_6x m_askedFence_6x m_askedLetter_6x m_askedHeight_6x = some (r, w_m_read, w_m_length, w_m_top, w_m_at, w_m_wrong, w_m_isAsked, w_m_askedHorse, w_m_askedFence, w_m_askedLetter, w_m_askedHeight) → zJ l zW 207 mX12_throughBy σ ([(3457, m_fences), (3462, m_horses), (3474, m_read_6x), (3475, m_length_6x), (3476, m_top_6x), (3477, m_at_6x), (3478, m_wrong_6x), (3483, m_ruleSize), (3484, m_isAsked_6x), (3485, m_askedHorse_6x), (3486, m_askedFence_6x), (3487, m_askedLetter_6x), (3488, m_askedHeight_6x)], [(56, m_kind), (57, m_height), (58, m_feet), (59, m_stride), (60, m_scope), (61, m_care), (62, m_plan), (69, m_rule)], []) 48 [(5, .int v5_6x)] [] (some (.int r)) ([(3457, m_fences), (3462, m_horses), (3474, w_m_read), (3475, w_m_length), (3476, w_m_top), (3477, w_m_at), (3478, w_m_wrong), (3483, m_ruleSize), (3484, w_m_isAsked), (3485, w_m_askedHorse), (3486, w_m_askedFence), (3487, w_m_askedLetter), (3488, w_m_askedHeight)], [(56, m_kind), (57, m_height), (58, m_feet), (59, m_stride), (60, m_scope), (61, m_care), (62, m_plan), (69, m_rule)], []) := by
    intro v5_6x m_read_6x m_length_6x m_top_6x m_at_6x m_wrong_6x m_isAsked_6x m_askedHorse_6x m_askedFence_6x m_askedLetter_6x m_askedHeight_6x h
    unfold k_X12_throughBy_6 at h
    refine zJ_iload dX12_throughBy_48 rfl rfl ?_
    obtain ⟨rfl, rfl, rfl, rfl, rfl, rfl, rfl, rfl, rfl, rfl, rfl⟩ := so11 h
    exact zJ_iret dX12_throughBy_50 rfl rfl
  refine zJ_loc (ls' := [(0, .ref 54), (1, .int p1), (2, .int p2), (3, .int p3), (4, .int p4), (5, .int (0 : Int32)), (6, .int (0 : Int32))]) (zll_c rfl (zll_c rfl (zll_c rfl (zll_c rfl (zll_c rfl (zll_c rfl (zll_c rfl zll_n))))))) ?_
  refine ml12_J (fun (v5_6 : Int32) (v6_6 : Int32) (m_read_6 : Int32) (m_length_6 : Int32) (m_top_6 : Int32) (m_at_6 : Int32) (m_wrong_6 : Int32) (m_isAsked_6 : Int32) (m_askedHorse_6 : Int32) (m_askedFence_6 : Int32) (m_askedLetter_6 : Int32) (m_askedHeight_6 : Int32) => zJ l zW 207 mX12_throughBy σ ([(3457, m_fences), (3462, m_horses), (3474, m_read_6), (3475, m_length_6), (3476, m_top_6), (3477, m_at_6), (3478, m_wrong_6), (3483, m_ruleSize), (3484, m_isAsked_6), (3485, m_askedHorse_6), (3486, m_askedFence_6), (3487, m_askedLetter_6), (3488, m_askedHeight_6)], [(56, m_kind), (57, m_height), (58, m_feet), (59, m_stride), (60, m_scope), (61, m_care), (62, m_plan), (69, m_rule)], []) 6 [(0, .ref 54), (1, .int p1), (2, .int p2), (3, .int p3), (4, .int p4), (5, .int v5_6), (6, .int v6_6)] [] (some (.int r)) ([(3457, m_fences), (3462, m_horses), (3474, w_m_read), (3475, w_m_length), (3476, w_m_top), (3477, w_m_at), (3478, w_m_wrong), (3483, m_ruleSize), (3484, w_m_isAsked), (3485, w_m_askedHorse), (3486, w_m_askedFence), (3487, w_m_askedLetter), (3488, w_m_askedHeight)], [(56, m_kind), (57, m_height), (58, m_feet), (59, m_stride), (60, m_scope), (61, m_care), (62, m_plan), (69, m_rule)], [])) (fun rc6 hrc6 v5_6 v6_6 m_read_6 m_length_6 m_top_6 m_at_6 m_wrong_6 m_isAsked_6 m_askedHorse_6 m_askedFence_6 m_askedLetter_6 m_askedHeight_6 h => ?_) zN _ _ _ _ _ _ _ _ _ _ _ _ h
  unfold s_X12_throughBy_6 at h
  refine zJ_iload dX12_throughBy_6 rfl rfl ?_
  refine zJ_aload_n dX12_throughBy_8 rfl rfl ?_
  refine zJ_geti (mi := mX12_throughBy) (x := m_horses) dX12_throughBy_9 F_X12_126 zW_54 rfl rfl rfl ?_
  refine zJ_icmp_ge (tgt := 48) dX12_throughBy_12 (by decide) rfl (fun hc => ?_) (fun hc => ?_)
  · replace h := it_t hc h
    refine zJ_loc (ls' := [(5, .int v5_6)]) (zll_c rfl zll_n) ?_
    exact hk6 _ _ _ _ _ _ _ _ _ _ _ h
  · replace h := it_f hc h
    refine zJ_iload dX12_throughBy_15 rfl rfl ?_
    refine zJ_aload_n dX12_throughBy_17 rfl rfl ?_
    refine zJ_iload dX12_throughBy_18 rfl rfl ?_
    refine zJ_iload_n dX12_throughBy_20 rfl rfl ?_
    refine zJ_iload_n dX12_throughBy_21 rfl rfl ?_
    refine zJ_iload dX12_throughBy_22 rfl rfl ?_
    obtain ⟨rn1, m_readn2, m_lengthn3, m_topn4, m_atn5, m_wrongn6, m_isAskedn7, m_askedHorsen8, m_askedFencen9, m_askedLettern10, m_askedHeightn11, hcl, h⟩ := bd11_some h
    refine zJ_callV (mi := mX12_throughBy) (yi := mX12_clearBy) (as := [.int v6_6, .int p1, .int p3, .int p4]) (st := [.int v5_6]) (L2 := ([(3457, m_fences), (3462, m_horses), (3474, m_readn2), (3475, m_lengthn3), (3476, m_topn4), (3477, m_atn5), (3478, m_wrongn6), (3483, m_ruleSize), (3484, m_isAskedn7), (3485, m_askedHorsen8), (3486, m_askedFencen9), (3487, m_askedLettern10), (3488, m_askedHeightn11)], [(56, m_kind), (57, m_height), (58, m_feet), (59, m_stride), (60, m_scope), (61, m_care), (62, m_plan), (69, m_rule)], [])) dX12_throughBy_24 ML_X12_276 Yv_X12_clearBy rfl zW_54 rfl rfl (t_X12_clearBy l _ hcl) (zsub_i (zle_c rfl (zle_c rfl (zle_c rfl (zle_c rfl (zle_c rfl (zle_c rfl (zle_c rfl (zle_c rfl (zle_c rfl (zle_c rfl (zle_c rfl (zle_c rfl zle_n)))))))))))) (zle_c rfl (zle_c rfl (zle_c rfl (zle_c rfl (zle_c rfl (zle_c rfl (zle_c rfl (zle_c rfl zle_n)))))))) zle_n) rfl (Nat.le_of_ble_eq_true rfl) (Nat.le_of_ble_eq_true rfl) rfl rfl ?_
    refine zJ_iload_n dX12_throughBy_27 rfl rfl ?_
    refine zJ_icmp_lt (tgt := 38) dX12_throughBy_28 (by decide) rfl (fun hc => ?_) (fun hc => ?_)
    · replace h := it_t hc h
      refine zJ_iconst dX12_throughBy_38 zc_0 rfl ?_
      refine zJ_ior dX12_throughBy_39 rfl ?_
      obtain ⟨v5n12, ev5n12, h⟩ := lt1_some h
      refine zJ_nmi ev5n12 ?_
      refine zJ_istore (ls' := [(5, .int v5n12), (0, .ref 54), (1, .int p1), (2, .int p2), (3, .int p3), (4, .int p4), (6, .int v6_6)]) dX12_throughBy_40 rfl rfl rfl ?_
      obtain ⟨v6n13, ev6n13, h⟩ := lt1_some h
      refine zJ_iincN (ls' := [(6, .int v6n13), (5, .int v5n12), (0, .ref 54), (1, .int p1), (2, .int p2), (3, .int p3), (4, .int p4)]) dX12_throughBy_42 rfl rfl zc_1 ev6n13 rfl rfl ?_
      refine zJ_goto (tgt := 6) dX12_throughBy_45 (by decide) ?_
      refine zJ_loc (ls' := [(0, .ref 54), (1, .int p1), (2, .int p2), (3, .int p3), (4, .int p4), (5, .int v5n12), (6, .int v6n13)]) (zll_c rfl (zll_c rfl (zll_c rfl (zll_c rfl (zll_c rfl (zll_c rfl (zll_c rfl zll_n))))))) ?_
      exact hrc6 _ _ _ _ _ _ _ _ _ _ _ _ h
    · replace h := it_f hc h
      refine zJ_iconst dX12_throughBy_31 zc_1 rfl ?_
      refine zJ_iload dX12_throughBy_32 rfl rfl ?_
      refine zJ_ishl dX12_throughBy_34 rfl ?_
      refine zJ_goto (tgt := 39) dX12_throughBy_35 (by decide) ?_
      refine zJ_ior dX12_throughBy_39 rfl ?_
      obtain ⟨v5n14, ev5n14, h⟩ := lt1_some h
      refine zJ_nmi ev5n14 ?_
      refine zJ_istore (ls' := [(5, .int v5n14), (0, .ref 54), (1, .int p1), (2, .int p2), (3, .int p3), (4, .int p4), (6, .int v6_6)]) dX12_throughBy_40 rfl rfl rfl ?_
      obtain ⟨v6n15, ev6n15, h⟩ := lt1_some h
      refine zJ_iincN (ls' := [(6, .int v6n15), (5, .int v5n14), (0, .ref 54), (1, .int p1), (2, .int p2), (3, .int p3), (4, .int p4)]) dX12_throughBy_42 rfl rfl zc_1 ev6n15 rfl rfl ?_
      refine zJ_goto (tgt := 6) dX12_throughBy_45 (by decide) ?_
      refine zJ_loc (ls' := [(0, .ref 54), (1, .int p1), (2, .int p2), (3, .int p3), (4, .int p4), (5, .int v5n14), (6, .int v6n15)]) (zll_c rfl (zll_c rfl (zll_c rfl (zll_c rfl (zll_c rfl (zll_c rfl (zll_c rfl zll_n))))))) ?_
      exact hrc6 _ _ _ _ _ _ _ _ _ _ _ _ h
set_option maxRecDepth 100000 in
set_option maxHeartbeats 4000000 in
theorem t_X12_built (l : Launch) (σ : zS) {p1 : Int32} {p2 : Int32} {p3 : Int32} {m_fences : Int32} {m_horses : Int32} {m_plans : Int32} {m_rowMany : Int32} {m_thrown : Int32} {m_read : Int32} {m_length : Int32} {m_top : Int32} {m_at : Int32} {m_wrong : Int32} {m_ruleSize : Int32} {m_isAsked : Int32} {m_askedHorse : Int32} {m_askedFence : Int32} {m_askedLetter : Int32} {m_askedHeight : Int32} {m_kind : (Nat → Int32)} {m_height : (Nat → Int32)} {m_feet : (Nat → Int32)} {m_stride : (Nat → Int32)} {m_scope : (Nat → Int32)} {m_care : (Nat → Int32)} {m_plan : (Nat → Int32)} {m_rule : (Nat → Int32)} {m_row : (Nat → Int64)} {r : Int32} {w_m_rowMany : Int32} {w_m_thrown : Int32} {w_m_read : Int32} {w_m_length : Int32} {w_m_top : Int32} {w_m_at : Int32} {w_m_wrong : Int32} {w_m_isAsked : Int32} {w_m_askedHorse : Int32} {w_m_askedFence : Int32} {w_m_askedLetter : Int32} {w_m_askedHeight : Int32} {w_m_row : (Nat → Int64)} (h : f_X12_built p1 p2 p3 m_fences m_horses m_plans m_rowMany m_thrown m_read m_length m_top m_at m_wrong m_ruleSize m_isAsked m_askedHorse m_askedFence m_askedLetter m_askedHeight m_kind m_height m_feet m_stride m_scope m_care m_plan m_rule m_row = some (r, w_m_rowMany, w_m_thrown, w_m_read, w_m_length, w_m_top, w_m_at, w_m_wrong, w_m_isAsked, w_m_askedHorse, w_m_askedFence, w_m_askedLetter, w_m_askedHeight, w_m_row)) : zMt l zW 208 mX12_built σ ([(3457, m_fences), (3462, m_horses), (3466, m_plans), (3472, m_rowMany), (3473, m_thrown), (3474, m_read), (3475, m_length), (3476, m_top), (3477, m_at), (3478, m_wrong), (3483, m_ruleSize), (3484, m_isAsked), (3485, m_askedHorse), (3486, m_askedFence), (3487, m_askedLetter), (3488, m_askedHeight)], [(56, m_kind), (57, m_height), (58, m_feet), (59, m_stride), (60, m_scope), (61, m_care), (62, m_plan), (69, m_rule)], [(65, m_row)]) [.ref 54, .int p1, .int p2, .int p3] (some (.int r)) ([(3457, m_fences), (3462, m_horses), (3466, m_plans), (3472, w_m_rowMany), (3473, w_m_thrown), (3474, w_m_read), (3475, w_m_length), (3476, w_m_top), (3477, w_m_at), (3478, w_m_wrong), (3483, m_ruleSize), (3484, w_m_isAsked), (3485, w_m_askedHorse), (3486, w_m_askedFence), (3487, w_m_askedLetter), (3488, w_m_askedHeight)], [(56, m_kind), (57, m_height), (58, m_feet), (59, m_stride), (60, m_scope), (61, m_care), (62, m_plan), (69, m_rule)], [(65, w_m_row)]) := by
  refine zMt_of (ls := [(0, .ref 54), (1, .int p1), (2, .int p2), (3, .int p3)]) (by decide) rfl (fun _ => Nat.le_of_ble_eq_true rfl) rfl ?_
  unfold f_X12_built at h
  refine zJ_aload_n dX12_built_0 rfl rfl ?_
  refine zJ_iconst dX12_built_1 zc_0 rfl ?_
  refine zK_puti (mi := mX12_built) (la' := [(3457, m_fences), (3462, m_horses), (3466, m_plans), (3472, m_rowMany), (3473, (0 : Int32)), (3474, m_read), (3475, m_length), (3476, m_top), (3477, m_at), (3478, m_wrong), (3483, m_ruleSize), (3484, m_isAsked), (3485, m_askedHorse), (3486, m_askedFence), (3487, m_askedLetter), (3488, m_askedHeight)]) zW_ok dX12_built_2 F_X12_113 P_12_17 zW_54 rfl rfl rfl ?_
  refine zJ_aload_n dX12_built_5 rfl rfl ?_
  refine zJ_iload_n dX12_built_6 rfl rfl ?_
  obtain ⟨rn1, hcl, h⟩ := bd1_some h
  refine zJ_callV (mi := mX12_built) (yi := mX12_isPlan) (as := [.int p1]) (st := []) (L2 := ([(3457, m_fences), (3462, m_horses), (3466, m_plans), (3472, m_rowMany), (3473, (0 : Int32)), (3474, m_read), (3475, m_length), (3476, m_top), (3477, m_at), (3478, m_wrong), (3483, m_ruleSize), (3484, m_isAsked), (3485, m_askedHorse), (3486, m_askedFence), (3487, m_askedLetter), (3488, m_askedHeight)], [(56, m_kind), (57, m_height), (58, m_feet), (59, m_stride), (60, m_scope), (61, m_care), (62, m_plan), (69, m_rule)], [(65, m_row)])) dX12_built_7 ML_X12_136 Yv_X12_isPlan rfl zW_54 rfl rfl (t_X12_isPlan l _ hcl) (zsub_i (zle_c rfl zle_n) zle_n zle_n) rfl (Nat.le_of_ble_eq_true rfl) (Nat.le_of_ble_eq_true rfl) rfl rfl ?_
  refine zJ_if_eq (tgt := 34) dX12_built_10 (by decide) rfl (fun hc => ?_) (fun hc => ?_)
  · replace h := it_t hc h
    refine zJ_bipush dX12_built_34 zb_m2 rfl ?_
    obtain ⟨rfl, rfl, rfl, rfl, rfl, rfl, rfl, rfl, rfl, rfl, rfl, rfl, rfl, rfl⟩ := so14 h
    exact zJ_iret dX12_built_36 rfl rfl
  · replace h := it_f hc h
    refine zJ_iload_n dX12_built_13 rfl rfl ?_
    refine zJ_iconst dX12_built_14 zc_0 rfl ?_
    refine zJ_sipush dX12_built_15 zs_10000 rfl ?_
    obtain ⟨rn2, hcl, h⟩ := bd1_some h
    refine zJ_callS (mi := mX12_built) (yi := mX12_in) (as := [.int p2, .int (0 : Int32), .int (10000 : Int32)]) (st := []) (L2 := ([(3457, m_fences), (3462, m_horses), (3466, m_plans), (3472, m_rowMany), (3473, (0 : Int32)), (3474, m_read), (3475, m_length), (3476, m_top), (3477, m_at), (3478, m_wrong), (3483, m_ruleSize), (3484, m_isAsked), (3485, m_askedHorse), (3486, m_askedFence), (3487, m_askedLetter), (3488, m_askedHeight)], [(56, m_kind), (57, m_height), (58, m_feet), (59, m_stride), (60, m_scope), (61, m_care), (62, m_plan), (69, m_rule)], [(65, m_row)])) dX12_built_18 ML_X12_122 Ys_X12_in rfl (t_X12_in l _ hcl) (zsub_i zle_n zle_n zle_n) rfl (Nat.le_of_ble_eq_true rfl) (Nat.le_of_ble_eq_true rfl) rfl rfl ?_
    refine zJ_if_eq (tgt := 34) dX12_built_21 (by decide) rfl (fun hc => ?_) (fun hc => ?_)
    · replace h := it_t hc h
      refine zJ_bipush dX12_built_34 zb_m2 rfl ?_
      obtain ⟨rfl, rfl, rfl, rfl, rfl, rfl, rfl, rfl, rfl, rfl, rfl, rfl, rfl, rfl⟩ := so14 h
      exact zJ_iret dX12_built_36 rfl rfl
    · replace h := it_f hc h
      refine zJ_iload_n dX12_built_24 rfl rfl ?_
      refine zJ_iconst dX12_built_25 zc_0 rfl ?_
      refine zJ_bipush dX12_built_26 zb_6 rfl ?_
      obtain ⟨rn3, hcl, h⟩ := bd1_some h
      refine zJ_callS (mi := mX12_built) (yi := mX12_in) (as := [.int p3, .int (0 : Int32), .int (6 : Int32)]) (st := []) (L2 := ([(3457, m_fences), (3462, m_horses), (3466, m_plans), (3472, m_rowMany), (3473, (0 : Int32)), (3474, m_read), (3475, m_length), (3476, m_top), (3477, m_at), (3478, m_wrong), (3483, m_ruleSize), (3484, m_isAsked), (3485, m_askedHorse), (3486, m_askedFence), (3487, m_askedLetter), (3488, m_askedHeight)], [(56, m_kind), (57, m_height), (58, m_feet), (59, m_stride), (60, m_scope), (61, m_care), (62, m_plan), (69, m_rule)], [(65, m_row)])) dX12_built_28 ML_X12_122 Ys_X12_in rfl (t_X12_in l _ hcl) (zsub_i zle_n zle_n zle_n) rfl (Nat.le_of_ble_eq_true rfl) (Nat.le_of_ble_eq_true rfl) rfl rfl ?_
      refine zJ_if_ne (tgt := 37) dX12_built_31 (by decide) rfl (fun hc => ?_) (fun hc => ?_)
      · replace h := it_f hc h
        refine zJ_iconst dX12_built_37 zc_m1 rfl ?_
        refine zJ_istore (ls' := [(4, .int (-1 : Int32)), (0, .ref 54), (1, .int p1), (2, .int p2), (3, .int p3)]) dX12_built_38 rfl rfl rfl ?_
        refine zJ_iconst dX12_built_40 zc_m1 rfl ?_
        refine zJ_istore (ls' := [(5, .int (-1 : Int32)), (4, .int (-1 : Int32)), (0, .ref 54), (1, .int p1), (2, .int p2), (3, .int p3)]) dX12_built_41 rfl rfl rfl ?_
        refine zJ_aload_n dX12_built_43 rfl rfl ?_
        refine zJ_iload_n dX12_built_44 rfl rfl ?_
        refine zJ_iload_n dX12_built_45 rfl rfl ?_
        refine zJ_iconst dX12_built_46 zc_m1 rfl ?_
        refine zJ_iconst dX12_built_47 zc_0 rfl ?_
        obtain ⟨rn4, m_readn5, m_lengthn6, m_topn7, m_atn8, m_wrongn9, m_isAskedn10, m_askedHorsen11, m_askedFencen12, m_askedLettern13, m_askedHeightn14, hcl, h⟩ := bd11_some h
        refine zJ_callV (mi := mX12_built) (yi := mX12_throughBy) (as := [.int p1, .int p2, .int (-1 : Int32), .int (0 : Int32)]) (st := []) (L2 := ([(3457, m_fences), (3462, m_horses), (3466, m_plans), (3472, m_rowMany), (3473, (0 : Int32)), (3474, m_readn5), (3475, m_lengthn6), (3476, m_topn7), (3477, m_atn8), (3478, m_wrongn9), (3483, m_ruleSize), (3484, m_isAskedn10), (3485, m_askedHorsen11), (3486, m_askedFencen12), (3487, m_askedLettern13), (3488, m_askedHeightn14)], [(56, m_kind), (57, m_height), (58, m_feet), (59, m_stride), (60, m_scope), (61, m_care), (62, m_plan), (69, m_rule)], [(65, m_row)])) dX12_built_48 ML_X12_422 Yv_X12_throughBy rfl zW_54 rfl rfl (t_X12_throughBy l _ hcl) (zsub_i (zle_c rfl (zle_c rfl (zle_c rfl (zle_c rfl (zle_c rfl (zle_c rfl (zle_c rfl (zle_c rfl (zle_c rfl (zle_c rfl (zle_c rfl (zle_c rfl (zle_c rfl zle_n))))))))))))) (zle_c rfl (zle_c rfl (zle_c rfl (zle_c rfl (zle_c rfl (zle_c rfl (zle_c rfl (zle_c rfl zle_n)))))))) zle_n) rfl (Nat.le_of_ble_eq_true rfl) (Nat.le_of_ble_eq_true rfl) rfl rfl ?_
        obtain ⟨rn15, hcl, h⟩ := bd1_some h
        refine zJ_callS (mi := mX12_built) (yi := mJ6_bitCount_0f7a4) (as := [.int rn4]) (st := []) (L2 := ([(3457, m_fences), (3462, m_horses), (3466, m_plans), (3472, m_rowMany), (3473, (0 : Int32)), (3474, m_readn5), (3475, m_lengthn6), (3476, m_topn7), (3477, m_atn8), (3478, m_wrongn9), (3483, m_ruleSize), (3484, m_isAskedn10), (3485, m_askedHorsen11), (3486, m_askedFencen12), (3487, m_askedLettern13), (3488, m_askedHeightn14)], [(56, m_kind), (57, m_height), (58, m_feet), (59, m_stride), (60, m_scope), (61, m_care), (62, m_plan), (69, m_rule)], [(65, m_row)])) dX12_built_51 ML_X12_425 Ys_J6_bitCount_0f7a4 rfl (t_J6_bitCount_0f7a4 l _ hcl) (zsub_i zle_n zle_n zle_n) rfl (Nat.le_of_ble_eq_true rfl) (Nat.le_of_ble_eq_true rfl) rfl rfl ?_
        refine zJ_istore (ls' := [(6, .int rn15), (5, .int (-1 : Int32)), (4, .int (-1 : Int32)), (0, .ref 54), (1, .int p1), (2, .int p2), (3, .int p3)]) dX12_built_54 rfl rfl rfl ?_
        refine zJ_iconst dX12_built_56 zc_0 rfl ?_
        refine zJ_istore (ls' := [(7, .int (0 : Int32)), (6, .int rn15), (5, .int (-1 : Int32)), (4, .int (-1 : Int32)), (0, .ref 54), (1, .int p1), (2, .int p2), (3, .int p3)]) dX12_built_57 rfl rfl rfl ?_
        have hk59 : ∀ (v4_59x : Int32) (v5_59x : Int32) (v6_59x : Int32) (m_read_59x : Int32) (m_length_59x : Int32) (m_top_59x : Int32) (m_at_59x : Int32) (m_wrong_59x : Int32) (m_isAsked_59x : Int32) (m_askedHorse_59x : Int32) (m_askedFence_59x : Int32) (m_askedLetter_59x : Int32) (m_askedHeight_59x : Int32), k_X12_built_59 m_row v4_59x v5_59x v6_59x m_read_59x m_length_59x m_top_59x m_at_59x m_wrong_59x m_isAsked_59x m_askedHorse_59x m_askedFence_59x m_askedLetter_59x m_askedHeight_59x = some (r, w_m_rowMany, w_m_thrown, w_m_read, w_m_length, w_m_top, w_m_at, w_m_wrong, w_m_isAsked, w_m_askedHorse, w_m_askedFence, w_m_askedLetter, w_m_askedHeight, w_m_row) → zJ l zW 208 mX12_built σ ([(3457, m_fences), (3462, m_horses), (3466, m_plans), (3472, m_rowMany), (3473, (0 : Int32)), (3474, m_read_59x), (3475, m_length_59x), (3476, m_top_59x), (3477, m_at_59x), (3478, m_wrong_59x), (3483, m_ruleSize), (3484, m_isAsked_59x), (3485, m_askedHorse_59x), (3486, m_askedFence_59x), (3487, m_askedLetter_59x), (3488, m_askedHeight_59x)], [(56, m_kind), (57, m_height), (58, m_feet), (59, m_stride), (60, m_scope), (61, m_care), (62, m_plan), (69, m_rule)], [(65, m_row)]) 137 [(0, .ref 54), (4, .int v4_59x), (5, .int v5_59x), (6, .int v6_59x)] [] (some (.int r)) ([(3457, m_fences), (3462, m_horses), (3466, m_plans), (3472, w_m_rowMany), (3473, w_m_thrown), (3474, w_m_read), (3475, w_m_length), (3476, w_m_top), (3477, w_m_at), (3478, w_m_wrong), (3483, m_ruleSize), (3484, w_m_isAsked), (3485, w_m_askedHorse), (3486, w_m_askedFence), (3487, w_m_askedLetter), (3488, w_m_askedHeight)], [(56, m_kind), (57, m_height), (58, m_feet), (59, m_stride), (60, m_scope), (61, m_care), (62, m_plan), (69, m_rule)], [(65, w_m_row)]) := by
          intro v4_59x v5_59x v6_59x m_read_59x m_length_59x m_top_59x m_at_59x m_wrong_59x m_isAsked_59x m_askedHorse_59x m_askedFence_59x m_askedLetter_59x m_askedHeight_59x h
          unfold k_X12_built_59 at h
          refine zJ_aload_n dX12_built_137 rfl rfl ?_
          refine zJ_iconst dX12_built_138 zc_0 rfl ?_
          refine zK_puti (mi := mX12_built) (la' := [(3457, m_fences), (3462, m_horses), (3466, m_plans), (3472, (0 : Int32)), (3473, (0 : Int32)), (3474, m_read_59x), (3475, m_length_59x), (3476, m_top_59x), (3477, m_at_59x), (3478, m_wrong_59x), (3483, m_ruleSize), (3484, m_isAsked_59x), (3485, m_askedHorse_59x), (3486, m_askedFence_59x), (3487, m_askedLetter_59x), (3488, m_askedHeight_59x)]) zW_ok dX12_built_139 F_X12_116 P_12_16 zW_54 rfl rfl rfl ?_
          refine zJ_aload_n dX12_built_142 rfl rfl ?_
          refine zJ_iload dX12_built_143 rfl rfl ?_
          refine zJ_i2l dX12_built_145 rfl ?_
          obtain ⟨m_rowManyn16, m_rown17, hcl, h⟩ := bd2_some h
          refine zJ_callV (mi := mX12_built) (yi := mX12_tell) (as := [.long v5_59x.toInt64]) (st := []) (L2 := ([(3457, m_fences), (3462, m_horses), (3466, m_plans), (3472, m_rowManyn16), (3473, (0 : Int32)), (3474, m_read_59x), (3475, m_length_59x), (3476, m_top_59x), (3477, m_at_59x), (3478, m_wrong_59x), (3483, m_ruleSize), (3484, m_isAsked_59x), (3485, m_askedHorse_59x), (3486, m_askedFence_59x), (3487, m_askedLetter_59x), (3488, m_askedHeight_59x)], [(56, m_kind), (57, m_height), (58, m_feet), (59, m_stride), (60, m_scope), (61, m_care), (62, m_plan), (69, m_rule)], [(65, m_rown17)])) dX12_built_146 ML_X12_265 Yv_X12_tell rfl zW_54 rfl rfl (t_X12_tell l _ hcl) (zsub_i (zle_c rfl zle_n) zle_n (zle_c rfl zle_n)) rfl (Nat.le_of_ble_eq_true rfl) (Nat.le_of_ble_eq_true rfl) rfl rfl ?_
          refine zJ_aload_n dX12_built_149 rfl rfl ?_
          refine zJ_iload dX12_built_150 rfl rfl ?_
          refine zJ_i2l dX12_built_152 rfl ?_
          obtain ⟨m_rowManyn18, m_rown19, hcl, h⟩ := bd2_some h
          refine zJ_callV (mi := mX12_built) (yi := mX12_tell) (as := [.long v6_59x.toInt64]) (st := []) (L2 := ([(3457, m_fences), (3462, m_horses), (3466, m_plans), (3472, m_rowManyn18), (3473, (0 : Int32)), (3474, m_read_59x), (3475, m_length_59x), (3476, m_top_59x), (3477, m_at_59x), (3478, m_wrong_59x), (3483, m_ruleSize), (3484, m_isAsked_59x), (3485, m_askedHorse_59x), (3486, m_askedFence_59x), (3487, m_askedLetter_59x), (3488, m_askedHeight_59x)], [(56, m_kind), (57, m_height), (58, m_feet), (59, m_stride), (60, m_scope), (61, m_care), (62, m_plan), (69, m_rule)], [(65, m_rown19)])) dX12_built_153 ML_X12_265 Yv_X12_tell rfl zW_54 rfl rfl (t_X12_tell l _ hcl) (zsub_i (zle_c rfl zle_n) zle_n (zle_c rfl zle_n)) rfl (Nat.le_of_ble_eq_true rfl) (Nat.le_of_ble_eq_true rfl) rfl rfl ?_
          refine zJ_iload dX12_built_156 rfl rfl ?_
          obtain ⟨rfl, rfl, rfl, rfl, rfl, rfl, rfl, rfl, rfl, rfl, rfl, rfl, rfl, rfl⟩ := so14 h
          exact zJ_iret dX12_built_158 rfl rfl
        refine zJ_loc (ls' := [(0, .ref 54), (1, .int p1), (2, .int p2), (3, .int p3), (4, .int (-1 : Int32)), (5, .int (-1 : Int32)), (6, .int rn15), (7, .int (0 : Int32))]) (zll_c rfl (zll_c rfl (zll_c rfl (zll_c rfl (zll_c rfl (zll_c rfl (zll_c rfl (zll_c rfl zll_n)))))))) ?_
        refine ml14_J (fun (v4_59 : Int32) (v5_59 : Int32) (v6_59 : Int32) (v7_59 : Int32) (m_read_59 : Int32) (m_length_59 : Int32) (m_top_59 : Int32) (m_at_59 : Int32) (m_wrong_59 : Int32) (m_isAsked_59 : Int32) (m_askedHorse_59 : Int32) (m_askedFence_59 : Int32) (m_askedLetter_59 : Int32) (m_askedHeight_59 : Int32) => zJ l zW 208 mX12_built σ ([(3457, m_fences), (3462, m_horses), (3466, m_plans), (3472, m_rowMany), (3473, (0 : Int32)), (3474, m_read_59), (3475, m_length_59), (3476, m_top_59), (3477, m_at_59), (3478, m_wrong_59), (3483, m_ruleSize), (3484, m_isAsked_59), (3485, m_askedHorse_59), (3486, m_askedFence_59), (3487, m_askedLetter_59), (3488, m_askedHeight_59)], [(56, m_kind), (57, m_height), (58, m_feet), (59, m_stride), (60, m_scope), (61, m_care), (62, m_plan), (69, m_rule)], [(65, m_row)]) 59 [(0, .ref 54), (1, .int p1), (2, .int p2), (3, .int p3), (4, .int v4_59), (5, .int v5_59), (6, .int v6_59), (7, .int v7_59)] [] (some (.int r)) ([(3457, m_fences), (3462, m_horses), (3466, m_plans), (3472, w_m_rowMany), (3473, w_m_thrown), (3474, w_m_read), (3475, w_m_length), (3476, w_m_top), (3477, w_m_at), (3478, w_m_wrong), (3483, m_ruleSize), (3484, w_m_isAsked), (3485, w_m_askedHorse), (3486, w_m_askedFence), (3487, w_m_askedLetter), (3488, w_m_askedHeight)], [(56, m_kind), (57, m_height), (58, m_feet), (59, m_stride), (60, m_scope), (61, m_care), (62, m_plan), (69, m_rule)], [(65, w_m_row)])) (fun rc59 hrc59 v4_59 v5_59 v6_59 v7_59 m_read_59 m_length_59 m_top_59 m_at_59 m_wrong_59 m_isAsked_59 m_askedHorse_59 m_askedFence_59 m_askedLetter_59 m_askedHeight_59 h => ?_) zN _ _ _ _ _ _ _ _ _ _ _ _ _ _ h
        unfold s_X12_built_59 at h
        refine zJ_iload dX12_built_59 rfl rfl ?_
        refine zJ_aload_n dX12_built_61 rfl rfl ?_
        refine zJ_geti (mi := mX12_built) (x := m_fences) dX12_built_62 F_X12_119 zW_54 rfl rfl rfl ?_
        refine zJ_icmp_ge (tgt := 137) dX12_built_65 (by decide) rfl (fun hc => ?_) (fun hc => ?_)
        · replace h := it_t hc h
          refine zJ_loc (ls' := [(0, .ref 54), (4, .int v4_59), (5, .int v5_59), (6, .int v6_59)]) (zll_c rfl (zll_c rfl (zll_c rfl (zll_c rfl zll_n)))) ?_
          exact hk59 _ _ _ _ _ _ _ _ _ _ _ _ _ h
        · replace h := it_f hc h
          refine zJ_iconst dX12_built_68 zc_0 rfl ?_
          refine zJ_istore (ls' := [(8, .int (0 : Int32)), (0, .ref 54), (1, .int p1), (2, .int p2), (3, .int p3), (4, .int v4_59), (5, .int v5_59), (6, .int v6_59), (7, .int v7_59)]) dX12_built_69 rfl rfl rfl ?_
          have hk71 : ∀ (v4_71x : Int32) (v5_71x : Int32) (v6_71x : Int32) (m_read_71x : Int32) (m_length_71x : Int32) (m_top_71x : Int32) (m_at_71x : Int32) (m_wrong_71x : Int32) (m_isAsked_71x : Int32) (m_askedHorse_71x : Int32) (m_askedFence_71x : Int32) (m_askedLetter_71x : Int32) (m_askedHeight_71x : Int32), k_X12_built_71 rc59 v7_59 v4_71x v5_71x v6_71x m_read_71x m_length_71x m_top_71x m_at_71x m_wrong_71x m_isAsked_71x m_askedHorse_71x m_askedFence_71x m_askedLetter_71x m_askedHeight_71x = some (r, w_m_rowMany, w_m_thrown, w_m_read, w_m_length, w_m_top, w_m_at, w_m_wrong, w_m_isAsked, w_m_askedHorse, w_m_askedFence, w_m_askedLetter, w_m_askedHeight, w_m_row) → zJ l zW 208 mX12_built σ ([(3457, m_fences), (3462, m_horses), (3466, m_plans), (3472, m_rowMany), (3473, (0 : Int32)), (3474, m_read_71x), (3475, m_length_71x), (3476, m_top_71x), (3477, m_at_71x), (3478, m_wrong_71x), (3483, m_ruleSize), (3484, m_isAsked_71x), (3485, m_askedHorse_71x), (3486, m_askedFence_71x), (3487, m_askedLetter_71x), (3488, m_askedHeight_71x)], [(56, m_kind), (57, m_height), (58, m_feet), (59, m_stride), (60, m_scope), (61, m_care), (62, m_plan), (69, m_rule)], [(65, m_row)]) 131 [(0, .ref 54), (1, .int p1), (2, .int p2), (3, .int p3), (4, .int v4_71x), (5, .int v5_71x), (6, .int v6_71x), (7, .int v7_59)] [] (some (.int r)) ([(3457, m_fences), (3462, m_horses), (3466, m_plans), (3472, w_m_rowMany), (3473, w_m_thrown), (3474, w_m_read), (3475, w_m_length), (3476, w_m_top), (3477, w_m_at), (3478, w_m_wrong), (3483, m_ruleSize), (3484, w_m_isAsked), (3485, w_m_askedHorse), (3486, w_m_askedFence), (3487, w_m_askedLetter), (3488, w_m_askedHeight)], [(56, m_kind), (57, m_height), (58, m_feet), (59, m_stride), (60, m_scope), (61, m_care), (62, m_plan), (69, m_rule)], [(65, w_m_row)]) := by
            intro v4_71x v5_71x v6_71x m_read_71x m_length_71x m_top_71x m_at_71x m_wrong_71x m_isAsked_71x m_askedHorse_71x m_askedFence_71x m_askedLetter_71x m_askedHeight_71x h
            unfold k_X12_built_71 at h
            obtain ⟨v7n20, ev7n20, h⟩ := lt1_some h
            refine zJ_iincN (ls' := [(7, .int v7n20), (0, .ref 54), (1, .int p1), (2, .int p2), (3, .int p3), (4, .int v4_71x), (5, .int v5_71x), (6, .int v6_71x)]) dX12_built_131 rfl rfl zc_1 ev7n20 rfl rfl ?_
            refine zJ_goto (tgt := 59) dX12_built_134 (by decide) ?_
            refine zJ_loc (ls' := [(0, .ref 54), (1, .int p1), (2, .int p2), (3, .int p3), (4, .int v4_71x), (5, .int v5_71x), (6, .int v6_71x), (7, .int v7n20)]) (zll_c rfl (zll_c rfl (zll_c rfl (zll_c rfl (zll_c rfl (zll_c rfl (zll_c rfl (zll_c rfl zll_n)))))))) ?_
            exact hrc59 _ _ _ _ _ _ _ _ _ _ _ _ _ _ h
          refine zJ_loc (ls' := [(0, .ref 54), (1, .int p1), (2, .int p2), (3, .int p3), (4, .int v4_59), (5, .int v5_59), (6, .int v6_59), (7, .int v7_59), (8, .int (0 : Int32))]) (zll_c rfl (zll_c rfl (zll_c rfl (zll_c rfl (zll_c rfl (zll_c rfl (zll_c rfl (zll_c rfl (zll_c rfl zll_n))))))))) ?_
          refine ml14_J (fun (v4_71 : Int32) (v5_71 : Int32) (v6_71 : Int32) (v8_71 : Int32) (m_read_71 : Int32) (m_length_71 : Int32) (m_top_71 : Int32) (m_at_71 : Int32) (m_wrong_71 : Int32) (m_isAsked_71 : Int32) (m_askedHorse_71 : Int32) (m_askedFence_71 : Int32) (m_askedLetter_71 : Int32) (m_askedHeight_71 : Int32) => zJ l zW 208 mX12_built σ ([(3457, m_fences), (3462, m_horses), (3466, m_plans), (3472, m_rowMany), (3473, (0 : Int32)), (3474, m_read_71), (3475, m_length_71), (3476, m_top_71), (3477, m_at_71), (3478, m_wrong_71), (3483, m_ruleSize), (3484, m_isAsked_71), (3485, m_askedHorse_71), (3486, m_askedFence_71), (3487, m_askedLetter_71), (3488, m_askedHeight_71)], [(56, m_kind), (57, m_height), (58, m_feet), (59, m_stride), (60, m_scope), (61, m_care), (62, m_plan), (69, m_rule)], [(65, m_row)]) 71 [(0, .ref 54), (1, .int p1), (2, .int p2), (3, .int p3), (4, .int v4_71), (5, .int v5_71), (6, .int v6_71), (7, .int v7_59), (8, .int v8_71)] [] (some (.int r)) ([(3457, m_fences), (3462, m_horses), (3466, m_plans), (3472, w_m_rowMany), (3473, w_m_thrown), (3474, w_m_read), (3475, w_m_length), (3476, w_m_top), (3477, w_m_at), (3478, w_m_wrong), (3483, m_ruleSize), (3484, w_m_isAsked), (3485, w_m_askedHorse), (3486, w_m_askedFence), (3487, w_m_askedLetter), (3488, w_m_askedHeight)], [(56, m_kind), (57, m_height), (58, m_feet), (59, m_stride), (60, m_scope), (61, m_care), (62, m_plan), (69, m_rule)], [(65, w_m_row)])) (fun rc71 hrc71 v4_71 v5_71 v6_71 v8_71 m_read_71 m_length_71 m_top_71 m_at_71 m_wrong_71 m_isAsked_71 m_askedHorse_71 m_askedFence_71 m_askedLetter_71 m_askedHeight_71 h => ?_) zN _ _ _ _ _ _ _ _ _ _ _ _ _ _ h
          unfold s_X12_built_71 at h
          refine zJ_iload dX12_built_71 rfl rfl ?_
          refine zJ_bipush dX12_built_73 zb_9 rfl ?_
          refine zJ_icmp_gt (tgt := 131) dX12_built_75 (by decide) rfl (fun hc => ?_) (fun hc => ?_)
          · replace h := it_t hc h
            refine zJ_loc (ls' := [(0, .ref 54), (1, .int p1), (2, .int p2), (3, .int p3), (4, .int v4_71), (5, .int v5_71), (6, .int v6_71), (7, .int v7_59)]) (zll_c rfl (zll_c rfl (zll_c rfl (zll_c rfl (zll_c rfl (zll_c rfl (zll_c rfl (zll_c rfl zll_n)))))))) ?_
            exact hk71 _ _ _ _ _ _ _ _ _ _ _ _ _ h
          · replace h := it_f hc h
            refine zJ_aload_n dX12_built_78 rfl rfl ?_
            refine zJ_iload_n dX12_built_79 rfl rfl ?_
            refine zJ_iload_n dX12_built_80 rfl rfl ?_
            refine zJ_iload dX12_built_81 rfl rfl ?_
            refine zJ_iload dX12_built_83 rfl rfl ?_
            obtain ⟨rn21, m_readn22, m_lengthn23, m_topn24, m_atn25, m_wrongn26, m_isAskedn27, m_askedHorsen28, m_askedFencen29, m_askedLettern30, m_askedHeightn31, hcl, h⟩ := bd11_some h
            refine zJ_callV (mi := mX12_built) (yi := mX12_throughBy) (as := [.int p1, .int p2, .int v7_59, .int v8_71]) (st := []) (L2 := ([(3457, m_fences), (3462, m_horses), (3466, m_plans), (3472, m_rowMany), (3473, (0 : Int32)), (3474, m_readn22), (3475, m_lengthn23), (3476, m_topn24), (3477, m_atn25), (3478, m_wrongn26), (3483, m_ruleSize), (3484, m_isAskedn27), (3485, m_askedHorsen28), (3486, m_askedFencen29), (3487, m_askedLettern30), (3488, m_askedHeightn31)], [(56, m_kind), (57, m_height), (58, m_feet), (59, m_stride), (60, m_scope), (61, m_care), (62, m_plan), (69, m_rule)], [(65, m_row)])) dX12_built_85 ML_X12_422 Yv_X12_throughBy rfl zW_54 rfl rfl (t_X12_throughBy l _ hcl) (zsub_i (zle_c rfl (zle_c rfl (zle_c rfl (zle_c rfl (zle_c rfl (zle_c rfl (zle_c rfl (zle_c rfl (zle_c rfl (zle_c rfl (zle_c rfl (zle_c rfl (zle_c rfl zle_n))))))))))))) (zle_c rfl (zle_c rfl (zle_c rfl (zle_c rfl (zle_c rfl (zle_c rfl (zle_c rfl (zle_c rfl zle_n)))))))) zle_n) rfl (Nat.le_of_ble_eq_true rfl) (Nat.le_of_ble_eq_true rfl) rfl rfl ?_
            obtain ⟨rn32, hcl, h⟩ := bd1_some h
            refine zJ_callS (mi := mX12_built) (yi := mJ6_bitCount_0f7a4) (as := [.int rn21]) (st := []) (L2 := ([(3457, m_fences), (3462, m_horses), (3466, m_plans), (3472, m_rowMany), (3473, (0 : Int32)), (3474, m_readn22), (3475, m_lengthn23), (3476, m_topn24), (3477, m_atn25), (3478, m_wrongn26), (3483, m_ruleSize), (3484, m_isAskedn27), (3485, m_askedHorsen28), (3486, m_askedFencen29), (3487, m_askedLettern30), (3488, m_askedHeightn31)], [(56, m_kind), (57, m_height), (58, m_feet), (59, m_stride), (60, m_scope), (61, m_care), (62, m_plan), (69, m_rule)], [(65, m_row)])) dX12_built_88 ML_X12_425 Ys_J6_bitCount_0f7a4 rfl (t_J6_bitCount_0f7a4 l _ hcl) (zsub_i zle_n zle_n zle_n) rfl (Nat.le_of_ble_eq_true rfl) (Nat.le_of_ble_eq_true rfl) rfl rfl ?_
            refine zJ_istore (ls' := [(9, .int rn32), (0, .ref 54), (1, .int p1), (2, .int p2), (3, .int p3), (4, .int v4_71), (5, .int v5_71), (6, .int v6_71), (7, .int v7_59), (8, .int v8_71)]) dX12_built_91 rfl rfl rfl ?_
            refine zJ_iload dX12_built_93 rfl rfl ?_
            refine zJ_iload_n dX12_built_95 rfl rfl ?_
            refine zJ_isub dX12_built_96 rfl ?_
            refine zJ_mabs (mi := mX12_built) dX12_built_97 L_X12_430 K_abs_s K_math K_abs_c (Nat.le_of_ble_eq_true rfl) (Nat.le_of_ble_eq_true rfl) rfl ?_
            refine zJ_iload dX12_built_100 rfl rfl ?_
            refine zJ_iload_n dX12_built_102 rfl rfl ?_
            refine zJ_isub dX12_built_103 rfl ?_
            refine zJ_mabs (mi := mX12_built) dX12_built_104 L_X12_430 K_abs_s K_math K_abs_c (Nat.le_of_ble_eq_true rfl) (Nat.le_of_ble_eq_true rfl) rfl ?_
            refine zJ_icmp_lt (tgt := 113) dX12_built_107 (by decide) rfl (fun hc => ?_) (fun hc => ?_)
            · replace h := it_t hc h
              refine zJ_iload dX12_built_113 rfl rfl ?_
              refine zJ_istore (ls' := [(4, .int v7_59), (9, .int rn32), (0, .ref 54), (1, .int p1), (2, .int p2), (3, .int p3), (5, .int v5_71), (6, .int v6_71), (7, .int v7_59), (8, .int v8_71)]) dX12_built_115 rfl rfl rfl ?_
              refine zJ_iload dX12_built_117 rfl rfl ?_
              refine zJ_istore (ls' := [(5, .int v8_71), (4, .int v7_59), (9, .int rn32), (0, .ref 54), (1, .int p1), (2, .int p2), (3, .int p3), (6, .int v6_71), (7, .int v7_59), (8, .int v8_71)]) dX12_built_119 rfl rfl rfl ?_
              refine zJ_iload dX12_built_121 rfl rfl ?_
              refine zJ_istore (ls' := [(6, .int rn32), (5, .int v8_71), (4, .int v7_59), (9, .int rn32), (0, .ref 54), (1, .int p1), (2, .int p2), (3, .int p3), (7, .int v7_59), (8, .int v8_71)]) dX12_built_123 rfl rfl rfl ?_
              obtain ⟨v8n33, ev8n33, h⟩ := lt1_some h
              refine zJ_iincN (ls' := [(8, .int v8n33), (6, .int rn32), (5, .int v8_71), (4, .int v7_59), (9, .int rn32), (0, .ref 54), (1, .int p1), (2, .int p2), (3, .int p3), (7, .int v7_59)]) dX12_built_125 rfl rfl zc_1 ev8n33 rfl rfl ?_
              refine zJ_goto (tgt := 71) dX12_built_128 (by decide) ?_
              refine zJ_loc (ls' := [(0, .ref 54), (1, .int p1), (2, .int p2), (3, .int p3), (4, .int v7_59), (5, .int v8_71), (6, .int rn32), (7, .int v7_59), (8, .int v8n33)]) (zll_c rfl (zll_c rfl (zll_c rfl (zll_c rfl (zll_c rfl (zll_c rfl (zll_c rfl (zll_c rfl (zll_c rfl zll_n))))))))) ?_
              exact hrc71 _ _ _ _ _ _ _ _ _ _ _ _ _ _ h
            · replace h := it_f hc h
              refine zJ_goto (tgt := 125) dX12_built_110 (by decide) ?_
              obtain ⟨v8n34, ev8n34, h⟩ := lt1_some h
              refine zJ_iincN (ls' := [(8, .int v8n34), (9, .int rn32), (0, .ref 54), (1, .int p1), (2, .int p2), (3, .int p3), (4, .int v4_71), (5, .int v5_71), (6, .int v6_71), (7, .int v7_59)]) dX12_built_125 rfl rfl zc_1 ev8n34 rfl rfl ?_
              refine zJ_goto (tgt := 71) dX12_built_128 (by decide) ?_
              refine zJ_loc (ls' := [(0, .ref 54), (1, .int p1), (2, .int p2), (3, .int p3), (4, .int v4_71), (5, .int v5_71), (6, .int v6_71), (7, .int v7_59), (8, .int v8n34)]) (zll_c rfl (zll_c rfl (zll_c rfl (zll_c rfl (zll_c rfl (zll_c rfl (zll_c rfl (zll_c rfl (zll_c rfl zll_n))))))))) ?_
              exact hrc71 _ _ _ _ _ _ _ _ _ _ _ _ _ _ h
      · replace h := it_t hc h
        refine zJ_bipush dX12_built_34 zb_m2 rfl ?_
        obtain ⟨rfl, rfl, rfl, rfl, rfl, rfl, rfl, rfl, rfl, rfl, rfl, rfl, rfl, rfl⟩ := so14 h
        exact zJ_iret dX12_built_36 rfl rfl
set_option maxRecDepth 100000 in
set_option maxHeartbeats 4000000 in
theorem t_X12_buy (l : Launch) (σ : zS) {m_fences : Int32} {m_allowed : Int32} {m_horses : Int32} {m_plans : Int32} {m_rowMany : Int32} {m_thrown : Int32} {m_read : Int32} {m_length : Int32} {m_top : Int32} {m_at : Int32} {m_wrong : Int32} {m_ruleSize : Int32} {m_isAsked : Int32} {m_askedHorse : Int32} {m_askedFence : Int32} {m_askedLetter : Int32} {m_askedHeight : Int32} {m_now : (Nat → Int32)} {m_kind : (Nat → Int32)} {m_height : (Nat → Int32)} {m_feet : (Nat → Int32)} {m_stride : (Nat → Int32)} {m_scope : (Nat → Int32)} {m_care : (Nat → Int32)} {m_plan : (Nat → Int32)} {m_money : (Nat → Int32)} {m_rule : (Nat → Int32)} {m_row : (Nat → Int64)} {r : Int32} {w_m_rowMany : Int32} {w_m_thrown : Int32} {w_m_read : Int32} {w_m_length : Int32} {w_m_top : Int32} {w_m_at : Int32} {w_m_wrong : Int32} {w_m_isAsked : Int32} {w_m_askedHorse : Int32} {w_m_askedFence : Int32} {w_m_askedLetter : Int32} {w_m_askedHeight : Int32} {w_m_row : (Nat → Int64)} (h : f_X12_buy m_fences m_allowed m_horses m_plans m_rowMany m_thrown m_read m_length m_top m_at m_wrong m_ruleSize m_isAsked m_askedHorse m_askedFence m_askedLetter m_askedHeight m_now m_kind m_height m_feet m_stride m_scope m_care m_plan m_money m_rule m_row = some (r, w_m_rowMany, w_m_thrown, w_m_read, w_m_length, w_m_top, w_m_at, w_m_wrong, w_m_isAsked, w_m_askedHorse, w_m_askedFence, w_m_askedLetter, w_m_askedHeight, w_m_row)) : zMt l zW 210 mX12_buy σ ([(3457, m_fences), (3461, m_allowed), (3462, m_horses), (3466, m_plans), (3472, m_rowMany), (3473, m_thrown), (3474, m_read), (3475, m_length), (3476, m_top), (3477, m_at), (3478, m_wrong), (3483, m_ruleSize), (3484, m_isAsked), (3485, m_askedHorse), (3486, m_askedFence), (3487, m_askedLetter), (3488, m_askedHeight)], [(55, m_now), (56, m_kind), (57, m_height), (58, m_feet), (59, m_stride), (60, m_scope), (61, m_care), (62, m_plan), (63, m_money), (69, m_rule)], [(65, m_row)]) [.ref 54] (some (.int r)) ([(3457, m_fences), (3461, m_allowed), (3462, m_horses), (3466, m_plans), (3472, w_m_rowMany), (3473, w_m_thrown), (3474, w_m_read), (3475, w_m_length), (3476, w_m_top), (3477, w_m_at), (3478, w_m_wrong), (3483, m_ruleSize), (3484, w_m_isAsked), (3485, w_m_askedHorse), (3486, w_m_askedFence), (3487, w_m_askedLetter), (3488, w_m_askedHeight)], [(55, m_now), (56, m_kind), (57, m_height), (58, m_feet), (59, m_stride), (60, m_scope), (61, m_care), (62, m_plan), (63, m_money), (69, m_rule)], [(65, w_m_row)]) := by
  refine zMt_of (ls := [(0, .ref 54)]) (by decide) rfl (fun _ => Nat.le_of_ble_eq_true rfl) rfl ?_
  unfold f_X12_buy at h
  refine zJ_aload_n dX12_buy_0 rfl rfl ?_
  refine zJ_iconst dX12_buy_1 zc_0 rfl ?_
  refine zK_puti (mi := mX12_buy) (la' := [(3457, m_fences), (3461, m_allowed), (3462, m_horses), (3466, m_plans), (3472, m_rowMany), (3473, (0 : Int32)), (3474, m_read), (3475, m_length), (3476, m_top), (3477, m_at), (3478, m_wrong), (3483, m_ruleSize), (3484, m_isAsked), (3485, m_askedHorse), (3486, m_askedFence), (3487, m_askedLetter), (3488, m_askedHeight)]) zW_ok dX12_buy_2 F_X12_113 P_12_17 zW_54 rfl rfl rfl ?_
  refine zJ_aload_n dX12_buy_5 rfl rfl ?_
  refine zJ_geti (mi := mX12_buy) (x := m_horses) dX12_buy_6 F_X12_126 zW_54 rfl rfl rfl ?_
  refine zJ_if_eq (tgt := 19) dX12_buy_9 (by decide) rfl (fun hc => ?_) (fun hc => ?_)
  · replace h := it_t hc h
    refine zJ_bipush dX12_buy_19 zb_m2 rfl ?_
    obtain ⟨rfl, rfl, rfl, rfl, rfl, rfl, rfl, rfl, rfl, rfl, rfl, rfl, rfl, rfl⟩ := so14 h
    exact zJ_iret dX12_buy_21 rfl rfl
  · replace h := it_f hc h
    refine zJ_aload_n dX12_buy_12 rfl rfl ?_
    refine zJ_geti (mi := mX12_buy) (x := m_plans) dX12_buy_13 F_X12_129 zW_54 rfl rfl rfl ?_
    refine zJ_if_ne (tgt := 22) dX12_buy_16 (by decide) rfl (fun hc => ?_) (fun hc => ?_)
    · replace h := it_f hc h
      refine zJ_iconst dX12_buy_22 zc_m1 rfl ?_
      refine zJ_istore_n (ls' := [(1, .int (-1 : Int32)), (0, .ref 54)]) dX12_buy_23 rfl rfl rfl ?_
      refine zJ_iconst dX12_buy_24 zc_m1 rfl ?_
      refine zJ_istore_n (ls' := [(2, .int (-1 : Int32)), (1, .int (-1 : Int32)), (0, .ref 54)]) dX12_buy_25 rfl rfl rfl ?_
      refine zJ_iconst dX12_buy_26 zc_m1 rfl ?_
      refine zJ_istore_n (ls' := [(3, .int (-1 : Int32)), (2, .int (-1 : Int32)), (1, .int (-1 : Int32)), (0, .ref 54)]) dX12_buy_27 rfl rfl rfl ?_
      refine zJ_iconst dX12_buy_28 zc_0 rfl ?_
      refine zJ_istore (ls' := [(4, .int (0 : Int32)), (3, .int (-1 : Int32)), (2, .int (-1 : Int32)), (1, .int (-1 : Int32)), (0, .ref 54)]) dX12_buy_29 rfl rfl rfl ?_
      have hk31 : ∀ (v1_31x : Int32) (v2_31x : Int32) (v3_31x : Int32) (m_read_31x : Int32) (m_length_31x : Int32) (m_top_31x : Int32) (m_at_31x : Int32) (m_wrong_31x : Int32) (m_isAsked_31x : Int32) (m_askedHorse_31x : Int32) (m_askedFence_31x : Int32) (m_askedLetter_31x : Int32) (m_askedHeight_31x : Int32), k_X12_buy_31 m_fences m_allowed m_plans m_ruleSize m_now m_kind m_height m_feet m_stride m_scope m_care m_plan m_money m_rule m_row v1_31x v2_31x v3_31x m_read_31x m_length_31x m_top_31x m_at_31x m_wrong_31x m_isAsked_31x m_askedHorse_31x m_askedFence_31x m_askedLetter_31x m_askedHeight_31x = some (r, w_m_rowMany, w_m_thrown, w_m_read, w_m_length, w_m_top, w_m_at, w_m_wrong, w_m_isAsked, w_m_askedHorse, w_m_askedFence, w_m_askedLetter, w_m_askedHeight, w_m_row) → zJ l zW 210 mX12_buy σ ([(3457, m_fences), (3461, m_allowed), (3462, m_horses), (3466, m_plans), (3472, m_rowMany), (3473, (0 : Int32)), (3474, m_read_31x), (3475, m_length_31x), (3476, m_top_31x), (3477, m_at_31x), (3478, m_wrong_31x), (3483, m_ruleSize), (3484, m_isAsked_31x), (3485, m_askedHorse_31x), (3486, m_askedFence_31x), (3487, m_askedLetter_31x), (3488, m_askedHeight_31x)], [(55, m_now), (56, m_kind), (57, m_height), (58, m_feet), (59, m_stride), (60, m_scope), (61, m_care), (62, m_plan), (63, m_money), (69, m_rule)], [(65, m_row)]) 84 [(0, .ref 54), (1, .int v1_31x), (2, .int v2_31x), (3, .int v3_31x)] [] (some (.int r)) ([(3457, m_fences), (3461, m_allowed), (3462, m_horses), (3466, m_plans), (3472, w_m_rowMany), (3473, w_m_thrown), (3474, w_m_read), (3475, w_m_length), (3476, w_m_top), (3477, w_m_at), (3478, w_m_wrong), (3483, m_ruleSize), (3484, w_m_isAsked), (3485, w_m_askedHorse), (3486, w_m_askedFence), (3487, w_m_askedLetter), (3488, w_m_askedHeight)], [(55, m_now), (56, m_kind), (57, m_height), (58, m_feet), (59, m_stride), (60, m_scope), (61, m_care), (62, m_plan), (63, m_money), (69, m_rule)], [(65, w_m_row)]) := by
        intro v1_31x v2_31x v3_31x m_read_31x m_length_31x m_top_31x m_at_31x m_wrong_31x m_isAsked_31x m_askedHorse_31x m_askedFence_31x m_askedLetter_31x m_askedHeight_31x h
        unfold k_X12_buy_31 at h
        refine zJ_aload_n dX12_buy_84 rfl rfl ?_
        refine zJ_iconst dX12_buy_85 zc_0 rfl ?_
        refine zK_puti (mi := mX12_buy) (la' := [(3457, m_fences), (3461, m_allowed), (3462, m_horses), (3466, m_plans), (3472, (0 : Int32)), (3473, (0 : Int32)), (3474, m_read_31x), (3475, m_length_31x), (3476, m_top_31x), (3477, m_at_31x), (3478, m_wrong_31x), (3483, m_ruleSize), (3484, m_isAsked_31x), (3485, m_askedHorse_31x), (3486, m_askedFence_31x), (3487, m_askedLetter_31x), (3488, m_askedHeight_31x)]) zW_ok dX12_buy_86 F_X12_116 P_12_16 zW_54 rfl rfl rfl ?_
        refine zJ_aload_n dX12_buy_89 rfl rfl ?_
        refine zJ_iload_n dX12_buy_90 rfl rfl ?_
        refine zJ_i2l dX12_buy_91 rfl ?_
        obtain ⟨m_rowManyn1, m_rown2, hcl, h⟩ := bd2_some h
        refine zJ_callV (mi := mX12_buy) (yi := mX12_tell) (as := [.long v2_31x.toInt64]) (st := []) (L2 := ([(3457, m_fences), (3461, m_allowed), (3462, m_horses), (3466, m_plans), (3472, m_rowManyn1), (3473, (0 : Int32)), (3474, m_read_31x), (3475, m_length_31x), (3476, m_top_31x), (3477, m_at_31x), (3478, m_wrong_31x), (3483, m_ruleSize), (3484, m_isAsked_31x), (3485, m_askedHorse_31x), (3486, m_askedFence_31x), (3487, m_askedLetter_31x), (3488, m_askedHeight_31x)], [(55, m_now), (56, m_kind), (57, m_height), (58, m_feet), (59, m_stride), (60, m_scope), (61, m_care), (62, m_plan), (63, m_money), (69, m_rule)], [(65, m_rown2)])) dX12_buy_92 ML_X12_265 Yv_X12_tell rfl zW_54 rfl rfl (t_X12_tell l _ hcl) (zsub_i (zle_c rfl zle_n) zle_n (zle_c rfl zle_n)) rfl (Nat.le_of_ble_eq_true rfl) (Nat.le_of_ble_eq_true rfl) rfl rfl ?_
        refine zJ_aload_n dX12_buy_95 rfl rfl ?_
        refine zJ_aload_n dX12_buy_96 rfl rfl ?_
        refine zJ_iload_n dX12_buy_97 rfl rfl ?_
        obtain ⟨rn3, m_readn4, m_lengthn5, m_topn6, m_atn7, m_wrongn8, m_isAskedn9, m_askedHorsen10, m_askedFencen11, m_askedLettern12, m_askedHeightn13, hcl, h⟩ := bd11_some h
        refine zJ_callV (mi := mX12_buy) (yi := mX12_bestPlan) (as := [.int v1_31x]) (st := [.ref 54]) (L2 := ([(3457, m_fences), (3461, m_allowed), (3462, m_horses), (3466, m_plans), (3472, m_rowManyn1), (3473, (0 : Int32)), (3474, m_readn4), (3475, m_lengthn5), (3476, m_topn6), (3477, m_atn7), (3478, m_wrongn8), (3483, m_ruleSize), (3484, m_isAskedn9), (3485, m_askedHorsen10), (3486, m_askedFencen11), (3487, m_askedLettern12), (3488, m_askedHeightn13)], [(55, m_now), (56, m_kind), (57, m_height), (58, m_feet), (59, m_stride), (60, m_scope), (61, m_care), (62, m_plan), (63, m_money), (69, m_rule)], [(65, m_rown2)])) dX12_buy_98 ML_X12_379 Yv_X12_bestPlan rfl zW_54 rfl rfl (t_X12_bestPlan l _ hcl) (zsub_i (zle_c rfl (zle_c rfl (zle_c rfl (zle_c rfl (zle_c rfl (zle_c rfl (zle_c rfl (zle_c rfl (zle_c rfl (zle_c rfl (zle_c rfl (zle_c rfl (zle_c rfl (zle_c rfl zle_n)))))))))))))) (zle_c rfl (zle_c rfl (zle_c rfl (zle_c rfl (zle_c rfl (zle_c rfl (zle_c rfl (zle_c rfl (zle_c rfl (zle_c rfl zle_n)))))))))) zle_n) rfl (Nat.le_of_ble_eq_true rfl) (Nat.le_of_ble_eq_true rfl) rfl rfl ?_
        refine zJ_i2l dX12_buy_101 rfl ?_
        obtain ⟨m_rowManyn14, m_rown15, hcl, h⟩ := bd2_some h
        refine zJ_callV (mi := mX12_buy) (yi := mX12_tell) (as := [.long rn3.toInt64]) (st := []) (L2 := ([(3457, m_fences), (3461, m_allowed), (3462, m_horses), (3466, m_plans), (3472, m_rowManyn14), (3473, (0 : Int32)), (3474, m_readn4), (3475, m_lengthn5), (3476, m_topn6), (3477, m_atn7), (3478, m_wrongn8), (3483, m_ruleSize), (3484, m_isAskedn9), (3485, m_askedHorsen10), (3486, m_askedFencen11), (3487, m_askedLettern12), (3488, m_askedHeightn13)], [(55, m_now), (56, m_kind), (57, m_height), (58, m_feet), (59, m_stride), (60, m_scope), (61, m_care), (62, m_plan), (63, m_money), (69, m_rule)], [(65, m_rown15)])) dX12_buy_102 ML_X12_265 Yv_X12_tell rfl zW_54 rfl rfl (t_X12_tell l _ hcl) (zsub_i (zle_c rfl zle_n) zle_n (zle_c rfl zle_n)) rfl (Nat.le_of_ble_eq_true rfl) (Nat.le_of_ble_eq_true rfl) rfl rfl ?_
        refine zJ_aload_n dX12_buy_105 rfl rfl ?_
        refine zJ_iload_n dX12_buy_106 rfl rfl ?_
        refine zJ_i2l dX12_buy_107 rfl ?_
        obtain ⟨m_rowManyn16, m_rown17, hcl, h⟩ := bd2_some h
        refine zJ_callV (mi := mX12_buy) (yi := mX12_tell) (as := [.long v3_31x.toInt64]) (st := []) (L2 := ([(3457, m_fences), (3461, m_allowed), (3462, m_horses), (3466, m_plans), (3472, m_rowManyn16), (3473, (0 : Int32)), (3474, m_readn4), (3475, m_lengthn5), (3476, m_topn6), (3477, m_atn7), (3478, m_wrongn8), (3483, m_ruleSize), (3484, m_isAskedn9), (3485, m_askedHorsen10), (3486, m_askedFencen11), (3487, m_askedLettern12), (3488, m_askedHeightn13)], [(55, m_now), (56, m_kind), (57, m_height), (58, m_feet), (59, m_stride), (60, m_scope), (61, m_care), (62, m_plan), (63, m_money), (69, m_rule)], [(65, m_rown17)])) dX12_buy_108 ML_X12_265 Yv_X12_tell rfl zW_54 rfl rfl (t_X12_tell l _ hcl) (zsub_i (zle_c rfl zle_n) zle_n (zle_c rfl zle_n)) rfl (Nat.le_of_ble_eq_true rfl) (Nat.le_of_ble_eq_true rfl) rfl rfl ?_
        refine zJ_iload_n dX12_buy_111 rfl rfl ?_
        obtain ⟨rfl, rfl, rfl, rfl, rfl, rfl, rfl, rfl, rfl, rfl, rfl, rfl, rfl, rfl⟩ := so14 h
        exact zJ_iret dX12_buy_112 rfl rfl
      refine zJ_loc (ls' := [(0, .ref 54), (1, .int (-1 : Int32)), (2, .int (-1 : Int32)), (3, .int (-1 : Int32)), (4, .int (0 : Int32))]) (zll_c rfl (zll_c rfl (zll_c rfl (zll_c rfl (zll_c rfl zll_n))))) ?_
      refine ml14_J (fun (v1_31 : Int32) (v2_31 : Int32) (v3_31 : Int32) (v4_31 : Int32) (m_read_31 : Int32) (m_length_31 : Int32) (m_top_31 : Int32) (m_at_31 : Int32) (m_wrong_31 : Int32) (m_isAsked_31 : Int32) (m_askedHorse_31 : Int32) (m_askedFence_31 : Int32) (m_askedLetter_31 : Int32) (m_askedHeight_31 : Int32) => zJ l zW 210 mX12_buy σ ([(3457, m_fences), (3461, m_allowed), (3462, m_horses), (3466, m_plans), (3472, m_rowMany), (3473, (0 : Int32)), (3474, m_read_31), (3475, m_length_31), (3476, m_top_31), (3477, m_at_31), (3478, m_wrong_31), (3483, m_ruleSize), (3484, m_isAsked_31), (3485, m_askedHorse_31), (3486, m_askedFence_31), (3487, m_askedLetter_31), (3488, m_askedHeight_31)], [(55, m_now), (56, m_kind), (57, m_height), (58, m_feet), (59, m_stride), (60, m_scope), (61, m_care), (62, m_plan), (63, m_money), (69, m_rule)], [(65, m_row)]) 31 [(0, .ref 54), (1, .int v1_31), (2, .int v2_31), (3, .int v3_31), (4, .int v4_31)] [] (some (.int r)) ([(3457, m_fences), (3461, m_allowed), (3462, m_horses), (3466, m_plans), (3472, w_m_rowMany), (3473, w_m_thrown), (3474, w_m_read), (3475, w_m_length), (3476, w_m_top), (3477, w_m_at), (3478, w_m_wrong), (3483, m_ruleSize), (3484, w_m_isAsked), (3485, w_m_askedHorse), (3486, w_m_askedFence), (3487, w_m_askedLetter), (3488, w_m_askedHeight)], [(55, m_now), (56, m_kind), (57, m_height), (58, m_feet), (59, m_stride), (60, m_scope), (61, m_care), (62, m_plan), (63, m_money), (69, m_rule)], [(65, w_m_row)])) (fun rc31 hrc31 v1_31 v2_31 v3_31 v4_31 m_read_31 m_length_31 m_top_31 m_at_31 m_wrong_31 m_isAsked_31 m_askedHorse_31 m_askedFence_31 m_askedLetter_31 m_askedHeight_31 h => ?_) zN _ _ _ _ _ _ _ _ _ _ _ _ _ _ h
      unfold s_X12_buy_31 at h
      refine zJ_iload dX12_buy_31 rfl rfl ?_
      refine zJ_aload_n dX12_buy_33 rfl rfl ?_
      refine zJ_geti (mi := mX12_buy) (x := m_horses) dX12_buy_34 F_X12_126 zW_54 rfl rfl rfl ?_
      refine zJ_icmp_ge (tgt := 84) dX12_buy_37 (by decide) rfl (fun hc => ?_) (fun hc => ?_)
      · replace h := it_t hc h
        refine zJ_loc (ls' := [(0, .ref 54), (1, .int v1_31), (2, .int v2_31), (3, .int v3_31)]) (zll_c rfl (zll_c rfl (zll_c rfl (zll_c rfl zll_n)))) ?_
        exact hk31 _ _ _ _ _ _ _ _ _ _ _ _ _ h
      · replace h := it_f hc h
        refine zJ_aload_n dX12_buy_40 rfl rfl ?_
        refine zJ_iload dX12_buy_41 rfl rfl ?_
        refine zJ_aload_n dX12_buy_43 rfl rfl ?_
        refine zJ_iload dX12_buy_44 rfl rfl ?_
        obtain ⟨rn18, m_readn19, m_lengthn20, m_topn21, m_atn22, m_wrongn23, m_isAskedn24, m_askedHorsen25, m_askedFencen26, m_askedLettern27, m_askedHeightn28, hcl, h⟩ := bd11_some h
        refine zJ_callV (mi := mX12_buy) (yi := mX12_bestPlan) (as := [.int v4_31]) (st := [.int v4_31, .ref 54]) (L2 := ([(3457, m_fences), (3461, m_allowed), (3462, m_horses), (3466, m_plans), (3472, m_rowMany), (3473, (0 : Int32)), (3474, m_readn19), (3475, m_lengthn20), (3476, m_topn21), (3477, m_atn22), (3478, m_wrongn23), (3483, m_ruleSize), (3484, m_isAskedn24), (3485, m_askedHorsen25), (3486, m_askedFencen26), (3487, m_askedLettern27), (3488, m_askedHeightn28)], [(55, m_now), (56, m_kind), (57, m_height), (58, m_feet), (59, m_stride), (60, m_scope), (61, m_care), (62, m_plan), (63, m_money), (69, m_rule)], [(65, m_row)])) dX12_buy_46 ML_X12_379 Yv_X12_bestPlan rfl zW_54 rfl rfl (t_X12_bestPlan l _ hcl) (zsub_i (zle_c rfl (zle_c rfl (zle_c rfl (zle_c rfl (zle_c rfl (zle_c rfl (zle_c rfl (zle_c rfl (zle_c rfl (zle_c rfl (zle_c rfl (zle_c rfl (zle_c rfl (zle_c rfl zle_n)))))))))))))) (zle_c rfl (zle_c rfl (zle_c rfl (zle_c rfl (zle_c rfl (zle_c rfl (zle_c rfl (zle_c rfl (zle_c rfl (zle_c rfl zle_n)))))))))) zle_n) rfl (Nat.le_of_ble_eq_true rfl) (Nat.le_of_ble_eq_true rfl) rfl rfl ?_
        obtain ⟨rn29, m_readn30, m_lengthn31, m_topn32, m_atn33, m_wrongn34, m_isAskedn35, m_askedHorsen36, m_askedFencen37, m_askedLettern38, m_askedHeightn39, hcl, h⟩ := bd11_some h
        refine zJ_callV (mi := mX12_buy) (yi := mX12_meanOf) (as := [.int v4_31, .int rn18]) (st := []) (L2 := ([(3457, m_fences), (3461, m_allowed), (3462, m_horses), (3466, m_plans), (3472, m_rowMany), (3473, (0 : Int32)), (3474, m_readn30), (3475, m_lengthn31), (3476, m_topn32), (3477, m_atn33), (3478, m_wrongn34), (3483, m_ruleSize), (3484, m_isAskedn35), (3485, m_askedHorsen36), (3486, m_askedFencen37), (3487, m_askedLettern38), (3488, m_askedHeightn39)], [(55, m_now), (56, m_kind), (57, m_height), (58, m_feet), (59, m_stride), (60, m_scope), (61, m_care), (62, m_plan), (63, m_money), (69, m_rule)], [(65, m_row)])) dX12_buy_49 ML_X12_376 Yv_X12_meanOf rfl zW_54 rfl rfl (t_X12_meanOf l _ hcl) (zsub_i (zle_c rfl (zle_c rfl (zle_c rfl (zle_c rfl (zle_c rfl (zle_c rfl (zle_c rfl (zle_c rfl (zle_c rfl (zle_c rfl (zle_c rfl (zle_c rfl (zle_c rfl zle_n))))))))))))) (zle_c rfl (zle_c rfl (zle_c rfl (zle_c rfl (zle_c rfl (zle_c rfl (zle_c rfl (zle_c rfl (zle_c rfl (zle_c rfl zle_n)))))))))) zle_n) rfl (Nat.le_of_ble_eq_true rfl) (Nat.le_of_ble_eq_true rfl) rfl rfl ?_
        refine zJ_istore (ls' := [(5, .int rn29), (0, .ref 54), (1, .int v1_31), (2, .int v2_31), (3, .int v3_31), (4, .int v4_31)]) dX12_buy_52 rfl rfl rfl ?_
        refine zJ_iload dX12_buy_54 rfl rfl ?_
        refine zJ_iload_n dX12_buy_56 rfl rfl ?_
        refine zJ_icmp_le (tgt := 71) dX12_buy_57 (by decide) rfl (fun hc => ?_) (fun hc => ?_)
        · replace h := it_t hc h
          refine zJ_iload_n dX12_buy_71 rfl rfl ?_
          refine zJ_iload dX12_buy_72 rfl rfl ?_
          refine zJ_mmax (mi := mX12_buy) dX12_buy_74 L_X12_243 K_max_s K_math K_max_c (Nat.le_of_ble_eq_true rfl) (Nat.le_of_ble_eq_true rfl) rfl ?_
          obtain ⟨v3n40, ev3n40, h⟩ := lt1_some h
          refine zJ_nmi ev3n40 ?_
          refine zJ_istore_n (ls' := [(3, .int v3n40), (5, .int rn29), (0, .ref 54), (1, .int v1_31), (2, .int v2_31), (4, .int v4_31)]) dX12_buy_77 rfl rfl rfl ?_
          obtain ⟨v4n41, ev4n41, h⟩ := lt1_some h
          refine zJ_iincN (ls' := [(4, .int v4n41), (3, .int v3n40), (5, .int rn29), (0, .ref 54), (1, .int v1_31), (2, .int v2_31)]) dX12_buy_78 rfl rfl zc_1 ev4n41 rfl rfl ?_
          refine zJ_goto (tgt := 31) dX12_buy_81 (by decide) ?_
          refine zJ_loc (ls' := [(0, .ref 54), (1, .int v1_31), (2, .int v2_31), (3, .int v3n40), (4, .int v4n41)]) (zll_c rfl (zll_c rfl (zll_c rfl (zll_c rfl (zll_c rfl zll_n))))) ?_
          exact hrc31 _ _ _ _ _ _ _ _ _ _ _ _ _ _ h
        · replace h := it_f hc h
          refine zJ_iload_n dX12_buy_60 rfl rfl ?_
          refine zJ_istore_n (ls' := [(3, .int v2_31), (5, .int rn29), (0, .ref 54), (1, .int v1_31), (2, .int v2_31), (4, .int v4_31)]) dX12_buy_61 rfl rfl rfl ?_
          refine zJ_iload dX12_buy_62 rfl rfl ?_
          refine zJ_istore_n (ls' := [(2, .int rn29), (3, .int v2_31), (5, .int rn29), (0, .ref 54), (1, .int v1_31), (4, .int v4_31)]) dX12_buy_64 rfl rfl rfl ?_
          refine zJ_iload dX12_buy_65 rfl rfl ?_
          refine zJ_istore_n (ls' := [(1, .int v4_31), (2, .int rn29), (3, .int v2_31), (5, .int rn29), (0, .ref 54), (4, .int v4_31)]) dX12_buy_67 rfl rfl rfl ?_
          refine zJ_goto (tgt := 78) dX12_buy_68 (by decide) ?_
          obtain ⟨v4n42, ev4n42, h⟩ := lt1_some h
          refine zJ_iincN (ls' := [(4, .int v4n42), (1, .int v4_31), (2, .int rn29), (3, .int v2_31), (5, .int rn29), (0, .ref 54)]) dX12_buy_78 rfl rfl zc_1 ev4n42 rfl rfl ?_
          refine zJ_goto (tgt := 31) dX12_buy_81 (by decide) ?_
          refine zJ_loc (ls' := [(0, .ref 54), (1, .int v4_31), (2, .int rn29), (3, .int v2_31), (4, .int v4n42)]) (zll_c rfl (zll_c rfl (zll_c rfl (zll_c rfl (zll_c rfl zll_n))))) ?_
          exact hrc31 _ _ _ _ _ _ _ _ _ _ _ _ _ _ h
    · replace h := it_t hc h
      refine zJ_bipush dX12_buy_19 zb_m2 rfl ?_
      obtain ⟨rfl, rfl, rfl, rfl, rfl, rfl, rfl, rfl, rfl, rfl, rfl, rfl, rfl, rfl⟩ := so14 h
      exact zJ_iret dX12_buy_21 rfl rfl
set_option maxRecDepth 100000 in
set_option maxHeartbeats 4000000 in
theorem t_X12_isFence (l : Launch) (σ : zS) {p1 : Int32} {m_fences : Int32} {r : Int32} (h : f_X12_isFence p1 m_fences = some r) : zMt l zW 1 mX12_isFence σ ([(3457, m_fences)], [], []) [.ref 54, .int p1] (some (.int r)) ([(3457, m_fences)], [], []) := by
  refine zMt_of (ls := [(0, .ref 54), (1, .int p1)]) (by decide) rfl (fun _ => Nat.le_of_ble_eq_true rfl) rfl ?_
  unfold f_X12_isFence at h
  refine zJ_iload_n dX12_isFence_0 rfl rfl ?_
  refine zJ_iconst dX12_isFence_1 zc_0 rfl ?_
  refine zJ_aload_n dX12_isFence_2 rfl rfl ?_
  refine zJ_geti (mi := mX12_isFence) (x := m_fences) dX12_isFence_3 F_X12_119 zW_54 rfl rfl rfl ?_
  refine zJ_iconst dX12_isFence_6 zc_1 rfl ?_
  refine zJ_isub dX12_isFence_7 rfl ?_
  obtain ⟨rn1, hcl, h⟩ := bd1_some h
  refine zJ_callS (mi := mX12_isFence) (yi := mX12_in) (as := [.int p1, .int (0 : Int32), .int (m_fences - (1 : Int32))]) (st := []) (L2 := ([(3457, m_fences)], [], [])) dX12_isFence_8 ML_X12_122 Ys_X12_in rfl (t_X12_in l _ hcl) (zsub_i zle_n zle_n zle_n) rfl (Nat.le_of_ble_eq_true rfl) (Nat.le_of_ble_eq_true rfl) rfl rfl ?_
  obtain ⟨hg, h⟩ := gd_some h
  obtain rfl := so1 h
  exact zJ_iret dX12_isFence_11 rfl (bit_n hg)
set_option maxRecDepth 100000 in
set_option maxHeartbeats 4000000 in
theorem t_X12_calm (l : Launch) (σ : zS) {p1 : Int32} {p2 : Int32} {m_fences : Int32} {m_horses : Int32} {m_rowMany : Int32} {m_thrown : Int32} {m_read : Int32} {m_length : Int32} {m_top : Int32} {m_at : Int32} {m_wrong : Int32} {m_ruleSize : Int32} {m_isAsked : Int32} {m_askedHorse : Int32} {m_askedFence : Int32} {m_askedLetter : Int32} {m_askedHeight : Int32} {m_kind : (Nat → Int32)} {m_height : (Nat → Int32)} {m_feet : (Nat → Int32)} {m_stride : (Nat → Int32)} {m_scope : (Nat → Int32)} {m_care : (Nat → Int32)} {m_rule : (Nat → Int32)} {m_row : (Nat → Int64)} {r : Int32} {w_m_rowMany : Int32} {w_m_thrown : Int32} {w_m_read : Int32} {w_m_length : Int32} {w_m_top : Int32} {w_m_at : Int32} {w_m_wrong : Int32} {w_m_isAsked : Int32} {w_m_askedHorse : Int32} {w_m_askedFence : Int32} {w_m_askedLetter : Int32} {w_m_askedHeight : Int32} {w_m_row : (Nat → Int64)} (h : f_X12_calm p1 p2 m_fences m_horses m_rowMany m_thrown m_read m_length m_top m_at m_wrong m_ruleSize m_isAsked m_askedHorse m_askedFence m_askedLetter m_askedHeight m_kind m_height m_feet m_stride m_scope m_care m_rule m_row = some (r, w_m_rowMany, w_m_thrown, w_m_read, w_m_length, w_m_top, w_m_at, w_m_wrong, w_m_isAsked, w_m_askedHorse, w_m_askedFence, w_m_askedLetter, w_m_askedHeight, w_m_row)) : zMt l zW 207 mX12_calm σ ([(3457, m_fences), (3462, m_horses), (3472, m_rowMany), (3473, m_thrown), (3474, m_read), (3475, m_length), (3476, m_top), (3477, m_at), (3478, m_wrong), (3483, m_ruleSize), (3484, m_isAsked), (3485, m_askedHorse), (3486, m_askedFence), (3487, m_askedLetter), (3488, m_askedHeight)], [(56, m_kind), (57, m_height), (58, m_feet), (59, m_stride), (60, m_scope), (61, m_care), (69, m_rule)], [(65, m_row)]) [.ref 54, .int p1, .int p2] (some (.int r)) ([(3457, m_fences), (3462, m_horses), (3472, w_m_rowMany), (3473, w_m_thrown), (3474, w_m_read), (3475, w_m_length), (3476, w_m_top), (3477, w_m_at), (3478, w_m_wrong), (3483, m_ruleSize), (3484, w_m_isAsked), (3485, w_m_askedHorse), (3486, w_m_askedFence), (3487, w_m_askedLetter), (3488, w_m_askedHeight)], [(56, m_kind), (57, m_height), (58, m_feet), (59, m_stride), (60, m_scope), (61, m_care), (69, m_rule)], [(65, w_m_row)]) := by
  refine zMt_of (ls := [(0, .ref 54), (1, .int p1), (2, .int p2)]) (by decide) rfl (fun _ => Nat.le_of_ble_eq_true rfl) rfl ?_
  unfold f_X12_calm at h
  refine zJ_aload_n dX12_calm_0 rfl rfl ?_
  refine zJ_iconst dX12_calm_1 zc_0 rfl ?_
  refine zK_puti (mi := mX12_calm) (la' := [(3457, m_fences), (3462, m_horses), (3472, m_rowMany), (3473, (0 : Int32)), (3474, m_read), (3475, m_length), (3476, m_top), (3477, m_at), (3478, m_wrong), (3483, m_ruleSize), (3484, m_isAsked), (3485, m_askedHorse), (3486, m_askedFence), (3487, m_askedLetter), (3488, m_askedHeight)]) zW_ok dX12_calm_2 F_X12_113 P_12_17 zW_54 rfl rfl rfl ?_
  refine zJ_aload_n dX12_calm_5 rfl rfl ?_
  refine zJ_iload_n dX12_calm_6 rfl rfl ?_
  obtain ⟨rn1, hcl, h⟩ := bd1_some h
  refine zJ_callV (mi := mX12_calm) (yi := mX12_isHorse) (as := [.int p1]) (st := []) (L2 := ([(3457, m_fences), (3462, m_horses), (3472, m_rowMany), (3473, (0 : Int32)), (3474, m_read), (3475, m_length), (3476, m_top), (3477, m_at), (3478, m_wrong), (3483, m_ruleSize), (3484, m_isAsked), (3485, m_askedHorse), (3486, m_askedFence), (3487, m_askedLetter), (3488, m_askedHeight)], [(56, m_kind), (57, m_height), (58, m_feet), (59, m_stride), (60, m_scope), (61, m_care), (69, m_rule)], [(65, m_row)])) dX12_calm_7 ML_X12_132 Yv_X12_isHorse rfl zW_54 rfl rfl (t_X12_isHorse l _ hcl) (zsub_i (zle_c rfl zle_n) zle_n zle_n) rfl (Nat.le_of_ble_eq_true rfl) (Nat.le_of_ble_eq_true rfl) rfl rfl ?_
  refine zJ_if_eq (tgt := 21) dX12_calm_10 (by decide) rfl (fun hc => ?_) (fun hc => ?_)
  · replace h := it_t hc h
    refine zJ_iconst dX12_calm_21 zc_m1 rfl ?_
    obtain ⟨rfl, rfl, rfl, rfl, rfl, rfl, rfl, rfl, rfl, rfl, rfl, rfl, rfl, rfl⟩ := so14 h
    exact zJ_iret dX12_calm_22 rfl rfl
  · replace h := it_f hc h
    refine zJ_aload_n dX12_calm_13 rfl rfl ?_
    refine zJ_iload_n dX12_calm_14 rfl rfl ?_
    obtain ⟨rn2, hcl, h⟩ := bd1_some h
    refine zJ_callV (mi := mX12_calm) (yi := mX12_isFence) (as := [.int p2]) (st := []) (L2 := ([(3457, m_fences), (3462, m_horses), (3472, m_rowMany), (3473, (0 : Int32)), (3474, m_read), (3475, m_length), (3476, m_top), (3477, m_at), (3478, m_wrong), (3483, m_ruleSize), (3484, m_isAsked), (3485, m_askedHorse), (3486, m_askedFence), (3487, m_askedLetter), (3488, m_askedHeight)], [(56, m_kind), (57, m_height), (58, m_feet), (59, m_stride), (60, m_scope), (61, m_care), (69, m_rule)], [(65, m_row)])) dX12_calm_15 ML_X12_250 Yv_X12_isFence rfl zW_54 rfl rfl (t_X12_isFence l _ hcl) (zsub_i (zle_c rfl zle_n) zle_n zle_n) rfl (Nat.le_of_ble_eq_true rfl) (Nat.le_of_ble_eq_true rfl) rfl rfl ?_
    refine zJ_if_ne (tgt := 23) dX12_calm_18 (by decide) rfl (fun hc => ?_) (fun hc => ?_)
    · replace h := it_f hc h
      refine zJ_iconst dX12_calm_23 zc_0 rfl ?_
      refine zJ_istore_n (ls' := [(3, .int (0 : Int32)), (0, .ref 54), (1, .int p1), (2, .int p2)]) dX12_calm_24 rfl rfl rfl ?_
      refine zJ_ldc_w (v := 100000000) dX12_calm_25 C_X12_272 rfl ?_
      refine zJ_istore (ls' := [(4, .int (100000000 : Int32)), (3, .int (0 : Int32)), (0, .ref 54), (1, .int p1), (2, .int p2)]) dX12_calm_28 rfl rfl rfl ?_
      refine zJ_iconst dX12_calm_30 zc_0 rfl ?_
      refine zJ_istore (ls' := [(5, .int (0 : Int32)), (4, .int (100000000 : Int32)), (3, .int (0 : Int32)), (0, .ref 54), (1, .int p1), (2, .int p2)]) dX12_calm_31 rfl rfl rfl ?_
      have hk33 : ∀ (v3_33x : Int32) (v4_33x : Int32) (m_read_33x : Int32) (m_length_33x : Int32) (m_top_33x : Int32) (m_at_33x : Int32) (m_wrong_33x : Int32) (m_isAsked_33x : Int32) (m_askedHorse_33x : Int32) (m_askedFence_33x : Int32) (m_askedLetter_33x : Int32) (m_askedHeight_33x : Int32), k_X12_calm_33 p1 p2 m_kind m_feet m_stride m_care m_row v3_33x v4_33x m_read_33x m_length_33x m_top_33x m_at_33x m_wrong_33x m_isAsked_33x m_askedHorse_33x m_askedFence_33x m_askedLetter_33x m_askedHeight_33x = some (r, w_m_rowMany, w_m_thrown, w_m_read, w_m_length, w_m_top, w_m_at, w_m_wrong, w_m_isAsked, w_m_askedHorse, w_m_askedFence, w_m_askedLetter, w_m_askedHeight, w_m_row) → zJ l zW 207 mX12_calm σ ([(3457, m_fences), (3462, m_horses), (3472, m_rowMany), (3473, (0 : Int32)), (3474, m_read_33x), (3475, m_length_33x), (3476, m_top_33x), (3477, m_at_33x), (3478, m_wrong_33x), (3483, m_ruleSize), (3484, m_isAsked_33x), (3485, m_askedHorse_33x), (3486, m_askedFence_33x), (3487, m_askedLetter_33x), (3488, m_askedHeight_33x)], [(56, m_kind), (57, m_height), (58, m_feet), (59, m_stride), (60, m_scope), (61, m_care), (69, m_rule)], [(65, m_row)]) 96 [(0, .ref 54), (1, .int p1), (2, .int p2), (3, .int v3_33x), (4, .int v4_33x)] [] (some (.int r)) ([(3457, m_fences), (3462, m_horses), (3472, w_m_rowMany), (3473, w_m_thrown), (3474, w_m_read), (3475, w_m_length), (3476, w_m_top), (3477, w_m_at), (3478, w_m_wrong), (3483, m_ruleSize), (3484, w_m_isAsked), (3485, w_m_askedHorse), (3486, w_m_askedFence), (3487, w_m_askedLetter), (3488, w_m_askedHeight)], [(56, m_kind), (57, m_height), (58, m_feet), (59, m_stride), (60, m_scope), (61, m_care), (69, m_rule)], [(65, w_m_row)]) := by
        intro v3_33x v4_33x m_read_33x m_length_33x m_top_33x m_at_33x m_wrong_33x m_isAsked_33x m_askedHorse_33x m_askedFence_33x m_askedLetter_33x m_askedHeight_33x h
        unfold k_X12_calm_33 at h
        refine zJ_aload_n dX12_calm_96 rfl rfl ?_
        refine zJ_iconst dX12_calm_97 zc_0 rfl ?_
        refine zK_puti (mi := mX12_calm) (la' := [(3457, m_fences), (3462, m_horses), (3472, (0 : Int32)), (3473, (0 : Int32)), (3474, m_read_33x), (3475, m_length_33x), (3476, m_top_33x), (3477, m_at_33x), (3478, m_wrong_33x), (3483, m_ruleSize), (3484, m_isAsked_33x), (3485, m_askedHorse_33x), (3486, m_askedFence_33x), (3487, m_askedLetter_33x), (3488, m_askedHeight_33x)]) zW_ok dX12_calm_98 F_X12_116 P_12_16 zW_54 rfl rfl rfl ?_
        refine zJ_aload_n dX12_calm_101 rfl rfl ?_
        refine zJ_iload dX12_calm_102 rfl rfl ?_
        refine zJ_aload_n dX12_calm_104 rfl rfl ?_
        refine zJ_iload_n dX12_calm_105 rfl rfl ?_
        refine zJ_iload_n dX12_calm_106 rfl rfl ?_
        obtain ⟨rn3, hcl, h⟩ := bd1_some h
        refine zJ_callV (mi := mX12_calm) (yi := mX12_refusalOf) (as := [.int p1, .int p2]) (st := [.int v4_33x, .ref 54]) (L2 := ([(3457, m_fences), (3462, m_horses), (3472, (0 : Int32)), (3473, (0 : Int32)), (3474, m_read_33x), (3475, m_length_33x), (3476, m_top_33x), (3477, m_at_33x), (3478, m_wrong_33x), (3483, m_ruleSize), (3484, m_isAsked_33x), (3485, m_askedHorse_33x), (3486, m_askedFence_33x), (3487, m_askedLetter_33x), (3488, m_askedHeight_33x)], [(56, m_kind), (57, m_height), (58, m_feet), (59, m_stride), (60, m_scope), (61, m_care), (69, m_rule)], [(65, m_row)])) dX12_calm_107 ML_X12_262 Yv_X12_refusalOf rfl zW_54 rfl rfl (t_X12_refusalOf l _ hcl) (zsub_i zle_n (zle_c rfl (zle_c rfl (zle_c rfl (zle_c rfl zle_n)))) zle_n) rfl (Nat.le_of_ble_eq_true rfl) (Nat.le_of_ble_eq_true rfl) rfl rfl ?_
        refine zJ_iadd dX12_calm_110 rfl ?_
        refine zJ_i2l dX12_calm_111 rfl ?_
        obtain ⟨m_rowManyn4, m_rown5, hcl, h⟩ := bd2_some h
        refine zJ_callV (mi := mX12_calm) (yi := mX12_tell) (as := [.long ((v4_33x + rn3)).toInt64]) (st := []) (L2 := ([(3457, m_fences), (3462, m_horses), (3472, m_rowManyn4), (3473, (0 : Int32)), (3474, m_read_33x), (3475, m_length_33x), (3476, m_top_33x), (3477, m_at_33x), (3478, m_wrong_33x), (3483, m_ruleSize), (3484, m_isAsked_33x), (3485, m_askedHorse_33x), (3486, m_askedFence_33x), (3487, m_askedLetter_33x), (3488, m_askedHeight_33x)], [(56, m_kind), (57, m_height), (58, m_feet), (59, m_stride), (60, m_scope), (61, m_care), (69, m_rule)], [(65, m_rown5)])) dX12_calm_112 ML_X12_265 Yv_X12_tell rfl zW_54 rfl rfl (t_X12_tell l _ hcl) (zsub_i (zle_c rfl zle_n) zle_n (zle_c rfl zle_n)) rfl (Nat.le_of_ble_eq_true rfl) (Nat.le_of_ble_eq_true rfl) rfl rfl ?_
        refine zJ_aload_n dX12_calm_115 rfl rfl ?_
        refine zJ_aload_n dX12_calm_116 rfl rfl ?_
        refine zJ_iload_n dX12_calm_117 rfl rfl ?_
        refine zJ_iload_n dX12_calm_118 rfl rfl ?_
        obtain ⟨rn6, hcl, h⟩ := bd1_some h
        refine zJ_callV (mi := mX12_calm) (yi := mX12_tenthsOf) (as := [.int p2, .int v3_33x]) (st := [.ref 54]) (L2 := ([(3457, m_fences), (3462, m_horses), (3472, m_rowManyn4), (3473, (0 : Int32)), (3474, m_read_33x), (3475, m_length_33x), (3476, m_top_33x), (3477, m_at_33x), (3478, m_wrong_33x), (3483, m_ruleSize), (3484, m_isAsked_33x), (3485, m_askedHorse_33x), (3486, m_askedFence_33x), (3487, m_askedLetter_33x), (3488, m_askedHeight_33x)], [(56, m_kind), (57, m_height), (58, m_feet), (59, m_stride), (60, m_scope), (61, m_care), (69, m_rule)], [(65, m_rown5)])) dX12_calm_119 ML_X12_269 Yv_X12_tenthsOf rfl zW_54 rfl rfl (t_X12_tenthsOf l _ hcl) (zsub_i zle_n (zle_c rfl (zle_c rfl zle_n)) zle_n) rfl (Nat.le_of_ble_eq_true rfl) (Nat.le_of_ble_eq_true rfl) rfl rfl ?_
        refine zJ_i2l dX12_calm_122 rfl ?_
        obtain ⟨m_rowManyn7, m_rown8, hcl, h⟩ := bd2_some h
        refine zJ_callV (mi := mX12_calm) (yi := mX12_tell) (as := [.long rn6.toInt64]) (st := []) (L2 := ([(3457, m_fences), (3462, m_horses), (3472, m_rowManyn7), (3473, (0 : Int32)), (3474, m_read_33x), (3475, m_length_33x), (3476, m_top_33x), (3477, m_at_33x), (3478, m_wrong_33x), (3483, m_ruleSize), (3484, m_isAsked_33x), (3485, m_askedHorse_33x), (3486, m_askedFence_33x), (3487, m_askedLetter_33x), (3488, m_askedHeight_33x)], [(56, m_kind), (57, m_height), (58, m_feet), (59, m_stride), (60, m_scope), (61, m_care), (69, m_rule)], [(65, m_rown8)])) dX12_calm_123 ML_X12_265 Yv_X12_tell rfl zW_54 rfl rfl (t_X12_tell l _ hcl) (zsub_i (zle_c rfl zle_n) zle_n (zle_c rfl zle_n)) rfl (Nat.le_of_ble_eq_true rfl) (Nat.le_of_ble_eq_true rfl) rfl rfl ?_
        refine zJ_iload_n dX12_calm_126 rfl rfl ?_
        obtain ⟨rfl, rfl, rfl, rfl, rfl, rfl, rfl, rfl, rfl, rfl, rfl, rfl, rfl, rfl⟩ := so14 h
        exact zJ_iret dX12_calm_127 rfl rfl
      refine zJ_loc (ls' := [(0, .ref 54), (1, .int p1), (2, .int p2), (3, .int (0 : Int32)), (4, .int (100000000 : Int32)), (5, .int (0 : Int32))]) (zll_c rfl (zll_c rfl (zll_c rfl (zll_c rfl (zll_c rfl (zll_c rfl zll_n)))))) ?_
      refine ml13_J (fun (v3_33 : Int32) (v4_33 : Int32) (v5_33 : Int32) (m_read_33 : Int32) (m_length_33 : Int32) (m_top_33 : Int32) (m_at_33 : Int32) (m_wrong_33 : Int32) (m_isAsked_33 : Int32) (m_askedHorse_33 : Int32) (m_askedFence_33 : Int32) (m_askedLetter_33 : Int32) (m_askedHeight_33 : Int32) => zJ l zW 207 mX12_calm σ ([(3457, m_fences), (3462, m_horses), (3472, m_rowMany), (3473, (0 : Int32)), (3474, m_read_33), (3475, m_length_33), (3476, m_top_33), (3477, m_at_33), (3478, m_wrong_33), (3483, m_ruleSize), (3484, m_isAsked_33), (3485, m_askedHorse_33), (3486, m_askedFence_33), (3487, m_askedLetter_33), (3488, m_askedHeight_33)], [(56, m_kind), (57, m_height), (58, m_feet), (59, m_stride), (60, m_scope), (61, m_care), (69, m_rule)], [(65, m_row)]) 33 [(0, .ref 54), (1, .int p1), (2, .int p2), (3, .int v3_33), (4, .int v4_33), (5, .int v5_33)] [] (some (.int r)) ([(3457, m_fences), (3462, m_horses), (3472, w_m_rowMany), (3473, w_m_thrown), (3474, w_m_read), (3475, w_m_length), (3476, w_m_top), (3477, w_m_at), (3478, w_m_wrong), (3483, m_ruleSize), (3484, w_m_isAsked), (3485, w_m_askedHorse), (3486, w_m_askedFence), (3487, w_m_askedLetter), (3488, w_m_askedHeight)], [(56, m_kind), (57, m_height), (58, m_feet), (59, m_stride), (60, m_scope), (61, m_care), (69, m_rule)], [(65, w_m_row)])) (fun rc33 hrc33 v3_33 v4_33 v5_33 m_read_33 m_length_33 m_top_33 m_at_33 m_wrong_33 m_isAsked_33 m_askedHorse_33 m_askedFence_33 m_askedLetter_33 m_askedHeight_33 h => ?_) zN _ _ _ _ _ _ _ _ _ _ _ _ _ h
      unfold s_X12_calm_33 at h
      refine zJ_iload dX12_calm_33 rfl rfl ?_
      refine zJ_bipush dX12_calm_35 zb_8 rfl ?_
      refine zJ_icmp_ge (tgt := 96) dX12_calm_37 (by decide) rfl (fun hc => ?_) (fun hc => ?_)
      · replace h := it_t hc h
        refine zJ_loc (ls' := [(0, .ref 54), (1, .int p1), (2, .int p2), (3, .int v3_33), (4, .int v4_33)]) (zll_c rfl (zll_c rfl (zll_c rfl (zll_c rfl (zll_c rfl zll_n))))) ?_
        exact hk33 _ _ _ _ _ _ _ _ _ _ _ _ h
      · replace h := it_f hc h
        refine zJ_aload_n dX12_calm_40 rfl rfl ?_
        refine zJ_iload_n dX12_calm_41 rfl rfl ?_
        refine zJ_iload_n dX12_calm_42 rfl rfl ?_
        refine zJ_iload dX12_calm_43 rfl rfl ?_
        obtain ⟨rn9, m_readn10, m_lengthn11, m_topn12, m_atn13, m_wrongn14, m_isAskedn15, m_askedHorsen16, m_askedFencen17, m_askedLettern18, m_askedHeightn19, hcl, h⟩ := bd11_some h
        refine zJ_callV (mi := mX12_calm) (yi := mX12_oddsOf_) (as := [.int p1, .int p2, .int v5_33]) (st := []) (L2 := ([(3457, m_fences), (3462, m_horses), (3472, m_rowMany), (3473, (0 : Int32)), (3474, m_readn10), (3475, m_lengthn11), (3476, m_topn12), (3477, m_atn13), (3478, m_wrongn14), (3483, m_ruleSize), (3484, m_isAskedn15), (3485, m_askedHorsen16), (3486, m_askedFencen17), (3487, m_askedLettern18), (3488, m_askedHeightn19)], [(56, m_kind), (57, m_height), (58, m_feet), (59, m_stride), (60, m_scope), (61, m_care), (69, m_rule)], [(65, m_row)])) dX12_calm_45 ML_X12_259 Yv_X12_oddsOf_ rfl zW_54 rfl rfl (t_X12_oddsOf_ l _ hcl) (zsub_i (zle_c rfl (zle_c rfl (zle_c rfl (zle_c rfl (zle_c rfl (zle_c rfl (zle_c rfl (zle_c rfl (zle_c rfl (zle_c rfl (zle_c rfl zle_n))))))))))) (zle_c rfl (zle_c rfl (zle_c rfl (zle_c rfl (zle_c rfl (zle_c rfl (zle_c rfl zle_n))))))) zle_n) rfl (Nat.le_of_ble_eq_true rfl) (Nat.le_of_ble_eq_true rfl) rfl rfl ?_
        refine zJ_istore (ls' := [(6, .int rn9), (0, .ref 54), (1, .int p1), (2, .int p2), (3, .int v3_33), (4, .int v4_33), (5, .int v5_33)]) dX12_calm_48 rfl rfl rfl ?_
        refine zJ_iload dX12_calm_50 rfl rfl ?_
        refine zJ_iload dX12_calm_52 rfl rfl ?_
        refine zJ_icmp_gt (tgt := 90) dX12_calm_54 (by decide) rfl (fun hc => ?_) (fun hc => ?_)
        · replace h := it_t hc h
          obtain ⟨v5n20, ev5n20, h⟩ := lt1_some h
          refine zJ_iincN (ls' := [(5, .int v5n20), (6, .int rn9), (0, .ref 54), (1, .int p1), (2, .int p2), (3, .int v3_33), (4, .int v4_33)]) dX12_calm_90 rfl rfl zc_1 ev5n20 rfl rfl ?_
          refine zJ_goto (tgt := 33) dX12_calm_93 (by decide) ?_
          refine zJ_loc (ls' := [(0, .ref 54), (1, .int p1), (2, .int p2), (3, .int v3_33), (4, .int v4_33), (5, .int v5n20)]) (zll_c rfl (zll_c rfl (zll_c rfl (zll_c rfl (zll_c rfl (zll_c rfl zll_n)))))) ?_
          exact hrc33 _ _ _ _ _ _ _ _ _ _ _ _ _ h
        · replace h := it_f hc h
          refine zJ_iload dX12_calm_57 rfl rfl ?_
          refine zJ_iload dX12_calm_59 rfl rfl ?_
          refine zJ_icmp_ne (tgt := 83) dX12_calm_61 (by decide) rfl (fun hc => ?_) (fun hc => ?_)
          · replace h := it_f hc h
            refine zJ_iload dX12_calm_83 rfl rfl ?_
            refine zJ_istore_n (ls' := [(3, .int v5_33), (6, .int rn9), (0, .ref 54), (1, .int p1), (2, .int p2), (4, .int v4_33), (5, .int v5_33)]) dX12_calm_85 rfl rfl rfl ?_
            refine zJ_iload dX12_calm_86 rfl rfl ?_
            refine zJ_istore (ls' := [(4, .int rn9), (3, .int v5_33), (6, .int rn9), (0, .ref 54), (1, .int p1), (2, .int p2), (5, .int v5_33)]) dX12_calm_88 rfl rfl rfl ?_
            obtain ⟨v5n21, ev5n21, h⟩ := lt1_some h
            refine zJ_iincN (ls' := [(5, .int v5n21), (4, .int rn9), (3, .int v5_33), (6, .int rn9), (0, .ref 54), (1, .int p1), (2, .int p2)]) dX12_calm_90 rfl rfl zc_1 ev5n21 rfl rfl ?_
            refine zJ_goto (tgt := 33) dX12_calm_93 (by decide) ?_
            refine zJ_loc (ls' := [(0, .ref 54), (1, .int p1), (2, .int p2), (3, .int v5_33), (4, .int rn9), (5, .int v5n21)]) (zll_c rfl (zll_c rfl (zll_c rfl (zll_c rfl (zll_c rfl (zll_c rfl zll_n)))))) ?_
            exact hrc33 _ _ _ _ _ _ _ _ _ _ _ _ _ h
          · replace h := it_t hc h
            refine zJ_aload_n dX12_calm_64 rfl rfl ?_
            refine zJ_iload_n dX12_calm_65 rfl rfl ?_
            refine zJ_iload dX12_calm_66 rfl rfl ?_
            obtain ⟨rn22, hcl, h⟩ := bd1_some h
            refine zJ_callV (mi := mX12_calm) (yi := mX12_tenthsOf) (as := [.int p2, .int v5_33]) (st := []) (L2 := ([(3457, m_fences), (3462, m_horses), (3472, m_rowMany), (3473, (0 : Int32)), (3474, m_readn10), (3475, m_lengthn11), (3476, m_topn12), (3477, m_atn13), (3478, m_wrongn14), (3483, m_ruleSize), (3484, m_isAskedn15), (3485, m_askedHorsen16), (3486, m_askedFencen17), (3487, m_askedLettern18), (3488, m_askedHeightn19)], [(56, m_kind), (57, m_height), (58, m_feet), (59, m_stride), (60, m_scope), (61, m_care), (69, m_rule)], [(65, m_row)])) dX12_calm_68 ML_X12_269 Yv_X12_tenthsOf rfl zW_54 rfl rfl (t_X12_tenthsOf l _ hcl) (zsub_i zle_n (zle_c rfl (zle_c rfl zle_n)) zle_n) rfl (Nat.le_of_ble_eq_true rfl) (Nat.le_of_ble_eq_true rfl) rfl rfl ?_
            refine zJ_aload_n dX12_calm_71 rfl rfl ?_
            refine zJ_iload_n dX12_calm_72 rfl rfl ?_
            refine zJ_iload_n dX12_calm_73 rfl rfl ?_
            obtain ⟨rn23, hcl, h⟩ := bd1_some h
            refine zJ_callV (mi := mX12_calm) (yi := mX12_tenthsOf) (as := [.int p2, .int v3_33]) (st := [.int rn22]) (L2 := ([(3457, m_fences), (3462, m_horses), (3472, m_rowMany), (3473, (0 : Int32)), (3474, m_readn10), (3475, m_lengthn11), (3476, m_topn12), (3477, m_atn13), (3478, m_wrongn14), (3483, m_ruleSize), (3484, m_isAskedn15), (3485, m_askedHorsen16), (3486, m_askedFencen17), (3487, m_askedLettern18), (3488, m_askedHeightn19)], [(56, m_kind), (57, m_height), (58, m_feet), (59, m_stride), (60, m_scope), (61, m_care), (69, m_rule)], [(65, m_row)])) dX12_calm_74 ML_X12_269 Yv_X12_tenthsOf rfl zW_54 rfl rfl (t_X12_tenthsOf l _ hcl) (zsub_i zle_n (zle_c rfl (zle_c rfl zle_n)) zle_n) rfl (Nat.le_of_ble_eq_true rfl) (Nat.le_of_ble_eq_true rfl) rfl rfl ?_
            refine zJ_icmp_lt (tgt := 83) dX12_calm_77 (by decide) rfl (fun hc => ?_) (fun hc => ?_)
            · replace h := it_t hc h
              refine zJ_iload dX12_calm_83 rfl rfl ?_
              refine zJ_istore_n (ls' := [(3, .int v5_33), (6, .int rn9), (0, .ref 54), (1, .int p1), (2, .int p2), (4, .int v4_33), (5, .int v5_33)]) dX12_calm_85 rfl rfl rfl ?_
              refine zJ_iload dX12_calm_86 rfl rfl ?_
              refine zJ_istore (ls' := [(4, .int rn9), (3, .int v5_33), (6, .int rn9), (0, .ref 54), (1, .int p1), (2, .int p2), (5, .int v5_33)]) dX12_calm_88 rfl rfl rfl ?_
              obtain ⟨v5n24, ev5n24, h⟩ := lt1_some h
              refine zJ_iincN (ls' := [(5, .int v5n24), (4, .int rn9), (3, .int v5_33), (6, .int rn9), (0, .ref 54), (1, .int p1), (2, .int p2)]) dX12_calm_90 rfl rfl zc_1 ev5n24 rfl rfl ?_
              refine zJ_goto (tgt := 33) dX12_calm_93 (by decide) ?_
              refine zJ_loc (ls' := [(0, .ref 54), (1, .int p1), (2, .int p2), (3, .int v5_33), (4, .int rn9), (5, .int v5n24)]) (zll_c rfl (zll_c rfl (zll_c rfl (zll_c rfl (zll_c rfl (zll_c rfl zll_n)))))) ?_
              exact hrc33 _ _ _ _ _ _ _ _ _ _ _ _ _ h
            · replace h := it_f hc h
              refine zJ_goto (tgt := 90) dX12_calm_80 (by decide) ?_
              obtain ⟨v5n25, ev5n25, h⟩ := lt1_some h
              refine zJ_iincN (ls' := [(5, .int v5n25), (6, .int rn9), (0, .ref 54), (1, .int p1), (2, .int p2), (3, .int v3_33), (4, .int v4_33)]) dX12_calm_90 rfl rfl zc_1 ev5n25 rfl rfl ?_
              refine zJ_goto (tgt := 33) dX12_calm_93 (by decide) ?_
              refine zJ_loc (ls' := [(0, .ref 54), (1, .int p1), (2, .int p2), (3, .int v3_33), (4, .int v4_33), (5, .int v5n25)]) (zll_c rfl (zll_c rfl (zll_c rfl (zll_c rfl (zll_c rfl (zll_c rfl zll_n)))))) ?_
              exact hrc33 _ _ _ _ _ _ _ _ _ _ _ _ _ h
    · replace h := it_t hc h
      refine zJ_iconst dX12_calm_21 zc_m1 rfl ?_
      obtain ⟨rfl, rfl, rfl, rfl, rfl, rfl, rfl, rfl, rfl, rfl, rfl, rfl, rfl, rfl⟩ := so14 h
      exact zJ_iret dX12_calm_22 rfl rfl
set_option maxRecDepth 100000 in
set_option maxHeartbeats 4000000 in
theorem tg_X12_common (l : Launch) : ∀ n : Nat, (∀ (σ : zS) (p0 : Int64) (p2 : Int64) (r : Int64), (G_X12_common n) p0 p2 = some r → zMt l zW (n + 0) mX12_common σ ([], [], []) [.long p0, .long p2] (some (.long r)) ([], [], [])) := by
  intro n
  induction n with
  | zero => exact (fun _ _ _ _ h => by cases (show (none : Option _) = some _ from h))
  | succ n ih =>
    have ih_X12_common := ih
    intro σ p0 p2 r h
    replace h : g_X12_common (G_X12_common n) p0 p2 = some r := h
    generalize (G_X12_common n) = q_X12_common at h ih_X12_common
    show zMt l zW (n + 1) mX12_common σ ([], [], []) [.long p0, .long p2] (some (.long r)) ([], [], [])
    refine zMt_of (ls := [(0, .long p0), (2, .long p2)]) (by decide) rfl (fun _ => Nat.le_of_ble_eq_true rfl) rfl ?_
    unfold g_X12_common at h
    refine zJ_lload_n dX12_common_0 rfl rfl ?_
    refine zJ_lconst dX12_common_1 zl_0 rfl ?_
    refine zJ_lcmp dX12_common_2 rfl ?_
    refine zJ_if_ne (tgt := 10) dX12_common_3 (by decide) rfl (fun hc => ?_) (fun hc => ?_)
    · replace h := it_f hc h
      refine zJ_lload_n dX12_common_10 rfl rfl ?_
      refine zJ_lload_n dX12_common_11 rfl rfl ?_
      refine zJ_lload_n dX12_common_12 rfl rfl ?_
      obtain ⟨hg, h⟩ := gd_some h
      refine zJ_lrem dX12_common_13 (nzl_ne hg) rfl ?_
      obtain ⟨rn1, hcl, h⟩ := bd1_some h
      refine zJ_callS (mi := mX12_common) (yi := mX12_common) (as := [.long p2, .long (p0 - p0 / p2 * p2)]) (st := []) (L2 := ([], [], [])) dX12_common_14 ML_X12_397 Ys_X12_common rfl (ih_X12_common _ _ _ _ hcl) (zsub_i zle_n zle_n zle_n) rfl (by omega) (Nat.le_of_ble_eq_true rfl) rfl rfl ?_
      obtain rfl := so1 h
      exact zJ_lret dX12_common_17 rfl
    · replace h := it_t hc h
      refine zJ_lload_n dX12_common_6 rfl rfl ?_
      refine zJ_goto (tgt := 17) dX12_common_7 (by decide) ?_
      obtain rfl := so1 h
      exact zJ_lret dX12_common_17 rfl

theorem t_X12_common (l : Launch) (σ : zS) (n : Nat) {p0 : Int64} {p2 : Int64} {r : Int64} (h : f_X12_common n p0 p2 = some r) : zMt l zW (n + 0) mX12_common σ ([], [], []) [.long p0, .long p2] (some (.long r)) ([], [], []) := (tg_X12_common l n) σ _ _ _ h
