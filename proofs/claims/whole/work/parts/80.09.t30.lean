set_option maxRecDepth 100000 in
set_option maxHeartbeats 4000000 in
theorem t_X12_show (l : Launch) (σ : zS) {m_fences : Int32} {m_allowed : Int32} {m_horses : Int32} {m_plans : Int32} {m_typed : Int32} {m_rowMany : Int32} {m_thrown : Int32} {m_read : Int32} {m_length : Int32} {m_top : Int32} {m_at : Int32} {m_wrong : Int32} {m_ruleSize : Int32} {m_isAsked : Int32} {m_askedHorse : Int32} {m_askedFence : Int32} {m_askedLetter : Int32} {m_askedHeight : Int32} {m_undoMany : Int32} {m_rodeTenths : Int32} {m_refused : Int32} {m_down : Int32} {m_drawn : Int32} {m_now : (Nat → Int32)} {m_kind : (Nat → Int32)} {m_height : (Nat → Int32)} {m_feet : (Nat → Int32)} {m_stride : (Nat → Int32)} {m_scope : (Nat → Int32)} {m_care : (Nat → Int32)} {m_plan : (Nat → Int32)} {m_text : (Nat → Int32)} {m_rule : (Nat → Int32)} {m_undos : (Nat → Int32)} {m_aside : (Nat → Int32)} {m_acts : (Nat → Int32)} {m_row : (Nat → Int64)} {r : Int32} {w_m_typed : Int32} {w_m_rowMany : Int32} {w_m_thrown : Int32} {w_m_read : Int32} {w_m_length : Int32} {w_m_top : Int32} {w_m_at : Int32} {w_m_wrong : Int32} {w_m_isAsked : Int32} {w_m_askedHorse : Int32} {w_m_askedFence : Int32} {w_m_askedLetter : Int32} {w_m_askedHeight : Int32} {w_m_undoMany : Int32} {w_m_rodeTenths : Int32} {w_m_refused : Int32} {w_m_down : Int32} {w_m_drawn : Int32} {w_m_now : (Nat → Int32)} {w_m_undos : (Nat → Int32)} {w_m_aside : (Nat → Int32)} {w_m_acts : (Nat → Int32)} {w_m_row : (Nat → Int64)} (h : f_X12_show m_fences m_allowed m_horses m_plans m_typed m_rowMany m_thrown m_read m_length m_top m_at m_wrong m_ruleSize m_isAsked m_askedHorse m_askedFence m_askedLetter m_askedHeight m_undoMany m_rodeTenths m_refused m_down m_drawn m_now m_kind m_height m_feet m_stride m_scope m_care m_plan m_text m_rule m_undos m_aside m_acts m_row = some (r, w_m_typed, w_m_rowMany, w_m_thrown, w_m_read, w_m_length, w_m_top, w_m_at, w_m_wrong, w_m_isAsked, w_m_askedHorse, w_m_askedFence, w_m_askedLetter, w_m_askedHeight, w_m_undoMany, w_m_rodeTenths, w_m_refused, w_m_down, w_m_drawn, w_m_now, w_m_undos, w_m_aside, w_m_acts, w_m_row)) : zMt l zW 209 mX12_show σ ([(3457, m_fences), (3461, m_allowed), (3462, m_horses), (3466, m_plans), (3470, m_typed), (3472, m_rowMany), (3473, m_thrown), (3474, m_read), (3475, m_length), (3476, m_top), (3477, m_at), (3478, m_wrong), (3483, m_ruleSize), (3484, m_isAsked), (3485, m_askedHorse), (3486, m_askedFence), (3487, m_askedLetter), (3488, m_askedHeight), (3494, m_undoMany), (3496, m_rodeTenths), (3497, m_refused), (3498, m_down), (3499, m_drawn)], [(55, m_now), (56, m_kind), (57, m_height), (58, m_feet), (59, m_stride), (60, m_scope), (61, m_care), (62, m_plan), (64, m_text), (69, m_rule), (74, m_undos), (75, m_aside), (76, m_acts)], [(65, m_row)]) [.ref 54] (some (.int r)) ([(3457, m_fences), (3461, m_allowed), (3462, m_horses), (3466, m_plans), (3470, w_m_typed), (3472, w_m_rowMany), (3473, w_m_thrown), (3474, w_m_read), (3475, w_m_length), (3476, w_m_top), (3477, w_m_at), (3478, w_m_wrong), (3483, m_ruleSize), (3484, w_m_isAsked), (3485, w_m_askedHorse), (3486, w_m_askedFence), (3487, w_m_askedLetter), (3488, w_m_askedHeight), (3494, w_m_undoMany), (3496, w_m_rodeTenths), (3497, w_m_refused), (3498, w_m_down), (3499, w_m_drawn)], [(55, w_m_now), (56, m_kind), (57, m_height), (58, m_feet), (59, m_stride), (60, m_scope), (61, m_care), (62, m_plan), (64, m_text), (69, m_rule), (74, w_m_undos), (75, w_m_aside), (76, w_m_acts)], [(65, w_m_row)]) := by
  refine zMt_of (ls := [(0, .ref 54)]) (by decide) rfl (fun _ => Nat.le_of_ble_eq_true rfl) rfl ?_
  unfold f_X12_show at h
  refine zJ_aload_n dX12_show_0 rfl rfl ?_
  refine zJ_iconst dX12_show_1 zc_0 rfl ?_
  refine zK_puti (mi := mX12_show) (la' := [(3457, m_fences), (3461, m_allowed), (3462, m_horses), (3466, m_plans), (3470, m_typed), (3472, m_rowMany), (3473, (0 : Int32)), (3474, m_read), (3475, m_length), (3476, m_top), (3477, m_at), (3478, m_wrong), (3483, m_ruleSize), (3484, m_isAsked), (3485, m_askedHorse), (3486, m_askedFence), (3487, m_askedLetter), (3488, m_askedHeight), (3494, m_undoMany), (3496, m_rodeTenths), (3497, m_refused), (3498, m_down), (3499, m_drawn)]) zW_ok dX12_show_2 F_X12_113 P_12_17 zW_54 rfl rfl rfl ?_
  refine zJ_aload_n dX12_show_5 rfl rfl ?_
  refine zJ_aload_n dX12_show_6 rfl rfl ?_
  refine zJ_getr (mi := mX12_show) dX12_show_7 F_X12_41 zW_54 rfl rfl ?_
  refine zJ_aload_n dX12_show_10 rfl rfl ?_
  refine zJ_geti (mi := mX12_show) (x := m_typed) dX12_show_11 F_X12_139 zW_54 rfl rfl rfl ?_
  refine zJ_bipush dX12_show_14 zb_60 rfl ?_
  obtain ⟨m_lengthn1, m_topn2, m_atn3, m_wrongn4, hcl, h⟩ := bd4_some h
  refine zJ_callV2 (σ := σ) (L := ([(3457, m_fences), (3461, m_allowed), (3462, m_horses), (3466, m_plans), (3470, m_typed), (3472, m_rowMany), (3473, (0 : Int32)), (3474, m_read), (3475, m_length), (3476, m_top), (3477, m_at), (3478, m_wrong), (3483, m_ruleSize), (3484, m_isAsked), (3485, m_askedHorse), (3486, m_askedFence), (3487, m_askedLetter), (3488, m_askedHeight), (3494, m_undoMany), (3496, m_rodeTenths), (3497, m_refused), (3498, m_down), (3499, m_drawn)], [(55, m_now), (56, m_kind), (57, m_height), (58, m_feet), (59, m_stride), (60, m_scope), (61, m_care), (62, m_plan), (64, m_text), (69, m_rule), (74, m_undos), (75, m_aside), (76, m_acts)], [(65, m_row)])) (mi := mX12_show) (yi := mX12_begin) (as := [.ref 64, .int m_typed, .int (60 : Int32)]) (st := []) (L2 := ([(3457, m_fences), (3461, m_allowed), (3462, m_horses), (3466, m_plans), (3470, m_typed), (3472, m_rowMany), (3473, (0 : Int32)), (3474, (nI 64)), (3475, m_lengthn1), (3476, m_topn2), (3477, m_atn3), (3478, m_wrongn4), (3483, m_ruleSize), (3484, m_isAsked), (3485, m_askedHorse), (3486, m_askedFence), (3487, m_askedLetter), (3488, m_askedHeight), (3494, m_undoMany), (3496, m_rodeTenths), (3497, m_refused), (3498, m_down), (3499, m_drawn)], [(55, m_now), (56, m_kind), (57, m_height), (58, m_feet), (59, m_stride), (60, m_scope), (61, m_care), (62, m_plan), (64, m_text), (69, m_rule), (74, m_undos), (75, m_aside), (76, m_acts)], [(65, m_row)])) dX12_show_16 ML_X12_185 Yv_X12_begin rfl zW_54 rfl rfl (t_X12_begin_m_text l _ hcl) (zsub_i (zle_c rfl (zle_c rfl (zle_c rfl (zle_c rfl (zle_c rfl zle_n))))) zle_n zle_n) (zjok_i rfl rfl (zle_c rfl (zle_c rfl (zle_c rfl (zle_c rfl (zle_c rfl (zle_c rfl (zle_c rfl (zle_c rfl (zle_c rfl (zle_c rfl (zle_c rfl (zle_c rfl (zle_c rfl (zle_c rfl (zle_c rfl (zle_c rfl (zle_c rfl (zle_c rfl (zle_c rfl (zle_c rfl (zle_c rfl (zle_c rfl (zle_c rfl zle_n))))))))))))))))))))))) rfl rfl (zle_c rfl (zle_c rfl (zle_c rfl (zle_c rfl (zle_c rfl (zle_c rfl (zle_c rfl (zle_c rfl (zle_c rfl (zle_c rfl (zle_c rfl (zle_c rfl (zle_c rfl zle_n))))))))))))) rfl rfl (zle_c rfl zle_n)) (Nat.le_of_ble_eq_true rfl) (Nat.le_of_ble_eq_true rfl) rfl rfl ?_
  refine zJ_aload_n dX12_show_19 rfl rfl ?_
  refine zJ_iconst dX12_show_20 zc_0 rfl ?_
  refine zK_puti (mi := mX12_show) (la' := [(3457, m_fences), (3461, m_allowed), (3462, m_horses), (3466, m_plans), (3470, (0 : Int32)), (3472, m_rowMany), (3473, (0 : Int32)), (3474, (nI 64)), (3475, m_lengthn1), (3476, m_topn2), (3477, m_atn3), (3478, m_wrongn4), (3483, m_ruleSize), (3484, m_isAsked), (3485, m_askedHorse), (3486, m_askedFence), (3487, m_askedLetter), (3488, m_askedHeight), (3494, m_undoMany), (3496, m_rodeTenths), (3497, m_refused), (3498, m_down), (3499, m_drawn)]) zW_ok dX12_show_21 F_X12_139 P_12_14 zW_54 rfl rfl rfl ?_
  refine zJ_iconst dX12_show_24 zc_0 rfl ?_
  refine zJ_istore_n (ls' := [(1, .int (0 : Int32)), (0, .ref 54)]) dX12_show_25 rfl rfl rfl ?_
  refine zJ_aload_n dX12_show_26 rfl rfl ?_
  refine zJ_geti (mi := mX12_show) (x := m_lengthn1) dX12_show_27 F_X12_145 zW_54 rfl rfl rfl ?_
  have hj_X12_show_38 : ∀ (t0_38j : Int32), j_X12_show_38 m_fences m_allowed m_horses m_plans m_rowMany m_ruleSize m_isAsked m_askedHorse m_askedFence m_askedLetter m_askedHeight m_undoMany m_rodeTenths m_refused m_down m_drawn m_now m_kind m_height m_feet m_stride m_scope m_care m_plan m_text m_rule m_undos m_aside m_acts m_row m_lengthn1 m_topn2 m_atn3 m_wrongn4 t0_38j = some (r, w_m_typed, w_m_rowMany, w_m_thrown, w_m_read, w_m_length, w_m_top, w_m_at, w_m_wrong, w_m_isAsked, w_m_askedHorse, w_m_askedFence, w_m_askedLetter, w_m_askedHeight, w_m_undoMany, w_m_rodeTenths, w_m_refused, w_m_down, w_m_drawn, w_m_now, w_m_undos, w_m_aside, w_m_acts, w_m_row) → zJ l zW 209 mX12_show σ ([(3457, m_fences), (3461, m_allowed), (3462, m_horses), (3466, m_plans), (3470, (0 : Int32)), (3472, m_rowMany), (3473, (0 : Int32)), (3474, (nI 64)), (3475, m_lengthn1), (3476, m_topn2), (3477, m_atn3), (3478, m_wrongn4), (3483, m_ruleSize), (3484, m_isAsked), (3485, m_askedHorse), (3486, m_askedFence), (3487, m_askedLetter), (3488, m_askedHeight), (3494, m_undoMany), (3496, m_rodeTenths), (3497, m_refused), (3498, m_down), (3499, m_drawn)], [(55, m_now), (56, m_kind), (57, m_height), (58, m_feet), (59, m_stride), (60, m_scope), (61, m_care), (62, m_plan), (64, m_text), (69, m_rule), (74, m_undos), (75, m_aside), (76, m_acts)], [(65, m_row)]) 38 [(0, .ref 54), (1, .int (0 : Int32))] [.int t0_38j] (some (.int r)) ([(3457, m_fences), (3461, m_allowed), (3462, m_horses), (3466, m_plans), (3470, w_m_typed), (3472, w_m_rowMany), (3473, w_m_thrown), (3474, w_m_read), (3475, w_m_length), (3476, w_m_top), (3477, w_m_at), (3478, w_m_wrong), (3483, m_ruleSize), (3484, w_m_isAsked), (3485, w_m_askedHorse), (3486, w_m_askedFence), (3487, w_m_askedLetter), (3488, w_m_askedHeight), (3494, w_m_undoMany), (3496, w_m_rodeTenths), (3497, w_m_refused), (3498, w_m_down), (3499, w_m_drawn)], [(55, w_m_now), (56, m_kind), (57, m_height), (58, m_feet), (59, m_stride), (60, m_scope), (61, m_care), (62, m_plan), (64, m_text), (69, m_rule), (74, w_m_undos), (75, w_m_aside), (76, w_m_acts)], [(65, w_m_row)]) := by
    intro t0_38j h
    unfold j_X12_show_38 at h
    refine zJ_istore_n (ls' := [(2, .int t0_38j), (0, .ref 54), (1, .int (0 : Int32))]) dX12_show_38 rfl rfl rfl ?_
    have hk39 : ∀ (v1_39x : Int32) (m_at_39x : Int32) (m_wrong_39x : Int32) (m_acts_39x : (Nat → Int32)), k_X12_show_39 m_fences m_allowed m_horses m_plans m_rowMany m_ruleSize m_isAsked m_askedHorse m_askedFence m_askedLetter m_askedHeight m_undoMany m_rodeTenths m_refused m_down m_drawn m_now m_kind m_height m_feet m_stride m_scope m_care m_plan m_rule m_undos m_aside m_row m_lengthn1 m_topn2 v1_39x m_at_39x m_wrong_39x m_acts_39x = some (r, w_m_typed, w_m_rowMany, w_m_thrown, w_m_read, w_m_length, w_m_top, w_m_at, w_m_wrong, w_m_isAsked, w_m_askedHorse, w_m_askedFence, w_m_askedLetter, w_m_askedHeight, w_m_undoMany, w_m_rodeTenths, w_m_refused, w_m_down, w_m_drawn, w_m_now, w_m_undos, w_m_aside, w_m_acts, w_m_row) → zJ l zW 209 mX12_show σ ([(3457, m_fences), (3461, m_allowed), (3462, m_horses), (3466, m_plans), (3470, (0 : Int32)), (3472, m_rowMany), (3473, (0 : Int32)), (3474, (nI 64)), (3475, m_lengthn1), (3476, m_topn2), (3477, m_at_39x), (3478, m_wrong_39x), (3483, m_ruleSize), (3484, m_isAsked), (3485, m_askedHorse), (3486, m_askedFence), (3487, m_askedLetter), (3488, m_askedHeight), (3494, m_undoMany), (3496, m_rodeTenths), (3497, m_refused), (3498, m_down), (3499, m_drawn)], [(55, m_now), (56, m_kind), (57, m_height), (58, m_feet), (59, m_stride), (60, m_scope), (61, m_care), (62, m_plan), (64, m_text), (69, m_rule), (74, m_undos), (75, m_aside), (76, m_acts_39x)], [(65, m_row)]) 70 [(0, .ref 54), (1, .int v1_39x)] [] (some (.int r)) ([(3457, m_fences), (3461, m_allowed), (3462, m_horses), (3466, m_plans), (3470, w_m_typed), (3472, w_m_rowMany), (3473, w_m_thrown), (3474, w_m_read), (3475, w_m_length), (3476, w_m_top), (3477, w_m_at), (3478, w_m_wrong), (3483, m_ruleSize), (3484, w_m_isAsked), (3485, w_m_askedHorse), (3486, w_m_askedFence), (3487, w_m_askedLetter), (3488, w_m_askedHeight), (3494, w_m_undoMany), (3496, w_m_rodeTenths), (3497, w_m_refused), (3498, w_m_down), (3499, w_m_drawn)], [(55, w_m_now), (56, m_kind), (57, m_height), (58, m_feet), (59, m_stride), (60, m_scope), (61, m_care), (62, m_plan), (64, m_text), (69, m_rule), (74, w_m_undos), (75, w_m_aside), (76, w_m_acts)], [(65, w_m_row)]) := by
      intro v1_39x m_at_39x m_wrong_39x m_acts_39x h
      unfold k_X12_show_39 at h
      refine zJ_aload_n dX12_show_70 rfl rfl ?_
      refine zJ_geti (mi := mX12_show) (x := m_at_39x) dX12_show_71 F_X12_151 zW_54 rfl rfl rfl ?_
      refine zJ_aload_n dX12_show_74 rfl rfl ?_
      refine zJ_geti (mi := mX12_show) (x := m_lengthn1) dX12_show_75 F_X12_145 zW_54 rfl rfl rfl ?_
      have hj_X12_show_89 : ∀ (m_wrong_89j : Int32), j_X12_show_89 m_fences m_allowed m_horses m_plans m_rowMany m_ruleSize m_isAsked m_askedHorse m_askedFence m_askedLetter m_askedHeight m_undoMany m_rodeTenths m_refused m_down m_drawn m_now m_kind m_height m_feet m_stride m_scope m_care m_plan m_rule m_undos m_aside m_row m_lengthn1 m_topn2 v1_39x m_at_39x m_acts_39x m_wrong_89j = some (r, w_m_typed, w_m_rowMany, w_m_thrown, w_m_read, w_m_length, w_m_top, w_m_at, w_m_wrong, w_m_isAsked, w_m_askedHorse, w_m_askedFence, w_m_askedLetter, w_m_askedHeight, w_m_undoMany, w_m_rodeTenths, w_m_refused, w_m_down, w_m_drawn, w_m_now, w_m_undos, w_m_aside, w_m_acts, w_m_row) → zJ l zW 209 mX12_show σ ([(3457, m_fences), (3461, m_allowed), (3462, m_horses), (3466, m_plans), (3470, (0 : Int32)), (3472, m_rowMany), (3473, (0 : Int32)), (3474, (nI 64)), (3475, m_lengthn1), (3476, m_topn2), (3477, m_at_39x), (3478, m_wrong_89j), (3483, m_ruleSize), (3484, m_isAsked), (3485, m_askedHorse), (3486, m_askedFence), (3487, m_askedLetter), (3488, m_askedHeight), (3494, m_undoMany), (3496, m_rodeTenths), (3497, m_refused), (3498, m_down), (3499, m_drawn)], [(55, m_now), (56, m_kind), (57, m_height), (58, m_feet), (59, m_stride), (60, m_scope), (61, m_care), (62, m_plan), (64, m_text), (69, m_rule), (74, m_undos), (75, m_aside), (76, m_acts_39x)], [(65, m_row)]) 89 [(0, .ref 54), (1, .int v1_39x)] [] (some (.int r)) ([(3457, m_fences), (3461, m_allowed), (3462, m_horses), (3466, m_plans), (3470, w_m_typed), (3472, w_m_rowMany), (3473, w_m_thrown), (3474, w_m_read), (3475, w_m_length), (3476, w_m_top), (3477, w_m_at), (3478, w_m_wrong), (3483, m_ruleSize), (3484, w_m_isAsked), (3485, w_m_askedHorse), (3486, w_m_askedFence), (3487, w_m_askedLetter), (3488, w_m_askedHeight), (3494, w_m_undoMany), (3496, w_m_rodeTenths), (3497, w_m_refused), (3498, w_m_down), (3499, w_m_drawn)], [(55, w_m_now), (56, m_kind), (57, m_height), (58, m_feet), (59, m_stride), (60, m_scope), (61, m_care), (62, m_plan), (64, m_text), (69, m_rule), (74, w_m_undos), (75, w_m_aside), (76, w_m_acts)], [(65, w_m_row)]) := by
        intro m_wrong_89j h
        unfold j_X12_show_89 at h
        refine zJ_aload_n dX12_show_89 rfl rfl ?_
        obtain ⟨rn5, hcl, h⟩ := bd1_some h
        refine zJ_callV2 (σ := σ) (L := ([(3457, m_fences), (3461, m_allowed), (3462, m_horses), (3466, m_plans), (3470, (0 : Int32)), (3472, m_rowMany), (3473, (0 : Int32)), (3474, (nI 64)), (3475, m_lengthn1), (3476, m_topn2), (3477, m_at_39x), (3478, m_wrong_89j), (3483, m_ruleSize), (3484, m_isAsked), (3485, m_askedHorse), (3486, m_askedFence), (3487, m_askedLetter), (3488, m_askedHeight), (3494, m_undoMany), (3496, m_rodeTenths), (3497, m_refused), (3498, m_down), (3499, m_drawn)], [(55, m_now), (56, m_kind), (57, m_height), (58, m_feet), (59, m_stride), (60, m_scope), (61, m_care), (62, m_plan), (64, m_text), (69, m_rule), (74, m_undos), (75, m_aside), (76, m_acts_39x)], [(65, m_row)])) (mi := mX12_show) (yi := mX12_fine) (as := []) (st := []) (L2 := ([(3457, m_fences), (3461, m_allowed), (3462, m_horses), (3466, m_plans), (3470, (0 : Int32)), (3472, m_rowMany), (3473, (0 : Int32)), (3474, (nI 64)), (3475, m_lengthn1), (3476, m_topn2), (3477, m_at_39x), (3478, m_wrong_89j), (3483, m_ruleSize), (3484, m_isAsked), (3485, m_askedHorse), (3486, m_askedFence), (3487, m_askedLetter), (3488, m_askedHeight), (3494, m_undoMany), (3496, m_rodeTenths), (3497, m_refused), (3498, m_down), (3499, m_drawn)], [(55, m_now), (56, m_kind), (57, m_height), (58, m_feet), (59, m_stride), (60, m_scope), (61, m_care), (62, m_plan), (64, m_text), (69, m_rule), (74, m_undos), (75, m_aside), (76, m_acts_39x)], [(65, m_row)])) dX12_show_90 ML_X12_157 Yv_X12_fine rfl zW_54 rfl rfl (t_X12_fine l _ hcl) (zsub_i (zle_c rfl zle_n) zle_n zle_n) (zjok_i rfl rfl (zle_c rfl (zle_c rfl (zle_c rfl (zle_c rfl (zle_c rfl (zle_c rfl (zle_c rfl (zle_c rfl (zle_c rfl (zle_c rfl (zle_c rfl (zle_c rfl (zle_c rfl (zle_c rfl (zle_c rfl (zle_c rfl (zle_c rfl (zle_c rfl (zle_c rfl (zle_c rfl (zle_c rfl (zle_c rfl (zle_c rfl zle_n))))))))))))))))))))))) rfl rfl (zle_c rfl (zle_c rfl (zle_c rfl (zle_c rfl (zle_c rfl (zle_c rfl (zle_c rfl (zle_c rfl (zle_c rfl (zle_c rfl (zle_c rfl (zle_c rfl (zle_c rfl zle_n))))))))))))) rfl rfl (zle_c rfl zle_n)) (Nat.le_of_ble_eq_true rfl) (Nat.le_of_ble_eq_true rfl) rfl rfl ?_
        refine zJ_if_ne (tgt := 103) dX12_show_93 (by decide) rfl (fun hc => ?_) (fun hc => ?_)
        · replace h := it_f hc h
          refine zJ_aload_n dX12_show_103 rfl rfl ?_
          refine zJ_getr (mi := mX12_show) dX12_show_104 F_X12_9 zW_54 rfl rfl ?_
          refine zJ_aload_n dX12_show_107 rfl rfl ?_
          refine zJ_getr (mi := mX12_show) dX12_show_108 F_X12_76 zW_54 rfl rfl ?_
          refine zJ_iconst dX12_show_111 zc_0 rfl ?_
          obtain ⟨m_asiden6, hcl, h⟩ := bd1_some h
          refine zJ_callS2 (σ := σ) (L := ([(3457, m_fences), (3461, m_allowed), (3462, m_horses), (3466, m_plans), (3470, (0 : Int32)), (3472, m_rowMany), (3473, (0 : Int32)), (3474, (nI 64)), (3475, m_lengthn1), (3476, m_topn2), (3477, m_at_39x), (3478, m_wrong_89j), (3483, m_ruleSize), (3484, m_isAsked), (3485, m_askedHorse), (3486, m_askedFence), (3487, m_askedLetter), (3488, m_askedHeight), (3494, m_undoMany), (3496, m_rodeTenths), (3497, m_refused), (3498, m_down), (3499, m_drawn)], [(55, m_now), (56, m_kind), (57, m_height), (58, m_feet), (59, m_stride), (60, m_scope), (61, m_care), (62, m_plan), (64, m_text), (69, m_rule), (74, m_undos), (75, m_aside), (76, m_acts_39x)], [(65, m_row)])) (mi := mX12_show) (yi := mX12_lay) (as := [.ref 55, .ref 75, .int (0 : Int32)]) (st := []) (L2 := ([(3457, m_fences), (3461, m_allowed), (3462, m_horses), (3466, m_plans), (3470, (0 : Int32)), (3472, m_rowMany), (3473, (0 : Int32)), (3474, (nI 64)), (3475, m_lengthn1), (3476, m_topn2), (3477, m_at_39x), (3478, m_wrong_89j), (3483, m_ruleSize), (3484, m_isAsked), (3485, m_askedHorse), (3486, m_askedFence), (3487, m_askedLetter), (3488, m_askedHeight), (3494, m_undoMany), (3496, m_rodeTenths), (3497, m_refused), (3498, m_down), (3499, m_drawn)], [(55, m_now), (56, m_kind), (57, m_height), (58, m_feet), (59, m_stride), (60, m_scope), (61, m_care), (62, m_plan), (64, m_text), (69, m_rule), (74, m_undos), (75, m_asiden6), (76, m_acts_39x)], [(65, m_row)])) dX12_show_112 ML_X12_305 Ys_X12_lay rfl (t_X12_lay_m_now_m_aside l _ hcl) (zsub_i zle_n (zle_c rfl (zle_c rfl zle_n)) zle_n) (zjok_i rfl rfl (zle_c rfl (zle_c rfl (zle_c rfl (zle_c rfl (zle_c rfl (zle_c rfl (zle_c rfl (zle_c rfl (zle_c rfl (zle_c rfl (zle_c rfl (zle_c rfl (zle_c rfl (zle_c rfl (zle_c rfl (zle_c rfl (zle_c rfl (zle_c rfl (zle_c rfl (zle_c rfl (zle_c rfl (zle_c rfl (zle_c rfl zle_n))))))))))))))))))))))) rfl rfl (zle_c rfl (zle_c rfl (zle_c rfl (zle_c rfl (zle_c rfl (zle_c rfl (zle_c rfl (zle_c rfl (zle_c rfl (zle_c rfl (zle_c rfl (zle_c rfl (zle_c rfl zle_n))))))))))))) rfl rfl (zle_c rfl zle_n)) (Nat.le_of_ble_eq_true rfl) (Nat.le_of_ble_eq_true rfl) rfl rfl ?_
          refine zJ_iconst dX12_show_115 zc_0 rfl ?_
          refine zJ_istore_n (ls' := [(3, .int (0 : Int32)), (0, .ref 54), (1, .int v1_39x)]) dX12_show_116 rfl rfl rfl ?_
          have hk117 : ∀ (v3_117x : Int32) (m_read_117x : Int32) (m_length_117x : Int32) (m_top_117x : Int32) (m_at_117x : Int32) (m_wrong_117x : Int32) (m_isAsked_117x : Int32) (m_askedHorse_117x : Int32) (m_askedFence_117x : Int32) (m_askedLetter_117x : Int32) (m_askedHeight_117x : Int32) (m_rodeTenths_117x : Int32) (m_refused_117x : Int32) (m_down_117x : Int32) (m_drawn_117x : Int32) (m_now_117x : (Nat → Int32)), k_X12_show_117 m_undoMany m_undos m_row v1_39x m_acts_39x m_asiden6 v3_117x m_read_117x m_length_117x m_top_117x m_at_117x m_wrong_117x m_isAsked_117x m_askedHorse_117x m_askedFence_117x m_askedLetter_117x m_askedHeight_117x m_rodeTenths_117x m_refused_117x m_down_117x m_drawn_117x m_now_117x = some (r, w_m_typed, w_m_rowMany, w_m_thrown, w_m_read, w_m_length, w_m_top, w_m_at, w_m_wrong, w_m_isAsked, w_m_askedHorse, w_m_askedFence, w_m_askedLetter, w_m_askedHeight, w_m_undoMany, w_m_rodeTenths, w_m_refused, w_m_down, w_m_drawn, w_m_now, w_m_undos, w_m_aside, w_m_acts, w_m_row) → zJ l zW 209 mX12_show σ ([(3457, m_fences), (3461, m_allowed), (3462, m_horses), (3466, m_plans), (3470, (0 : Int32)), (3472, m_rowMany), (3473, (0 : Int32)), (3474, m_read_117x), (3475, m_length_117x), (3476, m_top_117x), (3477, m_at_117x), (3478, m_wrong_117x), (3483, m_ruleSize), (3484, m_isAsked_117x), (3485, m_askedHorse_117x), (3486, m_askedFence_117x), (3487, m_askedLetter_117x), (3488, m_askedHeight_117x), (3494, m_undoMany), (3496, m_rodeTenths_117x), (3497, m_refused_117x), (3498, m_down_117x), (3499, m_drawn_117x)], [(55, m_now_117x), (56, m_kind), (57, m_height), (58, m_feet), (59, m_stride), (60, m_scope), (61, m_care), (62, m_plan), (64, m_text), (69, m_rule), (74, m_undos), (75, m_asiden6), (76, m_acts_39x)], [(65, m_row)]) 138 [(0, .ref 54), (1, .int v1_39x), (3, .int v3_117x)] [] (some (.int r)) ([(3457, m_fences), (3461, m_allowed), (3462, m_horses), (3466, m_plans), (3470, w_m_typed), (3472, w_m_rowMany), (3473, w_m_thrown), (3474, w_m_read), (3475, w_m_length), (3476, w_m_top), (3477, w_m_at), (3478, w_m_wrong), (3483, m_ruleSize), (3484, w_m_isAsked), (3485, w_m_askedHorse), (3486, w_m_askedFence), (3487, w_m_askedLetter), (3488, w_m_askedHeight), (3494, w_m_undoMany), (3496, w_m_rodeTenths), (3497, w_m_refused), (3498, w_m_down), (3499, w_m_drawn)], [(55, w_m_now), (56, m_kind), (57, m_height), (58, m_feet), (59, m_stride), (60, m_scope), (61, m_care), (62, m_plan), (64, m_text), (69, m_rule), (74, w_m_undos), (75, w_m_aside), (76, w_m_acts)], [(65, w_m_row)]) := by
            intro v3_117x m_read_117x m_length_117x m_top_117x m_at_117x m_wrong_117x m_isAsked_117x m_askedHorse_117x m_askedFence_117x m_askedLetter_117x m_askedHeight_117x m_rodeTenths_117x m_refused_117x m_down_117x m_drawn_117x m_now_117x h
            unfold k_X12_show_117 at h
            refine zJ_iload_n dX12_show_138 rfl rfl ?_
            have hj_X12_show_150 : ∀ (m_undoMany_150j : Int32) (m_undos_150j : (Nat → Int32)), j_X12_show_150 m_row v1_39x m_acts_39x m_asiden6 v3_117x m_read_117x m_length_117x m_top_117x m_at_117x m_wrong_117x m_isAsked_117x m_askedHorse_117x m_askedFence_117x m_askedLetter_117x m_askedHeight_117x m_rodeTenths_117x m_refused_117x m_down_117x m_drawn_117x m_now_117x m_undoMany_150j m_undos_150j = some (r, w_m_typed, w_m_rowMany, w_m_thrown, w_m_read, w_m_length, w_m_top, w_m_at, w_m_wrong, w_m_isAsked, w_m_askedHorse, w_m_askedFence, w_m_askedLetter, w_m_askedHeight, w_m_undoMany, w_m_rodeTenths, w_m_refused, w_m_down, w_m_drawn, w_m_now, w_m_undos, w_m_aside, w_m_acts, w_m_row) → zJ l zW 209 mX12_show σ ([(3457, m_fences), (3461, m_allowed), (3462, m_horses), (3466, m_plans), (3470, (0 : Int32)), (3472, m_rowMany), (3473, (0 : Int32)), (3474, m_read_117x), (3475, m_length_117x), (3476, m_top_117x), (3477, m_at_117x), (3478, m_wrong_117x), (3483, m_ruleSize), (3484, m_isAsked_117x), (3485, m_askedHorse_117x), (3486, m_askedFence_117x), (3487, m_askedLetter_117x), (3488, m_askedHeight_117x), (3494, m_undoMany_150j), (3496, m_rodeTenths_117x), (3497, m_refused_117x), (3498, m_down_117x), (3499, m_drawn_117x)], [(55, m_now_117x), (56, m_kind), (57, m_height), (58, m_feet), (59, m_stride), (60, m_scope), (61, m_care), (62, m_plan), (64, m_text), (69, m_rule), (74, m_undos_150j), (75, m_asiden6), (76, m_acts_39x)], [(65, m_row)]) 150 [(0, .ref 54), (1, .int v1_39x), (3, .int v3_117x)] [] (some (.int r)) ([(3457, m_fences), (3461, m_allowed), (3462, m_horses), (3466, m_plans), (3470, w_m_typed), (3472, w_m_rowMany), (3473, w_m_thrown), (3474, w_m_read), (3475, w_m_length), (3476, w_m_top), (3477, w_m_at), (3478, w_m_wrong), (3483, m_ruleSize), (3484, w_m_isAsked), (3485, w_m_askedHorse), (3486, w_m_askedFence), (3487, w_m_askedLetter), (3488, w_m_askedHeight), (3494, w_m_undoMany), (3496, w_m_rodeTenths), (3497, w_m_refused), (3498, w_m_down), (3499, w_m_drawn)], [(55, w_m_now), (56, m_kind), (57, m_height), (58, m_feet), (59, m_stride), (60, m_scope), (61, m_care), (62, m_plan), (64, m_text), (69, m_rule), (74, w_m_undos), (75, w_m_aside), (76, w_m_acts)], [(65, w_m_row)]) := by
              intro m_undoMany_150j m_undos_150j h
              unfold j_X12_show_150 at h
              refine zJ_aload_n dX12_show_150 rfl rfl ?_
              refine zJ_iconst dX12_show_151 zc_0 rfl ?_
              refine zK_puti (mi := mX12_show) (la' := [(3457, m_fences), (3461, m_allowed), (3462, m_horses), (3466, m_plans), (3470, (0 : Int32)), (3472, (0 : Int32)), (3473, (0 : Int32)), (3474, m_read_117x), (3475, m_length_117x), (3476, m_top_117x), (3477, m_at_117x), (3478, m_wrong_117x), (3483, m_ruleSize), (3484, m_isAsked_117x), (3485, m_askedHorse_117x), (3486, m_askedFence_117x), (3487, m_askedLetter_117x), (3488, m_askedHeight_117x), (3494, m_undoMany_150j), (3496, m_rodeTenths_117x), (3497, m_refused_117x), (3498, m_down_117x), (3499, m_drawn_117x)]) zW_ok dX12_show_152 F_X12_116 P_12_16 zW_54 rfl rfl rfl ?_
              refine zJ_aload_n dX12_show_155 rfl rfl ?_
              refine zJ_iload_n dX12_show_156 rfl rfl ?_
              refine zJ_iload_n dX12_show_157 rfl rfl ?_
              refine zJ_icmp_ge (tgt := 165) dX12_show_158 (by decide) rfl (fun hc => ?_) (fun hc => ?_)
              · replace h := it_t hc h
                refine zJ_lconst dX12_show_165 zl_0 rfl ?_
                obtain ⟨m_rowManyn7, m_rown8, hcl, h⟩ := bd2_some h
                refine zJ_callV2 (σ := σ) (L := ([(3457, m_fences), (3461, m_allowed), (3462, m_horses), (3466, m_plans), (3470, (0 : Int32)), (3472, (0 : Int32)), (3473, (0 : Int32)), (3474, m_read_117x), (3475, m_length_117x), (3476, m_top_117x), (3477, m_at_117x), (3478, m_wrong_117x), (3483, m_ruleSize), (3484, m_isAsked_117x), (3485, m_askedHorse_117x), (3486, m_askedFence_117x), (3487, m_askedLetter_117x), (3488, m_askedHeight_117x), (3494, m_undoMany_150j), (3496, m_rodeTenths_117x), (3497, m_refused_117x), (3498, m_down_117x), (3499, m_drawn_117x)], [(55, m_now_117x), (56, m_kind), (57, m_height), (58, m_feet), (59, m_stride), (60, m_scope), (61, m_care), (62, m_plan), (64, m_text), (69, m_rule), (74, m_undos_150j), (75, m_asiden6), (76, m_acts_39x)], [(65, m_row)])) (mi := mX12_show) (yi := mX12_tell) (as := [.long (0 : Int64)]) (st := []) (L2 := ([(3457, m_fences), (3461, m_allowed), (3462, m_horses), (3466, m_plans), (3470, (0 : Int32)), (3472, m_rowManyn7), (3473, (0 : Int32)), (3474, m_read_117x), (3475, m_length_117x), (3476, m_top_117x), (3477, m_at_117x), (3478, m_wrong_117x), (3483, m_ruleSize), (3484, m_isAsked_117x), (3485, m_askedHorse_117x), (3486, m_askedFence_117x), (3487, m_askedLetter_117x), (3488, m_askedHeight_117x), (3494, m_undoMany_150j), (3496, m_rodeTenths_117x), (3497, m_refused_117x), (3498, m_down_117x), (3499, m_drawn_117x)], [(55, m_now_117x), (56, m_kind), (57, m_height), (58, m_feet), (59, m_stride), (60, m_scope), (61, m_care), (62, m_plan), (64, m_text), (69, m_rule), (74, m_undos_150j), (75, m_asiden6), (76, m_acts_39x)], [(65, m_rown8)])) dX12_show_166 ML_X12_265 Yv_X12_tell rfl zW_54 rfl rfl (t_X12_tell l _ hcl) (zsub_i (zle_c rfl zle_n) zle_n (zle_c rfl zle_n)) (zjok_i rfl rfl (zle_c rfl (zle_c rfl (zle_c rfl (zle_c rfl (zle_c rfl (zle_c rfl (zle_c rfl (zle_c rfl (zle_c rfl (zle_c rfl (zle_c rfl (zle_c rfl (zle_c rfl (zle_c rfl (zle_c rfl (zle_c rfl (zle_c rfl (zle_c rfl (zle_c rfl (zle_c rfl (zle_c rfl (zle_c rfl (zle_c rfl zle_n))))))))))))))))))))))) rfl rfl (zle_c rfl (zle_c rfl (zle_c rfl (zle_c rfl (zle_c rfl (zle_c rfl (zle_c rfl (zle_c rfl (zle_c rfl (zle_c rfl (zle_c rfl (zle_c rfl (zle_c rfl zle_n))))))))))))) rfl rfl (zle_c rfl zle_n)) (Nat.le_of_ble_eq_true rfl) (Nat.le_of_ble_eq_true rfl) rfl rfl ?_
                refine zJ_aload_n dX12_show_169 rfl rfl ?_
                refine zJ_aload_n dX12_show_170 rfl rfl ?_
                refine zJ_getr (mi := mX12_show) dX12_show_171 F_X12_9 zW_54 rfl rfl ?_
                refine zJ_bipush dX12_show_174 zb_48 rfl ?_
                obtain ⟨hg, h⟩ := gd_some h
                refine zJ_iald (mi := mX12_show) (f := m_now_117x) dX12_show_176 zW_55 (ix_in hg) rfl rfl ?_
                refine zJ_i2l dX12_show_177 rfl ?_
                obtain ⟨m_rowManyn9, m_rown10, hcl, h⟩ := bd2_some h
                refine zJ_callV2 (σ := σ) (L := ([(3457, m_fences), (3461, m_allowed), (3462, m_horses), (3466, m_plans), (3470, (0 : Int32)), (3472, m_rowManyn7), (3473, (0 : Int32)), (3474, m_read_117x), (3475, m_length_117x), (3476, m_top_117x), (3477, m_at_117x), (3478, m_wrong_117x), (3483, m_ruleSize), (3484, m_isAsked_117x), (3485, m_askedHorse_117x), (3486, m_askedFence_117x), (3487, m_askedLetter_117x), (3488, m_askedHeight_117x), (3494, m_undoMany_150j), (3496, m_rodeTenths_117x), (3497, m_refused_117x), (3498, m_down_117x), (3499, m_drawn_117x)], [(55, m_now_117x), (56, m_kind), (57, m_height), (58, m_feet), (59, m_stride), (60, m_scope), (61, m_care), (62, m_plan), (64, m_text), (69, m_rule), (74, m_undos_150j), (75, m_asiden6), (76, m_acts_39x)], [(65, m_rown8)])) (mi := mX12_show) (yi := mX12_tell) (as := [.long ((m_now_117x (48 : Int32).toNatClampNeg)).toInt64]) (st := []) (L2 := ([(3457, m_fences), (3461, m_allowed), (3462, m_horses), (3466, m_plans), (3470, (0 : Int32)), (3472, m_rowManyn9), (3473, (0 : Int32)), (3474, m_read_117x), (3475, m_length_117x), (3476, m_top_117x), (3477, m_at_117x), (3478, m_wrong_117x), (3483, m_ruleSize), (3484, m_isAsked_117x), (3485, m_askedHorse_117x), (3486, m_askedFence_117x), (3487, m_askedLetter_117x), (3488, m_askedHeight_117x), (3494, m_undoMany_150j), (3496, m_rodeTenths_117x), (3497, m_refused_117x), (3498, m_down_117x), (3499, m_drawn_117x)], [(55, m_now_117x), (56, m_kind), (57, m_height), (58, m_feet), (59, m_stride), (60, m_scope), (61, m_care), (62, m_plan), (64, m_text), (69, m_rule), (74, m_undos_150j), (75, m_asiden6), (76, m_acts_39x)], [(65, m_rown10)])) dX12_show_178 ML_X12_265 Yv_X12_tell rfl zW_54 rfl rfl (t_X12_tell l _ hcl) (zsub_i (zle_c rfl zle_n) zle_n (zle_c rfl zle_n)) (zjok_i rfl rfl (zle_c rfl (zle_c rfl (zle_c rfl (zle_c rfl (zle_c rfl (zle_c rfl (zle_c rfl (zle_c rfl (zle_c rfl (zle_c rfl (zle_c rfl (zle_c rfl (zle_c rfl (zle_c rfl (zle_c rfl (zle_c rfl (zle_c rfl (zle_c rfl (zle_c rfl (zle_c rfl (zle_c rfl (zle_c rfl (zle_c rfl zle_n))))))))))))))))))))))) rfl rfl (zle_c rfl (zle_c rfl (zle_c rfl (zle_c rfl (zle_c rfl (zle_c rfl (zle_c rfl (zle_c rfl (zle_c rfl (zle_c rfl (zle_c rfl (zle_c rfl (zle_c rfl zle_n))))))))))))) rfl rfl (zle_c rfl zle_n)) (Nat.le_of_ble_eq_true rfl) (Nat.le_of_ble_eq_true rfl) rfl rfl ?_
                refine zJ_iload_n dX12_show_181 rfl rfl ?_
                obtain ⟨rfl, rfl, rfl, rfl, rfl, rfl, rfl, rfl, rfl, rfl, rfl, rfl, rfl, rfl, rfl, rfl, rfl, rfl, rfl, rfl, rfl, rfl, rfl, rfl⟩ := so24 h
                exact zJ_iret dX12_show_182 rfl rfl
              · replace h := it_f hc h
                refine zJ_lconst dX12_show_161 zl_1 rfl ?_
                refine zJ_goto (tgt := 166) dX12_show_162 (by decide) ?_
                obtain ⟨m_rowManyn11, m_rown12, hcl, h⟩ := bd2_some h
                refine zJ_callV2 (σ := σ) (L := ([(3457, m_fences), (3461, m_allowed), (3462, m_horses), (3466, m_plans), (3470, (0 : Int32)), (3472, (0 : Int32)), (3473, (0 : Int32)), (3474, m_read_117x), (3475, m_length_117x), (3476, m_top_117x), (3477, m_at_117x), (3478, m_wrong_117x), (3483, m_ruleSize), (3484, m_isAsked_117x), (3485, m_askedHorse_117x), (3486, m_askedFence_117x), (3487, m_askedLetter_117x), (3488, m_askedHeight_117x), (3494, m_undoMany_150j), (3496, m_rodeTenths_117x), (3497, m_refused_117x), (3498, m_down_117x), (3499, m_drawn_117x)], [(55, m_now_117x), (56, m_kind), (57, m_height), (58, m_feet), (59, m_stride), (60, m_scope), (61, m_care), (62, m_plan), (64, m_text), (69, m_rule), (74, m_undos_150j), (75, m_asiden6), (76, m_acts_39x)], [(65, m_row)])) (mi := mX12_show) (yi := mX12_tell) (as := [.long (1 : Int64)]) (st := []) (L2 := ([(3457, m_fences), (3461, m_allowed), (3462, m_horses), (3466, m_plans), (3470, (0 : Int32)), (3472, m_rowManyn11), (3473, (0 : Int32)), (3474, m_read_117x), (3475, m_length_117x), (3476, m_top_117x), (3477, m_at_117x), (3478, m_wrong_117x), (3483, m_ruleSize), (3484, m_isAsked_117x), (3485, m_askedHorse_117x), (3486, m_askedFence_117x), (3487, m_askedLetter_117x), (3488, m_askedHeight_117x), (3494, m_undoMany_150j), (3496, m_rodeTenths_117x), (3497, m_refused_117x), (3498, m_down_117x), (3499, m_drawn_117x)], [(55, m_now_117x), (56, m_kind), (57, m_height), (58, m_feet), (59, m_stride), (60, m_scope), (61, m_care), (62, m_plan), (64, m_text), (69, m_rule), (74, m_undos_150j), (75, m_asiden6), (76, m_acts_39x)], [(65, m_rown12)])) dX12_show_166 ML_X12_265 Yv_X12_tell rfl zW_54 rfl rfl (t_X12_tell l _ hcl) (zsub_i (zle_c rfl zle_n) zle_n (zle_c rfl zle_n)) (zjok_i rfl rfl (zle_c rfl (zle_c rfl (zle_c rfl (zle_c rfl (zle_c rfl (zle_c rfl (zle_c rfl (zle_c rfl (zle_c rfl (zle_c rfl (zle_c rfl (zle_c rfl (zle_c rfl (zle_c rfl (zle_c rfl (zle_c rfl (zle_c rfl (zle_c rfl (zle_c rfl (zle_c rfl (zle_c rfl (zle_c rfl (zle_c rfl zle_n))))))))))))))))))))))) rfl rfl (zle_c rfl (zle_c rfl (zle_c rfl (zle_c rfl (zle_c rfl (zle_c rfl (zle_c rfl (zle_c rfl (zle_c rfl (zle_c rfl (zle_c rfl (zle_c rfl (zle_c rfl zle_n))))))))))))) rfl rfl (zle_c rfl zle_n)) (Nat.le_of_ble_eq_true rfl) (Nat.le_of_ble_eq_true rfl) rfl rfl ?_
                refine zJ_aload_n dX12_show_169 rfl rfl ?_
                refine zJ_aload_n dX12_show_170 rfl rfl ?_
                refine zJ_getr (mi := mX12_show) dX12_show_171 F_X12_9 zW_54 rfl rfl ?_
                refine zJ_bipush dX12_show_174 zb_48 rfl ?_
                obtain ⟨hg, h⟩ := gd_some h
                refine zJ_iald (mi := mX12_show) (f := m_now_117x) dX12_show_176 zW_55 (ix_in hg) rfl rfl ?_
                refine zJ_i2l dX12_show_177 rfl ?_
                obtain ⟨m_rowManyn13, m_rown14, hcl, h⟩ := bd2_some h
                refine zJ_callV2 (σ := σ) (L := ([(3457, m_fences), (3461, m_allowed), (3462, m_horses), (3466, m_plans), (3470, (0 : Int32)), (3472, m_rowManyn11), (3473, (0 : Int32)), (3474, m_read_117x), (3475, m_length_117x), (3476, m_top_117x), (3477, m_at_117x), (3478, m_wrong_117x), (3483, m_ruleSize), (3484, m_isAsked_117x), (3485, m_askedHorse_117x), (3486, m_askedFence_117x), (3487, m_askedLetter_117x), (3488, m_askedHeight_117x), (3494, m_undoMany_150j), (3496, m_rodeTenths_117x), (3497, m_refused_117x), (3498, m_down_117x), (3499, m_drawn_117x)], [(55, m_now_117x), (56, m_kind), (57, m_height), (58, m_feet), (59, m_stride), (60, m_scope), (61, m_care), (62, m_plan), (64, m_text), (69, m_rule), (74, m_undos_150j), (75, m_asiden6), (76, m_acts_39x)], [(65, m_rown12)])) (mi := mX12_show) (yi := mX12_tell) (as := [.long ((m_now_117x (48 : Int32).toNatClampNeg)).toInt64]) (st := []) (L2 := ([(3457, m_fences), (3461, m_allowed), (3462, m_horses), (3466, m_plans), (3470, (0 : Int32)), (3472, m_rowManyn13), (3473, (0 : Int32)), (3474, m_read_117x), (3475, m_length_117x), (3476, m_top_117x), (3477, m_at_117x), (3478, m_wrong_117x), (3483, m_ruleSize), (3484, m_isAsked_117x), (3485, m_askedHorse_117x), (3486, m_askedFence_117x), (3487, m_askedLetter_117x), (3488, m_askedHeight_117x), (3494, m_undoMany_150j), (3496, m_rodeTenths_117x), (3497, m_refused_117x), (3498, m_down_117x), (3499, m_drawn_117x)], [(55, m_now_117x), (56, m_kind), (57, m_height), (58, m_feet), (59, m_stride), (60, m_scope), (61, m_care), (62, m_plan), (64, m_text), (69, m_rule), (74, m_undos_150j), (75, m_asiden6), (76, m_acts_39x)], [(65, m_rown14)])) dX12_show_178 ML_X12_265 Yv_X12_tell rfl zW_54 rfl rfl (t_X12_tell l _ hcl) (zsub_i (zle_c rfl zle_n) zle_n (zle_c rfl zle_n)) (zjok_i rfl rfl (zle_c rfl (zle_c rfl (zle_c rfl (zle_c rfl (zle_c rfl (zle_c rfl (zle_c rfl (zle_c rfl (zle_c rfl (zle_c rfl (zle_c rfl (zle_c rfl (zle_c rfl (zle_c rfl (zle_c rfl (zle_c rfl (zle_c rfl (zle_c rfl (zle_c rfl (zle_c rfl (zle_c rfl (zle_c rfl (zle_c rfl zle_n))))))))))))))))))))))) rfl rfl (zle_c rfl (zle_c rfl (zle_c rfl (zle_c rfl (zle_c rfl (zle_c rfl (zle_c rfl (zle_c rfl (zle_c rfl (zle_c rfl (zle_c rfl (zle_c rfl (zle_c rfl zle_n))))))))))))) rfl rfl (zle_c rfl zle_n)) (Nat.le_of_ble_eq_true rfl) (Nat.le_of_ble_eq_true rfl) rfl rfl ?_
                refine zJ_iload_n dX12_show_181 rfl rfl ?_
                obtain ⟨rfl, rfl, rfl, rfl, rfl, rfl, rfl, rfl, rfl, rfl, rfl, rfl, rfl, rfl, rfl, rfl, rfl, rfl, rfl, rfl, rfl, rfl, rfl, rfl⟩ := so24 h
                exact zJ_iret dX12_show_182 rfl rfl
            refine zJ_if_le (tgt := 150) dX12_show_139 (by decide) rfl (fun hc => ?_) (fun hc => ?_)
            · replace h := it_t hc h
              refine zJ_loc (ls' := [(0, .ref 54), (1, .int v1_39x), (3, .int v3_117x)]) (zll_c rfl (zll_c rfl (zll_c rfl zll_n))) ?_
              exact hj_X12_show_150 _ _ h
            · replace h := it_f hc h
              refine zJ_aload_n dX12_show_142 rfl rfl ?_
              refine zJ_aload_n dX12_show_143 rfl rfl ?_
              refine zJ_getr (mi := mX12_show) dX12_show_144 F_X12_76 zW_54 rfl rfl ?_
              obtain ⟨m_undoManyn15, m_undosn16, hcl, h⟩ := bd2_some h
              refine zJ_callV2 (σ := σ) (L := ([(3457, m_fences), (3461, m_allowed), (3462, m_horses), (3466, m_plans), (3470, (0 : Int32)), (3472, m_rowMany), (3473, (0 : Int32)), (3474, m_read_117x), (3475, m_length_117x), (3476, m_top_117x), (3477, m_at_117x), (3478, m_wrong_117x), (3483, m_ruleSize), (3484, m_isAsked_117x), (3485, m_askedHorse_117x), (3486, m_askedFence_117x), (3487, m_askedLetter_117x), (3488, m_askedHeight_117x), (3494, m_undoMany), (3496, m_rodeTenths_117x), (3497, m_refused_117x), (3498, m_down_117x), (3499, m_drawn_117x)], [(55, m_now_117x), (56, m_kind), (57, m_height), (58, m_feet), (59, m_stride), (60, m_scope), (61, m_care), (62, m_plan), (64, m_text), (69, m_rule), (74, m_undos), (75, m_asiden6), (76, m_acts_39x)], [(65, m_row)])) (mi := mX12_show) (yi := mX12_remember) (as := [.ref 75]) (st := []) (L2 := ([(3457, m_fences), (3461, m_allowed), (3462, m_horses), (3466, m_plans), (3470, (0 : Int32)), (3472, m_rowMany), (3473, (0 : Int32)), (3474, m_read_117x), (3475, m_length_117x), (3476, m_top_117x), (3477, m_at_117x), (3478, m_wrong_117x), (3483, m_ruleSize), (3484, m_isAsked_117x), (3485, m_askedHorse_117x), (3486, m_askedFence_117x), (3487, m_askedLetter_117x), (3488, m_askedHeight_117x), (3494, m_undoManyn15), (3496, m_rodeTenths_117x), (3497, m_refused_117x), (3498, m_down_117x), (3499, m_drawn_117x)], [(55, m_now_117x), (56, m_kind), (57, m_height), (58, m_feet), (59, m_stride), (60, m_scope), (61, m_care), (62, m_plan), (64, m_text), (69, m_rule), (74, m_undosn16), (75, m_asiden6), (76, m_acts_39x)], [(65, m_row)])) dX12_show_147 ML_X12_331 Yv_X12_remember rfl zW_54 rfl rfl (t_X12_remember_m_aside l _ hcl) (zsub_i (zle_c rfl zle_n) (zle_c rfl (zle_c rfl zle_n)) zle_n) (zjok_i rfl rfl (zle_c rfl (zle_c rfl (zle_c rfl (zle_c rfl (zle_c rfl (zle_c rfl (zle_c rfl (zle_c rfl (zle_c rfl (zle_c rfl (zle_c rfl (zle_c rfl (zle_c rfl (zle_c rfl (zle_c rfl (zle_c rfl (zle_c rfl (zle_c rfl (zle_c rfl (zle_c rfl (zle_c rfl (zle_c rfl (zle_c rfl zle_n))))))))))))))))))))))) rfl rfl (zle_c rfl (zle_c rfl (zle_c rfl (zle_c rfl (zle_c rfl (zle_c rfl (zle_c rfl (zle_c rfl (zle_c rfl (zle_c rfl (zle_c rfl (zle_c rfl (zle_c rfl zle_n))))))))))))) rfl rfl (zle_c rfl zle_n)) (Nat.le_of_ble_eq_true rfl) (Nat.le_of_ble_eq_true rfl) rfl rfl ?_
              refine zJ_loc (ls' := [(0, .ref 54), (1, .int v1_39x), (3, .int v3_117x)]) (zll_c rfl (zll_c rfl (zll_c rfl zll_n))) ?_
              exact hj_X12_show_150 _ _ h
          refine zJ_loc (ls' := [(0, .ref 54), (1, .int v1_39x), (3, .int (0 : Int32))]) (zll_c rfl (zll_c rfl (zll_c rfl zll_n))) ?_
          refine ml16_J (fun (v3_117 : Int32) (m_read_117 : Int32) (m_length_117 : Int32) (m_top_117 : Int32) (m_at_117 : Int32) (m_wrong_117 : Int32) (m_isAsked_117 : Int32) (m_askedHorse_117 : Int32) (m_askedFence_117 : Int32) (m_askedLetter_117 : Int32) (m_askedHeight_117 : Int32) (m_rodeTenths_117 : Int32) (m_refused_117 : Int32) (m_down_117 : Int32) (m_drawn_117 : Int32) (m_now_117 : (Nat → Int32)) => zJ l zW 209 mX12_show σ ([(3457, m_fences), (3461, m_allowed), (3462, m_horses), (3466, m_plans), (3470, (0 : Int32)), (3472, m_rowMany), (3473, (0 : Int32)), (3474, m_read_117), (3475, m_length_117), (3476, m_top_117), (3477, m_at_117), (3478, m_wrong_117), (3483, m_ruleSize), (3484, m_isAsked_117), (3485, m_askedHorse_117), (3486, m_askedFence_117), (3487, m_askedLetter_117), (3488, m_askedHeight_117), (3494, m_undoMany), (3496, m_rodeTenths_117), (3497, m_refused_117), (3498, m_down_117), (3499, m_drawn_117)], [(55, m_now_117), (56, m_kind), (57, m_height), (58, m_feet), (59, m_stride), (60, m_scope), (61, m_care), (62, m_plan), (64, m_text), (69, m_rule), (74, m_undos), (75, m_asiden6), (76, m_acts_39x)], [(65, m_row)]) 117 [(0, .ref 54), (1, .int v1_39x), (3, .int v3_117)] [] (some (.int r)) ([(3457, m_fences), (3461, m_allowed), (3462, m_horses), (3466, m_plans), (3470, w_m_typed), (3472, w_m_rowMany), (3473, w_m_thrown), (3474, w_m_read), (3475, w_m_length), (3476, w_m_top), (3477, w_m_at), (3478, w_m_wrong), (3483, m_ruleSize), (3484, w_m_isAsked), (3485, w_m_askedHorse), (3486, w_m_askedFence), (3487, w_m_askedLetter), (3488, w_m_askedHeight), (3494, w_m_undoMany), (3496, w_m_rodeTenths), (3497, w_m_refused), (3498, w_m_down), (3499, w_m_drawn)], [(55, w_m_now), (56, m_kind), (57, m_height), (58, m_feet), (59, m_stride), (60, m_scope), (61, m_care), (62, m_plan), (64, m_text), (69, m_rule), (74, w_m_undos), (75, w_m_aside), (76, w_m_acts)], [(65, w_m_row)])) (fun rc117 hrc117 v3_117 m_read_117 m_length_117 m_top_117 m_at_117 m_wrong_117 m_isAsked_117 m_askedHorse_117 m_askedFence_117 m_askedLetter_117 m_askedHeight_117 m_rodeTenths_117 m_refused_117 m_down_117 m_drawn_117 m_now_117 h => ?_) zN _ _ _ _ _ _ _ _ _ _ _ _ _ _ _ _ h
          unfold s_X12_show_117 at h
          refine zJ_iload_n dX12_show_117 rfl rfl ?_
          refine zJ_iload_n dX12_show_118 rfl rfl ?_
          refine zJ_icmp_ge (tgt := 138) dX12_show_119 (by decide) rfl (fun hc => ?_) (fun hc => ?_)
          · replace h := it_t hc h
            refine zJ_loc (ls' := [(0, .ref 54), (1, .int v1_39x), (3, .int v3_117)]) (zll_c rfl (zll_c rfl (zll_c rfl zll_n))) ?_
            exact hk117 _ _ _ _ _ _ _ _ _ _ _ _ _ _ _ _ h
          · replace h := it_f hc h
            refine zJ_aload_n dX12_show_122 rfl rfl ?_
            refine zJ_iconst dX12_show_123 zc_5 rfl ?_
            refine zJ_iload_n dX12_show_124 rfl rfl ?_
            refine zJ_imul dX12_show_125 rfl ?_
            obtain ⟨rn17, m_readn18, m_lengthn19, m_topn20, m_atn21, m_wrongn22, m_isAskedn23, m_askedHorsen24, m_askedFencen25, m_askedLettern26, m_askedHeightn27, m_rodeTenthsn28, m_refusedn29, m_downn30, m_drawnn31, m_nown32, hcl, h⟩ := bd16_some h
            refine zJ_callV2 (σ := σ) (L := ([(3457, m_fences), (3461, m_allowed), (3462, m_horses), (3466, m_plans), (3470, (0 : Int32)), (3472, m_rowMany), (3473, (0 : Int32)), (3474, m_read_117), (3475, m_length_117), (3476, m_top_117), (3477, m_at_117), (3478, m_wrong_117), (3483, m_ruleSize), (3484, m_isAsked_117), (3485, m_askedHorse_117), (3486, m_askedFence_117), (3487, m_askedLetter_117), (3488, m_askedHeight_117), (3494, m_undoMany), (3496, m_rodeTenths_117), (3497, m_refused_117), (3498, m_down_117), (3499, m_drawn_117)], [(55, m_now_117), (56, m_kind), (57, m_height), (58, m_feet), (59, m_stride), (60, m_scope), (61, m_care), (62, m_plan), (64, m_text), (69, m_rule), (74, m_undos), (75, m_asiden6), (76, m_acts_39x)], [(65, m_row)])) (mi := mX12_show) (yi := mX12_act) (as := [.int ((5 : Int32) * v3_117)]) (st := []) (L2 := ([(3457, m_fences), (3461, m_allowed), (3462, m_horses), (3466, m_plans), (3470, (0 : Int32)), (3472, m_rowMany), (3473, (0 : Int32)), (3474, m_readn18), (3475, m_lengthn19), (3476, m_topn20), (3477, m_atn21), (3478, m_wrongn22), (3483, m_ruleSize), (3484, m_isAskedn23), (3485, m_askedHorsen24), (3486, m_askedFencen25), (3487, m_askedLettern26), (3488, m_askedHeightn27), (3494, m_undoMany), (3496, m_rodeTenthsn28), (3497, m_refusedn29), (3498, m_downn30), (3499, m_drawnn31)], [(55, m_nown32), (56, m_kind), (57, m_height), (58, m_feet), (59, m_stride), (60, m_scope), (61, m_care), (62, m_plan), (64, m_text), (69, m_rule), (74, m_undos), (75, m_asiden6), (76, m_acts_39x)], [(65, m_row)])) dX12_show_126 ML_X12_351 Yv_X12_act rfl zW_54 rfl rfl (t_X12_act l _ hcl) (zsub_i (zle_c rfl (zle_c rfl (zle_c rfl (zle_c rfl (zle_c rfl (zle_c rfl (zle_c rfl (zle_c rfl (zle_c rfl (zle_c rfl (zle_c rfl (zle_c rfl (zle_c rfl (zle_c rfl (zle_c rfl (zle_c rfl (zle_c rfl (zle_c rfl (zle_c rfl zle_n))))))))))))))))))) (zle_c rfl (zle_c rfl (zle_c rfl (zle_c rfl (zle_c rfl (zle_c rfl (zle_c rfl (zle_c rfl (zle_c rfl (zle_c rfl zle_n)))))))))) zle_n) (zjok_i rfl rfl (zle_c rfl (zle_c rfl (zle_c rfl (zle_c rfl (zle_c rfl (zle_c rfl (zle_c rfl (zle_c rfl (zle_c rfl (zle_c rfl (zle_c rfl (zle_c rfl (zle_c rfl (zle_c rfl (zle_c rfl (zle_c rfl (zle_c rfl (zle_c rfl (zle_c rfl (zle_c rfl (zle_c rfl (zle_c rfl (zle_c rfl zle_n))))))))))))))))))))))) rfl rfl (zle_c rfl (zle_c rfl (zle_c rfl (zle_c rfl (zle_c rfl (zle_c rfl (zle_c rfl (zle_c rfl (zle_c rfl (zle_c rfl (zle_c rfl (zle_c rfl (zle_c rfl zle_n))))))))))))) rfl rfl (zle_c rfl zle_n)) (Nat.le_of_ble_eq_true rfl) (Nat.le_of_ble_eq_true rfl) rfl rfl ?_
            refine zJ_if_eq (tgt := 138) dX12_show_129 (by decide) rfl (fun hc => ?_) (fun hc => ?_)
            · replace h := it_t hc h
              refine zJ_loc (ls' := [(0, .ref 54), (1, .int v1_39x), (3, .int v3_117)]) (zll_c rfl (zll_c rfl (zll_c rfl zll_n))) ?_
              exact hk117 _ _ _ _ _ _ _ _ _ _ _ _ _ _ _ _ h
            · replace h := it_f hc h
              obtain ⟨v3n33, ev3n33, h⟩ := lt1_some h
              refine zJ_iincN (ls' := [(3, .int v3n33), (0, .ref 54), (1, .int v1_39x)]) dX12_show_132 rfl rfl zc_1 ev3n33 rfl rfl ?_
              refine zJ_goto (tgt := 117) dX12_show_135 (by decide) ?_
              refine zJ_loc (ls' := [(0, .ref 54), (1, .int v1_39x), (3, .int v3n33)]) (zll_c rfl (zll_c rfl (zll_c rfl zll_n))) ?_
              exact hrc117 _ _ _ _ _ _ _ _ _ _ _ _ _ _ _ _ h
        · replace h := it_t hc h
          refine zJ_iconst dX12_show_96 zc_m1 rfl ?_
          refine zJ_aload_n dX12_show_97 rfl rfl ?_
          refine zJ_geti (mi := mX12_show) (x := m_wrong_89j) dX12_show_98 F_X12_154 zW_54 rfl rfl rfl ?_
          refine zJ_isub dX12_show_101 rfl ?_
          obtain ⟨rfl, rfl, rfl, rfl, rfl, rfl, rfl, rfl, rfl, rfl, rfl, rfl, rfl, rfl, rfl, rfl, rfl, rfl, rfl, rfl, rfl, rfl, rfl, rfl⟩ := so24 h
          exact zJ_iret dX12_show_102 rfl rfl
      refine zJ_icmp_ge (tgt := 89) dX12_show_78 (by decide) rfl (fun hc => ?_) (fun hc => ?_)
      · replace h := it_t hc h
        refine zJ_loc (ls' := [(0, .ref 54), (1, .int v1_39x)]) (zll_c rfl (zll_c rfl zll_n)) ?_
        exact hj_X12_show_89 _ h
      · replace h := it_f hc h
        refine zJ_aload_n dX12_show_81 rfl rfl ?_
        refine zJ_aload_n dX12_show_82 rfl rfl ?_
        refine zJ_geti (mi := mX12_show) (x := m_at_39x) dX12_show_83 F_X12_151 zW_54 rfl rfl rfl ?_
        obtain ⟨m_wrongn34, hcl, h⟩ := bd1_some h
        refine zJ_callV2 (σ := σ) (L := ([(3457, m_fences), (3461, m_allowed), (3462, m_horses), (3466, m_plans), (3470, (0 : Int32)), (3472, m_rowMany), (3473, (0 : Int32)), (3474, (nI 64)), (3475, m_lengthn1), (3476, m_topn2), (3477, m_at_39x), (3478, m_wrong_39x), (3483, m_ruleSize), (3484, m_isAsked), (3485, m_askedHorse), (3486, m_askedFence), (3487, m_askedLetter), (3488, m_askedHeight), (3494, m_undoMany), (3496, m_rodeTenths), (3497, m_refused), (3498, m_down), (3499, m_drawn)], [(55, m_now), (56, m_kind), (57, m_height), (58, m_feet), (59, m_stride), (60, m_scope), (61, m_care), (62, m_plan), (64, m_text), (69, m_rule), (74, m_undos), (75, m_aside), (76, m_acts_39x)], [(65, m_row)])) (mi := mX12_show) (yi := mX12_fault) (as := [.int m_at_39x]) (st := []) (L2 := ([(3457, m_fences), (3461, m_allowed), (3462, m_horses), (3466, m_plans), (3470, (0 : Int32)), (3472, m_rowMany), (3473, (0 : Int32)), (3474, (nI 64)), (3475, m_lengthn1), (3476, m_topn2), (3477, m_at_39x), (3478, m_wrongn34), (3483, m_ruleSize), (3484, m_isAsked), (3485, m_askedHorse), (3486, m_askedFence), (3487, m_askedLetter), (3488, m_askedHeight), (3494, m_undoMany), (3496, m_rodeTenths), (3497, m_refused), (3498, m_down), (3499, m_drawn)], [(55, m_now), (56, m_kind), (57, m_height), (58, m_feet), (59, m_stride), (60, m_scope), (61, m_care), (62, m_plan), (64, m_text), (69, m_rule), (74, m_undos), (75, m_aside), (76, m_acts_39x)], [(65, m_row)])) dX12_show_86 ML_X12_169 Yv_X12_fault rfl zW_54 rfl rfl (t_X12_fault l _ hcl) (zsub_i (zle_c rfl zle_n) zle_n zle_n) (zjok_i rfl rfl (zle_c rfl (zle_c rfl (zle_c rfl (zle_c rfl (zle_c rfl (zle_c rfl (zle_c rfl (zle_c rfl (zle_c rfl (zle_c rfl (zle_c rfl (zle_c rfl (zle_c rfl (zle_c rfl (zle_c rfl (zle_c rfl (zle_c rfl (zle_c rfl (zle_c rfl (zle_c rfl (zle_c rfl (zle_c rfl (zle_c rfl zle_n))))))))))))))))))))))) rfl rfl (zle_c rfl (zle_c rfl (zle_c rfl (zle_c rfl (zle_c rfl (zle_c rfl (zle_c rfl (zle_c rfl (zle_c rfl (zle_c rfl (zle_c rfl (zle_c rfl (zle_c rfl zle_n))))))))))))) rfl rfl (zle_c rfl zle_n)) (Nat.le_of_ble_eq_true rfl) (Nat.le_of_ble_eq_true rfl) rfl rfl ?_
        refine zJ_loc (ls' := [(0, .ref 54), (1, .int v1_39x)]) (zll_c rfl (zll_c rfl zll_n)) ?_
        exact hj_X12_show_89 _ h
    refine zJ_loc (ls' := [(0, .ref 54), (1, .int (0 : Int32)), (2, .int t0_38j)]) (zll_c rfl (zll_c rfl (zll_c rfl zll_n))) ?_
    refine ml5_J (fun (v1_39 : Int32) (v2_39 : Int32) (m_at_39 : Int32) (m_wrong_39 : Int32) (m_acts_39 : (Nat → Int32)) => zJ l zW 209 mX12_show σ ([(3457, m_fences), (3461, m_allowed), (3462, m_horses), (3466, m_plans), (3470, (0 : Int32)), (3472, m_rowMany), (3473, (0 : Int32)), (3474, (nI 64)), (3475, m_lengthn1), (3476, m_topn2), (3477, m_at_39), (3478, m_wrong_39), (3483, m_ruleSize), (3484, m_isAsked), (3485, m_askedHorse), (3486, m_askedFence), (3487, m_askedLetter), (3488, m_askedHeight), (3494, m_undoMany), (3496, m_rodeTenths), (3497, m_refused), (3498, m_down), (3499, m_drawn)], [(55, m_now), (56, m_kind), (57, m_height), (58, m_feet), (59, m_stride), (60, m_scope), (61, m_care), (62, m_plan), (64, m_text), (69, m_rule), (74, m_undos), (75, m_aside), (76, m_acts_39)], [(65, m_row)]) 39 [(0, .ref 54), (1, .int v1_39), (2, .int v2_39)] [] (some (.int r)) ([(3457, m_fences), (3461, m_allowed), (3462, m_horses), (3466, m_plans), (3470, w_m_typed), (3472, w_m_rowMany), (3473, w_m_thrown), (3474, w_m_read), (3475, w_m_length), (3476, w_m_top), (3477, w_m_at), (3478, w_m_wrong), (3483, m_ruleSize), (3484, w_m_isAsked), (3485, w_m_askedHorse), (3486, w_m_askedFence), (3487, w_m_askedLetter), (3488, w_m_askedHeight), (3494, w_m_undoMany), (3496, w_m_rodeTenths), (3497, w_m_refused), (3498, w_m_down), (3499, w_m_drawn)], [(55, w_m_now), (56, m_kind), (57, m_height), (58, m_feet), (59, m_stride), (60, m_scope), (61, m_care), (62, m_plan), (64, m_text), (69, m_rule), (74, w_m_undos), (75, w_m_aside), (76, w_m_acts)], [(65, w_m_row)])) (fun rc39 hrc39 v1_39 v2_39 m_at_39 m_wrong_39 m_acts_39 h => ?_) zN _ _ _ _ _ h
    unfold s_X12_show_39 at h
    refine zJ_iload_n dX12_show_39 rfl rfl ?_
    refine zJ_if_eq (tgt := 70) dX12_show_40 (by decide) rfl (fun hc => ?_) (fun hc => ?_)
    · replace h := it_t hc h
      refine zJ_loc (ls' := [(0, .ref 54), (1, .int v1_39)]) (zll_c rfl (zll_c rfl zll_n)) ?_
      exact hk39 _ _ _ _ h
    · replace h := it_f hc h
      refine zJ_aload_n dX12_show_43 rfl rfl ?_
      obtain ⟨rn35, hcl, h⟩ := bd1_some h
      refine zJ_callV2 (σ := σ) (L := ([(3457, m_fences), (3461, m_allowed), (3462, m_horses), (3466, m_plans), (3470, (0 : Int32)), (3472, m_rowMany), (3473, (0 : Int32)), (3474, (nI 64)), (3475, m_lengthn1), (3476, m_topn2), (3477, m_at_39), (3478, m_wrong_39), (3483, m_ruleSize), (3484, m_isAsked), (3485, m_askedHorse), (3486, m_askedFence), (3487, m_askedLetter), (3488, m_askedHeight), (3494, m_undoMany), (3496, m_rodeTenths), (3497, m_refused), (3498, m_down), (3499, m_drawn)], [(55, m_now), (56, m_kind), (57, m_height), (58, m_feet), (59, m_stride), (60, m_scope), (61, m_care), (62, m_plan), (64, m_text), (69, m_rule), (74, m_undos), (75, m_aside), (76, m_acts_39)], [(65, m_row)])) (mi := mX12_show) (yi := mX12_fine) (as := []) (st := []) (L2 := ([(3457, m_fences), (3461, m_allowed), (3462, m_horses), (3466, m_plans), (3470, (0 : Int32)), (3472, m_rowMany), (3473, (0 : Int32)), (3474, (nI 64)), (3475, m_lengthn1), (3476, m_topn2), (3477, m_at_39), (3478, m_wrong_39), (3483, m_ruleSize), (3484, m_isAsked), (3485, m_askedHorse), (3486, m_askedFence), (3487, m_askedLetter), (3488, m_askedHeight), (3494, m_undoMany), (3496, m_rodeTenths), (3497, m_refused), (3498, m_down), (3499, m_drawn)], [(55, m_now), (56, m_kind), (57, m_height), (58, m_feet), (59, m_stride), (60, m_scope), (61, m_care), (62, m_plan), (64, m_text), (69, m_rule), (74, m_undos), (75, m_aside), (76, m_acts_39)], [(65, m_row)])) dX12_show_44 ML_X12_157 Yv_X12_fine rfl zW_54 rfl rfl (t_X12_fine l _ hcl) (zsub_i (zle_c rfl zle_n) zle_n zle_n) (zjok_i rfl rfl (zle_c rfl (zle_c rfl (zle_c rfl (zle_c rfl (zle_c rfl (zle_c rfl (zle_c rfl (zle_c rfl (zle_c rfl (zle_c rfl (zle_c rfl (zle_c rfl (zle_c rfl (zle_c rfl (zle_c rfl (zle_c rfl (zle_c rfl (zle_c rfl (zle_c rfl (zle_c rfl (zle_c rfl (zle_c rfl (zle_c rfl zle_n))))))))))))))))))))))) rfl rfl (zle_c rfl (zle_c rfl (zle_c rfl (zle_c rfl (zle_c rfl (zle_c rfl (zle_c rfl (zle_c rfl (zle_c rfl (zle_c rfl (zle_c rfl (zle_c rfl (zle_c rfl zle_n))))))))))))) rfl rfl (zle_c rfl zle_n)) (Nat.le_of_ble_eq_true rfl) (Nat.le_of_ble_eq_true rfl) rfl rfl ?_
      refine zJ_if_eq (tgt := 70) dX12_show_47 (by decide) rfl (fun hc => ?_) (fun hc => ?_)
      · replace h := it_t hc h
        refine zJ_loc (ls' := [(0, .ref 54), (1, .int v1_39)]) (zll_c rfl (zll_c rfl zll_n)) ?_
        exact hk39 _ _ _ _ h
      · replace h := it_f hc h
        refine zJ_aload_n dX12_show_50 rfl rfl ?_
        refine zJ_iconst dX12_show_51 zc_5 rfl ?_
        refine zJ_iload_n dX12_show_52 rfl rfl ?_
        refine zJ_imul dX12_show_53 rfl ?_
        obtain ⟨m_atn36, m_wrongn37, m_actsn38, hcl, h⟩ := bd3_some h
        refine zJ_callV2 (σ := σ) (L := ([(3457, m_fences), (3461, m_allowed), (3462, m_horses), (3466, m_plans), (3470, (0 : Int32)), (3472, m_rowMany), (3473, (0 : Int32)), (3474, (nI 64)), (3475, m_lengthn1), (3476, m_topn2), (3477, m_at_39), (3478, m_wrong_39), (3483, m_ruleSize), (3484, m_isAsked), (3485, m_askedHorse), (3486, m_askedFence), (3487, m_askedLetter), (3488, m_askedHeight), (3494, m_undoMany), (3496, m_rodeTenths), (3497, m_refused), (3498, m_down), (3499, m_drawn)], [(55, m_now), (56, m_kind), (57, m_height), (58, m_feet), (59, m_stride), (60, m_scope), (61, m_care), (62, m_plan), (64, m_text), (69, m_rule), (74, m_undos), (75, m_aside), (76, m_acts_39)], [(65, m_row)])) (mi := mX12_show) (yi := mX12_readAct) (as := [.int ((5 : Int32) * v1_39)]) (st := []) (L2 := ([(3457, m_fences), (3461, m_allowed), (3462, m_horses), (3466, m_plans), (3470, (0 : Int32)), (3472, m_rowMany), (3473, (0 : Int32)), (3474, (nI 64)), (3475, m_lengthn1), (3476, m_topn2), (3477, m_atn36), (3478, m_wrongn37), (3483, m_ruleSize), (3484, m_isAsked), (3485, m_askedHorse), (3486, m_askedFence), (3487, m_askedLetter), (3488, m_askedHeight), (3494, m_undoMany), (3496, m_rodeTenths), (3497, m_refused), (3498, m_down), (3499, m_drawn)], [(55, m_now), (56, m_kind), (57, m_height), (58, m_feet), (59, m_stride), (60, m_scope), (61, m_care), (62, m_plan), (64, m_text), (69, m_rule), (74, m_undos), (75, m_aside), (76, m_actsn38)], [(65, m_row)])) dX12_show_54 ML_X12_348 Yv_X12_readAct rfl zW_54 rfl rfl (t_X12_readAct_t l _ hcl) (zsub_i (zle_c rfl (zle_c rfl (zle_c rfl (zle_c rfl (zle_c rfl zle_n))))) (zle_c rfl (zle_c rfl zle_n)) zle_n) (zjok_i rfl rfl (zle_c rfl (zle_c rfl (zle_c rfl (zle_c rfl (zle_c rfl (zle_c rfl (zle_c rfl (zle_c rfl (zle_c rfl (zle_c rfl (zle_c rfl (zle_c rfl (zle_c rfl (zle_c rfl (zle_c rfl (zle_c rfl (zle_c rfl (zle_c rfl (zle_c rfl (zle_c rfl (zle_c rfl (zle_c rfl (zle_c rfl zle_n))))))))))))))))))))))) rfl rfl (zle_c rfl (zle_c rfl (zle_c rfl (zle_c rfl (zle_c rfl (zle_c rfl (zle_c rfl (zle_c rfl (zle_c rfl (zle_c rfl (zle_c rfl (zle_c rfl (zle_c rfl zle_n))))))))))))) rfl rfl (zle_c rfl zle_n)) (Nat.le_of_ble_eq_true rfl) (Nat.le_of_ble_eq_true rfl) rfl rfl ?_
        obtain ⟨v1n39, ev1n39, h⟩ := lt1_some h
        refine zJ_iincN (ls' := [(1, .int v1n39), (0, .ref 54), (2, .int v2_39)]) dX12_show_57 rfl rfl zc_1 ev1n39 rfl rfl ?_
        refine zJ_aload_n dX12_show_60 rfl rfl ?_
        refine zJ_bipush dX12_show_61 zb_59 rfl ?_
        obtain ⟨rn40, m_atn41, hcl, h⟩ := bd2_some h
        refine zJ_callV2 (σ := σ) (L := ([(3457, m_fences), (3461, m_allowed), (3462, m_horses), (3466, m_plans), (3470, (0 : Int32)), (3472, m_rowMany), (3473, (0 : Int32)), (3474, (nI 64)), (3475, m_lengthn1), (3476, m_topn2), (3477, m_atn36), (3478, m_wrongn37), (3483, m_ruleSize), (3484, m_isAsked), (3485, m_askedHorse), (3486, m_askedFence), (3487, m_askedLetter), (3488, m_askedHeight), (3494, m_undoMany), (3496, m_rodeTenths), (3497, m_refused), (3498, m_down), (3499, m_drawn)], [(55, m_now), (56, m_kind), (57, m_height), (58, m_feet), (59, m_stride), (60, m_scope), (61, m_care), (62, m_plan), (64, m_text), (69, m_rule), (74, m_undos), (75, m_aside), (76, m_actsn38)], [(65, m_row)])) (mi := mX12_show) (yi := mX12_passes) (as := [.int (59 : Int32)]) (st := []) (L2 := ([(3457, m_fences), (3461, m_allowed), (3462, m_horses), (3466, m_plans), (3470, (0 : Int32)), (3472, m_rowMany), (3473, (0 : Int32)), (3474, (nI 64)), (3475, m_lengthn1), (3476, m_topn2), (3477, m_atn41), (3478, m_wrongn37), (3483, m_ruleSize), (3484, m_isAsked), (3485, m_askedHorse), (3486, m_askedFence), (3487, m_askedLetter), (3488, m_askedHeight), (3494, m_undoMany), (3496, m_rodeTenths), (3497, m_refused), (3498, m_down), (3499, m_drawn)], [(55, m_now), (56, m_kind), (57, m_height), (58, m_feet), (59, m_stride), (60, m_scope), (61, m_care), (62, m_plan), (64, m_text), (69, m_rule), (74, m_undos), (75, m_aside), (76, m_actsn38)], [(65, m_row)])) dX12_show_63 ML_X12_165 Yv_X12_passes rfl zW_54 rfl rfl (t_X12_passes_t l _ hcl) (zsub_i (zle_c rfl (zle_c rfl (zle_c rfl (zle_c rfl (zle_c rfl zle_n))))) (zle_c rfl zle_n) zle_n) (zjok_i rfl rfl (zle_c rfl (zle_c rfl (zle_c rfl (zle_c rfl (zle_c rfl (zle_c rfl (zle_c rfl (zle_c rfl (zle_c rfl (zle_c rfl (zle_c rfl (zle_c rfl (zle_c rfl (zle_c rfl (zle_c rfl (zle_c rfl (zle_c rfl (zle_c rfl (zle_c rfl (zle_c rfl (zle_c rfl (zle_c rfl (zle_c rfl zle_n))))))))))))))))))))))) rfl rfl (zle_c rfl (zle_c rfl (zle_c rfl (zle_c rfl (zle_c rfl (zle_c rfl (zle_c rfl (zle_c rfl (zle_c rfl (zle_c rfl (zle_c rfl (zle_c rfl (zle_c rfl zle_n))))))))))))) rfl rfl (zle_c rfl zle_n)) (Nat.le_of_ble_eq_true rfl) (Nat.le_of_ble_eq_true rfl) rfl rfl ?_
        refine zJ_istore_n (ls' := [(2, .int rn40), (1, .int v1n39), (0, .ref 54)]) dX12_show_66 rfl rfl rfl ?_
        refine zJ_goto (tgt := 39) dX12_show_67 (by decide) ?_
        refine zJ_loc (ls' := [(0, .ref 54), (1, .int v1n39), (2, .int rn40)]) (zll_c rfl (zll_c rfl (zll_c rfl zll_n))) ?_
        exact hrc39 _ _ _ _ _ h
  refine zJ_if_le (tgt := 37) dX12_show_30 (by decide) rfl (fun hc => ?_) (fun hc => ?_)
  · replace h := it_t hc h
    refine zJ_iconst dX12_show_37 zc_0 rfl ?_
    refine zJ_loc (ls' := [(0, .ref 54), (1, .int (0 : Int32))]) (zll_c rfl (zll_c rfl zll_n)) ?_
    exact hj_X12_show_38 _ h
  · replace h := it_f hc h
    refine zJ_iconst dX12_show_33 zc_1 rfl ?_
    refine zJ_goto (tgt := 38) dX12_show_34 (by decide) ?_
    refine zJ_loc (ls' := [(0, .ref 54), (1, .int (0 : Int32))]) (zll_c rfl (zll_c rfl zll_n)) ?_
    exact hj_X12_show_38 _ h
set_option maxRecDepth 100000 in
set_option maxHeartbeats 4000000 in
theorem t_X12_sign (l : Launch) (σ : zS) {p1 : Int32} {m_typed : Int32} {m_thrown : Int32} {m_text : (Nat → Int32)} {r : Int32} {w_m_typed : Int32} {w_m_thrown : Int32} {w_m_text : (Nat → Int32)} (h : f_X12_sign p1 m_typed m_thrown m_text = some (r, w_m_typed, w_m_thrown, w_m_text)) : zMt l zW 0 mX12_sign σ ([(3470, m_typed), (3473, m_thrown)], [(64, m_text)], []) [.ref 54, .int p1] (some (.int r)) ([(3470, w_m_typed), (3473, w_m_thrown)], [(64, w_m_text)], []) := by
  refine zMt_of (ls := [(0, .ref 54), (1, .int p1)]) (by decide) rfl (fun _ => Nat.le_of_ble_eq_true rfl) rfl ?_
  unfold f_X12_sign at h
  refine zJ_aload_n dX12_sign_0 rfl rfl ?_
  refine zJ_iconst dX12_sign_1 zc_0 rfl ?_
  refine zK_puti (mi := mX12_sign) (la' := [(3470, m_typed), (3473, (0 : Int32))]) zW_ok dX12_sign_2 F_X12_113 P_12_17 zW_54 rfl rfl rfl ?_
  refine zJ_aload_n dX12_sign_5 rfl rfl ?_
  refine zJ_geti (mi := mX12_sign) (x := m_typed) dX12_sign_6 F_X12_139 zW_54 rfl rfl rfl ?_
  refine zJ_iconst dX12_sign_9 zc_4 rfl ?_
  refine zJ_iadd dX12_sign_10 rfl ?_
  refine zJ_bipush dX12_sign_11 zb_80 rfl ?_
  refine zJ_icmp_le (tgt := 18) dX12_sign_13 (by decide) rfl (fun hc => ?_) (fun hc => ?_)
  · replace h := it_t hc h
    refine zJ_iconst dX12_sign_18 zc_3 rfl ?_
    refine zJ_istore_n (ls' := [(2, .int (3 : Int32)), (0, .ref 54), (1, .int p1)]) dX12_sign_19 rfl rfl rfl ?_
    have hk20 : ∀ (m_typed_20x : Int32) (m_text_20x : (Nat → Int32)), k_X12_sign_20  m_typed_20x m_text_20x = some (r, w_m_typed, w_m_thrown, w_m_text) → zJ l zW 0 mX12_sign σ ([(3470, m_typed_20x), (3473, (0 : Int32))], [(64, m_text_20x)], []) 53 [(0, .ref 54)] [] (some (.int r)) ([(3470, w_m_typed), (3473, w_m_thrown)], [(64, w_m_text)], []) := by
      intro m_typed_20x m_text_20x h
      unfold k_X12_sign_20 at h
      refine zJ_aload_n dX12_sign_53 rfl rfl ?_
      refine zJ_geti (mi := mX12_sign) (x := m_typed_20x) dX12_sign_54 F_X12_139 zW_54 rfl rfl rfl ?_
      obtain ⟨rfl, rfl, rfl, rfl⟩ := so4 h
      exact zJ_iret dX12_sign_57 rfl rfl
    refine zJ_loc (ls' := [(0, .ref 54), (1, .int p1), (2, .int (3 : Int32))]) (zll_c rfl (zll_c rfl (zll_c rfl zll_n))) ?_
    refine ml3_J (fun (v2_20 : Int32) (m_typed_20 : Int32) (m_text_20 : (Nat → Int32)) => zJ l zW 0 mX12_sign σ ([(3470, m_typed_20), (3473, (0 : Int32))], [(64, m_text_20)], []) 20 [(0, .ref 54), (1, .int p1), (2, .int v2_20)] [] (some (.int r)) ([(3470, w_m_typed), (3473, w_m_thrown)], [(64, w_m_text)], [])) (fun rc20 hrc20 v2_20 m_typed_20 m_text_20 h => ?_) zN _ _ _ h
    unfold s_X12_sign_20 at h
    refine zJ_iload_n dX12_sign_20 rfl rfl ?_
    refine zJ_if_lt (tgt := 53) dX12_sign_21 (by decide) rfl (fun hc => ?_) (fun hc => ?_)
    · replace h := it_t hc h
      refine zJ_loc (ls' := [(0, .ref 54)]) (zll_c rfl zll_n) ?_
      exact hk20 _ _ h
    · replace h := it_f hc h
      refine zJ_aload_n dX12_sign_24 rfl rfl ?_
      refine zJ_getr (mi := mX12_sign) dX12_sign_25 F_X12_41 zW_54 rfl rfl ?_
      refine zJ_aload_n dX12_sign_28 rfl rfl ?_
      refine zJ_dup dX12_sign_29 rfl rfl ?_
      refine zJ_geti (mi := mX12_sign) (x := m_typed_20) dX12_sign_30 F_X12_139 zW_54 rfl rfl rfl ?_
      refine zJ_dup_x1 dX12_sign_33 rfl rfl rfl ?_
      refine zJ_iconst dX12_sign_34 zc_1 rfl ?_
      refine zJ_iadd dX12_sign_35 rfl ?_
      refine zK_puti (mi := mX12_sign) (la' := [(3470, (m_typed_20 + (1 : Int32))), (3473, (0 : Int32))]) zW_ok dX12_sign_36 F_X12_139 P_12_14 zW_54 rfl rfl rfl ?_
      refine zJ_iload_n dX12_sign_39 rfl rfl ?_
      refine zJ_bipush dX12_sign_40 zb_8 rfl ?_
      refine zJ_iload_n dX12_sign_42 rfl rfl ?_
      refine zJ_imul dX12_sign_43 rfl ?_
      refine zJ_ishr dX12_sign_44 rfl ?_
      refine zJ_i2b dX12_sign_45 rfl ?_
      obtain ⟨hg, h⟩ := gd_some h
      refine zK_bast (mi := mX12_sign) (f := m_text_20) (lb' := [(64, (upd m_text_20 m_typed_20.toNatClampNeg (vp_nar .byte ((p1 >>> (((8 : Int32) * v2_20) &&& 31))).toInt8.toInt32)))]) dX12_sign_46 zW_64 (ix_in hg) rfl rfl rfl ?_
      obtain ⟨v2n1, ev2n1, h⟩ := lt1_some h
      refine zJ_iincN (ls' := [(2, .int v2n1), (0, .ref 54), (1, .int p1)]) dX12_sign_47 rfl rfl zc_m1 ev2n1 rfl rfl ?_
      refine zJ_goto (tgt := 20) dX12_sign_50 (by decide) ?_
      refine zJ_loc (ls' := [(0, .ref 54), (1, .int p1), (2, .int v2n1)]) (zll_c rfl (zll_c rfl (zll_c rfl zll_n))) ?_
      exact hrc20 _ _ _ h
  · replace h := it_f hc h
    refine zJ_iconst dX12_sign_16 zc_m1 rfl ?_
    obtain ⟨rfl, rfl, rfl, rfl⟩ := so4 h
    exact zJ_iret dX12_sign_17 rfl rfl
set_option maxRecDepth 100000 in
set_option maxHeartbeats 4000000 in
theorem t_X12_strides (l : Launch) (σ : zS) {p1 : Int32} {p2 : Int32} {m_fences : Int32} {m_horses : Int32} {m_rowMany : Int32} {m_thrown : Int32} {m_feet : (Nat → Int32)} {m_stride : (Nat → Int32)} {m_row : (Nat → Int64)} {r : Int32} {w_m_rowMany : Int32} {w_m_thrown : Int32} {w_m_row : (Nat → Int64)} (h : f_X12_strides p1 p2 m_fences m_horses m_rowMany m_thrown m_feet m_stride m_row = some (r, w_m_rowMany, w_m_thrown, w_m_row)) : zMt l zW 2 mX12_strides σ ([(3457, m_fences), (3462, m_horses), (3472, m_rowMany), (3473, m_thrown)], [(58, m_feet), (59, m_stride)], [(65, m_row)]) [.ref 54, .int p1, .int p2] (some (.int r)) ([(3457, m_fences), (3462, m_horses), (3472, w_m_rowMany), (3473, w_m_thrown)], [(58, m_feet), (59, m_stride)], [(65, w_m_row)]) := by
  refine zMt_of (ls := [(0, .ref 54), (1, .int p1), (2, .int p2)]) (by decide) rfl (fun _ => Nat.le_of_ble_eq_true rfl) rfl ?_
  unfold f_X12_strides at h
  refine zJ_aload_n dX12_strides_0 rfl rfl ?_
  refine zJ_iconst dX12_strides_1 zc_0 rfl ?_
  refine zK_puti (mi := mX12_strides) (la' := [(3457, m_fences), (3462, m_horses), (3472, m_rowMany), (3473, (0 : Int32))]) zW_ok dX12_strides_2 F_X12_113 P_12_17 zW_54 rfl rfl rfl ?_
  refine zJ_aload_n dX12_strides_5 rfl rfl ?_
  refine zJ_iload_n dX12_strides_6 rfl rfl ?_
  obtain ⟨rn1, hcl, h⟩ := bd1_some h
  refine zJ_callV2 (σ := σ) (L := ([(3457, m_fences), (3462, m_horses), (3472, m_rowMany), (3473, (0 : Int32))], [(58, m_feet), (59, m_stride)], [(65, m_row)])) (mi := mX12_strides) (yi := mX12_isHorse) (as := [.int p1]) (st := []) (L2 := ([(3457, m_fences), (3462, m_horses), (3472, m_rowMany), (3473, (0 : Int32))], [(58, m_feet), (59, m_stride)], [(65, m_row)])) dX12_strides_7 ML_X12_132 Yv_X12_isHorse rfl zW_54 rfl rfl (t_X12_isHorse l _ hcl) (zsub_i (zle_c rfl zle_n) zle_n zle_n) (zjok_i rfl rfl (zle_c rfl (zle_c rfl (zle_c rfl (zle_c rfl zle_n)))) rfl rfl (zle_c rfl (zle_c rfl zle_n)) rfl rfl (zle_c rfl zle_n)) (Nat.le_of_ble_eq_true rfl) (Nat.le_of_ble_eq_true rfl) rfl rfl ?_
  refine zJ_if_eq (tgt := 21) dX12_strides_10 (by decide) rfl (fun hc => ?_) (fun hc => ?_)
  · replace h := it_t hc h
    refine zJ_iconst dX12_strides_21 zc_m1 rfl ?_
    obtain ⟨rfl, rfl, rfl, rfl⟩ := so4 h
    exact zJ_iret dX12_strides_22 rfl rfl
  · replace h := it_f hc h
    refine zJ_aload_n dX12_strides_13 rfl rfl ?_
    refine zJ_iload_n dX12_strides_14 rfl rfl ?_
    obtain ⟨rn2, hcl, h⟩ := bd1_some h
    refine zJ_callV2 (σ := σ) (L := ([(3457, m_fences), (3462, m_horses), (3472, m_rowMany), (3473, (0 : Int32))], [(58, m_feet), (59, m_stride)], [(65, m_row)])) (mi := mX12_strides) (yi := mX12_isFence) (as := [.int p2]) (st := []) (L2 := ([(3457, m_fences), (3462, m_horses), (3472, m_rowMany), (3473, (0 : Int32))], [(58, m_feet), (59, m_stride)], [(65, m_row)])) dX12_strides_15 ML_X12_250 Yv_X12_isFence rfl zW_54 rfl rfl (t_X12_isFence l _ hcl) (zsub_i (zle_c rfl zle_n) zle_n zle_n) (zjok_i rfl rfl (zle_c rfl (zle_c rfl (zle_c rfl (zle_c rfl zle_n)))) rfl rfl (zle_c rfl (zle_c rfl zle_n)) rfl rfl (zle_c rfl zle_n)) (Nat.le_of_ble_eq_true rfl) (Nat.le_of_ble_eq_true rfl) rfl rfl ?_
    refine zJ_if_ne (tgt := 23) dX12_strides_18 (by decide) rfl (fun hc => ?_) (fun hc => ?_)
    · replace h := it_f hc h
      refine zJ_aload_n dX12_strides_23 rfl rfl ?_
      refine zJ_getr (mi := mX12_strides) dX12_strides_24 F_X12_19 zW_54 rfl rfl ?_
      refine zJ_iload_n dX12_strides_27 rfl rfl ?_
      obtain ⟨hg, h⟩ := gd_some h
      refine zJ_iald (mi := mX12_strides) (f := m_feet) dX12_strides_28 zW_58 (ix_in hg) rfl rfl ?_
      refine zJ_aload_n dX12_strides_29 rfl rfl ?_
      refine zJ_getr (mi := mX12_strides) dX12_strides_30 F_X12_26 zW_54 rfl rfl ?_
      refine zJ_iload_n dX12_strides_33 rfl rfl ?_
      obtain ⟨hg, h⟩ := gd_some h
      refine zJ_iald (mi := mX12_strides) (f := m_stride) dX12_strides_34 zW_59 (ix_in hg) rfl rfl ?_
      obtain ⟨hg, h⟩ := gd_some h
      refine zJ_irem dX12_strides_35 (nz_ne hg) rfl ?_
      obtain ⟨v3n3, ev3n3, h⟩ := lt1_some h
      refine zJ_nmi ev3n3 ?_
      refine zJ_istore_n (ls' := [(3, .int v3n3), (0, .ref 54), (1, .int p1), (2, .int p2)]) dX12_strides_36 rfl rfl rfl ?_
      refine zJ_aload_n dX12_strides_37 rfl rfl ?_
      refine zJ_getr (mi := mX12_strides) dX12_strides_38 F_X12_26 zW_54 rfl rfl ?_
      refine zJ_iload_n dX12_strides_41 rfl rfl ?_
      obtain ⟨hg, h⟩ := gd_some h
      refine zJ_iald (mi := mX12_strides) (f := m_stride) dX12_strides_42 zW_59 (ix_in hg) rfl rfl ?_
      refine zJ_iload_n dX12_strides_43 rfl rfl ?_
      refine zJ_isub dX12_strides_44 rfl ?_
      refine zJ_iload_n dX12_strides_45 rfl rfl ?_
      have hj_X12_strides_54 : ∀ (t0_54j : Int32), j_X12_strides_54 p1 p2 m_feet m_stride m_row t0_54j = some (r, w_m_rowMany, w_m_thrown, w_m_row) → zJ l zW 2 mX12_strides σ ([(3457, m_fences), (3462, m_horses), (3472, m_rowMany), (3473, (0 : Int32))], [(58, m_feet), (59, m_stride)], [(65, m_row)]) 54 [(0, .ref 54), (1, .int p1), (2, .int p2)] [.int t0_54j] (some (.int r)) ([(3457, m_fences), (3462, m_horses), (3472, w_m_rowMany), (3473, w_m_thrown)], [(58, m_feet), (59, m_stride)], [(65, w_m_row)]) := by
        intro t0_54j h
        unfold j_X12_strides_54 at h
        refine zJ_istore (ls' := [(4, .int t0_54j), (0, .ref 54), (1, .int p1), (2, .int p2)]) dX12_strides_54 rfl rfl rfl ?_
        refine zJ_aload_n dX12_strides_56 rfl rfl ?_
        refine zJ_iconst dX12_strides_57 zc_0 rfl ?_
        refine zK_puti (mi := mX12_strides) (la' := [(3457, m_fences), (3462, m_horses), (3472, (0 : Int32)), (3473, (0 : Int32))]) zW_ok dX12_strides_58 F_X12_116 P_12_16 zW_54 rfl rfl rfl ?_
        refine zJ_aload_n dX12_strides_61 rfl rfl ?_
        refine zJ_aload_n dX12_strides_62 rfl rfl ?_
        refine zJ_iload_n dX12_strides_63 rfl rfl ?_
        refine zJ_aload_n dX12_strides_64 rfl rfl ?_
        refine zJ_getr (mi := mX12_strides) dX12_strides_65 F_X12_19 zW_54 rfl rfl ?_
        refine zJ_iload_n dX12_strides_68 rfl rfl ?_
        obtain ⟨hg, h⟩ := gd_some h
        refine zJ_iald (mi := mX12_strides) (f := m_feet) dX12_strides_69 zW_58 (ix_in hg) rfl rfl ?_
        obtain ⟨rn4, hcl, h⟩ := bd1_some h
        refine zJ_callV2 (σ := σ) (L := ([(3457, m_fences), (3462, m_horses), (3472, (0 : Int32)), (3473, (0 : Int32))], [(58, m_feet), (59, m_stride)], [(65, m_row)])) (mi := mX12_strides) (yi := mX12_leanOf) (as := [.int p1, .int (m_feet p2.toNatClampNeg)]) (st := [.ref 54]) (L2 := ([(3457, m_fences), (3462, m_horses), (3472, (0 : Int32)), (3473, (0 : Int32))], [(58, m_feet), (59, m_stride)], [(65, m_row)])) dX12_strides_70 ML_X12_232 Yv_X12_leanOf rfl zW_54 rfl rfl (t_X12_leanOf l _ hcl) (zsub_i zle_n (zle_c rfl zle_n) zle_n) (zjok_i rfl rfl (zle_c rfl (zle_c rfl (zle_c rfl (zle_c rfl zle_n)))) rfl rfl (zle_c rfl (zle_c rfl zle_n)) rfl rfl (zle_c rfl zle_n)) (Nat.le_of_ble_eq_true rfl) (Nat.le_of_ble_eq_true rfl) rfl rfl ?_
        refine zJ_i2l dX12_strides_73 rfl ?_
        obtain ⟨m_rowManyn5, m_rown6, hcl, h⟩ := bd2_some h
        refine zJ_callV2 (σ := σ) (L := ([(3457, m_fences), (3462, m_horses), (3472, (0 : Int32)), (3473, (0 : Int32))], [(58, m_feet), (59, m_stride)], [(65, m_row)])) (mi := mX12_strides) (yi := mX12_tell) (as := [.long rn4.toInt64]) (st := []) (L2 := ([(3457, m_fences), (3462, m_horses), (3472, m_rowManyn5), (3473, (0 : Int32))], [(58, m_feet), (59, m_stride)], [(65, m_rown6)])) dX12_strides_74 ML_X12_265 Yv_X12_tell rfl zW_54 rfl rfl (t_X12_tell l _ hcl) (zsub_i (zle_c rfl zle_n) zle_n (zle_c rfl zle_n)) (zjok_i rfl rfl (zle_c rfl (zle_c rfl (zle_c rfl (zle_c rfl zle_n)))) rfl rfl (zle_c rfl (zle_c rfl zle_n)) rfl rfl (zle_c rfl zle_n)) (Nat.le_of_ble_eq_true rfl) (Nat.le_of_ble_eq_true rfl) rfl rfl ?_
        refine zJ_aload_n dX12_strides_77 rfl rfl ?_
        refine zJ_iload dX12_strides_78 rfl rfl ?_
        refine zJ_i2l dX12_strides_80 rfl ?_
        obtain ⟨m_rowManyn7, m_rown8, hcl, h⟩ := bd2_some h
        refine zJ_callV2 (σ := σ) (L := ([(3457, m_fences), (3462, m_horses), (3472, m_rowManyn5), (3473, (0 : Int32))], [(58, m_feet), (59, m_stride)], [(65, m_rown6)])) (mi := mX12_strides) (yi := mX12_tell) (as := [.long t0_54j.toInt64]) (st := []) (L2 := ([(3457, m_fences), (3462, m_horses), (3472, m_rowManyn7), (3473, (0 : Int32))], [(58, m_feet), (59, m_stride)], [(65, m_rown8)])) dX12_strides_81 ML_X12_265 Yv_X12_tell rfl zW_54 rfl rfl (t_X12_tell l _ hcl) (zsub_i (zle_c rfl zle_n) zle_n (zle_c rfl zle_n)) (zjok_i rfl rfl (zle_c rfl (zle_c rfl (zle_c rfl (zle_c rfl zle_n)))) rfl rfl (zle_c rfl (zle_c rfl zle_n)) rfl rfl (zle_c rfl zle_n)) (Nat.le_of_ble_eq_true rfl) (Nat.le_of_ble_eq_true rfl) rfl rfl ?_
        refine zJ_aload_n dX12_strides_84 rfl rfl ?_
        refine zJ_getr (mi := mX12_strides) dX12_strides_85 F_X12_19 zW_54 rfl rfl ?_
        refine zJ_iload_n dX12_strides_88 rfl rfl ?_
        obtain ⟨hg, h⟩ := gd_some h
        refine zJ_iald (mi := mX12_strides) (f := m_feet) dX12_strides_89 zW_58 (ix_in hg) rfl rfl ?_
        refine zJ_aload_n dX12_strides_90 rfl rfl ?_
        refine zJ_getr (mi := mX12_strides) dX12_strides_91 F_X12_26 zW_54 rfl rfl ?_
        refine zJ_iload_n dX12_strides_94 rfl rfl ?_
        obtain ⟨hg, h⟩ := gd_some h
        refine zJ_iald (mi := mX12_strides) (f := m_stride) dX12_strides_95 zW_59 (ix_in hg) rfl rfl ?_
        obtain ⟨hg, h⟩ := gd_some h
        refine zJ_idiv dX12_strides_96 (nz_ne hg) rfl ?_
        refine zJ_iload dX12_strides_97 rfl rfl ?_
        refine zJ_iadd dX12_strides_99 rfl ?_
        obtain ⟨rfl, rfl, rfl, rfl⟩ := so4 h
        exact zJ_iret dX12_strides_100 rfl rfl
      refine zJ_icmp_ge (tgt := 53) dX12_strides_46 (by decide) rfl (fun hc => ?_) (fun hc => ?_)
      · replace h := it_t hc h
        refine zJ_iconst dX12_strides_53 zc_0 rfl ?_
        refine zJ_loc (ls' := [(0, .ref 54), (1, .int p1), (2, .int p2)]) (zll_c rfl (zll_c rfl (zll_c rfl zll_n))) ?_
        exact hj_X12_strides_54 _ h
      · replace h := it_f hc h
        refine zJ_iconst dX12_strides_49 zc_1 rfl ?_
        refine zJ_goto (tgt := 54) dX12_strides_50 (by decide) ?_
        refine zJ_loc (ls' := [(0, .ref 54), (1, .int p1), (2, .int p2)]) (zll_c rfl (zll_c rfl (zll_c rfl zll_n))) ?_
        exact hj_X12_strides_54 _ h
    · replace h := it_t hc h
      refine zJ_iconst dX12_strides_21 zc_m1 rfl ?_
      obtain ⟨rfl, rfl, rfl, rfl⟩ := so4 h
      exact zJ_iret dX12_strides_22 rfl rfl
set_option maxRecDepth 100000 in
set_option maxHeartbeats 4000000 in
theorem t_X12_sure (l : Launch) (σ : zS) {p1 : Int32} {m_fences : Int32} {m_allowed : Int32} {m_horses : Int32} {m_rowMany : Int32} {m_thrown : Int32} {m_read : Int32} {m_length : Int32} {m_top : Int32} {m_at : Int32} {m_wrong : Int32} {m_ruleSize : Int32} {m_isAsked : Int32} {m_askedHorse : Int32} {m_askedFence : Int32} {m_askedLetter : Int32} {m_askedHeight : Int32} {m_kind : (Nat → Int32)} {m_height : (Nat → Int32)} {m_feet : (Nat → Int32)} {m_stride : (Nat → Int32)} {m_scope : (Nat → Int32)} {m_care : (Nat → Int32)} {m_rule : (Nat → Int32)} {m_left : (Nat → Int32)} {m_spent : (Nat → Int32)} {m_little : (Nat → Int32)} {m_row : (Nat → Int64)} {r : Int32} {w_m_rowMany : Int32} {w_m_thrown : Int32} {w_m_read : Int32} {w_m_length : Int32} {w_m_top : Int32} {w_m_at : Int32} {w_m_wrong : Int32} {w_m_isAsked : Int32} {w_m_askedHorse : Int32} {w_m_askedFence : Int32} {w_m_askedLetter : Int32} {w_m_askedHeight : Int32} {w_m_left : (Nat → Int32)} {w_m_spent : (Nat → Int32)} {w_m_little : (Nat → Int32)} {w_m_row : (Nat → Int64)} (h : f_X12_sure p1 m_fences m_allowed m_horses m_rowMany m_thrown m_read m_length m_top m_at m_wrong m_ruleSize m_isAsked m_askedHorse m_askedFence m_askedLetter m_askedHeight m_kind m_height m_feet m_stride m_scope m_care m_rule m_left m_spent m_little m_row = some (r, w_m_rowMany, w_m_thrown, w_m_read, w_m_length, w_m_top, w_m_at, w_m_wrong, w_m_isAsked, w_m_askedHorse, w_m_askedFence, w_m_askedLetter, w_m_askedHeight, w_m_left, w_m_spent, w_m_little, w_m_row)) : zMt l zW 209 mX12_sure σ ([(3457, m_fences), (3461, m_allowed), (3462, m_horses), (3472, m_rowMany), (3473, m_thrown), (3474, m_read), (3475, m_length), (3476, m_top), (3477, m_at), (3478, m_wrong), (3483, m_ruleSize), (3484, m_isAsked), (3485, m_askedHorse), (3486, m_askedFence), (3487, m_askedLetter), (3488, m_askedHeight)], [(56, m_kind), (57, m_height), (58, m_feet), (59, m_stride), (60, m_scope), (61, m_care), (69, m_rule), (71, m_left), (72, m_spent), (73, m_little)], [(65, m_row)]) [.ref 54, .int p1] (some (.int r)) ([(3457, m_fences), (3461, m_allowed), (3462, m_horses), (3472, w_m_rowMany), (3473, w_m_thrown), (3474, w_m_read), (3475, w_m_length), (3476, w_m_top), (3477, w_m_at), (3478, w_m_wrong), (3483, m_ruleSize), (3484, w_m_isAsked), (3485, w_m_askedHorse), (3486, w_m_askedFence), (3487, w_m_askedLetter), (3488, w_m_askedHeight)], [(56, m_kind), (57, m_height), (58, m_feet), (59, m_stride), (60, m_scope), (61, m_care), (69, m_rule), (71, w_m_left), (72, w_m_spent), (73, w_m_little)], [(65, w_m_row)]) := by
  refine zMt_of (ls := [(0, .ref 54), (1, .int p1)]) (by decide) rfl (fun _ => Nat.le_of_ble_eq_true rfl) rfl ?_
  unfold f_X12_sure at h
  refine zJ_aload_n dX12_sure_0 rfl rfl ?_
  refine zJ_iload_n dX12_sure_1 rfl rfl ?_
  refine zJ_aload_n dX12_sure_2 rfl rfl ?_
  refine zJ_geti (mi := mX12_sure) (x := m_allowed) dX12_sure_3 F_X12_22 zW_54 rfl rfl rfl ?_
  obtain ⟨rn1, m_rowManyn2, m_thrownn3, m_readn4, m_lengthn5, m_topn6, m_atn7, m_wrongn8, m_isAskedn9, m_askedHorsen10, m_askedFencen11, m_askedLettern12, m_askedHeightn13, m_leftn14, m_spentn15, m_littlen16, m_rown17, hcl, h⟩ := bd17_some h
  refine zJ_callV2 (σ := σ) (L := ([(3457, m_fences), (3461, m_allowed), (3462, m_horses), (3472, m_rowMany), (3473, m_thrown), (3474, m_read), (3475, m_length), (3476, m_top), (3477, m_at), (3478, m_wrong), (3483, m_ruleSize), (3484, m_isAsked), (3485, m_askedHorse), (3486, m_askedFence), (3487, m_askedLetter), (3488, m_askedHeight)], [(56, m_kind), (57, m_height), (58, m_feet), (59, m_stride), (60, m_scope), (61, m_care), (69, m_rule), (71, m_left), (72, m_spent), (73, m_little)], [(65, m_row)])) (mi := mX12_sure) (yi := mX12_curve) (as := [.int p1, .int m_allowed]) (st := []) (L2 := ([(3457, m_fences), (3461, m_allowed), (3462, m_horses), (3472, m_rowManyn2), (3473, m_thrownn3), (3474, m_readn4), (3475, m_lengthn5), (3476, m_topn6), (3477, m_atn7), (3478, m_wrongn8), (3483, m_ruleSize), (3484, m_isAskedn9), (3485, m_askedHorsen10), (3486, m_askedFencen11), (3487, m_askedLettern12), (3488, m_askedHeightn13)], [(56, m_kind), (57, m_height), (58, m_feet), (59, m_stride), (60, m_scope), (61, m_care), (69, m_rule), (71, m_leftn14), (72, m_spentn15), (73, m_littlen16)], [(65, m_rown17)])) dX12_sure_6 ML_X12_302 Yv_X12_curve rfl zW_54 rfl rfl (t_X12_curve l _ hcl) (zsub_i (zle_c rfl (zle_c rfl (zle_c rfl (zle_c rfl (zle_c rfl (zle_c rfl (zle_c rfl (zle_c rfl (zle_c rfl (zle_c rfl (zle_c rfl (zle_c rfl (zle_c rfl (zle_c rfl (zle_c rfl zle_n))))))))))))))) (zle_c rfl (zle_c rfl (zle_c rfl (zle_c rfl (zle_c rfl (zle_c rfl (zle_c rfl (zle_c rfl (zle_c rfl (zle_c rfl zle_n)))))))))) (zle_c rfl zle_n)) (zjok_i rfl rfl (zle_c rfl (zle_c rfl (zle_c rfl (zle_c rfl (zle_c rfl (zle_c rfl (zle_c rfl (zle_c rfl (zle_c rfl (zle_c rfl (zle_c rfl (zle_c rfl (zle_c rfl (zle_c rfl (zle_c rfl (zle_c rfl zle_n)))))))))))))))) rfl rfl (zle_c rfl (zle_c rfl (zle_c rfl (zle_c rfl (zle_c rfl (zle_c rfl (zle_c rfl (zle_c rfl (zle_c rfl (zle_c rfl zle_n)))))))))) rfl rfl (zle_c rfl zle_n)) (Nat.le_of_ble_eq_true rfl) (Nat.le_of_ble_eq_true rfl) rfl rfl ?_
  obtain ⟨rfl, rfl, rfl, rfl, rfl, rfl, rfl, rfl, rfl, rfl, rfl, rfl, rfl, rfl, rfl, rfl, rfl⟩ := so17 h
  exact zJ_iret dX12_sure_9 rfl rfl
set_option maxRecDepth 100000 in
set_option maxHeartbeats 4000000 in
theorem t_X12_tellPlaces_m_now (l : Launch) (σ : zS) {m_rowMany : Int32} {m_now : (Nat → Int32)} {m_row : (Nat → Int64)} {w_m_rowMany : Int32} {w_m_row : (Nat → Int64)} (h : f_X12_tellPlaces_m_now m_rowMany m_now m_row = some (w_m_rowMany, w_m_row)) : zMt l zW 2 mX12_tellPlaces σ ([(3472, m_rowMany)], [(55, m_now)], [(65, m_row)]) [.ref 54, .ref 55] none ([(3472, w_m_rowMany)], [(55, m_now)], [(65, w_m_row)]) := by
  refine zMt_of (ls := [(0, .ref 54), (1, .ref 55)]) (by decide) rfl (fun _ => Nat.le_of_ble_eq_true rfl) rfl ?_
  unfold f_X12_tellPlaces_m_now at h
  refine zJ_iconst dX12_tellPlaces_0 zc_1 rfl ?_
  refine zJ_istore_n (ls' := [(2, .int (1 : Int32)), (0, .ref 54), (1, .ref 55)]) dX12_tellPlaces_1 rfl rfl rfl ?_
  have hk2 : ∀ (m_rowMany_2x : Int32) (m_row_2x : (Nat → Int64)), k_X12_tellPlaces_m_now_2  m_rowMany_2x m_row_2x = some (w_m_rowMany, w_m_row) → zJ l zW 2 mX12_tellPlaces σ ([(3472, m_rowMany_2x)], [(55, m_now)], [(65, m_row_2x)]) 47 [] [] none ([(3472, w_m_rowMany)], [(55, m_now)], [(65, w_m_row)]) := by
    intro m_rowMany_2x m_row_2x h
    unfold k_X12_tellPlaces_m_now_2 at h
    obtain ⟨rfl, rfl⟩ := so2 h
    exact zJ_vret dX12_tellPlaces_47 rfl
  refine zJ_loc (ls' := [(0, .ref 54), (1, .ref 55), (2, .int (1 : Int32))]) (zll_c rfl (zll_c rfl (zll_c rfl zll_n))) ?_
  refine ml3_J (fun (v2_2 : Int32) (m_rowMany_2 : Int32) (m_row_2 : (Nat → Int64)) => zJ l zW 2 mX12_tellPlaces σ ([(3472, m_rowMany_2)], [(55, m_now)], [(65, m_row_2)]) 2 [(0, .ref 54), (1, .ref 55), (2, .int v2_2)] [] none ([(3472, w_m_rowMany)], [(55, m_now)], [(65, w_m_row)])) (fun rc2 hrc2 v2_2 m_rowMany_2 m_row_2 h => ?_) zN _ _ _ h
  unfold s_X12_tellPlaces_m_now_2 at h
  refine zJ_iload_n dX12_tellPlaces_2 rfl rfl ?_
  refine zJ_aload_n dX12_tellPlaces_3 rfl rfl ?_
  refine zJ_bipush dX12_tellPlaces_4 zb_48 rfl ?_
  obtain ⟨hg, h⟩ := gd_some h
  refine zJ_iald (mi := mX12_tellPlaces) (f := m_now) dX12_tellPlaces_6 zW_55 (ix_in hg) rfl rfl ?_
  refine zJ_icmp_gt (tgt := 47) dX12_tellPlaces_7 (by decide) rfl (fun hc => ?_) (fun hc => ?_)
  · replace h := it_t hc h
    refine zJ_loc (ls' := []) zll_n ?_
    exact hk2 _ _ h
  · replace h := it_f hc h
    refine zJ_iconst dX12_tellPlaces_10 zc_0 rfl ?_
    refine zJ_istore_n (ls' := [(3, .int (0 : Int32)), (0, .ref 54), (1, .ref 55), (2, .int v2_2)]) dX12_tellPlaces_11 rfl rfl rfl ?_
    have hk12 : ∀ (m_rowMany_12x : Int32) (m_row_12x : (Nat → Int64)), k_X12_tellPlaces_m_now_12 rc2 v2_2 m_rowMany_12x m_row_12x = some (w_m_rowMany, w_m_row) → zJ l zW 2 mX12_tellPlaces σ ([(3472, m_rowMany_12x)], [(55, m_now)], [(65, m_row_12x)]) 41 [(0, .ref 54), (1, .ref 55), (2, .int v2_2)] [] none ([(3472, w_m_rowMany)], [(55, m_now)], [(65, w_m_row)]) := by
      intro m_rowMany_12x m_row_12x h
      unfold k_X12_tellPlaces_m_now_12 at h
      obtain ⟨v2n1, ev2n1, h⟩ := lt1_some h
      refine zJ_iincN (ls' := [(2, .int v2n1), (0, .ref 54), (1, .ref 55)]) dX12_tellPlaces_41 rfl rfl zc_1 ev2n1 rfl rfl ?_
      refine zJ_goto (tgt := 2) dX12_tellPlaces_44 (by decide) ?_
      refine zJ_loc (ls' := [(0, .ref 54), (1, .ref 55), (2, .int v2n1)]) (zll_c rfl (zll_c rfl (zll_c rfl zll_n))) ?_
      exact hrc2 _ _ _ h
    refine zJ_loc (ls' := [(0, .ref 54), (1, .ref 55), (2, .int v2_2), (3, .int (0 : Int32))]) (zll_c rfl (zll_c rfl (zll_c rfl (zll_c rfl zll_n)))) ?_
    refine ml3_J (fun (v3_12 : Int32) (m_rowMany_12 : Int32) (m_row_12 : (Nat → Int64)) => zJ l zW 2 mX12_tellPlaces σ ([(3472, m_rowMany_12)], [(55, m_now)], [(65, m_row_12)]) 12 [(0, .ref 54), (1, .ref 55), (2, .int v2_2), (3, .int v3_12)] [] none ([(3472, w_m_rowMany)], [(55, m_now)], [(65, w_m_row)])) (fun rc12 hrc12 v3_12 m_rowMany_12 m_row_12 h => ?_) zN _ _ _ h
    unfold s_X12_tellPlaces_m_now_12 at h
    refine zJ_iload_n dX12_tellPlaces_12 rfl rfl ?_
    refine zJ_aload_n dX12_tellPlaces_13 rfl rfl ?_
    refine zJ_bipush dX12_tellPlaces_14 zb_48 rfl ?_
    obtain ⟨hg, h⟩ := gd_some h
    refine zJ_iald (mi := mX12_tellPlaces) (f := m_now) dX12_tellPlaces_16 zW_55 (ix_in hg) rfl rfl ?_
    refine zJ_icmp_ge (tgt := 41) dX12_tellPlaces_17 (by decide) rfl (fun hc => ?_) (fun hc => ?_)
    · replace h := it_t hc h
      refine zJ_loc (ls' := [(0, .ref 54), (1, .ref 55), (2, .int v2_2)]) (zll_c rfl (zll_c rfl (zll_c rfl zll_n))) ?_
      exact hk12 _ _ h
    · replace h := it_f hc h
      refine zJ_aload_n dX12_tellPlaces_20 rfl rfl ?_
      refine zJ_iload_n dX12_tellPlaces_21 rfl rfl ?_
      obtain ⟨rn2, hcl, h⟩ := bd1_some h
      refine zJ_callS2 (σ := σ) (L := ([(3472, m_rowMany_12)], [(55, m_now)], [(65, m_row_12)])) (mi := mX12_tellPlaces) (yi := mX12_placeOf) (as := [.ref 55, .int v3_12]) (st := []) (L2 := ([(3472, m_rowMany_12)], [(55, m_now)], [(65, m_row_12)])) dX12_tellPlaces_22 ML_X12_358 Ys_X12_placeOf rfl (t_X12_placeOf_m_now l _ hcl) (zsub_i zle_n (zle_c rfl zle_n) zle_n) (zjok_i rfl rfl (zle_c rfl zle_n) rfl rfl (zle_c rfl zle_n) rfl rfl (zle_c rfl zle_n)) (Nat.le_of_ble_eq_true rfl) (Nat.le_of_ble_eq_true rfl) rfl rfl ?_
      refine zJ_iload_n dX12_tellPlaces_25 rfl rfl ?_
      refine zJ_icmp_ne (tgt := 35) dX12_tellPlaces_26 (by decide) rfl (fun hc => ?_) (fun hc => ?_)
      · replace h := it_f hc h
        obtain ⟨v3n3, ev3n3, h⟩ := lt1_some h
        refine zJ_iincN (ls' := [(3, .int v3n3), (0, .ref 54), (1, .ref 55), (2, .int v2_2)]) dX12_tellPlaces_35 rfl rfl zc_1 ev3n3 rfl rfl ?_
        refine zJ_goto (tgt := 12) dX12_tellPlaces_38 (by decide) ?_
        refine zJ_loc (ls' := [(0, .ref 54), (1, .ref 55), (2, .int v2_2), (3, .int v3n3)]) (zll_c rfl (zll_c rfl (zll_c rfl (zll_c rfl zll_n)))) ?_
        exact hrc12 _ _ _ h
      · replace h := it_t hc h
        refine zJ_aload_n dX12_tellPlaces_29 rfl rfl ?_
        refine zJ_iload_n dX12_tellPlaces_30 rfl rfl ?_
        refine zJ_i2l dX12_tellPlaces_31 rfl ?_
        obtain ⟨m_rowManyn4, m_rown5, hcl, h⟩ := bd2_some h
        refine zJ_callV2 (σ := σ) (L := ([(3472, m_rowMany_12)], [(55, m_now)], [(65, m_row_12)])) (mi := mX12_tellPlaces) (yi := mX12_tell) (as := [.long v3_12.toInt64]) (st := []) (L2 := ([(3472, m_rowManyn4)], [(55, m_now)], [(65, m_rown5)])) dX12_tellPlaces_32 ML_X12_265 Yv_X12_tell rfl zW_54 rfl rfl (t_X12_tell l _ hcl) (zsub_i (zle_c rfl zle_n) zle_n (zle_c rfl zle_n)) (zjok_i rfl rfl (zle_c rfl zle_n) rfl rfl (zle_c rfl zle_n) rfl rfl (zle_c rfl zle_n)) (Nat.le_of_ble_eq_true rfl) (Nat.le_of_ble_eq_true rfl) rfl rfl ?_
        obtain ⟨v3n6, ev3n6, h⟩ := lt1_some h
        refine zJ_iincN (ls' := [(3, .int v3n6), (0, .ref 54), (1, .ref 55), (2, .int v2_2)]) dX12_tellPlaces_35 rfl rfl zc_1 ev3n6 rfl rfl ?_
        refine zJ_goto (tgt := 12) dX12_tellPlaces_38 (by decide) ?_
        refine zJ_loc (ls' := [(0, .ref 54), (1, .ref 55), (2, .int v2_2), (3, .int v3n6)]) (zll_c rfl (zll_c rfl (zll_c rfl (zll_c rfl zll_n)))) ?_
        exact hrc12 _ _ _ h
set_option maxRecDepth 100000 in
set_option maxHeartbeats 4000000 in
theorem t_X12_table (l : Launch) (σ : zS) {m_rowMany : Int32} {m_thrown : Int32} {m_now : (Nat → Int32)} {m_row : (Nat → Int64)} {r : Int32} {w_m_rowMany : Int32} {w_m_thrown : Int32} {w_m_row : (Nat → Int64)} (h : f_X12_table m_rowMany m_thrown m_now m_row = some (r, w_m_rowMany, w_m_thrown, w_m_row)) : zMt l zW 3 mX12_table σ ([(3472, m_rowMany), (3473, m_thrown)], [(55, m_now)], [(65, m_row)]) [.ref 54] (some (.int r)) ([(3472, w_m_rowMany), (3473, w_m_thrown)], [(55, m_now)], [(65, w_m_row)]) := by
  refine zMt_of (ls := [(0, .ref 54)]) (by decide) rfl (fun _ => Nat.le_of_ble_eq_true rfl) rfl ?_
  unfold f_X12_table at h
  refine zJ_aload_n dX12_table_0 rfl rfl ?_
  refine zJ_iconst dX12_table_1 zc_0 rfl ?_
  refine zK_puti (mi := mX12_table) (la' := [(3472, m_rowMany), (3473, (0 : Int32))]) zW_ok dX12_table_2 F_X12_113 P_12_17 zW_54 rfl rfl rfl ?_
  refine zJ_iconst dX12_table_5 zc_0 rfl ?_
  refine zJ_istore_n (ls' := [(1, .int (0 : Int32)), (0, .ref 54)]) dX12_table_6 rfl rfl rfl ?_
  refine zJ_iconst dX12_table_7 zc_0 rfl ?_
  refine zJ_istore_n (ls' := [(2, .int (0 : Int32)), (1, .int (0 : Int32)), (0, .ref 54)]) dX12_table_8 rfl rfl rfl ?_
  have hk9 : ∀ (v1_9x : Int32), k_X12_table_9 m_now m_row v1_9x = some (r, w_m_rowMany, w_m_thrown, w_m_row) → zJ l zW 3 mX12_table σ ([(3472, m_rowMany), (3473, (0 : Int32))], [(55, m_now)], [(65, m_row)]) 47 [(0, .ref 54), (1, .int v1_9x)] [] (some (.int r)) ([(3472, w_m_rowMany), (3473, w_m_thrown)], [(55, m_now)], [(65, w_m_row)]) := by
    intro v1_9x h
    unfold k_X12_table_9 at h
    refine zJ_aload_n dX12_table_47 rfl rfl ?_
    refine zJ_iconst dX12_table_48 zc_0 rfl ?_
    refine zK_puti (mi := mX12_table) (la' := [(3472, (0 : Int32)), (3473, (0 : Int32))]) zW_ok dX12_table_49 F_X12_116 P_12_16 zW_54 rfl rfl rfl ?_
    refine zJ_aload_n dX12_table_52 rfl rfl ?_
    refine zJ_aload_n dX12_table_53 rfl rfl ?_
    refine zJ_getr (mi := mX12_table) dX12_table_54 F_X12_9 zW_54 rfl rfl ?_
    obtain ⟨m_rowManyn1, m_rown2, hcl, h⟩ := bd2_some h
    refine zJ_callV2 (σ := σ) (L := ([(3472, (0 : Int32)), (3473, (0 : Int32))], [(55, m_now)], [(65, m_row)])) (mi := mX12_table) (yi := mX12_tellPlaces) (as := [.ref 55]) (st := []) (L2 := ([(3472, m_rowManyn1), (3473, (0 : Int32))], [(55, m_now)], [(65, m_rown2)])) dX12_table_57 ML_X12_365 Yv_X12_tellPlaces rfl zW_54 rfl rfl (t_X12_tellPlaces_m_now l _ hcl) (zsub_i (zle_c rfl zle_n) (zle_c rfl zle_n) (zle_c rfl zle_n)) (zjok_i rfl rfl (zle_c rfl (zle_c rfl zle_n)) rfl rfl (zle_c rfl zle_n) rfl rfl (zle_c rfl zle_n)) (Nat.le_of_ble_eq_true rfl) (Nat.le_of_ble_eq_true rfl) rfl rfl ?_
    refine zJ_iload_n dX12_table_60 rfl rfl ?_
    obtain ⟨rfl, rfl, rfl, rfl⟩ := so4 h
    exact zJ_iret dX12_table_61 rfl rfl
  refine zJ_loc (ls' := [(0, .ref 54), (1, .int (0 : Int32)), (2, .int (0 : Int32))]) (zll_c rfl (zll_c rfl (zll_c rfl zll_n))) ?_
  refine ml2_J (fun (v1_9 : Int32) (v2_9 : Int32) => zJ l zW 3 mX12_table σ ([(3472, m_rowMany), (3473, (0 : Int32))], [(55, m_now)], [(65, m_row)]) 9 [(0, .ref 54), (1, .int v1_9), (2, .int v2_9)] [] (some (.int r)) ([(3472, w_m_rowMany), (3473, w_m_thrown)], [(55, m_now)], [(65, w_m_row)])) (fun rc9 hrc9 v1_9 v2_9 h => ?_) zN _ _ h
  unfold s_X12_table_9 at h
  refine zJ_iload_n dX12_table_9 rfl rfl ?_
  refine zJ_aload_n dX12_table_10 rfl rfl ?_
  refine zJ_getr (mi := mX12_table) dX12_table_11 F_X12_9 zW_54 rfl rfl ?_
  refine zJ_bipush dX12_table_14 zb_48 rfl ?_
  obtain ⟨hg, h⟩ := gd_some h
  refine zJ_iald (mi := mX12_table) (f := m_now) dX12_table_16 zW_55 (ix_in hg) rfl rfl ?_
  refine zJ_icmp_ge (tgt := 47) dX12_table_17 (by decide) rfl (fun hc => ?_) (fun hc => ?_)
  · replace h := it_t hc h
    refine zJ_loc (ls' := [(0, .ref 54), (1, .int v1_9)]) (zll_c rfl (zll_c rfl zll_n)) ?_
    exact hk9 _ h
  · replace h := it_f hc h
    refine zJ_iload_n dX12_table_20 rfl rfl ?_
    refine zJ_aload_n dX12_table_21 rfl rfl ?_
    refine zJ_getr (mi := mX12_table) dX12_table_22 F_X12_9 zW_54 rfl rfl ?_
    refine zJ_iconst dX12_table_25 zc_4 rfl ?_
    refine zJ_iload_n dX12_table_26 rfl rfl ?_
    refine zJ_imul dX12_table_27 rfl ?_
    refine zJ_iconst dX12_table_28 zc_2 rfl ?_
    refine zJ_iadd dX12_table_29 rfl ?_
    obtain ⟨hg, h⟩ := gd_some h
    refine zJ_iald (mi := mX12_table) (f := m_now) dX12_table_30 zW_55 (ix_in hg) rfl rfl ?_
    refine zJ_if_ne (tgt := 38) dX12_table_31 (by decide) rfl (fun hc => ?_) (fun hc => ?_)
    · replace h := it_f hc h
      refine zJ_iconst dX12_table_38 zc_0 rfl ?_
      refine zJ_iadd dX12_table_39 rfl ?_
      obtain ⟨v1n3, ev1n3, h⟩ := lt1_some h
      refine zJ_nmi ev1n3 ?_
      refine zJ_istore_n (ls' := [(1, .int v1n3), (0, .ref 54), (2, .int v2_9)]) dX12_table_40 rfl rfl rfl ?_
      obtain ⟨v2n4, ev2n4, h⟩ := lt1_some h
      refine zJ_iincN (ls' := [(2, .int v2n4), (1, .int v1n3), (0, .ref 54)]) dX12_table_41 rfl rfl zc_1 ev2n4 rfl rfl ?_
      refine zJ_goto (tgt := 9) dX12_table_44 (by decide) ?_
      refine zJ_loc (ls' := [(0, .ref 54), (1, .int v1n3), (2, .int v2n4)]) (zll_c rfl (zll_c rfl (zll_c rfl zll_n))) ?_
      exact hrc9 _ _ h
    · replace h := it_t hc h
      refine zJ_iconst dX12_table_34 zc_1 rfl ?_
      refine zJ_goto (tgt := 39) dX12_table_35 (by decide) ?_
      refine zJ_iadd dX12_table_39 rfl ?_
      obtain ⟨v1n5, ev1n5, h⟩ := lt1_some h
      refine zJ_nmi ev1n5 ?_
      refine zJ_istore_n (ls' := [(1, .int v1n5), (0, .ref 54), (2, .int v2_9)]) dX12_table_40 rfl rfl rfl ?_
      obtain ⟨v2n6, ev2n6, h⟩ := lt1_some h
      refine zJ_iincN (ls' := [(2, .int v2n6), (1, .int v1n5), (0, .ref 54)]) dX12_table_41 rfl rfl zc_1 ev2n6 rfl rfl ?_
      refine zJ_goto (tgt := 9) dX12_table_44 (by decide) ?_
      refine zJ_loc (ls' := [(0, .ref 54), (1, .int v1n5), (2, .int v2n6)]) (zll_c rfl (zll_c rfl (zll_c rfl zll_n))) ?_
      exact hrc9 _ _ h
set_option maxRecDepth 100000 in
set_option maxHeartbeats 4000000 in
theorem t_X12_through (l : Launch) (σ : zS) {p1 : Int32} {p2 : Int32} {m_fences : Int32} {m_horses : Int32} {m_plans : Int32} {m_rowMany : Int32} {m_thrown : Int32} {m_read : Int32} {m_length : Int32} {m_top : Int32} {m_at : Int32} {m_wrong : Int32} {m_ruleSize : Int32} {m_isAsked : Int32} {m_askedHorse : Int32} {m_askedFence : Int32} {m_askedLetter : Int32} {m_askedHeight : Int32} {m_kind : (Nat → Int32)} {m_height : (Nat → Int32)} {m_feet : (Nat → Int32)} {m_stride : (Nat → Int32)} {m_scope : (Nat → Int32)} {m_care : (Nat → Int32)} {m_plan : (Nat → Int32)} {m_rule : (Nat → Int32)} {m_row : (Nat → Int64)} {r : Int32} {w_m_rowMany : Int32} {w_m_thrown : Int32} {w_m_read : Int32} {w_m_length : Int32} {w_m_top : Int32} {w_m_at : Int32} {w_m_wrong : Int32} {w_m_isAsked : Int32} {w_m_askedHorse : Int32} {w_m_askedFence : Int32} {w_m_askedLetter : Int32} {w_m_askedHeight : Int32} {w_m_row : (Nat → Int64)} (h : f_X12_through p1 p2 m_fences m_horses m_plans m_rowMany m_thrown m_read m_length m_top m_at m_wrong m_ruleSize m_isAsked m_askedHorse m_askedFence m_askedLetter m_askedHeight m_kind m_height m_feet m_stride m_scope m_care m_plan m_rule m_row = some (r, w_m_rowMany, w_m_thrown, w_m_read, w_m_length, w_m_top, w_m_at, w_m_wrong, w_m_isAsked, w_m_askedHorse, w_m_askedFence, w_m_askedLetter, w_m_askedHeight, w_m_row)) : zMt l zW 208 mX12_through σ ([(3457, m_fences), (3462, m_horses), (3466, m_plans), (3472, m_rowMany), (3473, m_thrown), (3474, m_read), (3475, m_length), (3476, m_top), (3477, m_at), (3478, m_wrong), (3483, m_ruleSize), (3484, m_isAsked), (3485, m_askedHorse), (3486, m_askedFence), (3487, m_askedLetter), (3488, m_askedHeight)], [(56, m_kind), (57, m_height), (58, m_feet), (59, m_stride), (60, m_scope), (61, m_care), (62, m_plan), (69, m_rule)], [(65, m_row)]) [.ref 54, .int p1, .int p2] (some (.int r)) ([(3457, m_fences), (3462, m_horses), (3466, m_plans), (3472, w_m_rowMany), (3473, w_m_thrown), (3474, w_m_read), (3475, w_m_length), (3476, w_m_top), (3477, w_m_at), (3478, w_m_wrong), (3483, m_ruleSize), (3484, w_m_isAsked), (3485, w_m_askedHorse), (3486, w_m_askedFence), (3487, w_m_askedLetter), (3488, w_m_askedHeight)], [(56, m_kind), (57, m_height), (58, m_feet), (59, m_stride), (60, m_scope), (61, m_care), (62, m_plan), (69, m_rule)], [(65, w_m_row)]) := by
  refine zMt_of (ls := [(0, .ref 54), (1, .int p1), (2, .int p2)]) (by decide) rfl (fun _ => Nat.le_of_ble_eq_true rfl) rfl ?_
  unfold f_X12_through at h
  refine zJ_aload_n dX12_through_0 rfl rfl ?_
  refine zJ_iconst dX12_through_1 zc_0 rfl ?_
  refine zK_puti (mi := mX12_through) (la' := [(3457, m_fences), (3462, m_horses), (3466, m_plans), (3472, m_rowMany), (3473, (0 : Int32)), (3474, m_read), (3475, m_length), (3476, m_top), (3477, m_at), (3478, m_wrong), (3483, m_ruleSize), (3484, m_isAsked), (3485, m_askedHorse), (3486, m_askedFence), (3487, m_askedLetter), (3488, m_askedHeight)]) zW_ok dX12_through_2 F_X12_113 P_12_17 zW_54 rfl rfl rfl ?_
  refine zJ_aload_n dX12_through_5 rfl rfl ?_
  refine zJ_iload_n dX12_through_6 rfl rfl ?_
  obtain ⟨rn1, hcl, h⟩ := bd1_some h
  refine zJ_callV2 (σ := σ) (L := ([(3457, m_fences), (3462, m_horses), (3466, m_plans), (3472, m_rowMany), (3473, (0 : Int32)), (3474, m_read), (3475, m_length), (3476, m_top), (3477, m_at), (3478, m_wrong), (3483, m_ruleSize), (3484, m_isAsked), (3485, m_askedHorse), (3486, m_askedFence), (3487, m_askedLetter), (3488, m_askedHeight)], [(56, m_kind), (57, m_height), (58, m_feet), (59, m_stride), (60, m_scope), (61, m_care), (62, m_plan), (69, m_rule)], [(65, m_row)])) (mi := mX12_through) (yi := mX12_isPlan) (as := [.int p1]) (st := []) (L2 := ([(3457, m_fences), (3462, m_horses), (3466, m_plans), (3472, m_rowMany), (3473, (0 : Int32)), (3474, m_read), (3475, m_length), (3476, m_top), (3477, m_at), (3478, m_wrong), (3483, m_ruleSize), (3484, m_isAsked), (3485, m_askedHorse), (3486, m_askedFence), (3487, m_askedLetter), (3488, m_askedHeight)], [(56, m_kind), (57, m_height), (58, m_feet), (59, m_stride), (60, m_scope), (61, m_care), (62, m_plan), (69, m_rule)], [(65, m_row)])) dX12_through_7 ML_X12_136 Yv_X12_isPlan rfl zW_54 rfl rfl (t_X12_isPlan l _ hcl) (zsub_i (zle_c rfl zle_n) zle_n zle_n) (zjok_i rfl rfl (zle_c rfl (zle_c rfl (zle_c rfl (zle_c rfl (zle_c rfl (zle_c rfl (zle_c rfl (zle_c rfl (zle_c rfl (zle_c rfl (zle_c rfl (zle_c rfl (zle_c rfl (zle_c rfl (zle_c rfl (zle_c rfl zle_n)))))))))))))))) rfl rfl (zle_c rfl (zle_c rfl (zle_c rfl (zle_c rfl (zle_c rfl (zle_c rfl (zle_c rfl (zle_c rfl zle_n)))))))) rfl rfl (zle_c rfl zle_n)) (Nat.le_of_ble_eq_true rfl) (Nat.le_of_ble_eq_true rfl) rfl rfl ?_
  refine zJ_if_eq (tgt := 24) dX12_through_10 (by decide) rfl (fun hc => ?_) (fun hc => ?_)
  · replace h := it_t hc h
    refine zJ_iconst dX12_through_24 zc_m1 rfl ?_
    obtain ⟨rfl, rfl, rfl, rfl, rfl, rfl, rfl, rfl, rfl, rfl, rfl, rfl, rfl, rfl⟩ := so14 h
    exact zJ_iret dX12_through_25 rfl rfl
  · replace h := it_f hc h
    refine zJ_iload_n dX12_through_13 rfl rfl ?_
    refine zJ_iconst dX12_through_14 zc_0 rfl ?_
    refine zJ_sipush dX12_through_15 zs_10000 rfl ?_
    obtain ⟨rn2, hcl, h⟩ := bd1_some h
    refine zJ_callS2 (σ := σ) (L := ([(3457, m_fences), (3462, m_horses), (3466, m_plans), (3472, m_rowMany), (3473, (0 : Int32)), (3474, m_read), (3475, m_length), (3476, m_top), (3477, m_at), (3478, m_wrong), (3483, m_ruleSize), (3484, m_isAsked), (3485, m_askedHorse), (3486, m_askedFence), (3487, m_askedLetter), (3488, m_askedHeight)], [(56, m_kind), (57, m_height), (58, m_feet), (59, m_stride), (60, m_scope), (61, m_care), (62, m_plan), (69, m_rule)], [(65, m_row)])) (mi := mX12_through) (yi := mX12_in) (as := [.int p2, .int (0 : Int32), .int (10000 : Int32)]) (st := []) (L2 := ([(3457, m_fences), (3462, m_horses), (3466, m_plans), (3472, m_rowMany), (3473, (0 : Int32)), (3474, m_read), (3475, m_length), (3476, m_top), (3477, m_at), (3478, m_wrong), (3483, m_ruleSize), (3484, m_isAsked), (3485, m_askedHorse), (3486, m_askedFence), (3487, m_askedLetter), (3488, m_askedHeight)], [(56, m_kind), (57, m_height), (58, m_feet), (59, m_stride), (60, m_scope), (61, m_care), (62, m_plan), (69, m_rule)], [(65, m_row)])) dX12_through_18 ML_X12_122 Ys_X12_in rfl (t_X12_in l _ hcl) (zsub_i zle_n zle_n zle_n) (zjok_i rfl rfl (zle_c rfl (zle_c rfl (zle_c rfl (zle_c rfl (zle_c rfl (zle_c rfl (zle_c rfl (zle_c rfl (zle_c rfl (zle_c rfl (zle_c rfl (zle_c rfl (zle_c rfl (zle_c rfl (zle_c rfl (zle_c rfl zle_n)))))))))))))))) rfl rfl (zle_c rfl (zle_c rfl (zle_c rfl (zle_c rfl (zle_c rfl (zle_c rfl (zle_c rfl (zle_c rfl zle_n)))))))) rfl rfl (zle_c rfl zle_n)) (Nat.le_of_ble_eq_true rfl) (Nat.le_of_ble_eq_true rfl) rfl rfl ?_
    refine zJ_if_ne (tgt := 26) dX12_through_21 (by decide) rfl (fun hc => ?_) (fun hc => ?_)
    · replace h := it_f hc h
      refine zJ_aload_n dX12_through_26 rfl rfl ?_
      refine zJ_iload_n dX12_through_27 rfl rfl ?_
      refine zJ_iload_n dX12_through_28 rfl rfl ?_
      refine zJ_iconst dX12_through_29 zc_m1 rfl ?_
      refine zJ_iconst dX12_through_30 zc_0 rfl ?_
      obtain ⟨rn3, m_readn4, m_lengthn5, m_topn6, m_atn7, m_wrongn8, m_isAskedn9, m_askedHorsen10, m_askedFencen11, m_askedLettern12, m_askedHeightn13, hcl, h⟩ := bd11_some h
      refine zJ_callV2 (σ := σ) (L := ([(3457, m_fences), (3462, m_horses), (3466, m_plans), (3472, m_rowMany), (3473, (0 : Int32)), (3474, m_read), (3475, m_length), (3476, m_top), (3477, m_at), (3478, m_wrong), (3483, m_ruleSize), (3484, m_isAsked), (3485, m_askedHorse), (3486, m_askedFence), (3487, m_askedLetter), (3488, m_askedHeight)], [(56, m_kind), (57, m_height), (58, m_feet), (59, m_stride), (60, m_scope), (61, m_care), (62, m_plan), (69, m_rule)], [(65, m_row)])) (mi := mX12_through) (yi := mX12_throughBy) (as := [.int p1, .int p2, .int (-1 : Int32), .int (0 : Int32)]) (st := []) (L2 := ([(3457, m_fences), (3462, m_horses), (3466, m_plans), (3472, m_rowMany), (3473, (0 : Int32)), (3474, m_readn4), (3475, m_lengthn5), (3476, m_topn6), (3477, m_atn7), (3478, m_wrongn8), (3483, m_ruleSize), (3484, m_isAskedn9), (3485, m_askedHorsen10), (3486, m_askedFencen11), (3487, m_askedLettern12), (3488, m_askedHeightn13)], [(56, m_kind), (57, m_height), (58, m_feet), (59, m_stride), (60, m_scope), (61, m_care), (62, m_plan), (69, m_rule)], [(65, m_row)])) dX12_through_31 ML_X12_422 Yv_X12_throughBy rfl zW_54 rfl rfl (t_X12_throughBy l _ hcl) (zsub_i (zle_c rfl (zle_c rfl (zle_c rfl (zle_c rfl (zle_c rfl (zle_c rfl (zle_c rfl (zle_c rfl (zle_c rfl (zle_c rfl (zle_c rfl (zle_c rfl (zle_c rfl zle_n))))))))))))) (zle_c rfl (zle_c rfl (zle_c rfl (zle_c rfl (zle_c rfl (zle_c rfl (zle_c rfl (zle_c rfl zle_n)))))))) zle_n) (zjok_i rfl rfl (zle_c rfl (zle_c rfl (zle_c rfl (zle_c rfl (zle_c rfl (zle_c rfl (zle_c rfl (zle_c rfl (zle_c rfl (zle_c rfl (zle_c rfl (zle_c rfl (zle_c rfl (zle_c rfl (zle_c rfl (zle_c rfl zle_n)))))))))))))))) rfl rfl (zle_c rfl (zle_c rfl (zle_c rfl (zle_c rfl (zle_c rfl (zle_c rfl (zle_c rfl (zle_c rfl zle_n)))))))) rfl rfl (zle_c rfl zle_n)) (Nat.le_of_ble_eq_true rfl) (Nat.le_of_ble_eq_true rfl) rfl rfl ?_
      refine zJ_istore_n (ls' := [(3, .int rn3), (0, .ref 54), (1, .int p1), (2, .int p2)]) dX12_through_34 rfl rfl rfl ?_
      refine zJ_aload_n dX12_through_35 rfl rfl ?_
      refine zJ_iconst dX12_through_36 zc_0 rfl ?_
      refine zK_puti (mi := mX12_through) (la' := [(3457, m_fences), (3462, m_horses), (3466, m_plans), (3472, (0 : Int32)), (3473, (0 : Int32)), (3474, m_readn4), (3475, m_lengthn5), (3476, m_topn6), (3477, m_atn7), (3478, m_wrongn8), (3483, m_ruleSize), (3484, m_isAskedn9), (3485, m_askedHorsen10), (3486, m_askedFencen11), (3487, m_askedLettern12), (3488, m_askedHeightn13)]) zW_ok dX12_through_37 F_X12_116 P_12_16 zW_54 rfl rfl rfl ?_
      refine zJ_aload_n dX12_through_40 rfl rfl ?_
      refine zJ_iload_n dX12_through_41 rfl rfl ?_
      obtain ⟨rn14, hcl, h⟩ := bd1_some h
      refine zJ_callS2 (σ := σ) (L := ([(3457, m_fences), (3462, m_horses), (3466, m_plans), (3472, (0 : Int32)), (3473, (0 : Int32)), (3474, m_readn4), (3475, m_lengthn5), (3476, m_topn6), (3477, m_atn7), (3478, m_wrongn8), (3483, m_ruleSize), (3484, m_isAskedn9), (3485, m_askedHorsen10), (3486, m_askedFencen11), (3487, m_askedLettern12), (3488, m_askedHeightn13)], [(56, m_kind), (57, m_height), (58, m_feet), (59, m_stride), (60, m_scope), (61, m_care), (62, m_plan), (69, m_rule)], [(65, m_row)])) (mi := mX12_through) (yi := mJ6_bitCount_0f7a4) (as := [.int rn3]) (st := [.ref 54]) (L2 := ([(3457, m_fences), (3462, m_horses), (3466, m_plans), (3472, (0 : Int32)), (3473, (0 : Int32)), (3474, m_readn4), (3475, m_lengthn5), (3476, m_topn6), (3477, m_atn7), (3478, m_wrongn8), (3483, m_ruleSize), (3484, m_isAskedn9), (3485, m_askedHorsen10), (3486, m_askedFencen11), (3487, m_askedLettern12), (3488, m_askedHeightn13)], [(56, m_kind), (57, m_height), (58, m_feet), (59, m_stride), (60, m_scope), (61, m_care), (62, m_plan), (69, m_rule)], [(65, m_row)])) dX12_through_42 ML_X12_425 Ys_J6_bitCount_0f7a4 rfl (t_J6_bitCount_0f7a4 l _ hcl) (zsub_i zle_n zle_n zle_n) (zjok_i rfl rfl (zle_c rfl (zle_c rfl (zle_c rfl (zle_c rfl (zle_c rfl (zle_c rfl (zle_c rfl (zle_c rfl (zle_c rfl (zle_c rfl (zle_c rfl (zle_c rfl (zle_c rfl (zle_c rfl (zle_c rfl (zle_c rfl zle_n)))))))))))))))) rfl rfl (zle_c rfl (zle_c rfl (zle_c rfl (zle_c rfl (zle_c rfl (zle_c rfl (zle_c rfl (zle_c rfl zle_n)))))))) rfl rfl (zle_c rfl zle_n)) (Nat.le_of_ble_eq_true rfl) (Nat.le_of_ble_eq_true rfl) rfl rfl ?_
      refine zJ_i2l dX12_through_45 rfl ?_
      obtain ⟨m_rowManyn15, m_rown16, hcl, h⟩ := bd2_some h
      refine zJ_callV2 (σ := σ) (L := ([(3457, m_fences), (3462, m_horses), (3466, m_plans), (3472, (0 : Int32)), (3473, (0 : Int32)), (3474, m_readn4), (3475, m_lengthn5), (3476, m_topn6), (3477, m_atn7), (3478, m_wrongn8), (3483, m_ruleSize), (3484, m_isAskedn9), (3485, m_askedHorsen10), (3486, m_askedFencen11), (3487, m_askedLettern12), (3488, m_askedHeightn13)], [(56, m_kind), (57, m_height), (58, m_feet), (59, m_stride), (60, m_scope), (61, m_care), (62, m_plan), (69, m_rule)], [(65, m_row)])) (mi := mX12_through) (yi := mX12_tell) (as := [.long rn14.toInt64]) (st := []) (L2 := ([(3457, m_fences), (3462, m_horses), (3466, m_plans), (3472, m_rowManyn15), (3473, (0 : Int32)), (3474, m_readn4), (3475, m_lengthn5), (3476, m_topn6), (3477, m_atn7), (3478, m_wrongn8), (3483, m_ruleSize), (3484, m_isAskedn9), (3485, m_askedHorsen10), (3486, m_askedFencen11), (3487, m_askedLettern12), (3488, m_askedHeightn13)], [(56, m_kind), (57, m_height), (58, m_feet), (59, m_stride), (60, m_scope), (61, m_care), (62, m_plan), (69, m_rule)], [(65, m_rown16)])) dX12_through_46 ML_X12_265 Yv_X12_tell rfl zW_54 rfl rfl (t_X12_tell l _ hcl) (zsub_i (zle_c rfl zle_n) zle_n (zle_c rfl zle_n)) (zjok_i rfl rfl (zle_c rfl (zle_c rfl (zle_c rfl (zle_c rfl (zle_c rfl (zle_c rfl (zle_c rfl (zle_c rfl (zle_c rfl (zle_c rfl (zle_c rfl (zle_c rfl (zle_c rfl (zle_c rfl (zle_c rfl (zle_c rfl zle_n)))))))))))))))) rfl rfl (zle_c rfl (zle_c rfl (zle_c rfl (zle_c rfl (zle_c rfl (zle_c rfl (zle_c rfl (zle_c rfl zle_n)))))))) rfl rfl (zle_c rfl zle_n)) (Nat.le_of_ble_eq_true rfl) (Nat.le_of_ble_eq_true rfl) rfl rfl ?_
      refine zJ_iload_n dX12_through_49 rfl rfl ?_
      obtain ⟨rfl, rfl, rfl, rfl, rfl, rfl, rfl, rfl, rfl, rfl, rfl, rfl, rfl, rfl⟩ := so14 h
      exact zJ_iret dX12_through_50 rfl rfl
    · replace h := it_t hc h
      refine zJ_iconst dX12_through_24 zc_m1 rfl ?_
      obtain ⟨rfl, rfl, rfl, rfl, rfl, rfl, rfl, rfl, rfl, rfl, rfl, rfl, rfl, rfl⟩ := so14 h
      exact zJ_iret dX12_through_25 rfl rfl
set_option maxRecDepth 100000 in
set_option maxHeartbeats 4000000 in
theorem t_X12_thrown (l : Launch) (σ : zS) {m_thrown : Int32} {r : Int32} (h : f_X12_thrown m_thrown = some r) : zMt l zW 0 mX12_thrown σ ([(3473, m_thrown)], [], []) [.ref 54] (some (.int r)) ([(3473, m_thrown)], [], []) := by
  refine zMt_of (ls := [(0, .ref 54)]) (by decide) rfl (fun _ => Nat.le_of_ble_eq_true rfl) rfl ?_
  unfold f_X12_thrown at h
  refine zJ_aload_n dX12_thrown_0 rfl rfl ?_
  refine zJ_geti (mi := mX12_thrown) (x := m_thrown) dX12_thrown_1 F_X12_113 zW_54 rfl rfl rfl ?_
  obtain rfl := so1 h
  exact zJ_iret dX12_thrown_4 rfl rfl
