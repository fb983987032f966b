set_option maxRecDepth 100000 in
set_option maxHeartbeats 4000000 in
theorem t_X12_falls (l : Launch) (σ : zS) {p1 : Int32} {p2 : Int32} {m_fences : Int32} {m_horses : Int32} {m_plans : Int32} {m_rowMany : Int32} {m_thrown : Int32} {m_read : Int32} {m_length : Int32} {m_top : Int32} {m_at : Int32} {m_wrong : Int32} {m_ruleSize : Int32} {m_isAsked : Int32} {m_askedHorse : Int32} {m_askedFence : Int32} {m_askedLetter : Int32} {m_askedHeight : Int32} {m_kind : (Nat → Int32)} {m_height : (Nat → Int32)} {m_feet : (Nat → Int32)} {m_stride : (Nat → Int32)} {m_scope : (Nat → Int32)} {m_care : (Nat → Int32)} {m_plan : (Nat → Int32)} {m_rule : (Nat → Int32)} {m_row : (Nat → Int64)} {r : Int32} {w_m_rowMany : Int32} {w_m_thrown : Int32} {w_m_read : Int32} {w_m_length : Int32} {w_m_top : Int32} {w_m_at : Int32} {w_m_wrong : Int32} {w_m_isAsked : Int32} {w_m_askedHorse : Int32} {w_m_askedFence : Int32} {w_m_askedLetter : Int32} {w_m_askedHeight : Int32} {w_m_row : (Nat → Int64)} (h : f_X12_falls p1 p2 m_fences m_horses m_plans m_rowMany m_thrown m_read m_length m_top m_at m_wrong m_ruleSize m_isAsked m_askedHorse m_askedFence m_askedLetter m_askedHeight m_kind m_height m_feet m_stride m_scope m_care m_plan m_rule m_row = some (r, w_m_rowMany, w_m_thrown, w_m_read, w_m_length, w_m_top, w_m_at, w_m_wrong, w_m_isAsked, w_m_askedHorse, w_m_askedFence, w_m_askedLetter, w_m_askedHeight, w_m_row)) : zMt l zW 207 mX12_falls σ ([(3457, m_fences), (3462, m_horses), (3466, m_plans), (3472, m_rowMany), (3473, m_thrown), (3474, m_read), (3475, m_length), (3476, m_top), (3477, m_at), (3478, m_wrong), (3483, m_ruleSize), (3484, m_isAsked), (3485, m_askedHorse), (3486, m_askedFence), (3487, m_askedLetter), (3488, m_askedHeight)], [(56, m_kind), (57, m_height), (58, m_feet), (59, m_stride), (60, m_scope), (61, m_care), (62, m_plan), (69, m_rule)], [(65, m_row)]) [.ref 54, .int p1, .int p2] (some (.int r)) ([(3457, m_fences), (3462, m_horses), (3466, m_plans), (3472, w_m_rowMany), (3473, w_m_thrown), (3474, w_m_read), (3475, w_m_length), (3476, w_m_top), (3477, w_m_at), (3478, w_m_wrong), (3483, m_ruleSize), (3484, w_m_isAsked), (3485, w_m_askedHorse), (3486, w_m_askedFence), (3487, w_m_askedLetter), (3488, w_m_askedHeight)], [(56, m_kind), (57, m_height), (58, m_feet), (59, m_stride), (60, m_scope), (61, m_care), (62, m_plan), (69, m_rule)], [(65, w_m_row)]) := by
  refine zMt_of (ls := [(0, .ref 54), (1, .int p1), (2, .int p2)]) (by decide) rfl (fun _ => Nat.le_of_ble_eq_true rfl) rfl ?_
  unfold f_X12_falls at h
  refine zJ_aload_n dX12_falls_0 rfl rfl ?_
  refine zJ_iconst dX12_falls_1 zc_0 rfl ?_
  refine zK_puti (mi := mX12_falls) (la' := [(3457, m_fences), (3462, m_horses), (3466, m_plans), (3472, m_rowMany), (3473, (0 : Int32)), (3474, m_read), (3475, m_length), (3476, m_top), (3477, m_at), (3478, m_wrong), (3483, m_ruleSize), (3484, m_isAsked), (3485, m_askedHorse), (3486, m_askedFence), (3487, m_askedLetter), (3488, m_askedHeight)]) zW_ok dX12_falls_2 F_X12_113 P_12_17 zW_54 rfl rfl rfl ?_
  refine zJ_aload_n dX12_falls_5 rfl rfl ?_
  refine zJ_iload_n dX12_falls_6 rfl rfl ?_
  refine zJ_iload_n dX12_falls_7 rfl rfl ?_
  obtain ⟨rn1, hcl, h⟩ := bd1_some h
  refine zJ_callV2 (σ := σ) (L := ([(3457, m_fences), (3462, m_horses), (3466, m_plans), (3472, m_rowMany), (3473, (0 : Int32)), (3474, m_read), (3475, m_length), (3476, m_top), (3477, m_at), (3478, m_wrong), (3483, m_ruleSize), (3484, m_isAsked), (3485, m_askedHorse), (3486, m_askedFence), (3487, m_askedLetter), (3488, m_askedHeight)], [(56, m_kind), (57, m_height), (58, m_feet), (59, m_stride), (60, m_scope), (61, m_care), (62, m_plan), (69, m_rule)], [(65, m_row)])) (mi := mX12_falls) (yi := mX12_areBoth) (as := [.int p1, .int p2]) (st := []) (L2 := ([(3457, m_fences), (3462, m_horses), (3466, m_plans), (3472, m_rowMany), (3473, (0 : Int32)), (3474, m_read), (3475, m_length), (3476, m_top), (3477, m_at), (3478, m_wrong), (3483, m_ruleSize), (3484, m_isAsked), (3485, m_askedHorse), (3486, m_askedFence), (3487, m_askedLetter), (3488, m_askedHeight)], [(56, m_kind), (57, m_height), (58, m_feet), (59, m_stride), (60, m_scope), (61, m_care), (62, m_plan), (69, m_rule)], [(65, m_row)])) dX12_falls_8 ML_X12_279 Yv_X12_areBoth rfl zW_54 rfl rfl (t_X12_areBoth l _ hcl) (zsub_i (zle_c rfl (zle_c rfl zle_n)) zle_n zle_n) (zjok_i rfl rfl (zle_c rfl (zle_c rfl (zle_c rfl (zle_c rfl (zle_c rfl (zle_c rfl (zle_c rfl (zle_c rfl (zle_c rfl (zle_c rfl (zle_c rfl (zle_c rfl (zle_c rfl (zle_c rfl (zle_c rfl (zle_c rfl zle_n)))))))))))))))) rfl rfl (zle_c rfl (zle_c rfl (zle_c rfl (zle_c rfl (zle_c rfl (zle_c rfl (zle_c rfl (zle_c rfl zle_n)))))))) rfl rfl (zle_c rfl zle_n)) (Nat.le_of_ble_eq_true rfl) (Nat.le_of_ble_eq_true rfl) rfl rfl ?_
  refine zJ_if_ne (tgt := 16) dX12_falls_11 (by decide) rfl (fun hc => ?_) (fun hc => ?_)
  · replace h := it_f hc h
    refine zJ_bipush dX12_falls_16 zb_m2 rfl ?_
    refine zJ_istore_n (ls' := [(3, .int (-2 : Int32)), (0, .ref 54), (1, .int p1), (2, .int p2)]) dX12_falls_18 rfl rfl rfl ?_
    refine zJ_iconst dX12_falls_19 zc_m1 rfl ?_
    refine zJ_istore (ls' := [(4, .int (-1 : Int32)), (3, .int (-2 : Int32)), (0, .ref 54), (1, .int p1), (2, .int p2)]) dX12_falls_20 rfl rfl rfl ?_
    refine zJ_iconst dX12_falls_22 zc_0 rfl ?_
    refine zJ_istore (ls' := [(5, .int (0 : Int32)), (4, .int (-1 : Int32)), (3, .int (-2 : Int32)), (0, .ref 54), (1, .int p1), (2, .int p2)]) dX12_falls_23 rfl rfl rfl ?_
    have hk25 : ∀ (v3_25x : Int32) (v4_25x : Int32) (m_read_25x : Int32) (m_length_25x : Int32) (m_top_25x : Int32) (m_at_25x : Int32) (m_wrong_25x : Int32) (m_isAsked_25x : Int32) (m_askedHorse_25x : Int32) (m_askedFence_25x : Int32) (m_askedLetter_25x : Int32) (m_askedHeight_25x : Int32), k_X12_falls_25 m_rowMany m_row v3_25x v4_25x m_read_25x m_length_25x m_top_25x m_at_25x m_wrong_25x m_isAsked_25x m_askedHorse_25x m_askedFence_25x m_askedLetter_25x m_askedHeight_25x = some (r, w_m_rowMany, w_m_thrown, w_m_read, w_m_length, w_m_top, w_m_at, w_m_wrong, w_m_isAsked, w_m_askedHorse, w_m_askedFence, w_m_askedLetter, w_m_askedHeight, w_m_row) → zJ l zW 207 mX12_falls σ ([(3457, m_fences), (3462, m_horses), (3466, m_plans), (3472, m_rowMany), (3473, (0 : Int32)), (3474, m_read_25x), (3475, m_length_25x), (3476, m_top_25x), (3477, m_at_25x), (3478, m_wrong_25x), (3483, m_ruleSize), (3484, m_isAsked_25x), (3485, m_askedHorse_25x), (3486, m_askedFence_25x), (3487, m_askedLetter_25x), (3488, m_askedHeight_25x)], [(56, m_kind), (57, m_height), (58, m_feet), (59, m_stride), (60, m_scope), (61, m_care), (62, m_plan), (69, m_rule)], [(65, m_row)]) 73 [(0, .ref 54), (3, .int v3_25x), (4, .int v4_25x)] [] (some (.int r)) ([(3457, m_fences), (3462, m_horses), (3466, m_plans), (3472, w_m_rowMany), (3473, w_m_thrown), (3474, w_m_read), (3475, w_m_length), (3476, w_m_top), (3477, w_m_at), (3478, w_m_wrong), (3483, m_ruleSize), (3484, w_m_isAsked), (3485, w_m_askedHorse), (3486, w_m_askedFence), (3487, w_m_askedLetter), (3488, w_m_askedHeight)], [(56, m_kind), (57, m_height), (58, m_feet), (59, m_stride), (60, m_scope), (61, m_care), (62, m_plan), (69, m_rule)], [(65, w_m_row)]) := by
      intro v3_25x v4_25x m_read_25x m_length_25x m_top_25x m_at_25x m_wrong_25x m_isAsked_25x m_askedHorse_25x m_askedFence_25x m_askedLetter_25x m_askedHeight_25x h
      unfold k_X12_falls_25 at h
      refine zJ_iload_n dX12_falls_73 rfl rfl ?_
      refine zJ_if_ge (tgt := 80) dX12_falls_74 (by decide) rfl (fun hc => ?_) (fun hc => ?_)
      · replace h := it_t hc h
        refine zJ_aload_n dX12_falls_80 rfl rfl ?_
        refine zJ_iconst dX12_falls_81 zc_0 rfl ?_
        refine zK_puti (mi := mX12_falls) (la' := [(3457, m_fences), (3462, m_horses), (3466, m_plans), (3472, (0 : Int32)), (3473, (0 : Int32)), (3474, m_read_25x), (3475, m_length_25x), (3476, m_top_25x), (3477, m_at_25x), (3478, m_wrong_25x), (3483, m_ruleSize), (3484, m_isAsked_25x), (3485, m_askedHorse_25x), (3486, m_askedFence_25x), (3487, m_askedLetter_25x), (3488, m_askedHeight_25x)]) zW_ok dX12_falls_82 F_X12_116 P_12_16 zW_54 rfl rfl rfl ?_
        refine zJ_aload_n dX12_falls_85 rfl rfl ?_
        refine zJ_iload dX12_falls_86 rfl rfl ?_
        refine zJ_i2l dX12_falls_88 rfl ?_
        obtain ⟨m_rowManyn2, m_rown3, hcl, h⟩ := bd2_some h
        refine zJ_callV2 (σ := σ) (L := ([(3457, m_fences), (3462, m_horses), (3466, m_plans), (3472, (0 : Int32)), (3473, (0 : Int32)), (3474, m_read_25x), (3475, m_length_25x), (3476, m_top_25x), (3477, m_at_25x), (3478, m_wrong_25x), (3483, m_ruleSize), (3484, m_isAsked_25x), (3485, m_askedHorse_25x), (3486, m_askedFence_25x), (3487, m_askedLetter_25x), (3488, m_askedHeight_25x)], [(56, m_kind), (57, m_height), (58, m_feet), (59, m_stride), (60, m_scope), (61, m_care), (62, m_plan), (69, m_rule)], [(65, m_row)])) (mi := mX12_falls) (yi := mX12_tell) (as := [.long v4_25x.toInt64]) (st := []) (L2 := ([(3457, m_fences), (3462, m_horses), (3466, m_plans), (3472, m_rowManyn2), (3473, (0 : Int32)), (3474, m_read_25x), (3475, m_length_25x), (3476, m_top_25x), (3477, m_at_25x), (3478, m_wrong_25x), (3483, m_ruleSize), (3484, m_isAsked_25x), (3485, m_askedHorse_25x), (3486, m_askedFence_25x), (3487, m_askedLetter_25x), (3488, m_askedHeight_25x)], [(56, m_kind), (57, m_height), (58, m_feet), (59, m_stride), (60, m_scope), (61, m_care), (62, m_plan), (69, m_rule)], [(65, m_rown3)])) dX12_falls_89 ML_X12_265 Yv_X12_tell rfl zW_54 rfl rfl (t_X12_tell l _ hcl) (zsub_i (zle_c rfl zle_n) zle_n (zle_c rfl zle_n)) (zjok_i rfl rfl (zle_c rfl (zle_c rfl (zle_c rfl (zle_c rfl (zle_c rfl (zle_c rfl (zle_c rfl (zle_c rfl (zle_c rfl (zle_c rfl (zle_c rfl (zle_c rfl (zle_c rfl (zle_c rfl (zle_c rfl (zle_c rfl zle_n)))))))))))))))) rfl rfl (zle_c rfl (zle_c rfl (zle_c rfl (zle_c rfl (zle_c rfl (zle_c rfl (zle_c rfl (zle_c rfl zle_n)))))))) rfl rfl (zle_c rfl zle_n)) (Nat.le_of_ble_eq_true rfl) (Nat.le_of_ble_eq_true rfl) rfl rfl ?_
        refine zJ_iload_n dX12_falls_92 rfl rfl ?_
        obtain ⟨rfl, rfl, rfl, rfl, rfl, rfl, rfl, rfl, rfl, rfl, rfl, rfl, rfl, rfl⟩ := so14 h
        exact zJ_iret dX12_falls_93 rfl rfl
      · replace h := it_f hc h
        refine zJ_bipush dX12_falls_77 zb_m2 rfl ?_
        obtain ⟨rfl, rfl, rfl, rfl, rfl, rfl, rfl, rfl, rfl, rfl, rfl, rfl, rfl, rfl⟩ := so14 h
        exact zJ_iret dX12_falls_79 rfl rfl
    refine zJ_loc (ls' := [(0, .ref 54), (1, .int p1), (2, .int p2), (3, .int (-2 : Int32)), (4, .int (-1 : Int32)), (5, .int (0 : Int32))]) (zll_c rfl (zll_c rfl (zll_c rfl (zll_c rfl (zll_c rfl (zll_c rfl zll_n)))))) ?_
    refine ml13_J (fun (v3_25 : Int32) (v4_25 : Int32) (v5_25 : Int32) (m_read_25 : Int32) (m_length_25 : Int32) (m_top_25 : Int32) (m_at_25 : Int32) (m_wrong_25 : Int32) (m_isAsked_25 : Int32) (m_askedHorse_25 : Int32) (m_askedFence_25 : Int32) (m_askedLetter_25 : Int32) (m_askedHeight_25 : Int32) => zJ l zW 207 mX12_falls σ ([(3457, m_fences), (3462, m_horses), (3466, m_plans), (3472, m_rowMany), (3473, (0 : Int32)), (3474, m_read_25), (3475, m_length_25), (3476, m_top_25), (3477, m_at_25), (3478, m_wrong_25), (3483, m_ruleSize), (3484, m_isAsked_25), (3485, m_askedHorse_25), (3486, m_askedFence_25), (3487, m_askedLetter_25), (3488, m_askedHeight_25)], [(56, m_kind), (57, m_height), (58, m_feet), (59, m_stride), (60, m_scope), (61, m_care), (62, m_plan), (69, m_rule)], [(65, m_row)]) 25 [(0, .ref 54), (1, .int p1), (2, .int p2), (3, .int v3_25), (4, .int v4_25), (5, .int v5_25)] [] (some (.int r)) ([(3457, m_fences), (3462, m_horses), (3466, m_plans), (3472, w_m_rowMany), (3473, w_m_thrown), (3474, w_m_read), (3475, w_m_length), (3476, w_m_top), (3477, w_m_at), (3478, w_m_wrong), (3483, m_ruleSize), (3484, w_m_isAsked), (3485, w_m_askedHorse), (3486, w_m_askedFence), (3487, w_m_askedLetter), (3488, w_m_askedHeight)], [(56, m_kind), (57, m_height), (58, m_feet), (59, m_stride), (60, m_scope), (61, m_care), (62, m_plan), (69, m_rule)], [(65, w_m_row)])) (fun rc25 hrc25 v3_25 v4_25 v5_25 m_read_25 m_length_25 m_top_25 m_at_25 m_wrong_25 m_isAsked_25 m_askedHorse_25 m_askedFence_25 m_askedLetter_25 m_askedHeight_25 h => ?_) zN _ _ _ _ _ _ _ _ _ _ _ _ _ h
    unfold s_X12_falls_25 at h
    refine zJ_iload dX12_falls_25 rfl rfl ?_
    refine zJ_aload_n dX12_falls_27 rfl rfl ?_
    refine zJ_geti (mi := mX12_falls) (x := m_fences) dX12_falls_28 F_X12_119 zW_54 rfl rfl rfl ?_
    refine zJ_icmp_ge (tgt := 73) dX12_falls_31 (by decide) rfl (fun hc => ?_) (fun hc => ?_)
    · replace h := it_t hc h
      refine zJ_loc (ls' := [(0, .ref 54), (3, .int v3_25), (4, .int v4_25)]) (zll_c rfl (zll_c rfl (zll_c rfl zll_n))) ?_
      exact hk25 _ _ _ _ _ _ _ _ _ _ _ _ h
    · replace h := it_f hc h
      refine zJ_aload_n dX12_falls_34 rfl rfl ?_
      refine zJ_iload_n dX12_falls_35 rfl rfl ?_
      refine zJ_iload dX12_falls_36 rfl rfl ?_
      refine zJ_aload_n dX12_falls_38 rfl rfl ?_
      refine zJ_iload_n dX12_falls_39 rfl rfl ?_
      refine zJ_iload dX12_falls_40 rfl rfl ?_
      obtain ⟨rn4, hcl, h⟩ := bd1_some h
      refine zJ_callV2 (σ := σ) (L := ([(3457, m_fences), (3462, m_horses), (3466, m_plans), (3472, m_rowMany), (3473, (0 : Int32)), (3474, m_read_25), (3475, m_length_25), (3476, m_top_25), (3477, m_at_25), (3478, m_wrong_25), (3483, m_ruleSize), (3484, m_isAsked_25), (3485, m_askedHorse_25), (3486, m_askedFence_25), (3487, m_askedLetter_25), (3488, m_askedHeight_25)], [(56, m_kind), (57, m_height), (58, m_feet), (59, m_stride), (60, m_scope), (61, m_care), (62, m_plan), (69, m_rule)], [(65, m_row)])) (mi := mX12_falls) (yi := mX12_letterOf) (as := [.int p2, .int v5_25]) (st := [.int v5_25, .int p1, .ref 54]) (L2 := ([(3457, m_fences), (3462, m_horses), (3466, m_plans), (3472, m_rowMany), (3473, (0 : Int32)), (3474, m_read_25), (3475, m_length_25), (3476, m_top_25), (3477, m_at_25), (3478, m_wrong_25), (3483, m_ruleSize), (3484, m_isAsked_25), (3485, m_askedHorse_25), (3486, m_askedFence_25), (3487, m_askedLetter_25), (3488, m_askedHeight_25)], [(56, m_kind), (57, m_height), (58, m_feet), (59, m_stride), (60, m_scope), (61, m_care), (62, m_plan), (69, m_rule)], [(65, m_row)])) dX12_falls_42 ML_X12_273 Yv_X12_letterOf rfl zW_54 rfl rfl (t_X12_letterOf l _ hcl) (zsub_i zle_n (zle_c rfl zle_n) zle_n) (zjok_i rfl rfl (zle_c rfl (zle_c rfl (zle_c rfl (zle_c rfl (zle_c rfl (zle_c rfl (zle_c rfl (zle_c rfl (zle_c rfl (zle_c rfl (zle_c rfl (zle_c rfl (zle_c rfl (zle_c rfl (zle_c rfl (zle_c rfl zle_n)))))))))))))))) rfl rfl (zle_c rfl (zle_c rfl (zle_c rfl (zle_c rfl (zle_c rfl (zle_c rfl (zle_c rfl (zle_c rfl zle_n)))))))) rfl rfl (zle_c rfl zle_n)) (Nat.le_of_ble_eq_true rfl) (Nat.le_of_ble_eq_true rfl) rfl rfl ?_
      obtain ⟨rn5, m_readn6, m_lengthn7, m_topn8, m_atn9, m_wrongn10, m_isAskedn11, m_askedHorsen12, m_askedFencen13, m_askedLettern14, m_askedHeightn15, hcl, h⟩ := bd11_some h
      refine zJ_callV2 (σ := σ) (L := ([(3457, m_fences), (3462, m_horses), (3466, m_plans), (3472, m_rowMany), (3473, (0 : Int32)), (3474, m_read_25), (3475, m_length_25), (3476, m_top_25), (3477, m_at_25), (3478, m_wrong_25), (3483, m_ruleSize), (3484, m_isAsked_25), (3485, m_askedHorse_25), (3486, m_askedFence_25), (3487, m_askedLetter_25), (3488, m_askedHeight_25)], [(56, m_kind), (57, m_height), (58, m_feet), (59, m_stride), (60, m_scope), (61, m_care), (62, m_plan), (69, m_rule)], [(65, m_row)])) (mi := mX12_falls) (yi := mX12_oddsOf_) (as := [.int p1, .int v5_25, .int rn4]) (st := []) (L2 := ([(3457, m_fences), (3462, m_horses), (3466, m_plans), (3472, m_rowMany), (3473, (0 : Int32)), (3474, m_readn6), (3475, m_lengthn7), (3476, m_topn8), (3477, m_atn9), (3478, m_wrongn10), (3483, m_ruleSize), (3484, m_isAskedn11), (3485, m_askedHorsen12), (3486, m_askedFencen13), (3487, m_askedLettern14), (3488, m_askedHeightn15)], [(56, m_kind), (57, m_height), (58, m_feet), (59, m_stride), (60, m_scope), (61, m_care), (62, m_plan), (69, m_rule)], [(65, m_row)])) dX12_falls_45 ML_X12_259 Yv_X12_oddsOf_ rfl zW_54 rfl rfl (t_X12_oddsOf_ l _ hcl) (zsub_i (zle_c rfl (zle_c rfl (zle_c rfl (zle_c rfl (zle_c rfl (zle_c rfl (zle_c rfl (zle_c rfl (zle_c rfl (zle_c rfl (zle_c rfl zle_n))))))))))) (zle_c rfl (zle_c rfl (zle_c rfl (zle_c rfl (zle_c rfl (zle_c rfl (zle_c rfl zle_n))))))) zle_n) (zjok_i rfl rfl (zle_c rfl (zle_c rfl (zle_c rfl (zle_c rfl (zle_c rfl (zle_c rfl (zle_c rfl (zle_c rfl (zle_c rfl (zle_c rfl (zle_c rfl (zle_c rfl (zle_c rfl (zle_c rfl (zle_c rfl (zle_c rfl zle_n)))))))))))))))) rfl rfl (zle_c rfl (zle_c rfl (zle_c rfl (zle_c rfl (zle_c rfl (zle_c rfl (zle_c rfl (zle_c rfl zle_n)))))))) rfl rfl (zle_c rfl zle_n)) (Nat.le_of_ble_eq_true rfl) (Nat.le_of_ble_eq_true rfl) rfl rfl ?_
      refine zJ_istore (ls' := [(6, .int rn5), (0, .ref 54), (1, .int p1), (2, .int p2), (3, .int v3_25), (4, .int v4_25), (5, .int v5_25)]) dX12_falls_48 rfl rfl rfl ?_
      refine zJ_iload dX12_falls_50 rfl rfl ?_
      refine zJ_iload dX12_falls_52 rfl rfl ?_
      refine zJ_icmp_gt (tgt := 60) dX12_falls_54 (by decide) rfl (fun hc => ?_) (fun hc => ?_)
      · replace h := it_t hc h
        refine zJ_iload dX12_falls_60 rfl rfl ?_
        refine zJ_istore_n (ls' := [(3, .int v5_25), (6, .int rn5), (0, .ref 54), (1, .int p1), (2, .int p2), (4, .int v4_25), (5, .int v5_25)]) dX12_falls_62 rfl rfl rfl ?_
        refine zJ_iload dX12_falls_63 rfl rfl ?_
        refine zJ_istore (ls' := [(4, .int rn5), (3, .int v5_25), (6, .int rn5), (0, .ref 54), (1, .int p1), (2, .int p2), (5, .int v5_25)]) dX12_falls_65 rfl rfl rfl ?_
        obtain ⟨v5n16, ev5n16, h⟩ := lt1_some h
        refine zJ_iincN (ls' := [(5, .int v5n16), (4, .int rn5), (3, .int v5_25), (6, .int rn5), (0, .ref 54), (1, .int p1), (2, .int p2)]) dX12_falls_67 rfl rfl zc_1 ev5n16 rfl rfl ?_
        refine zJ_goto (tgt := 25) dX12_falls_70 (by decide) ?_
        refine zJ_loc (ls' := [(0, .ref 54), (1, .int p1), (2, .int p2), (3, .int v5_25), (4, .int rn5), (5, .int v5n16)]) (zll_c rfl (zll_c rfl (zll_c rfl (zll_c rfl (zll_c rfl (zll_c rfl zll_n)))))) ?_
        exact hrc25 _ _ _ _ _ _ _ _ _ _ _ _ _ h
      · replace h := it_f hc h
        refine zJ_goto (tgt := 67) dX12_falls_57 (by decide) ?_
        obtain ⟨v5n17, ev5n17, h⟩ := lt1_some h
        refine zJ_iincN (ls' := [(5, .int v5n17), (6, .int rn5), (0, .ref 54), (1, .int p1), (2, .int p2), (3, .int v3_25), (4, .int v4_25)]) dX12_falls_67 rfl rfl zc_1 ev5n17 rfl rfl ?_
        refine zJ_goto (tgt := 25) dX12_falls_70 (by decide) ?_
        refine zJ_loc (ls' := [(0, .ref 54), (1, .int p1), (2, .int p2), (3, .int v3_25), (4, .int v4_25), (5, .int v5n17)]) (zll_c rfl (zll_c rfl (zll_c rfl (zll_c rfl (zll_c rfl (zll_c rfl zll_n)))))) ?_
        exact hrc25 _ _ _ _ _ _ _ _ _ _ _ _ _ h
  · replace h := it_t hc h
    refine zJ_iconst dX12_falls_14 zc_m1 rfl ?_
    obtain ⟨rfl, rfl, rfl, rfl, rfl, rfl, rfl, rfl, rfl, rfl, rfl, rfl, rfl, rfl⟩ := so14 h
    exact zJ_iret dX12_falls_15 rfl rfl
set_option maxRecDepth 100000 in
set_option maxHeartbeats 4000000 in
theorem t_X12_fearOf (l : Launch) (σ : zS) {p1 : Int32} {p2 : Int32} {m_fences : Int32} {m_read : Int32} {m_length : Int32} {m_top : Int32} {m_at : Int32} {m_wrong : Int32} {m_ruleSize : Int32} {m_isAsked : Int32} {m_askedHorse : Int32} {m_askedFence : Int32} {m_askedLetter : Int32} {m_askedHeight : Int32} {m_kind : (Nat → Int32)} {m_height : (Nat → Int32)} {m_feet : (Nat → Int32)} {m_stride : (Nat → Int32)} {m_scope : (Nat → Int32)} {m_care : (Nat → Int32)} {m_plan : (Nat → Int32)} {m_rule : (Nat → Int32)} {r : Int32} {w_m_read : Int32} {w_m_length : Int32} {w_m_top : Int32} {w_m_at : Int32} {w_m_wrong : Int32} {w_m_isAsked : Int32} {w_m_askedHorse : Int32} {w_m_askedFence : Int32} {w_m_askedLetter : Int32} {w_m_askedHeight : Int32} (h : f_X12_fearOf p1 p2 m_fences m_read m_length m_top m_at m_wrong m_ruleSize m_isAsked m_askedHorse m_askedFence m_askedLetter m_askedHeight m_kind m_height m_feet m_stride m_scope m_care m_plan m_rule = some (r, w_m_read, w_m_length, w_m_top, w_m_at, w_m_wrong, w_m_isAsked, w_m_askedHorse, w_m_askedFence, w_m_askedLetter, w_m_askedHeight)) : zMt l zW 207 mX12_fearOf σ ([(3457, m_fences), (3474, m_read), (3475, m_length), (3476, m_top), (3477, m_at), (3478, m_wrong), (3483, m_ruleSize), (3484, m_isAsked), (3485, m_askedHorse), (3486, m_askedFence), (3487, m_askedLetter), (3488, m_askedHeight)], [(56, m_kind), (57, m_height), (58, m_feet), (59, m_stride), (60, m_scope), (61, m_care), (62, m_plan), (69, m_rule)], []) [.ref 54, .int p1, .int p2] (some (.int r)) ([(3457, m_fences), (3474, w_m_read), (3475, w_m_length), (3476, w_m_top), (3477, w_m_at), (3478, w_m_wrong), (3483, m_ruleSize), (3484, w_m_isAsked), (3485, w_m_askedHorse), (3486, w_m_askedFence), (3487, w_m_askedLetter), (3488, w_m_askedHeight)], [(56, m_kind), (57, m_height), (58, m_feet), (59, m_stride), (60, m_scope), (61, m_care), (62, m_plan), (69, m_rule)], []) := by
  refine zMt_of (ls := [(0, .ref 54), (1, .int p1), (2, .int p2)]) (by decide) rfl (fun _ => Nat.le_of_ble_eq_true rfl) rfl ?_
  unfold f_X12_fearOf at h
  refine zJ_iconst dX12_fearOf_0 zc_0 rfl ?_
  refine zJ_istore_n (ls' := [(3, .int (0 : Int32)), (0, .ref 54), (1, .int p1), (2, .int p2)]) dX12_fearOf_1 rfl rfl rfl ?_
  refine zJ_iconst dX12_fearOf_2 zc_0 rfl ?_
  refine zJ_istore (ls' := [(4, .int (0 : Int32)), (3, .int (0 : Int32)), (0, .ref 54), (1, .int p1), (2, .int p2)]) dX12_fearOf_3 rfl rfl rfl ?_
  have hk5 : ∀ (v3_5x : Int32) (m_read_5x : Int32) (m_length_5x : Int32) (m_top_5x : Int32) (m_at_5x : Int32) (m_wrong_5x : Int32) (m_isAsked_5x : Int32) (m_askedHorse_5x : Int32) (m_askedFence_5x : Int32) (m_askedLetter_5x : Int32) (m_askedHeight_5x : Int32), k_X12_fearOf_5  v3_5x m_read_5x m_length_5x m_top_5x m_at_5x m_wrong_5x m_isAsked_5x m_askedHorse_5x m_askedFence_5x m_askedLetter_5x m_askedHeight_5x = some (r, w_m_read, w_m_length, w_m_top, w_m_at, w_m_wrong, w_m_isAsked, w_m_askedHorse, w_m_askedFence, w_m_askedLetter, w_m_askedHeight) → zJ l zW 207 mX12_fearOf σ ([(3457, m_fences), (3474, m_read_5x), (3475, m_length_5x), (3476, m_top_5x), (3477, m_at_5x), (3478, m_wrong_5x), (3483, m_ruleSize), (3484, m_isAsked_5x), (3485, m_askedHorse_5x), (3486, m_askedFence_5x), (3487, m_askedLetter_5x), (3488, m_askedHeight_5x)], [(56, m_kind), (57, m_height), (58, m_feet), (59, m_stride), (60, m_scope), (61, m_care), (62, m_plan), (69, m_rule)], []) 45 [(3, .int v3_5x)] [] (some (.int r)) ([(3457, m_fences), (3474, w_m_read), (3475, w_m_length), (3476, w_m_top), (3477, w_m_at), (3478, w_m_wrong), (3483, m_ruleSize), (3484, w_m_isAsked), (3485, w_m_askedHorse), (3486, w_m_askedFence), (3487, w_m_askedLetter), (3488, w_m_askedHeight)], [(56, m_kind), (57, m_height), (58, m_feet), (59, m_stride), (60, m_scope), (61, m_care), (62, m_plan), (69, m_rule)], []) := by
    intro v3_5x m_read_5x m_length_5x m_top_5x m_at_5x m_wrong_5x m_isAsked_5x m_askedHorse_5x m_askedFence_5x m_askedLetter_5x m_askedHeight_5x h
    unfold k_X12_fearOf_5 at h
    refine zJ_iload_n dX12_fearOf_45 rfl rfl ?_
    obtain ⟨rfl, rfl, rfl, rfl, rfl, rfl, rfl, rfl, rfl, rfl, rfl⟩ := so11 h
    exact zJ_iret dX12_fearOf_46 rfl rfl
  refine zJ_loc (ls' := [(0, .ref 54), (1, .int p1), (2, .int p2), (3, .int (0 : Int32)), (4, .int (0 : Int32))]) (zll_c rfl (zll_c rfl (zll_c rfl (zll_c rfl (zll_c rfl zll_n))))) ?_
  refine ml12_J (fun (v3_5 : Int32) (v4_5 : Int32) (m_read_5 : Int32) (m_length_5 : Int32) (m_top_5 : Int32) (m_at_5 : Int32) (m_wrong_5 : Int32) (m_isAsked_5 : Int32) (m_askedHorse_5 : Int32) (m_askedFence_5 : Int32) (m_askedLetter_5 : Int32) (m_askedHeight_5 : Int32) => zJ l zW 207 mX12_fearOf σ ([(3457, m_fences), (3474, m_read_5), (3475, m_length_5), (3476, m_top_5), (3477, m_at_5), (3478, m_wrong_5), (3483, m_ruleSize), (3484, m_isAsked_5), (3485, m_askedHorse_5), (3486, m_askedFence_5), (3487, m_askedLetter_5), (3488, m_askedHeight_5)], [(56, m_kind), (57, m_height), (58, m_feet), (59, m_stride), (60, m_scope), (61, m_care), (62, m_plan), (69, m_rule)], []) 5 [(0, .ref 54), (1, .int p1), (2, .int p2), (3, .int v3_5), (4, .int v4_5)] [] (some (.int r)) ([(3457, m_fences), (3474, w_m_read), (3475, w_m_length), (3476, w_m_top), (3477, w_m_at), (3478, w_m_wrong), (3483, m_ruleSize), (3484, w_m_isAsked), (3485, w_m_askedHorse), (3486, w_m_askedFence), (3487, w_m_askedLetter), (3488, w_m_askedHeight)], [(56, m_kind), (57, m_height), (58, m_feet), (59, m_stride), (60, m_scope), (61, m_care), (62, m_plan), (69, m_rule)], [])) (fun rc5 hrc5 v3_5 v4_5 m_read_5 m_length_5 m_top_5 m_at_5 m_wrong_5 m_isAsked_5 m_askedHorse_5 m_askedFence_5 m_askedLetter_5 m_askedHeight_5 h => ?_) zN _ _ _ _ _ _ _ _ _ _ _ _ h
  unfold s_X12_fearOf_5 at h
  refine zJ_iload dX12_fearOf_5 rfl rfl ?_
  refine zJ_aload_n dX12_fearOf_7 rfl rfl ?_
  refine zJ_geti (mi := mX12_fearOf) (x := m_fences) dX12_fearOf_8 F_X12_119 zW_54 rfl rfl rfl ?_
  refine zJ_icmp_ge (tgt := 45) dX12_fearOf_11 (by decide) rfl (fun hc => ?_) (fun hc => ?_)
  · replace h := it_t hc h
    refine zJ_loc (ls' := [(3, .int v3_5)]) (zll_c rfl zll_n) ?_
    exact hk5 _ _ _ _ _ _ _ _ _ _ _ h
  · replace h := it_f hc h
    refine zJ_iload_n dX12_fearOf_14 rfl rfl ?_
    refine zJ_aload_n dX12_fearOf_15 rfl rfl ?_
    refine zJ_iload_n dX12_fearOf_16 rfl rfl ?_
    refine zJ_iload dX12_fearOf_17 rfl rfl ?_
    refine zJ_aload_n dX12_fearOf_19 rfl rfl ?_
    refine zJ_iload_n dX12_fearOf_20 rfl rfl ?_
    refine zJ_iload dX12_fearOf_21 rfl rfl ?_
    obtain ⟨rn1, hcl, h⟩ := bd1_some h
    refine zJ_callV2 (σ := σ) (L := ([(3457, m_fences), (3474, m_read_5), (3475, m_length_5), (3476, m_top_5), (3477, m_at_5), (3478, m_wrong_5), (3483, m_ruleSize), (3484, m_isAsked_5), (3485, m_askedHorse_5), (3486, m_askedFence_5), (3487, m_askedLetter_5), (3488, m_askedHeight_5)], [(56, m_kind), (57, m_height), (58, m_feet), (59, m_stride), (60, m_scope), (61, m_care), (62, m_plan), (69, m_rule)], [])) (mi := mX12_fearOf) (yi := mX12_letterOf) (as := [.int p2, .int v4_5]) (st := [.int v4_5, .int p1, .ref 54, .int v3_5]) (L2 := ([(3457, m_fences), (3474, m_read_5), (3475, m_length_5), (3476, m_top_5), (3477, m_at_5), (3478, m_wrong_5), (3483, m_ruleSize), (3484, m_isAsked_5), (3485, m_askedHorse_5), (3486, m_askedFence_5), (3487, m_askedLetter_5), (3488, m_askedHeight_5)], [(56, m_kind), (57, m_height), (58, m_feet), (59, m_stride), (60, m_scope), (61, m_care), (62, m_plan), (69, m_rule)], [])) dX12_fearOf_23 ML_X12_273 Yv_X12_letterOf rfl zW_54 rfl rfl (t_X12_letterOf l _ hcl) (zsub_i zle_n (zle_c rfl zle_n) zle_n) (zjok_i rfl rfl (zle_c rfl (zle_c rfl (zle_c rfl (zle_c rfl (zle_c rfl (zle_c rfl (zle_c rfl (zle_c rfl (zle_c rfl (zle_c rfl (zle_c rfl (zle_c rfl zle_n)))))))))))) rfl rfl (zle_c rfl (zle_c rfl (zle_c rfl (zle_c rfl (zle_c rfl (zle_c rfl (zle_c rfl (zle_c rfl zle_n)))))))) rfl rfl zle_n) (Nat.le_of_ble_eq_true rfl) (Nat.le_of_ble_eq_true rfl) rfl rfl ?_
    obtain ⟨rn2, m_readn3, m_lengthn4, m_topn5, m_atn6, m_wrongn7, m_isAskedn8, m_askedHorsen9, m_askedFencen10, m_askedLettern11, m_askedHeightn12, hcl, h⟩ := bd11_some h
    refine zJ_callV2 (σ := σ) (L := ([(3457, m_fences), (3474, m_read_5), (3475, m_length_5), (3476, m_top_5), (3477, m_at_5), (3478, m_wrong_5), (3483, m_ruleSize), (3484, m_isAsked_5), (3485, m_askedHorse_5), (3486, m_askedFence_5), (3487, m_askedLetter_5), (3488, m_askedHeight_5)], [(56, m_kind), (57, m_height), (58, m_feet), (59, m_stride), (60, m_scope), (61, m_care), (62, m_plan), (69, m_rule)], [])) (mi := mX12_fearOf) (yi := mX12_oddsOf_) (as := [.int p1, .int v4_5, .int rn1]) (st := [.int v3_5]) (L2 := ([(3457, m_fences), (3474, m_readn3), (3475, m_lengthn4), (3476, m_topn5), (3477, m_atn6), (3478, m_wrongn7), (3483, m_ruleSize), (3484, m_isAskedn8), (3485, m_askedHorsen9), (3486, m_askedFencen10), (3487, m_askedLettern11), (3488, m_askedHeightn12)], [(56, m_kind), (57, m_height), (58, m_feet), (59, m_stride), (60, m_scope), (61, m_care), (62, m_plan), (69, m_rule)], [])) dX12_fearOf_26 ML_X12_259 Yv_X12_oddsOf_ rfl zW_54 rfl rfl (t_X12_oddsOf_ l _ hcl) (zsub_i (zle_c rfl (zle_c rfl (zle_c rfl (zle_c rfl (zle_c rfl (zle_c rfl (zle_c rfl (zle_c rfl (zle_c rfl (zle_c rfl (zle_c rfl zle_n))))))))))) (zle_c rfl (zle_c rfl (zle_c rfl (zle_c rfl (zle_c rfl (zle_c rfl (zle_c rfl zle_n))))))) zle_n) (zjok_i rfl rfl (zle_c rfl (zle_c rfl (zle_c rfl (zle_c rfl (zle_c rfl (zle_c rfl (zle_c rfl (zle_c rfl (zle_c rfl (zle_c rfl (zle_c rfl (zle_c rfl zle_n)))))))))))) rfl rfl (zle_c rfl (zle_c rfl (zle_c rfl (zle_c rfl (zle_c rfl (zle_c rfl (zle_c rfl (zle_c rfl zle_n)))))))) rfl rfl zle_n) (Nat.le_of_ble_eq_true rfl) (Nat.le_of_ble_eq_true rfl) rfl rfl ?_
    refine zJ_aload_n dX12_fearOf_29 rfl rfl ?_
    refine zJ_iload_n dX12_fearOf_30 rfl rfl ?_
    refine zJ_iload dX12_fearOf_31 rfl rfl ?_
    obtain ⟨rn13, hcl, h⟩ := bd1_some h
    refine zJ_callV2 (σ := σ) (L := ([(3457, m_fences), (3474, m_readn3), (3475, m_lengthn4), (3476, m_topn5), (3477, m_atn6), (3478, m_wrongn7), (3483, m_ruleSize), (3484, m_isAskedn8), (3485, m_askedHorsen9), (3486, m_askedFencen10), (3487, m_askedLettern11), (3488, m_askedHeightn12)], [(56, m_kind), (57, m_height), (58, m_feet), (59, m_stride), (60, m_scope), (61, m_care), (62, m_plan), (69, m_rule)], [])) (mi := mX12_fearOf) (yi := mX12_refusalOf) (as := [.int p1, .int v4_5]) (st := [.int rn2, .int v3_5]) (L2 := ([(3457, m_fences), (3474, m_readn3), (3475, m_lengthn4), (3476, m_topn5), (3477, m_atn6), (3478, m_wrongn7), (3483, m_ruleSize), (3484, m_isAskedn8), (3485, m_askedHorsen9), (3486, m_askedFencen10), (3487, m_askedLettern11), (3488, m_askedHeightn12)], [(56, m_kind), (57, m_height), (58, m_feet), (59, m_stride), (60, m_scope), (61, m_care), (62, m_plan), (69, m_rule)], [])) dX12_fearOf_33 ML_X12_262 Yv_X12_refusalOf rfl zW_54 rfl rfl (t_X12_refusalOf l _ hcl) (zsub_i zle_n (zle_c rfl (zle_c rfl (zle_c rfl (zle_c rfl zle_n)))) zle_n) (zjok_i rfl rfl (zle_c rfl (zle_c rfl (zle_c rfl (zle_c rfl (zle_c rfl (zle_c rfl (zle_c rfl (zle_c rfl (zle_c rfl (zle_c rfl (zle_c rfl (zle_c rfl zle_n)))))))))))) rfl rfl (zle_c rfl (zle_c rfl (zle_c rfl (zle_c rfl (zle_c rfl (zle_c rfl (zle_c rfl (zle_c rfl zle_n)))))))) rfl rfl zle_n) (Nat.le_of_ble_eq_true rfl) (Nat.le_of_ble_eq_true rfl) rfl rfl ?_
    refine zJ_iadd dX12_fearOf_36 rfl ?_
    refine zJ_iadd dX12_fearOf_37 rfl ?_
    obtain ⟨v3n14, ev3n14, h⟩ := lt1_some h
    refine zJ_nmi ev3n14 ?_
    refine zJ_istore_n (ls' := [(3, .int v3n14), (0, .ref 54), (1, .int p1), (2, .int p2), (4, .int v4_5)]) dX12_fearOf_38 rfl rfl rfl ?_
    obtain ⟨v4n15, ev4n15, h⟩ := lt1_some h
    refine zJ_iincN (ls' := [(4, .int v4n15), (3, .int v3n14), (0, .ref 54), (1, .int p1), (2, .int p2)]) dX12_fearOf_39 rfl rfl zc_1 ev4n15 rfl rfl ?_
    refine zJ_goto (tgt := 5) dX12_fearOf_42 (by decide) ?_
    refine zJ_loc (ls' := [(0, .ref 54), (1, .int p1), (2, .int p2), (3, .int v3n14), (4, .int v4n15)]) (zll_c rfl (zll_c rfl (zll_c rfl (zll_c rfl (zll_c rfl zll_n))))) ?_
    exact hrc5 _ _ _ _ _ _ _ _ _ _ _ _ h
set_option maxRecDepth 100000 in
set_option maxHeartbeats 4000000 in
theorem t_X12_fear (l : Launch) (σ : zS) {p1 : Int32} {p2 : Int32} {m_fences : Int32} {m_horses : Int32} {m_plans : Int32} {m_rowMany : Int32} {m_thrown : Int32} {m_read : Int32} {m_length : Int32} {m_top : Int32} {m_at : Int32} {m_wrong : Int32} {m_ruleSize : Int32} {m_isAsked : Int32} {m_askedHorse : Int32} {m_askedFence : Int32} {m_askedLetter : Int32} {m_askedHeight : Int32} {m_kind : (Nat → Int32)} {m_height : (Nat → Int32)} {m_feet : (Nat → Int32)} {m_stride : (Nat → Int32)} {m_scope : (Nat → Int32)} {m_care : (Nat → Int32)} {m_plan : (Nat → Int32)} {m_rule : (Nat → Int32)} {m_row : (Nat → Int64)} {r : Int32} {w_m_rowMany : Int32} {w_m_thrown : Int32} {w_m_read : Int32} {w_m_length : Int32} {w_m_top : Int32} {w_m_at : Int32} {w_m_wrong : Int32} {w_m_isAsked : Int32} {w_m_askedHorse : Int32} {w_m_askedFence : Int32} {w_m_askedLetter : Int32} {w_m_askedHeight : Int32} {w_m_row : (Nat → Int64)} (h : f_X12_fear p1 p2 m_fences m_horses m_plans m_rowMany m_thrown m_read m_length m_top m_at m_wrong m_ruleSize m_isAsked m_askedHorse m_askedFence m_askedLetter m_askedHeight m_kind m_height m_feet m_stride m_scope m_care m_plan m_rule m_row = some (r, w_m_rowMany, w_m_thrown, w_m_read, w_m_length, w_m_top, w_m_at, w_m_wrong, w_m_isAsked, w_m_askedHorse, w_m_askedFence, w_m_askedLetter, w_m_askedHeight, w_m_row)) : zMt l zW 208 mX12_fear σ ([(3457, m_fences), (3462, m_horses), (3466, m_plans), (3472, m_rowMany), (3473, m_thrown), (3474, m_read), (3475, m_length), (3476, m_top), (3477, m_at), (3478, m_wrong), (3483, m_ruleSize), (3484, m_isAsked), (3485, m_askedHorse), (3486, m_askedFence), (3487, m_askedLetter), (3488, m_askedHeight)], [(56, m_kind), (57, m_height), (58, m_feet), (59, m_stride), (60, m_scope), (61, m_care), (62, m_plan), (69, m_rule)], [(65, m_row)]) [.ref 54, .int p1, .int p2] (some (.int r)) ([(3457, m_fences), (3462, m_horses), (3466, m_plans), (3472, w_m_rowMany), (3473, w_m_thrown), (3474, w_m_read), (3475, w_m_length), (3476, w_m_top), (3477, w_m_at), (3478, w_m_wrong), (3483, m_ruleSize), (3484, w_m_isAsked), (3485, w_m_askedHorse), (3486, w_m_askedFence), (3487, w_m_askedLetter), (3488, w_m_askedHeight)], [(56, m_kind), (57, m_height), (58, m_feet), (59, m_stride), (60, m_scope), (61, m_care), (62, m_plan), (69, m_rule)], [(65, w_m_row)]) := by
  refine zMt_of (ls := [(0, .ref 54), (1, .int p1), (2, .int p2)]) (by decide) rfl (fun _ => Nat.le_of_ble_eq_true rfl) rfl ?_
  unfold f_X12_fear at h
  refine zJ_aload_n dX12_fear_0 rfl rfl ?_
  refine zJ_iconst dX12_fear_1 zc_0 rfl ?_
  refine zK_puti (mi := mX12_fear) (la' := [(3457, m_fences), (3462, m_horses), (3466, m_plans), (3472, m_rowMany), (3473, (0 : Int32)), (3474, m_read), (3475, m_length), (3476, m_top), (3477, m_at), (3478, m_wrong), (3483, m_ruleSize), (3484, m_isAsked), (3485, m_askedHorse), (3486, m_askedFence), (3487, m_askedLetter), (3488, m_askedHeight)]) zW_ok dX12_fear_2 F_X12_113 P_12_17 zW_54 rfl rfl rfl ?_
  refine zJ_aload_n dX12_fear_5 rfl rfl ?_
  refine zJ_iload_n dX12_fear_6 rfl rfl ?_
  refine zJ_iload_n dX12_fear_7 rfl rfl ?_
  obtain ⟨rn1, hcl, h⟩ := bd1_some h
  refine zJ_callV2 (σ := σ) (L := ([(3457, m_fences), (3462, m_horses), (3466, m_plans), (3472, m_rowMany), (3473, (0 : Int32)), (3474, m_read), (3475, m_length), (3476, m_top), (3477, m_at), (3478, m_wrong), (3483, m_ruleSize), (3484, m_isAsked), (3485, m_askedHorse), (3486, m_askedFence), (3487, m_askedLetter), (3488, m_askedHeight)], [(56, m_kind), (57, m_height), (58, m_feet), (59, m_stride), (60, m_scope), (61, m_care), (62, m_plan), (69, m_rule)], [(65, m_row)])) (mi := mX12_fear) (yi := mX12_areBoth) (as := [.int p1, .int p2]) (st := []) (L2 := ([(3457, m_fences), (3462, m_horses), (3466, m_plans), (3472, m_rowMany), (3473, (0 : Int32)), (3474, m_read), (3475, m_length), (3476, m_top), (3477, m_at), (3478, m_wrong), (3483, m_ruleSize), (3484, m_isAsked), (3485, m_askedHorse), (3486, m_askedFence), (3487, m_askedLetter), (3488, m_askedHeight)], [(56, m_kind), (57, m_height), (58, m_feet), (59, m_stride), (60, m_scope), (61, m_care), (62, m_plan), (69, m_rule)], [(65, m_row)])) dX12_fear_8 ML_X12_279 Yv_X12_areBoth rfl zW_54 rfl rfl (t_X12_areBoth l _ hcl) (zsub_i (zle_c rfl (zle_c rfl zle_n)) zle_n zle_n) (zjok_i rfl rfl (zle_c rfl (zle_c rfl (zle_c rfl (zle_c rfl (zle_c rfl (zle_c rfl (zle_c rfl (zle_c rfl (zle_c rfl (zle_c rfl (zle_c rfl (zle_c rfl (zle_c rfl (zle_c rfl (zle_c rfl (zle_c rfl zle_n)))))))))))))))) rfl rfl (zle_c rfl (zle_c rfl (zle_c rfl (zle_c rfl (zle_c rfl (zle_c rfl (zle_c rfl (zle_c rfl zle_n)))))))) rfl rfl (zle_c rfl zle_n)) (Nat.le_of_ble_eq_true rfl) (Nat.le_of_ble_eq_true rfl) rfl rfl ?_
  refine zJ_if_ne (tgt := 16) dX12_fear_11 (by decide) rfl (fun hc => ?_) (fun hc => ?_)
  · replace h := it_f hc h
    refine zJ_aload_n dX12_fear_16 rfl rfl ?_
    refine zJ_iconst dX12_fear_17 zc_0 rfl ?_
    refine zK_puti (mi := mX12_fear) (la' := [(3457, m_fences), (3462, m_horses), (3466, m_plans), (3472, (0 : Int32)), (3473, (0 : Int32)), (3474, m_read), (3475, m_length), (3476, m_top), (3477, m_at), (3478, m_wrong), (3483, m_ruleSize), (3484, m_isAsked), (3485, m_askedHorse), (3486, m_askedFence), (3487, m_askedLetter), (3488, m_askedHeight)]) zW_ok dX12_fear_18 F_X12_116 P_12_16 zW_54 rfl rfl rfl ?_
    refine zJ_aload_n dX12_fear_21 rfl rfl ?_
    refine zJ_aload_n dX12_fear_22 rfl rfl ?_
    refine zJ_iload_n dX12_fear_23 rfl rfl ?_
    obtain ⟨rn2, hcl, h⟩ := bd1_some h
    refine zJ_callV2 (σ := σ) (L := ([(3457, m_fences), (3462, m_horses), (3466, m_plans), (3472, (0 : Int32)), (3473, (0 : Int32)), (3474, m_read), (3475, m_length), (3476, m_top), (3477, m_at), (3478, m_wrong), (3483, m_ruleSize), (3484, m_isAsked), (3485, m_askedHorse), (3486, m_askedFence), (3487, m_askedLetter), (3488, m_askedHeight)], [(56, m_kind), (57, m_height), (58, m_feet), (59, m_stride), (60, m_scope), (61, m_care), (62, m_plan), (69, m_rule)], [(65, m_row)])) (mi := mX12_fear) (yi := mX12_tenthsOfPlan) (as := [.int p2]) (st := [.ref 54]) (L2 := ([(3457, m_fences), (3462, m_horses), (3466, m_plans), (3472, (0 : Int32)), (3473, (0 : Int32)), (3474, m_read), (3475, m_length), (3476, m_top), (3477, m_at), (3478, m_wrong), (3483, m_ruleSize), (3484, m_isAsked), (3485, m_askedHorse), (3486, m_askedFence), (3487, m_askedLetter), (3488, m_askedHeight)], [(56, m_kind), (57, m_height), (58, m_feet), (59, m_stride), (60, m_scope), (61, m_care), (62, m_plan), (69, m_rule)], [(65, m_row)])) dX12_fear_24 ML_X12_283 Yv_X12_tenthsOfPlan rfl zW_54 rfl rfl (t_X12_tenthsOfPlan l _ hcl) (zsub_i (zle_c rfl zle_n) (zle_c rfl (zle_c rfl (zle_c rfl zle_n))) zle_n) (zjok_i rfl rfl (zle_c rfl (zle_c rfl (zle_c rfl (zle_c rfl (zle_c rfl (zle_c rfl (zle_c rfl (zle_c rfl (zle_c rfl (zle_c rfl (zle_c rfl (zle_c rfl (zle_c rfl (zle_c rfl (zle_c rfl (zle_c rfl zle_n)))))))))))))))) rfl rfl (zle_c rfl (zle_c rfl (zle_c rfl (zle_c rfl (zle_c rfl (zle_c rfl (zle_c rfl (zle_c rfl zle_n)))))))) rfl rfl (zle_c rfl zle_n)) (Nat.le_of_ble_eq_true rfl) (Nat.le_of_ble_eq_true rfl) rfl rfl ?_
    refine zJ_i2l dX12_fear_27 rfl ?_
    obtain ⟨m_rowManyn3, m_rown4, hcl, h⟩ := bd2_some h
    refine zJ_callV2 (σ := σ) (L := ([(3457, m_fences), (3462, m_horses), (3466, m_plans), (3472, (0 : Int32)), (3473, (0 : Int32)), (3474, m_read), (3475, m_length), (3476, m_top), (3477, m_at), (3478, m_wrong), (3483, m_ruleSize), (3484, m_isAsked), (3485, m_askedHorse), (3486, m_askedFence), (3487, m_askedLetter), (3488, m_askedHeight)], [(56, m_kind), (57, m_height), (58, m_feet), (59, m_stride), (60, m_scope), (61, m_care), (62, m_plan), (69, m_rule)], [(65, m_row)])) (mi := mX12_fear) (yi := mX12_tell) (as := [.long rn2.toInt64]) (st := []) (L2 := ([(3457, m_fences), (3462, m_horses), (3466, m_plans), (3472, m_rowManyn3), (3473, (0 : Int32)), (3474, m_read), (3475, m_length), (3476, m_top), (3477, m_at), (3478, m_wrong), (3483, m_ruleSize), (3484, m_isAsked), (3485, m_askedHorse), (3486, m_askedFence), (3487, m_askedLetter), (3488, m_askedHeight)], [(56, m_kind), (57, m_height), (58, m_feet), (59, m_stride), (60, m_scope), (61, m_care), (62, m_plan), (69, m_rule)], [(65, m_rown4)])) dX12_fear_28 ML_X12_265 Yv_X12_tell rfl zW_54 rfl rfl (t_X12_tell l _ hcl) (zsub_i (zle_c rfl zle_n) zle_n (zle_c rfl zle_n)) (zjok_i rfl rfl (zle_c rfl (zle_c rfl (zle_c rfl (zle_c rfl (zle_c rfl (zle_c rfl (zle_c rfl (zle_c rfl (zle_c rfl (zle_c rfl (zle_c rfl (zle_c rfl (zle_c rfl (zle_c rfl (zle_c rfl (zle_c rfl zle_n)))))))))))))))) rfl rfl (zle_c rfl (zle_c rfl (zle_c rfl (zle_c rfl (zle_c rfl (zle_c rfl (zle_c rfl (zle_c rfl zle_n)))))))) rfl rfl (zle_c rfl zle_n)) (Nat.le_of_ble_eq_true rfl) (Nat.le_of_ble_eq_true rfl) rfl rfl ?_
    refine zJ_aload_n dX12_fear_31 rfl rfl ?_
    refine zJ_aload_n dX12_fear_32 rfl rfl ?_
    refine zJ_iload_n dX12_fear_33 rfl rfl ?_
    refine zJ_iload_n dX12_fear_34 rfl rfl ?_
    obtain ⟨rn5, m_readn6, m_lengthn7, m_topn8, m_atn9, m_wrongn10, m_isAskedn11, m_askedHorsen12, m_askedFencen13, m_askedLettern14, m_askedHeightn15, hcl, h⟩ := bd11_some h
    refine zJ_callV2 (σ := σ) (L := ([(3457, m_fences), (3462, m_horses), (3466, m_plans), (3472, m_rowManyn3), (3473, (0 : Int32)), (3474, m_read), (3475, m_length), (3476, m_top), (3477, m_at), (3478, m_wrong), (3483, m_ruleSize), (3484, m_isAsked), (3485, m_askedHorse), (3486, m_askedFence), (3487, m_askedLetter), (3488, m_askedHeight)], [(56, m_kind), (57, m_height), (58, m_feet), (59, m_stride), (60, m_scope), (61, m_care), (62, m_plan), (69, m_rule)], [(65, m_rown4)])) (mi := mX12_fear) (yi := mX12_clearOf) (as := [.int p1, .int p2]) (st := [.ref 54]) (L2 := ([(3457, m_fences), (3462, m_horses), (3466, m_plans), (3472, m_rowManyn3), (3473, (0 : Int32)), (3474, m_readn6), (3475, m_lengthn7), (3476, m_topn8), (3477, m_atn9), (3478, m_wrongn10), (3483, m_ruleSize), (3484, m_isAskedn11), (3485, m_askedHorsen12), (3486, m_askedFencen13), (3487, m_askedLettern14), (3488, m_askedHeightn15)], [(56, m_kind), (57, m_height), (58, m_feet), (59, m_stride), (60, m_scope), (61, m_care), (62, m_plan), (69, m_rule)], [(65, m_rown4)])) dX12_fear_35 ML_X12_286 Yv_X12_clearOf rfl zW_54 rfl rfl (t_X12_clearOf l _ hcl) (zsub_i (zle_c rfl (zle_c rfl (zle_c rfl (zle_c rfl (zle_c rfl (zle_c rfl (zle_c rfl (zle_c rfl (zle_c rfl (zle_c rfl (zle_c rfl (zle_c rfl zle_n)))))))))))) (zle_c rfl (zle_c rfl (zle_c rfl (zle_c rfl (zle_c rfl (zle_c rfl (zle_c rfl (zle_c rfl zle_n)))))))) zle_n) (zjok_i rfl rfl (zle_c rfl (zle_c rfl (zle_c rfl (zle_c rfl (zle_c rfl (zle_c rfl (zle_c rfl (zle_c rfl (zle_c rfl (zle_c rfl (zle_c rfl (zle_c rfl (zle_c rfl (zle_c rfl (zle_c rfl (zle_c rfl zle_n)))))))))))))))) rfl rfl (zle_c rfl (zle_c rfl (zle_c rfl (zle_c rfl (zle_c rfl (zle_c rfl (zle_c rfl (zle_c rfl zle_n)))))))) rfl rfl (zle_c rfl zle_n)) (Nat.le_of_ble_eq_true rfl) (Nat.le_of_ble_eq_true rfl) rfl rfl ?_
    refine zJ_i2l dX12_fear_38 rfl ?_
    obtain ⟨m_rowManyn16, m_rown17, hcl, h⟩ := bd2_some h
    refine zJ_callV2 (σ := σ) (L := ([(3457, m_fences), (3462, m_horses), (3466, m_plans), (3472, m_rowManyn3), (3473, (0 : Int32)), (3474, m_readn6), (3475, m_lengthn7), (3476, m_topn8), (3477, m_atn9), (3478, m_wrongn10), (3483, m_ruleSize), (3484, m_isAskedn11), (3485, m_askedHorsen12), (3486, m_askedFencen13), (3487, m_askedLettern14), (3488, m_askedHeightn15)], [(56, m_kind), (57, m_height), (58, m_feet), (59, m_stride), (60, m_scope), (61, m_care), (62, m_plan), (69, m_rule)], [(65, m_rown4)])) (mi := mX12_fear) (yi := mX12_tell) (as := [.long rn5.toInt64]) (st := []) (L2 := ([(3457, m_fences), (3462, m_horses), (3466, m_plans), (3472, m_rowManyn16), (3473, (0 : Int32)), (3474, m_readn6), (3475, m_lengthn7), (3476, m_topn8), (3477, m_atn9), (3478, m_wrongn10), (3483, m_ruleSize), (3484, m_isAskedn11), (3485, m_askedHorsen12), (3486, m_askedFencen13), (3487, m_askedLettern14), (3488, m_askedHeightn15)], [(56, m_kind), (57, m_height), (58, m_feet), (59, m_stride), (60, m_scope), (61, m_care), (62, m_plan), (69, m_rule)], [(65, m_rown17)])) dX12_fear_39 ML_X12_265 Yv_X12_tell rfl zW_54 rfl rfl (t_X12_tell l _ hcl) (zsub_i (zle_c rfl zle_n) zle_n (zle_c rfl zle_n)) (zjok_i rfl rfl (zle_c rfl (zle_c rfl (zle_c rfl (zle_c rfl (zle_c rfl (zle_c rfl (zle_c rfl (zle_c rfl (zle_c rfl (zle_c rfl (zle_c rfl (zle_c rfl (zle_c rfl (zle_c rfl (zle_c rfl (zle_c rfl zle_n)))))))))))))))) rfl rfl (zle_c rfl (zle_c rfl (zle_c rfl (zle_c rfl (zle_c rfl (zle_c rfl (zle_c rfl (zle_c rfl zle_n)))))))) rfl rfl (zle_c rfl zle_n)) (Nat.le_of_ble_eq_true rfl) (Nat.le_of_ble_eq_true rfl) rfl rfl ?_
    refine zJ_aload_n dX12_fear_42 rfl rfl ?_
    refine zJ_iload_n dX12_fear_43 rfl rfl ?_
    refine zJ_iload_n dX12_fear_44 rfl rfl ?_
    obtain ⟨rn18, m_readn19, m_lengthn20, m_topn21, m_atn22, m_wrongn23, m_isAskedn24, m_askedHorsen25, m_askedFencen26, m_askedLettern27, m_askedHeightn28, hcl, h⟩ := bd11_some h
    refine zJ_callV2 (σ := σ) (L := ([(3457, m_fences), (3462, m_horses), (3466, m_plans), (3472, m_rowManyn16), (3473, (0 : Int32)), (3474, m_readn6), (3475, m_lengthn7), (3476, m_topn8), (3477, m_atn9), (3478, m_wrongn10), (3483, m_ruleSize), (3484, m_isAskedn11), (3485, m_askedHorsen12), (3486, m_askedFencen13), (3487, m_askedLettern14), (3488, m_askedHeightn15)], [(56, m_kind), (57, m_height), (58, m_feet), (59, m_stride), (60, m_scope), (61, m_care), (62, m_plan), (69, m_rule)], [(65, m_rown17)])) (mi := mX12_fear) (yi := mX12_fearOf) (as := [.int p1, .int p2]) (st := []) (L2 := ([(3457, m_fences), (3462, m_horses), (3466, m_plans), (3472, m_rowManyn16), (3473, (0 : Int32)), (3474, m_readn19), (3475, m_lengthn20), (3476, m_topn21), (3477, m_atn22), (3478, m_wrongn23), (3483, m_ruleSize), (3484, m_isAskedn24), (3485, m_askedHorsen25), (3486, m_askedFencen26), (3487, m_askedLettern27), (3488, m_askedHeightn28)], [(56, m_kind), (57, m_height), (58, m_feet), (59, m_stride), (60, m_scope), (61, m_care), (62, m_plan), (69, m_rule)], [(65, m_rown17)])) dX12_fear_45 ML_X12_289 Yv_X12_fearOf rfl zW_54 rfl rfl (t_X12_fearOf l _ hcl) (zsub_i (zle_c rfl (zle_c rfl (zle_c rfl (zle_c rfl (zle_c rfl (zle_c rfl (zle_c rfl (zle_c rfl (zle_c rfl (zle_c rfl (zle_c rfl (zle_c rfl zle_n)))))))))))) (zle_c rfl (zle_c rfl (zle_c rfl (zle_c rfl (zle_c rfl (zle_c rfl (zle_c rfl (zle_c rfl zle_n)))))))) zle_n) (zjok_i rfl rfl (zle_c rfl (zle_c rfl (zle_c rfl (zle_c rfl (zle_c rfl (zle_c rfl (zle_c rfl (zle_c rfl (zle_c rfl (zle_c rfl (zle_c rfl (zle_c rfl (zle_c rfl (zle_c rfl (zle_c rfl (zle_c rfl zle_n)))))))))))))))) rfl rfl (zle_c rfl (zle_c rfl (zle_c rfl (zle_c rfl (zle_c rfl (zle_c rfl (zle_c rfl (zle_c rfl zle_n)))))))) rfl rfl (zle_c rfl zle_n)) (Nat.le_of_ble_eq_true rfl) (Nat.le_of_ble_eq_true rfl) rfl rfl ?_
    obtain ⟨rfl, rfl, rfl, rfl, rfl, rfl, rfl, rfl, rfl, rfl, rfl, rfl, rfl, rfl⟩ := so14 h
    exact zJ_iret dX12_fear_48 rfl rfl
  · replace h := it_t hc h
    refine zJ_iconst dX12_fear_14 zc_m1 rfl ?_
    obtain ⟨rfl, rfl, rfl, rfl, rfl, rfl, rfl, rfl, rfl, rfl, rfl, rfl, rfl, rfl⟩ := so14 h
    exact zJ_iret dX12_fear_15 rfl rfl
set_option maxRecDepth 100000 in
set_option maxHeartbeats 4000000 in
theorem t_X12_lost (l : Launch) (σ : zS) {m_thrown : Int32} {r : Int32} {w_m_thrown : Int32} (h : f_X12_lost m_thrown = some (r, w_m_thrown)) : zMt l zW 0 mX12_lost σ ([(3473, m_thrown)], [], []) [.ref 54] (some (.int r)) ([(3473, w_m_thrown)], [], []) := by
  refine zMt_of (ls := [(0, .ref 54)]) (by decide) rfl (fun _ => Nat.le_of_ble_eq_true rfl) rfl ?_
  unfold f_X12_lost at h
  refine zJ_aload_n dX12_lost_0 rfl rfl ?_
  refine zJ_iconst dX12_lost_1 zc_1 rfl ?_
  refine zK_puti (mi := mX12_lost) (la' := [(3473, (1 : Int32))]) zW_ok dX12_lost_2 F_X12_113 P_12_17 zW_54 rfl rfl rfl ?_
  refine zJ_iconst dX12_lost_5 zc_0 rfl ?_
  obtain ⟨rfl, rfl⟩ := so2 h
  exact zJ_iret dX12_lost_6 rfl rfl
set_option maxRecDepth 100000 in
set_option maxHeartbeats 4000000 in
theorem t_X12_fence (l : Launch) (σ : zS) {p1 : Int32} {p2 : Int32} {m_fences : Int32} {m_thrown : Int32} {m_kind : (Nat → Int32)} {m_height : (Nat → Int32)} {m_feet : (Nat → Int32)} {r : Int32} {w_m_thrown : Int32} (h : f_X12_fence p1 p2 m_fences m_thrown m_kind m_height m_feet = some (r, w_m_thrown)) : zMt l zW 2 mX12_fence σ ([(3457, m_fences), (3473, m_thrown)], [(56, m_kind), (57, m_height), (58, m_feet)], []) [.ref 54, .int p1, .int p2] (some (.int r)) ([(3457, m_fences), (3473, w_m_thrown)], [(56, m_kind), (57, m_height), (58, m_feet)], []) := by
  refine zMt_of (ls := [(0, .ref 54), (1, .int p1), (2, .int p2)]) (by decide) rfl (fun _ => Nat.le_of_ble_eq_true rfl) rfl ?_
  unfold f_X12_fence at h
  refine zJ_aload_n dX12_fence_0 rfl rfl ?_
  refine zJ_iconst dX12_fence_1 zc_0 rfl ?_
  refine zK_puti (mi := mX12_fence) (la' := [(3457, m_fences), (3473, (0 : Int32))]) zW_ok dX12_fence_2 F_X12_113 P_12_17 zW_54 rfl rfl rfl ?_
  refine zJ_aload_n dX12_fence_5 rfl rfl ?_
  refine zJ_iload_n dX12_fence_6 rfl rfl ?_
  obtain ⟨rn1, hcl, h⟩ := bd1_some h
  refine zJ_callV2 (σ := σ) (L := ([(3457, m_fences), (3473, (0 : Int32))], [(56, m_kind), (57, m_height), (58, m_feet)], [])) (mi := mX12_fence) (yi := mX12_isFence) (as := [.int p1]) (st := []) (L2 := ([(3457, m_fences), (3473, (0 : Int32))], [(56, m_kind), (57, m_height), (58, m_feet)], [])) dX12_fence_7 ML_X12_250 Yv_X12_isFence rfl zW_54 rfl rfl (t_X12_isFence l _ hcl) (zsub_i (zle_c rfl zle_n) zle_n zle_n) (zjok_i rfl rfl (zle_c rfl (zle_c rfl zle_n)) rfl rfl (zle_c rfl (zle_c rfl (zle_c rfl zle_n))) rfl rfl zle_n) (Nat.le_of_ble_eq_true rfl) (Nat.le_of_ble_eq_true rfl) rfl rfl ?_
  refine zJ_if_eq (tgt := 22) dX12_fence_10 (by decide) rfl (fun hc => ?_) (fun hc => ?_)
  · replace h := it_t hc h
    refine zJ_aload_n dX12_fence_22 rfl rfl ?_
    obtain ⟨rn2, m_thrownn3, hcl, h⟩ := bd2_some h
    refine zJ_callV2 (σ := σ) (L := ([(3457, m_fences), (3473, (0 : Int32))], [(56, m_kind), (57, m_height), (58, m_feet)], [])) (mi := mX12_fence) (yi := mX12_lost) (as := []) (st := []) (L2 := ([(3457, m_fences), (3473, m_thrownn3)], [(56, m_kind), (57, m_height), (58, m_feet)], [])) dX12_fence_23 ML_X12_253 Yv_X12_lost rfl zW_54 rfl rfl (t_X12_lost l _ hcl) (zsub_i (zle_c rfl zle_n) zle_n zle_n) (zjok_i rfl rfl (zle_c rfl (zle_c rfl zle_n)) rfl rfl (zle_c rfl (zle_c rfl (zle_c rfl zle_n))) rfl rfl zle_n) (Nat.le_of_ble_eq_true rfl) (Nat.le_of_ble_eq_true rfl) rfl rfl ?_
    obtain ⟨rfl, rfl⟩ := so2 h
    exact zJ_iret dX12_fence_26 rfl rfl
  · replace h := it_f hc h
    refine zJ_iload_n dX12_fence_13 rfl rfl ?_
    refine zJ_iconst dX12_fence_14 zc_0 rfl ?_
    refine zJ_iconst dX12_fence_15 zc_2 rfl ?_
    obtain ⟨rn4, hcl, h⟩ := bd1_some h
    refine zJ_callS2 (σ := σ) (L := ([(3457, m_fences), (3473, (0 : Int32))], [(56, m_kind), (57, m_height), (58, m_feet)], [])) (mi := mX12_fence) (yi := mX12_in) (as := [.int p2, .int (0 : Int32), .int (2 : Int32)]) (st := []) (L2 := ([(3457, m_fences), (3473, (0 : Int32))], [(56, m_kind), (57, m_height), (58, m_feet)], [])) dX12_fence_16 ML_X12_122 Ys_X12_in rfl (t_X12_in l _ hcl) (zsub_i zle_n zle_n zle_n) (zjok_i rfl rfl (zle_c rfl (zle_c rfl zle_n)) rfl rfl (zle_c rfl (zle_c rfl (zle_c rfl zle_n))) rfl rfl zle_n) (Nat.le_of_ble_eq_true rfl) (Nat.le_of_ble_eq_true rfl) rfl rfl ?_
    refine zJ_if_ne (tgt := 27) dX12_fence_19 (by decide) rfl (fun hc => ?_) (fun hc => ?_)
    · replace h := it_f hc h
      refine zJ_iload_n dX12_fence_27 rfl rfl ?_
      refine zJ_if_ne (tgt := 40) dX12_fence_28 (by decide) rfl (fun hc => ?_) (fun hc => ?_)
      · replace h := it_f hc h
        refine zJ_iload_n dX12_fence_40 rfl rfl ?_
        refine zJ_iconst dX12_fence_41 zc_1 rfl ?_
        refine zJ_icmp_ne (tgt := 54) dX12_fence_42 (by decide) rfl (fun hc => ?_) (fun hc => ?_)
        · replace h := it_f hc h
          refine zJ_aload_n dX12_fence_54 rfl rfl ?_
          refine zJ_getr (mi := mX12_fence) dX12_fence_55 F_X12_19 zW_54 rfl rfl ?_
          refine zJ_iload_n dX12_fence_58 rfl rfl ?_
          obtain ⟨hg, h⟩ := gd_some h
          refine zJ_iald (mi := mX12_fence) (f := m_feet) dX12_fence_59 zW_58 (ix_in hg) rfl rfl ?_
          obtain ⟨rfl, rfl⟩ := so2 h
          exact zJ_iret dX12_fence_60 rfl rfl
        · replace h := it_t hc h
          refine zJ_aload_n dX12_fence_45 rfl rfl ?_
          refine zJ_getr (mi := mX12_fence) dX12_fence_46 F_X12_16 zW_54 rfl rfl ?_
          refine zJ_iload_n dX12_fence_49 rfl rfl ?_
          obtain ⟨hg, h⟩ := gd_some h
          refine zJ_iald (mi := mX12_fence) (f := m_height) dX12_fence_50 zW_57 (ix_in hg) rfl rfl ?_
          refine zJ_goto (tgt := 60) dX12_fence_51 (by decide) ?_
          obtain ⟨rfl, rfl⟩ := so2 h
          exact zJ_iret dX12_fence_60 rfl rfl
      · replace h := it_t hc h
        refine zJ_aload_n dX12_fence_31 rfl rfl ?_
        refine zJ_getr (mi := mX12_fence) dX12_fence_32 F_X12_13 zW_54 rfl rfl ?_
        refine zJ_iload_n dX12_fence_35 rfl rfl ?_
        obtain ⟨hg, h⟩ := gd_some h
        refine zJ_iald (mi := mX12_fence) (f := m_kind) dX12_fence_36 zW_56 (ix_in hg) rfl rfl ?_
        refine zJ_goto (tgt := 60) dX12_fence_37 (by decide) ?_
        obtain ⟨rfl, rfl⟩ := so2 h
        exact zJ_iret dX12_fence_60 rfl rfl
    · replace h := it_t hc h
      refine zJ_aload_n dX12_fence_22 rfl rfl ?_
      obtain ⟨rn5, m_thrownn6, hcl, h⟩ := bd2_some h
      refine zJ_callV2 (σ := σ) (L := ([(3457, m_fences), (3473, (0 : Int32))], [(56, m_kind), (57, m_height), (58, m_feet)], [])) (mi := mX12_fence) (yi := mX12_lost) (as := []) (st := []) (L2 := ([(3457, m_fences), (3473, m_thrownn6)], [(56, m_kind), (57, m_height), (58, m_feet)], [])) dX12_fence_23 ML_X12_253 Yv_X12_lost rfl zW_54 rfl rfl (t_X12_lost l _ hcl) (zsub_i (zle_c rfl zle_n) zle_n zle_n) (zjok_i rfl rfl (zle_c rfl (zle_c rfl zle_n)) rfl rfl (zle_c rfl (zle_c rfl (zle_c rfl zle_n))) rfl rfl zle_n) (Nat.le_of_ble_eq_true rfl) (Nat.le_of_ble_eq_true rfl) rfl rfl ?_
      obtain ⟨rfl, rfl⟩ := so2 h
      exact zJ_iret dX12_fence_26 rfl rfl
set_option maxRecDepth 100000 in
set_option maxHeartbeats 4000000 in
theorem t_X12_layThought (l : Launch) (σ : zS) {p1 : Int32} {p2 : Int32} {p3 : Int32} {m_fences : Int32} {m_allowed : Int32} {m_kind : (Nat → Int32)} {m_feet : (Nat → Int32)} {m_plan : (Nat → Int32)} {m_extra : (Nat → Int32)} {w_m_extra : (Nat → Int32)} (h : f_X12_layThought p1 p2 p3 m_fences m_allowed m_kind m_feet m_plan m_extra = some w_m_extra) : zMt l zW 3 mX12_layThought σ ([(3457, m_fences), (3461, m_allowed)], [(56, m_kind), (58, m_feet), (62, m_plan), (81, m_extra)], []) [.ref 54, .int p1, .int p2, .int p3] none ([(3457, m_fences), (3461, m_allowed)], [(56, m_kind), (58, m_feet), (62, m_plan), (81, w_m_extra)], []) := by
  refine zMt_of (ls := [(0, .ref 54), (1, .int p1), (2, .int p2), (3, .int p3)]) (by decide) rfl (fun _ => Nat.le_of_ble_eq_true rfl) rfl ?_
  unfold f_X12_layThought at h
  refine zJ_aload_n dX12_layThought_0 rfl rfl ?_
  refine zJ_iload_n dX12_layThought_1 rfl rfl ?_
  obtain ⟨rn1, hcl, h⟩ := bd1_some h
  refine zJ_callV2 (σ := σ) (L := ([(3457, m_fences), (3461, m_allowed)], [(56, m_kind), (58, m_feet), (62, m_plan), (81, m_extra)], [])) (mi := mX12_layThought) (yi := mX12_tenthsOfPlan) (as := [.int p2]) (st := []) (L2 := ([(3457, m_fences), (3461, m_allowed)], [(56, m_kind), (58, m_feet), (62, m_plan), (81, m_extra)], [])) dX12_layThought_2 ML_X12_283 Yv_X12_tenthsOfPlan rfl zW_54 rfl rfl (t_X12_tenthsOfPlan l _ hcl) (zsub_i (zle_c rfl zle_n) (zle_c rfl (zle_c rfl (zle_c rfl zle_n))) zle_n) (zjok_i rfl rfl (zle_c rfl (zle_c rfl zle_n)) rfl rfl (zle_c rfl (zle_c rfl (zle_c rfl (zle_c rfl zle_n)))) rfl rfl zle_n) (Nat.le_of_ble_eq_true rfl) (Nat.le_of_ble_eq_true rfl) rfl rfl ?_
  refine zJ_istore (ls' := [(4, .int rn1), (0, .ref 54), (1, .int p1), (2, .int p2), (3, .int p3)]) dX12_layThought_5 rfl rfl rfl ?_
  refine zJ_aload_n dX12_layThought_7 rfl rfl ?_
  refine zJ_getr (mi := mX12_layThought) dX12_layThought_8 F_X12_94 zW_54 rfl rfl ?_
  refine zJ_iconst dX12_layThought_11 zc_4 rfl ?_
  refine zJ_iload_n dX12_layThought_12 rfl rfl ?_
  refine zJ_imul dX12_layThought_13 rfl ?_
  refine zJ_aload_n dX12_layThought_14 rfl rfl ?_
  refine zJ_iload dX12_layThought_15 rfl rfl ?_
  refine zJ_bipush dX12_layThought_17 zb_40 rfl ?_
  refine zJ_iconst dX12_layThought_19 zc_1 rfl ?_
  obtain ⟨rn2, hcl, h⟩ := bd1_some h
  refine zJ_callV2 (σ := σ) (L := ([(3457, m_fences), (3461, m_allowed)], [(56, m_kind), (58, m_feet), (62, m_plan), (81, m_extra)], [])) (mi := mX12_layThought) (yi := mX12_timeFaults) (as := [.int rn1, .int (40 : Int32), .int (1 : Int32)]) (st := [.int ((4 : Int32) * p1), .ref 81]) (L2 := ([(3457, m_fences), (3461, m_allowed)], [(56, m_kind), (58, m_feet), (62, m_plan), (81, m_extra)], [])) dX12_layThought_20 ML_X12_325 Yv_X12_timeFaults rfl zW_54 rfl rfl (t_X12_timeFaults l _ hcl) (zsub_i (zle_c rfl zle_n) zle_n zle_n) (zjok_i rfl rfl (zle_c rfl (zle_c rfl zle_n)) rfl rfl (zle_c rfl (zle_c rfl (zle_c rfl (zle_c rfl zle_n)))) rfl rfl zle_n) (Nat.le_of_ble_eq_true rfl) (Nat.le_of_ble_eq_true rfl) rfl rfl ?_
  refine zJ_iload_n dX12_layThought_23 rfl rfl ?_
  refine zJ_if_eq (tgt := 31) dX12_layThought_24 (by decide) rfl (fun hc => ?_) (fun hc => ?_)
  · replace h := it_t hc h
    refine zJ_iconst dX12_layThought_31 zc_4 rfl ?_
    refine zJ_iadd dX12_layThought_32 rfl ?_
    obtain ⟨hg, h⟩ := gd_some h
    refine zK_iast (mi := mX12_layThought) (f := m_extra) (lb' := [(56, m_kind), (58, m_feet), (62, m_plan), (81, (upd m_extra ((4 : Int32) * p1).toNatClampNeg (rn2 + (4 : Int32))))]) dX12_layThought_33 zW_81 (ix_in hg) rfl rfl rfl ?_
    refine zJ_aload_n dX12_layThought_34 rfl rfl ?_
    refine zJ_getr (mi := mX12_layThought) dX12_layThought_35 F_X12_94 zW_54 rfl rfl ?_
    refine zJ_iconst dX12_layThought_38 zc_4 rfl ?_
    refine zJ_iload_n dX12_layThought_39 rfl rfl ?_
    refine zJ_imul dX12_layThought_40 rfl ?_
    refine zJ_iconst dX12_layThought_41 zc_1 rfl ?_
    refine zJ_iadd dX12_layThought_42 rfl ?_
    refine zJ_iload dX12_layThought_43 rfl rfl ?_
    obtain ⟨hg, h⟩ := gd_some h
    refine zK_iast (mi := mX12_layThought) (f := ((upd m_extra ((4 : Int32) * p1).toNatClampNeg (rn2 + (4 : Int32))))) (lb' := [(56, m_kind), (58, m_feet), (62, m_plan), (81, (upd ((upd m_extra ((4 : Int32) * p1).toNatClampNeg (rn2 + (4 : Int32)))) (((4 : Int32) * p1) + (1 : Int32)).toNatClampNeg rn1))]) dX12_layThought_45 zW_81 (ix_in hg) rfl rfl rfl ?_
    obtain rfl := so1 h
    exact zJ_vret dX12_layThought_46 rfl
  · replace h := it_f hc h
    refine zJ_iconst dX12_layThought_27 zc_0 rfl ?_
    refine zJ_goto (tgt := 32) dX12_layThought_28 (by decide) ?_
    refine zJ_iadd dX12_layThought_32 rfl ?_
    obtain ⟨hg, h⟩ := gd_some h
    refine zK_iast (mi := mX12_layThought) (f := m_extra) (lb' := [(56, m_kind), (58, m_feet), (62, m_plan), (81, (upd m_extra ((4 : Int32) * p1).toNatClampNeg (rn2 + (0 : Int32))))]) dX12_layThought_33 zW_81 (ix_in hg) rfl rfl rfl ?_
    refine zJ_aload_n dX12_layThought_34 rfl rfl ?_
    refine zJ_getr (mi := mX12_layThought) dX12_layThought_35 F_X12_94 zW_54 rfl rfl ?_
    refine zJ_iconst dX12_layThought_38 zc_4 rfl ?_
    refine zJ_iload_n dX12_layThought_39 rfl rfl ?_
    refine zJ_imul dX12_layThought_40 rfl ?_
    refine zJ_iconst dX12_layThought_41 zc_1 rfl ?_
    refine zJ_iadd dX12_layThought_42 rfl ?_
    refine zJ_iload dX12_layThought_43 rfl rfl ?_
    obtain ⟨hg, h⟩ := gd_some h
    refine zK_iast (mi := mX12_layThought) (f := ((upd m_extra ((4 : Int32) * p1).toNatClampNeg (rn2 + (0 : Int32))))) (lb' := [(56, m_kind), (58, m_feet), (62, m_plan), (81, (upd ((upd m_extra ((4 : Int32) * p1).toNatClampNeg (rn2 + (0 : Int32)))) (((4 : Int32) * p1) + (1 : Int32)).toNatClampNeg rn1))]) dX12_layThought_45 zW_81 (ix_in hg) rfl rfl rfl ?_
    obtain rfl := so1 h
    exact zJ_vret dX12_layThought_46 rfl
set_option maxRecDepth 100000 in
set_option maxHeartbeats 4000000 in
theorem t_X12_placeThought (l : Launch) (σ : zS) {p1 : Int32} {m_comingMany : Int32} {m_now : (Nat → Int32)} {m_extra : (Nat → Int32)} {r : Int32} (h : f_X12_placeThought p1 m_comingMany m_now m_extra = some r) : zMt l zW 1 mX12_placeThought σ ([(3503, m_comingMany)], [(55, m_now), (81, m_extra)], []) [.ref 54, .int p1] (some (.int r)) ([(3503, m_comingMany)], [(55, m_now), (81, m_extra)], []) := by
  refine zMt_of (ls := [(0, .ref 54), (1, .int p1)]) (by decide) rfl (fun _ => Nat.le_of_ble_eq_true rfl) rfl ?_
  unfold f_X12_placeThought at h
  refine zJ_aload_n dX12_placeThought_0 rfl rfl ?_
  refine zJ_getr (mi := mX12_placeThought) dX12_placeThought_1 F_X12_94 zW_54 rfl rfl ?_
  refine zJ_iconst dX12_placeThought_4 zc_4 rfl ?_
  refine zJ_iload_n dX12_placeThought_5 rfl rfl ?_
  refine zJ_imul dX12_placeThought_6 rfl ?_
  obtain ⟨hg, h⟩ := gd_some h
  refine zJ_iald (mi := mX12_placeThought) (f := m_extra) dX12_placeThought_7 zW_81 (ix_in hg) rfl rfl ?_
  obtain ⟨v2n1, ev2n1, h⟩ := lt1_some h
  refine zJ_nmi ev2n1 ?_
  refine zJ_istore_n (ls' := [(2, .int v2n1), (0, .ref 54), (1, .int p1)]) dX12_placeThought_8 rfl rfl rfl ?_
  refine zJ_aload_n dX12_placeThought_9 rfl rfl ?_
  refine zJ_getr (mi := mX12_placeThought) dX12_placeThought_10 F_X12_94 zW_54 rfl rfl ?_
  refine zJ_iconst dX12_placeThought_13 zc_4 rfl ?_
  refine zJ_iload_n dX12_placeThought_14 rfl rfl ?_
  refine zJ_imul dX12_placeThought_15 rfl ?_
  refine zJ_iconst dX12_placeThought_16 zc_1 rfl ?_
  refine zJ_iadd dX12_placeThought_17 rfl ?_
  obtain ⟨hg, h⟩ := gd_some h
  refine zJ_iald (mi := mX12_placeThought) (f := m_extra) dX12_placeThought_18 zW_81 (ix_in hg) rfl rfl ?_
  obtain ⟨v3n2, ev3n2, h⟩ := lt1_some h
  refine zJ_nmi ev3n2 ?_
  refine zJ_istore_n (ls' := [(3, .int v3n2), (2, .int v2n1), (0, .ref 54), (1, .int p1)]) dX12_placeThought_19 rfl rfl rfl ?_
  refine zJ_aload_n dX12_placeThought_20 rfl rfl ?_
  refine zJ_getr (mi := mX12_placeThought) dX12_placeThought_21 F_X12_9 zW_54 rfl rfl ?_
  refine zJ_iload_n dX12_placeThought_24 rfl rfl ?_
  refine zJ_iload_n dX12_placeThought_25 rfl rfl ?_
  obtain ⟨rn3, hcl, h⟩ := bd1_some h
  refine zJ_callS2 (σ := σ) (L := ([(3503, m_comingMany)], [(55, m_now), (81, m_extra)], [])) (mi := mX12_placeThought) (yi := mX12_placeFor) (as := [.ref 55, .int v2n1, .int v3n2]) (st := []) (L2 := ([(3503, m_comingMany)], [(55, m_now), (81, m_extra)], [])) dX12_placeThought_26 ML_X12_368 Ys_X12_placeFor rfl (t_X12_placeFor_m_now l _ hcl) (zsub_i zle_n (zle_c rfl zle_n) zle_n) (zjok_i rfl rfl (zle_c rfl zle_n) rfl rfl (zle_c rfl (zle_c rfl zle_n)) rfl rfl zle_n) (Nat.le_of_ble_eq_true rfl) (Nat.le_of_ble_eq_true rfl) rfl rfl ?_
  refine zJ_istore (ls' := [(4, .int rn3), (3, .int v3n2), (2, .int v2n1), (0, .ref 54), (1, .int p1)]) dX12_placeThought_29 rfl rfl rfl ?_
  refine zJ_iconst dX12_placeThought_31 zc_0 rfl ?_
  refine zJ_istore (ls' := [(5, .int (0 : Int32)), (4, .int rn3), (3, .int v3n2), (2, .int v2n1), (0, .ref 54), (1, .int p1)]) dX12_placeThought_32 rfl rfl rfl ?_
  have hk34 : ∀ (v4_34x : Int32), k_X12_placeThought_34  v4_34x = some r → zJ l zW 1 mX12_placeThought σ ([(3503, m_comingMany)], [(55, m_now), (81, m_extra)], []) 115 [(4, .int v4_34x)] [] (some (.int r)) ([(3503, m_comingMany)], [(55, m_now), (81, m_extra)], []) := by
    intro v4_34x h
    unfold k_X12_placeThought_34 at h
    refine zJ_iload dX12_placeThought_115 rfl rfl ?_
    obtain rfl := so1 h
    exact zJ_iret dX12_placeThought_117 rfl rfl
  refine zJ_loc (ls' := [(0, .ref 54), (1, .int p1), (2, .int v2n1), (3, .int v3n2), (4, .int rn3), (5, .int (0 : Int32))]) (zll_c rfl (zll_c rfl (zll_c rfl (zll_c rfl (zll_c rfl (zll_c rfl zll_n)))))) ?_
  refine ml2_J (fun (v4_34 : Int32) (v5_34 : Int32) => zJ l zW 1 mX12_placeThought σ ([(3503, m_comingMany)], [(55, m_now), (81, m_extra)], []) 34 [(0, .ref 54), (1, .int p1), (2, .int v2n1), (3, .int v3n2), (4, .int v4_34), (5, .int v5_34)] [] (some (.int r)) ([(3503, m_comingMany)], [(55, m_now), (81, m_extra)], [])) (fun rc34 hrc34 v4_34 v5_34 h => ?_) zN _ _ h
  unfold s_X12_placeThought_34 at h
  refine zJ_iload dX12_placeThought_34 rfl rfl ?_
  refine zJ_aload_n dX12_placeThought_36 rfl rfl ?_
  refine zJ_geti (mi := mX12_placeThought) (x := m_comingMany) dX12_placeThought_37 F_X12_382 zW_54 rfl rfl rfl ?_
  refine zJ_icmp_ge (tgt := 115) dX12_placeThought_40 (by decide) rfl (fun hc => ?_) (fun hc => ?_)
  · replace h := it_t hc h
    refine zJ_loc (ls' := [(4, .int v4_34)]) (zll_c rfl zll_n) ?_
    exact hk34 _ h
  · replace h := it_f hc h
    refine zJ_iload dX12_placeThought_43 rfl rfl ?_
    refine zJ_iload_n dX12_placeThought_45 rfl rfl ?_
    refine zJ_icmp_ne (tgt := 52) dX12_placeThought_46 (by decide) rfl (fun hc => ?_) (fun hc => ?_)
    · replace h := it_f hc h
      refine zJ_aload_n dX12_placeThought_52 rfl rfl ?_
      refine zJ_getr (mi := mX12_placeThought) dX12_placeThought_53 F_X12_94 zW_54 rfl rfl ?_
      refine zJ_iconst dX12_placeThought_56 zc_4 rfl ?_
      refine zJ_iload dX12_placeThought_57 rfl rfl ?_
      refine zJ_imul dX12_placeThought_59 rfl ?_
      obtain ⟨hg, h⟩ := gd_some h
      refine zJ_iald (mi := mX12_placeThought) (f := m_extra) dX12_placeThought_60 zW_81 (ix_in hg) rfl rfl ?_
      refine zJ_iload_n dX12_placeThought_61 rfl rfl ?_
      refine zJ_isub dX12_placeThought_62 rfl ?_
      obtain ⟨v6n4, ev6n4, h⟩ := lt1_some h
      refine zJ_nmi ev6n4 ?_
      refine zJ_istore (ls' := [(6, .int v6n4), (0, .ref 54), (1, .int p1), (2, .int v2n1), (3, .int v3n2), (4, .int v4_34), (5, .int v5_34)]) dX12_placeThought_63 rfl rfl rfl ?_
      refine zJ_aload_n dX12_placeThought_65 rfl rfl ?_
      refine zJ_getr (mi := mX12_placeThought) dX12_placeThought_66 F_X12_94 zW_54 rfl rfl ?_
      refine zJ_iconst dX12_placeThought_69 zc_4 rfl ?_
      refine zJ_iload dX12_placeThought_70 rfl rfl ?_
      refine zJ_imul dX12_placeThought_72 rfl ?_
      refine zJ_iconst dX12_placeThought_73 zc_1 rfl ?_
      refine zJ_iadd dX12_placeThought_74 rfl ?_
      obtain ⟨hg, h⟩ := gd_some h
      refine zJ_iald (mi := mX12_placeThought) (f := m_extra) dX12_placeThought_75 zW_81 (ix_in hg) rfl rfl ?_
      refine zJ_iload_n dX12_placeThought_76 rfl rfl ?_
      refine zJ_isub dX12_placeThought_77 rfl ?_
      obtain ⟨v7n5, ev7n5, h⟩ := lt1_some h
      refine zJ_nmi ev7n5 ?_
      refine zJ_istore (ls' := [(7, .int v7n5), (6, .int v6n4), (0, .ref 54), (1, .int p1), (2, .int v2n1), (3, .int v3n2), (4, .int v4_34), (5, .int v5_34)]) dX12_placeThought_78 rfl rfl rfl ?_
      refine zJ_iload dX12_placeThought_80 rfl rfl ?_
      refine zJ_if_lt (tgt := 106) dX12_placeThought_82 (by decide) rfl (fun hc => ?_) (fun hc => ?_)
      · replace h := it_t hc h
        obtain ⟨v4n6, ev4n6, h⟩ := lt1_some h
        refine zJ_iincN (ls' := [(4, .int v4n6), (7, .int v7n5), (6, .int v6n4), (0, .ref 54), (1, .int p1), (2, .int v2n1), (3, .int v3n2), (5, .int v5_34)]) dX12_placeThought_106 rfl rfl zc_1 ev4n6 rfl rfl ?_
        obtain ⟨v5n7, ev5n7, h⟩ := lt1_some h
        refine zJ_iincN (ls' := [(5, .int v5n7), (4, .int v4n6), (7, .int v7n5), (6, .int v6n4), (0, .ref 54), (1, .int p1), (2, .int v2n1), (3, .int v3n2)]) dX12_placeThought_109 rfl rfl zc_1 ev5n7 rfl rfl ?_
        refine zJ_goto (tgt := 34) dX12_placeThought_112 (by decide) ?_
        refine zJ_loc (ls' := [(0, .ref 54), (1, .int p1), (2, .int v2n1), (3, .int v3n2), (4, .int v4n6), (5, .int v5n7)]) (zll_c rfl (zll_c rfl (zll_c rfl (zll_c rfl (zll_c rfl (zll_c rfl zll_n)))))) ?_
        exact hrc34 _ _ h
      · replace h := it_f hc h
        refine zJ_iload dX12_placeThought_85 rfl rfl ?_
        refine zJ_if_ne (tgt := 109) dX12_placeThought_87 (by decide) rfl (fun hc => ?_) (fun hc => ?_)
        · replace h := it_f hc h
          obtain ⟨v5n8, ev5n8, h⟩ := lt1_some h
          refine zJ_iincN (ls' := [(5, .int v5n8), (7, .int v7n5), (6, .int v6n4), (0, .ref 54), (1, .int p1), (2, .int v2n1), (3, .int v3n2), (4, .int v4_34)]) dX12_placeThought_109 rfl rfl zc_1 ev5n8 rfl rfl ?_
          refine zJ_goto (tgt := 34) dX12_placeThought_112 (by decide) ?_
          refine zJ_loc (ls' := [(0, .ref 54), (1, .int p1), (2, .int v2n1), (3, .int v3n2), (4, .int v4_34), (5, .int v5n8)]) (zll_c rfl (zll_c rfl (zll_c rfl (zll_c rfl (zll_c rfl (zll_c rfl zll_n)))))) ?_
          exact hrc34 _ _ h
        · replace h := it_t hc h
          refine zJ_iload dX12_placeThought_90 rfl rfl ?_
          refine zJ_if_lt (tgt := 106) dX12_placeThought_92 (by decide) rfl (fun hc => ?_) (fun hc => ?_)
          · replace h := it_t hc h
            obtain ⟨v4n9, ev4n9, h⟩ := lt1_some h
            refine zJ_iincN (ls' := [(4, .int v4n9), (7, .int v7n5), (6, .int v6n4), (0, .ref 54), (1, .int p1), (2, .int v2n1), (3, .int v3n2), (5, .int v5_34)]) dX12_placeThought_106 rfl rfl zc_1 ev4n9 rfl rfl ?_
            obtain ⟨v5n10, ev5n10, h⟩ := lt1_some h
            refine zJ_iincN (ls' := [(5, .int v5n10), (4, .int v4n9), (7, .int v7n5), (6, .int v6n4), (0, .ref 54), (1, .int p1), (2, .int v2n1), (3, .int v3n2)]) dX12_placeThought_109 rfl rfl zc_1 ev5n10 rfl rfl ?_
            refine zJ_goto (tgt := 34) dX12_placeThought_112 (by decide) ?_
            refine zJ_loc (ls' := [(0, .ref 54), (1, .int p1), (2, .int v2n1), (3, .int v3n2), (4, .int v4n9), (5, .int v5n10)]) (zll_c rfl (zll_c rfl (zll_c rfl (zll_c rfl (zll_c rfl (zll_c rfl zll_n)))))) ?_
            exact hrc34 _ _ h
          · replace h := it_f hc h
            refine zJ_iload dX12_placeThought_95 rfl rfl ?_
            refine zJ_if_ne (tgt := 109) dX12_placeThought_97 (by decide) rfl (fun hc => ?_) (fun hc => ?_)
            · replace h := it_f hc h
              obtain ⟨v5n11, ev5n11, h⟩ := lt1_some h
              refine zJ_iincN (ls' := [(5, .int v5n11), (7, .int v7n5), (6, .int v6n4), (0, .ref 54), (1, .int p1), (2, .int v2n1), (3, .int v3n2), (4, .int v4_34)]) dX12_placeThought_109 rfl rfl zc_1 ev5n11 rfl rfl ?_
              refine zJ_goto (tgt := 34) dX12_placeThought_112 (by decide) ?_
              refine zJ_loc (ls' := [(0, .ref 54), (1, .int p1), (2, .int v2n1), (3, .int v3n2), (4, .int v4_34), (5, .int v5n11)]) (zll_c rfl (zll_c rfl (zll_c rfl (zll_c rfl (zll_c rfl (zll_c rfl zll_n)))))) ?_
              exact hrc34 _ _ h
            · replace h := it_t hc h
              refine zJ_iload dX12_placeThought_100 rfl rfl ?_
              refine zJ_iload_n dX12_placeThought_102 rfl rfl ?_
              refine zJ_icmp_ge (tgt := 109) dX12_placeThought_103 (by decide) rfl (fun hc => ?_) (fun hc => ?_)
              · replace h := it_t hc h
                obtain ⟨v5n12, ev5n12, h⟩ := lt1_some h
                refine zJ_iincN (ls' := [(5, .int v5n12), (7, .int v7n5), (6, .int v6n4), (0, .ref 54), (1, .int p1), (2, .int v2n1), (3, .int v3n2), (4, .int v4_34)]) dX12_placeThought_109 rfl rfl zc_1 ev5n12 rfl rfl ?_
                refine zJ_goto (tgt := 34) dX12_placeThought_112 (by decide) ?_
                refine zJ_loc (ls' := [(0, .ref 54), (1, .int p1), (2, .int v2n1), (3, .int v3n2), (4, .int v4_34), (5, .int v5n12)]) (zll_c rfl (zll_c rfl (zll_c rfl (zll_c rfl (zll_c rfl (zll_c rfl zll_n)))))) ?_
                exact hrc34 _ _ h
              · replace h := it_f hc h
                obtain ⟨v4n13, ev4n13, h⟩ := lt1_some h
                refine zJ_iincN (ls' := [(4, .int v4n13), (7, .int v7n5), (6, .int v6n4), (0, .ref 54), (1, .int p1), (2, .int v2n1), (3, .int v3n2), (5, .int v5_34)]) dX12_placeThought_106 rfl rfl zc_1 ev4n13 rfl rfl ?_
                obtain ⟨v5n14, ev5n14, h⟩ := lt1_some h
                refine zJ_iincN (ls' := [(5, .int v5n14), (4, .int v4n13), (7, .int v7n5), (6, .int v6n4), (0, .ref 54), (1, .int p1), (2, .int v2n1), (3, .int v3n2)]) dX12_placeThought_109 rfl rfl zc_1 ev5n14 rfl rfl ?_
                refine zJ_goto (tgt := 34) dX12_placeThought_112 (by decide) ?_
                refine zJ_loc (ls' := [(0, .ref 54), (1, .int p1), (2, .int v2n1), (3, .int v3n2), (4, .int v4n13), (5, .int v5n14)]) (zll_c rfl (zll_c rfl (zll_c rfl (zll_c rfl (zll_c rfl (zll_c rfl zll_n)))))) ?_
                exact hrc34 _ _ h
    · replace h := it_t hc h
      refine zJ_goto (tgt := 109) dX12_placeThought_49 (by decide) ?_
      obtain ⟨v5n15, ev5n15, h⟩ := lt1_some h
      refine zJ_iincN (ls' := [(5, .int v5n15), (0, .ref 54), (1, .int p1), (2, .int v2n1), (3, .int v3n2), (4, .int v4_34)]) dX12_placeThought_109 rfl rfl zc_1 ev5n15 rfl rfl ?_
      refine zJ_goto (tgt := 34) dX12_placeThought_112 (by decide) ?_
      refine zJ_loc (ls' := [(0, .ref 54), (1, .int p1), (2, .int v2n1), (3, .int v3n2), (4, .int v4_34), (5, .int v5n15)]) (zll_c rfl (zll_c rfl (zll_c rfl (zll_c rfl (zll_c rfl (zll_c rfl zll_n)))))) ?_
      exact hrc34 _ _ h
