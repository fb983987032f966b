set_option maxRecDepth 100000 in
set_option maxHeartbeats 4000000 in
theorem t_X12_rule (l : Launch) (σ : zS) {m_typed : Int32} {m_thrown : Int32} {m_read : Int32} {m_length : Int32} {m_top : Int32} {m_at : Int32} {m_wrong : Int32} {m_ruleSize : Int32} {m_isAsked : Int32} {m_askedHorse : Int32} {m_askedFence : Int32} {m_askedLetter : Int32} {m_askedHeight : Int32} {m_kind : (Nat → Int32)} {m_feet : (Nat → Int32)} {m_stride : (Nat → Int32)} {m_scope : (Nat → Int32)} {m_care : (Nat → Int32)} {m_text : (Nat → Int32)} {m_rule : (Nat → Int32)} {r : Int32} {w_m_typed : Int32} {w_m_thrown : Int32} {w_m_length : Int32} {w_m_top : Int32} {w_m_at : Int32} {w_m_wrong : Int32} {w_m_ruleSize : Int32} {w_m_isAsked : Int32} {w_m_rule : (Nat → Int32)} (h : f_X12_rule m_typed m_thrown m_read m_length m_top m_at m_wrong m_ruleSize m_isAsked m_askedHorse m_askedFence m_askedLetter m_askedHeight m_kind m_feet m_stride m_scope m_care m_text m_rule = some (r, w_m_typed, w_m_thrown, w_m_length, w_m_top, w_m_at, w_m_wrong, w_m_ruleSize, w_m_isAsked, w_m_rule)) : zMt l zW 205 mX12_rule σ ([(3470, m_typed), (3473, m_thrown), (3474, m_read), (3475, m_length), (3476, m_top), (3477, m_at), (3478, m_wrong), (3483, m_ruleSize), (3484, m_isAsked), (3485, m_askedHorse), (3486, m_askedFence), (3487, m_askedLetter), (3488, m_askedHeight)], [(56, m_kind), (58, m_feet), (59, m_stride), (60, m_scope), (61, m_care), (64, m_text), (69, m_rule)], []) [.ref 54] (some (.int r)) ([(3470, w_m_typed), (3473, w_m_thrown), (3474, (nI 64)), (3475, w_m_length), (3476, w_m_top), (3477, w_m_at), (3478, w_m_wrong), (3483, w_m_ruleSize), (3484, w_m_isAsked), (3485, m_askedHorse), (3486, m_askedFence), (3487, m_askedLetter), (3488, m_askedHeight)], [(56, m_kind), (58, m_feet), (59, m_stride), (60, m_scope), (61, m_care), (64, m_text), (69, w_m_rule)], []) := by
  refine zMt_of (ls := [(0, .ref 54)]) (by decide) rfl (fun _ => Nat.le_of_ble_eq_true rfl) rfl ?_
  unfold f_X12_rule at h
  refine zJ_aload_n dX12_rule_0 rfl rfl ?_
  refine zJ_iconst dX12_rule_1 zc_0 rfl ?_
  refine zK_puti (mi := mX12_rule) (la' := [(3470, m_typed), (3473, (0 : Int32)), (3474, m_read), (3475, m_length), (3476, m_top), (3477, m_at), (3478, m_wrong), (3483, m_ruleSize), (3484, m_isAsked), (3485, m_askedHorse), (3486, m_askedFence), (3487, m_askedLetter), (3488, m_askedHeight)]) zW_ok dX12_rule_2 F_X12_113 P_12_17 zW_54 rfl rfl rfl ?_
  refine zJ_aload_n dX12_rule_5 rfl rfl ?_
  refine zJ_geti (mi := mX12_rule) (x := m_typed) dX12_rule_6 F_X12_139 zW_54 rfl rfl rfl ?_
  refine zJ_istore_n (ls' := [(1, .int m_typed), (0, .ref 54)]) dX12_rule_9 rfl rfl rfl ?_
  refine zJ_aload_n dX12_rule_10 rfl rfl ?_
  refine zJ_aload_n dX12_rule_11 rfl rfl ?_
  refine zJ_getr (mi := mX12_rule) dX12_rule_12 F_X12_41 zW_54 rfl rfl ?_
  refine zJ_iload_n dX12_rule_15 rfl rfl ?_
  refine zJ_bipush dX12_rule_16 zb_40 rfl ?_
  obtain ⟨m_lengthn1, m_topn2, m_atn3, m_wrongn4, hcl, h⟩ := bd4_some h
  refine zJ_callV (mi := mX12_rule) (yi := mX12_begin) (as := [.ref 64, .int m_typed, .int (40 : Int32)]) (st := []) (L2 := ([(3470, m_typed), (3473, (0 : Int32)), (3474, (nI 64)), (3475, m_lengthn1), (3476, m_topn2), (3477, m_atn3), (3478, m_wrongn4), (3483, m_ruleSize), (3484, m_isAsked), (3485, m_askedHorse), (3486, m_askedFence), (3487, m_askedLetter), (3488, m_askedHeight)], [(56, m_kind), (58, m_feet), (59, m_stride), (60, m_scope), (61, m_care), (64, m_text), (69, m_rule)], [])) dX12_rule_18 ML_X12_185 Yv_X12_begin rfl zW_54 rfl rfl (t_X12_begin_m_text l _ hcl) (zsub_i (zle_c rfl (zle_c rfl (zle_c rfl (zle_c rfl (zle_c rfl zle_n))))) zle_n zle_n) rfl (Nat.le_of_ble_eq_true rfl) (Nat.le_of_ble_eq_true rfl) rfl rfl ?_
  refine zJ_aload_n dX12_rule_21 rfl rfl ?_
  refine zJ_iconst dX12_rule_22 zc_0 rfl ?_
  refine zK_puti (mi := mX12_rule) (la' := [(3470, (0 : Int32)), (3473, (0 : Int32)), (3474, (nI 64)), (3475, m_lengthn1), (3476, m_topn2), (3477, m_atn3), (3478, m_wrongn4), (3483, m_ruleSize), (3484, m_isAsked), (3485, m_askedHorse), (3486, m_askedFence), (3487, m_askedLetter), (3488, m_askedHeight)]) zW_ok dX12_rule_23 F_X12_139 P_12_14 zW_54 rfl rfl rfl ?_
  refine zJ_aload_n dX12_rule_26 rfl rfl ?_
  refine zJ_iconst dX12_rule_27 zc_0 rfl ?_
  refine zK_putz (mi := mX12_rule) (la' := [(3470, (0 : Int32)), (3473, (0 : Int32)), (3474, (nI 64)), (3475, m_lengthn1), (3476, m_topn2), (3477, m_atn3), (3478, m_wrongn4), (3483, m_ruleSize), (3484, (0 : Int32)), (3485, m_askedHorse), (3486, m_askedFence), (3487, m_askedLetter), (3488, m_askedHeight)]) zW_ok dX12_rule_28 F_X12_213 P_12_28 zW_54 rfl (by decide) (by decide) rfl rfl ?_
  refine zJ_iload_n dX12_rule_31 rfl rfl ?_
  have hj_X12_rule_71 : ∀ (m_at_71j : Int32) (m_wrong_71j : Int32), j_X12_rule_71 m_typed m_text m_rule m_lengthn1 m_topn2 m_at_71j m_wrong_71j = some (r, w_m_typed, w_m_thrown, w_m_length, w_m_top, w_m_at, w_m_wrong, w_m_ruleSize, w_m_isAsked, w_m_rule) → zJ l zW 205 mX12_rule σ ([(3470, (0 : Int32)), (3473, (0 : Int32)), (3474, (nI 64)), (3475, m_lengthn1), (3476, m_topn2), (3477, m_at_71j), (3478, m_wrong_71j), (3483, m_ruleSize), (3484, (0 : Int32)), (3485, m_askedHorse), (3486, m_askedFence), (3487, m_askedLetter), (3488, m_askedHeight)], [(56, m_kind), (58, m_feet), (59, m_stride), (60, m_scope), (61, m_care), (64, m_text), (69, m_rule)], []) 71 [(0, .ref 54), (1, .int m_typed)] [] (some (.int r)) ([(3470, w_m_typed), (3473, w_m_thrown), (3474, (nI 64)), (3475, w_m_length), (3476, w_m_top), (3477, w_m_at), (3478, w_m_wrong), (3483, w_m_ruleSize), (3484, w_m_isAsked), (3485, m_askedHorse), (3486, m_askedFence), (3487, m_askedLetter), (3488, m_askedHeight)], [(56, m_kind), (58, m_feet), (59, m_stride), (60, m_scope), (61, m_care), (64, m_text), (69, w_m_rule)], []) := by
    intro m_at_71j m_wrong_71j h
    unfold j_X12_rule_71 at h
    refine zJ_iconst dX12_rule_71 zc_0 rfl ?_
    refine zJ_istore_n (ls' := [(2, .int (0 : Int32)), (0, .ref 54), (1, .int m_typed)]) dX12_rule_72 rfl rfl rfl ?_
    have hk73 : ∀ (m_rule_73x : (Nat → Int32)), k_X12_rule_73 m_typed m_lengthn1 m_topn2 m_at_71j m_wrong_71j m_rule_73x = some (r, w_m_typed, w_m_thrown, w_m_length, w_m_top, w_m_at, w_m_wrong, w_m_ruleSize, w_m_isAsked, w_m_rule) → zJ l zW 205 mX12_rule σ ([(3470, (0 : Int32)), (3473, (0 : Int32)), (3474, (nI 64)), (3475, m_lengthn1), (3476, m_topn2), (3477, m_at_71j), (3478, m_wrong_71j), (3483, m_ruleSize), (3484, (0 : Int32)), (3485, m_askedHorse), (3486, m_askedFence), (3487, m_askedLetter), (3488, m_askedHeight)], [(56, m_kind), (58, m_feet), (59, m_stride), (60, m_scope), (61, m_care), (64, m_text), (69, m_rule_73x)], []) 96 [(0, .ref 54), (1, .int m_typed)] [] (some (.int r)) ([(3470, w_m_typed), (3473, w_m_thrown), (3474, (nI 64)), (3475, w_m_length), (3476, w_m_top), (3477, w_m_at), (3478, w_m_wrong), (3483, w_m_ruleSize), (3484, w_m_isAsked), (3485, m_askedHorse), (3486, m_askedFence), (3487, m_askedLetter), (3488, m_askedHeight)], [(56, m_kind), (58, m_feet), (59, m_stride), (60, m_scope), (61, m_care), (64, m_text), (69, w_m_rule)], []) := by
      intro m_rule_73x h
      unfold k_X12_rule_73 at h
      refine zJ_aload_n dX12_rule_96 rfl rfl ?_
      refine zJ_iload_n dX12_rule_97 rfl rfl ?_
      refine zK_puti (mi := mX12_rule) (la' := [(3470, (0 : Int32)), (3473, (0 : Int32)), (3474, (nI 64)), (3475, m_lengthn1), (3476, m_topn2), (3477, m_at_71j), (3478, m_wrong_71j), (3483, m_typed), (3484, (0 : Int32)), (3485, m_askedHorse), (3486, m_askedFence), (3487, m_askedLetter), (3488, m_askedHeight)]) zW_ok dX12_rule_98 F_X12_235 P_12_27 zW_54 rfl rfl rfl ?_
      refine zJ_iconst dX12_rule_101 zc_0 rfl ?_
      obtain ⟨rfl, rfl, rfl, rfl, rfl, rfl, rfl, rfl, rfl, rfl⟩ := so10 h
      exact zJ_iret dX12_rule_102 rfl rfl
    refine zJ_loc (ls' := [(0, .ref 54), (1, .int m_typed), (2, .int (0 : Int32))]) (zll_c rfl (zll_c rfl (zll_c rfl zll_n))) ?_
    refine ml2_J (fun (v2_73 : Int32) (m_rule_73 : (Nat → Int32)) => zJ l zW 205 mX12_rule σ ([(3470, (0 : Int32)), (3473, (0 : Int32)), (3474, (nI 64)), (3475, m_lengthn1), (3476, m_topn2), (3477, m_at_71j), (3478, m_wrong_71j), (3483, m_ruleSize), (3484, (0 : Int32)), (3485, m_askedHorse), (3486, m_askedFence), (3487, m_askedLetter), (3488, m_askedHeight)], [(56, m_kind), (58, m_feet), (59, m_stride), (60, m_scope), (61, m_care), (64, m_text), (69, m_rule_73)], []) 73 [(0, .ref 54), (1, .int m_typed), (2, .int v2_73)] [] (some (.int r)) ([(3470, w_m_typed), (3473, w_m_thrown), (3474, (nI 64)), (3475, w_m_length), (3476, w_m_top), (3477, w_m_at), (3478, w_m_wrong), (3483, w_m_ruleSize), (3484, w_m_isAsked), (3485, m_askedHorse), (3486, m_askedFence), (3487, m_askedLetter), (3488, m_askedHeight)], [(56, m_kind), (58, m_feet), (59, m_stride), (60, m_scope), (61, m_care), (64, m_text), (69, w_m_rule)], [])) (fun rc73 hrc73 v2_73 m_rule_73 h => ?_) zN _ _ h
    unfold s_X12_rule_73 at h
    refine zJ_iload_n dX12_rule_73 rfl rfl ?_
    refine zJ_iload_n dX12_rule_74 rfl rfl ?_
    refine zJ_icmp_ge (tgt := 96) dX12_rule_75 (by decide) rfl (fun hc => ?_) (fun hc => ?_)
    · replace h := it_t hc h
      refine zJ_loc (ls' := [(0, .ref 54), (1, .int m_typed)]) (zll_c rfl (zll_c rfl zll_n)) ?_
      exact hk73 _ h
    · replace h := it_f hc h
      refine zJ_aload_n dX12_rule_78 rfl rfl ?_
      refine zJ_getr (mi := mX12_rule) dX12_rule_79 F_X12_58 zW_54 rfl rfl ?_
      refine zJ_iload_n dX12_rule_82 rfl rfl ?_
      refine zJ_aload_n dX12_rule_83 rfl rfl ?_
      refine zJ_getr (mi := mX12_rule) dX12_rule_84 F_X12_41 zW_54 rfl rfl ?_
      refine zJ_iload_n dX12_rule_87 rfl rfl ?_
      obtain ⟨hg, h⟩ := gd_some h
      refine zJ_bald (mi := mX12_rule) (f := m_text) dX12_rule_88 zW_64 (ix_in hg) rfl rfl ?_
      obtain ⟨hg, h⟩ := gd_some h
      refine zK_bast (mi := mX12_rule) (f := m_rule_73) (lb' := [(56, m_kind), (58, m_feet), (59, m_stride), (60, m_scope), (61, m_care), (64, m_text), (69, (upd m_rule_73 v2_73.toNatClampNeg (vp_nar .byte (m_text v2_73.toNatClampNeg))))]) dX12_rule_89 zW_69 (ix_in hg) rfl rfl rfl ?_
      obtain ⟨v2n5, ev2n5, h⟩ := lt1_some h
      refine zJ_iincN (ls' := [(2, .int v2n5), (0, .ref 54), (1, .int m_typed)]) dX12_rule_90 rfl rfl zc_1 ev2n5 rfl rfl ?_
      refine zJ_goto (tgt := 73) dX12_rule_93 (by decide) ?_
      refine zJ_loc (ls' := [(0, .ref 54), (1, .int m_typed), (2, .int v2n5)]) (zll_c rfl (zll_c rfl (zll_c rfl zll_n))) ?_
      exact hrc73 _ _ h
  refine zJ_if_le (tgt := 71) dX12_rule_32 (by decide) rfl (fun hc => ?_) (fun hc => ?_)
  · replace h := it_t hc h
    refine zJ_loc (ls' := [(0, .ref 54), (1, .int m_typed)]) (zll_c rfl (zll_c rfl zll_n)) ?_
    exact hj_X12_rule_71 _ _ h
  · replace h := it_f hc h
    refine zJ_aload_n dX12_rule_35 rfl rfl ?_
    refine zJ_iconst dX12_rule_36 zc_0 rfl ?_
    obtain ⟨rn6, m_atn7, m_wrongn8, hcl, h⟩ := bd3_some h
    refine zJ_callV (mi := mX12_rule) (yi := mX12_held) (as := [.int (0 : Int32)]) (st := []) (L2 := ([(3470, (0 : Int32)), (3473, (0 : Int32)), (3474, (nI 64)), (3475, m_lengthn1), (3476, m_topn2), (3477, m_atn7), (3478, m_wrongn8), (3483, m_ruleSize), (3484, (0 : Int32)), (3485, m_askedHorse), (3486, m_askedFence), (3487, m_askedLetter), (3488, m_askedHeight)], [(56, m_kind), (58, m_feet), (59, m_stride), (60, m_scope), (61, m_care), (64, m_text), (69, m_rule)], [])) dX12_rule_37 ML_X12_210 Yv_X12_held rfl zW_54 rfl rfl (t_X12_held_t l _ 200 hcl) (zsub_i (zle_c rfl (zle_c rfl (zle_c rfl (zle_c rfl (zle_c rfl (zle_c rfl (zle_c rfl (zle_c rfl (zle_c rfl (zle_c rfl zle_n)))))))))) (zle_c rfl (zle_c rfl (zle_c rfl (zle_c rfl (zle_c rfl (zle_c rfl zle_n)))))) zle_n) rfl (Nat.le_of_ble_eq_true rfl) (Nat.le_of_ble_eq_true rfl) rfl rfl ?_
    refine zJ_pop dX12_rule_40 rfl rfl ?_
    refine zJ_aload_n dX12_rule_41 rfl rfl ?_
    refine zJ_geti (mi := mX12_rule) (x := m_atn7) dX12_rule_42 F_X12_151 zW_54 rfl rfl rfl ?_
    refine zJ_iload_n dX12_rule_45 rfl rfl ?_
    refine zJ_icmp_ge (tgt := 57) dX12_rule_46 (by decide) rfl (fun hc => ?_) (fun hc => ?_)
    · replace h := it_t hc h
      refine zJ_aload_n dX12_rule_57 rfl rfl ?_
      obtain ⟨rn9, hcl, h⟩ := bd1_some h
      refine zJ_callV (mi := mX12_rule) (yi := mX12_fine) (as := []) (st := []) (L2 := ([(3470, (0 : Int32)), (3473, (0 : Int32)), (3474, (nI 64)), (3475, m_lengthn1), (3476, m_topn2), (3477, m_atn7), (3478, m_wrongn8), (3483, m_ruleSize), (3484, (0 : Int32)), (3485, m_askedHorse), (3486, m_askedFence), (3487, m_askedLetter), (3488, m_askedHeight)], [(56, m_kind), (58, m_feet), (59, m_stride), (60, m_scope), (61, m_care), (64, m_text), (69, m_rule)], [])) dX12_rule_58 ML_X12_157 Yv_X12_fine rfl zW_54 rfl rfl (t_X12_fine l _ hcl) (zsub_i (zle_c rfl zle_n) zle_n zle_n) rfl (Nat.le_of_ble_eq_true rfl) (Nat.le_of_ble_eq_true rfl) rfl rfl ?_
      refine zJ_if_ne (tgt := 71) dX12_rule_61 (by decide) rfl (fun hc => ?_) (fun hc => ?_)
      · replace h := it_f hc h
        refine zJ_loc (ls' := [(0, .ref 54), (1, .int m_typed)]) (zll_c rfl (zll_c rfl zll_n)) ?_
        exact hj_X12_rule_71 _ _ h
      · replace h := it_t hc h
        refine zJ_iconst dX12_rule_64 zc_m1 rfl ?_
        refine zJ_aload_n dX12_rule_65 rfl rfl ?_
        refine zJ_geti (mi := mX12_rule) (x := m_wrongn8) dX12_rule_66 F_X12_154 zW_54 rfl rfl rfl ?_
        refine zJ_isub dX12_rule_69 rfl ?_
        obtain ⟨rfl, rfl, rfl, rfl, rfl, rfl, rfl, rfl, rfl, rfl⟩ := so10 h
        exact zJ_iret dX12_rule_70 rfl rfl
    · replace h := it_f hc h
      refine zJ_aload_n dX12_rule_49 rfl rfl ?_
      refine zJ_aload_n dX12_rule_50 rfl rfl ?_
      refine zJ_geti (mi := mX12_rule) (x := m_atn7) dX12_rule_51 F_X12_151 zW_54 rfl rfl rfl ?_
      obtain ⟨m_wrongn10, hcl, h⟩ := bd1_some h
      refine zJ_callV (mi := mX12_rule) (yi := mX12_fault) (as := [.int m_atn7]) (st := []) (L2 := ([(3470, (0 : Int32)), (3473, (0 : Int32)), (3474, (nI 64)), (3475, m_lengthn1), (3476, m_topn2), (3477, m_atn7), (3478, m_wrongn10), (3483, m_ruleSize), (3484, (0 : Int32)), (3485, m_askedHorse), (3486, m_askedFence), (3487, m_askedLetter), (3488, m_askedHeight)], [(56, m_kind), (58, m_feet), (59, m_stride), (60, m_scope), (61, m_care), (64, m_text), (69, m_rule)], [])) dX12_rule_54 ML_X12_169 Yv_X12_fault rfl zW_54 rfl rfl (t_X12_fault l _ hcl) (zsub_i (zle_c rfl zle_n) zle_n zle_n) rfl (Nat.le_of_ble_eq_true rfl) (Nat.le_of_ble_eq_true rfl) rfl rfl ?_
      refine zJ_aload_n dX12_rule_57 rfl rfl ?_
      obtain ⟨rn11, hcl, h⟩ := bd1_some h
      refine zJ_callV (mi := mX12_rule) (yi := mX12_fine) (as := []) (st := []) (L2 := ([(3470, (0 : Int32)), (3473, (0 : Int32)), (3474, (nI 64)), (3475, m_lengthn1), (3476, m_topn2), (3477, m_atn7), (3478, m_wrongn10), (3483, m_ruleSize), (3484, (0 : Int32)), (3485, m_askedHorse), (3486, m_askedFence), (3487, m_askedLetter), (3488, m_askedHeight)], [(56, m_kind), (58, m_feet), (59, m_stride), (60, m_scope), (61, m_care), (64, m_text), (69, m_rule)], [])) dX12_rule_58 ML_X12_157 Yv_X12_fine rfl zW_54 rfl rfl (t_X12_fine l _ hcl) (zsub_i (zle_c rfl zle_n) zle_n zle_n) rfl (Nat.le_of_ble_eq_true rfl) (Nat.le_of_ble_eq_true rfl) rfl rfl ?_
      refine zJ_if_ne (tgt := 71) dX12_rule_61 (by decide) rfl (fun hc => ?_) (fun hc => ?_)
      · replace h := it_f hc h
        refine zJ_loc (ls' := [(0, .ref 54), (1, .int m_typed)]) (zll_c rfl (zll_c rfl zll_n)) ?_
        exact hj_X12_rule_71 _ _ h
      · replace h := it_t hc h
        refine zJ_iconst dX12_rule_64 zc_m1 rfl ?_
        refine zJ_aload_n dX12_rule_65 rfl rfl ?_
        refine zJ_geti (mi := mX12_rule) (x := m_wrongn10) dX12_rule_66 F_X12_154 zW_54 rfl rfl rfl ?_
        refine zJ_isub dX12_rule_69 rfl ?_
        obtain ⟨rfl, rfl, rfl, rfl, rfl, rfl, rfl, rfl, rfl, rfl⟩ := so10 h
        exact zJ_iret dX12_rule_70 rfl rfl
