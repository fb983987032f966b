set_option maxRecDepth 100000 in
set_option maxHeartbeats 4000000 in
theorem t_X12_told (l : Launch) (σ : zS) {p1 : Int32} {p2 : Int32} {p3 : Int32} {p4 : Int32} {m_horses : Int32} {m_thrown : Int32} {m_undoMany : Int32} {m_now : (Nat → Int32)} {m_undos : (Nat → Int32)} {r : Int32} {w_m_thrown : Int32} {w_m_undoMany : Int32} {w_m_now : (Nat → Int32)} {w_m_undos : (Nat → Int32)} (h : f_X12_told p1 p2 p3 p4 m_horses m_thrown m_undoMany m_now m_undos = some (r, w_m_thrown, w_m_undoMany, w_m_now, w_m_undos)) : zMt l zW 3 mX12_told σ ([(3462, m_horses), (3473, m_thrown), (3494, m_undoMany)], [(55, m_now), (74, m_undos)], []) [.ref 54, .int p1, .int p2, .int p3, .int p4] (some (.int r)) ([(3462, m_horses), (3473, w_m_thrown), (3494, w_m_undoMany)], [(55, w_m_now), (74, w_m_undos)], []) := by
  refine zMt_of (ls := [(0, .ref 54), (1, .int p1), (2, .int p2), (3, .int p3), (4, .int p4)]) (by decide) rfl (fun _ => Nat.le_of_ble_eq_true rfl) rfl ?_
  unfold f_X12_told at h
  refine zJ_aload_n dX12_told_0 rfl rfl ?_
  refine zJ_iconst dX12_told_1 zc_0 rfl ?_
  refine zK_puti (mi := mX12_told) (la' := [(3462, m_horses), (3473, (0 : Int32)), (3494, m_undoMany)]) zW_ok dX12_told_2 F_X12_113 P_12_17 zW_54 rfl rfl rfl ?_
  refine zJ_aload_n dX12_told_5 rfl rfl ?_
  refine zJ_iload_n dX12_told_6 rfl rfl ?_
  refine zJ_iload_n dX12_told_7 rfl rfl ?_
  refine zJ_iload_n dX12_told_8 rfl rfl ?_
  refine zJ_iload dX12_told_9 rfl rfl ?_
  obtain ⟨rn1, hcl, h⟩ := bd1_some h
  refine zJ_callV2 (σ := σ) (L := ([(3462, m_horses), (3473, (0 : Int32)), (3494, m_undoMany)], [(55, m_now), (74, m_undos)], [])) (mi := mX12_told) (yi := mX12_refusesTold) (as := [.int p1, .int p2, .int p3, .int p4]) (st := []) (L2 := ([(3462, m_horses), (3473, (0 : Int32)), (3494, m_undoMany)], [(55, m_now), (74, m_undos)], [])) dX12_told_11 ML_X12_345 Yv_X12_refusesTold rfl zW_54 rfl rfl (t_X12_refusesTold l _ hcl) (zsub_i (zle_c rfl zle_n) (zle_c rfl zle_n) zle_n) (zjok_i rfl rfl (zle_c rfl (zle_c rfl (zle_c rfl zle_n))) rfl rfl (zle_c rfl (zle_c rfl zle_n)) rfl rfl zle_n) (Nat.le_of_ble_eq_true rfl) (Nat.le_of_ble_eq_true rfl) rfl rfl ?_
  refine zJ_istore (ls' := [(5, .int rn1), (0, .ref 54), (1, .int p1), (2, .int p2), (3, .int p3), (4, .int p4)]) dX12_told_14 rfl rfl rfl ?_
  refine zJ_iload dX12_told_16 rfl rfl ?_
  refine zJ_if_ge (tgt := 24) dX12_told_18 (by decide) rfl (fun hc => ?_) (fun hc => ?_)
  · replace h := it_t hc h
    refine zJ_aload_n dX12_told_24 rfl rfl ?_
    refine zJ_aload_n dX12_told_25 rfl rfl ?_
    refine zJ_getr (mi := mX12_told) dX12_told_26 F_X12_9 zW_54 rfl rfl ?_
    obtain ⟨m_undoManyn2, m_undosn3, hcl, h⟩ := bd2_some h
    refine zJ_callV2 (σ := σ) (L := ([(3462, m_horses), (3473, (0 : Int32)), (3494, m_undoMany)], [(55, m_now), (74, m_undos)], [])) (mi := mX12_told) (yi := mX12_remember) (as := [.ref 55]) (st := []) (L2 := ([(3462, m_horses), (3473, (0 : Int32)), (3494, m_undoManyn2)], [(55, m_now), (74, m_undosn3)], [])) dX12_told_29 ML_X12_331 Yv_X12_remember rfl zW_54 rfl rfl (t_X12_remember_m_now l _ hcl) (zsub_i (zle_c rfl zle_n) (zle_c rfl (zle_c rfl zle_n)) zle_n) (zjok_i rfl rfl (zle_c rfl (zle_c rfl (zle_c rfl zle_n))) rfl rfl (zle_c rfl (zle_c rfl zle_n)) rfl rfl zle_n) (Nat.le_of_ble_eq_true rfl) (Nat.le_of_ble_eq_true rfl) rfl rfl ?_
    refine zJ_aload_n dX12_told_32 rfl rfl ?_
    refine zJ_getr (mi := mX12_told) dX12_told_33 F_X12_9 zW_54 rfl rfl ?_
    refine zJ_iload_n dX12_told_36 rfl rfl ?_
    refine zJ_iload_n dX12_told_37 rfl rfl ?_
    refine zJ_iload_n dX12_told_38 rfl rfl ?_
    refine zJ_iload dX12_told_39 rfl rfl ?_
    obtain ⟨m_nown4, hcl, h⟩ := bd1_some h
    refine zJ_callS2 (σ := σ) (L := ([(3462, m_horses), (3473, (0 : Int32)), (3494, m_undoManyn2)], [(55, m_now), (74, m_undosn3)], [])) (mi := mX12_told) (yi := mX12_add) (as := [.ref 55, .int p1, .int p2, .int p3, .int p4]) (st := []) (L2 := ([(3462, m_horses), (3473, (0 : Int32)), (3494, m_undoManyn2)], [(55, m_nown4), (74, m_undosn3)], [])) dX12_told_41 ML_X12_338 Ys_X12_add rfl (t_X12_add_m_now l _ hcl) (zsub_i zle_n (zle_c rfl zle_n) zle_n) (zjok_i rfl rfl (zle_c rfl (zle_c rfl (zle_c rfl zle_n))) rfl rfl (zle_c rfl (zle_c rfl zle_n)) rfl rfl zle_n) (Nat.le_of_ble_eq_true rfl) (Nat.le_of_ble_eq_true rfl) rfl rfl ?_
    refine zJ_aload_n dX12_told_44 rfl rfl ?_
    refine zJ_getr (mi := mX12_told) dX12_told_45 F_X12_9 zW_54 rfl rfl ?_
    refine zJ_bipush dX12_told_48 zb_48 rfl ?_
    obtain ⟨hg, h⟩ := gd_some h
    refine zJ_iald (mi := mX12_told) (f := m_nown4) dX12_told_50 zW_55 (ix_in hg) rfl rfl ?_
    obtain ⟨rfl, rfl, rfl, rfl, rfl⟩ := so5 h
    exact zJ_iret dX12_told_51 rfl rfl
  · replace h := it_f hc h
    refine zJ_iload dX12_told_21 rfl rfl ?_
    obtain ⟨rfl, rfl, rfl, rfl, rfl⟩ := so5 h
    exact zJ_iret dX12_told_23 rfl rfl
set_option maxRecDepth 100000 in
set_option maxHeartbeats 4000000 in
theorem t_X12_undo (l : Launch) (σ : zS) {m_thrown : Int32} {m_undoMany : Int32} {m_now : (Nat → Int32)} {m_undos : (Nat → Int32)} {r : Int32} {w_m_thrown : Int32} {w_m_undoMany : Int32} {w_m_now : (Nat → Int32)} (h : f_X12_undo m_thrown m_undoMany m_now m_undos = some (r, w_m_thrown, w_m_undoMany, w_m_now)) : zMt l zW 0 mX12_undo σ ([(3473, m_thrown), (3494, m_undoMany)], [(55, m_now), (74, m_undos)], []) [.ref 54] (some (.int r)) ([(3473, w_m_thrown), (3494, w_m_undoMany)], [(55, w_m_now), (74, m_undos)], []) := by
  refine zMt_of (ls := [(0, .ref 54)]) (by decide) rfl (fun _ => Nat.le_of_ble_eq_true rfl) rfl ?_
  unfold f_X12_undo at h
  refine zJ_aload_n dX12_undo_0 rfl rfl ?_
  refine zJ_iconst dX12_undo_1 zc_0 rfl ?_
  refine zK_puti (mi := mX12_undo) (la' := [(3473, (0 : Int32)), (3494, m_undoMany)]) zW_ok dX12_undo_2 F_X12_113 P_12_17 zW_54 rfl rfl rfl ?_
  refine zJ_aload_n dX12_undo_5 rfl rfl ?_
  refine zJ_geti (mi := mX12_undo) (x := m_undoMany) dX12_undo_6 F_X12_192 zW_54 rfl rfl rfl ?_
  refine zJ_if_ne (tgt := 14) dX12_undo_9 (by decide) rfl (fun hc => ?_) (fun hc => ?_)
  · replace h := it_f hc h
    refine zJ_aload_n dX12_undo_14 rfl rfl ?_
    refine zJ_dup dX12_undo_15 rfl rfl ?_
    refine zJ_geti (mi := mX12_undo) (x := m_undoMany) dX12_undo_16 F_X12_192 zW_54 rfl rfl rfl ?_
    refine zJ_iconst dX12_undo_19 zc_1 rfl ?_
    refine zJ_isub dX12_undo_20 rfl ?_
    refine zK_puti (mi := mX12_undo) (la' := [(3473, (0 : Int32)), (3494, (m_undoMany - (1 : Int32)))]) zW_ok dX12_undo_21 F_X12_192 P_12_38 zW_54 rfl rfl rfl ?_
    refine zJ_iconst dX12_undo_24 zc_0 rfl ?_
    refine zJ_istore_n (ls' := [(1, .int (0 : Int32)), (0, .ref 54)]) dX12_undo_25 rfl rfl rfl ?_
    have hk26 : ∀ (m_now_26x : (Nat → Int32)), k_X12_undo_26 m_undoMany m_now_26x = some (r, w_m_thrown, w_m_undoMany, w_m_now) → zJ l zW 0 mX12_undo σ ([(3473, (0 : Int32)), (3494, (m_undoMany - (1 : Int32)))], [(55, m_now_26x), (74, m_undos)], []) 58 [(0, .ref 54)] [] (some (.int r)) ([(3473, w_m_thrown), (3494, w_m_undoMany)], [(55, w_m_now), (74, m_undos)], []) := by
      intro m_now_26x h
      unfold k_X12_undo_26 at h
      refine zJ_aload_n dX12_undo_58 rfl rfl ?_
      refine zJ_geti (mi := mX12_undo) (x := (m_undoMany - (1 : Int32))) dX12_undo_59 F_X12_192 zW_54 rfl rfl rfl ?_
      obtain ⟨rfl, rfl, rfl, rfl⟩ := so4 h
      exact zJ_iret dX12_undo_62 rfl rfl
    refine zJ_loc (ls' := [(0, .ref 54), (1, .int (0 : Int32))]) (zll_c rfl (zll_c rfl zll_n)) ?_
    refine ml2_J (fun (v1_26 : Int32) (m_now_26 : (Nat → Int32)) => zJ l zW 0 mX12_undo σ ([(3473, (0 : Int32)), (3494, (m_undoMany - (1 : Int32)))], [(55, m_now_26), (74, m_undos)], []) 26 [(0, .ref 54), (1, .int v1_26)] [] (some (.int r)) ([(3473, w_m_thrown), (3494, w_m_undoMany)], [(55, w_m_now), (74, m_undos)], [])) (fun rc26 hrc26 v1_26 m_now_26 h => ?_) zN _ _ h
    unfold s_X12_undo_26 at h
    refine zJ_iload_n dX12_undo_26 rfl rfl ?_
    refine zJ_bipush dX12_undo_27 zb_49 rfl ?_
    refine zJ_icmp_ge (tgt := 58) dX12_undo_29 (by decide) rfl (fun hc => ?_) (fun hc => ?_)
    · replace h := it_t hc h
      refine zJ_loc (ls' := [(0, .ref 54)]) (zll_c rfl zll_n) ?_
      exact hk26 _ h
    · replace h := it_f hc h
      refine zJ_aload_n dX12_undo_32 rfl rfl ?_
      refine zJ_getr (mi := mX12_undo) dX12_undo_33 F_X12_9 zW_54 rfl rfl ?_
      refine zJ_iload_n dX12_undo_36 rfl rfl ?_
      refine zJ_aload_n dX12_undo_37 rfl rfl ?_
      refine zJ_getr (mi := mX12_undo) dX12_undo_38 F_X12_73 zW_54 rfl rfl ?_
      refine zJ_bipush dX12_undo_41 zb_49 rfl ?_
      refine zJ_aload_n dX12_undo_43 rfl rfl ?_
      refine zJ_geti (mi := mX12_undo) (x := (m_undoMany - (1 : Int32))) dX12_undo_44 F_X12_192 zW_54 rfl rfl rfl ?_
      refine zJ_imul dX12_undo_47 rfl ?_
      refine zJ_iload_n dX12_undo_48 rfl rfl ?_
      refine zJ_iadd dX12_undo_49 rfl ?_
      obtain ⟨hg, h⟩ := gd_some h
      refine zJ_iald (mi := mX12_undo) (f := m_undos) dX12_undo_50 zW_74 (ix_in hg) rfl rfl ?_
      obtain ⟨hg, h⟩ := gd_some h
      refine zK_iast (mi := mX12_undo) (f := m_now_26) (lb' := [(55, (upd m_now_26 v1_26.toNatClampNeg (m_undos (((49 : Int32) * (m_undoMany - (1 : Int32))) + v1_26).toNatClampNeg))), (74, m_undos)]) dX12_undo_51 zW_55 (ix_in hg) rfl rfl rfl ?_
      obtain ⟨v1n1, ev1n1, h⟩ := lt1_some h
      refine zJ_iincN (ls' := [(1, .int v1n1), (0, .ref 54)]) dX12_undo_52 rfl rfl zc_1 ev1n1 rfl rfl ?_
      refine zJ_goto (tgt := 26) dX12_undo_55 (by decide) ?_
      refine zJ_loc (ls' := [(0, .ref 54), (1, .int v1n1)]) (zll_c rfl (zll_c rfl zll_n)) ?_
      exact hrc26 _ _ h
  · replace h := it_t hc h
    refine zJ_iconst dX12_undo_12 zc_m1 rfl ?_
    obtain ⟨rfl, rfl, rfl, rfl⟩ := so4 h
    exact zJ_iret dX12_undo_13 rfl rfl
set_option maxRecDepth 100000 in
set_option maxHeartbeats 4000000 in
theorem t_X12_wind (l : Launch) (σ : zS) {p1 : Int32} {p2 : Int32} {p3 : Int32} {p4 : Int32} {m_fences : Int32} {m_horses : Int32} {m_plans : Int32} {m_rowMany : Int32} {m_thrown : Int32} {m_read : Int32} {m_length : Int32} {m_top : Int32} {m_at : Int32} {m_wrong : Int32} {m_ruleSize : Int32} {m_isAsked : Int32} {m_askedHorse : Int32} {m_askedFence : Int32} {m_askedLetter : Int32} {m_askedHeight : Int32} {m_kind : (Nat → Int32)} {m_height : (Nat → Int32)} {m_feet : (Nat → Int32)} {m_stride : (Nat → Int32)} {m_scope : (Nat → Int32)} {m_care : (Nat → Int32)} {m_plan : (Nat → Int32)} {m_rule : (Nat → Int32)} {m_row : (Nat → Int64)} {m_falling : (Nat → Int64)} {r : Int32} {w_m_rowMany : Int32} {w_m_thrown : Int32} {w_m_read : Int32} {w_m_length : Int32} {w_m_top : Int32} {w_m_at : Int32} {w_m_wrong : Int32} {w_m_isAsked : Int32} {w_m_askedHorse : Int32} {w_m_askedFence : Int32} {w_m_askedLetter : Int32} {w_m_askedHeight : Int32} {w_m_row : (Nat → Int64)} {w_m_falling : (Nat → Int64)} (h : f_X12_wind p1 p2 p3 p4 m_fences m_horses m_plans m_rowMany m_thrown m_read m_length m_top m_at m_wrong m_ruleSize m_isAsked m_askedHorse m_askedFence m_askedLetter m_askedHeight m_kind m_height m_feet m_stride m_scope m_care m_plan m_rule m_row m_falling = some (r, w_m_rowMany, w_m_thrown, w_m_read, w_m_length, w_m_top, w_m_at, w_m_wrong, w_m_isAsked, w_m_askedHorse, w_m_askedFence, w_m_askedLetter, w_m_askedHeight, w_m_row, w_m_falling)) : zMt l zW 208 mX12_wind σ ([(3457, m_fences), (3462, m_horses), (3466, m_plans), (3472, m_rowMany), (3473, m_thrown), (3474, m_read), (3475, m_length), (3476, m_top), (3477, m_at), (3478, m_wrong), (3483, m_ruleSize), (3484, m_isAsked), (3485, m_askedHorse), (3486, m_askedFence), (3487, m_askedLetter), (3488, m_askedHeight)], [(56, m_kind), (57, m_height), (58, m_feet), (59, m_stride), (60, m_scope), (61, m_care), (62, m_plan), (69, m_rule)], [(65, m_row), (84, m_falling)]) [.ref 54, .int p1, .int p2, .int p3, .int p4] (some (.int r)) ([(3457, m_fences), (3462, m_horses), (3466, m_plans), (3472, w_m_rowMany), (3473, w_m_thrown), (3474, w_m_read), (3475, w_m_length), (3476, w_m_top), (3477, w_m_at), (3478, w_m_wrong), (3483, m_ruleSize), (3484, w_m_isAsked), (3485, w_m_askedHorse), (3486, w_m_askedFence), (3487, w_m_askedLetter), (3488, w_m_askedHeight)], [(56, m_kind), (57, m_height), (58, m_feet), (59, m_stride), (60, m_scope), (61, m_care), (62, m_plan), (69, m_rule)], [(65, w_m_row), (84, w_m_falling)]) := by
  refine zMt_of (ls := [(0, .ref 54), (1, .int p1), (2, .int p2), (3, .int p3), (4, .int p4)]) (by decide) rfl (fun _ => Nat.le_of_ble_eq_true rfl) rfl ?_
  unfold f_X12_wind at h
  refine zJ_aload_n dX12_wind_0 rfl rfl ?_
  refine zJ_iconst dX12_wind_1 zc_0 rfl ?_
  refine zK_puti (mi := mX12_wind) (la' := [(3457, m_fences), (3462, m_horses), (3466, m_plans), (3472, m_rowMany), (3473, (0 : Int32)), (3474, m_read), (3475, m_length), (3476, m_top), (3477, m_at), (3478, m_wrong), (3483, m_ruleSize), (3484, m_isAsked), (3485, m_askedHorse), (3486, m_askedFence), (3487, m_askedLetter), (3488, m_askedHeight)]) zW_ok dX12_wind_2 F_X12_113 P_12_17 zW_54 rfl rfl rfl ?_
  refine zJ_aload_n dX12_wind_5 rfl rfl ?_
  refine zJ_iload_n dX12_wind_6 rfl rfl ?_
  obtain ⟨rn1, hcl, h⟩ := bd1_some h
  refine zJ_callV2 (σ := σ) (L := ([(3457, m_fences), (3462, m_horses), (3466, m_plans), (3472, m_rowMany), (3473, (0 : Int32)), (3474, m_read), (3475, m_length), (3476, m_top), (3477, m_at), (3478, m_wrong), (3483, m_ruleSize), (3484, m_isAsked), (3485, m_askedHorse), (3486, m_askedFence), (3487, m_askedLetter), (3488, m_askedHeight)], [(56, m_kind), (57, m_height), (58, m_feet), (59, m_stride), (60, m_scope), (61, m_care), (62, m_plan), (69, m_rule)], [(65, m_row), (84, m_falling)])) (mi := mX12_wind) (yi := mX12_isFence) (as := [.int p1]) (st := []) (L2 := ([(3457, m_fences), (3462, m_horses), (3466, m_plans), (3472, m_rowMany), (3473, (0 : Int32)), (3474, m_read), (3475, m_length), (3476, m_top), (3477, m_at), (3478, m_wrong), (3483, m_ruleSize), (3484, m_isAsked), (3485, m_askedHorse), (3486, m_askedFence), (3487, m_askedLetter), (3488, m_askedHeight)], [(56, m_kind), (57, m_height), (58, m_feet), (59, m_stride), (60, m_scope), (61, m_care), (62, m_plan), (69, m_rule)], [(65, m_row), (84, m_falling)])) dX12_wind_7 ML_X12_250 Yv_X12_isFence rfl zW_54 rfl rfl (t_X12_isFence l _ hcl) (zsub_i (zle_c rfl zle_n) zle_n zle_n) (zjok_i rfl rfl (zle_c rfl (zle_c rfl (zle_c rfl (zle_c rfl (zle_c rfl (zle_c rfl (zle_c rfl (zle_c rfl (zle_c rfl (zle_c rfl (zle_c rfl (zle_c rfl (zle_c rfl (zle_c rfl (zle_c rfl (zle_c rfl zle_n)))))))))))))))) rfl rfl (zle_c rfl (zle_c rfl (zle_c rfl (zle_c rfl (zle_c rfl (zle_c rfl (zle_c rfl (zle_c rfl zle_n)))))))) rfl rfl (zle_c rfl (zle_c rfl zle_n))) (Nat.le_of_ble_eq_true rfl) (Nat.le_of_ble_eq_true rfl) rfl rfl ?_
  refine zJ_if_eq (tgt := 58) dX12_wind_10 (by decide) rfl (fun hc => ?_) (fun hc => ?_)
  · replace h := it_t hc h
    refine zJ_iconst dX12_wind_58 zc_m1 rfl ?_
    obtain ⟨rfl, rfl, rfl, rfl, rfl, rfl, rfl, rfl, rfl, rfl, rfl, rfl, rfl, rfl, rfl⟩ := so15 h
    exact zJ_iret dX12_wind_59 rfl rfl
  · replace h := it_f hc h
    refine zJ_iload_n dX12_wind_13 rfl rfl ?_
    refine zJ_iconst dX12_wind_14 zc_0 rfl ?_
    refine zJ_bipush dX12_wind_15 zb_6 rfl ?_
    obtain ⟨rn2, hcl, h⟩ := bd1_some h
    refine zJ_callS2 (σ := σ) (L := ([(3457, m_fences), (3462, m_horses), (3466, m_plans), (3472, m_rowMany), (3473, (0 : Int32)), (3474, m_read), (3475, m_length), (3476, m_top), (3477, m_at), (3478, m_wrong), (3483, m_ruleSize), (3484, m_isAsked), (3485, m_askedHorse), (3486, m_askedFence), (3487, m_askedLetter), (3488, m_askedHeight)], [(56, m_kind), (57, m_height), (58, m_feet), (59, m_stride), (60, m_scope), (61, m_care), (62, m_plan), (69, m_rule)], [(65, m_row), (84, m_falling)])) (mi := mX12_wind) (yi := mX12_in) (as := [.int p3, .int (0 : Int32), .int (6 : Int32)]) (st := []) (L2 := ([(3457, m_fences), (3462, m_horses), (3466, m_plans), (3472, m_rowMany), (3473, (0 : Int32)), (3474, m_read), (3475, m_length), (3476, m_top), (3477, m_at), (3478, m_wrong), (3483, m_ruleSize), (3484, m_isAsked), (3485, m_askedHorse), (3486, m_askedFence), (3487, m_askedLetter), (3488, m_askedHeight)], [(56, m_kind), (57, m_height), (58, m_feet), (59, m_stride), (60, m_scope), (61, m_care), (62, m_plan), (69, m_rule)], [(65, m_row), (84, m_falling)])) dX12_wind_17 ML_X12_122 Ys_X12_in rfl (t_X12_in l _ hcl) (zsub_i zle_n zle_n zle_n) (zjok_i rfl rfl (zle_c rfl (zle_c rfl (zle_c rfl (zle_c rfl (zle_c rfl (zle_c rfl (zle_c rfl (zle_c rfl (zle_c rfl (zle_c rfl (zle_c rfl (zle_c rfl (zle_c rfl (zle_c rfl (zle_c rfl (zle_c rfl zle_n)))))))))))))))) rfl rfl (zle_c rfl (zle_c rfl (zle_c rfl (zle_c rfl (zle_c rfl (zle_c rfl (zle_c rfl (zle_c rfl zle_n)))))))) rfl rfl (zle_c rfl (zle_c rfl zle_n))) (Nat.le_of_ble_eq_true rfl) (Nat.le_of_ble_eq_true rfl) rfl rfl ?_
    refine zJ_if_eq (tgt := 58) dX12_wind_20 (by decide) rfl (fun hc => ?_) (fun hc => ?_)
    · replace h := it_t hc h
      refine zJ_iconst dX12_wind_58 zc_m1 rfl ?_
      obtain ⟨rfl, rfl, rfl, rfl, rfl, rfl, rfl, rfl, rfl, rfl, rfl, rfl, rfl, rfl, rfl⟩ := so15 h
      exact zJ_iret dX12_wind_59 rfl rfl
    · replace h := it_f hc h
      refine zJ_iload_n dX12_wind_23 rfl rfl ?_
      refine zJ_iconst dX12_wind_24 zc_0 rfl ?_
      refine zJ_iload_n dX12_wind_25 rfl rfl ?_
      obtain ⟨rn3, hcl, h⟩ := bd1_some h
      refine zJ_callS2 (σ := σ) (L := ([(3457, m_fences), (3462, m_horses), (3466, m_plans), (3472, m_rowMany), (3473, (0 : Int32)), (3474, m_read), (3475, m_length), (3476, m_top), (3477, m_at), (3478, m_wrong), (3483, m_ruleSize), (3484, m_isAsked), (3485, m_askedHorse), (3486, m_askedFence), (3487, m_askedLetter), (3488, m_askedHeight)], [(56, m_kind), (57, m_height), (58, m_feet), (59, m_stride), (60, m_scope), (61, m_care), (62, m_plan), (69, m_rule)], [(65, m_row), (84, m_falling)])) (mi := mX12_wind) (yi := mX12_in) (as := [.int p2, .int (0 : Int32), .int p3]) (st := []) (L2 := ([(3457, m_fences), (3462, m_horses), (3466, m_plans), (3472, m_rowMany), (3473, (0 : Int32)), (3474, m_read), (3475, m_length), (3476, m_top), (3477, m_at), (3478, m_wrong), (3483, m_ruleSize), (3484, m_isAsked), (3485, m_askedHorse), (3486, m_askedFence), (3487, m_askedLetter), (3488, m_askedHeight)], [(56, m_kind), (57, m_height), (58, m_feet), (59, m_stride), (60, m_scope), (61, m_care), (62, m_plan), (69, m_rule)], [(65, m_row), (84, m_falling)])) dX12_wind_26 ML_X12_122 Ys_X12_in rfl (t_X12_in l _ hcl) (zsub_i zle_n zle_n zle_n) (zjok_i rfl rfl (zle_c rfl (zle_c rfl (zle_c rfl (zle_c rfl (zle_c rfl (zle_c rfl (zle_c rfl (zle_c rfl (zle_c rfl (zle_c rfl (zle_c rfl (zle_c rfl (zle_c rfl (zle_c rfl (zle_c rfl (zle_c rfl zle_n)))))))))))))))) rfl rfl (zle_c rfl (zle_c rfl (zle_c rfl (zle_c rfl (zle_c rfl (zle_c rfl (zle_c rfl (zle_c rfl zle_n)))))))) rfl rfl (zle_c rfl (zle_c rfl zle_n))) (Nat.le_of_ble_eq_true rfl) (Nat.le_of_ble_eq_true rfl) rfl rfl ?_
      refine zJ_if_eq (tgt := 58) dX12_wind_29 (by decide) rfl (fun hc => ?_) (fun hc => ?_)
      · replace h := it_t hc h
        refine zJ_iconst dX12_wind_58 zc_m1 rfl ?_
        obtain ⟨rfl, rfl, rfl, rfl, rfl, rfl, rfl, rfl, rfl, rfl, rfl, rfl, rfl, rfl, rfl⟩ := so15 h
        exact zJ_iret dX12_wind_59 rfl rfl
      · replace h := it_f hc h
        refine zJ_iload dX12_wind_32 rfl rfl ?_
        refine zJ_iconst dX12_wind_34 zc_0 rfl ?_
        refine zJ_bipush dX12_wind_35 zb_100 rfl ?_
        obtain ⟨rn4, hcl, h⟩ := bd1_some h
        refine zJ_callS2 (σ := σ) (L := ([(3457, m_fences), (3462, m_horses), (3466, m_plans), (3472, m_rowMany), (3473, (0 : Int32)), (3474, m_read), (3475, m_length), (3476, m_top), (3477, m_at), (3478, m_wrong), (3483, m_ruleSize), (3484, m_isAsked), (3485, m_askedHorse), (3486, m_askedFence), (3487, m_askedLetter), (3488, m_askedHeight)], [(56, m_kind), (57, m_height), (58, m_feet), (59, m_stride), (60, m_scope), (61, m_care), (62, m_plan), (69, m_rule)], [(65, m_row), (84, m_falling)])) (mi := mX12_wind) (yi := mX12_in) (as := [.int p4, .int (0 : Int32), .int (100 : Int32)]) (st := []) (L2 := ([(3457, m_fences), (3462, m_horses), (3466, m_plans), (3472, m_rowMany), (3473, (0 : Int32)), (3474, m_read), (3475, m_length), (3476, m_top), (3477, m_at), (3478, m_wrong), (3483, m_ruleSize), (3484, m_isAsked), (3485, m_askedHorse), (3486, m_askedFence), (3487, m_askedLetter), (3488, m_askedHeight)], [(56, m_kind), (57, m_height), (58, m_feet), (59, m_stride), (60, m_scope), (61, m_care), (62, m_plan), (69, m_rule)], [(65, m_row), (84, m_falling)])) dX12_wind_37 ML_X12_122 Ys_X12_in rfl (t_X12_in l _ hcl) (zsub_i zle_n zle_n zle_n) (zjok_i rfl rfl (zle_c rfl (zle_c rfl (zle_c rfl (zle_c rfl (zle_c rfl (zle_c rfl (zle_c rfl (zle_c rfl (zle_c rfl (zle_c rfl (zle_c rfl (zle_c rfl (zle_c rfl (zle_c rfl (zle_c rfl (zle_c rfl zle_n)))))))))))))))) rfl rfl (zle_c rfl (zle_c rfl (zle_c rfl (zle_c rfl (zle_c rfl (zle_c rfl (zle_c rfl (zle_c rfl zle_n)))))))) rfl rfl (zle_c rfl (zle_c rfl zle_n))) (Nat.le_of_ble_eq_true rfl) (Nat.le_of_ble_eq_true rfl) rfl rfl ?_
        refine zJ_if_eq (tgt := 58) dX12_wind_40 (by decide) rfl (fun hc => ?_) (fun hc => ?_)
        · replace h := it_t hc h
          refine zJ_iconst dX12_wind_58 zc_m1 rfl ?_
          obtain ⟨rfl, rfl, rfl, rfl, rfl, rfl, rfl, rfl, rfl, rfl, rfl, rfl, rfl, rfl, rfl⟩ := so15 h
          exact zJ_iret dX12_wind_59 rfl rfl
        · replace h := it_f hc h
          refine zJ_iload_n dX12_wind_43 rfl rfl ?_
          refine zJ_aload_n dX12_wind_44 rfl rfl ?_
          refine zJ_geti (mi := mX12_wind) (x := m_horses) dX12_wind_45 F_X12_126 zW_54 rfl rfl rfl ?_
          refine zJ_icmp_gt (tgt := 58) dX12_wind_48 (by decide) rfl (fun hc => ?_) (fun hc => ?_)
          · replace h := it_t hc h
            refine zJ_iconst dX12_wind_58 zc_m1 rfl ?_
            obtain ⟨rfl, rfl, rfl, rfl, rfl, rfl, rfl, rfl, rfl, rfl, rfl, rfl, rfl, rfl, rfl⟩ := so15 h
            exact zJ_iret dX12_wind_59 rfl rfl
          · replace h := it_f hc h
            refine zJ_aload_n dX12_wind_51 rfl rfl ?_
            refine zJ_geti (mi := mX12_wind) (x := m_plans) dX12_wind_52 F_X12_129 zW_54 rfl rfl rfl ?_
            refine zJ_if_ne (tgt := 60) dX12_wind_55 (by decide) rfl (fun hc => ?_) (fun hc => ?_)
            · replace h := it_f hc h
              refine zJ_aload_n dX12_wind_60 rfl rfl ?_
              refine zJ_iload_n dX12_wind_61 rfl rfl ?_
              refine zJ_iload_n dX12_wind_62 rfl rfl ?_
              refine zJ_iload_n dX12_wind_63 rfl rfl ?_
              refine zJ_iconst dX12_wind_64 zc_0 rfl ?_
              obtain ⟨rn5, m_readn6, m_lengthn7, m_topn8, m_atn9, m_wrongn10, m_isAskedn11, m_askedHorsen12, m_askedFencen13, m_askedLettern14, m_askedHeightn15, m_fallingn16, hcl, h⟩ := bd12_some h
              refine zJ_callV2 (σ := σ) (L := ([(3457, m_fences), (3462, m_horses), (3466, m_plans), (3472, m_rowMany), (3473, (0 : Int32)), (3474, m_read), (3475, m_length), (3476, m_top), (3477, m_at), (3478, m_wrong), (3483, m_ruleSize), (3484, m_isAsked), (3485, m_askedHorse), (3486, m_askedFence), (3487, m_askedLetter), (3488, m_askedHeight)], [(56, m_kind), (57, m_height), (58, m_feet), (59, m_stride), (60, m_scope), (61, m_care), (62, m_plan), (69, m_rule)], [(65, m_row), (84, m_falling)])) (mi := mX12_wind) (yi := mX12_justFall) (as := [.int p1, .int p2, .int p3, .int (0 : Int32)]) (st := []) (L2 := ([(3457, m_fences), (3462, m_horses), (3466, m_plans), (3472, m_rowMany), (3473, (0 : Int32)), (3474, m_readn6), (3475, m_lengthn7), (3476, m_topn8), (3477, m_atn9), (3478, m_wrongn10), (3483, m_ruleSize), (3484, m_isAskedn11), (3485, m_askedHorsen12), (3486, m_askedFencen13), (3487, m_askedLettern14), (3488, m_askedHeightn15)], [(56, m_kind), (57, m_height), (58, m_feet), (59, m_stride), (60, m_scope), (61, m_care), (62, m_plan), (69, m_rule)], [(65, m_row), (84, m_fallingn16)])) dX12_wind_65 ML_X12_445 Yv_X12_justFall rfl zW_54 rfl rfl (t_X12_justFall l _ hcl) (zsub_i (zle_c rfl (zle_c rfl (zle_c rfl (zle_c rfl (zle_c rfl (zle_c rfl (zle_c rfl (zle_c rfl (zle_c rfl (zle_c rfl (zle_c rfl zle_n))))))))))) (zle_c rfl (zle_c rfl (zle_c rfl (zle_c rfl (zle_c rfl (zle_c rfl (zle_c rfl (zle_c rfl zle_n)))))))) (zle_c rfl zle_n)) (zjok_i rfl rfl (zle_c rfl (zle_c rfl (zle_c rfl (zle_c rfl (zle_c rfl (zle_c rfl (zle_c rfl (zle_c rfl (zle_c rfl (zle_c rfl (zle_c rfl (zle_c rfl (zle_c rfl (zle_c rfl (zle_c rfl (zle_c rfl zle_n)))))))))))))))) rfl rfl (zle_c rfl (zle_c rfl (zle_c rfl (zle_c rfl (zle_c rfl (zle_c rfl (zle_c rfl (zle_c rfl zle_n)))))))) rfl rfl (zle_c rfl (zle_c rfl zle_n))) (Nat.le_of_ble_eq_true rfl) (Nat.le_of_ble_eq_true rfl) rfl rfl ?_
              refine zJ_lstore (ls' := [(5, .long rn5), (0, .ref 54), (1, .int p1), (2, .int p2), (3, .int p3), (4, .int p4)]) dX12_wind_68 rfl rfl rfl ?_
              refine zJ_aload_n dX12_wind_70 rfl rfl ?_
              refine zJ_iload_n dX12_wind_71 rfl rfl ?_
              refine zJ_iload_n dX12_wind_72 rfl rfl ?_
              refine zJ_iload_n dX12_wind_73 rfl rfl ?_
              refine zJ_iload dX12_wind_74 rfl rfl ?_
              obtain ⟨rn17, m_readn18, m_lengthn19, m_topn20, m_atn21, m_wrongn22, m_isAskedn23, m_askedHorsen24, m_askedFencen25, m_askedLettern26, m_askedHeightn27, m_fallingn28, hcl, h⟩ := bd12_some h
              refine zJ_callV2 (σ := σ) (L := ([(3457, m_fences), (3462, m_horses), (3466, m_plans), (3472, m_rowMany), (3473, (0 : Int32)), (3474, m_readn6), (3475, m_lengthn7), (3476, m_topn8), (3477, m_atn9), (3478, m_wrongn10), (3483, m_ruleSize), (3484, m_isAskedn11), (3485, m_askedHorsen12), (3486, m_askedFencen13), (3487, m_askedLettern14), (3488, m_askedHeightn15)], [(56, m_kind), (57, m_height), (58, m_feet), (59, m_stride), (60, m_scope), (61, m_care), (62, m_plan), (69, m_rule)], [(65, m_row), (84, m_fallingn16)])) (mi := mX12_wind) (yi := mX12_justFall) (as := [.int p1, .int p2, .int p3, .int p4]) (st := []) (L2 := ([(3457, m_fences), (3462, m_horses), (3466, m_plans), (3472, m_rowMany), (3473, (0 : Int32)), (3474, m_readn18), (3475, m_lengthn19), (3476, m_topn20), (3477, m_atn21), (3478, m_wrongn22), (3483, m_ruleSize), (3484, m_isAskedn23), (3485, m_askedHorsen24), (3486, m_askedFencen25), (3487, m_askedLettern26), (3488, m_askedHeightn27)], [(56, m_kind), (57, m_height), (58, m_feet), (59, m_stride), (60, m_scope), (61, m_care), (62, m_plan), (69, m_rule)], [(65, m_row), (84, m_fallingn28)])) dX12_wind_76 ML_X12_445 Yv_X12_justFall rfl zW_54 rfl rfl (t_X12_justFall l _ hcl) (zsub_i (zle_c rfl (zle_c rfl (zle_c rfl (zle_c rfl (zle_c rfl (zle_c rfl (zle_c rfl (zle_c rfl (zle_c rfl (zle_c rfl (zle_c rfl zle_n))))))))))) (zle_c rfl (zle_c rfl (zle_c rfl (zle_c rfl (zle_c rfl (zle_c rfl (zle_c rfl (zle_c rfl zle_n)))))))) (zle_c rfl zle_n)) (zjok_i rfl rfl (zle_c rfl (zle_c rfl (zle_c rfl (zle_c rfl (zle_c rfl (zle_c rfl (zle_c rfl (zle_c rfl (zle_c rfl (zle_c rfl (zle_c rfl (zle_c rfl (zle_c rfl (zle_c rfl (zle_c rfl (zle_c rfl zle_n)))))))))))))))) rfl rfl (zle_c rfl (zle_c rfl (zle_c rfl (zle_c rfl (zle_c rfl (zle_c rfl (zle_c rfl (zle_c rfl zle_n)))))))) rfl rfl (zle_c rfl (zle_c rfl zle_n))) (Nat.le_of_ble_eq_true rfl) (Nat.le_of_ble_eq_true rfl) rfl rfl ?_
              refine zJ_lstore (ls' := [(7, .long rn17), (5, .long rn5), (0, .ref 54), (1, .int p1), (2, .int p2), (3, .int p3), (4, .int p4)]) dX12_wind_79 rfl rfl rfl ?_
              refine zJ_aload_n dX12_wind_81 rfl rfl ?_
              refine zJ_iconst dX12_wind_82 zc_0 rfl ?_
              refine zK_puti (mi := mX12_wind) (la' := [(3457, m_fences), (3462, m_horses), (3466, m_plans), (3472, (0 : Int32)), (3473, (0 : Int32)), (3474, m_readn18), (3475, m_lengthn19), (3476, m_topn20), (3477, m_atn21), (3478, m_wrongn22), (3483, m_ruleSize), (3484, m_isAskedn23), (3485, m_askedHorsen24), (3486, m_askedFencen25), (3487, m_askedLettern26), (3488, m_askedHeightn27)]) zW_ok dX12_wind_83 F_X12_116 P_12_16 zW_54 rfl rfl rfl ?_
              refine zJ_aload_n dX12_wind_86 rfl rfl ?_
              refine zJ_lload dX12_wind_87 rfl rfl ?_
              refine zJ_ldc2_w (v := 100) dX12_wind_89 C_X12_449 rfl ?_
              refine zJ_iload_n dX12_wind_92 rfl rfl ?_
              obtain ⟨rn29, hcl, h⟩ := bd1_some h
              refine zJ_callS2 (σ := σ) (L := ([(3457, m_fences), (3462, m_horses), (3466, m_plans), (3472, (0 : Int32)), (3473, (0 : Int32)), (3474, m_readn18), (3475, m_lengthn19), (3476, m_topn20), (3477, m_atn21), (3478, m_wrongn22), (3483, m_ruleSize), (3484, m_isAskedn23), (3485, m_askedHorsen24), (3486, m_askedFencen25), (3487, m_askedLettern26), (3488, m_askedHeightn27)], [(56, m_kind), (57, m_height), (58, m_feet), (59, m_stride), (60, m_scope), (61, m_care), (62, m_plan), (69, m_rule)], [(65, m_row), (84, m_fallingn28)])) (mi := mX12_wind) (yi := mX12_power) (as := [.long (100 : Int64), .int p3]) (st := [.long rn5, .ref 54]) (L2 := ([(3457, m_fences), (3462, m_horses), (3466, m_plans), (3472, (0 : Int32)), (3473, (0 : Int32)), (3474, m_readn18), (3475, m_lengthn19), (3476, m_topn20), (3477, m_atn21), (3478, m_wrongn22), (3483, m_ruleSize), (3484, m_isAskedn23), (3485, m_askedHorsen24), (3486, m_askedFencen25), (3487, m_askedLettern26), (3488, m_askedHeightn27)], [(56, m_kind), (57, m_height), (58, m_feet), (59, m_stride), (60, m_scope), (61, m_care), (62, m_plan), (69, m_rule)], [(65, m_row), (84, m_fallingn28)])) dX12_wind_93 ML_X12_410 Ys_X12_power rfl (t_X12_power l _ hcl) (zsub_i zle_n zle_n zle_n) (zjok_i rfl rfl (zle_c rfl (zle_c rfl (zle_c rfl (zle_c rfl (zle_c rfl (zle_c rfl (zle_c rfl (zle_c rfl (zle_c rfl (zle_c rfl (zle_c rfl (zle_c rfl (zle_c rfl (zle_c rfl (zle_c rfl (zle_c rfl zle_n)))))))))))))))) rfl rfl (zle_c rfl (zle_c rfl (zle_c rfl (zle_c rfl (zle_c rfl (zle_c rfl (zle_c rfl (zle_c rfl zle_n)))))))) rfl rfl (zle_c rfl (zle_c rfl zle_n))) (Nat.le_of_ble_eq_true rfl) (Nat.le_of_ble_eq_true rfl) rfl rfl ?_
              obtain ⟨m_rowManyn30, m_rown31, hcl, h⟩ := bd2_some h
              refine zJ_callV2 (σ := σ) (L := ([(3457, m_fences), (3462, m_horses), (3466, m_plans), (3472, (0 : Int32)), (3473, (0 : Int32)), (3474, m_readn18), (3475, m_lengthn19), (3476, m_topn20), (3477, m_atn21), (3478, m_wrongn22), (3483, m_ruleSize), (3484, m_isAskedn23), (3485, m_askedHorsen24), (3486, m_askedFencen25), (3487, m_askedLettern26), (3488, m_askedHeightn27)], [(56, m_kind), (57, m_height), (58, m_feet), (59, m_stride), (60, m_scope), (61, m_care), (62, m_plan), (69, m_rule)], [(65, m_row), (84, m_fallingn28)])) (mi := mX12_wind) (yi := mX12_tellPart) (as := [.long rn5, .long rn29]) (st := []) (L2 := ([(3457, m_fences), (3462, m_horses), (3466, m_plans), (3472, m_rowManyn30), (3473, (0 : Int32)), (3474, m_readn18), (3475, m_lengthn19), (3476, m_topn20), (3477, m_atn21), (3478, m_wrongn22), (3483, m_ruleSize), (3484, m_isAskedn23), (3485, m_askedHorsen24), (3486, m_askedFencen25), (3487, m_askedLettern26), (3488, m_askedHeightn27)], [(56, m_kind), (57, m_height), (58, m_feet), (59, m_stride), (60, m_scope), (61, m_care), (62, m_plan), (69, m_rule)], [(65, m_rown31), (84, m_fallingn28)])) dX12_wind_96 ML_X12_414 Yv_X12_tellPart rfl zW_54 rfl rfl (t_X12_tellPart l _ hcl) (zsub_i (zle_c rfl zle_n) zle_n (zle_c rfl zle_n)) (zjok_i rfl rfl (zle_c rfl (zle_c rfl (zle_c rfl (zle_c rfl (zle_c rfl (zle_c rfl (zle_c rfl (zle_c rfl (zle_c rfl (zle_c rfl (zle_c rfl (zle_c rfl (zle_c rfl (zle_c rfl (zle_c rfl (zle_c rfl zle_n)))))))))))))))) rfl rfl (zle_c rfl (zle_c rfl (zle_c rfl (zle_c rfl (zle_c rfl (zle_c rfl (zle_c rfl (zle_c rfl zle_n)))))))) rfl rfl (zle_c rfl (zle_c rfl zle_n))) (Nat.le_of_ble_eq_true rfl) (Nat.le_of_ble_eq_true rfl) rfl rfl ?_
              refine zJ_aload_n dX12_wind_99 rfl rfl ?_
              refine zJ_lload dX12_wind_100 rfl rfl ?_
              refine zJ_ldc2_w (v := 100) dX12_wind_102 C_X12_449 rfl ?_
              refine zJ_iload_n dX12_wind_105 rfl rfl ?_
              obtain ⟨rn32, hcl, h⟩ := bd1_some h
              refine zJ_callS2 (σ := σ) (L := ([(3457, m_fences), (3462, m_horses), (3466, m_plans), (3472, m_rowManyn30), (3473, (0 : Int32)), (3474, m_readn18), (3475, m_lengthn19), (3476, m_topn20), (3477, m_atn21), (3478, m_wrongn22), (3483, m_ruleSize), (3484, m_isAskedn23), (3485, m_askedHorsen24), (3486, m_askedFencen25), (3487, m_askedLettern26), (3488, m_askedHeightn27)], [(56, m_kind), (57, m_height), (58, m_feet), (59, m_stride), (60, m_scope), (61, m_care), (62, m_plan), (69, m_rule)], [(65, m_rown31), (84, m_fallingn28)])) (mi := mX12_wind) (yi := mX12_power) (as := [.long (100 : Int64), .int p3]) (st := [.long rn17, .ref 54]) (L2 := ([(3457, m_fences), (3462, m_horses), (3466, m_plans), (3472, m_rowManyn30), (3473, (0 : Int32)), (3474, m_readn18), (3475, m_lengthn19), (3476, m_topn20), (3477, m_atn21), (3478, m_wrongn22), (3483, m_ruleSize), (3484, m_isAskedn23), (3485, m_askedHorsen24), (3486, m_askedFencen25), (3487, m_askedLettern26), (3488, m_askedHeightn27)], [(56, m_kind), (57, m_height), (58, m_feet), (59, m_stride), (60, m_scope), (61, m_care), (62, m_plan), (69, m_rule)], [(65, m_rown31), (84, m_fallingn28)])) dX12_wind_106 ML_X12_410 Ys_X12_power rfl (t_X12_power l _ hcl) (zsub_i zle_n zle_n zle_n) (zjok_i rfl rfl (zle_c rfl (zle_c rfl (zle_c rfl (zle_c rfl (zle_c rfl (zle_c rfl (zle_c rfl (zle_c rfl (zle_c rfl (zle_c rfl (zle_c rfl (zle_c rfl (zle_c rfl (zle_c rfl (zle_c rfl (zle_c rfl zle_n)))))))))))))))) rfl rfl (zle_c rfl (zle_c rfl (zle_c rfl (zle_c rfl (zle_c rfl (zle_c rfl (zle_c rfl (zle_c rfl zle_n)))))))) rfl rfl (zle_c rfl (zle_c rfl zle_n))) (Nat.le_of_ble_eq_true rfl) (Nat.le_of_ble_eq_true rfl) rfl rfl ?_
              obtain ⟨m_rowManyn33, m_rown34, hcl, h⟩ := bd2_some h
              refine zJ_callV2 (σ := σ) (L := ([(3457, m_fences), (3462, m_horses), (3466, m_plans), (3472, m_rowManyn30), (3473, (0 : Int32)), (3474, m_readn18), (3475, m_lengthn19), (3476, m_topn20), (3477, m_atn21), (3478, m_wrongn22), (3483, m_ruleSize), (3484, m_isAskedn23), (3485, m_askedHorsen24), (3486, m_askedFencen25), (3487, m_askedLettern26), (3488, m_askedHeightn27)], [(56, m_kind), (57, m_height), (58, m_feet), (59, m_stride), (60, m_scope), (61, m_care), (62, m_plan), (69, m_rule)], [(65, m_rown31), (84, m_fallingn28)])) (mi := mX12_wind) (yi := mX12_tellPart) (as := [.long rn17, .long rn32]) (st := []) (L2 := ([(3457, m_fences), (3462, m_horses), (3466, m_plans), (3472, m_rowManyn33), (3473, (0 : Int32)), (3474, m_readn18), (3475, m_lengthn19), (3476, m_topn20), (3477, m_atn21), (3478, m_wrongn22), (3483, m_ruleSize), (3484, m_isAskedn23), (3485, m_askedHorsen24), (3486, m_askedFencen25), (3487, m_askedLettern26), (3488, m_askedHeightn27)], [(56, m_kind), (57, m_height), (58, m_feet), (59, m_stride), (60, m_scope), (61, m_care), (62, m_plan), (69, m_rule)], [(65, m_rown34), (84, m_fallingn28)])) dX12_wind_109 ML_X12_414 Yv_X12_tellPart rfl zW_54 rfl rfl (t_X12_tellPart l _ hcl) (zsub_i (zle_c rfl zle_n) zle_n (zle_c rfl zle_n)) (zjok_i rfl rfl (zle_c rfl (zle_c rfl (zle_c rfl (zle_c rfl (zle_c rfl (zle_c rfl (zle_c rfl (zle_c rfl (zle_c rfl (zle_c rfl (zle_c rfl (zle_c rfl (zle_c rfl (zle_c rfl (zle_c rfl (zle_c rfl zle_n)))))))))))))))) rfl rfl (zle_c rfl (zle_c rfl (zle_c rfl (zle_c rfl (zle_c rfl (zle_c rfl (zle_c rfl (zle_c rfl zle_n)))))))) rfl rfl (zle_c rfl (zle_c rfl zle_n))) (Nat.le_of_ble_eq_true rfl) (Nat.le_of_ble_eq_true rfl) rfl rfl ?_
              refine zJ_lload dX12_wind_112 rfl rfl ?_
              refine zJ_lload dX12_wind_114 rfl rfl ?_
              refine zJ_lcmp dX12_wind_116 rfl ?_
              refine zJ_if_le (tgt := 124) dX12_wind_117 (by decide) rfl (fun hc => ?_) (fun hc => ?_)
              · replace h := it_t hc h
                refine zJ_iconst dX12_wind_124 zc_0 rfl ?_
                obtain ⟨rfl, rfl, rfl, rfl, rfl, rfl, rfl, rfl, rfl, rfl, rfl, rfl, rfl, rfl, rfl⟩ := so15 h
                exact zJ_iret dX12_wind_125 rfl rfl
              · replace h := it_f hc h
                refine zJ_iconst dX12_wind_120 zc_1 rfl ?_
                refine zJ_goto (tgt := 125) dX12_wind_121 (by decide) ?_
                obtain ⟨rfl, rfl, rfl, rfl, rfl, rfl, rfl, rfl, rfl, rfl, rfl, rfl, rfl, rfl, rfl⟩ := so15 h
                exact zJ_iret dX12_wind_125 rfl rfl
            · replace h := it_t hc h
              refine zJ_iconst dX12_wind_58 zc_m1 rfl ?_
              obtain ⟨rfl, rfl, rfl, rfl, rfl, rfl, rfl, rfl, rfl, rfl, rfl, rfl, rfl, rfl, rfl⟩ := so15 h
              exact zJ_iret dX12_wind_59 rfl rfl
