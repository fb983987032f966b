set_option maxRecDepth 100000 in
set_option maxHeartbeats 4000000 in
theorem t_X12_strides (l : Launch) (σ : zS) {p1 : Int32} {p2 : Int32} {m_fences : Int32} {m_horses : Int32} {m_rowMany : Int32} {m_thrown : Int32} {m_feet : (Nat → Int32)} {m_stride : (Nat → Int32)} {m_row : (Nat → Int64)} {r : Int32} {w_m_rowMany : Int32} {w_m_thrown : Int32} {w_m_row : (Nat → Int64)} (h : f_X12_strides p1 p2 m_fences m_horses m_rowMany m_thrown m_feet m_stride m_row = some (r, w_m_rowMany, w_m_thrown, w_m_row)) : zMt l zW 2 mX12_strides σ ([(3457, m_fences), (3462, m_horses), (3472, m_rowMany), (3473, m_thrown)], [(58, m_feet), (59, m_stride)], [(65, m_row)]) [.ref 54, .int p1, .int p2] (some (.int r)) ([(3457, m_fences), (3462, m_horses), (3472, w_m_rowMany), (3473, w_m_thrown)], [(58, m_feet), (59, m_stride)], [(65, w_m_row)]) := by
  refine zMt_of (ls := [(0, .ref 54), (1, .int p1), (2, .int p2)]) (by decide) rfl (fun _ => Nat.le_of_ble_eq_true rfl) rfl ?_
  unfold f_X12_strides at h
  refine zJ_aload_n dX12_strides_0 rfl rfl ?_
  refine zJ_iconst dX12_strides_1 zc_0 rfl ?_
  refine zK_puti (mi := mX12_strides) (la' := [(3457, m_fences), (3462, m_horses), (3472, m_rowMany), (3473, (0 : Int32))]) zW_ok dX12_strides_2 F_X12_113 P_12_17 zW_54 rfl rfl rfl ?_
  refine zJ_aload_n dX12_strides_5 rfl rfl ?_
  refine zJ_iload_n dX12_strides_6 rfl rfl ?_
  obtain ⟨rn1, hcl, h⟩ := bd1_some h
  refine zJ_callV (mi := mX12_strides) (yi := mX12_isHorse) (as := [.int p1]) (st := []) (L2 := ([(3457, m_fences), (3462, m_horses), (3472, m_rowMany), (3473, (0 : Int32))], [(58, m_feet), (59, m_stride)], [(65, m_row)])) dX12_strides_7 ML_X12_132 Yv_X12_isHorse rfl zW_54 rfl rfl (t_X12_isHorse l _ hcl) (zsub_i (zle_c rfl zle_n) zle_n zle_n) rfl (Nat.le_of_ble_eq_true rfl) (Nat.le_of_ble_eq_true rfl) rfl rfl ?_
  refine zJ_if_eq (tgt := 21) dX12_strides_10 (by decide) rfl (fun hc => ?_) (fun hc => ?_)
  · replace h := it_t hc h
    refine zJ_iconst dX12_strides_21 zc_m1 rfl ?_
    obtain ⟨rfl, rfl, rfl, rfl⟩ := so4 h
    exact zJ_iret dX12_strides_22 rfl rfl
  · replace h := it_f hc h
    refine zJ_aload_n dX12_strides_13 rfl rfl ?_
    refine zJ_iload_n dX12_strides_14 rfl rfl ?_
    obtain ⟨rn2, hcl, h⟩ := bd1_some h
    refine zJ_callV (mi := mX12_strides) (yi := mX12_isFence) (as := [.int p2]) (st := []) (L2 := ([(3457, m_fences), (3462, m_horses), (3472, m_rowMany), (3473, (0 : Int32))], [(58, m_feet), (59, m_stride)], [(65, m_row)])) dX12_strides_15 ML_X12_250 Yv_X12_isFence rfl zW_54 rfl rfl (t_X12_isFence l _ hcl) (zsub_i (zle_c rfl zle_n) zle_n zle_n) rfl (Nat.le_of_ble_eq_true rfl) (Nat.le_of_ble_eq_true rfl) rfl rfl ?_
    refine zJ_if_ne (tgt := 23) dX12_strides_18 (by decide) rfl (fun hc => ?_) (fun hc => ?_)
    · replace h := it_f hc h
      refine zJ_aload_n dX12_strides_23 rfl rfl ?_
      refine zJ_getr (mi := mX12_strides) dX12_strides_24 F_X12_19 zW_54 rfl rfl ?_
      refine zJ_iload_n dX12_strides_27 rfl rfl ?_
      obtain ⟨hg, h⟩ := gd_some h
      refine zJ_iald (mi := mX12_strides) (f := m_feet) dX12_strides_28 zW_58 (ix_in hg) rfl rfl ?_
      refine zJ_aload_n dX12_strides_29 rfl rfl ?_
      refine zJ_getr (mi := mX12_strides) dX12_strides_30 F_X12_26 zW_54 rfl rfl ?_
      refine zJ_iload_n dX12_strides_33 rfl rfl ?_
      obtain ⟨hg, h⟩ := gd_some h
      refine zJ_iald (mi := mX12_strides) (f := m_stride) dX12_strides_34 zW_59 (ix_in hg) rfl rfl ?_
      obtain ⟨hg, h⟩ := gd_some h
      refine zJ_irem dX12_strides_35 (nz_ne hg) rfl ?_
      obtain ⟨v3n3, ev3n3, h⟩ := lt1_some h
      refine zJ_nmi ev3n3 ?_
      refine zJ_istore_n (ls' := [(3, .int v3n3), (0, .ref 54), (1, .int p1), (2, .int p2)]) dX12_strides_36 rfl rfl rfl ?_
      refine zJ_aload_n dX12_strides_37 rfl rfl ?_
      refine zJ_getr (mi := mX12_strides) dX12_strides_38 F_X12_26 zW_54 rfl rfl ?_
      refine zJ_iload_n dX12_strides_41 rfl rfl ?_
      obtain ⟨hg, h⟩ := gd_some h
      refine zJ_iald (mi := mX12_strides) (f := m_stride) dX12_strides_42 zW_59 (ix_in hg) rfl rfl ?_
      refine zJ_iload_n dX12_strides_43 rfl rfl ?_
      refine zJ_isub dX12_strides_44 rfl ?_
      refine zJ_iload_n dX12_strides_45 rfl rfl ?_
      have hj_X12_strides_54 : ∀ (t0_54j : Int32), j_X12_strides_54 p1 p2 m_feet m_stride m_row t0_54j = some (r, w_m_rowMany, w_m_thrown, w_m_row) → zJ l zW 2 mX12_strides σ ([(3457, m_fences), (3462, m_horses), (3472, m_rowMany), (3473, (0 : Int32))], [(58, m_feet), (59, m_stride)], [(65, m_row)]) 54 [(0, .ref 54), (1, .int p1), (2, .int p2)] [.int t0_54j] (some (.int r)) ([(3457, m_fences), (3462, m_horses), (3472, w_m_rowMany), (3473, w_m_thrown)], [(58, m_feet), (59, m_stride)], [(65, w_m_row)]) := by
        intro t0_54j h
        unfold j_X12_strides_54 at h
        refine zJ_istore (ls' := [(4, .int t0_54j), (0, .ref 54), (1, .int p1), (2, .int p2)]) dX12_strides_54 rfl rfl rfl ?_
        refine zJ_aload_n dX12_strides_56 rfl rfl ?_
        refine zJ_iconst dX12_strides_57 zc_0 rfl ?_
        refine zK_puti (mi := mX12_strides) (la' := [(3457, m_fences), (3462, m_horses), (3472, (0 : Int32)), (3473, (0 : Int32))]) zW_ok dX12_strides_58 F_X12_116 P_12_16 zW_54 rfl rfl rfl ?_
        refine zJ_aload_n dX12_strides_61 rfl rfl ?_
        refine zJ_aload_n dX12_strides_62 rfl rfl ?_
        refine zJ_iload_n dX12_strides_63 rfl rfl ?_
        refine zJ_aload_n dX12_strides_64 rfl rfl ?_
        refine zJ_getr (mi := mX12_strides) dX12_strides_65 F_X12_19 zW_54 rfl rfl ?_
        refine zJ_iload_n dX12_strides_68 rfl rfl ?_
        obtain ⟨hg, h⟩ := gd_some h
        refine zJ_iald (mi := mX12_strides) (f := m_feet) dX12_strides_69 zW_58 (ix_in hg) rfl rfl ?_
        obtain ⟨rn4, hcl, h⟩ := bd1_some h
        refine zJ_callV (mi := mX12_strides) (yi := mX12_leanOf) (as := [.int p1, .int (m_feet p2.toNatClampNeg)]) (st := [.ref 54]) (L2 := ([(3457, m_fences), (3462, m_horses), (3472, (0 : Int32)), (3473, (0 : Int32))], [(58, m_feet), (59, m_stride)], [(65, m_row)])) dX12_strides_70 ML_X12_232 Yv_X12_leanOf rfl zW_54 rfl rfl (t_X12_leanOf l _ hcl) (zsub_i zle_n (zle_c rfl zle_n) zle_n) rfl (Nat.le_of_ble_eq_true rfl) (Nat.le_of_ble_eq_true rfl) rfl rfl ?_
        refine zJ_i2l dX12_strides_73 rfl ?_
        obtain ⟨m_rowManyn5, m_rown6, hcl, h⟩ := bd2_some h
        refine zJ_callV (mi := mX12_strides) (yi := mX12_tell) (as := [.long rn4.toInt64]) (st := []) (L2 := ([(3457, m_fences), (3462, m_horses), (3472, m_rowManyn5), (3473, (0 : Int32))], [(58, m_feet), (59, m_stride)], [(65, m_rown6)])) dX12_strides_74 ML_X12_265 Yv_X12_tell rfl zW_54 rfl rfl (t_X12_tell l _ hcl) (zsub_i (zle_c rfl zle_n) zle_n (zle_c rfl zle_n)) rfl (Nat.le_of_ble_eq_true rfl) (Nat.le_of_ble_eq_true rfl) rfl rfl ?_
        refine zJ_aload_n dX12_strides_77 rfl rfl ?_
        refine zJ_iload dX12_strides_78 rfl rfl ?_
        refine zJ_i2l dX12_strides_80 rfl ?_
        obtain ⟨m_rowManyn7, m_rown8, hcl, h⟩ := bd2_some h
        refine zJ_callV (mi := mX12_strides) (yi := mX12_tell) (as := [.long t0_54j.toInt64]) (st := []) (L2 := ([(3457, m_fences), (3462, m_horses), (3472, m_rowManyn7), (3473, (0 : Int32))], [(58, m_feet), (59, m_stride)], [(65, m_rown8)])) dX12_strides_81 ML_X12_265 Yv_X12_tell rfl zW_54 rfl rfl (t_X12_tell l _ hcl) (zsub_i (zle_c rfl zle_n) zle_n (zle_c rfl zle_n)) rfl (Nat.le_of_ble_eq_true rfl) (Nat.le_of_ble_eq_true rfl) rfl rfl ?_
        refine zJ_aload_n dX12_strides_84 rfl rfl ?_
        refine zJ_getr (mi := mX12_strides) dX12_strides_85 F_X12_19 zW_54 rfl rfl ?_
        refine zJ_iload_n dX12_strides_88 rfl rfl ?_
        obtain ⟨hg, h⟩ := gd_some h
        refine zJ_iald (mi := mX12_strides) (f := m_feet) dX12_strides_89 zW_58 (ix_in hg) rfl rfl ?_
        refine zJ_aload_n dX12_strides_90 rfl rfl ?_
        refine zJ_getr (mi := mX12_strides) dX12_strides_91 F_X12_26 zW_54 rfl rfl ?_
        refine zJ_iload_n dX12_strides_94 rfl rfl ?_
        obtain ⟨hg, h⟩ := gd_some h
        refine zJ_iald (mi := mX12_strides) (f := m_stride) dX12_strides_95 zW_59 (ix_in hg) rfl rfl ?_
        obtain ⟨hg, h⟩ := gd_some h
        refine zJ_idiv dX12_strides_96 (nz_ne hg) rfl ?_
        refine zJ_iload dX12_strides_97 rfl rfl ?_
        refine zJ_iadd dX12_strides_99 rfl ?_
        obtain ⟨rfl, rfl, rfl, rfl⟩ := so4 h
        exact zJ_iret dX12_strides_100 rfl rfl
      refine zJ_icmp_ge (tgt := 53) dX12_strides_46 (by decide) rfl (fun hc => ?_) (fun hc => ?_)
      · replace h := it_t hc h
        refine zJ_iconst dX12_strides_53 zc_0 rfl ?_
        refine zJ_loc (ls' := [(0, .ref 54), (1, .int p1), (2, .int p2)]) (zll_c rfl (zll_c rfl (zll_c rfl zll_n))) ?_
        exact hj_X12_strides_54 _ h
      · replace h := it_f hc h
        refine zJ_iconst dX12_strides_49 zc_1 rfl ?_
        refine zJ_goto (tgt := 54) dX12_strides_50 (by decide) ?_
        refine zJ_loc (ls' := [(0, .ref 54), (1, .int p1), (2, .int p2)]) (zll_c rfl (zll_c rfl (zll_c rfl zll_n))) ?_
        exact hj_X12_strides_54 _ h
    · replace h := it_t hc h
      refine zJ_iconst dX12_strides_21 zc_m1 rfl ?_
      obtain ⟨rfl, rfl, rfl, rfl⟩ := so4 h
      exact zJ_iret dX12_strides_22 rfl rfl
set_option maxRecDepth 100000 in
set_option maxHeartbeats 4000000 in
theorem t_X12_sure (l : Launch) (σ : zS) {p1 : Int32} {m_fences : Int32} {m_allowed : Int32} {m_horses : Int32} {m_rowMany : Int32} {m_thrown : Int32} {m_read : Int32} {m_length : Int32} {m_top : Int32} {m_at : Int32} {m_wrong : Int32} {m_ruleSize : Int32} {m_isAsked : Int32} {m_askedHorse : Int32} {m_askedFence : Int32} {m_askedLetter : Int32} {m_askedHeight : Int32} {m_kind : (Nat → Int32)} {m_height : (Nat → Int32)} {m_feet : (Nat → Int32)} {m_stride : (Nat → Int32)} {m_scope : (Nat → Int32)} {m_care : (Nat → Int32)} {m_rule : (Nat → Int32)} {m_left : (Nat → Int32)} {m_spent : (Nat → Int32)} {m_little : (Nat → Int32)} {m_row : (Nat → Int64)} {r : Int32} {w_m_rowMany : Int32} {w_m_thrown : Int32} {w_m_read : Int32} {w_m_length : Int32} {w_m_top : Int32} {w_m_at : Int32} {w_m_wrong : Int32} {w_m_isAsked : Int32} {w_m_askedHorse : Int32} {w_m_askedFence : Int32} {w_m_askedLetter : Int32} {w_m_askedHeight : Int32} {w_m_left : (Nat → Int32)} {w_m_spent : (Nat → Int32)} {w_m_little : (Nat → Int32)} {w_m_row : (Nat → Int64)} (h : f_X12_sure p1 m_fences m_allowed m_horses m_rowMany m_thrown m_read m_length m_top m_at m_wrong m_ruleSize m_isAsked m_askedHorse m_askedFence m_askedLetter m_askedHeight m_kind m_height m_feet m_stride m_scope m_care m_rule m_left m_spent m_little m_row = some (r, w_m_rowMany, w_m_thrown, w_m_read, w_m_length, w_m_top, w_m_at, w_m_wrong, w_m_isAsked, w_m_askedHorse, w_m_askedFence, w_m_askedLetter, w_m_askedHeight, w_m_left, w_m_spent, w_m_little, w_m_row)) : zMt l zW 209 mX12_sure σ ([(3457, m_fences), (3461, m_allowed), (3462, m_horses), (3472, m_rowMany), (3473, m_thrown), (3474, m_read), (3475, m_length), (3476, m_top), (3477, m_at), (3478, m_wrong), (3483, m_ruleSize), (3484, m_isAsked), (3485, m_askedHorse), (3486, m_askedFence), (3487, m_askedLetter), (3488, m_askedHeight)], [(56, m_kind), (57, m_height), (58, m_feet), (59, m_stride), (60, m_scope), (61, m_care), (69, m_rule), (71, m_left), (72, m_spent), (73, m_little)], [(65, m_row)]) [.ref 54, .int p1] (some (.int r)) ([(3457, m_fences), (3461, m_allowed), (3462, m_horses), (3472, w_m_rowMany), (3473, w_m_thrown), (3474, w_m_read), (3475, w_m_length), (3476, w_m_top), (3477, w_m_at), (3478, w_m_wrong), (3483, m_ruleSize), (3484, w_m_isAsked), (3485, w_m_askedHorse), (3486, w_m_askedFence), (3487, w_m_askedLetter), (3488, w_m_askedHeight)], [(56, m_kind), (57, m_height), (58, m_feet), (59, m_stride), (60, m_scope), (61, m_care), (69, m_rule), (71, w_m_left), (72, w_m_spent), (73, w_m_little)], [(65, w_m_row)]) := by
  refine zMt_of (ls := [(0, .ref 54), (1, .int p1)]) (by decide) rfl (fun _ => Nat.le_of_ble_eq_true rfl) rfl ?_
  unfold f_X12_sure at h
  refine zJ_aload_n dX12_sure_0 rfl rfl ?_
  refine zJ_iload_n dX12_sure_1 rfl rfl ?_
  refine zJ_aload_n dX12_sure_2 rfl rfl ?_
  refine zJ_geti (mi := mX12_sure) (x := m_allowed) dX12_sure_3 F_X12_22 zW_54 rfl rfl rfl ?_
  obtain ⟨rn1, m_rowManyn2, m_thrownn3, m_readn4, m_lengthn5, m_topn6, m_atn7, m_wrongn8, m_isAskedn9, m_askedHorsen10, m_askedFencen11, m_askedLettern12, m_askedHeightn13, m_leftn14, m_spentn15, m_littlen16, m_rown17, hcl, h⟩ := bd17_some h
  refine zJ_callV (mi := mX12_sure) (yi := mX12_curve) (as := [.int p1, .int m_allowed]) (st := []) (L2 := ([(3457, m_fences), (3461, m_allowed), (3462, m_horses), (3472, m_rowManyn2), (3473, m_thrownn3), (3474, m_readn4), (3475, m_lengthn5), (3476, m_topn6), (3477, m_atn7), (3478, m_wrongn8), (3483, m_ruleSize), (3484, m_isAskedn9), (3485, m_askedHorsen10), (3486, m_askedFencen11), (3487, m_askedLettern12), (3488, m_askedHeightn13)], [(56, m_kind), (57, m_height), (58, m_feet), (59, m_stride), (60, m_scope), (61, m_care), (69, m_rule), (71, m_leftn14), (72, m_spentn15), (73, m_littlen16)], [(65, m_rown17)])) dX12_sure_6 ML_X12_302 Yv_X12_curve rfl zW_54 rfl rfl (t_X12_curve l _ hcl) (zsub_i (zle_c rfl (zle_c rfl (zle_c rfl (zle_c rfl (zle_c rfl (zle_c rfl (zle_c rfl (zle_c rfl (zle_c rfl (zle_c rfl (zle_c rfl (zle_c rfl (zle_c rfl (zle_c rfl (zle_c rfl zle_n))))))))))))))) (zle_c rfl (zle_c rfl (zle_c rfl (zle_c rfl (zle_c rfl (zle_c rfl (zle_c rfl (zle_c rfl (zle_c rfl (zle_c rfl zle_n)))))))))) (zle_c rfl zle_n)) rfl (Nat.le_of_ble_eq_true rfl) (Nat.le_of_ble_eq_true rfl) rfl rfl ?_
  obtain ⟨rfl, rfl, rfl, rfl, rfl, rfl, rfl, rfl, rfl, rfl, rfl, rfl, rfl, rfl, rfl, rfl, rfl⟩ := so17 h
  exact zJ_iret dX12_sure_9 rfl rfl
set_option maxRecDepth 100000 in
set_option maxHeartbeats 4000000 in
theorem t_X12_tellPlaces_m_now (l : Launch) (σ : zS) {m_rowMany : Int32} {m_now : (Nat → Int32)} {m_row : (Nat → Int64)} {w_m_rowMany : Int32} {w_m_row : (Nat → Int64)} (h : f_X12_tellPlaces_m_now m_rowMany m_now m_row = some (w_m_rowMany, w_m_row)) : zMt l zW 2 mX12_tellPlaces σ ([(3472, m_rowMany)], [(55, m_now)], [(65, m_row)]) [.ref 54, .ref 55] none ([(3472, w_m_rowMany)], [(55, m_now)], [(65, w_m_row)]) := by
  refine zMt_of (ls := [(0, .ref 54), (1, .ref 55)]) (by decide) rfl (fun _ => Nat.le_of_ble_eq_true rfl) rfl ?_
  unfold f_X12_tellPlaces_m_now at h
  refine zJ_iconst dX12_tellPlaces_0 zc_1 rfl ?_
  refine zJ_istore_n (ls' := [(2, .int (1 : Int32)), (0, .ref 54), (1, .ref 55)]) dX12_tellPlaces_1 rfl rfl rfl ?_
  have hk2 : ∀ (m_rowMany_2x : Int32) (m_row_2x : (Nat → Int64)), k_X12_tellPlaces_m_now_2  m_rowMany_2x m_row_2x = some (w_m_rowMany, w_m_row) → zJ l zW 2 mX12_tellPlaces σ ([(3472, m_rowMany_2x)], [(55, m_now)], [(65, m_row_2x)]) 47 [] [] none ([(3472, w_m_rowMany)], [(55, m_now)], [(65, w_m_row)]) := by
    intro m_rowMany_2x m_row_2x h
    unfold k_X12_tellPlaces_m_now_2 at h
    obtain ⟨rfl, rfl⟩ := so2 h
    exact zJ_vret dX12_tellPlaces_47 rfl
  refine zJ_loc (ls' := [(0, .ref 54), (1, .ref 55), (2, .int (1 : Int32))]) (zll_c rfl (zll_c rfl (zll_c rfl zll_n))) ?_
  refine ml3_J (fun (v2_2 : Int32) (m_rowMany_2 : Int32) (m_row_2 : (Nat → Int64)) => zJ l zW 2 mX12_tellPlaces σ ([(3472, m_rowMany_2)], [(55, m_now)], [(65, m_row_2)]) 2 [(0, .ref 54), (1, .ref 55), (2, .int v2_2)] [] none ([(3472, w_m_rowMany)], [(55, m_now)], [(65, w_m_row)])) (fun rc2 hrc2 v2_2 m_rowMany_2 m_row_2 h => ?_) zN _ _ _ h
  unfold s_X12_tellPlaces_m_now_2 at h
  refine zJ_iload_n dX12_tellPlaces_2 rfl rfl ?_
  refine zJ_aload_n dX12_tellPlaces_3 rfl rfl ?_
  refine zJ_bipush dX12_tellPlaces_4 zb_48 rfl ?_
  obtain ⟨hg, h⟩ := gd_some h
  refine zJ_iald (mi := mX12_tellPlaces) (f := m_now) dX12_tellPlaces_6 zW_55 (ix_in hg) rfl rfl ?_
  refine zJ_icmp_gt (tgt := 47) dX12_tellPlaces_7 (by decide) rfl (fun hc => ?_) (fun hc => ?_)
  · replace h := it_t hc h
    refine zJ_loc (ls' := []) zll_n ?_
    exact hk2 _ _ h
  · replace h := it_f hc h
    refine zJ_iconst dX12_tellPlaces_10 zc_0 rfl ?_
    refine zJ_istore_n (ls' := [(3, .int (0 : Int32)), (0, .ref 54), (1, .ref 55), (2, .int v2_2)]) dX12_tellPlaces_11 rfl rfl rfl ?_
    have hk12 : ∀ (m_rowMany_12x : Int32) (m_row_12x : (Nat → Int64)), k_X12_tellPlaces_m_now_12 rc2 v2_2 m_rowMany_12x m_row_12x = some (w_m_rowMany, w_m_row) → zJ l zW 2 mX12_tellPlaces σ ([(3472, m_rowMany_12x)], [(55, m_now)], [(65, m_row_12x)]) 41 [(0, .ref 54), (1, .ref 55), (2, .int v2_2)] [] none ([(3472, w_m_rowMany)], [(55, m_now)], [(65, w_m_row)]) := by
      intro m_rowMany_12x m_row_12x h
      unfold k_X12_tellPlaces_m_now_12 at h
      obtain ⟨v2n1, ev2n1, h⟩ := lt1_some h
      refine zJ_iincN (ls' := [(2, .int v2n1), (0, .ref 54), (1, .ref 55)]) dX12_tellPlaces_41 rfl rfl zc_1 ev2n1 rfl rfl ?_
      refine zJ_goto (tgt := 2) dX12_tellPlaces_44 (by decide) ?_
      refine zJ_loc (ls' := [(0, .ref 54), (1, .ref 55), (2, .int v2n1)]) (zll_c rfl (zll_c rfl (zll_c rfl zll_n))) ?_
      exact hrc2 _ _ _ h
    refine zJ_loc (ls' := [(0, .ref 54), (1, .ref 55), (2, .int v2_2), (3, .int (0 : Int32))]) (zll_c rfl (zll_c rfl (zll_c rfl (zll_c rfl zll_n)))) ?_
    refine ml3_J (fun (v3_12 : Int32) (m_rowMany_12 : Int32) (m_row_12 : (Nat → Int64)) => zJ l zW 2 mX12_tellPlaces σ ([(3472, m_rowMany_12)], [(55, m_now)], [(65, m_row_12)]) 12 [(0, .ref 54), (1, .ref 55), (2, .int v2_2), (3, .int v3_12)] [] none ([(3472, w_m_rowMany)], [(55, m_now)], [(65, w_m_row)])) (fun rc12 hrc12 v3_12 m_rowMany_12 m_row_12 h => ?_) zN _ _ _ h
    unfold s_X12_tellPlaces_m_now_12 at h
    refine zJ_iload_n dX12_tellPlaces_12 rfl rfl ?_
    refine zJ_aload_n dX12_tellPlaces_13 rfl rfl ?_
    refine zJ_bipush dX12_tellPlaces_14 zb_48 rfl ?_
    obtain ⟨hg, h⟩ := gd_some h
    refine zJ_iald (mi := mX12_tellPlaces) (f := m_now) dX12_tellPlaces_16 zW_55 (ix_in hg) rfl rfl ?_
    refine zJ_icmp_ge (tgt := 41) dX12_tellPlaces_17 (by decide) rfl (fun hc => ?_) (fun hc => ?_)
    · replace h := it_t hc h
      refine zJ_loc (ls' := [(0, .ref 54), (1, .ref 55), (2, .int v2_2)]) (zll_c rfl (zll_c rfl (zll_c rfl zll_n))) ?_
      exact hk12 _ _ h
    · replace h := it_f hc h
      refine zJ_aload_n dX12_tellPlaces_20 rfl rfl ?_
      refine zJ_iload_n dX12_tellPlaces_21 rfl rfl ?_
      obtain ⟨rn2, hcl, h⟩ := bd1_some h
      refine zJ_callS (mi := mX12_tellPlaces) (yi := mX12_placeOf) (as := [.ref 55, .int v3_12]) (st := []) (L2 := ([(3472, m_rowMany_12)], [(55, m_now)], [(65, m_row_12)])) dX12_tellPlaces_22 ML_X12_358 Ys_X12_placeOf rfl (t_X12_placeOf_m_now l _ hcl) (zsub_i zle_n (zle_c rfl zle_n) zle_n) rfl (Nat.le_of_ble_eq_true rfl) (Nat.le_of_ble_eq_true rfl) rfl rfl ?_
      refine zJ_iload_n dX12_tellPlaces_25 rfl rfl ?_
      refine zJ_icmp_ne (tgt := 35) dX12_tellPlaces_26 (by decide) rfl (fun hc => ?_) (fun hc => ?_)
      · replace h := it_f hc h
        obtain ⟨v3n3, ev3n3, h⟩ := lt1_some h
        refine zJ_iincN (ls' := [(3, .int v3n3), (0, .ref 54), (1, .ref 55), (2, .int v2_2)]) dX12_tellPlaces_35 rfl rfl zc_1 ev3n3 rfl rfl ?_
        refine zJ_goto (tgt := 12) dX12_tellPlaces_38 (by decide) ?_
        refine zJ_loc (ls' := [(0, .ref 54), (1, .ref 55), (2, .int v2_2), (3, .int v3n3)]) (zll_c rfl (zll_c rfl (zll_c rfl (zll_c rfl zll_n)))) ?_
        exact hrc12 _ _ _ h
      · replace h := it_t hc h
        refine zJ_aload_n dX12_tellPlaces_29 rfl rfl ?_
        refine zJ_iload_n dX12_tellPlaces_30 rfl rfl ?_
        refine zJ_i2l dX12_tellPlaces_31 rfl ?_
        obtain ⟨m_rowManyn4, m_rown5, hcl, h⟩ := bd2_some h
        refine zJ_callV (mi := mX12_tellPlaces) (yi := mX12_tell) (as := [.long v3_12.toInt64]) (st := []) (L2 := ([(3472, m_rowManyn4)], [(55, m_now)], [(65, m_rown5)])) dX12_tellPlaces_32 ML_X12_265 Yv_X12_tell rfl zW_54 rfl rfl (t_X12_tell l _ hcl) (zsub_i (zle_c rfl zle_n) zle_n (zle_c rfl zle_n)) rfl (Nat.le_of_ble_eq_true rfl) (Nat.le_of_ble_eq_true rfl) rfl rfl ?_
        obtain ⟨v3n6, ev3n6, h⟩ := lt1_some h
        refine zJ_iincN (ls' := [(3, .int v3n6), (0, .ref 54), (1, .ref 55), (2, .int v2_2)]) dX12_tellPlaces_35 rfl rfl zc_1 ev3n6 rfl rfl ?_
        refine zJ_goto (tgt := 12) dX12_tellPlaces_38 (by decide) ?_
        refine zJ_loc (ls' := [(0, .ref 54), (1, .ref 55), (2, .int v2_2), (3, .int v3n6)]) (zll_c rfl (zll_c rfl (zll_c rfl (zll_c rfl zll_n)))) ?_
        exact hrc12 _ _ _ h
set_option maxRecDepth 100000 in
set_option maxHeartbeats 4000000 in
theorem t_X12_table (l : Launch) (σ : zS) {m_rowMany : Int32} {m_thrown : Int32} {m_now : (Nat → Int32)} {m_row : (Nat → Int64)} {r : Int32} {w_m_rowMany : Int32} {w_m_thrown : Int32} {w_m_row : (Nat → Int64)} (h : f_X12_table m_rowMany m_thrown m_now m_row = some (r, w_m_rowMany, w_m_thrown, w_m_row)) : zMt l zW 3 mX12_table σ ([(3472, m_rowMany), (3473, m_thrown)], [(55, m_now)], [(65, m_row)]) [.ref 54] (some (.int r)) ([(3472, w_m_rowMany), (3473, w_m_thrown)], [(55, m_now)], [(65, w_m_row)]) := by
  refine zMt_of (ls := [(0, .ref 54)]) (by decide) rfl (fun _ => Nat.le_of_ble_eq_true rfl) rfl ?_
  unfold f_X12_table at h
  refine zJ_aload_n dX12_table_0 rfl rfl ?_
  refine zJ_iconst dX12_table_1 zc_0 rfl ?_
  refine zK_puti (mi := mX12_table) (la' := [(3472, m_rowMany), (3473, (0 : Int32))]) zW_ok dX12_table_2 F_X12_113 P_12_17 zW_54 rfl rfl rfl ?_
  refine zJ_iconst dX12_table_5 zc_0 rfl ?_
  refine zJ_istore_n (ls' := [(1, .int (0 : Int32)), (0, .ref 54)]) dX12_table_6 rfl rfl rfl ?_
  refine zJ_iconst dX12_table_7 zc_0 rfl ?_
  refine zJ_istore_n (ls' := [(2, .int (0 : Int32)), (1, .int (0 : Int32)), (0, .ref 54)]) dX12_table_8 rfl rfl rfl ?_
  have hk9 : ∀ (v1_9x : Int32), k_X12_table_9 m_now m_row v1_9x = some (r, w_m_rowMany, w_m_thrown, w_m_row) → zJ l zW 3 mX12_table σ ([(3472, m_rowMany), (3473, (0 : Int32))], [(55, m_now)], [(65, m_row)]) 47 [(0, .ref 54), (1, .int v1_9x)] [] (some (.int r)) ([(3472, w_m_rowMany), (3473, w_m_thrown)], [(55, m_now)], [(65, w_m_row)]) := by
    intro v1_9x h
    unfold k_X12_table_9 at h
    refine zJ_aload_n dX12_table_47 rfl rfl ?_
    refine zJ_iconst dX12_table_48 zc_0 rfl ?_
    refine zK_puti (mi := mX12_table) (la' := [(3472, (0 : Int32)), (3473, (0 : Int32))]) zW_ok dX12_table_49 F_X12_116 P_12_16 zW_54 rfl rfl rfl ?_
    refine zJ_aload_n dX12_table_52 rfl rfl ?_
    refine zJ_aload_n dX12_table_53 rfl rfl ?_
    refine zJ_getr (mi := mX12_table) dX12_table_54 F_X12_9 zW_54 rfl rfl ?_
    obtain ⟨m_rowManyn1, m_rown2, hcl, h⟩ := bd2_some h
    refine zJ_callV (mi := mX12_table) (yi := mX12_tellPlaces) (as := [.ref 55]) (st := []) (L2 := ([(3472, m_rowManyn1), (3473, (0 : Int32))], [(55, m_now)], [(65, m_rown2)])) dX12_table_57 ML_X12_365 Yv_X12_tellPlaces rfl zW_54 rfl rfl (t_X12_tellPlaces_m_now l _ hcl) (zsub_i (zle_c rfl zle_n) (zle_c rfl zle_n) (zle_c rfl zle_n)) rfl (Nat.le_of_ble_eq_true rfl) (Nat.le_of_ble_eq_true rfl) rfl rfl ?_
    refine zJ_iload_n dX12_table_60 rfl rfl ?_
    obtain ⟨rfl, rfl, rfl, rfl⟩ := so4 h
    exact zJ_iret dX12_table_61 rfl rfl
  refine zJ_loc (ls' := [(0, .ref 54), (1, .int (0 : Int32)), (2, .int (0 : Int32))]) (zll_c rfl (zll_c rfl (zll_c rfl zll_n))) ?_
  refine ml2_J (fun (v1_9 : Int32) (v2_9 : Int32) => zJ l zW 3 mX12_table σ ([(3472, m_rowMany), (3473, (0 : Int32))], [(55, m_now)], [(65, m_row)]) 9 [(0, .ref 54), (1, .int v1_9), (2, .int v2_9)] [] (some (.int r)) ([(3472, w_m_rowMany), (3473, w_m_thrown)], [(55, m_now)], [(65, w_m_row)])) (fun rc9 hrc9 v1_9 v2_9 h => ?_) zN _ _ h
  unfold s_X12_table_9 at h
  refine zJ_iload_n dX12_table_9 rfl rfl ?_
  refine zJ_aload_n dX12_table_10 rfl rfl ?_
  refine zJ_getr (mi := mX12_table) dX12_table_11 F_X12_9 zW_54 rfl rfl ?_
  refine zJ_bipush dX12_table_14 zb_48 rfl ?_
  obtain ⟨hg, h⟩ := gd_some h
  refine zJ_iald (mi := mX12_table) (f := m_now) dX12_table_16 zW_55 (ix_in hg) rfl rfl ?_
  refine zJ_icmp_ge (tgt := 47) dX12_table_17 (by decide) rfl (fun hc => ?_) (fun hc => ?_)
  · replace h := it_t hc h
    refine zJ_loc (ls' := [(0, .ref 54), (1, .int v1_9)]) (zll_c rfl (zll_c rfl zll_n)) ?_
    exact hk9 _ h
  · replace h := it_f hc h
    refine zJ_iload_n dX12_table_20 rfl rfl ?_
    refine zJ_aload_n dX12_table_21 rfl rfl ?_
    refine zJ_getr (mi := mX12_table) dX12_table_22 F_X12_9 zW_54 rfl rfl ?_
    refine zJ_iconst dX12_table_25 zc_4 rfl ?_
    refine zJ_iload_n dX12_table_26 rfl rfl ?_
    refine zJ_imul dX12_table_27 rfl ?_
    refine zJ_iconst dX12_table_28 zc_2 rfl ?_
    refine zJ_iadd dX12_table_29 rfl ?_
    obtain ⟨hg, h⟩ := gd_some h
    refine zJ_iald (mi := mX12_table) (f := m_now) dX12_table_30 zW_55 (ix_in hg) rfl rfl ?_
    refine zJ_if_ne (tgt := 38) dX12_table_31 (by decide) rfl (fun hc => ?_) (fun hc => ?_)
    · replace h := it_f hc h
      refine zJ_iconst dX12_table_38 zc_0 rfl ?_
      refine zJ_iadd dX12_table_39 rfl ?_
      obtain ⟨v1n3, ev1n3, h⟩ := lt1_some h
      refine zJ_nmi ev1n3 ?_
      refine zJ_istore_n (ls' := [(1, .int v1n3), (0, .ref 54), (2, .int v2_9)]) dX12_table_40 rfl rfl rfl ?_
      obtain ⟨v2n4, ev2n4, h⟩ := lt1_some h
      refine zJ_iincN (ls' := [(2, .int v2n4), (1, .int v1n3), (0, .ref 54)]) dX12_table_41 rfl rfl zc_1 ev2n4 rfl rfl ?_
      refine zJ_goto (tgt := 9) dX12_table_44 (by decide) ?_
      refine zJ_loc (ls' := [(0, .ref 54), (1, .int v1n3), (2, .int v2n4)]) (zll_c rfl (zll_c rfl (zll_c rfl zll_n))) ?_
      exact hrc9 _ _ h
    · replace h := it_t hc h
      refine zJ_iconst dX12_table_34 zc_1 rfl ?_
      refine zJ_goto (tgt := 39) dX12_table_35 (by decide) ?_
      refine zJ_iadd dX12_table_39 rfl ?_
      obtain ⟨v1n5, ev1n5, h⟩ := lt1_some h
      refine zJ_nmi ev1n5 ?_
      refine zJ_istore_n (ls' := [(1, .int v1n5), (0, .ref 54), (2, .int v2_9)]) dX12_table_40 rfl rfl rfl ?_
      obtain ⟨v2n6, ev2n6, h⟩ := lt1_some h
      refine zJ_iincN (ls' := [(2, .int v2n6), (1, .int v1n5), (0, .ref 54)]) dX12_table_41 rfl rfl zc_1 ev2n6 rfl rfl ?_
      refine zJ_goto (tgt := 9) dX12_table_44 (by decide) ?_
      refine zJ_loc (ls' := [(0, .ref 54), (1, .int v1n5), (2, .int v2n6)]) (zll_c rfl (zll_c rfl (zll_c rfl zll_n))) ?_
      exact hrc9 _ _ h
set_option maxRecDepth 100000 in
set_option maxHeartbeats 4000000 in
theorem t_X12_through (l : Launch) (σ : zS) {p1 : Int32} {p2 : Int32} {m_fences : Int32} {m_horses : Int32} {m_plans : Int32} {m_rowMany : Int32} {m_thrown : Int32} {m_read : Int32} {m_length : Int32} {m_top : Int32} {m_at : Int32} {m_wrong : Int32} {m_ruleSize : Int32} {m_isAsked : Int32} {m_askedHorse : Int32} {m_askedFence : Int32} {m_askedLetter : Int32} {m_askedHeight : Int32} {m_kind : (Nat → Int32)} {m_height : (Nat → Int32)} {m_feet : (Nat → Int32)} {m_stride : (Nat → Int32)} {m_scope : (Nat → Int32)} {m_care : (Nat → Int32)} {m_plan : (Nat → Int32)} {m_rule : (Nat → Int32)} {m_row : (Nat → Int64)} {r : Int32} {w_m_rowMany : Int32} {w_m_thrown : Int32} {w_m_read : Int32} {w_m_length : Int32} {w_m_top : Int32} {w_m_at : Int32} {w_m_wrong : Int32} {w_m_isAsked : Int32} {w_m_askedHorse : Int32} {w_m_askedFence : Int32} {w_m_askedLetter : Int32} {w_m_askedHeight : Int32} {w_m_row : (Nat → Int64)} (h : f_X12_through p1 p2 m_fences m_horses m_plans m_rowMany m_thrown m_read m_length m_top m_at m_wrong m_ruleSize m_isAsked m_askedHorse m_askedFence m_askedLetter m_askedHeight m_kind m_height m_feet m_stride m_scope m_care m_plan m_rule m_row = some (r, w_m_rowMany, w_m_thrown, w_m_read, w_m_length, w_m_top, w_m_at, w_m_wrong, w_m_isAsked, w_m_askedHorse, w_m_askedFence, w_m_askedLetter, w_m_askedHeight, w_m_row)) : zMt l zW 208 mX12_through σ ([(3457, m_fences), (3462, m_horses), (3466, m_plans), (3472, m_rowMany), (3473, m_thrown), (3474, m_read), (3475, m_length), (3476, m_top), (3477, m_at), (3478, m_wrong), (3483, m_ruleSize), (3484, m_isAsked), (3485, m_askedHorse), (3486, m_askedFence), (3487, m_askedLetter), (3488, m_askedHeight)], [(56, m_kind), (57, m_height), (58, m_feet), (59, m_stride), (60, m_scope), (61, m_care), (62, m_plan), (69, m_rule)], [(65, m_row)]) [.ref 54, .int p1, .int p2] (some (.int r)) ([(3457, m_fences), (3462, m_horses), (3466, m_plans), (3472, w_m_rowMany), (3473, w_m_thrown), (3474, w_m_read), (3475, w_m_length), (3476, w_m_top), (3477, w_m_at), (3478, w_m_wrong), (3483, m_ruleSize), (3484, w_m_isAsked), (3485, w_m_askedHorse), (3486, w_m_askedFence), (3487, w_m_askedLetter), (3488, w_m_askedHeight)], [(56, m_kind), (57, m_height), (58, m_feet), (59, m_stride), (60, m_scope), (61, m_care), (62, m_plan), (69, m_rule)], [(65, w_m_row)]) := by
  refine zMt_of (ls := [(0, .ref 54), (1, .int p1), (2, .int p2)]) (by decide) rfl (fun _ => Nat.le_of_ble_eq_true rfl) rfl ?_
  unfold f_X12_through at h
  refine zJ_aload_n dX12_through_0 rfl rfl ?_
  refine zJ_iconst dX12_through_1 zc_0 rfl ?_
  refine zK_puti (mi := mX12_through) (la' := [(3457, m_fences), (3462, m_horses), (3466, m_plans), (3472, m_rowMany), (3473, (0 : Int32)), (3474, m_read), (3475, m_length), (3476, m_top), (3477, m_at), (3478, m_wrong), (3483, m_ruleSize), (3484, m_isAsked), (3485, m_askedHorse), (3486, m_askedFence), (3487, m_askedLetter), (3488, m_askedHeight)]) zW_ok dX12_through_2 F_X12_113 P_12_17 zW_54 rfl rfl rfl ?_
  refine zJ_aload_n dX12_through_5 rfl rfl ?_
  refine zJ_iload_n dX12_through_6 rfl rfl ?_
  obtain ⟨rn1, hcl, h⟩ := bd1_some h
  refine zJ_callV (mi := mX12_through) (yi := mX12_isPlan) (as := [.int p1]) (st := []) (L2 := ([(3457, m_fences), (3462, m_horses), (3466, m_plans), (3472, m_rowMany), (3473, (0 : Int32)), (3474, m_read), (3475, m_length), (3476, m_top), (3477, m_at), (3478, m_wrong), (3483, m_ruleSize), (3484, m_isAsked), (3485, m_askedHorse), (3486, m_askedFence), (3487, m_askedLetter), (3488, m_askedHeight)], [(56, m_kind), (57, m_height), (58, m_feet), (59, m_stride), (60, m_scope), (61, m_care), (62, m_plan), (69, m_rule)], [(65, m_row)])) dX12_through_7 ML_X12_136 Yv_X12_isPlan rfl zW_54 rfl rfl (t_X12_isPlan l _ hcl) (zsub_i (zle_c rfl zle_n) zle_n zle_n) rfl (Nat.le_of_ble_eq_true rfl) (Nat.le_of_ble_eq_true rfl) rfl rfl ?_
  refine zJ_if_eq (tgt := 24) dX12_through_10 (by decide) rfl (fun hc => ?_) (fun hc => ?_)
  · replace h := it_t hc h
    refine zJ_iconst dX12_through_24 zc_m1 rfl ?_
    obtain ⟨rfl, rfl, rfl, rfl, rfl, rfl, rfl, rfl, rfl, rfl, rfl, rfl, rfl, rfl⟩ := so14 h
    exact zJ_iret dX12_through_25 rfl rfl
  · replace h := it_f hc h
    refine zJ_iload_n dX12_through_13 rfl rfl ?_
    refine zJ_iconst dX12_through_14 zc_0 rfl ?_
    refine zJ_sipush dX12_through_15 zs_10000 rfl ?_
    obtain ⟨rn2, hcl, h⟩ := bd1_some h
    refine zJ_callS (mi := mX12_through) (yi := mX12_in) (as := [.int p2, .int (0 : Int32), .int (10000 : Int32)]) (st := []) (L2 := ([(3457, m_fences), (3462, m_horses), (3466, m_plans), (3472, m_rowMany), (3473, (0 : Int32)), (3474, m_read), (3475, m_length), (3476, m_top), (3477, m_at), (3478, m_wrong), (3483, m_ruleSize), (3484, m_isAsked), (3485, m_askedHorse), (3486, m_askedFence), (3487, m_askedLetter), (3488, m_askedHeight)], [(56, m_kind), (57, m_height), (58, m_feet), (59, m_stride), (60, m_scope), (61, m_care), (62, m_plan), (69, m_rule)], [(65, m_row)])) dX12_through_18 ML_X12_122 Ys_X12_in rfl (t_X12_in l _ hcl) (zsub_i zle_n zle_n zle_n) rfl (Nat.le_of_ble_eq_true rfl) (Nat.le_of_ble_eq_true rfl) rfl rfl ?_
    refine zJ_if_ne (tgt := 26) dX12_through_21 (by decide) rfl (fun hc => ?_) (fun hc => ?_)
    · replace h := it_f hc h
      refine zJ_aload_n dX12_through_26 rfl rfl ?_
      refine zJ_iload_n dX12_through_27 rfl rfl ?_
      refine zJ_iload_n dX12_through_28 rfl rfl ?_
      refine zJ_iconst dX12_through_29 zc_m1 rfl ?_
      refine zJ_iconst dX12_through_30 zc_0 rfl ?_
      obtain ⟨rn3, m_readn4, m_lengthn5, m_topn6, m_atn7, m_wrongn8, m_isAskedn9, m_askedHorsen10, m_askedFencen11, m_askedLettern12, m_askedHeightn13, hcl, h⟩ := bd11_some h
      refine zJ_callV (mi := mX12_through) (yi := mX12_throughBy) (as := [.int p1, .int p2, .int (-1 : Int32), .int (0 : Int32)]) (st := []) (L2 := ([(3457, m_fences), (3462, m_horses), (3466, m_plans), (3472, m_rowMany), (3473, (0 : Int32)), (3474, m_readn4), (3475, m_lengthn5), (3476, m_topn6), (3477, m_atn7), (3478, m_wrongn8), (3483, m_ruleSize), (3484, m_isAskedn9), (3485, m_askedHorsen10), (3486, m_askedFencen11), (3487, m_askedLettern12), (3488, m_askedHeightn13)], [(56, m_kind), (57, m_height), (58, m_feet), (59, m_stride), (60, m_scope), (61, m_care), (62, m_plan), (69, m_rule)], [(65, m_row)])) dX12_through_31 ML_X12_422 Yv_X12_throughBy rfl zW_54 rfl rfl (t_X12_throughBy l _ hcl) (zsub_i (zle_c rfl (zle_c rfl (zle_c rfl (zle_c rfl (zle_c rfl (zle_c rfl (zle_c rfl (zle_c rfl (zle_c rfl (zle_c rfl (zle_c rfl (zle_c rfl (zle_c rfl zle_n))))))))))))) (zle_c rfl (zle_c rfl (zle_c rfl (zle_c rfl (zle_c rfl (zle_c rfl (zle_c rfl (zle_c rfl zle_n)))))))) zle_n) rfl (Nat.le_of_ble_eq_true rfl) (Nat.le_of_ble_eq_true rfl) rfl rfl ?_
      refine zJ_istore_n (ls' := [(3, .int rn3), (0, .ref 54), (1, .int p1), (2, .int p2)]) dX12_through_34 rfl rfl rfl ?_
      refine zJ_aload_n dX12_through_35 rfl rfl ?_
      refine zJ_iconst dX12_through_36 zc_0 rfl ?_
      refine zK_puti (mi := mX12_through) (la' := [(3457, m_fences), (3462, m_horses), (3466, m_plans), (3472, (0 : Int32)), (3473, (0 : Int32)), (3474, m_readn4), (3475, m_lengthn5), (3476, m_topn6), (3477, m_atn7), (3478, m_wrongn8), (3483, m_ruleSize), (3484, m_isAskedn9), (3485, m_askedHorsen10), (3486, m_askedFencen11), (3487, m_askedLettern12), (3488, m_askedHeightn13)]) zW_ok dX12_through_37 F_X12_116 P_12_16 zW_54 rfl rfl rfl ?_
      refine zJ_aload_n dX12_through_40 rfl rfl ?_
      refine zJ_iload_n dX12_through_41 rfl rfl ?_
      obtain ⟨rn14, hcl, h⟩ := bd1_some h
      refine zJ_callS (mi := mX12_through) (yi := mJ6_bitCount_0f7a4) (as := [.int rn3]) (st := [.ref 54]) (L2 := ([(3457, m_fences), (3462, m_horses), (3466, m_plans), (3472, (0 : Int32)), (3473, (0 : Int32)), (3474, m_readn4), (3475, m_lengthn5), (3476, m_topn6), (3477, m_atn7), (3478, m_wrongn8), (3483, m_ruleSize), (3484, m_isAskedn9), (3485, m_askedHorsen10), (3486, m_askedFencen11), (3487, m_askedLettern12), (3488, m_askedHeightn13)], [(56, m_kind), (57, m_height), (58, m_feet), (59, m_stride), (60, m_scope), (61, m_care), (62, m_plan), (69, m_rule)], [(65, m_row)])) dX12_through_42 ML_X12_425 Ys_J6_bitCount_0f7a4 rfl (t_J6_bitCount_0f7a4 l _ hcl) (zsub_i zle_n zle_n zle_n) rfl (Nat.le_of_ble_eq_true rfl) (Nat.le_of_ble_eq_true rfl) rfl rfl ?_
      refine zJ_i2l dX12_through_45 rfl ?_
      obtain ⟨m_rowManyn15, m_rown16, hcl, h⟩ := bd2_some h
      refine zJ_callV (mi := mX12_through) (yi := mX12_tell) (as := [.long rn14.toInt64]) (st := []) (L2 := ([(3457, m_fences), (3462, m_horses), (3466, m_plans), (3472, m_rowManyn15), (3473, (0 : Int32)), (3474, m_readn4), (3475, m_lengthn5), (3476, m_topn6), (3477, m_atn7), (3478, m_wrongn8), (3483, m_ruleSize), (3484, m_isAskedn9), (3485, m_askedHorsen10), (3486, m_askedFencen11), (3487, m_askedLettern12), (3488, m_askedHeightn13)], [(56, m_kind), (57, m_height), (58, m_feet), (59, m_stride), (60, m_scope), (61, m_care), (62, m_plan), (69, m_rule)], [(65, m_rown16)])) dX12_through_46 ML_X12_265 Yv_X12_tell rfl zW_54 rfl rfl (t_X12_tell l _ hcl) (zsub_i (zle_c rfl zle_n) zle_n (zle_c rfl zle_n)) rfl (Nat.le_of_ble_eq_true rfl) (Nat.le_of_ble_eq_true rfl) rfl rfl ?_
      refine zJ_iload_n dX12_through_49 rfl rfl ?_
      obtain ⟨rfl, rfl, rfl, rfl, rfl, rfl, rfl, rfl, rfl, rfl, rfl, rfl, rfl, rfl⟩ := so14 h
      exact zJ_iret dX12_through_50 rfl rfl
    · replace h := it_t hc h
      refine zJ_iconst dX12_through_24 zc_m1 rfl ?_
      obtain ⟨rfl, rfl, rfl, rfl, rfl, rfl, rfl, rfl, rfl, rfl, rfl, rfl, rfl, rfl⟩ := so14 h
      exact zJ_iret dX12_through_25 rfl rfl
set_option maxRecDepth 100000 in
set_option maxHeartbeats 4000000 in
theorem t_X12_thrown (l : Launch) (σ : zS) {m_thrown : Int32} {r : Int32} (h : f_X12_thrown m_thrown = some r) : zMt l zW 0 mX12_thrown σ ([(3473, m_thrown)], [], []) [.ref 54] (some (.int r)) ([(3473, m_thrown)], [], []) := by
  refine zMt_of (ls := [(0, .ref 54)]) (by decide) rfl (fun _ => Nat.le_of_ble_eq_true rfl) rfl ?_
  unfold f_X12_thrown at h
  refine zJ_aload_n dX12_thrown_0 rfl rfl ?_
  refine zJ_geti (mi := mX12_thrown) (x := m_thrown) dX12_thrown_1 F_X12_113 zW_54 rfl rfl rfl ?_
  obtain rfl := so1 h
  exact zJ_iret dX12_thrown_4 rfl rfl
set_option maxRecDepth 100000 in
set_option maxHeartbeats 4000000 in
theorem t_X12_told (l : Launch) (σ : zS) {p1 : Int32} {p2 : Int32} {p3 : Int32} {p4 : Int32} {m_horses : Int32} {m_thrown : Int32} {m_undoMany : Int32} {m_now : (Nat → Int32)} {m_undos : (Nat → Int32)} {r : Int32} {w_m_thrown : Int32} {w_m_undoMany : Int32} {w_m_now : (Nat → Int32)} {w_m_undos : (Nat → Int32)} (h : f_X12_told p1 p2 p3 p4 m_horses m_thrown m_undoMany m_now m_undos = some (r, w_m_thrown, w_m_undoMany, w_m_now, w_m_undos)) : zMt l zW 3 mX12_told σ ([(3462, m_horses), (3473, m_thrown), (3494, m_undoMany)], [(55, m_now), (74, m_undos)], []) [.ref 54, .int p1, .int p2, .int p3, .int p4] (some (.int r)) ([(3462, m_horses), (3473, w_m_thrown), (3494, w_m_undoMany)], [(55, w_m_now), (74, w_m_undos)], []) := by
  refine zMt_of (ls := [(0, .ref 54), (1, .int p1), (2, .int p2), (3, .int p3), (4, .int p4)]) (by decide) rfl (fun _ => Nat.le_of_ble_eq_true rfl) rfl ?_
  unfold f_X12_told at h
  refine zJ_aload_n dX12_told_0 rfl rfl ?_
  refine zJ_iconst dX12_told_1 zc_0 rfl ?_
  refine zK_puti (mi := mX12_told) (la' := [(3462, m_horses), (3473, (0 : Int32)), (3494, m_undoMany)]) zW_ok dX12_told_2 F_X12_113 P_12_17 zW_54 rfl rfl rfl ?_
  refine zJ_aload_n dX12_told_5 rfl rfl ?_
  refine zJ_iload_n dX12_told_6 rfl rfl ?_
  refine zJ_iload_n dX12_told_7 rfl rfl ?_
  refine zJ_iload_n dX12_told_8 rfl rfl ?_
  refine zJ_iload dX12_told_9 rfl rfl ?_
  obtain ⟨rn1, hcl, h⟩ := bd1_some h
  refine zJ_callV (mi := mX12_told) (yi := mX12_refusesTold) (as := [.int p1, .int p2, .int p3, .int p4]) (st := []) (L2 := ([(3462, m_horses), (3473, (0 : Int32)), (3494, m_undoMany)], [(55, m_now), (74, m_undos)], [])) dX12_told_11 ML_X12_345 Yv_X12_refusesTold rfl zW_54 rfl rfl (t_X12_refusesTold l _ hcl) (zsub_i (zle_c rfl zle_n) (zle_c rfl zle_n) zle_n) rfl (Nat.le_of_ble_eq_true rfl) (Nat.le_of_ble_eq_true rfl) rfl rfl ?_
  refine zJ_istore (ls' := [(5, .int rn1), (0, .ref 54), (1, .int p1), (2, .int p2), (3, .int p3), (4, .int p4)]) dX12_told_14 rfl rfl rfl ?_
  refine zJ_iload dX12_told_16 rfl rfl ?_
  refine zJ_if_ge (tgt := 24) dX12_told_18 (by decide) rfl (fun hc => ?_) (fun hc => ?_)
  · replace h := it_t hc h
    refine zJ_aload_n dX12_told_24 rfl rfl ?_
    refine zJ_aload_n dX12_told_25 rfl rfl ?_
    refine zJ_getr (mi := mX12_told) dX12_told_26 F_X12_9 zW_54 rfl rfl ?_
    obtain ⟨m_undoManyn2, m_undosn3, hcl, h⟩ := bd2_some h
    refine zJ_callV (mi := mX12_told) (yi := mX12_remember) (as := [.ref 55]) (st := []) (L2 := ([(3462, m_horses), (3473, (0 : Int32)), (3494, m_undoManyn2)], [(55, m_now), (74, m_undosn3)], [])) dX12_told_29 ML_X12_331 Yv_X12_remember rfl zW_54 rfl rfl (t_X12_remember_m_now l _ hcl) (zsub_i (zle_c rfl zle_n) (zle_c rfl (zle_c rfl zle_n)) zle_n) rfl (Nat.le_of_ble_eq_true rfl) (Nat.le_of_ble_eq_true rfl) rfl rfl ?_
    refine zJ_aload_n dX12_told_32 rfl rfl ?_
    refine zJ_getr (mi := mX12_told) dX12_told_33 F_X12_9 zW_54 rfl rfl ?_
    refine zJ_iload_n dX12_told_36 rfl rfl ?_
    refine zJ_iload_n dX12_told_37 rfl rfl ?_
    refine zJ_iload_n dX12_told_38 rfl rfl ?_
    refine zJ_iload dX12_told_39 rfl rfl ?_
    obtain ⟨m_nown4, hcl, h⟩ := bd1_some h
    refine zJ_callS (mi := mX12_told) (yi := mX12_add) (as := [.ref 55, .int p1, .int p2, .int p3, .int p4]) (st := []) (L2 := ([(3462, m_horses), (3473, (0 : Int32)), (3494, m_undoManyn2)], [(55, m_nown4), (74, m_undosn3)], [])) dX12_told_41 ML_X12_338 Ys_X12_add rfl (t_X12_add_m_now l _ hcl) (zsub_i zle_n (zle_c rfl zle_n) zle_n) rfl (Nat.le_of_ble_eq_true rfl) (Nat.le_of_ble_eq_true rfl) rfl rfl ?_
    refine zJ_aload_n dX12_told_44 rfl rfl ?_
    refine zJ_getr (mi := mX12_told) dX12_told_45 F_X12_9 zW_54 rfl rfl ?_
    refine zJ_bipush dX12_told_48 zb_48 rfl ?_
    obtain ⟨hg, h⟩ := gd_some h
    refine zJ_iald (mi := mX12_told) (f := m_nown4) dX12_told_50 zW_55 (ix_in hg) rfl rfl ?_
    obtain ⟨rfl, rfl, rfl, rfl, rfl⟩ := so5 h
    exact zJ_iret dX12_told_51 rfl rfl
  · replace h := it_f hc h
    refine zJ_iload dX12_told_21 rfl rfl ?_
    obtain ⟨rfl, rfl, rfl, rfl, rfl⟩ := so5 h
    exact zJ_iret dX12_told_23 rfl rfl
set_option maxRecDepth 100000 in
set_option maxHeartbeats 4000000 in
theorem t_X12_undo (l : Launch) (σ : zS) {m_thrown : Int32} {m_undoMany : Int32} {m_now : (Nat → Int32)} {m_undos : (Nat → Int32)} {r : Int32} {w_m_thrown : Int32} {w_m_undoMany : Int32} {w_m_now : (Nat → Int32)} (h : f_X12_undo m_thrown m_undoMany m_now m_undos = some (r, w_m_thrown, w_m_undoMany, w_m_now)) : zMt l zW 0 mX12_undo σ ([(3473, m_thrown), (3494, m_undoMany)], [(55, m_now), (74, m_undos)], []) [.ref 54] (some (.int r)) ([(3473, w_m_thrown), (3494, w_m_undoMany)], [(55, w_m_now), (74, m_undos)], []) := by
  refine zMt_of (ls := [(0, .ref 54)]) (by decide) rfl (fun _ => Nat.le_of_ble_eq_true rfl) rfl ?_
  unfold f_X12_undo at h
  refine zJ_aload_n dX12_undo_0 rfl rfl ?_
  refine zJ_iconst dX12_undo_1 zc_0 rfl ?_
  refine zK_puti (mi := mX12_undo) (la' := [(3473, (0 : Int32)), (3494, m_undoMany)]) zW_ok dX12_undo_2 F_X12_113 P_12_17 zW_54 rfl rfl rfl ?_
  refine zJ_aload_n dX12_undo_5 rfl rfl ?_
  refine zJ_geti (mi := mX12_undo) (x := m_undoMany) dX12_undo_6 F_X12_192 zW_54 rfl rfl rfl ?_
  refine zJ_if_ne (tgt := 14) dX12_undo_9 (by decide) rfl (fun hc => ?_) (fun hc => ?_)
  · replace h := it_f hc h
    refine zJ_aload_n dX12_undo_14 rfl rfl ?_
    refine zJ_dup dX12_undo_15 rfl rfl ?_
    refine zJ_geti (mi := mX12_undo) (x := m_undoMany) dX12_undo_16 F_X12_192 zW_54 rfl rfl rfl ?_
    refine zJ_iconst dX12_undo_19 zc_1 rfl ?_
    refine zJ_isub dX12_undo_20 rfl ?_
    refine zK_puti (mi := mX12_undo) (la' := [(3473, (0 : Int32)), (3494, (m_undoMany - (1 : Int32)))]) zW_ok dX12_undo_21 F_X12_192 P_12_38 zW_54 rfl rfl rfl ?_
    refine zJ_iconst dX12_undo_24 zc_0 rfl ?_
    refine zJ_istore_n (ls' := [(1, .int (0 : Int32)), (0, .ref 54)]) dX12_undo_25 rfl rfl rfl ?_
    have hk26 : ∀ (m_now_26x : (Nat → Int32)), k_X12_undo_26 m_undoMany m_now_26x = some (r, w_m_thrown, w_m_undoMany, w_m_now) → zJ l zW 0 mX12_undo σ ([(3473, (0 : Int32)), (3494, (m_undoMany - (1 : Int32)))], [(55, m_now_26x), (74, m_undos)], []) 58 [(0, .ref 54)] [] (some (.int r)) ([(3473, w_m_thrown), (3494, w_m_undoMany)], [(55, w_m_now), (74, m_undos)], []) := by
      intro m_now_26x h
      unfold k_X12_undo_26 at h
      refine zJ_aload_n dX12_undo_58 rfl rfl ?_
      refine zJ_geti (mi := mX12_undo) (x := (m_undoMany - (1 : Int32))) dX12_undo_59 F_X12_192 zW_54 rfl rfl rfl ?_
      obtain ⟨rfl, rfl, rfl, rfl⟩ := so4 h
      exact zJ_iret dX12_undo_62 rfl rfl
    refine zJ_loc (ls' := [(0, .ref 54), (1, .int (0 : Int32))]) (zll_c rfl (zll_c rfl zll_n)) ?_
    refine ml2_J (fun (v1_26 : Int32) (m_now_26 : (Nat → Int32)) => zJ l zW 0 mX12_undo σ ([(3473, (0 : Int32)), (3494, (m_undoMany - (1 : Int32)))], [(55, m_now_26), (74, m_undos)], []) 26 [(0, .ref 54), (1, .int v1_26)] [] (some (.int r)) ([(3473, w_m_thrown), (3494, w_m_undoMany)], [(55, w_m_now), (74, m_undos)], [])) (fun rc26 hrc26 v1_26 m_now_26 h => ?_) zN _ _ h
    unfold s_X12_undo_26 at h
    refine zJ_iload_n dX12_undo_26 rfl rfl ?_
    refine zJ_bipush dX12_undo_27 zb_49 rfl ?_
    refine zJ_icmp_ge (tgt := 58) dX12_undo_29 (by decide) rfl (fun hc => ?_) (fun hc => ?_)
    · replace h := it_t hc h
      refine zJ_loc (ls' := [(0, .ref 54)]) (zll_c rfl zll_n) ?_
      exact hk26 _ h
    · replace h := it_f hc h
      refine zJ_aload_n dX12_undo_32 rfl rfl ?_
      refine zJ_getr (mi := mX12_undo) dX12_undo_33 F_X12_9 zW_54 rfl rfl ?_
      refine zJ_iload_n dX12_undo_36 rfl rfl ?_
      refine zJ_aload_n dX12_undo_37 rfl rfl ?_
      refine zJ_getr (mi := mX12_undo) dX12_undo_38 F_X12_73 zW_54 rfl rfl ?_
      refine zJ_bipush dX12_undo_41 zb_49 rfl ?_
      refine zJ_aload_n dX12_undo_43 rfl rfl ?_
      refine zJ_geti (mi := mX12_undo) (x := (m_undoMany - (1 : Int32))) dX12_undo_44 F_X12_192 zW_54 rfl rfl rfl ?_
      refine zJ_imul dX12_undo_47 rfl ?_
      refine zJ_iload_n dX12_undo_48 rfl rfl ?_
      refine zJ_iadd dX12_undo_49 rfl ?_
      obtain ⟨hg, h⟩ := gd_some h
      refine zJ_iald (mi := mX12_undo) (f := m_undos) dX12_undo_50 zW_74 (ix_in hg) rfl rfl ?_
      obtain ⟨hg, h⟩ := gd_some h
      refine zK_iast (mi := mX12_undo) (f := m_now_26) (lb' := [(55, (upd m_now_26 v1_26.toNatClampNeg (m_undos (((49 : Int32) * (m_undoMany - (1 : Int32))) + v1_26).toNatClampNeg))), (74, m_undos)]) dX12_undo_51 zW_55 (ix_in hg) rfl rfl rfl ?_
      obtain ⟨v1n1, ev1n1, h⟩ := lt1_some h
      refine zJ_iincN (ls' := [(1, .int v1n1), (0, .ref 54)]) dX12_undo_52 rfl rfl zc_1 ev1n1 rfl rfl ?_
      refine zJ_goto (tgt := 26) dX12_undo_55 (by decide) ?_
      refine zJ_loc (ls' := [(0, .ref 54), (1, .int v1n1)]) (zll_c rfl (zll_c rfl zll_n)) ?_
      exact hrc26 _ _ h
  · replace h := it_t hc h
    refine zJ_iconst dX12_undo_12 zc_m1 rfl ?_
    obtain ⟨rfl, rfl, rfl, rfl⟩ := so4 h
    exact zJ_iret dX12_undo_13 rfl rfl
set_option maxRecDepth 100000 in
set_option maxHeartbeats 4000000 in
theorem t_X12_wind (l : Launch) (σ : zS) {p1 : Int32} {p2 : Int32} {p3 : Int32} {p4 : Int32} {m_fences : Int32} {m_horses : Int32} {m_plans : Int32} {m_rowMany : Int32} {m_thrown : Int32} {m_read : Int32} {m_length : Int32} {m_top : Int32} {m_at : Int32} {m_wrong : Int32} {m_ruleSize : Int32} {m_isAsked : Int32} {m_askedHorse : Int32} {m_askedFence : Int32} {m_askedLetter : Int32} {m_askedHeight : Int32} {m_kind : (Nat → Int32)} {m_height : (Nat → Int32)} {m_feet : (Nat → Int32)} {m_stride : (Nat → Int32)} {m_scope : (Nat → Int32)} {m_care : (Nat → Int32)} {m_plan : (Nat → Int32)} {m_rule : (Nat → Int32)} {m_row : (Nat → Int64)} {m_falling : (Nat → Int64)} {r : Int32} {w_m_rowMany : Int32} {w_m_thrown : Int32} {w_m_read : Int32} {w_m_length : Int32} {w_m_top : Int32} {w_m_at : Int32} {w_m_wrong : Int32} {w_m_isAsked : Int32} {w_m_askedHorse : Int32} {w_m_askedFence : Int32} {w_m_askedLetter : Int32} {w_m_askedHeight : Int32} {w_m_row : (Nat → Int64)} {w_m_falling : (Nat → Int64)} (h : f_X12_wind p1 p2 p3 p4 m_fences m_horses m_plans m_rowMany m_thrown m_read m_length m_top m_at m_wrong m_ruleSize m_isAsked m_askedHorse m_askedFence m_askedLetter m_askedHeight m_kind m_height m_feet m_stride m_scope m_care m_plan m_rule m_row m_falling = some (r, w_m_rowMany, w_m_thrown, w_m_read, w_m_length, w_m_top, w_m_at, w_m_wrong, w_m_isAsked, w_m_askedHorse, w_m_askedFence, w_m_askedLetter, w_m_askedHeight, w_m_row, w_m_falling)) : zMt l zW 208 mX12_wind σ ([(3457, m_fences), (3462, m_horses), (3466, m_plans), (3472, m_rowMany), (3473, m_thrown), (3474, m_read), (3475, m_length), (3476, m_top), (3477, m_at), (3478, m_wrong), (3483, m_ruleSize), (3484, m_isAsked), (3485, m_askedHorse), (3486, m_askedFence), (3487, m_askedLetter), (3488, m_askedHeight)], [(56, m_kind), (57, m_height), (58, m_feet), (59, m_stride), (60, m_scope), (61, m_care), (62, m_plan), (69, m_rule)], [(65, m_row), (84, m_falling)]) [.ref 54, .int p1, .int p2, .int p3, .int p4] (some (.int r)) ([(3457, m_fences), (3462, m_horses), (3466, m_plans), (3472, w_m_rowMany), (3473, w_m_thrown), (3474, w_m_read), (3475, w_m_length), (3476, w_m_top), (3477, w_m_at), (3478, w_m_wrong), (3483, m_ruleSize), (3484, w_m_isAsked), (3485, w_m_askedHorse), (3486, w_m_askedFence), (3487, w_m_askedLetter), (3488, w_m_askedHeight)], [(56, m_kind), (57, m_height), (58, m_feet), (59, m_stride), (60, m_scope), (61, m_care), (62, m_plan), (69, m_rule)], [(65, w_m_row), (84, w_m_falling)]) := by
  refine zMt_of (ls := [(0, .ref 54), (1, .int p1), (2, .int p2), (3, .int p3), (4, .int p4)]) (by decide) rfl (fun _ => Nat.le_of_ble_eq_true rfl) rfl ?_
  unfold f_X12_wind at h
  refine zJ_aload_n dX12_wind_0 rfl rfl ?_
  refine zJ_iconst dX12_wind_1 zc_0 rfl ?_
  refine zK_puti (mi := mX12_wind) (la' := [(3457, m_fences), (3462, m_horses), (3466, m_plans), (3472, m_rowMany), (3473, (0 : Int32)), (3474, m_read), (3475, m_length), (3476, m_top), (3477, m_at), (3478, m_wrong), (3483, m_ruleSize), (3484, m_isAsked), (3485, m_askedHorse), (3486, m_askedFence), (3487, m_askedLetter), (3488, m_askedHeight)]) zW_ok dX12_wind_2 F_X12_113 P_12_17 zW_54 rfl rfl rfl ?_
  refine zJ_aload_n dX12_wind_5 rfl rfl ?_
  refine zJ_iload_n dX12_wind_6 rfl rfl ?_
  obtain ⟨rn1, hcl, h⟩ := bd1_some h
  refine zJ_callV (mi := mX12_wind) (yi := mX12_isFence) (as := [.int p1]) (st := []) (L2 := ([(3457, m_fences), (3462, m_horses), (3466, m_plans), (3472, m_rowMany), (3473, (0 : Int32)), (3474, m_read), (3475, m_length), (3476, m_top), (3477, m_at), (3478, m_wrong), (3483, m_ruleSize), (3484, m_isAsked), (3485, m_askedHorse), (3486, m_askedFence), (3487, m_askedLetter), (3488, m_askedHeight)], [(56, m_kind), (57, m_height), (58, m_feet), (59, m_stride), (60, m_scope), (61, m_care), (62, m_plan), (69, m_rule)], [(65, m_row), (84, m_falling)])) dX12_wind_7 ML_X12_250 Yv_X12_isFence rfl zW_54 rfl rfl (t_X12_isFence l _ hcl) (zsub_i (zle_c rfl zle_n) zle_n zle_n) rfl (Nat.le_of_ble_eq_true rfl) (Nat.le_of_ble_eq_true rfl) rfl rfl ?_
  refine zJ_if_eq (tgt := 58) dX12_wind_10 (by decide) rfl (fun hc => ?_) (fun hc => ?_)
  · replace h := it_t hc h
    refine zJ_iconst dX12_wind_58 zc_m1 rfl ?_
    obtain ⟨rfl, rfl, rfl, rfl, rfl, rfl, rfl, rfl, rfl, rfl, rfl, rfl, rfl, rfl, rfl⟩ := so15 h
    exact zJ_iret dX12_wind_59 rfl rfl
  · replace h := it_f hc h
    refine zJ_iload_n dX12_wind_13 rfl rfl ?_
    refine zJ_iconst dX12_wind_14 zc_0 rfl ?_
    refine zJ_bipush dX12_wind_15 zb_6 rfl ?_
    obtain ⟨rn2, hcl, h⟩ := bd1_some h
    refine zJ_callS (mi := mX12_wind) (yi := mX12_in) (as := [.int p3, .int (0 : Int32), .int (6 : Int32)]) (st := []) (L2 := ([(3457, m_fences), (3462, m_horses), (3466, m_plans), (3472, m_rowMany), (3473, (0 : Int32)), (3474, m_read), (3475, m_length), (3476, m_top), (3477, m_at), (3478, m_wrong), (3483, m_ruleSize), (3484, m_isAsked), (3485, m_askedHorse), (3486, m_askedFence), (3487, m_askedLetter), (3488, m_askedHeight)], [(56, m_kind), (57, m_height), (58, m_feet), (59, m_stride), (60, m_scope), (61, m_care), (62, m_plan), (69, m_rule)], [(65, m_row), (84, m_falling)])) dX12_wind_17 ML_X12_122 Ys_X12_in rfl (t_X12_in l _ hcl) (zsub_i zle_n zle_n zle_n) rfl (Nat.le_of_ble_eq_true rfl) (Nat.le_of_ble_eq_true rfl) rfl rfl ?_
    refine zJ_if_eq (tgt := 58) dX12_wind_20 (by decide) rfl (fun hc => ?_) (fun hc => ?_)
    · replace h := it_t hc h
      refine zJ_iconst dX12_wind_58 zc_m1 rfl ?_
      obtain ⟨rfl, rfl, rfl, rfl, rfl, rfl, rfl, rfl, rfl, rfl, rfl, rfl, rfl, rfl, rfl⟩ := so15 h
      exact zJ_iret dX12_wind_59 rfl rfl
    · replace h := it_f hc h
      refine zJ_iload_n dX12_wind_23 rfl rfl ?_
      refine zJ_iconst dX12_wind_24 zc_0 rfl ?_
      refine zJ_iload_n dX12_wind_25 rfl rfl ?_
      obtain ⟨rn3, hcl, h⟩ := bd1_some h
      refine zJ_callS (mi := mX12_wind) (yi := mX12_in) (as := [.int p2, .int (0 : Int32), .int p3]) (st := []) (L2 := ([(3457, m_fences), (3462, m_horses), (3466, m_plans), (3472, m_rowMany), (3473, (0 : Int32)), (3474, m_read), (3475, m_length), (3476, m_top), (3477, m_at), (3478, m_wrong), (3483, m_ruleSize), (3484, m_isAsked), (3485, m_askedHorse), (3486, m_askedFence), (3487, m_askedLetter), (3488, m_askedHeight)], [(56, m_kind), (57, m_height), (58, m_feet), (59, m_stride), (60, m_scope), (61, m_care), (62, m_plan), (69, m_rule)], [(65, m_row), (84, m_falling)])) dX12_wind_26 ML_X12_122 Ys_X12_in rfl (t_X12_in l _ hcl) (zsub_i zle_n zle_n zle_n) rfl (Nat.le_of_ble_eq_true rfl) (Nat.le_of_ble_eq_true rfl) rfl rfl ?_
      refine zJ_if_eq (tgt := 58) dX12_wind_29 (by decide) rfl (fun hc => ?_) (fun hc => ?_)
      · replace h := it_t hc h
        refine zJ_iconst dX12_wind_58 zc_m1 rfl ?_
        obtain ⟨rfl, rfl, rfl, rfl, rfl, rfl, rfl, rfl, rfl, rfl, rfl, rfl, rfl, rfl, rfl⟩ := so15 h
        exact zJ_iret dX12_wind_59 rfl rfl
      · replace h := it_f hc h
        refine zJ_iload dX12_wind_32 rfl rfl ?_
        refine zJ_iconst dX12_wind_34 zc_0 rfl ?_
        refine zJ_bipush dX12_wind_35 zb_100 rfl ?_
        obtain ⟨rn4, hcl, h⟩ := bd1_some h
        refine zJ_callS (mi := mX12_wind) (yi := mX12_in) (as := [.int p4, .int (0 : Int32), .int (100 : Int32)]) (st := []) (L2 := ([(3457, m_fences), (3462, m_horses), (3466, m_plans), (3472, m_rowMany), (3473, (0 : Int32)), (3474, m_read), (3475, m_length), (3476, m_top), (3477, m_at), (3478, m_wrong), (3483, m_ruleSize), (3484, m_isAsked), (3485, m_askedHorse), (3486, m_askedFence), (3487, m_askedLetter), (3488, m_askedHeight)], [(56, m_kind), (57, m_height), (58, m_feet), (59, m_stride), (60, m_scope), (61, m_care), (62, m_plan), (69, m_rule)], [(65, m_row), (84, m_falling)])) dX12_wind_37 ML_X12_122 Ys_X12_in rfl (t_X12_in l _ hcl) (zsub_i zle_n zle_n zle_n) rfl (Nat.le_of_ble_eq_true rfl) (Nat.le_of_ble_eq_true rfl) rfl rfl ?_
        refine zJ_if_eq (tgt := 58) dX12_wind_40 (by decide) rfl (fun hc => ?_) (fun hc => ?_)
        · replace h := it_t hc h
          refine zJ_iconst dX12_wind_58 zc_m1 rfl ?_
          obtain ⟨rfl, rfl, rfl, rfl, rfl, rfl, rfl, rfl, rfl, rfl, rfl, rfl, rfl, rfl, rfl⟩ := so15 h
          exact zJ_iret dX12_wind_59 rfl rfl
        · replace h := it_f hc h
          refine zJ_iload_n dX12_wind_43 rfl rfl ?_
          refine zJ_aload_n dX12_wind_44 rfl rfl ?_
          refine zJ_geti (mi := mX12_wind) (x := m_horses) dX12_wind_45 F_X12_126 zW_54 rfl rfl rfl ?_
          refine zJ_icmp_gt (tgt := 58) dX12_wind_48 (by decide) rfl (fun hc => ?_) (fun hc => ?_)
          · replace h := it_t hc h
            refine zJ_iconst dX12_wind_58 zc_m1 rfl ?_
            obtain ⟨rfl, rfl, rfl, rfl, rfl, rfl, rfl, rfl, rfl, rfl, rfl, rfl, rfl, rfl, rfl⟩ := so15 h
            exact zJ_iret dX12_wind_59 rfl rfl
          · replace h := it_f hc h
            refine zJ_aload_n dX12_wind_51 rfl rfl ?_
            refine zJ_geti (mi := mX12_wind) (x := m_plans) dX12_wind_52 F_X12_129 zW_54 rfl rfl rfl ?_
            refine zJ_if_ne (tgt := 60) dX12_wind_55 (by decide) rfl (fun hc => ?_) (fun hc => ?_)
            · replace h := it_f hc h
              refine zJ_aload_n dX12_wind_60 rfl rfl ?_
              refine zJ_iload_n dX12_wind_61 rfl rfl ?_
              refine zJ_iload_n dX12_wind_62 rfl rfl ?_
              refine zJ_iload_n dX12_wind_63 rfl rfl ?_
              refine zJ_iconst dX12_wind_64 zc_0 rfl ?_
              obtain ⟨rn5, m_readn6, m_lengthn7, m_topn8, m_atn9, m_wrongn10, m_isAskedn11, m_askedHorsen12, m_askedFencen13, m_askedLettern14, m_askedHeightn15, m_fallingn16, hcl, h⟩ := bd12_some h
              refine zJ_callV (mi := mX12_wind) (yi := mX12_justFall) (as := [.int p1, .int p2, .int p3, .int (0 : Int32)]) (st := []) (L2 := ([(3457, m_fences), (3462, m_horses), (3466, m_plans), (3472, m_rowMany), (3473, (0 : Int32)), (3474, m_readn6), (3475, m_lengthn7), (3476, m_topn8), (3477, m_atn9), (3478, m_wrongn10), (3483, m_ruleSize), (3484, m_isAskedn11), (3485, m_askedHorsen12), (3486, m_askedFencen13), (3487, m_askedLettern14), (3488, m_askedHeightn15)], [(56, m_kind), (57, m_height), (58, m_feet), (59, m_stride), (60, m_scope), (61, m_care), (62, m_plan), (69, m_rule)], [(65, m_row), (84, m_fallingn16)])) dX12_wind_65 ML_X12_445 Yv_X12_justFall rfl zW_54 rfl rfl (t_X12_justFall l _ hcl) (zsub_i (zle_c rfl (zle_c rfl (zle_c rfl (zle_c rfl (zle_c rfl (zle_c rfl (zle_c rfl (zle_c rfl (zle_c rfl (zle_c rfl (zle_c rfl zle_n))))))))))) (zle_c rfl (zle_c rfl (zle_c rfl (zle_c rfl (zle_c rfl (zle_c rfl (zle_c rfl (zle_c rfl zle_n)))))))) (zle_c rfl zle_n)) rfl (Nat.le_of_ble_eq_true rfl) (Nat.le_of_ble_eq_true rfl) rfl rfl ?_
              refine zJ_lstore (ls' := [(5, .long rn5), (0, .ref 54), (1, .int p1), (2, .int p2), (3, .int p3), (4, .int p4)]) dX12_wind_68 rfl rfl rfl ?_
              refine zJ_aload_n dX12_wind_70 rfl rfl ?_
              refine zJ_iload_n dX12_wind_71 rfl rfl ?_
              refine zJ_iload_n dX12_wind_72 rfl rfl ?_
              refine zJ_iload_n dX12_wind_73 rfl rfl ?_
              refine zJ_iload dX12_wind_74 rfl rfl ?_
              obtain ⟨rn17, m_readn18, m_lengthn19, m_topn20, m_atn21, m_wrongn22, m_isAskedn23, m_askedHorsen24, m_askedFencen25, m_askedLettern26, m_askedHeightn27, m_fallingn28, hcl, h⟩ := bd12_some h
              refine zJ_callV (mi := mX12_wind) (yi := mX12_justFall) (as := [.int p1, .int p2, .int p3, .int p4]) (st := []) (L2 := ([(3457, m_fences), (3462, m_horses), (3466, m_plans), (3472, m_rowMany), (3473, (0 : Int32)), (3474, m_readn18), (3475, m_lengthn19), (3476, m_topn20), (3477, m_atn21), (3478, m_wrongn22), (3483, m_ruleSize), (3484, m_isAskedn23), (3485, m_askedHorsen24), (3486, m_askedFencen25), (3487, m_askedLettern26), (3488, m_askedHeightn27)], [(56, m_kind), (57, m_height), (58, m_feet), (59, m_stride), (60, m_scope), (61, m_care), (62, m_plan), (69, m_rule)], [(65, m_row), (84, m_fallingn28)])) dX12_wind_76 ML_X12_445 Yv_X12_justFall rfl zW_54 rfl rfl (t_X12_justFall l _ hcl) (zsub_i (zle_c rfl (zle_c rfl (zle_c rfl (zle_c rfl (zle_c rfl (zle_c rfl (zle_c rfl (zle_c rfl (zle_c rfl (zle_c rfl (zle_c rfl zle_n))))))))))) (zle_c rfl (zle_c rfl (zle_c rfl (zle_c rfl (zle_c rfl (zle_c rfl (zle_c rfl (zle_c rfl zle_n)))))))) (zle_c rfl zle_n)) rfl (Nat.le_of_ble_eq_true rfl) (Nat.le_of_ble_eq_true rfl) rfl rfl ?_
              refine zJ_lstore (ls' := [(7, .long rn17), (5, .long rn5), (0, .ref 54), (1, .int p1), (2, .int p2), (3, .int p3), (4, .int p4)]) dX12_wind_79 rfl rfl rfl ?_
              refine zJ_aload_n dX12_wind_81 rfl rfl ?_
              refine zJ_iconst dX12_wind_82 zc_0 rfl ?_
              refine zK_puti (mi := mX12_wind) (la' := [(3457, m_fences), (3462, m_horses), (3466, m_plans), (3472, (0 : Int32)), (3473, (0 : Int32)), (3474, m_readn18), (3475, m_lengthn19), (3476, m_topn20), (3477, m_atn21), (3478, m_wrongn22), (3483, m_ruleSize), (3484, m_isAskedn23), (3485, m_askedHorsen24), (3486, m_askedFencen25), (3487, m_askedLettern26), (3488, m_askedHeightn27)]) zW_ok dX12_wind_83 F_X12_116 P_12_16 zW_54 rfl rfl rfl ?_
              refine zJ_aload_n dX12_wind_86 rfl rfl ?_
              refine zJ_lload dX12_wind_87 rfl rfl ?_
              refine zJ_ldc2_w (v := 100) dX12_wind_89 C_X12_449 rfl ?_
              refine zJ_iload_n dX12_wind_92 rfl rfl ?_
              obtain ⟨rn29, hcl, h⟩ := bd1_some h
              refine zJ_callS (mi := mX12_wind) (yi := mX12_power) (as := [.long (100 : Int64), .int p3]) (st := [.long rn5, .ref 54]) (L2 := ([(3457, m_fences), (3462, m_horses), (3466, m_plans), (3472, (0 : Int32)), (3473, (0 : Int32)), (3474, m_readn18), (3475, m_lengthn19), (3476, m_topn20), (3477, m_atn21), (3478, m_wrongn22), (3483, m_ruleSize), (3484, m_isAskedn23), (3485, m_askedHorsen24), (3486, m_askedFencen25), (3487, m_askedLettern26), (3488, m_askedHeightn27)], [(56, m_kind), (57, m_height), (58, m_feet), (59, m_stride), (60, m_scope), (61, m_care), (62, m_plan), (69, m_rule)], [(65, m_row), (84, m_fallingn28)])) dX12_wind_93 ML_X12_410 Ys_X12_power rfl (t_X12_power l _ hcl) (zsub_i zle_n zle_n zle_n) rfl (Nat.le_of_ble_eq_true rfl) (Nat.le_of_ble_eq_true rfl) rfl rfl ?_
              obtain ⟨m_rowManyn30, m_rown31, hcl, h⟩ := bd2_some h
              refine zJ_callV (mi := mX12_wind) (yi := mX12_tellPart) (as := [.long rn5, .long rn29]) (st := []) (L2 := ([(3457, m_fences), (3462, m_horses), (3466, m_plans), (3472, m_rowManyn30), (3473, (0 : Int32)), (3474, m_readn18), (3475, m_lengthn19), (3476, m_topn20), (3477, m_atn21), (3478, m_wrongn22), (3483, m_ruleSize), (3484, m_isAskedn23), (3485, m_askedHorsen24), (3486, m_askedFencen25), (3487, m_askedLettern26), (3488, m_askedHeightn27)], [(56, m_kind), (57, m_height), (58, m_feet), (59, m_stride), (60, m_scope), (61, m_care), (62, m_plan), (69, m_rule)], [(65, m_rown31), (84, m_fallingn28)])) dX12_wind_96 ML_X12_414 Yv_X12_tellPart rfl zW_54 rfl rfl (t_X12_tellPart l _ hcl) (zsub_i (zle_c rfl zle_n) zle_n (zle_c rfl zle_n)) rfl (Nat.le_of_ble_eq_true rfl) (Nat.le_of_ble_eq_true rfl) rfl rfl ?_
              refine zJ_aload_n dX12_wind_99 rfl rfl ?_
              refine zJ_lload dX12_wind_100 rfl rfl ?_
              refine zJ_ldc2_w (v := 100) dX12_wind_102 C_X12_449 rfl ?_
              refine zJ_iload_n dX12_wind_105 rfl rfl ?_
              obtain ⟨rn32, hcl, h⟩ := bd1_some h
              refine zJ_callS (mi := mX12_wind) (yi := mX12_power) (as := [.long (100 : Int64), .int p3]) (st := [.long rn17, .ref 54]) (L2 := ([(3457, m_fences), (3462, m_horses), (3466, m_plans), (3472, m_rowManyn30), (3473, (0 : Int32)), (3474, m_readn18), (3475, m_lengthn19), (3476, m_topn20), (3477, m_atn21), (3478, m_wrongn22), (3483, m_ruleSize), (3484, m_isAskedn23), (3485, m_askedHorsen24), (3486, m_askedFencen25), (3487, m_askedLettern26), (3488, m_askedHeightn27)], [(56, m_kind), (57, m_height), (58, m_feet), (59, m_stride), (60, m_scope), (61, m_care), (62, m_plan), (69, m_rule)], [(65, m_rown31), (84, m_fallingn28)])) dX12_wind_106 ML_X12_410 Ys_X12_power rfl (t_X12_power l _ hcl) (zsub_i zle_n zle_n zle_n) rfl (Nat.le_of_ble_eq_true rfl) (Nat.le_of_ble_eq_true rfl) rfl rfl ?_
              obtain ⟨m_rowManyn33, m_rown34, hcl, h⟩ := bd2_some h
              refine zJ_callV (mi := mX12_wind) (yi := mX12_tellPart) (as := [.long rn17, .long rn32]) (st := []) (L2 := ([(3457, m_fences), (3462, m_horses), (3466, m_plans), (3472, m_rowManyn33), (3473, (0 : Int32)), (3474, m_readn18), (3475, m_lengthn19), (3476, m_topn20), (3477, m_atn21), (3478, m_wrongn22), (3483, m_ruleSize), (3484, m_isAskedn23), (3485, m_askedHorsen24), (3486, m_askedFencen25), (3487, m_askedLettern26), (3488, m_askedHeightn27)], [(56, m_kind), (57, m_height), (58, m_feet), (59, m_stride), (60, m_scope), (61, m_care), (62, m_plan), (69, m_rule)], [(65, m_rown34), (84, m_fallingn28)])) dX12_wind_109 ML_X12_414 Yv_X12_tellPart rfl zW_54 rfl rfl (t_X12_tellPart l _ hcl) (zsub_i (zle_c rfl zle_n) zle_n (zle_c rfl zle_n)) rfl (Nat.le_of_ble_eq_true rfl) (Nat.le_of_ble_eq_true rfl) rfl rfl ?_
              refine zJ_lload dX12_wind_112 rfl rfl ?_
              refine zJ_lload dX12_wind_114 rfl rfl ?_
              refine zJ_lcmp dX12_wind_116 rfl ?_
              refine zJ_if_le (tgt := 124) dX12_wind_117 (by decide) rfl (fun hc => ?_) (fun hc => ?_)
              · replace h := it_t hc h
                refine zJ_iconst dX12_wind_124 zc_0 rfl ?_
                obtain ⟨rfl, rfl, rfl, rfl, rfl, rfl, rfl, rfl, rfl, rfl, rfl, rfl, rfl, rfl, rfl⟩ := so15 h
                exact zJ_iret dX12_wind_125 rfl rfl
              · replace h := it_f hc h
                refine zJ_iconst dX12_wind_120 zc_1 rfl ?_
                refine zJ_goto (tgt := 125) dX12_wind_121 (by decide) ?_
                obtain ⟨rfl, rfl, rfl, rfl, rfl, rfl, rfl, rfl, rfl, rfl, rfl, rfl, rfl, rfl, rfl⟩ := so15 h
                exact zJ_iret dX12_wind_125 rfl rfl
            · replace h := it_t hc h
              refine zJ_iconst dX12_wind_58 zc_m1 rfl ?_
              obtain ⟨rfl, rfl, rfl, rfl, rfl, rfl, rfl, rfl, rfl, rfl, rfl, rfl, rfl, rfl, rfl⟩ := so15 h
              exact zJ_iret dX12_wind_59 rfl rfl
