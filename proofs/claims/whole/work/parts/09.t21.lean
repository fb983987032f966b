set_option maxRecDepth 100000 in
set_option maxHeartbeats 4000000 in
theorem t_X12_isAhead_m_now (l : Launch) (σ : zS) {p1 : Int32} {p2 : Int32} {m_now : (Nat → Int32)} {r : Int32} (h : f_X12_isAhead_m_now p1 p2 m_now = some r) : zMt l zW 0 mX12_isAhead σ ([], [(55, m_now)], []) [.ref 55, .int p1, .int p2] (some (.int r)) ([], [(55, m_now)], []) := by
  refine zMt_of (ls := [(0, .ref 55), (1, .int p1), (2, .int p2)]) (by decide) rfl (fun _ => Nat.le_of_ble_eq_true rfl) rfl ?_
  unfold f_X12_isAhead_m_now at h
  refine zJ_aload_n dX12_isAhead_0 rfl rfl ?_
  refine zJ_iconst dX12_isAhead_1 zc_4 rfl ?_
  refine zJ_iload_n dX12_isAhead_2 rfl rfl ?_
  refine zJ_imul dX12_isAhead_3 rfl ?_
  refine zJ_iconst dX12_isAhead_4 zc_2 rfl ?_
  refine zJ_iadd dX12_isAhead_5 rfl ?_
  obtain ⟨hg, h⟩ := gd_some h
  refine zJ_iald (mi := mX12_isAhead) (f := m_now) dX12_isAhead_6 zW_55 (ix_in hg) rfl rfl ?_
  refine zJ_aload_n dX12_isAhead_7 rfl rfl ?_
  refine zJ_iconst dX12_isAhead_8 zc_4 rfl ?_
  refine zJ_iload_n dX12_isAhead_9 rfl rfl ?_
  refine zJ_imul dX12_isAhead_10 rfl ?_
  refine zJ_iconst dX12_isAhead_11 zc_2 rfl ?_
  refine zJ_iadd dX12_isAhead_12 rfl ?_
  obtain ⟨hg, h⟩ := gd_some h
  refine zJ_iald (mi := mX12_isAhead) (f := m_now) dX12_isAhead_13 zW_55 (ix_in hg) rfl rfl ?_
  refine zJ_isub dX12_isAhead_14 rfl ?_
  obtain ⟨v3n1, ev3n1, h⟩ := lt1_some h
  refine zJ_nmi ev3n1 ?_
  refine zJ_istore_n (ls' := [(3, .int v3n1), (0, .ref 55), (1, .int p1), (2, .int p2)]) dX12_isAhead_15 rfl rfl rfl ?_
  refine zJ_aload_n dX12_isAhead_16 rfl rfl ?_
  refine zJ_iconst dX12_isAhead_17 zc_4 rfl ?_
  refine zJ_iload_n dX12_isAhead_18 rfl rfl ?_
  refine zJ_imul dX12_isAhead_19 rfl ?_
  refine zJ_iconst dX12_isAhead_20 zc_3 rfl ?_
  refine zJ_iadd dX12_isAhead_21 rfl ?_
  obtain ⟨hg, h⟩ := gd_some h
  refine zJ_iald (mi := mX12_isAhead) (f := m_now) dX12_isAhead_22 zW_55 (ix_in hg) rfl rfl ?_
  refine zJ_aload_n dX12_isAhead_23 rfl rfl ?_
  refine zJ_iconst dX12_isAhead_24 zc_4 rfl ?_
  refine zJ_iload_n dX12_isAhead_25 rfl rfl ?_
  refine zJ_imul dX12_isAhead_26 rfl ?_
  refine zJ_iconst dX12_isAhead_27 zc_3 rfl ?_
  refine zJ_iadd dX12_isAhead_28 rfl ?_
  obtain ⟨hg, h⟩ := gd_some h
  refine zJ_iald (mi := mX12_isAhead) (f := m_now) dX12_isAhead_29 zW_55 (ix_in hg) rfl rfl ?_
  refine zJ_isub dX12_isAhead_30 rfl ?_
  obtain ⟨v4n2, ev4n2, h⟩ := lt1_some h
  refine zJ_nmi ev4n2 ?_
  refine zJ_istore (ls' := [(4, .int v4n2), (3, .int v3n1), (0, .ref 55), (1, .int p1), (2, .int p2)]) dX12_isAhead_31 rfl rfl rfl ?_
  refine zJ_iload_n dX12_isAhead_33 rfl rfl ?_
  refine zJ_if_lt (tgt := 56) dX12_isAhead_34 (by decide) rfl (fun hc => ?_) (fun hc => ?_)
  · replace h := it_t hc h
    refine zJ_iconst dX12_isAhead_56 zc_1 rfl ?_
    refine zJ_goto (tgt := 61) dX12_isAhead_57 (by decide) ?_
    obtain rfl := so1 h
    exact zJ_iret dX12_isAhead_61 rfl (by decide)
  · replace h := it_f hc h
    refine zJ_iload_n dX12_isAhead_37 rfl rfl ?_
    refine zJ_if_ne (tgt := 60) dX12_isAhead_38 (by decide) rfl (fun hc => ?_) (fun hc => ?_)
    · replace h := it_f hc h
      refine zJ_iconst dX12_isAhead_60 zc_0 rfl ?_
      obtain rfl := so1 h
      exact zJ_iret dX12_isAhead_61 rfl (by decide)
    · replace h := it_t hc h
      refine zJ_iload dX12_isAhead_41 rfl rfl ?_
      refine zJ_if_lt (tgt := 56) dX12_isAhead_43 (by decide) rfl (fun hc => ?_) (fun hc => ?_)
      · replace h := it_t hc h
        refine zJ_iconst dX12_isAhead_56 zc_1 rfl ?_
        refine zJ_goto (tgt := 61) dX12_isAhead_57 (by decide) ?_
        obtain rfl := so1 h
        exact zJ_iret dX12_isAhead_61 rfl (by decide)
      · replace h := it_f hc h
        refine zJ_iload dX12_isAhead_46 rfl rfl ?_
        refine zJ_if_ne (tgt := 60) dX12_isAhead_48 (by decide) rfl (fun hc => ?_) (fun hc => ?_)
        · replace h := it_f hc h
          refine zJ_iconst dX12_isAhead_60 zc_0 rfl ?_
          obtain rfl := so1 h
          exact zJ_iret dX12_isAhead_61 rfl (by decide)
        · replace h := it_t hc h
          refine zJ_iload_n dX12_isAhead_51 rfl rfl ?_
          refine zJ_iload_n dX12_isAhead_52 rfl rfl ?_
          refine zJ_icmp_ge (tgt := 60) dX12_isAhead_53 (by decide) rfl (fun hc => ?_) (fun hc => ?_)
          · replace h := it_t hc h
            refine zJ_iconst dX12_isAhead_60 zc_0 rfl ?_
            obtain rfl := so1 h
            exact zJ_iret dX12_isAhead_61 rfl (by decide)
          · replace h := it_f hc h
            refine zJ_iconst dX12_isAhead_56 zc_1 rfl ?_
            refine zJ_goto (tgt := 61) dX12_isAhead_57 (by decide) ?_
            obtain rfl := so1 h
            exact zJ_iret dX12_isAhead_61 rfl (by decide)
set_option maxRecDepth 100000 in
set_option maxHeartbeats 4000000 in
theorem t_X12_isAhead_m_then (l : Launch) (σ : zS) {p1 : Int32} {p2 : Int32} {m_then : (Nat → Int32)} {r : Int32} (h : f_X12_isAhead_m_then p1 p2 m_then = some r) : zMt l zW 0 mX12_isAhead σ ([], [(77, m_then)], []) [.ref 77, .int p1, .int p2] (some (.int r)) ([], [(77, m_then)], []) := by
  refine zMt_of (ls := [(0, .ref 77), (1, .int p1), (2, .int p2)]) (by decide) rfl (fun _ => Nat.le_of_ble_eq_true rfl) rfl ?_
  unfold f_X12_isAhead_m_then at h
  refine zJ_aload_n dX12_isAhead_0 rfl rfl ?_
  refine zJ_iconst dX12_isAhead_1 zc_4 rfl ?_
  refine zJ_iload_n dX12_isAhead_2 rfl rfl ?_
  refine zJ_imul dX12_isAhead_3 rfl ?_
  refine zJ_iconst dX12_isAhead_4 zc_2 rfl ?_
  refine zJ_iadd dX12_isAhead_5 rfl ?_
  obtain ⟨hg, h⟩ := gd_some h
  refine zJ_iald (mi := mX12_isAhead) (f := m_then) dX12_isAhead_6 zW_77 (ix_in hg) rfl rfl ?_
  refine zJ_aload_n dX12_isAhead_7 rfl rfl ?_
  refine zJ_iconst dX12_isAhead_8 zc_4 rfl ?_
  refine zJ_iload_n dX12_isAhead_9 rfl rfl ?_
  refine zJ_imul dX12_isAhead_10 rfl ?_
  refine zJ_iconst dX12_isAhead_11 zc_2 rfl ?_
  refine zJ_iadd dX12_isAhead_12 rfl ?_
  obtain ⟨hg, h⟩ := gd_some h
  refine zJ_iald (mi := mX12_isAhead) (f := m_then) dX12_isAhead_13 zW_77 (ix_in hg) rfl rfl ?_
  refine zJ_isub dX12_isAhead_14 rfl ?_
  obtain ⟨v3n1, ev3n1, h⟩ := lt1_some h
  refine zJ_nmi ev3n1 ?_
  refine zJ_istore_n (ls' := [(3, .int v3n1), (0, .ref 77), (1, .int p1), (2, .int p2)]) dX12_isAhead_15 rfl rfl rfl ?_
  refine zJ_aload_n dX12_isAhead_16 rfl rfl ?_
  refine zJ_iconst dX12_isAhead_17 zc_4 rfl ?_
  refine zJ_iload_n dX12_isAhead_18 rfl rfl ?_
  refine zJ_imul dX12_isAhead_19 rfl ?_
  refine zJ_iconst dX12_isAhead_20 zc_3 rfl ?_
  refine zJ_iadd dX12_isAhead_21 rfl ?_
  obtain ⟨hg, h⟩ := gd_some h
  refine zJ_iald (mi := mX12_isAhead) (f := m_then) dX12_isAhead_22 zW_77 (ix_in hg) rfl rfl ?_
  refine zJ_aload_n dX12_isAhead_23 rfl rfl ?_
  refine zJ_iconst dX12_isAhead_24 zc_4 rfl ?_
  refine zJ_iload_n dX12_isAhead_25 rfl rfl ?_
  refine zJ_imul dX12_isAhead_26 rfl ?_
  refine zJ_iconst dX12_isAhead_27 zc_3 rfl ?_
  refine zJ_iadd dX12_isAhead_28 rfl ?_
  obtain ⟨hg, h⟩ := gd_some h
  refine zJ_iald (mi := mX12_isAhead) (f := m_then) dX12_isAhead_29 zW_77 (ix_in hg) rfl rfl ?_
  refine zJ_isub dX12_isAhead_30 rfl ?_
  obtain ⟨v4n2, ev4n2, h⟩ := lt1_some h
  refine zJ_nmi ev4n2 ?_
  refine zJ_istore (ls' := [(4, .int v4n2), (3, .int v3n1), (0, .ref 77), (1, .int p1), (2, .int p2)]) dX12_isAhead_31 rfl rfl rfl ?_
  refine zJ_iload_n dX12_isAhead_33 rfl rfl ?_
  refine zJ_if_lt (tgt := 56) dX12_isAhead_34 (by decide) rfl (fun hc => ?_) (fun hc => ?_)
  · replace h := it_t hc h
    refine zJ_iconst dX12_isAhead_56 zc_1 rfl ?_
    refine zJ_goto (tgt := 61) dX12_isAhead_57 (by decide) ?_
    obtain rfl := so1 h
    exact zJ_iret dX12_isAhead_61 rfl (by decide)
  · replace h := it_f hc h
    refine zJ_iload_n dX12_isAhead_37 rfl rfl ?_
    refine zJ_if_ne (tgt := 60) dX12_isAhead_38 (by decide) rfl (fun hc => ?_) (fun hc => ?_)
    · replace h := it_f hc h
      refine zJ_iconst dX12_isAhead_60 zc_0 rfl ?_
      obtain rfl := so1 h
      exact zJ_iret dX12_isAhead_61 rfl (by decide)
    · replace h := it_t hc h
      refine zJ_iload dX12_isAhead_41 rfl rfl ?_
      refine zJ_if_lt (tgt := 56) dX12_isAhead_43 (by decide) rfl (fun hc => ?_) (fun hc => ?_)
      · replace h := it_t hc h
        refine zJ_iconst dX12_isAhead_56 zc_1 rfl ?_
        refine zJ_goto (tgt := 61) dX12_isAhead_57 (by decide) ?_
        obtain rfl := so1 h
        exact zJ_iret dX12_isAhead_61 rfl (by decide)
      · replace h := it_f hc h
        refine zJ_iload dX12_isAhead_46 rfl rfl ?_
        refine zJ_if_ne (tgt := 60) dX12_isAhead_48 (by decide) rfl (fun hc => ?_) (fun hc => ?_)
        · replace h := it_f hc h
          refine zJ_iconst dX12_isAhead_60 zc_0 rfl ?_
          obtain rfl := so1 h
          exact zJ_iret dX12_isAhead_61 rfl (by decide)
        · replace h := it_t hc h
          refine zJ_iload_n dX12_isAhead_51 rfl rfl ?_
          refine zJ_iload_n dX12_isAhead_52 rfl rfl ?_
          refine zJ_icmp_ge (tgt := 60) dX12_isAhead_53 (by decide) rfl (fun hc => ?_) (fun hc => ?_)
          · replace h := it_t hc h
            refine zJ_iconst dX12_isAhead_60 zc_0 rfl ?_
            obtain rfl := so1 h
            exact zJ_iret dX12_isAhead_61 rfl (by decide)
          · replace h := it_f hc h
            refine zJ_iconst dX12_isAhead_56 zc_1 rfl ?_
            refine zJ_goto (tgt := 61) dX12_isAhead_57 (by decide) ?_
            obtain rfl := so1 h
            exact zJ_iret dX12_isAhead_61 rfl (by decide)
set_option maxRecDepth 100000 in
set_option maxHeartbeats 4000000 in
theorem t_X12_jump (l : Launch) (σ : zS) {p1 : Int32} {p2 : Int32} {p3 : Int32} {m_fences : Int32} {m_horses : Int32} {m_rowMany : Int32} {m_thrown : Int32} {m_read : Int32} {m_length : Int32} {m_top : Int32} {m_at : Int32} {m_wrong : Int32} {m_ruleSize : Int32} {m_isAsked : Int32} {m_askedHorse : Int32} {m_askedFence : Int32} {m_askedLetter : Int32} {m_askedHeight : Int32} {m_kind : (Nat → Int32)} {m_height : (Nat → Int32)} {m_feet : (Nat → Int32)} {m_stride : (Nat → Int32)} {m_scope : (Nat → Int32)} {m_care : (Nat → Int32)} {m_rule : (Nat → Int32)} {m_row : (Nat → Int64)} {r : Int32} {w_m_rowMany : Int32} {w_m_thrown : Int32} {w_m_read : Int32} {w_m_length : Int32} {w_m_top : Int32} {w_m_at : Int32} {w_m_wrong : Int32} {w_m_isAsked : Int32} {w_m_askedHorse : Int32} {w_m_askedFence : Int32} {w_m_askedLetter : Int32} {w_m_askedHeight : Int32} {w_m_row : (Nat → Int64)} (h : f_X12_jump p1 p2 p3 m_fences m_horses m_rowMany m_thrown m_read m_length m_top m_at m_wrong m_ruleSize m_isAsked m_askedHorse m_askedFence m_askedLetter m_askedHeight m_kind m_height m_feet m_stride m_scope m_care m_rule m_row = some (r, w_m_rowMany, w_m_thrown, w_m_read, w_m_length, w_m_top, w_m_at, w_m_wrong, w_m_isAsked, w_m_askedHorse, w_m_askedFence, w_m_askedLetter, w_m_askedHeight, w_m_row)) : zMt l zW 207 mX12_jump σ ([(3457, m_fences), (3462, m_horses), (3472, m_rowMany), (3473, m_thrown), (3474, m_read), (3475, m_length), (3476, m_top), (3477, m_at), (3478, m_wrong), (3483, m_ruleSize), (3484, m_isAsked), (3485, m_askedHorse), (3486, m_askedFence), (3487, m_askedLetter), (3488, m_askedHeight)], [(56, m_kind), (57, m_height), (58, m_feet), (59, m_stride), (60, m_scope), (61, m_care), (69, m_rule)], [(65, m_row)]) [.ref 54, .int p1, .int p2, .int p3] (some (.int r)) ([(3457, m_fences), (3462, m_horses), (3472, w_m_rowMany), (3473, w_m_thrown), (3474, w_m_read), (3475, w_m_length), (3476, w_m_top), (3477, w_m_at), (3478, w_m_wrong), (3483, m_ruleSize), (3484, w_m_isAsked), (3485, w_m_askedHorse), (3486, w_m_askedFence), (3487, w_m_askedLetter), (3488, w_m_askedHeight)], [(56, m_kind), (57, m_height), (58, m_feet), (59, m_stride), (60, m_scope), (61, m_care), (69, m_rule)], [(65, w_m_row)]) := by
  refine zMt_of (ls := [(0, .ref 54), (1, .int p1), (2, .int p2), (3, .int p3)]) (by decide) rfl (fun _ => Nat.le_of_ble_eq_true rfl) rfl ?_
  unfold f_X12_jump at h
  refine zJ_aload_n dX12_jump_0 rfl rfl ?_
  refine zJ_iconst dX12_jump_1 zc_0 rfl ?_
  refine zK_puti (mi := mX12_jump) (la' := [(3457, m_fences), (3462, m_horses), (3472, m_rowMany), (3473, (0 : Int32)), (3474, m_read), (3475, m_length), (3476, m_top), (3477, m_at), (3478, m_wrong), (3483, m_ruleSize), (3484, m_isAsked), (3485, m_askedHorse), (3486, m_askedFence), (3487, m_askedLetter), (3488, m_askedHeight)]) zW_ok dX12_jump_2 F_X12_113 P_12_17 zW_54 rfl rfl rfl ?_
  refine zJ_aload_n dX12_jump_5 rfl rfl ?_
  refine zJ_iload_n dX12_jump_6 rfl rfl ?_
  obtain ⟨rn1, hcl, h⟩ := bd1_some h
  refine zJ_callV (mi := mX12_jump) (yi := mX12_isHorse) (as := [.int p1]) (st := []) (L2 := ([(3457, m_fences), (3462, m_horses), (3472, m_rowMany), (3473, (0 : Int32)), (3474, m_read), (3475, m_length), (3476, m_top), (3477, m_at), (3478, m_wrong), (3483, m_ruleSize), (3484, m_isAsked), (3485, m_askedHorse), (3486, m_askedFence), (3487, m_askedLetter), (3488, m_askedHeight)], [(56, m_kind), (57, m_height), (58, m_feet), (59, m_stride), (60, m_scope), (61, m_care), (69, m_rule)], [(65, m_row)])) dX12_jump_7 ML_X12_132 Yv_X12_isHorse rfl zW_54 rfl rfl (t_X12_isHorse l _ hcl) (zsub_i (zle_c rfl zle_n) zle_n zle_n) rfl (Nat.le_of_ble_eq_true rfl) (Nat.le_of_ble_eq_true rfl) rfl rfl ?_
  refine zJ_if_eq (tgt := 31) dX12_jump_10 (by decide) rfl (fun hc => ?_) (fun hc => ?_)
  · replace h := it_t hc h
    refine zJ_iconst dX12_jump_31 zc_m1 rfl ?_
    obtain ⟨rfl, rfl, rfl, rfl, rfl, rfl, rfl, rfl, rfl, rfl, rfl, rfl, rfl, rfl⟩ := so14 h
    exact zJ_iret dX12_jump_32 rfl rfl
  · replace h := it_f hc h
    refine zJ_aload_n dX12_jump_13 rfl rfl ?_
    refine zJ_iload_n dX12_jump_14 rfl rfl ?_
    obtain ⟨rn2, hcl, h⟩ := bd1_some h
    refine zJ_callV (mi := mX12_jump) (yi := mX12_isFence) (as := [.int p2]) (st := []) (L2 := ([(3457, m_fences), (3462, m_horses), (3472, m_rowMany), (3473, (0 : Int32)), (3474, m_read), (3475, m_length), (3476, m_top), (3477, m_at), (3478, m_wrong), (3483, m_ruleSize), (3484, m_isAsked), (3485, m_askedHorse), (3486, m_askedFence), (3487, m_askedLetter), (3488, m_askedHeight)], [(56, m_kind), (57, m_height), (58, m_feet), (59, m_stride), (60, m_scope), (61, m_care), (69, m_rule)], [(65, m_row)])) dX12_jump_15 ML_X12_250 Yv_X12_isFence rfl zW_54 rfl rfl (t_X12_isFence l _ hcl) (zsub_i (zle_c rfl zle_n) zle_n zle_n) rfl (Nat.le_of_ble_eq_true rfl) (Nat.le_of_ble_eq_true rfl) rfl rfl ?_
    refine zJ_if_eq (tgt := 31) dX12_jump_18 (by decide) rfl (fun hc => ?_) (fun hc => ?_)
    · replace h := it_t hc h
      refine zJ_iconst dX12_jump_31 zc_m1 rfl ?_
      obtain ⟨rfl, rfl, rfl, rfl, rfl, rfl, rfl, rfl, rfl, rfl, rfl, rfl, rfl, rfl⟩ := so14 h
      exact zJ_iret dX12_jump_32 rfl rfl
    · replace h := it_f hc h
      refine zJ_iload_n dX12_jump_21 rfl rfl ?_
      refine zJ_iconst dX12_jump_22 zc_0 rfl ?_
      refine zJ_bipush dX12_jump_23 zb_7 rfl ?_
      obtain ⟨rn3, hcl, h⟩ := bd1_some h
      refine zJ_callS (mi := mX12_jump) (yi := mX12_in) (as := [.int p3, .int (0 : Int32), .int (7 : Int32)]) (st := []) (L2 := ([(3457, m_fences), (3462, m_horses), (3472, m_rowMany), (3473, (0 : Int32)), (3474, m_read), (3475, m_length), (3476, m_top), (3477, m_at), (3478, m_wrong), (3483, m_ruleSize), (3484, m_isAsked), (3485, m_askedHorse), (3486, m_askedFence), (3487, m_askedLetter), (3488, m_askedHeight)], [(56, m_kind), (57, m_height), (58, m_feet), (59, m_stride), (60, m_scope), (61, m_care), (69, m_rule)], [(65, m_row)])) dX12_jump_25 ML_X12_122 Ys_X12_in rfl (t_X12_in l _ hcl) (zsub_i zle_n zle_n zle_n) rfl (Nat.le_of_ble_eq_true rfl) (Nat.le_of_ble_eq_true rfl) rfl rfl ?_
      refine zJ_if_ne (tgt := 33) dX12_jump_28 (by decide) rfl (fun hc => ?_) (fun hc => ?_)
      · replace h := it_f hc h
        refine zJ_aload_n dX12_jump_33 rfl rfl ?_
        refine zJ_iload_n dX12_jump_34 rfl rfl ?_
        refine zJ_iload_n dX12_jump_35 rfl rfl ?_
        refine zJ_iload_n dX12_jump_36 rfl rfl ?_
        obtain ⟨rn4, m_readn5, m_lengthn6, m_topn7, m_atn8, m_wrongn9, m_isAskedn10, m_askedHorsen11, m_askedFencen12, m_askedLettern13, m_askedHeightn14, hcl, h⟩ := bd11_some h
        refine zJ_callV (mi := mX12_jump) (yi := mX12_oddsOf_) (as := [.int p1, .int p2, .int p3]) (st := []) (L2 := ([(3457, m_fences), (3462, m_horses), (3472, m_rowMany), (3473, (0 : Int32)), (3474, m_readn5), (3475, m_lengthn6), (3476, m_topn7), (3477, m_atn8), (3478, m_wrongn9), (3483, m_ruleSize), (3484, m_isAskedn10), (3485, m_askedHorsen11), (3486, m_askedFencen12), (3487, m_askedLettern13), (3488, m_askedHeightn14)], [(56, m_kind), (57, m_height), (58, m_feet), (59, m_stride), (60, m_scope), (61, m_care), (69, m_rule)], [(65, m_row)])) dX12_jump_37 ML_X12_259 Yv_X12_oddsOf_ rfl zW_54 rfl rfl (t_X12_oddsOf_ l _ hcl) (zsub_i (zle_c rfl (zle_c rfl (zle_c rfl (zle_c rfl (zle_c rfl (zle_c rfl (zle_c rfl (zle_c rfl (zle_c rfl (zle_c rfl (zle_c rfl zle_n))))))))))) (zle_c rfl (zle_c rfl (zle_c rfl (zle_c rfl (zle_c rfl (zle_c rfl (zle_c rfl zle_n))))))) zle_n) rfl (Nat.le_of_ble_eq_true rfl) (Nat.le_of_ble_eq_true rfl) rfl rfl ?_
        refine zJ_istore (ls' := [(4, .int rn4), (0, .ref 54), (1, .int p1), (2, .int p2), (3, .int p3)]) dX12_jump_40 rfl rfl rfl ?_
        refine zJ_aload_n dX12_jump_42 rfl rfl ?_
        refine zJ_iconst dX12_jump_43 zc_0 rfl ?_
        refine zK_puti (mi := mX12_jump) (la' := [(3457, m_fences), (3462, m_horses), (3472, (0 : Int32)), (3473, (0 : Int32)), (3474, m_readn5), (3475, m_lengthn6), (3476, m_topn7), (3477, m_atn8), (3478, m_wrongn9), (3483, m_ruleSize), (3484, m_isAskedn10), (3485, m_askedHorsen11), (3486, m_askedFencen12), (3487, m_askedLettern13), (3488, m_askedHeightn14)]) zW_ok dX12_jump_44 F_X12_116 P_12_16 zW_54 rfl rfl rfl ?_
        refine zJ_aload_n dX12_jump_47 rfl rfl ?_
        refine zJ_aload_n dX12_jump_48 rfl rfl ?_
        refine zJ_iload_n dX12_jump_49 rfl rfl ?_
        refine zJ_iload_n dX12_jump_50 rfl rfl ?_
        obtain ⟨rn15, hcl, h⟩ := bd1_some h
        refine zJ_callV (mi := mX12_jump) (yi := mX12_refusalOf) (as := [.int p1, .int p2]) (st := [.ref 54]) (L2 := ([(3457, m_fences), (3462, m_horses), (3472, (0 : Int32)), (3473, (0 : Int32)), (3474, m_readn5), (3475, m_lengthn6), (3476, m_topn7), (3477, m_atn8), (3478, m_wrongn9), (3483, m_ruleSize), (3484, m_isAskedn10), (3485, m_askedHorsen11), (3486, m_askedFencen12), (3487, m_askedLettern13), (3488, m_askedHeightn14)], [(56, m_kind), (57, m_height), (58, m_feet), (59, m_stride), (60, m_scope), (61, m_care), (69, m_rule)], [(65, m_row)])) dX12_jump_51 ML_X12_262 Yv_X12_refusalOf rfl zW_54 rfl rfl (t_X12_refusalOf l _ hcl) (zsub_i zle_n (zle_c rfl (zle_c rfl (zle_c rfl (zle_c rfl zle_n)))) zle_n) rfl (Nat.le_of_ble_eq_true rfl) (Nat.le_of_ble_eq_true rfl) rfl rfl ?_
        refine zJ_i2l dX12_jump_54 rfl ?_
        obtain ⟨m_rowManyn16, m_rown17, hcl, h⟩ := bd2_some h
        refine zJ_callV (mi := mX12_jump) (yi := mX12_tell) (as := [.long rn15.toInt64]) (st := []) (L2 := ([(3457, m_fences), (3462, m_horses), (3472, m_rowManyn16), (3473, (0 : Int32)), (3474, m_readn5), (3475, m_lengthn6), (3476, m_topn7), (3477, m_atn8), (3478, m_wrongn9), (3483, m_ruleSize), (3484, m_isAskedn10), (3485, m_askedHorsen11), (3486, m_askedFencen12), (3487, m_askedLettern13), (3488, m_askedHeightn14)], [(56, m_kind), (57, m_height), (58, m_feet), (59, m_stride), (60, m_scope), (61, m_care), (69, m_rule)], [(65, m_rown17)])) dX12_jump_55 ML_X12_265 Yv_X12_tell rfl zW_54 rfl rfl (t_X12_tell l _ hcl) (zsub_i (zle_c rfl zle_n) zle_n (zle_c rfl zle_n)) rfl (Nat.le_of_ble_eq_true rfl) (Nat.le_of_ble_eq_true rfl) rfl rfl ?_
        refine zJ_aload_n dX12_jump_58 rfl rfl ?_
        refine zJ_aload_n dX12_jump_59 rfl rfl ?_
        refine zJ_iload_n dX12_jump_60 rfl rfl ?_
        refine zJ_iload_n dX12_jump_61 rfl rfl ?_
        obtain ⟨rn18, hcl, h⟩ := bd1_some h
        refine zJ_callV (mi := mX12_jump) (yi := mX12_tenthsOf) (as := [.int p2, .int p3]) (st := [.ref 54]) (L2 := ([(3457, m_fences), (3462, m_horses), (3472, m_rowManyn16), (3473, (0 : Int32)), (3474, m_readn5), (3475, m_lengthn6), (3476, m_topn7), (3477, m_atn8), (3478, m_wrongn9), (3483, m_ruleSize), (3484, m_isAskedn10), (3485, m_askedHorsen11), (3486, m_askedFencen12), (3487, m_askedLettern13), (3488, m_askedHeightn14)], [(56, m_kind), (57, m_height), (58, m_feet), (59, m_stride), (60, m_scope), (61, m_care), (69, m_rule)], [(65, m_rown17)])) dX12_jump_62 ML_X12_269 Yv_X12_tenthsOf rfl zW_54 rfl rfl (t_X12_tenthsOf l _ hcl) (zsub_i zle_n (zle_c rfl (zle_c rfl zle_n)) zle_n) rfl (Nat.le_of_ble_eq_true rfl) (Nat.le_of_ble_eq_true rfl) rfl rfl ?_
        refine zJ_i2l dX12_jump_65 rfl ?_
        obtain ⟨m_rowManyn19, m_rown20, hcl, h⟩ := bd2_some h
        refine zJ_callV (mi := mX12_jump) (yi := mX12_tell) (as := [.long rn18.toInt64]) (st := []) (L2 := ([(3457, m_fences), (3462, m_horses), (3472, m_rowManyn19), (3473, (0 : Int32)), (3474, m_readn5), (3475, m_lengthn6), (3476, m_topn7), (3477, m_atn8), (3478, m_wrongn9), (3483, m_ruleSize), (3484, m_isAskedn10), (3485, m_askedHorsen11), (3486, m_askedFencen12), (3487, m_askedLettern13), (3488, m_askedHeightn14)], [(56, m_kind), (57, m_height), (58, m_feet), (59, m_stride), (60, m_scope), (61, m_care), (69, m_rule)], [(65, m_rown20)])) dX12_jump_66 ML_X12_265 Yv_X12_tell rfl zW_54 rfl rfl (t_X12_tell l _ hcl) (zsub_i (zle_c rfl zle_n) zle_n (zle_c rfl zle_n)) rfl (Nat.le_of_ble_eq_true rfl) (Nat.le_of_ble_eq_true rfl) rfl rfl ?_
        refine zJ_aload_n dX12_jump_69 rfl rfl ?_
        refine zJ_aload_n dX12_jump_70 rfl rfl ?_
        refine zJ_iload_n dX12_jump_71 rfl rfl ?_
        refine zJ_aload_n dX12_jump_72 rfl rfl ?_
        refine zJ_getr (mi := mX12_jump) dX12_jump_73 F_X12_19 zW_54 rfl rfl ?_
        refine zJ_iload_n dX12_jump_76 rfl rfl ?_
        obtain ⟨hg, h⟩ := gd_some h
        refine zJ_iald (mi := mX12_jump) (f := m_feet) dX12_jump_77 zW_58 (ix_in hg) rfl rfl ?_
        obtain ⟨rn21, hcl, h⟩ := bd1_some h
        refine zJ_callV (mi := mX12_jump) (yi := mX12_leanOf) (as := [.int p1, .int (m_feet p2.toNatClampNeg)]) (st := [.ref 54]) (L2 := ([(3457, m_fences), (3462, m_horses), (3472, m_rowManyn19), (3473, (0 : Int32)), (3474, m_readn5), (3475, m_lengthn6), (3476, m_topn7), (3477, m_atn8), (3478, m_wrongn9), (3483, m_ruleSize), (3484, m_isAskedn10), (3485, m_askedHorsen11), (3486, m_askedFencen12), (3487, m_askedLettern13), (3488, m_askedHeightn14)], [(56, m_kind), (57, m_height), (58, m_feet), (59, m_stride), (60, m_scope), (61, m_care), (69, m_rule)], [(65, m_rown20)])) dX12_jump_78 ML_X12_232 Yv_X12_leanOf rfl zW_54 rfl rfl (t_X12_leanOf l _ hcl) (zsub_i zle_n (zle_c rfl zle_n) zle_n) rfl (Nat.le_of_ble_eq_true rfl) (Nat.le_of_ble_eq_true rfl) rfl rfl ?_
        refine zJ_i2l dX12_jump_81 rfl ?_
        obtain ⟨m_rowManyn22, m_rown23, hcl, h⟩ := bd2_some h
        refine zJ_callV (mi := mX12_jump) (yi := mX12_tell) (as := [.long rn21.toInt64]) (st := []) (L2 := ([(3457, m_fences), (3462, m_horses), (3472, m_rowManyn22), (3473, (0 : Int32)), (3474, m_readn5), (3475, m_lengthn6), (3476, m_topn7), (3477, m_atn8), (3478, m_wrongn9), (3483, m_ruleSize), (3484, m_isAskedn10), (3485, m_askedHorsen11), (3486, m_askedFencen12), (3487, m_askedLettern13), (3488, m_askedHeightn14)], [(56, m_kind), (57, m_height), (58, m_feet), (59, m_stride), (60, m_scope), (61, m_care), (69, m_rule)], [(65, m_rown23)])) dX12_jump_82 ML_X12_265 Yv_X12_tell rfl zW_54 rfl rfl (t_X12_tell l _ hcl) (zsub_i (zle_c rfl zle_n) zle_n (zle_c rfl zle_n)) rfl (Nat.le_of_ble_eq_true rfl) (Nat.le_of_ble_eq_true rfl) rfl rfl ?_
        refine zJ_iload dX12_jump_85 rfl rfl ?_
        obtain ⟨rfl, rfl, rfl, rfl, rfl, rfl, rfl, rfl, rfl, rfl, rfl, rfl, rfl, rfl⟩ := so14 h
        exact zJ_iret dX12_jump_87 rfl rfl
      · replace h := it_t hc h
        refine zJ_iconst dX12_jump_31 zc_m1 rfl ?_
        obtain ⟨rfl, rfl, rfl, rfl, rfl, rfl, rfl, rfl, rfl, rfl, rfl, rfl, rfl, rfl⟩ := so14 h
        exact zJ_iret dX12_jump_32 rfl rfl
set_option maxRecDepth 100000 in
set_option maxHeartbeats 4000000 in
theorem t_X12_justFall (l : Launch) (σ : zS) {p1 : Int32} {p2 : Int32} {p3 : Int32} {p4 : Int32} {m_read : Int32} {m_length : Int32} {m_top : Int32} {m_at : Int32} {m_wrong : Int32} {m_ruleSize : Int32} {m_isAsked : Int32} {m_askedHorse : Int32} {m_askedFence : Int32} {m_askedLetter : Int32} {m_askedHeight : Int32} {m_kind : (Nat → Int32)} {m_height : (Nat → Int32)} {m_feet : (Nat → Int32)} {m_stride : (Nat → Int32)} {m_scope : (Nat → Int32)} {m_care : (Nat → Int32)} {m_plan : (Nat → Int32)} {m_rule : (Nat → Int32)} {m_falling : (Nat → Int64)} {r : Int64} {w_m_read : Int32} {w_m_length : Int32} {w_m_top : Int32} {w_m_at : Int32} {w_m_wrong : Int32} {w_m_isAsked : Int32} {w_m_askedHorse : Int32} {w_m_askedFence : Int32} {w_m_askedLetter : Int32} {w_m_askedHeight : Int32} {w_m_falling : (Nat → Int64)} (h : f_X12_justFall p1 p2 p3 p4 m_read m_length m_top m_at m_wrong m_ruleSize m_isAsked m_askedHorse m_askedFence m_askedLetter m_askedHeight m_kind m_height m_feet m_stride m_scope m_care m_plan m_rule m_falling = some (r, w_m_read, w_m_length, w_m_top, w_m_at, w_m_wrong, w_m_isAsked, w_m_askedHorse, w_m_askedFence, w_m_askedLetter, w_m_askedHeight, w_m_falling)) : zMt l zW 207 mX12_justFall σ ([(3474, m_read), (3475, m_length), (3476, m_top), (3477, m_at), (3478, m_wrong), (3483, m_ruleSize), (3484, m_isAsked), (3485, m_askedHorse), (3486, m_askedFence), (3487, m_askedLetter), (3488, m_askedHeight)], [(56, m_kind), (57, m_height), (58, m_feet), (59, m_stride), (60, m_scope), (61, m_care), (62, m_plan), (69, m_rule)], [(84, m_falling)]) [.ref 54, .int p1, .int p2, .int p3, .int p4] (some (.long r)) ([(3474, w_m_read), (3475, w_m_length), (3476, w_m_top), (3477, w_m_at), (3478, w_m_wrong), (3483, m_ruleSize), (3484, w_m_isAsked), (3485, w_m_askedHorse), (3486, w_m_askedFence), (3487, w_m_askedLetter), (3488, w_m_askedHeight)], [(56, m_kind), (57, m_height), (58, m_feet), (59, m_stride), (60, m_scope), (61, m_care), (62, m_plan), (69, m_rule)], [(84, w_m_falling)]) := by
  refine zMt_of (ls := [(0, .ref 54), (1, .int p1), (2, .int p2), (3, .int p3), (4, .int p4)]) (by decide) rfl (fun _ => Nat.le_of_ble_eq_true rfl) rfl ?_
  unfold f_X12_justFall at h
  refine zJ_iconst dX12_justFall_0 zc_0 rfl ?_
  refine zJ_istore (ls' := [(5, .int (0 : Int32)), (0, .ref 54), (1, .int p1), (2, .int p2), (3, .int p3), (4, .int p4)]) dX12_justFall_1 rfl rfl rfl ?_
  have hk3 : ∀ (m_falling_3x : (Nat → Int64)), k_X12_justFall_3 p1 p2 p3 p4 m_read m_length m_top m_at m_wrong m_ruleSize m_isAsked m_askedHorse m_askedFence m_askedLetter m_askedHeight m_kind m_height m_feet m_stride m_scope m_care m_plan m_rule m_falling_3x = some (r, w_m_read, w_m_length, w_m_top, w_m_at, w_m_wrong, w_m_isAsked, w_m_askedHorse, w_m_askedFence, w_m_askedLetter, w_m_askedHeight, w_m_falling) → zJ l zW 207 mX12_justFall σ ([(3474, m_read), (3475, m_length), (3476, m_top), (3477, m_at), (3478, m_wrong), (3483, m_ruleSize), (3484, m_isAsked), (3485, m_askedHorse), (3486, m_askedFence), (3487, m_askedLetter), (3488, m_askedHeight)], [(56, m_kind), (57, m_height), (58, m_feet), (59, m_stride), (60, m_scope), (61, m_care), (62, m_plan), (69, m_rule)], [(84, m_falling_3x)]) 33 [(0, .ref 54), (1, .int p1), (2, .int p2), (3, .int p3), (4, .int p4)] [] (some (.long r)) ([(3474, w_m_read), (3475, w_m_length), (3476, w_m_top), (3477, w_m_at), (3478, w_m_wrong), (3483, m_ruleSize), (3484, w_m_isAsked), (3485, w_m_askedHorse), (3486, w_m_askedFence), (3487, w_m_askedLetter), (3488, w_m_askedHeight)], [(56, m_kind), (57, m_height), (58, m_feet), (59, m_stride), (60, m_scope), (61, m_care), (62, m_plan), (69, m_rule)], [(84, w_m_falling)]) := by
    intro m_falling_3x h
    unfold k_X12_justFall_3 at h
    refine zJ_iconst dX12_justFall_33 zc_0 rfl ?_
    refine zJ_istore (ls' := [(5, .int (0 : Int32)), (0, .ref 54), (1, .int p1), (2, .int p2), (3, .int p3), (4, .int p4)]) dX12_justFall_34 rfl rfl rfl ?_
    have hk36 : ∀ (m_read_36x : Int32) (m_length_36x : Int32) (m_top_36x : Int32) (m_at_36x : Int32) (m_wrong_36x : Int32) (m_isAsked_36x : Int32) (m_askedHorse_36x : Int32) (m_askedFence_36x : Int32) (m_askedLetter_36x : Int32) (m_askedHeight_36x : Int32) (m_falling_36x : (Nat → Int64)), k_X12_justFall_36 p2 m_read_36x m_length_36x m_top_36x m_at_36x m_wrong_36x m_isAsked_36x m_askedHorse_36x m_askedFence_36x m_askedLetter_36x m_askedHeight_36x m_falling_36x = some (r, w_m_read, w_m_length, w_m_top, w_m_at, w_m_wrong, w_m_isAsked, w_m_askedHorse, w_m_askedFence, w_m_askedLetter, w_m_askedHeight, w_m_falling) → zJ l zW 207 mX12_justFall σ ([(3474, m_read_36x), (3475, m_length_36x), (3476, m_top_36x), (3477, m_at_36x), (3478, m_wrong_36x), (3483, m_ruleSize), (3484, m_isAsked_36x), (3485, m_askedHorse_36x), (3486, m_askedFence_36x), (3487, m_askedLetter_36x), (3488, m_askedHeight_36x)], [(56, m_kind), (57, m_height), (58, m_feet), (59, m_stride), (60, m_scope), (61, m_care), (62, m_plan), (69, m_rule)], [(84, m_falling_36x)]) 130 [(0, .ref 54), (2, .int p2)] [] (some (.long r)) ([(3474, w_m_read), (3475, w_m_length), (3476, w_m_top), (3477, w_m_at), (3478, w_m_wrong), (3483, m_ruleSize), (3484, w_m_isAsked), (3485, w_m_askedHorse), (3486, w_m_askedFence), (3487, w_m_askedLetter), (3488, w_m_askedHeight)], [(56, m_kind), (57, m_height), (58, m_feet), (59, m_stride), (60, m_scope), (61, m_care), (62, m_plan), (69, m_rule)], [(84, w_m_falling)]) := by
      intro m_read_36x m_length_36x m_top_36x m_at_36x m_wrong_36x m_isAsked_36x m_askedHorse_36x m_askedFence_36x m_askedLetter_36x m_askedHeight_36x m_falling_36x h
      unfold k_X12_justFall_36 at h
      refine zJ_aload_n dX12_justFall_130 rfl rfl ?_
      refine zJ_getr (mi := mX12_justFall) dX12_justFall_131 F_X12_103 zW_54 rfl rfl ?_
      refine zJ_iload_n dX12_justFall_134 rfl rfl ?_
      obtain ⟨hg, h⟩ := gd_some h
      refine zJ_lald (mi := mX12_justFall) (f := m_falling_36x) dX12_justFall_135 zW_84 (ix_in hg) rfl rfl ?_
      obtain ⟨rfl, rfl, rfl, rfl, rfl, rfl, rfl, rfl, rfl, rfl, rfl, rfl⟩ := so12 h
      exact zJ_lret dX12_justFall_136 rfl
    refine zJ_loc (ls' := [(0, .ref 54), (1, .int p1), (2, .int p2), (3, .int p3), (4, .int p4), (5, .int (0 : Int32))]) (zll_c rfl (zll_c rfl (zll_c rfl (zll_c rfl (zll_c rfl (zll_c rfl zll_n)))))) ?_
    refine ml12_J (fun (v5_36 : Int32) (m_read_36 : Int32) (m_length_36 : Int32) (m_top_36 : Int32) (m_at_36 : Int32) (m_wrong_36 : Int32) (m_isAsked_36 : Int32) (m_askedHorse_36 : Int32) (m_askedFence_36 : Int32) (m_askedLetter_36 : Int32) (m_askedHeight_36 : Int32) (m_falling_36 : (Nat → Int64)) => zJ l zW 207 mX12_justFall σ ([(3474, m_read_36), (3475, m_length_36), (3476, m_top_36), (3477, m_at_36), (3478, m_wrong_36), (3483, m_ruleSize), (3484, m_isAsked_36), (3485, m_askedHorse_36), (3486, m_askedFence_36), (3487, m_askedLetter_36), (3488, m_askedHeight_36)], [(56, m_kind), (57, m_height), (58, m_feet), (59, m_stride), (60, m_scope), (61, m_care), (62, m_plan), (69, m_rule)], [(84, m_falling_36)]) 36 [(0, .ref 54), (1, .int p1), (2, .int p2), (3, .int p3), (4, .int p4), (5, .int v5_36)] [] (some (.long r)) ([(3474, w_m_read), (3475, w_m_length), (3476, w_m_top), (3477, w_m_at), (3478, w_m_wrong), (3483, m_ruleSize), (3484, w_m_isAsked), (3485, w_m_askedHorse), (3486, w_m_askedFence), (3487, w_m_askedLetter), (3488, w_m_askedHeight)], [(56, m_kind), (57, m_height), (58, m_feet), (59, m_stride), (60, m_scope), (61, m_care), (62, m_plan), (69, m_rule)], [(84, w_m_falling)])) (fun rc36 hrc36 v5_36 m_read_36 m_length_36 m_top_36 m_at_36 m_wrong_36 m_isAsked_36 m_askedHorse_36 m_askedFence_36 m_askedLetter_36 m_askedHeight_36 m_falling_36 h => ?_) zN _ _ _ _ _ _ _ _ _ _ _ _ h
    unfold s_X12_justFall_36 at h
    refine zJ_iload dX12_justFall_36 rfl rfl ?_
    refine zJ_iload_n dX12_justFall_38 rfl rfl ?_
    refine zJ_icmp_ge (tgt := 130) dX12_justFall_39 (by decide) rfl (fun hc => ?_) (fun hc => ?_)
    · replace h := it_t hc h
      refine zJ_loc (ls' := [(0, .ref 54), (2, .int p2)]) (zll_c rfl (zll_c rfl zll_n)) ?_
      exact hk36 _ _ _ _ _ _ _ _ _ _ _ h
    · replace h := it_f hc h
      refine zJ_bipush dX12_justFall_42 zb_100 rfl ?_
      refine zJ_aload_n dX12_justFall_44 rfl rfl ?_
      refine zJ_iload dX12_justFall_45 rfl rfl ?_
      refine zJ_iload_n dX12_justFall_47 rfl rfl ?_
      refine zJ_aload_n dX12_justFall_48 rfl rfl ?_
      refine zJ_iconst dX12_justFall_49 zc_0 rfl ?_
      refine zJ_iload_n dX12_justFall_50 rfl rfl ?_
      obtain ⟨rn1, hcl, h⟩ := bd1_some h
      refine zJ_callV (mi := mX12_justFall) (yi := mX12_letterOf) (as := [.int (0 : Int32), .int p1]) (st := [.int p1, .int v5_36, .ref 54, .int (100 : Int32)]) (L2 := ([(3474, m_read_36), (3475, m_length_36), (3476, m_top_36), (3477, m_at_36), (3478, m_wrong_36), (3483, m_ruleSize), (3484, m_isAsked_36), (3485, m_askedHorse_36), (3486, m_askedFence_36), (3487, m_askedLetter_36), (3488, m_askedHeight_36)], [(56, m_kind), (57, m_height), (58, m_feet), (59, m_stride), (60, m_scope), (61, m_care), (62, m_plan), (69, m_rule)], [(84, m_falling_36)])) dX12_justFall_51 ML_X12_273 Yv_X12_letterOf rfl zW_54 rfl rfl (t_X12_letterOf l _ hcl) (zsub_i zle_n (zle_c rfl zle_n) zle_n) rfl (Nat.le_of_ble_eq_true rfl) (Nat.le_of_ble_eq_true rfl) rfl rfl ?_
      obtain ⟨rn2, m_readn3, m_lengthn4, m_topn5, m_atn6, m_wrongn7, m_isAskedn8, m_askedHorsen9, m_askedFencen10, m_askedLettern11, m_askedHeightn12, hcl, h⟩ := bd11_some h
      refine zJ_callV (mi := mX12_justFall) (yi := mX12_oddsOf_) (as := [.int v5_36, .int p1, .int rn1]) (st := [.int (100 : Int32)]) (L2 := ([(3474, m_readn3), (3475, m_lengthn4), (3476, m_topn5), (3477, m_atn6), (3478, m_wrongn7), (3483, m_ruleSize), (3484, m_isAskedn8), (3485, m_askedHorsen9), (3486, m_askedFencen10), (3487, m_askedLettern11), (3488, m_askedHeightn12)], [(56, m_kind), (57, m_height), (58, m_feet), (59, m_stride), (60, m_scope), (61, m_care), (62, m_plan), (69, m_rule)], [(84, m_falling_36)])) dX12_justFall_54 ML_X12_259 Yv_X12_oddsOf_ rfl zW_54 rfl rfl (t_X12_oddsOf_ l _ hcl) (zsub_i (zle_c rfl (zle_c rfl (zle_c rfl (zle_c rfl (zle_c rfl (zle_c rfl (zle_c rfl (zle_c rfl (zle_c rfl (zle_c rfl (zle_c rfl zle_n))))))))))) (zle_c rfl (zle_c rfl (zle_c rfl (zle_c rfl (zle_c rfl (zle_c rfl (zle_c rfl zle_n))))))) zle_n) rfl (Nat.le_of_ble_eq_true rfl) (Nat.le_of_ble_eq_true rfl) rfl rfl ?_
      refine zJ_iload dX12_justFall_57 rfl rfl ?_
      refine zJ_iadd dX12_justFall_59 rfl ?_
      refine zJ_mmin (mi := mX12_justFall) dX12_justFall_60 L_X12_238 K_min_s K_math K_min_c (Nat.le_of_ble_eq_true rfl) (Nat.le_of_ble_eq_true rfl) rfl ?_
      obtain ⟨v6n13, ev6n13, h⟩ := lt1_some h
      refine zJ_nmi ev6n13 ?_
      refine zJ_istore (ls' := [(6, .int v6n13), (0, .ref 54), (1, .int p1), (2, .int p2), (3, .int p3), (4, .int p4), (5, .int v5_36)]) dX12_justFall_63 rfl rfl rfl ?_
      refine zJ_bipush dX12_justFall_65 zb_6 rfl ?_
      refine zJ_istore (ls' := [(7, .int (6 : Int32)), (6, .int v6n13), (0, .ref 54), (1, .int p1), (2, .int p2), (3, .int p3), (4, .int p4), (5, .int v5_36)]) dX12_justFall_67 rfl rfl rfl ?_
      have hk69 : ∀ (m_falling_69x : (Nat → Int64)), k_X12_justFall_69 rc36 v5_36 m_readn3 m_lengthn4 m_topn5 m_atn6 m_wrongn7 m_isAskedn8 m_askedHorsen9 m_askedFencen10 m_askedLettern11 m_askedHeightn12 m_falling_69x = some (r, w_m_read, w_m_length, w_m_top, w_m_at, w_m_wrong, w_m_isAsked, w_m_askedHorse, w_m_askedFence, w_m_askedLetter, w_m_askedHeight, w_m_falling) → zJ l zW 207 mX12_justFall σ ([(3474, m_readn3), (3475, m_lengthn4), (3476, m_topn5), (3477, m_atn6), (3478, m_wrongn7), (3483, m_ruleSize), (3484, m_isAskedn8), (3485, m_askedHorsen9), (3486, m_askedFencen10), (3487, m_askedLettern11), (3488, m_askedHeightn12)], [(56, m_kind), (57, m_height), (58, m_feet), (59, m_stride), (60, m_scope), (61, m_care), (62, m_plan), (69, m_rule)], [(84, m_falling_69x)]) 124 [(0, .ref 54), (1, .int p1), (2, .int p2), (3, .int p3), (4, .int p4), (5, .int v5_36)] [] (some (.long r)) ([(3474, w_m_read), (3475, w_m_length), (3476, w_m_top), (3477, w_m_at), (3478, w_m_wrong), (3483, m_ruleSize), (3484, w_m_isAsked), (3485, w_m_askedHorse), (3486, w_m_askedFence), (3487, w_m_askedLetter), (3488, w_m_askedHeight)], [(56, m_kind), (57, m_height), (58, m_feet), (59, m_stride), (60, m_scope), (61, m_care), (62, m_plan), (69, m_rule)], [(84, w_m_falling)]) := by
        intro m_falling_69x h
        unfold k_X12_justFall_69 at h
        obtain ⟨v5n14, ev5n14, h⟩ := lt1_some h
        refine zJ_iincN (ls' := [(5, .int v5n14), (0, .ref 54), (1, .int p1), (2, .int p2), (3, .int p3), (4, .int p4)]) dX12_justFall_124 rfl rfl zc_1 ev5n14 rfl rfl ?_
        refine zJ_goto (tgt := 36) dX12_justFall_127 (by decide) ?_
        refine zJ_loc (ls' := [(0, .ref 54), (1, .int p1), (2, .int p2), (3, .int p3), (4, .int p4), (5, .int v5n14)]) (zll_c rfl (zll_c rfl (zll_c rfl (zll_c rfl (zll_c rfl (zll_c rfl zll_n)))))) ?_
        exact hrc36 _ _ _ _ _ _ _ _ _ _ _ _ h
      refine zJ_loc (ls' := [(0, .ref 54), (1, .int p1), (2, .int p2), (3, .int p3), (4, .int p4), (5, .int v5_36), (6, .int v6n13), (7, .int (6 : Int32))]) (zll_c rfl (zll_c rfl (zll_c rfl (zll_c rfl (zll_c rfl (zll_c rfl (zll_c rfl (zll_c rfl zll_n)))))))) ?_
      refine ml2_J (fun (v7_69 : Int32) (m_falling_69 : (Nat → Int64)) => zJ l zW 207 mX12_justFall σ ([(3474, m_readn3), (3475, m_lengthn4), (3476, m_topn5), (3477, m_atn6), (3478, m_wrongn7), (3483, m_ruleSize), (3484, m_isAskedn8), (3485, m_askedHorsen9), (3486, m_askedFencen10), (3487, m_askedLettern11), (3488, m_askedHeightn12)], [(56, m_kind), (57, m_height), (58, m_feet), (59, m_stride), (60, m_scope), (61, m_care), (62, m_plan), (69, m_rule)], [(84, m_falling_69)]) 69 [(0, .ref 54), (1, .int p1), (2, .int p2), (3, .int p3), (4, .int p4), (5, .int v5_36), (6, .int v6n13), (7, .int v7_69)] [] (some (.long r)) ([(3474, w_m_read), (3475, w_m_length), (3476, w_m_top), (3477, w_m_at), (3478, w_m_wrong), (3483, m_ruleSize), (3484, w_m_isAsked), (3485, w_m_askedHorse), (3486, w_m_askedFence), (3487, w_m_askedLetter), (3488, w_m_askedHeight)], [(56, m_kind), (57, m_height), (58, m_feet), (59, m_stride), (60, m_scope), (61, m_care), (62, m_plan), (69, m_rule)], [(84, w_m_falling)])) (fun rc69 hrc69 v7_69 m_falling_69 h => ?_) zN _ _ h
      unfold s_X12_justFall_69 at h
      refine zJ_iload dX12_justFall_69 rfl rfl ?_
      refine zJ_if_lt (tgt := 124) dX12_justFall_71 (by decide) rfl (fun hc => ?_) (fun hc => ?_)
      · replace h := it_t hc h
        refine zJ_loc (ls' := [(0, .ref 54), (1, .int p1), (2, .int p2), (3, .int p3), (4, .int p4), (5, .int v5_36)]) (zll_c rfl (zll_c rfl (zll_c rfl (zll_c rfl (zll_c rfl (zll_c rfl zll_n)))))) ?_
        exact hk69 _ h
      · replace h := it_f hc h
        refine zJ_aload_n dX12_justFall_74 rfl rfl ?_
        refine zJ_getr (mi := mX12_justFall) dX12_justFall_75 F_X12_103 zW_54 rfl rfl ?_
        refine zJ_iload dX12_justFall_78 rfl rfl ?_
        refine zJ_aload_n dX12_justFall_80 rfl rfl ?_
        refine zJ_getr (mi := mX12_justFall) dX12_justFall_81 F_X12_103 zW_54 rfl rfl ?_
        refine zJ_iload dX12_justFall_84 rfl rfl ?_
        obtain ⟨hg, h⟩ := gd_some h
        refine zJ_lald (mi := mX12_justFall) (f := m_falling_69) dX12_justFall_86 zW_84 (ix_in hg) rfl rfl ?_
        refine zJ_bipush dX12_justFall_87 zb_100 rfl ?_
        refine zJ_iload dX12_justFall_89 rfl rfl ?_
        refine zJ_isub dX12_justFall_91 rfl ?_
        refine zJ_i2l dX12_justFall_92 rfl ?_
        refine zJ_lmul dX12_justFall_93 rfl ?_
        refine zJ_iload dX12_justFall_94 rfl rfl ?_
        refine zJ_if_ne (tgt := 103) dX12_justFall_96 (by decide) rfl (fun hc => ?_) (fun hc => ?_)
        · replace h := it_f hc h
          refine zJ_aload_n dX12_justFall_103 rfl rfl ?_
          refine zJ_getr (mi := mX12_justFall) dX12_justFall_104 F_X12_103 zW_54 rfl rfl ?_
          refine zJ_iload dX12_justFall_107 rfl rfl ?_
          refine zJ_iconst dX12_justFall_109 zc_1 rfl ?_
          refine zJ_isub dX12_justFall_110 rfl ?_
          obtain ⟨hg, h⟩ := gd_some h
          refine zJ_lald (mi := mX12_justFall) (f := m_falling_69) dX12_justFall_111 zW_84 (ix_in hg) rfl rfl ?_
          refine zJ_iload dX12_justFall_112 rfl rfl ?_
          refine zJ_i2l dX12_justFall_114 rfl ?_
          refine zJ_lmul dX12_justFall_115 rfl ?_
          refine zJ_ladd dX12_justFall_116 rfl ?_
          obtain ⟨hg, h⟩ := gd_some h
          refine zK_last (mi := mX12_justFall) (f := m_falling_69) (lc' := [(84, (vp_updL m_falling_69 v7_69.toNatClampNeg (((m_falling_69 v7_69.toNatClampNeg) * (((100 : Int32) - v6n13)).toInt64) + ((m_falling_69 (v7_69 - (1 : Int32)).toNatClampNeg) * v6n13.toInt64))))]) dX12_justFall_117 zW_84 (ix_in hg) rfl rfl rfl ?_
          obtain ⟨v7n15, ev7n15, h⟩ := lt1_some h
          refine zJ_iincN (ls' := [(7, .int v7n15), (0, .ref 54), (1, .int p1), (2, .int p2), (3, .int p3), (4, .int p4), (5, .int v5_36), (6, .int v6n13)]) dX12_justFall_118 rfl rfl zc_m1 ev7n15 rfl rfl ?_
          refine zJ_goto (tgt := 69) dX12_justFall_121 (by decide) ?_
          refine zJ_loc (ls' := [(0, .ref 54), (1, .int p1), (2, .int p2), (3, .int p3), (4, .int p4), (5, .int v5_36), (6, .int v6n13), (7, .int v7n15)]) (zll_c rfl (zll_c rfl (zll_c rfl (zll_c rfl (zll_c rfl (zll_c rfl (zll_c rfl (zll_c rfl zll_n)))))))) ?_
          exact hrc69 _ _ h
        · replace h := it_t hc h
          refine zJ_lconst dX12_justFall_99 zl_0 rfl ?_
          refine zJ_goto (tgt := 116) dX12_justFall_100 (by decide) ?_
          refine zJ_ladd dX12_justFall_116 rfl ?_
          obtain ⟨hg, h⟩ := gd_some h
          refine zK_last (mi := mX12_justFall) (f := m_falling_69) (lc' := [(84, (vp_updL m_falling_69 v7_69.toNatClampNeg (((m_falling_69 v7_69.toNatClampNeg) * (((100 : Int32) - v6n13)).toInt64) + (0 : Int64))))]) dX12_justFall_117 zW_84 (ix_in hg) rfl rfl rfl ?_
          obtain ⟨v7n16, ev7n16, h⟩ := lt1_some h
          refine zJ_iincN (ls' := [(7, .int v7n16), (0, .ref 54), (1, .int p1), (2, .int p2), (3, .int p3), (4, .int p4), (5, .int v5_36), (6, .int v6n13)]) dX12_justFall_118 rfl rfl zc_m1 ev7n16 rfl rfl ?_
          refine zJ_goto (tgt := 69) dX12_justFall_121 (by decide) ?_
          refine zJ_loc (ls' := [(0, .ref 54), (1, .int p1), (2, .int p2), (3, .int p3), (4, .int p4), (5, .int v5_36), (6, .int v6n13), (7, .int v7n16)]) (zll_c rfl (zll_c rfl (zll_c rfl (zll_c rfl (zll_c rfl (zll_c rfl (zll_c rfl (zll_c rfl zll_n)))))))) ?_
          exact hrc69 _ _ h
  refine zJ_loc (ls' := [(0, .ref 54), (1, .int p1), (2, .int p2), (3, .int p3), (4, .int p4), (5, .int (0 : Int32))]) (zll_c rfl (zll_c rfl (zll_c rfl (zll_c rfl (zll_c rfl (zll_c rfl zll_n)))))) ?_
  refine ml2_J (fun (v5_3 : Int32) (m_falling_3 : (Nat → Int64)) => zJ l zW 207 mX12_justFall σ ([(3474, m_read), (3475, m_length), (3476, m_top), (3477, m_at), (3478, m_wrong), (3483, m_ruleSize), (3484, m_isAsked), (3485, m_askedHorse), (3486, m_askedFence), (3487, m_askedLetter), (3488, m_askedHeight)], [(56, m_kind), (57, m_height), (58, m_feet), (59, m_stride), (60, m_scope), (61, m_care), (62, m_plan), (69, m_rule)], [(84, m_falling_3)]) 3 [(0, .ref 54), (1, .int p1), (2, .int p2), (3, .int p3), (4, .int p4), (5, .int v5_3)] [] (some (.long r)) ([(3474, w_m_read), (3475, w_m_length), (3476, w_m_top), (3477, w_m_at), (3478, w_m_wrong), (3483, m_ruleSize), (3484, w_m_isAsked), (3485, w_m_askedHorse), (3486, w_m_askedFence), (3487, w_m_askedLetter), (3488, w_m_askedHeight)], [(56, m_kind), (57, m_height), (58, m_feet), (59, m_stride), (60, m_scope), (61, m_care), (62, m_plan), (69, m_rule)], [(84, w_m_falling)])) (fun rc3 hrc3 v5_3 m_falling_3 h => ?_) zN _ _ h
  unfold s_X12_justFall_3 at h
  refine zJ_iload dX12_justFall_3 rfl rfl ?_
  refine zJ_bipush dX12_justFall_5 zb_6 rfl ?_
  refine zJ_icmp_gt (tgt := 33) dX12_justFall_7 (by decide) rfl (fun hc => ?_) (fun hc => ?_)
  · replace h := it_t hc h
    refine zJ_loc (ls' := [(0, .ref 54), (1, .int p1), (2, .int p2), (3, .int p3), (4, .int p4)]) (zll_c rfl (zll_c rfl (zll_c rfl (zll_c rfl (zll_c rfl zll_n))))) ?_
    exact hk3 _ h
  · replace h := it_f hc h
    refine zJ_aload_n dX12_justFall_10 rfl rfl ?_
    refine zJ_getr (mi := mX12_justFall) dX12_justFall_11 F_X12_103 zW_54 rfl rfl ?_
    refine zJ_iload dX12_justFall_14 rfl rfl ?_
    refine zJ_iload dX12_justFall_16 rfl rfl ?_
    refine zJ_if_ne (tgt := 25) dX12_justFall_18 (by decide) rfl (fun hc => ?_) (fun hc => ?_)
    · replace h := it_f hc h
      refine zJ_lconst dX12_justFall_25 zl_0 rfl ?_
      obtain ⟨hg, h⟩ := gd_some h
      refine zK_last (mi := mX12_justFall) (f := m_falling_3) (lc' := [(84, (vp_updL m_falling_3 v5_3.toNatClampNeg (0 : Int64)))]) dX12_justFall_26 zW_84 (ix_in hg) rfl rfl rfl ?_
      obtain ⟨v5n17, ev5n17, h⟩ := lt1_some h
      refine zJ_iincN (ls' := [(5, .int v5n17), (0, .ref 54), (1, .int p1), (2, .int p2), (3, .int p3), (4, .int p4)]) dX12_justFall_27 rfl rfl zc_1 ev5n17 rfl rfl ?_
      refine zJ_goto (tgt := 3) dX12_justFall_30 (by decide) ?_
      refine zJ_loc (ls' := [(0, .ref 54), (1, .int p1), (2, .int p2), (3, .int p3), (4, .int p4), (5, .int v5n17)]) (zll_c rfl (zll_c rfl (zll_c rfl (zll_c rfl (zll_c rfl (zll_c rfl zll_n)))))) ?_
      exact hrc3 _ _ h
    · replace h := it_t hc h
      refine zJ_lconst dX12_justFall_21 zl_1 rfl ?_
      refine zJ_goto (tgt := 26) dX12_justFall_22 (by decide) ?_
      obtain ⟨hg, h⟩ := gd_some h
      refine zK_last (mi := mX12_justFall) (f := m_falling_3) (lc' := [(84, (vp_updL m_falling_3 v5_3.toNatClampNeg (1 : Int64)))]) dX12_justFall_26 zW_84 (ix_in hg) rfl rfl rfl ?_
      obtain ⟨v5n18, ev5n18, h⟩ := lt1_some h
      refine zJ_iincN (ls' := [(5, .int v5n18), (0, .ref 54), (1, .int p1), (2, .int p2), (3, .int p3), (4, .int p4)]) dX12_justFall_27 rfl rfl zc_1 ev5n18 rfl rfl ?_
      refine zJ_goto (tgt := 3) dX12_justFall_30 (by decide) ?_
      refine zJ_loc (ls' := [(0, .ref 54), (1, .int p1), (2, .int p2), (3, .int p3), (4, .int p4), (5, .int v5n18)]) (zll_c rfl (zll_c rfl (zll_c rfl (zll_c rfl (zll_c rfl (zll_c rfl zll_n)))))) ?_
      exact hrc3 _ _ h
set_option maxRecDepth 100000 in
set_option maxHeartbeats 4000000 in
theorem t_X12_lay_m_now_m_kept (l : Launch) (σ : zS) {p2 : Int32} {m_now : (Nat → Int32)} {m_kept : (Nat → Int32)} {w_m_kept : (Nat → Int32)} (h : f_X12_lay_m_now_m_kept p2 m_now m_kept = some w_m_kept) : zMt l zW 0 mX12_lay σ ([], [(55, m_now), (85, m_kept)], []) [.ref 55, .ref 85, .int p2] none ([], [(55, m_now), (85, w_m_kept)], []) := by
  refine zMt_of (ls := [(0, .ref 55), (1, .ref 85), (2, .int p2)]) (by decide) rfl (fun _ => Nat.le_of_ble_eq_true rfl) rfl ?_
  unfold f_X12_lay_m_now_m_kept at h
  refine zJ_iconst dX12_lay_0 zc_0 rfl ?_
  refine zJ_istore_n (ls' := [(3, .int (0 : Int32)), (0, .ref 55), (1, .ref 85), (2, .int p2)]) dX12_lay_1 rfl rfl rfl ?_
  have hk2 : ∀ (m_kept_2x : (Nat → Int32)), k_X12_lay_m_now_m_kept_2  m_kept_2x = some w_m_kept → zJ l zW 0 mX12_lay σ ([], [(55, m_now), (85, m_kept_2x)], []) 22 [] [] none ([], [(55, m_now), (85, w_m_kept)], []) := by
    intro m_kept_2x h
    unfold k_X12_lay_m_now_m_kept_2 at h
    obtain rfl := so1 h
    exact zJ_vret dX12_lay_22 rfl
  refine zJ_loc (ls' := [(0, .ref 55), (1, .ref 85), (2, .int p2), (3, .int (0 : Int32))]) (zll_c rfl (zll_c rfl (zll_c rfl (zll_c rfl zll_n)))) ?_
  refine ml2_J (fun (v3_2 : Int32) (m_kept_2 : (Nat → Int32)) => zJ l zW 0 mX12_lay σ ([], [(55, m_now), (85, m_kept_2)], []) 2 [(0, .ref 55), (1, .ref 85), (2, .int p2), (3, .int v3_2)] [] none ([], [(55, m_now), (85, w_m_kept)], [])) (fun rc2 hrc2 v3_2 m_kept_2 h => ?_) zN _ _ h
  unfold s_X12_lay_m_now_m_kept_2 at h
  refine zJ_iload_n dX12_lay_2 rfl rfl ?_
  refine zJ_bipush dX12_lay_3 zb_49 rfl ?_
  refine zJ_icmp_ge (tgt := 22) dX12_lay_5 (by decide) rfl (fun hc => ?_) (fun hc => ?_)
  · replace h := it_t hc h
    refine zJ_loc (ls' := []) zll_n ?_
    exact hk2 _ h
  · replace h := it_f hc h
    refine zJ_aload_n dX12_lay_8 rfl rfl ?_
    refine zJ_iload_n dX12_lay_9 rfl rfl ?_
    refine zJ_iload_n dX12_lay_10 rfl rfl ?_
    refine zJ_iadd dX12_lay_11 rfl ?_
    refine zJ_aload_n dX12_lay_12 rfl rfl ?_
    refine zJ_iload_n dX12_lay_13 rfl rfl ?_
    obtain ⟨hg, h⟩ := gd_some h
    refine zJ_iald (mi := mX12_lay) (f := m_now) dX12_lay_14 zW_55 (ix_in hg) rfl rfl ?_
    obtain ⟨hg, h⟩ := gd_some h
    refine zK_iast (mi := mX12_lay) (f := m_kept_2) (lb' := [(55, m_now), (85, (upd m_kept_2 (p2 + v3_2).toNatClampNeg (m_now v3_2.toNatClampNeg)))]) dX12_lay_15 zW_85 (ix_in hg) rfl rfl rfl ?_
    obtain ⟨v3n1, ev3n1, h⟩ := lt1_some h
    refine zJ_iincN (ls' := [(3, .int v3n1), (0, .ref 55), (1, .ref 85), (2, .int p2)]) dX12_lay_16 rfl rfl zc_1 ev3n1 rfl rfl ?_
    refine zJ_goto (tgt := 2) dX12_lay_19 (by decide) ?_
    refine zJ_loc (ls' := [(0, .ref 55), (1, .ref 85), (2, .int p2), (3, .int v3n1)]) (zll_c rfl (zll_c rfl (zll_c rfl (zll_c rfl zll_n)))) ?_
    exact hrc2 _ _ h
set_option maxRecDepth 100000 in
set_option maxHeartbeats 4000000 in
theorem t_X12_keep (l : Launch) (σ : zS) {p1 : Int32} {m_thrown : Int32} {m_now : (Nat → Int32)} {m_kept : (Nat → Int32)} {m_isKept : (Nat → Int32)} {r : Int32} {w_m_thrown : Int32} {w_m_kept : (Nat → Int32)} {w_m_isKept : (Nat → Int32)} (h : f_X12_keep p1 m_thrown m_now m_kept m_isKept = some (r, w_m_thrown, w_m_kept, w_m_isKept)) : zMt l zW 1 mX12_keep σ ([(3473, m_thrown)], [(55, m_now), (85, m_kept), (86, m_isKept)], []) [.ref 54, .int p1] (some (.int r)) ([(3473, w_m_thrown)], [(55, m_now), (85, w_m_kept), (86, w_m_isKept)], []) := by
  refine zMt_of (ls := [(0, .ref 54), (1, .int p1)]) (by decide) rfl (fun _ => Nat.le_of_ble_eq_true rfl) rfl ?_
  unfold f_X12_keep at h
  refine zJ_aload_n dX12_keep_0 rfl rfl ?_
  refine zJ_iconst dX12_keep_1 zc_0 rfl ?_
  refine zK_puti (mi := mX12_keep) (la' := [(3473, (0 : Int32))]) zW_ok dX12_keep_2 F_X12_113 P_12_17 zW_54 rfl rfl rfl ?_
  refine zJ_iload_n dX12_keep_5 rfl rfl ?_
  refine zJ_iconst dX12_keep_6 zc_0 rfl ?_
  refine zJ_iconst dX12_keep_7 zc_1 rfl ?_
  obtain ⟨rn1, hcl, h⟩ := bd1_some h
  refine zJ_callS (mi := mX12_keep) (yi := mX12_in) (as := [.int p1, .int (0 : Int32), .int (1 : Int32)]) (st := []) (L2 := ([(3473, (0 : Int32))], [(55, m_now), (85, m_kept), (86, m_isKept)], [])) dX12_keep_8 ML_X12_122 Ys_X12_in rfl (t_X12_in l _ hcl) (zsub_i zle_n zle_n zle_n) rfl (Nat.le_of_ble_eq_true rfl) (Nat.le_of_ble_eq_true rfl) rfl rfl ?_
  refine zJ_if_ne (tgt := 16) dX12_keep_11 (by decide) rfl (fun hc => ?_) (fun hc => ?_)
  · replace h := it_f hc h
    refine zJ_aload_n dX12_keep_16 rfl rfl ?_
    refine zJ_getr (mi := mX12_keep) dX12_keep_17 F_X12_109 zW_54 rfl rfl ?_
    refine zJ_iload_n dX12_keep_20 rfl rfl ?_
    refine zJ_iconst dX12_keep_21 zc_1 rfl ?_
    obtain ⟨hg, h⟩ := gd_some h
    refine zK_zast (mi := mX12_keep) (f := m_isKept) (lb' := [(55, m_now), (85, m_kept), (86, (upd m_isKept p1.toNatClampNeg (vp_nar .boolean (1 : Int32))))]) dX12_keep_22 zW_86 (ix_in hg) rfl rfl rfl ?_
    refine zJ_aload_n dX12_keep_23 rfl rfl ?_
    refine zJ_getr (mi := mX12_keep) dX12_keep_24 F_X12_9 zW_54 rfl rfl ?_
    refine zJ_aload_n dX12_keep_27 rfl rfl ?_
    refine zJ_getr (mi := mX12_keep) dX12_keep_28 F_X12_106 zW_54 rfl rfl ?_
    refine zJ_bipush dX12_keep_31 zb_49 rfl ?_
    refine zJ_iload_n dX12_keep_33 rfl rfl ?_
    refine zJ_imul dX12_keep_34 rfl ?_
    obtain ⟨m_keptn2, hcl, h⟩ := bd1_some h
    refine zJ_callS (mi := mX12_keep) (yi := mX12_lay) (as := [.ref 55, .ref 85, .int ((49 : Int32) * p1)]) (st := []) (L2 := ([(3473, (0 : Int32))], [(55, m_now), (85, m_keptn2), (86, (upd m_isKept p1.toNatClampNeg (vp_nar .boolean (1 : Int32))))], [])) dX12_keep_35 ML_X12_305 Ys_X12_lay rfl (t_X12_lay_m_now_m_kept l _ hcl) (zsub_i zle_n (zle_c rfl (zle_c rfl zle_n)) zle_n) rfl (Nat.le_of_ble_eq_true rfl) (Nat.le_of_ble_eq_true rfl) rfl rfl ?_
    refine zJ_iconst dX12_keep_38 zc_1 rfl ?_
    obtain ⟨rfl, rfl, rfl, rfl⟩ := so4 h
    exact zJ_iret dX12_keep_39 rfl (by decide)
  · replace h := it_t hc h
    refine zJ_iconst dX12_keep_14 zc_0 rfl ?_
    obtain ⟨rfl, rfl, rfl, rfl⟩ := so4 h
    exact zJ_iret dX12_keep_15 rfl (by decide)
set_option maxRecDepth 100000 in
set_option maxHeartbeats 4000000 in
theorem t_X12_kindOf (l : Launch) (σ : zS) {p0 : Int32} {r : Int32} (h : f_X12_kindOf p0 = some r) : zMt l zW 0 mX12_kindOf σ ([], [], []) [.int p0] (some (.int r)) ([], [], []) := by
  refine zMt_of (ls := [(0, .int p0)]) (by decide) rfl (fun _ => Nat.le_of_ble_eq_true rfl) rfl ?_
  unfold f_X12_kindOf at h
  refine zJ_iload_n dX12_kindOf_0 rfl rfl ?_
  refine zJ_bipush dX12_kindOf_1 zb_117 rfl ?_
  refine zJ_icmp_ne (tgt := 10) dX12_kindOf_3 (by decide) rfl (fun hc => ?_) (fun hc => ?_)
  · replace h := it_f hc h
    refine zJ_iload_n dX12_kindOf_10 rfl rfl ?_
    refine zJ_bipush dX12_kindOf_11 zb_119 rfl ?_
    refine zJ_icmp_ne (tgt := 20) dX12_kindOf_13 (by decide) rfl (fun hc => ?_) (fun hc => ?_)
    · replace h := it_f hc h
      refine zJ_iload_n dX12_kindOf_20 rfl rfl ?_
      refine zJ_bipush dX12_kindOf_21 zb_100 rfl ?_
      refine zJ_icmp_ne (tgt := 30) dX12_kindOf_23 (by decide) rfl (fun hc => ?_) (fun hc => ?_)
      · replace h := it_f hc h
        refine zJ_iload_n dX12_kindOf_30 rfl rfl ?_
        refine zJ_bipush dX12_kindOf_31 zb_108 rfl ?_
        refine zJ_icmp_ne (tgt := 40) dX12_kindOf_33 (by decide) rfl (fun hc => ?_) (fun hc => ?_)
        · replace h := it_f hc h
          refine zJ_iconst dX12_kindOf_40 zc_m1 rfl ?_
          obtain rfl := so1 h
          exact zJ_iret dX12_kindOf_41 rfl rfl
        · replace h := it_t hc h
          refine zJ_iconst dX12_kindOf_36 zc_3 rfl ?_
          refine zJ_goto (tgt := 41) dX12_kindOf_37 (by decide) ?_
          obtain rfl := so1 h
          exact zJ_iret dX12_kindOf_41 rfl rfl
      · replace h := it_t hc h
        refine zJ_iconst dX12_kindOf_26 zc_2 rfl ?_
        refine zJ_goto (tgt := 41) dX12_kindOf_27 (by decide) ?_
        obtain rfl := so1 h
        exact zJ_iret dX12_kindOf_41 rfl rfl
    · replace h := it_t hc h
      refine zJ_iconst dX12_kindOf_16 zc_1 rfl ?_
      refine zJ_goto (tgt := 41) dX12_kindOf_17 (by decide) ?_
      obtain rfl := so1 h
      exact zJ_iret dX12_kindOf_41 rfl rfl
  · replace h := it_t hc h
    refine zJ_iconst dX12_kindOf_6 zc_0 rfl ?_
    refine zJ_goto (tgt := 41) dX12_kindOf_7 (by decide) ?_
    obtain rfl := so1 h
    exact zJ_iret dX12_kindOf_41 rfl rfl
set_option maxRecDepth 100000 in
set_option maxHeartbeats 4000000 in
theorem t_X12_last (l : Launch) (σ : zS) {p1 : Int32} {m_fences : Int32} {m_allowed : Int32} {m_horses : Int32} {m_plans : Int32} {m_rowMany : Int32} {m_thrown : Int32} {m_read : Int32} {m_length : Int32} {m_top : Int32} {m_at : Int32} {m_wrong : Int32} {m_ruleSize : Int32} {m_isAsked : Int32} {m_askedHorse : Int32} {m_askedFence : Int32} {m_askedLetter : Int32} {m_askedHeight : Int32} {m_now : (Nat → Int32)} {m_kind : (Nat → Int32)} {m_height : (Nat → Int32)} {m_feet : (Nat → Int32)} {m_stride : (Nat → Int32)} {m_scope : (Nat → Int32)} {m_care : (Nat → Int32)} {m_plan : (Nat → Int32)} {m_money : (Nat → Int32)} {m_rule : (Nat → Int32)} {m_row : (Nat → Int64)} {r : Int32} {w_m_rowMany : Int32} {w_m_thrown : Int32} {w_m_read : Int32} {w_m_length : Int32} {w_m_top : Int32} {w_m_at : Int32} {w_m_wrong : Int32} {w_m_isAsked : Int32} {w_m_askedHorse : Int32} {w_m_askedFence : Int32} {w_m_askedLetter : Int32} {w_m_askedHeight : Int32} {w_m_row : (Nat → Int64)} (h : f_X12_last p1 m_fences m_allowed m_horses m_plans m_rowMany m_thrown m_read m_length m_top m_at m_wrong m_ruleSize m_isAsked m_askedHorse m_askedFence m_askedLetter m_askedHeight m_now m_kind m_height m_feet m_stride m_scope m_care m_plan m_money m_rule m_row = some (r, w_m_rowMany, w_m_thrown, w_m_read, w_m_length, w_m_top, w_m_at, w_m_wrong, w_m_isAsked, w_m_askedHorse, w_m_askedFence, w_m_askedLetter, w_m_askedHeight, w_m_row)) : zMt l zW 210 mX12_last σ ([(3457, m_fences), (3461, m_allowed), (3462, m_horses), (3466, m_plans), (3472, m_rowMany), (3473, m_thrown), (3474, m_read), (3475, m_length), (3476, m_top), (3477, m_at), (3478, m_wrong), (3483, m_ruleSize), (3484, m_isAsked), (3485, m_askedHorse), (3486, m_askedFence), (3487, m_askedLetter), (3488, m_askedHeight)], [(55, m_now), (56, m_kind), (57, m_height), (58, m_feet), (59, m_stride), (60, m_scope), (61, m_care), (62, m_plan), (63, m_money), (69, m_rule)], [(65, m_row)]) [.ref 54, .int p1] (some (.int r)) ([(3457, m_fences), (3461, m_allowed), (3462, m_horses), (3466, m_plans), (3472, w_m_rowMany), (3473, w_m_thrown), (3474, w_m_read), (3475, w_m_length), (3476, w_m_top), (3477, w_m_at), (3478, w_m_wrong), (3483, m_ruleSize), (3484, w_m_isAsked), (3485, w_m_askedHorse), (3486, w_m_askedFence), (3487, w_m_askedLetter), (3488, w_m_askedHeight)], [(55, m_now), (56, m_kind), (57, m_height), (58, m_feet), (59, m_stride), (60, m_scope), (61, m_care), (62, m_plan), (63, m_money), (69, m_rule)], [(65, w_m_row)]) := by
  refine zMt_of (ls := [(0, .ref 54), (1, .int p1)]) (by decide) rfl (fun _ => Nat.le_of_ble_eq_true rfl) rfl ?_
  unfold f_X12_last at h
  refine zJ_aload_n dX12_last_0 rfl rfl ?_
  refine zJ_iconst dX12_last_1 zc_0 rfl ?_
  refine zK_puti (mi := mX12_last) (la' := [(3457, m_fences), (3461, m_allowed), (3462, m_horses), (3466, m_plans), (3472, m_rowMany), (3473, (0 : Int32)), (3474, m_read), (3475, m_length), (3476, m_top), (3477, m_at), (3478, m_wrong), (3483, m_ruleSize), (3484, m_isAsked), (3485, m_askedHorse), (3486, m_askedFence), (3487, m_askedLetter), (3488, m_askedHeight)]) zW_ok dX12_last_2 F_X12_113 P_12_17 zW_54 rfl rfl rfl ?_
  refine zJ_aload_n dX12_last_5 rfl rfl ?_
  refine zJ_iload_n dX12_last_6 rfl rfl ?_
  obtain ⟨rn1, hcl, h⟩ := bd1_some h
  refine zJ_callV (mi := mX12_last) (yi := mX12_isHorse) (as := [.int p1]) (st := []) (L2 := ([(3457, m_fences), (3461, m_allowed), (3462, m_horses), (3466, m_plans), (3472, m_rowMany), (3473, (0 : Int32)), (3474, m_read), (3475, m_length), (3476, m_top), (3477, m_at), (3478, m_wrong), (3483, m_ruleSize), (3484, m_isAsked), (3485, m_askedHorse), (3486, m_askedFence), (3487, m_askedLetter), (3488, m_askedHeight)], [(55, m_now), (56, m_kind), (57, m_height), (58, m_feet), (59, m_stride), (60, m_scope), (61, m_care), (62, m_plan), (63, m_money), (69, m_rule)], [(65, m_row)])) dX12_last_7 ML_X12_132 Yv_X12_isHorse rfl zW_54 rfl rfl (t_X12_isHorse l _ hcl) (zsub_i (zle_c rfl zle_n) zle_n zle_n) rfl (Nat.le_of_ble_eq_true rfl) (Nat.le_of_ble_eq_true rfl) rfl rfl ?_
  refine zJ_if_ne (tgt := 15) dX12_last_10 (by decide) rfl (fun hc => ?_) (fun hc => ?_)
  · replace h := it_f hc h
    refine zJ_aload_n dX12_last_15 rfl rfl ?_
    refine zJ_geti (mi := mX12_last) (x := m_plans) dX12_last_16 F_X12_129 zW_54 rfl rfl rfl ?_
    refine zJ_if_ne (tgt := 25) dX12_last_19 (by decide) rfl (fun hc => ?_) (fun hc => ?_)
    · replace h := it_f hc h
      refine zJ_aload_n dX12_last_25 rfl rfl ?_
      refine zJ_iload_n dX12_last_26 rfl rfl ?_
      obtain ⟨rn2, m_readn3, m_lengthn4, m_topn5, m_atn6, m_wrongn7, m_isAskedn8, m_askedHorsen9, m_askedFencen10, m_askedLettern11, m_askedHeightn12, hcl, h⟩ := bd11_some h
      refine zJ_callV (mi := mX12_last) (yi := mX12_bestPlan) (as := [.int p1]) (st := []) (L2 := ([(3457, m_fences), (3461, m_allowed), (3462, m_horses), (3466, m_plans), (3472, m_rowMany), (3473, (0 : Int32)), (3474, m_readn3), (3475, m_lengthn4), (3476, m_topn5), (3477, m_atn6), (3478, m_wrongn7), (3483, m_ruleSize), (3484, m_isAskedn8), (3485, m_askedHorsen9), (3486, m_askedFencen10), (3487, m_askedLettern11), (3488, m_askedHeightn12)], [(55, m_now), (56, m_kind), (57, m_height), (58, m_feet), (59, m_stride), (60, m_scope), (61, m_care), (62, m_plan), (63, m_money), (69, m_rule)], [(65, m_row)])) dX12_last_27 ML_X12_379 Yv_X12_bestPlan rfl zW_54 rfl rfl (t_X12_bestPlan l _ hcl) (zsub_i (zle_c rfl (zle_c rfl (zle_c rfl (zle_c rfl (zle_c rfl (zle_c rfl (zle_c rfl (zle_c rfl (zle_c rfl (zle_c rfl (zle_c rfl (zle_c rfl (zle_c rfl (zle_c rfl zle_n)))))))))))))) (zle_c rfl (zle_c rfl (zle_c rfl (zle_c rfl (zle_c rfl (zle_c rfl (zle_c rfl (zle_c rfl (zle_c rfl (zle_c rfl zle_n)))))))))) zle_n) rfl (Nat.le_of_ble_eq_true rfl) (Nat.le_of_ble_eq_true rfl) rfl rfl ?_
      refine zJ_istore_n (ls' := [(2, .int rn2), (0, .ref 54), (1, .int p1)]) dX12_last_30 rfl rfl rfl ?_
      refine zJ_aload_n dX12_last_31 rfl rfl ?_
      refine zJ_iconst dX12_last_32 zc_0 rfl ?_
      refine zK_puti (mi := mX12_last) (la' := [(3457, m_fences), (3461, m_allowed), (3462, m_horses), (3466, m_plans), (3472, (0 : Int32)), (3473, (0 : Int32)), (3474, m_readn3), (3475, m_lengthn4), (3476, m_topn5), (3477, m_atn6), (3478, m_wrongn7), (3483, m_ruleSize), (3484, m_isAskedn8), (3485, m_askedHorsen9), (3486, m_askedFencen10), (3487, m_askedLettern11), (3488, m_askedHeightn12)]) zW_ok dX12_last_33 F_X12_116 P_12_16 zW_54 rfl rfl rfl ?_
      refine zJ_aload_n dX12_last_36 rfl rfl ?_
      refine zJ_aload_n dX12_last_37 rfl rfl ?_
      refine zJ_iload_n dX12_last_38 rfl rfl ?_
      refine zJ_iload_n dX12_last_39 rfl rfl ?_
      obtain ⟨rn13, m_readn14, m_lengthn15, m_topn16, m_atn17, m_wrongn18, m_isAskedn19, m_askedHorsen20, m_askedFencen21, m_askedLettern22, m_askedHeightn23, hcl, h⟩ := bd11_some h
      refine zJ_callV (mi := mX12_last) (yi := mX12_meanOf) (as := [.int p1, .int rn2]) (st := [.ref 54]) (L2 := ([(3457, m_fences), (3461, m_allowed), (3462, m_horses), (3466, m_plans), (3472, (0 : Int32)), (3473, (0 : Int32)), (3474, m_readn14), (3475, m_lengthn15), (3476, m_topn16), (3477, m_atn17), (3478, m_wrongn18), (3483, m_ruleSize), (3484, m_isAskedn19), (3485, m_askedHorsen20), (3486, m_askedFencen21), (3487, m_askedLettern22), (3488, m_askedHeightn23)], [(55, m_now), (56, m_kind), (57, m_height), (58, m_feet), (59, m_stride), (60, m_scope), (61, m_care), (62, m_plan), (63, m_money), (69, m_rule)], [(65, m_row)])) dX12_last_40 ML_X12_376 Yv_X12_meanOf rfl zW_54 rfl rfl (t_X12_meanOf l _ hcl) (zsub_i (zle_c rfl (zle_c rfl (zle_c rfl (zle_c rfl (zle_c rfl (zle_c rfl (zle_c rfl (zle_c rfl (zle_c rfl (zle_c rfl (zle_c rfl (zle_c rfl (zle_c rfl zle_n))))))))))))) (zle_c rfl (zle_c rfl (zle_c rfl (zle_c rfl (zle_c rfl (zle_c rfl (zle_c rfl (zle_c rfl (zle_c rfl (zle_c rfl zle_n)))))))))) zle_n) rfl (Nat.le_of_ble_eq_true rfl) (Nat.le_of_ble_eq_true rfl) rfl rfl ?_
      refine zJ_i2l dX12_last_43 rfl ?_
      obtain ⟨m_rowManyn24, m_rown25, hcl, h⟩ := bd2_some h
      refine zJ_callV (mi := mX12_last) (yi := mX12_tell) (as := [.long rn13.toInt64]) (st := []) (L2 := ([(3457, m_fences), (3461, m_allowed), (3462, m_horses), (3466, m_plans), (3472, m_rowManyn24), (3473, (0 : Int32)), (3474, m_readn14), (3475, m_lengthn15), (3476, m_topn16), (3477, m_atn17), (3478, m_wrongn18), (3483, m_ruleSize), (3484, m_isAskedn19), (3485, m_askedHorsen20), (3486, m_askedFencen21), (3487, m_askedLettern22), (3488, m_askedHeightn23)], [(55, m_now), (56, m_kind), (57, m_height), (58, m_feet), (59, m_stride), (60, m_scope), (61, m_care), (62, m_plan), (63, m_money), (69, m_rule)], [(65, m_rown25)])) dX12_last_44 ML_X12_265 Yv_X12_tell rfl zW_54 rfl rfl (t_X12_tell l _ hcl) (zsub_i (zle_c rfl zle_n) zle_n (zle_c rfl zle_n)) rfl (Nat.le_of_ble_eq_true rfl) (Nat.le_of_ble_eq_true rfl) rfl rfl ?_
      refine zJ_iload_n dX12_last_47 rfl rfl ?_
      obtain ⟨rfl, rfl, rfl, rfl, rfl, rfl, rfl, rfl, rfl, rfl, rfl, rfl, rfl, rfl⟩ := so14 h
      exact zJ_iret dX12_last_48 rfl rfl
    · replace h := it_t hc h
      refine zJ_bipush dX12_last_22 zb_m2 rfl ?_
      obtain ⟨rfl, rfl, rfl, rfl, rfl, rfl, rfl, rfl, rfl, rfl, rfl, rfl, rfl, rfl⟩ := so14 h
      exact zJ_iret dX12_last_24 rfl rfl
  · replace h := it_t hc h
    refine zJ_iconst dX12_last_13 zc_m1 rfl ?_
    obtain ⟨rfl, rfl, rfl, rfl, rfl, rfl, rfl, rfl, rfl, rfl, rfl, rfl, rfl, rfl⟩ := so14 h
    exact zJ_iret dX12_last_14 rfl rfl
set_option maxRecDepth 100000 in
set_option maxHeartbeats 4000000 in
theorem t_X12_lay_m_now_m_then (l : Launch) (σ : zS) {p2 : Int32} {m_now : (Nat → Int32)} {m_then : (Nat → Int32)} {w_m_then : (Nat → Int32)} (h : f_X12_lay_m_now_m_then p2 m_now m_then = some w_m_then) : zMt l zW 0 mX12_lay σ ([], [(55, m_now), (77, m_then)], []) [.ref 55, .ref 77, .int p2] none ([], [(55, m_now), (77, w_m_then)], []) := by
  refine zMt_of (ls := [(0, .ref 55), (1, .ref 77), (2, .int p2)]) (by decide) rfl (fun _ => Nat.le_of_ble_eq_true rfl) rfl ?_
  unfold f_X12_lay_m_now_m_then at h
  refine zJ_iconst dX12_lay_0 zc_0 rfl ?_
  refine zJ_istore_n (ls' := [(3, .int (0 : Int32)), (0, .ref 55), (1, .ref 77), (2, .int p2)]) dX12_lay_1 rfl rfl rfl ?_
  have hk2 : ∀ (m_then_2x : (Nat → Int32)), k_X12_lay_m_now_m_then_2  m_then_2x = some w_m_then → zJ l zW 0 mX12_lay σ ([], [(55, m_now), (77, m_then_2x)], []) 22 [] [] none ([], [(55, m_now), (77, w_m_then)], []) := by
    intro m_then_2x h
    unfold k_X12_lay_m_now_m_then_2 at h
    obtain rfl := so1 h
    exact zJ_vret dX12_lay_22 rfl
  refine zJ_loc (ls' := [(0, .ref 55), (1, .ref 77), (2, .int p2), (3, .int (0 : Int32))]) (zll_c rfl (zll_c rfl (zll_c rfl (zll_c rfl zll_n)))) ?_
  refine ml2_J (fun (v3_2 : Int32) (m_then_2 : (Nat → Int32)) => zJ l zW 0 mX12_lay σ ([], [(55, m_now), (77, m_then_2)], []) 2 [(0, .ref 55), (1, .ref 77), (2, .int p2), (3, .int v3_2)] [] none ([], [(55, m_now), (77, w_m_then)], [])) (fun rc2 hrc2 v3_2 m_then_2 h => ?_) zN _ _ h
  unfold s_X12_lay_m_now_m_then_2 at h
  refine zJ_iload_n dX12_lay_2 rfl rfl ?_
  refine zJ_bipush dX12_lay_3 zb_49 rfl ?_
  refine zJ_icmp_ge (tgt := 22) dX12_lay_5 (by decide) rfl (fun hc => ?_) (fun hc => ?_)
  · replace h := it_t hc h
    refine zJ_loc (ls' := []) zll_n ?_
    exact hk2 _ h
  · replace h := it_f hc h
    refine zJ_aload_n dX12_lay_8 rfl rfl ?_
    refine zJ_iload_n dX12_lay_9 rfl rfl ?_
    refine zJ_iload_n dX12_lay_10 rfl rfl ?_
    refine zJ_iadd dX12_lay_11 rfl ?_
    refine zJ_aload_n dX12_lay_12 rfl rfl ?_
    refine zJ_iload_n dX12_lay_13 rfl rfl ?_
    obtain ⟨hg, h⟩ := gd_some h
    refine zJ_iald (mi := mX12_lay) (f := m_now) dX12_lay_14 zW_55 (ix_in hg) rfl rfl ?_
    obtain ⟨hg, h⟩ := gd_some h
    refine zK_iast (mi := mX12_lay) (f := m_then_2) (lb' := [(55, m_now), (77, (upd m_then_2 (p2 + v3_2).toNatClampNeg (m_now v3_2.toNatClampNeg)))]) dX12_lay_15 zW_77 (ix_in hg) rfl rfl rfl ?_
    obtain ⟨v3n1, ev3n1, h⟩ := lt1_some h
    refine zJ_iincN (ls' := [(3, .int v3n1), (0, .ref 55), (1, .ref 77), (2, .int p2)]) dX12_lay_16 rfl rfl zc_1 ev3n1 rfl rfl ?_
    refine zJ_goto (tgt := 2) dX12_lay_19 (by decide) ?_
    refine zJ_loc (ls' := [(0, .ref 55), (1, .ref 77), (2, .int p2), (3, .int v3n1)]) (zll_c rfl (zll_c rfl (zll_c rfl (zll_c rfl zll_n)))) ?_
    exact hrc2 _ _ h
set_option maxRecDepth 100000 in
set_option maxHeartbeats 4000000 in
theorem t_X12_placeOf_m_now (l : Launch) (σ : zS) {p1 : Int32} {m_now : (Nat → Int32)} {r : Int32} (h : f_X12_placeOf_m_now p1 m_now = some r) : zMt l zW 1 mX12_placeOf σ ([], [(55, m_now)], []) [.ref 55, .int p1] (some (.int r)) ([], [(55, m_now)], []) := by
  refine zMt_of (ls := [(0, .ref 55), (1, .int p1)]) (by decide) rfl (fun _ => Nat.le_of_ble_eq_true rfl) rfl ?_
  unfold f_X12_placeOf_m_now at h
  refine zJ_iconst dX12_placeOf_0 zc_1 rfl ?_
  refine zJ_istore_n (ls' := [(2, .int (1 : Int32)), (0, .ref 55), (1, .int p1)]) dX12_placeOf_1 rfl rfl rfl ?_
  refine zJ_iconst dX12_placeOf_2 zc_0 rfl ?_
  refine zJ_istore_n (ls' := [(3, .int (0 : Int32)), (2, .int (1 : Int32)), (0, .ref 55), (1, .int p1)]) dX12_placeOf_3 rfl rfl rfl ?_
  have hk4 : ∀ (v2_4x : Int32), k_X12_placeOf_m_now_4  v2_4x = some r → zJ l zW 1 mX12_placeOf σ ([], [(55, m_now)], []) 35 [(2, .int v2_4x)] [] (some (.int r)) ([], [(55, m_now)], []) := by
    intro v2_4x h
    unfold k_X12_placeOf_m_now_4 at h
    refine zJ_iload_n dX12_placeOf_35 rfl rfl ?_
    obtain rfl := so1 h
    exact zJ_iret dX12_placeOf_36 rfl rfl
  refine zJ_loc (ls' := [(0, .ref 55), (1, .int p1), (2, .int (1 : Int32)), (3, .int (0 : Int32))]) (zll_c rfl (zll_c rfl (zll_c rfl (zll_c rfl zll_n)))) ?_
  refine ml2_J (fun (v2_4 : Int32) (v3_4 : Int32) => zJ l zW 1 mX12_placeOf σ ([], [(55, m_now)], []) 4 [(0, .ref 55), (1, .int p1), (2, .int v2_4), (3, .int v3_4)] [] (some (.int r)) ([], [(55, m_now)], [])) (fun rc4 hrc4 v2_4 v3_4 h => ?_) zN _ _ h
  unfold s_X12_placeOf_m_now_4 at h
  refine zJ_iload_n dX12_placeOf_4 rfl rfl ?_
  refine zJ_aload_n dX12_placeOf_5 rfl rfl ?_
  refine zJ_bipush dX12_placeOf_6 zb_48 rfl ?_
  obtain ⟨hg, h⟩ := gd_some h
  refine zJ_iald (mi := mX12_placeOf) (f := m_now) dX12_placeOf_8 zW_55 (ix_in hg) rfl rfl ?_
  refine zJ_icmp_ge (tgt := 35) dX12_placeOf_9 (by decide) rfl (fun hc => ?_) (fun hc => ?_)
  · replace h := it_t hc h
    refine zJ_loc (ls' := [(2, .int v2_4)]) (zll_c rfl zll_n) ?_
    exact hk4 _ h
  · replace h := it_f hc h
    refine zJ_iload_n dX12_placeOf_12 rfl rfl ?_
    refine zJ_iload_n dX12_placeOf_13 rfl rfl ?_
    refine zJ_icmp_eq (tgt := 29) dX12_placeOf_14 (by decide) rfl (fun hc => ?_) (fun hc => ?_)
    · replace h := it_t hc h
      obtain ⟨v3n1, ev3n1, h⟩ := lt1_some h
      refine zJ_iincN (ls' := [(3, .int v3n1), (0, .ref 55), (1, .int p1), (2, .int v2_4)]) dX12_placeOf_29 rfl rfl zc_1 ev3n1 rfl rfl ?_
      refine zJ_goto (tgt := 4) dX12_placeOf_32 (by decide) ?_
      refine zJ_loc (ls' := [(0, .ref 55), (1, .int p1), (2, .int v2_4), (3, .int v3n1)]) (zll_c rfl (zll_c rfl (zll_c rfl (zll_c rfl zll_n)))) ?_
      exact hrc4 _ _ h
    · replace h := it_f hc h
      refine zJ_aload_n dX12_placeOf_17 rfl rfl ?_
      refine zJ_iload_n dX12_placeOf_18 rfl rfl ?_
      refine zJ_iload_n dX12_placeOf_19 rfl rfl ?_
      obtain ⟨rn2, hcl, h⟩ := bd1_some h
      refine zJ_callS (mi := mX12_placeOf) (yi := mX12_isAhead) (as := [.ref 55, .int v3_4, .int p1]) (st := []) (L2 := ([], [(55, m_now)], [])) dX12_placeOf_20 ML_X12_354 Ys_X12_isAhead rfl (t_X12_isAhead_m_now l _ hcl) (zsub_i zle_n (zle_c rfl zle_n) zle_n) rfl (Nat.le_of_ble_eq_true rfl) (Nat.le_of_ble_eq_true rfl) rfl rfl ?_
      refine zJ_if_eq (tgt := 29) dX12_placeOf_23 (by decide) rfl (fun hc => ?_) (fun hc => ?_)
      · replace h := it_t hc h
        obtain ⟨v3n3, ev3n3, h⟩ := lt1_some h
        refine zJ_iincN (ls' := [(3, .int v3n3), (0, .ref 55), (1, .int p1), (2, .int v2_4)]) dX12_placeOf_29 rfl rfl zc_1 ev3n3 rfl rfl ?_
        refine zJ_goto (tgt := 4) dX12_placeOf_32 (by decide) ?_
        refine zJ_loc (ls' := [(0, .ref 55), (1, .int p1), (2, .int v2_4), (3, .int v3n3)]) (zll_c rfl (zll_c rfl (zll_c rfl (zll_c rfl zll_n)))) ?_
        exact hrc4 _ _ h
      · replace h := it_f hc h
        obtain ⟨v2n4, ev2n4, h⟩ := lt1_some h
        refine zJ_iincN (ls' := [(2, .int v2n4), (0, .ref 55), (1, .int p1), (3, .int v3_4)]) dX12_placeOf_26 rfl rfl zc_1 ev2n4 rfl rfl ?_
        obtain ⟨v3n5, ev3n5, h⟩ := lt1_some h
        refine zJ_iincN (ls' := [(3, .int v3n5), (2, .int v2n4), (0, .ref 55), (1, .int p1)]) dX12_placeOf_29 rfl rfl zc_1 ev3n5 rfl rfl ?_
        refine zJ_goto (tgt := 4) dX12_placeOf_32 (by decide) ?_
        refine zJ_loc (ls' := [(0, .ref 55), (1, .int p1), (2, .int v2n4), (3, .int v3n5)]) (zll_c rfl (zll_c rfl (zll_c rfl (zll_c rfl zll_n)))) ?_
        exact hrc4 _ _ h
set_option maxRecDepth 100000 in
set_option maxHeartbeats 4000000 in
theorem t_X12_placeOf_m_then (l : Launch) (σ : zS) {p1 : Int32} {m_then : (Nat → Int32)} {r : Int32} (h : f_X12_placeOf_m_then p1 m_then = some r) : zMt l zW 1 mX12_placeOf σ ([], [(77, m_then)], []) [.ref 77, .int p1] (some (.int r)) ([], [(77, m_then)], []) := by
  refine zMt_of (ls := [(0, .ref 77), (1, .int p1)]) (by decide) rfl (fun _ => Nat.le_of_ble_eq_true rfl) rfl ?_
  unfold f_X12_placeOf_m_then at h
  refine zJ_iconst dX12_placeOf_0 zc_1 rfl ?_
  refine zJ_istore_n (ls' := [(2, .int (1 : Int32)), (0, .ref 77), (1, .int p1)]) dX12_placeOf_1 rfl rfl rfl ?_
  refine zJ_iconst dX12_placeOf_2 zc_0 rfl ?_
  refine zJ_istore_n (ls' := [(3, .int (0 : Int32)), (2, .int (1 : Int32)), (0, .ref 77), (1, .int p1)]) dX12_placeOf_3 rfl rfl rfl ?_
  have hk4 : ∀ (v2_4x : Int32), k_X12_placeOf_m_then_4  v2_4x = some r → zJ l zW 1 mX12_placeOf σ ([], [(77, m_then)], []) 35 [(2, .int v2_4x)] [] (some (.int r)) ([], [(77, m_then)], []) := by
    intro v2_4x h
    unfold k_X12_placeOf_m_then_4 at h
    refine zJ_iload_n dX12_placeOf_35 rfl rfl ?_
    obtain rfl := so1 h
    exact zJ_iret dX12_placeOf_36 rfl rfl
  refine zJ_loc (ls' := [(0, .ref 77), (1, .int p1), (2, .int (1 : Int32)), (3, .int (0 : Int32))]) (zll_c rfl (zll_c rfl (zll_c rfl (zll_c rfl zll_n)))) ?_
  refine ml2_J (fun (v2_4 : Int32) (v3_4 : Int32) => zJ l zW 1 mX12_placeOf σ ([], [(77, m_then)], []) 4 [(0, .ref 77), (1, .int p1), (2, .int v2_4), (3, .int v3_4)] [] (some (.int r)) ([], [(77, m_then)], [])) (fun rc4 hrc4 v2_4 v3_4 h => ?_) zN _ _ h
  unfold s_X12_placeOf_m_then_4 at h
  refine zJ_iload_n dX12_placeOf_4 rfl rfl ?_
  refine zJ_aload_n dX12_placeOf_5 rfl rfl ?_
  refine zJ_bipush dX12_placeOf_6 zb_48 rfl ?_
  obtain ⟨hg, h⟩ := gd_some h
  refine zJ_iald (mi := mX12_placeOf) (f := m_then) dX12_placeOf_8 zW_77 (ix_in hg) rfl rfl ?_
  refine zJ_icmp_ge (tgt := 35) dX12_placeOf_9 (by decide) rfl (fun hc => ?_) (fun hc => ?_)
  · replace h := it_t hc h
    refine zJ_loc (ls' := [(2, .int v2_4)]) (zll_c rfl zll_n) ?_
    exact hk4 _ h
  · replace h := it_f hc h
    refine zJ_iload_n dX12_placeOf_12 rfl rfl ?_
    refine zJ_iload_n dX12_placeOf_13 rfl rfl ?_
    refine zJ_icmp_eq (tgt := 29) dX12_placeOf_14 (by decide) rfl (fun hc => ?_) (fun hc => ?_)
    · replace h := it_t hc h
      obtain ⟨v3n1, ev3n1, h⟩ := lt1_some h
      refine zJ_iincN (ls' := [(3, .int v3n1), (0, .ref 77), (1, .int p1), (2, .int v2_4)]) dX12_placeOf_29 rfl rfl zc_1 ev3n1 rfl rfl ?_
      refine zJ_goto (tgt := 4) dX12_placeOf_32 (by decide) ?_
      refine zJ_loc (ls' := [(0, .ref 77), (1, .int p1), (2, .int v2_4), (3, .int v3n1)]) (zll_c rfl (zll_c rfl (zll_c rfl (zll_c rfl zll_n)))) ?_
      exact hrc4 _ _ h
    · replace h := it_f hc h
      refine zJ_aload_n dX12_placeOf_17 rfl rfl ?_
      refine zJ_iload_n dX12_placeOf_18 rfl rfl ?_
      refine zJ_iload_n dX12_placeOf_19 rfl rfl ?_
      obtain ⟨rn2, hcl, h⟩ := bd1_some h
      refine zJ_callS (mi := mX12_placeOf) (yi := mX12_isAhead) (as := [.ref 77, .int v3_4, .int p1]) (st := []) (L2 := ([], [(77, m_then)], [])) dX12_placeOf_20 ML_X12_354 Ys_X12_isAhead rfl (t_X12_isAhead_m_then l _ hcl) (zsub_i zle_n (zle_c rfl zle_n) zle_n) rfl (Nat.le_of_ble_eq_true rfl) (Nat.le_of_ble_eq_true rfl) rfl rfl ?_
      refine zJ_if_eq (tgt := 29) dX12_placeOf_23 (by decide) rfl (fun hc => ?_) (fun hc => ?_)
      · replace h := it_t hc h
        obtain ⟨v3n3, ev3n3, h⟩ := lt1_some h
        refine zJ_iincN (ls' := [(3, .int v3n3), (0, .ref 77), (1, .int p1), (2, .int v2_4)]) dX12_placeOf_29 rfl rfl zc_1 ev3n3 rfl rfl ?_
        refine zJ_goto (tgt := 4) dX12_placeOf_32 (by decide) ?_
        refine zJ_loc (ls' := [(0, .ref 77), (1, .int p1), (2, .int v2_4), (3, .int v3n3)]) (zll_c rfl (zll_c rfl (zll_c rfl (zll_c rfl zll_n)))) ?_
        exact hrc4 _ _ h
      · replace h := it_f hc h
        obtain ⟨v2n4, ev2n4, h⟩ := lt1_some h
        refine zJ_iincN (ls' := [(2, .int v2n4), (0, .ref 77), (1, .int p1), (3, .int v3_4)]) dX12_placeOf_26 rfl rfl zc_1 ev2n4 rfl rfl ?_
        obtain ⟨v3n5, ev3n5, h⟩ := lt1_some h
        refine zJ_iincN (ls' := [(3, .int v3n5), (2, .int v2n4), (0, .ref 77), (1, .int p1)]) dX12_placeOf_29 rfl rfl zc_1 ev3n5 rfl rfl ?_
        refine zJ_goto (tgt := 4) dX12_placeOf_32 (by decide) ?_
        refine zJ_loc (ls' := [(0, .ref 77), (1, .int p1), (2, .int v2n4), (3, .int v3n5)]) (zll_c rfl (zll_c rfl (zll_c rfl (zll_c rfl zll_n)))) ?_
        exact hrc4 _ _ h
set_option maxRecDepth 100000 in
set_option maxHeartbeats 4000000 in
theorem t_X12_tellPlaces_m_then (l : Launch) (σ : zS) {m_rowMany : Int32} {m_then : (Nat → Int32)} {m_row : (Nat → Int64)} {w_m_rowMany : Int32} {w_m_row : (Nat → Int64)} (h : f_X12_tellPlaces_m_then m_rowMany m_then m_row = some (w_m_rowMany, w_m_row)) : zMt l zW 2 mX12_tellPlaces σ ([(3472, m_rowMany)], [(77, m_then)], [(65, m_row)]) [.ref 54, .ref 77] none ([(3472, w_m_rowMany)], [(77, m_then)], [(65, w_m_row)]) := by
  refine zMt_of (ls := [(0, .ref 54), (1, .ref 77)]) (by decide) rfl (fun _ => Nat.le_of_ble_eq_true rfl) rfl ?_
  unfold f_X12_tellPlaces_m_then at h
  refine zJ_iconst dX12_tellPlaces_0 zc_1 rfl ?_
  refine zJ_istore_n (ls' := [(2, .int (1 : Int32)), (0, .ref 54), (1, .ref 77)]) dX12_tellPlaces_1 rfl rfl rfl ?_
  have hk2 : ∀ (m_rowMany_2x : Int32) (m_row_2x : (Nat → Int64)), k_X12_tellPlaces_m_then_2  m_rowMany_2x m_row_2x = some (w_m_rowMany, w_m_row) → zJ l zW 2 mX12_tellPlaces σ ([(3472, m_rowMany_2x)], [(77, m_then)], [(65, m_row_2x)]) 47 [] [] none ([(3472, w_m_rowMany)], [(77, m_then)], [(65, w_m_row)]) := by
    intro m_rowMany_2x m_row_2x h
    unfold k_X12_tellPlaces_m_then_2 at h
    obtain ⟨rfl, rfl⟩ := so2 h
    exact zJ_vret dX12_tellPlaces_47 rfl
  refine zJ_loc (ls' := [(0, .ref 54), (1, .ref 77), (2, .int (1 : Int32))]) (zll_c rfl (zll_c rfl (zll_c rfl zll_n))) ?_
  refine ml3_J (fun (v2_2 : Int32) (m_rowMany_2 : Int32) (m_row_2 : (Nat → Int64)) => zJ l zW 2 mX12_tellPlaces σ ([(3472, m_rowMany_2)], [(77, m_then)], [(65, m_row_2)]) 2 [(0, .ref 54), (1, .ref 77), (2, .int v2_2)] [] none ([(3472, w_m_rowMany)], [(77, m_then)], [(65, w_m_row)])) (fun rc2 hrc2 v2_2 m_rowMany_2 m_row_2 h => ?_) zN _ _ _ h
  unfold s_X12_tellPlaces_m_then_2 at h
  refine zJ_iload_n dX12_tellPlaces_2 rfl rfl ?_
  refine zJ_aload_n dX12_tellPlaces_3 rfl rfl ?_
  refine zJ_bipush dX12_tellPlaces_4 zb_48 rfl ?_
  obtain ⟨hg, h⟩ := gd_some h
  refine zJ_iald (mi := mX12_tellPlaces) (f := m_then) dX12_tellPlaces_6 zW_77 (ix_in hg) rfl rfl ?_
  refine zJ_icmp_gt (tgt := 47) dX12_tellPlaces_7 (by decide) rfl (fun hc => ?_) (fun hc => ?_)
  · replace h := it_t hc h
    refine zJ_loc (ls' := []) zll_n ?_
    exact hk2 _ _ h
  · replace h := it_f hc h
    refine zJ_iconst dX12_tellPlaces_10 zc_0 rfl ?_
    refine zJ_istore_n (ls' := [(3, .int (0 : Int32)), (0, .ref 54), (1, .ref 77), (2, .int v2_2)]) dX12_tellPlaces_11 rfl rfl rfl ?_
    have hk12 : ∀ (m_rowMany_12x : Int32) (m_row_12x : (Nat → Int64)), k_X12_tellPlaces_m_then_12 rc2 v2_2 m_rowMany_12x m_row_12x = some (w_m_rowMany, w_m_row) → zJ l zW 2 mX12_tellPlaces σ ([(3472, m_rowMany_12x)], [(77, m_then)], [(65, m_row_12x)]) 41 [(0, .ref 54), (1, .ref 77), (2, .int v2_2)] [] none ([(3472, w_m_rowMany)], [(77, m_then)], [(65, w_m_row)]) := by
      intro m_rowMany_12x m_row_12x h
      unfold k_X12_tellPlaces_m_then_12 at h
      obtain ⟨v2n1, ev2n1, h⟩ := lt1_some h
      refine zJ_iincN (ls' := [(2, .int v2n1), (0, .ref 54), (1, .ref 77)]) dX12_tellPlaces_41 rfl rfl zc_1 ev2n1 rfl rfl ?_
      refine zJ_goto (tgt := 2) dX12_tellPlaces_44 (by decide) ?_
      refine zJ_loc (ls' := [(0, .ref 54), (1, .ref 77), (2, .int v2n1)]) (zll_c rfl (zll_c rfl (zll_c rfl zll_n))) ?_
      exact hrc2 _ _ _ h
    refine zJ_loc (ls' := [(0, .ref 54), (1, .ref 77), (2, .int v2_2), (3, .int (0 : Int32))]) (zll_c rfl (zll_c rfl (zll_c rfl (zll_c rfl zll_n)))) ?_
    refine ml3_J (fun (v3_12 : Int32) (m_rowMany_12 : Int32) (m_row_12 : (Nat → Int64)) => zJ l zW 2 mX12_tellPlaces σ ([(3472, m_rowMany_12)], [(77, m_then)], [(65, m_row_12)]) 12 [(0, .ref 54), (1, .ref 77), (2, .int v2_2), (3, .int v3_12)] [] none ([(3472, w_m_rowMany)], [(77, m_then)], [(65, w_m_row)])) (fun rc12 hrc12 v3_12 m_rowMany_12 m_row_12 h => ?_) zN _ _ _ h
    unfold s_X12_tellPlaces_m_then_12 at h
    refine zJ_iload_n dX12_tellPlaces_12 rfl rfl ?_
    refine zJ_aload_n dX12_tellPlaces_13 rfl rfl ?_
    refine zJ_bipush dX12_tellPlaces_14 zb_48 rfl ?_
    obtain ⟨hg, h⟩ := gd_some h
    refine zJ_iald (mi := mX12_tellPlaces) (f := m_then) dX12_tellPlaces_16 zW_77 (ix_in hg) rfl rfl ?_
    refine zJ_icmp_ge (tgt := 41) dX12_tellPlaces_17 (by decide) rfl (fun hc => ?_) (fun hc => ?_)
    · replace h := it_t hc h
      refine zJ_loc (ls' := [(0, .ref 54), (1, .ref 77), (2, .int v2_2)]) (zll_c rfl (zll_c rfl (zll_c rfl zll_n))) ?_
      exact hk12 _ _ h
    · replace h := it_f hc h
      refine zJ_aload_n dX12_tellPlaces_20 rfl rfl ?_
      refine zJ_iload_n dX12_tellPlaces_21 rfl rfl ?_
      obtain ⟨rn2, hcl, h⟩ := bd1_some h
      refine zJ_callS (mi := mX12_tellPlaces) (yi := mX12_placeOf) (as := [.ref 77, .int v3_12]) (st := []) (L2 := ([(3472, m_rowMany_12)], [(77, m_then)], [(65, m_row_12)])) dX12_tellPlaces_22 ML_X12_358 Ys_X12_placeOf rfl (t_X12_placeOf_m_then l _ hcl) (zsub_i zle_n (zle_c rfl zle_n) zle_n) rfl (Nat.le_of_ble_eq_true rfl) (Nat.le_of_ble_eq_true rfl) rfl rfl ?_
      refine zJ_iload_n dX12_tellPlaces_25 rfl rfl ?_
      refine zJ_icmp_ne (tgt := 35) dX12_tellPlaces_26 (by decide) rfl (fun hc => ?_) (fun hc => ?_)
      · replace h := it_f hc h
        obtain ⟨v3n3, ev3n3, h⟩ := lt1_some h
        refine zJ_iincN (ls' := [(3, .int v3n3), (0, .ref 54), (1, .ref 77), (2, .int v2_2)]) dX12_tellPlaces_35 rfl rfl zc_1 ev3n3 rfl rfl ?_
        refine zJ_goto (tgt := 12) dX12_tellPlaces_38 (by decide) ?_
        refine zJ_loc (ls' := [(0, .ref 54), (1, .ref 77), (2, .int v2_2), (3, .int v3n3)]) (zll_c rfl (zll_c rfl (zll_c rfl (zll_c rfl zll_n)))) ?_
        exact hrc12 _ _ _ h
      · replace h := it_t hc h
        refine zJ_aload_n dX12_tellPlaces_29 rfl rfl ?_
        refine zJ_iload_n dX12_tellPlaces_30 rfl rfl ?_
        refine zJ_i2l dX12_tellPlaces_31 rfl ?_
        obtain ⟨m_rowManyn4, m_rown5, hcl, h⟩ := bd2_some h
        refine zJ_callV (mi := mX12_tellPlaces) (yi := mX12_tell) (as := [.long v3_12.toInt64]) (st := []) (L2 := ([(3472, m_rowManyn4)], [(77, m_then)], [(65, m_rown5)])) dX12_tellPlaces_32 ML_X12_265 Yv_X12_tell rfl zW_54 rfl rfl (t_X12_tell l _ hcl) (zsub_i (zle_c rfl zle_n) zle_n (zle_c rfl zle_n)) rfl (Nat.le_of_ble_eq_true rfl) (Nat.le_of_ble_eq_true rfl) rfl rfl ?_
        obtain ⟨v3n6, ev3n6, h⟩ := lt1_some h
        refine zJ_iincN (ls' := [(3, .int v3n6), (0, .ref 54), (1, .ref 77), (2, .int v2_2)]) dX12_tellPlaces_35 rfl rfl zc_1 ev3n6 rfl rfl ?_
        refine zJ_goto (tgt := 12) dX12_tellPlaces_38 (by decide) ?_
        refine zJ_loc (ls' := [(0, .ref 54), (1, .ref 77), (2, .int v2_2), (3, .int v3n6)]) (zll_c rfl (zll_c rfl (zll_c rfl (zll_c rfl zll_n)))) ?_
        exact hrc12 _ _ _ h
set_option maxRecDepth 100000 in
set_option maxHeartbeats 4000000 in
theorem t_X12_law (l : Launch) (σ : zS) {p1 : Int32} {p2 : Int32} {m_allowed : Int32} {m_rowMany : Int32} {m_thrown : Int32} {m_now : (Nat → Int32)} {m_then : (Nat → Int32)} {m_row : (Nat → Int64)} {r : Int32} {w_m_rowMany : Int32} {w_m_thrown : Int32} {w_m_then : (Nat → Int32)} {w_m_row : (Nat → Int64)} (h : f_X12_law p1 p2 m_allowed m_rowMany m_thrown m_now m_then m_row = some (r, w_m_rowMany, w_m_thrown, w_m_then, w_m_row)) : zMt l zW 3 mX12_law σ ([(3461, m_allowed), (3472, m_rowMany), (3473, m_thrown)], [(55, m_now), (77, m_then)], [(65, m_row)]) [.ref 54, .int p1, .int p2] (some (.int r)) ([(3461, m_allowed), (3472, w_m_rowMany), (3473, w_m_thrown)], [(55, m_now), (77, w_m_then)], [(65, w_m_row)]) := by
  refine zMt_of (ls := [(0, .ref 54), (1, .int p1), (2, .int p2)]) (by decide) rfl (fun _ => Nat.le_of_ble_eq_true rfl) rfl ?_
  unfold f_X12_law at h
  refine zJ_aload_n dX12_law_0 rfl rfl ?_
  refine zJ_iconst dX12_law_1 zc_0 rfl ?_
  refine zK_puti (mi := mX12_law) (la' := [(3461, m_allowed), (3472, m_rowMany), (3473, (0 : Int32))]) zW_ok dX12_law_2 F_X12_113 P_12_17 zW_54 rfl rfl rfl ?_
  refine zJ_iload_n dX12_law_5 rfl rfl ?_
  refine zJ_iconst dX12_law_6 zc_1 rfl ?_
  refine zJ_sipush dX12_law_7 zs_999 rfl ?_
  obtain ⟨rn1, hcl, h⟩ := bd1_some h
  refine zJ_callS (mi := mX12_law) (yi := mX12_in) (as := [.int p1, .int (1 : Int32), .int (999 : Int32)]) (st := []) (L2 := ([(3461, m_allowed), (3472, m_rowMany), (3473, (0 : Int32))], [(55, m_now), (77, m_then)], [(65, m_row)])) dX12_law_10 ML_X12_122 Ys_X12_in rfl (t_X12_in l _ hcl) (zsub_i zle_n zle_n zle_n) rfl (Nat.le_of_ble_eq_true rfl) (Nat.le_of_ble_eq_true rfl) rfl rfl ?_
  refine zJ_if_eq (tgt := 26) dX12_law_13 (by decide) rfl (fun hc => ?_) (fun hc => ?_)
  · replace h := it_t hc h
    refine zJ_iconst dX12_law_26 zc_m1 rfl ?_
    obtain ⟨rfl, rfl, rfl, rfl, rfl⟩ := so5 h
    exact zJ_iret dX12_law_27 rfl rfl
  · replace h := it_f hc h
    refine zJ_iload_n dX12_law_16 rfl rfl ?_
    refine zJ_iconst dX12_law_17 zc_0 rfl ?_
    refine zJ_bipush dX12_law_18 zb_9 rfl ?_
    obtain ⟨rn2, hcl, h⟩ := bd1_some h
    refine zJ_callS (mi := mX12_law) (yi := mX12_in) (as := [.int p2, .int (0 : Int32), .int (9 : Int32)]) (st := []) (L2 := ([(3461, m_allowed), (3472, m_rowMany), (3473, (0 : Int32))], [(55, m_now), (77, m_then)], [(65, m_row)])) dX12_law_20 ML_X12_122 Ys_X12_in rfl (t_X12_in l _ hcl) (zsub_i zle_n zle_n zle_n) rfl (Nat.le_of_ble_eq_true rfl) (Nat.le_of_ble_eq_true rfl) rfl rfl ?_
    refine zJ_if_ne (tgt := 28) dX12_law_23 (by decide) rfl (fun hc => ?_) (fun hc => ?_)
    · replace h := it_f hc h
      refine zJ_aload_n dX12_law_28 rfl rfl ?_
      refine zJ_getr (mi := mX12_law) dX12_law_29 F_X12_9 zW_54 rfl rfl ?_
      refine zJ_aload_n dX12_law_32 rfl rfl ?_
      refine zJ_getr (mi := mX12_law) dX12_law_33 F_X12_82 zW_54 rfl rfl ?_
      refine zJ_iconst dX12_law_36 zc_0 rfl ?_
      obtain ⟨m_thenn3, hcl, h⟩ := bd1_some h
      refine zJ_callS (mi := mX12_law) (yi := mX12_lay) (as := [.ref 55, .ref 77, .int (0 : Int32)]) (st := []) (L2 := ([(3461, m_allowed), (3472, m_rowMany), (3473, (0 : Int32))], [(55, m_now), (77, m_thenn3)], [(65, m_row)])) dX12_law_37 ML_X12_305 Ys_X12_lay rfl (t_X12_lay_m_now_m_then l _ hcl) (zsub_i zle_n (zle_c rfl (zle_c rfl zle_n)) zle_n) rfl (Nat.le_of_ble_eq_true rfl) (Nat.le_of_ble_eq_true rfl) rfl rfl ?_
      refine zJ_iconst dX12_law_40 zc_0 rfl ?_
      refine zJ_istore_n (ls' := [(3, .int (0 : Int32)), (0, .ref 54), (1, .int p1), (2, .int p2)]) dX12_law_41 rfl rfl rfl ?_
      have hk42 : ∀ (m_then_42x : (Nat → Int32)), k_X12_law_42 m_now m_row m_then_42x = some (r, w_m_rowMany, w_m_thrown, w_m_then, w_m_row) → zJ l zW 3 mX12_law σ ([(3461, m_allowed), (3472, m_rowMany), (3473, (0 : Int32))], [(55, m_now), (77, m_then_42x)], [(65, m_row)]) 114 [(0, .ref 54)] [] (some (.int r)) ([(3461, m_allowed), (3472, w_m_rowMany), (3473, w_m_thrown)], [(55, m_now), (77, w_m_then)], [(65, w_m_row)]) := by
        intro m_then_42x h
        unfold k_X12_law_42 at h
        refine zJ_iconst dX12_law_114 zc_0 rfl ?_
        refine zJ_istore_n (ls' := [(3, .int (0 : Int32)), (0, .ref 54)]) dX12_law_115 rfl rfl rfl ?_
        refine zJ_iconst dX12_law_116 zc_0 rfl ?_
        refine zJ_istore (ls' := [(4, .int (0 : Int32)), (3, .int (0 : Int32)), (0, .ref 54)]) dX12_law_117 rfl rfl rfl ?_
        have hk119 : ∀ (v3_119x : Int32), k_X12_law_119 m_row m_then_42x v3_119x = some (r, w_m_rowMany, w_m_thrown, w_m_then, w_m_row) → zJ l zW 3 mX12_law σ ([(3461, m_allowed), (3472, m_rowMany), (3473, (0 : Int32))], [(55, m_now), (77, m_then_42x)], [(65, m_row)]) 166 [(0, .ref 54), (3, .int v3_119x)] [] (some (.int r)) ([(3461, m_allowed), (3472, w_m_rowMany), (3473, w_m_thrown)], [(55, m_now), (77, w_m_then)], [(65, w_m_row)]) := by
          intro v3_119x h
          unfold k_X12_law_119 at h
          refine zJ_aload_n dX12_law_166 rfl rfl ?_
          refine zJ_iconst dX12_law_167 zc_0 rfl ?_
          refine zK_puti (mi := mX12_law) (la' := [(3461, m_allowed), (3472, (0 : Int32)), (3473, (0 : Int32))]) zW_ok dX12_law_168 F_X12_116 P_12_16 zW_54 rfl rfl rfl ?_
          refine zJ_aload_n dX12_law_171 rfl rfl ?_
          refine zJ_aload_n dX12_law_172 rfl rfl ?_
          refine zJ_getr (mi := mX12_law) dX12_law_173 F_X12_82 zW_54 rfl rfl ?_
          obtain ⟨m_rowManyn4, m_rown5, hcl, h⟩ := bd2_some h
          refine zJ_callV (mi := mX12_law) (yi := mX12_tellPlaces) (as := [.ref 77]) (st := []) (L2 := ([(3461, m_allowed), (3472, m_rowManyn4), (3473, (0 : Int32))], [(55, m_now), (77, m_then_42x)], [(65, m_rown5)])) dX12_law_176 ML_X12_365 Yv_X12_tellPlaces rfl zW_54 rfl rfl (t_X12_tellPlaces_m_then l _ hcl) (zsub_i (zle_c rfl zle_n) (zle_c rfl zle_n) (zle_c rfl zle_n)) rfl (Nat.le_of_ble_eq_true rfl) (Nat.le_of_ble_eq_true rfl) rfl rfl ?_
          refine zJ_iload_n dX12_law_179 rfl rfl ?_
          obtain ⟨rfl, rfl, rfl, rfl, rfl⟩ := so5 h
          exact zJ_iret dX12_law_180 rfl rfl
        refine zJ_loc (ls' := [(0, .ref 54), (3, .int (0 : Int32)), (4, .int (0 : Int32))]) (zll_c rfl (zll_c rfl (zll_c rfl zll_n))) ?_
        refine ml2_J (fun (v3_119 : Int32) (v4_119 : Int32) => zJ l zW 3 mX12_law σ ([(3461, m_allowed), (3472, m_rowMany), (3473, (0 : Int32))], [(55, m_now), (77, m_then_42x)], [(65, m_row)]) 119 [(0, .ref 54), (3, .int v3_119), (4, .int v4_119)] [] (some (.int r)) ([(3461, m_allowed), (3472, w_m_rowMany), (3473, w_m_thrown)], [(55, m_now), (77, w_m_then)], [(65, w_m_row)])) (fun rc119 hrc119 v3_119 v4_119 h => ?_) zN _ _ h
        unfold s_X12_law_119 at h
        refine zJ_iload dX12_law_119 rfl rfl ?_
        refine zJ_aload_n dX12_law_121 rfl rfl ?_
        refine zJ_getr (mi := mX12_law) dX12_law_122 F_X12_82 zW_54 rfl rfl ?_
        refine zJ_bipush dX12_law_125 zb_48 rfl ?_
        obtain ⟨hg, h⟩ := gd_some h
        refine zJ_iald (mi := mX12_law) (f := m_then_42x) dX12_law_127 zW_77 (ix_in hg) rfl rfl ?_
        refine zJ_icmp_ge (tgt := 166) dX12_law_128 (by decide) rfl (fun hc => ?_) (fun hc => ?_)
        · replace h := it_t hc h
          refine zJ_loc (ls' := [(0, .ref 54), (3, .int v3_119)]) (zll_c rfl (zll_c rfl zll_n)) ?_
          exact hk119 _ h
        · replace h := it_f hc h
          refine zJ_iload_n dX12_law_131 rfl rfl ?_
          refine zJ_aload_n dX12_law_132 rfl rfl ?_
          refine zJ_getr (mi := mX12_law) dX12_law_133 F_X12_82 zW_54 rfl rfl ?_
          refine zJ_iload dX12_law_136 rfl rfl ?_
          obtain ⟨rn6, hcl, h⟩ := bd1_some h
          refine zJ_callS (mi := mX12_law) (yi := mX12_placeOf) (as := [.ref 77, .int v4_119]) (st := [.int v3_119]) (L2 := ([(3461, m_allowed), (3472, m_rowMany), (3473, (0 : Int32))], [(55, m_now), (77, m_then_42x)], [(65, m_row)])) dX12_law_138 ML_X12_358 Ys_X12_placeOf rfl (t_X12_placeOf_m_then l _ hcl) (zsub_i zle_n (zle_c rfl zle_n) zle_n) rfl (Nat.le_of_ble_eq_true rfl) (Nat.le_of_ble_eq_true rfl) rfl rfl ?_
          refine zJ_aload_n dX12_law_141 rfl rfl ?_
          refine zJ_getr (mi := mX12_law) dX12_law_142 F_X12_9 zW_54 rfl rfl ?_
          refine zJ_iload dX12_law_145 rfl rfl ?_
          obtain ⟨rn7, hcl, h⟩ := bd1_some h
          refine zJ_callS (mi := mX12_law) (yi := mX12_placeOf) (as := [.ref 55, .int v4_119]) (st := [.int rn6, .int v3_119]) (L2 := ([(3461, m_allowed), (3472, m_rowMany), (3473, (0 : Int32))], [(55, m_now), (77, m_then_42x)], [(65, m_row)])) dX12_law_147 ML_X12_358 Ys_X12_placeOf rfl (t_X12_placeOf_m_now l _ hcl) (zsub_i zle_n (zle_c rfl zle_n) zle_n) rfl (Nat.le_of_ble_eq_true rfl) (Nat.le_of_ble_eq_true rfl) rfl rfl ?_
          refine zJ_icmp_ne (tgt := 157) dX12_law_150 (by decide) rfl (fun hc => ?_) (fun hc => ?_)
          · replace h := it_f hc h
            refine zJ_iconst dX12_law_157 zc_1 rfl ?_
            refine zJ_iadd dX12_law_158 rfl ?_
            obtain ⟨v3n8, ev3n8, h⟩ := lt1_some h
            refine zJ_nmi ev3n8 ?_
            refine zJ_istore_n (ls' := [(3, .int v3n8), (0, .ref 54), (4, .int v4_119)]) dX12_law_159 rfl rfl rfl ?_
            obtain ⟨v4n9, ev4n9, h⟩ := lt1_some h
            refine zJ_iincN (ls' := [(4, .int v4n9), (3, .int v3n8), (0, .ref 54)]) dX12_law_160 rfl rfl zc_1 ev4n9 rfl rfl ?_
            refine zJ_goto (tgt := 119) dX12_law_163 (by decide) ?_
            refine zJ_loc (ls' := [(0, .ref 54), (3, .int v3n8), (4, .int v4n9)]) (zll_c rfl (zll_c rfl (zll_c rfl zll_n))) ?_
            exact hrc119 _ _ h
          · replace h := it_t hc h
            refine zJ_iconst dX12_law_153 zc_0 rfl ?_
            refine zJ_goto (tgt := 158) dX12_law_154 (by decide) ?_
            refine zJ_iadd dX12_law_158 rfl ?_
            obtain ⟨v3n10, ev3n10, h⟩ := lt1_some h
            refine zJ_nmi ev3n10 ?_
            refine zJ_istore_n (ls' := [(3, .int v3n10), (0, .ref 54), (4, .int v4_119)]) dX12_law_159 rfl rfl rfl ?_
            obtain ⟨v4n11, ev4n11, h⟩ := lt1_some h
            refine zJ_iincN (ls' := [(4, .int v4n11), (3, .int v3n10), (0, .ref 54)]) dX12_law_160 rfl rfl zc_1 ev4n11 rfl rfl ?_
            refine zJ_goto (tgt := 119) dX12_law_163 (by decide) ?_
            refine zJ_loc (ls' := [(0, .ref 54), (3, .int v3n10), (4, .int v4n11)]) (zll_c rfl (zll_c rfl (zll_c rfl zll_n))) ?_
            exact hrc119 _ _ h
      refine zJ_loc (ls' := [(0, .ref 54), (1, .int p1), (2, .int p2), (3, .int (0 : Int32))]) (zll_c rfl (zll_c rfl (zll_c rfl (zll_c rfl zll_n)))) ?_
      refine ml2_J (fun (v3_42 : Int32) (m_then_42 : (Nat → Int32)) => zJ l zW 3 mX12_law σ ([(3461, m_allowed), (3472, m_rowMany), (3473, (0 : Int32))], [(55, m_now), (77, m_then_42)], [(65, m_row)]) 42 [(0, .ref 54), (1, .int p1), (2, .int p2), (3, .int v3_42)] [] (some (.int r)) ([(3461, m_allowed), (3472, w_m_rowMany), (3473, w_m_thrown)], [(55, m_now), (77, w_m_then)], [(65, w_m_row)])) (fun rc42 hrc42 v3_42 m_then_42 h => ?_) zN _ _ h
      unfold s_X12_law_42 at h
      refine zJ_iload_n dX12_law_42 rfl rfl ?_
      refine zJ_aload_n dX12_law_43 rfl rfl ?_
      refine zJ_getr (mi := mX12_law) dX12_law_44 F_X12_82 zW_54 rfl rfl ?_
      refine zJ_bipush dX12_law_47 zb_48 rfl ?_
      obtain ⟨hg, h⟩ := gd_some h
      refine zJ_iald (mi := mX12_law) (f := m_then_42) dX12_law_49 zW_77 (ix_in hg) rfl rfl ?_
      refine zJ_icmp_ge (tgt := 114) dX12_law_50 (by decide) rfl (fun hc => ?_) (fun hc => ?_)
      · replace h := it_t hc h
        refine zJ_loc (ls' := [(0, .ref 54)]) (zll_c rfl zll_n) ?_
        exact hk42 _ h
      · replace h := it_f hc h
        refine zJ_aload_n dX12_law_53 rfl rfl ?_
        refine zJ_getr (mi := mX12_law) dX12_law_54 F_X12_82 zW_54 rfl rfl ?_
        refine zJ_iconst dX12_law_57 zc_4 rfl ?_
        refine zJ_iload_n dX12_law_58 rfl rfl ?_
        refine zJ_imul dX12_law_59 rfl ?_
        refine zJ_iconst dX12_law_60 zc_3 rfl ?_
        refine zJ_iadd dX12_law_61 rfl ?_
        obtain ⟨hg, h⟩ := gd_some h
        refine zJ_iald (mi := mX12_law) (f := m_then_42) dX12_law_62 zW_77 (ix_in hg) rfl rfl ?_
        obtain ⟨v4n12, ev4n12, h⟩ := lt1_some h
        refine zJ_nmi ev4n12 ?_
        refine zJ_istore (ls' := [(4, .int v4n12), (0, .ref 54), (1, .int p1), (2, .int p2), (3, .int v3_42)]) dX12_law_63 rfl rfl rfl ?_
        refine zJ_aload_n dX12_law_65 rfl rfl ?_
        refine zJ_getr (mi := mX12_law) dX12_law_66 F_X12_82 zW_54 rfl rfl ?_
        refine zJ_iconst dX12_law_69 zc_4 rfl ?_
        refine zJ_iload_n dX12_law_70 rfl rfl ?_
        refine zJ_imul dX12_law_71 rfl ?_
        refine zJ_iconst dX12_law_72 zc_2 rfl ?_
        refine zJ_iadd dX12_law_73 rfl ?_
        refine zJ_iconst dX12_law_74 zc_0 rfl ?_
        refine zJ_aload_n dX12_law_75 rfl rfl ?_
        refine zJ_getr (mi := mX12_law) dX12_law_76 F_X12_82 zW_54 rfl rfl ?_
        refine zJ_iconst dX12_law_79 zc_4 rfl ?_
        refine zJ_iload_n dX12_law_80 rfl rfl ?_
        refine zJ_imul dX12_law_81 rfl ?_
        refine zJ_iconst dX12_law_82 zc_2 rfl ?_
        refine zJ_iadd dX12_law_83 rfl ?_
        obtain ⟨hg, h⟩ := gd_some h
        refine zJ_iald (mi := mX12_law) (f := m_then_42) dX12_law_84 zW_77 (ix_in hg) rfl rfl ?_
        refine zJ_aload_n dX12_law_85 rfl rfl ?_
        refine zJ_iload dX12_law_86 rfl rfl ?_
        refine zJ_bipush dX12_law_88 zb_40 rfl ?_
        refine zJ_iconst dX12_law_90 zc_1 rfl ?_
        obtain ⟨rn13, hcl, h⟩ := bd1_some h
        refine zJ_callV (mi := mX12_law) (yi := mX12_timeFaults) (as := [.int v4n12, .int (40 : Int32), .int (1 : Int32)]) (st := [.int (m_then_42 (((4 : Int32) * v3_42) + (2 : Int32)).toNatClampNeg), .int (0 : Int32), .int (((4 : Int32) * v3_42) + (2 : Int32)), .ref 77]) (L2 := ([(3461, m_allowed), (3472, m_rowMany), (3473, (0 : Int32))], [(55, m_now), (77, m_then_42)], [(65, m_row)])) dX12_law_91 ML_X12_325 Yv_X12_timeFaults rfl zW_54 rfl rfl (t_X12_timeFaults l _ hcl) (zsub_i (zle_c rfl zle_n) zle_n zle_n) rfl (Nat.le_of_ble_eq_true rfl) (Nat.le_of_ble_eq_true rfl) rfl rfl ?_
        refine zJ_isub dX12_law_94 rfl ?_
        refine zJ_mmax (mi := mX12_law) dX12_law_95 L_X12_243 K_max_s K_math K_max_c (Nat.le_of_ble_eq_true rfl) (Nat.le_of_ble_eq_true rfl) rfl ?_
        refine zJ_aload_n dX12_law_98 rfl rfl ?_
        refine zJ_iload dX12_law_99 rfl rfl ?_
        refine zJ_iload_n dX12_law_101 rfl rfl ?_
        refine zJ_iload_n dX12_law_102 rfl rfl ?_
        obtain ⟨rn14, hcl, h⟩ := bd1_some h
        refine zJ_callV (mi := mX12_law) (yi := mX12_timeFaults) (as := [.int v4n12, .int p1, .int p2]) (st := [.int (if (0 : Int32) < ((m_then_42 (((4 : Int32) * v3_42) + (2 : Int32)).toNatClampNeg) - rn13) then ((m_then_42 (((4 : Int32) * v3_42) + (2 : Int32)).toNatClampNeg) - rn13) else (0 : Int32)), .int (((4 : Int32) * v3_42) + (2 : Int32)), .ref 77]) (L2 := ([(3461, m_allowed), (3472, m_rowMany), (3473, (0 : Int32))], [(55, m_now), (77, m_then_42)], [(65, m_row)])) dX12_law_103 ML_X12_325 Yv_X12_timeFaults rfl zW_54 rfl rfl (t_X12_timeFaults l _ hcl) (zsub_i (zle_c rfl zle_n) zle_n zle_n) rfl (Nat.le_of_ble_eq_true rfl) (Nat.le_of_ble_eq_true rfl) rfl rfl ?_
        refine zJ_iadd dX12_law_106 rfl ?_
        obtain ⟨hg, h⟩ := gd_some h
        refine zK_iast (mi := mX12_law) (f := m_then_42) (lb' := [(55, m_now), (77, (upd m_then_42 (((4 : Int32) * v3_42) + (2 : Int32)).toNatClampNeg ((if (0 : Int32) < ((m_then_42 (((4 : Int32) * v3_42) + (2 : Int32)).toNatClampNeg) - rn13) then ((m_then_42 (((4 : Int32) * v3_42) + (2 : Int32)).toNatClampNeg) - rn13) else (0 : Int32)) + rn14)))]) dX12_law_107 zW_77 (ix_in hg) rfl rfl rfl ?_
        obtain ⟨v3n15, ev3n15, h⟩ := lt1_some h
        refine zJ_iincN (ls' := [(3, .int v3n15), (4, .int v4n12), (0, .ref 54), (1, .int p1), (2, .int p2)]) dX12_law_108 rfl rfl zc_1 ev3n15 rfl rfl ?_
        refine zJ_goto (tgt := 42) dX12_law_111 (by decide) ?_
        refine zJ_loc (ls' := [(0, .ref 54), (1, .int p1), (2, .int p2), (3, .int v3n15)]) (zll_c rfl (zll_c rfl (zll_c rfl (zll_c rfl zll_n)))) ?_
        exact hrc42 _ _ h
    · replace h := it_t hc h
      refine zJ_iconst dX12_law_26 zc_m1 rfl ?_
      obtain ⟨rfl, rfl, rfl, rfl, rfl⟩ := so5 h
      exact zJ_iret dX12_law_27 rfl rfl
set_option maxRecDepth 100000 in
set_option maxHeartbeats 4000000 in
theorem t_X12_lay_m_aside_m_undos (l : Launch) (σ : zS) {p2 : Int32} {m_undos : (Nat → Int32)} {m_aside : (Nat → Int32)} {w_m_undos : (Nat → Int32)} (h : f_X12_lay_m_aside_m_undos p2 m_undos m_aside = some w_m_undos) : zMt l zW 0 mX12_lay σ ([], [(74, m_undos), (75, m_aside)], []) [.ref 75, .ref 74, .int p2] none ([], [(74, w_m_undos), (75, m_aside)], []) := by
  refine zMt_of (ls := [(0, .ref 75), (1, .ref 74), (2, .int p2)]) (by decide) rfl (fun _ => Nat.le_of_ble_eq_true rfl) rfl ?_
  unfold f_X12_lay_m_aside_m_undos at h
  refine zJ_iconst dX12_lay_0 zc_0 rfl ?_
  refine zJ_istore_n (ls' := [(3, .int (0 : Int32)), (0, .ref 75), (1, .ref 74), (2, .int p2)]) dX12_lay_1 rfl rfl rfl ?_
  have hk2 : ∀ (m_undos_2x : (Nat → Int32)), k_X12_lay_m_aside_m_undos_2  m_undos_2x = some w_m_undos → zJ l zW 0 mX12_lay σ ([], [(74, m_undos_2x), (75, m_aside)], []) 22 [] [] none ([], [(74, w_m_undos), (75, m_aside)], []) := by
    intro m_undos_2x h
    unfold k_X12_lay_m_aside_m_undos_2 at h
    obtain rfl := so1 h
    exact zJ_vret dX12_lay_22 rfl
  refine zJ_loc (ls' := [(0, .ref 75), (1, .ref 74), (2, .int p2), (3, .int (0 : Int32))]) (zll_c rfl (zll_c rfl (zll_c rfl (zll_c rfl zll_n)))) ?_
  refine ml2_J (fun (v3_2 : Int32) (m_undos_2 : (Nat → Int32)) => zJ l zW 0 mX12_lay σ ([], [(74, m_undos_2), (75, m_aside)], []) 2 [(0, .ref 75), (1, .ref 74), (2, .int p2), (3, .int v3_2)] [] none ([], [(74, w_m_undos), (75, m_aside)], [])) (fun rc2 hrc2 v3_2 m_undos_2 h => ?_) zN _ _ h
  unfold s_X12_lay_m_aside_m_undos_2 at h
  refine zJ_iload_n dX12_lay_2 rfl rfl ?_
  refine zJ_bipush dX12_lay_3 zb_49 rfl ?_
  refine zJ_icmp_ge (tgt := 22) dX12_lay_5 (by decide) rfl (fun hc => ?_) (fun hc => ?_)
  · replace h := it_t hc h
    refine zJ_loc (ls' := []) zll_n ?_
    exact hk2 _ h
  · replace h := it_f hc h
    refine zJ_aload_n dX12_lay_8 rfl rfl ?_
    refine zJ_iload_n dX12_lay_9 rfl rfl ?_
    refine zJ_iload_n dX12_lay_10 rfl rfl ?_
    refine zJ_iadd dX12_lay_11 rfl ?_
    refine zJ_aload_n dX12_lay_12 rfl rfl ?_
    refine zJ_iload_n dX12_lay_13 rfl rfl ?_
    obtain ⟨hg, h⟩ := gd_some h
    refine zJ_iald (mi := mX12_lay) (f := m_aside) dX12_lay_14 zW_75 (ix_in hg) rfl rfl ?_
    obtain ⟨hg, h⟩ := gd_some h
    refine zK_iast (mi := mX12_lay) (f := m_undos_2) (lb' := [(74, (upd m_undos_2 (p2 + v3_2).toNatClampNeg (m_aside v3_2.toNatClampNeg))), (75, m_aside)]) dX12_lay_15 zW_74 (ix_in hg) rfl rfl rfl ?_
    obtain ⟨v3n1, ev3n1, h⟩ := lt1_some h
    refine zJ_iincN (ls' := [(3, .int v3n1), (0, .ref 75), (1, .ref 74), (2, .int p2)]) dX12_lay_16 rfl rfl zc_1 ev3n1 rfl rfl ?_
    refine zJ_goto (tgt := 2) dX12_lay_19 (by decide) ?_
    refine zJ_loc (ls' := [(0, .ref 75), (1, .ref 74), (2, .int p2), (3, .int v3n1)]) (zll_c rfl (zll_c rfl (zll_c rfl (zll_c rfl zll_n)))) ?_
    exact hrc2 _ _ h
set_option maxRecDepth 100000 in
set_option maxHeartbeats 4000000 in
theorem t_X12_lay_m_now_m_aside (l : Launch) (σ : zS) {p2 : Int32} {m_now : (Nat → Int32)} {m_aside : (Nat → Int32)} {w_m_aside : (Nat → Int32)} (h : f_X12_lay_m_now_m_aside p2 m_now m_aside = some w_m_aside) : zMt l zW 0 mX12_lay σ ([], [(55, m_now), (75, m_aside)], []) [.ref 55, .ref 75, .int p2] none ([], [(55, m_now), (75, w_m_aside)], []) := by
  refine zMt_of (ls := [(0, .ref 55), (1, .ref 75), (2, .int p2)]) (by decide) rfl (fun _ => Nat.le_of_ble_eq_true rfl) rfl ?_
  unfold f_X12_lay_m_now_m_aside at h
  refine zJ_iconst dX12_lay_0 zc_0 rfl ?_
  refine zJ_istore_n (ls' := [(3, .int (0 : Int32)), (0, .ref 55), (1, .ref 75), (2, .int p2)]) dX12_lay_1 rfl rfl rfl ?_
  have hk2 : ∀ (m_aside_2x : (Nat → Int32)), k_X12_lay_m_now_m_aside_2  m_aside_2x = some w_m_aside → zJ l zW 0 mX12_lay σ ([], [(55, m_now), (75, m_aside_2x)], []) 22 [] [] none ([], [(55, m_now), (75, w_m_aside)], []) := by
    intro m_aside_2x h
    unfold k_X12_lay_m_now_m_aside_2 at h
    obtain rfl := so1 h
    exact zJ_vret dX12_lay_22 rfl
  refine zJ_loc (ls' := [(0, .ref 55), (1, .ref 75), (2, .int p2), (3, .int (0 : Int32))]) (zll_c rfl (zll_c rfl (zll_c rfl (zll_c rfl zll_n)))) ?_
  refine ml2_J (fun (v3_2 : Int32) (m_aside_2 : (Nat → Int32)) => zJ l zW 0 mX12_lay σ ([], [(55, m_now), (75, m_aside_2)], []) 2 [(0, .ref 55), (1, .ref 75), (2, .int p2), (3, .int v3_2)] [] none ([], [(55, m_now), (75, w_m_aside)], [])) (fun rc2 hrc2 v3_2 m_aside_2 h => ?_) zN _ _ h
  unfold s_X12_lay_m_now_m_aside_2 at h
  refine zJ_iload_n dX12_lay_2 rfl rfl ?_
  refine zJ_bipush dX12_lay_3 zb_49 rfl ?_
  refine zJ_icmp_ge (tgt := 22) dX12_lay_5 (by decide) rfl (fun hc => ?_) (fun hc => ?_)
  · replace h := it_t hc h
    refine zJ_loc (ls' := []) zll_n ?_
    exact hk2 _ h
  · replace h := it_f hc h
    refine zJ_aload_n dX12_lay_8 rfl rfl ?_
    refine zJ_iload_n dX12_lay_9 rfl rfl ?_
    refine zJ_iload_n dX12_lay_10 rfl rfl ?_
    refine zJ_iadd dX12_lay_11 rfl ?_
    refine zJ_aload_n dX12_lay_12 rfl rfl ?_
    refine zJ_iload_n dX12_lay_13 rfl rfl ?_
    obtain ⟨hg, h⟩ := gd_some h
    refine zJ_iald (mi := mX12_lay) (f := m_now) dX12_lay_14 zW_55 (ix_in hg) rfl rfl ?_
    obtain ⟨hg, h⟩ := gd_some h
    refine zK_iast (mi := mX12_lay) (f := m_aside_2) (lb' := [(55, m_now), (75, (upd m_aside_2 (p2 + v3_2).toNatClampNeg (m_now v3_2.toNatClampNeg)))]) dX12_lay_15 zW_75 (ix_in hg) rfl rfl rfl ?_
    obtain ⟨v3n1, ev3n1, h⟩ := lt1_some h
    refine zJ_iincN (ls' := [(3, .int v3n1), (0, .ref 55), (1, .ref 75), (2, .int p2)]) dX12_lay_16 rfl rfl zc_1 ev3n1 rfl rfl ?_
    refine zJ_goto (tgt := 2) dX12_lay_19 (by decide) ?_
    refine zJ_loc (ls' := [(0, .ref 55), (1, .ref 75), (2, .int p2), (3, .int v3n1)]) (zll_c rfl (zll_c rfl (zll_c rfl (zll_c rfl zll_n)))) ?_
    exact hrc2 _ _ h
set_option maxRecDepth 100000 in
set_option maxHeartbeats 4000000 in
theorem t_X12_lay_m_now_m_undos (l : Launch) (σ : zS) {p2 : Int32} {m_now : (Nat → Int32)} {m_undos : (Nat → Int32)} {w_m_undos : (Nat → Int32)} (h : f_X12_lay_m_now_m_undos p2 m_now m_undos = some w_m_undos) : zMt l zW 0 mX12_lay σ ([], [(55, m_now), (74, m_undos)], []) [.ref 55, .ref 74, .int p2] none ([], [(55, m_now), (74, w_m_undos)], []) := by
  refine zMt_of (ls := [(0, .ref 55), (1, .ref 74), (2, .int p2)]) (by decide) rfl (fun _ => Nat.le_of_ble_eq_true rfl) rfl ?_
  unfold f_X12_lay_m_now_m_undos at h
  refine zJ_iconst dX12_lay_0 zc_0 rfl ?_
  refine zJ_istore_n (ls' := [(3, .int (0 : Int32)), (0, .ref 55), (1, .ref 74), (2, .int p2)]) dX12_lay_1 rfl rfl rfl ?_
  have hk2 : ∀ (m_undos_2x : (Nat → Int32)), k_X12_lay_m_now_m_undos_2  m_undos_2x = some w_m_undos → zJ l zW 0 mX12_lay σ ([], [(55, m_now), (74, m_undos_2x)], []) 22 [] [] none ([], [(55, m_now), (74, w_m_undos)], []) := by
    intro m_undos_2x h
    unfold k_X12_lay_m_now_m_undos_2 at h
    obtain rfl := so1 h
    exact zJ_vret dX12_lay_22 rfl
  refine zJ_loc (ls' := [(0, .ref 55), (1, .ref 74), (2, .int p2), (3, .int (0 : Int32))]) (zll_c rfl (zll_c rfl (zll_c rfl (zll_c rfl zll_n)))) ?_
  refine ml2_J (fun (v3_2 : Int32) (m_undos_2 : (Nat → Int32)) => zJ l zW 0 mX12_lay σ ([], [(55, m_now), (74, m_undos_2)], []) 2 [(0, .ref 55), (1, .ref 74), (2, .int p2), (3, .int v3_2)] [] none ([], [(55, m_now), (74, w_m_undos)], [])) (fun rc2 hrc2 v3_2 m_undos_2 h => ?_) zN _ _ h
  unfold s_X12_lay_m_now_m_undos_2 at h
  refine zJ_iload_n dX12_lay_2 rfl rfl ?_
  refine zJ_bipush dX12_lay_3 zb_49 rfl ?_
  refine zJ_icmp_ge (tgt := 22) dX12_lay_5 (by decide) rfl (fun hc => ?_) (fun hc => ?_)
  · replace h := it_t hc h
    refine zJ_loc (ls' := []) zll_n ?_
    exact hk2 _ h
  · replace h := it_f hc h
    refine zJ_aload_n dX12_lay_8 rfl rfl ?_
    refine zJ_iload_n dX12_lay_9 rfl rfl ?_
    refine zJ_iload_n dX12_lay_10 rfl rfl ?_
    refine zJ_iadd dX12_lay_11 rfl ?_
    refine zJ_aload_n dX12_lay_12 rfl rfl ?_
    refine zJ_iload_n dX12_lay_13 rfl rfl ?_
    obtain ⟨hg, h⟩ := gd_some h
    refine zJ_iald (mi := mX12_lay) (f := m_now) dX12_lay_14 zW_55 (ix_in hg) rfl rfl ?_
    obtain ⟨hg, h⟩ := gd_some h
    refine zK_iast (mi := mX12_lay) (f := m_undos_2) (lb' := [(55, m_now), (74, (upd m_undos_2 (p2 + v3_2).toNatClampNeg (m_now v3_2.toNatClampNeg)))]) dX12_lay_15 zW_74 (ix_in hg) rfl rfl rfl ?_
    obtain ⟨v3n1, ev3n1, h⟩ := lt1_some h
    refine zJ_iincN (ls' := [(3, .int v3n1), (0, .ref 55), (1, .ref 74), (2, .int p2)]) dX12_lay_16 rfl rfl zc_1 ev3n1 rfl rfl ?_
    refine zJ_goto (tgt := 2) dX12_lay_19 (by decide) ?_
    refine zJ_loc (ls' := [(0, .ref 55), (1, .ref 74), (2, .int p2), (3, .int v3n1)]) (zll_c rfl (zll_c rfl (zll_c rfl (zll_c rfl zll_n)))) ?_
    exact hrc2 _ _ h
