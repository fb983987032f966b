set_option maxRecDepth 100000 in
set_option maxHeartbeats 4000000 in
theorem t_X12_refusalOf (l : Launch) (σ : zS) {p1 : Int32} {p2 : Int32} {m_kind : (Nat → Int32)} {m_feet : (Nat → Int32)} {m_stride : (Nat → Int32)} {m_care : (Nat → Int32)} {r : Int32} (h : f_X12_refusalOf p1 p2 m_kind m_feet m_stride m_care = some r) : zMt l zW 2 mX12_refusalOf σ ([], [(56, m_kind), (58, m_feet), (59, m_stride), (61, m_care)], []) [.ref 54, .int p1, .int p2] (some (.int r)) ([], [(56, m_kind), (58, m_feet), (59, m_stride), (61, m_care)], []) := by
  refine zMt_of (ls := [(0, .ref 54), (1, .int p1), (2, .int p2)]) (by decide) rfl (fun _ => Nat.le_of_ble_eq_true rfl) rfl ?_
  unfold f_X12_refusalOf at h
  refine zJ_bipush dX12_refusalOf_0 zb_8 rfl ?_
  refine zJ_iconst dX12_refusalOf_2 zc_0 rfl ?_
  refine zJ_aload_n dX12_refusalOf_3 rfl rfl ?_
  refine zJ_iload_n dX12_refusalOf_4 rfl rfl ?_
  refine zJ_aload_n dX12_refusalOf_5 rfl rfl ?_
  refine zJ_getr (mi := mX12_refusalOf) dX12_refusalOf_6 F_X12_19 zW_54 rfl rfl ?_
  refine zJ_iload_n dX12_refusalOf_9 rfl rfl ?_
  obtain ⟨hg, h⟩ := gd_some h
  refine zJ_iald (mi := mX12_refusalOf) (f := m_feet) dX12_refusalOf_10 zW_58 (ix_in hg) rfl rfl ?_
  obtain ⟨rn1, hcl, h⟩ := bd1_some h
  refine zJ_callV2 (σ := σ) (L := ([], [(56, m_kind), (58, m_feet), (59, m_stride), (61, m_care)], [])) (mi := mX12_refusalOf) (yi := mX12_leanOf) (as := [.int p1, .int (m_feet p2.toNatClampNeg)]) (st := [.int (0 : Int32), .int (8 : Int32)]) (L2 := ([], [(56, m_kind), (58, m_feet), (59, m_stride), (61, m_care)], [])) dX12_refusalOf_11 ML_X12_232 Yv_X12_leanOf rfl zW_54 rfl rfl (t_X12_leanOf l _ hcl) (zsub_i zle_n (zle_c rfl zle_n) zle_n) (zjok_i rfl rfl zle_n rfl rfl (zle_c rfl (zle_c rfl (zle_c rfl (zle_c rfl zle_n)))) rfl rfl zle_n) (Nat.le_of_ble_eq_true rfl) (Nat.le_of_ble_eq_true rfl) rfl rfl ?_
  refine zJ_iconst dX12_refusalOf_14 zc_2 rfl ?_
  refine zJ_isub dX12_refusalOf_15 rfl ?_
  refine zJ_mmax (mi := mX12_refusalOf) dX12_refusalOf_16 L_X12_243 K_max_s K_math K_max_c (Nat.le_of_ble_eq_true rfl) (Nat.le_of_ble_eq_true rfl) rfl ?_
  refine zJ_imul dX12_refusalOf_19 rfl ?_
  refine zJ_aload_n dX12_refusalOf_20 rfl rfl ?_
  refine zJ_getr (mi := mX12_refusalOf) dX12_refusalOf_21 F_X12_13 zW_54 rfl rfl ?_
  refine zJ_iload_n dX12_refusalOf_24 rfl rfl ?_
  obtain ⟨hg, h⟩ := gd_some h
  refine zJ_iald (mi := mX12_refusalOf) (f := m_kind) dX12_refusalOf_25 zW_56 (ix_in hg) rfl rfl ?_
  refine zJ_iconst dX12_refusalOf_26 zc_3 rfl ?_
  refine zJ_icmp_ne (tgt := 48) dX12_refusalOf_27 (by decide) rfl (fun hc => ?_) (fun hc => ?_)
  · replace h := it_f hc h
    refine zJ_iconst dX12_refusalOf_48 zc_0 rfl ?_
    refine zJ_iadd dX12_refusalOf_49 rfl ?_
    obtain rfl := so1 h
    exact zJ_iret dX12_refusalOf_50 rfl rfl
  · replace h := it_t hc h
    refine zJ_aload_n dX12_refusalOf_30 rfl rfl ?_
    refine zJ_getr (mi := mX12_refusalOf) dX12_refusalOf_31 F_X12_32 zW_54 rfl rfl ?_
    refine zJ_iconst dX12_refusalOf_34 zc_4 rfl ?_
    refine zJ_iload_n dX12_refusalOf_35 rfl rfl ?_
    refine zJ_imul dX12_refusalOf_36 rfl ?_
    refine zJ_iconst dX12_refusalOf_37 zc_3 rfl ?_
    refine zJ_iadd dX12_refusalOf_38 rfl ?_
    obtain ⟨hg, h⟩ := gd_some h
    refine zJ_iald (mi := mX12_refusalOf) (f := m_care) dX12_refusalOf_39 zW_61 (ix_in hg) rfl rfl ?_
    refine zJ_iconst dX12_refusalOf_40 zc_5 rfl ?_
    refine zJ_icmp_ge (tgt := 48) dX12_refusalOf_41 (by decide) rfl (fun hc => ?_) (fun hc => ?_)
    · replace h := it_t hc h
      refine zJ_iconst dX12_refusalOf_48 zc_0 rfl ?_
      refine zJ_iadd dX12_refusalOf_49 rfl ?_
      obtain rfl := so1 h
      exact zJ_iret dX12_refusalOf_50 rfl rfl
    · replace h := it_f hc h
      refine zJ_iconst dX12_refusalOf_44 zc_5 rfl ?_
      refine zJ_goto (tgt := 49) dX12_refusalOf_45 (by decide) ?_
      refine zJ_iadd dX12_refusalOf_49 rfl ?_
      obtain rfl := so1 h
      exact zJ_iret dX12_refusalOf_50 rfl rfl
set_option maxRecDepth 100000 in
set_option maxHeartbeats 4000000 in
theorem t_X12_tenthsOf (l : Launch) (σ : zS) {p1 : Int32} {p2 : Int32} {m_kind : (Nat → Int32)} {m_feet : (Nat → Int32)} {r : Int32} (h : f_X12_tenthsOf p1 p2 m_kind m_feet = some r) : zMt l zW 1 mX12_tenthsOf σ ([], [(56, m_kind), (58, m_feet)], []) [.ref 54, .int p1, .int p2] (some (.int r)) ([], [(56, m_kind), (58, m_feet)], []) := by
  refine zMt_of (ls := [(0, .ref 54), (1, .int p1), (2, .int p2)]) (by decide) rfl (fun _ => Nat.le_of_ble_eq_true rfl) rfl ?_
  unfold f_X12_tenthsOf at h
  refine zJ_aload_n dX12_tenthsOf_0 rfl rfl ?_
  refine zJ_getr (mi := mX12_tenthsOf) dX12_tenthsOf_1 F_X12_19 zW_54 rfl rfl ?_
  refine zJ_iload_n dX12_tenthsOf_4 rfl rfl ?_
  obtain ⟨hg, h⟩ := gd_some h
  refine zJ_iald (mi := mX12_tenthsOf) (f := m_feet) dX12_tenthsOf_5 zW_58 (ix_in hg) rfl rfl ?_
  refine zJ_bipush dX12_tenthsOf_6 zb_6 rfl ?_
  refine zJ_iload_n dX12_tenthsOf_8 rfl rfl ?_
  refine zJ_iconst dX12_tenthsOf_9 zc_4 rfl ?_
  refine zJ_irem dX12_tenthsOf_10 (by decide) rfl ?_
  refine zJ_isub dX12_tenthsOf_11 rfl ?_
  refine zJ_imul dX12_tenthsOf_12 rfl ?_
  refine zJ_iconst dX12_tenthsOf_13 zc_4 rfl ?_
  refine zJ_idiv dX12_tenthsOf_14 (by decide) rfl ?_
  refine zJ_iload_n dX12_tenthsOf_15 rfl rfl ?_
  refine zJ_iconst dX12_tenthsOf_16 zc_4 rfl ?_
  have hj_X12_tenthsOf_32 : ∀ (t1_32j : Int32), j_X12_tenthsOf_32 p1 p2 m_kind m_feet t1_32j = some r → zJ l zW 1 mX12_tenthsOf σ ([], [(56, m_kind), (58, m_feet)], []) 32 [(0, .ref 54), (1, .int p1)] [.int t1_32j, .int (((m_feet p1.toNatClampNeg) * ((6 : Int32) - (p2 - p2 / (4 : Int32) * (4 : Int32)))) / (4 : Int32))] (some (.int r)) ([], [(56, m_kind), (58, m_feet)], []) := by
    intro t1_32j h
    unfold j_X12_tenthsOf_32 at h
    refine zJ_isub dX12_tenthsOf_32 rfl ?_
    refine zJ_aload_n dX12_tenthsOf_33 rfl rfl ?_
    refine zJ_getr (mi := mX12_tenthsOf) dX12_tenthsOf_34 F_X12_13 zW_54 rfl rfl ?_
    refine zJ_iload_n dX12_tenthsOf_37 rfl rfl ?_
    obtain ⟨hg, h⟩ := gd_some h
    refine zJ_iald (mi := mX12_tenthsOf) (f := m_kind) dX12_tenthsOf_38 zW_56 (ix_in hg) rfl rfl ?_
    refine zJ_iconst dX12_tenthsOf_39 zc_2 rfl ?_
    refine zJ_icmp_ne (tgt := 47) dX12_tenthsOf_40 (by decide) rfl (fun hc => ?_) (fun hc => ?_)
    · replace h := it_f hc h
      refine zJ_iconst dX12_tenthsOf_47 zc_0 rfl ?_
      refine zJ_iadd dX12_tenthsOf_48 rfl ?_
      obtain ⟨v3n1, ev3n1, h⟩ := lt1_some h
      refine zJ_nmi ev3n1 ?_
      refine zJ_istore_n (ls' := [(3, .int v3n1), (0, .ref 54), (1, .int p1)]) dX12_tenthsOf_49 rfl rfl rfl ?_
      refine zJ_iconst dX12_tenthsOf_50 zc_1 rfl ?_
      refine zJ_iload_n dX12_tenthsOf_51 rfl rfl ?_
      refine zJ_mmax (mi := mX12_tenthsOf) dX12_tenthsOf_52 L_X12_243 K_max_s K_math K_max_c (Nat.le_of_ble_eq_true rfl) (Nat.le_of_ble_eq_true rfl) rfl ?_
      obtain rfl := so1 h
      exact zJ_iret dX12_tenthsOf_55 rfl rfl
    · replace h := it_t hc h
      refine zJ_iconst dX12_tenthsOf_43 zc_2 rfl ?_
      refine zJ_goto (tgt := 48) dX12_tenthsOf_44 (by decide) ?_
      refine zJ_iadd dX12_tenthsOf_48 rfl ?_
      obtain ⟨v3n2, ev3n2, h⟩ := lt1_some h
      refine zJ_nmi ev3n2 ?_
      refine zJ_istore_n (ls' := [(3, .int v3n2), (0, .ref 54), (1, .int p1)]) dX12_tenthsOf_49 rfl rfl rfl ?_
      refine zJ_iconst dX12_tenthsOf_50 zc_1 rfl ?_
      refine zJ_iload_n dX12_tenthsOf_51 rfl rfl ?_
      refine zJ_mmax (mi := mX12_tenthsOf) dX12_tenthsOf_52 L_X12_243 K_max_s K_math K_max_c (Nat.le_of_ble_eq_true rfl) (Nat.le_of_ble_eq_true rfl) rfl ?_
      obtain rfl := so1 h
      exact zJ_iret dX12_tenthsOf_55 rfl rfl
  refine zJ_icmp_lt (tgt := 31) dX12_tenthsOf_17 (by decide) rfl (fun hc => ?_) (fun hc => ?_)
  · replace h := it_t hc h
    refine zJ_iconst dX12_tenthsOf_31 zc_0 rfl ?_
    refine zJ_loc (ls' := [(0, .ref 54), (1, .int p1)]) (zll_c rfl (zll_c rfl zll_n)) ?_
    exact hj_X12_tenthsOf_32 _ h
  · replace h := it_f hc h
    refine zJ_aload_n dX12_tenthsOf_20 rfl rfl ?_
    refine zJ_getr (mi := mX12_tenthsOf) dX12_tenthsOf_21 F_X12_19 zW_54 rfl rfl ?_
    refine zJ_iload_n dX12_tenthsOf_24 rfl rfl ?_
    obtain ⟨hg, h⟩ := gd_some h
    refine zJ_iald (mi := mX12_tenthsOf) (f := m_feet) dX12_tenthsOf_25 zW_58 (ix_in hg) rfl rfl ?_
    refine zJ_iconst dX12_tenthsOf_26 zc_4 rfl ?_
    refine zJ_idiv dX12_tenthsOf_27 (by decide) rfl ?_
    refine zJ_goto (tgt := 32) dX12_tenthsOf_28 (by decide) ?_
    refine zJ_loc (ls' := [(0, .ref 54), (1, .int p1)]) (zll_c rfl (zll_c rfl zll_n)) ?_
    exact hj_X12_tenthsOf_32 _ h
set_option maxRecDepth 100000 in
set_option maxHeartbeats 4000000 in
theorem t_X12_timeFaults (l : Launch) (σ : zS) {p1 : Int32} {p2 : Int32} {p3 : Int32} {m_allowed : Int32} {r : Int32} (h : f_X12_timeFaults p1 p2 p3 m_allowed = some r) : zMt l zW 0 mX12_timeFaults σ ([(3461, m_allowed)], [], []) [.ref 54, .int p1, .int p2, .int p3] (some (.int r)) ([(3461, m_allowed)], [], []) := by
  refine zMt_of (ls := [(0, .ref 54), (1, .int p1), (2, .int p2), (3, .int p3)]) (by decide) rfl (fun _ => Nat.le_of_ble_eq_true rfl) rfl ?_
  unfold f_X12_timeFaults at h
  refine zJ_iload_n dX12_timeFaults_0 rfl rfl ?_
  refine zJ_aload_n dX12_timeFaults_1 rfl rfl ?_
  refine zJ_geti (mi := mX12_timeFaults) (x := m_allowed) dX12_timeFaults_2 F_X12_22 zW_54 rfl rfl rfl ?_
  refine zJ_icmp_gt (tgt := 12) dX12_timeFaults_5 (by decide) rfl (fun hc => ?_) (fun hc => ?_)
  · replace h := it_t hc h
    refine zJ_iload_n dX12_timeFaults_12 rfl rfl ?_
    refine zJ_aload_n dX12_timeFaults_13 rfl rfl ?_
    refine zJ_geti (mi := mX12_timeFaults) (x := m_allowed) dX12_timeFaults_14 F_X12_22 zW_54 rfl rfl rfl ?_
    refine zJ_isub dX12_timeFaults_17 rfl ?_
    refine zJ_iload_n dX12_timeFaults_18 rfl rfl ?_
    refine zJ_iadd dX12_timeFaults_19 rfl ?_
    refine zJ_iconst dX12_timeFaults_20 zc_1 rfl ?_
    refine zJ_isub dX12_timeFaults_21 rfl ?_
    refine zJ_iload_n dX12_timeFaults_22 rfl rfl ?_
    obtain ⟨hg, h⟩ := gd_some h
    refine zJ_idiv dX12_timeFaults_23 (nz_ne hg) rfl ?_
    refine zJ_iload_n dX12_timeFaults_24 rfl rfl ?_
    refine zJ_imul dX12_timeFaults_25 rfl ?_
    obtain rfl := so1 h
    exact zJ_iret dX12_timeFaults_26 rfl rfl
  · replace h := it_f hc h
    refine zJ_iconst dX12_timeFaults_8 zc_0 rfl ?_
    refine zJ_goto (tgt := 26) dX12_timeFaults_9 (by decide) ?_
    obtain rfl := so1 h
    exact zJ_iret dX12_timeFaults_26 rfl rfl
set_option maxRecDepth 100000 in
set_option maxHeartbeats 4000000 in
theorem t_X12_goRound (l : Launch) (σ : zS) {p1 : Int32} {p2 : Int32} {p3 : Int32} {m_fences : Int32} {m_allowed : Int32} {m_read : Int32} {m_length : Int32} {m_top : Int32} {m_at : Int32} {m_wrong : Int32} {m_ruleSize : Int32} {m_isAsked : Int32} {m_askedHorse : Int32} {m_askedFence : Int32} {m_askedLetter : Int32} {m_askedHeight : Int32} {m_rodeTenths : Int32} {m_refused : Int32} {m_down : Int32} {m_drawn : Int32} {m_kind : (Nat → Int32)} {m_height : (Nat → Int32)} {m_feet : (Nat → Int32)} {m_stride : (Nat → Int32)} {m_scope : (Nat → Int32)} {m_care : (Nat → Int32)} {m_plan : (Nat → Int32)} {m_rule : (Nat → Int32)} {r : Int32} {w_m_read : Int32} {w_m_length : Int32} {w_m_top : Int32} {w_m_at : Int32} {w_m_wrong : Int32} {w_m_isAsked : Int32} {w_m_askedHorse : Int32} {w_m_askedFence : Int32} {w_m_askedLetter : Int32} {w_m_askedHeight : Int32} {w_m_rodeTenths : Int32} {w_m_refused : Int32} {w_m_down : Int32} {w_m_drawn : Int32} (h : f_X12_goRound p1 p2 p3 m_fences m_allowed m_read m_length m_top m_at m_wrong m_ruleSize m_isAsked m_askedHorse m_askedFence m_askedLetter m_askedHeight m_rodeTenths m_refused m_down m_drawn m_kind m_height m_feet m_stride m_scope m_care m_plan m_rule = some (r, w_m_read, w_m_length, w_m_top, w_m_at, w_m_wrong, w_m_isAsked, w_m_askedHorse, w_m_askedFence, w_m_askedLetter, w_m_askedHeight, w_m_rodeTenths, w_m_refused, w_m_down, w_m_drawn)) : zMt l zW 207 mX12_goRound σ ([(3457, m_fences), (3461, m_allowed), (3474, m_read), (3475, m_length), (3476, m_top), (3477, m_at), (3478, m_wrong), (3483, m_ruleSize), (3484, m_isAsked), (3485, m_askedHorse), (3486, m_askedFence), (3487, m_askedLetter), (3488, m_askedHeight), (3496, m_rodeTenths), (3497, m_refused), (3498, m_down), (3499, m_drawn)], [(56, m_kind), (57, m_height), (58, m_feet), (59, m_stride), (60, m_scope), (61, m_care), (62, m_plan), (69, m_rule)], []) [.ref 54, .int p1, .int p2, .int p3] (some (.int r)) ([(3457, m_fences), (3461, m_allowed), (3474, w_m_read), (3475, w_m_length), (3476, w_m_top), (3477, w_m_at), (3478, w_m_wrong), (3483, m_ruleSize), (3484, w_m_isAsked), (3485, w_m_askedHorse), (3486, w_m_askedFence), (3487, w_m_askedLetter), (3488, w_m_askedHeight), (3496, w_m_rodeTenths), (3497, w_m_refused), (3498, w_m_down), (3499, w_m_drawn)], [(56, m_kind), (57, m_height), (58, m_feet), (59, m_stride), (60, m_scope), (61, m_care), (62, m_plan), (69, m_rule)], []) := by
  refine zMt_of (ls := [(0, .ref 54), (1, .int p1), (2, .int p2), (3, .int p3)]) (by decide) rfl (fun _ => Nat.le_of_ble_eq_true rfl) rfl ?_
  unfold f_X12_goRound at h
  refine zJ_aload_n dX12_goRound_0 rfl rfl ?_
  refine zJ_iload_n dX12_goRound_1 rfl rfl ?_
  refine zK_puti (mi := mX12_goRound) (la' := [(3457, m_fences), (3461, m_allowed), (3474, m_read), (3475, m_length), (3476, m_top), (3477, m_at), (3478, m_wrong), (3483, m_ruleSize), (3484, m_isAsked), (3485, m_askedHorse), (3486, m_askedFence), (3487, m_askedLetter), (3488, m_askedHeight), (3496, m_rodeTenths), (3497, m_refused), (3498, m_down), (3499, p3)]) zW_ok dX12_goRound_2 F_X12_309 P_12_43 zW_54 rfl rfl rfl ?_
  refine zJ_aload_n dX12_goRound_5 rfl rfl ?_
  refine zJ_iconst dX12_goRound_6 zc_0 rfl ?_
  refine zK_puti (mi := mX12_goRound) (la' := [(3457, m_fences), (3461, m_allowed), (3474, m_read), (3475, m_length), (3476, m_top), (3477, m_at), (3478, m_wrong), (3483, m_ruleSize), (3484, m_isAsked), (3485, m_askedHorse), (3486, m_askedFence), (3487, m_askedLetter), (3488, m_askedHeight), (3496, (0 : Int32)), (3497, m_refused), (3498, m_down), (3499, p3)]) zW_ok dX12_goRound_7 F_X12_313 P_12_40 zW_54 rfl rfl rfl ?_
  refine zJ_aload_n dX12_goRound_10 rfl rfl ?_
  refine zJ_iconst dX12_goRound_11 zc_0 rfl ?_
  refine zK_puti (mi := mX12_goRound) (la' := [(3457, m_fences), (3461, m_allowed), (3474, m_read), (3475, m_length), (3476, m_top), (3477, m_at), (3478, m_wrong), (3483, m_ruleSize), (3484, m_isAsked), (3485, m_askedHorse), (3486, m_askedFence), (3487, m_askedLetter), (3488, m_askedHeight), (3496, (0 : Int32)), (3497, (0 : Int32)), (3498, m_down), (3499, p3)]) zW_ok dX12_goRound_12 F_X12_316 P_12_41 zW_54 rfl rfl rfl ?_
  refine zJ_aload_n dX12_goRound_15 rfl rfl ?_
  refine zJ_iconst dX12_goRound_16 zc_0 rfl ?_
  refine zK_puti (mi := mX12_goRound) (la' := [(3457, m_fences), (3461, m_allowed), (3474, m_read), (3475, m_length), (3476, m_top), (3477, m_at), (3478, m_wrong), (3483, m_ruleSize), (3484, m_isAsked), (3485, m_askedHorse), (3486, m_askedFence), (3487, m_askedLetter), (3488, m_askedHeight), (3496, (0 : Int32)), (3497, (0 : Int32)), (3498, (0 : Int32)), (3499, p3)]) zW_ok dX12_goRound_17 F_X12_319 P_12_42 zW_54 rfl rfl rfl ?_
  refine zJ_iconst dX12_goRound_20 zc_0 rfl ?_
  refine zJ_istore (ls' := [(4, .int (0 : Int32)), (0, .ref 54), (1, .int p1), (2, .int p2), (3, .int p3)]) dX12_goRound_21 rfl rfl rfl ?_
  refine zJ_iconst dX12_goRound_23 zc_0 rfl ?_
  refine zJ_istore (ls' := [(5, .int (0 : Int32)), (4, .int (0 : Int32)), (0, .ref 54), (1, .int p1), (2, .int p2), (3, .int p3)]) dX12_goRound_24 rfl rfl rfl ?_
  have hk26 : ∀ (v4_26x : Int32) (m_read_26x : Int32) (m_length_26x : Int32) (m_top_26x : Int32) (m_at_26x : Int32) (m_wrong_26x : Int32) (m_isAsked_26x : Int32) (m_askedHorse_26x : Int32) (m_askedFence_26x : Int32) (m_askedLetter_26x : Int32) (m_askedHeight_26x : Int32) (m_rodeTenths_26x : Int32) (m_refused_26x : Int32) (m_down_26x : Int32) (m_drawn_26x : Int32), k_X12_goRound_26 m_allowed v4_26x m_read_26x m_length_26x m_top_26x m_at_26x m_wrong_26x m_isAsked_26x m_askedHorse_26x m_askedFence_26x m_askedLetter_26x m_askedHeight_26x m_rodeTenths_26x m_refused_26x m_down_26x m_drawn_26x = some (r, w_m_read, w_m_length, w_m_top, w_m_at, w_m_wrong, w_m_isAsked, w_m_askedHorse, w_m_askedFence, w_m_askedLetter, w_m_askedHeight, w_m_rodeTenths, w_m_refused, w_m_down, w_m_drawn) → zJ l zW 207 mX12_goRound σ ([(3457, m_fences), (3461, m_allowed), (3474, m_read_26x), (3475, m_length_26x), (3476, m_top_26x), (3477, m_at_26x), (3478, m_wrong_26x), (3483, m_ruleSize), (3484, m_isAsked_26x), (3485, m_askedHorse_26x), (3486, m_askedFence_26x), (3487, m_askedLetter_26x), (3488, m_askedHeight_26x), (3496, m_rodeTenths_26x), (3497, m_refused_26x), (3498, m_down_26x), (3499, m_drawn_26x)], [(56, m_kind), (57, m_height), (58, m_feet), (59, m_stride), (60, m_scope), (61, m_care), (62, m_plan), (69, m_rule)], []) 145 [(0, .ref 54), (4, .int v4_26x)] [] (some (.int r)) ([(3457, m_fences), (3461, m_allowed), (3474, w_m_read), (3475, w_m_length), (3476, w_m_top), (3477, w_m_at), (3478, w_m_wrong), (3483, m_ruleSize), (3484, w_m_isAsked), (3485, w_m_askedHorse), (3486, w_m_askedFence), (3487, w_m_askedLetter), (3488, w_m_askedHeight), (3496, w_m_rodeTenths), (3497, w_m_refused), (3498, w_m_down), (3499, w_m_drawn)], [(56, m_kind), (57, m_height), (58, m_feet), (59, m_stride), (60, m_scope), (61, m_care), (62, m_plan), (69, m_rule)], []) := by
    intro v4_26x m_read_26x m_length_26x m_top_26x m_at_26x m_wrong_26x m_isAsked_26x m_askedHorse_26x m_askedFence_26x m_askedLetter_26x m_askedHeight_26x m_rodeTenths_26x m_refused_26x m_down_26x m_drawn_26x h
    unfold k_X12_goRound_26 at h
    refine zJ_iload dX12_goRound_145 rfl rfl ?_
    refine zJ_aload_n dX12_goRound_147 rfl rfl ?_
    refine zJ_aload_n dX12_goRound_148 rfl rfl ?_
    refine zJ_geti (mi := mX12_goRound) (x := m_rodeTenths_26x) dX12_goRound_149 F_X12_313 zW_54 rfl rfl rfl ?_
    refine zJ_bipush dX12_goRound_152 zb_40 rfl ?_
    refine zJ_iconst dX12_goRound_154 zc_1 rfl ?_
    obtain ⟨rn1, hcl, h⟩ := bd1_some h
    refine zJ_callV2 (σ := σ) (L := ([(3457, m_fences), (3461, m_allowed), (3474, m_read_26x), (3475, m_length_26x), (3476, m_top_26x), (3477, m_at_26x), (3478, m_wrong_26x), (3483, m_ruleSize), (3484, m_isAsked_26x), (3485, m_askedHorse_26x), (3486, m_askedFence_26x), (3487, m_askedLetter_26x), (3488, m_askedHeight_26x), (3496, m_rodeTenths_26x), (3497, m_refused_26x), (3498, m_down_26x), (3499, m_drawn_26x)], [(56, m_kind), (57, m_height), (58, m_feet), (59, m_stride), (60, m_scope), (61, m_care), (62, m_plan), (69, m_rule)], [])) (mi := mX12_goRound) (yi := mX12_timeFaults) (as := [.int m_rodeTenths_26x, .int (40 : Int32), .int (1 : Int32)]) (st := [.int v4_26x]) (L2 := ([(3457, m_fences), (3461, m_allowed), (3474, m_read_26x), (3475, m_length_26x), (3476, m_top_26x), (3477, m_at_26x), (3478, m_wrong_26x), (3483, m_ruleSize), (3484, m_isAsked_26x), (3485, m_askedHorse_26x), (3486, m_askedFence_26x), (3487, m_askedLetter_26x), (3488, m_askedHeight_26x), (3496, m_rodeTenths_26x), (3497, m_refused_26x), (3498, m_down_26x), (3499, m_drawn_26x)], [(56, m_kind), (57, m_height), (58, m_feet), (59, m_stride), (60, m_scope), (61, m_care), (62, m_plan), (69, m_rule)], [])) dX12_goRound_155 ML_X12_325 Yv_X12_timeFaults rfl zW_54 rfl rfl (t_X12_timeFaults l _ hcl) (zsub_i (zle_c rfl zle_n) zle_n zle_n) (zjok_i rfl rfl (zle_c rfl (zle_c rfl (zle_c rfl (zle_c rfl (zle_c rfl (zle_c rfl (zle_c rfl (zle_c rfl (zle_c rfl (zle_c rfl (zle_c rfl (zle_c rfl (zle_c rfl (zle_c rfl (zle_c rfl (zle_c rfl (zle_c rfl zle_n))))))))))))))))) rfl rfl (zle_c rfl (zle_c rfl (zle_c rfl (zle_c rfl (zle_c rfl (zle_c rfl (zle_c rfl (zle_c rfl zle_n)))))))) rfl rfl zle_n) (Nat.le_of_ble_eq_true rfl) (Nat.le_of_ble_eq_true rfl) rfl rfl ?_
    refine zJ_iadd dX12_goRound_158 rfl ?_
    obtain ⟨rfl, rfl, rfl, rfl, rfl, rfl, rfl, rfl, rfl, rfl, rfl, rfl, rfl, rfl, rfl⟩ := so15 h
    exact zJ_iret dX12_goRound_159 rfl rfl
  refine zJ_loc (ls' := [(0, .ref 54), (1, .int p1), (2, .int p2), (4, .int (0 : Int32)), (5, .int (0 : Int32))]) (zll_c rfl (zll_c rfl (zll_c rfl (zll_c rfl (zll_c rfl zll_n))))) ?_
  refine ml16_J (fun (v4_26 : Int32) (v5_26 : Int32) (m_read_26 : Int32) (m_length_26 : Int32) (m_top_26 : Int32) (m_at_26 : Int32) (m_wrong_26 : Int32) (m_isAsked_26 : Int32) (m_askedHorse_26 : Int32) (m_askedFence_26 : Int32) (m_askedLetter_26 : Int32) (m_askedHeight_26 : Int32) (m_rodeTenths_26 : Int32) (m_refused_26 : Int32) (m_down_26 : Int32) (m_drawn_26 : Int32) => zJ l zW 207 mX12_goRound σ ([(3457, m_fences), (3461, m_allowed), (3474, m_read_26), (3475, m_length_26), (3476, m_top_26), (3477, m_at_26), (3478, m_wrong_26), (3483, m_ruleSize), (3484, m_isAsked_26), (3485, m_askedHorse_26), (3486, m_askedFence_26), (3487, m_askedLetter_26), (3488, m_askedHeight_26), (3496, m_rodeTenths_26), (3497, m_refused_26), (3498, m_down_26), (3499, m_drawn_26)], [(56, m_kind), (57, m_height), (58, m_feet), (59, m_stride), (60, m_scope), (61, m_care), (62, m_plan), (69, m_rule)], []) 26 [(0, .ref 54), (1, .int p1), (2, .int p2), (4, .int v4_26), (5, .int v5_26)] [] (some (.int r)) ([(3457, m_fences), (3461, m_allowed), (3474, w_m_read), (3475, w_m_length), (3476, w_m_top), (3477, w_m_at), (3478, w_m_wrong), (3483, m_ruleSize), (3484, w_m_isAsked), (3485, w_m_askedHorse), (3486, w_m_askedFence), (3487, w_m_askedLetter), (3488, w_m_askedHeight), (3496, w_m_rodeTenths), (3497, w_m_refused), (3498, w_m_down), (3499, w_m_drawn)], [(56, m_kind), (57, m_height), (58, m_feet), (59, m_stride), (60, m_scope), (61, m_care), (62, m_plan), (69, m_rule)], [])) (fun rc26 hrc26 v4_26 v5_26 m_read_26 m_length_26 m_top_26 m_at_26 m_wrong_26 m_isAsked_26 m_askedHorse_26 m_askedFence_26 m_askedLetter_26 m_askedHeight_26 m_rodeTenths_26 m_refused_26 m_down_26 m_drawn_26 h => ?_) zN _ _ _ _ _ _ _ _ _ _ _ _ _ _ _ _ h
  unfold s_X12_goRound_26 at h
  refine zJ_iload dX12_goRound_26 rfl rfl ?_
  refine zJ_aload_n dX12_goRound_28 rfl rfl ?_
  refine zJ_geti (mi := mX12_goRound) (x := m_fences) dX12_goRound_29 F_X12_119 zW_54 rfl rfl rfl ?_
  refine zJ_icmp_ge (tgt := 145) dX12_goRound_32 (by decide) rfl (fun hc => ?_) (fun hc => ?_)
  · replace h := it_t hc h
    refine zJ_loc (ls' := [(0, .ref 54), (4, .int v4_26)]) (zll_c rfl (zll_c rfl zll_n)) ?_
    exact hk26 _ _ _ _ _ _ _ _ _ _ _ _ _ _ _ h
  · replace h := it_f hc h
    refine zJ_aload_n dX12_goRound_35 rfl rfl ?_
    refine zJ_dup dX12_goRound_36 rfl rfl ?_
    refine zJ_geti (mi := mX12_goRound) (x := m_rodeTenths_26) dX12_goRound_37 F_X12_313 zW_54 rfl rfl rfl ?_
    refine zJ_aload_n dX12_goRound_40 rfl rfl ?_
    refine zJ_iload dX12_goRound_41 rfl rfl ?_
    refine zJ_aload_n dX12_goRound_43 rfl rfl ?_
    refine zJ_iload_n dX12_goRound_44 rfl rfl ?_
    refine zJ_iload dX12_goRound_45 rfl rfl ?_
    obtain ⟨rn2, hcl, h⟩ := bd1_some h
    refine zJ_callV2 (σ := σ) (L := ([(3457, m_fences), (3461, m_allowed), (3474, m_read_26), (3475, m_length_26), (3476, m_top_26), (3477, m_at_26), (3478, m_wrong_26), (3483, m_ruleSize), (3484, m_isAsked_26), (3485, m_askedHorse_26), (3486, m_askedFence_26), (3487, m_askedLetter_26), (3488, m_askedHeight_26), (3496, m_rodeTenths_26), (3497, m_refused_26), (3498, m_down_26), (3499, m_drawn_26)], [(56, m_kind), (57, m_height), (58, m_feet), (59, m_stride), (60, m_scope), (61, m_care), (62, m_plan), (69, m_rule)], [])) (mi := mX12_goRound) (yi := mX12_letterOf) (as := [.int p2, .int v5_26]) (st := [.int v5_26, .ref 54, .int m_rodeTenths_26, .ref 54]) (L2 := ([(3457, m_fences), (3461, m_allowed), (3474, m_read_26), (3475, m_length_26), (3476, m_top_26), (3477, m_at_26), (3478, m_wrong_26), (3483, m_ruleSize), (3484, m_isAsked_26), (3485, m_askedHorse_26), (3486, m_askedFence_26), (3487, m_askedLetter_26), (3488, m_askedHeight_26), (3496, m_rodeTenths_26), (3497, m_refused_26), (3498, m_down_26), (3499, m_drawn_26)], [(56, m_kind), (57, m_height), (58, m_feet), (59, m_stride), (60, m_scope), (61, m_care), (62, m_plan), (69, m_rule)], [])) dX12_goRound_47 ML_X12_273 Yv_X12_letterOf rfl zW_54 rfl rfl (t_X12_letterOf l _ hcl) (zsub_i zle_n (zle_c rfl zle_n) zle_n) (zjok_i rfl rfl (zle_c rfl (zle_c rfl (zle_c rfl (zle_c rfl (zle_c rfl (zle_c rfl (zle_c rfl (zle_c rfl (zle_c rfl (zle_c rfl (zle_c rfl (zle_c rfl (zle_c rfl (zle_c rfl (zle_c rfl (zle_c rfl (zle_c rfl zle_n))))))))))))))))) rfl rfl (zle_c rfl (zle_c rfl (zle_c rfl (zle_c rfl (zle_c rfl (zle_c rfl (zle_c rfl (zle_c rfl zle_n)))))))) rfl rfl zle_n) (Nat.le_of_ble_eq_true rfl) (Nat.le_of_ble_eq_true rfl) rfl rfl ?_
    obtain ⟨rn3, hcl, h⟩ := bd1_some h
    refine zJ_callV2 (σ := σ) (L := ([(3457, m_fences), (3461, m_allowed), (3474, m_read_26), (3475, m_length_26), (3476, m_top_26), (3477, m_at_26), (3478, m_wrong_26), (3483, m_ruleSize), (3484, m_isAsked_26), (3485, m_askedHorse_26), (3486, m_askedFence_26), (3487, m_askedLetter_26), (3488, m_askedHeight_26), (3496, m_rodeTenths_26), (3497, m_refused_26), (3498, m_down_26), (3499, m_drawn_26)], [(56, m_kind), (57, m_height), (58, m_feet), (59, m_stride), (60, m_scope), (61, m_care), (62, m_plan), (69, m_rule)], [])) (mi := mX12_goRound) (yi := mX12_tenthsOf) (as := [.int v5_26, .int rn2]) (st := [.int m_rodeTenths_26, .ref 54]) (L2 := ([(3457, m_fences), (3461, m_allowed), (3474, m_read_26), (3475, m_length_26), (3476, m_top_26), (3477, m_at_26), (3478, m_wrong_26), (3483, m_ruleSize), (3484, m_isAsked_26), (3485, m_askedHorse_26), (3486, m_askedFence_26), (3487, m_askedLetter_26), (3488, m_askedHeight_26), (3496, m_rodeTenths_26), (3497, m_refused_26), (3498, m_down_26), (3499, m_drawn_26)], [(56, m_kind), (57, m_height), (58, m_feet), (59, m_stride), (60, m_scope), (61, m_care), (62, m_plan), (69, m_rule)], [])) dX12_goRound_50 ML_X12_269 Yv_X12_tenthsOf rfl zW_54 rfl rfl (t_X12_tenthsOf l _ hcl) (zsub_i zle_n (zle_c rfl (zle_c rfl zle_n)) zle_n) (zjok_i rfl rfl (zle_c rfl (zle_c rfl (zle_c rfl (zle_c rfl (zle_c rfl (zle_c rfl (zle_c rfl (zle_c rfl (zle_c rfl (zle_c rfl (zle_c rfl (zle_c rfl (zle_c rfl (zle_c rfl (zle_c rfl (zle_c rfl (zle_c rfl zle_n))))))))))))))))) rfl rfl (zle_c rfl (zle_c rfl (zle_c rfl (zle_c rfl (zle_c rfl (zle_c rfl (zle_c rfl (zle_c rfl zle_n)))))))) rfl rfl zle_n) (Nat.le_of_ble_eq_true rfl) (Nat.le_of_ble_eq_true rfl) rfl rfl ?_
    refine zJ_iadd dX12_goRound_53 rfl ?_
    refine zK_puti (mi := mX12_goRound) (la' := [(3457, m_fences), (3461, m_allowed), (3474, m_read_26), (3475, m_length_26), (3476, m_top_26), (3477, m_at_26), (3478, m_wrong_26), (3483, m_ruleSize), (3484, m_isAsked_26), (3485, m_askedHorse_26), (3486, m_askedFence_26), (3487, m_askedLetter_26), (3488, m_askedHeight_26), (3496, (m_rodeTenths_26 + rn3)), (3497, m_refused_26), (3498, m_down_26), (3499, m_drawn_26)]) zW_ok dX12_goRound_54 F_X12_313 P_12_40 zW_54 rfl rfl rfl ?_
    refine zJ_aload_n dX12_goRound_57 rfl rfl ?_
    refine zJ_bipush dX12_goRound_58 zb_100 rfl ?_
    obtain ⟨rn4, m_drawnn5, hcl, h⟩ := bd2_some h
    refine zJ_callV2 (σ := σ) (L := ([(3457, m_fences), (3461, m_allowed), (3474, m_read_26), (3475, m_length_26), (3476, m_top_26), (3477, m_at_26), (3478, m_wrong_26), (3483, m_ruleSize), (3484, m_isAsked_26), (3485, m_askedHorse_26), (3486, m_askedFence_26), (3487, m_askedLetter_26), (3488, m_askedHeight_26), (3496, (m_rodeTenths_26 + rn3)), (3497, m_refused_26), (3498, m_down_26), (3499, m_drawn_26)], [(56, m_kind), (57, m_height), (58, m_feet), (59, m_stride), (60, m_scope), (61, m_care), (62, m_plan), (69, m_rule)], [])) (mi := mX12_goRound) (yi := mX12_draw) (as := [.int (100 : Int32)]) (st := []) (L2 := ([(3457, m_fences), (3461, m_allowed), (3474, m_read_26), (3475, m_length_26), (3476, m_top_26), (3477, m_at_26), (3478, m_wrong_26), (3483, m_ruleSize), (3484, m_isAsked_26), (3485, m_askedHorse_26), (3486, m_askedFence_26), (3487, m_askedLetter_26), (3488, m_askedHeight_26), (3496, (m_rodeTenths_26 + rn3)), (3497, m_refused_26), (3498, m_down_26), (3499, m_drawnn5)], [(56, m_kind), (57, m_height), (58, m_feet), (59, m_stride), (60, m_scope), (61, m_care), (62, m_plan), (69, m_rule)], [])) dX12_goRound_60 ML_X12_322 Yv_X12_draw rfl zW_54 rfl rfl (t_X12_draw l _ hcl) (zsub_i (zle_c rfl zle_n) zle_n zle_n) (zjok_i rfl rfl (zle_c rfl (zle_c rfl (zle_c rfl (zle_c rfl (zle_c rfl (zle_c rfl (zle_c rfl (zle_c rfl (zle_c rfl (zle_c rfl (zle_c rfl (zle_c rfl (zle_c rfl (zle_c rfl (zle_c rfl (zle_c rfl (zle_c rfl zle_n))))))))))))))))) rfl rfl (zle_c rfl (zle_c rfl (zle_c rfl (zle_c rfl (zle_c rfl (zle_c rfl (zle_c rfl (zle_c rfl zle_n)))))))) rfl rfl zle_n) (Nat.le_of_ble_eq_true rfl) (Nat.le_of_ble_eq_true rfl) rfl rfl ?_
    refine zJ_aload_n dX12_goRound_63 rfl rfl ?_
    refine zJ_iload_n dX12_goRound_64 rfl rfl ?_
    refine zJ_iload dX12_goRound_65 rfl rfl ?_
    obtain ⟨rn6, hcl, h⟩ := bd1_some h
    refine zJ_callV2 (σ := σ) (L := ([(3457, m_fences), (3461, m_allowed), (3474, m_read_26), (3475, m_length_26), (3476, m_top_26), (3477, m_at_26), (3478, m_wrong_26), (3483, m_ruleSize), (3484, m_isAsked_26), (3485, m_askedHorse_26), (3486, m_askedFence_26), (3487, m_askedLetter_26), (3488, m_askedHeight_26), (3496, (m_rodeTenths_26 + rn3)), (3497, m_refused_26), (3498, m_down_26), (3499, m_drawnn5)], [(56, m_kind), (57, m_height), (58, m_feet), (59, m_stride), (60, m_scope), (61, m_care), (62, m_plan), (69, m_rule)], [])) (mi := mX12_goRound) (yi := mX12_refusalOf) (as := [.int p1, .int v5_26]) (st := [.int rn4]) (L2 := ([(3457, m_fences), (3461, m_allowed), (3474, m_read_26), (3475, m_length_26), (3476, m_top_26), (3477, m_at_26), (3478, m_wrong_26), (3483, m_ruleSize), (3484, m_isAsked_26), (3485, m_askedHorse_26), (3486, m_askedFence_26), (3487, m_askedLetter_26), (3488, m_askedHeight_26), (3496, (m_rodeTenths_26 + rn3)), (3497, m_refused_26), (3498, m_down_26), (3499, m_drawnn5)], [(56, m_kind), (57, m_height), (58, m_feet), (59, m_stride), (60, m_scope), (61, m_care), (62, m_plan), (69, m_rule)], [])) dX12_goRound_67 ML_X12_262 Yv_X12_refusalOf rfl zW_54 rfl rfl (t_X12_refusalOf l _ hcl) (zsub_i zle_n (zle_c rfl (zle_c rfl (zle_c rfl (zle_c rfl zle_n)))) zle_n) (zjok_i rfl rfl (zle_c rfl (zle_c rfl (zle_c rfl (zle_c rfl (zle_c rfl (zle_c rfl (zle_c rfl (zle_c rfl (zle_c rfl (zle_c rfl (zle_c rfl (zle_c rfl (zle_c rfl (zle_c rfl (zle_c rfl (zle_c rfl (zle_c rfl zle_n))))))))))))))))) rfl rfl (zle_c rfl (zle_c rfl (zle_c rfl (zle_c rfl (zle_c rfl (zle_c rfl (zle_c rfl (zle_c rfl zle_n)))))))) rfl rfl zle_n) (Nat.le_of_ble_eq_true rfl) (Nat.le_of_ble_eq_true rfl) rfl rfl ?_
    have hj_X12_goRound_100 : ∀ (v4_100j : Int32) (m_rodeTenths_100j : Int32) (m_refused_100j : Int32), j_X12_goRound_100 p1 p2 m_ruleSize m_kind m_height m_feet m_stride m_scope m_care m_plan m_rule rc26 v5_26 m_read_26 m_length_26 m_top_26 m_at_26 m_wrong_26 m_isAsked_26 m_askedHorse_26 m_askedFence_26 m_askedLetter_26 m_askedHeight_26 m_down_26 m_drawnn5 v4_100j m_rodeTenths_100j m_refused_100j = some (r, w_m_read, w_m_length, w_m_top, w_m_at, w_m_wrong, w_m_isAsked, w_m_askedHorse, w_m_askedFence, w_m_askedLetter, w_m_askedHeight, w_m_rodeTenths, w_m_refused, w_m_down, w_m_drawn) → zJ l zW 207 mX12_goRound σ ([(3457, m_fences), (3461, m_allowed), (3474, m_read_26), (3475, m_length_26), (3476, m_top_26), (3477, m_at_26), (3478, m_wrong_26), (3483, m_ruleSize), (3484, m_isAsked_26), (3485, m_askedHorse_26), (3486, m_askedFence_26), (3487, m_askedLetter_26), (3488, m_askedHeight_26), (3496, m_rodeTenths_100j), (3497, m_refused_100j), (3498, m_down_26), (3499, m_drawnn5)], [(56, m_kind), (57, m_height), (58, m_feet), (59, m_stride), (60, m_scope), (61, m_care), (62, m_plan), (69, m_rule)], []) 100 [(0, .ref 54), (1, .int p1), (2, .int p2), (4, .int v4_100j), (5, .int v5_26)] [] (some (.int r)) ([(3457, m_fences), (3461, m_allowed), (3474, w_m_read), (3475, w_m_length), (3476, w_m_top), (3477, w_m_at), (3478, w_m_wrong), (3483, m_ruleSize), (3484, w_m_isAsked), (3485, w_m_askedHorse), (3486, w_m_askedFence), (3487, w_m_askedLetter), (3488, w_m_askedHeight), (3496, w_m_rodeTenths), (3497, w_m_refused), (3498, w_m_down), (3499, w_m_drawn)], [(56, m_kind), (57, m_height), (58, m_feet), (59, m_stride), (60, m_scope), (61, m_care), (62, m_plan), (69, m_rule)], []) := by
      intro v4_100j m_rodeTenths_100j m_refused_100j h
      unfold j_X12_goRound_100 at h
      refine zJ_aload_n dX12_goRound_100 rfl rfl ?_
      refine zJ_bipush dX12_goRound_101 zb_100 rfl ?_
      obtain ⟨rn7, m_drawnn8, hcl, h⟩ := bd2_some h
      refine zJ_callV2 (σ := σ) (L := ([(3457, m_fences), (3461, m_allowed), (3474, m_read_26), (3475, m_length_26), (3476, m_top_26), (3477, m_at_26), (3478, m_wrong_26), (3483, m_ruleSize), (3484, m_isAsked_26), (3485, m_askedHorse_26), (3486, m_askedFence_26), (3487, m_askedLetter_26), (3488, m_askedHeight_26), (3496, m_rodeTenths_100j), (3497, m_refused_100j), (3498, m_down_26), (3499, m_drawnn5)], [(56, m_kind), (57, m_height), (58, m_feet), (59, m_stride), (60, m_scope), (61, m_care), (62, m_plan), (69, m_rule)], [])) (mi := mX12_goRound) (yi := mX12_draw) (as := [.int (100 : Int32)]) (st := []) (L2 := ([(3457, m_fences), (3461, m_allowed), (3474, m_read_26), (3475, m_length_26), (3476, m_top_26), (3477, m_at_26), (3478, m_wrong_26), (3483, m_ruleSize), (3484, m_isAsked_26), (3485, m_askedHorse_26), (3486, m_askedFence_26), (3487, m_askedLetter_26), (3488, m_askedHeight_26), (3496, m_rodeTenths_100j), (3497, m_refused_100j), (3498, m_down_26), (3499, m_drawnn8)], [(56, m_kind), (57, m_height), (58, m_feet), (59, m_stride), (60, m_scope), (61, m_care), (62, m_plan), (69, m_rule)], [])) dX12_goRound_103 ML_X12_322 Yv_X12_draw rfl zW_54 rfl rfl (t_X12_draw l _ hcl) (zsub_i (zle_c rfl zle_n) zle_n zle_n) (zjok_i rfl rfl (zle_c rfl (zle_c rfl (zle_c rfl (zle_c rfl (zle_c rfl (zle_c rfl (zle_c rfl (zle_c rfl (zle_c rfl (zle_c rfl (zle_c rfl (zle_c rfl (zle_c rfl (zle_c rfl (zle_c rfl (zle_c rfl (zle_c rfl zle_n))))))))))))))))) rfl rfl (zle_c rfl (zle_c rfl (zle_c rfl (zle_c rfl (zle_c rfl (zle_c rfl (zle_c rfl (zle_c rfl zle_n)))))))) rfl rfl zle_n) (Nat.le_of_ble_eq_true rfl) (Nat.le_of_ble_eq_true rfl) rfl rfl ?_
      refine zJ_aload_n dX12_goRound_106 rfl rfl ?_
      refine zJ_iload_n dX12_goRound_107 rfl rfl ?_
      refine zJ_iload dX12_goRound_108 rfl rfl ?_
      refine zJ_aload_n dX12_goRound_110 rfl rfl ?_
      refine zJ_iload_n dX12_goRound_111 rfl rfl ?_
      refine zJ_iload dX12_goRound_112 rfl rfl ?_
      obtain ⟨rn9, hcl, h⟩ := bd1_some h
      refine zJ_callV2 (σ := σ) (L := ([(3457, m_fences), (3461, m_allowed), (3474, m_read_26), (3475, m_length_26), (3476, m_top_26), (3477, m_at_26), (3478, m_wrong_26), (3483, m_ruleSize), (3484, m_isAsked_26), (3485, m_askedHorse_26), (3486, m_askedFence_26), (3487, m_askedLetter_26), (3488, m_askedHeight_26), (3496, m_rodeTenths_100j), (3497, m_refused_100j), (3498, m_down_26), (3499, m_drawnn8)], [(56, m_kind), (57, m_height), (58, m_feet), (59, m_stride), (60, m_scope), (61, m_care), (62, m_plan), (69, m_rule)], [])) (mi := mX12_goRound) (yi := mX12_letterOf) (as := [.int p2, .int v5_26]) (st := [.int v5_26, .int p1, .ref 54, .int rn7]) (L2 := ([(3457, m_fences), (3461, m_allowed), (3474, m_read_26), (3475, m_length_26), (3476, m_top_26), (3477, m_at_26), (3478, m_wrong_26), (3483, m_ruleSize), (3484, m_isAsked_26), (3485, m_askedHorse_26), (3486, m_askedFence_26), (3487, m_askedLetter_26), (3488, m_askedHeight_26), (3496, m_rodeTenths_100j), (3497, m_refused_100j), (3498, m_down_26), (3499, m_drawnn8)], [(56, m_kind), (57, m_height), (58, m_feet), (59, m_stride), (60, m_scope), (61, m_care), (62, m_plan), (69, m_rule)], [])) dX12_goRound_114 ML_X12_273 Yv_X12_letterOf rfl zW_54 rfl rfl (t_X12_letterOf l _ hcl) (zsub_i zle_n (zle_c rfl zle_n) zle_n) (zjok_i rfl rfl (zle_c rfl (zle_c rfl (zle_c rfl (zle_c rfl (zle_c rfl (zle_c rfl (zle_c rfl (zle_c rfl (zle_c rfl (zle_c rfl (zle_c rfl (zle_c rfl (zle_c rfl (zle_c rfl (zle_c rfl (zle_c rfl (zle_c rfl zle_n))))))))))))))))) rfl rfl (zle_c rfl (zle_c rfl (zle_c rfl (zle_c rfl (zle_c rfl (zle_c rfl (zle_c rfl (zle_c rfl zle_n)))))))) rfl rfl zle_n) (Nat.le_of_ble_eq_true rfl) (Nat.le_of_ble_eq_true rfl) rfl rfl ?_
      obtain ⟨rn10, m_readn11, m_lengthn12, m_topn13, m_atn14, m_wrongn15, m_isAskedn16, m_askedHorsen17, m_askedFencen18, m_askedLettern19, m_askedHeightn20, hcl, h⟩ := bd11_some h
      refine zJ_callV2 (σ := σ) (L := ([(3457, m_fences), (3461, m_allowed), (3474, m_read_26), (3475, m_length_26), (3476, m_top_26), (3477, m_at_26), (3478, m_wrong_26), (3483, m_ruleSize), (3484, m_isAsked_26), (3485, m_askedHorse_26), (3486, m_askedFence_26), (3487, m_askedLetter_26), (3488, m_askedHeight_26), (3496, m_rodeTenths_100j), (3497, m_refused_100j), (3498, m_down_26), (3499, m_drawnn8)], [(56, m_kind), (57, m_height), (58, m_feet), (59, m_stride), (60, m_scope), (61, m_care), (62, m_plan), (69, m_rule)], [])) (mi := mX12_goRound) (yi := mX12_oddsOf_) (as := [.int p1, .int v5_26, .int rn9]) (st := [.int rn7]) (L2 := ([(3457, m_fences), (3461, m_allowed), (3474, m_readn11), (3475, m_lengthn12), (3476, m_topn13), (3477, m_atn14), (3478, m_wrongn15), (3483, m_ruleSize), (3484, m_isAskedn16), (3485, m_askedHorsen17), (3486, m_askedFencen18), (3487, m_askedLettern19), (3488, m_askedHeightn20), (3496, m_rodeTenths_100j), (3497, m_refused_100j), (3498, m_down_26), (3499, m_drawnn8)], [(56, m_kind), (57, m_height), (58, m_feet), (59, m_stride), (60, m_scope), (61, m_care), (62, m_plan), (69, m_rule)], [])) dX12_goRound_117 ML_X12_259 Yv_X12_oddsOf_ rfl zW_54 rfl rfl (t_X12_oddsOf_ l _ hcl) (zsub_i (zle_c rfl (zle_c rfl (zle_c rfl (zle_c rfl (zle_c rfl (zle_c rfl (zle_c rfl (zle_c rfl (zle_c rfl (zle_c rfl (zle_c rfl zle_n))))))))))) (zle_c rfl (zle_c rfl (zle_c rfl (zle_c rfl (zle_c rfl (zle_c rfl (zle_c rfl zle_n))))))) zle_n) (zjok_i rfl rfl (zle_c rfl (zle_c rfl (zle_c rfl (zle_c rfl (zle_c rfl (zle_c rfl (zle_c rfl (zle_c rfl (zle_c rfl (zle_c rfl (zle_c rfl (zle_c rfl (zle_c rfl (zle_c rfl (zle_c rfl (zle_c rfl (zle_c rfl zle_n))))))))))))))))) rfl rfl (zle_c rfl (zle_c rfl (zle_c rfl (zle_c rfl (zle_c rfl (zle_c rfl (zle_c rfl (zle_c rfl zle_n)))))))) rfl rfl zle_n) (Nat.le_of_ble_eq_true rfl) (Nat.le_of_ble_eq_true rfl) rfl rfl ?_
      refine zJ_icmp_ge (tgt := 139) dX12_goRound_120 (by decide) rfl (fun hc => ?_) (fun hc => ?_)
      · replace h := it_t hc h
        obtain ⟨v5n21, ev5n21, h⟩ := lt1_some h
        refine zJ_iincN (ls' := [(5, .int v5n21), (0, .ref 54), (1, .int p1), (2, .int p2), (4, .int v4_100j)]) dX12_goRound_139 rfl rfl zc_1 ev5n21 rfl rfl ?_
        refine zJ_goto (tgt := 26) dX12_goRound_142 (by decide) ?_
        refine zJ_loc (ls' := [(0, .ref 54), (1, .int p1), (2, .int p2), (4, .int v4_100j), (5, .int v5n21)]) (zll_c rfl (zll_c rfl (zll_c rfl (zll_c rfl (zll_c rfl zll_n))))) ?_
        exact hrc26 _ _ _ _ _ _ _ _ _ _ _ _ _ _ _ _ h
      · replace h := it_f hc h
        obtain ⟨v4n22, ev4n22, h⟩ := lt1_some h
        refine zJ_iincN (ls' := [(4, .int v4n22), (0, .ref 54), (1, .int p1), (2, .int p2), (5, .int v5_26)]) dX12_goRound_123 rfl rfl zc_4 ev4n22 rfl rfl ?_
        refine zJ_aload_n dX12_goRound_126 rfl rfl ?_
        refine zJ_dup dX12_goRound_127 rfl rfl ?_
        refine zJ_geti (mi := mX12_goRound) (x := m_down_26) dX12_goRound_128 F_X12_319 zW_54 rfl rfl rfl ?_
        refine zJ_iconst dX12_goRound_131 zc_1 rfl ?_
        refine zJ_iload dX12_goRound_132 rfl rfl ?_
        refine zJ_ishl dX12_goRound_134 rfl ?_
        refine zJ_ior dX12_goRound_135 rfl ?_
        refine zK_puti (mi := mX12_goRound) (la' := [(3457, m_fences), (3461, m_allowed), (3474, m_readn11), (3475, m_lengthn12), (3476, m_topn13), (3477, m_atn14), (3478, m_wrongn15), (3483, m_ruleSize), (3484, m_isAskedn16), (3485, m_askedHorsen17), (3486, m_askedFencen18), (3487, m_askedLettern19), (3488, m_askedHeightn20), (3496, m_rodeTenths_100j), (3497, m_refused_100j), (3498, (m_down_26 ||| ((1 : Int32) <<< (v5_26 &&& 31)))), (3499, m_drawnn8)]) zW_ok dX12_goRound_136 F_X12_319 P_12_42 zW_54 rfl rfl rfl ?_
        obtain ⟨v5n23, ev5n23, h⟩ := lt1_some h
        refine zJ_iincN (ls' := [(5, .int v5n23), (4, .int v4n22), (0, .ref 54), (1, .int p1), (2, .int p2)]) dX12_goRound_139 rfl rfl zc_1 ev5n23 rfl rfl ?_
        refine zJ_goto (tgt := 26) dX12_goRound_142 (by decide) ?_
        refine zJ_loc (ls' := [(0, .ref 54), (1, .int p1), (2, .int p2), (4, .int v4n22), (5, .int v5n23)]) (zll_c rfl (zll_c rfl (zll_c rfl (zll_c rfl (zll_c rfl zll_n))))) ?_
        exact hrc26 _ _ _ _ _ _ _ _ _ _ _ _ _ _ _ _ h
    refine zJ_icmp_ge (tgt := 100) dX12_goRound_70 (by decide) rfl (fun hc => ?_) (fun hc => ?_)
    · replace h := it_t hc h
      refine zJ_loc (ls' := [(0, .ref 54), (1, .int p1), (2, .int p2), (4, .int v4_26), (5, .int v5_26)]) (zll_c rfl (zll_c rfl (zll_c rfl (zll_c rfl (zll_c rfl zll_n))))) ?_
      exact hj_X12_goRound_100 _ _ _ h
    · replace h := it_f hc h
      obtain ⟨v4n24, ev4n24, h⟩ := lt1_some h
      refine zJ_iincN (ls' := [(4, .int v4n24), (0, .ref 54), (1, .int p1), (2, .int p2), (5, .int v5_26)]) dX12_goRound_73 rfl rfl zc_4 ev4n24 rfl rfl ?_
      refine zJ_aload_n dX12_goRound_76 rfl rfl ?_
      refine zJ_dup dX12_goRound_77 rfl rfl ?_
      refine zJ_geti (mi := mX12_goRound) (x := (m_rodeTenths_26 + rn3)) dX12_goRound_78 F_X12_313 zW_54 rfl rfl rfl ?_
      refine zJ_bipush dX12_goRound_81 zb_60 rfl ?_
      refine zJ_iadd dX12_goRound_83 rfl ?_
      refine zK_puti (mi := mX12_goRound) (la' := [(3457, m_fences), (3461, m_allowed), (3474, m_read_26), (3475, m_length_26), (3476, m_top_26), (3477, m_at_26), (3478, m_wrong_26), (3483, m_ruleSize), (3484, m_isAsked_26), (3485, m_askedHorse_26), (3486, m_askedFence_26), (3487, m_askedLetter_26), (3488, m_askedHeight_26), (3496, ((m_rodeTenths_26 + rn3) + (60 : Int32))), (3497, m_refused_26), (3498, m_down_26), (3499, m_drawnn5)]) zW_ok dX12_goRound_84 F_X12_313 P_12_40 zW_54 rfl rfl rfl ?_
      refine zJ_aload_n dX12_goRound_87 rfl rfl ?_
      refine zJ_dup dX12_goRound_88 rfl rfl ?_
      refine zJ_geti (mi := mX12_goRound) (x := m_refused_26) dX12_goRound_89 F_X12_316 zW_54 rfl rfl rfl ?_
      refine zJ_iconst dX12_goRound_92 zc_1 rfl ?_
      refine zJ_iload dX12_goRound_93 rfl rfl ?_
      refine zJ_ishl dX12_goRound_95 rfl ?_
      refine zJ_ior dX12_goRound_96 rfl ?_
      refine zK_puti (mi := mX12_goRound) (la' := [(3457, m_fences), (3461, m_allowed), (3474, m_read_26), (3475, m_length_26), (3476, m_top_26), (3477, m_at_26), (3478, m_wrong_26), (3483, m_ruleSize), (3484, m_isAsked_26), (3485, m_askedHorse_26), (3486, m_askedFence_26), (3487, m_askedLetter_26), (3488, m_askedHeight_26), (3496, ((m_rodeTenths_26 + rn3) + (60 : Int32))), (3497, (m_refused_26 ||| ((1 : Int32) <<< (v5_26 &&& 31)))), (3498, m_down_26), (3499, m_drawnn5)]) zW_ok dX12_goRound_97 F_X12_316 P_12_41 zW_54 rfl rfl rfl ?_
      refine zJ_loc (ls' := [(0, .ref 54), (1, .int p1), (2, .int p2), (4, .int v4n24), (5, .int v5_26)]) (zll_c rfl (zll_c rfl (zll_c rfl (zll_c rfl (zll_c rfl zll_n))))) ?_
      exact hj_X12_goRound_100 _ _ _ h
set_option maxRecDepth 100000 in
set_option maxHeartbeats 4000000 in
theorem t_X12_isHorse (l : Launch) (σ : zS) {p1 : Int32} {m_horses : Int32} {r : Int32} (h : f_X12_isHorse p1 m_horses = some r) : zMt l zW 1 mX12_isHorse σ ([(3462, m_horses)], [], []) [.ref 54, .int p1] (some (.int r)) ([(3462, m_horses)], [], []) := by
  refine zMt_of (ls := [(0, .ref 54), (1, .int p1)]) (by decide) rfl (fun _ => Nat.le_of_ble_eq_true rfl) rfl ?_
  unfold f_X12_isHorse at h
  refine zJ_iload_n dX12_isHorse_0 rfl rfl ?_
  refine zJ_iconst dX12_isHorse_1 zc_0 rfl ?_
  refine zJ_aload_n dX12_isHorse_2 rfl rfl ?_
  refine zJ_geti (mi := mX12_isHorse) (x := m_horses) dX12_isHorse_3 F_X12_126 zW_54 rfl rfl rfl ?_
  refine zJ_iconst dX12_isHorse_6 zc_1 rfl ?_
  refine zJ_isub dX12_isHorse_7 rfl ?_
  obtain ⟨rn1, hcl, h⟩ := bd1_some h
  refine zJ_callS2 (σ := σ) (L := ([(3462, m_horses)], [], [])) (mi := mX12_isHorse) (yi := mX12_in) (as := [.int p1, .int (0 : Int32), .int (m_horses - (1 : Int32))]) (st := []) (L2 := ([(3462, m_horses)], [], [])) dX12_isHorse_8 ML_X12_122 Ys_X12_in rfl (t_X12_in l _ hcl) (zsub_i zle_n zle_n zle_n) (zjok_i rfl rfl (zle_c rfl zle_n) rfl rfl zle_n rfl rfl zle_n) (Nat.le_of_ble_eq_true rfl) (Nat.le_of_ble_eq_true rfl) rfl rfl ?_
  obtain ⟨hg, h⟩ := gd_some h
  obtain rfl := so1 h
  exact zJ_iret dX12_isHorse_11 rfl (bit_n hg)
set_option maxRecDepth 100000 in
set_option maxHeartbeats 4000000 in
theorem t_X12_isPlan (l : Launch) (σ : zS) {p1 : Int32} {m_plans : Int32} {r : Int32} (h : f_X12_isPlan p1 m_plans = some r) : zMt l zW 1 mX12_isPlan σ ([(3466, m_plans)], [], []) [.ref 54, .int p1] (some (.int r)) ([(3466, m_plans)], [], []) := by
  refine zMt_of (ls := [(0, .ref 54), (1, .int p1)]) (by decide) rfl (fun _ => Nat.le_of_ble_eq_true rfl) rfl ?_
  unfold f_X12_isPlan at h
  refine zJ_iload_n dX12_isPlan_0 rfl rfl ?_
  refine zJ_iconst dX12_isPlan_1 zc_0 rfl ?_
  refine zJ_aload_n dX12_isPlan_2 rfl rfl ?_
  refine zJ_geti (mi := mX12_isPlan) (x := m_plans) dX12_isPlan_3 F_X12_129 zW_54 rfl rfl rfl ?_
  refine zJ_iconst dX12_isPlan_6 zc_1 rfl ?_
  refine zJ_isub dX12_isPlan_7 rfl ?_
  obtain ⟨rn1, hcl, h⟩ := bd1_some h
  refine zJ_callS2 (σ := σ) (L := ([(3466, m_plans)], [], [])) (mi := mX12_isPlan) (yi := mX12_in) (as := [.int p1, .int (0 : Int32), .int (m_plans - (1 : Int32))]) (st := []) (L2 := ([(3466, m_plans)], [], [])) dX12_isPlan_8 ML_X12_122 Ys_X12_in rfl (t_X12_in l _ hcl) (zsub_i zle_n zle_n zle_n) (zjok_i rfl rfl (zle_c rfl zle_n) rfl rfl zle_n rfl rfl zle_n) (Nat.le_of_ble_eq_true rfl) (Nat.le_of_ble_eq_true rfl) rfl rfl ?_
  obtain ⟨hg, h⟩ := gd_some h
  obtain rfl := so1 h
  exact zJ_iret dX12_isPlan_11 rfl (bit_n hg)
set_option maxRecDepth 100000 in
set_option maxHeartbeats 4000000 in
theorem t_X12_areBoth (l : Launch) (σ : zS) {p1 : Int32} {p2 : Int32} {m_horses : Int32} {m_plans : Int32} {r : Int32} (h : f_X12_areBoth p1 p2 m_horses m_plans = some r) : zMt l zW 2 mX12_areBoth σ ([(3462, m_horses), (3466, m_plans)], [], []) [.ref 54, .int p1, .int p2] (some (.int r)) ([(3462, m_horses), (3466, m_plans)], [], []) := by
  refine zMt_of (ls := [(0, .ref 54), (1, .int p1), (2, .int p2)]) (by decide) rfl (fun _ => Nat.le_of_ble_eq_true rfl) rfl ?_
  unfold f_X12_areBoth at h
  refine zJ_aload_n dX12_areBoth_0 rfl rfl ?_
  refine zJ_iload_n dX12_areBoth_1 rfl rfl ?_
  obtain ⟨rn1, hcl, h⟩ := bd1_some h
  refine zJ_callV2 (σ := σ) (L := ([(3462, m_horses), (3466, m_plans)], [], [])) (mi := mX12_areBoth) (yi := mX12_isHorse) (as := [.int p1]) (st := []) (L2 := ([(3462, m_horses), (3466, m_plans)], [], [])) dX12_areBoth_2 ML_X12_132 Yv_X12_isHorse rfl zW_54 rfl rfl (t_X12_isHorse l _ hcl) (zsub_i (zle_c rfl zle_n) zle_n zle_n) (zjok_i rfl rfl (zle_c rfl (zle_c rfl zle_n)) rfl rfl zle_n rfl rfl zle_n) (Nat.le_of_ble_eq_true rfl) (Nat.le_of_ble_eq_true rfl) rfl rfl ?_
  refine zJ_if_eq (tgt := 20) dX12_areBoth_5 (by decide) rfl (fun hc => ?_) (fun hc => ?_)
  · replace h := it_t hc h
    refine zJ_iconst dX12_areBoth_20 zc_0 rfl ?_
    obtain rfl := so1 h
    exact zJ_iret dX12_areBoth_21 rfl (by decide)
  · replace h := it_f hc h
    refine zJ_aload_n dX12_areBoth_8 rfl rfl ?_
    refine zJ_iload_n dX12_areBoth_9 rfl rfl ?_
    obtain ⟨rn2, hcl, h⟩ := bd1_some h
    refine zJ_callV2 (σ := σ) (L := ([(3462, m_horses), (3466, m_plans)], [], [])) (mi := mX12_areBoth) (yi := mX12_isPlan) (as := [.int p2]) (st := []) (L2 := ([(3462, m_horses), (3466, m_plans)], [], [])) dX12_areBoth_10 ML_X12_136 Yv_X12_isPlan rfl zW_54 rfl rfl (t_X12_isPlan l _ hcl) (zsub_i (zle_c rfl zle_n) zle_n zle_n) (zjok_i rfl rfl (zle_c rfl (zle_c rfl zle_n)) rfl rfl zle_n rfl rfl zle_n) (Nat.le_of_ble_eq_true rfl) (Nat.le_of_ble_eq_true rfl) rfl rfl ?_
    refine zJ_if_eq (tgt := 20) dX12_areBoth_13 (by decide) rfl (fun hc => ?_) (fun hc => ?_)
    · replace h := it_t hc h
      refine zJ_iconst dX12_areBoth_20 zc_0 rfl ?_
      obtain rfl := so1 h
      exact zJ_iret dX12_areBoth_21 rfl (by decide)
    · replace h := it_f hc h
      refine zJ_iconst dX12_areBoth_16 zc_1 rfl ?_
      refine zJ_goto (tgt := 21) dX12_areBoth_17 (by decide) ?_
      obtain rfl := so1 h
      exact zJ_iret dX12_areBoth_21 rfl (by decide)
set_option maxRecDepth 100000 in
set_option maxHeartbeats 4000000 in
theorem t_X12_refusesRide (l : Launch) (σ : zS) {p1 : Int32} {p2 : Int32} {p3 : Int32} {m_horses : Int32} {m_plans : Int32} {m_now : (Nat → Int32)} {r : Int32} (h : f_X12_refusesRide p1 p2 p3 m_horses m_plans m_now = some r) : zMt l zW 3 mX12_refusesRide σ ([(3462, m_horses), (3466, m_plans)], [(55, m_now)], []) [.ref 54, .int p1, .int p2, .int p3] (some (.int r)) ([(3462, m_horses), (3466, m_plans)], [(55, m_now)], []) := by
  refine zMt_of (ls := [(0, .ref 54), (1, .int p1), (2, .int p2), (3, .int p3)]) (by decide) rfl (fun _ => Nat.le_of_ble_eq_true rfl) rfl ?_
  unfold f_X12_refusesRide at h
  refine zJ_iload_n dX12_refusesRide_0 rfl rfl ?_
  refine zJ_iconst dX12_refusesRide_1 zc_0 rfl ?_
  refine zJ_iconst dX12_refusesRide_2 zc_5 rfl ?_
  obtain ⟨rn1, hcl, h⟩ := bd1_some h
  refine zJ_callS2 (σ := σ) (L := ([(3462, m_horses), (3466, m_plans)], [(55, m_now)], [])) (mi := mX12_refusesRide) (yi := mX12_in) (as := [.int p1, .int (0 : Int32), .int (5 : Int32)]) (st := []) (L2 := ([(3462, m_horses), (3466, m_plans)], [(55, m_now)], [])) dX12_refusesRide_3 ML_X12_122 Ys_X12_in rfl (t_X12_in l _ hcl) (zsub_i zle_n zle_n zle_n) (zjok_i rfl rfl (zle_c rfl (zle_c rfl zle_n)) rfl rfl (zle_c rfl zle_n) rfl rfl zle_n) (Nat.le_of_ble_eq_true rfl) (Nat.le_of_ble_eq_true rfl) rfl rfl ?_
  refine zJ_if_eq (tgt := 18) dX12_refusesRide_6 (by decide) rfl (fun hc => ?_) (fun hc => ?_)
  · replace h := it_t hc h
    refine zJ_iconst dX12_refusesRide_18 zc_m1 rfl ?_
    obtain rfl := so1 h
    exact zJ_iret dX12_refusesRide_19 rfl rfl
  · replace h := it_f hc h
    refine zJ_aload_n dX12_refusesRide_9 rfl rfl ?_
    refine zJ_iload_n dX12_refusesRide_10 rfl rfl ?_
    refine zJ_iload_n dX12_refusesRide_11 rfl rfl ?_
    obtain ⟨rn2, hcl, h⟩ := bd1_some h
    refine zJ_callV2 (σ := σ) (L := ([(3462, m_horses), (3466, m_plans)], [(55, m_now)], [])) (mi := mX12_refusesRide) (yi := mX12_areBoth) (as := [.int p2, .int p3]) (st := []) (L2 := ([(3462, m_horses), (3466, m_plans)], [(55, m_now)], [])) dX12_refusesRide_12 ML_X12_279 Yv_X12_areBoth rfl zW_54 rfl rfl (t_X12_areBoth l _ hcl) (zsub_i (zle_c rfl (zle_c rfl zle_n)) zle_n zle_n) (zjok_i rfl rfl (zle_c rfl (zle_c rfl zle_n)) rfl rfl (zle_c rfl zle_n) rfl rfl zle_n) (Nat.le_of_ble_eq_true rfl) (Nat.le_of_ble_eq_true rfl) rfl rfl ?_
    refine zJ_if_ne (tgt := 20) dX12_refusesRide_15 (by decide) rfl (fun hc => ?_) (fun hc => ?_)
    · replace h := it_f hc h
      refine zJ_aload_n dX12_refusesRide_20 rfl rfl ?_
      refine zJ_getr (mi := mX12_refusesRide) dX12_refusesRide_21 F_X12_9 zW_54 rfl rfl ?_
      refine zJ_bipush dX12_refusesRide_24 zb_48 rfl ?_
      obtain ⟨hg, h⟩ := gd_some h
      refine zJ_iald (mi := mX12_refusesRide) (f := m_now) dX12_refusesRide_26 zW_55 (ix_in hg) rfl rfl ?_
      refine zJ_bipush dX12_refusesRide_27 zb_12 rfl ?_
      refine zJ_icmp_ne (tgt := 37) dX12_refusesRide_29 (by decide) rfl (fun hc => ?_) (fun hc => ?_)
      · replace h := it_f hc h
        refine zJ_iconst dX12_refusesRide_37 zc_0 rfl ?_
        obtain rfl := so1 h
        exact zJ_iret dX12_refusesRide_38 rfl rfl
      · replace h := it_t hc h
        refine zJ_bipush dX12_refusesRide_32 zb_m2 rfl ?_
        refine zJ_goto (tgt := 38) dX12_refusesRide_34 (by decide) ?_
        obtain rfl := so1 h
        exact zJ_iret dX12_refusesRide_38 rfl rfl
    · replace h := it_t hc h
      refine zJ_iconst dX12_refusesRide_18 zc_m1 rfl ?_
      obtain rfl := so1 h
      exact zJ_iret dX12_refusesRide_19 rfl rfl
set_option maxRecDepth 100000 in
set_option maxHeartbeats 4000000 in
theorem t_X12_isMost (l : Launch) (σ : zS) {p0 : Int32} {r : Int32} (h : f_X12_isMost p0 = some r) : zMt l zW 1 mX12_isMost σ ([], [], []) [.int p0] (some (.int r)) ([], [], []) := by
  refine zMt_of (ls := [(0, .int p0)]) (by decide) rfl (fun _ => Nat.le_of_ble_eq_true rfl) rfl ?_
  unfold f_X12_isMost at h
  refine zJ_iload_n dX12_isMost_0 rfl rfl ?_
  refine zJ_iconst dX12_isMost_1 zc_0 rfl ?_
  refine zJ_sipush dX12_isMost_2 zs_9999 rfl ?_
  obtain ⟨rn1, hcl, h⟩ := bd1_some h
  refine zJ_callS2 (σ := σ) (L := ([], [], [])) (mi := mX12_isMost) (yi := mX12_in) (as := [.int p0, .int (0 : Int32), .int (9999 : Int32)]) (st := []) (L2 := ([], [], [])) dX12_isMost_5 ML_X12_122 Ys_X12_in rfl (t_X12_in l _ hcl) (zsub_i zle_n zle_n zle_n) (zjok_i rfl rfl zle_n rfl rfl zle_n rfl rfl zle_n) (Nat.le_of_ble_eq_true rfl) (Nat.le_of_ble_eq_true rfl) rfl rfl ?_
  obtain ⟨hg, h⟩ := gd_some h
  obtain rfl := so1 h
  exact zJ_iret dX12_isMost_8 rfl (bit_n hg)
set_option maxRecDepth 100000 in
set_option maxHeartbeats 4000000 in
theorem t_X12_refusesTold (l : Launch) (σ : zS) {p1 : Int32} {p2 : Int32} {p3 : Int32} {p4 : Int32} {m_horses : Int32} {m_now : (Nat → Int32)} {r : Int32} (h : f_X12_refusesTold p1 p2 p3 p4 m_horses m_now = some r) : zMt l zW 2 mX12_refusesTold σ ([(3462, m_horses)], [(55, m_now)], []) [.ref 54, .int p1, .int p2, .int p3, .int p4] (some (.int r)) ([(3462, m_horses)], [(55, m_now)], []) := by
  refine zMt_of (ls := [(0, .ref 54), (1, .int p1), (2, .int p2), (3, .int p3), (4, .int p4)]) (by decide) rfl (fun _ => Nat.le_of_ble_eq_true rfl) rfl ?_
  unfold f_X12_refusesTold at h
  refine zJ_iload_n dX12_refusesTold_0 rfl rfl ?_
  refine zJ_iconst dX12_refusesTold_1 zc_0 rfl ?_
  refine zJ_iconst dX12_refusesTold_2 zc_5 rfl ?_
  obtain ⟨rn1, hcl, h⟩ := bd1_some h
  refine zJ_callS2 (σ := σ) (L := ([(3462, m_horses)], [(55, m_now)], [])) (mi := mX12_refusesTold) (yi := mX12_in) (as := [.int p1, .int (0 : Int32), .int (5 : Int32)]) (st := []) (L2 := ([(3462, m_horses)], [(55, m_now)], [])) dX12_refusesTold_3 ML_X12_122 Ys_X12_in rfl (t_X12_in l _ hcl) (zsub_i zle_n zle_n zle_n) (zjok_i rfl rfl (zle_c rfl zle_n) rfl rfl (zle_c rfl zle_n) rfl rfl zle_n) (Nat.le_of_ble_eq_true rfl) (Nat.le_of_ble_eq_true rfl) rfl rfl ?_
  refine zJ_if_eq (tgt := 35) dX12_refusesTold_6 (by decide) rfl (fun hc => ?_) (fun hc => ?_)
  · replace h := it_t hc h
    refine zJ_iconst dX12_refusesTold_35 zc_m1 rfl ?_
    obtain rfl := so1 h
    exact zJ_iret dX12_refusesTold_36 rfl rfl
  · replace h := it_f hc h
    refine zJ_aload_n dX12_refusesTold_9 rfl rfl ?_
    refine zJ_iload_n dX12_refusesTold_10 rfl rfl ?_
    obtain ⟨rn2, hcl, h⟩ := bd1_some h
    refine zJ_callV2 (σ := σ) (L := ([(3462, m_horses)], [(55, m_now)], [])) (mi := mX12_refusesTold) (yi := mX12_isHorse) (as := [.int p2]) (st := []) (L2 := ([(3462, m_horses)], [(55, m_now)], [])) dX12_refusesTold_11 ML_X12_132 Yv_X12_isHorse rfl zW_54 rfl rfl (t_X12_isHorse l _ hcl) (zsub_i (zle_c rfl zle_n) zle_n zle_n) (zjok_i rfl rfl (zle_c rfl zle_n) rfl rfl (zle_c rfl zle_n) rfl rfl zle_n) (Nat.le_of_ble_eq_true rfl) (Nat.le_of_ble_eq_true rfl) rfl rfl ?_
    refine zJ_if_eq (tgt := 35) dX12_refusesTold_14 (by decide) rfl (fun hc => ?_) (fun hc => ?_)
    · replace h := it_t hc h
      refine zJ_iconst dX12_refusesTold_35 zc_m1 rfl ?_
      obtain rfl := so1 h
      exact zJ_iret dX12_refusesTold_36 rfl rfl
    · replace h := it_f hc h
      refine zJ_iload_n dX12_refusesTold_17 rfl rfl ?_
      refine zJ_iconst dX12_refusesTold_18 zc_0 rfl ?_
      refine zJ_bipush dX12_refusesTold_19 zb_99 rfl ?_
      obtain ⟨rn3, hcl, h⟩ := bd1_some h
      refine zJ_callS2 (σ := σ) (L := ([(3462, m_horses)], [(55, m_now)], [])) (mi := mX12_refusesTold) (yi := mX12_in) (as := [.int p3, .int (0 : Int32), .int (99 : Int32)]) (st := []) (L2 := ([(3462, m_horses)], [(55, m_now)], [])) dX12_refusesTold_21 ML_X12_122 Ys_X12_in rfl (t_X12_in l _ hcl) (zsub_i zle_n zle_n zle_n) (zjok_i rfl rfl (zle_c rfl zle_n) rfl rfl (zle_c rfl zle_n) rfl rfl zle_n) (Nat.le_of_ble_eq_true rfl) (Nat.le_of_ble_eq_true rfl) rfl rfl ?_
      refine zJ_if_eq (tgt := 35) dX12_refusesTold_24 (by decide) rfl (fun hc => ?_) (fun hc => ?_)
      · replace h := it_t hc h
        refine zJ_iconst dX12_refusesTold_35 zc_m1 rfl ?_
        obtain rfl := so1 h
        exact zJ_iret dX12_refusesTold_36 rfl rfl
      · replace h := it_f hc h
        refine zJ_iload dX12_refusesTold_27 rfl rfl ?_
        obtain ⟨rn4, hcl, h⟩ := bd1_some h
        refine zJ_callS2 (σ := σ) (L := ([(3462, m_horses)], [(55, m_now)], [])) (mi := mX12_refusesTold) (yi := mX12_isMost) (as := [.int p4]) (st := []) (L2 := ([(3462, m_horses)], [(55, m_now)], [])) dX12_refusesTold_29 ML_X12_256 Ys_X12_isMost rfl (t_X12_isMost l _ hcl) (zsub_i zle_n zle_n zle_n) (zjok_i rfl rfl (zle_c rfl zle_n) rfl rfl (zle_c rfl zle_n) rfl rfl zle_n) (Nat.le_of_ble_eq_true rfl) (Nat.le_of_ble_eq_true rfl) rfl rfl ?_
        refine zJ_if_ne (tgt := 37) dX12_refusesTold_32 (by decide) rfl (fun hc => ?_) (fun hc => ?_)
        · replace h := it_f hc h
          refine zJ_aload_n dX12_refusesTold_37 rfl rfl ?_
          refine zJ_getr (mi := mX12_refusesTold) dX12_refusesTold_38 F_X12_9 zW_54 rfl rfl ?_
          refine zJ_bipush dX12_refusesTold_41 zb_48 rfl ?_
          obtain ⟨hg, h⟩ := gd_some h
          refine zJ_iald (mi := mX12_refusesTold) (f := m_now) dX12_refusesTold_43 zW_55 (ix_in hg) rfl rfl ?_
          refine zJ_bipush dX12_refusesTold_44 zb_12 rfl ?_
          refine zJ_icmp_ne (tgt := 54) dX12_refusesTold_46 (by decide) rfl (fun hc => ?_) (fun hc => ?_)
          · replace h := it_f hc h
            refine zJ_iconst dX12_refusesTold_54 zc_0 rfl ?_
            obtain rfl := so1 h
            exact zJ_iret dX12_refusesTold_55 rfl rfl
          · replace h := it_t hc h
            refine zJ_bipush dX12_refusesTold_49 zb_m2 rfl ?_
            refine zJ_goto (tgt := 55) dX12_refusesTold_51 (by decide) ?_
            obtain rfl := so1 h
            exact zJ_iret dX12_refusesTold_55 rfl rfl
        · replace h := it_t hc h
          refine zJ_iconst dX12_refusesTold_35 zc_m1 rfl ?_
          obtain rfl := so1 h
          exact zJ_iret dX12_refusesTold_36 rfl rfl
set_option maxRecDepth 100000 in
set_option maxHeartbeats 4000000 in
theorem t_X12_act (l : Launch) (σ : zS) {p1 : Int32} {m_fences : Int32} {m_allowed : Int32} {m_horses : Int32} {m_plans : Int32} {m_read : Int32} {m_length : Int32} {m_top : Int32} {m_at : Int32} {m_wrong : Int32} {m_ruleSize : Int32} {m_isAsked : Int32} {m_askedHorse : Int32} {m_askedFence : Int32} {m_askedLetter : Int32} {m_askedHeight : Int32} {m_rodeTenths : Int32} {m_refused : Int32} {m_down : Int32} {m_drawn : Int32} {m_now : (Nat → Int32)} {m_kind : (Nat → Int32)} {m_height : (Nat → Int32)} {m_feet : (Nat → Int32)} {m_stride : (Nat → Int32)} {m_scope : (Nat → Int32)} {m_care : (Nat → Int32)} {m_plan : (Nat → Int32)} {m_rule : (Nat → Int32)} {m_acts : (Nat → Int32)} {r : Int32} {w_m_read : Int32} {w_m_length : Int32} {w_m_top : Int32} {w_m_at : Int32} {w_m_wrong : Int32} {w_m_isAsked : Int32} {w_m_askedHorse : Int32} {w_m_askedFence : Int32} {w_m_askedLetter : Int32} {w_m_askedHeight : Int32} {w_m_rodeTenths : Int32} {w_m_refused : Int32} {w_m_down : Int32} {w_m_drawn : Int32} {w_m_now : (Nat → Int32)} (h : f_X12_act p1 m_fences m_allowed m_horses m_plans m_read m_length m_top m_at m_wrong m_ruleSize m_isAsked m_askedHorse m_askedFence m_askedLetter m_askedHeight m_rodeTenths m_refused m_down m_drawn m_now m_kind m_height m_feet m_stride m_scope m_care m_plan m_rule m_acts = some (r, w_m_read, w_m_length, w_m_top, w_m_at, w_m_wrong, w_m_isAsked, w_m_askedHorse, w_m_askedFence, w_m_askedLetter, w_m_askedHeight, w_m_rodeTenths, w_m_refused, w_m_down, w_m_drawn, w_m_now)) : zMt l zW 208 mX12_act σ ([(3457, m_fences), (3461, m_allowed), (3462, m_horses), (3466, m_plans), (3474, m_read), (3475, m_length), (3476, m_top), (3477, m_at), (3478, m_wrong), (3483, m_ruleSize), (3484, m_isAsked), (3485, m_askedHorse), (3486, m_askedFence), (3487, m_askedLetter), (3488, m_askedHeight), (3496, m_rodeTenths), (3497, m_refused), (3498, m_down), (3499, m_drawn)], [(55, m_now), (56, m_kind), (57, m_height), (58, m_feet), (59, m_stride), (60, m_scope), (61, m_care), (62, m_plan), (69, m_rule), (76, m_acts)], []) [.ref 54, .int p1] (some (.int r)) ([(3457, m_fences), (3461, m_allowed), (3462, m_horses), (3466, m_plans), (3474, w_m_read), (3475, w_m_length), (3476, w_m_top), (3477, w_m_at), (3478, w_m_wrong), (3483, m_ruleSize), (3484, w_m_isAsked), (3485, w_m_askedHorse), (3486, w_m_askedFence), (3487, w_m_askedLetter), (3488, w_m_askedHeight), (3496, w_m_rodeTenths), (3497, w_m_refused), (3498, w_m_down), (3499, w_m_drawn)], [(55, w_m_now), (56, m_kind), (57, m_height), (58, m_feet), (59, m_stride), (60, m_scope), (61, m_care), (62, m_plan), (69, m_rule), (76, m_acts)], []) := by
  refine zMt_of (ls := [(0, .ref 54), (1, .int p1)]) (by decide) rfl (fun _ => Nat.le_of_ble_eq_true rfl) rfl ?_
  unfold f_X12_act at h
  refine zJ_aload_n dX12_act_0 rfl rfl ?_
  refine zJ_getr (mi := mX12_act) dX12_act_1 F_X12_79 zW_54 rfl rfl ?_
  refine zJ_iload_n dX12_act_4 rfl rfl ?_
  refine zJ_iconst dX12_act_5 zc_1 rfl ?_
  refine zJ_iadd dX12_act_6 rfl ?_
  obtain ⟨hg, h⟩ := gd_some h
  refine zJ_iald (mi := mX12_act) (f := m_acts) dX12_act_7 zW_76 (ix_in hg) rfl rfl ?_
  obtain ⟨v2n1, ev2n1, h⟩ := lt1_some h
  refine zJ_nmi ev2n1 ?_
  refine zJ_istore_n (ls' := [(2, .int v2n1), (0, .ref 54), (1, .int p1)]) dX12_act_8 rfl rfl rfl ?_
  refine zJ_aload_n dX12_act_9 rfl rfl ?_
  refine zJ_getr (mi := mX12_act) dX12_act_10 F_X12_79 zW_54 rfl rfl ?_
  refine zJ_iload_n dX12_act_13 rfl rfl ?_
  refine zJ_iconst dX12_act_14 zc_2 rfl ?_
  refine zJ_iadd dX12_act_15 rfl ?_
  obtain ⟨hg, h⟩ := gd_some h
  refine zJ_iald (mi := mX12_act) (f := m_acts) dX12_act_16 zW_76 (ix_in hg) rfl rfl ?_
  obtain ⟨v3n2, ev3n2, h⟩ := lt1_some h
  refine zJ_nmi ev3n2 ?_
  refine zJ_istore_n (ls' := [(3, .int v3n2), (2, .int v2n1), (0, .ref 54), (1, .int p1)]) dX12_act_17 rfl rfl rfl ?_
  refine zJ_aload_n dX12_act_18 rfl rfl ?_
  refine zJ_getr (mi := mX12_act) dX12_act_19 F_X12_79 zW_54 rfl rfl ?_
  refine zJ_iload_n dX12_act_22 rfl rfl ?_
  refine zJ_iconst dX12_act_23 zc_3 rfl ?_
  refine zJ_iadd dX12_act_24 rfl ?_
  obtain ⟨hg, h⟩ := gd_some h
  refine zJ_iald (mi := mX12_act) (f := m_acts) dX12_act_25 zW_76 (ix_in hg) rfl rfl ?_
  obtain ⟨v4n3, ev4n3, h⟩ := lt1_some h
  refine zJ_nmi ev4n3 ?_
  refine zJ_istore (ls' := [(4, .int v4n3), (3, .int v3n2), (2, .int v2n1), (0, .ref 54), (1, .int p1)]) dX12_act_26 rfl rfl rfl ?_
  refine zJ_aload_n dX12_act_28 rfl rfl ?_
  refine zJ_getr (mi := mX12_act) dX12_act_29 F_X12_79 zW_54 rfl rfl ?_
  refine zJ_iload_n dX12_act_32 rfl rfl ?_
  refine zJ_iconst dX12_act_33 zc_4 rfl ?_
  refine zJ_iadd dX12_act_34 rfl ?_
  obtain ⟨hg, h⟩ := gd_some h
  refine zJ_iald (mi := mX12_act) (f := m_acts) dX12_act_35 zW_76 (ix_in hg) rfl rfl ?_
  obtain ⟨v5n4, ev5n4, h⟩ := lt1_some h
  refine zJ_nmi ev5n4 ?_
  refine zJ_istore (ls' := [(5, .int v5n4), (4, .int v4n3), (3, .int v3n2), (2, .int v2n1), (0, .ref 54), (1, .int p1)]) dX12_act_36 rfl rfl rfl ?_
  refine zJ_aload_n dX12_act_38 rfl rfl ?_
  refine zJ_getr (mi := mX12_act) dX12_act_39 F_X12_79 zW_54 rfl rfl ?_
  refine zJ_iload_n dX12_act_42 rfl rfl ?_
  obtain ⟨hg, h⟩ := gd_some h
  refine zJ_iald (mi := mX12_act) (f := m_acts) dX12_act_43 zW_76 (ix_in hg) rfl rfl ?_
  by_cases hc0 : (m_acts p1.toNatClampNeg) = (114 : Int32)
  · replace h := it_t hc0 h
    refine zJ_lsw (tgt := 72) (off := 28) dX12_act_44 (by decide) (by rw [hc0]; decide) (by decide) ?_
    refine zJ_aload_n dX12_act_72 rfl rfl ?_
    refine zJ_iload_n dX12_act_73 rfl rfl ?_
    refine zJ_iload_n dX12_act_74 rfl rfl ?_
    refine zJ_iload dX12_act_75 rfl rfl ?_
    obtain ⟨rn5, hcl, h⟩ := bd1_some h
    refine zJ_callV2 (σ := σ) (L := ([(3457, m_fences), (3461, m_allowed), (3462, m_horses), (3466, m_plans), (3474, m_read), (3475, m_length), (3476, m_top), (3477, m_at), (3478, m_wrong), (3483, m_ruleSize), (3484, m_isAsked), (3485, m_askedHorse), (3486, m_askedFence), (3487, m_askedLetter), (3488, m_askedHeight), (3496, m_rodeTenths), (3497, m_refused), (3498, m_down), (3499, m_drawn)], [(55, m_now), (56, m_kind), (57, m_height), (58, m_feet), (59, m_stride), (60, m_scope), (61, m_care), (62, m_plan), (69, m_rule), (76, m_acts)], [])) (mi := mX12_act) (yi := mX12_refusesRide) (as := [.int v2n1, .int v3n2, .int v4n3]) (st := []) (L2 := ([(3457, m_fences), (3461, m_allowed), (3462, m_horses), (3466, m_plans), (3474, m_read), (3475, m_length), (3476, m_top), (3477, m_at), (3478, m_wrong), (3483, m_ruleSize), (3484, m_isAsked), (3485, m_askedHorse), (3486, m_askedFence), (3487, m_askedLetter), (3488, m_askedHeight), (3496, m_rodeTenths), (3497, m_refused), (3498, m_down), (3499, m_drawn)], [(55, m_now), (56, m_kind), (57, m_height), (58, m_feet), (59, m_stride), (60, m_scope), (61, m_care), (62, m_plan), (69, m_rule), (76, m_acts)], [])) dX12_act_77 ML_X12_328 Yv_X12_refusesRide rfl zW_54 rfl rfl (t_X12_refusesRide l _ hcl) (zsub_i (zle_c rfl (zle_c rfl zle_n)) (zle_c rfl zle_n) zle_n) (zjok_i rfl rfl (zle_c rfl (zle_c rfl (zle_c rfl (zle_c rfl (zle_c rfl (zle_c rfl (zle_c rfl (zle_c rfl (zle_c rfl (zle_c rfl (zle_c rfl (zle_c rfl (zle_c rfl (zle_c rfl (zle_c rfl (zle_c rfl (zle_c rfl (zle_c rfl (zle_c rfl zle_n))))))))))))))))))) rfl rfl (zle_c rfl (zle_c rfl (zle_c rfl (zle_c rfl (zle_c rfl (zle_c rfl (zle_c rfl (zle_c rfl (zle_c rfl (zle_c rfl zle_n)))))))))) rfl rfl zle_n) (Nat.le_of_ble_eq_true rfl) (Nat.le_of_ble_eq_true rfl) rfl rfl ?_
    refine zJ_if_ge (tgt := 85) dX12_act_80 (by decide) rfl (fun hc => ?_) (fun hc => ?_)
    · replace h := it_t hc h
      refine zJ_aload_n dX12_act_85 rfl rfl ?_
      refine zJ_iload_n dX12_act_86 rfl rfl ?_
      refine zJ_iload dX12_act_87 rfl rfl ?_
      refine zJ_iload dX12_act_89 rfl rfl ?_
      obtain ⟨rn6, m_readn7, m_lengthn8, m_topn9, m_atn10, m_wrongn11, m_isAskedn12, m_askedHorsen13, m_askedFencen14, m_askedLettern15, m_askedHeightn16, m_rodeTenthsn17, m_refusedn18, m_downn19, m_drawnn20, hcl, h⟩ := bd15_some h
      refine zJ_callV2 (σ := σ) (L := ([(3457, m_fences), (3461, m_allowed), (3462, m_horses), (3466, m_plans), (3474, m_read), (3475, m_length), (3476, m_top), (3477, m_at), (3478, m_wrong), (3483, m_ruleSize), (3484, m_isAsked), (3485, m_askedHorse), (3486, m_askedFence), (3487, m_askedLetter), (3488, m_askedHeight), (3496, m_rodeTenths), (3497, m_refused), (3498, m_down), (3499, m_drawn)], [(55, m_now), (56, m_kind), (57, m_height), (58, m_feet), (59, m_stride), (60, m_scope), (61, m_care), (62, m_plan), (69, m_rule), (76, m_acts)], [])) (mi := mX12_act) (yi := mX12_goRound) (as := [.int v3n2, .int v4n3, .int v5n4]) (st := []) (L2 := ([(3457, m_fences), (3461, m_allowed), (3462, m_horses), (3466, m_plans), (3474, m_readn7), (3475, m_lengthn8), (3476, m_topn9), (3477, m_atn10), (3478, m_wrongn11), (3483, m_ruleSize), (3484, m_isAskedn12), (3485, m_askedHorsen13), (3486, m_askedFencen14), (3487, m_askedLettern15), (3488, m_askedHeightn16), (3496, m_rodeTenthsn17), (3497, m_refusedn18), (3498, m_downn19), (3499, m_drawnn20)], [(55, m_now), (56, m_kind), (57, m_height), (58, m_feet), (59, m_stride), (60, m_scope), (61, m_care), (62, m_plan), (69, m_rule), (76, m_acts)], [])) dX12_act_91 ML_X12_335 Yv_X12_goRound rfl zW_54 rfl rfl (t_X12_goRound l _ hcl) (zsub_i (zle_c rfl (zle_c rfl (zle_c rfl (zle_c rfl (zle_c rfl (zle_c rfl (zle_c rfl (zle_c rfl (zle_c rfl (zle_c rfl (zle_c rfl (zle_c rfl (zle_c rfl (zle_c rfl (zle_c rfl (zle_c rfl (zle_c rfl zle_n))))))))))))))))) (zle_c rfl (zle_c rfl (zle_c rfl (zle_c rfl (zle_c rfl (zle_c rfl (zle_c rfl (zle_c rfl zle_n)))))))) zle_n) (zjok_i rfl rfl (zle_c rfl (zle_c rfl (zle_c rfl (zle_c rfl (zle_c rfl (zle_c rfl (zle_c rfl (zle_c rfl (zle_c rfl (zle_c rfl (zle_c rfl (zle_c rfl (zle_c rfl (zle_c rfl (zle_c rfl (zle_c rfl (zle_c rfl (zle_c rfl (zle_c rfl zle_n))))))))))))))))))) rfl rfl (zle_c rfl (zle_c rfl (zle_c rfl (zle_c rfl (zle_c rfl (zle_c rfl (zle_c rfl (zle_c rfl (zle_c rfl (zle_c rfl zle_n)))))))))) rfl rfl zle_n) (Nat.le_of_ble_eq_true rfl) (Nat.le_of_ble_eq_true rfl) rfl rfl ?_
      refine zJ_istore (ls' := [(6, .int rn6), (5, .int v5n4), (4, .int v4n3), (3, .int v3n2), (2, .int v2n1), (0, .ref 54), (1, .int p1)]) dX12_act_94 rfl rfl rfl ?_
      refine zJ_aload_n dX12_act_96 rfl rfl ?_
      refine zJ_getr (mi := mX12_act) dX12_act_97 F_X12_9 zW_54 rfl rfl ?_
      refine zJ_iload_n dX12_act_100 rfl rfl ?_
      refine zJ_iload_n dX12_act_101 rfl rfl ?_
      refine zJ_iload dX12_act_102 rfl rfl ?_
      refine zJ_aload_n dX12_act_104 rfl rfl ?_
      refine zJ_geti (mi := mX12_act) (x := m_rodeTenthsn17) dX12_act_105 F_X12_313 zW_54 rfl rfl rfl ?_
      obtain ⟨m_nown21, hcl, h⟩ := bd1_some h
      refine zJ_callS2 (σ := σ) (L := ([(3457, m_fences), (3461, m_allowed), (3462, m_horses), (3466, m_plans), (3474, m_readn7), (3475, m_lengthn8), (3476, m_topn9), (3477, m_atn10), (3478, m_wrongn11), (3483, m_ruleSize), (3484, m_isAskedn12), (3485, m_askedHorsen13), (3486, m_askedFencen14), (3487, m_askedLettern15), (3488, m_askedHeightn16), (3496, m_rodeTenthsn17), (3497, m_refusedn18), (3498, m_downn19), (3499, m_drawnn20)], [(55, m_now), (56, m_kind), (57, m_height), (58, m_feet), (59, m_stride), (60, m_scope), (61, m_care), (62, m_plan), (69, m_rule), (76, m_acts)], [])) (mi := mX12_act) (yi := mX12_add) (as := [.ref 55, .int v2n1, .int v3n2, .int rn6, .int m_rodeTenthsn17]) (st := []) (L2 := ([(3457, m_fences), (3461, m_allowed), (3462, m_horses), (3466, m_plans), (3474, m_readn7), (3475, m_lengthn8), (3476, m_topn9), (3477, m_atn10), (3478, m_wrongn11), (3483, m_ruleSize), (3484, m_isAskedn12), (3485, m_askedHorsen13), (3486, m_askedFencen14), (3487, m_askedLettern15), (3488, m_askedHeightn16), (3496, m_rodeTenthsn17), (3497, m_refusedn18), (3498, m_downn19), (3499, m_drawnn20)], [(55, m_nown21), (56, m_kind), (57, m_height), (58, m_feet), (59, m_stride), (60, m_scope), (61, m_care), (62, m_plan), (69, m_rule), (76, m_acts)], [])) dX12_act_108 ML_X12_338 Ys_X12_add rfl (t_X12_add_m_now l _ hcl) (zsub_i zle_n (zle_c rfl zle_n) zle_n) (zjok_i rfl rfl (zle_c rfl (zle_c rfl (zle_c rfl (zle_c rfl (zle_c rfl (zle_c rfl (zle_c rfl (zle_c rfl (zle_c rfl (zle_c rfl (zle_c rfl (zle_c rfl (zle_c rfl (zle_c rfl (zle_c rfl (zle_c rfl (zle_c rfl (zle_c rfl (zle_c rfl zle_n))))))))))))))))))) rfl rfl (zle_c rfl (zle_c rfl (zle_c rfl (zle_c rfl (zle_c rfl (zle_c rfl (zle_c rfl (zle_c rfl (zle_c rfl (zle_c rfl zle_n)))))))))) rfl rfl zle_n) (Nat.le_of_ble_eq_true rfl) (Nat.le_of_ble_eq_true rfl) rfl rfl ?_
      refine zJ_iconst dX12_act_111 zc_1 rfl ?_
      obtain ⟨rfl, rfl, rfl, rfl, rfl, rfl, rfl, rfl, rfl, rfl, rfl, rfl, rfl, rfl, rfl, rfl⟩ := so16 h
      exact zJ_iret dX12_act_112 rfl (by decide)
    · replace h := it_f hc h
      refine zJ_iconst dX12_act_83 zc_0 rfl ?_
      obtain ⟨rfl, rfl, rfl, rfl, rfl, rfl, rfl, rfl, rfl, rfl, rfl, rfl, rfl, rfl, rfl, rfl⟩ := so16 h
      exact zJ_iret dX12_act_84 rfl (by decide)
  replace h := it_f hc0 h
  by_cases hc1 : (m_acts p1.toNatClampNeg) = (116 : Int32)
  · replace h := it_t hc1 h
    refine zJ_lsw (tgt := 113) (off := 69) dX12_act_44 (by decide) (by rw [hc1]; decide) (by decide) ?_
    refine zJ_aload_n dX12_act_113 rfl rfl ?_
    refine zJ_iload_n dX12_act_114 rfl rfl ?_
    refine zJ_iload_n dX12_act_115 rfl rfl ?_
    refine zJ_iload dX12_act_116 rfl rfl ?_
    refine zJ_iload dX12_act_118 rfl rfl ?_
    obtain ⟨rn22, hcl, h⟩ := bd1_some h
    refine zJ_callV2 (σ := σ) (L := ([(3457, m_fences), (3461, m_allowed), (3462, m_horses), (3466, m_plans), (3474, m_read), (3475, m_length), (3476, m_top), (3477, m_at), (3478, m_wrong), (3483, m_ruleSize), (3484, m_isAsked), (3485, m_askedHorse), (3486, m_askedFence), (3487, m_askedLetter), (3488, m_askedHeight), (3496, m_rodeTenths), (3497, m_refused), (3498, m_down), (3499, m_drawn)], [(55, m_now), (56, m_kind), (57, m_height), (58, m_feet), (59, m_stride), (60, m_scope), (61, m_care), (62, m_plan), (69, m_rule), (76, m_acts)], [])) (mi := mX12_act) (yi := mX12_refusesTold) (as := [.int v2n1, .int v3n2, .int v4n3, .int v5n4]) (st := []) (L2 := ([(3457, m_fences), (3461, m_allowed), (3462, m_horses), (3466, m_plans), (3474, m_read), (3475, m_length), (3476, m_top), (3477, m_at), (3478, m_wrong), (3483, m_ruleSize), (3484, m_isAsked), (3485, m_askedHorse), (3486, m_askedFence), (3487, m_askedLetter), (3488, m_askedHeight), (3496, m_rodeTenths), (3497, m_refused), (3498, m_down), (3499, m_drawn)], [(55, m_now), (56, m_kind), (57, m_height), (58, m_feet), (59, m_stride), (60, m_scope), (61, m_care), (62, m_plan), (69, m_rule), (76, m_acts)], [])) dX12_act_120 ML_X12_345 Yv_X12_refusesTold rfl zW_54 rfl rfl (t_X12_refusesTold l _ hcl) (zsub_i (zle_c rfl zle_n) (zle_c rfl zle_n) zle_n) (zjok_i rfl rfl (zle_c rfl (zle_c rfl (zle_c rfl (zle_c rfl (zle_c rfl (zle_c rfl (zle_c rfl (zle_c rfl (zle_c rfl (zle_c rfl (zle_c rfl (zle_c rfl (zle_c rfl (zle_c rfl (zle_c rfl (zle_c rfl (zle_c rfl (zle_c rfl (zle_c rfl zle_n))))))))))))))))))) rfl rfl (zle_c rfl (zle_c rfl (zle_c rfl (zle_c rfl (zle_c rfl (zle_c rfl (zle_c rfl (zle_c rfl (zle_c rfl (zle_c rfl zle_n)))))))))) rfl rfl zle_n) (Nat.le_of_ble_eq_true rfl) (Nat.le_of_ble_eq_true rfl) rfl rfl ?_
    refine zJ_if_ge (tgt := 128) dX12_act_123 (by decide) rfl (fun hc => ?_) (fun hc => ?_)
    · replace h := it_t hc h
      refine zJ_aload_n dX12_act_128 rfl rfl ?_
      refine zJ_getr (mi := mX12_act) dX12_act_129 F_X12_9 zW_54 rfl rfl ?_
      refine zJ_iload_n dX12_act_132 rfl rfl ?_
      refine zJ_iload_n dX12_act_133 rfl rfl ?_
      refine zJ_iload dX12_act_134 rfl rfl ?_
      refine zJ_iload dX12_act_136 rfl rfl ?_
      obtain ⟨m_nown23, hcl, h⟩ := bd1_some h
      refine zJ_callS2 (σ := σ) (L := ([(3457, m_fences), (3461, m_allowed), (3462, m_horses), (3466, m_plans), (3474, m_read), (3475, m_length), (3476, m_top), (3477, m_at), (3478, m_wrong), (3483, m_ruleSize), (3484, m_isAsked), (3485, m_askedHorse), (3486, m_askedFence), (3487, m_askedLetter), (3488, m_askedHeight), (3496, m_rodeTenths), (3497, m_refused), (3498, m_down), (3499, m_drawn)], [(55, m_now), (56, m_kind), (57, m_height), (58, m_feet), (59, m_stride), (60, m_scope), (61, m_care), (62, m_plan), (69, m_rule), (76, m_acts)], [])) (mi := mX12_act) (yi := mX12_add) (as := [.ref 55, .int v2n1, .int v3n2, .int v4n3, .int v5n4]) (st := []) (L2 := ([(3457, m_fences), (3461, m_allowed), (3462, m_horses), (3466, m_plans), (3474, m_read), (3475, m_length), (3476, m_top), (3477, m_at), (3478, m_wrong), (3483, m_ruleSize), (3484, m_isAsked), (3485, m_askedHorse), (3486, m_askedFence), (3487, m_askedLetter), (3488, m_askedHeight), (3496, m_rodeTenths), (3497, m_refused), (3498, m_down), (3499, m_drawn)], [(55, m_nown23), (56, m_kind), (57, m_height), (58, m_feet), (59, m_stride), (60, m_scope), (61, m_care), (62, m_plan), (69, m_rule), (76, m_acts)], [])) dX12_act_138 ML_X12_338 Ys_X12_add rfl (t_X12_add_m_now l _ hcl) (zsub_i zle_n (zle_c rfl zle_n) zle_n) (zjok_i rfl rfl (zle_c rfl (zle_c rfl (zle_c rfl (zle_c rfl (zle_c rfl (zle_c rfl (zle_c rfl (zle_c rfl (zle_c rfl (zle_c rfl (zle_c rfl (zle_c rfl (zle_c rfl (zle_c rfl (zle_c rfl (zle_c rfl (zle_c rfl (zle_c rfl (zle_c rfl zle_n))))))))))))))))))) rfl rfl (zle_c rfl (zle_c rfl (zle_c rfl (zle_c rfl (zle_c rfl (zle_c rfl (zle_c rfl (zle_c rfl (zle_c rfl (zle_c rfl zle_n)))))))))) rfl rfl zle_n) (Nat.le_of_ble_eq_true rfl) (Nat.le_of_ble_eq_true rfl) rfl rfl ?_
      refine zJ_iconst dX12_act_141 zc_1 rfl ?_
      obtain ⟨rfl, rfl, rfl, rfl, rfl, rfl, rfl, rfl, rfl, rfl, rfl, rfl, rfl, rfl, rfl, rfl⟩ := so16 h
      exact zJ_iret dX12_act_142 rfl (by decide)
    · replace h := it_f hc h
      refine zJ_iconst dX12_act_126 zc_0 rfl ?_
      obtain ⟨rfl, rfl, rfl, rfl, rfl, rfl, rfl, rfl, rfl, rfl, rfl, rfl, rfl, rfl, rfl, rfl⟩ := so16 h
      exact zJ_iret dX12_act_127 rfl (by decide)
  replace h := it_f hc1 h
  have hq0 := z_ne (n := 114) hc0 (by decide)
  have hq1 := z_ne (n := 116) hc1 (by decide)
  refine zJ_lsw (tgt := 143) (off := 99) dX12_act_44 (by decide) (by simp [Op.lookupswitch.offset, hq0, Ne.symm hq0, hq1, Ne.symm hq1]) (by decide) ?_
  refine zJ_aload_n dX12_act_143 rfl rfl ?_
  refine zJ_getr (mi := mX12_act) dX12_act_144 F_X12_9 zW_54 rfl rfl ?_
  refine zJ_bipush dX12_act_147 zb_48 rfl ?_
  obtain ⟨hg, h⟩ := gd_some h
  refine zJ_iald (mi := mX12_act) (f := m_now) dX12_act_149 zW_55 (ix_in hg) rfl rfl ?_
  refine zJ_if_ne (tgt := 155) dX12_act_150 (by decide) rfl (fun hc => ?_) (fun hc => ?_)
  · replace h := it_f hc h
    refine zJ_aload_n dX12_act_155 rfl rfl ?_
    refine zJ_getr (mi := mX12_act) dX12_act_156 F_X12_9 zW_54 rfl rfl ?_
    refine zJ_bipush dX12_act_159 zb_48 rfl ?_
    refine zJ_dup2 dX12_act_161 rfl rfl rfl ?_
    obtain ⟨hg, h⟩ := gd_some h
    refine zJ_iald (mi := mX12_act) (f := m_now) dX12_act_162 zW_55 (ix_in hg) rfl rfl ?_
    refine zJ_iconst dX12_act_163 zc_1 rfl ?_
    refine zJ_isub dX12_act_164 rfl ?_
    obtain ⟨hg, h⟩ := gd_some h
    refine zK_iast (mi := mX12_act) (f := m_now) (lb' := [(55, (upd m_now (48 : Int32).toNatClampNeg ((m_now (48 : Int32).toNatClampNeg) - (1 : Int32)))), (56, m_kind), (57, m_height), (58, m_feet), (59, m_stride), (60, m_scope), (61, m_care), (62, m_plan), (69, m_rule), (76, m_acts)]) dX12_act_165 zW_55 (ix_in hg) rfl rfl rfl ?_
    refine zJ_iconst dX12_act_166 zc_1 rfl ?_
    obtain ⟨rfl, rfl, rfl, rfl, rfl, rfl, rfl, rfl, rfl, rfl, rfl, rfl, rfl, rfl, rfl, rfl⟩ := so16 h
    exact zJ_iret dX12_act_167 rfl (by decide)
  · replace h := it_t hc h
    refine zJ_iconst dX12_act_153 zc_0 rfl ?_
    obtain ⟨rfl, rfl, rfl, rfl, rfl, rfl, rfl, rfl, rfl, rfl, rfl, rfl, rfl, rfl, rfl, rfl⟩ := so16 h
    exact zJ_iret dX12_act_154 rfl (by decide)
set_option maxRecDepth 100000 in
set_option maxHeartbeats 4000000 in
theorem t_X12_again (l : Launch) (σ : zS) {p1 : Int32} {m_thrown : Int32} {m_undoMany : Int32} {m_now : (Nat → Int32)} {m_kept : (Nat → Int32)} {m_isKept : (Nat → Int32)} {r : Int32} {w_m_thrown : Int32} {w_m_undoMany : Int32} {w_m_now : (Nat → Int32)} (h : f_X12_again p1 m_thrown m_undoMany m_now m_kept m_isKept = some (r, w_m_thrown, w_m_undoMany, w_m_now)) : zMt l zW 1 mX12_again σ ([(3473, m_thrown), (3494, m_undoMany)], [(55, m_now), (85, m_kept), (86, m_isKept)], []) [.ref 54, .int p1] (some (.int r)) ([(3473, w_m_thrown), (3494, w_m_undoMany)], [(55, w_m_now), (85, m_kept), (86, m_isKept)], []) := by
  refine zMt_of (ls := [(0, .ref 54), (1, .int p1)]) (by decide) rfl (fun _ => Nat.le_of_ble_eq_true rfl) rfl ?_
  unfold f_X12_again at h
  refine zJ_aload_n dX12_again_0 rfl rfl ?_
  refine zJ_iconst dX12_again_1 zc_0 rfl ?_
  refine zK_puti (mi := mX12_again) (la' := [(3473, (0 : Int32)), (3494, m_undoMany)]) zW_ok dX12_again_2 F_X12_113 P_12_17 zW_54 rfl rfl rfl ?_
  refine zJ_iload_n dX12_again_5 rfl rfl ?_
  refine zJ_iconst dX12_again_6 zc_0 rfl ?_
  refine zJ_iconst dX12_again_7 zc_1 rfl ?_
  obtain ⟨rn1, hcl, h⟩ := bd1_some h
  refine zJ_callS2 (σ := σ) (L := ([(3473, (0 : Int32)), (3494, m_undoMany)], [(55, m_now), (85, m_kept), (86, m_isKept)], [])) (mi := mX12_again) (yi := mX12_in) (as := [.int p1, .int (0 : Int32), .int (1 : Int32)]) (st := []) (L2 := ([(3473, (0 : Int32)), (3494, m_undoMany)], [(55, m_now), (85, m_kept), (86, m_isKept)], [])) dX12_again_8 ML_X12_122 Ys_X12_in rfl (t_X12_in l _ hcl) (zsub_i zle_n zle_n zle_n) (zjok_i rfl rfl (zle_c rfl (zle_c rfl zle_n)) rfl rfl (zle_c rfl (zle_c rfl (zle_c rfl zle_n))) rfl rfl zle_n) (Nat.le_of_ble_eq_true rfl) (Nat.le_of_ble_eq_true rfl) rfl rfl ?_
  refine zJ_if_eq (tgt := 23) dX12_again_11 (by decide) rfl (fun hc => ?_) (fun hc => ?_)
  · replace h := it_t hc h
    refine zJ_iconst dX12_again_23 zc_0 rfl ?_
    obtain ⟨rfl, rfl, rfl, rfl⟩ := so4 h
    exact zJ_iret dX12_again_24 rfl (by decide)
  · replace h := it_f hc h
    refine zJ_aload_n dX12_again_14 rfl rfl ?_
    refine zJ_getr (mi := mX12_again) dX12_again_15 F_X12_109 zW_54 rfl rfl ?_
    refine zJ_iload_n dX12_again_18 rfl rfl ?_
    obtain ⟨hg, h⟩ := gd_some h
    refine zJ_zald (mi := mX12_again) (f := m_isKept) dX12_again_19 zW_86 (ix_in hg) rfl rfl ?_
    refine zJ_if_ne (tgt := 25) dX12_again_20 (by decide) rfl (fun hc => ?_) (fun hc => ?_)
    · replace h := it_f hc h
      refine zJ_iconst dX12_again_25 zc_0 rfl ?_
      refine zJ_istore_n (ls' := [(2, .int (0 : Int32)), (0, .ref 54), (1, .int p1)]) dX12_again_26 rfl rfl rfl ?_
      have hk27 : ∀ (m_now_27x : (Nat → Int32)), k_X12_again_27  m_now_27x = some (r, w_m_thrown, w_m_undoMany, w_m_now) → zJ l zW 1 mX12_again σ ([(3473, (0 : Int32)), (3494, m_undoMany)], [(55, m_now_27x), (85, m_kept), (86, m_isKept)], []) 56 [(0, .ref 54)] [] (some (.int r)) ([(3473, w_m_thrown), (3494, w_m_undoMany)], [(55, w_m_now), (85, m_kept), (86, m_isKept)], []) := by
        intro m_now_27x h
        unfold k_X12_again_27 at h
        refine zJ_aload_n dX12_again_56 rfl rfl ?_
        refine zJ_iconst dX12_again_57 zc_0 rfl ?_
        refine zK_puti (mi := mX12_again) (la' := [(3473, (0 : Int32)), (3494, (0 : Int32))]) zW_ok dX12_again_58 F_X12_192 P_12_38 zW_54 rfl rfl rfl ?_
        refine zJ_iconst dX12_again_61 zc_1 rfl ?_
        obtain ⟨rfl, rfl, rfl, rfl⟩ := so4 h
        exact zJ_iret dX12_again_62 rfl (by decide)
      refine zJ_loc (ls' := [(0, .ref 54), (1, .int p1), (2, .int (0 : Int32))]) (zll_c rfl (zll_c rfl (zll_c rfl zll_n))) ?_
      refine ml2_J (fun (v2_27 : Int32) (m_now_27 : (Nat → Int32)) => zJ l zW 1 mX12_again σ ([(3473, (0 : Int32)), (3494, m_undoMany)], [(55, m_now_27), (85, m_kept), (86, m_isKept)], []) 27 [(0, .ref 54), (1, .int p1), (2, .int v2_27)] [] (some (.int r)) ([(3473, w_m_thrown), (3494, w_m_undoMany)], [(55, w_m_now), (85, m_kept), (86, m_isKept)], [])) (fun rc27 hrc27 v2_27 m_now_27 h => ?_) zN _ _ h
      unfold s_X12_again_27 at h
      refine zJ_iload_n dX12_again_27 rfl rfl ?_
      refine zJ_bipush dX12_again_28 zb_49 rfl ?_
      refine zJ_icmp_ge (tgt := 56) dX12_again_30 (by decide) rfl (fun hc => ?_) (fun hc => ?_)
      · replace h := it_t hc h
        refine zJ_loc (ls' := [(0, .ref 54)]) (zll_c rfl zll_n) ?_
        exact hk27 _ h
      · replace h := it_f hc h
        refine zJ_aload_n dX12_again_33 rfl rfl ?_
        refine zJ_getr (mi := mX12_again) dX12_again_34 F_X12_9 zW_54 rfl rfl ?_
        refine zJ_iload_n dX12_again_37 rfl rfl ?_
        refine zJ_aload_n dX12_again_38 rfl rfl ?_
        refine zJ_getr (mi := mX12_again) dX12_again_39 F_X12_106 zW_54 rfl rfl ?_
        refine zJ_bipush dX12_again_42 zb_49 rfl ?_
        refine zJ_iload_n dX12_again_44 rfl rfl ?_
        refine zJ_imul dX12_again_45 rfl ?_
        refine zJ_iload_n dX12_again_46 rfl rfl ?_
        refine zJ_iadd dX12_again_47 rfl ?_
        obtain ⟨hg, h⟩ := gd_some h
        refine zJ_iald (mi := mX12_again) (f := m_kept) dX12_again_48 zW_85 (ix_in hg) rfl rfl ?_
        obtain ⟨hg, h⟩ := gd_some h
        refine zK_iast (mi := mX12_again) (f := m_now_27) (lb' := [(55, (upd m_now_27 v2_27.toNatClampNeg (m_kept (((49 : Int32) * p1) + v2_27).toNatClampNeg))), (85, m_kept), (86, m_isKept)]) dX12_again_49 zW_55 (ix_in hg) rfl rfl rfl ?_
        obtain ⟨v2n2, ev2n2, h⟩ := lt1_some h
        refine zJ_iincN (ls' := [(2, .int v2n2), (0, .ref 54), (1, .int p1)]) dX12_again_50 rfl rfl zc_1 ev2n2 rfl rfl ?_
        refine zJ_goto (tgt := 27) dX12_again_53 (by decide) ?_
        refine zJ_loc (ls' := [(0, .ref 54), (1, .int p1), (2, .int v2n2)]) (zll_c rfl (zll_c rfl (zll_c rfl zll_n))) ?_
        exact hrc27 _ _ h
    · replace h := it_t hc h
      refine zJ_iconst dX12_again_23 zc_0 rfl ?_
      obtain ⟨rfl, rfl, rfl, rfl⟩ := so4 h
      exact zJ_iret dX12_again_24 rfl (by decide)
set_option maxRecDepth 100000 in
set_option maxHeartbeats 4000000 in
theorem t_X12_allow (l : Launch) (σ : zS) {p1 : Int32} {m_allowed : Int32} {m_thrown : Int32} {r : Int32} {w_m_allowed : Int32} {w_m_thrown : Int32} (h : f_X12_allow p1 m_allowed m_thrown = some (r, w_m_allowed, w_m_thrown)) : zMt l zW 2 mX12_allow σ ([(3461, m_allowed), (3473, m_thrown)], [], []) [.ref 54, .int p1] (some (.int r)) ([(3461, w_m_allowed), (3473, w_m_thrown)], [], []) := by
  refine zMt_of (ls := [(0, .ref 54), (1, .int p1)]) (by decide) rfl (fun _ => Nat.le_of_ble_eq_true rfl) rfl ?_
  unfold f_X12_allow at h
  refine zJ_aload_n dX12_allow_0 rfl rfl ?_
  refine zJ_iconst dX12_allow_1 zc_0 rfl ?_
  refine zK_puti (mi := mX12_allow) (la' := [(3461, m_allowed), (3473, (0 : Int32))]) zW_ok dX12_allow_2 F_X12_113 P_12_17 zW_54 rfl rfl rfl ?_
  refine zJ_iload_n dX12_allow_5 rfl rfl ?_
  obtain ⟨rn1, hcl, h⟩ := bd1_some h
  refine zJ_callS2 (σ := σ) (L := ([(3461, m_allowed), (3473, (0 : Int32))], [], [])) (mi := mX12_allow) (yi := mX12_isMost) (as := [.int p1]) (st := []) (L2 := ([(3461, m_allowed), (3473, (0 : Int32))], [], [])) dX12_allow_6 ML_X12_256 Ys_X12_isMost rfl (t_X12_isMost l _ hcl) (zsub_i zle_n zle_n zle_n) (zjok_i rfl rfl (zle_c rfl (zle_c rfl zle_n)) rfl rfl zle_n rfl rfl zle_n) (Nat.le_of_ble_eq_true rfl) (Nat.le_of_ble_eq_true rfl) rfl rfl ?_
  refine zJ_if_ne (tgt := 14) dX12_allow_9 (by decide) rfl (fun hc => ?_) (fun hc => ?_)
  · replace h := it_f hc h
    refine zJ_aload_n dX12_allow_14 rfl rfl ?_
    refine zJ_geti (mi := mX12_allow) (x := m_allowed) dX12_allow_15 F_X12_22 zW_54 rfl rfl rfl ?_
    refine zJ_istore_n (ls' := [(2, .int m_allowed), (0, .ref 54), (1, .int p1)]) dX12_allow_18 rfl rfl rfl ?_
    refine zJ_aload_n dX12_allow_19 rfl rfl ?_
    refine zJ_iload_n dX12_allow_20 rfl rfl ?_
    refine zK_puti (mi := mX12_allow) (la' := [(3461, p1), (3473, (0 : Int32))]) zW_ok dX12_allow_21 F_X12_22 P_12_5 zW_54 rfl rfl rfl ?_
    refine zJ_iload_n dX12_allow_24 rfl rfl ?_
    obtain ⟨rfl, rfl, rfl⟩ := so3 h
    exact zJ_iret dX12_allow_25 rfl rfl
  · replace h := it_t hc h
    refine zJ_iconst dX12_allow_12 zc_m1 rfl ?_
    obtain ⟨rfl, rfl, rfl⟩ := so3 h
    exact zJ_iret dX12_allow_13 rfl rfl
set_option maxRecDepth 100000 in
set_option maxHeartbeats 4000000 in
theorem t_X12_moneyOf (l : Launch) (σ : zS) {p1 : Int32} {m_money : (Nat → Int32)} {r : Int32} (h : f_X12_moneyOf p1 m_money = some r) : zMt l zW 0 mX12_moneyOf σ ([], [(63, m_money)], []) [.ref 54, .int p1] (some (.int r)) ([], [(63, m_money)], []) := by
  refine zMt_of (ls := [(0, .ref 54), (1, .int p1)]) (by decide) rfl (fun _ => Nat.le_of_ble_eq_true rfl) rfl ?_
  unfold f_X12_moneyOf at h
  refine zJ_iload_n dX12_moneyOf_0 rfl rfl ?_
  refine zJ_bipush dX12_moneyOf_1 zb_6 rfl ?_
  refine zJ_icmp_gt (tgt := 17) dX12_moneyOf_3 (by decide) rfl (fun hc => ?_) (fun hc => ?_)
  · replace h := it_t hc h
    refine zJ_iconst dX12_moneyOf_17 zc_0 rfl ?_
    obtain rfl := so1 h
    exact zJ_iret dX12_moneyOf_18 rfl rfl
  · replace h := it_f hc h
    refine zJ_aload_n dX12_moneyOf_6 rfl rfl ?_
    refine zJ_getr (mi := mX12_moneyOf) dX12_moneyOf_7 F_X12_38 zW_54 rfl rfl ?_
    refine zJ_iload_n dX12_moneyOf_10 rfl rfl ?_
    refine zJ_iconst dX12_moneyOf_11 zc_1 rfl ?_
    refine zJ_isub dX12_moneyOf_12 rfl ?_
    obtain ⟨hg, h⟩ := gd_some h
    refine zJ_iald (mi := mX12_moneyOf) (f := m_money) dX12_moneyOf_13 zW_63 (ix_in hg) rfl rfl ?_
    refine zJ_goto (tgt := 18) dX12_moneyOf_14 (by decide) ?_
    obtain rfl := so1 h
    exact zJ_iret dX12_moneyOf_18 rfl rfl
set_option maxRecDepth 100000 in
set_option maxHeartbeats 4000000 in
theorem t_X12_placeFor_m_now (l : Launch) (σ : zS) {p1 : Int32} {p2 : Int32} {m_now : (Nat → Int32)} {r : Int32} (h : f_X12_placeFor_m_now p1 p2 m_now = some r) : zMt l zW 0 mX12_placeFor σ ([], [(55, m_now)], []) [.ref 55, .int p1, .int p2] (some (.int r)) ([], [(55, m_now)], []) := by
  refine zMt_of (ls := [(0, .ref 55), (1, .int p1), (2, .int p2)]) (by decide) rfl (fun _ => Nat.le_of_ble_eq_true rfl) rfl ?_
  unfold f_X12_placeFor_m_now at h
  refine zJ_iconst dX12_placeFor_0 zc_1 rfl ?_
  refine zJ_istore_n (ls' := [(3, .int (1 : Int32)), (0, .ref 55), (1, .int p1), (2, .int p2)]) dX12_placeFor_1 rfl rfl rfl ?_
  refine zJ_iconst dX12_placeFor_2 zc_0 rfl ?_
  refine zJ_istore (ls' := [(4, .int (0 : Int32)), (3, .int (1 : Int32)), (0, .ref 55), (1, .int p1), (2, .int p2)]) dX12_placeFor_3 rfl rfl rfl ?_
  have hk5 : ∀ (v3_5x : Int32), k_X12_placeFor_m_now_5  v3_5x = some r → zJ l zW 0 mX12_placeFor σ ([], [(55, m_now)], []) 59 [(3, .int v3_5x)] [] (some (.int r)) ([], [(55, m_now)], []) := by
    intro v3_5x h
    unfold k_X12_placeFor_m_now_5 at h
    refine zJ_iload_n dX12_placeFor_59 rfl rfl ?_
    obtain rfl := so1 h
    exact zJ_iret dX12_placeFor_60 rfl rfl
  refine zJ_loc (ls' := [(0, .ref 55), (1, .int p1), (2, .int p2), (3, .int (1 : Int32)), (4, .int (0 : Int32))]) (zll_c rfl (zll_c rfl (zll_c rfl (zll_c rfl (zll_c rfl zll_n))))) ?_
  refine ml2_J (fun (v3_5 : Int32) (v4_5 : Int32) => zJ l zW 0 mX12_placeFor σ ([], [(55, m_now)], []) 5 [(0, .ref 55), (1, .int p1), (2, .int p2), (3, .int v3_5), (4, .int v4_5)] [] (some (.int r)) ([], [(55, m_now)], [])) (fun rc5 hrc5 v3_5 v4_5 h => ?_) zN _ _ h
  unfold s_X12_placeFor_m_now_5 at h
  refine zJ_iload dX12_placeFor_5 rfl rfl ?_
  refine zJ_aload_n dX12_placeFor_7 rfl rfl ?_
  refine zJ_bipush dX12_placeFor_8 zb_48 rfl ?_
  obtain ⟨hg, h⟩ := gd_some h
  refine zJ_iald (mi := mX12_placeFor) (f := m_now) dX12_placeFor_10 zW_55 (ix_in hg) rfl rfl ?_
  refine zJ_icmp_ge (tgt := 59) dX12_placeFor_11 (by decide) rfl (fun hc => ?_) (fun hc => ?_)
  · replace h := it_t hc h
    refine zJ_loc (ls' := [(3, .int v3_5)]) (zll_c rfl zll_n) ?_
    exact hk5 _ h
  · replace h := it_f hc h
    refine zJ_aload_n dX12_placeFor_14 rfl rfl ?_
    refine zJ_iconst dX12_placeFor_15 zc_4 rfl ?_
    refine zJ_iload dX12_placeFor_16 rfl rfl ?_
    refine zJ_imul dX12_placeFor_18 rfl ?_
    refine zJ_iconst dX12_placeFor_19 zc_2 rfl ?_
    refine zJ_iadd dX12_placeFor_20 rfl ?_
    obtain ⟨hg, h⟩ := gd_some h
    refine zJ_iald (mi := mX12_placeFor) (f := m_now) dX12_placeFor_21 zW_55 (ix_in hg) rfl rfl ?_
    refine zJ_iload_n dX12_placeFor_22 rfl rfl ?_
    refine zJ_icmp_lt (tgt := 50) dX12_placeFor_23 (by decide) rfl (fun hc => ?_) (fun hc => ?_)
    · replace h := it_t hc h
      obtain ⟨v3n1, ev3n1, h⟩ := lt1_some h
      refine zJ_iincN (ls' := [(3, .int v3n1), (0, .ref 55), (1, .int p1), (2, .int p2), (4, .int v4_5)]) dX12_placeFor_50 rfl rfl zc_1 ev3n1 rfl rfl ?_
      obtain ⟨v4n2, ev4n2, h⟩ := lt1_some h
      refine zJ_iincN (ls' := [(4, .int v4n2), (3, .int v3n1), (0, .ref 55), (1, .int p1), (2, .int p2)]) dX12_placeFor_53 rfl rfl zc_1 ev4n2 rfl rfl ?_
      refine zJ_goto (tgt := 5) dX12_placeFor_56 (by decide) ?_
      refine zJ_loc (ls' := [(0, .ref 55), (1, .int p1), (2, .int p2), (3, .int v3n1), (4, .int v4n2)]) (zll_c rfl (zll_c rfl (zll_c rfl (zll_c rfl (zll_c rfl zll_n))))) ?_
      exact hrc5 _ _ h
    · replace h := it_f hc h
      refine zJ_aload_n dX12_placeFor_26 rfl rfl ?_
      refine zJ_iconst dX12_placeFor_27 zc_4 rfl ?_
      refine zJ_iload dX12_placeFor_28 rfl rfl ?_
      refine zJ_imul dX12_placeFor_30 rfl ?_
      refine zJ_iconst dX12_placeFor_31 zc_2 rfl ?_
      refine zJ_iadd dX12_placeFor_32 rfl ?_
      obtain ⟨hg, h⟩ := gd_some h
      refine zJ_iald (mi := mX12_placeFor) (f := m_now) dX12_placeFor_33 zW_55 (ix_in hg) rfl rfl ?_
      refine zJ_iload_n dX12_placeFor_34 rfl rfl ?_
      refine zJ_icmp_ne (tgt := 53) dX12_placeFor_35 (by decide) rfl (fun hc => ?_) (fun hc => ?_)
      · replace h := it_f hc h
        obtain ⟨v4n3, ev4n3, h⟩ := lt1_some h
        refine zJ_iincN (ls' := [(4, .int v4n3), (0, .ref 55), (1, .int p1), (2, .int p2), (3, .int v3_5)]) dX12_placeFor_53 rfl rfl zc_1 ev4n3 rfl rfl ?_
        refine zJ_goto (tgt := 5) dX12_placeFor_56 (by decide) ?_
        refine zJ_loc (ls' := [(0, .ref 55), (1, .int p1), (2, .int p2), (3, .int v3_5), (4, .int v4n3)]) (zll_c rfl (zll_c rfl (zll_c rfl (zll_c rfl (zll_c rfl zll_n))))) ?_
        exact hrc5 _ _ h
      · replace h := it_t hc h
        refine zJ_aload_n dX12_placeFor_38 rfl rfl ?_
        refine zJ_iconst dX12_placeFor_39 zc_4 rfl ?_
        refine zJ_iload dX12_placeFor_40 rfl rfl ?_
        refine zJ_imul dX12_placeFor_42 rfl ?_
        refine zJ_iconst dX12_placeFor_43 zc_3 rfl ?_
        refine zJ_iadd dX12_placeFor_44 rfl ?_
        obtain ⟨hg, h⟩ := gd_some h
        refine zJ_iald (mi := mX12_placeFor) (f := m_now) dX12_placeFor_45 zW_55 (ix_in hg) rfl rfl ?_
        refine zJ_iload_n dX12_placeFor_46 rfl rfl ?_
        refine zJ_icmp_gt (tgt := 53) dX12_placeFor_47 (by decide) rfl (fun hc => ?_) (fun hc => ?_)
        · replace h := it_t hc h
          obtain ⟨v4n4, ev4n4, h⟩ := lt1_some h
          refine zJ_iincN (ls' := [(4, .int v4n4), (0, .ref 55), (1, .int p1), (2, .int p2), (3, .int v3_5)]) dX12_placeFor_53 rfl rfl zc_1 ev4n4 rfl rfl ?_
          refine zJ_goto (tgt := 5) dX12_placeFor_56 (by decide) ?_
          refine zJ_loc (ls' := [(0, .ref 55), (1, .int p1), (2, .int p2), (3, .int v3_5), (4, .int v4n4)]) (zll_c rfl (zll_c rfl (zll_c rfl (zll_c rfl (zll_c rfl zll_n))))) ?_
          exact hrc5 _ _ h
        · replace h := it_f hc h
          obtain ⟨v3n5, ev3n5, h⟩ := lt1_some h
          refine zJ_iincN (ls' := [(3, .int v3n5), (0, .ref 55), (1, .int p1), (2, .int p2), (4, .int v4_5)]) dX12_placeFor_50 rfl rfl zc_1 ev3n5 rfl rfl ?_
          obtain ⟨v4n6, ev4n6, h⟩ := lt1_some h
          refine zJ_iincN (ls' := [(4, .int v4n6), (3, .int v3n5), (0, .ref 55), (1, .int p1), (2, .int p2)]) dX12_placeFor_53 rfl rfl zc_1 ev4n6 rfl rfl ?_
          refine zJ_goto (tgt := 5) dX12_placeFor_56 (by decide) ?_
          refine zJ_loc (ls' := [(0, .ref 55), (1, .int p1), (2, .int p2), (3, .int v3n5), (4, .int v4n6)]) (zll_c rfl (zll_c rfl (zll_c rfl (zll_c rfl (zll_c rfl zll_n))))) ?_
          exact hrc5 _ _ h
set_option maxRecDepth 100000 in
set_option maxHeartbeats 4000000 in
theorem t_X12_tell (l : Launch) (σ : zS) {p1 : Int64} {m_rowMany : Int32} {m_row : (Nat → Int64)} {w_m_rowMany : Int32} {w_m_row : (Nat → Int64)} (h : f_X12_tell p1 m_rowMany m_row = some (w_m_rowMany, w_m_row)) : zMt l zW 0 mX12_tell σ ([(3472, m_rowMany)], [], [(65, m_row)]) [.ref 54, .long p1] none ([(3472, w_m_rowMany)], [], [(65, w_m_row)]) := by
  refine zMt_of (ls := [(0, .ref 54), (1, .long p1)]) (by decide) rfl (fun _ => Nat.le_of_ble_eq_true rfl) rfl ?_
  unfold f_X12_tell at h
  refine zJ_aload_n dX12_tell_0 rfl rfl ?_
  refine zJ_getr (mi := mX12_tell) dX12_tell_1 F_X12_45 zW_54 rfl rfl ?_
  refine zJ_aload_n dX12_tell_4 rfl rfl ?_
  refine zJ_geti (mi := mX12_tell) (x := m_rowMany) dX12_tell_5 F_X12_116 zW_54 rfl rfl rfl ?_
  refine zJ_lload_n dX12_tell_8 rfl rfl ?_
  obtain ⟨hg, h⟩ := gd_some h
  refine zK_last (mi := mX12_tell) (f := m_row) (lc' := [(65, (vp_updL m_row m_rowMany.toNatClampNeg p1))]) dX12_tell_9 zW_65 (ix_in hg) rfl rfl rfl ?_
  refine zJ_aload_n dX12_tell_10 rfl rfl ?_
  refine zJ_dup dX12_tell_11 rfl rfl ?_
  refine zJ_geti (mi := mX12_tell) (x := m_rowMany) dX12_tell_12 F_X12_116 zW_54 rfl rfl rfl ?_
  refine zJ_iconst dX12_tell_15 zc_1 rfl ?_
  refine zJ_iadd dX12_tell_16 rfl ?_
  refine zK_puti (mi := mX12_tell) (la' := [(3472, (m_rowMany + (1 : Int32)))]) zW_ok dX12_tell_17 F_X12_116 P_12_16 zW_54 rfl rfl rfl ?_
  obtain ⟨rfl, rfl⟩ := so2 h
  exact zJ_vret dX12_tell_20 rfl
set_option maxRecDepth 100000 in
set_option maxHeartbeats 4000000 in
theorem t_X12_beat (l : Launch) (σ : zS) {p1 : Int32} {m_rowMany : Int32} {m_thrown : Int32} {m_now : (Nat → Int32)} {m_money : (Nat → Int32)} {m_row : (Nat → Int64)} {r : Int32} {w_m_rowMany : Int32} {w_m_thrown : Int32} {w_m_row : (Nat → Int64)} (h : f_X12_beat p1 m_rowMany m_thrown m_now m_money m_row = some (r, w_m_rowMany, w_m_thrown, w_m_row)) : zMt l zW 1 mX12_beat σ ([(3472, m_rowMany), (3473, m_thrown)], [(55, m_now), (63, m_money)], [(65, m_row)]) [.ref 54, .int p1] (some (.int r)) ([(3472, w_m_rowMany), (3473, w_m_thrown)], [(55, m_now), (63, m_money)], [(65, w_m_row)]) := by
  refine zMt_of (ls := [(0, .ref 54), (1, .int p1)]) (by decide) rfl (fun _ => Nat.le_of_ble_eq_true rfl) rfl ?_
  unfold f_X12_beat at h
  refine zJ_aload_n dX12_beat_0 rfl rfl ?_
  refine zJ_iconst dX12_beat_1 zc_0 rfl ?_
  refine zK_puti (mi := mX12_beat) (la' := [(3472, m_rowMany), (3473, (0 : Int32))]) zW_ok dX12_beat_2 F_X12_113 P_12_17 zW_54 rfl rfl rfl ?_
  refine zJ_iload_n dX12_beat_5 rfl rfl ?_
  refine zJ_iconst dX12_beat_6 zc_1 rfl ?_
  refine zJ_bipush dX12_beat_7 zb_12 rfl ?_
  obtain ⟨rn1, hcl, h⟩ := bd1_some h
  refine zJ_callS2 (σ := σ) (L := ([(3472, m_rowMany), (3473, (0 : Int32))], [(55, m_now), (63, m_money)], [(65, m_row)])) (mi := mX12_beat) (yi := mX12_in) (as := [.int p1, .int (1 : Int32), .int (12 : Int32)]) (st := []) (L2 := ([(3472, m_rowMany), (3473, (0 : Int32))], [(55, m_now), (63, m_money)], [(65, m_row)])) dX12_beat_9 ML_X12_122 Ys_X12_in rfl (t_X12_in l _ hcl) (zsub_i zle_n zle_n zle_n) (zjok_i rfl rfl (zle_c rfl (zle_c rfl zle_n)) rfl rfl (zle_c rfl (zle_c rfl zle_n)) rfl rfl (zle_c rfl zle_n)) (Nat.le_of_ble_eq_true rfl) (Nat.le_of_ble_eq_true rfl) rfl rfl ?_
  refine zJ_if_ne (tgt := 17) dX12_beat_12 (by decide) rfl (fun hc => ?_) (fun hc => ?_)
  · replace h := it_f hc h
    refine zJ_sipush dX12_beat_17 zs_9999 rfl ?_
    refine zJ_istore_n (ls' := [(2, .int (9999 : Int32)), (0, .ref 54), (1, .int p1)]) dX12_beat_20 rfl rfl rfl ?_
    have hk21 : ∀ (v2_21x : Int32), k_X12_beat_21 m_rowMany m_now m_money m_row v2_21x = some (r, w_m_rowMany, w_m_thrown, w_m_row) → zJ l zW 1 mX12_beat σ ([(3472, m_rowMany), (3473, (0 : Int32))], [(55, m_now), (63, m_money)], [(65, m_row)]) 44 [(0, .ref 54), (2, .int v2_21x)] [] (some (.int r)) ([(3472, w_m_rowMany), (3473, w_m_thrown)], [(55, m_now), (63, m_money)], [(65, w_m_row)]) := by
      intro v2_21x h
      unfold k_X12_beat_21 at h
      refine zJ_iload_n dX12_beat_44 rfl rfl ?_
      refine zJ_if_ge (tgt := 51) dX12_beat_45 (by decide) rfl (fun hc => ?_) (fun hc => ?_)
      · replace h := it_t hc h
        refine zJ_aload_n dX12_beat_51 rfl rfl ?_
        refine zJ_iconst dX12_beat_52 zc_0 rfl ?_
        refine zK_puti (mi := mX12_beat) (la' := [(3472, (0 : Int32)), (3473, (0 : Int32))]) zW_ok dX12_beat_53 F_X12_116 P_12_16 zW_54 rfl rfl rfl ?_
        refine zJ_aload_n dX12_beat_56 rfl rfl ?_
        refine zJ_aload_n dX12_beat_57 rfl rfl ?_
        refine zJ_aload_n dX12_beat_58 rfl rfl ?_
        refine zJ_getr (mi := mX12_beat) dX12_beat_59 F_X12_9 zW_54 rfl rfl ?_
        refine zJ_iconst dX12_beat_62 zc_0 rfl ?_
        refine zJ_iload_n dX12_beat_63 rfl rfl ?_
        obtain ⟨rn2, hcl, h⟩ := bd1_some h
        refine zJ_callS2 (σ := σ) (L := ([(3472, (0 : Int32)), (3473, (0 : Int32))], [(55, m_now), (63, m_money)], [(65, m_row)])) (mi := mX12_beat) (yi := mX12_placeFor) (as := [.ref 55, .int (0 : Int32), .int v2_21x]) (st := [.ref 54, .ref 54]) (L2 := ([(3472, (0 : Int32)), (3473, (0 : Int32))], [(55, m_now), (63, m_money)], [(65, m_row)])) dX12_beat_64 ML_X12_368 Ys_X12_placeFor rfl (t_X12_placeFor_m_now l _ hcl) (zsub_i zle_n (zle_c rfl zle_n) zle_n) (zjok_i rfl rfl (zle_c rfl (zle_c rfl zle_n)) rfl rfl (zle_c rfl (zle_c rfl zle_n)) rfl rfl (zle_c rfl zle_n)) (Nat.le_of_ble_eq_true rfl) (Nat.le_of_ble_eq_true rfl) rfl rfl ?_
        obtain ⟨rn3, hcl, h⟩ := bd1_some h
        refine zJ_callV2 (σ := σ) (L := ([(3472, (0 : Int32)), (3473, (0 : Int32))], [(55, m_now), (63, m_money)], [(65, m_row)])) (mi := mX12_beat) (yi := mX12_moneyOf) (as := [.int rn2]) (st := [.ref 54]) (L2 := ([(3472, (0 : Int32)), (3473, (0 : Int32))], [(55, m_now), (63, m_money)], [(65, m_row)])) dX12_beat_67 ML_X12_362 Yv_X12_moneyOf rfl zW_54 rfl rfl (t_X12_moneyOf l _ hcl) (zsub_i zle_n (zle_c rfl zle_n) zle_n) (zjok_i rfl rfl (zle_c rfl (zle_c rfl zle_n)) rfl rfl (zle_c rfl (zle_c rfl zle_n)) rfl rfl (zle_c rfl zle_n)) (Nat.le_of_ble_eq_true rfl) (Nat.le_of_ble_eq_true rfl) rfl rfl ?_
        refine zJ_i2l dX12_beat_70 rfl ?_
        obtain ⟨m_rowManyn4, m_rown5, hcl, h⟩ := bd2_some h
        refine zJ_callV2 (σ := σ) (L := ([(3472, (0 : Int32)), (3473, (0 : Int32))], [(55, m_now), (63, m_money)], [(65, m_row)])) (mi := mX12_beat) (yi := mX12_tell) (as := [.long rn3.toInt64]) (st := []) (L2 := ([(3472, m_rowManyn4), (3473, (0 : Int32))], [(55, m_now), (63, m_money)], [(65, m_rown5)])) dX12_beat_71 ML_X12_265 Yv_X12_tell rfl zW_54 rfl rfl (t_X12_tell l _ hcl) (zsub_i (zle_c rfl zle_n) zle_n (zle_c rfl zle_n)) (zjok_i rfl rfl (zle_c rfl (zle_c rfl zle_n)) rfl rfl (zle_c rfl (zle_c rfl zle_n)) rfl rfl (zle_c rfl zle_n)) (Nat.le_of_ble_eq_true rfl) (Nat.le_of_ble_eq_true rfl) rfl rfl ?_
        refine zJ_iload_n dX12_beat_74 rfl rfl ?_
        obtain ⟨rfl, rfl, rfl, rfl⟩ := so4 h
        exact zJ_iret dX12_beat_75 rfl rfl
      · replace h := it_f hc h
        refine zJ_bipush dX12_beat_48 zb_m2 rfl ?_
        obtain ⟨rfl, rfl, rfl, rfl⟩ := so4 h
        exact zJ_iret dX12_beat_50 rfl rfl
    refine zJ_loc (ls' := [(0, .ref 54), (1, .int p1), (2, .int (9999 : Int32))]) (zll_c rfl (zll_c rfl (zll_c rfl zll_n))) ?_
    refine ml1_J (fun (v2_21 : Int32) => zJ l zW 1 mX12_beat σ ([(3472, m_rowMany), (3473, (0 : Int32))], [(55, m_now), (63, m_money)], [(65, m_row)]) 21 [(0, .ref 54), (1, .int p1), (2, .int v2_21)] [] (some (.int r)) ([(3472, w_m_rowMany), (3473, w_m_thrown)], [(55, m_now), (63, m_money)], [(65, w_m_row)])) (fun rc21 hrc21 v2_21 h => ?_) zN _ h
    unfold s_X12_beat_21 at h
    refine zJ_iload_n dX12_beat_21 rfl rfl ?_
    refine zJ_if_lt (tgt := 44) dX12_beat_22 (by decide) rfl (fun hc => ?_) (fun hc => ?_)
    · replace h := it_t hc h
      refine zJ_loc (ls' := [(0, .ref 54), (2, .int v2_21)]) (zll_c rfl (zll_c rfl zll_n)) ?_
      exact hk21 _ h
    · replace h := it_f hc h
      refine zJ_aload_n dX12_beat_25 rfl rfl ?_
      refine zJ_getr (mi := mX12_beat) dX12_beat_26 F_X12_9 zW_54 rfl rfl ?_
      refine zJ_iconst dX12_beat_29 zc_0 rfl ?_
      refine zJ_iload_n dX12_beat_30 rfl rfl ?_
      obtain ⟨rn6, hcl, h⟩ := bd1_some h
      refine zJ_callS2 (σ := σ) (L := ([(3472, m_rowMany), (3473, (0 : Int32))], [(55, m_now), (63, m_money)], [(65, m_row)])) (mi := mX12_beat) (yi := mX12_placeFor) (as := [.ref 55, .int (0 : Int32), .int v2_21]) (st := []) (L2 := ([(3472, m_rowMany), (3473, (0 : Int32))], [(55, m_now), (63, m_money)], [(65, m_row)])) dX12_beat_31 ML_X12_368 Ys_X12_placeFor rfl (t_X12_placeFor_m_now l _ hcl) (zsub_i zle_n (zle_c rfl zle_n) zle_n) (zjok_i rfl rfl (zle_c rfl (zle_c rfl zle_n)) rfl rfl (zle_c rfl (zle_c rfl zle_n)) rfl rfl (zle_c rfl zle_n)) (Nat.le_of_ble_eq_true rfl) (Nat.le_of_ble_eq_true rfl) rfl rfl ?_
      refine zJ_iload_n dX12_beat_34 rfl rfl ?_
      refine zJ_icmp_le (tgt := 44) dX12_beat_35 (by decide) rfl (fun hc => ?_) (fun hc => ?_)
      · replace h := it_t hc h
        refine zJ_loc (ls' := [(0, .ref 54), (2, .int v2_21)]) (zll_c rfl (zll_c rfl zll_n)) ?_
        exact hk21 _ h
      · replace h := it_f hc h
        obtain ⟨v2n7, ev2n7, h⟩ := lt1_some h
        refine zJ_iincN (ls' := [(2, .int v2n7), (0, .ref 54), (1, .int p1)]) dX12_beat_38 rfl rfl zc_m1 ev2n7 rfl rfl ?_
        refine zJ_goto (tgt := 21) dX12_beat_41 (by decide) ?_
        refine zJ_loc (ls' := [(0, .ref 54), (1, .int p1), (2, .int v2n7)]) (zll_c rfl (zll_c rfl (zll_c rfl zll_n))) ?_
        exact hrc21 _ h
  · replace h := it_t hc h
    refine zJ_iconst dX12_beat_15 zc_m1 rfl ?_
    obtain ⟨rfl, rfl, rfl, rfl⟩ := so4 h
    exact zJ_iret dX12_beat_16 rfl rfl
set_option maxRecDepth 100000 in
set_option maxHeartbeats 4000000 in
theorem t_X12_begin_m_text (l : Launch) (σ : zS) {p2 : Int32} {p3 : Int32} {m_read : Int32} {m_length : Int32} {m_top : Int32} {m_at : Int32} {m_wrong : Int32} {w_m_length : Int32} {w_m_top : Int32} {w_m_at : Int32} {w_m_wrong : Int32} (h : f_X12_begin_m_text p2 p3 m_read m_length m_top m_at m_wrong = some (w_m_length, w_m_top, w_m_at, w_m_wrong)) : zMt l zW 0 mX12_begin σ ([(3474, m_read), (3475, m_length), (3476, m_top), (3477, m_at), (3478, m_wrong)], [], []) [.ref 54, .ref 64, .int p2, .int p3] none ([(3474, (nI 64)), (3475, w_m_length), (3476, w_m_top), (3477, w_m_at), (3478, w_m_wrong)], [], []) := by
  refine zMt_of (ls := [(0, .ref 54), (1, .ref 64), (2, .int p2), (3, .int p3)]) (by decide) rfl (fun _ => Nat.le_of_ble_eq_true rfl) rfl ?_
  unfold f_X12_begin_m_text at h
  refine zJ_aload_n dX12_begin_0 rfl rfl ?_
  refine zJ_aload_n dX12_begin_1 rfl rfl ?_
  refine zK_putq (mi := mX12_begin) (la' := [(3474, (nI 64)), (3475, m_length), (3476, m_top), (3477, m_at), (3478, m_wrong)]) zW_ok dX12_begin_2 F_X12_142 P_12_18 zW_54 rfl (fun _ => rfl) (fun _ => rfl) (by decide) rfl rfl ?_
  refine zJ_aload_n dX12_begin_5 rfl rfl ?_
  refine zJ_iload_n dX12_begin_6 rfl rfl ?_
  refine zK_puti (mi := mX12_begin) (la' := [(3474, (nI 64)), (3475, p2), (3476, m_top), (3477, m_at), (3478, m_wrong)]) zW_ok dX12_begin_7 F_X12_145 P_12_19 zW_54 rfl rfl rfl ?_
  refine zJ_aload_n dX12_begin_10 rfl rfl ?_
  refine zJ_iload_n dX12_begin_11 rfl rfl ?_
  refine zK_puti (mi := mX12_begin) (la' := [(3474, (nI 64)), (3475, p2), (3476, p3), (3477, m_at), (3478, m_wrong)]) zW_ok dX12_begin_12 F_X12_148 P_12_20 zW_54 rfl rfl rfl ?_
  refine zJ_aload_n dX12_begin_15 rfl rfl ?_
  refine zJ_iconst dX12_begin_16 zc_0 rfl ?_
  refine zK_puti (mi := mX12_begin) (la' := [(3474, (nI 64)), (3475, p2), (3476, p3), (3477, (0 : Int32)), (3478, m_wrong)]) zW_ok dX12_begin_17 F_X12_151 P_12_21 zW_54 rfl rfl rfl ?_
  refine zJ_aload_n dX12_begin_20 rfl rfl ?_
  refine zJ_iconst dX12_begin_21 zc_m1 rfl ?_
  refine zK_puti (mi := mX12_begin) (la' := [(3474, (nI 64)), (3475, p2), (3476, p3), (3477, (0 : Int32)), (3478, (-1 : Int32))]) zW_ok dX12_begin_22 F_X12_154 P_12_22 zW_54 rfl rfl rfl ?_
  obtain ⟨rfl, rfl, rfl, rfl⟩ := so4 h
  exact zJ_vret dX12_begin_25 rfl
