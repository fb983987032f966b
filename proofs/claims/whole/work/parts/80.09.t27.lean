set_option maxRecDepth 100000 in
set_option maxHeartbeats 4000000 in
theorem t_X12_prizes (l : Launch) (σ : zS) {m_typed : Int32} {m_thrown : Int32} {m_read : Int32} {m_length : Int32} {m_top : Int32} {m_at : Int32} {m_wrong : Int32} {m_money : (Nat → Int32)} {m_text : (Nat → Int32)} {m_newMoney : (Nat → Int32)} {r : Int32} {w_m_typed : Int32} {w_m_thrown : Int32} {w_m_length : Int32} {w_m_top : Int32} {w_m_at : Int32} {w_m_wrong : Int32} {w_m_money : (Nat → Int32)} {w_m_newMoney : (Nat → Int32)} (h : f_X12_prizes m_typed m_thrown m_read m_length m_top m_at m_wrong m_money m_text m_newMoney = some (r, w_m_typed, w_m_thrown, w_m_length, w_m_top, w_m_at, w_m_wrong, w_m_money, w_m_newMoney)) : zMt l zW 4 mX12_prizes σ ([(3470, m_typed), (3473, m_thrown), (3474, m_read), (3475, m_length), (3476, m_top), (3477, m_at), (3478, m_wrong)], [(63, m_money), (64, m_text), (68, m_newMoney)], []) [.ref 54] (some (.int r)) ([(3470, w_m_typed), (3473, w_m_thrown), (3474, (nI 64)), (3475, w_m_length), (3476, w_m_top), (3477, w_m_at), (3478, w_m_wrong)], [(63, w_m_money), (64, m_text), (68, w_m_newMoney)], []) := by
  refine zMt_of (ls := [(0, .ref 54)]) (by decide) rfl (fun _ => Nat.le_of_ble_eq_true rfl) rfl ?_
  unfold f_X12_prizes at h
  refine zJ_aload_n dX12_prizes_0 rfl rfl ?_
  refine zJ_iconst dX12_prizes_1 zc_0 rfl ?_
  refine zK_puti (mi := mX12_prizes) (la' := [(3470, m_typed), (3473, (0 : Int32)), (3474, m_read), (3475, m_length), (3476, m_top), (3477, m_at), (3478, m_wrong)]) zW_ok dX12_prizes_2 F_X12_113 P_12_17 zW_54 rfl rfl rfl ?_
  refine zJ_aload_n dX12_prizes_5 rfl rfl ?_
  refine zJ_aload_n dX12_prizes_6 rfl rfl ?_
  refine zJ_getr (mi := mX12_prizes) dX12_prizes_7 F_X12_41 zW_54 rfl rfl ?_
  refine zJ_aload_n dX12_prizes_10 rfl rfl ?_
  refine zJ_geti (mi := mX12_prizes) (x := m_typed) dX12_prizes_11 F_X12_139 zW_54 rfl rfl rfl ?_
  refine zJ_bipush dX12_prizes_14 zb_80 rfl ?_
  obtain ⟨m_lengthn1, m_topn2, m_atn3, m_wrongn4, hcl, h⟩ := bd4_some h
  refine zJ_callV2 (σ := σ) (L := ([(3470, m_typed), (3473, (0 : Int32)), (3474, m_read), (3475, m_length), (3476, m_top), (3477, m_at), (3478, m_wrong)], [(63, m_money), (64, m_text), (68, m_newMoney)], [])) (mi := mX12_prizes) (yi := mX12_begin) (as := [.ref 64, .int m_typed, .int (80 : Int32)]) (st := []) (L2 := ([(3470, m_typed), (3473, (0 : Int32)), (3474, (nI 64)), (3475, m_lengthn1), (3476, m_topn2), (3477, m_atn3), (3478, m_wrongn4)], [(63, m_money), (64, m_text), (68, m_newMoney)], [])) dX12_prizes_16 ML_X12_185 Yv_X12_begin rfl zW_54 rfl rfl (t_X12_begin_m_text l _ hcl) (zsub_i (zle_c rfl (zle_c rfl (zle_c rfl (zle_c rfl (zle_c rfl zle_n))))) zle_n zle_n) (zjok_i rfl rfl (zle_c rfl (zle_c rfl (zle_c rfl (zle_c rfl (zle_c rfl (zle_c rfl (zle_c rfl zle_n))))))) rfl rfl (zle_c rfl (zle_c rfl (zle_c rfl zle_n))) rfl rfl zle_n) (Nat.le_of_ble_eq_true rfl) (Nat.le_of_ble_eq_true rfl) rfl rfl ?_
  refine zJ_aload_n dX12_prizes_19 rfl rfl ?_
  refine zJ_iconst dX12_prizes_20 zc_0 rfl ?_
  refine zK_puti (mi := mX12_prizes) (la' := [(3470, (0 : Int32)), (3473, (0 : Int32)), (3474, (nI 64)), (3475, m_lengthn1), (3476, m_topn2), (3477, m_atn3), (3478, m_wrongn4)]) zW_ok dX12_prizes_21 F_X12_139 P_12_14 zW_54 rfl rfl rfl ?_
  refine zJ_iconst dX12_prizes_24 zc_0 rfl ?_
  refine zJ_istore_n (ls' := [(1, .int (0 : Int32)), (0, .ref 54)]) dX12_prizes_25 rfl rfl rfl ?_
  refine zJ_iconst dX12_prizes_26 zc_1 rfl ?_
  refine zJ_istore_n (ls' := [(2, .int (1 : Int32)), (1, .int (0 : Int32)), (0, .ref 54)]) dX12_prizes_27 rfl rfl rfl ?_
  have hk28 : ∀ (v1_28x : Int32) (m_at_28x : Int32) (m_wrong_28x : Int32) (m_newMoney_28x : (Nat → Int32)), k_X12_prizes_28 m_money m_lengthn1 m_topn2 v1_28x m_at_28x m_wrong_28x m_newMoney_28x = some (r, w_m_typed, w_m_thrown, w_m_length, w_m_top, w_m_at, w_m_wrong, w_m_money, w_m_newMoney) → zJ l zW 4 mX12_prizes σ ([(3470, (0 : Int32)), (3473, (0 : Int32)), (3474, (nI 64)), (3475, m_lengthn1), (3476, m_topn2), (3477, m_at_28x), (3478, m_wrong_28x)], [(63, m_money), (64, m_text), (68, m_newMoney_28x)], []) 80 [(0, .ref 54), (1, .int v1_28x)] [] (some (.int r)) ([(3470, w_m_typed), (3473, w_m_thrown), (3474, (nI 64)), (3475, w_m_length), (3476, w_m_top), (3477, w_m_at), (3478, w_m_wrong)], [(63, w_m_money), (64, m_text), (68, w_m_newMoney)], []) := by
    intro v1_28x m_at_28x m_wrong_28x m_newMoney_28x h
    unfold k_X12_prizes_28 at h
    refine zJ_aload_n dX12_prizes_80 rfl rfl ?_
    refine zJ_geti (mi := mX12_prizes) (x := m_at_28x) dX12_prizes_81 F_X12_151 zW_54 rfl rfl rfl ?_
    refine zJ_aload_n dX12_prizes_84 rfl rfl ?_
    refine zJ_geti (mi := mX12_prizes) (x := m_lengthn1) dX12_prizes_85 F_X12_145 zW_54 rfl rfl rfl ?_
    have hj_X12_prizes_99 : ∀ (m_wrong_99j : Int32), j_X12_prizes_99 m_money m_lengthn1 m_topn2 v1_28x m_at_28x m_newMoney_28x m_wrong_99j = some (r, w_m_typed, w_m_thrown, w_m_length, w_m_top, w_m_at, w_m_wrong, w_m_money, w_m_newMoney) → zJ l zW 4 mX12_prizes σ ([(3470, (0 : Int32)), (3473, (0 : Int32)), (3474, (nI 64)), (3475, m_lengthn1), (3476, m_topn2), (3477, m_at_28x), (3478, m_wrong_99j)], [(63, m_money), (64, m_text), (68, m_newMoney_28x)], []) 99 [(0, .ref 54), (1, .int v1_28x)] [] (some (.int r)) ([(3470, w_m_typed), (3473, w_m_thrown), (3474, (nI 64)), (3475, w_m_length), (3476, w_m_top), (3477, w_m_at), (3478, w_m_wrong)], [(63, w_m_money), (64, m_text), (68, w_m_newMoney)], []) := by
      intro m_wrong_99j h
      unfold j_X12_prizes_99 at h
      refine zJ_aload_n dX12_prizes_99 rfl rfl ?_
      obtain ⟨rn5, hcl, h⟩ := bd1_some h
      refine zJ_callV2 (σ := σ) (L := ([(3470, (0 : Int32)), (3473, (0 : Int32)), (3474, (nI 64)), (3475, m_lengthn1), (3476, m_topn2), (3477, m_at_28x), (3478, m_wrong_99j)], [(63, m_money), (64, m_text), (68, m_newMoney_28x)], [])) (mi := mX12_prizes) (yi := mX12_fine) (as := []) (st := []) (L2 := ([(3470, (0 : Int32)), (3473, (0 : Int32)), (3474, (nI 64)), (3475, m_lengthn1), (3476, m_topn2), (3477, m_at_28x), (3478, m_wrong_99j)], [(63, m_money), (64, m_text), (68, m_newMoney_28x)], [])) dX12_prizes_100 ML_X12_157 Yv_X12_fine rfl zW_54 rfl rfl (t_X12_fine l _ hcl) (zsub_i (zle_c rfl zle_n) zle_n zle_n) (zjok_i rfl rfl (zle_c rfl (zle_c rfl (zle_c rfl (zle_c rfl (zle_c rfl (zle_c rfl (zle_c rfl zle_n))))))) rfl rfl (zle_c rfl (zle_c rfl (zle_c rfl zle_n))) rfl rfl zle_n) (Nat.le_of_ble_eq_true rfl) (Nat.le_of_ble_eq_true rfl) rfl rfl ?_
      refine zJ_if_ne (tgt := 113) dX12_prizes_103 (by decide) rfl (fun hc => ?_) (fun hc => ?_)
      · replace h := it_f hc h
        refine zJ_iconst dX12_prizes_113 zc_0 rfl ?_
        refine zJ_istore_n (ls' := [(3, .int (0 : Int32)), (0, .ref 54), (1, .int v1_28x)]) dX12_prizes_114 rfl rfl rfl ?_
        have hk115 : ∀ (m_money_115x : (Nat → Int32)), k_X12_prizes_115 m_lengthn1 m_topn2 v1_28x m_at_28x m_newMoney_28x m_wrong_99j m_money_115x = some (r, w_m_typed, w_m_thrown, w_m_length, w_m_top, w_m_at, w_m_wrong, w_m_money, w_m_newMoney) → zJ l zW 4 mX12_prizes σ ([(3470, (0 : Int32)), (3473, (0 : Int32)), (3474, (nI 64)), (3475, m_lengthn1), (3476, m_topn2), (3477, m_at_28x), (3478, m_wrong_99j)], [(63, m_money_115x), (64, m_text), (68, m_newMoney_28x)], []) 148 [(1, .int v1_28x)] [] (some (.int r)) ([(3470, w_m_typed), (3473, w_m_thrown), (3474, (nI 64)), (3475, w_m_length), (3476, w_m_top), (3477, w_m_at), (3478, w_m_wrong)], [(63, w_m_money), (64, m_text), (68, w_m_newMoney)], []) := by
          intro m_money_115x h
          unfold k_X12_prizes_115 at h
          refine zJ_iload_n dX12_prizes_148 rfl rfl ?_
          obtain ⟨rfl, rfl, rfl, rfl, rfl, rfl, rfl, rfl, rfl⟩ := so9 h
          exact zJ_iret dX12_prizes_149 rfl rfl
        refine zJ_loc (ls' := [(0, .ref 54), (1, .int v1_28x), (3, .int (0 : Int32))]) (zll_c rfl (zll_c rfl (zll_c rfl zll_n))) ?_
        refine ml2_J (fun (v3_115 : Int32) (m_money_115 : (Nat → Int32)) => zJ l zW 4 mX12_prizes σ ([(3470, (0 : Int32)), (3473, (0 : Int32)), (3474, (nI 64)), (3475, m_lengthn1), (3476, m_topn2), (3477, m_at_28x), (3478, m_wrong_99j)], [(63, m_money_115), (64, m_text), (68, m_newMoney_28x)], []) 115 [(0, .ref 54), (1, .int v1_28x), (3, .int v3_115)] [] (some (.int r)) ([(3470, w_m_typed), (3473, w_m_thrown), (3474, (nI 64)), (3475, w_m_length), (3476, w_m_top), (3477, w_m_at), (3478, w_m_wrong)], [(63, w_m_money), (64, m_text), (68, w_m_newMoney)], [])) (fun rc115 hrc115 v3_115 m_money_115 h => ?_) zN _ _ h
        unfold s_X12_prizes_115 at h
        refine zJ_iload_n dX12_prizes_115 rfl rfl ?_
        refine zJ_bipush dX12_prizes_116 zb_6 rfl ?_
        refine zJ_icmp_ge (tgt := 148) dX12_prizes_118 (by decide) rfl (fun hc => ?_) (fun hc => ?_)
        · replace h := it_t hc h
          refine zJ_loc (ls' := [(1, .int v1_28x)]) (zll_c rfl zll_n) ?_
          exact hk115 _ h
        · replace h := it_f hc h
          refine zJ_aload_n dX12_prizes_121 rfl rfl ?_
          refine zJ_getr (mi := mX12_prizes) dX12_prizes_122 F_X12_38 zW_54 rfl rfl ?_
          refine zJ_iload_n dX12_prizes_125 rfl rfl ?_
          refine zJ_iload_n dX12_prizes_126 rfl rfl ?_
          refine zJ_iload_n dX12_prizes_127 rfl rfl ?_
          refine zJ_icmp_ge (tgt := 140) dX12_prizes_128 (by decide) rfl (fun hc => ?_) (fun hc => ?_)
          · replace h := it_t hc h
            refine zJ_iconst dX12_prizes_140 zc_0 rfl ?_
            obtain ⟨hg, h⟩ := gd_some h
            refine zK_iast (mi := mX12_prizes) (f := m_money_115) (lb' := [(63, (upd m_money_115 v3_115.toNatClampNeg (0 : Int32))), (64, m_text), (68, m_newMoney_28x)]) dX12_prizes_141 zW_63 (ix_in hg) rfl rfl rfl ?_
            obtain ⟨v3n6, ev3n6, h⟩ := lt1_some h
            refine zJ_iincN (ls' := [(3, .int v3n6), (0, .ref 54), (1, .int v1_28x)]) dX12_prizes_142 rfl rfl zc_1 ev3n6 rfl rfl ?_
            refine zJ_goto (tgt := 115) dX12_prizes_145 (by decide) ?_
            refine zJ_loc (ls' := [(0, .ref 54), (1, .int v1_28x), (3, .int v3n6)]) (zll_c rfl (zll_c rfl (zll_c rfl zll_n))) ?_
            exact hrc115 _ _ h
          · replace h := it_f hc h
            refine zJ_aload_n dX12_prizes_131 rfl rfl ?_
            refine zJ_getr (mi := mX12_prizes) dX12_prizes_132 F_X12_55 zW_54 rfl rfl ?_
            refine zJ_iload_n dX12_prizes_135 rfl rfl ?_
            obtain ⟨hg, h⟩ := gd_some h
            refine zJ_iald (mi := mX12_prizes) (f := m_newMoney_28x) dX12_prizes_136 zW_68 (ix_in hg) rfl rfl ?_
            refine zJ_goto (tgt := 141) dX12_prizes_137 (by decide) ?_
            obtain ⟨hg, h⟩ := gd_some h
            refine zK_iast (mi := mX12_prizes) (f := m_money_115) (lb' := [(63, (upd m_money_115 v3_115.toNatClampNeg (m_newMoney_28x v3_115.toNatClampNeg))), (64, m_text), (68, m_newMoney_28x)]) dX12_prizes_141 zW_63 (ix_in hg) rfl rfl rfl ?_
            obtain ⟨v3n7, ev3n7, h⟩ := lt1_some h
            refine zJ_iincN (ls' := [(3, .int v3n7), (0, .ref 54), (1, .int v1_28x)]) dX12_prizes_142 rfl rfl zc_1 ev3n7 rfl rfl ?_
            refine zJ_goto (tgt := 115) dX12_prizes_145 (by decide) ?_
            refine zJ_loc (ls' := [(0, .ref 54), (1, .int v1_28x), (3, .int v3n7)]) (zll_c rfl (zll_c rfl (zll_c rfl zll_n))) ?_
            exact hrc115 _ _ h
      · replace h := it_t hc h
        refine zJ_iconst dX12_prizes_106 zc_m1 rfl ?_
        refine zJ_aload_n dX12_prizes_107 rfl rfl ?_
        refine zJ_geti (mi := mX12_prizes) (x := m_wrong_99j) dX12_prizes_108 F_X12_154 zW_54 rfl rfl rfl ?_
        refine zJ_isub dX12_prizes_111 rfl ?_
        obtain ⟨rfl, rfl, rfl, rfl, rfl, rfl, rfl, rfl, rfl⟩ := so9 h
        exact zJ_iret dX12_prizes_112 rfl rfl
    refine zJ_icmp_ge (tgt := 99) dX12_prizes_88 (by decide) rfl (fun hc => ?_) (fun hc => ?_)
    · replace h := it_t hc h
      refine zJ_loc (ls' := [(0, .ref 54), (1, .int v1_28x)]) (zll_c rfl (zll_c rfl zll_n)) ?_
      exact hj_X12_prizes_99 _ h
    · replace h := it_f hc h
      refine zJ_aload_n dX12_prizes_91 rfl rfl ?_
      refine zJ_aload_n dX12_prizes_92 rfl rfl ?_
      refine zJ_geti (mi := mX12_prizes) (x := m_at_28x) dX12_prizes_93 F_X12_151 zW_54 rfl rfl rfl ?_
      obtain ⟨m_wrongn8, hcl, h⟩ := bd1_some h
      refine zJ_callV2 (σ := σ) (L := ([(3470, (0 : Int32)), (3473, (0 : Int32)), (3474, (nI 64)), (3475, m_lengthn1), (3476, m_topn2), (3477, m_at_28x), (3478, m_wrong_28x)], [(63, m_money), (64, m_text), (68, m_newMoney_28x)], [])) (mi := mX12_prizes) (yi := mX12_fault) (as := [.int m_at_28x]) (st := []) (L2 := ([(3470, (0 : Int32)), (3473, (0 : Int32)), (3474, (nI 64)), (3475, m_lengthn1), (3476, m_topn2), (3477, m_at_28x), (3478, m_wrongn8)], [(63, m_money), (64, m_text), (68, m_newMoney_28x)], [])) dX12_prizes_96 ML_X12_169 Yv_X12_fault rfl zW_54 rfl rfl (t_X12_fault l _ hcl) (zsub_i (zle_c rfl zle_n) zle_n zle_n) (zjok_i rfl rfl (zle_c rfl (zle_c rfl (zle_c rfl (zle_c rfl (zle_c rfl (zle_c rfl (zle_c rfl zle_n))))))) rfl rfl (zle_c rfl (zle_c rfl (zle_c rfl zle_n))) rfl rfl zle_n) (Nat.le_of_ble_eq_true rfl) (Nat.le_of_ble_eq_true rfl) rfl rfl ?_
      refine zJ_loc (ls' := [(0, .ref 54), (1, .int v1_28x)]) (zll_c rfl (zll_c rfl zll_n)) ?_
      exact hj_X12_prizes_99 _ h
  refine zJ_loc (ls' := [(0, .ref 54), (1, .int (0 : Int32)), (2, .int (1 : Int32))]) (zll_c rfl (zll_c rfl (zll_c rfl zll_n))) ?_
  refine ml5_J (fun (v1_28 : Int32) (v2_28 : Int32) (m_at_28 : Int32) (m_wrong_28 : Int32) (m_newMoney_28 : (Nat → Int32)) => zJ l zW 4 mX12_prizes σ ([(3470, (0 : Int32)), (3473, (0 : Int32)), (3474, (nI 64)), (3475, m_lengthn1), (3476, m_topn2), (3477, m_at_28), (3478, m_wrong_28)], [(63, m_money), (64, m_text), (68, m_newMoney_28)], []) 28 [(0, .ref 54), (1, .int v1_28), (2, .int v2_28)] [] (some (.int r)) ([(3470, w_m_typed), (3473, w_m_thrown), (3474, (nI 64)), (3475, w_m_length), (3476, w_m_top), (3477, w_m_at), (3478, w_m_wrong)], [(63, w_m_money), (64, m_text), (68, w_m_newMoney)], [])) (fun rc28 hrc28 v1_28 v2_28 m_at_28 m_wrong_28 m_newMoney_28 h => ?_) zN _ _ _ _ _ h
  unfold s_X12_prizes_28 at h
  refine zJ_iload_n dX12_prizes_28 rfl rfl ?_
  refine zJ_if_eq (tgt := 80) dX12_prizes_29 (by decide) rfl (fun hc => ?_) (fun hc => ?_)
  · replace h := it_t hc h
    refine zJ_loc (ls' := [(0, .ref 54), (1, .int v1_28)]) (zll_c rfl (zll_c rfl zll_n)) ?_
    exact hk28 _ _ _ _ h
  · replace h := it_f hc h
    refine zJ_aload_n dX12_prizes_32 rfl rfl ?_
    obtain ⟨rn9, hcl, h⟩ := bd1_some h
    refine zJ_callV2 (σ := σ) (L := ([(3470, (0 : Int32)), (3473, (0 : Int32)), (3474, (nI 64)), (3475, m_lengthn1), (3476, m_topn2), (3477, m_at_28), (3478, m_wrong_28)], [(63, m_money), (64, m_text), (68, m_newMoney_28)], [])) (mi := mX12_prizes) (yi := mX12_fine) (as := []) (st := []) (L2 := ([(3470, (0 : Int32)), (3473, (0 : Int32)), (3474, (nI 64)), (3475, m_lengthn1), (3476, m_topn2), (3477, m_at_28), (3478, m_wrong_28)], [(63, m_money), (64, m_text), (68, m_newMoney_28)], [])) dX12_prizes_33 ML_X12_157 Yv_X12_fine rfl zW_54 rfl rfl (t_X12_fine l _ hcl) (zsub_i (zle_c rfl zle_n) zle_n zle_n) (zjok_i rfl rfl (zle_c rfl (zle_c rfl (zle_c rfl (zle_c rfl (zle_c rfl (zle_c rfl (zle_c rfl zle_n))))))) rfl rfl (zle_c rfl (zle_c rfl (zle_c rfl zle_n))) rfl rfl zle_n) (Nat.le_of_ble_eq_true rfl) (Nat.le_of_ble_eq_true rfl) rfl rfl ?_
    refine zJ_if_eq (tgt := 80) dX12_prizes_36 (by decide) rfl (fun hc => ?_) (fun hc => ?_)
    · replace h := it_t hc h
      refine zJ_loc (ls' := [(0, .ref 54), (1, .int v1_28)]) (zll_c rfl (zll_c rfl zll_n)) ?_
      exact hk28 _ _ _ _ h
    · replace h := it_f hc h
      refine zJ_iload_n dX12_prizes_39 rfl rfl ?_
      refine zJ_bipush dX12_prizes_40 zb_6 rfl ?_
      refine zJ_icmp_ne (tgt := 56) dX12_prizes_42 (by decide) rfl (fun hc => ?_) (fun hc => ?_)
      · replace h := it_f hc h
        refine zJ_aload_n dX12_prizes_56 rfl rfl ?_
        refine zJ_getr (mi := mX12_prizes) dX12_prizes_57 F_X12_55 zW_54 rfl rfl ?_
        refine zJ_iload_n dX12_prizes_60 rfl rfl ?_
        refine zJ_aload_n dX12_prizes_61 rfl rfl ?_
        refine zJ_iconst dX12_prizes_62 zc_2 rfl ?_
        obtain ⟨rn10, m_atn11, m_wrongn12, hcl, h⟩ := bd3_some h
        refine zJ_callV2 (σ := σ) (L := ([(3470, (0 : Int32)), (3473, (0 : Int32)), (3474, (nI 64)), (3475, m_lengthn1), (3476, m_topn2), (3477, m_at_28), (3478, m_wrong_28)], [(63, m_money), (64, m_text), (68, m_newMoney_28)], [])) (mi := mX12_prizes) (yi := mX12_number) (as := [.int (2 : Int32)]) (st := [.int v1_28, .ref 68]) (L2 := ([(3470, (0 : Int32)), (3473, (0 : Int32)), (3474, (nI 64)), (3475, m_lengthn1), (3476, m_topn2), (3477, m_atn11), (3478, m_wrongn12)], [(63, m_money), (64, m_text), (68, m_newMoney_28)], [])) dX12_prizes_63 ML_X12_198 Yv_X12_number rfl zW_54 rfl rfl (t_X12_number_t l _ hcl) (zsub_i (zle_c rfl (zle_c rfl (zle_c rfl (zle_c rfl (zle_c rfl zle_n))))) (zle_c rfl zle_n) zle_n) (zjok_i rfl rfl (zle_c rfl (zle_c rfl (zle_c rfl (zle_c rfl (zle_c rfl (zle_c rfl (zle_c rfl zle_n))))))) rfl rfl (zle_c rfl (zle_c rfl (zle_c rfl zle_n))) rfl rfl zle_n) (Nat.le_of_ble_eq_true rfl) (Nat.le_of_ble_eq_true rfl) rfl rfl ?_
        obtain ⟨hg, h⟩ := gd_some h
        refine zK_iast (mi := mX12_prizes) (f := m_newMoney_28) (lb' := [(63, m_money), (64, m_text), (68, (upd m_newMoney_28 v1_28.toNatClampNeg rn10))]) dX12_prizes_66 zW_68 (ix_in hg) rfl rfl rfl ?_
        obtain ⟨v1n13, ev1n13, h⟩ := lt1_some h
        refine zJ_iincN (ls' := [(1, .int v1n13), (0, .ref 54), (2, .int v2_28)]) dX12_prizes_67 rfl rfl zc_1 ev1n13 rfl rfl ?_
        refine zJ_aload_n dX12_prizes_70 rfl rfl ?_
        refine zJ_bipush dX12_prizes_71 zb_44 rfl ?_
        obtain ⟨rn14, m_atn15, hcl, h⟩ := bd2_some h
        refine zJ_callV2 (σ := σ) (L := ([(3470, (0 : Int32)), (3473, (0 : Int32)), (3474, (nI 64)), (3475, m_lengthn1), (3476, m_topn2), (3477, m_atn11), (3478, m_wrongn12)], [(63, m_money), (64, m_text), (68, (upd m_newMoney_28 v1_28.toNatClampNeg rn10))], [])) (mi := mX12_prizes) (yi := mX12_passes) (as := [.int (44 : Int32)]) (st := []) (L2 := ([(3470, (0 : Int32)), (3473, (0 : Int32)), (3474, (nI 64)), (3475, m_lengthn1), (3476, m_topn2), (3477, m_atn15), (3478, m_wrongn12)], [(63, m_money), (64, m_text), (68, (upd m_newMoney_28 v1_28.toNatClampNeg rn10))], [])) dX12_prizes_73 ML_X12_165 Yv_X12_passes rfl zW_54 rfl rfl (t_X12_passes_t l _ hcl) (zsub_i (zle_c rfl (zle_c rfl (zle_c rfl (zle_c rfl (zle_c rfl zle_n))))) (zle_c rfl zle_n) zle_n) (zjok_i rfl rfl (zle_c rfl (zle_c rfl (zle_c rfl (zle_c rfl (zle_c rfl (zle_c rfl (zle_c rfl zle_n))))))) rfl rfl (zle_c rfl (zle_c rfl (zle_c rfl zle_n))) rfl rfl zle_n) (Nat.le_of_ble_eq_true rfl) (Nat.le_of_ble_eq_true rfl) rfl rfl ?_
        refine zJ_istore_n (ls' := [(2, .int rn14), (1, .int v1n13), (0, .ref 54)]) dX12_prizes_76 rfl rfl rfl ?_
        refine zJ_goto (tgt := 28) dX12_prizes_77 (by decide) ?_
        refine zJ_loc (ls' := [(0, .ref 54), (1, .int v1n13), (2, .int rn14)]) (zll_c rfl (zll_c rfl (zll_c rfl zll_n))) ?_
        exact hrc28 _ _ _ _ _ h
      · replace h := it_t hc h
        refine zJ_aload_n dX12_prizes_45 rfl rfl ?_
        refine zJ_aload_n dX12_prizes_46 rfl rfl ?_
        refine zJ_geti (mi := mX12_prizes) (x := m_at_28) dX12_prizes_47 F_X12_151 zW_54 rfl rfl rfl ?_
        obtain ⟨m_wrongn16, hcl, h⟩ := bd1_some h
        refine zJ_callV2 (σ := σ) (L := ([(3470, (0 : Int32)), (3473, (0 : Int32)), (3474, (nI 64)), (3475, m_lengthn1), (3476, m_topn2), (3477, m_at_28), (3478, m_wrong_28)], [(63, m_money), (64, m_text), (68, m_newMoney_28)], [])) (mi := mX12_prizes) (yi := mX12_fault) (as := [.int m_at_28]) (st := []) (L2 := ([(3470, (0 : Int32)), (3473, (0 : Int32)), (3474, (nI 64)), (3475, m_lengthn1), (3476, m_topn2), (3477, m_at_28), (3478, m_wrongn16)], [(63, m_money), (64, m_text), (68, m_newMoney_28)], [])) dX12_prizes_50 ML_X12_169 Yv_X12_fault rfl zW_54 rfl rfl (t_X12_fault l _ hcl) (zsub_i (zle_c rfl zle_n) zle_n zle_n) (zjok_i rfl rfl (zle_c rfl (zle_c rfl (zle_c rfl (zle_c rfl (zle_c rfl (zle_c rfl (zle_c rfl zle_n))))))) rfl rfl (zle_c rfl (zle_c rfl (zle_c rfl zle_n))) rfl rfl zle_n) (Nat.le_of_ble_eq_true rfl) (Nat.le_of_ble_eq_true rfl) rfl rfl ?_
        refine zJ_goto (tgt := 67) dX12_prizes_53 (by decide) ?_
        obtain ⟨v1n17, ev1n17, h⟩ := lt1_some h
        refine zJ_iincN (ls' := [(1, .int v1n17), (0, .ref 54), (2, .int v2_28)]) dX12_prizes_67 rfl rfl zc_1 ev1n17 rfl rfl ?_
        refine zJ_aload_n dX12_prizes_70 rfl rfl ?_
        refine zJ_bipush dX12_prizes_71 zb_44 rfl ?_
        obtain ⟨rn18, m_atn19, hcl, h⟩ := bd2_some h
        refine zJ_callV2 (σ := σ) (L := ([(3470, (0 : Int32)), (3473, (0 : Int32)), (3474, (nI 64)), (3475, m_lengthn1), (3476, m_topn2), (3477, m_at_28), (3478, m_wrongn16)], [(63, m_money), (64, m_text), (68, m_newMoney_28)], [])) (mi := mX12_prizes) (yi := mX12_passes) (as := [.int (44 : Int32)]) (st := []) (L2 := ([(3470, (0 : Int32)), (3473, (0 : Int32)), (3474, (nI 64)), (3475, m_lengthn1), (3476, m_topn2), (3477, m_atn19), (3478, m_wrongn16)], [(63, m_money), (64, m_text), (68, m_newMoney_28)], [])) dX12_prizes_73 ML_X12_165 Yv_X12_passes rfl zW_54 rfl rfl (t_X12_passes_t l _ hcl) (zsub_i (zle_c rfl (zle_c rfl (zle_c rfl (zle_c rfl (zle_c rfl zle_n))))) (zle_c rfl zle_n) zle_n) (zjok_i rfl rfl (zle_c rfl (zle_c rfl (zle_c rfl (zle_c rfl (zle_c rfl (zle_c rfl (zle_c rfl zle_n))))))) rfl rfl (zle_c rfl (zle_c rfl (zle_c rfl zle_n))) rfl rfl zle_n) (Nat.le_of_ble_eq_true rfl) (Nat.le_of_ble_eq_true rfl) rfl rfl ?_
        refine zJ_istore_n (ls' := [(2, .int rn18), (1, .int v1n17), (0, .ref 54)]) dX12_prizes_76 rfl rfl rfl ?_
        refine zJ_goto (tgt := 28) dX12_prizes_77 (by decide) ?_
        refine zJ_loc (ls' := [(0, .ref 54), (1, .int v1n17), (2, .int rn18)]) (zll_c rfl (zll_c rfl (zll_c rfl zll_n))) ?_
        exact hrc28 _ _ _ _ _ h
set_option maxRecDepth 100000 in
set_option maxHeartbeats 4000000 in
theorem t_X12_quick (l : Launch) (σ : zS) {p1 : Int32} {p2 : Int32} {m_fences : Int32} {m_horses : Int32} {m_rowMany : Int32} {m_thrown : Int32} {m_read : Int32} {m_length : Int32} {m_top : Int32} {m_at : Int32} {m_wrong : Int32} {m_ruleSize : Int32} {m_isAsked : Int32} {m_askedHorse : Int32} {m_askedFence : Int32} {m_askedLetter : Int32} {m_askedHeight : Int32} {m_kind : (Nat → Int32)} {m_height : (Nat → Int32)} {m_feet : (Nat → Int32)} {m_stride : (Nat → Int32)} {m_scope : (Nat → Int32)} {m_care : (Nat → Int32)} {m_rule : (Nat → Int32)} {m_left : (Nat → Int32)} {m_spent : (Nat → Int32)} {m_little : (Nat → Int32)} {m_row : (Nat → Int64)} {r : Int32} {w_m_rowMany : Int32} {w_m_thrown : Int32} {w_m_read : Int32} {w_m_length : Int32} {w_m_top : Int32} {w_m_at : Int32} {w_m_wrong : Int32} {w_m_isAsked : Int32} {w_m_askedHorse : Int32} {w_m_askedFence : Int32} {w_m_askedLetter : Int32} {w_m_askedHeight : Int32} {w_m_left : (Nat → Int32)} {w_m_spent : (Nat → Int32)} {w_m_little : (Nat → Int32)} {w_m_row : (Nat → Int64)} (h : f_X12_quick p1 p2 m_fences m_horses m_rowMany m_thrown m_read m_length m_top m_at m_wrong m_ruleSize m_isAsked m_askedHorse m_askedFence m_askedLetter m_askedHeight m_kind m_height m_feet m_stride m_scope m_care m_rule m_left m_spent m_little m_row = some (r, w_m_rowMany, w_m_thrown, w_m_read, w_m_length, w_m_top, w_m_at, w_m_wrong, w_m_isAsked, w_m_askedHorse, w_m_askedFence, w_m_askedLetter, w_m_askedHeight, w_m_left, w_m_spent, w_m_little, w_m_row)) : zMt l zW 208 mX12_quick σ ([(3457, m_fences), (3462, m_horses), (3472, m_rowMany), (3473, m_thrown), (3474, m_read), (3475, m_length), (3476, m_top), (3477, m_at), (3478, m_wrong), (3483, m_ruleSize), (3484, m_isAsked), (3485, m_askedHorse), (3486, m_askedFence), (3487, m_askedLetter), (3488, m_askedHeight)], [(56, m_kind), (57, m_height), (58, m_feet), (59, m_stride), (60, m_scope), (61, m_care), (69, m_rule), (71, m_left), (72, m_spent), (73, m_little)], [(65, m_row)]) [.ref 54, .int p1, .int p2] (some (.int r)) ([(3457, m_fences), (3462, m_horses), (3472, w_m_rowMany), (3473, w_m_thrown), (3474, w_m_read), (3475, w_m_length), (3476, w_m_top), (3477, w_m_at), (3478, w_m_wrong), (3483, m_ruleSize), (3484, w_m_isAsked), (3485, w_m_askedHorse), (3486, w_m_askedFence), (3487, w_m_askedLetter), (3488, w_m_askedHeight)], [(56, m_kind), (57, m_height), (58, m_feet), (59, m_stride), (60, m_scope), (61, m_care), (69, m_rule), (71, w_m_left), (72, w_m_spent), (73, w_m_little)], [(65, w_m_row)]) := by
  refine zMt_of (ls := [(0, .ref 54), (1, .int p1), (2, .int p2)]) (by decide) rfl (fun _ => Nat.le_of_ble_eq_true rfl) rfl ?_
  unfold f_X12_quick at h
  refine zJ_aload_n dX12_quick_0 rfl rfl ?_
  refine zJ_iconst dX12_quick_1 zc_0 rfl ?_
  refine zK_puti (mi := mX12_quick) (la' := [(3457, m_fences), (3462, m_horses), (3472, m_rowMany), (3473, (0 : Int32)), (3474, m_read), (3475, m_length), (3476, m_top), (3477, m_at), (3478, m_wrong), (3483, m_ruleSize), (3484, m_isAsked), (3485, m_askedHorse), (3486, m_askedFence), (3487, m_askedLetter), (3488, m_askedHeight)]) zW_ok dX12_quick_2 F_X12_113 P_12_17 zW_54 rfl rfl rfl ?_
  refine zJ_aload_n dX12_quick_5 rfl rfl ?_
  refine zJ_iload_n dX12_quick_6 rfl rfl ?_
  obtain ⟨rn1, hcl, h⟩ := bd1_some h
  refine zJ_callV2 (σ := σ) (L := ([(3457, m_fences), (3462, m_horses), (3472, m_rowMany), (3473, (0 : Int32)), (3474, m_read), (3475, m_length), (3476, m_top), (3477, m_at), (3478, m_wrong), (3483, m_ruleSize), (3484, m_isAsked), (3485, m_askedHorse), (3486, m_askedFence), (3487, m_askedLetter), (3488, m_askedHeight)], [(56, m_kind), (57, m_height), (58, m_feet), (59, m_stride), (60, m_scope), (61, m_care), (69, m_rule), (71, m_left), (72, m_spent), (73, m_little)], [(65, m_row)])) (mi := mX12_quick) (yi := mX12_isHorse) (as := [.int p1]) (st := []) (L2 := ([(3457, m_fences), (3462, m_horses), (3472, m_rowMany), (3473, (0 : Int32)), (3474, m_read), (3475, m_length), (3476, m_top), (3477, m_at), (3478, m_wrong), (3483, m_ruleSize), (3484, m_isAsked), (3485, m_askedHorse), (3486, m_askedFence), (3487, m_askedLetter), (3488, m_askedHeight)], [(56, m_kind), (57, m_height), (58, m_feet), (59, m_stride), (60, m_scope), (61, m_care), (69, m_rule), (71, m_left), (72, m_spent), (73, m_little)], [(65, m_row)])) dX12_quick_7 ML_X12_132 Yv_X12_isHorse rfl zW_54 rfl rfl (t_X12_isHorse l _ hcl) (zsub_i (zle_c rfl zle_n) zle_n zle_n) (zjok_i rfl rfl (zle_c rfl (zle_c rfl (zle_c rfl (zle_c rfl (zle_c rfl (zle_c rfl (zle_c rfl (zle_c rfl (zle_c rfl (zle_c rfl (zle_c rfl (zle_c rfl (zle_c rfl (zle_c rfl (zle_c rfl zle_n))))))))))))))) rfl rfl (zle_c rfl (zle_c rfl (zle_c rfl (zle_c rfl (zle_c rfl (zle_c rfl (zle_c rfl (zle_c rfl (zle_c rfl (zle_c rfl zle_n)))))))))) rfl rfl (zle_c rfl zle_n)) (Nat.le_of_ble_eq_true rfl) (Nat.le_of_ble_eq_true rfl) rfl rfl ?_
  refine zJ_if_eq (tgt := 20) dX12_quick_10 (by decide) rfl (fun hc => ?_) (fun hc => ?_)
  · replace h := it_t hc h
    refine zJ_iconst dX12_quick_20 zc_m1 rfl ?_
    obtain ⟨rfl, rfl, rfl, rfl, rfl, rfl, rfl, rfl, rfl, rfl, rfl, rfl, rfl, rfl, rfl, rfl, rfl⟩ := so17 h
    exact zJ_iret dX12_quick_21 rfl rfl
  · replace h := it_f hc h
    refine zJ_iload_n dX12_quick_13 rfl rfl ?_
    obtain ⟨rn2, hcl, h⟩ := bd1_some h
    refine zJ_callS2 (σ := σ) (L := ([(3457, m_fences), (3462, m_horses), (3472, m_rowMany), (3473, (0 : Int32)), (3474, m_read), (3475, m_length), (3476, m_top), (3477, m_at), (3478, m_wrong), (3483, m_ruleSize), (3484, m_isAsked), (3485, m_askedHorse), (3486, m_askedFence), (3487, m_askedLetter), (3488, m_askedHeight)], [(56, m_kind), (57, m_height), (58, m_feet), (59, m_stride), (60, m_scope), (61, m_care), (69, m_rule), (71, m_left), (72, m_spent), (73, m_little)], [(65, m_row)])) (mi := mX12_quick) (yi := mX12_isMost) (as := [.int p2]) (st := []) (L2 := ([(3457, m_fences), (3462, m_horses), (3472, m_rowMany), (3473, (0 : Int32)), (3474, m_read), (3475, m_length), (3476, m_top), (3477, m_at), (3478, m_wrong), (3483, m_ruleSize), (3484, m_isAsked), (3485, m_askedHorse), (3486, m_askedFence), (3487, m_askedLetter), (3488, m_askedHeight)], [(56, m_kind), (57, m_height), (58, m_feet), (59, m_stride), (60, m_scope), (61, m_care), (69, m_rule), (71, m_left), (72, m_spent), (73, m_little)], [(65, m_row)])) dX12_quick_14 ML_X12_256 Ys_X12_isMost rfl (t_X12_isMost l _ hcl) (zsub_i zle_n zle_n zle_n) (zjok_i rfl rfl (zle_c rfl (zle_c rfl (zle_c rfl (zle_c rfl (zle_c rfl (zle_c rfl (zle_c rfl (zle_c rfl (zle_c rfl (zle_c rfl (zle_c rfl (zle_c rfl (zle_c rfl (zle_c rfl (zle_c rfl zle_n))))))))))))))) rfl rfl (zle_c rfl (zle_c rfl (zle_c rfl (zle_c rfl (zle_c rfl (zle_c rfl (zle_c rfl (zle_c rfl (zle_c rfl (zle_c rfl zle_n)))))))))) rfl rfl (zle_c rfl zle_n)) (Nat.le_of_ble_eq_true rfl) (Nat.le_of_ble_eq_true rfl) rfl rfl ?_
    refine zJ_if_ne (tgt := 22) dX12_quick_17 (by decide) rfl (fun hc => ?_) (fun hc => ?_)
    · replace h := it_f hc h
      refine zJ_aload_n dX12_quick_22 rfl rfl ?_
      refine zJ_iload_n dX12_quick_23 rfl rfl ?_
      refine zJ_iconst dX12_quick_24 zc_0 rfl ?_
      obtain ⟨m_readn3, m_lengthn4, m_topn5, m_atn6, m_wrongn7, m_isAskedn8, m_askedHorsen9, m_askedFencen10, m_askedLettern11, m_askedHeightn12, m_spentn13, m_littlen14, hcl, h⟩ := bd12_some h
      refine zJ_callV2 (σ := σ) (L := ([(3457, m_fences), (3462, m_horses), (3472, m_rowMany), (3473, (0 : Int32)), (3474, m_read), (3475, m_length), (3476, m_top), (3477, m_at), (3478, m_wrong), (3483, m_ruleSize), (3484, m_isAsked), (3485, m_askedHorse), (3486, m_askedFence), (3487, m_askedLetter), (3488, m_askedHeight)], [(56, m_kind), (57, m_height), (58, m_feet), (59, m_stride), (60, m_scope), (61, m_care), (69, m_rule), (71, m_left), (72, m_spent), (73, m_little)], [(65, m_row)])) (mi := mX12_quick) (yi := mX12_layFences) (as := [.int p1, .int (0 : Int32)]) (st := []) (L2 := ([(3457, m_fences), (3462, m_horses), (3472, m_rowMany), (3473, (0 : Int32)), (3474, m_readn3), (3475, m_lengthn4), (3476, m_topn5), (3477, m_atn6), (3478, m_wrongn7), (3483, m_ruleSize), (3484, m_isAskedn8), (3485, m_askedHorsen9), (3486, m_askedFencen10), (3487, m_askedLettern11), (3488, m_askedHeightn12)], [(56, m_kind), (57, m_height), (58, m_feet), (59, m_stride), (60, m_scope), (61, m_care), (69, m_rule), (71, m_left), (72, m_spentn13), (73, m_littlen14)], [(65, m_row)])) dX12_quick_25 ML_X12_295 Yv_X12_layFences rfl zW_54 rfl rfl (t_X12_layFences l _ hcl) (zsub_i (zle_c rfl (zle_c rfl (zle_c rfl (zle_c rfl (zle_c rfl (zle_c rfl (zle_c rfl (zle_c rfl (zle_c rfl (zle_c rfl (zle_c rfl (zle_c rfl zle_n)))))))))))) (zle_c rfl (zle_c rfl (zle_c rfl (zle_c rfl (zle_c rfl (zle_c rfl (zle_c rfl (zle_c rfl (zle_c rfl zle_n))))))))) zle_n) (zjok_i rfl rfl (zle_c rfl (zle_c rfl (zle_c rfl (zle_c rfl (zle_c rfl (zle_c rfl (zle_c rfl (zle_c rfl (zle_c rfl (zle_c rfl (zle_c rfl (zle_c rfl (zle_c rfl (zle_c rfl (zle_c rfl zle_n))))))))))))))) rfl rfl (zle_c rfl (zle_c rfl (zle_c rfl (zle_c rfl (zle_c rfl (zle_c rfl (zle_c rfl (zle_c rfl (zle_c rfl (zle_c rfl zle_n)))))))))) rfl rfl (zle_c rfl zle_n)) (Nat.le_of_ble_eq_true rfl) (Nat.le_of_ble_eq_true rfl) rfl rfl ?_
      refine zJ_aload_n dX12_quick_28 rfl rfl ?_
      refine zJ_iload_n dX12_quick_29 rfl rfl ?_
      obtain ⟨rn15, m_rowManyn16, m_leftn17, m_rown18, hcl, h⟩ := bd4_some h
      refine zJ_callV2 (σ := σ) (L := ([(3457, m_fences), (3462, m_horses), (3472, m_rowMany), (3473, (0 : Int32)), (3474, m_readn3), (3475, m_lengthn4), (3476, m_topn5), (3477, m_atn6), (3478, m_wrongn7), (3483, m_ruleSize), (3484, m_isAskedn8), (3485, m_askedHorsen9), (3486, m_askedFencen10), (3487, m_askedLettern11), (3488, m_askedHeightn12)], [(56, m_kind), (57, m_height), (58, m_feet), (59, m_stride), (60, m_scope), (61, m_care), (69, m_rule), (71, m_left), (72, m_spentn13), (73, m_littlen14)], [(65, m_row)])) (mi := mX12_quick) (yi := mX12_least) (as := [.int p2]) (st := []) (L2 := ([(3457, m_fences), (3462, m_horses), (3472, m_rowManyn16), (3473, (0 : Int32)), (3474, m_readn3), (3475, m_lengthn4), (3476, m_topn5), (3477, m_atn6), (3478, m_wrongn7), (3483, m_ruleSize), (3484, m_isAskedn8), (3485, m_askedHorsen9), (3486, m_askedFencen10), (3487, m_askedLettern11), (3488, m_askedHeightn12)], [(56, m_kind), (57, m_height), (58, m_feet), (59, m_stride), (60, m_scope), (61, m_care), (69, m_rule), (71, m_leftn17), (72, m_spentn13), (73, m_littlen14)], [(65, m_rown18)])) dX12_quick_30 ML_X12_299 Yv_X12_least rfl zW_54 rfl rfl (t_X12_least l _ hcl) (zsub_i (zle_c rfl (zle_c rfl zle_n)) (zle_c rfl (zle_c rfl (zle_c rfl zle_n))) (zle_c rfl zle_n)) (zjok_i rfl rfl (zle_c rfl (zle_c rfl (zle_c rfl (zle_c rfl (zle_c rfl (zle_c rfl (zle_c rfl (zle_c rfl (zle_c rfl (zle_c rfl (zle_c rfl (zle_c rfl (zle_c rfl (zle_c rfl (zle_c rfl zle_n))))))))))))))) rfl rfl (zle_c rfl (zle_c rfl (zle_c rfl (zle_c rfl (zle_c rfl (zle_c rfl (zle_c rfl (zle_c rfl (zle_c rfl (zle_c rfl zle_n)))))))))) rfl rfl (zle_c rfl zle_n)) (Nat.le_of_ble_eq_true rfl) (Nat.le_of_ble_eq_true rfl) rfl rfl ?_
      obtain ⟨rfl, rfl, rfl, rfl, rfl, rfl, rfl, rfl, rfl, rfl, rfl, rfl, rfl, rfl, rfl, rfl, rfl⟩ := so17 h
      exact zJ_iret dX12_quick_33 rfl rfl
    · replace h := it_t hc h
      refine zJ_iconst dX12_quick_20 zc_m1 rfl ?_
      obtain ⟨rfl, rfl, rfl, rfl, rfl, rfl, rfl, rfl, rfl, rfl, rfl, rfl, rfl, rfl, rfl, rfl, rfl⟩ := so17 h
      exact zJ_iret dX12_quick_21 rfl rfl
set_option maxRecDepth 100000 in
set_option maxHeartbeats 4000000 in
theorem t_X12_raise (l : Launch) (σ : zS) {p1 : Int32} {p2 : Int32} {m_fences : Int32} {m_thrown : Int32} {m_height : (Nat → Int32)} {r : Int32} {w_m_thrown : Int32} {w_m_height : (Nat → Int32)} (h : f_X12_raise p1 p2 m_fences m_thrown m_height = some (r, w_m_thrown, w_m_height)) : zMt l zW 2 mX12_raise σ ([(3457, m_fences), (3473, m_thrown)], [(57, m_height)], []) [.ref 54, .int p1, .int p2] (some (.int r)) ([(3457, m_fences), (3473, w_m_thrown)], [(57, w_m_height)], []) := by
  refine zMt_of (ls := [(0, .ref 54), (1, .int p1), (2, .int p2)]) (by decide) rfl (fun _ => Nat.le_of_ble_eq_true rfl) rfl ?_
  unfold f_X12_raise at h
  refine zJ_aload_n dX12_raise_0 rfl rfl ?_
  refine zJ_iconst dX12_raise_1 zc_0 rfl ?_
  refine zK_puti (mi := mX12_raise) (la' := [(3457, m_fences), (3473, (0 : Int32))]) zW_ok dX12_raise_2 F_X12_113 P_12_17 zW_54 rfl rfl rfl ?_
  refine zJ_aload_n dX12_raise_5 rfl rfl ?_
  refine zJ_iload_n dX12_raise_6 rfl rfl ?_
  obtain ⟨rn1, hcl, h⟩ := bd1_some h
  refine zJ_callV2 (σ := σ) (L := ([(3457, m_fences), (3473, (0 : Int32))], [(57, m_height)], [])) (mi := mX12_raise) (yi := mX12_isFence) (as := [.int p1]) (st := []) (L2 := ([(3457, m_fences), (3473, (0 : Int32))], [(57, m_height)], [])) dX12_raise_7 ML_X12_250 Yv_X12_isFence rfl zW_54 rfl rfl (t_X12_isFence l _ hcl) (zsub_i (zle_c rfl zle_n) zle_n zle_n) (zjok_i rfl rfl (zle_c rfl (zle_c rfl zle_n)) rfl rfl (zle_c rfl zle_n) rfl rfl zle_n) (Nat.le_of_ble_eq_true rfl) (Nat.le_of_ble_eq_true rfl) rfl rfl ?_
  refine zJ_if_eq (tgt := 23) dX12_raise_10 (by decide) rfl (fun hc => ?_) (fun hc => ?_)
  · replace h := it_t hc h
    refine zJ_iconst dX12_raise_23 zc_m1 rfl ?_
    obtain ⟨rfl, rfl, rfl⟩ := so3 h
    exact zJ_iret dX12_raise_24 rfl rfl
  · replace h := it_f hc h
    refine zJ_iload_n dX12_raise_13 rfl rfl ?_
    refine zJ_iconst dX12_raise_14 zc_0 rfl ?_
    refine zJ_bipush dX12_raise_15 zb_9 rfl ?_
    obtain ⟨rn2, hcl, h⟩ := bd1_some h
    refine zJ_callS2 (σ := σ) (L := ([(3457, m_fences), (3473, (0 : Int32))], [(57, m_height)], [])) (mi := mX12_raise) (yi := mX12_in) (as := [.int p2, .int (0 : Int32), .int (9 : Int32)]) (st := []) (L2 := ([(3457, m_fences), (3473, (0 : Int32))], [(57, m_height)], [])) dX12_raise_17 ML_X12_122 Ys_X12_in rfl (t_X12_in l _ hcl) (zsub_i zle_n zle_n zle_n) (zjok_i rfl rfl (zle_c rfl (zle_c rfl zle_n)) rfl rfl (zle_c rfl zle_n) rfl rfl zle_n) (Nat.le_of_ble_eq_true rfl) (Nat.le_of_ble_eq_true rfl) rfl rfl ?_
    refine zJ_if_ne (tgt := 25) dX12_raise_20 (by decide) rfl (fun hc => ?_) (fun hc => ?_)
    · replace h := it_f hc h
      refine zJ_aload_n dX12_raise_25 rfl rfl ?_
      refine zJ_getr (mi := mX12_raise) dX12_raise_26 F_X12_16 zW_54 rfl rfl ?_
      refine zJ_iload_n dX12_raise_29 rfl rfl ?_
      obtain ⟨hg, h⟩ := gd_some h
      refine zJ_iald (mi := mX12_raise) (f := m_height) dX12_raise_30 zW_57 (ix_in hg) rfl rfl ?_
      obtain ⟨v3n3, ev3n3, h⟩ := lt1_some h
      refine zJ_nmi ev3n3 ?_
      refine zJ_istore_n (ls' := [(3, .int v3n3), (0, .ref 54), (1, .int p1), (2, .int p2)]) dX12_raise_31 rfl rfl rfl ?_
      refine zJ_aload_n dX12_raise_32 rfl rfl ?_
      refine zJ_getr (mi := mX12_raise) dX12_raise_33 F_X12_16 zW_54 rfl rfl ?_
      refine zJ_iload_n dX12_raise_36 rfl rfl ?_
      refine zJ_iload_n dX12_raise_37 rfl rfl ?_
      obtain ⟨hg, h⟩ := gd_some h
      refine zK_iast (mi := mX12_raise) (f := m_height) (lb' := [(57, (upd m_height p1.toNatClampNeg p2))]) dX12_raise_38 zW_57 (ix_in hg) rfl rfl rfl ?_
      refine zJ_iload_n dX12_raise_39 rfl rfl ?_
      obtain ⟨rfl, rfl, rfl⟩ := so3 h
      exact zJ_iret dX12_raise_40 rfl rfl
    · replace h := it_t hc h
      refine zJ_iconst dX12_raise_23 zc_m1 rfl ?_
      obtain ⟨rfl, rfl, rfl⟩ := so3 h
      exact zJ_iret dX12_raise_24 rfl rfl
set_option maxRecDepth 100000 in
set_option maxHeartbeats 4000000 in
theorem t_X12_readAct_t (l : Launch) (σ : zS) {p1 : Int32} {m_length : Int32} {m_top : Int32} {m_at : Int32} {m_wrong : Int32} {m_text : (Nat → Int32)} {m_acts : (Nat → Int32)} {w_m_at : Int32} {w_m_wrong : Int32} {w_m_acts : (Nat → Int32)} (h : f_X12_readAct_t p1 m_length m_top m_at m_wrong m_text m_acts = some (w_m_at, w_m_wrong, w_m_acts)) : zMt l zW 4 mX12_readAct σ ([(3474, (nI 64)), (3475, m_length), (3476, m_top), (3477, m_at), (3478, m_wrong)], [(64, m_text), (76, m_acts)], []) [.ref 54, .int p1] none ([(3474, (nI 64)), (3475, m_length), (3476, m_top), (3477, w_m_at), (3478, w_m_wrong)], [(64, m_text), (76, w_m_acts)], []) := by
  refine zMt_of (ls := [(0, .ref 54), (1, .int p1)]) (by decide) rfl (fun _ => Nat.le_of_ble_eq_true rfl) rfl ?_
  unfold f_X12_readAct_t at h
  refine zJ_aload_n dX12_readAct_0 rfl rfl ?_
  obtain ⟨rn1, hcl, h⟩ := bd1_some h
  refine zJ_callV2 (σ := σ) (L := ([(3474, (nI 64)), (3475, m_length), (3476, m_top), (3477, m_at), (3478, m_wrong)], [(64, m_text), (76, m_acts)], [])) (mi := mX12_readAct) (yi := mX12_here) (as := []) (st := []) (L2 := ([(3474, (nI 64)), (3475, m_length), (3476, m_top), (3477, m_at), (3478, m_wrong)], [(64, m_text), (76, m_acts)], [])) dX12_readAct_1 ML_X12_161 Yv_X12_here rfl zW_54 rfl rfl (t_X12_here_t l _ hcl) (zsub_i (zle_c rfl (zle_c rfl (zle_c rfl (zle_c rfl zle_n)))) (zle_c rfl zle_n) zle_n) (zjok_i rfl rfl (zle_c rfl (zle_c rfl (zle_c rfl (zle_c rfl (zle_c rfl zle_n))))) rfl rfl (zle_c rfl (zle_c rfl zle_n)) rfl rfl zle_n) (Nat.le_of_ble_eq_true rfl) (Nat.le_of_ble_eq_true rfl) rfl rfl ?_
  refine zJ_istore_n (ls' := [(2, .int rn1), (0, .ref 54), (1, .int p1)]) dX12_readAct_4 rfl rfl rfl ?_
  refine zJ_iload_n dX12_readAct_5 rfl rfl ?_
  refine zJ_bipush dX12_readAct_6 zb_114 rfl ?_
  have hj_X12_readAct_t_31 : ∀ (m_wrong_31j : Int32), j_X12_readAct_t_31 p1 m_length m_top m_at m_text m_acts rn1 m_wrong_31j = some (w_m_at, w_m_wrong, w_m_acts) → zJ l zW 4 mX12_readAct σ ([(3474, (nI 64)), (3475, m_length), (3476, m_top), (3477, m_at), (3478, m_wrong_31j)], [(64, m_text), (76, m_acts)], []) 31 [(0, .ref 54), (1, .int p1), (2, .int rn1)] [] none ([(3474, (nI 64)), (3475, m_length), (3476, m_top), (3477, w_m_at), (3478, w_m_wrong)], [(64, m_text), (76, w_m_acts)], []) := by
    intro m_wrong_31j h
    unfold j_X12_readAct_t_31 at h
    refine zJ_aload_n dX12_readAct_31 rfl rfl ?_
    refine zJ_dup dX12_readAct_32 rfl rfl ?_
    refine zJ_geti (mi := mX12_readAct) (x := m_at) dX12_readAct_33 F_X12_151 zW_54 rfl rfl rfl ?_
    refine zJ_iconst dX12_readAct_36 zc_1 rfl ?_
    refine zJ_iadd dX12_readAct_37 rfl ?_
    refine zK_puti (mi := mX12_readAct) (la' := [(3474, (nI 64)), (3475, m_length), (3476, m_top), (3477, (m_at + (1 : Int32))), (3478, m_wrong_31j)]) zW_ok dX12_readAct_38 F_X12_151 P_12_21 zW_54 rfl rfl rfl ?_
    refine zJ_aload_n dX12_readAct_41 rfl rfl ?_
    refine zJ_getr (mi := mX12_readAct) dX12_readAct_42 F_X12_79 zW_54 rfl rfl ?_
    refine zJ_iload_n dX12_readAct_45 rfl rfl ?_
    refine zJ_iload_n dX12_readAct_46 rfl rfl ?_
    obtain ⟨hg, h⟩ := gd_some h
    refine zK_iast (mi := mX12_readAct) (f := m_acts) (lb' := [(64, m_text), (76, (upd m_acts p1.toNatClampNeg rn1))]) dX12_readAct_47 zW_76 (ix_in hg) rfl rfl rfl ?_
    refine zJ_iload_n dX12_readAct_48 rfl rfl ?_
    refine zJ_bipush dX12_readAct_49 zb_120 rfl ?_
    refine zJ_icmp_ne (tgt := 55) dX12_readAct_51 (by decide) rfl (fun hc => ?_) (fun hc => ?_)
    · replace h := it_f hc h
      refine zJ_aload_n dX12_readAct_55 rfl rfl ?_
      refine zJ_getr (mi := mX12_readAct) dX12_readAct_56 F_X12_79 zW_54 rfl rfl ?_
      refine zJ_iload_n dX12_readAct_59 rfl rfl ?_
      refine zJ_iconst dX12_readAct_60 zc_1 rfl ?_
      refine zJ_iadd dX12_readAct_61 rfl ?_
      refine zJ_aload_n dX12_readAct_62 rfl rfl ?_
      refine zJ_iconst dX12_readAct_63 zc_0 rfl ?_
      refine zJ_bipush dX12_readAct_64 zb_9 rfl ?_
      obtain ⟨rn2, m_atn3, m_wrongn4, hcl, h⟩ := bd3_some h
      refine zJ_callV2 (σ := σ) (L := ([(3474, (nI 64)), (3475, m_length), (3476, m_top), (3477, (m_at + (1 : Int32))), (3478, m_wrong_31j)], [(64, m_text), (76, (upd m_acts p1.toNatClampNeg rn1))], [])) (mi := mX12_readAct) (yi := mX12_digit) (as := [.int (0 : Int32), .int (9 : Int32)]) (st := [.int (p1 + (1 : Int32)), .ref 76]) (L2 := ([(3474, (nI 64)), (3475, m_length), (3476, m_top), (3477, m_atn3), (3478, m_wrongn4)], [(64, m_text), (76, (upd m_acts p1.toNatClampNeg rn1))], [])) dX12_readAct_66 ML_X12_173 Yv_X12_digit rfl zW_54 rfl rfl (t_X12_digit_t l _ hcl) (zsub_i (zle_c rfl (zle_c rfl (zle_c rfl (zle_c rfl (zle_c rfl zle_n))))) (zle_c rfl zle_n) zle_n) (zjok_i rfl rfl (zle_c rfl (zle_c rfl (zle_c rfl (zle_c rfl (zle_c rfl zle_n))))) rfl rfl (zle_c rfl (zle_c rfl zle_n)) rfl rfl zle_n) (Nat.le_of_ble_eq_true rfl) (Nat.le_of_ble_eq_true rfl) rfl rfl ?_
      obtain ⟨hg, h⟩ := gd_some h
      refine zK_iast (mi := mX12_readAct) (f := ((upd m_acts p1.toNatClampNeg rn1))) (lb' := [(64, m_text), (76, (upd ((upd m_acts p1.toNatClampNeg rn1)) (p1 + (1 : Int32)).toNatClampNeg rn2))]) dX12_readAct_69 zW_76 (ix_in hg) rfl rfl rfl ?_
      refine zJ_aload_n dX12_readAct_70 rfl rfl ?_
      refine zJ_getr (mi := mX12_readAct) dX12_readAct_71 F_X12_79 zW_54 rfl rfl ?_
      refine zJ_iload_n dX12_readAct_74 rfl rfl ?_
      refine zJ_iconst dX12_readAct_75 zc_2 rfl ?_
      refine zJ_iadd dX12_readAct_76 rfl ?_
      refine zJ_aload_n dX12_readAct_77 rfl rfl ?_
      refine zJ_iconst dX12_readAct_78 zc_0 rfl ?_
      refine zJ_bipush dX12_readAct_79 zb_9 rfl ?_
      obtain ⟨rn5, m_atn6, m_wrongn7, hcl, h⟩ := bd3_some h
      refine zJ_callV2 (σ := σ) (L := ([(3474, (nI 64)), (3475, m_length), (3476, m_top), (3477, m_atn3), (3478, m_wrongn4)], [(64, m_text), (76, (upd ((upd m_acts p1.toNatClampNeg rn1)) (p1 + (1 : Int32)).toNatClampNeg rn2))], [])) (mi := mX12_readAct) (yi := mX12_digit) (as := [.int (0 : Int32), .int (9 : Int32)]) (st := [.int (p1 + (2 : Int32)), .ref 76]) (L2 := ([(3474, (nI 64)), (3475, m_length), (3476, m_top), (3477, m_atn6), (3478, m_wrongn7)], [(64, m_text), (76, (upd ((upd m_acts p1.toNatClampNeg rn1)) (p1 + (1 : Int32)).toNatClampNeg rn2))], [])) dX12_readAct_81 ML_X12_173 Yv_X12_digit rfl zW_54 rfl rfl (t_X12_digit_t l _ hcl) (zsub_i (zle_c rfl (zle_c rfl (zle_c rfl (zle_c rfl (zle_c rfl zle_n))))) (zle_c rfl zle_n) zle_n) (zjok_i rfl rfl (zle_c rfl (zle_c rfl (zle_c rfl (zle_c rfl (zle_c rfl zle_n))))) rfl rfl (zle_c rfl (zle_c rfl zle_n)) rfl rfl zle_n) (Nat.le_of_ble_eq_true rfl) (Nat.le_of_ble_eq_true rfl) rfl rfl ?_
      obtain ⟨hg, h⟩ := gd_some h
      refine zK_iast (mi := mX12_readAct) (f := ((upd ((upd m_acts p1.toNatClampNeg rn1)) (p1 + (1 : Int32)).toNatClampNeg rn2))) (lb' := [(64, m_text), (76, (upd ((upd ((upd m_acts p1.toNatClampNeg rn1)) (p1 + (1 : Int32)).toNatClampNeg rn2)) (p1 + (2 : Int32)).toNatClampNeg rn5))]) dX12_readAct_84 zW_76 (ix_in hg) rfl rfl rfl ?_
      refine zJ_iload_n dX12_readAct_85 rfl rfl ?_
      refine zJ_bipush dX12_readAct_86 zb_114 rfl ?_
      refine zJ_icmp_ne (tgt := 130) dX12_readAct_88 (by decide) rfl (fun hc => ?_) (fun hc => ?_)
      · replace h := it_f hc h
        refine zJ_aload_n dX12_readAct_130 rfl rfl ?_
        refine zJ_bipush dX12_readAct_131 zb_58 rfl ?_
        obtain ⟨m_atn8, m_wrongn9, hcl, h⟩ := bd2_some h
        refine zJ_callV2 (σ := σ) (L := ([(3474, (nI 64)), (3475, m_length), (3476, m_top), (3477, m_atn6), (3478, m_wrongn7)], [(64, m_text), (76, (upd ((upd ((upd m_acts p1.toNatClampNeg rn1)) (p1 + (1 : Int32)).toNatClampNeg rn2)) (p1 + (2 : Int32)).toNatClampNeg rn5))], [])) (mi := mX12_readAct) (yi := mX12_need) (as := [.int (58 : Int32)]) (st := []) (L2 := ([(3474, (nI 64)), (3475, m_length), (3476, m_top), (3477, m_atn8), (3478, m_wrongn9)], [(64, m_text), (76, (upd ((upd ((upd m_acts p1.toNatClampNeg rn1)) (p1 + (1 : Int32)).toNatClampNeg rn2)) (p1 + (2 : Int32)).toNatClampNeg rn5))], [])) dX12_readAct_133 ML_X12_181 Yv_X12_need rfl zW_54 rfl rfl (t_X12_need_t l _ hcl) (zsub_i (zle_c rfl (zle_c rfl (zle_c rfl (zle_c rfl (zle_c rfl zle_n))))) (zle_c rfl zle_n) zle_n) (zjok_i rfl rfl (zle_c rfl (zle_c rfl (zle_c rfl (zle_c rfl (zle_c rfl zle_n))))) rfl rfl (zle_c rfl (zle_c rfl zle_n)) rfl rfl zle_n) (Nat.le_of_ble_eq_true rfl) (Nat.le_of_ble_eq_true rfl) rfl rfl ?_
        refine zJ_aload_n dX12_readAct_136 rfl rfl ?_
        refine zJ_getr (mi := mX12_readAct) dX12_readAct_137 F_X12_79 zW_54 rfl rfl ?_
        refine zJ_iload_n dX12_readAct_140 rfl rfl ?_
        refine zJ_iconst dX12_readAct_141 zc_3 rfl ?_
        refine zJ_iadd dX12_readAct_142 rfl ?_
        refine zJ_aload_n dX12_readAct_143 rfl rfl ?_
        refine zJ_iconst dX12_readAct_144 zc_2 rfl ?_
        obtain ⟨rn10, m_atn11, m_wrongn12, hcl, h⟩ := bd3_some h
        refine zJ_callV2 (σ := σ) (L := ([(3474, (nI 64)), (3475, m_length), (3476, m_top), (3477, m_atn8), (3478, m_wrongn9)], [(64, m_text), (76, (upd ((upd ((upd m_acts p1.toNatClampNeg rn1)) (p1 + (1 : Int32)).toNatClampNeg rn2)) (p1 + (2 : Int32)).toNatClampNeg rn5))], [])) (mi := mX12_readAct) (yi := mX12_number) (as := [.int (2 : Int32)]) (st := [.int (p1 + (3 : Int32)), .ref 76]) (L2 := ([(3474, (nI 64)), (3475, m_length), (3476, m_top), (3477, m_atn11), (3478, m_wrongn12)], [(64, m_text), (76, (upd ((upd ((upd m_acts p1.toNatClampNeg rn1)) (p1 + (1 : Int32)).toNatClampNeg rn2)) (p1 + (2 : Int32)).toNatClampNeg rn5))], [])) dX12_readAct_145 ML_X12_198 Yv_X12_number rfl zW_54 rfl rfl (t_X12_number_t l _ hcl) (zsub_i (zle_c rfl (zle_c rfl (zle_c rfl (zle_c rfl (zle_c rfl zle_n))))) (zle_c rfl zle_n) zle_n) (zjok_i rfl rfl (zle_c rfl (zle_c rfl (zle_c rfl (zle_c rfl (zle_c rfl zle_n))))) rfl rfl (zle_c rfl (zle_c rfl zle_n)) rfl rfl zle_n) (Nat.le_of_ble_eq_true rfl) (Nat.le_of_ble_eq_true rfl) rfl rfl ?_
        obtain ⟨hg, h⟩ := gd_some h
        refine zK_iast (mi := mX12_readAct) (f := ((upd ((upd ((upd m_acts p1.toNatClampNeg rn1)) (p1 + (1 : Int32)).toNatClampNeg rn2)) (p1 + (2 : Int32)).toNatClampNeg rn5))) (lb' := [(64, m_text), (76, (upd ((upd ((upd ((upd m_acts p1.toNatClampNeg rn1)) (p1 + (1 : Int32)).toNatClampNeg rn2)) (p1 + (2 : Int32)).toNatClampNeg rn5)) (p1 + (3 : Int32)).toNatClampNeg rn10))]) dX12_readAct_148 zW_76 (ix_in hg) rfl rfl rfl ?_
        refine zJ_aload_n dX12_readAct_149 rfl rfl ?_
        refine zJ_bipush dX12_readAct_150 zb_43 rfl ?_
        obtain ⟨m_atn13, m_wrongn14, hcl, h⟩ := bd2_some h
        refine zJ_callV2 (σ := σ) (L := ([(3474, (nI 64)), (3475, m_length), (3476, m_top), (3477, m_atn11), (3478, m_wrongn12)], [(64, m_text), (76, (upd ((upd ((upd ((upd m_acts p1.toNatClampNeg rn1)) (p1 + (1 : Int32)).toNatClampNeg rn2)) (p1 + (2 : Int32)).toNatClampNeg rn5)) (p1 + (3 : Int32)).toNatClampNeg rn10))], [])) (mi := mX12_readAct) (yi := mX12_need) (as := [.int (43 : Int32)]) (st := []) (L2 := ([(3474, (nI 64)), (3475, m_length), (3476, m_top), (3477, m_atn13), (3478, m_wrongn14)], [(64, m_text), (76, (upd ((upd ((upd ((upd m_acts p1.toNatClampNeg rn1)) (p1 + (1 : Int32)).toNatClampNeg rn2)) (p1 + (2 : Int32)).toNatClampNeg rn5)) (p1 + (3 : Int32)).toNatClampNeg rn10))], [])) dX12_readAct_152 ML_X12_181 Yv_X12_need rfl zW_54 rfl rfl (t_X12_need_t l _ hcl) (zsub_i (zle_c rfl (zle_c rfl (zle_c rfl (zle_c rfl (zle_c rfl zle_n))))) (zle_c rfl zle_n) zle_n) (zjok_i rfl rfl (zle_c rfl (zle_c rfl (zle_c rfl (zle_c rfl (zle_c rfl zle_n))))) rfl rfl (zle_c rfl (zle_c rfl zle_n)) rfl rfl zle_n) (Nat.le_of_ble_eq_true rfl) (Nat.le_of_ble_eq_true rfl) rfl rfl ?_
        refine zJ_aload_n dX12_readAct_155 rfl rfl ?_
        refine zJ_getr (mi := mX12_readAct) dX12_readAct_156 F_X12_79 zW_54 rfl rfl ?_
        refine zJ_iload_n dX12_readAct_159 rfl rfl ?_
        refine zJ_iconst dX12_readAct_160 zc_4 rfl ?_
        refine zJ_iadd dX12_readAct_161 rfl ?_
        refine zJ_aload_n dX12_readAct_162 rfl rfl ?_
        refine zJ_iconst dX12_readAct_163 zc_4 rfl ?_
        obtain ⟨rn15, m_atn16, m_wrongn17, hcl, h⟩ := bd3_some h
        refine zJ_callV2 (σ := σ) (L := ([(3474, (nI 64)), (3475, m_length), (3476, m_top), (3477, m_atn13), (3478, m_wrongn14)], [(64, m_text), (76, (upd ((upd ((upd ((upd m_acts p1.toNatClampNeg rn1)) (p1 + (1 : Int32)).toNatClampNeg rn2)) (p1 + (2 : Int32)).toNatClampNeg rn5)) (p1 + (3 : Int32)).toNatClampNeg rn10))], [])) (mi := mX12_readAct) (yi := mX12_number) (as := [.int (4 : Int32)]) (st := [.int (p1 + (4 : Int32)), .ref 76]) (L2 := ([(3474, (nI 64)), (3475, m_length), (3476, m_top), (3477, m_atn16), (3478, m_wrongn17)], [(64, m_text), (76, (upd ((upd ((upd ((upd m_acts p1.toNatClampNeg rn1)) (p1 + (1 : Int32)).toNatClampNeg rn2)) (p1 + (2 : Int32)).toNatClampNeg rn5)) (p1 + (3 : Int32)).toNatClampNeg rn10))], [])) dX12_readAct_164 ML_X12_198 Yv_X12_number rfl zW_54 rfl rfl (t_X12_number_t l _ hcl) (zsub_i (zle_c rfl (zle_c rfl (zle_c rfl (zle_c rfl (zle_c rfl zle_n))))) (zle_c rfl zle_n) zle_n) (zjok_i rfl rfl (zle_c rfl (zle_c rfl (zle_c rfl (zle_c rfl (zle_c rfl zle_n))))) rfl rfl (zle_c rfl (zle_c rfl zle_n)) rfl rfl zle_n) (Nat.le_of_ble_eq_true rfl) (Nat.le_of_ble_eq_true rfl) rfl rfl ?_
        obtain ⟨hg, h⟩ := gd_some h
        refine zK_iast (mi := mX12_readAct) (f := ((upd ((upd ((upd ((upd m_acts p1.toNatClampNeg rn1)) (p1 + (1 : Int32)).toNatClampNeg rn2)) (p1 + (2 : Int32)).toNatClampNeg rn5)) (p1 + (3 : Int32)).toNatClampNeg rn10))) (lb' := [(64, m_text), (76, (upd ((upd ((upd ((upd ((upd m_acts p1.toNatClampNeg rn1)) (p1 + (1 : Int32)).toNatClampNeg rn2)) (p1 + (2 : Int32)).toNatClampNeg rn5)) (p1 + (3 : Int32)).toNatClampNeg rn10)) (p1 + (4 : Int32)).toNatClampNeg rn15))]) dX12_readAct_167 zW_76 (ix_in hg) rfl rfl rfl ?_
        obtain ⟨rfl, rfl, rfl⟩ := so3 h
        exact zJ_vret dX12_readAct_168 rfl
      · replace h := it_t hc h
        refine zJ_aload_n dX12_readAct_91 rfl rfl ?_
        refine zJ_getr (mi := mX12_readAct) dX12_readAct_92 F_X12_79 zW_54 rfl rfl ?_
        refine zJ_iload_n dX12_readAct_95 rfl rfl ?_
        refine zJ_iconst dX12_readAct_96 zc_3 rfl ?_
        refine zJ_iadd dX12_readAct_97 rfl ?_
        refine zJ_aload_n dX12_readAct_98 rfl rfl ?_
        refine zJ_iconst dX12_readAct_99 zc_0 rfl ?_
        refine zJ_bipush dX12_readAct_100 zb_9 rfl ?_
        obtain ⟨rn18, m_atn19, m_wrongn20, hcl, h⟩ := bd3_some h
        refine zJ_callV2 (σ := σ) (L := ([(3474, (nI 64)), (3475, m_length), (3476, m_top), (3477, m_atn6), (3478, m_wrongn7)], [(64, m_text), (76, (upd ((upd ((upd m_acts p1.toNatClampNeg rn1)) (p1 + (1 : Int32)).toNatClampNeg rn2)) (p1 + (2 : Int32)).toNatClampNeg rn5))], [])) (mi := mX12_readAct) (yi := mX12_digit) (as := [.int (0 : Int32), .int (9 : Int32)]) (st := [.int (p1 + (3 : Int32)), .ref 76]) (L2 := ([(3474, (nI 64)), (3475, m_length), (3476, m_top), (3477, m_atn19), (3478, m_wrongn20)], [(64, m_text), (76, (upd ((upd ((upd m_acts p1.toNatClampNeg rn1)) (p1 + (1 : Int32)).toNatClampNeg rn2)) (p1 + (2 : Int32)).toNatClampNeg rn5))], [])) dX12_readAct_102 ML_X12_173 Yv_X12_digit rfl zW_54 rfl rfl (t_X12_digit_t l _ hcl) (zsub_i (zle_c rfl (zle_c rfl (zle_c rfl (zle_c rfl (zle_c rfl zle_n))))) (zle_c rfl zle_n) zle_n) (zjok_i rfl rfl (zle_c rfl (zle_c rfl (zle_c rfl (zle_c rfl (zle_c rfl zle_n))))) rfl rfl (zle_c rfl (zle_c rfl zle_n)) rfl rfl zle_n) (Nat.le_of_ble_eq_true rfl) (Nat.le_of_ble_eq_true rfl) rfl rfl ?_
        obtain ⟨hg, h⟩ := gd_some h
        refine zK_iast (mi := mX12_readAct) (f := ((upd ((upd ((upd m_acts p1.toNatClampNeg rn1)) (p1 + (1 : Int32)).toNatClampNeg rn2)) (p1 + (2 : Int32)).toNatClampNeg rn5))) (lb' := [(64, m_text), (76, (upd ((upd ((upd ((upd m_acts p1.toNatClampNeg rn1)) (p1 + (1 : Int32)).toNatClampNeg rn2)) (p1 + (2 : Int32)).toNatClampNeg rn5)) (p1 + (3 : Int32)).toNatClampNeg rn18))]) dX12_readAct_105 zW_76 (ix_in hg) rfl rfl rfl ?_
        refine zJ_aload_n dX12_readAct_106 rfl rfl ?_
        refine zJ_bipush dX12_readAct_107 zb_42 rfl ?_
        obtain ⟨m_atn21, m_wrongn22, hcl, h⟩ := bd2_some h
        refine zJ_callV2 (σ := σ) (L := ([(3474, (nI 64)), (3475, m_length), (3476, m_top), (3477, m_atn19), (3478, m_wrongn20)], [(64, m_text), (76, (upd ((upd ((upd ((upd m_acts p1.toNatClampNeg rn1)) (p1 + (1 : Int32)).toNatClampNeg rn2)) (p1 + (2 : Int32)).toNatClampNeg rn5)) (p1 + (3 : Int32)).toNatClampNeg rn18))], [])) (mi := mX12_readAct) (yi := mX12_need) (as := [.int (42 : Int32)]) (st := []) (L2 := ([(3474, (nI 64)), (3475, m_length), (3476, m_top), (3477, m_atn21), (3478, m_wrongn22)], [(64, m_text), (76, (upd ((upd ((upd ((upd m_acts p1.toNatClampNeg rn1)) (p1 + (1 : Int32)).toNatClampNeg rn2)) (p1 + (2 : Int32)).toNatClampNeg rn5)) (p1 + (3 : Int32)).toNatClampNeg rn18))], [])) dX12_readAct_109 ML_X12_181 Yv_X12_need rfl zW_54 rfl rfl (t_X12_need_t l _ hcl) (zsub_i (zle_c rfl (zle_c rfl (zle_c rfl (zle_c rfl (zle_c rfl zle_n))))) (zle_c rfl zle_n) zle_n) (zjok_i rfl rfl (zle_c rfl (zle_c rfl (zle_c rfl (zle_c rfl (zle_c rfl zle_n))))) rfl rfl (zle_c rfl (zle_c rfl zle_n)) rfl rfl zle_n) (Nat.le_of_ble_eq_true rfl) (Nat.le_of_ble_eq_true rfl) rfl rfl ?_
        refine zJ_aload_n dX12_readAct_112 rfl rfl ?_
        refine zJ_getr (mi := mX12_readAct) dX12_readAct_113 F_X12_79 zW_54 rfl rfl ?_
        refine zJ_iload_n dX12_readAct_116 rfl rfl ?_
        refine zJ_iconst dX12_readAct_117 zc_4 rfl ?_
        refine zJ_iadd dX12_readAct_118 rfl ?_
        refine zJ_aload_n dX12_readAct_119 rfl rfl ?_
        refine zJ_iconst dX12_readAct_120 zc_0 rfl ?_
        refine zJ_bipush dX12_readAct_121 zb_9 rfl ?_
        obtain ⟨rn23, m_atn24, m_wrongn25, hcl, h⟩ := bd3_some h
        refine zJ_callV2 (σ := σ) (L := ([(3474, (nI 64)), (3475, m_length), (3476, m_top), (3477, m_atn21), (3478, m_wrongn22)], [(64, m_text), (76, (upd ((upd ((upd ((upd m_acts p1.toNatClampNeg rn1)) (p1 + (1 : Int32)).toNatClampNeg rn2)) (p1 + (2 : Int32)).toNatClampNeg rn5)) (p1 + (3 : Int32)).toNatClampNeg rn18))], [])) (mi := mX12_readAct) (yi := mX12_digit) (as := [.int (0 : Int32), .int (9 : Int32)]) (st := [.int (p1 + (4 : Int32)), .ref 76]) (L2 := ([(3474, (nI 64)), (3475, m_length), (3476, m_top), (3477, m_atn24), (3478, m_wrongn25)], [(64, m_text), (76, (upd ((upd ((upd ((upd m_acts p1.toNatClampNeg rn1)) (p1 + (1 : Int32)).toNatClampNeg rn2)) (p1 + (2 : Int32)).toNatClampNeg rn5)) (p1 + (3 : Int32)).toNatClampNeg rn18))], [])) dX12_readAct_123 ML_X12_173 Yv_X12_digit rfl zW_54 rfl rfl (t_X12_digit_t l _ hcl) (zsub_i (zle_c rfl (zle_c rfl (zle_c rfl (zle_c rfl (zle_c rfl zle_n))))) (zle_c rfl zle_n) zle_n) (zjok_i rfl rfl (zle_c rfl (zle_c rfl (zle_c rfl (zle_c rfl (zle_c rfl zle_n))))) rfl rfl (zle_c rfl (zle_c rfl zle_n)) rfl rfl zle_n) (Nat.le_of_ble_eq_true rfl) (Nat.le_of_ble_eq_true rfl) rfl rfl ?_
        obtain ⟨hg, h⟩ := gd_some h
        refine zK_iast (mi := mX12_readAct) (f := ((upd ((upd ((upd ((upd m_acts p1.toNatClampNeg rn1)) (p1 + (1 : Int32)).toNatClampNeg rn2)) (p1 + (2 : Int32)).toNatClampNeg rn5)) (p1 + (3 : Int32)).toNatClampNeg rn18))) (lb' := [(64, m_text), (76, (upd ((upd ((upd ((upd ((upd m_acts p1.toNatClampNeg rn1)) (p1 + (1 : Int32)).toNatClampNeg rn2)) (p1 + (2 : Int32)).toNatClampNeg rn5)) (p1 + (3 : Int32)).toNatClampNeg rn18)) (p1 + (4 : Int32)).toNatClampNeg rn23))]) dX12_readAct_126 zW_76 (ix_in hg) rfl rfl rfl ?_
        refine zJ_goto (tgt := 168) dX12_readAct_127 (by decide) ?_
        obtain ⟨rfl, rfl, rfl⟩ := so3 h
        exact zJ_vret dX12_readAct_168 rfl
    · replace h := it_t hc h
      obtain ⟨rfl, rfl, rfl⟩ := so3 h
      exact zJ_vret dX12_readAct_54 rfl
  refine zJ_icmp_eq (tgt := 31) dX12_readAct_8 (by decide) rfl (fun hc => ?_) (fun hc => ?_)
  · replace h := it_t hc h
    refine zJ_loc (ls' := [(0, .ref 54), (1, .int p1), (2, .int rn1)]) (zll_c rfl (zll_c rfl (zll_c rfl zll_n))) ?_
    exact hj_X12_readAct_t_31 _ h
  · replace h := it_f hc h
    refine zJ_iload_n dX12_readAct_11 rfl rfl ?_
    refine zJ_bipush dX12_readAct_12 zb_116 rfl ?_
    refine zJ_icmp_eq (tgt := 31) dX12_readAct_14 (by decide) rfl (fun hc => ?_) (fun hc => ?_)
    · replace h := it_t hc h
      refine zJ_loc (ls' := [(0, .ref 54), (1, .int p1), (2, .int rn1)]) (zll_c rfl (zll_c rfl (zll_c rfl zll_n))) ?_
      exact hj_X12_readAct_t_31 _ h
    · replace h := it_f hc h
      refine zJ_iload_n dX12_readAct_17 rfl rfl ?_
      refine zJ_bipush dX12_readAct_18 zb_120 rfl ?_
      refine zJ_icmp_eq (tgt := 31) dX12_readAct_20 (by decide) rfl (fun hc => ?_) (fun hc => ?_)
      · replace h := it_t hc h
        refine zJ_loc (ls' := [(0, .ref 54), (1, .int p1), (2, .int rn1)]) (zll_c rfl (zll_c rfl (zll_c rfl zll_n))) ?_
        exact hj_X12_readAct_t_31 _ h
      · replace h := it_f hc h
        refine zJ_aload_n dX12_readAct_23 rfl rfl ?_
        refine zJ_aload_n dX12_readAct_24 rfl rfl ?_
        refine zJ_geti (mi := mX12_readAct) (x := m_at) dX12_readAct_25 F_X12_151 zW_54 rfl rfl rfl ?_
        obtain ⟨m_wrongn26, hcl, h⟩ := bd1_some h
        refine zJ_callV2 (σ := σ) (L := ([(3474, (nI 64)), (3475, m_length), (3476, m_top), (3477, m_at), (3478, m_wrong)], [(64, m_text), (76, m_acts)], [])) (mi := mX12_readAct) (yi := mX12_fault) (as := [.int m_at]) (st := []) (L2 := ([(3474, (nI 64)), (3475, m_length), (3476, m_top), (3477, m_at), (3478, m_wrongn26)], [(64, m_text), (76, m_acts)], [])) dX12_readAct_28 ML_X12_169 Yv_X12_fault rfl zW_54 rfl rfl (t_X12_fault l _ hcl) (zsub_i (zle_c rfl zle_n) zle_n zle_n) (zjok_i rfl rfl (zle_c rfl (zle_c rfl (zle_c rfl (zle_c rfl (zle_c rfl zle_n))))) rfl rfl (zle_c rfl (zle_c rfl zle_n)) rfl rfl zle_n) (Nat.le_of_ble_eq_true rfl) (Nat.le_of_ble_eq_true rfl) rfl rfl ?_
        refine zJ_loc (ls' := [(0, .ref 54), (1, .int p1), (2, .int rn1)]) (zll_c rfl (zll_c rfl (zll_c rfl zll_n))) ?_
        exact hj_X12_readAct_t_31 _ h
set_option maxRecDepth 100000 in
set_option maxHeartbeats 4000000 in
theorem t_X12_readFence_t (l : Launch) (σ : zS) {p1 : Int32} {m_length : Int32} {m_top : Int32} {m_at : Int32} {m_wrong : Int32} {m_text : (Nat → Int32)} {m_newFences : (Nat → Int32)} {w_m_at : Int32} {w_m_wrong : Int32} {w_m_newFences : (Nat → Int32)} (h : f_X12_readFence_t p1 m_length m_top m_at m_wrong m_text m_newFences = some (w_m_at, w_m_wrong, w_m_newFences)) : zMt l zW 3 mX12_readFence σ ([(3474, (nI 64)), (3475, m_length), (3476, m_top), (3477, m_at), (3478, m_wrong)], [(64, m_text), (66, m_newFences)], []) [.ref 54, .int p1] none ([(3474, (nI 64)), (3475, m_length), (3476, m_top), (3477, w_m_at), (3478, w_m_wrong)], [(64, m_text), (66, w_m_newFences)], []) := by
  refine zMt_of (ls := [(0, .ref 54), (1, .int p1)]) (by decide) rfl (fun _ => Nat.le_of_ble_eq_true rfl) rfl ?_
  unfold f_X12_readFence_t at h
  refine zJ_aload_n dX12_readFence_0 rfl rfl ?_
  refine zJ_getr (mi := mX12_readFence) dX12_readFence_1 F_X12_49 zW_54 rfl rfl ?_
  refine zJ_iload_n dX12_readFence_4 rfl rfl ?_
  refine zJ_aload_n dX12_readFence_5 rfl rfl ?_
  obtain ⟨rn1, hcl, h⟩ := bd1_some h
  refine zJ_callV2 (σ := σ) (L := ([(3474, (nI 64)), (3475, m_length), (3476, m_top), (3477, m_at), (3478, m_wrong)], [(64, m_text), (66, m_newFences)], [])) (mi := mX12_readFence) (yi := mX12_here) (as := []) (st := [.int p1, .ref 66]) (L2 := ([(3474, (nI 64)), (3475, m_length), (3476, m_top), (3477, m_at), (3478, m_wrong)], [(64, m_text), (66, m_newFences)], [])) dX12_readFence_6 ML_X12_161 Yv_X12_here rfl zW_54 rfl rfl (t_X12_here_t l _ hcl) (zsub_i (zle_c rfl (zle_c rfl (zle_c rfl (zle_c rfl zle_n)))) (zle_c rfl zle_n) zle_n) (zjok_i rfl rfl (zle_c rfl (zle_c rfl (zle_c rfl (zle_c rfl (zle_c rfl zle_n))))) rfl rfl (zle_c rfl (zle_c rfl zle_n)) rfl rfl zle_n) (Nat.le_of_ble_eq_true rfl) (Nat.le_of_ble_eq_true rfl) rfl rfl ?_
  obtain ⟨rn2, hcl, h⟩ := bd1_some h
  refine zJ_callS2 (σ := σ) (L := ([(3474, (nI 64)), (3475, m_length), (3476, m_top), (3477, m_at), (3478, m_wrong)], [(64, m_text), (66, m_newFences)], [])) (mi := mX12_readFence) (yi := mX12_kindOf) (as := [.int rn1]) (st := [.int p1, .ref 66]) (L2 := ([(3474, (nI 64)), (3475, m_length), (3476, m_top), (3477, m_at), (3478, m_wrong)], [(64, m_text), (66, m_newFences)], [])) dX12_readFence_9 ML_X12_177 Ys_X12_kindOf rfl (t_X12_kindOf l _ hcl) (zsub_i zle_n zle_n zle_n) (zjok_i rfl rfl (zle_c rfl (zle_c rfl (zle_c rfl (zle_c rfl (zle_c rfl zle_n))))) rfl rfl (zle_c rfl (zle_c rfl zle_n)) rfl rfl zle_n) (Nat.le_of_ble_eq_true rfl) (Nat.le_of_ble_eq_true rfl) rfl rfl ?_
  obtain ⟨hg, h⟩ := gd_some h
  refine zK_iast (mi := mX12_readFence) (f := m_newFences) (lb' := [(64, m_text), (66, (upd m_newFences p1.toNatClampNeg rn2))]) dX12_readFence_12 zW_66 (ix_in hg) rfl rfl rfl ?_
  refine zJ_aload_n dX12_readFence_13 rfl rfl ?_
  refine zJ_getr (mi := mX12_readFence) dX12_readFence_14 F_X12_49 zW_54 rfl rfl ?_
  refine zJ_iload_n dX12_readFence_17 rfl rfl ?_
  obtain ⟨hg, h⟩ := gd_some h
  refine zJ_iald (mi := mX12_readFence) (f := (upd m_newFences p1.toNatClampNeg rn2)) dX12_readFence_18 zW_66 (ix_in hg) rfl rfl ?_
  refine zJ_iconst dX12_readFence_19 zc_m1 rfl ?_
  have hj_X12_readFence_t_31 : ∀ (m_wrong_31j : Int32), j_X12_readFence_t_31 p1 m_length m_top m_at m_text m_newFences rn2 m_wrong_31j = some (w_m_at, w_m_wrong, w_m_newFences) → zJ l zW 3 mX12_readFence σ ([(3474, (nI 64)), (3475, m_length), (3476, m_top), (3477, m_at), (3478, m_wrong_31j)], [(64, m_text), (66, (upd m_newFences p1.toNatClampNeg rn2))], []) 31 [(0, .ref 54), (1, .int p1)] [] none ([(3474, (nI 64)), (3475, m_length), (3476, m_top), (3477, w_m_at), (3478, w_m_wrong)], [(64, m_text), (66, w_m_newFences)], []) := by
    intro m_wrong_31j h
    unfold j_X12_readFence_t_31 at h
    refine zJ_aload_n dX12_readFence_31 rfl rfl ?_
    refine zJ_dup dX12_readFence_32 rfl rfl ?_
    refine zJ_geti (mi := mX12_readFence) (x := m_at) dX12_readFence_33 F_X12_151 zW_54 rfl rfl rfl ?_
    refine zJ_iconst dX12_readFence_36 zc_1 rfl ?_
    refine zJ_iadd dX12_readFence_37 rfl ?_
    refine zK_puti (mi := mX12_readFence) (la' := [(3474, (nI 64)), (3475, m_length), (3476, m_top), (3477, (m_at + (1 : Int32))), (3478, m_wrong_31j)]) zW_ok dX12_readFence_38 F_X12_151 P_12_21 zW_54 rfl rfl rfl ?_
    refine zJ_aload_n dX12_readFence_41 rfl rfl ?_
    refine zJ_getr (mi := mX12_readFence) dX12_readFence_42 F_X12_49 zW_54 rfl rfl ?_
    refine zJ_iload_n dX12_readFence_45 rfl rfl ?_
    refine zJ_iconst dX12_readFence_46 zc_1 rfl ?_
    refine zJ_iadd dX12_readFence_47 rfl ?_
    refine zJ_aload_n dX12_readFence_48 rfl rfl ?_
    refine zJ_iconst dX12_readFence_49 zc_0 rfl ?_
    refine zJ_bipush dX12_readFence_50 zb_9 rfl ?_
    obtain ⟨rn3, m_atn4, m_wrongn5, hcl, h⟩ := bd3_some h
    refine zJ_callV2 (σ := σ) (L := ([(3474, (nI 64)), (3475, m_length), (3476, m_top), (3477, (m_at + (1 : Int32))), (3478, m_wrong_31j)], [(64, m_text), (66, (upd m_newFences p1.toNatClampNeg rn2))], [])) (mi := mX12_readFence) (yi := mX12_digit) (as := [.int (0 : Int32), .int (9 : Int32)]) (st := [.int (p1 + (1 : Int32)), .ref 66]) (L2 := ([(3474, (nI 64)), (3475, m_length), (3476, m_top), (3477, m_atn4), (3478, m_wrongn5)], [(64, m_text), (66, (upd m_newFences p1.toNatClampNeg rn2))], [])) dX12_readFence_52 ML_X12_173 Yv_X12_digit rfl zW_54 rfl rfl (t_X12_digit_t l _ hcl) (zsub_i (zle_c rfl (zle_c rfl (zle_c rfl (zle_c rfl (zle_c rfl zle_n))))) (zle_c rfl zle_n) zle_n) (zjok_i rfl rfl (zle_c rfl (zle_c rfl (zle_c rfl (zle_c rfl (zle_c rfl zle_n))))) rfl rfl (zle_c rfl (zle_c rfl zle_n)) rfl rfl zle_n) (Nat.le_of_ble_eq_true rfl) (Nat.le_of_ble_eq_true rfl) rfl rfl ?_
    obtain ⟨hg, h⟩ := gd_some h
    refine zK_iast (mi := mX12_readFence) (f := ((upd m_newFences p1.toNatClampNeg rn2))) (lb' := [(64, m_text), (66, (upd ((upd m_newFences p1.toNatClampNeg rn2)) (p1 + (1 : Int32)).toNatClampNeg rn3))]) dX12_readFence_55 zW_66 (ix_in hg) rfl rfl rfl ?_
    refine zJ_aload_n dX12_readFence_56 rfl rfl ?_
    refine zJ_bipush dX12_readFence_57 zb_64 rfl ?_
    obtain ⟨m_atn6, m_wrongn7, hcl, h⟩ := bd2_some h
    refine zJ_callV2 (σ := σ) (L := ([(3474, (nI 64)), (3475, m_length), (3476, m_top), (3477, m_atn4), (3478, m_wrongn5)], [(64, m_text), (66, (upd ((upd m_newFences p1.toNatClampNeg rn2)) (p1 + (1 : Int32)).toNatClampNeg rn3))], [])) (mi := mX12_readFence) (yi := mX12_need) (as := [.int (64 : Int32)]) (st := []) (L2 := ([(3474, (nI 64)), (3475, m_length), (3476, m_top), (3477, m_atn6), (3478, m_wrongn7)], [(64, m_text), (66, (upd ((upd m_newFences p1.toNatClampNeg rn2)) (p1 + (1 : Int32)).toNatClampNeg rn3))], [])) dX12_readFence_59 ML_X12_181 Yv_X12_need rfl zW_54 rfl rfl (t_X12_need_t l _ hcl) (zsub_i (zle_c rfl (zle_c rfl (zle_c rfl (zle_c rfl (zle_c rfl zle_n))))) (zle_c rfl zle_n) zle_n) (zjok_i rfl rfl (zle_c rfl (zle_c rfl (zle_c rfl (zle_c rfl (zle_c rfl zle_n))))) rfl rfl (zle_c rfl (zle_c rfl zle_n)) rfl rfl zle_n) (Nat.le_of_ble_eq_true rfl) (Nat.le_of_ble_eq_true rfl) rfl rfl ?_
    refine zJ_aload_n dX12_readFence_62 rfl rfl ?_
    refine zJ_iconst dX12_readFence_63 zc_1 rfl ?_
    refine zJ_bipush dX12_readFence_64 zb_9 rfl ?_
    obtain ⟨rn8, m_atn9, m_wrongn10, hcl, h⟩ := bd3_some h
    refine zJ_callV2 (σ := σ) (L := ([(3474, (nI 64)), (3475, m_length), (3476, m_top), (3477, m_atn6), (3478, m_wrongn7)], [(64, m_text), (66, (upd ((upd m_newFences p1.toNatClampNeg rn2)) (p1 + (1 : Int32)).toNatClampNeg rn3))], [])) (mi := mX12_readFence) (yi := mX12_digit) (as := [.int (1 : Int32), .int (9 : Int32)]) (st := []) (L2 := ([(3474, (nI 64)), (3475, m_length), (3476, m_top), (3477, m_atn9), (3478, m_wrongn10)], [(64, m_text), (66, (upd ((upd m_newFences p1.toNatClampNeg rn2)) (p1 + (1 : Int32)).toNatClampNeg rn3))], [])) dX12_readFence_66 ML_X12_173 Yv_X12_digit rfl zW_54 rfl rfl (t_X12_digit_t l _ hcl) (zsub_i (zle_c rfl (zle_c rfl (zle_c rfl (zle_c rfl (zle_c rfl zle_n))))) (zle_c rfl zle_n) zle_n) (zjok_i rfl rfl (zle_c rfl (zle_c rfl (zle_c rfl (zle_c rfl (zle_c rfl zle_n))))) rfl rfl (zle_c rfl (zle_c rfl zle_n)) rfl rfl zle_n) (Nat.le_of_ble_eq_true rfl) (Nat.le_of_ble_eq_true rfl) rfl rfl ?_
    refine zJ_istore_n (ls' := [(2, .int rn8), (0, .ref 54), (1, .int p1)]) dX12_readFence_69 rfl rfl rfl ?_
    refine zJ_aload_n dX12_readFence_70 rfl rfl ?_
    refine zJ_getr (mi := mX12_readFence) dX12_readFence_71 F_X12_49 zW_54 rfl rfl ?_
    refine zJ_iload_n dX12_readFence_74 rfl rfl ?_
    refine zJ_iconst dX12_readFence_75 zc_2 rfl ?_
    refine zJ_iadd dX12_readFence_76 rfl ?_
    refine zJ_bipush dX12_readFence_77 zb_10 rfl ?_
    refine zJ_iload_n dX12_readFence_79 rfl rfl ?_
    refine zJ_imul dX12_readFence_80 rfl ?_
    refine zJ_aload_n dX12_readFence_81 rfl rfl ?_
    refine zJ_iconst dX12_readFence_82 zc_0 rfl ?_
    refine zJ_bipush dX12_readFence_83 zb_9 rfl ?_
    obtain ⟨rn11, m_atn12, m_wrongn13, hcl, h⟩ := bd3_some h
    refine zJ_callV2 (σ := σ) (L := ([(3474, (nI 64)), (3475, m_length), (3476, m_top), (3477, m_atn9), (3478, m_wrongn10)], [(64, m_text), (66, (upd ((upd m_newFences p1.toNatClampNeg rn2)) (p1 + (1 : Int32)).toNatClampNeg rn3))], [])) (mi := mX12_readFence) (yi := mX12_digit) (as := [.int (0 : Int32), .int (9 : Int32)]) (st := [.int ((10 : Int32) * rn8), .int (p1 + (2 : Int32)), .ref 66]) (L2 := ([(3474, (nI 64)), (3475, m_length), (3476, m_top), (3477, m_atn12), (3478, m_wrongn13)], [(64, m_text), (66, (upd ((upd m_newFences p1.toNatClampNeg rn2)) (p1 + (1 : Int32)).toNatClampNeg rn3))], [])) dX12_readFence_85 ML_X12_173 Yv_X12_digit rfl zW_54 rfl rfl (t_X12_digit_t l _ hcl) (zsub_i (zle_c rfl (zle_c rfl (zle_c rfl (zle_c rfl (zle_c rfl zle_n))))) (zle_c rfl zle_n) zle_n) (zjok_i rfl rfl (zle_c rfl (zle_c rfl (zle_c rfl (zle_c rfl (zle_c rfl zle_n))))) rfl rfl (zle_c rfl (zle_c rfl zle_n)) rfl rfl zle_n) (Nat.le_of_ble_eq_true rfl) (Nat.le_of_ble_eq_true rfl) rfl rfl ?_
    refine zJ_iadd dX12_readFence_88 rfl ?_
    obtain ⟨hg, h⟩ := gd_some h
    refine zK_iast (mi := mX12_readFence) (f := ((upd ((upd m_newFences p1.toNatClampNeg rn2)) (p1 + (1 : Int32)).toNatClampNeg rn3))) (lb' := [(64, m_text), (66, (upd ((upd ((upd m_newFences p1.toNatClampNeg rn2)) (p1 + (1 : Int32)).toNatClampNeg rn3)) (p1 + (2 : Int32)).toNatClampNeg (((10 : Int32) * rn8) + rn11)))]) dX12_readFence_89 zW_66 (ix_in hg) rfl rfl rfl ?_
    obtain ⟨rfl, rfl, rfl⟩ := so3 h
    exact zJ_vret dX12_readFence_90 rfl
  refine zJ_icmp_ne (tgt := 31) dX12_readFence_20 (by decide) rfl (fun hc => ?_) (fun hc => ?_)
  · replace h := it_f hc h
    refine zJ_loc (ls' := [(0, .ref 54), (1, .int p1)]) (zll_c rfl (zll_c rfl zll_n)) ?_
    exact hj_X12_readFence_t_31 _ h
  · replace h := it_t hc h
    refine zJ_aload_n dX12_readFence_23 rfl rfl ?_
    refine zJ_aload_n dX12_readFence_24 rfl rfl ?_
    refine zJ_geti (mi := mX12_readFence) (x := m_at) dX12_readFence_25 F_X12_151 zW_54 rfl rfl rfl ?_
    obtain ⟨m_wrongn14, hcl, h⟩ := bd1_some h
    refine zJ_callV2 (σ := σ) (L := ([(3474, (nI 64)), (3475, m_length), (3476, m_top), (3477, m_at), (3478, m_wrong)], [(64, m_text), (66, (upd m_newFences p1.toNatClampNeg rn2))], [])) (mi := mX12_readFence) (yi := mX12_fault) (as := [.int m_at]) (st := []) (L2 := ([(3474, (nI 64)), (3475, m_length), (3476, m_top), (3477, m_at), (3478, m_wrongn14)], [(64, m_text), (66, (upd m_newFences p1.toNatClampNeg rn2))], [])) dX12_readFence_28 ML_X12_169 Yv_X12_fault rfl zW_54 rfl rfl (t_X12_fault l _ hcl) (zsub_i (zle_c rfl zle_n) zle_n zle_n) (zjok_i rfl rfl (zle_c rfl (zle_c rfl (zle_c rfl (zle_c rfl (zle_c rfl zle_n))))) rfl rfl (zle_c rfl (zle_c rfl zle_n)) rfl rfl zle_n) (Nat.le_of_ble_eq_true rfl) (Nat.le_of_ble_eq_true rfl) rfl rfl ?_
    refine zJ_loc (ls' := [(0, .ref 54), (1, .int p1)]) (zll_c rfl (zll_c rfl zll_n)) ?_
    exact hj_X12_readFence_t_31 _ h
set_option maxRecDepth 100000 in
set_option maxHeartbeats 4000000 in
theorem t_X12_remember_m_aside (l : Launch) (σ : zS) {m_undoMany : Int32} {m_undos : (Nat → Int32)} {m_aside : (Nat → Int32)} {w_m_undoMany : Int32} {w_m_undos : (Nat → Int32)} (h : f_X12_remember_m_aside m_undoMany m_undos m_aside = some (w_m_undoMany, w_m_undos)) : zMt l zW 1 mX12_remember σ ([(3494, m_undoMany)], [(74, m_undos), (75, m_aside)], []) [.ref 54, .ref 75] none ([(3494, w_m_undoMany)], [(74, w_m_undos), (75, m_aside)], []) := by
  refine zMt_of (ls := [(0, .ref 54), (1, .ref 75)]) (by decide) rfl (fun _ => Nat.le_of_ble_eq_true rfl) rfl ?_
  unfold f_X12_remember_m_aside at h
  refine zJ_aload_n dX12_remember_0 rfl rfl ?_
  refine zJ_geti (mi := mX12_remember) (x := m_undoMany) dX12_remember_1 F_X12_192 zW_54 rfl rfl rfl ?_
  refine zJ_bipush dX12_remember_4 zb_12 rfl ?_
  have hj_X12_remember_m_aside_49 : ∀ (m_undoMany_49j : Int32) (m_undos_49j : (Nat → Int32)), j_X12_remember_m_aside_49 m_aside m_undoMany_49j m_undos_49j = some (w_m_undoMany, w_m_undos) → zJ l zW 1 mX12_remember σ ([(3494, m_undoMany_49j)], [(74, m_undos_49j), (75, m_aside)], []) 49 [(0, .ref 54), (1, .ref 75)] [] none ([(3494, w_m_undoMany)], [(74, w_m_undos), (75, m_aside)], []) := by
    intro m_undoMany_49j m_undos_49j h
    unfold j_X12_remember_m_aside_49 at h
    refine zJ_aload_n dX12_remember_49 rfl rfl ?_
    refine zJ_aload_n dX12_remember_50 rfl rfl ?_
    refine zJ_getr (mi := mX12_remember) dX12_remember_51 F_X12_73 zW_54 rfl rfl ?_
    refine zJ_bipush dX12_remember_54 zb_49 rfl ?_
    refine zJ_aload_n dX12_remember_56 rfl rfl ?_
    refine zJ_geti (mi := mX12_remember) (x := m_undoMany_49j) dX12_remember_57 F_X12_192 zW_54 rfl rfl rfl ?_
    refine zJ_imul dX12_remember_60 rfl ?_
    obtain ⟨m_undosn1, hcl, h⟩ := bd1_some h
    refine zJ_callS2 (σ := σ) (L := ([(3494, m_undoMany_49j)], [(74, m_undos_49j), (75, m_aside)], [])) (mi := mX12_remember) (yi := mX12_lay) (as := [.ref 75, .ref 74, .int ((49 : Int32) * m_undoMany_49j)]) (st := []) (L2 := ([(3494, m_undoMany_49j)], [(74, m_undosn1), (75, m_aside)], [])) dX12_remember_61 ML_X12_305 Ys_X12_lay rfl (t_X12_lay_m_aside_m_undos l _ hcl) (zsub_i zle_n (zle_c rfl (zle_c rfl zle_n)) zle_n) (zjok_i rfl rfl (zle_c rfl zle_n) rfl rfl (zle_c rfl (zle_c rfl zle_n)) rfl rfl zle_n) (Nat.le_of_ble_eq_true rfl) (Nat.le_of_ble_eq_true rfl) rfl rfl ?_
    refine zJ_aload_n dX12_remember_64 rfl rfl ?_
    refine zJ_dup dX12_remember_65 rfl rfl ?_
    refine zJ_geti (mi := mX12_remember) (x := m_undoMany_49j) dX12_remember_66 F_X12_192 zW_54 rfl rfl rfl ?_
    refine zJ_iconst dX12_remember_69 zc_1 rfl ?_
    refine zJ_iadd dX12_remember_70 rfl ?_
    refine zK_puti (mi := mX12_remember) (la' := [(3494, (m_undoMany_49j + (1 : Int32)))]) zW_ok dX12_remember_71 F_X12_192 P_12_38 zW_54 rfl rfl rfl ?_
    obtain ⟨rfl, rfl⟩ := so2 h
    exact zJ_vret dX12_remember_74 rfl
  refine zJ_icmp_ne (tgt := 49) dX12_remember_6 (by decide) rfl (fun hc => ?_) (fun hc => ?_)
  · replace h := it_f hc h
    refine zJ_loc (ls' := [(0, .ref 54), (1, .ref 75)]) (zll_c rfl (zll_c rfl zll_n)) ?_
    exact hj_X12_remember_m_aside_49 _ _ h
  · replace h := it_t hc h
    refine zJ_iconst dX12_remember_9 zc_0 rfl ?_
    refine zJ_istore_n (ls' := [(2, .int (0 : Int32)), (0, .ref 54), (1, .ref 75)]) dX12_remember_10 rfl rfl rfl ?_
    have hk11 : ∀ (m_undos_11x : (Nat → Int32)), k_X12_remember_m_aside_11 m_undoMany m_aside m_undos_11x = some (w_m_undoMany, w_m_undos) → zJ l zW 1 mX12_remember σ ([(3494, m_undoMany)], [(74, m_undos_11x), (75, m_aside)], []) 39 [(0, .ref 54), (1, .ref 75)] [] none ([(3494, w_m_undoMany)], [(74, w_m_undos), (75, m_aside)], []) := by
      intro m_undos_11x h
      unfold k_X12_remember_m_aside_11 at h
      refine zJ_aload_n dX12_remember_39 rfl rfl ?_
      refine zJ_dup dX12_remember_40 rfl rfl ?_
      refine zJ_geti (mi := mX12_remember) (x := m_undoMany) dX12_remember_41 F_X12_192 zW_54 rfl rfl rfl ?_
      refine zJ_iconst dX12_remember_44 zc_1 rfl ?_
      refine zJ_isub dX12_remember_45 rfl ?_
      refine zK_puti (mi := mX12_remember) (la' := [(3494, (m_undoMany - (1 : Int32)))]) zW_ok dX12_remember_46 F_X12_192 P_12_38 zW_54 rfl rfl rfl ?_
      refine zJ_loc (ls' := [(0, .ref 54), (1, .ref 75)]) (zll_c rfl (zll_c rfl zll_n)) ?_
      exact hj_X12_remember_m_aside_49 _ _ h
    refine zJ_loc (ls' := [(0, .ref 54), (1, .ref 75), (2, .int (0 : Int32))]) (zll_c rfl (zll_c rfl (zll_c rfl zll_n))) ?_
    refine ml2_J (fun (v2_11 : Int32) (m_undos_11 : (Nat → Int32)) => zJ l zW 1 mX12_remember σ ([(3494, m_undoMany)], [(74, m_undos_11), (75, m_aside)], []) 11 [(0, .ref 54), (1, .ref 75), (2, .int v2_11)] [] none ([(3494, w_m_undoMany)], [(74, w_m_undos), (75, m_aside)], [])) (fun rc11 hrc11 v2_11 m_undos_11 h => ?_) zN _ _ h
    unfold s_X12_remember_m_aside_11 at h
    refine zJ_iload_n dX12_remember_11 rfl rfl ?_
    refine zJ_sipush dX12_remember_12 zs_539 rfl ?_
    refine zJ_icmp_ge (tgt := 39) dX12_remember_15 (by decide) rfl (fun hc => ?_) (fun hc => ?_)
    · replace h := it_t hc h
      refine zJ_loc (ls' := [(0, .ref 54), (1, .ref 75)]) (zll_c rfl (zll_c rfl zll_n)) ?_
      exact hk11 _ h
    · replace h := it_f hc h
      refine zJ_aload_n dX12_remember_18 rfl rfl ?_
      refine zJ_getr (mi := mX12_remember) dX12_remember_19 F_X12_73 zW_54 rfl rfl ?_
      refine zJ_iload_n dX12_remember_22 rfl rfl ?_
      refine zJ_aload_n dX12_remember_23 rfl rfl ?_
      refine zJ_getr (mi := mX12_remember) dX12_remember_24 F_X12_73 zW_54 rfl rfl ?_
      refine zJ_iload_n dX12_remember_27 rfl rfl ?_
      refine zJ_bipush dX12_remember_28 zb_49 rfl ?_
      refine zJ_iadd dX12_remember_30 rfl ?_
      obtain ⟨hg, h⟩ := gd_some h
      refine zJ_iald (mi := mX12_remember) (f := m_undos_11) dX12_remember_31 zW_74 (ix_in hg) rfl rfl ?_
      obtain ⟨hg, h⟩ := gd_some h
      refine zK_iast (mi := mX12_remember) (f := m_undos_11) (lb' := [(74, (upd m_undos_11 v2_11.toNatClampNeg (m_undos_11 (v2_11 + (49 : Int32)).toNatClampNeg))), (75, m_aside)]) dX12_remember_32 zW_74 (ix_in hg) rfl rfl rfl ?_
      obtain ⟨v2n2, ev2n2, h⟩ := lt1_some h
      refine zJ_iincN (ls' := [(2, .int v2n2), (0, .ref 54), (1, .ref 75)]) dX12_remember_33 rfl rfl zc_1 ev2n2 rfl rfl ?_
      refine zJ_goto (tgt := 11) dX12_remember_36 (by decide) ?_
      refine zJ_loc (ls' := [(0, .ref 54), (1, .ref 75), (2, .int v2n2)]) (zll_c rfl (zll_c rfl (zll_c rfl zll_n))) ?_
      exact hrc11 _ _ h
set_option maxRecDepth 100000 in
set_option maxHeartbeats 4000000 in
theorem t_X12_remember_m_now (l : Launch) (σ : zS) {m_undoMany : Int32} {m_now : (Nat → Int32)} {m_undos : (Nat → Int32)} {w_m_undoMany : Int32} {w_m_undos : (Nat → Int32)} (h : f_X12_remember_m_now m_undoMany m_now m_undos = some (w_m_undoMany, w_m_undos)) : zMt l zW 1 mX12_remember σ ([(3494, m_undoMany)], [(55, m_now), (74, m_undos)], []) [.ref 54, .ref 55] none ([(3494, w_m_undoMany)], [(55, m_now), (74, w_m_undos)], []) := by
  refine zMt_of (ls := [(0, .ref 54), (1, .ref 55)]) (by decide) rfl (fun _ => Nat.le_of_ble_eq_true rfl) rfl ?_
  unfold f_X12_remember_m_now at h
  refine zJ_aload_n dX12_remember_0 rfl rfl ?_
  refine zJ_geti (mi := mX12_remember) (x := m_undoMany) dX12_remember_1 F_X12_192 zW_54 rfl rfl rfl ?_
  refine zJ_bipush dX12_remember_4 zb_12 rfl ?_
  have hj_X12_remember_m_now_49 : ∀ (m_undoMany_49j : Int32) (m_undos_49j : (Nat → Int32)), j_X12_remember_m_now_49 m_now m_undoMany_49j m_undos_49j = some (w_m_undoMany, w_m_undos) → zJ l zW 1 mX12_remember σ ([(3494, m_undoMany_49j)], [(55, m_now), (74, m_undos_49j)], []) 49 [(0, .ref 54), (1, .ref 55)] [] none ([(3494, w_m_undoMany)], [(55, m_now), (74, w_m_undos)], []) := by
    intro m_undoMany_49j m_undos_49j h
    unfold j_X12_remember_m_now_49 at h
    refine zJ_aload_n dX12_remember_49 rfl rfl ?_
    refine zJ_aload_n dX12_remember_50 rfl rfl ?_
    refine zJ_getr (mi := mX12_remember) dX12_remember_51 F_X12_73 zW_54 rfl rfl ?_
    refine zJ_bipush dX12_remember_54 zb_49 rfl ?_
    refine zJ_aload_n dX12_remember_56 rfl rfl ?_
    refine zJ_geti (mi := mX12_remember) (x := m_undoMany_49j) dX12_remember_57 F_X12_192 zW_54 rfl rfl rfl ?_
    refine zJ_imul dX12_remember_60 rfl ?_
    obtain ⟨m_undosn1, hcl, h⟩ := bd1_some h
    refine zJ_callS2 (σ := σ) (L := ([(3494, m_undoMany_49j)], [(55, m_now), (74, m_undos_49j)], [])) (mi := mX12_remember) (yi := mX12_lay) (as := [.ref 55, .ref 74, .int ((49 : Int32) * m_undoMany_49j)]) (st := []) (L2 := ([(3494, m_undoMany_49j)], [(55, m_now), (74, m_undosn1)], [])) dX12_remember_61 ML_X12_305 Ys_X12_lay rfl (t_X12_lay_m_now_m_undos l _ hcl) (zsub_i zle_n (zle_c rfl (zle_c rfl zle_n)) zle_n) (zjok_i rfl rfl (zle_c rfl zle_n) rfl rfl (zle_c rfl (zle_c rfl zle_n)) rfl rfl zle_n) (Nat.le_of_ble_eq_true rfl) (Nat.le_of_ble_eq_true rfl) rfl rfl ?_
    refine zJ_aload_n dX12_remember_64 rfl rfl ?_
    refine zJ_dup dX12_remember_65 rfl rfl ?_
    refine zJ_geti (mi := mX12_remember) (x := m_undoMany_49j) dX12_remember_66 F_X12_192 zW_54 rfl rfl rfl ?_
    refine zJ_iconst dX12_remember_69 zc_1 rfl ?_
    refine zJ_iadd dX12_remember_70 rfl ?_
    refine zK_puti (mi := mX12_remember) (la' := [(3494, (m_undoMany_49j + (1 : Int32)))]) zW_ok dX12_remember_71 F_X12_192 P_12_38 zW_54 rfl rfl rfl ?_
    obtain ⟨rfl, rfl⟩ := so2 h
    exact zJ_vret dX12_remember_74 rfl
  refine zJ_icmp_ne (tgt := 49) dX12_remember_6 (by decide) rfl (fun hc => ?_) (fun hc => ?_)
  · replace h := it_f hc h
    refine zJ_loc (ls' := [(0, .ref 54), (1, .ref 55)]) (zll_c rfl (zll_c rfl zll_n)) ?_
    exact hj_X12_remember_m_now_49 _ _ h
  · replace h := it_t hc h
    refine zJ_iconst dX12_remember_9 zc_0 rfl ?_
    refine zJ_istore_n (ls' := [(2, .int (0 : Int32)), (0, .ref 54), (1, .ref 55)]) dX12_remember_10 rfl rfl rfl ?_
    have hk11 : ∀ (m_undos_11x : (Nat → Int32)), k_X12_remember_m_now_11 m_undoMany m_now m_undos_11x = some (w_m_undoMany, w_m_undos) → zJ l zW 1 mX12_remember σ ([(3494, m_undoMany)], [(55, m_now), (74, m_undos_11x)], []) 39 [(0, .ref 54), (1, .ref 55)] [] none ([(3494, w_m_undoMany)], [(55, m_now), (74, w_m_undos)], []) := by
      intro m_undos_11x h
      unfold k_X12_remember_m_now_11 at h
      refine zJ_aload_n dX12_remember_39 rfl rfl ?_
      refine zJ_dup dX12_remember_40 rfl rfl ?_
      refine zJ_geti (mi := mX12_remember) (x := m_undoMany) dX12_remember_41 F_X12_192 zW_54 rfl rfl rfl ?_
      refine zJ_iconst dX12_remember_44 zc_1 rfl ?_
      refine zJ_isub dX12_remember_45 rfl ?_
      refine zK_puti (mi := mX12_remember) (la' := [(3494, (m_undoMany - (1 : Int32)))]) zW_ok dX12_remember_46 F_X12_192 P_12_38 zW_54 rfl rfl rfl ?_
      refine zJ_loc (ls' := [(0, .ref 54), (1, .ref 55)]) (zll_c rfl (zll_c rfl zll_n)) ?_
      exact hj_X12_remember_m_now_49 _ _ h
    refine zJ_loc (ls' := [(0, .ref 54), (1, .ref 55), (2, .int (0 : Int32))]) (zll_c rfl (zll_c rfl (zll_c rfl zll_n))) ?_
    refine ml2_J (fun (v2_11 : Int32) (m_undos_11 : (Nat → Int32)) => zJ l zW 1 mX12_remember σ ([(3494, m_undoMany)], [(55, m_now), (74, m_undos_11)], []) 11 [(0, .ref 54), (1, .ref 55), (2, .int v2_11)] [] none ([(3494, w_m_undoMany)], [(55, m_now), (74, w_m_undos)], [])) (fun rc11 hrc11 v2_11 m_undos_11 h => ?_) zN _ _ h
    unfold s_X12_remember_m_now_11 at h
    refine zJ_iload_n dX12_remember_11 rfl rfl ?_
    refine zJ_sipush dX12_remember_12 zs_539 rfl ?_
    refine zJ_icmp_ge (tgt := 39) dX12_remember_15 (by decide) rfl (fun hc => ?_) (fun hc => ?_)
    · replace h := it_t hc h
      refine zJ_loc (ls' := [(0, .ref 54), (1, .ref 55)]) (zll_c rfl (zll_c rfl zll_n)) ?_
      exact hk11 _ h
    · replace h := it_f hc h
      refine zJ_aload_n dX12_remember_18 rfl rfl ?_
      refine zJ_getr (mi := mX12_remember) dX12_remember_19 F_X12_73 zW_54 rfl rfl ?_
      refine zJ_iload_n dX12_remember_22 rfl rfl ?_
      refine zJ_aload_n dX12_remember_23 rfl rfl ?_
      refine zJ_getr (mi := mX12_remember) dX12_remember_24 F_X12_73 zW_54 rfl rfl ?_
      refine zJ_iload_n dX12_remember_27 rfl rfl ?_
      refine zJ_bipush dX12_remember_28 zb_49 rfl ?_
      refine zJ_iadd dX12_remember_30 rfl ?_
      obtain ⟨hg, h⟩ := gd_some h
      refine zJ_iald (mi := mX12_remember) (f := m_undos_11) dX12_remember_31 zW_74 (ix_in hg) rfl rfl ?_
      obtain ⟨hg, h⟩ := gd_some h
      refine zK_iast (mi := mX12_remember) (f := m_undos_11) (lb' := [(55, m_now), (74, (upd m_undos_11 v2_11.toNatClampNeg (m_undos_11 (v2_11 + (49 : Int32)).toNatClampNeg)))]) dX12_remember_32 zW_74 (ix_in hg) rfl rfl rfl ?_
      obtain ⟨v2n2, ev2n2, h⟩ := lt1_some h
      refine zJ_iincN (ls' := [(2, .int v2n2), (0, .ref 54), (1, .ref 55)]) dX12_remember_33 rfl rfl zc_1 ev2n2 rfl rfl ?_
      refine zJ_goto (tgt := 11) dX12_remember_36 (by decide) ?_
      refine zJ_loc (ls' := [(0, .ref 54), (1, .ref 55), (2, .int v2n2)]) (zll_c rfl (zll_c rfl (zll_c rfl zll_n))) ?_
      exact hrc11 _ _ h
set_option maxRecDepth 100000 in
set_option maxHeartbeats 4000000 in
theorem t_X12_ridden (l : Launch) (σ : zS) {p1 : Int32} {p2 : Int32} {m_riddenMany : Int32} {m_riddenFaults : Int32} {m_now : (Nat → Int32)} {w_m_riddenMany : Int32} {w_m_riddenFaults : Int32} (h : f_X12_ridden p1 p2 m_riddenMany m_riddenFaults m_now = some (w_m_riddenMany, w_m_riddenFaults)) : zMt l zW 0 mX12_ridden σ ([(3509, m_riddenMany), (3510, m_riddenFaults)], [(55, m_now)], []) [.ref 54, .int p1, .int p2] none ([(3509, w_m_riddenMany), (3510, w_m_riddenFaults)], [(55, m_now)], []) := by
  refine zMt_of (ls := [(0, .ref 54), (1, .int p1), (2, .int p2)]) (by decide) rfl (fun _ => Nat.le_of_ble_eq_true rfl) rfl ?_
  unfold f_X12_ridden at h
  refine zJ_aload_n dX12_ridden_0 rfl rfl ?_
  refine zJ_iconst dX12_ridden_1 zc_0 rfl ?_
  refine zK_puti (mi := mX12_ridden) (la' := [(3509, (0 : Int32)), (3510, m_riddenFaults)]) zW_ok dX12_ridden_2 F_X12_435 P_12_53 zW_54 rfl rfl rfl ?_
  refine zJ_aload_n dX12_ridden_5 rfl rfl ?_
  refine zJ_iconst dX12_ridden_6 zc_0 rfl ?_
  refine zK_puti (mi := mX12_ridden) (la' := [(3509, (0 : Int32)), (3510, (0 : Int32))]) zW_ok dX12_ridden_7 F_X12_438 P_12_54 zW_54 rfl rfl rfl ?_
  refine zJ_iconst dX12_ridden_10 zc_0 rfl ?_
  refine zJ_istore_n (ls' := [(3, .int (0 : Int32)), (0, .ref 54), (1, .int p1), (2, .int p2)]) dX12_ridden_11 rfl rfl rfl ?_
  have hk12 : ∀ (m_riddenMany_12x : Int32) (m_riddenFaults_12x : Int32), k_X12_ridden_12  m_riddenMany_12x m_riddenFaults_12x = some (w_m_riddenMany, w_m_riddenFaults) → zJ l zW 0 mX12_ridden σ ([(3509, m_riddenMany_12x), (3510, m_riddenFaults_12x)], [(55, m_now)], []) 87 [] [] none ([(3509, w_m_riddenMany), (3510, w_m_riddenFaults)], [(55, m_now)], []) := by
    intro m_riddenMany_12x m_riddenFaults_12x h
    unfold k_X12_ridden_12 at h
    obtain ⟨rfl, rfl⟩ := so2 h
    exact zJ_vret dX12_ridden_87 rfl
  refine zJ_loc (ls' := [(0, .ref 54), (1, .int p1), (2, .int p2), (3, .int (0 : Int32))]) (zll_c rfl (zll_c rfl (zll_c rfl (zll_c rfl zll_n)))) ?_
  refine ml3_J (fun (v3_12 : Int32) (m_riddenMany_12 : Int32) (m_riddenFaults_12 : Int32) => zJ l zW 0 mX12_ridden σ ([(3509, m_riddenMany_12), (3510, m_riddenFaults_12)], [(55, m_now)], []) 12 [(0, .ref 54), (1, .int p1), (2, .int p2), (3, .int v3_12)] [] none ([(3509, w_m_riddenMany), (3510, w_m_riddenFaults)], [(55, m_now)], [])) (fun rc12 hrc12 v3_12 m_riddenMany_12 m_riddenFaults_12 h => ?_) zN _ _ _ h
  unfold s_X12_ridden_12 at h
  refine zJ_iload_n dX12_ridden_12 rfl rfl ?_
  refine zJ_aload_n dX12_ridden_13 rfl rfl ?_
  refine zJ_getr (mi := mX12_ridden) dX12_ridden_14 F_X12_9 zW_54 rfl rfl ?_
  refine zJ_bipush dX12_ridden_17 zb_48 rfl ?_
  obtain ⟨hg, h⟩ := gd_some h
  refine zJ_iald (mi := mX12_ridden) (f := m_now) dX12_ridden_19 zW_55 (ix_in hg) rfl rfl ?_
  refine zJ_icmp_ge (tgt := 87) dX12_ridden_20 (by decide) rfl (fun hc => ?_) (fun hc => ?_)
  · replace h := it_t hc h
    refine zJ_loc (ls' := []) zll_n ?_
    exact hk12 _ _ h
  · replace h := it_f hc h
    refine zJ_aload_n dX12_ridden_23 rfl rfl ?_
    refine zJ_getr (mi := mX12_ridden) dX12_ridden_24 F_X12_9 zW_54 rfl rfl ?_
    refine zJ_iconst dX12_ridden_27 zc_4 rfl ?_
    refine zJ_iload_n dX12_ridden_28 rfl rfl ?_
    refine zJ_imul dX12_ridden_29 rfl ?_
    obtain ⟨hg, h⟩ := gd_some h
    refine zJ_iald (mi := mX12_ridden) (f := m_now) dX12_ridden_30 zW_55 (ix_in hg) rfl rfl ?_
    refine zJ_iload_n dX12_ridden_31 rfl rfl ?_
    refine zJ_icmp_ne (tgt := 81) dX12_ridden_32 (by decide) rfl (fun hc => ?_) (fun hc => ?_)
    · replace h := it_f hc h
      obtain ⟨v3n1, ev3n1, h⟩ := lt1_some h
      refine zJ_iincN (ls' := [(3, .int v3n1), (0, .ref 54), (1, .int p1), (2, .int p2)]) dX12_ridden_81 rfl rfl zc_1 ev3n1 rfl rfl ?_
      refine zJ_goto (tgt := 12) dX12_ridden_84 (by decide) ?_
      refine zJ_loc (ls' := [(0, .ref 54), (1, .int p1), (2, .int p2), (3, .int v3n1)]) (zll_c rfl (zll_c rfl (zll_c rfl (zll_c rfl zll_n)))) ?_
      exact hrc12 _ _ _ h
    · replace h := it_t hc h
      refine zJ_aload_n dX12_ridden_35 rfl rfl ?_
      refine zJ_getr (mi := mX12_ridden) dX12_ridden_36 F_X12_9 zW_54 rfl rfl ?_
      refine zJ_iconst dX12_ridden_39 zc_4 rfl ?_
      refine zJ_iload_n dX12_ridden_40 rfl rfl ?_
      refine zJ_imul dX12_ridden_41 rfl ?_
      refine zJ_iconst dX12_ridden_42 zc_1 rfl ?_
      refine zJ_iadd dX12_ridden_43 rfl ?_
      obtain ⟨hg, h⟩ := gd_some h
      refine zJ_iald (mi := mX12_ridden) (f := m_now) dX12_ridden_44 zW_55 (ix_in hg) rfl rfl ?_
      refine zJ_iload_n dX12_ridden_45 rfl rfl ?_
      refine zJ_icmp_eq (tgt := 52) dX12_ridden_46 (by decide) rfl (fun hc => ?_) (fun hc => ?_)
      · replace h := it_t hc h
        refine zJ_aload_n dX12_ridden_52 rfl rfl ?_
        refine zJ_dup dX12_ridden_53 rfl rfl ?_
        refine zJ_geti (mi := mX12_ridden) (x := m_riddenMany_12) dX12_ridden_54 F_X12_435 zW_54 rfl rfl rfl ?_
        refine zJ_iconst dX12_ridden_57 zc_1 rfl ?_
        refine zJ_iadd dX12_ridden_58 rfl ?_
        refine zK_puti (mi := mX12_ridden) (la' := [(3509, (m_riddenMany_12 + (1 : Int32))), (3510, m_riddenFaults_12)]) zW_ok dX12_ridden_59 F_X12_435 P_12_53 zW_54 rfl rfl rfl ?_
        refine zJ_aload_n dX12_ridden_62 rfl rfl ?_
        refine zJ_dup dX12_ridden_63 rfl rfl ?_
        refine zJ_geti (mi := mX12_ridden) (x := m_riddenFaults_12) dX12_ridden_64 F_X12_438 zW_54 rfl rfl rfl ?_
        refine zJ_aload_n dX12_ridden_67 rfl rfl ?_
        refine zJ_getr (mi := mX12_ridden) dX12_ridden_68 F_X12_9 zW_54 rfl rfl ?_
        refine zJ_iconst dX12_ridden_71 zc_4 rfl ?_
        refine zJ_iload_n dX12_ridden_72 rfl rfl ?_
        refine zJ_imul dX12_ridden_73 rfl ?_
        refine zJ_iconst dX12_ridden_74 zc_2 rfl ?_
        refine zJ_iadd dX12_ridden_75 rfl ?_
        obtain ⟨hg, h⟩ := gd_some h
        refine zJ_iald (mi := mX12_ridden) (f := m_now) dX12_ridden_76 zW_55 (ix_in hg) rfl rfl ?_
        refine zJ_iadd dX12_ridden_77 rfl ?_
        refine zK_puti (mi := mX12_ridden) (la' := [(3509, (m_riddenMany_12 + (1 : Int32))), (3510, (m_riddenFaults_12 + (m_now (((4 : Int32) * v3_12) + (2 : Int32)).toNatClampNeg)))]) zW_ok dX12_ridden_78 F_X12_438 P_12_54 zW_54 rfl rfl rfl ?_
        obtain ⟨v3n2, ev3n2, h⟩ := lt1_some h
        refine zJ_iincN (ls' := [(3, .int v3n2), (0, .ref 54), (1, .int p1), (2, .int p2)]) dX12_ridden_81 rfl rfl zc_1 ev3n2 rfl rfl ?_
        refine zJ_goto (tgt := 12) dX12_ridden_84 (by decide) ?_
        refine zJ_loc (ls' := [(0, .ref 54), (1, .int p1), (2, .int p2), (3, .int v3n2)]) (zll_c rfl (zll_c rfl (zll_c rfl (zll_c rfl zll_n)))) ?_
        exact hrc12 _ _ _ h
      · replace h := it_f hc h
        refine zJ_goto (tgt := 81) dX12_ridden_49 (by decide) ?_
        obtain ⟨v3n3, ev3n3, h⟩ := lt1_some h
        refine zJ_iincN (ls' := [(3, .int v3n3), (0, .ref 54), (1, .int p1), (2, .int p2)]) dX12_ridden_81 rfl rfl zc_1 ev3n3 rfl rfl ?_
        refine zJ_goto (tgt := 12) dX12_ridden_84 (by decide) ?_
        refine zJ_loc (ls' := [(0, .ref 54), (1, .int p1), (2, .int p2), (3, .int v3n3)]) (zll_c rfl (zll_c rfl (zll_c rfl (zll_c rfl zll_n)))) ?_
        exact hrc12 _ _ _ h
set_option maxRecDepth 100000 in
set_option maxHeartbeats 4000000 in
theorem t_X12_ride (l : Launch) (σ : zS) {p1 : Int32} {p2 : Int32} {p3 : Int32} {p4 : Int32} {m_fences : Int32} {m_allowed : Int32} {m_horses : Int32} {m_plans : Int32} {m_rowMany : Int32} {m_thrown : Int32} {m_read : Int32} {m_length : Int32} {m_top : Int32} {m_at : Int32} {m_wrong : Int32} {m_ruleSize : Int32} {m_isAsked : Int32} {m_askedHorse : Int32} {m_askedFence : Int32} {m_askedLetter : Int32} {m_askedHeight : Int32} {m_undoMany : Int32} {m_rodeTenths : Int32} {m_refused : Int32} {m_down : Int32} {m_drawn : Int32} {m_now : (Nat → Int32)} {m_kind : (Nat → Int32)} {m_height : (Nat → Int32)} {m_feet : (Nat → Int32)} {m_stride : (Nat → Int32)} {m_scope : (Nat → Int32)} {m_care : (Nat → Int32)} {m_plan : (Nat → Int32)} {m_rule : (Nat → Int32)} {m_undos : (Nat → Int32)} {m_row : (Nat → Int64)} {r : Int32} {w_m_rowMany : Int32} {w_m_thrown : Int32} {w_m_read : Int32} {w_m_length : Int32} {w_m_top : Int32} {w_m_at : Int32} {w_m_wrong : Int32} {w_m_isAsked : Int32} {w_m_askedHorse : Int32} {w_m_askedFence : Int32} {w_m_askedLetter : Int32} {w_m_askedHeight : Int32} {w_m_undoMany : Int32} {w_m_rodeTenths : Int32} {w_m_refused : Int32} {w_m_down : Int32} {w_m_drawn : Int32} {w_m_now : (Nat → Int32)} {w_m_undos : (Nat → Int32)} {w_m_row : (Nat → Int64)} (h : f_X12_ride p1 p2 p3 p4 m_fences m_allowed m_horses m_plans m_rowMany m_thrown m_read m_length m_top m_at m_wrong m_ruleSize m_isAsked m_askedHorse m_askedFence m_askedLetter m_askedHeight m_undoMany m_rodeTenths m_refused m_down m_drawn m_now m_kind m_height m_feet m_stride m_scope m_care m_plan m_rule m_undos m_row = some (r, w_m_rowMany, w_m_thrown, w_m_read, w_m_length, w_m_top, w_m_at, w_m_wrong, w_m_isAsked, w_m_askedHorse, w_m_askedFence, w_m_askedLetter, w_m_askedHeight, w_m_undoMany, w_m_rodeTenths, w_m_refused, w_m_down, w_m_drawn, w_m_now, w_m_undos, w_m_row)) : zMt l zW 208 mX12_ride σ ([(3457, m_fences), (3461, m_allowed), (3462, m_horses), (3466, m_plans), (3472, m_rowMany), (3473, m_thrown), (3474, m_read), (3475, m_length), (3476, m_top), (3477, m_at), (3478, m_wrong), (3483, m_ruleSize), (3484, m_isAsked), (3485, m_askedHorse), (3486, m_askedFence), (3487, m_askedLetter), (3488, m_askedHeight), (3494, m_undoMany), (3496, m_rodeTenths), (3497, m_refused), (3498, m_down), (3499, m_drawn)], [(55, m_now), (56, m_kind), (57, m_height), (58, m_feet), (59, m_stride), (60, m_scope), (61, m_care), (62, m_plan), (69, m_rule), (74, m_undos)], [(65, m_row)]) [.ref 54, .int p1, .int p2, .int p3, .int p4] (some (.int r)) ([(3457, m_fences), (3461, m_allowed), (3462, m_horses), (3466, m_plans), (3472, w_m_rowMany), (3473, w_m_thrown), (3474, w_m_read), (3475, w_m_length), (3476, w_m_top), (3477, w_m_at), (3478, w_m_wrong), (3483, m_ruleSize), (3484, w_m_isAsked), (3485, w_m_askedHorse), (3486, w_m_askedFence), (3487, w_m_askedLetter), (3488, w_m_askedHeight), (3494, w_m_undoMany), (3496, w_m_rodeTenths), (3497, w_m_refused), (3498, w_m_down), (3499, w_m_drawn)], [(55, w_m_now), (56, m_kind), (57, m_height), (58, m_feet), (59, m_stride), (60, m_scope), (61, m_care), (62, m_plan), (69, m_rule), (74, w_m_undos)], [(65, w_m_row)]) := by
  refine zMt_of (ls := [(0, .ref 54), (1, .int p1), (2, .int p2), (3, .int p3), (4, .int p4)]) (by decide) rfl (fun _ => Nat.le_of_ble_eq_true rfl) rfl ?_
  unfold f_X12_ride at h
  refine zJ_aload_n dX12_ride_0 rfl rfl ?_
  refine zJ_iconst dX12_ride_1 zc_0 rfl ?_
  refine zK_puti (mi := mX12_ride) (la' := [(3457, m_fences), (3461, m_allowed), (3462, m_horses), (3466, m_plans), (3472, m_rowMany), (3473, (0 : Int32)), (3474, m_read), (3475, m_length), (3476, m_top), (3477, m_at), (3478, m_wrong), (3483, m_ruleSize), (3484, m_isAsked), (3485, m_askedHorse), (3486, m_askedFence), (3487, m_askedLetter), (3488, m_askedHeight), (3494, m_undoMany), (3496, m_rodeTenths), (3497, m_refused), (3498, m_down), (3499, m_drawn)]) zW_ok dX12_ride_2 F_X12_113 P_12_17 zW_54 rfl rfl rfl ?_
  refine zJ_aload_n dX12_ride_5 rfl rfl ?_
  refine zJ_iload_n dX12_ride_6 rfl rfl ?_
  refine zJ_iload_n dX12_ride_7 rfl rfl ?_
  refine zJ_iload_n dX12_ride_8 rfl rfl ?_
  obtain ⟨rn1, hcl, h⟩ := bd1_some h
  refine zJ_callV2 (σ := σ) (L := ([(3457, m_fences), (3461, m_allowed), (3462, m_horses), (3466, m_plans), (3472, m_rowMany), (3473, (0 : Int32)), (3474, m_read), (3475, m_length), (3476, m_top), (3477, m_at), (3478, m_wrong), (3483, m_ruleSize), (3484, m_isAsked), (3485, m_askedHorse), (3486, m_askedFence), (3487, m_askedLetter), (3488, m_askedHeight), (3494, m_undoMany), (3496, m_rodeTenths), (3497, m_refused), (3498, m_down), (3499, m_drawn)], [(55, m_now), (56, m_kind), (57, m_height), (58, m_feet), (59, m_stride), (60, m_scope), (61, m_care), (62, m_plan), (69, m_rule), (74, m_undos)], [(65, m_row)])) (mi := mX12_ride) (yi := mX12_refusesRide) (as := [.int p1, .int p2, .int p3]) (st := []) (L2 := ([(3457, m_fences), (3461, m_allowed), (3462, m_horses), (3466, m_plans), (3472, m_rowMany), (3473, (0 : Int32)), (3474, m_read), (3475, m_length), (3476, m_top), (3477, m_at), (3478, m_wrong), (3483, m_ruleSize), (3484, m_isAsked), (3485, m_askedHorse), (3486, m_askedFence), (3487, m_askedLetter), (3488, m_askedHeight), (3494, m_undoMany), (3496, m_rodeTenths), (3497, m_refused), (3498, m_down), (3499, m_drawn)], [(55, m_now), (56, m_kind), (57, m_height), (58, m_feet), (59, m_stride), (60, m_scope), (61, m_care), (62, m_plan), (69, m_rule), (74, m_undos)], [(65, m_row)])) dX12_ride_9 ML_X12_328 Yv_X12_refusesRide rfl zW_54 rfl rfl (t_X12_refusesRide l _ hcl) (zsub_i (zle_c rfl (zle_c rfl zle_n)) (zle_c rfl zle_n) zle_n) (zjok_i rfl rfl (zle_c rfl (zle_c rfl (zle_c rfl (zle_c rfl (zle_c rfl (zle_c rfl (zle_c rfl (zle_c rfl (zle_c rfl (zle_c rfl (zle_c rfl (zle_c rfl (zle_c rfl (zle_c rfl (zle_c rfl (zle_c rfl (zle_c rfl (zle_c rfl (zle_c rfl (zle_c rfl (zle_c rfl (zle_c rfl zle_n)))))))))))))))))))))) rfl rfl (zle_c rfl (zle_c rfl (zle_c rfl (zle_c rfl (zle_c rfl (zle_c rfl (zle_c rfl (zle_c rfl (zle_c rfl (zle_c rfl zle_n)))))))))) rfl rfl (zle_c rfl zle_n)) (Nat.le_of_ble_eq_true rfl) (Nat.le_of_ble_eq_true rfl) rfl rfl ?_
  refine zJ_istore (ls' := [(5, .int rn1), (0, .ref 54), (1, .int p1), (2, .int p2), (3, .int p3), (4, .int p4)]) dX12_ride_12 rfl rfl rfl ?_
  refine zJ_iload dX12_ride_14 rfl rfl ?_
  refine zJ_if_ge (tgt := 22) dX12_ride_16 (by decide) rfl (fun hc => ?_) (fun hc => ?_)
  · replace h := it_t hc h
    refine zJ_aload_n dX12_ride_22 rfl rfl ?_
    refine zJ_aload_n dX12_ride_23 rfl rfl ?_
    refine zJ_getr (mi := mX12_ride) dX12_ride_24 F_X12_9 zW_54 rfl rfl ?_
    obtain ⟨m_undoManyn2, m_undosn3, hcl, h⟩ := bd2_some h
    refine zJ_callV2 (σ := σ) (L := ([(3457, m_fences), (3461, m_allowed), (3462, m_horses), (3466, m_plans), (3472, m_rowMany), (3473, (0 : Int32)), (3474, m_read), (3475, m_length), (3476, m_top), (3477, m_at), (3478, m_wrong), (3483, m_ruleSize), (3484, m_isAsked), (3485, m_askedHorse), (3486, m_askedFence), (3487, m_askedLetter), (3488, m_askedHeight), (3494, m_undoMany), (3496, m_rodeTenths), (3497, m_refused), (3498, m_down), (3499, m_drawn)], [(55, m_now), (56, m_kind), (57, m_height), (58, m_feet), (59, m_stride), (60, m_scope), (61, m_care), (62, m_plan), (69, m_rule), (74, m_undos)], [(65, m_row)])) (mi := mX12_ride) (yi := mX12_remember) (as := [.ref 55]) (st := []) (L2 := ([(3457, m_fences), (3461, m_allowed), (3462, m_horses), (3466, m_plans), (3472, m_rowMany), (3473, (0 : Int32)), (3474, m_read), (3475, m_length), (3476, m_top), (3477, m_at), (3478, m_wrong), (3483, m_ruleSize), (3484, m_isAsked), (3485, m_askedHorse), (3486, m_askedFence), (3487, m_askedLetter), (3488, m_askedHeight), (3494, m_undoManyn2), (3496, m_rodeTenths), (3497, m_refused), (3498, m_down), (3499, m_drawn)], [(55, m_now), (56, m_kind), (57, m_height), (58, m_feet), (59, m_stride), (60, m_scope), (61, m_care), (62, m_plan), (69, m_rule), (74, m_undosn3)], [(65, m_row)])) dX12_ride_27 ML_X12_331 Yv_X12_remember rfl zW_54 rfl rfl (t_X12_remember_m_now l _ hcl) (zsub_i (zle_c rfl zle_n) (zle_c rfl (zle_c rfl zle_n)) zle_n) (zjok_i rfl rfl (zle_c rfl (zle_c rfl (zle_c rfl (zle_c rfl (zle_c rfl (zle_c rfl (zle_c rfl (zle_c rfl (zle_c rfl (zle_c rfl (zle_c rfl (zle_c rfl (zle_c rfl (zle_c rfl (zle_c rfl (zle_c rfl (zle_c rfl (zle_c rfl (zle_c rfl (zle_c rfl (zle_c rfl (zle_c rfl zle_n)))))))))))))))))))))) rfl rfl (zle_c rfl (zle_c rfl (zle_c rfl (zle_c rfl (zle_c rfl (zle_c rfl (zle_c rfl (zle_c rfl (zle_c rfl (zle_c rfl zle_n)))))))))) rfl rfl (zle_c rfl zle_n)) (Nat.le_of_ble_eq_true rfl) (Nat.le_of_ble_eq_true rfl) rfl rfl ?_
    refine zJ_aload_n dX12_ride_30 rfl rfl ?_
    refine zJ_iload_n dX12_ride_31 rfl rfl ?_
    refine zJ_iload_n dX12_ride_32 rfl rfl ?_
    refine zJ_iload dX12_ride_33 rfl rfl ?_
    obtain ⟨rn4, m_readn5, m_lengthn6, m_topn7, m_atn8, m_wrongn9, m_isAskedn10, m_askedHorsen11, m_askedFencen12, m_askedLettern13, m_askedHeightn14, m_rodeTenthsn15, m_refusedn16, m_downn17, m_drawnn18, hcl, h⟩ := bd15_some h
    refine zJ_callV2 (σ := σ) (L := ([(3457, m_fences), (3461, m_allowed), (3462, m_horses), (3466, m_plans), (3472, m_rowMany), (3473, (0 : Int32)), (3474, m_read), (3475, m_length), (3476, m_top), (3477, m_at), (3478, m_wrong), (3483, m_ruleSize), (3484, m_isAsked), (3485, m_askedHorse), (3486, m_askedFence), (3487, m_askedLetter), (3488, m_askedHeight), (3494, m_undoManyn2), (3496, m_rodeTenths), (3497, m_refused), (3498, m_down), (3499, m_drawn)], [(55, m_now), (56, m_kind), (57, m_height), (58, m_feet), (59, m_stride), (60, m_scope), (61, m_care), (62, m_plan), (69, m_rule), (74, m_undosn3)], [(65, m_row)])) (mi := mX12_ride) (yi := mX12_goRound) (as := [.int p2, .int p3, .int p4]) (st := []) (L2 := ([(3457, m_fences), (3461, m_allowed), (3462, m_horses), (3466, m_plans), (3472, m_rowMany), (3473, (0 : Int32)), (3474, m_readn5), (3475, m_lengthn6), (3476, m_topn7), (3477, m_atn8), (3478, m_wrongn9), (3483, m_ruleSize), (3484, m_isAskedn10), (3485, m_askedHorsen11), (3486, m_askedFencen12), (3487, m_askedLettern13), (3488, m_askedHeightn14), (3494, m_undoManyn2), (3496, m_rodeTenthsn15), (3497, m_refusedn16), (3498, m_downn17), (3499, m_drawnn18)], [(55, m_now), (56, m_kind), (57, m_height), (58, m_feet), (59, m_stride), (60, m_scope), (61, m_care), (62, m_plan), (69, m_rule), (74, m_undosn3)], [(65, m_row)])) dX12_ride_35 ML_X12_335 Yv_X12_goRound rfl zW_54 rfl rfl (t_X12_goRound l _ hcl) (zsub_i (zle_c rfl (zle_c rfl (zle_c rfl (zle_c rfl (zle_c rfl (zle_c rfl (zle_c rfl (zle_c rfl (zle_c rfl (zle_c rfl (zle_c rfl (zle_c rfl (zle_c rfl (zle_c rfl (zle_c rfl (zle_c rfl (zle_c rfl zle_n))))))))))))))))) (zle_c rfl (zle_c rfl (zle_c rfl (zle_c rfl (zle_c rfl (zle_c rfl (zle_c rfl (zle_c rfl zle_n)))))))) zle_n) (zjok_i rfl rfl (zle_c rfl (zle_c rfl (zle_c rfl (zle_c rfl (zle_c rfl (zle_c rfl (zle_c rfl (zle_c rfl (zle_c rfl (zle_c rfl (zle_c rfl (zle_c rfl (zle_c rfl (zle_c rfl (zle_c rfl (zle_c rfl (zle_c rfl (zle_c rfl (zle_c rfl (zle_c rfl (zle_c rfl (zle_c rfl zle_n)))))))))))))))))))))) rfl rfl (zle_c rfl (zle_c rfl (zle_c rfl (zle_c rfl (zle_c rfl (zle_c rfl (zle_c rfl (zle_c rfl (zle_c rfl (zle_c rfl zle_n)))))))))) rfl rfl (zle_c rfl zle_n)) (Nat.le_of_ble_eq_true rfl) (Nat.le_of_ble_eq_true rfl) rfl rfl ?_
    refine zJ_istore (ls' := [(6, .int rn4), (5, .int rn1), (0, .ref 54), (1, .int p1), (2, .int p2), (3, .int p3), (4, .int p4)]) dX12_ride_38 rfl rfl rfl ?_
    refine zJ_aload_n dX12_ride_40 rfl rfl ?_
    refine zJ_getr (mi := mX12_ride) dX12_ride_41 F_X12_9 zW_54 rfl rfl ?_
    refine zJ_iload_n dX12_ride_44 rfl rfl ?_
    refine zJ_iload_n dX12_ride_45 rfl rfl ?_
    refine zJ_iload dX12_ride_46 rfl rfl ?_
    refine zJ_aload_n dX12_ride_48 rfl rfl ?_
    refine zJ_geti (mi := mX12_ride) (x := m_rodeTenthsn15) dX12_ride_49 F_X12_313 zW_54 rfl rfl rfl ?_
    obtain ⟨m_nown19, hcl, h⟩ := bd1_some h
    refine zJ_callS2 (σ := σ) (L := ([(3457, m_fences), (3461, m_allowed), (3462, m_horses), (3466, m_plans), (3472, m_rowMany), (3473, (0 : Int32)), (3474, m_readn5), (3475, m_lengthn6), (3476, m_topn7), (3477, m_atn8), (3478, m_wrongn9), (3483, m_ruleSize), (3484, m_isAskedn10), (3485, m_askedHorsen11), (3486, m_askedFencen12), (3487, m_askedLettern13), (3488, m_askedHeightn14), (3494, m_undoManyn2), (3496, m_rodeTenthsn15), (3497, m_refusedn16), (3498, m_downn17), (3499, m_drawnn18)], [(55, m_now), (56, m_kind), (57, m_height), (58, m_feet), (59, m_stride), (60, m_scope), (61, m_care), (62, m_plan), (69, m_rule), (74, m_undosn3)], [(65, m_row)])) (mi := mX12_ride) (yi := mX12_add) (as := [.ref 55, .int p1, .int p2, .int rn4, .int m_rodeTenthsn15]) (st := []) (L2 := ([(3457, m_fences), (3461, m_allowed), (3462, m_horses), (3466, m_plans), (3472, m_rowMany), (3473, (0 : Int32)), (3474, m_readn5), (3475, m_lengthn6), (3476, m_topn7), (3477, m_atn8), (3478, m_wrongn9), (3483, m_ruleSize), (3484, m_isAskedn10), (3485, m_askedHorsen11), (3486, m_askedFencen12), (3487, m_askedLettern13), (3488, m_askedHeightn14), (3494, m_undoManyn2), (3496, m_rodeTenthsn15), (3497, m_refusedn16), (3498, m_downn17), (3499, m_drawnn18)], [(55, m_nown19), (56, m_kind), (57, m_height), (58, m_feet), (59, m_stride), (60, m_scope), (61, m_care), (62, m_plan), (69, m_rule), (74, m_undosn3)], [(65, m_row)])) dX12_ride_52 ML_X12_338 Ys_X12_add rfl (t_X12_add_m_now l _ hcl) (zsub_i zle_n (zle_c rfl zle_n) zle_n) (zjok_i rfl rfl (zle_c rfl (zle_c rfl (zle_c rfl (zle_c rfl (zle_c rfl (zle_c rfl (zle_c rfl (zle_c rfl (zle_c rfl (zle_c rfl (zle_c rfl (zle_c rfl (zle_c rfl (zle_c rfl (zle_c rfl (zle_c rfl (zle_c rfl (zle_c rfl (zle_c rfl (zle_c rfl (zle_c rfl (zle_c rfl zle_n)))))))))))))))))))))) rfl rfl (zle_c rfl (zle_c rfl (zle_c rfl (zle_c rfl (zle_c rfl (zle_c rfl (zle_c rfl (zle_c rfl (zle_c rfl (zle_c rfl zle_n)))))))))) rfl rfl (zle_c rfl zle_n)) (Nat.le_of_ble_eq_true rfl) (Nat.le_of_ble_eq_true rfl) rfl rfl ?_
    refine zJ_aload_n dX12_ride_55 rfl rfl ?_
    obtain ⟨m_rowManyn20, m_rown21, hcl, h⟩ := bd2_some h
    refine zJ_callV2 (σ := σ) (L := ([(3457, m_fences), (3461, m_allowed), (3462, m_horses), (3466, m_plans), (3472, m_rowMany), (3473, (0 : Int32)), (3474, m_readn5), (3475, m_lengthn6), (3476, m_topn7), (3477, m_atn8), (3478, m_wrongn9), (3483, m_ruleSize), (3484, m_isAskedn10), (3485, m_askedHorsen11), (3486, m_askedFencen12), (3487, m_askedLettern13), (3488, m_askedHeightn14), (3494, m_undoManyn2), (3496, m_rodeTenthsn15), (3497, m_refusedn16), (3498, m_downn17), (3499, m_drawnn18)], [(55, m_nown19), (56, m_kind), (57, m_height), (58, m_feet), (59, m_stride), (60, m_scope), (61, m_care), (62, m_plan), (69, m_rule), (74, m_undosn3)], [(65, m_row)])) (mi := mX12_ride) (yi := mX12_tellRound) (as := []) (st := []) (L2 := ([(3457, m_fences), (3461, m_allowed), (3462, m_horses), (3466, m_plans), (3472, m_rowManyn20), (3473, (0 : Int32)), (3474, m_readn5), (3475, m_lengthn6), (3476, m_topn7), (3477, m_atn8), (3478, m_wrongn9), (3483, m_ruleSize), (3484, m_isAskedn10), (3485, m_askedHorsen11), (3486, m_askedFencen12), (3487, m_askedLettern13), (3488, m_askedHeightn14), (3494, m_undoManyn2), (3496, m_rodeTenthsn15), (3497, m_refusedn16), (3498, m_downn17), (3499, m_drawnn18)], [(55, m_nown19), (56, m_kind), (57, m_height), (58, m_feet), (59, m_stride), (60, m_scope), (61, m_care), (62, m_plan), (69, m_rule), (74, m_undosn3)], [(65, m_rown21)])) dX12_ride_56 ML_X12_342 Yv_X12_tellRound rfl zW_54 rfl rfl (t_X12_tellRound l _ hcl) (zsub_i (zle_c rfl (zle_c rfl (zle_c rfl (zle_c rfl (zle_c rfl zle_n))))) zle_n (zle_c rfl zle_n)) (zjok_i rfl rfl (zle_c rfl (zle_c rfl (zle_c rfl (zle_c rfl (zle_c rfl (zle_c rfl (zle_c rfl (zle_c rfl (zle_c rfl (zle_c rfl (zle_c rfl (zle_c rfl (zle_c rfl (zle_c rfl (zle_c rfl (zle_c rfl (zle_c rfl (zle_c rfl (zle_c rfl (zle_c rfl (zle_c rfl (zle_c rfl zle_n)))))))))))))))))))))) rfl rfl (zle_c rfl (zle_c rfl (zle_c rfl (zle_c rfl (zle_c rfl (zle_c rfl (zle_c rfl (zle_c rfl (zle_c rfl (zle_c rfl zle_n)))))))))) rfl rfl (zle_c rfl zle_n)) (Nat.le_of_ble_eq_true rfl) (Nat.le_of_ble_eq_true rfl) rfl rfl ?_
    refine zJ_iload dX12_ride_59 rfl rfl ?_
    obtain ⟨rfl, rfl, rfl, rfl, rfl, rfl, rfl, rfl, rfl, rfl, rfl, rfl, rfl, rfl, rfl, rfl, rfl, rfl, rfl, rfl, rfl⟩ := so21 h
    exact zJ_iret dX12_ride_61 rfl rfl
  · replace h := it_f hc h
    refine zJ_iload dX12_ride_19 rfl rfl ?_
    obtain ⟨rfl, rfl, rfl, rfl, rfl, rfl, rfl, rfl, rfl, rfl, rfl, rfl, rfl, rfl, rfl, rfl, rfl, rfl, rfl, rfl, rfl⟩ := so21 h
    exact zJ_iret dX12_ride_21 rfl rfl
