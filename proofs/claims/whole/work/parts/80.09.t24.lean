set_option maxRecDepth 100000 in
set_option maxHeartbeats 4000000 in
theorem t_X12_horses (l : Launch) (σ : zS) {m_horses : Int32} {m_typed : Int32} {m_thrown : Int32} {m_read : Int32} {m_length : Int32} {m_top : Int32} {m_at : Int32} {m_wrong : Int32} {m_stride : (Nat → Int32)} {m_scope : (Nat → Int32)} {m_care : (Nat → Int32)} {m_text : (Nat → Int32)} {m_newHorses : (Nat → Int32)} {r : Int32} {w_m_horses : Int32} {w_m_typed : Int32} {w_m_thrown : Int32} {w_m_length : Int32} {w_m_top : Int32} {w_m_at : Int32} {w_m_wrong : Int32} {w_m_stride : (Nat → Int32)} {w_m_scope : (Nat → Int32)} {w_m_care : (Nat → Int32)} {w_m_newHorses : (Nat → Int32)} (h : f_X12_horses m_horses m_typed m_thrown m_read m_length m_top m_at m_wrong m_stride m_scope m_care m_text m_newHorses = some (r, w_m_horses, w_m_typed, w_m_thrown, w_m_length, w_m_top, w_m_at, w_m_wrong, w_m_stride, w_m_scope, w_m_care, w_m_newHorses)) : zMt l zW 4 mX12_horses σ ([(3462, m_horses), (3470, m_typed), (3473, m_thrown), (3474, m_read), (3475, m_length), (3476, m_top), (3477, m_at), (3478, m_wrong)], [(59, m_stride), (60, m_scope), (61, m_care), (64, m_text), (67, m_newHorses)], []) [.ref 54] (some (.int r)) ([(3462, w_m_horses), (3470, w_m_typed), (3473, w_m_thrown), (3474, (nI 64)), (3475, w_m_length), (3476, w_m_top), (3477, w_m_at), (3478, w_m_wrong)], [(59, w_m_stride), (60, w_m_scope), (61, w_m_care), (64, m_text), (67, w_m_newHorses)], []) := by
  refine zMt_of (ls := [(0, .ref 54)]) (by decide) rfl (fun _ => Nat.le_of_ble_eq_true rfl) rfl ?_
  unfold f_X12_horses at h
  refine zJ_aload_n dX12_horses_0 rfl rfl ?_
  refine zJ_iconst dX12_horses_1 zc_0 rfl ?_
  refine zK_puti (mi := mX12_horses) (la' := [(3462, m_horses), (3470, m_typed), (3473, (0 : Int32)), (3474, m_read), (3475, m_length), (3476, m_top), (3477, m_at), (3478, m_wrong)]) zW_ok dX12_horses_2 F_X12_113 P_12_17 zW_54 rfl rfl rfl ?_
  refine zJ_aload_n dX12_horses_5 rfl rfl ?_
  refine zJ_aload_n dX12_horses_6 rfl rfl ?_
  refine zJ_getr (mi := mX12_horses) dX12_horses_7 F_X12_41 zW_54 rfl rfl ?_
  refine zJ_aload_n dX12_horses_10 rfl rfl ?_
  refine zJ_geti (mi := mX12_horses) (x := m_typed) dX12_horses_11 F_X12_139 zW_54 rfl rfl rfl ?_
  refine zJ_bipush dX12_horses_14 zb_76 rfl ?_
  obtain ⟨m_lengthn1, m_topn2, m_atn3, m_wrongn4, hcl, h⟩ := bd4_some h
  refine zJ_callV2 (σ := σ) (L := ([(3462, m_horses), (3470, m_typed), (3473, (0 : Int32)), (3474, m_read), (3475, m_length), (3476, m_top), (3477, m_at), (3478, m_wrong)], [(59, m_stride), (60, m_scope), (61, m_care), (64, m_text), (67, m_newHorses)], [])) (mi := mX12_horses) (yi := mX12_begin) (as := [.ref 64, .int m_typed, .int (76 : Int32)]) (st := []) (L2 := ([(3462, m_horses), (3470, m_typed), (3473, (0 : Int32)), (3474, (nI 64)), (3475, m_lengthn1), (3476, m_topn2), (3477, m_atn3), (3478, m_wrongn4)], [(59, m_stride), (60, m_scope), (61, m_care), (64, m_text), (67, m_newHorses)], [])) dX12_horses_16 ML_X12_185 Yv_X12_begin rfl zW_54 rfl rfl (t_X12_begin_m_text l _ hcl) (zsub_i (zle_c rfl (zle_c rfl (zle_c rfl (zle_c rfl (zle_c rfl zle_n))))) zle_n zle_n) (zjok_i rfl rfl (zle_c rfl (zle_c rfl (zle_c rfl (zle_c rfl (zle_c rfl (zle_c rfl (zle_c rfl (zle_c rfl zle_n)))))))) rfl rfl (zle_c rfl (zle_c rfl (zle_c rfl (zle_c rfl (zle_c rfl zle_n))))) rfl rfl zle_n) (Nat.le_of_ble_eq_true rfl) (Nat.le_of_ble_eq_true rfl) rfl rfl ?_
  refine zJ_aload_n dX12_horses_19 rfl rfl ?_
  refine zJ_iconst dX12_horses_20 zc_0 rfl ?_
  refine zK_puti (mi := mX12_horses) (la' := [(3462, m_horses), (3470, (0 : Int32)), (3473, (0 : Int32)), (3474, (nI 64)), (3475, m_lengthn1), (3476, m_topn2), (3477, m_atn3), (3478, m_wrongn4)]) zW_ok dX12_horses_21 F_X12_139 P_12_14 zW_54 rfl rfl rfl ?_
  refine zJ_aload_n dX12_horses_24 rfl rfl ?_
  refine zJ_geti (mi := mX12_horses) (x := m_lengthn1) dX12_horses_25 F_X12_145 zW_54 rfl rfl rfl ?_
  refine zJ_if_ne (tgt := 33) dX12_horses_28 (by decide) rfl (fun hc => ?_) (fun hc => ?_)
  · replace h := it_f hc h
    refine zJ_iconst dX12_horses_33 zc_0 rfl ?_
    refine zJ_istore_n (ls' := [(1, .int (0 : Int32)), (0, .ref 54)]) dX12_horses_34 rfl rfl rfl ?_
    refine zJ_iconst dX12_horses_35 zc_1 rfl ?_
    refine zJ_istore_n (ls' := [(2, .int (1 : Int32)), (1, .int (0 : Int32)), (0, .ref 54)]) dX12_horses_36 rfl rfl rfl ?_
    have hk37 : ∀ (v1_37x : Int32) (m_at_37x : Int32) (m_wrong_37x : Int32) (m_newHorses_37x : (Nat → Int32)), k_X12_horses_37 m_horses m_stride m_scope m_care m_lengthn1 m_topn2 v1_37x m_at_37x m_wrong_37x m_newHorses_37x = some (r, w_m_horses, w_m_typed, w_m_thrown, w_m_length, w_m_top, w_m_at, w_m_wrong, w_m_stride, w_m_scope, w_m_care, w_m_newHorses) → zJ l zW 4 mX12_horses σ ([(3462, m_horses), (3470, (0 : Int32)), (3473, (0 : Int32)), (3474, (nI 64)), (3475, m_lengthn1), (3476, m_topn2), (3477, m_at_37x), (3478, m_wrong_37x)], [(59, m_stride), (60, m_scope), (61, m_care), (64, m_text), (67, m_newHorses_37x)], []) 91 [(0, .ref 54), (1, .int v1_37x)] [] (some (.int r)) ([(3462, w_m_horses), (3470, w_m_typed), (3473, w_m_thrown), (3474, (nI 64)), (3475, w_m_length), (3476, w_m_top), (3477, w_m_at), (3478, w_m_wrong)], [(59, w_m_stride), (60, w_m_scope), (61, w_m_care), (64, m_text), (67, w_m_newHorses)], []) := by
      intro v1_37x m_at_37x m_wrong_37x m_newHorses_37x h
      unfold k_X12_horses_37 at h
      refine zJ_aload_n dX12_horses_91 rfl rfl ?_
      refine zJ_geti (mi := mX12_horses) (x := m_at_37x) dX12_horses_92 F_X12_151 zW_54 rfl rfl rfl ?_
      refine zJ_aload_n dX12_horses_95 rfl rfl ?_
      refine zJ_geti (mi := mX12_horses) (x := m_lengthn1) dX12_horses_96 F_X12_145 zW_54 rfl rfl rfl ?_
      have hj_X12_horses_110 : ∀ (m_wrong_110j : Int32), j_X12_horses_110 m_horses m_stride m_scope m_care m_lengthn1 m_topn2 v1_37x m_at_37x m_newHorses_37x m_wrong_110j = some (r, w_m_horses, w_m_typed, w_m_thrown, w_m_length, w_m_top, w_m_at, w_m_wrong, w_m_stride, w_m_scope, w_m_care, w_m_newHorses) → zJ l zW 4 mX12_horses σ ([(3462, m_horses), (3470, (0 : Int32)), (3473, (0 : Int32)), (3474, (nI 64)), (3475, m_lengthn1), (3476, m_topn2), (3477, m_at_37x), (3478, m_wrong_110j)], [(59, m_stride), (60, m_scope), (61, m_care), (64, m_text), (67, m_newHorses_37x)], []) 110 [(0, .ref 54), (1, .int v1_37x)] [] (some (.int r)) ([(3462, w_m_horses), (3470, w_m_typed), (3473, w_m_thrown), (3474, (nI 64)), (3475, w_m_length), (3476, w_m_top), (3477, w_m_at), (3478, w_m_wrong)], [(59, w_m_stride), (60, w_m_scope), (61, w_m_care), (64, m_text), (67, w_m_newHorses)], []) := by
        intro m_wrong_110j h
        unfold j_X12_horses_110 at h
        refine zJ_aload_n dX12_horses_110 rfl rfl ?_
        obtain ⟨rn5, hcl, h⟩ := bd1_some h
        refine zJ_callV2 (σ := σ) (L := ([(3462, m_horses), (3470, (0 : Int32)), (3473, (0 : Int32)), (3474, (nI 64)), (3475, m_lengthn1), (3476, m_topn2), (3477, m_at_37x), (3478, m_wrong_110j)], [(59, m_stride), (60, m_scope), (61, m_care), (64, m_text), (67, m_newHorses_37x)], [])) (mi := mX12_horses) (yi := mX12_fine) (as := []) (st := []) (L2 := ([(3462, m_horses), (3470, (0 : Int32)), (3473, (0 : Int32)), (3474, (nI 64)), (3475, m_lengthn1), (3476, m_topn2), (3477, m_at_37x), (3478, m_wrong_110j)], [(59, m_stride), (60, m_scope), (61, m_care), (64, m_text), (67, m_newHorses_37x)], [])) dX12_horses_111 ML_X12_157 Yv_X12_fine rfl zW_54 rfl rfl (t_X12_fine l _ hcl) (zsub_i (zle_c rfl zle_n) zle_n zle_n) (zjok_i rfl rfl (zle_c rfl (zle_c rfl (zle_c rfl (zle_c rfl (zle_c rfl (zle_c rfl (zle_c rfl (zle_c rfl zle_n)))))))) rfl rfl (zle_c rfl (zle_c rfl (zle_c rfl (zle_c rfl (zle_c rfl zle_n))))) rfl rfl zle_n) (Nat.le_of_ble_eq_true rfl) (Nat.le_of_ble_eq_true rfl) rfl rfl ?_
        refine zJ_if_ne (tgt := 124) dX12_horses_114 (by decide) rfl (fun hc => ?_) (fun hc => ?_)
        · replace h := it_f hc h
          refine zJ_iconst dX12_horses_124 zc_0 rfl ?_
          refine zJ_istore_n (ls' := [(3, .int (0 : Int32)), (0, .ref 54), (1, .int v1_37x)]) dX12_horses_125 rfl rfl rfl ?_
          have hk126 : ∀ (m_horses_126x : Int32) (m_stride_126x : (Nat → Int32)) (m_scope_126x : (Nat → Int32)) (m_care_126x : (Nat → Int32)), k_X12_horses_126 m_lengthn1 m_topn2 v1_37x m_at_37x m_newHorses_37x m_wrong_110j m_horses_126x m_stride_126x m_scope_126x m_care_126x = some (r, w_m_horses, w_m_typed, w_m_thrown, w_m_length, w_m_top, w_m_at, w_m_wrong, w_m_stride, w_m_scope, w_m_care, w_m_newHorses) → zJ l zW 4 mX12_horses σ ([(3462, m_horses_126x), (3470, (0 : Int32)), (3473, (0 : Int32)), (3474, (nI 64)), (3475, m_lengthn1), (3476, m_topn2), (3477, m_at_37x), (3478, m_wrong_110j)], [(59, m_stride_126x), (60, m_scope_126x), (61, m_care_126x), (64, m_text), (67, m_newHorses_37x)], []) 228 [(1, .int v1_37x)] [] (some (.int r)) ([(3462, w_m_horses), (3470, w_m_typed), (3473, w_m_thrown), (3474, (nI 64)), (3475, w_m_length), (3476, w_m_top), (3477, w_m_at), (3478, w_m_wrong)], [(59, w_m_stride), (60, w_m_scope), (61, w_m_care), (64, m_text), (67, w_m_newHorses)], []) := by
            intro m_horses_126x m_stride_126x m_scope_126x m_care_126x h
            unfold k_X12_horses_126 at h
            refine zJ_iload_n dX12_horses_228 rfl rfl ?_
            obtain ⟨rfl, rfl, rfl, rfl, rfl, rfl, rfl, rfl, rfl, rfl, rfl, rfl⟩ := so12 h
            exact zJ_iret dX12_horses_229 rfl rfl
          refine zJ_loc (ls' := [(0, .ref 54), (1, .int v1_37x), (3, .int (0 : Int32))]) (zll_c rfl (zll_c rfl (zll_c rfl zll_n))) ?_
          refine ml5_J (fun (v3_126 : Int32) (m_horses_126 : Int32) (m_stride_126 : (Nat → Int32)) (m_scope_126 : (Nat → Int32)) (m_care_126 : (Nat → Int32)) => zJ l zW 4 mX12_horses σ ([(3462, m_horses_126), (3470, (0 : Int32)), (3473, (0 : Int32)), (3474, (nI 64)), (3475, m_lengthn1), (3476, m_topn2), (3477, m_at_37x), (3478, m_wrong_110j)], [(59, m_stride_126), (60, m_scope_126), (61, m_care_126), (64, m_text), (67, m_newHorses_37x)], []) 126 [(0, .ref 54), (1, .int v1_37x), (3, .int v3_126)] [] (some (.int r)) ([(3462, w_m_horses), (3470, w_m_typed), (3473, w_m_thrown), (3474, (nI 64)), (3475, w_m_length), (3476, w_m_top), (3477, w_m_at), (3478, w_m_wrong)], [(59, w_m_stride), (60, w_m_scope), (61, w_m_care), (64, m_text), (67, w_m_newHorses)], [])) (fun rc126 hrc126 v3_126 m_horses_126 m_stride_126 m_scope_126 m_care_126 h => ?_) zN _ _ _ _ _ h
          unfold s_X12_horses_126 at h
          refine zJ_iload_n dX12_horses_126 rfl rfl ?_
          refine zJ_iload_n dX12_horses_127 rfl rfl ?_
          refine zJ_icmp_ge (tgt := 228) dX12_horses_128 (by decide) rfl (fun hc => ?_) (fun hc => ?_)
          · replace h := it_t hc h
            refine zJ_loc (ls' := [(1, .int v1_37x)]) (zll_c rfl zll_n) ?_
            exact hk126 _ _ _ _ h
          · replace h := it_f hc h
            refine zJ_bipush dX12_horses_131 zb_6 rfl ?_
            refine zJ_iload_n dX12_horses_133 rfl rfl ?_
            refine zJ_imul dX12_horses_134 rfl ?_
            obtain ⟨v4n6, ev4n6, h⟩ := lt1_some h
            refine zJ_nmi ev4n6 ?_
            refine zJ_istore (ls' := [(4, .int v4n6), (0, .ref 54), (1, .int v1_37x), (3, .int v3_126)]) dX12_horses_135 rfl rfl rfl ?_
            refine zJ_aload_n dX12_horses_137 rfl rfl ?_
            refine zJ_getr (mi := mX12_horses) dX12_horses_138 F_X12_26 zW_54 rfl rfl ?_
            refine zJ_aload_n dX12_horses_141 rfl rfl ?_
            refine zJ_geti (mi := mX12_horses) (x := m_horses_126) dX12_horses_142 F_X12_126 zW_54 rfl rfl rfl ?_
            refine zJ_aload_n dX12_horses_145 rfl rfl ?_
            refine zJ_getr (mi := mX12_horses) dX12_horses_146 F_X12_52 zW_54 rfl rfl ?_
            refine zJ_iload dX12_horses_149 rfl rfl ?_
            obtain ⟨hg, h⟩ := gd_some h
            refine zJ_iald (mi := mX12_horses) (f := m_newHorses_37x) dX12_horses_151 zW_67 (ix_in hg) rfl rfl ?_
            obtain ⟨hg, h⟩ := gd_some h
            refine zK_iast (mi := mX12_horses) (f := m_stride_126) (lb' := [(59, (upd m_stride_126 m_horses_126.toNatClampNeg (m_newHorses_37x v4n6.toNatClampNeg))), (60, m_scope_126), (61, m_care_126), (64, m_text), (67, m_newHorses_37x)]) dX12_horses_152 zW_59 (ix_in hg) rfl rfl rfl ?_
            refine zJ_aload_n dX12_horses_153 rfl rfl ?_
            refine zJ_getr (mi := mX12_horses) dX12_horses_154 F_X12_29 zW_54 rfl rfl ?_
            refine zJ_aload_n dX12_horses_157 rfl rfl ?_
            refine zJ_geti (mi := mX12_horses) (x := m_horses_126) dX12_horses_158 F_X12_126 zW_54 rfl rfl rfl ?_
            refine zJ_aload_n dX12_horses_161 rfl rfl ?_
            refine zJ_getr (mi := mX12_horses) dX12_horses_162 F_X12_52 zW_54 rfl rfl ?_
            refine zJ_iload dX12_horses_165 rfl rfl ?_
            refine zJ_iconst dX12_horses_167 zc_1 rfl ?_
            refine zJ_iadd dX12_horses_168 rfl ?_
            obtain ⟨hg, h⟩ := gd_some h
            refine zJ_iald (mi := mX12_horses) (f := m_newHorses_37x) dX12_horses_169 zW_67 (ix_in hg) rfl rfl ?_
            obtain ⟨hg, h⟩ := gd_some h
            refine zK_iast (mi := mX12_horses) (f := m_scope_126) (lb' := [(59, (upd m_stride_126 m_horses_126.toNatClampNeg (m_newHorses_37x v4n6.toNatClampNeg))), (60, (upd m_scope_126 m_horses_126.toNatClampNeg (m_newHorses_37x (v4n6 + (1 : Int32)).toNatClampNeg))), (61, m_care_126), (64, m_text), (67, m_newHorses_37x)]) dX12_horses_170 zW_60 (ix_in hg) rfl rfl rfl ?_
            refine zJ_iconst dX12_horses_171 zc_0 rfl ?_
            refine zJ_istore (ls' := [(5, .int (0 : Int32)), (4, .int v4n6), (0, .ref 54), (1, .int v1_37x), (3, .int v3_126)]) dX12_horses_172 rfl rfl rfl ?_
            have hk174 : ∀ (m_care_174x : (Nat → Int32)), k_X12_horses_174 m_newHorses_37x rc126 v3_126 m_horses_126 m_stride_126 m_scope_126 v4n6 m_care_174x = some (r, w_m_horses, w_m_typed, w_m_thrown, w_m_length, w_m_top, w_m_at, w_m_wrong, w_m_stride, w_m_scope, w_m_care, w_m_newHorses) → zJ l zW 4 mX12_horses σ ([(3462, m_horses_126), (3470, (0 : Int32)), (3473, (0 : Int32)), (3474, (nI 64)), (3475, m_lengthn1), (3476, m_topn2), (3477, m_at_37x), (3478, m_wrong_110j)], [(59, (upd m_stride_126 m_horses_126.toNatClampNeg (m_newHorses_37x v4n6.toNatClampNeg))), (60, (upd m_scope_126 m_horses_126.toNatClampNeg (m_newHorses_37x (v4n6 + (1 : Int32)).toNatClampNeg))), (61, m_care_174x), (64, m_text), (67, m_newHorses_37x)], []) 212 [(0, .ref 54), (1, .int v1_37x), (3, .int v3_126)] [] (some (.int r)) ([(3462, w_m_horses), (3470, w_m_typed), (3473, w_m_thrown), (3474, (nI 64)), (3475, w_m_length), (3476, w_m_top), (3477, w_m_at), (3478, w_m_wrong)], [(59, w_m_stride), (60, w_m_scope), (61, w_m_care), (64, m_text), (67, w_m_newHorses)], []) := by
              intro m_care_174x h
              unfold k_X12_horses_174 at h
              refine zJ_aload_n dX12_horses_212 rfl rfl ?_
              refine zJ_dup dX12_horses_213 rfl rfl ?_
              refine zJ_geti (mi := mX12_horses) (x := m_horses_126) dX12_horses_214 F_X12_126 zW_54 rfl rfl rfl ?_
              refine zJ_iconst dX12_horses_217 zc_1 rfl ?_
              refine zJ_iadd dX12_horses_218 rfl ?_
              refine zK_puti (mi := mX12_horses) (la' := [(3462, (m_horses_126 + (1 : Int32))), (3470, (0 : Int32)), (3473, (0 : Int32)), (3474, (nI 64)), (3475, m_lengthn1), (3476, m_topn2), (3477, m_at_37x), (3478, m_wrong_110j)]) zW_ok dX12_horses_219 F_X12_126 P_12_6 zW_54 rfl rfl rfl ?_
              obtain ⟨v3n7, ev3n7, h⟩ := lt1_some h
              refine zJ_iincN (ls' := [(3, .int v3n7), (0, .ref 54), (1, .int v1_37x)]) dX12_horses_222 rfl rfl zc_1 ev3n7 rfl rfl ?_
              refine zJ_goto (tgt := 126) dX12_horses_225 (by decide) ?_
              refine zJ_loc (ls' := [(0, .ref 54), (1, .int v1_37x), (3, .int v3n7)]) (zll_c rfl (zll_c rfl (zll_c rfl zll_n))) ?_
              exact hrc126 _ _ _ _ _ h
            refine zJ_loc (ls' := [(0, .ref 54), (1, .int v1_37x), (3, .int v3_126), (4, .int v4n6), (5, .int (0 : Int32))]) (zll_c rfl (zll_c rfl (zll_c rfl (zll_c rfl (zll_c rfl zll_n))))) ?_
            refine ml2_J (fun (v5_174 : Int32) (m_care_174 : (Nat → Int32)) => zJ l zW 4 mX12_horses σ ([(3462, m_horses_126), (3470, (0 : Int32)), (3473, (0 : Int32)), (3474, (nI 64)), (3475, m_lengthn1), (3476, m_topn2), (3477, m_at_37x), (3478, m_wrong_110j)], [(59, (upd m_stride_126 m_horses_126.toNatClampNeg (m_newHorses_37x v4n6.toNatClampNeg))), (60, (upd m_scope_126 m_horses_126.toNatClampNeg (m_newHorses_37x (v4n6 + (1 : Int32)).toNatClampNeg))), (61, m_care_174), (64, m_text), (67, m_newHorses_37x)], []) 174 [(0, .ref 54), (1, .int v1_37x), (3, .int v3_126), (4, .int v4n6), (5, .int v5_174)] [] (some (.int r)) ([(3462, w_m_horses), (3470, w_m_typed), (3473, w_m_thrown), (3474, (nI 64)), (3475, w_m_length), (3476, w_m_top), (3477, w_m_at), (3478, w_m_wrong)], [(59, w_m_stride), (60, w_m_scope), (61, w_m_care), (64, m_text), (67, w_m_newHorses)], [])) (fun rc174 hrc174 v5_174 m_care_174 h => ?_) zN _ _ h
            unfold s_X12_horses_174 at h
            refine zJ_iload dX12_horses_174 rfl rfl ?_
            refine zJ_iconst dX12_horses_176 zc_4 rfl ?_
            refine zJ_icmp_ge (tgt := 212) dX12_horses_177 (by decide) rfl (fun hc => ?_) (fun hc => ?_)
            · replace h := it_t hc h
              refine zJ_loc (ls' := [(0, .ref 54), (1, .int v1_37x), (3, .int v3_126)]) (zll_c rfl (zll_c rfl (zll_c rfl zll_n))) ?_
              exact hk174 _ h
            · replace h := it_f hc h
              refine zJ_aload_n dX12_horses_180 rfl rfl ?_
              refine zJ_getr (mi := mX12_horses) dX12_horses_181 F_X12_32 zW_54 rfl rfl ?_
              refine zJ_iconst dX12_horses_184 zc_4 rfl ?_
              refine zJ_aload_n dX12_horses_185 rfl rfl ?_
              refine zJ_geti (mi := mX12_horses) (x := m_horses_126) dX12_horses_186 F_X12_126 zW_54 rfl rfl rfl ?_
              refine zJ_imul dX12_horses_189 rfl ?_
              refine zJ_iload dX12_horses_190 rfl rfl ?_
              refine zJ_iadd dX12_horses_192 rfl ?_
              refine zJ_aload_n dX12_horses_193 rfl rfl ?_
              refine zJ_getr (mi := mX12_horses) dX12_horses_194 F_X12_52 zW_54 rfl rfl ?_
              refine zJ_iload dX12_horses_197 rfl rfl ?_
              refine zJ_iconst dX12_horses_199 zc_2 rfl ?_
              refine zJ_iadd dX12_horses_200 rfl ?_
              refine zJ_iload dX12_horses_201 rfl rfl ?_
              refine zJ_iadd dX12_horses_203 rfl ?_
              obtain ⟨hg, h⟩ := gd_some h
              refine zJ_iald (mi := mX12_horses) (f := m_newHorses_37x) dX12_horses_204 zW_67 (ix_in hg) rfl rfl ?_
              obtain ⟨hg, h⟩ := gd_some h
              refine zK_iast (mi := mX12_horses) (f := m_care_174) (lb' := [(59, (upd m_stride_126 m_horses_126.toNatClampNeg (m_newHorses_37x v4n6.toNatClampNeg))), (60, (upd m_scope_126 m_horses_126.toNatClampNeg (m_newHorses_37x (v4n6 + (1 : Int32)).toNatClampNeg))), (61, (upd m_care_174 (((4 : Int32) * m_horses_126) + v5_174).toNatClampNeg (m_newHorses_37x ((v4n6 + (2 : Int32)) + v5_174).toNatClampNeg))), (64, m_text), (67, m_newHorses_37x)]) dX12_horses_205 zW_61 (ix_in hg) rfl rfl rfl ?_
              obtain ⟨v5n8, ev5n8, h⟩ := lt1_some h
              refine zJ_iincN (ls' := [(5, .int v5n8), (0, .ref 54), (1, .int v1_37x), (3, .int v3_126), (4, .int v4n6)]) dX12_horses_206 rfl rfl zc_1 ev5n8 rfl rfl ?_
              refine zJ_goto (tgt := 174) dX12_horses_209 (by decide) ?_
              refine zJ_loc (ls' := [(0, .ref 54), (1, .int v1_37x), (3, .int v3_126), (4, .int v4n6), (5, .int v5n8)]) (zll_c rfl (zll_c rfl (zll_c rfl (zll_c rfl (zll_c rfl zll_n))))) ?_
              exact hrc174 _ _ h
        · replace h := it_t hc h
          refine zJ_iconst dX12_horses_117 zc_m1 rfl ?_
          refine zJ_aload_n dX12_horses_118 rfl rfl ?_
          refine zJ_geti (mi := mX12_horses) (x := m_wrong_110j) dX12_horses_119 F_X12_154 zW_54 rfl rfl rfl ?_
          refine zJ_isub dX12_horses_122 rfl ?_
          obtain ⟨rfl, rfl, rfl, rfl, rfl, rfl, rfl, rfl, rfl, rfl, rfl, rfl⟩ := so12 h
          exact zJ_iret dX12_horses_123 rfl rfl
      refine zJ_icmp_ge (tgt := 110) dX12_horses_99 (by decide) rfl (fun hc => ?_) (fun hc => ?_)
      · replace h := it_t hc h
        refine zJ_loc (ls' := [(0, .ref 54), (1, .int v1_37x)]) (zll_c rfl (zll_c rfl zll_n)) ?_
        exact hj_X12_horses_110 _ h
      · replace h := it_f hc h
        refine zJ_aload_n dX12_horses_102 rfl rfl ?_
        refine zJ_aload_n dX12_horses_103 rfl rfl ?_
        refine zJ_geti (mi := mX12_horses) (x := m_at_37x) dX12_horses_104 F_X12_151 zW_54 rfl rfl rfl ?_
        obtain ⟨m_wrongn9, hcl, h⟩ := bd1_some h
        refine zJ_callV2 (σ := σ) (L := ([(3462, m_horses), (3470, (0 : Int32)), (3473, (0 : Int32)), (3474, (nI 64)), (3475, m_lengthn1), (3476, m_topn2), (3477, m_at_37x), (3478, m_wrong_37x)], [(59, m_stride), (60, m_scope), (61, m_care), (64, m_text), (67, m_newHorses_37x)], [])) (mi := mX12_horses) (yi := mX12_fault) (as := [.int m_at_37x]) (st := []) (L2 := ([(3462, m_horses), (3470, (0 : Int32)), (3473, (0 : Int32)), (3474, (nI 64)), (3475, m_lengthn1), (3476, m_topn2), (3477, m_at_37x), (3478, m_wrongn9)], [(59, m_stride), (60, m_scope), (61, m_care), (64, m_text), (67, m_newHorses_37x)], [])) dX12_horses_107 ML_X12_169 Yv_X12_fault rfl zW_54 rfl rfl (t_X12_fault l _ hcl) (zsub_i (zle_c rfl zle_n) zle_n zle_n) (zjok_i rfl rfl (zle_c rfl (zle_c rfl (zle_c rfl (zle_c rfl (zle_c rfl (zle_c rfl (zle_c rfl (zle_c rfl zle_n)))))))) rfl rfl (zle_c rfl (zle_c rfl (zle_c rfl (zle_c rfl (zle_c rfl zle_n))))) rfl rfl zle_n) (Nat.le_of_ble_eq_true rfl) (Nat.le_of_ble_eq_true rfl) rfl rfl ?_
        refine zJ_loc (ls' := [(0, .ref 54), (1, .int v1_37x)]) (zll_c rfl (zll_c rfl zll_n)) ?_
        exact hj_X12_horses_110 _ h
    refine zJ_loc (ls' := [(0, .ref 54), (1, .int (0 : Int32)), (2, .int (1 : Int32))]) (zll_c rfl (zll_c rfl (zll_c rfl zll_n))) ?_
    refine ml5_J (fun (v1_37 : Int32) (v2_37 : Int32) (m_at_37 : Int32) (m_wrong_37 : Int32) (m_newHorses_37 : (Nat → Int32)) => zJ l zW 4 mX12_horses σ ([(3462, m_horses), (3470, (0 : Int32)), (3473, (0 : Int32)), (3474, (nI 64)), (3475, m_lengthn1), (3476, m_topn2), (3477, m_at_37), (3478, m_wrong_37)], [(59, m_stride), (60, m_scope), (61, m_care), (64, m_text), (67, m_newHorses_37)], []) 37 [(0, .ref 54), (1, .int v1_37), (2, .int v2_37)] [] (some (.int r)) ([(3462, w_m_horses), (3470, w_m_typed), (3473, w_m_thrown), (3474, (nI 64)), (3475, w_m_length), (3476, w_m_top), (3477, w_m_at), (3478, w_m_wrong)], [(59, w_m_stride), (60, w_m_scope), (61, w_m_care), (64, m_text), (67, w_m_newHorses)], [])) (fun rc37 hrc37 v1_37 v2_37 m_at_37 m_wrong_37 m_newHorses_37 h => ?_) zN _ _ _ _ _ h
    unfold s_X12_horses_37 at h
    refine zJ_iload_n dX12_horses_37 rfl rfl ?_
    refine zJ_if_eq (tgt := 91) dX12_horses_38 (by decide) rfl (fun hc => ?_) (fun hc => ?_)
    · replace h := it_t hc h
      refine zJ_loc (ls' := [(0, .ref 54), (1, .int v1_37)]) (zll_c rfl (zll_c rfl zll_n)) ?_
      exact hk37 _ _ _ _ h
    · replace h := it_f hc h
      refine zJ_aload_n dX12_horses_41 rfl rfl ?_
      obtain ⟨rn10, hcl, h⟩ := bd1_some h
      refine zJ_callV2 (σ := σ) (L := ([(3462, m_horses), (3470, (0 : Int32)), (3473, (0 : Int32)), (3474, (nI 64)), (3475, m_lengthn1), (3476, m_topn2), (3477, m_at_37), (3478, m_wrong_37)], [(59, m_stride), (60, m_scope), (61, m_care), (64, m_text), (67, m_newHorses_37)], [])) (mi := mX12_horses) (yi := mX12_fine) (as := []) (st := []) (L2 := ([(3462, m_horses), (3470, (0 : Int32)), (3473, (0 : Int32)), (3474, (nI 64)), (3475, m_lengthn1), (3476, m_topn2), (3477, m_at_37), (3478, m_wrong_37)], [(59, m_stride), (60, m_scope), (61, m_care), (64, m_text), (67, m_newHorses_37)], [])) dX12_horses_42 ML_X12_157 Yv_X12_fine rfl zW_54 rfl rfl (t_X12_fine l _ hcl) (zsub_i (zle_c rfl zle_n) zle_n zle_n) (zjok_i rfl rfl (zle_c rfl (zle_c rfl (zle_c rfl (zle_c rfl (zle_c rfl (zle_c rfl (zle_c rfl (zle_c rfl zle_n)))))))) rfl rfl (zle_c rfl (zle_c rfl (zle_c rfl (zle_c rfl (zle_c rfl zle_n))))) rfl rfl zle_n) (Nat.le_of_ble_eq_true rfl) (Nat.le_of_ble_eq_true rfl) rfl rfl ?_
      refine zJ_if_eq (tgt := 91) dX12_horses_45 (by decide) rfl (fun hc => ?_) (fun hc => ?_)
      · replace h := it_t hc h
        refine zJ_loc (ls' := [(0, .ref 54), (1, .int v1_37)]) (zll_c rfl (zll_c rfl zll_n)) ?_
        exact hk37 _ _ _ _ h
      · replace h := it_f hc h
        refine zJ_aload_n dX12_horses_48 rfl rfl ?_
        refine zJ_geti (mi := mX12_horses) (x := m_horses) dX12_horses_49 F_X12_126 zW_54 rfl rfl rfl ?_
        refine zJ_iload_n dX12_horses_52 rfl rfl ?_
        refine zJ_iadd dX12_horses_53 rfl ?_
        refine zJ_bipush dX12_horses_54 zb_6 rfl ?_
        refine zJ_icmp_ne (tgt := 70) dX12_horses_56 (by decide) rfl (fun hc => ?_) (fun hc => ?_)
        · replace h := it_f hc h
          refine zJ_aload_n dX12_horses_70 rfl rfl ?_
          refine zJ_bipush dX12_horses_71 zb_6 rfl ?_
          refine zJ_iload_n dX12_horses_73 rfl rfl ?_
          refine zJ_imul dX12_horses_74 rfl ?_
          obtain ⟨m_atn11, m_wrongn12, m_newHorsesn13, hcl, h⟩ := bd3_some h
          refine zJ_callV2 (σ := σ) (L := ([(3462, m_horses), (3470, (0 : Int32)), (3473, (0 : Int32)), (3474, (nI 64)), (3475, m_lengthn1), (3476, m_topn2), (3477, m_at_37), (3478, m_wrong_37)], [(59, m_stride), (60, m_scope), (61, m_care), (64, m_text), (67, m_newHorses_37)], [])) (mi := mX12_horses) (yi := mX12_readHorse) (as := [.int ((6 : Int32) * v1_37)]) (st := []) (L2 := ([(3462, m_horses), (3470, (0 : Int32)), (3473, (0 : Int32)), (3474, (nI 64)), (3475, m_lengthn1), (3476, m_topn2), (3477, m_atn11), (3478, m_wrongn12)], [(59, m_stride), (60, m_scope), (61, m_care), (64, m_text), (67, m_newHorsesn13)], [])) dX12_horses_75 ML_X12_195 Yv_X12_readHorse rfl zW_54 rfl rfl (t_X12_readHorse_t l _ hcl) (zsub_i (zle_c rfl (zle_c rfl (zle_c rfl (zle_c rfl (zle_c rfl zle_n))))) (zle_c rfl (zle_c rfl zle_n)) zle_n) (zjok_i rfl rfl (zle_c rfl (zle_c rfl (zle_c rfl (zle_c rfl (zle_c rfl (zle_c rfl (zle_c rfl (zle_c rfl zle_n)))))))) rfl rfl (zle_c rfl (zle_c rfl (zle_c rfl (zle_c rfl (zle_c rfl zle_n))))) rfl rfl zle_n) (Nat.le_of_ble_eq_true rfl) (Nat.le_of_ble_eq_true rfl) rfl rfl ?_
          obtain ⟨v1n14, ev1n14, h⟩ := lt1_some h
          refine zJ_iincN (ls' := [(1, .int v1n14), (0, .ref 54), (2, .int v2_37)]) dX12_horses_78 rfl rfl zc_1 ev1n14 rfl rfl ?_
          refine zJ_aload_n dX12_horses_81 rfl rfl ?_
          refine zJ_bipush dX12_horses_82 zb_59 rfl ?_
          obtain ⟨rn15, m_atn16, hcl, h⟩ := bd2_some h
          refine zJ_callV2 (σ := σ) (L := ([(3462, m_horses), (3470, (0 : Int32)), (3473, (0 : Int32)), (3474, (nI 64)), (3475, m_lengthn1), (3476, m_topn2), (3477, m_atn11), (3478, m_wrongn12)], [(59, m_stride), (60, m_scope), (61, m_care), (64, m_text), (67, m_newHorsesn13)], [])) (mi := mX12_horses) (yi := mX12_passes) (as := [.int (59 : Int32)]) (st := []) (L2 := ([(3462, m_horses), (3470, (0 : Int32)), (3473, (0 : Int32)), (3474, (nI 64)), (3475, m_lengthn1), (3476, m_topn2), (3477, m_atn16), (3478, m_wrongn12)], [(59, m_stride), (60, m_scope), (61, m_care), (64, m_text), (67, m_newHorsesn13)], [])) dX12_horses_84 ML_X12_165 Yv_X12_passes rfl zW_54 rfl rfl (t_X12_passes_t l _ hcl) (zsub_i (zle_c rfl (zle_c rfl (zle_c rfl (zle_c rfl (zle_c rfl zle_n))))) (zle_c rfl zle_n) zle_n) (zjok_i rfl rfl (zle_c rfl (zle_c rfl (zle_c rfl (zle_c rfl (zle_c rfl (zle_c rfl (zle_c rfl (zle_c rfl zle_n)))))))) rfl rfl (zle_c rfl (zle_c rfl (zle_c rfl (zle_c rfl (zle_c rfl zle_n))))) rfl rfl zle_n) (Nat.le_of_ble_eq_true rfl) (Nat.le_of_ble_eq_true rfl) rfl rfl ?_
          refine zJ_istore_n (ls' := [(2, .int rn15), (1, .int v1n14), (0, .ref 54)]) dX12_horses_87 rfl rfl rfl ?_
          refine zJ_goto (tgt := 37) dX12_horses_88 (by decide) ?_
          refine zJ_loc (ls' := [(0, .ref 54), (1, .int v1n14), (2, .int rn15)]) (zll_c rfl (zll_c rfl (zll_c rfl zll_n))) ?_
          exact hrc37 _ _ _ _ _ h
        · replace h := it_t hc h
          refine zJ_aload_n dX12_horses_59 rfl rfl ?_
          refine zJ_aload_n dX12_horses_60 rfl rfl ?_
          refine zJ_geti (mi := mX12_horses) (x := m_at_37) dX12_horses_61 F_X12_151 zW_54 rfl rfl rfl ?_
          obtain ⟨m_wrongn17, hcl, h⟩ := bd1_some h
          refine zJ_callV2 (σ := σ) (L := ([(3462, m_horses), (3470, (0 : Int32)), (3473, (0 : Int32)), (3474, (nI 64)), (3475, m_lengthn1), (3476, m_topn2), (3477, m_at_37), (3478, m_wrong_37)], [(59, m_stride), (60, m_scope), (61, m_care), (64, m_text), (67, m_newHorses_37)], [])) (mi := mX12_horses) (yi := mX12_fault) (as := [.int m_at_37]) (st := []) (L2 := ([(3462, m_horses), (3470, (0 : Int32)), (3473, (0 : Int32)), (3474, (nI 64)), (3475, m_lengthn1), (3476, m_topn2), (3477, m_at_37), (3478, m_wrongn17)], [(59, m_stride), (60, m_scope), (61, m_care), (64, m_text), (67, m_newHorses_37)], [])) dX12_horses_64 ML_X12_169 Yv_X12_fault rfl zW_54 rfl rfl (t_X12_fault l _ hcl) (zsub_i (zle_c rfl zle_n) zle_n zle_n) (zjok_i rfl rfl (zle_c rfl (zle_c rfl (zle_c rfl (zle_c rfl (zle_c rfl (zle_c rfl (zle_c rfl (zle_c rfl zle_n)))))))) rfl rfl (zle_c rfl (zle_c rfl (zle_c rfl (zle_c rfl (zle_c rfl zle_n))))) rfl rfl zle_n) (Nat.le_of_ble_eq_true rfl) (Nat.le_of_ble_eq_true rfl) rfl rfl ?_
          refine zJ_goto (tgt := 78) dX12_horses_67 (by decide) ?_
          obtain ⟨v1n18, ev1n18, h⟩ := lt1_some h
          refine zJ_iincN (ls' := [(1, .int v1n18), (0, .ref 54), (2, .int v2_37)]) dX12_horses_78 rfl rfl zc_1 ev1n18 rfl rfl ?_
          refine zJ_aload_n dX12_horses_81 rfl rfl ?_
          refine zJ_bipush dX12_horses_82 zb_59 rfl ?_
          obtain ⟨rn19, m_atn20, hcl, h⟩ := bd2_some h
          refine zJ_callV2 (σ := σ) (L := ([(3462, m_horses), (3470, (0 : Int32)), (3473, (0 : Int32)), (3474, (nI 64)), (3475, m_lengthn1), (3476, m_topn2), (3477, m_at_37), (3478, m_wrongn17)], [(59, m_stride), (60, m_scope), (61, m_care), (64, m_text), (67, m_newHorses_37)], [])) (mi := mX12_horses) (yi := mX12_passes) (as := [.int (59 : Int32)]) (st := []) (L2 := ([(3462, m_horses), (3470, (0 : Int32)), (3473, (0 : Int32)), (3474, (nI 64)), (3475, m_lengthn1), (3476, m_topn2), (3477, m_atn20), (3478, m_wrongn17)], [(59, m_stride), (60, m_scope), (61, m_care), (64, m_text), (67, m_newHorses_37)], [])) dX12_horses_84 ML_X12_165 Yv_X12_passes rfl zW_54 rfl rfl (t_X12_passes_t l _ hcl) (zsub_i (zle_c rfl (zle_c rfl (zle_c rfl (zle_c rfl (zle_c rfl zle_n))))) (zle_c rfl zle_n) zle_n) (zjok_i rfl rfl (zle_c rfl (zle_c rfl (zle_c rfl (zle_c rfl (zle_c rfl (zle_c rfl (zle_c rfl (zle_c rfl zle_n)))))))) rfl rfl (zle_c rfl (zle_c rfl (zle_c rfl (zle_c rfl (zle_c rfl zle_n))))) rfl rfl zle_n) (Nat.le_of_ble_eq_true rfl) (Nat.le_of_ble_eq_true rfl) rfl rfl ?_
          refine zJ_istore_n (ls' := [(2, .int rn19), (1, .int v1n18), (0, .ref 54)]) dX12_horses_87 rfl rfl rfl ?_
          refine zJ_goto (tgt := 37) dX12_horses_88 (by decide) ?_
          refine zJ_loc (ls' := [(0, .ref 54), (1, .int v1n18), (2, .int rn19)]) (zll_c rfl (zll_c rfl (zll_c rfl zll_n))) ?_
          exact hrc37 _ _ _ _ _ h
  · replace h := it_t hc h
    refine zJ_iconst dX12_horses_31 zc_0 rfl ?_
    obtain ⟨rfl, rfl, rfl, rfl, rfl, rfl, rfl, rfl, rfl, rfl, rfl, rfl⟩ := so12 h
    exact zJ_iret dX12_horses_32 rfl rfl
set_option maxRecDepth 100000 in
set_option maxHeartbeats 4000000 in
theorem t_X12_isAhead_m_now (l : Launch) (σ : zS) {p1 : Int32} {p2 : Int32} {m_now : (Nat → Int32)} {r : Int32} (h : f_X12_isAhead_m_now p1 p2 m_now = some r) : zMt l zW 0 mX12_isAhead σ ([], [(55, m_now)], []) [.ref 55, .int p1, .int p2] (some (.int r)) ([], [(55, m_now)], []) := by
  refine zMt_of (ls := [(0, .ref 55), (1, .int p1), (2, .int p2)]) (by decide) rfl (fun _ => Nat.le_of_ble_eq_true rfl) rfl ?_
  unfold f_X12_isAhead_m_now at h
  refine zJ_aload_n dX12_isAhead_0 rfl rfl ?_
  refine zJ_iconst dX12_isAhead_1 zc_4 rfl ?_
  refine zJ_iload_n dX12_isAhead_2 rfl rfl ?_
  refine zJ_imul dX12_isAhead_3 rfl ?_
  refine zJ_iconst dX12_isAhead_4 zc_2 rfl ?_
  refine zJ_iadd dX12_isAhead_5 rfl ?_
  obtain ⟨hg, h⟩ := gd_some h
  refine zJ_iald (mi := mX12_isAhead) (f := m_now) dX12_isAhead_6 zW_55 (ix_in hg) rfl rfl ?_
  refine zJ_aload_n dX12_isAhead_7 rfl rfl ?_
  refine zJ_iconst dX12_isAhead_8 zc_4 rfl ?_
  refine zJ_iload_n dX12_isAhead_9 rfl rfl ?_
  refine zJ_imul dX12_isAhead_10 rfl ?_
  refine zJ_iconst dX12_isAhead_11 zc_2 rfl ?_
  refine zJ_iadd dX12_isAhead_12 rfl ?_
  obtain ⟨hg, h⟩ := gd_some h
  refine zJ_iald (mi := mX12_isAhead) (f := m_now) dX12_isAhead_13 zW_55 (ix_in hg) rfl rfl ?_
  refine zJ_isub dX12_isAhead_14 rfl ?_
  obtain ⟨v3n1, ev3n1, h⟩ := lt1_some h
  refine zJ_nmi ev3n1 ?_
  refine zJ_istore_n (ls' := [(3, .int v3n1), (0, .ref 55), (1, .int p1), (2, .int p2)]) dX12_isAhead_15 rfl rfl rfl ?_
  refine zJ_aload_n dX12_isAhead_16 rfl rfl ?_
  refine zJ_iconst dX12_isAhead_17 zc_4 rfl ?_
  refine zJ_iload_n dX12_isAhead_18 rfl rfl ?_
  refine zJ_imul dX12_isAhead_19 rfl ?_
  refine zJ_iconst dX12_isAhead_20 zc_3 rfl ?_
  refine zJ_iadd dX12_isAhead_21 rfl ?_
  obtain ⟨hg, h⟩ := gd_some h
  refine zJ_iald (mi := mX12_isAhead) (f := m_now) dX12_isAhead_22 zW_55 (ix_in hg) rfl rfl ?_
  refine zJ_aload_n dX12_isAhead_23 rfl rfl ?_
  refine zJ_iconst dX12_isAhead_24 zc_4 rfl ?_
  refine zJ_iload_n dX12_isAhead_25 rfl rfl ?_
  refine zJ_imul dX12_isAhead_26 rfl ?_
  refine zJ_iconst dX12_isAhead_27 zc_3 rfl ?_
  refine zJ_iadd dX12_isAhead_28 rfl ?_
  obtain ⟨hg, h⟩ := gd_some h
  refine zJ_iald (mi := mX12_isAhead) (f := m_now) dX12_isAhead_29 zW_55 (ix_in hg) rfl rfl ?_
  refine zJ_isub dX12_isAhead_30 rfl ?_
  obtain ⟨v4n2, ev4n2, h⟩ := lt1_some h
  refine zJ_nmi ev4n2 ?_
  refine zJ_istore (ls' := [(4, .int v4n2), (3, .int v3n1), (0, .ref 55), (1, .int p1), (2, .int p2)]) dX12_isAhead_31 rfl rfl rfl ?_
  refine zJ_iload_n dX12_isAhead_33 rfl rfl ?_
  refine zJ_if_lt (tgt := 56) dX12_isAhead_34 (by decide) rfl (fun hc => ?_) (fun hc => ?_)
  · replace h := it_t hc h
    refine zJ_iconst dX12_isAhead_56 zc_1 rfl ?_
    refine zJ_goto (tgt := 61) dX12_isAhead_57 (by decide) ?_
    obtain rfl := so1 h
    exact zJ_iret dX12_isAhead_61 rfl (by decide)
  · replace h := it_f hc h
    refine zJ_iload_n dX12_isAhead_37 rfl rfl ?_
    refine zJ_if_ne (tgt := 60) dX12_isAhead_38 (by decide) rfl (fun hc => ?_) (fun hc => ?_)
    · replace h := it_f hc h
      refine zJ_iconst dX12_isAhead_60 zc_0 rfl ?_
      obtain rfl := so1 h
      exact zJ_iret dX12_isAhead_61 rfl (by decide)
    · replace h := it_t hc h
      refine zJ_iload dX12_isAhead_41 rfl rfl ?_
      refine zJ_if_lt (tgt := 56) dX12_isAhead_43 (by decide) rfl (fun hc => ?_) (fun hc => ?_)
      · replace h := it_t hc h
        refine zJ_iconst dX12_isAhead_56 zc_1 rfl ?_
        refine zJ_goto (tgt := 61) dX12_isAhead_57 (by decide) ?_
        obtain rfl := so1 h
        exact zJ_iret dX12_isAhead_61 rfl (by decide)
      · replace h := it_f hc h
        refine zJ_iload dX12_isAhead_46 rfl rfl ?_
        refine zJ_if_ne (tgt := 60) dX12_isAhead_48 (by decide) rfl (fun hc => ?_) (fun hc => ?_)
        · replace h := it_f hc h
          refine zJ_iconst dX12_isAhead_60 zc_0 rfl ?_
          obtain rfl := so1 h
          exact zJ_iret dX12_isAhead_61 rfl (by decide)
        · replace h := it_t hc h
          refine zJ_iload_n dX12_isAhead_51 rfl rfl ?_
          refine zJ_iload_n dX12_isAhead_52 rfl rfl ?_
          refine zJ_icmp_ge (tgt := 60) dX12_isAhead_53 (by decide) rfl (fun hc => ?_) (fun hc => ?_)
          · replace h := it_t hc h
            refine zJ_iconst dX12_isAhead_60 zc_0 rfl ?_
            obtain rfl := so1 h
            exact zJ_iret dX12_isAhead_61 rfl (by decide)
          · replace h := it_f hc h
            refine zJ_iconst dX12_isAhead_56 zc_1 rfl ?_
            refine zJ_goto (tgt := 61) dX12_isAhead_57 (by decide) ?_
            obtain rfl := so1 h
            exact zJ_iret dX12_isAhead_61 rfl (by decide)
set_option maxRecDepth 100000 in
set_option maxHeartbeats 4000000 in
theorem t_X12_isAhead_m_then (l : Launch) (σ : zS) {p1 : Int32} {p2 : Int32} {m_then : (Nat → Int32)} {r : Int32} (h : f_X12_isAhead_m_then p1 p2 m_then = some r) : zMt l zW 0 mX12_isAhead σ ([], [(77, m_then)], []) [.ref 77, .int p1, .int p2] (some (.int r)) ([], [(77, m_then)], []) := by
  refine zMt_of (ls := [(0, .ref 77), (1, .int p1), (2, .int p2)]) (by decide) rfl (fun _ => Nat.le_of_ble_eq_true rfl) rfl ?_
  unfold f_X12_isAhead_m_then at h
  refine zJ_aload_n dX12_isAhead_0 rfl rfl ?_
  refine zJ_iconst dX12_isAhead_1 zc_4 rfl ?_
  refine zJ_iload_n dX12_isAhead_2 rfl rfl ?_
  refine zJ_imul dX12_isAhead_3 rfl ?_
  refine zJ_iconst dX12_isAhead_4 zc_2 rfl ?_
  refine zJ_iadd dX12_isAhead_5 rfl ?_
  obtain ⟨hg, h⟩ := gd_some h
  refine zJ_iald (mi := mX12_isAhead) (f := m_then) dX12_isAhead_6 zW_77 (ix_in hg) rfl rfl ?_
  refine zJ_aload_n dX12_isAhead_7 rfl rfl ?_
  refine zJ_iconst dX12_isAhead_8 zc_4 rfl ?_
  refine zJ_iload_n dX12_isAhead_9 rfl rfl ?_
  refine zJ_imul dX12_isAhead_10 rfl ?_
  refine zJ_iconst dX12_isAhead_11 zc_2 rfl ?_
  refine zJ_iadd dX12_isAhead_12 rfl ?_
  obtain ⟨hg, h⟩ := gd_some h
  refine zJ_iald (mi := mX12_isAhead) (f := m_then) dX12_isAhead_13 zW_77 (ix_in hg) rfl rfl ?_
  refine zJ_isub dX12_isAhead_14 rfl ?_
  obtain ⟨v3n1, ev3n1, h⟩ := lt1_some h
  refine zJ_nmi ev3n1 ?_
  refine zJ_istore_n (ls' := [(3, .int v3n1), (0, .ref 77), (1, .int p1), (2, .int p2)]) dX12_isAhead_15 rfl rfl rfl ?_
  refine zJ_aload_n dX12_isAhead_16 rfl rfl ?_
  refine zJ_iconst dX12_isAhead_17 zc_4 rfl ?_
  refine zJ_iload_n dX12_isAhead_18 rfl rfl ?_
  refine zJ_imul dX12_isAhead_19 rfl ?_
  refine zJ_iconst dX12_isAhead_20 zc_3 rfl ?_
  refine zJ_iadd dX12_isAhead_21 rfl ?_
  obtain ⟨hg, h⟩ := gd_some h
  refine zJ_iald (mi := mX12_isAhead) (f := m_then) dX12_isAhead_22 zW_77 (ix_in hg) rfl rfl ?_
  refine zJ_aload_n dX12_isAhead_23 rfl rfl ?_
  refine zJ_iconst dX12_isAhead_24 zc_4 rfl ?_
  refine zJ_iload_n dX12_isAhead_25 rfl rfl ?_
  refine zJ_imul dX12_isAhead_26 rfl ?_
  refine zJ_iconst dX12_isAhead_27 zc_3 rfl ?_
  refine zJ_iadd dX12_isAhead_28 rfl ?_
  obtain ⟨hg, h⟩ := gd_some h
  refine zJ_iald (mi := mX12_isAhead) (f := m_then) dX12_isAhead_29 zW_77 (ix_in hg) rfl rfl ?_
  refine zJ_isub dX12_isAhead_30 rfl ?_
  obtain ⟨v4n2, ev4n2, h⟩ := lt1_some h
  refine zJ_nmi ev4n2 ?_
  refine zJ_istore (ls' := [(4, .int v4n2), (3, .int v3n1), (0, .ref 77), (1, .int p1), (2, .int p2)]) dX12_isAhead_31 rfl rfl rfl ?_
  refine zJ_iload_n dX12_isAhead_33 rfl rfl ?_
  refine zJ_if_lt (tgt := 56) dX12_isAhead_34 (by decide) rfl (fun hc => ?_) (fun hc => ?_)
  · replace h := it_t hc h
    refine zJ_iconst dX12_isAhead_56 zc_1 rfl ?_
    refine zJ_goto (tgt := 61) dX12_isAhead_57 (by decide) ?_
    obtain rfl := so1 h
    exact zJ_iret dX12_isAhead_61 rfl (by decide)
  · replace h := it_f hc h
    refine zJ_iload_n dX12_isAhead_37 rfl rfl ?_
    refine zJ_if_ne (tgt := 60) dX12_isAhead_38 (by decide) rfl (fun hc => ?_) (fun hc => ?_)
    · replace h := it_f hc h
      refine zJ_iconst dX12_isAhead_60 zc_0 rfl ?_
      obtain rfl := so1 h
      exact zJ_iret dX12_isAhead_61 rfl (by decide)
    · replace h := it_t hc h
      refine zJ_iload dX12_isAhead_41 rfl rfl ?_
      refine zJ_if_lt (tgt := 56) dX12_isAhead_43 (by decide) rfl (fun hc => ?_) (fun hc => ?_)
      · replace h := it_t hc h
        refine zJ_iconst dX12_isAhead_56 zc_1 rfl ?_
        refine zJ_goto (tgt := 61) dX12_isAhead_57 (by decide) ?_
        obtain rfl := so1 h
        exact zJ_iret dX12_isAhead_61 rfl (by decide)
      · replace h := it_f hc h
        refine zJ_iload dX12_isAhead_46 rfl rfl ?_
        refine zJ_if_ne (tgt := 60) dX12_isAhead_48 (by decide) rfl (fun hc => ?_) (fun hc => ?_)
        · replace h := it_f hc h
          refine zJ_iconst dX12_isAhead_60 zc_0 rfl ?_
          obtain rfl := so1 h
          exact zJ_iret dX12_isAhead_61 rfl (by decide)
        · replace h := it_t hc h
          refine zJ_iload_n dX12_isAhead_51 rfl rfl ?_
          refine zJ_iload_n dX12_isAhead_52 rfl rfl ?_
          refine zJ_icmp_ge (tgt := 60) dX12_isAhead_53 (by decide) rfl (fun hc => ?_) (fun hc => ?_)
          · replace h := it_t hc h
            refine zJ_iconst dX12_isAhead_60 zc_0 rfl ?_
            obtain rfl := so1 h
            exact zJ_iret dX12_isAhead_61 rfl (by decide)
          · replace h := it_f hc h
            refine zJ_iconst dX12_isAhead_56 zc_1 rfl ?_
            refine zJ_goto (tgt := 61) dX12_isAhead_57 (by decide) ?_
            obtain rfl := so1 h
            exact zJ_iret dX12_isAhead_61 rfl (by decide)
set_option maxRecDepth 100000 in
set_option maxHeartbeats 4000000 in
theorem t_X12_jump (l : Launch) (σ : zS) {p1 : Int32} {p2 : Int32} {p3 : Int32} {m_fences : Int32} {m_horses : Int32} {m_rowMany : Int32} {m_thrown : Int32} {m_read : Int32} {m_length : Int32} {m_top : Int32} {m_at : Int32} {m_wrong : Int32} {m_ruleSize : Int32} {m_isAsked : Int32} {m_askedHorse : Int32} {m_askedFence : Int32} {m_askedLetter : Int32} {m_askedHeight : Int32} {m_kind : (Nat → Int32)} {m_height : (Nat → Int32)} {m_feet : (Nat → Int32)} {m_stride : (Nat → Int32)} {m_scope : (Nat → Int32)} {m_care : (Nat → Int32)} {m_rule : (Nat → Int32)} {m_row : (Nat → Int64)} {r : Int32} {w_m_rowMany : Int32} {w_m_thrown : Int32} {w_m_read : Int32} {w_m_length : Int32} {w_m_top : Int32} {w_m_at : Int32} {w_m_wrong : Int32} {w_m_isAsked : Int32} {w_m_askedHorse : Int32} {w_m_askedFence : Int32} {w_m_askedLetter : Int32} {w_m_askedHeight : Int32} {w_m_row : (Nat → Int64)} (h : f_X12_jump p1 p2 p3 m_fences m_horses m_rowMany m_thrown m_read m_length m_top m_at m_wrong m_ruleSize m_isAsked m_askedHorse m_askedFence m_askedLetter m_askedHeight m_kind m_height m_feet m_stride m_scope m_care m_rule m_row = some (r, w_m_rowMany, w_m_thrown, w_m_read, w_m_length, w_m_top, w_m_at, w_m_wrong, w_m_isAsked, w_m_askedHorse, w_m_askedFence, w_m_askedLetter, w_m_askedHeight, w_m_row)) : zMt l zW 207 mX12_jump σ ([(3457, m_fences), (3462, m_horses), (3472, m_rowMany), (3473, m_thrown), (3474, m_read), (3475, m_length), (3476, m_top), (3477, m_at), (3478, m_wrong), (3483, m_ruleSize), (3484, m_isAsked), (3485, m_askedHorse), (3486, m_askedFence), (3487, m_askedLetter), (3488, m_askedHeight)], [(56, m_kind), (57, m_height), (58, m_feet), (59, m_stride), (60, m_scope), (61, m_care), (69, m_rule)], [(65, m_row)]) [.ref 54, .int p1, .int p2, .int p3] (some (.int r)) ([(3457, m_fences), (3462, m_horses), (3472, w_m_rowMany), (3473, w_m_thrown), (3474, w_m_read), (3475, w_m_length), (3476, w_m_top), (3477, w_m_at), (3478, w_m_wrong), (3483, m_ruleSize), (3484, w_m_isAsked), (3485, w_m_askedHorse), (3486, w_m_askedFence), (3487, w_m_askedLetter), (3488, w_m_askedHeight)], [(56, m_kind), (57, m_height), (58, m_feet), (59, m_stride), (60, m_scope), (61, m_care), (69, m_rule)], [(65, w_m_row)]) := by
  refine zMt_of (ls := [(0, .ref 54), (1, .int p1), (2, .int p2), (3, .int p3)]) (by decide) rfl (fun _ => Nat.le_of_ble_eq_true rfl) rfl ?_
  unfold f_X12_jump at h
  refine zJ_aload_n dX12_jump_0 rfl rfl ?_
  refine zJ_iconst dX12_jump_1 zc_0 rfl ?_
  refine zK_puti (mi := mX12_jump) (la' := [(3457, m_fences), (3462, m_horses), (3472, m_rowMany), (3473, (0 : Int32)), (3474, m_read), (3475, m_length), (3476, m_top), (3477, m_at), (3478, m_wrong), (3483, m_ruleSize), (3484, m_isAsked), (3485, m_askedHorse), (3486, m_askedFence), (3487, m_askedLetter), (3488, m_askedHeight)]) zW_ok dX12_jump_2 F_X12_113 P_12_17 zW_54 rfl rfl rfl ?_
  refine zJ_aload_n dX12_jump_5 rfl rfl ?_
  refine zJ_iload_n dX12_jump_6 rfl rfl ?_
  obtain ⟨rn1, hcl, h⟩ := bd1_some h
  refine zJ_callV2 (σ := σ) (L := ([(3457, m_fences), (3462, m_horses), (3472, m_rowMany), (3473, (0 : Int32)), (3474, m_read), (3475, m_length), (3476, m_top), (3477, m_at), (3478, m_wrong), (3483, m_ruleSize), (3484, m_isAsked), (3485, m_askedHorse), (3486, m_askedFence), (3487, m_askedLetter), (3488, m_askedHeight)], [(56, m_kind), (57, m_height), (58, m_feet), (59, m_stride), (60, m_scope), (61, m_care), (69, m_rule)], [(65, m_row)])) (mi := mX12_jump) (yi := mX12_isHorse) (as := [.int p1]) (st := []) (L2 := ([(3457, m_fences), (3462, m_horses), (3472, m_rowMany), (3473, (0 : Int32)), (3474, m_read), (3475, m_length), (3476, m_top), (3477, m_at), (3478, m_wrong), (3483, m_ruleSize), (3484, m_isAsked), (3485, m_askedHorse), (3486, m_askedFence), (3487, m_askedLetter), (3488, m_askedHeight)], [(56, m_kind), (57, m_height), (58, m_feet), (59, m_stride), (60, m_scope), (61, m_care), (69, m_rule)], [(65, m_row)])) dX12_jump_7 ML_X12_132 Yv_X12_isHorse rfl zW_54 rfl rfl (t_X12_isHorse l _ hcl) (zsub_i (zle_c rfl zle_n) zle_n zle_n) (zjok_i rfl rfl (zle_c rfl (zle_c rfl (zle_c rfl (zle_c rfl (zle_c rfl (zle_c rfl (zle_c rfl (zle_c rfl (zle_c rfl (zle_c rfl (zle_c rfl (zle_c rfl (zle_c rfl (zle_c rfl (zle_c rfl zle_n))))))))))))))) rfl rfl (zle_c rfl (zle_c rfl (zle_c rfl (zle_c rfl (zle_c rfl (zle_c rfl (zle_c rfl zle_n))))))) rfl rfl (zle_c rfl zle_n)) (Nat.le_of_ble_eq_true rfl) (Nat.le_of_ble_eq_true rfl) rfl rfl ?_
  refine zJ_if_eq (tgt := 31) dX12_jump_10 (by decide) rfl (fun hc => ?_) (fun hc => ?_)
  · replace h := it_t hc h
    refine zJ_iconst dX12_jump_31 zc_m1 rfl ?_
    obtain ⟨rfl, rfl, rfl, rfl, rfl, rfl, rfl, rfl, rfl, rfl, rfl, rfl, rfl, rfl⟩ := so14 h
    exact zJ_iret dX12_jump_32 rfl rfl
  · replace h := it_f hc h
    refine zJ_aload_n dX12_jump_13 rfl rfl ?_
    refine zJ_iload_n dX12_jump_14 rfl rfl ?_
    obtain ⟨rn2, hcl, h⟩ := bd1_some h
    refine zJ_callV2 (σ := σ) (L := ([(3457, m_fences), (3462, m_horses), (3472, m_rowMany), (3473, (0 : Int32)), (3474, m_read), (3475, m_length), (3476, m_top), (3477, m_at), (3478, m_wrong), (3483, m_ruleSize), (3484, m_isAsked), (3485, m_askedHorse), (3486, m_askedFence), (3487, m_askedLetter), (3488, m_askedHeight)], [(56, m_kind), (57, m_height), (58, m_feet), (59, m_stride), (60, m_scope), (61, m_care), (69, m_rule)], [(65, m_row)])) (mi := mX12_jump) (yi := mX12_isFence) (as := [.int p2]) (st := []) (L2 := ([(3457, m_fences), (3462, m_horses), (3472, m_rowMany), (3473, (0 : Int32)), (3474, m_read), (3475, m_length), (3476, m_top), (3477, m_at), (3478, m_wrong), (3483, m_ruleSize), (3484, m_isAsked), (3485, m_askedHorse), (3486, m_askedFence), (3487, m_askedLetter), (3488, m_askedHeight)], [(56, m_kind), (57, m_height), (58, m_feet), (59, m_stride), (60, m_scope), (61, m_care), (69, m_rule)], [(65, m_row)])) dX12_jump_15 ML_X12_250 Yv_X12_isFence rfl zW_54 rfl rfl (t_X12_isFence l _ hcl) (zsub_i (zle_c rfl zle_n) zle_n zle_n) (zjok_i rfl rfl (zle_c rfl (zle_c rfl (zle_c rfl (zle_c rfl (zle_c rfl (zle_c rfl (zle_c rfl (zle_c rfl (zle_c rfl (zle_c rfl (zle_c rfl (zle_c rfl (zle_c rfl (zle_c rfl (zle_c rfl zle_n))))))))))))))) rfl rfl (zle_c rfl (zle_c rfl (zle_c rfl (zle_c rfl (zle_c rfl (zle_c rfl (zle_c rfl zle_n))))))) rfl rfl (zle_c rfl zle_n)) (Nat.le_of_ble_eq_true rfl) (Nat.le_of_ble_eq_true rfl) rfl rfl ?_
    refine zJ_if_eq (tgt := 31) dX12_jump_18 (by decide) rfl (fun hc => ?_) (fun hc => ?_)
    · replace h := it_t hc h
      refine zJ_iconst dX12_jump_31 zc_m1 rfl ?_
      obtain ⟨rfl, rfl, rfl, rfl, rfl, rfl, rfl, rfl, rfl, rfl, rfl, rfl, rfl, rfl⟩ := so14 h
      exact zJ_iret dX12_jump_32 rfl rfl
    · replace h := it_f hc h
      refine zJ_iload_n dX12_jump_21 rfl rfl ?_
      refine zJ_iconst dX12_jump_22 zc_0 rfl ?_
      refine zJ_bipush dX12_jump_23 zb_7 rfl ?_
      obtain ⟨rn3, hcl, h⟩ := bd1_some h
      refine zJ_callS2 (σ := σ) (L := ([(3457, m_fences), (3462, m_horses), (3472, m_rowMany), (3473, (0 : Int32)), (3474, m_read), (3475, m_length), (3476, m_top), (3477, m_at), (3478, m_wrong), (3483, m_ruleSize), (3484, m_isAsked), (3485, m_askedHorse), (3486, m_askedFence), (3487, m_askedLetter), (3488, m_askedHeight)], [(56, m_kind), (57, m_height), (58, m_feet), (59, m_stride), (60, m_scope), (61, m_care), (69, m_rule)], [(65, m_row)])) (mi := mX12_jump) (yi := mX12_in) (as := [.int p3, .int (0 : Int32), .int (7 : Int32)]) (st := []) (L2 := ([(3457, m_fences), (3462, m_horses), (3472, m_rowMany), (3473, (0 : Int32)), (3474, m_read), (3475, m_length), (3476, m_top), (3477, m_at), (3478, m_wrong), (3483, m_ruleSize), (3484, m_isAsked), (3485, m_askedHorse), (3486, m_askedFence), (3487, m_askedLetter), (3488, m_askedHeight)], [(56, m_kind), (57, m_height), (58, m_feet), (59, m_stride), (60, m_scope), (61, m_care), (69, m_rule)], [(65, m_row)])) dX12_jump_25 ML_X12_122 Ys_X12_in rfl (t_X12_in l _ hcl) (zsub_i zle_n zle_n zle_n) (zjok_i rfl rfl (zle_c rfl (zle_c rfl (zle_c rfl (zle_c rfl (zle_c rfl (zle_c rfl (zle_c rfl (zle_c rfl (zle_c rfl (zle_c rfl (zle_c rfl (zle_c rfl (zle_c rfl (zle_c rfl (zle_c rfl zle_n))))))))))))))) rfl rfl (zle_c rfl (zle_c rfl (zle_c rfl (zle_c rfl (zle_c rfl (zle_c rfl (zle_c rfl zle_n))))))) rfl rfl (zle_c rfl zle_n)) (Nat.le_of_ble_eq_true rfl) (Nat.le_of_ble_eq_true rfl) rfl rfl ?_
      refine zJ_if_ne (tgt := 33) dX12_jump_28 (by decide) rfl (fun hc => ?_) (fun hc => ?_)
      · replace h := it_f hc h
        refine zJ_aload_n dX12_jump_33 rfl rfl ?_
        refine zJ_iload_n dX12_jump_34 rfl rfl ?_
        refine zJ_iload_n dX12_jump_35 rfl rfl ?_
        refine zJ_iload_n dX12_jump_36 rfl rfl ?_
        obtain ⟨rn4, m_readn5, m_lengthn6, m_topn7, m_atn8, m_wrongn9, m_isAskedn10, m_askedHorsen11, m_askedFencen12, m_askedLettern13, m_askedHeightn14, hcl, h⟩ := bd11_some h
        refine zJ_callV2 (σ := σ) (L := ([(3457, m_fences), (3462, m_horses), (3472, m_rowMany), (3473, (0 : Int32)), (3474, m_read), (3475, m_length), (3476, m_top), (3477, m_at), (3478, m_wrong), (3483, m_ruleSize), (3484, m_isAsked), (3485, m_askedHorse), (3486, m_askedFence), (3487, m_askedLetter), (3488, m_askedHeight)], [(56, m_kind), (57, m_height), (58, m_feet), (59, m_stride), (60, m_scope), (61, m_care), (69, m_rule)], [(65, m_row)])) (mi := mX12_jump) (yi := mX12_oddsOf_) (as := [.int p1, .int p2, .int p3]) (st := []) (L2 := ([(3457, m_fences), (3462, m_horses), (3472, m_rowMany), (3473, (0 : Int32)), (3474, m_readn5), (3475, m_lengthn6), (3476, m_topn7), (3477, m_atn8), (3478, m_wrongn9), (3483, m_ruleSize), (3484, m_isAskedn10), (3485, m_askedHorsen11), (3486, m_askedFencen12), (3487, m_askedLettern13), (3488, m_askedHeightn14)], [(56, m_kind), (57, m_height), (58, m_feet), (59, m_stride), (60, m_scope), (61, m_care), (69, m_rule)], [(65, m_row)])) dX12_jump_37 ML_X12_259 Yv_X12_oddsOf_ rfl zW_54 rfl rfl (t_X12_oddsOf_ l _ hcl) (zsub_i (zle_c rfl (zle_c rfl (zle_c rfl (zle_c rfl (zle_c rfl (zle_c rfl (zle_c rfl (zle_c rfl (zle_c rfl (zle_c rfl (zle_c rfl zle_n))))))))))) (zle_c rfl (zle_c rfl (zle_c rfl (zle_c rfl (zle_c rfl (zle_c rfl (zle_c rfl zle_n))))))) zle_n) (zjok_i rfl rfl (zle_c rfl (zle_c rfl (zle_c rfl (zle_c rfl (zle_c rfl (zle_c rfl (zle_c rfl (zle_c rfl (zle_c rfl (zle_c rfl (zle_c rfl (zle_c rfl (zle_c rfl (zle_c rfl (zle_c rfl zle_n))))))))))))))) rfl rfl (zle_c rfl (zle_c rfl (zle_c rfl (zle_c rfl (zle_c rfl (zle_c rfl (zle_c rfl zle_n))))))) rfl rfl (zle_c rfl zle_n)) (Nat.le_of_ble_eq_true rfl) (Nat.le_of_ble_eq_true rfl) rfl rfl ?_
        refine zJ_istore (ls' := [(4, .int rn4), (0, .ref 54), (1, .int p1), (2, .int p2), (3, .int p3)]) dX12_jump_40 rfl rfl rfl ?_
        refine zJ_aload_n dX12_jump_42 rfl rfl ?_
        refine zJ_iconst dX12_jump_43 zc_0 rfl ?_
        refine zK_puti (mi := mX12_jump) (la' := [(3457, m_fences), (3462, m_horses), (3472, (0 : Int32)), (3473, (0 : Int32)), (3474, m_readn5), (3475, m_lengthn6), (3476, m_topn7), (3477, m_atn8), (3478, m_wrongn9), (3483, m_ruleSize), (3484, m_isAskedn10), (3485, m_askedHorsen11), (3486, m_askedFencen12), (3487, m_askedLettern13), (3488, m_askedHeightn14)]) zW_ok dX12_jump_44 F_X12_116 P_12_16 zW_54 rfl rfl rfl ?_
        refine zJ_aload_n dX12_jump_47 rfl rfl ?_
        refine zJ_aload_n dX12_jump_48 rfl rfl ?_
        refine zJ_iload_n dX12_jump_49 rfl rfl ?_
        refine zJ_iload_n dX12_jump_50 rfl rfl ?_
        obtain ⟨rn15, hcl, h⟩ := bd1_some h
        refine zJ_callV2 (σ := σ) (L := ([(3457, m_fences), (3462, m_horses), (3472, (0 : Int32)), (3473, (0 : Int32)), (3474, m_readn5), (3475, m_lengthn6), (3476, m_topn7), (3477, m_atn8), (3478, m_wrongn9), (3483, m_ruleSize), (3484, m_isAskedn10), (3485, m_askedHorsen11), (3486, m_askedFencen12), (3487, m_askedLettern13), (3488, m_askedHeightn14)], [(56, m_kind), (57, m_height), (58, m_feet), (59, m_stride), (60, m_scope), (61, m_care), (69, m_rule)], [(65, m_row)])) (mi := mX12_jump) (yi := mX12_refusalOf) (as := [.int p1, .int p2]) (st := [.ref 54]) (L2 := ([(3457, m_fences), (3462, m_horses), (3472, (0 : Int32)), (3473, (0 : Int32)), (3474, m_readn5), (3475, m_lengthn6), (3476, m_topn7), (3477, m_atn8), (3478, m_wrongn9), (3483, m_ruleSize), (3484, m_isAskedn10), (3485, m_askedHorsen11), (3486, m_askedFencen12), (3487, m_askedLettern13), (3488, m_askedHeightn14)], [(56, m_kind), (57, m_height), (58, m_feet), (59, m_stride), (60, m_scope), (61, m_care), (69, m_rule)], [(65, m_row)])) dX12_jump_51 ML_X12_262 Yv_X12_refusalOf rfl zW_54 rfl rfl (t_X12_refusalOf l _ hcl) (zsub_i zle_n (zle_c rfl (zle_c rfl (zle_c rfl (zle_c rfl zle_n)))) zle_n) (zjok_i rfl rfl (zle_c rfl (zle_c rfl (zle_c rfl (zle_c rfl (zle_c rfl (zle_c rfl (zle_c rfl (zle_c rfl (zle_c rfl (zle_c rfl (zle_c rfl (zle_c rfl (zle_c rfl (zle_c rfl (zle_c rfl zle_n))))))))))))))) rfl rfl (zle_c rfl (zle_c rfl (zle_c rfl (zle_c rfl (zle_c rfl (zle_c rfl (zle_c rfl zle_n))))))) rfl rfl (zle_c rfl zle_n)) (Nat.le_of_ble_eq_true rfl) (Nat.le_of_ble_eq_true rfl) rfl rfl ?_
        refine zJ_i2l dX12_jump_54 rfl ?_
        obtain ⟨m_rowManyn16, m_rown17, hcl, h⟩ := bd2_some h
        refine zJ_callV2 (σ := σ) (L := ([(3457, m_fences), (3462, m_horses), (3472, (0 : Int32)), (3473, (0 : Int32)), (3474, m_readn5), (3475, m_lengthn6), (3476, m_topn7), (3477, m_atn8), (3478, m_wrongn9), (3483, m_ruleSize), (3484, m_isAskedn10), (3485, m_askedHorsen11), (3486, m_askedFencen12), (3487, m_askedLettern13), (3488, m_askedHeightn14)], [(56, m_kind), (57, m_height), (58, m_feet), (59, m_stride), (60, m_scope), (61, m_care), (69, m_rule)], [(65, m_row)])) (mi := mX12_jump) (yi := mX12_tell) (as := [.long rn15.toInt64]) (st := []) (L2 := ([(3457, m_fences), (3462, m_horses), (3472, m_rowManyn16), (3473, (0 : Int32)), (3474, m_readn5), (3475, m_lengthn6), (3476, m_topn7), (3477, m_atn8), (3478, m_wrongn9), (3483, m_ruleSize), (3484, m_isAskedn10), (3485, m_askedHorsen11), (3486, m_askedFencen12), (3487, m_askedLettern13), (3488, m_askedHeightn14)], [(56, m_kind), (57, m_height), (58, m_feet), (59, m_stride), (60, m_scope), (61, m_care), (69, m_rule)], [(65, m_rown17)])) dX12_jump_55 ML_X12_265 Yv_X12_tell rfl zW_54 rfl rfl (t_X12_tell l _ hcl) (zsub_i (zle_c rfl zle_n) zle_n (zle_c rfl zle_n)) (zjok_i rfl rfl (zle_c rfl (zle_c rfl (zle_c rfl (zle_c rfl (zle_c rfl (zle_c rfl (zle_c rfl (zle_c rfl (zle_c rfl (zle_c rfl (zle_c rfl (zle_c rfl (zle_c rfl (zle_c rfl (zle_c rfl zle_n))))))))))))))) rfl rfl (zle_c rfl (zle_c rfl (zle_c rfl (zle_c rfl (zle_c rfl (zle_c rfl (zle_c rfl zle_n))))))) rfl rfl (zle_c rfl zle_n)) (Nat.le_of_ble_eq_true rfl) (Nat.le_of_ble_eq_true rfl) rfl rfl ?_
        refine zJ_aload_n dX12_jump_58 rfl rfl ?_
        refine zJ_aload_n dX12_jump_59 rfl rfl ?_
        refine zJ_iload_n dX12_jump_60 rfl rfl ?_
        refine zJ_iload_n dX12_jump_61 rfl rfl ?_
        obtain ⟨rn18, hcl, h⟩ := bd1_some h
        refine zJ_callV2 (σ := σ) (L := ([(3457, m_fences), (3462, m_horses), (3472, m_rowManyn16), (3473, (0 : Int32)), (3474, m_readn5), (3475, m_lengthn6), (3476, m_topn7), (3477, m_atn8), (3478, m_wrongn9), (3483, m_ruleSize), (3484, m_isAskedn10), (3485, m_askedHorsen11), (3486, m_askedFencen12), (3487, m_askedLettern13), (3488, m_askedHeightn14)], [(56, m_kind), (57, m_height), (58, m_feet), (59, m_stride), (60, m_scope), (61, m_care), (69, m_rule)], [(65, m_rown17)])) (mi := mX12_jump) (yi := mX12_tenthsOf) (as := [.int p2, .int p3]) (st := [.ref 54]) (L2 := ([(3457, m_fences), (3462, m_horses), (3472, m_rowManyn16), (3473, (0 : Int32)), (3474, m_readn5), (3475, m_lengthn6), (3476, m_topn7), (3477, m_atn8), (3478, m_wrongn9), (3483, m_ruleSize), (3484, m_isAskedn10), (3485, m_askedHorsen11), (3486, m_askedFencen12), (3487, m_askedLettern13), (3488, m_askedHeightn14)], [(56, m_kind), (57, m_height), (58, m_feet), (59, m_stride), (60, m_scope), (61, m_care), (69, m_rule)], [(65, m_rown17)])) dX12_jump_62 ML_X12_269 Yv_X12_tenthsOf rfl zW_54 rfl rfl (t_X12_tenthsOf l _ hcl) (zsub_i zle_n (zle_c rfl (zle_c rfl zle_n)) zle_n) (zjok_i rfl rfl (zle_c rfl (zle_c rfl (zle_c rfl (zle_c rfl (zle_c rfl (zle_c rfl (zle_c rfl (zle_c rfl (zle_c rfl (zle_c rfl (zle_c rfl (zle_c rfl (zle_c rfl (zle_c rfl (zle_c rfl zle_n))))))))))))))) rfl rfl (zle_c rfl (zle_c rfl (zle_c rfl (zle_c rfl (zle_c rfl (zle_c rfl (zle_c rfl zle_n))))))) rfl rfl (zle_c rfl zle_n)) (Nat.le_of_ble_eq_true rfl) (Nat.le_of_ble_eq_true rfl) rfl rfl ?_
        refine zJ_i2l dX12_jump_65 rfl ?_
        obtain ⟨m_rowManyn19, m_rown20, hcl, h⟩ := bd2_some h
        refine zJ_callV2 (σ := σ) (L := ([(3457, m_fences), (3462, m_horses), (3472, m_rowManyn16), (3473, (0 : Int32)), (3474, m_readn5), (3475, m_lengthn6), (3476, m_topn7), (3477, m_atn8), (3478, m_wrongn9), (3483, m_ruleSize), (3484, m_isAskedn10), (3485, m_askedHorsen11), (3486, m_askedFencen12), (3487, m_askedLettern13), (3488, m_askedHeightn14)], [(56, m_kind), (57, m_height), (58, m_feet), (59, m_stride), (60, m_scope), (61, m_care), (69, m_rule)], [(65, m_rown17)])) (mi := mX12_jump) (yi := mX12_tell) (as := [.long rn18.toInt64]) (st := []) (L2 := ([(3457, m_fences), (3462, m_horses), (3472, m_rowManyn19), (3473, (0 : Int32)), (3474, m_readn5), (3475, m_lengthn6), (3476, m_topn7), (3477, m_atn8), (3478, m_wrongn9), (3483, m_ruleSize), (3484, m_isAskedn10), (3485, m_askedHorsen11), (3486, m_askedFencen12), (3487, m_askedLettern13), (3488, m_askedHeightn14)], [(56, m_kind), (57, m_height), (58, m_feet), (59, m_stride), (60, m_scope), (61, m_care), (69, m_rule)], [(65, m_rown20)])) dX12_jump_66 ML_X12_265 Yv_X12_tell rfl zW_54 rfl rfl (t_X12_tell l _ hcl) (zsub_i (zle_c rfl zle_n) zle_n (zle_c rfl zle_n)) (zjok_i rfl rfl (zle_c rfl (zle_c rfl (zle_c rfl (zle_c rfl (zle_c rfl (zle_c rfl (zle_c rfl (zle_c rfl (zle_c rfl (zle_c rfl (zle_c rfl (zle_c rfl (zle_c rfl (zle_c rfl (zle_c rfl zle_n))))))))))))))) rfl rfl (zle_c rfl (zle_c rfl (zle_c rfl (zle_c rfl (zle_c rfl (zle_c rfl (zle_c rfl zle_n))))))) rfl rfl (zle_c rfl zle_n)) (Nat.le_of_ble_eq_true rfl) (Nat.le_of_ble_eq_true rfl) rfl rfl ?_
        refine zJ_aload_n dX12_jump_69 rfl rfl ?_
        refine zJ_aload_n dX12_jump_70 rfl rfl ?_
        refine zJ_iload_n dX12_jump_71 rfl rfl ?_
        refine zJ_aload_n dX12_jump_72 rfl rfl ?_
        refine zJ_getr (mi := mX12_jump) dX12_jump_73 F_X12_19 zW_54 rfl rfl ?_
        refine zJ_iload_n dX12_jump_76 rfl rfl ?_
        obtain ⟨hg, h⟩ := gd_some h
        refine zJ_iald (mi := mX12_jump) (f := m_feet) dX12_jump_77 zW_58 (ix_in hg) rfl rfl ?_
        obtain ⟨rn21, hcl, h⟩ := bd1_some h
        refine zJ_callV2 (σ := σ) (L := ([(3457, m_fences), (3462, m_horses), (3472, m_rowManyn19), (3473, (0 : Int32)), (3474, m_readn5), (3475, m_lengthn6), (3476, m_topn7), (3477, m_atn8), (3478, m_wrongn9), (3483, m_ruleSize), (3484, m_isAskedn10), (3485, m_askedHorsen11), (3486, m_askedFencen12), (3487, m_askedLettern13), (3488, m_askedHeightn14)], [(56, m_kind), (57, m_height), (58, m_feet), (59, m_stride), (60, m_scope), (61, m_care), (69, m_rule)], [(65, m_rown20)])) (mi := mX12_jump) (yi := mX12_leanOf) (as := [.int p1, .int (m_feet p2.toNatClampNeg)]) (st := [.ref 54]) (L2 := ([(3457, m_fences), (3462, m_horses), (3472, m_rowManyn19), (3473, (0 : Int32)), (3474, m_readn5), (3475, m_lengthn6), (3476, m_topn7), (3477, m_atn8), (3478, m_wrongn9), (3483, m_ruleSize), (3484, m_isAskedn10), (3485, m_askedHorsen11), (3486, m_askedFencen12), (3487, m_askedLettern13), (3488, m_askedHeightn14)], [(56, m_kind), (57, m_height), (58, m_feet), (59, m_stride), (60, m_scope), (61, m_care), (69, m_rule)], [(65, m_rown20)])) dX12_jump_78 ML_X12_232 Yv_X12_leanOf rfl zW_54 rfl rfl (t_X12_leanOf l _ hcl) (zsub_i zle_n (zle_c rfl zle_n) zle_n) (zjok_i rfl rfl (zle_c rfl (zle_c rfl (zle_c rfl (zle_c rfl (zle_c rfl (zle_c rfl (zle_c rfl (zle_c rfl (zle_c rfl (zle_c rfl (zle_c rfl (zle_c rfl (zle_c rfl (zle_c rfl (zle_c rfl zle_n))))))))))))))) rfl rfl (zle_c rfl (zle_c rfl (zle_c rfl (zle_c rfl (zle_c rfl (zle_c rfl (zle_c rfl zle_n))))))) rfl rfl (zle_c rfl zle_n)) (Nat.le_of_ble_eq_true rfl) (Nat.le_of_ble_eq_true rfl) rfl rfl ?_
        refine zJ_i2l dX12_jump_81 rfl ?_
        obtain ⟨m_rowManyn22, m_rown23, hcl, h⟩ := bd2_some h
        refine zJ_callV2 (σ := σ) (L := ([(3457, m_fences), (3462, m_horses), (3472, m_rowManyn19), (3473, (0 : Int32)), (3474, m_readn5), (3475, m_lengthn6), (3476, m_topn7), (3477, m_atn8), (3478, m_wrongn9), (3483, m_ruleSize), (3484, m_isAskedn10), (3485, m_askedHorsen11), (3486, m_askedFencen12), (3487, m_askedLettern13), (3488, m_askedHeightn14)], [(56, m_kind), (57, m_height), (58, m_feet), (59, m_stride), (60, m_scope), (61, m_care), (69, m_rule)], [(65, m_rown20)])) (mi := mX12_jump) (yi := mX12_tell) (as := [.long rn21.toInt64]) (st := []) (L2 := ([(3457, m_fences), (3462, m_horses), (3472, m_rowManyn22), (3473, (0 : Int32)), (3474, m_readn5), (3475, m_lengthn6), (3476, m_topn7), (3477, m_atn8), (3478, m_wrongn9), (3483, m_ruleSize), (3484, m_isAskedn10), (3485, m_askedHorsen11), (3486, m_askedFencen12), (3487, m_askedLettern13), (3488, m_askedHeightn14)], [(56, m_kind), (57, m_height), (58, m_feet), (59, m_stride), (60, m_scope), (61, m_care), (69, m_rule)], [(65, m_rown23)])) dX12_jump_82 ML_X12_265 Yv_X12_tell rfl zW_54 rfl rfl (t_X12_tell l _ hcl) (zsub_i (zle_c rfl zle_n) zle_n (zle_c rfl zle_n)) (zjok_i rfl rfl (zle_c rfl (zle_c rfl (zle_c rfl (zle_c rfl (zle_c rfl (zle_c rfl (zle_c rfl (zle_c rfl (zle_c rfl (zle_c rfl (zle_c rfl (zle_c rfl (zle_c rfl (zle_c rfl (zle_c rfl zle_n))))))))))))))) rfl rfl (zle_c rfl (zle_c rfl (zle_c rfl (zle_c rfl (zle_c rfl (zle_c rfl (zle_c rfl zle_n))))))) rfl rfl (zle_c rfl zle_n)) (Nat.le_of_ble_eq_true rfl) (Nat.le_of_ble_eq_true rfl) rfl rfl ?_
        refine zJ_iload dX12_jump_85 rfl rfl ?_
        obtain ⟨rfl, rfl, rfl, rfl, rfl, rfl, rfl, rfl, rfl, rfl, rfl, rfl, rfl, rfl⟩ := so14 h
        exact zJ_iret dX12_jump_87 rfl rfl
      · replace h := it_t hc h
        refine zJ_iconst dX12_jump_31 zc_m1 rfl ?_
        obtain ⟨rfl, rfl, rfl, rfl, rfl, rfl, rfl, rfl, rfl, rfl, rfl, rfl, rfl, rfl⟩ := so14 h
        exact zJ_iret dX12_jump_32 rfl rfl
set_option maxRecDepth 100000 in
set_option maxHeartbeats 4000000 in
theorem t_X12_justFall (l : Launch) (σ : zS) {p1 : Int32} {p2 : Int32} {p3 : Int32} {p4 : Int32} {m_read : Int32} {m_length : Int32} {m_top : Int32} {m_at : Int32} {m_wrong : Int32} {m_ruleSize : Int32} {m_isAsked : Int32} {m_askedHorse : Int32} {m_askedFence : Int32} {m_askedLetter : Int32} {m_askedHeight : Int32} {m_kind : (Nat → Int32)} {m_height : (Nat → Int32)} {m_feet : (Nat → Int32)} {m_stride : (Nat → Int32)} {m_scope : (Nat → Int32)} {m_care : (Nat → Int32)} {m_plan : (Nat → Int32)} {m_rule : (Nat → Int32)} {m_falling : (Nat → Int64)} {r : Int64} {w_m_read : Int32} {w_m_length : Int32} {w_m_top : Int32} {w_m_at : Int32} {w_m_wrong : Int32} {w_m_isAsked : Int32} {w_m_askedHorse : Int32} {w_m_askedFence : Int32} {w_m_askedLetter : Int32} {w_m_askedHeight : Int32} {w_m_falling : (Nat → Int64)} (h : f_X12_justFall p1 p2 p3 p4 m_read m_length m_top m_at m_wrong m_ruleSize m_isAsked m_askedHorse m_askedFence m_askedLetter m_askedHeight m_kind m_height m_feet m_stride m_scope m_care m_plan m_rule m_falling = some (r, w_m_read, w_m_length, w_m_top, w_m_at, w_m_wrong, w_m_isAsked, w_m_askedHorse, w_m_askedFence, w_m_askedLetter, w_m_askedHeight, w_m_falling)) : zMt l zW 207 mX12_justFall σ ([(3474, m_read), (3475, m_length), (3476, m_top), (3477, m_at), (3478, m_wrong), (3483, m_ruleSize), (3484, m_isAsked), (3485, m_askedHorse), (3486, m_askedFence), (3487, m_askedLetter), (3488, m_askedHeight)], [(56, m_kind), (57, m_height), (58, m_feet), (59, m_stride), (60, m_scope), (61, m_care), (62, m_plan), (69, m_rule)], [(84, m_falling)]) [.ref 54, .int p1, .int p2, .int p3, .int p4] (some (.long r)) ([(3474, w_m_read), (3475, w_m_length), (3476, w_m_top), (3477, w_m_at), (3478, w_m_wrong), (3483, m_ruleSize), (3484, w_m_isAsked), (3485, w_m_askedHorse), (3486, w_m_askedFence), (3487, w_m_askedLetter), (3488, w_m_askedHeight)], [(56, m_kind), (57, m_height), (58, m_feet), (59, m_stride), (60, m_scope), (61, m_care), (62, m_plan), (69, m_rule)], [(84, w_m_falling)]) := by
  refine zMt_of (ls := [(0, .ref 54), (1, .int p1), (2, .int p2), (3, .int p3), (4, .int p4)]) (by decide) rfl (fun _ => Nat.le_of_ble_eq_true rfl) rfl ?_
  unfold f_X12_justFall at h
  refine zJ_iconst dX12_justFall_0 zc_0 rfl ?_
  refine zJ_istore (ls' := [(5, .int (0 : Int32)), (0, .ref 54), (1, .int p1), (2, .int p2), (3, .int p3), (4, .int p4)]) dX12_justFall_1 rfl rfl rfl ?_
  have hk3 : ∀ (m_falling_3x : (Nat → Int64)), k_X12_justFall_3 p1 p2 p3 p4 m_read m_length m_top m_at m_wrong m_ruleSize m_isAsked m_askedHorse m_askedFence m_askedLetter m_askedHeight m_kind m_height m_feet m_stride m_scope m_care m_plan m_rule m_falling_3x = some (r, w_m_read, w_m_length, w_m_top, w_m_at, w_m_wrong, w_m_isAsked, w_m_askedHorse, w_m_askedFence, w_m_askedLetter, w_m_askedHeight, w_m_falling) → zJ l zW 207 mX12_justFall σ ([(3474, m_read), (3475, m_length), (3476, m_top), (3477, m_at), (3478, m_wrong), (3483, m_ruleSize), (3484, m_isAsked), (3485, m_askedHorse), (3486, m_askedFence), (3487, m_askedLetter), (3488, m_askedHeight)], [(56, m_kind), (57, m_height), (58, m_feet), (59, m_stride), (60, m_scope), (61, m_care), (62, m_plan), (69, m_rule)], [(84, m_falling_3x)]) 33 [(0, .ref 54), (1, .int p1), (2, .int p2), (3, .int p3), (4, .int p4)] [] (some (.long r)) ([(3474, w_m_read), (3475, w_m_length), (3476, w_m_top), (3477, w_m_at), (3478, w_m_wrong), (3483, m_ruleSize), (3484, w_m_isAsked), (3485, w_m_askedHorse), (3486, w_m_askedFence), (3487, w_m_askedLetter), (3488, w_m_askedHeight)], [(56, m_kind), (57, m_height), (58, m_feet), (59, m_stride), (60, m_scope), (61, m_care), (62, m_plan), (69, m_rule)], [(84, w_m_falling)]) := by
    intro m_falling_3x h
    unfold k_X12_justFall_3 at h
    refine zJ_iconst dX12_justFall_33 zc_0 rfl ?_
    refine zJ_istore (ls' := [(5, .int (0 : Int32)), (0, .ref 54), (1, .int p1), (2, .int p2), (3, .int p3), (4, .int p4)]) dX12_justFall_34 rfl rfl rfl ?_
    have hk36 : ∀ (m_read_36x : Int32) (m_length_36x : Int32) (m_top_36x : Int32) (m_at_36x : Int32) (m_wrong_36x : Int32) (m_isAsked_36x : Int32) (m_askedHorse_36x : Int32) (m_askedFence_36x : Int32) (m_askedLetter_36x : Int32) (m_askedHeight_36x : Int32) (m_falling_36x : (Nat → Int64)), k_X12_justFall_36 p2 m_read_36x m_length_36x m_top_36x m_at_36x m_wrong_36x m_isAsked_36x m_askedHorse_36x m_askedFence_36x m_askedLetter_36x m_askedHeight_36x m_falling_36x = some (r, w_m_read, w_m_length, w_m_top, w_m_at, w_m_wrong, w_m_isAsked, w_m_askedHorse, w_m_askedFence, w_m_askedLetter, w_m_askedHeight, w_m_falling) → zJ l zW 207 mX12_justFall σ ([(3474, m_read_36x), (3475, m_length_36x), (3476, m_top_36x), (3477, m_at_36x), (3478, m_wrong_36x), (3483, m_ruleSize), (3484, m_isAsked_36x), (3485, m_askedHorse_36x), (3486, m_askedFence_36x), (3487, m_askedLetter_36x), (3488, m_askedHeight_36x)], [(56, m_kind), (57, m_height), (58, m_feet), (59, m_stride), (60, m_scope), (61, m_care), (62, m_plan), (69, m_rule)], [(84, m_falling_36x)]) 130 [(0, .ref 54), (2, .int p2)] [] (some (.long r)) ([(3474, w_m_read), (3475, w_m_length), (3476, w_m_top), (3477, w_m_at), (3478, w_m_wrong), (3483, m_ruleSize), (3484, w_m_isAsked), (3485, w_m_askedHorse), (3486, w_m_askedFence), (3487, w_m_askedLetter), (3488, w_m_askedHeight)], [(56, m_kind), (57, m_height), (58, m_feet), (59, m_stride), (60, m_scope), (61, m_care), (62, m_plan), (69, m_rule)], [(84, w_m_falling)]) := by
      intro m_read_36x m_length_36x m_top_36x m_at_36x m_wrong_36x m_isAsked_36x m_askedHorse_36x m_askedFence_36x m_askedLetter_36x m_askedHeight_36x m_falling_36x h
      unfold k_X12_justFall_36 at h
      refine zJ_aload_n dX12_justFall_130 rfl rfl ?_
      refine zJ_getr (mi := mX12_justFall) dX12_justFall_131 F_X12_103 zW_54 rfl rfl ?_
      refine zJ_iload_n dX12_justFall_134 rfl rfl ?_
      obtain ⟨hg, h⟩ := gd_some h
      refine zJ_lald (mi := mX12_justFall) (f := m_falling_36x) dX12_justFall_135 zW_84 (ix_in hg) rfl rfl ?_
      obtain ⟨rfl, rfl, rfl, rfl, rfl, rfl, rfl, rfl, rfl, rfl, rfl, rfl⟩ := so12 h
      exact zJ_lret dX12_justFall_136 rfl
    refine zJ_loc (ls' := [(0, .ref 54), (1, .int p1), (2, .int p2), (3, .int p3), (4, .int p4), (5, .int (0 : Int32))]) (zll_c rfl (zll_c rfl (zll_c rfl (zll_c rfl (zll_c rfl (zll_c rfl zll_n)))))) ?_
    refine ml12_J (fun (v5_36 : Int32) (m_read_36 : Int32) (m_length_36 : Int32) (m_top_36 : Int32) (m_at_36 : Int32) (m_wrong_36 : Int32) (m_isAsked_36 : Int32) (m_askedHorse_36 : Int32) (m_askedFence_36 : Int32) (m_askedLetter_36 : Int32) (m_askedHeight_36 : Int32) (m_falling_36 : (Nat → Int64)) => zJ l zW 207 mX12_justFall σ ([(3474, m_read_36), (3475, m_length_36), (3476, m_top_36), (3477, m_at_36), (3478, m_wrong_36), (3483, m_ruleSize), (3484, m_isAsked_36), (3485, m_askedHorse_36), (3486, m_askedFence_36), (3487, m_askedLetter_36), (3488, m_askedHeight_36)], [(56, m_kind), (57, m_height), (58, m_feet), (59, m_stride), (60, m_scope), (61, m_care), (62, m_plan), (69, m_rule)], [(84, m_falling_36)]) 36 [(0, .ref 54), (1, .int p1), (2, .int p2), (3, .int p3), (4, .int p4), (5, .int v5_36)] [] (some (.long r)) ([(3474, w_m_read), (3475, w_m_length), (3476, w_m_top), (3477, w_m_at), (3478, w_m_wrong), (3483, m_ruleSize), (3484, w_m_isAsked), (3485, w_m_askedHorse), (3486, w_m_askedFence), (3487, w_m_askedLetter), (3488, w_m_askedHeight)], [(56, m_kind), (57, m_height), (58, m_feet), (59, m_stride), (60, m_scope), (61, m_care), (62, m_plan), (69, m_rule)], [(84, w_m_falling)])) (fun rc36 hrc36 v5_36 m_read_36 m_length_36 m_top_36 m_at_36 m_wrong_36 m_isAsked_36 m_askedHorse_36 m_askedFence_36 m_askedLetter_36 m_askedHeight_36 m_falling_36 h => ?_) zN _ _ _ _ _ _ _ _ _ _ _ _ h
    unfold s_X12_justFall_36 at h
    refine zJ_iload dX12_justFall_36 rfl rfl ?_
    refine zJ_iload_n dX12_justFall_38 rfl rfl ?_
    refine zJ_icmp_ge (tgt := 130) dX12_justFall_39 (by decide) rfl (fun hc => ?_) (fun hc => ?_)
    · replace h := it_t hc h
      refine zJ_loc (ls' := [(0, .ref 54), (2, .int p2)]) (zll_c rfl (zll_c rfl zll_n)) ?_
      exact hk36 _ _ _ _ _ _ _ _ _ _ _ h
    · replace h := it_f hc h
      refine zJ_bipush dX12_justFall_42 zb_100 rfl ?_
      refine zJ_aload_n dX12_justFall_44 rfl rfl ?_
      refine zJ_iload dX12_justFall_45 rfl rfl ?_
      refine zJ_iload_n dX12_justFall_47 rfl rfl ?_
      refine zJ_aload_n dX12_justFall_48 rfl rfl ?_
      refine zJ_iconst dX12_justFall_49 zc_0 rfl ?_
      refine zJ_iload_n dX12_justFall_50 rfl rfl ?_
      obtain ⟨rn1, hcl, h⟩ := bd1_some h
      refine zJ_callV2 (σ := σ) (L := ([(3474, m_read_36), (3475, m_length_36), (3476, m_top_36), (3477, m_at_36), (3478, m_wrong_36), (3483, m_ruleSize), (3484, m_isAsked_36), (3485, m_askedHorse_36), (3486, m_askedFence_36), (3487, m_askedLetter_36), (3488, m_askedHeight_36)], [(56, m_kind), (57, m_height), (58, m_feet), (59, m_stride), (60, m_scope), (61, m_care), (62, m_plan), (69, m_rule)], [(84, m_falling_36)])) (mi := mX12_justFall) (yi := mX12_letterOf) (as := [.int (0 : Int32), .int p1]) (st := [.int p1, .int v5_36, .ref 54, .int (100 : Int32)]) (L2 := ([(3474, m_read_36), (3475, m_length_36), (3476, m_top_36), (3477, m_at_36), (3478, m_wrong_36), (3483, m_ruleSize), (3484, m_isAsked_36), (3485, m_askedHorse_36), (3486, m_askedFence_36), (3487, m_askedLetter_36), (3488, m_askedHeight_36)], [(56, m_kind), (57, m_height), (58, m_feet), (59, m_stride), (60, m_scope), (61, m_care), (62, m_plan), (69, m_rule)], [(84, m_falling_36)])) dX12_justFall_51 ML_X12_273 Yv_X12_letterOf rfl zW_54 rfl rfl (t_X12_letterOf l _ hcl) (zsub_i zle_n (zle_c rfl zle_n) zle_n) (zjok_i rfl rfl (zle_c rfl (zle_c rfl (zle_c rfl (zle_c rfl (zle_c rfl (zle_c rfl (zle_c rfl (zle_c rfl (zle_c rfl (zle_c rfl (zle_c rfl zle_n))))))))))) rfl rfl (zle_c rfl (zle_c rfl (zle_c rfl (zle_c rfl (zle_c rfl (zle_c rfl (zle_c rfl (zle_c rfl zle_n)))))))) rfl rfl (zle_c rfl zle_n)) (Nat.le_of_ble_eq_true rfl) (Nat.le_of_ble_eq_true rfl) rfl rfl ?_
      obtain ⟨rn2, m_readn3, m_lengthn4, m_topn5, m_atn6, m_wrongn7, m_isAskedn8, m_askedHorsen9, m_askedFencen10, m_askedLettern11, m_askedHeightn12, hcl, h⟩ := bd11_some h
      refine zJ_callV2 (σ := σ) (L := ([(3474, m_read_36), (3475, m_length_36), (3476, m_top_36), (3477, m_at_36), (3478, m_wrong_36), (3483, m_ruleSize), (3484, m_isAsked_36), (3485, m_askedHorse_36), (3486, m_askedFence_36), (3487, m_askedLetter_36), (3488, m_askedHeight_36)], [(56, m_kind), (57, m_height), (58, m_feet), (59, m_stride), (60, m_scope), (61, m_care), (62, m_plan), (69, m_rule)], [(84, m_falling_36)])) (mi := mX12_justFall) (yi := mX12_oddsOf_) (as := [.int v5_36, .int p1, .int rn1]) (st := [.int (100 : Int32)]) (L2 := ([(3474, m_readn3), (3475, m_lengthn4), (3476, m_topn5), (3477, m_atn6), (3478, m_wrongn7), (3483, m_ruleSize), (3484, m_isAskedn8), (3485, m_askedHorsen9), (3486, m_askedFencen10), (3487, m_askedLettern11), (3488, m_askedHeightn12)], [(56, m_kind), (57, m_height), (58, m_feet), (59, m_stride), (60, m_scope), (61, m_care), (62, m_plan), (69, m_rule)], [(84, m_falling_36)])) dX12_justFall_54 ML_X12_259 Yv_X12_oddsOf_ rfl zW_54 rfl rfl (t_X12_oddsOf_ l _ hcl) (zsub_i (zle_c rfl (zle_c rfl (zle_c rfl (zle_c rfl (zle_c rfl (zle_c rfl (zle_c rfl (zle_c rfl (zle_c rfl (zle_c rfl (zle_c rfl zle_n))))))))))) (zle_c rfl (zle_c rfl (zle_c rfl (zle_c rfl (zle_c rfl (zle_c rfl (zle_c rfl zle_n))))))) zle_n) (zjok_i rfl rfl (zle_c rfl (zle_c rfl (zle_c rfl (zle_c rfl (zle_c rfl (zle_c rfl (zle_c rfl (zle_c rfl (zle_c rfl (zle_c rfl (zle_c rfl zle_n))))))))))) rfl rfl (zle_c rfl (zle_c rfl (zle_c rfl (zle_c rfl (zle_c rfl (zle_c rfl (zle_c rfl (zle_c rfl zle_n)))))))) rfl rfl (zle_c rfl zle_n)) (Nat.le_of_ble_eq_true rfl) (Nat.le_of_ble_eq_true rfl) rfl rfl ?_
      refine zJ_iload dX12_justFall_57 rfl rfl ?_
      refine zJ_iadd dX12_justFall_59 rfl ?_
      refine zJ_mmin (mi := mX12_justFall) dX12_justFall_60 L_X12_238 K_min_s K_math K_min_c (Nat.le_of_ble_eq_true rfl) (Nat.le_of_ble_eq_true rfl) rfl ?_
      obtain ⟨v6n13, ev6n13, h⟩ := lt1_some h
      refine zJ_nmi ev6n13 ?_
      refine zJ_istore (ls' := [(6, .int v6n13), (0, .ref 54), (1, .int p1), (2, .int p2), (3, .int p3), (4, .int p4), (5, .int v5_36)]) dX12_justFall_63 rfl rfl rfl ?_
      refine zJ_bipush dX12_justFall_65 zb_6 rfl ?_
      refine zJ_istore (ls' := [(7, .int (6 : Int32)), (6, .int v6n13), (0, .ref 54), (1, .int p1), (2, .int p2), (3, .int p3), (4, .int p4), (5, .int v5_36)]) dX12_justFall_67 rfl rfl rfl ?_
      have hk69 : ∀ (m_falling_69x : (Nat → Int64)), k_X12_justFall_69 rc36 v5_36 m_readn3 m_lengthn4 m_topn5 m_atn6 m_wrongn7 m_isAskedn8 m_askedHorsen9 m_askedFencen10 m_askedLettern11 m_askedHeightn12 m_falling_69x = some (r, w_m_read, w_m_length, w_m_top, w_m_at, w_m_wrong, w_m_isAsked, w_m_askedHorse, w_m_askedFence, w_m_askedLetter, w_m_askedHeight, w_m_falling) → zJ l zW 207 mX12_justFall σ ([(3474, m_readn3), (3475, m_lengthn4), (3476, m_topn5), (3477, m_atn6), (3478, m_wrongn7), (3483, m_ruleSize), (3484, m_isAskedn8), (3485, m_askedHorsen9), (3486, m_askedFencen10), (3487, m_askedLettern11), (3488, m_askedHeightn12)], [(56, m_kind), (57, m_height), (58, m_feet), (59, m_stride), (60, m_scope), (61, m_care), (62, m_plan), (69, m_rule)], [(84, m_falling_69x)]) 124 [(0, .ref 54), (1, .int p1), (2, .int p2), (3, .int p3), (4, .int p4), (5, .int v5_36)] [] (some (.long r)) ([(3474, w_m_read), (3475, w_m_length), (3476, w_m_top), (3477, w_m_at), (3478, w_m_wrong), (3483, m_ruleSize), (3484, w_m_isAsked), (3485, w_m_askedHorse), (3486, w_m_askedFence), (3487, w_m_askedLetter), (3488, w_m_askedHeight)], [(56, m_kind), (57, m_height), (58, m_feet), (59, m_stride), (60, m_scope), (61, m_care), (62, m_plan), (69, m_rule)], [(84, w_m_falling)]) := by
        intro m_falling_69x h
        unfold k_X12_justFall_69 at h
        obtain ⟨v5n14, ev5n14, h⟩ := lt1_some h
        refine zJ_iincN (ls' := [(5, .int v5n14), (0, .ref 54), (1, .int p1), (2, .int p2), (3, .int p3), (4, .int p4)]) dX12_justFall_124 rfl rfl zc_1 ev5n14 rfl rfl ?_
        refine zJ_goto (tgt := 36) dX12_justFall_127 (by decide) ?_
        refine zJ_loc (ls' := [(0, .ref 54), (1, .int p1), (2, .int p2), (3, .int p3), (4, .int p4), (5, .int v5n14)]) (zll_c rfl (zll_c rfl (zll_c rfl (zll_c rfl (zll_c rfl (zll_c rfl zll_n)))))) ?_
        exact hrc36 _ _ _ _ _ _ _ _ _ _ _ _ h
      refine zJ_loc (ls' := [(0, .ref 54), (1, .int p1), (2, .int p2), (3, .int p3), (4, .int p4), (5, .int v5_36), (6, .int v6n13), (7, .int (6 : Int32))]) (zll_c rfl (zll_c rfl (zll_c rfl (zll_c rfl (zll_c rfl (zll_c rfl (zll_c rfl (zll_c rfl zll_n)))))))) ?_
      refine ml2_J (fun (v7_69 : Int32) (m_falling_69 : (Nat → Int64)) => zJ l zW 207 mX12_justFall σ ([(3474, m_readn3), (3475, m_lengthn4), (3476, m_topn5), (3477, m_atn6), (3478, m_wrongn7), (3483, m_ruleSize), (3484, m_isAskedn8), (3485, m_askedHorsen9), (3486, m_askedFencen10), (3487, m_askedLettern11), (3488, m_askedHeightn12)], [(56, m_kind), (57, m_height), (58, m_feet), (59, m_stride), (60, m_scope), (61, m_care), (62, m_plan), (69, m_rule)], [(84, m_falling_69)]) 69 [(0, .ref 54), (1, .int p1), (2, .int p2), (3, .int p3), (4, .int p4), (5, .int v5_36), (6, .int v6n13), (7, .int v7_69)] [] (some (.long r)) ([(3474, w_m_read), (3475, w_m_length), (3476, w_m_top), (3477, w_m_at), (3478, w_m_wrong), (3483, m_ruleSize), (3484, w_m_isAsked), (3485, w_m_askedHorse), (3486, w_m_askedFence), (3487, w_m_askedLetter), (3488, w_m_askedHeight)], [(56, m_kind), (57, m_height), (58, m_feet), (59, m_stride), (60, m_scope), (61, m_care), (62, m_plan), (69, m_rule)], [(84, w_m_falling)])) (fun rc69 hrc69 v7_69 m_falling_69 h => ?_) zN _ _ h
      unfold s_X12_justFall_69 at h
      refine zJ_iload dX12_justFall_69 rfl rfl ?_
      refine zJ_if_lt (tgt := 124) dX12_justFall_71 (by decide) rfl (fun hc => ?_) (fun hc => ?_)
      · replace h := it_t hc h
        refine zJ_loc (ls' := [(0, .ref 54), (1, .int p1), (2, .int p2), (3, .int p3), (4, .int p4), (5, .int v5_36)]) (zll_c rfl (zll_c rfl (zll_c rfl (zll_c rfl (zll_c rfl (zll_c rfl zll_n)))))) ?_
        exact hk69 _ h
      · replace h := it_f hc h
        refine zJ_aload_n dX12_justFall_74 rfl rfl ?_
        refine zJ_getr (mi := mX12_justFall) dX12_justFall_75 F_X12_103 zW_54 rfl rfl ?_
        refine zJ_iload dX12_justFall_78 rfl rfl ?_
        refine zJ_aload_n dX12_justFall_80 rfl rfl ?_
        refine zJ_getr (mi := mX12_justFall) dX12_justFall_81 F_X12_103 zW_54 rfl rfl ?_
        refine zJ_iload dX12_justFall_84 rfl rfl ?_
        obtain ⟨hg, h⟩ := gd_some h
        refine zJ_lald (mi := mX12_justFall) (f := m_falling_69) dX12_justFall_86 zW_84 (ix_in hg) rfl rfl ?_
        refine zJ_bipush dX12_justFall_87 zb_100 rfl ?_
        refine zJ_iload dX12_justFall_89 rfl rfl ?_
        refine zJ_isub dX12_justFall_91 rfl ?_
        refine zJ_i2l dX12_justFall_92 rfl ?_
        refine zJ_lmul dX12_justFall_93 rfl ?_
        refine zJ_iload dX12_justFall_94 rfl rfl ?_
        refine zJ_if_ne (tgt := 103) dX12_justFall_96 (by decide) rfl (fun hc => ?_) (fun hc => ?_)
        · replace h := it_f hc h
          refine zJ_aload_n dX12_justFall_103 rfl rfl ?_
          refine zJ_getr (mi := mX12_justFall) dX12_justFall_104 F_X12_103 zW_54 rfl rfl ?_
          refine zJ_iload dX12_justFall_107 rfl rfl ?_
          refine zJ_iconst dX12_justFall_109 zc_1 rfl ?_
          refine zJ_isub dX12_justFall_110 rfl ?_
          obtain ⟨hg, h⟩ := gd_some h
          refine zJ_lald (mi := mX12_justFall) (f := m_falling_69) dX12_justFall_111 zW_84 (ix_in hg) rfl rfl ?_
          refine zJ_iload dX12_justFall_112 rfl rfl ?_
          refine zJ_i2l dX12_justFall_114 rfl ?_
          refine zJ_lmul dX12_justFall_115 rfl ?_
          refine zJ_ladd dX12_justFall_116 rfl ?_
          obtain ⟨hg, h⟩ := gd_some h
          refine zK_last (mi := mX12_justFall) (f := m_falling_69) (lc' := [(84, (vp_updL m_falling_69 v7_69.toNatClampNeg (((m_falling_69 v7_69.toNatClampNeg) * (((100 : Int32) - v6n13)).toInt64) + ((m_falling_69 (v7_69 - (1 : Int32)).toNatClampNeg) * v6n13.toInt64))))]) dX12_justFall_117 zW_84 (ix_in hg) rfl rfl rfl ?_
          obtain ⟨v7n15, ev7n15, h⟩ := lt1_some h
          refine zJ_iincN (ls' := [(7, .int v7n15), (0, .ref 54), (1, .int p1), (2, .int p2), (3, .int p3), (4, .int p4), (5, .int v5_36), (6, .int v6n13)]) dX12_justFall_118 rfl rfl zc_m1 ev7n15 rfl rfl ?_
          refine zJ_goto (tgt := 69) dX12_justFall_121 (by decide) ?_
          refine zJ_loc (ls' := [(0, .ref 54), (1, .int p1), (2, .int p2), (3, .int p3), (4, .int p4), (5, .int v5_36), (6, .int v6n13), (7, .int v7n15)]) (zll_c rfl (zll_c rfl (zll_c rfl (zll_c rfl (zll_c rfl (zll_c rfl (zll_c rfl (zll_c rfl zll_n)))))))) ?_
          exact hrc69 _ _ h
        · replace h := it_t hc h
          refine zJ_lconst dX12_justFall_99 zl_0 rfl ?_
          refine zJ_goto (tgt := 116) dX12_justFall_100 (by decide) ?_
          refine zJ_ladd dX12_justFall_116 rfl ?_
          obtain ⟨hg, h⟩ := gd_some h
          refine zK_last (mi := mX12_justFall) (f := m_falling_69) (lc' := [(84, (vp_updL m_falling_69 v7_69.toNatClampNeg (((m_falling_69 v7_69.toNatClampNeg) * (((100 : Int32) - v6n13)).toInt64) + (0 : Int64))))]) dX12_justFall_117 zW_84 (ix_in hg) rfl rfl rfl ?_
          obtain ⟨v7n16, ev7n16, h⟩ := lt1_some h
          refine zJ_iincN (ls' := [(7, .int v7n16), (0, .ref 54), (1, .int p1), (2, .int p2), (3, .int p3), (4, .int p4), (5, .int v5_36), (6, .int v6n13)]) dX12_justFall_118 rfl rfl zc_m1 ev7n16 rfl rfl ?_
          refine zJ_goto (tgt := 69) dX12_justFall_121 (by decide) ?_
          refine zJ_loc (ls' := [(0, .ref 54), (1, .int p1), (2, .int p2), (3, .int p3), (4, .int p4), (5, .int v5_36), (6, .int v6n13), (7, .int v7n16)]) (zll_c rfl (zll_c rfl (zll_c rfl (zll_c rfl (zll_c rfl (zll_c rfl (zll_c rfl (zll_c rfl zll_n)))))))) ?_
          exact hrc69 _ _ h
  refine zJ_loc (ls' := [(0, .ref 54), (1, .int p1), (2, .int p2), (3, .int p3), (4, .int p4), (5, .int (0 : Int32))]) (zll_c rfl (zll_c rfl (zll_c rfl (zll_c rfl (zll_c rfl (zll_c rfl zll_n)))))) ?_
  refine ml2_J (fun (v5_3 : Int32) (m_falling_3 : (Nat → Int64)) => zJ l zW 207 mX12_justFall σ ([(3474, m_read), (3475, m_length), (3476, m_top), (3477, m_at), (3478, m_wrong), (3483, m_ruleSize), (3484, m_isAsked), (3485, m_askedHorse), (3486, m_askedFence), (3487, m_askedLetter), (3488, m_askedHeight)], [(56, m_kind), (57, m_height), (58, m_feet), (59, m_stride), (60, m_scope), (61, m_care), (62, m_plan), (69, m_rule)], [(84, m_falling_3)]) 3 [(0, .ref 54), (1, .int p1), (2, .int p2), (3, .int p3), (4, .int p4), (5, .int v5_3)] [] (some (.long r)) ([(3474, w_m_read), (3475, w_m_length), (3476, w_m_top), (3477, w_m_at), (3478, w_m_wrong), (3483, m_ruleSize), (3484, w_m_isAsked), (3485, w_m_askedHorse), (3486, w_m_askedFence), (3487, w_m_askedLetter), (3488, w_m_askedHeight)], [(56, m_kind), (57, m_height), (58, m_feet), (59, m_stride), (60, m_scope), (61, m_care), (62, m_plan), (69, m_rule)], [(84, w_m_falling)])) (fun rc3 hrc3 v5_3 m_falling_3 h => ?_) zN _ _ h
  unfold s_X12_justFall_3 at h
  refine zJ_iload dX12_justFall_3 rfl rfl ?_
  refine zJ_bipush dX12_justFall_5 zb_6 rfl ?_
  refine zJ_icmp_gt (tgt := 33) dX12_justFall_7 (by decide) rfl (fun hc => ?_) (fun hc => ?_)
  · replace h := it_t hc h
    refine zJ_loc (ls' := [(0, .ref 54), (1, .int p1), (2, .int p2), (3, .int p3), (4, .int p4)]) (zll_c rfl (zll_c rfl (zll_c rfl (zll_c rfl (zll_c rfl zll_n))))) ?_
    exact hk3 _ h
  · replace h := it_f hc h
    refine zJ_aload_n dX12_justFall_10 rfl rfl ?_
    refine zJ_getr (mi := mX12_justFall) dX12_justFall_11 F_X12_103 zW_54 rfl rfl ?_
    refine zJ_iload dX12_justFall_14 rfl rfl ?_
    refine zJ_iload dX12_justFall_16 rfl rfl ?_
    refine zJ_if_ne (tgt := 25) dX12_justFall_18 (by decide) rfl (fun hc => ?_) (fun hc => ?_)
    · replace h := it_f hc h
      refine zJ_lconst dX12_justFall_25 zl_0 rfl ?_
      obtain ⟨hg, h⟩ := gd_some h
      refine zK_last (mi := mX12_justFall) (f := m_falling_3) (lc' := [(84, (vp_updL m_falling_3 v5_3.toNatClampNeg (0 : Int64)))]) dX12_justFall_26 zW_84 (ix_in hg) rfl rfl rfl ?_
      obtain ⟨v5n17, ev5n17, h⟩ := lt1_some h
      refine zJ_iincN (ls' := [(5, .int v5n17), (0, .ref 54), (1, .int p1), (2, .int p2), (3, .int p3), (4, .int p4)]) dX12_justFall_27 rfl rfl zc_1 ev5n17 rfl rfl ?_
      refine zJ_goto (tgt := 3) dX12_justFall_30 (by decide) ?_
      refine zJ_loc (ls' := [(0, .ref 54), (1, .int p1), (2, .int p2), (3, .int p3), (4, .int p4), (5, .int v5n17)]) (zll_c rfl (zll_c rfl (zll_c rfl (zll_c rfl (zll_c rfl (zll_c rfl zll_n)))))) ?_
      exact hrc3 _ _ h
    · replace h := it_t hc h
      refine zJ_lconst dX12_justFall_21 zl_1 rfl ?_
      refine zJ_goto (tgt := 26) dX12_justFall_22 (by decide) ?_
      obtain ⟨hg, h⟩ := gd_some h
      refine zK_last (mi := mX12_justFall) (f := m_falling_3) (lc' := [(84, (vp_updL m_falling_3 v5_3.toNatClampNeg (1 : Int64)))]) dX12_justFall_26 zW_84 (ix_in hg) rfl rfl rfl ?_
      obtain ⟨v5n18, ev5n18, h⟩ := lt1_some h
      refine zJ_iincN (ls' := [(5, .int v5n18), (0, .ref 54), (1, .int p1), (2, .int p2), (3, .int p3), (4, .int p4)]) dX12_justFall_27 rfl rfl zc_1 ev5n18 rfl rfl ?_
      refine zJ_goto (tgt := 3) dX12_justFall_30 (by decide) ?_
      refine zJ_loc (ls' := [(0, .ref 54), (1, .int p1), (2, .int p2), (3, .int p3), (4, .int p4), (5, .int v5n18)]) (zll_c rfl (zll_c rfl (zll_c rfl (zll_c rfl (zll_c rfl (zll_c rfl zll_n)))))) ?_
      exact hrc3 _ _ h
set_option maxRecDepth 100000 in
set_option maxHeartbeats 4000000 in
theorem t_X12_lay_m_now_m_kept (l : Launch) (σ : zS) {p2 : Int32} {m_now : (Nat → Int32)} {m_kept : (Nat → Int32)} {w_m_kept : (Nat → Int32)} (h : f_X12_lay_m_now_m_kept p2 m_now m_kept = some w_m_kept) : zMt l zW 0 mX12_lay σ ([], [(55, m_now), (85, m_kept)], []) [.ref 55, .ref 85, .int p2] none ([], [(55, m_now), (85, w_m_kept)], []) := by
  refine zMt_of (ls := [(0, .ref 55), (1, .ref 85), (2, .int p2)]) (by decide) rfl (fun _ => Nat.le_of_ble_eq_true rfl) rfl ?_
  unfold f_X12_lay_m_now_m_kept at h
  refine zJ_iconst dX12_lay_0 zc_0 rfl ?_
  refine zJ_istore_n (ls' := [(3, .int (0 : Int32)), (0, .ref 55), (1, .ref 85), (2, .int p2)]) dX12_lay_1 rfl rfl rfl ?_
  have hk2 : ∀ (m_kept_2x : (Nat → Int32)), k_X12_lay_m_now_m_kept_2  m_kept_2x = some w_m_kept → zJ l zW 0 mX12_lay σ ([], [(55, m_now), (85, m_kept_2x)], []) 22 [] [] none ([], [(55, m_now), (85, w_m_kept)], []) := by
    intro m_kept_2x h
    unfold k_X12_lay_m_now_m_kept_2 at h
    obtain rfl := so1 h
    exact zJ_vret dX12_lay_22 rfl
  refine zJ_loc (ls' := [(0, .ref 55), (1, .ref 85), (2, .int p2), (3, .int (0 : Int32))]) (zll_c rfl (zll_c rfl (zll_c rfl (zll_c rfl zll_n)))) ?_
  refine ml2_J (fun (v3_2 : Int32) (m_kept_2 : (Nat → Int32)) => zJ l zW 0 mX12_lay σ ([], [(55, m_now), (85, m_kept_2)], []) 2 [(0, .ref 55), (1, .ref 85), (2, .int p2), (3, .int v3_2)] [] none ([], [(55, m_now), (85, w_m_kept)], [])) (fun rc2 hrc2 v3_2 m_kept_2 h => ?_) zN _ _ h
  unfold s_X12_lay_m_now_m_kept_2 at h
  refine zJ_iload_n dX12_lay_2 rfl rfl ?_
  refine zJ_bipush dX12_lay_3 zb_49 rfl ?_
  refine zJ_icmp_ge (tgt := 22) dX12_lay_5 (by decide) rfl (fun hc => ?_) (fun hc => ?_)
  · replace h := it_t hc h
    refine zJ_loc (ls' := []) zll_n ?_
    exact hk2 _ h
  · replace h := it_f hc h
    refine zJ_aload_n dX12_lay_8 rfl rfl ?_
    refine zJ_iload_n dX12_lay_9 rfl rfl ?_
    refine zJ_iload_n dX12_lay_10 rfl rfl ?_
    refine zJ_iadd dX12_lay_11 rfl ?_
    refine zJ_aload_n dX12_lay_12 rfl rfl ?_
    refine zJ_iload_n dX12_lay_13 rfl rfl ?_
    obtain ⟨hg, h⟩ := gd_some h
    refine zJ_iald (mi := mX12_lay) (f := m_now) dX12_lay_14 zW_55 (ix_in hg) rfl rfl ?_
    obtain ⟨hg, h⟩ := gd_some h
    refine zK_iast (mi := mX12_lay) (f := m_kept_2) (lb' := [(55, m_now), (85, (upd m_kept_2 (p2 + v3_2).toNatClampNeg (m_now v3_2.toNatClampNeg)))]) dX12_lay_15 zW_85 (ix_in hg) rfl rfl rfl ?_
    obtain ⟨v3n1, ev3n1, h⟩ := lt1_some h
    refine zJ_iincN (ls' := [(3, .int v3n1), (0, .ref 55), (1, .ref 85), (2, .int p2)]) dX12_lay_16 rfl rfl zc_1 ev3n1 rfl rfl ?_
    refine zJ_goto (tgt := 2) dX12_lay_19 (by decide) ?_
    refine zJ_loc (ls' := [(0, .ref 55), (1, .ref 85), (2, .int p2), (3, .int v3n1)]) (zll_c rfl (zll_c rfl (zll_c rfl (zll_c rfl zll_n)))) ?_
    exact hrc2 _ _ h
set_option maxRecDepth 100000 in
set_option maxHeartbeats 4000000 in
theorem t_X12_keep (l : Launch) (σ : zS) {p1 : Int32} {m_thrown : Int32} {m_now : (Nat → Int32)} {m_kept : (Nat → Int32)} {m_isKept : (Nat → Int32)} {r : Int32} {w_m_thrown : Int32} {w_m_kept : (Nat → Int32)} {w_m_isKept : (Nat → Int32)} (h : f_X12_keep p1 m_thrown m_now m_kept m_isKept = some (r, w_m_thrown, w_m_kept, w_m_isKept)) : zMt l zW 1 mX12_keep σ ([(3473, m_thrown)], [(55, m_now), (85, m_kept), (86, m_isKept)], []) [.ref 54, .int p1] (some (.int r)) ([(3473, w_m_thrown)], [(55, m_now), (85, w_m_kept), (86, w_m_isKept)], []) := by
  refine zMt_of (ls := [(0, .ref 54), (1, .int p1)]) (by decide) rfl (fun _ => Nat.le_of_ble_eq_true rfl) rfl ?_
  unfold f_X12_keep at h
  refine zJ_aload_n dX12_keep_0 rfl rfl ?_
  refine zJ_iconst dX12_keep_1 zc_0 rfl ?_
  refine zK_puti (mi := mX12_keep) (la' := [(3473, (0 : Int32))]) zW_ok dX12_keep_2 F_X12_113 P_12_17 zW_54 rfl rfl rfl ?_
  refine zJ_iload_n dX12_keep_5 rfl rfl ?_
  refine zJ_iconst dX12_keep_6 zc_0 rfl ?_
  refine zJ_iconst dX12_keep_7 zc_1 rfl ?_
  obtain ⟨rn1, hcl, h⟩ := bd1_some h
  refine zJ_callS2 (σ := σ) (L := ([(3473, (0 : Int32))], [(55, m_now), (85, m_kept), (86, m_isKept)], [])) (mi := mX12_keep) (yi := mX12_in) (as := [.int p1, .int (0 : Int32), .int (1 : Int32)]) (st := []) (L2 := ([(3473, (0 : Int32))], [(55, m_now), (85, m_kept), (86, m_isKept)], [])) dX12_keep_8 ML_X12_122 Ys_X12_in rfl (t_X12_in l _ hcl) (zsub_i zle_n zle_n zle_n) (zjok_i rfl rfl (zle_c rfl zle_n) rfl rfl (zle_c rfl (zle_c rfl (zle_c rfl zle_n))) rfl rfl zle_n) (Nat.le_of_ble_eq_true rfl) (Nat.le_of_ble_eq_true rfl) rfl rfl ?_
  refine zJ_if_ne (tgt := 16) dX12_keep_11 (by decide) rfl (fun hc => ?_) (fun hc => ?_)
  · replace h := it_f hc h
    refine zJ_aload_n dX12_keep_16 rfl rfl ?_
    refine zJ_getr (mi := mX12_keep) dX12_keep_17 F_X12_109 zW_54 rfl rfl ?_
    refine zJ_iload_n dX12_keep_20 rfl rfl ?_
    refine zJ_iconst dX12_keep_21 zc_1 rfl ?_
    obtain ⟨hg, h⟩ := gd_some h
    refine zK_zast (mi := mX12_keep) (f := m_isKept) (lb' := [(55, m_now), (85, m_kept), (86, (upd m_isKept p1.toNatClampNeg (vp_nar .boolean (1 : Int32))))]) dX12_keep_22 zW_86 (ix_in hg) rfl rfl rfl ?_
    refine zJ_aload_n dX12_keep_23 rfl rfl ?_
    refine zJ_getr (mi := mX12_keep) dX12_keep_24 F_X12_9 zW_54 rfl rfl ?_
    refine zJ_aload_n dX12_keep_27 rfl rfl ?_
    refine zJ_getr (mi := mX12_keep) dX12_keep_28 F_X12_106 zW_54 rfl rfl ?_
    refine zJ_bipush dX12_keep_31 zb_49 rfl ?_
    refine zJ_iload_n dX12_keep_33 rfl rfl ?_
    refine zJ_imul dX12_keep_34 rfl ?_
    obtain ⟨m_keptn2, hcl, h⟩ := bd1_some h
    refine zJ_callS2 (σ := σ) (L := ([(3473, (0 : Int32))], [(55, m_now), (85, m_kept), (86, (upd m_isKept p1.toNatClampNeg (vp_nar .boolean (1 : Int32))))], [])) (mi := mX12_keep) (yi := mX12_lay) (as := [.ref 55, .ref 85, .int ((49 : Int32) * p1)]) (st := []) (L2 := ([(3473, (0 : Int32))], [(55, m_now), (85, m_keptn2), (86, (upd m_isKept p1.toNatClampNeg (vp_nar .boolean (1 : Int32))))], [])) dX12_keep_35 ML_X12_305 Ys_X12_lay rfl (t_X12_lay_m_now_m_kept l _ hcl) (zsub_i zle_n (zle_c rfl (zle_c rfl zle_n)) zle_n) (zjok_i rfl rfl (zle_c rfl zle_n) rfl rfl (zle_c rfl (zle_c rfl (zle_c rfl zle_n))) rfl rfl zle_n) (Nat.le_of_ble_eq_true rfl) (Nat.le_of_ble_eq_true rfl) rfl rfl ?_
    refine zJ_iconst dX12_keep_38 zc_1 rfl ?_
    obtain ⟨rfl, rfl, rfl, rfl⟩ := so4 h
    exact zJ_iret dX12_keep_39 rfl (by decide)
  · replace h := it_t hc h
    refine zJ_iconst dX12_keep_14 zc_0 rfl ?_
    obtain ⟨rfl, rfl, rfl, rfl⟩ := so4 h
    exact zJ_iret dX12_keep_15 rfl (by decide)
set_option maxRecDepth 100000 in
set_option maxHeartbeats 4000000 in
theorem t_X12_kindOf (l : Launch) (σ : zS) {p0 : Int32} {r : Int32} (h : f_X12_kindOf p0 = some r) : zMt l zW 0 mX12_kindOf σ ([], [], []) [.int p0] (some (.int r)) ([], [], []) := by
  refine zMt_of (ls := [(0, .int p0)]) (by decide) rfl (fun _ => Nat.le_of_ble_eq_true rfl) rfl ?_
  unfold f_X12_kindOf at h
  refine zJ_iload_n dX12_kindOf_0 rfl rfl ?_
  refine zJ_bipush dX12_kindOf_1 zb_117 rfl ?_
  refine zJ_icmp_ne (tgt := 10) dX12_kindOf_3 (by decide) rfl (fun hc => ?_) (fun hc => ?_)
  · replace h := it_f hc h
    refine zJ_iload_n dX12_kindOf_10 rfl rfl ?_
    refine zJ_bipush dX12_kindOf_11 zb_119 rfl ?_
    refine zJ_icmp_ne (tgt := 20) dX12_kindOf_13 (by decide) rfl (fun hc => ?_) (fun hc => ?_)
    · replace h := it_f hc h
      refine zJ_iload_n dX12_kindOf_20 rfl rfl ?_
      refine zJ_bipush dX12_kindOf_21 zb_100 rfl ?_
      refine zJ_icmp_ne (tgt := 30) dX12_kindOf_23 (by decide) rfl (fun hc => ?_) (fun hc => ?_)
      · replace h := it_f hc h
        refine zJ_iload_n dX12_kindOf_30 rfl rfl ?_
        refine zJ_bipush dX12_kindOf_31 zb_108 rfl ?_
        refine zJ_icmp_ne (tgt := 40) dX12_kindOf_33 (by decide) rfl (fun hc => ?_) (fun hc => ?_)
        · replace h := it_f hc h
          refine zJ_iconst dX12_kindOf_40 zc_m1 rfl ?_
          obtain rfl := so1 h
          exact zJ_iret dX12_kindOf_41 rfl rfl
        · replace h := it_t hc h
          refine zJ_iconst dX12_kindOf_36 zc_3 rfl ?_
          refine zJ_goto (tgt := 41) dX12_kindOf_37 (by decide) ?_
          obtain rfl := so1 h
          exact zJ_iret dX12_kindOf_41 rfl rfl
      · replace h := it_t hc h
        refine zJ_iconst dX12_kindOf_26 zc_2 rfl ?_
        refine zJ_goto (tgt := 41) dX12_kindOf_27 (by decide) ?_
        obtain rfl := so1 h
        exact zJ_iret dX12_kindOf_41 rfl rfl
    · replace h := it_t hc h
      refine zJ_iconst dX12_kindOf_16 zc_1 rfl ?_
      refine zJ_goto (tgt := 41) dX12_kindOf_17 (by decide) ?_
      obtain rfl := so1 h
      exact zJ_iret dX12_kindOf_41 rfl rfl
  · replace h := it_t hc h
    refine zJ_iconst dX12_kindOf_6 zc_0 rfl ?_
    refine zJ_goto (tgt := 41) dX12_kindOf_7 (by decide) ?_
    obtain rfl := so1 h
    exact zJ_iret dX12_kindOf_41 rfl rfl
set_option maxRecDepth 100000 in
set_option maxHeartbeats 4000000 in
theorem t_X12_last (l : Launch) (σ : zS) {p1 : Int32} {m_fences : Int32} {m_allowed : Int32} {m_horses : Int32} {m_plans : Int32} {m_rowMany : Int32} {m_thrown : Int32} {m_read : Int32} {m_length : Int32} {m_top : Int32} {m_at : Int32} {m_wrong : Int32} {m_ruleSize : Int32} {m_isAsked : Int32} {m_askedHorse : Int32} {m_askedFence : Int32} {m_askedLetter : Int32} {m_askedHeight : Int32} {m_now : (Nat → Int32)} {m_kind : (Nat → Int32)} {m_height : (Nat → Int32)} {m_feet : (Nat → Int32)} {m_stride : (Nat → Int32)} {m_scope : (Nat → Int32)} {m_care : (Nat → Int32)} {m_plan : (Nat → Int32)} {m_money : (Nat → Int32)} {m_rule : (Nat → Int32)} {m_row : (Nat → Int64)} {r : Int32} {w_m_rowMany : Int32} {w_m_thrown : Int32} {w_m_read : Int32} {w_m_length : Int32} {w_m_top : Int32} {w_m_at : Int32} {w_m_wrong : Int32} {w_m_isAsked : Int32} {w_m_askedHorse : Int32} {w_m_askedFence : Int32} {w_m_askedLetter : Int32} {w_m_askedHeight : Int32} {w_m_row : (Nat → Int64)} (h : f_X12_last p1 m_fences m_allowed m_horses m_plans m_rowMany m_thrown m_read m_length m_top m_at m_wrong m_ruleSize m_isAsked m_askedHorse m_askedFence m_askedLetter m_askedHeight m_now m_kind m_height m_feet m_stride m_scope m_care m_plan m_money m_rule m_row = some (r, w_m_rowMany, w_m_thrown, w_m_read, w_m_length, w_m_top, w_m_at, w_m_wrong, w_m_isAsked, w_m_askedHorse, w_m_askedFence, w_m_askedLetter, w_m_askedHeight, w_m_row)) : zMt l zW 210 mX12_last σ ([(3457, m_fences), (3461, m_allowed), (3462, m_horses), (3466, m_plans), (3472, m_rowMany), (3473, m_thrown), (3474, m_read), (3475, m_length), (3476, m_top), (3477, m_at), (3478, m_wrong), (3483, m_ruleSize), (3484, m_isAsked), (3485, m_askedHorse), (3486, m_askedFence), (3487, m_askedLetter), (3488, m_askedHeight)], [(55, m_now), (56, m_kind), (57, m_height), (58, m_feet), (59, m_stride), (60, m_scope), (61, m_care), (62, m_plan), (63, m_money), (69, m_rule)], [(65, m_row)]) [.ref 54, .int p1] (some (.int r)) ([(3457, m_fences), (3461, m_allowed), (3462, m_horses), (3466, m_plans), (3472, w_m_rowMany), (3473, w_m_thrown), (3474, w_m_read), (3475, w_m_length), (3476, w_m_top), (3477, w_m_at), (3478, w_m_wrong), (3483, m_ruleSize), (3484, w_m_isAsked), (3485, w_m_askedHorse), (3486, w_m_askedFence), (3487, w_m_askedLetter), (3488, w_m_askedHeight)], [(55, m_now), (56, m_kind), (57, m_height), (58, m_feet), (59, m_stride), (60, m_scope), (61, m_care), (62, m_plan), (63, m_money), (69, m_rule)], [(65, w_m_row)]) := by
  refine zMt_of (ls := [(0, .ref 54), (1, .int p1)]) (by decide) rfl (fun _ => Nat.le_of_ble_eq_true rfl) rfl ?_
  unfold f_X12_last at h
  refine zJ_aload_n dX12_last_0 rfl rfl ?_
  refine zJ_iconst dX12_last_1 zc_0 rfl ?_
  refine zK_puti (mi := mX12_last) (la' := [(3457, m_fences), (3461, m_allowed), (3462, m_horses), (3466, m_plans), (3472, m_rowMany), (3473, (0 : Int32)), (3474, m_read), (3475, m_length), (3476, m_top), (3477, m_at), (3478, m_wrong), (3483, m_ruleSize), (3484, m_isAsked), (3485, m_askedHorse), (3486, m_askedFence), (3487, m_askedLetter), (3488, m_askedHeight)]) zW_ok dX12_last_2 F_X12_113 P_12_17 zW_54 rfl rfl rfl ?_
  refine zJ_aload_n dX12_last_5 rfl rfl ?_
  refine zJ_iload_n dX12_last_6 rfl rfl ?_
  obtain ⟨rn1, hcl, h⟩ := bd1_some h
  refine zJ_callV2 (σ := σ) (L := ([(3457, m_fences), (3461, m_allowed), (3462, m_horses), (3466, m_plans), (3472, m_rowMany), (3473, (0 : Int32)), (3474, m_read), (3475, m_length), (3476, m_top), (3477, m_at), (3478, m_wrong), (3483, m_ruleSize), (3484, m_isAsked), (3485, m_askedHorse), (3486, m_askedFence), (3487, m_askedLetter), (3488, m_askedHeight)], [(55, m_now), (56, m_kind), (57, m_height), (58, m_feet), (59, m_stride), (60, m_scope), (61, m_care), (62, m_plan), (63, m_money), (69, m_rule)], [(65, m_row)])) (mi := mX12_last) (yi := mX12_isHorse) (as := [.int p1]) (st := []) (L2 := ([(3457, m_fences), (3461, m_allowed), (3462, m_horses), (3466, m_plans), (3472, m_rowMany), (3473, (0 : Int32)), (3474, m_read), (3475, m_length), (3476, m_top), (3477, m_at), (3478, m_wrong), (3483, m_ruleSize), (3484, m_isAsked), (3485, m_askedHorse), (3486, m_askedFence), (3487, m_askedLetter), (3488, m_askedHeight)], [(55, m_now), (56, m_kind), (57, m_height), (58, m_feet), (59, m_stride), (60, m_scope), (61, m_care), (62, m_plan), (63, m_money), (69, m_rule)], [(65, m_row)])) dX12_last_7 ML_X12_132 Yv_X12_isHorse rfl zW_54 rfl rfl (t_X12_isHorse l _ hcl) (zsub_i (zle_c rfl zle_n) zle_n zle_n) (zjok_i rfl rfl (zle_c rfl (zle_c rfl (zle_c rfl (zle_c rfl (zle_c rfl (zle_c rfl (zle_c rfl (zle_c rfl (zle_c rfl (zle_c rfl (zle_c rfl (zle_c rfl (zle_c rfl (zle_c rfl (zle_c rfl (zle_c rfl (zle_c rfl zle_n))))))))))))))))) rfl rfl (zle_c rfl (zle_c rfl (zle_c rfl (zle_c rfl (zle_c rfl (zle_c rfl (zle_c rfl (zle_c rfl (zle_c rfl (zle_c rfl zle_n)))))))))) rfl rfl (zle_c rfl zle_n)) (Nat.le_of_ble_eq_true rfl) (Nat.le_of_ble_eq_true rfl) rfl rfl ?_
  refine zJ_if_ne (tgt := 15) dX12_last_10 (by decide) rfl (fun hc => ?_) (fun hc => ?_)
  · replace h := it_f hc h
    refine zJ_aload_n dX12_last_15 rfl rfl ?_
    refine zJ_geti (mi := mX12_last) (x := m_plans) dX12_last_16 F_X12_129 zW_54 rfl rfl rfl ?_
    refine zJ_if_ne (tgt := 25) dX12_last_19 (by decide) rfl (fun hc => ?_) (fun hc => ?_)
    · replace h := it_f hc h
      refine zJ_aload_n dX12_last_25 rfl rfl ?_
      refine zJ_iload_n dX12_last_26 rfl rfl ?_
      obtain ⟨rn2, m_readn3, m_lengthn4, m_topn5, m_atn6, m_wrongn7, m_isAskedn8, m_askedHorsen9, m_askedFencen10, m_askedLettern11, m_askedHeightn12, hcl, h⟩ := bd11_some h
      refine zJ_callV2 (σ := σ) (L := ([(3457, m_fences), (3461, m_allowed), (3462, m_horses), (3466, m_plans), (3472, m_rowMany), (3473, (0 : Int32)), (3474, m_read), (3475, m_length), (3476, m_top), (3477, m_at), (3478, m_wrong), (3483, m_ruleSize), (3484, m_isAsked), (3485, m_askedHorse), (3486, m_askedFence), (3487, m_askedLetter), (3488, m_askedHeight)], [(55, m_now), (56, m_kind), (57, m_height), (58, m_feet), (59, m_stride), (60, m_scope), (61, m_care), (62, m_plan), (63, m_money), (69, m_rule)], [(65, m_row)])) (mi := mX12_last) (yi := mX12_bestPlan) (as := [.int p1]) (st := []) (L2 := ([(3457, m_fences), (3461, m_allowed), (3462, m_horses), (3466, m_plans), (3472, m_rowMany), (3473, (0 : Int32)), (3474, m_readn3), (3475, m_lengthn4), (3476, m_topn5), (3477, m_atn6), (3478, m_wrongn7), (3483, m_ruleSize), (3484, m_isAskedn8), (3485, m_askedHorsen9), (3486, m_askedFencen10), (3487, m_askedLettern11), (3488, m_askedHeightn12)], [(55, m_now), (56, m_kind), (57, m_height), (58, m_feet), (59, m_stride), (60, m_scope), (61, m_care), (62, m_plan), (63, m_money), (69, m_rule)], [(65, m_row)])) dX12_last_27 ML_X12_379 Yv_X12_bestPlan rfl zW_54 rfl rfl (t_X12_bestPlan l _ hcl) (zsub_i (zle_c rfl (zle_c rfl (zle_c rfl (zle_c rfl (zle_c rfl (zle_c rfl (zle_c rfl (zle_c rfl (zle_c rfl (zle_c rfl (zle_c rfl (zle_c rfl (zle_c rfl (zle_c rfl zle_n)))))))))))))) (zle_c rfl (zle_c rfl (zle_c rfl (zle_c rfl (zle_c rfl (zle_c rfl (zle_c rfl (zle_c rfl (zle_c rfl (zle_c rfl zle_n)))))))))) zle_n) (zjok_i rfl rfl (zle_c rfl (zle_c rfl (zle_c rfl (zle_c rfl (zle_c rfl (zle_c rfl (zle_c rfl (zle_c rfl (zle_c rfl (zle_c rfl (zle_c rfl (zle_c rfl (zle_c rfl (zle_c rfl (zle_c rfl (zle_c rfl (zle_c rfl zle_n))))))))))))))))) rfl rfl (zle_c rfl (zle_c rfl (zle_c rfl (zle_c rfl (zle_c rfl (zle_c rfl (zle_c rfl (zle_c rfl (zle_c rfl (zle_c rfl zle_n)))))))))) rfl rfl (zle_c rfl zle_n)) (Nat.le_of_ble_eq_true rfl) (Nat.le_of_ble_eq_true rfl) rfl rfl ?_
      refine zJ_istore_n (ls' := [(2, .int rn2), (0, .ref 54), (1, .int p1)]) dX12_last_30 rfl rfl rfl ?_
      refine zJ_aload_n dX12_last_31 rfl rfl ?_
      refine zJ_iconst dX12_last_32 zc_0 rfl ?_
      refine zK_puti (mi := mX12_last) (la' := [(3457, m_fences), (3461, m_allowed), (3462, m_horses), (3466, m_plans), (3472, (0 : Int32)), (3473, (0 : Int32)), (3474, m_readn3), (3475, m_lengthn4), (3476, m_topn5), (3477, m_atn6), (3478, m_wrongn7), (3483, m_ruleSize), (3484, m_isAskedn8), (3485, m_askedHorsen9), (3486, m_askedFencen10), (3487, m_askedLettern11), (3488, m_askedHeightn12)]) zW_ok dX12_last_33 F_X12_116 P_12_16 zW_54 rfl rfl rfl ?_
      refine zJ_aload_n dX12_last_36 rfl rfl ?_
      refine zJ_aload_n dX12_last_37 rfl rfl ?_
      refine zJ_iload_n dX12_last_38 rfl rfl ?_
      refine zJ_iload_n dX12_last_39 rfl rfl ?_
      obtain ⟨rn13, m_readn14, m_lengthn15, m_topn16, m_atn17, m_wrongn18, m_isAskedn19, m_askedHorsen20, m_askedFencen21, m_askedLettern22, m_askedHeightn23, hcl, h⟩ := bd11_some h
      refine zJ_callV2 (σ := σ) (L := ([(3457, m_fences), (3461, m_allowed), (3462, m_horses), (3466, m_plans), (3472, (0 : Int32)), (3473, (0 : Int32)), (3474, m_readn3), (3475, m_lengthn4), (3476, m_topn5), (3477, m_atn6), (3478, m_wrongn7), (3483, m_ruleSize), (3484, m_isAskedn8), (3485, m_askedHorsen9), (3486, m_askedFencen10), (3487, m_askedLettern11), (3488, m_askedHeightn12)], [(55, m_now), (56, m_kind), (57, m_height), (58, m_feet), (59, m_stride), (60, m_scope), (61, m_care), (62, m_plan), (63, m_money), (69, m_rule)], [(65, m_row)])) (mi := mX12_last) (yi := mX12_meanOf) (as := [.int p1, .int rn2]) (st := [.ref 54]) (L2 := ([(3457, m_fences), (3461, m_allowed), (3462, m_horses), (3466, m_plans), (3472, (0 : Int32)), (3473, (0 : Int32)), (3474, m_readn14), (3475, m_lengthn15), (3476, m_topn16), (3477, m_atn17), (3478, m_wrongn18), (3483, m_ruleSize), (3484, m_isAskedn19), (3485, m_askedHorsen20), (3486, m_askedFencen21), (3487, m_askedLettern22), (3488, m_askedHeightn23)], [(55, m_now), (56, m_kind), (57, m_height), (58, m_feet), (59, m_stride), (60, m_scope), (61, m_care), (62, m_plan), (63, m_money), (69, m_rule)], [(65, m_row)])) dX12_last_40 ML_X12_376 Yv_X12_meanOf rfl zW_54 rfl rfl (t_X12_meanOf l _ hcl) (zsub_i (zle_c rfl (zle_c rfl (zle_c rfl (zle_c rfl (zle_c rfl (zle_c rfl (zle_c rfl (zle_c rfl (zle_c rfl (zle_c rfl (zle_c rfl (zle_c rfl (zle_c rfl zle_n))))))))))))) (zle_c rfl (zle_c rfl (zle_c rfl (zle_c rfl (zle_c rfl (zle_c rfl (zle_c rfl (zle_c rfl (zle_c rfl (zle_c rfl zle_n)))))))))) zle_n) (zjok_i rfl rfl (zle_c rfl (zle_c rfl (zle_c rfl (zle_c rfl (zle_c rfl (zle_c rfl (zle_c rfl (zle_c rfl (zle_c rfl (zle_c rfl (zle_c rfl (zle_c rfl (zle_c rfl (zle_c rfl (zle_c rfl (zle_c rfl (zle_c rfl zle_n))))))))))))))))) rfl rfl (zle_c rfl (zle_c rfl (zle_c rfl (zle_c rfl (zle_c rfl (zle_c rfl (zle_c rfl (zle_c rfl (zle_c rfl (zle_c rfl zle_n)))))))))) rfl rfl (zle_c rfl zle_n)) (Nat.le_of_ble_eq_true rfl) (Nat.le_of_ble_eq_true rfl) rfl rfl ?_
      refine zJ_i2l dX12_last_43 rfl ?_
      obtain ⟨m_rowManyn24, m_rown25, hcl, h⟩ := bd2_some h
      refine zJ_callV2 (σ := σ) (L := ([(3457, m_fences), (3461, m_allowed), (3462, m_horses), (3466, m_plans), (3472, (0 : Int32)), (3473, (0 : Int32)), (3474, m_readn14), (3475, m_lengthn15), (3476, m_topn16), (3477, m_atn17), (3478, m_wrongn18), (3483, m_ruleSize), (3484, m_isAskedn19), (3485, m_askedHorsen20), (3486, m_askedFencen21), (3487, m_askedLettern22), (3488, m_askedHeightn23)], [(55, m_now), (56, m_kind), (57, m_height), (58, m_feet), (59, m_stride), (60, m_scope), (61, m_care), (62, m_plan), (63, m_money), (69, m_rule)], [(65, m_row)])) (mi := mX12_last) (yi := mX12_tell) (as := [.long rn13.toInt64]) (st := []) (L2 := ([(3457, m_fences), (3461, m_allowed), (3462, m_horses), (3466, m_plans), (3472, m_rowManyn24), (3473, (0 : Int32)), (3474, m_readn14), (3475, m_lengthn15), (3476, m_topn16), (3477, m_atn17), (3478, m_wrongn18), (3483, m_ruleSize), (3484, m_isAskedn19), (3485, m_askedHorsen20), (3486, m_askedFencen21), (3487, m_askedLettern22), (3488, m_askedHeightn23)], [(55, m_now), (56, m_kind), (57, m_height), (58, m_feet), (59, m_stride), (60, m_scope), (61, m_care), (62, m_plan), (63, m_money), (69, m_rule)], [(65, m_rown25)])) dX12_last_44 ML_X12_265 Yv_X12_tell rfl zW_54 rfl rfl (t_X12_tell l _ hcl) (zsub_i (zle_c rfl zle_n) zle_n (zle_c rfl zle_n)) (zjok_i rfl rfl (zle_c rfl (zle_c rfl (zle_c rfl (zle_c rfl (zle_c rfl (zle_c rfl (zle_c rfl (zle_c rfl (zle_c rfl (zle_c rfl (zle_c rfl (zle_c rfl (zle_c rfl (zle_c rfl (zle_c rfl (zle_c rfl (zle_c rfl zle_n))))))))))))))))) rfl rfl (zle_c rfl (zle_c rfl (zle_c rfl (zle_c rfl (zle_c rfl (zle_c rfl (zle_c rfl (zle_c rfl (zle_c rfl (zle_c rfl zle_n)))))))))) rfl rfl (zle_c rfl zle_n)) (Nat.le_of_ble_eq_true rfl) (Nat.le_of_ble_eq_true rfl) rfl rfl ?_
      refine zJ_iload_n dX12_last_47 rfl rfl ?_
      obtain ⟨rfl, rfl, rfl, rfl, rfl, rfl, rfl, rfl, rfl, rfl, rfl, rfl, rfl, rfl⟩ := so14 h
      exact zJ_iret dX12_last_48 rfl rfl
    · replace h := it_t hc h
      refine zJ_bipush dX12_last_22 zb_m2 rfl ?_
      obtain ⟨rfl, rfl, rfl, rfl, rfl, rfl, rfl, rfl, rfl, rfl, rfl, rfl, rfl, rfl⟩ := so14 h
      exact zJ_iret dX12_last_24 rfl rfl
  · replace h := it_t hc h
    refine zJ_iconst dX12_last_13 zc_m1 rfl ?_
    obtain ⟨rfl, rfl, rfl, rfl, rfl, rfl, rfl, rfl, rfl, rfl, rfl, rfl, rfl, rfl⟩ := so14 h
    exact zJ_iret dX12_last_14 rfl rfl
