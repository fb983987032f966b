set_option maxRecDepth 100000 in
set_option maxHeartbeats 4000000 in
theorem t_X12_riders (l : Launch) (σ : zS) {p1 : Int32} {p2 : Int32} {m_horses : Int32} {m_rowMany : Int32} {m_thrown : Int32} {m_riddenMany : Int32} {m_riddenFaults : Int32} {m_now : (Nat → Int32)} {m_row : (Nat → Int64)} {r : Int32} {w_m_rowMany : Int32} {w_m_thrown : Int32} {w_m_riddenMany : Int32} {w_m_riddenFaults : Int32} {w_m_row : (Nat → Int64)} (h : f_X12_riders p1 p2 m_horses m_rowMany m_thrown m_riddenMany m_riddenFaults m_now m_row = some (r, w_m_rowMany, w_m_thrown, w_m_riddenMany, w_m_riddenFaults, w_m_row)) : zMt l zW 202 mX12_riders σ ([(3462, m_horses), (3472, m_rowMany), (3473, m_thrown), (3509, m_riddenMany), (3510, m_riddenFaults)], [(55, m_now)], [(65, m_row)]) [.ref 54, .int p1, .int p2] (some (.int r)) ([(3462, m_horses), (3472, w_m_rowMany), (3473, w_m_thrown), (3509, w_m_riddenMany), (3510, w_m_riddenFaults)], [(55, m_now)], [(65, w_m_row)]) := by
  refine zMt_of (ls := [(0, .ref 54), (1, .int p1), (2, .int p2)]) (by decide) rfl (fun _ => Nat.le_of_ble_eq_true rfl) rfl ?_
  unfold f_X12_riders at h
  refine zJ_aload_n dX12_riders_0 rfl rfl ?_
  refine zJ_iconst dX12_riders_1 zc_0 rfl ?_
  refine zK_puti (mi := mX12_riders) (la' := [(3462, m_horses), (3472, m_rowMany), (3473, (0 : Int32)), (3509, m_riddenMany), (3510, m_riddenFaults)]) zW_ok dX12_riders_2 F_X12_113 P_12_17 zW_54 rfl rfl rfl ?_
  refine zJ_iload_n dX12_riders_5 rfl rfl ?_
  refine zJ_iconst dX12_riders_6 zc_0 rfl ?_
  refine zJ_iconst dX12_riders_7 zc_5 rfl ?_
  obtain ⟨rn1, hcl, h⟩ := bd1_some h
  refine zJ_callS2 (σ := σ) (L := ([(3462, m_horses), (3472, m_rowMany), (3473, (0 : Int32)), (3509, m_riddenMany), (3510, m_riddenFaults)], [(55, m_now)], [(65, m_row)])) (mi := mX12_riders) (yi := mX12_in) (as := [.int p1, .int (0 : Int32), .int (5 : Int32)]) (st := []) (L2 := ([(3462, m_horses), (3472, m_rowMany), (3473, (0 : Int32)), (3509, m_riddenMany), (3510, m_riddenFaults)], [(55, m_now)], [(65, m_row)])) dX12_riders_8 ML_X12_122 Ys_X12_in rfl (t_X12_in l _ hcl) (zsub_i zle_n zle_n zle_n) (zjok_i rfl rfl (zle_c rfl (zle_c rfl (zle_c rfl (zle_c rfl (zle_c rfl zle_n))))) rfl rfl (zle_c rfl zle_n) rfl rfl (zle_c rfl zle_n)) (Nat.le_of_ble_eq_true rfl) (Nat.le_of_ble_eq_true rfl) rfl rfl ?_
  refine zJ_if_eq (tgt := 28) dX12_riders_11 (by decide) rfl (fun hc => ?_) (fun hc => ?_)
  · replace h := it_t hc h
    refine zJ_iconst dX12_riders_28 zc_m1 rfl ?_
    obtain ⟨rfl, rfl, rfl, rfl, rfl, rfl⟩ := so6 h
    exact zJ_iret dX12_riders_29 rfl rfl
  · replace h := it_f hc h
    refine zJ_iload_n dX12_riders_14 rfl rfl ?_
    refine zJ_iconst dX12_riders_15 zc_0 rfl ?_
    refine zJ_iconst dX12_riders_16 zc_5 rfl ?_
    obtain ⟨rn2, hcl, h⟩ := bd1_some h
    refine zJ_callS2 (σ := σ) (L := ([(3462, m_horses), (3472, m_rowMany), (3473, (0 : Int32)), (3509, m_riddenMany), (3510, m_riddenFaults)], [(55, m_now)], [(65, m_row)])) (mi := mX12_riders) (yi := mX12_in) (as := [.int p2, .int (0 : Int32), .int (5 : Int32)]) (st := []) (L2 := ([(3462, m_horses), (3472, m_rowMany), (3473, (0 : Int32)), (3509, m_riddenMany), (3510, m_riddenFaults)], [(55, m_now)], [(65, m_row)])) dX12_riders_17 ML_X12_122 Ys_X12_in rfl (t_X12_in l _ hcl) (zsub_i zle_n zle_n zle_n) (zjok_i rfl rfl (zle_c rfl (zle_c rfl (zle_c rfl (zle_c rfl (zle_c rfl zle_n))))) rfl rfl (zle_c rfl zle_n) rfl rfl (zle_c rfl zle_n)) (Nat.le_of_ble_eq_true rfl) (Nat.le_of_ble_eq_true rfl) rfl rfl ?_
    refine zJ_if_eq (tgt := 28) dX12_riders_20 (by decide) rfl (fun hc => ?_) (fun hc => ?_)
    · replace h := it_t hc h
      refine zJ_iconst dX12_riders_28 zc_m1 rfl ?_
      obtain ⟨rfl, rfl, rfl, rfl, rfl, rfl⟩ := so6 h
      exact zJ_iret dX12_riders_29 rfl rfl
    · replace h := it_f hc h
      refine zJ_iload_n dX12_riders_23 rfl rfl ?_
      refine zJ_iload_n dX12_riders_24 rfl rfl ?_
      refine zJ_icmp_ne (tgt := 30) dX12_riders_25 (by decide) rfl (fun hc => ?_) (fun hc => ?_)
      · replace h := it_f hc h
        refine zJ_iconst dX12_riders_30 zc_0 rfl ?_
        refine zJ_istore_n (ls' := [(3, .int (0 : Int32)), (0, .ref 54), (1, .int p1), (2, .int p2)]) dX12_riders_31 rfl rfl rfl ?_
        refine zJ_lconst dX12_riders_32 zl_0 rfl ?_
        refine zJ_lstore (ls' := [(4, .long (0 : Int64)), (3, .int (0 : Int32)), (0, .ref 54), (1, .int p1), (2, .int p2)]) dX12_riders_33 rfl rfl rfl ?_
        refine zJ_lconst dX12_riders_35 zl_1 rfl ?_
        refine zJ_lstore (ls' := [(6, .long (1 : Int64)), (4, .long (0 : Int64)), (3, .int (0 : Int32)), (0, .ref 54), (1, .int p1), (2, .int p2)]) dX12_riders_36 rfl rfl rfl ?_
        refine zJ_iconst dX12_riders_38 zc_0 rfl ?_
        refine zJ_istore (ls' := [(8, .int (0 : Int32)), (6, .long (1 : Int64)), (4, .long (0 : Int64)), (3, .int (0 : Int32)), (0, .ref 54), (1, .int p1), (2, .int p2)]) dX12_riders_39 rfl rfl rfl ?_
        have hk41 : ∀ (v3_41x : Int32) (v4_41x : Int64) (v6_41x : Int64) (m_riddenMany_41x : Int32) (m_riddenFaults_41x : Int32), k_X12_riders_41 m_rowMany m_row v3_41x v4_41x v6_41x m_riddenMany_41x m_riddenFaults_41x = some (r, w_m_rowMany, w_m_thrown, w_m_riddenMany, w_m_riddenFaults, w_m_row) → zJ l zW 202 mX12_riders σ ([(3462, m_horses), (3472, m_rowMany), (3473, (0 : Int32)), (3509, m_riddenMany_41x), (3510, m_riddenFaults_41x)], [(55, m_now)], [(65, m_row)]) 174 [(0, .ref 54), (3, .int v3_41x), (4, .long v4_41x), (6, .long v6_41x)] [] (some (.int r)) ([(3462, m_horses), (3472, w_m_rowMany), (3473, w_m_thrown), (3509, w_m_riddenMany), (3510, w_m_riddenFaults)], [(55, m_now)], [(65, w_m_row)]) := by
          intro v3_41x v4_41x v6_41x m_riddenMany_41x m_riddenFaults_41x h
          unfold k_X12_riders_41 at h
          refine zJ_iload_n dX12_riders_174 rfl rfl ?_
          refine zJ_if_ne (tgt := 181) dX12_riders_175 (by decide) rfl (fun hc => ?_) (fun hc => ?_)
          · replace h := it_f hc h
            refine zJ_aload_n dX12_riders_181 rfl rfl ?_
            refine zJ_iconst dX12_riders_182 zc_0 rfl ?_
            refine zK_puti (mi := mX12_riders) (la' := [(3462, m_horses), (3472, (0 : Int32)), (3473, (0 : Int32)), (3509, m_riddenMany_41x), (3510, m_riddenFaults_41x)]) zW_ok dX12_riders_183 F_X12_116 P_12_16 zW_54 rfl rfl rfl ?_
            refine zJ_aload_n dX12_riders_186 rfl rfl ?_
            refine zJ_lload dX12_riders_187 rfl rfl ?_
            refine zJ_lload dX12_riders_189 rfl rfl ?_
            refine zJ_iload_n dX12_riders_191 rfl rfl ?_
            refine zJ_i2l dX12_riders_192 rfl ?_
            refine zJ_lmul dX12_riders_193 rfl ?_
            obtain ⟨m_rowManyn3, m_rown4, hcl, h⟩ := bd2_some h
            refine zJ_callV2 (σ := σ) (L := ([(3462, m_horses), (3472, (0 : Int32)), (3473, (0 : Int32)), (3509, m_riddenMany_41x), (3510, m_riddenFaults_41x)], [(55, m_now)], [(65, m_row)])) (mi := mX12_riders) (yi := mX12_tellPart) (as := [.long v4_41x, .long (v6_41x * v3_41x.toInt64)]) (st := []) (L2 := ([(3462, m_horses), (3472, m_rowManyn3), (3473, (0 : Int32)), (3509, m_riddenMany_41x), (3510, m_riddenFaults_41x)], [(55, m_now)], [(65, m_rown4)])) dX12_riders_194 ML_X12_414 Yv_X12_tellPart rfl zW_54 rfl rfl (t_X12_tellPart l _ hcl) (zsub_i (zle_c rfl zle_n) zle_n (zle_c rfl zle_n)) (zjok_i rfl rfl (zle_c rfl (zle_c rfl (zle_c rfl (zle_c rfl (zle_c rfl zle_n))))) rfl rfl (zle_c rfl zle_n) rfl rfl (zle_c rfl zle_n)) (Nat.le_of_ble_eq_true rfl) (Nat.le_of_ble_eq_true rfl) rfl rfl ?_
            refine zJ_iload_n dX12_riders_197 rfl rfl ?_
            obtain ⟨rfl, rfl, rfl, rfl, rfl, rfl⟩ := so6 h
            exact zJ_iret dX12_riders_198 rfl rfl
          · replace h := it_t hc h
            refine zJ_bipush dX12_riders_178 zb_m2 rfl ?_
            obtain ⟨rfl, rfl, rfl, rfl, rfl, rfl⟩ := so6 h
            exact zJ_iret dX12_riders_180 rfl rfl
        refine zJ_loc (ls' := [(0, .ref 54), (1, .int p1), (2, .int p2), (3, .int (0 : Int32)), (4, .long (0 : Int64)), (6, .long (1 : Int64)), (8, .int (0 : Int32))]) (zll_c rfl (zll_c rfl (zll_c rfl (zll_c rfl (zll_c rfl (zll_c rfl (zll_c rfl zll_n))))))) ?_
        refine ml6_J (fun (v3_41 : Int32) (v4_41 : Int64) (v6_41 : Int64) (v8_41 : Int32) (m_riddenMany_41 : Int32) (m_riddenFaults_41 : Int32) => zJ l zW 202 mX12_riders σ ([(3462, m_horses), (3472, m_rowMany), (3473, (0 : Int32)), (3509, m_riddenMany_41), (3510, m_riddenFaults_41)], [(55, m_now)], [(65, m_row)]) 41 [(0, .ref 54), (1, .int p1), (2, .int p2), (3, .int v3_41), (4, .long v4_41), (6, .long v6_41), (8, .int v8_41)] [] (some (.int r)) ([(3462, m_horses), (3472, w_m_rowMany), (3473, w_m_thrown), (3509, w_m_riddenMany), (3510, w_m_riddenFaults)], [(55, m_now)], [(65, w_m_row)])) (fun rc41 hrc41 v3_41 v4_41 v6_41 v8_41 m_riddenMany_41 m_riddenFaults_41 h => ?_) zN _ _ _ _ _ _ h
        unfold s_X12_riders_41 at h
        refine zJ_iload dX12_riders_41 rfl rfl ?_
        refine zJ_aload_n dX12_riders_43 rfl rfl ?_
        refine zJ_geti (mi := mX12_riders) (x := m_horses) dX12_riders_44 F_X12_126 zW_54 rfl rfl rfl ?_
        refine zJ_icmp_ge (tgt := 174) dX12_riders_47 (by decide) rfl (fun hc => ?_) (fun hc => ?_)
        · replace h := it_t hc h
          refine zJ_loc (ls' := [(0, .ref 54), (3, .int v3_41), (4, .long v4_41), (6, .long v6_41)]) (zll_c rfl (zll_c rfl (zll_c rfl (zll_c rfl zll_n)))) ?_
          exact hk41 _ _ _ _ _ h
        · replace h := it_f hc h
          refine zJ_aload_n dX12_riders_50 rfl rfl ?_
          refine zJ_iload_n dX12_riders_51 rfl rfl ?_
          refine zJ_iload dX12_riders_52 rfl rfl ?_
          obtain ⟨m_riddenManyn5, m_riddenFaultsn6, hcl, h⟩ := bd2_some h
          refine zJ_callV2 (σ := σ) (L := ([(3462, m_horses), (3472, m_rowMany), (3473, (0 : Int32)), (3509, m_riddenMany_41), (3510, m_riddenFaults_41)], [(55, m_now)], [(65, m_row)])) (mi := mX12_riders) (yi := mX12_ridden) (as := [.int p1, .int v8_41]) (st := []) (L2 := ([(3462, m_horses), (3472, m_rowMany), (3473, (0 : Int32)), (3509, m_riddenManyn5), (3510, m_riddenFaultsn6)], [(55, m_now)], [(65, m_row)])) dX12_riders_54 ML_X12_441 Yv_X12_ridden rfl zW_54 rfl rfl (t_X12_ridden l _ hcl) (zsub_i (zle_c rfl (zle_c rfl zle_n)) (zle_c rfl zle_n) zle_n) (zjok_i rfl rfl (zle_c rfl (zle_c rfl (zle_c rfl (zle_c rfl (zle_c rfl zle_n))))) rfl rfl (zle_c rfl zle_n) rfl rfl (zle_c rfl zle_n)) (Nat.le_of_ble_eq_true rfl) (Nat.le_of_ble_eq_true rfl) rfl rfl ?_
          refine zJ_aload_n dX12_riders_57 rfl rfl ?_
          refine zJ_geti (mi := mX12_riders) (x := m_riddenManyn5) dX12_riders_58 F_X12_435 zW_54 rfl rfl rfl ?_
          refine zJ_istore (ls' := [(9, .int m_riddenManyn5), (0, .ref 54), (1, .int p1), (2, .int p2), (3, .int v3_41), (4, .long v4_41), (6, .long v6_41), (8, .int v8_41)]) dX12_riders_61 rfl rfl rfl ?_
          refine zJ_aload_n dX12_riders_63 rfl rfl ?_
          refine zJ_geti (mi := mX12_riders) (x := m_riddenFaultsn6) dX12_riders_64 F_X12_438 zW_54 rfl rfl rfl ?_
          refine zJ_istore (ls' := [(10, .int m_riddenFaultsn6), (9, .int m_riddenManyn5), (0, .ref 54), (1, .int p1), (2, .int p2), (3, .int v3_41), (4, .long v4_41), (6, .long v6_41), (8, .int v8_41)]) dX12_riders_67 rfl rfl rfl ?_
          refine zJ_aload_n dX12_riders_69 rfl rfl ?_
          refine zJ_iload_n dX12_riders_70 rfl rfl ?_
          refine zJ_iload dX12_riders_71 rfl rfl ?_
          obtain ⟨m_riddenManyn7, m_riddenFaultsn8, hcl, h⟩ := bd2_some h
          refine zJ_callV2 (σ := σ) (L := ([(3462, m_horses), (3472, m_rowMany), (3473, (0 : Int32)), (3509, m_riddenManyn5), (3510, m_riddenFaultsn6)], [(55, m_now)], [(65, m_row)])) (mi := mX12_riders) (yi := mX12_ridden) (as := [.int p2, .int v8_41]) (st := []) (L2 := ([(3462, m_horses), (3472, m_rowMany), (3473, (0 : Int32)), (3509, m_riddenManyn7), (3510, m_riddenFaultsn8)], [(55, m_now)], [(65, m_row)])) dX12_riders_73 ML_X12_441 Yv_X12_ridden rfl zW_54 rfl rfl (t_X12_ridden l _ hcl) (zsub_i (zle_c rfl (zle_c rfl zle_n)) (zle_c rfl zle_n) zle_n) (zjok_i rfl rfl (zle_c rfl (zle_c rfl (zle_c rfl (zle_c rfl (zle_c rfl zle_n))))) rfl rfl (zle_c rfl zle_n) rfl rfl (zle_c rfl zle_n)) (Nat.le_of_ble_eq_true rfl) (Nat.le_of_ble_eq_true rfl) rfl rfl ?_
          refine zJ_iload dX12_riders_76 rfl rfl ?_
          refine zJ_if_eq (tgt := 168) dX12_riders_78 (by decide) rfl (fun hc => ?_) (fun hc => ?_)
          · replace h := it_t hc h
            obtain ⟨v8n9, ev8n9, h⟩ := lt1_some h
            refine zJ_iincN (ls' := [(8, .int v8n9), (10, .int m_riddenFaultsn6), (9, .int m_riddenManyn5), (0, .ref 54), (1, .int p1), (2, .int p2), (3, .int v3_41), (4, .long v4_41), (6, .long v6_41)]) dX12_riders_168 rfl rfl zc_1 ev8n9 rfl rfl ?_
            refine zJ_goto (tgt := 41) dX12_riders_171 (by decide) ?_
            refine zJ_loc (ls' := [(0, .ref 54), (1, .int p1), (2, .int p2), (3, .int v3_41), (4, .long v4_41), (6, .long v6_41), (8, .int v8n9)]) (zll_c rfl (zll_c rfl (zll_c rfl (zll_c rfl (zll_c rfl (zll_c rfl (zll_c rfl zll_n))))))) ?_
            exact hrc41 _ _ _ _ _ _ h
          · replace h := it_f hc h
            refine zJ_aload_n dX12_riders_81 rfl rfl ?_
            refine zJ_geti (mi := mX12_riders) (x := m_riddenManyn7) dX12_riders_82 F_X12_435 zW_54 rfl rfl rfl ?_
            refine zJ_if_ne (tgt := 91) dX12_riders_85 (by decide) rfl (fun hc => ?_) (fun hc => ?_)
            · replace h := it_f hc h
              refine zJ_iload dX12_riders_91 rfl rfl ?_
              refine zJ_i2l dX12_riders_93 rfl ?_
              refine zJ_aload_n dX12_riders_94 rfl rfl ?_
              refine zJ_geti (mi := mX12_riders) (x := m_riddenManyn7) dX12_riders_95 F_X12_435 zW_54 rfl rfl rfl ?_
              refine zJ_i2l dX12_riders_98 rfl ?_
              refine zJ_lmul dX12_riders_99 rfl ?_
              obtain ⟨v11n10, ev11n10, h⟩ := lt1_some h
              refine zJ_nml ev11n10 ?_
              refine zJ_lstore (ls' := [(11, .long v11n10), (10, .int m_riddenFaultsn6), (9, .int m_riddenManyn5), (0, .ref 54), (1, .int p1), (2, .int p2), (3, .int v3_41), (4, .long v4_41), (6, .long v6_41), (8, .int v8_41)]) dX12_riders_100 rfl rfl rfl ?_
              refine zJ_lload dX12_riders_102 rfl rfl ?_
              refine zJ_lload dX12_riders_104 rfl rfl ?_
              refine zJ_lmul dX12_riders_106 rfl ?_
              refine zJ_lload dX12_riders_107 rfl rfl ?_
              refine zJ_iload dX12_riders_109 rfl rfl ?_
              refine zJ_i2l dX12_riders_111 rfl ?_
              refine zJ_aload_n dX12_riders_112 rfl rfl ?_
              refine zJ_geti (mi := mX12_riders) (x := m_riddenManyn7) dX12_riders_113 F_X12_435 zW_54 rfl rfl rfl ?_
              refine zJ_i2l dX12_riders_116 rfl ?_
              refine zJ_lmul dX12_riders_117 rfl ?_
              refine zJ_aload_n dX12_riders_118 rfl rfl ?_
              refine zJ_geti (mi := mX12_riders) (x := m_riddenFaultsn8) dX12_riders_119 F_X12_438 zW_54 rfl rfl rfl ?_
              refine zJ_i2l dX12_riders_122 rfl ?_
              refine zJ_iload dX12_riders_123 rfl rfl ?_
              refine zJ_i2l dX12_riders_125 rfl ?_
              refine zJ_lmul dX12_riders_126 rfl ?_
              refine zJ_lsub dX12_riders_127 rfl ?_
              refine zJ_lmul dX12_riders_128 rfl ?_
              refine zJ_ladd dX12_riders_129 rfl ?_
              obtain ⟨v4n11, ev4n11, h⟩ := lt1_some h
              refine zJ_nml ev4n11 ?_
              refine zJ_lstore (ls' := [(4, .long v4n11), (11, .long v11n10), (10, .int m_riddenFaultsn6), (9, .int m_riddenManyn5), (0, .ref 54), (1, .int p1), (2, .int p2), (3, .int v3_41), (6, .long v6_41), (8, .int v8_41)]) dX12_riders_130 rfl rfl rfl ?_
              refine zJ_lload dX12_riders_132 rfl rfl ?_
              refine zJ_lload dX12_riders_134 rfl rfl ?_
              refine zJ_lmul dX12_riders_136 rfl ?_
              obtain ⟨v6n12, ev6n12, h⟩ := lt1_some h
              refine zJ_nml ev6n12 ?_
              refine zJ_lstore (ls' := [(6, .long v6n12), (4, .long v4n11), (11, .long v11n10), (10, .int m_riddenFaultsn6), (9, .int m_riddenManyn5), (0, .ref 54), (1, .int p1), (2, .int p2), (3, .int v3_41), (8, .int v8_41)]) dX12_riders_137 rfl rfl rfl ?_
              refine zJ_lload dX12_riders_139 rfl rfl ?_
              refine zJ_mabsl (mi := mX12_riders) dX12_riders_141 L_X12_401 K_absl_s K_math K_absl_c (Nat.le_of_ble_eq_true rfl) (Nat.le_of_ble_eq_true rfl) rfl ?_
              refine zJ_lload dX12_riders_144 rfl rfl ?_
              obtain ⟨rn13, hcl, h⟩ := bd1_some h
              refine zJ_callS2 (σ := σ) (L := ([(3462, m_horses), (3472, m_rowMany), (3473, (0 : Int32)), (3509, m_riddenManyn7), (3510, m_riddenFaultsn8)], [(55, m_now)], [(65, m_row)])) (mi := mX12_riders) (yi := mX12_common) (as := [.long (if 0 < v4n11 then v4n11 else -v4n11), .long v6n12]) (st := []) (L2 := ([(3462, m_horses), (3472, m_rowMany), (3473, (0 : Int32)), (3509, m_riddenManyn7), (3510, m_riddenFaultsn8)], [(55, m_now)], [(65, m_row)])) dX12_riders_146 ML_X12_397 Ys_X12_common rfl (t_X12_common l _ 200 hcl) (zsub_i zle_n zle_n zle_n) (zjok_i rfl rfl (zle_c rfl (zle_c rfl (zle_c rfl (zle_c rfl (zle_c rfl zle_n))))) rfl rfl (zle_c rfl zle_n) rfl rfl (zle_c rfl zle_n)) (Nat.le_of_ble_eq_true rfl) (Nat.le_of_ble_eq_true rfl) rfl rfl ?_
              refine zJ_lstore (ls' := [(13, .long rn13), (6, .long v6n12), (4, .long v4n11), (11, .long v11n10), (10, .int m_riddenFaultsn6), (9, .int m_riddenManyn5), (0, .ref 54), (1, .int p1), (2, .int p2), (3, .int v3_41), (8, .int v8_41)]) dX12_riders_149 rfl rfl rfl ?_
              refine zJ_lload dX12_riders_151 rfl rfl ?_
              refine zJ_lload dX12_riders_153 rfl rfl ?_
              obtain ⟨hg, h⟩ := gd_some h
              refine zJ_ldiv dX12_riders_155 (nzl_ne hg) rfl ?_
              obtain ⟨v4n14, ev4n14, h⟩ := lt1_some h
              refine zJ_nml ev4n14 ?_
              refine zJ_lstore (ls' := [(4, .long v4n14), (13, .long rn13), (6, .long v6n12), (11, .long v11n10), (10, .int m_riddenFaultsn6), (9, .int m_riddenManyn5), (0, .ref 54), (1, .int p1), (2, .int p2), (3, .int v3_41), (8, .int v8_41)]) dX12_riders_156 rfl rfl rfl ?_
              refine zJ_lload dX12_riders_158 rfl rfl ?_
              refine zJ_lload dX12_riders_160 rfl rfl ?_
              obtain ⟨hg, h⟩ := gd_some h
              refine zJ_ldiv dX12_riders_162 (nzl_ne hg) rfl ?_
              obtain ⟨v6n15, ev6n15, h⟩ := lt1_some h
              refine zJ_nml ev6n15 ?_
              refine zJ_lstore (ls' := [(6, .long v6n15), (4, .long v4n14), (13, .long rn13), (11, .long v11n10), (10, .int m_riddenFaultsn6), (9, .int m_riddenManyn5), (0, .ref 54), (1, .int p1), (2, .int p2), (3, .int v3_41), (8, .int v8_41)]) dX12_riders_163 rfl rfl rfl ?_
              obtain ⟨v3n16, ev3n16, h⟩ := lt1_some h
              refine zJ_iincN (ls' := [(3, .int v3n16), (6, .long v6n15), (4, .long v4n14), (13, .long rn13), (11, .long v11n10), (10, .int m_riddenFaultsn6), (9, .int m_riddenManyn5), (0, .ref 54), (1, .int p1), (2, .int p2), (8, .int v8_41)]) dX12_riders_165 rfl rfl zc_1 ev3n16 rfl rfl ?_
              obtain ⟨v8n17, ev8n17, h⟩ := lt1_some h
              refine zJ_iincN (ls' := [(8, .int v8n17), (3, .int v3n16), (6, .long v6n15), (4, .long v4n14), (13, .long rn13), (11, .long v11n10), (10, .int m_riddenFaultsn6), (9, .int m_riddenManyn5), (0, .ref 54), (1, .int p1), (2, .int p2)]) dX12_riders_168 rfl rfl zc_1 ev8n17 rfl rfl ?_
              refine zJ_goto (tgt := 41) dX12_riders_171 (by decide) ?_
              refine zJ_loc (ls' := [(0, .ref 54), (1, .int p1), (2, .int p2), (3, .int v3n16), (4, .long v4n14), (6, .long v6n15), (8, .int v8n17)]) (zll_c rfl (zll_c rfl (zll_c rfl (zll_c rfl (zll_c rfl (zll_c rfl (zll_c rfl zll_n))))))) ?_
              exact hrc41 _ _ _ _ _ _ h
            · replace h := it_t hc h
              refine zJ_goto (tgt := 168) dX12_riders_88 (by decide) ?_
              obtain ⟨v8n18, ev8n18, h⟩ := lt1_some h
              refine zJ_iincN (ls' := [(8, .int v8n18), (10, .int m_riddenFaultsn6), (9, .int m_riddenManyn5), (0, .ref 54), (1, .int p1), (2, .int p2), (3, .int v3_41), (4, .long v4_41), (6, .long v6_41)]) dX12_riders_168 rfl rfl zc_1 ev8n18 rfl rfl ?_
              refine zJ_goto (tgt := 41) dX12_riders_171 (by decide) ?_
              refine zJ_loc (ls' := [(0, .ref 54), (1, .int p1), (2, .int p2), (3, .int v3_41), (4, .long v4_41), (6, .long v6_41), (8, .int v8n18)]) (zll_c rfl (zll_c rfl (zll_c rfl (zll_c rfl (zll_c rfl (zll_c rfl (zll_c rfl zll_n))))))) ?_
              exact hrc41 _ _ _ _ _ _ h
      · replace h := it_t hc h
        refine zJ_iconst dX12_riders_28 zc_m1 rfl ?_
        obtain ⟨rfl, rfl, rfl, rfl, rfl, rfl⟩ := so6 h
        exact zJ_iret dX12_riders_29 rfl rfl
set_option maxRecDepth 100000 in
set_option maxHeartbeats 4000000 in
theorem t_X12_ring (l : Launch) (σ : zS) {m_fences : Int32} {m_plans : Int32} {m_typed : Int32} {m_thrown : Int32} {m_read : Int32} {m_length : Int32} {m_top : Int32} {m_at : Int32} {m_wrong : Int32} {m_undoMany : Int32} {m_now : (Nat → Int32)} {m_kind : (Nat → Int32)} {m_height : (Nat → Int32)} {m_feet : (Nat → Int32)} {m_text : (Nat → Int32)} {m_newFences : (Nat → Int32)} {m_isKept : (Nat → Int32)} {r : Int32} {w_m_fences : Int32} {w_m_plans : Int32} {w_m_typed : Int32} {w_m_thrown : Int32} {w_m_length : Int32} {w_m_top : Int32} {w_m_at : Int32} {w_m_wrong : Int32} {w_m_undoMany : Int32} {w_m_now : (Nat → Int32)} {w_m_kind : (Nat → Int32)} {w_m_height : (Nat → Int32)} {w_m_feet : (Nat → Int32)} {w_m_newFences : (Nat → Int32)} {w_m_isKept : (Nat → Int32)} (h : f_X12_ring m_fences m_plans m_typed m_thrown m_read m_length m_top m_at m_wrong m_undoMany m_now m_kind m_height m_feet m_text m_newFences m_isKept = some (r, w_m_fences, w_m_plans, w_m_typed, w_m_thrown, w_m_length, w_m_top, w_m_at, w_m_wrong, w_m_undoMany, w_m_now, w_m_kind, w_m_height, w_m_feet, w_m_newFences, w_m_isKept)) : zMt l zW 4 mX12_ring σ ([(3457, m_fences), (3466, m_plans), (3470, m_typed), (3473, m_thrown), (3474, m_read), (3475, m_length), (3476, m_top), (3477, m_at), (3478, m_wrong), (3494, m_undoMany)], [(55, m_now), (56, m_kind), (57, m_height), (58, m_feet), (64, m_text), (66, m_newFences), (86, m_isKept)], []) [.ref 54] (some (.int r)) ([(3457, w_m_fences), (3466, w_m_plans), (3470, w_m_typed), (3473, w_m_thrown), (3474, (nI 64)), (3475, w_m_length), (3476, w_m_top), (3477, w_m_at), (3478, w_m_wrong), (3494, w_m_undoMany)], [(55, w_m_now), (56, w_m_kind), (57, w_m_height), (58, w_m_feet), (64, m_text), (66, w_m_newFences), (86, w_m_isKept)], []) := by
  refine zMt_of (ls := [(0, .ref 54)]) (by decide) rfl (fun _ => Nat.le_of_ble_eq_true rfl) rfl ?_
  unfold f_X12_ring at h
  refine zJ_aload_n dX12_ring_0 rfl rfl ?_
  refine zJ_iconst dX12_ring_1 zc_0 rfl ?_
  refine zK_puti (mi := mX12_ring) (la' := [(3457, m_fences), (3466, m_plans), (3470, m_typed), (3473, (0 : Int32)), (3474, m_read), (3475, m_length), (3476, m_top), (3477, m_at), (3478, m_wrong), (3494, m_undoMany)]) zW_ok dX12_ring_2 F_X12_113 P_12_17 zW_54 rfl rfl rfl ?_
  refine zJ_aload_n dX12_ring_5 rfl rfl ?_
  refine zJ_aload_n dX12_ring_6 rfl rfl ?_
  refine zJ_getr (mi := mX12_ring) dX12_ring_7 F_X12_41 zW_54 rfl rfl ?_
  refine zJ_aload_n dX12_ring_10 rfl rfl ?_
  refine zJ_geti (mi := mX12_ring) (x := m_typed) dX12_ring_11 F_X12_139 zW_54 rfl rfl rfl ?_
  refine zJ_bipush dX12_ring_14 zb_76 rfl ?_
  obtain ⟨m_lengthn1, m_topn2, m_atn3, m_wrongn4, hcl, h⟩ := bd4_some h
  refine zJ_callV2 (σ := σ) (L := ([(3457, m_fences), (3466, m_plans), (3470, m_typed), (3473, (0 : Int32)), (3474, m_read), (3475, m_length), (3476, m_top), (3477, m_at), (3478, m_wrong), (3494, m_undoMany)], [(55, m_now), (56, m_kind), (57, m_height), (58, m_feet), (64, m_text), (66, m_newFences), (86, m_isKept)], [])) (mi := mX12_ring) (yi := mX12_begin) (as := [.ref 64, .int m_typed, .int (76 : Int32)]) (st := []) (L2 := ([(3457, m_fences), (3466, m_plans), (3470, m_typed), (3473, (0 : Int32)), (3474, (nI 64)), (3475, m_lengthn1), (3476, m_topn2), (3477, m_atn3), (3478, m_wrongn4), (3494, m_undoMany)], [(55, m_now), (56, m_kind), (57, m_height), (58, m_feet), (64, m_text), (66, m_newFences), (86, m_isKept)], [])) dX12_ring_16 ML_X12_185 Yv_X12_begin rfl zW_54 rfl rfl (t_X12_begin_m_text l _ hcl) (zsub_i (zle_c rfl (zle_c rfl (zle_c rfl (zle_c rfl (zle_c rfl zle_n))))) zle_n zle_n) (zjok_i rfl rfl (zle_c rfl (zle_c rfl (zle_c rfl (zle_c rfl (zle_c rfl (zle_c rfl (zle_c rfl (zle_c rfl (zle_c rfl (zle_c rfl zle_n)))))))))) rfl rfl (zle_c rfl (zle_c rfl (zle_c rfl (zle_c rfl (zle_c rfl (zle_c rfl (zle_c rfl zle_n))))))) rfl rfl zle_n) (Nat.le_of_ble_eq_true rfl) (Nat.le_of_ble_eq_true rfl) rfl rfl ?_
  refine zJ_aload_n dX12_ring_19 rfl rfl ?_
  refine zJ_iconst dX12_ring_20 zc_0 rfl ?_
  refine zK_puti (mi := mX12_ring) (la' := [(3457, m_fences), (3466, m_plans), (3470, (0 : Int32)), (3473, (0 : Int32)), (3474, (nI 64)), (3475, m_lengthn1), (3476, m_topn2), (3477, m_atn3), (3478, m_wrongn4), (3494, m_undoMany)]) zW_ok dX12_ring_21 F_X12_139 P_12_14 zW_54 rfl rfl rfl ?_
  refine zJ_iconst dX12_ring_24 zc_0 rfl ?_
  refine zJ_istore_n (ls' := [(1, .int (0 : Int32)), (0, .ref 54)]) dX12_ring_25 rfl rfl rfl ?_
  refine zJ_iconst dX12_ring_26 zc_1 rfl ?_
  refine zJ_istore_n (ls' := [(2, .int (1 : Int32)), (1, .int (0 : Int32)), (0, .ref 54)]) dX12_ring_27 rfl rfl rfl ?_
  have hk28 : ∀ (v1_28x : Int32) (m_at_28x : Int32) (m_wrong_28x : Int32) (m_newFences_28x : (Nat → Int32)), k_X12_ring_28 m_fences m_plans m_undoMany m_now m_kind m_height m_feet m_isKept m_lengthn1 m_topn2 v1_28x m_at_28x m_wrong_28x m_newFences_28x = some (r, w_m_fences, w_m_plans, w_m_typed, w_m_thrown, w_m_length, w_m_top, w_m_at, w_m_wrong, w_m_undoMany, w_m_now, w_m_kind, w_m_height, w_m_feet, w_m_newFences, w_m_isKept) → zJ l zW 4 mX12_ring σ ([(3457, m_fences), (3466, m_plans), (3470, (0 : Int32)), (3473, (0 : Int32)), (3474, (nI 64)), (3475, m_lengthn1), (3476, m_topn2), (3477, m_at_28x), (3478, m_wrong_28x), (3494, m_undoMany)], [(55, m_now), (56, m_kind), (57, m_height), (58, m_feet), (64, m_text), (66, m_newFences_28x), (86, m_isKept)], []) 76 [(0, .ref 54), (1, .int v1_28x)] [] (some (.int r)) ([(3457, w_m_fences), (3466, w_m_plans), (3470, w_m_typed), (3473, w_m_thrown), (3474, (nI 64)), (3475, w_m_length), (3476, w_m_top), (3477, w_m_at), (3478, w_m_wrong), (3494, w_m_undoMany)], [(55, w_m_now), (56, w_m_kind), (57, w_m_height), (58, w_m_feet), (64, m_text), (66, w_m_newFences), (86, w_m_isKept)], []) := by
    intro v1_28x m_at_28x m_wrong_28x m_newFences_28x h
    unfold k_X12_ring_28 at h
    refine zJ_aload_n dX12_ring_76 rfl rfl ?_
    refine zJ_geti (mi := mX12_ring) (x := m_at_28x) dX12_ring_77 F_X12_151 zW_54 rfl rfl rfl ?_
    refine zJ_aload_n dX12_ring_80 rfl rfl ?_
    refine zJ_geti (mi := mX12_ring) (x := m_lengthn1) dX12_ring_81 F_X12_145 zW_54 rfl rfl rfl ?_
    have hj_X12_ring_95 : ∀ (m_wrong_95j : Int32), j_X12_ring_95 m_fences m_plans m_undoMany m_now m_kind m_height m_feet m_isKept m_lengthn1 m_topn2 v1_28x m_at_28x m_newFences_28x m_wrong_95j = some (r, w_m_fences, w_m_plans, w_m_typed, w_m_thrown, w_m_length, w_m_top, w_m_at, w_m_wrong, w_m_undoMany, w_m_now, w_m_kind, w_m_height, w_m_feet, w_m_newFences, w_m_isKept) → zJ l zW 4 mX12_ring σ ([(3457, m_fences), (3466, m_plans), (3470, (0 : Int32)), (3473, (0 : Int32)), (3474, (nI 64)), (3475, m_lengthn1), (3476, m_topn2), (3477, m_at_28x), (3478, m_wrong_95j), (3494, m_undoMany)], [(55, m_now), (56, m_kind), (57, m_height), (58, m_feet), (64, m_text), (66, m_newFences_28x), (86, m_isKept)], []) 95 [(0, .ref 54), (1, .int v1_28x)] [] (some (.int r)) ([(3457, w_m_fences), (3466, w_m_plans), (3470, w_m_typed), (3473, w_m_thrown), (3474, (nI 64)), (3475, w_m_length), (3476, w_m_top), (3477, w_m_at), (3478, w_m_wrong), (3494, w_m_undoMany)], [(55, w_m_now), (56, w_m_kind), (57, w_m_height), (58, w_m_feet), (64, m_text), (66, w_m_newFences), (86, w_m_isKept)], []) := by
      intro m_wrong_95j h
      unfold j_X12_ring_95 at h
      refine zJ_aload_n dX12_ring_95 rfl rfl ?_
      obtain ⟨rn5, hcl, h⟩ := bd1_some h
      refine zJ_callV2 (σ := σ) (L := ([(3457, m_fences), (3466, m_plans), (3470, (0 : Int32)), (3473, (0 : Int32)), (3474, (nI 64)), (3475, m_lengthn1), (3476, m_topn2), (3477, m_at_28x), (3478, m_wrong_95j), (3494, m_undoMany)], [(55, m_now), (56, m_kind), (57, m_height), (58, m_feet), (64, m_text), (66, m_newFences_28x), (86, m_isKept)], [])) (mi := mX12_ring) (yi := mX12_fine) (as := []) (st := []) (L2 := ([(3457, m_fences), (3466, m_plans), (3470, (0 : Int32)), (3473, (0 : Int32)), (3474, (nI 64)), (3475, m_lengthn1), (3476, m_topn2), (3477, m_at_28x), (3478, m_wrong_95j), (3494, m_undoMany)], [(55, m_now), (56, m_kind), (57, m_height), (58, m_feet), (64, m_text), (66, m_newFences_28x), (86, m_isKept)], [])) dX12_ring_96 ML_X12_157 Yv_X12_fine rfl zW_54 rfl rfl (t_X12_fine l _ hcl) (zsub_i (zle_c rfl zle_n) zle_n zle_n) (zjok_i rfl rfl (zle_c rfl (zle_c rfl (zle_c rfl (zle_c rfl (zle_c rfl (zle_c rfl (zle_c rfl (zle_c rfl (zle_c rfl (zle_c rfl zle_n)))))))))) rfl rfl (zle_c rfl (zle_c rfl (zle_c rfl (zle_c rfl (zle_c rfl (zle_c rfl (zle_c rfl zle_n))))))) rfl rfl zle_n) (Nat.le_of_ble_eq_true rfl) (Nat.le_of_ble_eq_true rfl) rfl rfl ?_
      refine zJ_if_ne (tgt := 109) dX12_ring_99 (by decide) rfl (fun hc => ?_) (fun hc => ?_)
      · replace h := it_f hc h
        refine zJ_iconst dX12_ring_109 zc_0 rfl ?_
        refine zJ_istore_n (ls' := [(3, .int (0 : Int32)), (0, .ref 54), (1, .int v1_28x)]) dX12_ring_110 rfl rfl rfl ?_
        have hk111 : ∀ (m_kind_111x : (Nat → Int32)) (m_height_111x : (Nat → Int32)) (m_feet_111x : (Nat → Int32)), k_X12_ring_111 m_now m_isKept m_lengthn1 m_topn2 v1_28x m_at_28x m_newFences_28x m_wrong_95j m_kind_111x m_height_111x m_feet_111x = some (r, w_m_fences, w_m_plans, w_m_typed, w_m_thrown, w_m_length, w_m_top, w_m_at, w_m_wrong, w_m_undoMany, w_m_now, w_m_kind, w_m_height, w_m_feet, w_m_newFences, w_m_isKept) → zJ l zW 4 mX12_ring σ ([(3457, m_fences), (3466, m_plans), (3470, (0 : Int32)), (3473, (0 : Int32)), (3474, (nI 64)), (3475, m_lengthn1), (3476, m_topn2), (3477, m_at_28x), (3478, m_wrong_95j), (3494, m_undoMany)], [(55, m_now), (56, m_kind_111x), (57, m_height_111x), (58, m_feet_111x), (64, m_text), (66, m_newFences_28x), (86, m_isKept)], []) 168 [(0, .ref 54), (1, .int v1_28x)] [] (some (.int r)) ([(3457, w_m_fences), (3466, w_m_plans), (3470, w_m_typed), (3473, w_m_thrown), (3474, (nI 64)), (3475, w_m_length), (3476, w_m_top), (3477, w_m_at), (3478, w_m_wrong), (3494, w_m_undoMany)], [(55, w_m_now), (56, w_m_kind), (57, w_m_height), (58, w_m_feet), (64, m_text), (66, w_m_newFences), (86, w_m_isKept)], []) := by
          intro m_kind_111x m_height_111x m_feet_111x h
          unfold k_X12_ring_111 at h
          refine zJ_aload_n dX12_ring_168 rfl rfl ?_
          refine zJ_iload_n dX12_ring_169 rfl rfl ?_
          refine zK_puti (mi := mX12_ring) (la' := [(3457, v1_28x), (3466, m_plans), (3470, (0 : Int32)), (3473, (0 : Int32)), (3474, (nI 64)), (3475, m_lengthn1), (3476, m_topn2), (3477, m_at_28x), (3478, m_wrong_95j), (3494, m_undoMany)]) zW_ok dX12_ring_170 F_X12_119 P_12_1 zW_54 rfl rfl rfl ?_
          refine zJ_aload_n dX12_ring_173 rfl rfl ?_
          refine zJ_iconst dX12_ring_174 zc_0 rfl ?_
          refine zK_puti (mi := mX12_ring) (la' := [(3457, v1_28x), (3466, (0 : Int32)), (3470, (0 : Int32)), (3473, (0 : Int32)), (3474, (nI 64)), (3475, m_lengthn1), (3476, m_topn2), (3477, m_at_28x), (3478, m_wrong_95j), (3494, m_undoMany)]) zW_ok dX12_ring_175 F_X12_129 P_12_10 zW_54 rfl rfl rfl ?_
          refine zJ_aload_n dX12_ring_178 rfl rfl ?_
          refine zJ_getr (mi := mX12_ring) dX12_ring_179 F_X12_9 zW_54 rfl rfl ?_
          refine zJ_bipush dX12_ring_182 zb_48 rfl ?_
          refine zJ_iconst dX12_ring_184 zc_0 rfl ?_
          obtain ⟨hg, h⟩ := gd_some h
          refine zK_iast (mi := mX12_ring) (f := m_now) (lb' := [(55, (upd m_now (48 : Int32).toNatClampNeg (0 : Int32))), (56, m_kind_111x), (57, m_height_111x), (58, m_feet_111x), (64, m_text), (66, m_newFences_28x), (86, m_isKept)]) dX12_ring_185 zW_55 (ix_in hg) rfl rfl rfl ?_
          refine zJ_aload_n dX12_ring_186 rfl rfl ?_
          refine zJ_iconst dX12_ring_187 zc_0 rfl ?_
          refine zK_puti (mi := mX12_ring) (la' := [(3457, v1_28x), (3466, (0 : Int32)), (3470, (0 : Int32)), (3473, (0 : Int32)), (3474, (nI 64)), (3475, m_lengthn1), (3476, m_topn2), (3477, m_at_28x), (3478, m_wrong_95j), (3494, (0 : Int32))]) zW_ok dX12_ring_188 F_X12_192 P_12_38 zW_54 rfl rfl rfl ?_
          refine zJ_iconst dX12_ring_191 zc_0 rfl ?_
          refine zJ_istore_n (ls' := [(3, .int (0 : Int32)), (0, .ref 54), (1, .int v1_28x)]) dX12_ring_192 rfl rfl rfl ?_
          have hk193 : ∀ (m_isKept_193x : (Nat → Int32)), k_X12_ring_193 m_now m_lengthn1 m_topn2 v1_28x m_at_28x m_newFences_28x m_wrong_95j m_kind_111x m_height_111x m_feet_111x m_isKept_193x = some (r, w_m_fences, w_m_plans, w_m_typed, w_m_thrown, w_m_length, w_m_top, w_m_at, w_m_wrong, w_m_undoMany, w_m_now, w_m_kind, w_m_height, w_m_feet, w_m_newFences, w_m_isKept) → zJ l zW 4 mX12_ring σ ([(3457, v1_28x), (3466, (0 : Int32)), (3470, (0 : Int32)), (3473, (0 : Int32)), (3474, (nI 64)), (3475, m_lengthn1), (3476, m_topn2), (3477, m_at_28x), (3478, m_wrong_95j), (3494, (0 : Int32))], [(55, (upd m_now (48 : Int32).toNatClampNeg (0 : Int32))), (56, m_kind_111x), (57, m_height_111x), (58, m_feet_111x), (64, m_text), (66, m_newFences_28x), (86, m_isKept_193x)], []) 211 [(1, .int v1_28x)] [] (some (.int r)) ([(3457, w_m_fences), (3466, w_m_plans), (3470, w_m_typed), (3473, w_m_thrown), (3474, (nI 64)), (3475, w_m_length), (3476, w_m_top), (3477, w_m_at), (3478, w_m_wrong), (3494, w_m_undoMany)], [(55, w_m_now), (56, w_m_kind), (57, w_m_height), (58, w_m_feet), (64, m_text), (66, w_m_newFences), (86, w_m_isKept)], []) := by
            intro m_isKept_193x h
            unfold k_X12_ring_193 at h
            refine zJ_iload_n dX12_ring_211 rfl rfl ?_
            obtain ⟨rfl, rfl, rfl, rfl, rfl, rfl, rfl, rfl, rfl, rfl, rfl, rfl, rfl, rfl, rfl, rfl⟩ := so16 h
            exact zJ_iret dX12_ring_212 rfl rfl
          refine zJ_loc (ls' := [(0, .ref 54), (1, .int v1_28x), (3, .int (0 : Int32))]) (zll_c rfl (zll_c rfl (zll_c rfl zll_n))) ?_
          refine ml2_J (fun (v3_193 : Int32) (m_isKept_193 : (Nat → Int32)) => zJ l zW 4 mX12_ring σ ([(3457, v1_28x), (3466, (0 : Int32)), (3470, (0 : Int32)), (3473, (0 : Int32)), (3474, (nI 64)), (3475, m_lengthn1), (3476, m_topn2), (3477, m_at_28x), (3478, m_wrong_95j), (3494, (0 : Int32))], [(55, (upd m_now (48 : Int32).toNatClampNeg (0 : Int32))), (56, m_kind_111x), (57, m_height_111x), (58, m_feet_111x), (64, m_text), (66, m_newFences_28x), (86, m_isKept_193)], []) 193 [(0, .ref 54), (1, .int v1_28x), (3, .int v3_193)] [] (some (.int r)) ([(3457, w_m_fences), (3466, w_m_plans), (3470, w_m_typed), (3473, w_m_thrown), (3474, (nI 64)), (3475, w_m_length), (3476, w_m_top), (3477, w_m_at), (3478, w_m_wrong), (3494, w_m_undoMany)], [(55, w_m_now), (56, w_m_kind), (57, w_m_height), (58, w_m_feet), (64, m_text), (66, w_m_newFences), (86, w_m_isKept)], [])) (fun rc193 hrc193 v3_193 m_isKept_193 h => ?_) zN _ _ h
          unfold s_X12_ring_193 at h
          refine zJ_iload_n dX12_ring_193 rfl rfl ?_
          refine zJ_iconst dX12_ring_194 zc_2 rfl ?_
          refine zJ_icmp_ge (tgt := 211) dX12_ring_195 (by decide) rfl (fun hc => ?_) (fun hc => ?_)
          · replace h := it_t hc h
            refine zJ_loc (ls' := [(1, .int v1_28x)]) (zll_c rfl zll_n) ?_
            exact hk193 _ h
          · replace h := it_f hc h
            refine zJ_aload_n dX12_ring_198 rfl rfl ?_
            refine zJ_getr (mi := mX12_ring) dX12_ring_199 F_X12_109 zW_54 rfl rfl ?_
            refine zJ_iload_n dX12_ring_202 rfl rfl ?_
            refine zJ_iconst dX12_ring_203 zc_0 rfl ?_
            obtain ⟨hg, h⟩ := gd_some h
            refine zK_zast (mi := mX12_ring) (f := m_isKept_193) (lb' := [(55, (upd m_now (48 : Int32).toNatClampNeg (0 : Int32))), (56, m_kind_111x), (57, m_height_111x), (58, m_feet_111x), (64, m_text), (66, m_newFences_28x), (86, (upd m_isKept_193 v3_193.toNatClampNeg (vp_nar .boolean (0 : Int32))))]) dX12_ring_204 zW_86 (ix_in hg) rfl rfl rfl ?_
            obtain ⟨v3n6, ev3n6, h⟩ := lt1_some h
            refine zJ_iincN (ls' := [(3, .int v3n6), (0, .ref 54), (1, .int v1_28x)]) dX12_ring_205 rfl rfl zc_1 ev3n6 rfl rfl ?_
            refine zJ_goto (tgt := 193) dX12_ring_208 (by decide) ?_
            refine zJ_loc (ls' := [(0, .ref 54), (1, .int v1_28x), (3, .int v3n6)]) (zll_c rfl (zll_c rfl (zll_c rfl zll_n))) ?_
            exact hrc193 _ _ h
        refine zJ_loc (ls' := [(0, .ref 54), (1, .int v1_28x), (3, .int (0 : Int32))]) (zll_c rfl (zll_c rfl (zll_c rfl zll_n))) ?_
        refine ml4_J (fun (v3_111 : Int32) (m_kind_111 : (Nat → Int32)) (m_height_111 : (Nat → Int32)) (m_feet_111 : (Nat → Int32)) => zJ l zW 4 mX12_ring σ ([(3457, m_fences), (3466, m_plans), (3470, (0 : Int32)), (3473, (0 : Int32)), (3474, (nI 64)), (3475, m_lengthn1), (3476, m_topn2), (3477, m_at_28x), (3478, m_wrong_95j), (3494, m_undoMany)], [(55, m_now), (56, m_kind_111), (57, m_height_111), (58, m_feet_111), (64, m_text), (66, m_newFences_28x), (86, m_isKept)], []) 111 [(0, .ref 54), (1, .int v1_28x), (3, .int v3_111)] [] (some (.int r)) ([(3457, w_m_fences), (3466, w_m_plans), (3470, w_m_typed), (3473, w_m_thrown), (3474, (nI 64)), (3475, w_m_length), (3476, w_m_top), (3477, w_m_at), (3478, w_m_wrong), (3494, w_m_undoMany)], [(55, w_m_now), (56, w_m_kind), (57, w_m_height), (58, w_m_feet), (64, m_text), (66, w_m_newFences), (86, w_m_isKept)], [])) (fun rc111 hrc111 v3_111 m_kind_111 m_height_111 m_feet_111 h => ?_) zN _ _ _ _ h
        unfold s_X12_ring_111 at h
        refine zJ_iload_n dX12_ring_111 rfl rfl ?_
        refine zJ_iload_n dX12_ring_112 rfl rfl ?_
        refine zJ_icmp_ge (tgt := 168) dX12_ring_113 (by decide) rfl (fun hc => ?_) (fun hc => ?_)
        · replace h := it_t hc h
          refine zJ_loc (ls' := [(0, .ref 54), (1, .int v1_28x)]) (zll_c rfl (zll_c rfl zll_n)) ?_
          exact hk111 _ _ _ h
        · replace h := it_f hc h
          refine zJ_aload_n dX12_ring_116 rfl rfl ?_
          refine zJ_getr (mi := mX12_ring) dX12_ring_117 F_X12_13 zW_54 rfl rfl ?_
          refine zJ_iload_n dX12_ring_120 rfl rfl ?_
          refine zJ_aload_n dX12_ring_121 rfl rfl ?_
          refine zJ_getr (mi := mX12_ring) dX12_ring_122 F_X12_49 zW_54 rfl rfl ?_
          refine zJ_iconst dX12_ring_125 zc_3 rfl ?_
          refine zJ_iload_n dX12_ring_126 rfl rfl ?_
          refine zJ_imul dX12_ring_127 rfl ?_
          obtain ⟨hg, h⟩ := gd_some h
          refine zJ_iald (mi := mX12_ring) (f := m_newFences_28x) dX12_ring_128 zW_66 (ix_in hg) rfl rfl ?_
          obtain ⟨hg, h⟩ := gd_some h
          refine zK_iast (mi := mX12_ring) (f := m_kind_111) (lb' := [(55, m_now), (56, (upd m_kind_111 v3_111.toNatClampNeg (m_newFences_28x ((3 : Int32) * v3_111).toNatClampNeg))), (57, m_height_111), (58, m_feet_111), (64, m_text), (66, m_newFences_28x), (86, m_isKept)]) dX12_ring_129 zW_56 (ix_in hg) rfl rfl rfl ?_
          refine zJ_aload_n dX12_ring_130 rfl rfl ?_
          refine zJ_getr (mi := mX12_ring) dX12_ring_131 F_X12_16 zW_54 rfl rfl ?_
          refine zJ_iload_n dX12_ring_134 rfl rfl ?_
          refine zJ_aload_n dX12_ring_135 rfl rfl ?_
          refine zJ_getr (mi := mX12_ring) dX12_ring_136 F_X12_49 zW_54 rfl rfl ?_
          refine zJ_iconst dX12_ring_139 zc_3 rfl ?_
          refine zJ_iload_n dX12_ring_140 rfl rfl ?_
          refine zJ_imul dX12_ring_141 rfl ?_
          refine zJ_iconst dX12_ring_142 zc_1 rfl ?_
          refine zJ_iadd dX12_ring_143 rfl ?_
          obtain ⟨hg, h⟩ := gd_some h
          refine zJ_iald (mi := mX12_ring) (f := m_newFences_28x) dX12_ring_144 zW_66 (ix_in hg) rfl rfl ?_
          obtain ⟨hg, h⟩ := gd_some h
          refine zK_iast (mi := mX12_ring) (f := m_height_111) (lb' := [(55, m_now), (56, (upd m_kind_111 v3_111.toNatClampNeg (m_newFences_28x ((3 : Int32) * v3_111).toNatClampNeg))), (57, (upd m_height_111 v3_111.toNatClampNeg (m_newFences_28x (((3 : Int32) * v3_111) + (1 : Int32)).toNatClampNeg))), (58, m_feet_111), (64, m_text), (66, m_newFences_28x), (86, m_isKept)]) dX12_ring_145 zW_57 (ix_in hg) rfl rfl rfl ?_
          refine zJ_aload_n dX12_ring_146 rfl rfl ?_
          refine zJ_getr (mi := mX12_ring) dX12_ring_147 F_X12_19 zW_54 rfl rfl ?_
          refine zJ_iload_n dX12_ring_150 rfl rfl ?_
          refine zJ_aload_n dX12_ring_151 rfl rfl ?_
          refine zJ_getr (mi := mX12_ring) dX12_ring_152 F_X12_49 zW_54 rfl rfl ?_
          refine zJ_iconst dX12_ring_155 zc_3 rfl ?_
          refine zJ_iload_n dX12_ring_156 rfl rfl ?_
          refine zJ_imul dX12_ring_157 rfl ?_
          refine zJ_iconst dX12_ring_158 zc_2 rfl ?_
          refine zJ_iadd dX12_ring_159 rfl ?_
          obtain ⟨hg, h⟩ := gd_some h
          refine zJ_iald (mi := mX12_ring) (f := m_newFences_28x) dX12_ring_160 zW_66 (ix_in hg) rfl rfl ?_
          obtain ⟨hg, h⟩ := gd_some h
          refine zK_iast (mi := mX12_ring) (f := m_feet_111) (lb' := [(55, m_now), (56, (upd m_kind_111 v3_111.toNatClampNeg (m_newFences_28x ((3 : Int32) * v3_111).toNatClampNeg))), (57, (upd m_height_111 v3_111.toNatClampNeg (m_newFences_28x (((3 : Int32) * v3_111) + (1 : Int32)).toNatClampNeg))), (58, (upd m_feet_111 v3_111.toNatClampNeg (m_newFences_28x (((3 : Int32) * v3_111) + (2 : Int32)).toNatClampNeg))), (64, m_text), (66, m_newFences_28x), (86, m_isKept)]) dX12_ring_161 zW_58 (ix_in hg) rfl rfl rfl ?_
          obtain ⟨v3n7, ev3n7, h⟩ := lt1_some h
          refine zJ_iincN (ls' := [(3, .int v3n7), (0, .ref 54), (1, .int v1_28x)]) dX12_ring_162 rfl rfl zc_1 ev3n7 rfl rfl ?_
          refine zJ_goto (tgt := 111) dX12_ring_165 (by decide) ?_
          refine zJ_loc (ls' := [(0, .ref 54), (1, .int v1_28x), (3, .int v3n7)]) (zll_c rfl (zll_c rfl (zll_c rfl zll_n))) ?_
          exact hrc111 _ _ _ _ h
      · replace h := it_t hc h
        refine zJ_iconst dX12_ring_102 zc_m1 rfl ?_
        refine zJ_aload_n dX12_ring_103 rfl rfl ?_
        refine zJ_geti (mi := mX12_ring) (x := m_wrong_95j) dX12_ring_104 F_X12_154 zW_54 rfl rfl rfl ?_
        refine zJ_isub dX12_ring_107 rfl ?_
        obtain ⟨rfl, rfl, rfl, rfl, rfl, rfl, rfl, rfl, rfl, rfl, rfl, rfl, rfl, rfl, rfl, rfl⟩ := so16 h
        exact zJ_iret dX12_ring_108 rfl rfl
    refine zJ_icmp_ge (tgt := 95) dX12_ring_84 (by decide) rfl (fun hc => ?_) (fun hc => ?_)
    · replace h := it_t hc h
      refine zJ_loc (ls' := [(0, .ref 54), (1, .int v1_28x)]) (zll_c rfl (zll_c rfl zll_n)) ?_
      exact hj_X12_ring_95 _ h
    · replace h := it_f hc h
      refine zJ_aload_n dX12_ring_87 rfl rfl ?_
      refine zJ_aload_n dX12_ring_88 rfl rfl ?_
      refine zJ_geti (mi := mX12_ring) (x := m_at_28x) dX12_ring_89 F_X12_151 zW_54 rfl rfl rfl ?_
      obtain ⟨m_wrongn8, hcl, h⟩ := bd1_some h
      refine zJ_callV2 (σ := σ) (L := ([(3457, m_fences), (3466, m_plans), (3470, (0 : Int32)), (3473, (0 : Int32)), (3474, (nI 64)), (3475, m_lengthn1), (3476, m_topn2), (3477, m_at_28x), (3478, m_wrong_28x), (3494, m_undoMany)], [(55, m_now), (56, m_kind), (57, m_height), (58, m_feet), (64, m_text), (66, m_newFences_28x), (86, m_isKept)], [])) (mi := mX12_ring) (yi := mX12_fault) (as := [.int m_at_28x]) (st := []) (L2 := ([(3457, m_fences), (3466, m_plans), (3470, (0 : Int32)), (3473, (0 : Int32)), (3474, (nI 64)), (3475, m_lengthn1), (3476, m_topn2), (3477, m_at_28x), (3478, m_wrongn8), (3494, m_undoMany)], [(55, m_now), (56, m_kind), (57, m_height), (58, m_feet), (64, m_text), (66, m_newFences_28x), (86, m_isKept)], [])) dX12_ring_92 ML_X12_169 Yv_X12_fault rfl zW_54 rfl rfl (t_X12_fault l _ hcl) (zsub_i (zle_c rfl zle_n) zle_n zle_n) (zjok_i rfl rfl (zle_c rfl (zle_c rfl (zle_c rfl (zle_c rfl (zle_c rfl (zle_c rfl (zle_c rfl (zle_c rfl (zle_c rfl (zle_c rfl zle_n)))))))))) rfl rfl (zle_c rfl (zle_c rfl (zle_c rfl (zle_c rfl (zle_c rfl (zle_c rfl (zle_c rfl zle_n))))))) rfl rfl zle_n) (Nat.le_of_ble_eq_true rfl) (Nat.le_of_ble_eq_true rfl) rfl rfl ?_
      refine zJ_loc (ls' := [(0, .ref 54), (1, .int v1_28x)]) (zll_c rfl (zll_c rfl zll_n)) ?_
      exact hj_X12_ring_95 _ h
  refine zJ_loc (ls' := [(0, .ref 54), (1, .int (0 : Int32)), (2, .int (1 : Int32))]) (zll_c rfl (zll_c rfl (zll_c rfl zll_n))) ?_
  refine ml5_J (fun (v1_28 : Int32) (v2_28 : Int32) (m_at_28 : Int32) (m_wrong_28 : Int32) (m_newFences_28 : (Nat → Int32)) => zJ l zW 4 mX12_ring σ ([(3457, m_fences), (3466, m_plans), (3470, (0 : Int32)), (3473, (0 : Int32)), (3474, (nI 64)), (3475, m_lengthn1), (3476, m_topn2), (3477, m_at_28), (3478, m_wrong_28), (3494, m_undoMany)], [(55, m_now), (56, m_kind), (57, m_height), (58, m_feet), (64, m_text), (66, m_newFences_28), (86, m_isKept)], []) 28 [(0, .ref 54), (1, .int v1_28), (2, .int v2_28)] [] (some (.int r)) ([(3457, w_m_fences), (3466, w_m_plans), (3470, w_m_typed), (3473, w_m_thrown), (3474, (nI 64)), (3475, w_m_length), (3476, w_m_top), (3477, w_m_at), (3478, w_m_wrong), (3494, w_m_undoMany)], [(55, w_m_now), (56, w_m_kind), (57, w_m_height), (58, w_m_feet), (64, m_text), (66, w_m_newFences), (86, w_m_isKept)], [])) (fun rc28 hrc28 v1_28 v2_28 m_at_28 m_wrong_28 m_newFences_28 h => ?_) zN _ _ _ _ _ h
  unfold s_X12_ring_28 at h
  refine zJ_iload_n dX12_ring_28 rfl rfl ?_
  refine zJ_if_eq (tgt := 76) dX12_ring_29 (by decide) rfl (fun hc => ?_) (fun hc => ?_)
  · replace h := it_t hc h
    refine zJ_loc (ls' := [(0, .ref 54), (1, .int v1_28)]) (zll_c rfl (zll_c rfl zll_n)) ?_
    exact hk28 _ _ _ _ h
  · replace h := it_f hc h
    refine zJ_aload_n dX12_ring_32 rfl rfl ?_
    obtain ⟨rn9, hcl, h⟩ := bd1_some h
    refine zJ_callV2 (σ := σ) (L := ([(3457, m_fences), (3466, m_plans), (3470, (0 : Int32)), (3473, (0 : Int32)), (3474, (nI 64)), (3475, m_lengthn1), (3476, m_topn2), (3477, m_at_28), (3478, m_wrong_28), (3494, m_undoMany)], [(55, m_now), (56, m_kind), (57, m_height), (58, m_feet), (64, m_text), (66, m_newFences_28), (86, m_isKept)], [])) (mi := mX12_ring) (yi := mX12_fine) (as := []) (st := []) (L2 := ([(3457, m_fences), (3466, m_plans), (3470, (0 : Int32)), (3473, (0 : Int32)), (3474, (nI 64)), (3475, m_lengthn1), (3476, m_topn2), (3477, m_at_28), (3478, m_wrong_28), (3494, m_undoMany)], [(55, m_now), (56, m_kind), (57, m_height), (58, m_feet), (64, m_text), (66, m_newFences_28), (86, m_isKept)], [])) dX12_ring_33 ML_X12_157 Yv_X12_fine rfl zW_54 rfl rfl (t_X12_fine l _ hcl) (zsub_i (zle_c rfl zle_n) zle_n zle_n) (zjok_i rfl rfl (zle_c rfl (zle_c rfl (zle_c rfl (zle_c rfl (zle_c rfl (zle_c rfl (zle_c rfl (zle_c rfl (zle_c rfl (zle_c rfl zle_n)))))))))) rfl rfl (zle_c rfl (zle_c rfl (zle_c rfl (zle_c rfl (zle_c rfl (zle_c rfl (zle_c rfl zle_n))))))) rfl rfl zle_n) (Nat.le_of_ble_eq_true rfl) (Nat.le_of_ble_eq_true rfl) rfl rfl ?_
    refine zJ_if_eq (tgt := 76) dX12_ring_36 (by decide) rfl (fun hc => ?_) (fun hc => ?_)
    · replace h := it_t hc h
      refine zJ_loc (ls' := [(0, .ref 54), (1, .int v1_28)]) (zll_c rfl (zll_c rfl zll_n)) ?_
      exact hk28 _ _ _ _ h
    · replace h := it_f hc h
      refine zJ_iload_n dX12_ring_39 rfl rfl ?_
      refine zJ_bipush dX12_ring_40 zb_8 rfl ?_
      refine zJ_icmp_ne (tgt := 56) dX12_ring_42 (by decide) rfl (fun hc => ?_) (fun hc => ?_)
      · replace h := it_f hc h
        refine zJ_aload_n dX12_ring_56 rfl rfl ?_
        refine zJ_iconst dX12_ring_57 zc_3 rfl ?_
        refine zJ_iload_n dX12_ring_58 rfl rfl ?_
        refine zJ_imul dX12_ring_59 rfl ?_
        obtain ⟨m_atn10, m_wrongn11, m_newFencesn12, hcl, h⟩ := bd3_some h
        refine zJ_callV2 (σ := σ) (L := ([(3457, m_fences), (3466, m_plans), (3470, (0 : Int32)), (3473, (0 : Int32)), (3474, (nI 64)), (3475, m_lengthn1), (3476, m_topn2), (3477, m_at_28), (3478, m_wrong_28), (3494, m_undoMany)], [(55, m_now), (56, m_kind), (57, m_height), (58, m_feet), (64, m_text), (66, m_newFences_28), (86, m_isKept)], [])) (mi := mX12_ring) (yi := mX12_readFence) (as := [.int ((3 : Int32) * v1_28)]) (st := []) (L2 := ([(3457, m_fences), (3466, m_plans), (3470, (0 : Int32)), (3473, (0 : Int32)), (3474, (nI 64)), (3475, m_lengthn1), (3476, m_topn2), (3477, m_atn10), (3478, m_wrongn11), (3494, m_undoMany)], [(55, m_now), (56, m_kind), (57, m_height), (58, m_feet), (64, m_text), (66, m_newFencesn12), (86, m_isKept)], [])) dX12_ring_60 ML_X12_189 Yv_X12_readFence rfl zW_54 rfl rfl (t_X12_readFence_t l _ hcl) (zsub_i (zle_c rfl (zle_c rfl (zle_c rfl (zle_c rfl (zle_c rfl zle_n))))) (zle_c rfl (zle_c rfl zle_n)) zle_n) (zjok_i rfl rfl (zle_c rfl (zle_c rfl (zle_c rfl (zle_c rfl (zle_c rfl (zle_c rfl (zle_c rfl (zle_c rfl (zle_c rfl (zle_c rfl zle_n)))))))))) rfl rfl (zle_c rfl (zle_c rfl (zle_c rfl (zle_c rfl (zle_c rfl (zle_c rfl (zle_c rfl zle_n))))))) rfl rfl zle_n) (Nat.le_of_ble_eq_true rfl) (Nat.le_of_ble_eq_true rfl) rfl rfl ?_
        obtain ⟨v1n13, ev1n13, h⟩ := lt1_some h
        refine zJ_iincN (ls' := [(1, .int v1n13), (0, .ref 54), (2, .int v2_28)]) dX12_ring_63 rfl rfl zc_1 ev1n13 rfl rfl ?_
        refine zJ_aload_n dX12_ring_66 rfl rfl ?_
        refine zJ_bipush dX12_ring_67 zb_59 rfl ?_
        obtain ⟨rn14, m_atn15, hcl, h⟩ := bd2_some h
        refine zJ_callV2 (σ := σ) (L := ([(3457, m_fences), (3466, m_plans), (3470, (0 : Int32)), (3473, (0 : Int32)), (3474, (nI 64)), (3475, m_lengthn1), (3476, m_topn2), (3477, m_atn10), (3478, m_wrongn11), (3494, m_undoMany)], [(55, m_now), (56, m_kind), (57, m_height), (58, m_feet), (64, m_text), (66, m_newFencesn12), (86, m_isKept)], [])) (mi := mX12_ring) (yi := mX12_passes) (as := [.int (59 : Int32)]) (st := []) (L2 := ([(3457, m_fences), (3466, m_plans), (3470, (0 : Int32)), (3473, (0 : Int32)), (3474, (nI 64)), (3475, m_lengthn1), (3476, m_topn2), (3477, m_atn15), (3478, m_wrongn11), (3494, m_undoMany)], [(55, m_now), (56, m_kind), (57, m_height), (58, m_feet), (64, m_text), (66, m_newFencesn12), (86, m_isKept)], [])) dX12_ring_69 ML_X12_165 Yv_X12_passes rfl zW_54 rfl rfl (t_X12_passes_t l _ hcl) (zsub_i (zle_c rfl (zle_c rfl (zle_c rfl (zle_c rfl (zle_c rfl zle_n))))) (zle_c rfl zle_n) zle_n) (zjok_i rfl rfl (zle_c rfl (zle_c rfl (zle_c rfl (zle_c rfl (zle_c rfl (zle_c rfl (zle_c rfl (zle_c rfl (zle_c rfl (zle_c rfl zle_n)))))))))) rfl rfl (zle_c rfl (zle_c rfl (zle_c rfl (zle_c rfl (zle_c rfl (zle_c rfl (zle_c rfl zle_n))))))) rfl rfl zle_n) (Nat.le_of_ble_eq_true rfl) (Nat.le_of_ble_eq_true rfl) rfl rfl ?_
        refine zJ_istore_n (ls' := [(2, .int rn14), (1, .int v1n13), (0, .ref 54)]) dX12_ring_72 rfl rfl rfl ?_
        refine zJ_goto (tgt := 28) dX12_ring_73 (by decide) ?_
        refine zJ_loc (ls' := [(0, .ref 54), (1, .int v1n13), (2, .int rn14)]) (zll_c rfl (zll_c rfl (zll_c rfl zll_n))) ?_
        exact hrc28 _ _ _ _ _ h
      · replace h := it_t hc h
        refine zJ_aload_n dX12_ring_45 rfl rfl ?_
        refine zJ_aload_n dX12_ring_46 rfl rfl ?_
        refine zJ_geti (mi := mX12_ring) (x := m_at_28) dX12_ring_47 F_X12_151 zW_54 rfl rfl rfl ?_
        obtain ⟨m_wrongn16, hcl, h⟩ := bd1_some h
        refine zJ_callV2 (σ := σ) (L := ([(3457, m_fences), (3466, m_plans), (3470, (0 : Int32)), (3473, (0 : Int32)), (3474, (nI 64)), (3475, m_lengthn1), (3476, m_topn2), (3477, m_at_28), (3478, m_wrong_28), (3494, m_undoMany)], [(55, m_now), (56, m_kind), (57, m_height), (58, m_feet), (64, m_text), (66, m_newFences_28), (86, m_isKept)], [])) (mi := mX12_ring) (yi := mX12_fault) (as := [.int m_at_28]) (st := []) (L2 := ([(3457, m_fences), (3466, m_plans), (3470, (0 : Int32)), (3473, (0 : Int32)), (3474, (nI 64)), (3475, m_lengthn1), (3476, m_topn2), (3477, m_at_28), (3478, m_wrongn16), (3494, m_undoMany)], [(55, m_now), (56, m_kind), (57, m_height), (58, m_feet), (64, m_text), (66, m_newFences_28), (86, m_isKept)], [])) dX12_ring_50 ML_X12_169 Yv_X12_fault rfl zW_54 rfl rfl (t_X12_fault l _ hcl) (zsub_i (zle_c rfl zle_n) zle_n zle_n) (zjok_i rfl rfl (zle_c rfl (zle_c rfl (zle_c rfl (zle_c rfl (zle_c rfl (zle_c rfl (zle_c rfl (zle_c rfl (zle_c rfl (zle_c rfl zle_n)))))))))) rfl rfl (zle_c rfl (zle_c rfl (zle_c rfl (zle_c rfl (zle_c rfl (zle_c rfl (zle_c rfl zle_n))))))) rfl rfl zle_n) (Nat.le_of_ble_eq_true rfl) (Nat.le_of_ble_eq_true rfl) rfl rfl ?_
        refine zJ_goto (tgt := 63) dX12_ring_53 (by decide) ?_
        obtain ⟨v1n17, ev1n17, h⟩ := lt1_some h
        refine zJ_iincN (ls' := [(1, .int v1n17), (0, .ref 54), (2, .int v2_28)]) dX12_ring_63 rfl rfl zc_1 ev1n17 rfl rfl ?_
        refine zJ_aload_n dX12_ring_66 rfl rfl ?_
        refine zJ_bipush dX12_ring_67 zb_59 rfl ?_
        obtain ⟨rn18, m_atn19, hcl, h⟩ := bd2_some h
        refine zJ_callV2 (σ := σ) (L := ([(3457, m_fences), (3466, m_plans), (3470, (0 : Int32)), (3473, (0 : Int32)), (3474, (nI 64)), (3475, m_lengthn1), (3476, m_topn2), (3477, m_at_28), (3478, m_wrongn16), (3494, m_undoMany)], [(55, m_now), (56, m_kind), (57, m_height), (58, m_feet), (64, m_text), (66, m_newFences_28), (86, m_isKept)], [])) (mi := mX12_ring) (yi := mX12_passes) (as := [.int (59 : Int32)]) (st := []) (L2 := ([(3457, m_fences), (3466, m_plans), (3470, (0 : Int32)), (3473, (0 : Int32)), (3474, (nI 64)), (3475, m_lengthn1), (3476, m_topn2), (3477, m_atn19), (3478, m_wrongn16), (3494, m_undoMany)], [(55, m_now), (56, m_kind), (57, m_height), (58, m_feet), (64, m_text), (66, m_newFences_28), (86, m_isKept)], [])) dX12_ring_69 ML_X12_165 Yv_X12_passes rfl zW_54 rfl rfl (t_X12_passes_t l _ hcl) (zsub_i (zle_c rfl (zle_c rfl (zle_c rfl (zle_c rfl (zle_c rfl zle_n))))) (zle_c rfl zle_n) zle_n) (zjok_i rfl rfl (zle_c rfl (zle_c rfl (zle_c rfl (zle_c rfl (zle_c rfl (zle_c rfl (zle_c rfl (zle_c rfl (zle_c rfl (zle_c rfl zle_n)))))))))) rfl rfl (zle_c rfl (zle_c rfl (zle_c rfl (zle_c rfl (zle_c rfl (zle_c rfl (zle_c rfl zle_n))))))) rfl rfl zle_n) (Nat.le_of_ble_eq_true rfl) (Nat.le_of_ble_eq_true rfl) rfl rfl ?_
        refine zJ_istore_n (ls' := [(2, .int rn18), (1, .int v1n17), (0, .ref 54)]) dX12_ring_72 rfl rfl rfl ?_
        refine zJ_goto (tgt := 28) dX12_ring_73 (by decide) ?_
        refine zJ_loc (ls' := [(0, .ref 54), (1, .int v1n17), (2, .int rn18)]) (zll_c rfl (zll_c rfl (zll_c rfl zll_n))) ?_
        exact hrc28 _ _ _ _ _ h
set_option maxRecDepth 100000 in
set_option maxHeartbeats 4000000 in
theorem t_X12_round (l : Launch) (σ : zS) {p1 : Int32} {p2 : Int32} {m_thrown : Int32} {m_now : (Nat → Int32)} {m_money : (Nat → Int32)} {r : Int32} {w_m_thrown : Int32} (h : f_X12_round p1 p2 m_thrown m_now m_money = some (r, w_m_thrown)) : zMt l zW 2 mX12_round σ ([(3473, m_thrown)], [(55, m_now), (63, m_money)], []) [.ref 54, .int p1, .int p2] (some (.int r)) ([(3473, w_m_thrown)], [(55, m_now), (63, m_money)], []) := by
  refine zMt_of (ls := [(0, .ref 54), (1, .int p1), (2, .int p2)]) (by decide) rfl (fun _ => Nat.le_of_ble_eq_true rfl) rfl ?_
  unfold f_X12_round at h
  refine zJ_aload_n dX12_round_0 rfl rfl ?_
  refine zJ_iconst dX12_round_1 zc_0 rfl ?_
  refine zK_puti (mi := mX12_round) (la' := [(3473, (0 : Int32))]) zW_ok dX12_round_2 F_X12_113 P_12_17 zW_54 rfl rfl rfl ?_
  refine zJ_iload_n dX12_round_5 rfl rfl ?_
  refine zJ_iconst dX12_round_6 zc_0 rfl ?_
  refine zJ_aload_n dX12_round_7 rfl rfl ?_
  refine zJ_getr (mi := mX12_round) dX12_round_8 F_X12_9 zW_54 rfl rfl ?_
  refine zJ_bipush dX12_round_11 zb_48 rfl ?_
  obtain ⟨hg, h⟩ := gd_some h
  refine zJ_iald (mi := mX12_round) (f := m_now) dX12_round_13 zW_55 (ix_in hg) rfl rfl ?_
  refine zJ_iconst dX12_round_14 zc_1 rfl ?_
  refine zJ_isub dX12_round_15 rfl ?_
  obtain ⟨rn1, hcl, h⟩ := bd1_some h
  refine zJ_callS2 (σ := σ) (L := ([(3473, (0 : Int32))], [(55, m_now), (63, m_money)], [])) (mi := mX12_round) (yi := mX12_in) (as := [.int p1, .int (0 : Int32), .int ((m_now (48 : Int32).toNatClampNeg) - (1 : Int32))]) (st := []) (L2 := ([(3473, (0 : Int32))], [(55, m_now), (63, m_money)], [])) dX12_round_16 ML_X12_122 Ys_X12_in rfl (t_X12_in l _ hcl) (zsub_i zle_n zle_n zle_n) (zjok_i rfl rfl (zle_c rfl zle_n) rfl rfl (zle_c rfl (zle_c rfl zle_n)) rfl rfl zle_n) (Nat.le_of_ble_eq_true rfl) (Nat.le_of_ble_eq_true rfl) rfl rfl ?_
  refine zJ_if_eq (tgt := 31) dX12_round_19 (by decide) rfl (fun hc => ?_) (fun hc => ?_)
  · replace h := it_t hc h
    refine zJ_aload_n dX12_round_31 rfl rfl ?_
    obtain ⟨rn2, m_thrownn3, hcl, h⟩ := bd2_some h
    refine zJ_callV2 (σ := σ) (L := ([(3473, (0 : Int32))], [(55, m_now), (63, m_money)], [])) (mi := mX12_round) (yi := mX12_lost) (as := []) (st := []) (L2 := ([(3473, m_thrownn3)], [(55, m_now), (63, m_money)], [])) dX12_round_32 ML_X12_253 Yv_X12_lost rfl zW_54 rfl rfl (t_X12_lost l _ hcl) (zsub_i (zle_c rfl zle_n) zle_n zle_n) (zjok_i rfl rfl (zle_c rfl zle_n) rfl rfl (zle_c rfl (zle_c rfl zle_n)) rfl rfl zle_n) (Nat.le_of_ble_eq_true rfl) (Nat.le_of_ble_eq_true rfl) rfl rfl ?_
    obtain ⟨rfl, rfl⟩ := so2 h
    exact zJ_iret dX12_round_35 rfl rfl
  · replace h := it_f hc h
    refine zJ_iload_n dX12_round_22 rfl rfl ?_
    refine zJ_iconst dX12_round_23 zc_0 rfl ?_
    refine zJ_iconst dX12_round_24 zc_5 rfl ?_
    obtain ⟨rn4, hcl, h⟩ := bd1_some h
    refine zJ_callS2 (σ := σ) (L := ([(3473, (0 : Int32))], [(55, m_now), (63, m_money)], [])) (mi := mX12_round) (yi := mX12_in) (as := [.int p2, .int (0 : Int32), .int (5 : Int32)]) (st := []) (L2 := ([(3473, (0 : Int32))], [(55, m_now), (63, m_money)], [])) dX12_round_25 ML_X12_122 Ys_X12_in rfl (t_X12_in l _ hcl) (zsub_i zle_n zle_n zle_n) (zjok_i rfl rfl (zle_c rfl zle_n) rfl rfl (zle_c rfl (zle_c rfl zle_n)) rfl rfl zle_n) (Nat.le_of_ble_eq_true rfl) (Nat.le_of_ble_eq_true rfl) rfl rfl ?_
    refine zJ_if_ne (tgt := 36) dX12_round_28 (by decide) rfl (fun hc => ?_) (fun hc => ?_)
    · replace h := it_f hc h
      refine zJ_iload_n dX12_round_36 rfl rfl ?_
      refine zJ_iconst dX12_round_37 zc_4 rfl ?_
      refine zJ_icmp_ge (tgt := 54) dX12_round_38 (by decide) rfl (fun hc => ?_) (fun hc => ?_)
      · replace h := it_t hc h
        refine zJ_iload_n dX12_round_54 rfl rfl ?_
        refine zJ_iconst dX12_round_55 zc_4 rfl ?_
        refine zJ_icmp_ne (tgt := 70) dX12_round_56 (by decide) rfl (fun hc => ?_) (fun hc => ?_)
        · replace h := it_f hc h
          refine zJ_aload_n dX12_round_70 rfl rfl ?_
          refine zJ_aload_n dX12_round_71 rfl rfl ?_
          refine zJ_getr (mi := mX12_round) dX12_round_72 F_X12_9 zW_54 rfl rfl ?_
          refine zJ_iload_n dX12_round_75 rfl rfl ?_
          obtain ⟨rn5, hcl, h⟩ := bd1_some h
          refine zJ_callS2 (σ := σ) (L := ([(3473, (0 : Int32))], [(55, m_now), (63, m_money)], [])) (mi := mX12_round) (yi := mX12_placeOf) (as := [.ref 55, .int p1]) (st := [.ref 54]) (L2 := ([(3473, (0 : Int32))], [(55, m_now), (63, m_money)], [])) dX12_round_76 ML_X12_358 Ys_X12_placeOf rfl (t_X12_placeOf_m_now l _ hcl) (zsub_i zle_n (zle_c rfl zle_n) zle_n) (zjok_i rfl rfl (zle_c rfl zle_n) rfl rfl (zle_c rfl (zle_c rfl zle_n)) rfl rfl zle_n) (Nat.le_of_ble_eq_true rfl) (Nat.le_of_ble_eq_true rfl) rfl rfl ?_
          obtain ⟨rn6, hcl, h⟩ := bd1_some h
          refine zJ_callV2 (σ := σ) (L := ([(3473, (0 : Int32))], [(55, m_now), (63, m_money)], [])) (mi := mX12_round) (yi := mX12_moneyOf) (as := [.int rn5]) (st := []) (L2 := ([(3473, (0 : Int32))], [(55, m_now), (63, m_money)], [])) dX12_round_79 ML_X12_362 Yv_X12_moneyOf rfl zW_54 rfl rfl (t_X12_moneyOf l _ hcl) (zsub_i zle_n (zle_c rfl zle_n) zle_n) (zjok_i rfl rfl (zle_c rfl zle_n) rfl rfl (zle_c rfl (zle_c rfl zle_n)) rfl rfl zle_n) (Nat.le_of_ble_eq_true rfl) (Nat.le_of_ble_eq_true rfl) rfl rfl ?_
          obtain ⟨rfl, rfl⟩ := so2 h
          exact zJ_iret dX12_round_82 rfl rfl
        · replace h := it_t hc h
          refine zJ_aload_n dX12_round_59 rfl rfl ?_
          refine zJ_getr (mi := mX12_round) dX12_round_60 F_X12_9 zW_54 rfl rfl ?_
          refine zJ_iload_n dX12_round_63 rfl rfl ?_
          obtain ⟨rn7, hcl, h⟩ := bd1_some h
          refine zJ_callS2 (σ := σ) (L := ([(3473, (0 : Int32))], [(55, m_now), (63, m_money)], [])) (mi := mX12_round) (yi := mX12_placeOf) (as := [.ref 55, .int p1]) (st := []) (L2 := ([(3473, (0 : Int32))], [(55, m_now), (63, m_money)], [])) dX12_round_64 ML_X12_358 Ys_X12_placeOf rfl (t_X12_placeOf_m_now l _ hcl) (zsub_i zle_n (zle_c rfl zle_n) zle_n) (zjok_i rfl rfl (zle_c rfl zle_n) rfl rfl (zle_c rfl (zle_c rfl zle_n)) rfl rfl zle_n) (Nat.le_of_ble_eq_true rfl) (Nat.le_of_ble_eq_true rfl) rfl rfl ?_
          refine zJ_goto (tgt := 82) dX12_round_67 (by decide) ?_
          obtain ⟨rfl, rfl⟩ := so2 h
          exact zJ_iret dX12_round_82 rfl rfl
      · replace h := it_f hc h
        refine zJ_aload_n dX12_round_41 rfl rfl ?_
        refine zJ_getr (mi := mX12_round) dX12_round_42 F_X12_9 zW_54 rfl rfl ?_
        refine zJ_iconst dX12_round_45 zc_4 rfl ?_
        refine zJ_iload_n dX12_round_46 rfl rfl ?_
        refine zJ_imul dX12_round_47 rfl ?_
        refine zJ_iload_n dX12_round_48 rfl rfl ?_
        refine zJ_iadd dX12_round_49 rfl ?_
        obtain ⟨hg, h⟩ := gd_some h
        refine zJ_iald (mi := mX12_round) (f := m_now) dX12_round_50 zW_55 (ix_in hg) rfl rfl ?_
        refine zJ_goto (tgt := 82) dX12_round_51 (by decide) ?_
        obtain ⟨rfl, rfl⟩ := so2 h
        exact zJ_iret dX12_round_82 rfl rfl
    · replace h := it_t hc h
      refine zJ_aload_n dX12_round_31 rfl rfl ?_
      obtain ⟨rn8, m_thrownn9, hcl, h⟩ := bd2_some h
      refine zJ_callV2 (σ := σ) (L := ([(3473, (0 : Int32))], [(55, m_now), (63, m_money)], [])) (mi := mX12_round) (yi := mX12_lost) (as := []) (st := []) (L2 := ([(3473, m_thrownn9)], [(55, m_now), (63, m_money)], [])) dX12_round_32 ML_X12_253 Yv_X12_lost rfl zW_54 rfl rfl (t_X12_lost l _ hcl) (zsub_i (zle_c rfl zle_n) zle_n zle_n) (zjok_i rfl rfl (zle_c rfl zle_n) rfl rfl (zle_c rfl (zle_c rfl zle_n)) rfl rfl zle_n) (Nat.le_of_ble_eq_true rfl) (Nat.le_of_ble_eq_true rfl) rfl rfl ?_
      obtain ⟨rfl, rfl⟩ := so2 h
      exact zJ_iret dX12_round_35 rfl rfl
set_option maxRecDepth 100000 in
set_option maxHeartbeats 4000000 in
theorem t_X12_row (l : Launch) (σ : zS) {p1 : Int32} {m_rowMany : Int32} {m_thrown : Int32} {m_row : (Nat → Int64)} {r : Int64} {w_m_thrown : Int32} (h : f_X12_row p1 m_rowMany m_thrown m_row = some (r, w_m_thrown)) : zMt l zW 1 mX12_row σ ([(3472, m_rowMany), (3473, m_thrown)], [], [(65, m_row)]) [.ref 54, .int p1] (some (.long r)) ([(3472, m_rowMany), (3473, w_m_thrown)], [], [(65, m_row)]) := by
  refine zMt_of (ls := [(0, .ref 54), (1, .int p1)]) (by decide) rfl (fun _ => Nat.le_of_ble_eq_true rfl) rfl ?_
  unfold f_X12_row at h
  refine zJ_aload_n dX12_row_0 rfl rfl ?_
  refine zJ_iconst dX12_row_1 zc_0 rfl ?_
  refine zK_puti (mi := mX12_row) (la' := [(3472, m_rowMany), (3473, (0 : Int32))]) zW_ok dX12_row_2 F_X12_113 P_12_17 zW_54 rfl rfl rfl ?_
  refine zJ_iload_n dX12_row_5 rfl rfl ?_
  refine zJ_iconst dX12_row_6 zc_0 rfl ?_
  refine zJ_aload_n dX12_row_7 rfl rfl ?_
  refine zJ_geti (mi := mX12_row) (x := m_rowMany) dX12_row_8 F_X12_116 zW_54 rfl rfl rfl ?_
  refine zJ_iconst dX12_row_11 zc_1 rfl ?_
  refine zJ_isub dX12_row_12 rfl ?_
  obtain ⟨rn1, hcl, h⟩ := bd1_some h
  refine zJ_callS2 (σ := σ) (L := ([(3472, m_rowMany), (3473, (0 : Int32))], [], [(65, m_row)])) (mi := mX12_row) (yi := mX12_in) (as := [.int p1, .int (0 : Int32), .int (m_rowMany - (1 : Int32))]) (st := []) (L2 := ([(3472, m_rowMany), (3473, (0 : Int32))], [], [(65, m_row)])) dX12_row_13 ML_X12_122 Ys_X12_in rfl (t_X12_in l _ hcl) (zsub_i zle_n zle_n zle_n) (zjok_i rfl rfl (zle_c rfl (zle_c rfl zle_n)) rfl rfl zle_n rfl rfl (zle_c rfl zle_n)) (Nat.le_of_ble_eq_true rfl) (Nat.le_of_ble_eq_true rfl) rfl rfl ?_
  refine zJ_if_eq (tgt := 28) dX12_row_16 (by decide) rfl (fun hc => ?_) (fun hc => ?_)
  · replace h := it_t hc h
    refine zJ_aload_n dX12_row_28 rfl rfl ?_
    obtain ⟨rn2, m_thrownn3, hcl, h⟩ := bd2_some h
    refine zJ_callV2 (σ := σ) (L := ([(3472, m_rowMany), (3473, (0 : Int32))], [], [(65, m_row)])) (mi := mX12_row) (yi := mX12_lost) (as := []) (st := []) (L2 := ([(3472, m_rowMany), (3473, m_thrownn3)], [], [(65, m_row)])) dX12_row_29 ML_X12_253 Yv_X12_lost rfl zW_54 rfl rfl (t_X12_lost l _ hcl) (zsub_i (zle_c rfl zle_n) zle_n zle_n) (zjok_i rfl rfl (zle_c rfl (zle_c rfl zle_n)) rfl rfl zle_n rfl rfl (zle_c rfl zle_n)) (Nat.le_of_ble_eq_true rfl) (Nat.le_of_ble_eq_true rfl) rfl rfl ?_
    refine zJ_i2l dX12_row_32 rfl ?_
    obtain ⟨rfl, rfl⟩ := so2 h
    exact zJ_lret dX12_row_33 rfl
  · replace h := it_f hc h
    refine zJ_aload_n dX12_row_19 rfl rfl ?_
    refine zJ_getr (mi := mX12_row) dX12_row_20 F_X12_45 zW_54 rfl rfl ?_
    refine zJ_iload_n dX12_row_23 rfl rfl ?_
    obtain ⟨hg, h⟩ := gd_some h
    refine zJ_lald (mi := mX12_row) (f := m_row) dX12_row_24 zW_65 (ix_in hg) rfl rfl ?_
    refine zJ_goto (tgt := 33) dX12_row_25 (by decide) ?_
    obtain ⟨rfl, rfl⟩ := so2 h
    exact zJ_lret dX12_row_33 rfl
set_option maxRecDepth 100000 in
set_option maxHeartbeats 4000000 in
theorem t_X12_rule (l : Launch) (σ : zS) {m_typed : Int32} {m_thrown : Int32} {m_read : Int32} {m_length : Int32} {m_top : Int32} {m_at : Int32} {m_wrong : Int32} {m_ruleSize : Int32} {m_isAsked : Int32} {m_askedHorse : Int32} {m_askedFence : Int32} {m_askedLetter : Int32} {m_askedHeight : Int32} {m_kind : (Nat → Int32)} {m_feet : (Nat → Int32)} {m_stride : (Nat → Int32)} {m_scope : (Nat → Int32)} {m_care : (Nat → Int32)} {m_text : (Nat → Int32)} {m_rule : (Nat → Int32)} {r : Int32} {w_m_typed : Int32} {w_m_thrown : Int32} {w_m_length : Int32} {w_m_top : Int32} {w_m_at : Int32} {w_m_wrong : Int32} {w_m_ruleSize : Int32} {w_m_isAsked : Int32} {w_m_rule : (Nat → Int32)} (h : f_X12_rule m_typed m_thrown m_read m_length m_top m_at m_wrong m_ruleSize m_isAsked m_askedHorse m_askedFence m_askedLetter m_askedHeight m_kind m_feet m_stride m_scope m_care m_text m_rule = some (r, w_m_typed, w_m_thrown, w_m_length, w_m_top, w_m_at, w_m_wrong, w_m_ruleSize, w_m_isAsked, w_m_rule)) : zMt l zW 205 mX12_rule σ ([(3470, m_typed), (3473, m_thrown), (3474, m_read), (3475, m_length), (3476, m_top), (3477, m_at), (3478, m_wrong), (3483, m_ruleSize), (3484, m_isAsked), (3485, m_askedHorse), (3486, m_askedFence), (3487, m_askedLetter), (3488, m_askedHeight)], [(56, m_kind), (58, m_feet), (59, m_stride), (60, m_scope), (61, m_care), (64, m_text), (69, m_rule)], []) [.ref 54] (some (.int r)) ([(3470, w_m_typed), (3473, w_m_thrown), (3474, (nI 64)), (3475, w_m_length), (3476, w_m_top), (3477, w_m_at), (3478, w_m_wrong), (3483, w_m_ruleSize), (3484, w_m_isAsked), (3485, m_askedHorse), (3486, m_askedFence), (3487, m_askedLetter), (3488, m_askedHeight)], [(56, m_kind), (58, m_feet), (59, m_stride), (60, m_scope), (61, m_care), (64, m_text), (69, w_m_rule)], []) := by
  refine zMt_of (ls := [(0, .ref 54)]) (by decide) rfl (fun _ => Nat.le_of_ble_eq_true rfl) rfl ?_
  unfold f_X12_rule at h
  refine zJ_aload_n dX12_rule_0 rfl rfl ?_
  refine zJ_iconst dX12_rule_1 zc_0 rfl ?_
  refine zK_puti (mi := mX12_rule) (la' := [(3470, m_typed), (3473, (0 : Int32)), (3474, m_read), (3475, m_length), (3476, m_top), (3477, m_at), (3478, m_wrong), (3483, m_ruleSize), (3484, m_isAsked), (3485, m_askedHorse), (3486, m_askedFence), (3487, m_askedLetter), (3488, m_askedHeight)]) zW_ok dX12_rule_2 F_X12_113 P_12_17 zW_54 rfl rfl rfl ?_
  refine zJ_aload_n dX12_rule_5 rfl rfl ?_
  refine zJ_geti (mi := mX12_rule) (x := m_typed) dX12_rule_6 F_X12_139 zW_54 rfl rfl rfl ?_
  refine zJ_istore_n (ls' := [(1, .int m_typed), (0, .ref 54)]) dX12_rule_9 rfl rfl rfl ?_
  refine zJ_aload_n dX12_rule_10 rfl rfl ?_
  refine zJ_aload_n dX12_rule_11 rfl rfl ?_
  refine zJ_getr (mi := mX12_rule) dX12_rule_12 F_X12_41 zW_54 rfl rfl ?_
  refine zJ_iload_n dX12_rule_15 rfl rfl ?_
  refine zJ_bipush dX12_rule_16 zb_40 rfl ?_
  obtain ⟨m_lengthn1, m_topn2, m_atn3, m_wrongn4, hcl, h⟩ := bd4_some h
  refine zJ_callV2 (σ := σ) (L := ([(3470, m_typed), (3473, (0 : Int32)), (3474, m_read), (3475, m_length), (3476, m_top), (3477, m_at), (3478, m_wrong), (3483, m_ruleSize), (3484, m_isAsked), (3485, m_askedHorse), (3486, m_askedFence), (3487, m_askedLetter), (3488, m_askedHeight)], [(56, m_kind), (58, m_feet), (59, m_stride), (60, m_scope), (61, m_care), (64, m_text), (69, m_rule)], [])) (mi := mX12_rule) (yi := mX12_begin) (as := [.ref 64, .int m_typed, .int (40 : Int32)]) (st := []) (L2 := ([(3470, m_typed), (3473, (0 : Int32)), (3474, (nI 64)), (3475, m_lengthn1), (3476, m_topn2), (3477, m_atn3), (3478, m_wrongn4), (3483, m_ruleSize), (3484, m_isAsked), (3485, m_askedHorse), (3486, m_askedFence), (3487, m_askedLetter), (3488, m_askedHeight)], [(56, m_kind), (58, m_feet), (59, m_stride), (60, m_scope), (61, m_care), (64, m_text), (69, m_rule)], [])) dX12_rule_18 ML_X12_185 Yv_X12_begin rfl zW_54 rfl rfl (t_X12_begin_m_text l _ hcl) (zsub_i (zle_c rfl (zle_c rfl (zle_c rfl (zle_c rfl (zle_c rfl zle_n))))) zle_n zle_n) (zjok_i rfl rfl (zle_c rfl (zle_c rfl (zle_c rfl (zle_c rfl (zle_c rfl (zle_c rfl (zle_c rfl (zle_c rfl (zle_c rfl (zle_c rfl (zle_c rfl (zle_c rfl (zle_c rfl zle_n))))))))))))) rfl rfl (zle_c rfl (zle_c rfl (zle_c rfl (zle_c rfl (zle_c rfl (zle_c rfl (zle_c rfl zle_n))))))) rfl rfl zle_n) (Nat.le_of_ble_eq_true rfl) (Nat.le_of_ble_eq_true rfl) rfl rfl ?_
  refine zJ_aload_n dX12_rule_21 rfl rfl ?_
  refine zJ_iconst dX12_rule_22 zc_0 rfl ?_
  refine zK_puti (mi := mX12_rule) (la' := [(3470, (0 : Int32)), (3473, (0 : Int32)), (3474, (nI 64)), (3475, m_lengthn1), (3476, m_topn2), (3477, m_atn3), (3478, m_wrongn4), (3483, m_ruleSize), (3484, m_isAsked), (3485, m_askedHorse), (3486, m_askedFence), (3487, m_askedLetter), (3488, m_askedHeight)]) zW_ok dX12_rule_23 F_X12_139 P_12_14 zW_54 rfl rfl rfl ?_
  refine zJ_aload_n dX12_rule_26 rfl rfl ?_
  refine zJ_iconst dX12_rule_27 zc_0 rfl ?_
  refine zK_putz (mi := mX12_rule) (la' := [(3470, (0 : Int32)), (3473, (0 : Int32)), (3474, (nI 64)), (3475, m_lengthn1), (3476, m_topn2), (3477, m_atn3), (3478, m_wrongn4), (3483, m_ruleSize), (3484, (0 : Int32)), (3485, m_askedHorse), (3486, m_askedFence), (3487, m_askedLetter), (3488, m_askedHeight)]) zW_ok dX12_rule_28 F_X12_213 P_12_28 zW_54 rfl (by decide) (by decide) rfl rfl ?_
  refine zJ_iload_n dX12_rule_31 rfl rfl ?_
  have hj_X12_rule_71 : ∀ (m_at_71j : Int32) (m_wrong_71j : Int32), j_X12_rule_71 m_typed m_text m_rule m_lengthn1 m_topn2 m_at_71j m_wrong_71j = some (r, w_m_typed, w_m_thrown, w_m_length, w_m_top, w_m_at, w_m_wrong, w_m_ruleSize, w_m_isAsked, w_m_rule) → zJ l zW 205 mX12_rule σ ([(3470, (0 : Int32)), (3473, (0 : Int32)), (3474, (nI 64)), (3475, m_lengthn1), (3476, m_topn2), (3477, m_at_71j), (3478, m_wrong_71j), (3483, m_ruleSize), (3484, (0 : Int32)), (3485, m_askedHorse), (3486, m_askedFence), (3487, m_askedLetter), (3488, m_askedHeight)], [(56, m_kind), (58, m_feet), (59, m_stride), (60, m_scope), (61, m_care), (64, m_text), (69, m_rule)], []) 71 [(0, .ref 54), (1, .int m_typed)] [] (some (.int r)) ([(3470, w_m_typed), (3473, w_m_thrown), (3474, (nI 64)), (3475, w_m_length), (3476, w_m_top), (3477, w_m_at), (3478, w_m_wrong), (3483, w_m_ruleSize), (3484, w_m_isAsked), (3485, m_askedHorse), (3486, m_askedFence), (3487, m_askedLetter), (3488, m_askedHeight)], [(56, m_kind), (58, m_feet), (59, m_stride), (60, m_scope), (61, m_care), (64, m_text), (69, w_m_rule)], []) := by
    intro m_at_71j m_wrong_71j h
    unfold j_X12_rule_71 at h
    refine zJ_iconst dX12_rule_71 zc_0 rfl ?_
    refine zJ_istore_n (ls' := [(2, .int (0 : Int32)), (0, .ref 54), (1, .int m_typed)]) dX12_rule_72 rfl rfl rfl ?_
    have hk73 : ∀ (m_rule_73x : (Nat → Int32)), k_X12_rule_73 m_typed m_lengthn1 m_topn2 m_at_71j m_wrong_71j m_rule_73x = some (r, w_m_typed, w_m_thrown, w_m_length, w_m_top, w_m_at, w_m_wrong, w_m_ruleSize, w_m_isAsked, w_m_rule) → zJ l zW 205 mX12_rule σ ([(3470, (0 : Int32)), (3473, (0 : Int32)), (3474, (nI 64)), (3475, m_lengthn1), (3476, m_topn2), (3477, m_at_71j), (3478, m_wrong_71j), (3483, m_ruleSize), (3484, (0 : Int32)), (3485, m_askedHorse), (3486, m_askedFence), (3487, m_askedLetter), (3488, m_askedHeight)], [(56, m_kind), (58, m_feet), (59, m_stride), (60, m_scope), (61, m_care), (64, m_text), (69, m_rule_73x)], []) 96 [(0, .ref 54), (1, .int m_typed)] [] (some (.int r)) ([(3470, w_m_typed), (3473, w_m_thrown), (3474, (nI 64)), (3475, w_m_length), (3476, w_m_top), (3477, w_m_at), (3478, w_m_wrong), (3483, w_m_ruleSize), (3484, w_m_isAsked), (3485, m_askedHorse), (3486, m_askedFence), (3487, m_askedLetter), (3488, m_askedHeight)], [(56, m_kind), (58, m_feet), (59, m_stride), (60, m_scope), (61, m_care), (64, m_text), (69, w_m_rule)], []) := by
      intro m_rule_73x h
      unfold k_X12_rule_73 at h
      refine zJ_aload_n dX12_rule_96 rfl rfl ?_
      refine zJ_iload_n dX12_rule_97 rfl rfl ?_
      refine zK_puti (mi := mX12_rule) (la' := [(3470, (0 : Int32)), (3473, (0 : Int32)), (3474, (nI 64)), (3475, m_lengthn1), (3476, m_topn2), (3477, m_at_71j), (3478, m_wrong_71j), (3483, m_typed), (3484, (0 : Int32)), (3485, m_askedHorse), (3486, m_askedFence), (3487, m_askedLetter), (3488, m_askedHeight)]) zW_ok dX12_rule_98 F_X12_235 P_12_27 zW_54 rfl rfl rfl ?_
      refine zJ_iconst dX12_rule_101 zc_0 rfl ?_
      obtain ⟨rfl, rfl, rfl, rfl, rfl, rfl, rfl, rfl, rfl, rfl⟩ := so10 h
      exact zJ_iret dX12_rule_102 rfl rfl
    refine zJ_loc (ls' := [(0, .ref 54), (1, .int m_typed), (2, .int (0 : Int32))]) (zll_c rfl (zll_c rfl (zll_c rfl zll_n))) ?_
    refine ml2_J (fun (v2_73 : Int32) (m_rule_73 : (Nat → Int32)) => zJ l zW 205 mX12_rule σ ([(3470, (0 : Int32)), (3473, (0 : Int32)), (3474, (nI 64)), (3475, m_lengthn1), (3476, m_topn2), (3477, m_at_71j), (3478, m_wrong_71j), (3483, m_ruleSize), (3484, (0 : Int32)), (3485, m_askedHorse), (3486, m_askedFence), (3487, m_askedLetter), (3488, m_askedHeight)], [(56, m_kind), (58, m_feet), (59, m_stride), (60, m_scope), (61, m_care), (64, m_text), (69, m_rule_73)], []) 73 [(0, .ref 54), (1, .int m_typed), (2, .int v2_73)] [] (some (.int r)) ([(3470, w_m_typed), (3473, w_m_thrown), (3474, (nI 64)), (3475, w_m_length), (3476, w_m_top), (3477, w_m_at), (3478, w_m_wrong), (3483, w_m_ruleSize), (3484, w_m_isAsked), (3485, m_askedHorse), (3486, m_askedFence), (3487, m_askedLetter), (3488, m_askedHeight)], [(56, m_kind), (58, m_feet), (59, m_stride), (60, m_scope), (61, m_care), (64, m_text), (69, w_m_rule)], [])) (fun rc73 hrc73 v2_73 m_rule_73 h => ?_) zN _ _ h
    unfold s_X12_rule_73 at h
    refine zJ_iload_n dX12_rule_73 rfl rfl ?_
    refine zJ_iload_n dX12_rule_74 rfl rfl ?_
    refine zJ_icmp_ge (tgt := 96) dX12_rule_75 (by decide) rfl (fun hc => ?_) (fun hc => ?_)
    · replace h := it_t hc h
      refine zJ_loc (ls' := [(0, .ref 54), (1, .int m_typed)]) (zll_c rfl (zll_c rfl zll_n)) ?_
      exact hk73 _ h
    · replace h := it_f hc h
      refine zJ_aload_n dX12_rule_78 rfl rfl ?_
      refine zJ_getr (mi := mX12_rule) dX12_rule_79 F_X12_58 zW_54 rfl rfl ?_
      refine zJ_iload_n dX12_rule_82 rfl rfl ?_
      refine zJ_aload_n dX12_rule_83 rfl rfl ?_
      refine zJ_getr (mi := mX12_rule) dX12_rule_84 F_X12_41 zW_54 rfl rfl ?_
      refine zJ_iload_n dX12_rule_87 rfl rfl ?_
      obtain ⟨hg, h⟩ := gd_some h
      refine zJ_bald (mi := mX12_rule) (f := m_text) dX12_rule_88 zW_64 (ix_in hg) rfl rfl ?_
      obtain ⟨hg, h⟩ := gd_some h
      refine zK_bast (mi := mX12_rule) (f := m_rule_73) (lb' := [(56, m_kind), (58, m_feet), (59, m_stride), (60, m_scope), (61, m_care), (64, m_text), (69, (upd m_rule_73 v2_73.toNatClampNeg (vp_nar .byte (m_text v2_73.toNatClampNeg))))]) dX12_rule_89 zW_69 (ix_in hg) rfl rfl rfl ?_
      obtain ⟨v2n5, ev2n5, h⟩ := lt1_some h
      refine zJ_iincN (ls' := [(2, .int v2n5), (0, .ref 54), (1, .int m_typed)]) dX12_rule_90 rfl rfl zc_1 ev2n5 rfl rfl ?_
      refine zJ_goto (tgt := 73) dX12_rule_93 (by decide) ?_
      refine zJ_loc (ls' := [(0, .ref 54), (1, .int m_typed), (2, .int v2n5)]) (zll_c rfl (zll_c rfl (zll_c rfl zll_n))) ?_
      exact hrc73 _ _ h
  refine zJ_if_le (tgt := 71) dX12_rule_32 (by decide) rfl (fun hc => ?_) (fun hc => ?_)
  · replace h := it_t hc h
    refine zJ_loc (ls' := [(0, .ref 54), (1, .int m_typed)]) (zll_c rfl (zll_c rfl zll_n)) ?_
    exact hj_X12_rule_71 _ _ h
  · replace h := it_f hc h
    refine zJ_aload_n dX12_rule_35 rfl rfl ?_
    refine zJ_iconst dX12_rule_36 zc_0 rfl ?_
    obtain ⟨rn6, m_atn7, m_wrongn8, hcl, h⟩ := bd3_some h
    refine zJ_callV2 (σ := σ) (L := ([(3470, (0 : Int32)), (3473, (0 : Int32)), (3474, (nI 64)), (3475, m_lengthn1), (3476, m_topn2), (3477, m_atn3), (3478, m_wrongn4), (3483, m_ruleSize), (3484, (0 : Int32)), (3485, m_askedHorse), (3486, m_askedFence), (3487, m_askedLetter), (3488, m_askedHeight)], [(56, m_kind), (58, m_feet), (59, m_stride), (60, m_scope), (61, m_care), (64, m_text), (69, m_rule)], [])) (mi := mX12_rule) (yi := mX12_held) (as := [.int (0 : Int32)]) (st := []) (L2 := ([(3470, (0 : Int32)), (3473, (0 : Int32)), (3474, (nI 64)), (3475, m_lengthn1), (3476, m_topn2), (3477, m_atn7), (3478, m_wrongn8), (3483, m_ruleSize), (3484, (0 : Int32)), (3485, m_askedHorse), (3486, m_askedFence), (3487, m_askedLetter), (3488, m_askedHeight)], [(56, m_kind), (58, m_feet), (59, m_stride), (60, m_scope), (61, m_care), (64, m_text), (69, m_rule)], [])) dX12_rule_37 ML_X12_210 Yv_X12_held rfl zW_54 rfl rfl (t_X12_held_t l _ 200 hcl) (zsub_i (zle_c rfl (zle_c rfl (zle_c rfl (zle_c rfl (zle_c rfl (zle_c rfl (zle_c rfl (zle_c rfl (zle_c rfl (zle_c rfl zle_n)))))))))) (zle_c rfl (zle_c rfl (zle_c rfl (zle_c rfl (zle_c rfl (zle_c rfl zle_n)))))) zle_n) (zjok_i rfl rfl (zle_c rfl (zle_c rfl (zle_c rfl (zle_c rfl (zle_c rfl (zle_c rfl (zle_c rfl (zle_c rfl (zle_c rfl (zle_c rfl (zle_c rfl (zle_c rfl (zle_c rfl zle_n))))))))))))) rfl rfl (zle_c rfl (zle_c rfl (zle_c rfl (zle_c rfl (zle_c rfl (zle_c rfl (zle_c rfl zle_n))))))) rfl rfl zle_n) (Nat.le_of_ble_eq_true rfl) (Nat.le_of_ble_eq_true rfl) rfl rfl ?_
    refine zJ_pop dX12_rule_40 rfl rfl ?_
    refine zJ_aload_n dX12_rule_41 rfl rfl ?_
    refine zJ_geti (mi := mX12_rule) (x := m_atn7) dX12_rule_42 F_X12_151 zW_54 rfl rfl rfl ?_
    refine zJ_iload_n dX12_rule_45 rfl rfl ?_
    refine zJ_icmp_ge (tgt := 57) dX12_rule_46 (by decide) rfl (fun hc => ?_) (fun hc => ?_)
    · replace h := it_t hc h
      refine zJ_aload_n dX12_rule_57 rfl rfl ?_
      obtain ⟨rn9, hcl, h⟩ := bd1_some h
      refine zJ_callV2 (σ := σ) (L := ([(3470, (0 : Int32)), (3473, (0 : Int32)), (3474, (nI 64)), (3475, m_lengthn1), (3476, m_topn2), (3477, m_atn7), (3478, m_wrongn8), (3483, m_ruleSize), (3484, (0 : Int32)), (3485, m_askedHorse), (3486, m_askedFence), (3487, m_askedLetter), (3488, m_askedHeight)], [(56, m_kind), (58, m_feet), (59, m_stride), (60, m_scope), (61, m_care), (64, m_text), (69, m_rule)], [])) (mi := mX12_rule) (yi := mX12_fine) (as := []) (st := []) (L2 := ([(3470, (0 : Int32)), (3473, (0 : Int32)), (3474, (nI 64)), (3475, m_lengthn1), (3476, m_topn2), (3477, m_atn7), (3478, m_wrongn8), (3483, m_ruleSize), (3484, (0 : Int32)), (3485, m_askedHorse), (3486, m_askedFence), (3487, m_askedLetter), (3488, m_askedHeight)], [(56, m_kind), (58, m_feet), (59, m_stride), (60, m_scope), (61, m_care), (64, m_text), (69, m_rule)], [])) dX12_rule_58 ML_X12_157 Yv_X12_fine rfl zW_54 rfl rfl (t_X12_fine l _ hcl) (zsub_i (zle_c rfl zle_n) zle_n zle_n) (zjok_i rfl rfl (zle_c rfl (zle_c rfl (zle_c rfl (zle_c rfl (zle_c rfl (zle_c rfl (zle_c rfl (zle_c rfl (zle_c rfl (zle_c rfl (zle_c rfl (zle_c rfl (zle_c rfl zle_n))))))))))))) rfl rfl (zle_c rfl (zle_c rfl (zle_c rfl (zle_c rfl (zle_c rfl (zle_c rfl (zle_c rfl zle_n))))))) rfl rfl zle_n) (Nat.le_of_ble_eq_true rfl) (Nat.le_of_ble_eq_true rfl) rfl rfl ?_
      refine zJ_if_ne (tgt := 71) dX12_rule_61 (by decide) rfl (fun hc => ?_) (fun hc => ?_)
      · replace h := it_f hc h
        refine zJ_loc (ls' := [(0, .ref 54), (1, .int m_typed)]) (zll_c rfl (zll_c rfl zll_n)) ?_
        exact hj_X12_rule_71 _ _ h
      · replace h := it_t hc h
        refine zJ_iconst dX12_rule_64 zc_m1 rfl ?_
        refine zJ_aload_n dX12_rule_65 rfl rfl ?_
        refine zJ_geti (mi := mX12_rule) (x := m_wrongn8) dX12_rule_66 F_X12_154 zW_54 rfl rfl rfl ?_
        refine zJ_isub dX12_rule_69 rfl ?_
        obtain ⟨rfl, rfl, rfl, rfl, rfl, rfl, rfl, rfl, rfl, rfl⟩ := so10 h
        exact zJ_iret dX12_rule_70 rfl rfl
    · replace h := it_f hc h
      refine zJ_aload_n dX12_rule_49 rfl rfl ?_
      refine zJ_aload_n dX12_rule_50 rfl rfl ?_
      refine zJ_geti (mi := mX12_rule) (x := m_atn7) dX12_rule_51 F_X12_151 zW_54 rfl rfl rfl ?_
      obtain ⟨m_wrongn10, hcl, h⟩ := bd1_some h
      refine zJ_callV2 (σ := σ) (L := ([(3470, (0 : Int32)), (3473, (0 : Int32)), (3474, (nI 64)), (3475, m_lengthn1), (3476, m_topn2), (3477, m_atn7), (3478, m_wrongn8), (3483, m_ruleSize), (3484, (0 : Int32)), (3485, m_askedHorse), (3486, m_askedFence), (3487, m_askedLetter), (3488, m_askedHeight)], [(56, m_kind), (58, m_feet), (59, m_stride), (60, m_scope), (61, m_care), (64, m_text), (69, m_rule)], [])) (mi := mX12_rule) (yi := mX12_fault) (as := [.int m_atn7]) (st := []) (L2 := ([(3470, (0 : Int32)), (3473, (0 : Int32)), (3474, (nI 64)), (3475, m_lengthn1), (3476, m_topn2), (3477, m_atn7), (3478, m_wrongn10), (3483, m_ruleSize), (3484, (0 : Int32)), (3485, m_askedHorse), (3486, m_askedFence), (3487, m_askedLetter), (3488, m_askedHeight)], [(56, m_kind), (58, m_feet), (59, m_stride), (60, m_scope), (61, m_care), (64, m_text), (69, m_rule)], [])) dX12_rule_54 ML_X12_169 Yv_X12_fault rfl zW_54 rfl rfl (t_X12_fault l _ hcl) (zsub_i (zle_c rfl zle_n) zle_n zle_n) (zjok_i rfl rfl (zle_c rfl (zle_c rfl (zle_c rfl (zle_c rfl (zle_c rfl (zle_c rfl (zle_c rfl (zle_c rfl (zle_c rfl (zle_c rfl (zle_c rfl (zle_c rfl (zle_c rfl zle_n))))))))))))) rfl rfl (zle_c rfl (zle_c rfl (zle_c rfl (zle_c rfl (zle_c rfl (zle_c rfl (zle_c rfl zle_n))))))) rfl rfl zle_n) (Nat.le_of_ble_eq_true rfl) (Nat.le_of_ble_eq_true rfl) rfl rfl ?_
      refine zJ_aload_n dX12_rule_57 rfl rfl ?_
      obtain ⟨rn11, hcl, h⟩ := bd1_some h
      refine zJ_callV2 (σ := σ) (L := ([(3470, (0 : Int32)), (3473, (0 : Int32)), (3474, (nI 64)), (3475, m_lengthn1), (3476, m_topn2), (3477, m_atn7), (3478, m_wrongn10), (3483, m_ruleSize), (3484, (0 : Int32)), (3485, m_askedHorse), (3486, m_askedFence), (3487, m_askedLetter), (3488, m_askedHeight)], [(56, m_kind), (58, m_feet), (59, m_stride), (60, m_scope), (61, m_care), (64, m_text), (69, m_rule)], [])) (mi := mX12_rule) (yi := mX12_fine) (as := []) (st := []) (L2 := ([(3470, (0 : Int32)), (3473, (0 : Int32)), (3474, (nI 64)), (3475, m_lengthn1), (3476, m_topn2), (3477, m_atn7), (3478, m_wrongn10), (3483, m_ruleSize), (3484, (0 : Int32)), (3485, m_askedHorse), (3486, m_askedFence), (3487, m_askedLetter), (3488, m_askedHeight)], [(56, m_kind), (58, m_feet), (59, m_stride), (60, m_scope), (61, m_care), (64, m_text), (69, m_rule)], [])) dX12_rule_58 ML_X12_157 Yv_X12_fine rfl zW_54 rfl rfl (t_X12_fine l _ hcl) (zsub_i (zle_c rfl zle_n) zle_n zle_n) (zjok_i rfl rfl (zle_c rfl (zle_c rfl (zle_c rfl (zle_c rfl (zle_c rfl (zle_c rfl (zle_c rfl (zle_c rfl (zle_c rfl (zle_c rfl (zle_c rfl (zle_c rfl (zle_c rfl zle_n))))))))))))) rfl rfl (zle_c rfl (zle_c rfl (zle_c rfl (zle_c rfl (zle_c rfl (zle_c rfl (zle_c rfl zle_n))))))) rfl rfl zle_n) (Nat.le_of_ble_eq_true rfl) (Nat.le_of_ble_eq_true rfl) rfl rfl ?_
      refine zJ_if_ne (tgt := 71) dX12_rule_61 (by decide) rfl (fun hc => ?_) (fun hc => ?_)
      · replace h := it_f hc h
        refine zJ_loc (ls' := [(0, .ref 54), (1, .int m_typed)]) (zll_c rfl (zll_c rfl zll_n)) ?_
        exact hj_X12_rule_71 _ _ h
      · replace h := it_t hc h
        refine zJ_iconst dX12_rule_64 zc_m1 rfl ?_
        refine zJ_aload_n dX12_rule_65 rfl rfl ?_
        refine zJ_geti (mi := mX12_rule) (x := m_wrongn10) dX12_rule_66 F_X12_154 zW_54 rfl rfl rfl ?_
        refine zJ_isub dX12_rule_69 rfl ?_
        obtain ⟨rfl, rfl, rfl, rfl, rfl, rfl, rfl, rfl, rfl, rfl⟩ := so10 h
        exact zJ_iret dX12_rule_70 rfl rfl
