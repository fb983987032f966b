set_option maxRecDepth 100000 in
set_option maxHeartbeats 4000000 in
theorem t_X12_parts (l : Launch) (σ : zS) {m_rowMany : Int32} {m_thrown : Int32} {m_now : (Nat → Int32)} {m_part : (Nat → Int32)} {m_row : (Nat → Int64)} {r : Int32} {w_m_rowMany : Int32} {w_m_thrown : Int32} {w_m_part : (Nat → Int32)} {w_m_row : (Nat → Int64)} (h : f_X12_parts m_rowMany m_thrown m_now m_part m_row = some (r, w_m_rowMany, w_m_thrown, w_m_part, w_m_row)) : zMt l zW 2 mX12_parts σ ([(3472, m_rowMany), (3473, m_thrown)], [(55, m_now), (83, m_part)], [(65, m_row)]) [.ref 54] (some (.int r)) ([(3472, w_m_rowMany), (3473, w_m_thrown)], [(55, m_now), (83, w_m_part)], [(65, w_m_row)]) := by
  refine zMt_of (ls := [(0, .ref 54)]) (by decide) rfl (fun _ => Nat.le_of_ble_eq_true rfl) rfl ?_
  unfold f_X12_parts at h
  refine zJ_aload_n dX12_parts_0 rfl rfl ?_
  refine zJ_iconst dX12_parts_1 zc_0 rfl ?_
  refine zK_puti (mi := mX12_parts) (la' := [(3472, m_rowMany), (3473, (0 : Int32))]) zW_ok dX12_parts_2 F_X12_113 P_12_17 zW_54 rfl rfl rfl ?_
  refine zJ_iconst dX12_parts_5 zc_0 rfl ?_
  refine zJ_istore_n (ls' := [(1, .int (0 : Int32)), (0, .ref 54)]) dX12_parts_6 rfl rfl rfl ?_
  refine zJ_ldc_w (v := 100000000) dX12_parts_7 C_X12_272 rfl ?_
  refine zJ_istore_n (ls' := [(2, .int (100000000 : Int32)), (1, .int (0 : Int32)), (0, .ref 54)]) dX12_parts_10 rfl rfl rfl ?_
  refine zJ_iconst dX12_parts_11 zc_0 rfl ?_
  refine zJ_istore_n (ls' := [(3, .int (0 : Int32)), (2, .int (100000000 : Int32)), (1, .int (0 : Int32)), (0, .ref 54)]) dX12_parts_12 rfl rfl rfl ?_
  have hk13 : ∀ (v1_13x : Int32) (v2_13x : Int32) (m_part_13x : (Nat → Int32)), k_X12_parts_13 m_now m_row v1_13x v2_13x m_part_13x = some (r, w_m_rowMany, w_m_thrown, w_m_part, w_m_row) → zJ l zW 2 mX12_parts σ ([(3472, m_rowMany), (3473, (0 : Int32))], [(55, m_now), (83, m_part_13x)], [(65, m_row)]) 47 [(0, .ref 54), (1, .int v1_13x), (2, .int v2_13x)] [] (some (.int r)) ([(3472, w_m_rowMany), (3473, w_m_thrown)], [(55, m_now), (83, w_m_part)], [(65, w_m_row)]) := by
    intro v1_13x v2_13x m_part_13x h
    unfold k_X12_parts_13 at h
    refine zJ_aload_n dX12_parts_47 rfl rfl ?_
    refine zJ_iload_n dX12_parts_48 rfl rfl ?_
    obtain ⟨rn1, m_partn2, hcl, h⟩ := bd2_some h
    refine zJ_callV (mi := mX12_parts) (yi := mX12_offBy) (as := [.int v1_13x]) (st := []) (L2 := ([(3472, m_rowMany), (3473, (0 : Int32))], [(55, m_now), (83, m_partn2)], [(65, m_row)])) dX12_parts_49 ML_X12_432 Yv_X12_offBy rfl zW_54 rfl rfl (t_X12_offBy l _ hcl) (zsub_i zle_n (zle_c rfl (zle_c rfl zle_n)) zle_n) rfl (Nat.le_of_ble_eq_true rfl) (Nat.le_of_ble_eq_true rfl) rfl rfl ?_
    refine zJ_pop dX12_parts_52 rfl rfl ?_
    refine zJ_iconst dX12_parts_53 zc_0 rfl ?_
    refine zJ_istore_n (ls' := [(3, .int (0 : Int32)), (0, .ref 54), (1, .int v1_13x), (2, .int v2_13x)]) dX12_parts_54 rfl rfl rfl ?_
    refine zJ_iconst dX12_parts_55 zc_0 rfl ?_
    refine zJ_istore (ls' := [(4, .int (0 : Int32)), (3, .int (0 : Int32)), (0, .ref 54), (1, .int v1_13x), (2, .int v2_13x)]) dX12_parts_56 rfl rfl rfl ?_
    have hk58 : ∀ (v3_58x : Int32), k_X12_parts_58 m_row v2_13x m_partn2 v3_58x = some (r, w_m_rowMany, w_m_thrown, w_m_part, w_m_row) → zJ l zW 2 mX12_parts σ ([(3472, m_rowMany), (3473, (0 : Int32))], [(55, m_now), (83, m_partn2)], [(65, m_row)]) 112 [(0, .ref 54), (2, .int v2_13x), (3, .int v3_58x)] [] (some (.int r)) ([(3472, w_m_rowMany), (3473, w_m_thrown)], [(55, m_now), (83, w_m_part)], [(65, w_m_row)]) := by
      intro v3_58x h
      unfold k_X12_parts_58 at h
      refine zJ_aload_n dX12_parts_112 rfl rfl ?_
      refine zJ_iconst dX12_parts_113 zc_0 rfl ?_
      refine zK_puti (mi := mX12_parts) (la' := [(3472, (0 : Int32)), (3473, (0 : Int32))]) zW_ok dX12_parts_114 F_X12_116 P_12_16 zW_54 rfl rfl rfl ?_
      refine zJ_iconst dX12_parts_117 zc_0 rfl ?_
      refine zJ_istore (ls' := [(4, .int (0 : Int32)), (0, .ref 54), (2, .int v2_13x), (3, .int v3_58x)]) dX12_parts_118 rfl rfl rfl ?_
      have hk120 : ∀ (m_rowMany_120x : Int32) (m_row_120x : (Nat → Int64)), k_X12_parts_120 v2_13x m_partn2 v3_58x m_rowMany_120x m_row_120x = some (r, w_m_rowMany, w_m_thrown, w_m_part, w_m_row) → zJ l zW 2 mX12_parts σ ([(3472, m_rowMany_120x), (3473, (0 : Int32))], [(55, m_now), (83, m_partn2)], [(65, m_row_120x)]) 145 [(0, .ref 54), (2, .int v2_13x), (3, .int v3_58x)] [] (some (.int r)) ([(3472, w_m_rowMany), (3473, w_m_thrown)], [(55, m_now), (83, w_m_part)], [(65, w_m_row)]) := by
        intro m_rowMany_120x m_row_120x h
        unfold k_X12_parts_120 at h
        refine zJ_aload_n dX12_parts_145 rfl rfl ?_
        refine zJ_iload_n dX12_parts_146 rfl rfl ?_
        refine zJ_i2l dX12_parts_147 rfl ?_
        obtain ⟨m_rowManyn3, m_rown4, hcl, h⟩ := bd2_some h
        refine zJ_callV (mi := mX12_parts) (yi := mX12_tell) (as := [.long v3_58x.toInt64]) (st := []) (L2 := ([(3472, m_rowManyn3), (3473, (0 : Int32))], [(55, m_now), (83, m_partn2)], [(65, m_rown4)])) dX12_parts_148 ML_X12_265 Yv_X12_tell rfl zW_54 rfl rfl (t_X12_tell l _ hcl) (zsub_i (zle_c rfl zle_n) zle_n (zle_c rfl zle_n)) rfl (Nat.le_of_ble_eq_true rfl) (Nat.le_of_ble_eq_true rfl) rfl rfl ?_
        refine zJ_iload_n dX12_parts_151 rfl rfl ?_
        obtain ⟨rfl, rfl, rfl, rfl, rfl⟩ := so5 h
        exact zJ_iret dX12_parts_152 rfl rfl
      refine zJ_loc (ls' := [(0, .ref 54), (2, .int v2_13x), (3, .int v3_58x), (4, .int (0 : Int32))]) (zll_c rfl (zll_c rfl (zll_c rfl (zll_c rfl zll_n)))) ?_
      refine ml3_J (fun (v4_120 : Int32) (m_rowMany_120 : Int32) (m_row_120 : (Nat → Int64)) => zJ l zW 2 mX12_parts σ ([(3472, m_rowMany_120), (3473, (0 : Int32))], [(55, m_now), (83, m_partn2)], [(65, m_row_120)]) 120 [(0, .ref 54), (2, .int v2_13x), (3, .int v3_58x), (4, .int v4_120)] [] (some (.int r)) ([(3472, w_m_rowMany), (3473, w_m_thrown)], [(55, m_now), (83, w_m_part)], [(65, w_m_row)])) (fun rc120 hrc120 v4_120 m_rowMany_120 m_row_120 h => ?_) zN _ _ _ h
      unfold s_X12_parts_120 at h
      refine zJ_iload dX12_parts_120 rfl rfl ?_
      refine zJ_bipush dX12_parts_122 zb_6 rfl ?_
      refine zJ_icmp_ge (tgt := 145) dX12_parts_124 (by decide) rfl (fun hc => ?_) (fun hc => ?_)
      · replace h := it_t hc h
        refine zJ_loc (ls' := [(0, .ref 54), (2, .int v2_13x), (3, .int v3_58x)]) (zll_c rfl (zll_c rfl (zll_c rfl zll_n))) ?_
        exact hk120 _ _ h
      · replace h := it_f hc h
        refine zJ_aload_n dX12_parts_127 rfl rfl ?_
        refine zJ_aload_n dX12_parts_128 rfl rfl ?_
        refine zJ_getr (mi := mX12_parts) dX12_parts_129 F_X12_100 zW_54 rfl rfl ?_
        refine zJ_iload dX12_parts_132 rfl rfl ?_
        obtain ⟨hg, h⟩ := gd_some h
        refine zJ_iald (mi := mX12_parts) (f := m_partn2) dX12_parts_134 zW_83 (ix_in hg) rfl rfl ?_
        refine zJ_i2l dX12_parts_135 rfl ?_
        obtain ⟨m_rowManyn5, m_rown6, hcl, h⟩ := bd2_some h
        refine zJ_callV (mi := mX12_parts) (yi := mX12_tell) (as := [.long ((m_partn2 v4_120.toNatClampNeg)).toInt64]) (st := []) (L2 := ([(3472, m_rowManyn5), (3473, (0 : Int32))], [(55, m_now), (83, m_partn2)], [(65, m_rown6)])) dX12_parts_136 ML_X12_265 Yv_X12_tell rfl zW_54 rfl rfl (t_X12_tell l _ hcl) (zsub_i (zle_c rfl zle_n) zle_n (zle_c rfl zle_n)) rfl (Nat.le_of_ble_eq_true rfl) (Nat.le_of_ble_eq_true rfl) rfl rfl ?_
        obtain ⟨v4n7, ev4n7, h⟩ := lt1_some h
        refine zJ_iincN (ls' := [(4, .int v4n7), (0, .ref 54), (2, .int v2_13x), (3, .int v3_58x)]) dX12_parts_139 rfl rfl zc_1 ev4n7 rfl rfl ?_
        refine zJ_goto (tgt := 120) dX12_parts_142 (by decide) ?_
        refine zJ_loc (ls' := [(0, .ref 54), (2, .int v2_13x), (3, .int v3_58x), (4, .int v4n7)]) (zll_c rfl (zll_c rfl (zll_c rfl (zll_c rfl zll_n)))) ?_
        exact hrc120 _ _ _ h
    refine zJ_loc (ls' := [(0, .ref 54), (2, .int v2_13x), (3, .int (0 : Int32)), (4, .int (0 : Int32))]) (zll_c rfl (zll_c rfl (zll_c rfl (zll_c rfl zll_n)))) ?_
    refine ml2_J (fun (v3_58 : Int32) (v4_58 : Int32) => zJ l zW 2 mX12_parts σ ([(3472, m_rowMany), (3473, (0 : Int32))], [(55, m_now), (83, m_partn2)], [(65, m_row)]) 58 [(0, .ref 54), (2, .int v2_13x), (3, .int v3_58), (4, .int v4_58)] [] (some (.int r)) ([(3472, w_m_rowMany), (3473, w_m_thrown)], [(55, m_now), (83, w_m_part)], [(65, w_m_row)])) (fun rc58 hrc58 v3_58 v4_58 h => ?_) zN _ _ h
    unfold s_X12_parts_58 at h
    refine zJ_iload dX12_parts_58 rfl rfl ?_
    refine zJ_aload_n dX12_parts_60 rfl rfl ?_
    refine zJ_getr (mi := mX12_parts) dX12_parts_61 F_X12_9 zW_54 rfl rfl ?_
    refine zJ_bipush dX12_parts_64 zb_48 rfl ?_
    obtain ⟨hg, h⟩ := gd_some h
    refine zJ_iald (mi := mX12_parts) (f := m_now) dX12_parts_66 zW_55 (ix_in hg) rfl rfl ?_
    refine zJ_icmp_ge (tgt := 112) dX12_parts_67 (by decide) rfl (fun hc => ?_) (fun hc => ?_)
    · replace h := it_t hc h
      refine zJ_loc (ls' := [(0, .ref 54), (2, .int v2_13x), (3, .int v3_58)]) (zll_c rfl (zll_c rfl (zll_c rfl zll_n))) ?_
      exact hk58 _ h
    · replace h := it_f hc h
      refine zJ_iload_n dX12_parts_70 rfl rfl ?_
      refine zJ_aload_n dX12_parts_71 rfl rfl ?_
      refine zJ_getr (mi := mX12_parts) dX12_parts_72 F_X12_9 zW_54 rfl rfl ?_
      refine zJ_iconst dX12_parts_75 zc_4 rfl ?_
      refine zJ_iload dX12_parts_76 rfl rfl ?_
      refine zJ_imul dX12_parts_78 rfl ?_
      obtain ⟨hg, h⟩ := gd_some h
      refine zJ_iald (mi := mX12_parts) (f := m_now) dX12_parts_79 zW_55 (ix_in hg) rfl rfl ?_
      refine zJ_iconst dX12_parts_80 zc_3 rfl ?_
      refine zJ_icmp_ge (tgt := 103) dX12_parts_81 (by decide) rfl (fun hc => ?_) (fun hc => ?_)
      · replace h := it_t hc h
        refine zJ_iconst dX12_parts_103 zc_0 rfl ?_
        refine zJ_iadd dX12_parts_104 rfl ?_
        obtain ⟨v3n8, ev3n8, h⟩ := lt1_some h
        refine zJ_nmi ev3n8 ?_
        refine zJ_istore_n (ls' := [(3, .int v3n8), (0, .ref 54), (2, .int v2_13x), (4, .int v4_58)]) dX12_parts_105 rfl rfl rfl ?_
        obtain ⟨v4n9, ev4n9, h⟩ := lt1_some h
        refine zJ_iincN (ls' := [(4, .int v4n9), (3, .int v3n8), (0, .ref 54), (2, .int v2_13x)]) dX12_parts_106 rfl rfl zc_1 ev4n9 rfl rfl ?_
        refine zJ_goto (tgt := 58) dX12_parts_109 (by decide) ?_
        refine zJ_loc (ls' := [(0, .ref 54), (2, .int v2_13x), (3, .int v3n8), (4, .int v4n9)]) (zll_c rfl (zll_c rfl (zll_c rfl (zll_c rfl zll_n)))) ?_
        exact hrc58 _ _ h
      · replace h := it_f hc h
        refine zJ_aload_n dX12_parts_84 rfl rfl ?_
        refine zJ_getr (mi := mX12_parts) dX12_parts_85 F_X12_9 zW_54 rfl rfl ?_
        refine zJ_iconst dX12_parts_88 zc_4 rfl ?_
        refine zJ_iload dX12_parts_89 rfl rfl ?_
        refine zJ_imul dX12_parts_91 rfl ?_
        refine zJ_iconst dX12_parts_92 zc_1 rfl ?_
        refine zJ_iadd dX12_parts_93 rfl ?_
        obtain ⟨hg, h⟩ := gd_some h
        refine zJ_iald (mi := mX12_parts) (f := m_now) dX12_parts_94 zW_55 (ix_in hg) rfl rfl ?_
        refine zJ_iconst dX12_parts_95 zc_3 rfl ?_
        refine zJ_icmp_ge (tgt := 103) dX12_parts_96 (by decide) rfl (fun hc => ?_) (fun hc => ?_)
        · replace h := it_t hc h
          refine zJ_iconst dX12_parts_103 zc_0 rfl ?_
          refine zJ_iadd dX12_parts_104 rfl ?_
          obtain ⟨v3n10, ev3n10, h⟩ := lt1_some h
          refine zJ_nmi ev3n10 ?_
          refine zJ_istore_n (ls' := [(3, .int v3n10), (0, .ref 54), (2, .int v2_13x), (4, .int v4_58)]) dX12_parts_105 rfl rfl rfl ?_
          obtain ⟨v4n11, ev4n11, h⟩ := lt1_some h
          refine zJ_iincN (ls' := [(4, .int v4n11), (3, .int v3n10), (0, .ref 54), (2, .int v2_13x)]) dX12_parts_106 rfl rfl zc_1 ev4n11 rfl rfl ?_
          refine zJ_goto (tgt := 58) dX12_parts_109 (by decide) ?_
          refine zJ_loc (ls' := [(0, .ref 54), (2, .int v2_13x), (3, .int v3n10), (4, .int v4n11)]) (zll_c rfl (zll_c rfl (zll_c rfl (zll_c rfl zll_n)))) ?_
          exact hrc58 _ _ h
        · replace h := it_f hc h
          refine zJ_iconst dX12_parts_99 zc_1 rfl ?_
          refine zJ_goto (tgt := 104) dX12_parts_100 (by decide) ?_
          refine zJ_iadd dX12_parts_104 rfl ?_
          obtain ⟨v3n12, ev3n12, h⟩ := lt1_some h
          refine zJ_nmi ev3n12 ?_
          refine zJ_istore_n (ls' := [(3, .int v3n12), (0, .ref 54), (2, .int v2_13x), (4, .int v4_58)]) dX12_parts_105 rfl rfl rfl ?_
          obtain ⟨v4n13, ev4n13, h⟩ := lt1_some h
          refine zJ_iincN (ls' := [(4, .int v4n13), (3, .int v3n12), (0, .ref 54), (2, .int v2_13x)]) dX12_parts_106 rfl rfl zc_1 ev4n13 rfl rfl ?_
          refine zJ_goto (tgt := 58) dX12_parts_109 (by decide) ?_
          refine zJ_loc (ls' := [(0, .ref 54), (2, .int v2_13x), (3, .int v3n12), (4, .int v4n13)]) (zll_c rfl (zll_c rfl (zll_c rfl (zll_c rfl zll_n)))) ?_
          exact hrc58 _ _ h
  refine zJ_loc (ls' := [(0, .ref 54), (1, .int (0 : Int32)), (2, .int (100000000 : Int32)), (3, .int (0 : Int32))]) (zll_c rfl (zll_c rfl (zll_c rfl (zll_c rfl zll_n)))) ?_
  refine ml4_J (fun (v1_13 : Int32) (v2_13 : Int32) (v3_13 : Int32) (m_part_13 : (Nat → Int32)) => zJ l zW 2 mX12_parts σ ([(3472, m_rowMany), (3473, (0 : Int32))], [(55, m_now), (83, m_part_13)], [(65, m_row)]) 13 [(0, .ref 54), (1, .int v1_13), (2, .int v2_13), (3, .int v3_13)] [] (some (.int r)) ([(3472, w_m_rowMany), (3473, w_m_thrown)], [(55, m_now), (83, w_m_part)], [(65, w_m_row)])) (fun rc13 hrc13 v1_13 v2_13 v3_13 m_part_13 h => ?_) zN _ _ _ _ h
  unfold s_X12_parts_13 at h
  refine zJ_iload_n dX12_parts_13 rfl rfl ?_
  refine zJ_sipush dX12_parts_14 zs_15625 rfl ?_
  refine zJ_icmp_ge (tgt := 47) dX12_parts_17 (by decide) rfl (fun hc => ?_) (fun hc => ?_)
  · replace h := it_t hc h
    refine zJ_loc (ls' := [(0, .ref 54), (1, .int v1_13), (2, .int v2_13)]) (zll_c rfl (zll_c rfl (zll_c rfl zll_n))) ?_
    exact hk13 _ _ _ h
  · replace h := it_f hc h
    refine zJ_aload_n dX12_parts_20 rfl rfl ?_
    refine zJ_iload_n dX12_parts_21 rfl rfl ?_
    obtain ⟨rn14, m_partn15, hcl, h⟩ := bd2_some h
    refine zJ_callV (mi := mX12_parts) (yi := mX12_offBy) (as := [.int v3_13]) (st := []) (L2 := ([(3472, m_rowMany), (3473, (0 : Int32))], [(55, m_now), (83, m_partn15)], [(65, m_row)])) dX12_parts_22 ML_X12_432 Yv_X12_offBy rfl zW_54 rfl rfl (t_X12_offBy l _ hcl) (zsub_i zle_n (zle_c rfl (zle_c rfl zle_n)) zle_n) rfl (Nat.le_of_ble_eq_true rfl) (Nat.le_of_ble_eq_true rfl) rfl rfl ?_
    refine zJ_istore (ls' := [(4, .int rn14), (0, .ref 54), (1, .int v1_13), (2, .int v2_13), (3, .int v3_13)]) dX12_parts_25 rfl rfl rfl ?_
    refine zJ_iload dX12_parts_27 rfl rfl ?_
    refine zJ_iload_n dX12_parts_29 rfl rfl ?_
    refine zJ_icmp_lt (tgt := 36) dX12_parts_30 (by decide) rfl (fun hc => ?_) (fun hc => ?_)
    · replace h := it_t hc h
      refine zJ_iload_n dX12_parts_36 rfl rfl ?_
      refine zJ_istore_n (ls' := [(1, .int v3_13), (4, .int rn14), (0, .ref 54), (2, .int v2_13), (3, .int v3_13)]) dX12_parts_37 rfl rfl rfl ?_
      refine zJ_iload dX12_parts_38 rfl rfl ?_
      refine zJ_istore_n (ls' := [(2, .int rn14), (1, .int v3_13), (4, .int rn14), (0, .ref 54), (3, .int v3_13)]) dX12_parts_40 rfl rfl rfl ?_
      obtain ⟨v3n16, ev3n16, h⟩ := lt1_some h
      refine zJ_iincN (ls' := [(3, .int v3n16), (2, .int rn14), (1, .int v3_13), (4, .int rn14), (0, .ref 54)]) dX12_parts_41 rfl rfl zc_1 ev3n16 rfl rfl ?_
      refine zJ_goto (tgt := 13) dX12_parts_44 (by decide) ?_
      refine zJ_loc (ls' := [(0, .ref 54), (1, .int v3_13), (2, .int rn14), (3, .int v3n16)]) (zll_c rfl (zll_c rfl (zll_c rfl (zll_c rfl zll_n)))) ?_
      exact hrc13 _ _ _ _ h
    · replace h := it_f hc h
      refine zJ_goto (tgt := 41) dX12_parts_33 (by decide) ?_
      obtain ⟨v3n17, ev3n17, h⟩ := lt1_some h
      refine zJ_iincN (ls' := [(3, .int v3n17), (4, .int rn14), (0, .ref 54), (1, .int v1_13), (2, .int v2_13)]) dX12_parts_41 rfl rfl zc_1 ev3n17 rfl rfl ?_
      refine zJ_goto (tgt := 13) dX12_parts_44 (by decide) ?_
      refine zJ_loc (ls' := [(0, .ref 54), (1, .int v1_13), (2, .int v2_13), (3, .int v3n17)]) (zll_c rfl (zll_c rfl (zll_c rfl (zll_c rfl zll_n)))) ?_
      exact hrc13 _ _ _ _ h
set_option maxRecDepth 100000 in
set_option maxHeartbeats 4000000 in
theorem t_X12_place (l : Launch) (σ : zS) {p1 : Int32} {p2 : Int32} {m_rowMany : Int32} {m_thrown : Int32} {m_now : (Nat → Int32)} {m_money : (Nat → Int32)} {m_row : (Nat → Int64)} {r : Int32} {w_m_rowMany : Int32} {w_m_thrown : Int32} {w_m_row : (Nat → Int64)} (h : f_X12_place p1 p2 m_rowMany m_thrown m_now m_money m_row = some (r, w_m_rowMany, w_m_thrown, w_m_row)) : zMt l zW 2 mX12_place σ ([(3472, m_rowMany), (3473, m_thrown)], [(55, m_now), (63, m_money)], [(65, m_row)]) [.ref 54, .int p1, .int p2] (some (.int r)) ([(3472, w_m_rowMany), (3473, w_m_thrown)], [(55, m_now), (63, m_money)], [(65, w_m_row)]) := by
  refine zMt_of (ls := [(0, .ref 54), (1, .int p1), (2, .int p2)]) (by decide) rfl (fun _ => Nat.le_of_ble_eq_true rfl) rfl ?_
  unfold f_X12_place at h
  refine zJ_aload_n dX12_place_0 rfl rfl ?_
  refine zJ_iconst dX12_place_1 zc_0 rfl ?_
  refine zK_puti (mi := mX12_place) (la' := [(3472, m_rowMany), (3473, (0 : Int32))]) zW_ok dX12_place_2 F_X12_113 P_12_17 zW_54 rfl rfl rfl ?_
  refine zJ_iload_n dX12_place_5 rfl rfl ?_
  refine zJ_iconst dX12_place_6 zc_0 rfl ?_
  refine zJ_bipush dX12_place_7 zb_99 rfl ?_
  obtain ⟨rn1, hcl, h⟩ := bd1_some h
  refine zJ_callS (mi := mX12_place) (yi := mX12_in) (as := [.int p1, .int (0 : Int32), .int (99 : Int32)]) (st := []) (L2 := ([(3472, m_rowMany), (3473, (0 : Int32))], [(55, m_now), (63, m_money)], [(65, m_row)])) dX12_place_9 ML_X12_122 Ys_X12_in rfl (t_X12_in l _ hcl) (zsub_i zle_n zle_n zle_n) rfl (Nat.le_of_ble_eq_true rfl) (Nat.le_of_ble_eq_true rfl) rfl rfl ?_
  refine zJ_if_eq (tgt := 22) dX12_place_12 (by decide) rfl (fun hc => ?_) (fun hc => ?_)
  · replace h := it_t hc h
    refine zJ_iconst dX12_place_22 zc_m1 rfl ?_
    obtain ⟨rfl, rfl, rfl, rfl⟩ := so4 h
    exact zJ_iret dX12_place_23 rfl rfl
  · replace h := it_f hc h
    refine zJ_iload_n dX12_place_15 rfl rfl ?_
    obtain ⟨rn2, hcl, h⟩ := bd1_some h
    refine zJ_callS (mi := mX12_place) (yi := mX12_isMost) (as := [.int p2]) (st := []) (L2 := ([(3472, m_rowMany), (3473, (0 : Int32))], [(55, m_now), (63, m_money)], [(65, m_row)])) dX12_place_16 ML_X12_256 Ys_X12_isMost rfl (t_X12_isMost l _ hcl) (zsub_i zle_n zle_n zle_n) rfl (Nat.le_of_ble_eq_true rfl) (Nat.le_of_ble_eq_true rfl) rfl rfl ?_
    refine zJ_if_ne (tgt := 24) dX12_place_19 (by decide) rfl (fun hc => ?_) (fun hc => ?_)
    · replace h := it_f hc h
      refine zJ_aload_n dX12_place_24 rfl rfl ?_
      refine zJ_getr (mi := mX12_place) dX12_place_25 F_X12_9 zW_54 rfl rfl ?_
      refine zJ_iload_n dX12_place_28 rfl rfl ?_
      refine zJ_iload_n dX12_place_29 rfl rfl ?_
      obtain ⟨rn3, hcl, h⟩ := bd1_some h
      refine zJ_callS (mi := mX12_place) (yi := mX12_placeFor) (as := [.ref 55, .int p1, .int p2]) (st := []) (L2 := ([(3472, m_rowMany), (3473, (0 : Int32))], [(55, m_now), (63, m_money)], [(65, m_row)])) dX12_place_30 ML_X12_368 Ys_X12_placeFor rfl (t_X12_placeFor_m_now l _ hcl) (zsub_i zle_n (zle_c rfl zle_n) zle_n) rfl (Nat.le_of_ble_eq_true rfl) (Nat.le_of_ble_eq_true rfl) rfl rfl ?_
      refine zJ_istore_n (ls' := [(3, .int rn3), (0, .ref 54), (1, .int p1), (2, .int p2)]) dX12_place_33 rfl rfl rfl ?_
      refine zJ_aload_n dX12_place_34 rfl rfl ?_
      refine zJ_iconst dX12_place_35 zc_0 rfl ?_
      refine zK_puti (mi := mX12_place) (la' := [(3472, (0 : Int32)), (3473, (0 : Int32))]) zW_ok dX12_place_36 F_X12_116 P_12_16 zW_54 rfl rfl rfl ?_
      refine zJ_aload_n dX12_place_39 rfl rfl ?_
      refine zJ_aload_n dX12_place_40 rfl rfl ?_
      refine zJ_iload_n dX12_place_41 rfl rfl ?_
      obtain ⟨rn4, hcl, h⟩ := bd1_some h
      refine zJ_callV (mi := mX12_place) (yi := mX12_moneyOf) (as := [.int rn3]) (st := [.ref 54]) (L2 := ([(3472, (0 : Int32)), (3473, (0 : Int32))], [(55, m_now), (63, m_money)], [(65, m_row)])) dX12_place_42 ML_X12_362 Yv_X12_moneyOf rfl zW_54 rfl rfl (t_X12_moneyOf l _ hcl) (zsub_i zle_n (zle_c rfl zle_n) zle_n) rfl (Nat.le_of_ble_eq_true rfl) (Nat.le_of_ble_eq_true rfl) rfl rfl ?_
      refine zJ_i2l dX12_place_45 rfl ?_
      obtain ⟨m_rowManyn5, m_rown6, hcl, h⟩ := bd2_some h
      refine zJ_callV (mi := mX12_place) (yi := mX12_tell) (as := [.long rn4.toInt64]) (st := []) (L2 := ([(3472, m_rowManyn5), (3473, (0 : Int32))], [(55, m_now), (63, m_money)], [(65, m_rown6)])) dX12_place_46 ML_X12_265 Yv_X12_tell rfl zW_54 rfl rfl (t_X12_tell l _ hcl) (zsub_i (zle_c rfl zle_n) zle_n (zle_c rfl zle_n)) rfl (Nat.le_of_ble_eq_true rfl) (Nat.le_of_ble_eq_true rfl) rfl rfl ?_
      refine zJ_iload_n dX12_place_49 rfl rfl ?_
      obtain ⟨rfl, rfl, rfl, rfl⟩ := so4 h
      exact zJ_iret dX12_place_50 rfl rfl
    · replace h := it_t hc h
      refine zJ_iconst dX12_place_22 zc_m1 rfl ?_
      obtain ⟨rfl, rfl, rfl, rfl⟩ := so4 h
      exact zJ_iret dX12_place_23 rfl rfl
set_option maxRecDepth 100000 in
set_option maxHeartbeats 4000000 in
theorem t_X12_plan (l : Launch) (σ : zS) {m_fences : Int32} {m_plans : Int32} {m_typed : Int32} {m_thrown : Int32} {m_plan : (Nat → Int32)} {m_text : (Nat → Int32)} {r : Int32} {w_m_plans : Int32} {w_m_typed : Int32} {w_m_thrown : Int32} {w_m_plan : (Nat → Int32)} (h : f_X12_plan m_fences m_plans m_typed m_thrown m_plan m_text = some (r, w_m_plans, w_m_typed, w_m_thrown, w_m_plan)) : zMt l zW 1 mX12_plan σ ([(3457, m_fences), (3466, m_plans), (3470, m_typed), (3473, m_thrown)], [(62, m_plan), (64, m_text)], []) [.ref 54] (some (.int r)) ([(3457, m_fences), (3466, w_m_plans), (3470, w_m_typed), (3473, w_m_thrown)], [(62, w_m_plan), (64, m_text)], []) := by
  refine zMt_of (ls := [(0, .ref 54)]) (by decide) rfl (fun _ => Nat.le_of_ble_eq_true rfl) rfl ?_
  unfold f_X12_plan at h
  refine zJ_aload_n dX12_plan_0 rfl rfl ?_
  refine zJ_iconst dX12_plan_1 zc_0 rfl ?_
  refine zK_puti (mi := mX12_plan) (la' := [(3457, m_fences), (3466, m_plans), (3470, m_typed), (3473, (0 : Int32))]) zW_ok dX12_plan_2 F_X12_113 P_12_17 zW_54 rfl rfl rfl ?_
  refine zJ_aload_n dX12_plan_5 rfl rfl ?_
  refine zJ_geti (mi := mX12_plan) (x := m_typed) dX12_plan_6 F_X12_139 zW_54 rfl rfl rfl ?_
  refine zJ_istore_n (ls' := [(1, .int m_typed), (0, .ref 54)]) dX12_plan_9 rfl rfl rfl ?_
  refine zJ_aload_n dX12_plan_10 rfl rfl ?_
  refine zJ_iconst dX12_plan_11 zc_0 rfl ?_
  refine zK_puti (mi := mX12_plan) (la' := [(3457, m_fences), (3466, m_plans), (3470, (0 : Int32)), (3473, (0 : Int32))]) zW_ok dX12_plan_12 F_X12_139 P_12_14 zW_54 rfl rfl rfl ?_
  refine zJ_aload_n dX12_plan_15 rfl rfl ?_
  refine zJ_geti (mi := mX12_plan) (x := m_plans) dX12_plan_16 F_X12_129 zW_54 rfl rfl rfl ?_
  refine zJ_bipush dX12_plan_19 zb_6 rfl ?_
  refine zJ_icmp_ne (tgt := 27) dX12_plan_21 (by decide) rfl (fun hc => ?_) (fun hc => ?_)
  · replace h := it_f hc h
    refine zJ_iconst dX12_plan_27 zc_0 rfl ?_
    refine zJ_istore_n (ls' := [(2, .int (0 : Int32)), (1, .int m_typed), (0, .ref 54)]) dX12_plan_28 rfl rfl rfl ?_
    have hk29 : ∀ (_u : Unit), k_X12_plan_29 m_fences m_plans m_typed m_plan m_text _u = some (r, w_m_plans, w_m_typed, w_m_thrown, w_m_plan) → zJ l zW 1 mX12_plan σ ([(3457, m_fences), (3466, m_plans), (3470, (0 : Int32)), (3473, (0 : Int32))], [(62, m_plan), (64, m_text)], []) 68 [(0, .ref 54), (1, .int m_typed)] [] (some (.int r)) ([(3457, m_fences), (3466, w_m_plans), (3470, w_m_typed), (3473, w_m_thrown)], [(62, w_m_plan), (64, m_text)], []) := by
      intro _u h
      unfold k_X12_plan_29 at h
      refine zJ_iload_n dX12_plan_68 rfl rfl ?_
      refine zJ_aload_n dX12_plan_69 rfl rfl ?_
      refine zJ_geti (mi := mX12_plan) (x := m_fences) dX12_plan_70 F_X12_119 zW_54 rfl rfl rfl ?_
      refine zJ_icmp_ge (tgt := 80) dX12_plan_73 (by decide) rfl (fun hc => ?_) (fun hc => ?_)
      · replace h := it_t hc h
        refine zJ_iconst dX12_plan_80 zc_0 rfl ?_
        refine zJ_istore_n (ls' := [(2, .int (0 : Int32)), (0, .ref 54), (1, .int m_typed)]) dX12_plan_81 rfl rfl rfl ?_
        have hk82 : ∀ (m_plan_82x : (Nat → Int32)), k_X12_plan_82 m_plans m_plan_82x = some (r, w_m_plans, w_m_typed, w_m_thrown, w_m_plan) → zJ l zW 1 mX12_plan σ ([(3457, m_fences), (3466, m_plans), (3470, (0 : Int32)), (3473, (0 : Int32))], [(62, m_plan_82x), (64, m_text)], []) 116 [(0, .ref 54)] [] (some (.int r)) ([(3457, m_fences), (3466, w_m_plans), (3470, w_m_typed), (3473, w_m_thrown)], [(62, w_m_plan), (64, m_text)], []) := by
          intro m_plan_82x h
          unfold k_X12_plan_82 at h
          refine zJ_aload_n dX12_plan_116 rfl rfl ?_
          refine zJ_dup dX12_plan_117 rfl rfl ?_
          refine zJ_geti (mi := mX12_plan) (x := m_plans) dX12_plan_118 F_X12_129 zW_54 rfl rfl rfl ?_
          refine zJ_iconst dX12_plan_121 zc_1 rfl ?_
          refine zJ_iadd dX12_plan_122 rfl ?_
          refine zK_puti (mi := mX12_plan) (la' := [(3457, m_fences), (3466, (m_plans + (1 : Int32))), (3470, (0 : Int32)), (3473, (0 : Int32))]) zW_ok dX12_plan_123 F_X12_129 P_12_10 zW_54 rfl rfl rfl ?_
          refine zJ_aload_n dX12_plan_126 rfl rfl ?_
          refine zJ_geti (mi := mX12_plan) (x := (m_plans + (1 : Int32))) dX12_plan_127 F_X12_129 zW_54 rfl rfl rfl ?_
          refine zJ_iconst dX12_plan_130 zc_1 rfl ?_
          refine zJ_isub dX12_plan_131 rfl ?_
          obtain ⟨rfl, rfl, rfl, rfl, rfl⟩ := so5 h
          exact zJ_iret dX12_plan_132 rfl rfl
        refine zJ_loc (ls' := [(0, .ref 54), (1, .int m_typed), (2, .int (0 : Int32))]) (zll_c rfl (zll_c rfl (zll_c rfl zll_n))) ?_
        refine ml2_J (fun (v2_82 : Int32) (m_plan_82 : (Nat → Int32)) => zJ l zW 1 mX12_plan σ ([(3457, m_fences), (3466, m_plans), (3470, (0 : Int32)), (3473, (0 : Int32))], [(62, m_plan_82), (64, m_text)], []) 82 [(0, .ref 54), (1, .int m_typed), (2, .int v2_82)] [] (some (.int r)) ([(3457, m_fences), (3466, w_m_plans), (3470, w_m_typed), (3473, w_m_thrown)], [(62, w_m_plan), (64, m_text)], [])) (fun rc82 hrc82 v2_82 m_plan_82 h => ?_) zN _ _ h
        unfold s_X12_plan_82 at h
        refine zJ_iload_n dX12_plan_82 rfl rfl ?_
        refine zJ_iload_n dX12_plan_83 rfl rfl ?_
        refine zJ_icmp_ge (tgt := 116) dX12_plan_84 (by decide) rfl (fun hc => ?_) (fun hc => ?_)
        · replace h := it_t hc h
          refine zJ_loc (ls' := [(0, .ref 54)]) (zll_c rfl zll_n) ?_
          exact hk82 _ h
        · replace h := it_f hc h
          refine zJ_aload_n dX12_plan_87 rfl rfl ?_
          refine zJ_getr (mi := mX12_plan) dX12_plan_88 F_X12_35 zW_54 rfl rfl ?_
          refine zJ_bipush dX12_plan_91 zb_8 rfl ?_
          refine zJ_aload_n dX12_plan_93 rfl rfl ?_
          refine zJ_geti (mi := mX12_plan) (x := m_plans) dX12_plan_94 F_X12_129 zW_54 rfl rfl rfl ?_
          refine zJ_imul dX12_plan_97 rfl ?_
          refine zJ_iload_n dX12_plan_98 rfl rfl ?_
          refine zJ_iadd dX12_plan_99 rfl ?_
          refine zJ_aload_n dX12_plan_100 rfl rfl ?_
          refine zJ_getr (mi := mX12_plan) dX12_plan_101 F_X12_41 zW_54 rfl rfl ?_
          refine zJ_iload_n dX12_plan_104 rfl rfl ?_
          obtain ⟨hg, h⟩ := gd_some h
          refine zJ_bald (mi := mX12_plan) (f := m_text) dX12_plan_105 zW_64 (ix_in hg) rfl rfl ?_
          refine zJ_bipush dX12_plan_106 zb_97 rfl ?_
          refine zJ_isub dX12_plan_108 rfl ?_
          obtain ⟨hg, h⟩ := gd_some h
          refine zK_iast (mi := mX12_plan) (f := m_plan_82) (lb' := [(62, (upd m_plan_82 (((8 : Int32) * m_plans) + v2_82).toNatClampNeg ((m_text v2_82.toNatClampNeg) - (97 : Int32)))), (64, m_text)]) dX12_plan_109 zW_62 (ix_in hg) rfl rfl rfl ?_
          obtain ⟨v2n1, ev2n1, h⟩ := lt1_some h
          refine zJ_iincN (ls' := [(2, .int v2n1), (0, .ref 54), (1, .int m_typed)]) dX12_plan_110 rfl rfl zc_1 ev2n1 rfl rfl ?_
          refine zJ_goto (tgt := 82) dX12_plan_113 (by decide) ?_
          refine zJ_loc (ls' := [(0, .ref 54), (1, .int m_typed), (2, .int v2n1)]) (zll_c rfl (zll_c rfl (zll_c rfl zll_n))) ?_
          exact hrc82 _ _ h
      · replace h := it_f hc h
        refine zJ_iconst dX12_plan_76 zc_m1 rfl ?_
        refine zJ_iload_n dX12_plan_77 rfl rfl ?_
        refine zJ_isub dX12_plan_78 rfl ?_
        obtain ⟨rfl, rfl, rfl, rfl, rfl⟩ := so5 h
        exact zJ_iret dX12_plan_79 rfl rfl
    refine zJ_loc (ls' := [(0, .ref 54), (1, .int m_typed), (2, .int (0 : Int32))]) (zll_c rfl (zll_c rfl (zll_c rfl zll_n))) ?_
    refine ml1_J (fun (v2_29 : Int32) => zJ l zW 1 mX12_plan σ ([(3457, m_fences), (3466, m_plans), (3470, (0 : Int32)), (3473, (0 : Int32))], [(62, m_plan), (64, m_text)], []) 29 [(0, .ref 54), (1, .int m_typed), (2, .int v2_29)] [] (some (.int r)) ([(3457, m_fences), (3466, w_m_plans), (3470, w_m_typed), (3473, w_m_thrown)], [(62, w_m_plan), (64, m_text)], [])) (fun rc29 hrc29 v2_29 h => ?_) zN _ h
    unfold s_X12_plan_29 at h
    refine zJ_iload_n dX12_plan_29 rfl rfl ?_
    refine zJ_iload_n dX12_plan_30 rfl rfl ?_
    refine zJ_icmp_ge (tgt := 68) dX12_plan_31 (by decide) rfl (fun hc => ?_) (fun hc => ?_)
    · replace h := it_t hc h
      refine zJ_loc (ls' := [(0, .ref 54), (1, .int m_typed)]) (zll_c rfl (zll_c rfl zll_n)) ?_
      exact hk29 _ h
    · replace h := it_f hc h
      refine zJ_iload_n dX12_plan_34 rfl rfl ?_
      refine zJ_aload_n dX12_plan_35 rfl rfl ?_
      refine zJ_geti (mi := mX12_plan) (x := m_fences) dX12_plan_36 F_X12_119 zW_54 rfl rfl rfl ?_
      refine zJ_icmp_eq (tgt := 58) dX12_plan_39 (by decide) rfl (fun hc => ?_) (fun hc => ?_)
      · replace h := it_t hc h
        refine zJ_iconst dX12_plan_58 zc_m1 rfl ?_
        refine zJ_iload_n dX12_plan_59 rfl rfl ?_
        refine zJ_isub dX12_plan_60 rfl ?_
        obtain ⟨rfl, rfl, rfl, rfl, rfl⟩ := so5 h
        exact zJ_iret dX12_plan_61 rfl rfl
      · replace h := it_f hc h
        refine zJ_aload_n dX12_plan_42 rfl rfl ?_
        refine zJ_getr (mi := mX12_plan) dX12_plan_43 F_X12_41 zW_54 rfl rfl ?_
        refine zJ_iload_n dX12_plan_46 rfl rfl ?_
        obtain ⟨hg, h⟩ := gd_some h
        refine zJ_bald (mi := mX12_plan) (f := m_text) dX12_plan_47 zW_64 (ix_in hg) rfl rfl ?_
        refine zJ_bipush dX12_plan_48 zb_97 rfl ?_
        refine zJ_bipush dX12_plan_50 zb_104 rfl ?_
        obtain ⟨rn2, hcl, h⟩ := bd1_some h
        refine zJ_callS (mi := mX12_plan) (yi := mX12_in) (as := [.int (m_text v2_29.toNatClampNeg), .int (97 : Int32), .int (104 : Int32)]) (st := []) (L2 := ([(3457, m_fences), (3466, m_plans), (3470, (0 : Int32)), (3473, (0 : Int32))], [(62, m_plan), (64, m_text)], [])) dX12_plan_52 ML_X12_122 Ys_X12_in rfl (t_X12_in l _ hcl) (zsub_i zle_n zle_n zle_n) rfl (Nat.le_of_ble_eq_true rfl) (Nat.le_of_ble_eq_true rfl) rfl rfl ?_
        refine zJ_if_ne (tgt := 62) dX12_plan_55 (by decide) rfl (fun hc => ?_) (fun hc => ?_)
        · replace h := it_f hc h
          obtain ⟨v2n3, ev2n3, h⟩ := lt1_some h
          refine zJ_iincN (ls' := [(2, .int v2n3), (0, .ref 54), (1, .int m_typed)]) dX12_plan_62 rfl rfl zc_1 ev2n3 rfl rfl ?_
          refine zJ_goto (tgt := 29) dX12_plan_65 (by decide) ?_
          refine zJ_loc (ls' := [(0, .ref 54), (1, .int m_typed), (2, .int v2n3)]) (zll_c rfl (zll_c rfl (zll_c rfl zll_n))) ?_
          exact hrc29 _ h
        · replace h := it_t hc h
          refine zJ_iconst dX12_plan_58 zc_m1 rfl ?_
          refine zJ_iload_n dX12_plan_59 rfl rfl ?_
          refine zJ_isub dX12_plan_60 rfl ?_
          obtain ⟨rfl, rfl, rfl, rfl, rfl⟩ := so5 h
          exact zJ_iret dX12_plan_61 rfl rfl
  · replace h := it_t hc h
    refine zJ_bipush dX12_plan_24 zb_m100 rfl ?_
    obtain ⟨rfl, rfl, rfl, rfl, rfl⟩ := so5 h
    exact zJ_iret dX12_plan_26 rfl rfl
set_option maxRecDepth 100000 in
set_option maxHeartbeats 4000000 in
theorem t_X12_poles (l : Launch) (σ : zS) {p1 : Int32} {p2 : Int32} {p3 : Int32} {m_fences : Int32} {m_horses : Int32} {m_plans : Int32} {m_thrown : Int32} {m_read : Int32} {m_length : Int32} {m_top : Int32} {m_at : Int32} {m_wrong : Int32} {m_ruleSize : Int32} {m_isAsked : Int32} {m_askedHorse : Int32} {m_askedFence : Int32} {m_askedLetter : Int32} {m_askedHeight : Int32} {m_kind : (Nat → Int32)} {m_height : (Nat → Int32)} {m_feet : (Nat → Int32)} {m_stride : (Nat → Int32)} {m_scope : (Nat → Int32)} {m_care : (Nat → Int32)} {m_plan : (Nat → Int32)} {m_rule : (Nat → Int32)} {m_fallen : (Nat → Int32)} {r : Int32} {w_m_thrown : Int32} {w_m_read : Int32} {w_m_length : Int32} {w_m_top : Int32} {w_m_at : Int32} {w_m_wrong : Int32} {w_m_isAsked : Int32} {w_m_askedHorse : Int32} {w_m_askedFence : Int32} {w_m_askedLetter : Int32} {w_m_askedHeight : Int32} {w_m_fallen : (Nat → Int32)} (h : f_X12_poles p1 p2 p3 m_fences m_horses m_plans m_thrown m_read m_length m_top m_at m_wrong m_ruleSize m_isAsked m_askedHorse m_askedFence m_askedLetter m_askedHeight m_kind m_height m_feet m_stride m_scope m_care m_plan m_rule m_fallen = some (r, w_m_thrown, w_m_read, w_m_length, w_m_top, w_m_at, w_m_wrong, w_m_isAsked, w_m_askedHorse, w_m_askedFence, w_m_askedLetter, w_m_askedHeight, w_m_fallen)) : zMt l zW 207 mX12_poles σ ([(3457, m_fences), (3462, m_horses), (3466, m_plans), (3473, m_thrown), (3474, m_read), (3475, m_length), (3476, m_top), (3477, m_at), (3478, m_wrong), (3483, m_ruleSize), (3484, m_isAsked), (3485, m_askedHorse), (3486, m_askedFence), (3487, m_askedLetter), (3488, m_askedHeight)], [(56, m_kind), (57, m_height), (58, m_feet), (59, m_stride), (60, m_scope), (61, m_care), (62, m_plan), (69, m_rule), (70, m_fallen)], []) [.ref 54, .int p1, .int p2, .int p3] (some (.int r)) ([(3457, m_fences), (3462, m_horses), (3466, m_plans), (3473, w_m_thrown), (3474, w_m_read), (3475, w_m_length), (3476, w_m_top), (3477, w_m_at), (3478, w_m_wrong), (3483, m_ruleSize), (3484, w_m_isAsked), (3485, w_m_askedHorse), (3486, w_m_askedFence), (3487, w_m_askedLetter), (3488, w_m_askedHeight)], [(56, m_kind), (57, m_height), (58, m_feet), (59, m_stride), (60, m_scope), (61, m_care), (62, m_plan), (69, m_rule), (70, w_m_fallen)], []) := by
  refine zMt_of (ls := [(0, .ref 54), (1, .int p1), (2, .int p2), (3, .int p3)]) (by decide) rfl (fun _ => Nat.le_of_ble_eq_true rfl) rfl ?_
  unfold f_X12_poles at h
  refine zJ_aload_n dX12_poles_0 rfl rfl ?_
  refine zJ_iconst dX12_poles_1 zc_0 rfl ?_
  refine zK_puti (mi := mX12_poles) (la' := [(3457, m_fences), (3462, m_horses), (3466, m_plans), (3473, (0 : Int32)), (3474, m_read), (3475, m_length), (3476, m_top), (3477, m_at), (3478, m_wrong), (3483, m_ruleSize), (3484, m_isAsked), (3485, m_askedHorse), (3486, m_askedFence), (3487, m_askedLetter), (3488, m_askedHeight)]) zW_ok dX12_poles_2 F_X12_113 P_12_17 zW_54 rfl rfl rfl ?_
  refine zJ_aload_n dX12_poles_5 rfl rfl ?_
  refine zJ_iload_n dX12_poles_6 rfl rfl ?_
  refine zJ_iload_n dX12_poles_7 rfl rfl ?_
  obtain ⟨rn1, hcl, h⟩ := bd1_some h
  refine zJ_callV (mi := mX12_poles) (yi := mX12_areBoth) (as := [.int p1, .int p2]) (st := []) (L2 := ([(3457, m_fences), (3462, m_horses), (3466, m_plans), (3473, (0 : Int32)), (3474, m_read), (3475, m_length), (3476, m_top), (3477, m_at), (3478, m_wrong), (3483, m_ruleSize), (3484, m_isAsked), (3485, m_askedHorse), (3486, m_askedFence), (3487, m_askedLetter), (3488, m_askedHeight)], [(56, m_kind), (57, m_height), (58, m_feet), (59, m_stride), (60, m_scope), (61, m_care), (62, m_plan), (69, m_rule), (70, m_fallen)], [])) dX12_poles_8 ML_X12_279 Yv_X12_areBoth rfl zW_54 rfl rfl (t_X12_areBoth l _ hcl) (zsub_i (zle_c rfl (zle_c rfl zle_n)) zle_n zle_n) rfl (Nat.le_of_ble_eq_true rfl) (Nat.le_of_ble_eq_true rfl) rfl rfl ?_
  refine zJ_if_eq (tgt := 24) dX12_poles_11 (by decide) rfl (fun hc => ?_) (fun hc => ?_)
  · replace h := it_t hc h
    refine zJ_iconst dX12_poles_24 zc_m1 rfl ?_
    obtain ⟨rfl, rfl, rfl, rfl, rfl, rfl, rfl, rfl, rfl, rfl, rfl, rfl, rfl⟩ := so13 h
    exact zJ_iret dX12_poles_25 rfl rfl
  · replace h := it_f hc h
    refine zJ_iload_n dX12_poles_14 rfl rfl ?_
    refine zJ_iconst dX12_poles_15 zc_0 rfl ?_
    refine zJ_bipush dX12_poles_16 zb_8 rfl ?_
    obtain ⟨rn2, hcl, h⟩ := bd1_some h
    refine zJ_callS (mi := mX12_poles) (yi := mX12_in) (as := [.int p3, .int (0 : Int32), .int (8 : Int32)]) (st := []) (L2 := ([(3457, m_fences), (3462, m_horses), (3466, m_plans), (3473, (0 : Int32)), (3474, m_read), (3475, m_length), (3476, m_top), (3477, m_at), (3478, m_wrong), (3483, m_ruleSize), (3484, m_isAsked), (3485, m_askedHorse), (3486, m_askedFence), (3487, m_askedLetter), (3488, m_askedHeight)], [(56, m_kind), (57, m_height), (58, m_feet), (59, m_stride), (60, m_scope), (61, m_care), (62, m_plan), (69, m_rule), (70, m_fallen)], [])) dX12_poles_18 ML_X12_122 Ys_X12_in rfl (t_X12_in l _ hcl) (zsub_i zle_n zle_n zle_n) rfl (Nat.le_of_ble_eq_true rfl) (Nat.le_of_ble_eq_true rfl) rfl rfl ?_
    refine zJ_if_ne (tgt := 26) dX12_poles_21 (by decide) rfl (fun hc => ?_) (fun hc => ?_)
    · replace h := it_f hc h
      refine zJ_iconst dX12_poles_26 zc_0 rfl ?_
      refine zJ_istore (ls' := [(4, .int (0 : Int32)), (0, .ref 54), (1, .int p1), (2, .int p2), (3, .int p3)]) dX12_poles_27 rfl rfl rfl ?_
      have hk29 : ∀ (m_fallen_29x : (Nat → Int32)), k_X12_poles_29 p1 p2 p3 m_fences m_read m_length m_top m_at m_wrong m_ruleSize m_isAsked m_askedHorse m_askedFence m_askedLetter m_askedHeight m_kind m_height m_feet m_stride m_scope m_care m_plan m_rule m_fallen_29x = some (r, w_m_thrown, w_m_read, w_m_length, w_m_top, w_m_at, w_m_wrong, w_m_isAsked, w_m_askedHorse, w_m_askedFence, w_m_askedLetter, w_m_askedHeight, w_m_fallen) → zJ l zW 207 mX12_poles σ ([(3457, m_fences), (3462, m_horses), (3466, m_plans), (3473, (0 : Int32)), (3474, m_read), (3475, m_length), (3476, m_top), (3477, m_at), (3478, m_wrong), (3483, m_ruleSize), (3484, m_isAsked), (3485, m_askedHorse), (3486, m_askedFence), (3487, m_askedLetter), (3488, m_askedHeight)], [(56, m_kind), (57, m_height), (58, m_feet), (59, m_stride), (60, m_scope), (61, m_care), (62, m_plan), (69, m_rule), (70, m_fallen_29x)], []) 61 [(0, .ref 54), (1, .int p1), (2, .int p2), (3, .int p3)] [] (some (.int r)) ([(3457, m_fences), (3462, m_horses), (3466, m_plans), (3473, w_m_thrown), (3474, w_m_read), (3475, w_m_length), (3476, w_m_top), (3477, w_m_at), (3478, w_m_wrong), (3483, m_ruleSize), (3484, w_m_isAsked), (3485, w_m_askedHorse), (3486, w_m_askedFence), (3487, w_m_askedLetter), (3488, w_m_askedHeight)], [(56, m_kind), (57, m_height), (58, m_feet), (59, m_stride), (60, m_scope), (61, m_care), (62, m_plan), (69, m_rule), (70, w_m_fallen)], []) := by
        intro m_fallen_29x h
        unfold k_X12_poles_29 at h
        refine zJ_iconst dX12_poles_61 zc_0 rfl ?_
        refine zJ_istore (ls' := [(4, .int (0 : Int32)), (0, .ref 54), (1, .int p1), (2, .int p2), (3, .int p3)]) dX12_poles_62 rfl rfl rfl ?_
        have hk64 : ∀ (m_read_64x : Int32) (m_length_64x : Int32) (m_top_64x : Int32) (m_at_64x : Int32) (m_wrong_64x : Int32) (m_isAsked_64x : Int32) (m_askedHorse_64x : Int32) (m_askedFence_64x : Int32) (m_askedLetter_64x : Int32) (m_askedHeight_64x : Int32) (m_fallen_64x : (Nat → Int32)), k_X12_poles_64 p3 m_read_64x m_length_64x m_top_64x m_at_64x m_wrong_64x m_isAsked_64x m_askedHorse_64x m_askedFence_64x m_askedLetter_64x m_askedHeight_64x m_fallen_64x = some (r, w_m_thrown, w_m_read, w_m_length, w_m_top, w_m_at, w_m_wrong, w_m_isAsked, w_m_askedHorse, w_m_askedFence, w_m_askedLetter, w_m_askedHeight, w_m_fallen) → zJ l zW 207 mX12_poles σ ([(3457, m_fences), (3462, m_horses), (3466, m_plans), (3473, (0 : Int32)), (3474, m_read_64x), (3475, m_length_64x), (3476, m_top_64x), (3477, m_at_64x), (3478, m_wrong_64x), (3483, m_ruleSize), (3484, m_isAsked_64x), (3485, m_askedHorse_64x), (3486, m_askedFence_64x), (3487, m_askedLetter_64x), (3488, m_askedHeight_64x)], [(56, m_kind), (57, m_height), (58, m_feet), (59, m_stride), (60, m_scope), (61, m_care), (62, m_plan), (69, m_rule), (70, m_fallen_64x)], []) 158 [(0, .ref 54), (3, .int p3)] [] (some (.int r)) ([(3457, m_fences), (3462, m_horses), (3466, m_plans), (3473, w_m_thrown), (3474, w_m_read), (3475, w_m_length), (3476, w_m_top), (3477, w_m_at), (3478, w_m_wrong), (3483, m_ruleSize), (3484, w_m_isAsked), (3485, w_m_askedHorse), (3486, w_m_askedFence), (3487, w_m_askedLetter), (3488, w_m_askedHeight)], [(56, m_kind), (57, m_height), (58, m_feet), (59, m_stride), (60, m_scope), (61, m_care), (62, m_plan), (69, m_rule), (70, w_m_fallen)], []) := by
          intro m_read_64x m_length_64x m_top_64x m_at_64x m_wrong_64x m_isAsked_64x m_askedHorse_64x m_askedFence_64x m_askedLetter_64x m_askedHeight_64x m_fallen_64x h
          unfold k_X12_poles_64 at h
          refine zJ_aload_n dX12_poles_158 rfl rfl ?_
          refine zJ_getr (mi := mX12_poles) dX12_poles_159 F_X12_61 zW_54 rfl rfl ?_
          refine zJ_iload_n dX12_poles_162 rfl rfl ?_
          obtain ⟨hg, h⟩ := gd_some h
          refine zJ_iald (mi := mX12_poles) (f := m_fallen_64x) dX12_poles_163 zW_70 (ix_in hg) rfl rfl ?_
          obtain ⟨rfl, rfl, rfl, rfl, rfl, rfl, rfl, rfl, rfl, rfl, rfl, rfl, rfl⟩ := so13 h
          exact zJ_iret dX12_poles_164 rfl rfl
        refine zJ_loc (ls' := [(0, .ref 54), (1, .int p1), (2, .int p2), (3, .int p3), (4, .int (0 : Int32))]) (zll_c rfl (zll_c rfl (zll_c rfl (zll_c rfl (zll_c rfl zll_n))))) ?_
        refine ml12_J (fun (v4_64 : Int32) (m_read_64 : Int32) (m_length_64 : Int32) (m_top_64 : Int32) (m_at_64 : Int32) (m_wrong_64 : Int32) (m_isAsked_64 : Int32) (m_askedHorse_64 : Int32) (m_askedFence_64 : Int32) (m_askedLetter_64 : Int32) (m_askedHeight_64 : Int32) (m_fallen_64 : (Nat → Int32)) => zJ l zW 207 mX12_poles σ ([(3457, m_fences), (3462, m_horses), (3466, m_plans), (3473, (0 : Int32)), (3474, m_read_64), (3475, m_length_64), (3476, m_top_64), (3477, m_at_64), (3478, m_wrong_64), (3483, m_ruleSize), (3484, m_isAsked_64), (3485, m_askedHorse_64), (3486, m_askedFence_64), (3487, m_askedLetter_64), (3488, m_askedHeight_64)], [(56, m_kind), (57, m_height), (58, m_feet), (59, m_stride), (60, m_scope), (61, m_care), (62, m_plan), (69, m_rule), (70, m_fallen_64)], []) 64 [(0, .ref 54), (1, .int p1), (2, .int p2), (3, .int p3), (4, .int v4_64)] [] (some (.int r)) ([(3457, m_fences), (3462, m_horses), (3466, m_plans), (3473, w_m_thrown), (3474, w_m_read), (3475, w_m_length), (3476, w_m_top), (3477, w_m_at), (3478, w_m_wrong), (3483, m_ruleSize), (3484, w_m_isAsked), (3485, w_m_askedHorse), (3486, w_m_askedFence), (3487, w_m_askedLetter), (3488, w_m_askedHeight)], [(56, m_kind), (57, m_height), (58, m_feet), (59, m_stride), (60, m_scope), (61, m_care), (62, m_plan), (69, m_rule), (70, w_m_fallen)], [])) (fun rc64 hrc64 v4_64 m_read_64 m_length_64 m_top_64 m_at_64 m_wrong_64 m_isAsked_64 m_askedHorse_64 m_askedFence_64 m_askedLetter_64 m_askedHeight_64 m_fallen_64 h => ?_) zN _ _ _ _ _ _ _ _ _ _ _ _ h
        unfold s_X12_poles_64 at h
        refine zJ_iload dX12_poles_64 rfl rfl ?_
        refine zJ_aload_n dX12_poles_66 rfl rfl ?_
        refine zJ_geti (mi := mX12_poles) (x := m_fences) dX12_poles_67 F_X12_119 zW_54 rfl rfl rfl ?_
        refine zJ_icmp_ge (tgt := 158) dX12_poles_70 (by decide) rfl (fun hc => ?_) (fun hc => ?_)
        · replace h := it_t hc h
          refine zJ_loc (ls' := [(0, .ref 54), (3, .int p3)]) (zll_c rfl (zll_c rfl zll_n)) ?_
          exact hk64 _ _ _ _ _ _ _ _ _ _ _ h
        · replace h := it_f hc h
          refine zJ_aload_n dX12_poles_73 rfl rfl ?_
          refine zJ_iload_n dX12_poles_74 rfl rfl ?_
          refine zJ_iload dX12_poles_75 rfl rfl ?_
          refine zJ_aload_n dX12_poles_77 rfl rfl ?_
          refine zJ_iload_n dX12_poles_78 rfl rfl ?_
          refine zJ_iload dX12_poles_79 rfl rfl ?_
          obtain ⟨rn3, hcl, h⟩ := bd1_some h
          refine zJ_callV (mi := mX12_poles) (yi := mX12_letterOf) (as := [.int p2, .int v4_64]) (st := [.int v4_64, .int p1, .ref 54]) (L2 := ([(3457, m_fences), (3462, m_horses), (3466, m_plans), (3473, (0 : Int32)), (3474, m_read_64), (3475, m_length_64), (3476, m_top_64), (3477, m_at_64), (3478, m_wrong_64), (3483, m_ruleSize), (3484, m_isAsked_64), (3485, m_askedHorse_64), (3486, m_askedFence_64), (3487, m_askedLetter_64), (3488, m_askedHeight_64)], [(56, m_kind), (57, m_height), (58, m_feet), (59, m_stride), (60, m_scope), (61, m_care), (62, m_plan), (69, m_rule), (70, m_fallen_64)], [])) dX12_poles_81 ML_X12_273 Yv_X12_letterOf rfl zW_54 rfl rfl (t_X12_letterOf l _ hcl) (zsub_i zle_n (zle_c rfl zle_n) zle_n) rfl (Nat.le_of_ble_eq_true rfl) (Nat.le_of_ble_eq_true rfl) rfl rfl ?_
          obtain ⟨rn4, m_readn5, m_lengthn6, m_topn7, m_atn8, m_wrongn9, m_isAskedn10, m_askedHorsen11, m_askedFencen12, m_askedLettern13, m_askedHeightn14, hcl, h⟩ := bd11_some h
          refine zJ_callV (mi := mX12_poles) (yi := mX12_oddsOf_) (as := [.int p1, .int v4_64, .int rn3]) (st := []) (L2 := ([(3457, m_fences), (3462, m_horses), (3466, m_plans), (3473, (0 : Int32)), (3474, m_readn5), (3475, m_lengthn6), (3476, m_topn7), (3477, m_atn8), (3478, m_wrongn9), (3483, m_ruleSize), (3484, m_isAskedn10), (3485, m_askedHorsen11), (3486, m_askedFencen12), (3487, m_askedLettern13), (3488, m_askedHeightn14)], [(56, m_kind), (57, m_height), (58, m_feet), (59, m_stride), (60, m_scope), (61, m_care), (62, m_plan), (69, m_rule), (70, m_fallen_64)], [])) dX12_poles_84 ML_X12_259 Yv_X12_oddsOf_ rfl zW_54 rfl rfl (t_X12_oddsOf_ l _ hcl) (zsub_i (zle_c rfl (zle_c rfl (zle_c rfl (zle_c rfl (zle_c rfl (zle_c rfl (zle_c rfl (zle_c rfl (zle_c rfl (zle_c rfl (zle_c rfl zle_n))))))))))) (zle_c rfl (zle_c rfl (zle_c rfl (zle_c rfl (zle_c rfl (zle_c rfl (zle_c rfl zle_n))))))) zle_n) rfl (Nat.le_of_ble_eq_true rfl) (Nat.le_of_ble_eq_true rfl) rfl rfl ?_
          refine zJ_istore (ls' := [(5, .int rn4), (0, .ref 54), (1, .int p1), (2, .int p2), (3, .int p3), (4, .int v4_64)]) dX12_poles_87 rfl rfl rfl ?_
          refine zJ_bipush dX12_poles_89 zb_8 rfl ?_
          refine zJ_istore (ls' := [(6, .int (8 : Int32)), (5, .int rn4), (0, .ref 54), (1, .int p1), (2, .int p2), (3, .int p3), (4, .int v4_64)]) dX12_poles_91 rfl rfl rfl ?_
          have hk93 : ∀ (m_fallen_93x : (Nat → Int32)), k_X12_poles_93 rc64 v4_64 m_readn5 m_lengthn6 m_topn7 m_atn8 m_wrongn9 m_isAskedn10 m_askedHorsen11 m_askedFencen12 m_askedLettern13 m_askedHeightn14 m_fallen_93x = some (r, w_m_thrown, w_m_read, w_m_length, w_m_top, w_m_at, w_m_wrong, w_m_isAsked, w_m_askedHorse, w_m_askedFence, w_m_askedLetter, w_m_askedHeight, w_m_fallen) → zJ l zW 207 mX12_poles σ ([(3457, m_fences), (3462, m_horses), (3466, m_plans), (3473, (0 : Int32)), (3474, m_readn5), (3475, m_lengthn6), (3476, m_topn7), (3477, m_atn8), (3478, m_wrongn9), (3483, m_ruleSize), (3484, m_isAskedn10), (3485, m_askedHorsen11), (3486, m_askedFencen12), (3487, m_askedLettern13), (3488, m_askedHeightn14)], [(56, m_kind), (57, m_height), (58, m_feet), (59, m_stride), (60, m_scope), (61, m_care), (62, m_plan), (69, m_rule), (70, m_fallen_93x)], []) 152 [(0, .ref 54), (1, .int p1), (2, .int p2), (3, .int p3), (4, .int v4_64)] [] (some (.int r)) ([(3457, m_fences), (3462, m_horses), (3466, m_plans), (3473, w_m_thrown), (3474, w_m_read), (3475, w_m_length), (3476, w_m_top), (3477, w_m_at), (3478, w_m_wrong), (3483, m_ruleSize), (3484, w_m_isAsked), (3485, w_m_askedHorse), (3486, w_m_askedFence), (3487, w_m_askedLetter), (3488, w_m_askedHeight)], [(56, m_kind), (57, m_height), (58, m_feet), (59, m_stride), (60, m_scope), (61, m_care), (62, m_plan), (69, m_rule), (70, w_m_fallen)], []) := by
            intro m_fallen_93x h
            unfold k_X12_poles_93 at h
            obtain ⟨v4n15, ev4n15, h⟩ := lt1_some h
            refine zJ_iincN (ls' := [(4, .int v4n15), (0, .ref 54), (1, .int p1), (2, .int p2), (3, .int p3)]) dX12_poles_152 rfl rfl zc_1 ev4n15 rfl rfl ?_
            refine zJ_goto (tgt := 64) dX12_poles_155 (by decide) ?_
            refine zJ_loc (ls' := [(0, .ref 54), (1, .int p1), (2, .int p2), (3, .int p3), (4, .int v4n15)]) (zll_c rfl (zll_c rfl (zll_c rfl (zll_c rfl (zll_c rfl zll_n))))) ?_
            exact hrc64 _ _ _ _ _ _ _ _ _ _ _ _ h
          refine zJ_loc (ls' := [(0, .ref 54), (1, .int p1), (2, .int p2), (3, .int p3), (4, .int v4_64), (5, .int rn4), (6, .int (8 : Int32))]) (zll_c rfl (zll_c rfl (zll_c rfl (zll_c rfl (zll_c rfl (zll_c rfl (zll_c rfl zll_n))))))) ?_
          refine ml2_J (fun (v6_93 : Int32) (m_fallen_93 : (Nat → Int32)) => zJ l zW 207 mX12_poles σ ([(3457, m_fences), (3462, m_horses), (3466, m_plans), (3473, (0 : Int32)), (3474, m_readn5), (3475, m_lengthn6), (3476, m_topn7), (3477, m_atn8), (3478, m_wrongn9), (3483, m_ruleSize), (3484, m_isAskedn10), (3485, m_askedHorsen11), (3486, m_askedFencen12), (3487, m_askedLettern13), (3488, m_askedHeightn14)], [(56, m_kind), (57, m_height), (58, m_feet), (59, m_stride), (60, m_scope), (61, m_care), (62, m_plan), (69, m_rule), (70, m_fallen_93)], []) 93 [(0, .ref 54), (1, .int p1), (2, .int p2), (3, .int p3), (4, .int v4_64), (5, .int rn4), (6, .int v6_93)] [] (some (.int r)) ([(3457, m_fences), (3462, m_horses), (3466, m_plans), (3473, w_m_thrown), (3474, w_m_read), (3475, w_m_length), (3476, w_m_top), (3477, w_m_at), (3478, w_m_wrong), (3483, m_ruleSize), (3484, w_m_isAsked), (3485, w_m_askedHorse), (3486, w_m_askedFence), (3487, w_m_askedLetter), (3488, w_m_askedHeight)], [(56, m_kind), (57, m_height), (58, m_feet), (59, m_stride), (60, m_scope), (61, m_care), (62, m_plan), (69, m_rule), (70, w_m_fallen)], [])) (fun rc93 hrc93 v6_93 m_fallen_93 h => ?_) zN _ _ h
          unfold s_X12_poles_93 at h
          refine zJ_iload dX12_poles_93 rfl rfl ?_
          refine zJ_if_lt (tgt := 152) dX12_poles_95 (by decide) rfl (fun hc => ?_) (fun hc => ?_)
          · replace h := it_t hc h
            refine zJ_loc (ls' := [(0, .ref 54), (1, .int p1), (2, .int p2), (3, .int p3), (4, .int v4_64)]) (zll_c rfl (zll_c rfl (zll_c rfl (zll_c rfl (zll_c rfl zll_n))))) ?_
            exact hk93 _ h
          · replace h := it_f hc h
            refine zJ_aload_n dX12_poles_98 rfl rfl ?_
            refine zJ_getr (mi := mX12_poles) dX12_poles_99 F_X12_61 zW_54 rfl rfl ?_
            refine zJ_iload dX12_poles_102 rfl rfl ?_
            refine zJ_aload_n dX12_poles_104 rfl rfl ?_
            refine zJ_getr (mi := mX12_poles) dX12_poles_105 F_X12_61 zW_54 rfl rfl ?_
            refine zJ_iload dX12_poles_108 rfl rfl ?_
            obtain ⟨hg, h⟩ := gd_some h
            refine zJ_iald (mi := mX12_poles) (f := m_fallen_93) dX12_poles_110 zW_70 (ix_in hg) rfl rfl ?_
            refine zJ_bipush dX12_poles_111 zb_100 rfl ?_
            refine zJ_iload dX12_poles_113 rfl rfl ?_
            refine zJ_isub dX12_poles_115 rfl ?_
            refine zJ_imul dX12_poles_116 rfl ?_
            refine zJ_bipush dX12_poles_117 zb_100 rfl ?_
            refine zJ_idiv dX12_poles_119 (by decide) rfl ?_
            refine zJ_iload dX12_poles_120 rfl rfl ?_
            refine zJ_if_ne (tgt := 129) dX12_poles_122 (by decide) rfl (fun hc => ?_) (fun hc => ?_)
            · replace h := it_f hc h
              refine zJ_aload_n dX12_poles_129 rfl rfl ?_
              refine zJ_getr (mi := mX12_poles) dX12_poles_130 F_X12_61 zW_54 rfl rfl ?_
              refine zJ_iload dX12_poles_133 rfl rfl ?_
              refine zJ_iconst dX12_poles_135 zc_1 rfl ?_
              refine zJ_isub dX12_poles_136 rfl ?_
              obtain ⟨hg, h⟩ := gd_some h
              refine zJ_iald (mi := mX12_poles) (f := m_fallen_93) dX12_poles_137 zW_70 (ix_in hg) rfl rfl ?_
              refine zJ_iload dX12_poles_138 rfl rfl ?_
              refine zJ_imul dX12_poles_140 rfl ?_
              refine zJ_bipush dX12_poles_141 zb_100 rfl ?_
              refine zJ_idiv dX12_poles_143 (by decide) rfl ?_
              refine zJ_iadd dX12_poles_144 rfl ?_
              obtain ⟨hg, h⟩ := gd_some h
              refine zK_iast (mi := mX12_poles) (f := m_fallen_93) (lb' := [(56, m_kind), (57, m_height), (58, m_feet), (59, m_stride), (60, m_scope), (61, m_care), (62, m_plan), (69, m_rule), (70, (upd m_fallen_93 v6_93.toNatClampNeg ((((m_fallen_93 v6_93.toNatClampNeg) * ((100 : Int32) - rn4)) / (100 : Int32)) + (((m_fallen_93 (v6_93 - (1 : Int32)).toNatClampNeg) * rn4) / (100 : Int32)))))]) dX12_poles_145 zW_70 (ix_in hg) rfl rfl rfl ?_
              obtain ⟨v6n16, ev6n16, h⟩ := lt1_some h
              refine zJ_iincN (ls' := [(6, .int v6n16), (0, .ref 54), (1, .int p1), (2, .int p2), (3, .int p3), (4, .int v4_64), (5, .int rn4)]) dX12_poles_146 rfl rfl zc_m1 ev6n16 rfl rfl ?_
              refine zJ_goto (tgt := 93) dX12_poles_149 (by decide) ?_
              refine zJ_loc (ls' := [(0, .ref 54), (1, .int p1), (2, .int p2), (3, .int p3), (4, .int v4_64), (5, .int rn4), (6, .int v6n16)]) (zll_c rfl (zll_c rfl (zll_c rfl (zll_c rfl (zll_c rfl (zll_c rfl (zll_c rfl zll_n))))))) ?_
              exact hrc93 _ _ h
            · replace h := it_t hc h
              refine zJ_iconst dX12_poles_125 zc_0 rfl ?_
              refine zJ_goto (tgt := 144) dX12_poles_126 (by decide) ?_
              refine zJ_iadd dX12_poles_144 rfl ?_
              obtain ⟨hg, h⟩ := gd_some h
              refine zK_iast (mi := mX12_poles) (f := m_fallen_93) (lb' := [(56, m_kind), (57, m_height), (58, m_feet), (59, m_stride), (60, m_scope), (61, m_care), (62, m_plan), (69, m_rule), (70, (upd m_fallen_93 v6_93.toNatClampNeg ((((m_fallen_93 v6_93.toNatClampNeg) * ((100 : Int32) - rn4)) / (100 : Int32)) + (0 : Int32))))]) dX12_poles_145 zW_70 (ix_in hg) rfl rfl rfl ?_
              obtain ⟨v6n17, ev6n17, h⟩ := lt1_some h
              refine zJ_iincN (ls' := [(6, .int v6n17), (0, .ref 54), (1, .int p1), (2, .int p2), (3, .int p3), (4, .int v4_64), (5, .int rn4)]) dX12_poles_146 rfl rfl zc_m1 ev6n17 rfl rfl ?_
              refine zJ_goto (tgt := 93) dX12_poles_149 (by decide) ?_
              refine zJ_loc (ls' := [(0, .ref 54), (1, .int p1), (2, .int p2), (3, .int p3), (4, .int v4_64), (5, .int rn4), (6, .int v6n17)]) (zll_c rfl (zll_c rfl (zll_c rfl (zll_c rfl (zll_c rfl (zll_c rfl (zll_c rfl zll_n))))))) ?_
              exact hrc93 _ _ h
      refine zJ_loc (ls' := [(0, .ref 54), (1, .int p1), (2, .int p2), (3, .int p3), (4, .int (0 : Int32))]) (zll_c rfl (zll_c rfl (zll_c rfl (zll_c rfl (zll_c rfl zll_n))))) ?_
      refine ml2_J (fun (v4_29 : Int32) (m_fallen_29 : (Nat → Int32)) => zJ l zW 207 mX12_poles σ ([(3457, m_fences), (3462, m_horses), (3466, m_plans), (3473, (0 : Int32)), (3474, m_read), (3475, m_length), (3476, m_top), (3477, m_at), (3478, m_wrong), (3483, m_ruleSize), (3484, m_isAsked), (3485, m_askedHorse), (3486, m_askedFence), (3487, m_askedLetter), (3488, m_askedHeight)], [(56, m_kind), (57, m_height), (58, m_feet), (59, m_stride), (60, m_scope), (61, m_care), (62, m_plan), (69, m_rule), (70, m_fallen_29)], []) 29 [(0, .ref 54), (1, .int p1), (2, .int p2), (3, .int p3), (4, .int v4_29)] [] (some (.int r)) ([(3457, m_fences), (3462, m_horses), (3466, m_plans), (3473, w_m_thrown), (3474, w_m_read), (3475, w_m_length), (3476, w_m_top), (3477, w_m_at), (3478, w_m_wrong), (3483, m_ruleSize), (3484, w_m_isAsked), (3485, w_m_askedHorse), (3486, w_m_askedFence), (3487, w_m_askedLetter), (3488, w_m_askedHeight)], [(56, m_kind), (57, m_height), (58, m_feet), (59, m_stride), (60, m_scope), (61, m_care), (62, m_plan), (69, m_rule), (70, w_m_fallen)], [])) (fun rc29 hrc29 v4_29 m_fallen_29 h => ?_) zN _ _ h
      unfold s_X12_poles_29 at h
      refine zJ_iload dX12_poles_29 rfl rfl ?_
      refine zJ_bipush dX12_poles_31 zb_8 rfl ?_
      refine zJ_icmp_gt (tgt := 61) dX12_poles_33 (by decide) rfl (fun hc => ?_) (fun hc => ?_)
      · replace h := it_t hc h
        refine zJ_loc (ls' := [(0, .ref 54), (1, .int p1), (2, .int p2), (3, .int p3)]) (zll_c rfl (zll_c rfl (zll_c rfl (zll_c rfl zll_n)))) ?_
        exact hk29 _ h
      · replace h := it_f hc h
        refine zJ_aload_n dX12_poles_36 rfl rfl ?_
        refine zJ_getr (mi := mX12_poles) dX12_poles_37 F_X12_61 zW_54 rfl rfl ?_
        refine zJ_iload dX12_poles_40 rfl rfl ?_
        refine zJ_iload dX12_poles_42 rfl rfl ?_
        refine zJ_if_ne (tgt := 53) dX12_poles_44 (by decide) rfl (fun hc => ?_) (fun hc => ?_)
        · replace h := it_f hc h
          refine zJ_iconst dX12_poles_53 zc_0 rfl ?_
          obtain ⟨hg, h⟩ := gd_some h
          refine zK_iast (mi := mX12_poles) (f := m_fallen_29) (lb' := [(56, m_kind), (57, m_height), (58, m_feet), (59, m_stride), (60, m_scope), (61, m_care), (62, m_plan), (69, m_rule), (70, (upd m_fallen_29 v4_29.toNatClampNeg (0 : Int32)))]) dX12_poles_54 zW_70 (ix_in hg) rfl rfl rfl ?_
          obtain ⟨v4n18, ev4n18, h⟩ := lt1_some h
          refine zJ_iincN (ls' := [(4, .int v4n18), (0, .ref 54), (1, .int p1), (2, .int p2), (3, .int p3)]) dX12_poles_55 rfl rfl zc_1 ev4n18 rfl rfl ?_
          refine zJ_goto (tgt := 29) dX12_poles_58 (by decide) ?_
          refine zJ_loc (ls' := [(0, .ref 54), (1, .int p1), (2, .int p2), (3, .int p3), (4, .int v4n18)]) (zll_c rfl (zll_c rfl (zll_c rfl (zll_c rfl (zll_c rfl zll_n))))) ?_
          exact hrc29 _ _ h
        · replace h := it_t hc h
          refine zJ_sipush dX12_poles_47 zs_10000 rfl ?_
          refine zJ_goto (tgt := 54) dX12_poles_50 (by decide) ?_
          obtain ⟨hg, h⟩ := gd_some h
          refine zK_iast (mi := mX12_poles) (f := m_fallen_29) (lb' := [(56, m_kind), (57, m_height), (58, m_feet), (59, m_stride), (60, m_scope), (61, m_care), (62, m_plan), (69, m_rule), (70, (upd m_fallen_29 v4_29.toNatClampNeg (10000 : Int32)))]) dX12_poles_54 zW_70 (ix_in hg) rfl rfl rfl ?_
          obtain ⟨v4n19, ev4n19, h⟩ := lt1_some h
          refine zJ_iincN (ls' := [(4, .int v4n19), (0, .ref 54), (1, .int p1), (2, .int p2), (3, .int p3)]) dX12_poles_55 rfl rfl zc_1 ev4n19 rfl rfl ?_
          refine zJ_goto (tgt := 29) dX12_poles_58 (by decide) ?_
          refine zJ_loc (ls' := [(0, .ref 54), (1, .int p1), (2, .int p2), (3, .int p3), (4, .int v4n19)]) (zll_c rfl (zll_c rfl (zll_c rfl (zll_c rfl (zll_c rfl zll_n))))) ?_
          exact hrc29 _ _ h
    · replace h := it_t hc h
      refine zJ_iconst dX12_poles_24 zc_m1 rfl ?_
      obtain ⟨rfl, rfl, rfl, rfl, rfl, rfl, rfl, rfl, rfl, rfl, rfl, rfl, rfl⟩ := so13 h
      exact zJ_iret dX12_poles_25 rfl rfl
set_option maxRecDepth 100000 in
set_option maxHeartbeats 4000000 in
theorem t_X12_prizes (l : Launch) (σ : zS) {m_typed : Int32} {m_thrown : Int32} {m_read : Int32} {m_length : Int32} {m_top : Int32} {m_at : Int32} {m_wrong : Int32} {m_money : (Nat → Int32)} {m_text : (Nat → Int32)} {m_newMoney : (Nat → Int32)} {r : Int32} {w_m_typed : Int32} {w_m_thrown : Int32} {w_m_length : Int32} {w_m_top : Int32} {w_m_at : Int32} {w_m_wrong : Int32} {w_m_money : (Nat → Int32)} {w_m_newMoney : (Nat → Int32)} (h : f_X12_prizes m_typed m_thrown m_read m_length m_top m_at m_wrong m_money m_text m_newMoney = some (r, w_m_typed, w_m_thrown, w_m_length, w_m_top, w_m_at, w_m_wrong, w_m_money, w_m_newMoney)) : zMt l zW 4 mX12_prizes σ ([(3470, m_typed), (3473, m_thrown), (3474, m_read), (3475, m_length), (3476, m_top), (3477, m_at), (3478, m_wrong)], [(63, m_money), (64, m_text), (68, m_newMoney)], []) [.ref 54] (some (.int r)) ([(3470, w_m_typed), (3473, w_m_thrown), (3474, (nI 64)), (3475, w_m_length), (3476, w_m_top), (3477, w_m_at), (3478, w_m_wrong)], [(63, w_m_money), (64, m_text), (68, w_m_newMoney)], []) := by
  refine zMt_of (ls := [(0, .ref 54)]) (by decide) rfl (fun _ => Nat.le_of_ble_eq_true rfl) rfl ?_
  unfold f_X12_prizes at h
  refine zJ_aload_n dX12_prizes_0 rfl rfl ?_
  refine zJ_iconst dX12_prizes_1 zc_0 rfl ?_
  refine zK_puti (mi := mX12_prizes) (la' := [(3470, m_typed), (3473, (0 : Int32)), (3474, m_read), (3475, m_length), (3476, m_top), (3477, m_at), (3478, m_wrong)]) zW_ok dX12_prizes_2 F_X12_113 P_12_17 zW_54 rfl rfl rfl ?_
  refine zJ_aload_n dX12_prizes_5 rfl rfl ?_
  refine zJ_aload_n dX12_prizes_6 rfl rfl ?_
  refine zJ_getr (mi := mX12_prizes) dX12_prizes_7 F_X12_41 zW_54 rfl rfl ?_
  refine zJ_aload_n dX12_prizes_10 rfl rfl ?_
  refine zJ_geti (mi := mX12_prizes) (x := m_typed) dX12_prizes_11 F_X12_139 zW_54 rfl rfl rfl ?_
  refine zJ_bipush dX12_prizes_14 zb_80 rfl ?_
  obtain ⟨m_lengthn1, m_topn2, m_atn3, m_wrongn4, hcl, h⟩ := bd4_some h
  refine zJ_callV (mi := mX12_prizes) (yi := mX12_begin) (as := [.ref 64, .int m_typed, .int (80 : Int32)]) (st := []) (L2 := ([(3470, m_typed), (3473, (0 : Int32)), (3474, (nI 64)), (3475, m_lengthn1), (3476, m_topn2), (3477, m_atn3), (3478, m_wrongn4)], [(63, m_money), (64, m_text), (68, m_newMoney)], [])) dX12_prizes_16 ML_X12_185 Yv_X12_begin rfl zW_54 rfl rfl (t_X12_begin_m_text l _ hcl) (zsub_i (zle_c rfl (zle_c rfl (zle_c rfl (zle_c rfl (zle_c rfl zle_n))))) zle_n zle_n) rfl (Nat.le_of_ble_eq_true rfl) (Nat.le_of_ble_eq_true rfl) rfl rfl ?_
  refine zJ_aload_n dX12_prizes_19 rfl rfl ?_
  refine zJ_iconst dX12_prizes_20 zc_0 rfl ?_
  refine zK_puti (mi := mX12_prizes) (la' := [(3470, (0 : Int32)), (3473, (0 : Int32)), (3474, (nI 64)), (3475, m_lengthn1), (3476, m_topn2), (3477, m_atn3), (3478, m_wrongn4)]) zW_ok dX12_prizes_21 F_X12_139 P_12_14 zW_54 rfl rfl rfl ?_
  refine zJ_iconst dX12_prizes_24 zc_0 rfl ?_
  refine zJ_istore_n (ls' := [(1, .int (0 : Int32)), (0, .ref 54)]) dX12_prizes_25 rfl rfl rfl ?_
  refine zJ_iconst dX12_prizes_26 zc_1 rfl ?_
  refine zJ_istore_n (ls' := [(2, .int (1 : Int32)), (1, .int (0 : Int32)), (0, .ref 54)]) dX12_prizes_27 rfl rfl rfl ?_
  have hk28 : ∀ (v1_28x : Int32) (m_at_28x : Int32) (m_wrong_28x : Int32) (m_newMoney_28x : (Nat → Int32)), k_X12_prizes_28 m_money m_lengthn1 m_topn2 v1_28x m_at_28x m_wrong_28x m_newMoney_28x = some (r, w_m_typed, w_m_thrown, w_m_length, w_m_top, w_m_at, w_m_wrong, w_m_money, w_m_newMoney) → zJ l zW 4 mX12_prizes σ ([(3470, (0 : Int32)), (3473, (0 : Int32)), (3474, (nI 64)), (3475, m_lengthn1), (3476, m_topn2), (3477, m_at_28x), (3478, m_wrong_28x)], [(63, m_money), (64, m_text), (68, m_newMoney_28x)], []) 80 [(0, .ref 54), (1, .int v1_28x)] [] (some (.int r)) ([(3470, w_m_typed), (3473, w_m_thrown), (3474, (nI 64)), (3475, w_m_length), (3476, w_m_top), (3477, w_m_at), (3478, w_m_wrong)], [(63, w_m_money), (64, m_text), (68, w_m_newMoney)], []) := by
    intro v1_28x m_at_28x m_wrong_28x m_newMoney_28x h
    unfold k_X12_prizes_28 at h
    refine zJ_aload_n dX12_prizes_80 rfl rfl ?_
    refine zJ_geti (mi := mX12_prizes) (x := m_at_28x) dX12_prizes_81 F_X12_151 zW_54 rfl rfl rfl ?_
    refine zJ_aload_n dX12_prizes_84 rfl rfl ?_
    refine zJ_geti (mi := mX12_prizes) (x := m_lengthn1) dX12_prizes_85 F_X12_145 zW_54 rfl rfl rfl ?_
    have hj_X12_prizes_99 : ∀ (m_wrong_99j : Int32), j_X12_prizes_99 m_money m_lengthn1 m_topn2 v1_28x m_at_28x m_newMoney_28x m_wrong_99j = some (r, w_m_typed, w_m_thrown, w_m_length, w_m_top, w_m_at, w_m_wrong, w_m_money, w_m_newMoney) → zJ l zW 4 mX12_prizes σ ([(3470, (0 : Int32)), (3473, (0 : Int32)), (3474, (nI 64)), (3475, m_lengthn1), (3476, m_topn2), (3477, m_at_28x), (3478, m_wrong_99j)], [(63, m_money), (64, m_text), (68, m_newMoney_28x)], []) 99 [(0, .ref 54), (1, .int v1_28x)] [] (some (.int r)) ([(3470, w_m_typed), (3473, w_m_thrown), (3474, (nI 64)), (3475, w_m_length), (3476, w_m_top), (3477, w_m_at), (3478, w_m_wrong)], [(63, w_m_money), (64, m_text), (68, w_m_newMoney)], []) := by
      intro m_wrong_99j h
      unfold j_X12_prizes_99 at h
      refine zJ_aload_n dX12_prizes_99 rfl rfl ?_
      obtain ⟨rn5, hcl, h⟩ := bd1_some h
      refine zJ_callV (mi := mX12_prizes) (yi := mX12_fine) (as := []) (st := []) (L2 := ([(3470, (0 : Int32)), (3473, (0 : Int32)), (3474, (nI 64)), (3475, m_lengthn1), (3476, m_topn2), (3477, m_at_28x), (3478, m_wrong_99j)], [(63, m_money), (64, m_text), (68, m_newMoney_28x)], [])) dX12_prizes_100 ML_X12_157 Yv_X12_fine rfl zW_54 rfl rfl (t_X12_fine l _ hcl) (zsub_i (zle_c rfl zle_n) zle_n zle_n) rfl (Nat.le_of_ble_eq_true rfl) (Nat.le_of_ble_eq_true rfl) rfl rfl ?_
      refine zJ_if_ne (tgt := 113) dX12_prizes_103 (by decide) rfl (fun hc => ?_) (fun hc => ?_)
      · replace h := it_f hc h
        refine zJ_iconst dX12_prizes_113 zc_0 rfl ?_
        refine zJ_istore_n (ls' := [(3, .int (0 : Int32)), (0, .ref 54), (1, .int v1_28x)]) dX12_prizes_114 rfl rfl rfl ?_
        have hk115 : ∀ (m_money_115x : (Nat → Int32)), k_X12_prizes_115 m_lengthn1 m_topn2 v1_28x m_at_28x m_newMoney_28x m_wrong_99j m_money_115x = some (r, w_m_typed, w_m_thrown, w_m_length, w_m_top, w_m_at, w_m_wrong, w_m_money, w_m_newMoney) → zJ l zW 4 mX12_prizes σ ([(3470, (0 : Int32)), (3473, (0 : Int32)), (3474, (nI 64)), (3475, m_lengthn1), (3476, m_topn2), (3477, m_at_28x), (3478, m_wrong_99j)], [(63, m_money_115x), (64, m_text), (68, m_newMoney_28x)], []) 148 [(1, .int v1_28x)] [] (some (.int r)) ([(3470, w_m_typed), (3473, w_m_thrown), (3474, (nI 64)), (3475, w_m_length), (3476, w_m_top), (3477, w_m_at), (3478, w_m_wrong)], [(63, w_m_money), (64, m_text), (68, w_m_newMoney)], []) := by
          intro m_money_115x h
          unfold k_X12_prizes_115 at h
          refine zJ_iload_n dX12_prizes_148 rfl rfl ?_
          obtain ⟨rfl, rfl, rfl, rfl, rfl, rfl, rfl, rfl, rfl⟩ := so9 h
          exact zJ_iret dX12_prizes_149 rfl rfl
        refine zJ_loc (ls' := [(0, .ref 54), (1, .int v1_28x), (3, .int (0 : Int32))]) (zll_c rfl (zll_c rfl (zll_c rfl zll_n))) ?_
        refine ml2_J (fun (v3_115 : Int32) (m_money_115 : (Nat → Int32)) => zJ l zW 4 mX12_prizes σ ([(3470, (0 : Int32)), (3473, (0 : Int32)), (3474, (nI 64)), (3475, m_lengthn1), (3476, m_topn2), (3477, m_at_28x), (3478, m_wrong_99j)], [(63, m_money_115), (64, m_text), (68, m_newMoney_28x)], []) 115 [(0, .ref 54), (1, .int v1_28x), (3, .int v3_115)] [] (some (.int r)) ([(3470, w_m_typed), (3473, w_m_thrown), (3474, (nI 64)), (3475, w_m_length), (3476, w_m_top), (3477, w_m_at), (3478, w_m_wrong)], [(63, w_m_money), (64, m_text), (68, w_m_newMoney)], [])) (fun rc115 hrc115 v3_115 m_money_115 h => ?_) zN _ _ h
        unfold s_X12_prizes_115 at h
        refine zJ_iload_n dX12_prizes_115 rfl rfl ?_
        refine zJ_bipush dX12_prizes_116 zb_6 rfl ?_
        refine zJ_icmp_ge (tgt := 148) dX12_prizes_118 (by decide) rfl (fun hc => ?_) (fun hc => ?_)
        · replace h := it_t hc h
          refine zJ_loc (ls' := [(1, .int v1_28x)]) (zll_c rfl zll_n) ?_
          exact hk115 _ h
        · replace h := it_f hc h
          refine zJ_aload_n dX12_prizes_121 rfl rfl ?_
          refine zJ_getr (mi := mX12_prizes) dX12_prizes_122 F_X12_38 zW_54 rfl rfl ?_
          refine zJ_iload_n dX12_prizes_125 rfl rfl ?_
          refine zJ_iload_n dX12_prizes_126 rfl rfl ?_
          refine zJ_iload_n dX12_prizes_127 rfl rfl ?_
          refine zJ_icmp_ge (tgt := 140) dX12_prizes_128 (by decide) rfl (fun hc => ?_) (fun hc => ?_)
          · replace h := it_t hc h
            refine zJ_iconst dX12_prizes_140 zc_0 rfl ?_
            obtain ⟨hg, h⟩ := gd_some h
            refine zK_iast (mi := mX12_prizes) (f := m_money_115) (lb' := [(63, (upd m_money_115 v3_115.toNatClampNeg (0 : Int32))), (64, m_text), (68, m_newMoney_28x)]) dX12_prizes_141 zW_63 (ix_in hg) rfl rfl rfl ?_
            obtain ⟨v3n6, ev3n6, h⟩ := lt1_some h
            refine zJ_iincN (ls' := [(3, .int v3n6), (0, .ref 54), (1, .int v1_28x)]) dX12_prizes_142 rfl rfl zc_1 ev3n6 rfl rfl ?_
            refine zJ_goto (tgt := 115) dX12_prizes_145 (by decide) ?_
            refine zJ_loc (ls' := [(0, .ref 54), (1, .int v1_28x), (3, .int v3n6)]) (zll_c rfl (zll_c rfl (zll_c rfl zll_n))) ?_
            exact hrc115 _ _ h
          · replace h := it_f hc h
            refine zJ_aload_n dX12_prizes_131 rfl rfl ?_
            refine zJ_getr (mi := mX12_prizes) dX12_prizes_132 F_X12_55 zW_54 rfl rfl ?_
            refine zJ_iload_n dX12_prizes_135 rfl rfl ?_
            obtain ⟨hg, h⟩ := gd_some h
            refine zJ_iald (mi := mX12_prizes) (f := m_newMoney_28x) dX12_prizes_136 zW_68 (ix_in hg) rfl rfl ?_
            refine zJ_goto (tgt := 141) dX12_prizes_137 (by decide) ?_
            obtain ⟨hg, h⟩ := gd_some h
            refine zK_iast (mi := mX12_prizes) (f := m_money_115) (lb' := [(63, (upd m_money_115 v3_115.toNatClampNeg (m_newMoney_28x v3_115.toNatClampNeg))), (64, m_text), (68, m_newMoney_28x)]) dX12_prizes_141 zW_63 (ix_in hg) rfl rfl rfl ?_
            obtain ⟨v3n7, ev3n7, h⟩ := lt1_some h
            refine zJ_iincN (ls' := [(3, .int v3n7), (0, .ref 54), (1, .int v1_28x)]) dX12_prizes_142 rfl rfl zc_1 ev3n7 rfl rfl ?_
            refine zJ_goto (tgt := 115) dX12_prizes_145 (by decide) ?_
            refine zJ_loc (ls' := [(0, .ref 54), (1, .int v1_28x), (3, .int v3n7)]) (zll_c rfl (zll_c rfl (zll_c rfl zll_n))) ?_
            exact hrc115 _ _ h
      · replace h := it_t hc h
        refine zJ_iconst dX12_prizes_106 zc_m1 rfl ?_
        refine zJ_aload_n dX12_prizes_107 rfl rfl ?_
        refine zJ_geti (mi := mX12_prizes) (x := m_wrong_99j) dX12_prizes_108 F_X12_154 zW_54 rfl rfl rfl ?_
        refine zJ_isub dX12_prizes_111 rfl ?_
        obtain ⟨rfl, rfl, rfl, rfl, rfl, rfl, rfl, rfl, rfl⟩ := so9 h
        exact zJ_iret dX12_prizes_112 rfl rfl
    refine zJ_icmp_ge (tgt := 99) dX12_prizes_88 (by decide) rfl (fun hc => ?_) (fun hc => ?_)
    · replace h := it_t hc h
      refine zJ_loc (ls' := [(0, .ref 54), (1, .int v1_28x)]) (zll_c rfl (zll_c rfl zll_n)) ?_
      exact hj_X12_prizes_99 _ h
    · replace h := it_f hc h
      refine zJ_aload_n dX12_prizes_91 rfl rfl ?_
      refine zJ_aload_n dX12_prizes_92 rfl rfl ?_
      refine zJ_geti (mi := mX12_prizes) (x := m_at_28x) dX12_prizes_93 F_X12_151 zW_54 rfl rfl rfl ?_
      obtain ⟨m_wrongn8, hcl, h⟩ := bd1_some h
      refine zJ_callV (mi := mX12_prizes) (yi := mX12_fault) (as := [.int m_at_28x]) (st := []) (L2 := ([(3470, (0 : Int32)), (3473, (0 : Int32)), (3474, (nI 64)), (3475, m_lengthn1), (3476, m_topn2), (3477, m_at_28x), (3478, m_wrongn8)], [(63, m_money), (64, m_text), (68, m_newMoney_28x)], [])) dX12_prizes_96 ML_X12_169 Yv_X12_fault rfl zW_54 rfl rfl (t_X12_fault l _ hcl) (zsub_i (zle_c rfl zle_n) zle_n zle_n) rfl (Nat.le_of_ble_eq_true rfl) (Nat.le_of_ble_eq_true rfl) rfl rfl ?_
      refine zJ_loc (ls' := [(0, .ref 54), (1, .int v1_28x)]) (zll_c rfl (zll_c rfl zll_n)) ?_
      exact hj_X12_prizes_99 _ h
  refine zJ_loc (ls' := [(0, .ref 54), (1, .int (0 : Int32)), (2, .int (1 : Int32))]) (zll_c rfl (zll_c rfl (zll_c rfl zll_n))) ?_
  refine ml5_J (fun (v1_28 : Int32) (v2_28 : Int32) (m_at_28 : Int32) (m_wrong_28 : Int32) (m_newMoney_28 : (Nat → Int32)) => zJ l zW 4 mX12_prizes σ ([(3470, (0 : Int32)), (3473, (0 : Int32)), (3474, (nI 64)), (3475, m_lengthn1), (3476, m_topn2), (3477, m_at_28), (3478, m_wrong_28)], [(63, m_money), (64, m_text), (68, m_newMoney_28)], []) 28 [(0, .ref 54), (1, .int v1_28), (2, .int v2_28)] [] (some (.int r)) ([(3470, w_m_typed), (3473, w_m_thrown), (3474, (nI 64)), (3475, w_m_length), (3476, w_m_top), (3477, w_m_at), (3478, w_m_wrong)], [(63, w_m_money), (64, m_text), (68, w_m_newMoney)], [])) (fun rc28 hrc28 v1_28 v2_28 m_at_28 m_wrong_28 m_newMoney_28 h => ?_) zN _ _ _ _ _ h
  unfold s_X12_prizes_28 at h
  refine zJ_iload_n dX12_prizes_28 rfl rfl ?_
  refine zJ_if_eq (tgt := 80) dX12_prizes_29 (by decide) rfl (fun hc => ?_) (fun hc => ?_)
  · replace h := it_t hc h
    refine zJ_loc (ls' := [(0, .ref 54), (1, .int v1_28)]) (zll_c rfl (zll_c rfl zll_n)) ?_
    exact hk28 _ _ _ _ h
  · replace h := it_f hc h
    refine zJ_aload_n dX12_prizes_32 rfl rfl ?_
    obtain ⟨rn9, hcl, h⟩ := bd1_some h
    refine zJ_callV (mi := mX12_prizes) (yi := mX12_fine) (as := []) (st := []) (L2 := ([(3470, (0 : Int32)), (3473, (0 : Int32)), (3474, (nI 64)), (3475, m_lengthn1), (3476, m_topn2), (3477, m_at_28), (3478, m_wrong_28)], [(63, m_money), (64, m_text), (68, m_newMoney_28)], [])) dX12_prizes_33 ML_X12_157 Yv_X12_fine rfl zW_54 rfl rfl (t_X12_fine l _ hcl) (zsub_i (zle_c rfl zle_n) zle_n zle_n) rfl (Nat.le_of_ble_eq_true rfl) (Nat.le_of_ble_eq_true rfl) rfl rfl ?_
    refine zJ_if_eq (tgt := 80) dX12_prizes_36 (by decide) rfl (fun hc => ?_) (fun hc => ?_)
    · replace h := it_t hc h
      refine zJ_loc (ls' := [(0, .ref 54), (1, .int v1_28)]) (zll_c rfl (zll_c rfl zll_n)) ?_
      exact hk28 _ _ _ _ h
    · replace h := it_f hc h
      refine zJ_iload_n dX12_prizes_39 rfl rfl ?_
      refine zJ_bipush dX12_prizes_40 zb_6 rfl ?_
      refine zJ_icmp_ne (tgt := 56) dX12_prizes_42 (by decide) rfl (fun hc => ?_) (fun hc => ?_)
      · replace h := it_f hc h
        refine zJ_aload_n dX12_prizes_56 rfl rfl ?_
        refine zJ_getr (mi := mX12_prizes) dX12_prizes_57 F_X12_55 zW_54 rfl rfl ?_
        refine zJ_iload_n dX12_prizes_60 rfl rfl ?_
        refine zJ_aload_n dX12_prizes_61 rfl rfl ?_
        refine zJ_iconst dX12_prizes_62 zc_2 rfl ?_
        obtain ⟨rn10, m_atn11, m_wrongn12, hcl, h⟩ := bd3_some h
        refine zJ_callV (mi := mX12_prizes) (yi := mX12_number) (as := [.int (2 : Int32)]) (st := [.int v1_28, .ref 68]) (L2 := ([(3470, (0 : Int32)), (3473, (0 : Int32)), (3474, (nI 64)), (3475, m_lengthn1), (3476, m_topn2), (3477, m_atn11), (3478, m_wrongn12)], [(63, m_money), (64, m_text), (68, m_newMoney_28)], [])) dX12_prizes_63 ML_X12_198 Yv_X12_number rfl zW_54 rfl rfl (t_X12_number_t l _ hcl) (zsub_i (zle_c rfl (zle_c rfl (zle_c rfl (zle_c rfl (zle_c rfl zle_n))))) (zle_c rfl zle_n) zle_n) rfl (Nat.le_of_ble_eq_true rfl) (Nat.le_of_ble_eq_true rfl) rfl rfl ?_
        obtain ⟨hg, h⟩ := gd_some h
        refine zK_iast (mi := mX12_prizes) (f := m_newMoney_28) (lb' := [(63, m_money), (64, m_text), (68, (upd m_newMoney_28 v1_28.toNatClampNeg rn10))]) dX12_prizes_66 zW_68 (ix_in hg) rfl rfl rfl ?_
        obtain ⟨v1n13, ev1n13, h⟩ := lt1_some h
        refine zJ_iincN (ls' := [(1, .int v1n13), (0, .ref 54), (2, .int v2_28)]) dX12_prizes_67 rfl rfl zc_1 ev1n13 rfl rfl ?_
        refine zJ_aload_n dX12_prizes_70 rfl rfl ?_
        refine zJ_bipush dX12_prizes_71 zb_44 rfl ?_
        obtain ⟨rn14, m_atn15, hcl, h⟩ := bd2_some h
        refine zJ_callV (mi := mX12_prizes) (yi := mX12_passes) (as := [.int (44 : Int32)]) (st := []) (L2 := ([(3470, (0 : Int32)), (3473, (0 : Int32)), (3474, (nI 64)), (3475, m_lengthn1), (3476, m_topn2), (3477, m_atn15), (3478, m_wrongn12)], [(63, m_money), (64, m_text), (68, (upd m_newMoney_28 v1_28.toNatClampNeg rn10))], [])) dX12_prizes_73 ML_X12_165 Yv_X12_passes rfl zW_54 rfl rfl (t_X12_passes_t l _ hcl) (zsub_i (zle_c rfl (zle_c rfl (zle_c rfl (zle_c rfl (zle_c rfl zle_n))))) (zle_c rfl zle_n) zle_n) rfl (Nat.le_of_ble_eq_true rfl) (Nat.le_of_ble_eq_true rfl) rfl rfl ?_
        refine zJ_istore_n (ls' := [(2, .int rn14), (1, .int v1n13), (0, .ref 54)]) dX12_prizes_76 rfl rfl rfl ?_
        refine zJ_goto (tgt := 28) dX12_prizes_77 (by decide) ?_
        refine zJ_loc (ls' := [(0, .ref 54), (1, .int v1n13), (2, .int rn14)]) (zll_c rfl (zll_c rfl (zll_c rfl zll_n))) ?_
        exact hrc28 _ _ _ _ _ h
      · replace h := it_t hc h
        refine zJ_aload_n dX12_prizes_45 rfl rfl ?_
        refine zJ_aload_n dX12_prizes_46 rfl rfl ?_
        refine zJ_geti (mi := mX12_prizes) (x := m_at_28) dX12_prizes_47 F_X12_151 zW_54 rfl rfl rfl ?_
        obtain ⟨m_wrongn16, hcl, h⟩ := bd1_some h
        refine zJ_callV (mi := mX12_prizes) (yi := mX12_fault) (as := [.int m_at_28]) (st := []) (L2 := ([(3470, (0 : Int32)), (3473, (0 : Int32)), (3474, (nI 64)), (3475, m_lengthn1), (3476, m_topn2), (3477, m_at_28), (3478, m_wrongn16)], [(63, m_money), (64, m_text), (68, m_newMoney_28)], [])) dX12_prizes_50 ML_X12_169 Yv_X12_fault rfl zW_54 rfl rfl (t_X12_fault l _ hcl) (zsub_i (zle_c rfl zle_n) zle_n zle_n) rfl (Nat.le_of_ble_eq_true rfl) (Nat.le_of_ble_eq_true rfl) rfl rfl ?_
        refine zJ_goto (tgt := 67) dX12_prizes_53 (by decide) ?_
        obtain ⟨v1n17, ev1n17, h⟩ := lt1_some h
        refine zJ_iincN (ls' := [(1, .int v1n17), (0, .ref 54), (2, .int v2_28)]) dX12_prizes_67 rfl rfl zc_1 ev1n17 rfl rfl ?_
        refine zJ_aload_n dX12_prizes_70 rfl rfl ?_
        refine zJ_bipush dX12_prizes_71 zb_44 rfl ?_
        obtain ⟨rn18, m_atn19, hcl, h⟩ := bd2_some h
        refine zJ_callV (mi := mX12_prizes) (yi := mX12_passes) (as := [.int (44 : Int32)]) (st := []) (L2 := ([(3470, (0 : Int32)), (3473, (0 : Int32)), (3474, (nI 64)), (3475, m_lengthn1), (3476, m_topn2), (3477, m_atn19), (3478, m_wrongn16)], [(63, m_money), (64, m_text), (68, m_newMoney_28)], [])) dX12_prizes_73 ML_X12_165 Yv_X12_passes rfl zW_54 rfl rfl (t_X12_passes_t l _ hcl) (zsub_i (zle_c rfl (zle_c rfl (zle_c rfl (zle_c rfl (zle_c rfl zle_n))))) (zle_c rfl zle_n) zle_n) rfl (Nat.le_of_ble_eq_true rfl) (Nat.le_of_ble_eq_true rfl) rfl rfl ?_
        refine zJ_istore_n (ls' := [(2, .int rn18), (1, .int v1n17), (0, .ref 54)]) dX12_prizes_76 rfl rfl rfl ?_
        refine zJ_goto (tgt := 28) dX12_prizes_77 (by decide) ?_
        refine zJ_loc (ls' := [(0, .ref 54), (1, .int v1n17), (2, .int rn18)]) (zll_c rfl (zll_c rfl (zll_c rfl zll_n))) ?_
        exact hrc28 _ _ _ _ _ h
set_option maxRecDepth 100000 in
set_option maxHeartbeats 4000000 in
theorem t_X12_quick (l : Launch) (σ : zS) {p1 : Int32} {p2 : Int32} {m_fences : Int32} {m_horses : Int32} {m_rowMany : Int32} {m_thrown : Int32} {m_read : Int32} {m_length : Int32} {m_top : Int32} {m_at : Int32} {m_wrong : Int32} {m_ruleSize : Int32} {m_isAsked : Int32} {m_askedHorse : Int32} {m_askedFence : Int32} {m_askedLetter : Int32} {m_askedHeight : Int32} {m_kind : (Nat → Int32)} {m_height : (Nat → Int32)} {m_feet : (Nat → Int32)} {m_stride : (Nat → Int32)} {m_scope : (Nat → Int32)} {m_care : (Nat → Int32)} {m_rule : (Nat → Int32)} {m_left : (Nat → Int32)} {m_spent : (Nat → Int32)} {m_little : (Nat → Int32)} {m_row : (Nat → Int64)} {r : Int32} {w_m_rowMany : Int32} {w_m_thrown : Int32} {w_m_read : Int32} {w_m_length : Int32} {w_m_top : Int32} {w_m_at : Int32} {w_m_wrong : Int32} {w_m_isAsked : Int32} {w_m_askedHorse : Int32} {w_m_askedFence : Int32} {w_m_askedLetter : Int32} {w_m_askedHeight : Int32} {w_m_left : (Nat → Int32)} {w_m_spent : (Nat → Int32)} {w_m_little : (Nat → Int32)} {w_m_row : (Nat → Int64)} (h : f_X12_quick p1 p2 m_fences m_horses m_rowMany m_thrown m_read m_length m_top m_at m_wrong m_ruleSize m_isAsked m_askedHorse m_askedFence m_askedLetter m_askedHeight m_kind m_height m_feet m_stride m_scope m_care m_rule m_left m_spent m_little m_row = some (r, w_m_rowMany, w_m_thrown, w_m_read, w_m_length, w_m_top, w_m_at, w_m_wrong, w_m_isAsked, w_m_askedHorse, w_m_askedFence, w_m_askedLetter, w_m_askedHeight, w_m_left, w_m_spent, w_m_little, w_m_row)) : zMt l zW 208 mX12_quick σ ([(3457, m_fences), (3462, m_horses), (3472, m_rowMany), (3473, m_thrown), (3474, m_read), (3475, m_length), (3476, m_top), (3477, m_at), (3478, m_wrong), (3483, m_ruleSize), (3484, m_isAsked), (3485, m_askedHorse), (3486, m_askedFence), (3487, m_askedLetter), (3488, m_askedHeight)], [(56, m_kind), (57, m_height), (58, m_feet), (59, m_stride), (60, m_scope), (61, m_care), (69, m_rule), (71, m_left), (72, m_spent), (73, m_little)], [(65, m_row)]) [.ref 54, .int p1, .int p2] (some (.int r)) ([(3457, m_fences), (3462, m_horses), (3472, w_m_rowMany), (3473, w_m_thrown), (3474, w_m_read), (3475, w_m_length), (3476, w_m_top), (3477, w_m_at), (3478, w_m_wrong), (3483, m_ruleSize), (3484, w_m_isAsked), (3485, w_m_askedHorse), (3486, w_m_askedFence), (3487, w_m_askedLetter), (3488, w_m_askedHeight)], [(56, m_kind), (57, m_height), (58, m_feet), (59, m_stride), (60, m_scope), (61, m_care), (69, m_rule), (71, w_m_left), (72, w_m_spent), (73, w_m_little)], [(65, w_m_row)]) := by
  refine zMt_of (ls := [(0, .ref 54), (1, .int p1), (2, .int p2)]) (by decide) rfl (fun _ => Nat.le_of_ble_eq_true rfl) rfl ?_
  unfold f_X12_quick at h
  refine zJ_aload_n dX12_quick_0 rfl rfl ?_
  refine zJ_iconst dX12_quick_1 zc_0 rfl ?_
  refine zK_puti (mi := mX12_quick) (la' := [(3457, m_fences), (3462, m_horses), (3472, m_rowMany), (3473, (0 : Int32)), (3474, m_read), (3475, m_length), (3476, m_top), (3477, m_at), (3478, m_wrong), (3483, m_ruleSize), (3484, m_isAsked), (3485, m_askedHorse), (3486, m_askedFence), (3487, m_askedLetter), (3488, m_askedHeight)]) zW_ok dX12_quick_2 F_X12_113 P_12_17 zW_54 rfl rfl rfl ?_
  refine zJ_aload_n dX12_quick_5 rfl rfl ?_
  refine zJ_iload_n dX12_quick_6 rfl rfl ?_
  obtain ⟨rn1, hcl, h⟩ := bd1_some h
  refine zJ_callV (mi := mX12_quick) (yi := mX12_isHorse) (as := [.int p1]) (st := []) (L2 := ([(3457, m_fences), (3462, m_horses), (3472, m_rowMany), (3473, (0 : Int32)), (3474, m_read), (3475, m_length), (3476, m_top), (3477, m_at), (3478, m_wrong), (3483, m_ruleSize), (3484, m_isAsked), (3485, m_askedHorse), (3486, m_askedFence), (3487, m_askedLetter), (3488, m_askedHeight)], [(56, m_kind), (57, m_height), (58, m_feet), (59, m_stride), (60, m_scope), (61, m_care), (69, m_rule), (71, m_left), (72, m_spent), (73, m_little)], [(65, m_row)])) dX12_quick_7 ML_X12_132 Yv_X12_isHorse rfl zW_54 rfl rfl (t_X12_isHorse l _ hcl) (zsub_i (zle_c rfl zle_n) zle_n zle_n) rfl (Nat.le_of_ble_eq_true rfl) (Nat.le_of_ble_eq_true rfl) rfl rfl ?_
  refine zJ_if_eq (tgt := 20) dX12_quick_10 (by decide) rfl (fun hc => ?_) (fun hc => ?_)
  · replace h := it_t hc h
    refine zJ_iconst dX12_quick_20 zc_m1 rfl ?_
    obtain ⟨rfl, rfl, rfl, rfl, rfl, rfl, rfl, rfl, rfl, rfl, rfl, rfl, rfl, rfl, rfl, rfl, rfl⟩ := so17 h
    exact zJ_iret dX12_quick_21 rfl rfl
  · replace h := it_f hc h
    refine zJ_iload_n dX12_quick_13 rfl rfl ?_
    obtain ⟨rn2, hcl, h⟩ := bd1_some h
    refine zJ_callS (mi := mX12_quick) (yi := mX12_isMost) (as := [.int p2]) (st := []) (L2 := ([(3457, m_fences), (3462, m_horses), (3472, m_rowMany), (3473, (0 : Int32)), (3474, m_read), (3475, m_length), (3476, m_top), (3477, m_at), (3478, m_wrong), (3483, m_ruleSize), (3484, m_isAsked), (3485, m_askedHorse), (3486, m_askedFence), (3487, m_askedLetter), (3488, m_askedHeight)], [(56, m_kind), (57, m_height), (58, m_feet), (59, m_stride), (60, m_scope), (61, m_care), (69, m_rule), (71, m_left), (72, m_spent), (73, m_little)], [(65, m_row)])) dX12_quick_14 ML_X12_256 Ys_X12_isMost rfl (t_X12_isMost l _ hcl) (zsub_i zle_n zle_n zle_n) rfl (Nat.le_of_ble_eq_true rfl) (Nat.le_of_ble_eq_true rfl) rfl rfl ?_
    refine zJ_if_ne (tgt := 22) dX12_quick_17 (by decide) rfl (fun hc => ?_) (fun hc => ?_)
    · replace h := it_f hc h
      refine zJ_aload_n dX12_quick_22 rfl rfl ?_
      refine zJ_iload_n dX12_quick_23 rfl rfl ?_
      refine zJ_iconst dX12_quick_24 zc_0 rfl ?_
      obtain ⟨m_readn3, m_lengthn4, m_topn5, m_atn6, m_wrongn7, m_isAskedn8, m_askedHorsen9, m_askedFencen10, m_askedLettern11, m_askedHeightn12, m_spentn13, m_littlen14, hcl, h⟩ := bd12_some h
      refine zJ_callV (mi := mX12_quick) (yi := mX12_layFences) (as := [.int p1, .int (0 : Int32)]) (st := []) (L2 := ([(3457, m_fences), (3462, m_horses), (3472, m_rowMany), (3473, (0 : Int32)), (3474, m_readn3), (3475, m_lengthn4), (3476, m_topn5), (3477, m_atn6), (3478, m_wrongn7), (3483, m_ruleSize), (3484, m_isAskedn8), (3485, m_askedHorsen9), (3486, m_askedFencen10), (3487, m_askedLettern11), (3488, m_askedHeightn12)], [(56, m_kind), (57, m_height), (58, m_feet), (59, m_stride), (60, m_scope), (61, m_care), (69, m_rule), (71, m_left), (72, m_spentn13), (73, m_littlen14)], [(65, m_row)])) dX12_quick_25 ML_X12_295 Yv_X12_layFences rfl zW_54 rfl rfl (t_X12_layFences l _ hcl) (zsub_i (zle_c rfl (zle_c rfl (zle_c rfl (zle_c rfl (zle_c rfl (zle_c rfl (zle_c rfl (zle_c rfl (zle_c rfl (zle_c rfl (zle_c rfl (zle_c rfl zle_n)))))))))))) (zle_c rfl (zle_c rfl (zle_c rfl (zle_c rfl (zle_c rfl (zle_c rfl (zle_c rfl (zle_c rfl (zle_c rfl zle_n))))))))) zle_n) rfl (Nat.le_of_ble_eq_true rfl) (Nat.le_of_ble_eq_true rfl) rfl rfl ?_
      refine zJ_aload_n dX12_quick_28 rfl rfl ?_
      refine zJ_iload_n dX12_quick_29 rfl rfl ?_
      obtain ⟨rn15, m_rowManyn16, m_leftn17, m_rown18, hcl, h⟩ := bd4_some h
      refine zJ_callV (mi := mX12_quick) (yi := mX12_least) (as := [.int p2]) (st := []) (L2 := ([(3457, m_fences), (3462, m_horses), (3472, m_rowManyn16), (3473, (0 : Int32)), (3474, m_readn3), (3475, m_lengthn4), (3476, m_topn5), (3477, m_atn6), (3478, m_wrongn7), (3483, m_ruleSize), (3484, m_isAskedn8), (3485, m_askedHorsen9), (3486, m_askedFencen10), (3487, m_askedLettern11), (3488, m_askedHeightn12)], [(56, m_kind), (57, m_height), (58, m_feet), (59, m_stride), (60, m_scope), (61, m_care), (69, m_rule), (71, m_leftn17), (72, m_spentn13), (73, m_littlen14)], [(65, m_rown18)])) dX12_quick_30 ML_X12_299 Yv_X12_least rfl zW_54 rfl rfl (t_X12_least l _ hcl) (zsub_i (zle_c rfl (zle_c rfl zle_n)) (zle_c rfl (zle_c rfl (zle_c rfl zle_n))) (zle_c rfl zle_n)) rfl (Nat.le_of_ble_eq_true rfl) (Nat.le_of_ble_eq_true rfl) rfl rfl ?_
      obtain ⟨rfl, rfl, rfl, rfl, rfl, rfl, rfl, rfl, rfl, rfl, rfl, rfl, rfl, rfl, rfl, rfl, rfl⟩ := so17 h
      exact zJ_iret dX12_quick_33 rfl rfl
    · replace h := it_t hc h
      refine zJ_iconst dX12_quick_20 zc_m1 rfl ?_
      obtain ⟨rfl, rfl, rfl, rfl, rfl, rfl, rfl, rfl, rfl, rfl, rfl, rfl, rfl, rfl, rfl, rfl, rfl⟩ := so17 h
      exact zJ_iret dX12_quick_21 rfl rfl
set_option maxRecDepth 100000 in
set_option maxHeartbeats 4000000 in
theorem t_X12_raise (l : Launch) (σ : zS) {p1 : Int32} {p2 : Int32} {m_fences : Int32} {m_thrown : Int32} {m_height : (Nat → Int32)} {r : Int32} {w_m_thrown : Int32} {w_m_height : (Nat → Int32)} (h : f_X12_raise p1 p2 m_fences m_thrown m_height = some (r, w_m_thrown, w_m_height)) : zMt l zW 2 mX12_raise σ ([(3457, m_fences), (3473, m_thrown)], [(57, m_height)], []) [.ref 54, .int p1, .int p2] (some (.int r)) ([(3457, m_fences), (3473, w_m_thrown)], [(57, w_m_height)], []) := by
  refine zMt_of (ls := [(0, .ref 54), (1, .int p1), (2, .int p2)]) (by decide) rfl (fun _ => Nat.le_of_ble_eq_true rfl) rfl ?_
  unfold f_X12_raise at h
  refine zJ_aload_n dX12_raise_0 rfl rfl ?_
  refine zJ_iconst dX12_raise_1 zc_0 rfl ?_
  refine zK_puti (mi := mX12_raise) (la' := [(3457, m_fences), (3473, (0 : Int32))]) zW_ok dX12_raise_2 F_X12_113 P_12_17 zW_54 rfl rfl rfl ?_
  refine zJ_aload_n dX12_raise_5 rfl rfl ?_
  refine zJ_iload_n dX12_raise_6 rfl rfl ?_
  obtain ⟨rn1, hcl, h⟩ := bd1_some h
  refine zJ_callV (mi := mX12_raise) (yi := mX12_isFence) (as := [.int p1]) (st := []) (L2 := ([(3457, m_fences), (3473, (0 : Int32))], [(57, m_height)], [])) dX12_raise_7 ML_X12_250 Yv_X12_isFence rfl zW_54 rfl rfl (t_X12_isFence l _ hcl) (zsub_i (zle_c rfl zle_n) zle_n zle_n) rfl (Nat.le_of_ble_eq_true rfl) (Nat.le_of_ble_eq_true rfl) rfl rfl ?_
  refine zJ_if_eq (tgt := 23) dX12_raise_10 (by decide) rfl (fun hc => ?_) (fun hc => ?_)
  · replace h := it_t hc h
    refine zJ_iconst dX12_raise_23 zc_m1 rfl ?_
    obtain ⟨rfl, rfl, rfl⟩ := so3 h
    exact zJ_iret dX12_raise_24 rfl rfl
  · replace h := it_f hc h
    refine zJ_iload_n dX12_raise_13 rfl rfl ?_
    refine zJ_iconst dX12_raise_14 zc_0 rfl ?_
    refine zJ_bipush dX12_raise_15 zb_9 rfl ?_
    obtain ⟨rn2, hcl, h⟩ := bd1_some h
    refine zJ_callS (mi := mX12_raise) (yi := mX12_in) (as := [.int p2, .int (0 : Int32), .int (9 : Int32)]) (st := []) (L2 := ([(3457, m_fences), (3473, (0 : Int32))], [(57, m_height)], [])) dX12_raise_17 ML_X12_122 Ys_X12_in rfl (t_X12_in l _ hcl) (zsub_i zle_n zle_n zle_n) rfl (Nat.le_of_ble_eq_true rfl) (Nat.le_of_ble_eq_true rfl) rfl rfl ?_
    refine zJ_if_ne (tgt := 25) dX12_raise_20 (by decide) rfl (fun hc => ?_) (fun hc => ?_)
    · replace h := it_f hc h
      refine zJ_aload_n dX12_raise_25 rfl rfl ?_
      refine zJ_getr (mi := mX12_raise) dX12_raise_26 F_X12_16 zW_54 rfl rfl ?_
      refine zJ_iload_n dX12_raise_29 rfl rfl ?_
      obtain ⟨hg, h⟩ := gd_some h
      refine zJ_iald (mi := mX12_raise) (f := m_height) dX12_raise_30 zW_57 (ix_in hg) rfl rfl ?_
      obtain ⟨v3n3, ev3n3, h⟩ := lt1_some h
      refine zJ_nmi ev3n3 ?_
      refine zJ_istore_n (ls' := [(3, .int v3n3), (0, .ref 54), (1, .int p1), (2, .int p2)]) dX12_raise_31 rfl rfl rfl ?_
      refine zJ_aload_n dX12_raise_32 rfl rfl ?_
      refine zJ_getr (mi := mX12_raise) dX12_raise_33 F_X12_16 zW_54 rfl rfl ?_
      refine zJ_iload_n dX12_raise_36 rfl rfl ?_
      refine zJ_iload_n dX12_raise_37 rfl rfl ?_
      obtain ⟨hg, h⟩ := gd_some h
      refine zK_iast (mi := mX12_raise) (f := m_height) (lb' := [(57, (upd m_height p1.toNatClampNeg p2))]) dX12_raise_38 zW_57 (ix_in hg) rfl rfl rfl ?_
      refine zJ_iload_n dX12_raise_39 rfl rfl ?_
      obtain ⟨rfl, rfl, rfl⟩ := so3 h
      exact zJ_iret dX12_raise_40 rfl rfl
    · replace h := it_t hc h
      refine zJ_iconst dX12_raise_23 zc_m1 rfl ?_
      obtain ⟨rfl, rfl, rfl⟩ := so3 h
      exact zJ_iret dX12_raise_24 rfl rfl
set_option maxRecDepth 100000 in
set_option maxHeartbeats 4000000 in
theorem t_X12_readAct_t (l : Launch) (σ : zS) {p1 : Int32} {m_length : Int32} {m_top : Int32} {m_at : Int32} {m_wrong : Int32} {m_text : (Nat → Int32)} {m_acts : (Nat → Int32)} {w_m_at : Int32} {w_m_wrong : Int32} {w_m_acts : (Nat → Int32)} (h : f_X12_readAct_t p1 m_length m_top m_at m_wrong m_text m_acts = some (w_m_at, w_m_wrong, w_m_acts)) : zMt l zW 4 mX12_readAct σ ([(3474, (nI 64)), (3475, m_length), (3476, m_top), (3477, m_at), (3478, m_wrong)], [(64, m_text), (76, m_acts)], []) [.ref 54, .int p1] none ([(3474, (nI 64)), (3475, m_length), (3476, m_top), (3477, w_m_at), (3478, w_m_wrong)], [(64, m_text), (76, w_m_acts)], []) := by
  refine zMt_of (ls := [(0, .ref 54), (1, .int p1)]) (by decide) rfl (fun _ => Nat.le_of_ble_eq_true rfl) rfl ?_
  unfold f_X12_readAct_t at h
  refine zJ_aload_n dX12_readAct_0 rfl rfl ?_
  obtain ⟨rn1, hcl, h⟩ := bd1_some h
  refine zJ_callV (mi := mX12_readAct) (yi := mX12_here) (as := []) (st := []) (L2 := ([(3474, (nI 64)), (3475, m_length), (3476, m_top), (3477, m_at), (3478, m_wrong)], [(64, m_text), (76, m_acts)], [])) dX12_readAct_1 ML_X12_161 Yv_X12_here rfl zW_54 rfl rfl (t_X12_here_t l _ hcl) (zsub_i (zle_c rfl (zle_c rfl (zle_c rfl (zle_c rfl zle_n)))) (zle_c rfl zle_n) zle_n) rfl (Nat.le_of_ble_eq_true rfl) (Nat.le_of_ble_eq_true rfl) rfl rfl ?_
  refine zJ_istore_n (ls' := [(2, .int rn1), (0, .ref 54), (1, .int p1)]) dX12_readAct_4 rfl rfl rfl ?_
  refine zJ_iload_n dX12_readAct_5 rfl rfl ?_
  refine zJ_bipush dX12_readAct_6 zb_114 rfl ?_
  have hj_X12_readAct_t_31 : ∀ (m_wrong_31j : Int32), j_X12_readAct_t_31 p1 m_length m_top m_at m_text m_acts rn1 m_wrong_31j = some (w_m_at, w_m_wrong, w_m_acts) → zJ l zW 4 mX12_readAct σ ([(3474, (nI 64)), (3475, m_length), (3476, m_top), (3477, m_at), (3478, m_wrong_31j)], [(64, m_text), (76, m_acts)], []) 31 [(0, .ref 54), (1, .int p1), (2, .int rn1)] [] none ([(3474, (nI 64)), (3475, m_length), (3476, m_top), (3477, w_m_at), (3478, w_m_wrong)], [(64, m_text), (76, w_m_acts)], []) := by
    intro m_wrong_31j h
    unfold j_X12_readAct_t_31 at h
    refine zJ_aload_n dX12_readAct_31 rfl rfl ?_
    refine zJ_dup dX12_readAct_32 rfl rfl ?_
    refine zJ_geti (mi := mX12_readAct) (x := m_at) dX12_readAct_33 F_X12_151 zW_54 rfl rfl rfl ?_
    refine zJ_iconst dX12_readAct_36 zc_1 rfl ?_
    refine zJ_iadd dX12_readAct_37 rfl ?_
    refine zK_puti (mi := mX12_readAct) (la' := [(3474, (nI 64)), (3475, m_length), (3476, m_top), (3477, (m_at + (1 : Int32))), (3478, m_wrong_31j)]) zW_ok dX12_readAct_38 F_X12_151 P_12_21 zW_54 rfl rfl rfl ?_
    refine zJ_aload_n dX12_readAct_41 rfl rfl ?_
    refine zJ_getr (mi := mX12_readAct) dX12_readAct_42 F_X12_79 zW_54 rfl rfl ?_
    refine zJ_iload_n dX12_readAct_45 rfl rfl ?_
    refine zJ_iload_n dX12_readAct_46 rfl rfl ?_
    obtain ⟨hg, h⟩ := gd_some h
    refine zK_iast (mi := mX12_readAct) (f := m_acts) (lb' := [(64, m_text), (76, (upd m_acts p1.toNatClampNeg rn1))]) dX12_readAct_47 zW_76 (ix_in hg) rfl rfl rfl ?_
    refine zJ_iload_n dX12_readAct_48 rfl rfl ?_
    refine zJ_bipush dX12_readAct_49 zb_120 rfl ?_
    refine zJ_icmp_ne (tgt := 55) dX12_readAct_51 (by decide) rfl (fun hc => ?_) (fun hc => ?_)
    · replace h := it_f hc h
      refine zJ_aload_n dX12_readAct_55 rfl rfl ?_
      refine zJ_getr (mi := mX12_readAct) dX12_readAct_56 F_X12_79 zW_54 rfl rfl ?_
      refine zJ_iload_n dX12_readAct_59 rfl rfl ?_
      refine zJ_iconst dX12_readAct_60 zc_1 rfl ?_
      refine zJ_iadd dX12_readAct_61 rfl ?_
      refine zJ_aload_n dX12_readAct_62 rfl rfl ?_
      refine zJ_iconst dX12_readAct_63 zc_0 rfl ?_
      refine zJ_bipush dX12_readAct_64 zb_9 rfl ?_
      obtain ⟨rn2, m_atn3, m_wrongn4, hcl, h⟩ := bd3_some h
      refine zJ_callV (mi := mX12_readAct) (yi := mX12_digit) (as := [.int (0 : Int32), .int (9 : Int32)]) (st := [.int (p1 + (1 : Int32)), .ref 76]) (L2 := ([(3474, (nI 64)), (3475, m_length), (3476, m_top), (3477, m_atn3), (3478, m_wrongn4)], [(64, m_text), (76, (upd m_acts p1.toNatClampNeg rn1))], [])) dX12_readAct_66 ML_X12_173 Yv_X12_digit rfl zW_54 rfl rfl (t_X12_digit_t l _ hcl) (zsub_i (zle_c rfl (zle_c rfl (zle_c rfl (zle_c rfl (zle_c rfl zle_n))))) (zle_c rfl zle_n) zle_n) rfl (Nat.le_of_ble_eq_true rfl) (Nat.le_of_ble_eq_true rfl) rfl rfl ?_
      obtain ⟨hg, h⟩ := gd_some h
      refine zK_iast (mi := mX12_readAct) (f := ((upd m_acts p1.toNatClampNeg rn1))) (lb' := [(64, m_text), (76, (upd ((upd m_acts p1.toNatClampNeg rn1)) (p1 + (1 : Int32)).toNatClampNeg rn2))]) dX12_readAct_69 zW_76 (ix_in hg) rfl rfl rfl ?_
      refine zJ_aload_n dX12_readAct_70 rfl rfl ?_
      refine zJ_getr (mi := mX12_readAct) dX12_readAct_71 F_X12_79 zW_54 rfl rfl ?_
      refine zJ_iload_n dX12_readAct_74 rfl rfl ?_
      refine zJ_iconst dX12_readAct_75 zc_2 rfl ?_
      refine zJ_iadd dX12_readAct_76 rfl ?_
      refine zJ_aload_n dX12_readAct_77 rfl rfl ?_
      refine zJ_iconst dX12_readAct_78 zc_0 rfl ?_
      refine zJ_bipush dX12_readAct_79 zb_9 rfl ?_
      obtain ⟨rn5, m_atn6, m_wrongn7, hcl, h⟩ := bd3_some h
      refine zJ_callV (mi := mX12_readAct) (yi := mX12_digit) (as := [.int (0 : Int32), .int (9 : Int32)]) (st := [.int (p1 + (2 : Int32)), .ref 76]) (L2 := ([(3474, (nI 64)), (3475, m_length), (3476, m_top), (3477, m_atn6), (3478, m_wrongn7)], [(64, m_text), (76, (upd ((upd m_acts p1.toNatClampNeg rn1)) (p1 + (1 : Int32)).toNatClampNeg rn2))], [])) dX12_readAct_81 ML_X12_173 Yv_X12_digit rfl zW_54 rfl rfl (t_X12_digit_t l _ hcl) (zsub_i (zle_c rfl (zle_c rfl (zle_c rfl (zle_c rfl (zle_c rfl zle_n))))) (zle_c rfl zle_n) zle_n) rfl (Nat.le_of_ble_eq_true rfl) (Nat.le_of_ble_eq_true rfl) rfl rfl ?_
      obtain ⟨hg, h⟩ := gd_some h
      refine zK_iast (mi := mX12_readAct) (f := ((upd ((upd m_acts p1.toNatClampNeg rn1)) (p1 + (1 : Int32)).toNatClampNeg rn2))) (lb' := [(64, m_text), (76, (upd ((upd ((upd m_acts p1.toNatClampNeg rn1)) (p1 + (1 : Int32)).toNatClampNeg rn2)) (p1 + (2 : Int32)).toNatClampNeg rn5))]) dX12_readAct_84 zW_76 (ix_in hg) rfl rfl rfl ?_
      refine zJ_iload_n dX12_readAct_85 rfl rfl ?_
      refine zJ_bipush dX12_readAct_86 zb_114 rfl ?_
      refine zJ_icmp_ne (tgt := 130) dX12_readAct_88 (by decide) rfl (fun hc => ?_) (fun hc => ?_)
      · replace h := it_f hc h
        refine zJ_aload_n dX12_readAct_130 rfl rfl ?_
        refine zJ_bipush dX12_readAct_131 zb_58 rfl ?_
        obtain ⟨m_atn8, m_wrongn9, hcl, h⟩ := bd2_some h
        refine zJ_callV (mi := mX12_readAct) (yi := mX12_need) (as := [.int (58 : Int32)]) (st := []) (L2 := ([(3474, (nI 64)), (3475, m_length), (3476, m_top), (3477, m_atn8), (3478, m_wrongn9)], [(64, m_text), (76, (upd ((upd ((upd m_acts p1.toNatClampNeg rn1)) (p1 + (1 : Int32)).toNatClampNeg rn2)) (p1 + (2 : Int32)).toNatClampNeg rn5))], [])) dX12_readAct_133 ML_X12_181 Yv_X12_need rfl zW_54 rfl rfl (t_X12_need_t l _ hcl) (zsub_i (zle_c rfl (zle_c rfl (zle_c rfl (zle_c rfl (zle_c rfl zle_n))))) (zle_c rfl zle_n) zle_n) rfl (Nat.le_of_ble_eq_true rfl) (Nat.le_of_ble_eq_true rfl) rfl rfl ?_
        refine zJ_aload_n dX12_readAct_136 rfl rfl ?_
        refine zJ_getr (mi := mX12_readAct) dX12_readAct_137 F_X12_79 zW_54 rfl rfl ?_
        refine zJ_iload_n dX12_readAct_140 rfl rfl ?_
        refine zJ_iconst dX12_readAct_141 zc_3 rfl ?_
        refine zJ_iadd dX12_readAct_142 rfl ?_
        refine zJ_aload_n dX12_readAct_143 rfl rfl ?_
        refine zJ_iconst dX12_readAct_144 zc_2 rfl ?_
        obtain ⟨rn10, m_atn11, m_wrongn12, hcl, h⟩ := bd3_some h
        refine zJ_callV (mi := mX12_readAct) (yi := mX12_number) (as := [.int (2 : Int32)]) (st := [.int (p1 + (3 : Int32)), .ref 76]) (L2 := ([(3474, (nI 64)), (3475, m_length), (3476, m_top), (3477, m_atn11), (3478, m_wrongn12)], [(64, m_text), (76, (upd ((upd ((upd m_acts p1.toNatClampNeg rn1)) (p1 + (1 : Int32)).toNatClampNeg rn2)) (p1 + (2 : Int32)).toNatClampNeg rn5))], [])) dX12_readAct_145 ML_X12_198 Yv_X12_number rfl zW_54 rfl rfl (t_X12_number_t l _ hcl) (zsub_i (zle_c rfl (zle_c rfl (zle_c rfl (zle_c rfl (zle_c rfl zle_n))))) (zle_c rfl zle_n) zle_n) rfl (Nat.le_of_ble_eq_true rfl) (Nat.le_of_ble_eq_true rfl) rfl rfl ?_
        obtain ⟨hg, h⟩ := gd_some h
        refine zK_iast (mi := mX12_readAct) (f := ((upd ((upd ((upd m_acts p1.toNatClampNeg rn1)) (p1 + (1 : Int32)).toNatClampNeg rn2)) (p1 + (2 : Int32)).toNatClampNeg rn5))) (lb' := [(64, m_text), (76, (upd ((upd ((upd ((upd m_acts p1.toNatClampNeg rn1)) (p1 + (1 : Int32)).toNatClampNeg rn2)) (p1 + (2 : Int32)).toNatClampNeg rn5)) (p1 + (3 : Int32)).toNatClampNeg rn10))]) dX12_readAct_148 zW_76 (ix_in hg) rfl rfl rfl ?_
        refine zJ_aload_n dX12_readAct_149 rfl rfl ?_
        refine zJ_bipush dX12_readAct_150 zb_43 rfl ?_
        obtain ⟨m_atn13, m_wrongn14, hcl, h⟩ := bd2_some h
        refine zJ_callV (mi := mX12_readAct) (yi := mX12_need) (as := [.int (43 : Int32)]) (st := []) (L2 := ([(3474, (nI 64)), (3475, m_length), (3476, m_top), (3477, m_atn13), (3478, m_wrongn14)], [(64, m_text), (76, (upd ((upd ((upd ((upd m_acts p1.toNatClampNeg rn1)) (p1 + (1 : Int32)).toNatClampNeg rn2)) (p1 + (2 : Int32)).toNatClampNeg rn5)) (p1 + (3 : Int32)).toNatClampNeg rn10))], [])) dX12_readAct_152 ML_X12_181 Yv_X12_need rfl zW_54 rfl rfl (t_X12_need_t l _ hcl) (zsub_i (zle_c rfl (zle_c rfl (zle_c rfl (zle_c rfl (zle_c rfl zle_n))))) (zle_c rfl zle_n) zle_n) rfl (Nat.le_of_ble_eq_true rfl) (Nat.le_of_ble_eq_true rfl) rfl rfl ?_
        refine zJ_aload_n dX12_readAct_155 rfl rfl ?_
        refine zJ_getr (mi := mX12_readAct) dX12_readAct_156 F_X12_79 zW_54 rfl rfl ?_
        refine zJ_iload_n dX12_readAct_159 rfl rfl ?_
        refine zJ_iconst dX12_readAct_160 zc_4 rfl ?_
        refine zJ_iadd dX12_readAct_161 rfl ?_
        refine zJ_aload_n dX12_readAct_162 rfl rfl ?_
        refine zJ_iconst dX12_readAct_163 zc_4 rfl ?_
        obtain ⟨rn15, m_atn16, m_wrongn17, hcl, h⟩ := bd3_some h
        refine zJ_callV (mi := mX12_readAct) (yi := mX12_number) (as := [.int (4 : Int32)]) (st := [.int (p1 + (4 : Int32)), .ref 76]) (L2 := ([(3474, (nI 64)), (3475, m_length), (3476, m_top), (3477, m_atn16), (3478, m_wrongn17)], [(64, m_text), (76, (upd ((upd ((upd ((upd m_acts p1.toNatClampNeg rn1)) (p1 + (1 : Int32)).toNatClampNeg rn2)) (p1 + (2 : Int32)).toNatClampNeg rn5)) (p1 + (3 : Int32)).toNatClampNeg rn10))], [])) dX12_readAct_164 ML_X12_198 Yv_X12_number rfl zW_54 rfl rfl (t_X12_number_t l _ hcl) (zsub_i (zle_c rfl (zle_c rfl (zle_c rfl (zle_c rfl (zle_c rfl zle_n))))) (zle_c rfl zle_n) zle_n) rfl (Nat.le_of_ble_eq_true rfl) (Nat.le_of_ble_eq_true rfl) rfl rfl ?_
        obtain ⟨hg, h⟩ := gd_some h
        refine zK_iast (mi := mX12_readAct) (f := ((upd ((upd ((upd ((upd m_acts p1.toNatClampNeg rn1)) (p1 + (1 : Int32)).toNatClampNeg rn2)) (p1 + (2 : Int32)).toNatClampNeg rn5)) (p1 + (3 : Int32)).toNatClampNeg rn10))) (lb' := [(64, m_text), (76, (upd ((upd ((upd ((upd ((upd m_acts p1.toNatClampNeg rn1)) (p1 + (1 : Int32)).toNatClampNeg rn2)) (p1 + (2 : Int32)).toNatClampNeg rn5)) (p1 + (3 : Int32)).toNatClampNeg rn10)) (p1 + (4 : Int32)).toNatClampNeg rn15))]) dX12_readAct_167 zW_76 (ix_in hg) rfl rfl rfl ?_
        obtain ⟨rfl, rfl, rfl⟩ := so3 h
        exact zJ_vret dX12_readAct_168 rfl
      · replace h := it_t hc h
        refine zJ_aload_n dX12_readAct_91 rfl rfl ?_
        refine zJ_getr (mi := mX12_readAct) dX12_readAct_92 F_X12_79 zW_54 rfl rfl ?_
        refine zJ_iload_n dX12_readAct_95 rfl rfl ?_
        refine zJ_iconst dX12_readAct_96 zc_3 rfl ?_
        refine zJ_iadd dX12_readAct_97 rfl ?_
        refine zJ_aload_n dX12_readAct_98 rfl rfl ?_
        refine zJ_iconst dX12_readAct_99 zc_0 rfl ?_
        refine zJ_bipush dX12_readAct_100 zb_9 rfl ?_
        obtain ⟨rn18, m_atn19, m_wrongn20, hcl, h⟩ := bd3_some h
        refine zJ_callV (mi := mX12_readAct) (yi := mX12_digit) (as := [.int (0 : Int32), .int (9 : Int32)]) (st := [.int (p1 + (3 : Int32)), .ref 76]) (L2 := ([(3474, (nI 64)), (3475, m_length), (3476, m_top), (3477, m_atn19), (3478, m_wrongn20)], [(64, m_text), (76, (upd ((upd ((upd m_acts p1.toNatClampNeg rn1)) (p1 + (1 : Int32)).toNatClampNeg rn2)) (p1 + (2 : Int32)).toNatClampNeg rn5))], [])) dX12_readAct_102 ML_X12_173 Yv_X12_digit rfl zW_54 rfl rfl (t_X12_digit_t l _ hcl) (zsub_i (zle_c rfl (zle_c rfl (zle_c rfl (zle_c rfl (zle_c rfl zle_n))))) (zle_c rfl zle_n) zle_n) rfl (Nat.le_of_ble_eq_true rfl) (Nat.le_of_ble_eq_true rfl) rfl rfl ?_
        obtain ⟨hg, h⟩ := gd_some h
        refine zK_iast (mi := mX12_readAct) (f := ((upd ((upd ((upd m_acts p1.toNatClampNeg rn1)) (p1 + (1 : Int32)).toNatClampNeg rn2)) (p1 + (2 : Int32)).toNatClampNeg rn5))) (lb' := [(64, m_text), (76, (upd ((upd ((upd ((upd m_acts p1.toNatClampNeg rn1)) (p1 + (1 : Int32)).toNatClampNeg rn2)) (p1 + (2 : Int32)).toNatClampNeg rn5)) (p1 + (3 : Int32)).toNatClampNeg rn18))]) dX12_readAct_105 zW_76 (ix_in hg) rfl rfl rfl ?_
        refine zJ_aload_n dX12_readAct_106 rfl rfl ?_
        refine zJ_bipush dX12_readAct_107 zb_42 rfl ?_
        obtain ⟨m_atn21, m_wrongn22, hcl, h⟩ := bd2_some h
        refine zJ_callV (mi := mX12_readAct) (yi := mX12_need) (as := [.int (42 : Int32)]) (st := []) (L2 := ([(3474, (nI 64)), (3475, m_length), (3476, m_top), (3477, m_atn21), (3478, m_wrongn22)], [(64, m_text), (76, (upd ((upd ((upd ((upd m_acts p1.toNatClampNeg rn1)) (p1 + (1 : Int32)).toNatClampNeg rn2)) (p1 + (2 : Int32)).toNatClampNeg rn5)) (p1 + (3 : Int32)).toNatClampNeg rn18))], [])) dX12_readAct_109 ML_X12_181 Yv_X12_need rfl zW_54 rfl rfl (t_X12_need_t l _ hcl) (zsub_i (zle_c rfl (zle_c rfl (zle_c rfl (zle_c rfl (zle_c rfl zle_n))))) (zle_c rfl zle_n) zle_n) rfl (Nat.le_of_ble_eq_true rfl) (Nat.le_of_ble_eq_true rfl) rfl rfl ?_
        refine zJ_aload_n dX12_readAct_112 rfl rfl ?_
        refine zJ_getr (mi := mX12_readAct) dX12_readAct_113 F_X12_79 zW_54 rfl rfl ?_
        refine zJ_iload_n dX12_readAct_116 rfl rfl ?_
        refine zJ_iconst dX12_readAct_117 zc_4 rfl ?_
        refine zJ_iadd dX12_readAct_118 rfl ?_
        refine zJ_aload_n dX12_readAct_119 rfl rfl ?_
        refine zJ_iconst dX12_readAct_120 zc_0 rfl ?_
        refine zJ_bipush dX12_readAct_121 zb_9 rfl ?_
        obtain ⟨rn23, m_atn24, m_wrongn25, hcl, h⟩ := bd3_some h
        refine zJ_callV (mi := mX12_readAct) (yi := mX12_digit) (as := [.int (0 : Int32), .int (9 : Int32)]) (st := [.int (p1 + (4 : Int32)), .ref 76]) (L2 := ([(3474, (nI 64)), (3475, m_length), (3476, m_top), (3477, m_atn24), (3478, m_wrongn25)], [(64, m_text), (76, (upd ((upd ((upd ((upd m_acts p1.toNatClampNeg rn1)) (p1 + (1 : Int32)).toNatClampNeg rn2)) (p1 + (2 : Int32)).toNatClampNeg rn5)) (p1 + (3 : Int32)).toNatClampNeg rn18))], [])) dX12_readAct_123 ML_X12_173 Yv_X12_digit rfl zW_54 rfl rfl (t_X12_digit_t l _ hcl) (zsub_i (zle_c rfl (zle_c rfl (zle_c rfl (zle_c rfl (zle_c rfl zle_n))))) (zle_c rfl zle_n) zle_n) rfl (Nat.le_of_ble_eq_true rfl) (Nat.le_of_ble_eq_true rfl) rfl rfl ?_
        obtain ⟨hg, h⟩ := gd_some h
        refine zK_iast (mi := mX12_readAct) (f := ((upd ((upd ((upd ((upd m_acts p1.toNatClampNeg rn1)) (p1 + (1 : Int32)).toNatClampNeg rn2)) (p1 + (2 : Int32)).toNatClampNeg rn5)) (p1 + (3 : Int32)).toNatClampNeg rn18))) (lb' := [(64, m_text), (76, (upd ((upd ((upd ((upd ((upd m_acts p1.toNatClampNeg rn1)) (p1 + (1 : Int32)).toNatClampNeg rn2)) (p1 + (2 : Int32)).toNatClampNeg rn5)) (p1 + (3 : Int32)).toNatClampNeg rn18)) (p1 + (4 : Int32)).toNatClampNeg rn23))]) dX12_readAct_126 zW_76 (ix_in hg) rfl rfl rfl ?_
        refine zJ_goto (tgt := 168) dX12_readAct_127 (by decide) ?_
        obtain ⟨rfl, rfl, rfl⟩ := so3 h
        exact zJ_vret dX12_readAct_168 rfl
    · replace h := it_t hc h
      obtain ⟨rfl, rfl, rfl⟩ := so3 h
      exact zJ_vret dX12_readAct_54 rfl
  refine zJ_icmp_eq (tgt := 31) dX12_readAct_8 (by decide) rfl (fun hc => ?_) (fun hc => ?_)
  · replace h := it_t hc h
    refine zJ_loc (ls' := [(0, .ref 54), (1, .int p1), (2, .int rn1)]) (zll_c rfl (zll_c rfl (zll_c rfl zll_n))) ?_
    exact hj_X12_readAct_t_31 _ h
  · replace h := it_f hc h
    refine zJ_iload_n dX12_readAct_11 rfl rfl ?_
    refine zJ_bipush dX12_readAct_12 zb_116 rfl ?_
    refine zJ_icmp_eq (tgt := 31) dX12_readAct_14 (by decide) rfl (fun hc => ?_) (fun hc => ?_)
    · replace h := it_t hc h
      refine zJ_loc (ls' := [(0, .ref 54), (1, .int p1), (2, .int rn1)]) (zll_c rfl (zll_c rfl (zll_c rfl zll_n))) ?_
      exact hj_X12_readAct_t_31 _ h
    · replace h := it_f hc h
      refine zJ_iload_n dX12_readAct_17 rfl rfl ?_
      refine zJ_bipush dX12_readAct_18 zb_120 rfl ?_
      refine zJ_icmp_eq (tgt := 31) dX12_readAct_20 (by decide) rfl (fun hc => ?_) (fun hc => ?_)
      · replace h := it_t hc h
        refine zJ_loc (ls' := [(0, .ref 54), (1, .int p1), (2, .int rn1)]) (zll_c rfl (zll_c rfl (zll_c rfl zll_n))) ?_
        exact hj_X12_readAct_t_31 _ h
      · replace h := it_f hc h
        refine zJ_aload_n dX12_readAct_23 rfl rfl ?_
        refine zJ_aload_n dX12_readAct_24 rfl rfl ?_
        refine zJ_geti (mi := mX12_readAct) (x := m_at) dX12_readAct_25 F_X12_151 zW_54 rfl rfl rfl ?_
        obtain ⟨m_wrongn26, hcl, h⟩ := bd1_some h
        refine zJ_callV (mi := mX12_readAct) (yi := mX12_fault) (as := [.int m_at]) (st := []) (L2 := ([(3474, (nI 64)), (3475, m_length), (3476, m_top), (3477, m_at), (3478, m_wrongn26)], [(64, m_text), (76, m_acts)], [])) dX12_readAct_28 ML_X12_169 Yv_X12_fault rfl zW_54 rfl rfl (t_X12_fault l _ hcl) (zsub_i (zle_c rfl zle_n) zle_n zle_n) rfl (Nat.le_of_ble_eq_true rfl) (Nat.le_of_ble_eq_true rfl) rfl rfl ?_
        refine zJ_loc (ls' := [(0, .ref 54), (1, .int p1), (2, .int rn1)]) (zll_c rfl (zll_c rfl (zll_c rfl zll_n))) ?_
        exact hj_X12_readAct_t_31 _ h
