set_option maxRecDepth 100000 in
set_option maxHeartbeats 4000000 in
theorem t_X12_sheet (l : Launch) (σ : zS) {p1 : Int32} {p2 : Int32} {p3 : Int32} {p4 : Int32} {m_fences : Int32} {m_thrown : Int32} {m_height : (Nat → Int32)} {r : Int32} {w_m_thrown : Int32} {w_m_height : (Nat → Int32)} (h : f_X12_sheet p1 p2 p3 p4 m_fences m_thrown m_height = some (r, w_m_thrown, w_m_height)) : zMt l zW 1 mX12_sheet σ ([(3457, m_fences), (3473, m_thrown)], [(57, m_height)], []) [.ref 54, .int p1, .int p2, .int p3, .int p4] (some (.int r)) ([(3457, m_fences), (3473, w_m_thrown)], [(57, w_m_height)], []) := by
  refine zMt_of (ls := [(0, .ref 54), (1, .int p1), (2, .int p2), (3, .int p3), (4, .int p4)]) (by decide) rfl (fun _ => Nat.le_of_ble_eq_true rfl) rfl ?_
  unfold f_X12_sheet at h
  refine zJ_aload_n dX12_sheet_0 rfl rfl ?_
  refine zJ_iconst dX12_sheet_1 zc_0 rfl ?_
  refine zK_puti (mi := mX12_sheet) (la' := [(3457, m_fences), (3473, (0 : Int32))]) zW_ok dX12_sheet_2 F_X12_113 P_12_17 zW_54 rfl rfl rfl ?_
  refine zJ_iload_n dX12_sheet_5 rfl rfl ?_
  refine zJ_iconst dX12_sheet_6 zc_0 rfl ?_
  refine zJ_iconst dX12_sheet_7 zc_3 rfl ?_
  obtain ⟨rn1, hcl, h⟩ := bd1_some h
  refine zJ_callS (mi := mX12_sheet) (yi := mX12_in) (as := [.int p1, .int (0 : Int32), .int (3 : Int32)]) (st := []) (L2 := ([(3457, m_fences), (3473, (0 : Int32))], [(57, m_height)], [])) dX12_sheet_8 ML_X12_122 Ys_X12_in rfl (t_X12_in l _ hcl) (zsub_i zle_n zle_n zle_n) rfl (Nat.le_of_ble_eq_true rfl) (Nat.le_of_ble_eq_true rfl) rfl rfl ?_
  refine zJ_if_eq (tgt := 20) dX12_sheet_11 (by decide) rfl (fun hc => ?_) (fun hc => ?_)
  · replace h := it_t hc h
    refine zJ_iconst dX12_sheet_20 zc_m1 rfl ?_
    obtain ⟨rfl, rfl, rfl⟩ := so3 h
    exact zJ_iret dX12_sheet_21 rfl rfl
  · replace h := it_f hc h
    refine zJ_iload_n dX12_sheet_14 rfl rfl ?_
    refine zJ_bipush dX12_sheet_15 zb_8 rfl ?_
    refine zJ_icmp_le (tgt := 22) dX12_sheet_17 (by decide) rfl (fun hc => ?_) (fun hc => ?_)
    · replace h := it_t hc h
      refine zJ_iload_n dX12_sheet_22 rfl rfl ?_
      refine zJ_iconst dX12_sheet_23 zc_3 rfl ?_
      have hj_X12_sheet_34 : ∀ (_u : Unit), j_X12_sheet_34 p1 p2 p3 p4 m_fences m_height _u = some (r, w_m_thrown, w_m_height) → zJ l zW 1 mX12_sheet σ ([(3457, m_fences), (3473, (0 : Int32))], [(57, m_height)], []) 34 [(0, .ref 54), (1, .int p1), (2, .int p2), (3, .int p3), (4, .int p4)] [] (some (.int r)) ([(3457, m_fences), (3473, w_m_thrown)], [(57, w_m_height)], []) := by
        intro _u h
        unfold j_X12_sheet_34 at h
        refine zJ_iconst dX12_sheet_34 zc_0 rfl ?_
        refine zJ_istore (ls' := [(5, .int (0 : Int32)), (0, .ref 54), (1, .int p1), (2, .int p2), (3, .int p3), (4, .int p4)]) dX12_sheet_35 rfl rfl rfl ?_
        refine zJ_iload_n dX12_sheet_37 rfl rfl ?_
        refine zJ_istore (ls' := [(6, .int p3), (5, .int (0 : Int32)), (0, .ref 54), (1, .int p1), (2, .int p2), (3, .int p3), (4, .int p4)]) dX12_sheet_38 rfl rfl rfl ?_
        refine zJ_iconst dX12_sheet_40 zc_0 rfl ?_
        refine zJ_istore (ls' := [(7, .int (0 : Int32)), (6, .int p3), (5, .int (0 : Int32)), (0, .ref 54), (1, .int p1), (2, .int p2), (3, .int p3), (4, .int p4)]) dX12_sheet_41 rfl rfl rfl ?_
        have hk43 : ∀ (v5_43x : Int32) (m_height_43x : (Nat → Int32)), k_X12_sheet_43 p1 v5_43x m_height_43x = some (r, w_m_thrown, w_m_height) → zJ l zW 1 mX12_sheet σ ([(3457, m_fences), (3473, (0 : Int32))], [(57, m_height_43x)], []) 135 [(1, .int p1), (5, .int v5_43x)] [] (some (.int r)) ([(3457, m_fences), (3473, w_m_thrown)], [(57, w_m_height)], []) := by
          intro v5_43x m_height_43x h
          unfold k_X12_sheet_43 at h
          refine zJ_iload_n dX12_sheet_135 rfl rfl ?_
          refine zJ_iconst dX12_sheet_136 zc_3 rfl ?_
          refine zJ_icmp_ne (tgt := 145) dX12_sheet_137 (by decide) rfl (fun hc => ?_) (fun hc => ?_)
          · replace h := it_f hc h
            refine zJ_iload dX12_sheet_145 rfl rfl ?_
            obtain ⟨rfl, rfl, rfl⟩ := so3 h
            exact zJ_iret dX12_sheet_147 rfl rfl
          · replace h := it_t hc h
            refine zJ_bipush dX12_sheet_140 zb_m3 rfl ?_
            refine zJ_goto (tgt := 147) dX12_sheet_142 (by decide) ?_
            obtain ⟨rfl, rfl, rfl⟩ := so3 h
            exact zJ_iret dX12_sheet_147 rfl rfl
        refine zJ_loc (ls' := [(0, .ref 54), (1, .int p1), (2, .int p2), (4, .int p4), (5, .int (0 : Int32)), (6, .int p3), (7, .int (0 : Int32))]) (zll_c rfl (zll_c rfl (zll_c rfl (zll_c rfl (zll_c rfl (zll_c rfl (zll_c rfl zll_n))))))) ?_
        refine ml4_J (fun (v5_43 : Int32) (v6_43 : Int32) (v7_43 : Int32) (m_height_43 : (Nat → Int32)) => zJ l zW 1 mX12_sheet σ ([(3457, m_fences), (3473, (0 : Int32))], [(57, m_height_43)], []) 43 [(0, .ref 54), (1, .int p1), (2, .int p2), (4, .int p4), (5, .int v5_43), (6, .int v6_43), (7, .int v7_43)] [] (some (.int r)) ([(3457, m_fences), (3473, w_m_thrown)], [(57, w_m_height)], [])) (fun rc43 hrc43 v5_43 v6_43 v7_43 m_height_43 h => ?_) zN _ _ _ _ h
        unfold s_X12_sheet_43 at h
        refine zJ_iload dX12_sheet_43 rfl rfl ?_
        refine zJ_aload_n dX12_sheet_45 rfl rfl ?_
        refine zJ_geti (mi := mX12_sheet) (x := m_fences) dX12_sheet_46 F_X12_119 zW_54 rfl rfl rfl ?_
        refine zJ_icmp_ge (tgt := 135) dX12_sheet_49 (by decide) rfl (fun hc => ?_) (fun hc => ?_)
        · replace h := it_t hc h
          refine zJ_loc (ls' := [(1, .int p1), (5, .int v5_43)]) (zll_c rfl (zll_c rfl zll_n)) ?_
          exact hk43 _ _ h
        · replace h := it_f hc h
          refine zJ_iload_n dX12_sheet_52 rfl rfl ?_
          have hj_X12_sheet_75 : ∀ (t0_75j : Int32), j_X12_sheet_75 p1 p2 p4 rc43 v5_43 v6_43 v7_43 m_height_43 t0_75j = some (r, w_m_thrown, w_m_height) → zJ l zW 1 mX12_sheet σ ([(3457, m_fences), (3473, (0 : Int32))], [(57, m_height_43)], []) 75 [(0, .ref 54), (1, .int p1), (2, .int p2), (4, .int p4), (5, .int v5_43), (6, .int v6_43), (7, .int v7_43)] [.int t0_75j] (some (.int r)) ([(3457, m_fences), (3473, w_m_thrown)], [(57, w_m_height)], []) := by
            intro t0_75j h
            unfold j_X12_sheet_75 at h
            refine zJ_istore (ls' := [(8, .int t0_75j), (0, .ref 54), (1, .int p1), (2, .int p2), (4, .int p4), (5, .int v5_43), (6, .int v6_43), (7, .int v7_43)]) dX12_sheet_75 rfl rfl rfl ?_
            refine zJ_aload_n dX12_sheet_77 rfl rfl ?_
            refine zJ_getr (mi := mX12_sheet) dX12_sheet_78 F_X12_16 zW_54 rfl rfl ?_
            refine zJ_iload dX12_sheet_81 rfl rfl ?_
            refine zJ_iload_n dX12_sheet_83 rfl rfl ?_
            refine zJ_iconst dX12_sheet_84 zc_3 rfl ?_
            have hj_X12_sheet_94 : ∀ (v5_94j : Int32) (v6_94j : Int32) (v7_94j : Int32) (m_height_94j : (Nat → Int32)), j_X12_sheet_94 p4 rc43 v7_43 v5_94j v6_94j v7_94j m_height_94j = some (r, w_m_thrown, w_m_height) → zJ l zW 1 mX12_sheet σ ([(3457, m_fences), (3473, (0 : Int32))], [(57, m_height_94j)], []) 94 [(0, .ref 54), (1, .int p1), (2, .int p2), (4, .int p4), (5, .int v5_94j), (6, .int v6_94j), (7, .int v7_94j)] [.int v7_43, .ref 57] (some (.int r)) ([(3457, m_fences), (3473, w_m_thrown)], [(57, w_m_height)], []) := by
              intro v5_94j v6_94j v7_94j m_height_94j h
              unfold j_X12_sheet_94 at h
              refine zJ_iconst dX12_sheet_94 zc_0 rfl ?_
              refine zJ_goto (tgt := 109) dX12_sheet_95 (by decide) ?_
              obtain ⟨hg, h⟩ := gd_some h
              refine zK_iast (mi := mX12_sheet) (f := m_height_94j) (lb' := [(57, (upd m_height_94j v7_43.toNatClampNeg (0 : Int32)))]) dX12_sheet_109 zW_57 (ix_in hg) rfl rfl rfl ?_
              refine zJ_iload dX12_sheet_110 rfl rfl ?_
              refine zJ_aload_n dX12_sheet_112 rfl rfl ?_
              refine zJ_getr (mi := mX12_sheet) dX12_sheet_113 F_X12_16 zW_54 rfl rfl ?_
              refine zJ_iload dX12_sheet_116 rfl rfl ?_
              obtain ⟨hg, h⟩ := gd_some h
              refine zJ_iald (mi := mX12_sheet) (f := (upd m_height_94j v7_43.toNatClampNeg (0 : Int32))) dX12_sheet_118 zW_57 (ix_in hg) rfl rfl ?_
              refine zJ_iadd dX12_sheet_119 rfl ?_
              obtain ⟨v5n2, ev5n2, h⟩ := lt1_some h
              refine zJ_nmi ev5n2 ?_
              refine zJ_istore (ls' := [(5, .int v5n2), (0, .ref 54), (1, .int p1), (2, .int p2), (4, .int p4), (6, .int v6_94j), (7, .int v7_94j)]) dX12_sheet_120 rfl rfl rfl ?_
              refine zJ_iload dX12_sheet_122 rfl rfl ?_
              refine zJ_iload dX12_sheet_124 rfl rfl ?_
              refine zJ_iadd dX12_sheet_126 rfl ?_
              obtain ⟨v6n3, ev6n3, h⟩ := lt1_some h
              refine zJ_nmi ev6n3 ?_
              refine zJ_istore (ls' := [(6, .int v6n3), (5, .int v5n2), (0, .ref 54), (1, .int p1), (2, .int p2), (4, .int p4), (7, .int v7_94j)]) dX12_sheet_127 rfl rfl rfl ?_
              obtain ⟨v7n4, ev7n4, h⟩ := lt1_some h
              refine zJ_iincN (ls' := [(7, .int v7n4), (6, .int v6n3), (5, .int v5n2), (0, .ref 54), (1, .int p1), (2, .int p2), (4, .int p4)]) dX12_sheet_129 rfl rfl zc_1 ev7n4 rfl rfl ?_
              refine zJ_goto (tgt := 43) dX12_sheet_132 (by decide) ?_
              refine zJ_loc (ls' := [(0, .ref 54), (1, .int p1), (2, .int p2), (4, .int p4), (5, .int v5n2), (6, .int v6n3), (7, .int v7n4)]) (zll_c rfl (zll_c rfl (zll_c rfl (zll_c rfl (zll_c rfl (zll_c rfl (zll_c rfl zll_n))))))) ?_
              exact hrc43 _ _ _ _ h
            refine zJ_icmp_eq (tgt := 94) dX12_sheet_85 (by decide) rfl (fun hc => ?_) (fun hc => ?_)
            · replace h := it_t hc h
              refine zJ_loc (ls' := [(0, .ref 54), (1, .int p1), (2, .int p2), (4, .int p4), (5, .int v5_43), (6, .int v6_43), (7, .int v7_43)]) (zll_c rfl (zll_c rfl (zll_c rfl (zll_c rfl (zll_c rfl (zll_c rfl (zll_c rfl zll_n))))))) ?_
              exact hj_X12_sheet_94 _ _ _ _ h
            · replace h := it_f hc h
              refine zJ_iload dX12_sheet_88 rfl rfl ?_
              refine zJ_iload_n dX12_sheet_90 rfl rfl ?_
              refine zJ_icmp_lt (tgt := 98) dX12_sheet_91 (by decide) rfl (fun hc => ?_) (fun hc => ?_)
              · replace h := it_t hc h
                refine zJ_iconst dX12_sheet_98 zc_0 rfl ?_
                refine zJ_bipush dX12_sheet_99 zb_9 rfl ?_
                refine zJ_iload dX12_sheet_101 rfl rfl ?_
                refine zJ_mmin (mi := mX12_sheet) dX12_sheet_103 L_X12_238 K_min_s K_math K_min_c (Nat.le_of_ble_eq_true rfl) (Nat.le_of_ble_eq_true rfl) rfl ?_
                refine zJ_mmax (mi := mX12_sheet) dX12_sheet_106 L_X12_243 K_max_s K_math K_max_c (Nat.le_of_ble_eq_true rfl) (Nat.le_of_ble_eq_true rfl) rfl ?_
                obtain ⟨hg, h⟩ := gd_some h
                refine zK_iast (mi := mX12_sheet) (f := m_height_43) (lb' := [(57, (upd m_height_43 v7_43.toNatClampNeg (if (0 : Int32) < (if t0_75j < (9 : Int32) then t0_75j else (9 : Int32)) then (if t0_75j < (9 : Int32) then t0_75j else (9 : Int32)) else (0 : Int32))))]) dX12_sheet_109 zW_57 (ix_in hg) rfl rfl rfl ?_
                refine zJ_iload dX12_sheet_110 rfl rfl ?_
                refine zJ_aload_n dX12_sheet_112 rfl rfl ?_
                refine zJ_getr (mi := mX12_sheet) dX12_sheet_113 F_X12_16 zW_54 rfl rfl ?_
                refine zJ_iload dX12_sheet_116 rfl rfl ?_
                obtain ⟨hg, h⟩ := gd_some h
                refine zJ_iald (mi := mX12_sheet) (f := (upd m_height_43 v7_43.toNatClampNeg (if (0 : Int32) < (if t0_75j < (9 : Int32) then t0_75j else (9 : Int32)) then (if t0_75j < (9 : Int32) then t0_75j else (9 : Int32)) else (0 : Int32)))) dX12_sheet_118 zW_57 (ix_in hg) rfl rfl ?_
                refine zJ_iadd dX12_sheet_119 rfl ?_
                obtain ⟨v5n5, ev5n5, h⟩ := lt1_some h
                refine zJ_nmi ev5n5 ?_
                refine zJ_istore (ls' := [(5, .int v5n5), (8, .int t0_75j), (0, .ref 54), (1, .int p1), (2, .int p2), (4, .int p4), (6, .int v6_43), (7, .int v7_43)]) dX12_sheet_120 rfl rfl rfl ?_
                refine zJ_iload dX12_sheet_122 rfl rfl ?_
                refine zJ_iload dX12_sheet_124 rfl rfl ?_
                refine zJ_iadd dX12_sheet_126 rfl ?_
                obtain ⟨v6n6, ev6n6, h⟩ := lt1_some h
                refine zJ_nmi ev6n6 ?_
                refine zJ_istore (ls' := [(6, .int v6n6), (5, .int v5n5), (8, .int t0_75j), (0, .ref 54), (1, .int p1), (2, .int p2), (4, .int p4), (7, .int v7_43)]) dX12_sheet_127 rfl rfl rfl ?_
                obtain ⟨v7n7, ev7n7, h⟩ := lt1_some h
                refine zJ_iincN (ls' := [(7, .int v7n7), (6, .int v6n6), (5, .int v5n5), (8, .int t0_75j), (0, .ref 54), (1, .int p1), (2, .int p2), (4, .int p4)]) dX12_sheet_129 rfl rfl zc_1 ev7n7 rfl rfl ?_
                refine zJ_goto (tgt := 43) dX12_sheet_132 (by decide) ?_
                refine zJ_loc (ls' := [(0, .ref 54), (1, .int p1), (2, .int p2), (4, .int p4), (5, .int v5n5), (6, .int v6n6), (7, .int v7n7)]) (zll_c rfl (zll_c rfl (zll_c rfl (zll_c rfl (zll_c rfl (zll_c rfl (zll_c rfl zll_n))))))) ?_
                exact hrc43 _ _ _ _ h
              · replace h := it_f hc h
                refine zJ_loc (ls' := [(0, .ref 54), (1, .int p1), (2, .int p2), (4, .int p4), (5, .int v5_43), (6, .int v6_43), (7, .int v7_43)]) (zll_c rfl (zll_c rfl (zll_c rfl (zll_c rfl (zll_c rfl (zll_c rfl (zll_c rfl zll_n))))))) ?_
                exact hj_X12_sheet_94 _ _ _ _ h
          refine zJ_if_ne (tgt := 62) dX12_sheet_53 (by decide) rfl (fun hc => ?_) (fun hc => ?_)
          · replace h := it_f hc h
            refine zJ_iload_n dX12_sheet_62 rfl rfl ?_
            refine zJ_iconst dX12_sheet_63 zc_1 rfl ?_
            refine zJ_icmp_ne (tgt := 73) dX12_sheet_64 (by decide) rfl (fun hc => ?_) (fun hc => ?_)
            · replace h := it_f hc h
              refine zJ_iload dX12_sheet_73 rfl rfl ?_
              refine zJ_loc (ls' := [(0, .ref 54), (1, .int p1), (2, .int p2), (4, .int p4), (5, .int v5_43), (6, .int v6_43), (7, .int v7_43)]) (zll_c rfl (zll_c rfl (zll_c rfl (zll_c rfl (zll_c rfl (zll_c rfl (zll_c rfl zll_n))))))) ?_
              exact hj_X12_sheet_75 _ h
            · replace h := it_t hc h
              refine zJ_iload dX12_sheet_67 rfl rfl ?_
              refine zJ_i2s dX12_sheet_69 rfl ?_
              refine zJ_goto (tgt := 75) dX12_sheet_70 (by decide) ?_
              refine zJ_loc (ls' := [(0, .ref 54), (1, .int p1), (2, .int p2), (4, .int p4), (5, .int v5_43), (6, .int v6_43), (7, .int v7_43)]) (zll_c rfl (zll_c rfl (zll_c rfl (zll_c rfl (zll_c rfl (zll_c rfl (zll_c rfl zll_n))))))) ?_
              exact hj_X12_sheet_75 _ h
          · replace h := it_t hc h
            refine zJ_iload dX12_sheet_56 rfl rfl ?_
            refine zJ_i2b dX12_sheet_58 rfl ?_
            refine zJ_goto (tgt := 75) dX12_sheet_59 (by decide) ?_
            refine zJ_loc (ls' := [(0, .ref 54), (1, .int p1), (2, .int p2), (4, .int p4), (5, .int v5_43), (6, .int v6_43), (7, .int v7_43)]) (zll_c rfl (zll_c rfl (zll_c rfl (zll_c rfl (zll_c rfl (zll_c rfl (zll_c rfl zll_n))))))) ?_
            exact hj_X12_sheet_75 _ h
      refine zJ_icmp_ge (tgt := 34) dX12_sheet_24 (by decide) rfl (fun hc => ?_) (fun hc => ?_)
      · replace h := it_t hc h
        refine zJ_loc (ls' := [(0, .ref 54), (1, .int p1), (2, .int p2), (3, .int p3), (4, .int p4)]) (zll_c rfl (zll_c rfl (zll_c rfl (zll_c rfl (zll_c rfl zll_n))))) ?_
        exact hj_X12_sheet_34 _ h
      · replace h := it_f hc h
        refine zJ_iload_n dX12_sheet_27 rfl rfl ?_
        refine zJ_if_ge (tgt := 34) dX12_sheet_28 (by decide) rfl (fun hc => ?_) (fun hc => ?_)
        · replace h := it_t hc h
          refine zJ_loc (ls' := [(0, .ref 54), (1, .int p1), (2, .int p2), (3, .int p3), (4, .int p4)]) (zll_c rfl (zll_c rfl (zll_c rfl (zll_c rfl (zll_c rfl zll_n))))) ?_
          exact hj_X12_sheet_34 _ h
        · replace h := it_f hc h
          refine zJ_bipush dX12_sheet_31 zb_m2 rfl ?_
          obtain ⟨rfl, rfl, rfl⟩ := so3 h
          exact zJ_iret dX12_sheet_33 rfl rfl
    · replace h := it_f hc h
      refine zJ_iconst dX12_sheet_20 zc_m1 rfl ?_
      obtain ⟨rfl, rfl, rfl⟩ := so3 h
      exact zJ_iret dX12_sheet_21 rfl rfl
