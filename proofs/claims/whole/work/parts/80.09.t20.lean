set_option maxRecDepth 100000 in
set_option maxHeartbeats 4000000 in
theorem t_X12_least (l : Launch) (σ : zS) {p1 : Int32} {m_fences : Int32} {m_rowMany : Int32} {m_left : (Nat → Int32)} {m_spent : (Nat → Int32)} {m_little : (Nat → Int32)} {m_row : (Nat → Int64)} {r : Int32} {w_m_rowMany : Int32} {w_m_left : (Nat → Int32)} {w_m_row : (Nat → Int64)} (h : f_X12_least p1 m_fences m_rowMany m_left m_spent m_little m_row = some (r, w_m_rowMany, w_m_left, w_m_row)) : zMt l zW 1 mX12_least σ ([(3457, m_fences), (3472, m_rowMany)], [(71, m_left), (72, m_spent), (73, m_little)], [(65, m_row)]) [.ref 54, .int p1] (some (.int r)) ([(3457, m_fences), (3472, w_m_rowMany)], [(71, w_m_left), (72, m_spent), (73, m_little)], [(65, w_m_row)]) := by
  refine zMt_of (ls := [(0, .ref 54), (1, .int p1)]) (by decide) rfl (fun _ => Nat.le_of_ble_eq_true rfl) rfl ?_
  unfold f_X12_least at h
  refine zJ_iload_n dX12_least_0 rfl rfl ?_
  refine zJ_sipush dX12_least_1 zs_1299 rfl ?_
  refine zJ_mmin (mi := mX12_least) dX12_least_4 L_X12_238 K_min_s K_math K_min_c (Nat.le_of_ble_eq_true rfl) (Nat.le_of_ble_eq_true rfl) rfl ?_
  obtain ⟨v2n1, ev2n1, h⟩ := lt1_some h
  refine zJ_nmi ev2n1 ?_
  refine zJ_istore_n (ls' := [(2, .int v2n1), (0, .ref 54), (1, .int p1)]) dX12_least_7 rfl rfl rfl ?_
  refine zJ_iconst dX12_least_8 zc_0 rfl ?_
  refine zJ_istore_n (ls' := [(3, .int (0 : Int32)), (2, .int v2n1), (0, .ref 54), (1, .int p1)]) dX12_least_9 rfl rfl rfl ?_
  have hk10 : ∀ (m_left_10x : (Nat → Int32)), k_X12_least_10 m_fences m_rowMany m_spent m_little m_row v2n1 m_left_10x = some (r, w_m_rowMany, w_m_left, w_m_row) → zJ l zW 1 mX12_least σ ([(3457, m_fences), (3472, m_rowMany)], [(71, m_left_10x), (72, m_spent), (73, m_little)], [(65, m_row)]) 39 [(0, .ref 54), (2, .int v2n1)] [] (some (.int r)) ([(3457, m_fences), (3472, w_m_rowMany)], [(71, w_m_left), (72, m_spent), (73, m_little)], [(65, w_m_row)]) := by
    intro m_left_10x h
    unfold k_X12_least_10 at h
    refine zJ_aload_n dX12_least_39 rfl rfl ?_
    refine zJ_geti (mi := mX12_least) (x := m_fences) dX12_least_40 F_X12_119 zW_54 rfl rfl rfl ?_
    refine zJ_iconst dX12_least_43 zc_1 rfl ?_
    refine zJ_isub dX12_least_44 rfl ?_
    obtain ⟨v3n2, ev3n2, h⟩ := lt1_some h
    refine zJ_nmi ev3n2 ?_
    refine zJ_istore_n (ls' := [(3, .int v3n2), (0, .ref 54), (2, .int v2n1)]) dX12_least_45 rfl rfl rfl ?_
    have hk46 : ∀ (m_left_46x : (Nat → Int32)), k_X12_least_46 m_fences m_rowMany m_spent m_little m_row v2n1 m_left_46x = some (r, w_m_rowMany, w_m_left, w_m_row) → zJ l zW 1 mX12_least σ ([(3457, m_fences), (3472, m_rowMany)], [(71, m_left_46x), (72, m_spent), (73, m_little)], [(65, m_row)]) 125 [(0, .ref 54), (2, .int v2n1)] [] (some (.int r)) ([(3457, m_fences), (3472, w_m_rowMany)], [(71, w_m_left), (72, m_spent), (73, m_little)], [(65, w_m_row)]) := by
      intro m_left_46x h
      unfold k_X12_least_46 at h
      refine zJ_aload_n dX12_least_125 rfl rfl ?_
      refine zJ_getr (mi := mX12_least) dX12_least_126 F_X12_64 zW_54 rfl rfl ?_
      refine zJ_iload_n dX12_least_129 rfl rfl ?_
      obtain ⟨hg, h⟩ := gd_some h
      refine zJ_iald (mi := mX12_least) (f := m_left_46x) dX12_least_130 zW_71 (ix_in hg) rfl rfl ?_
      refine zJ_ldc_w (v := 100000000) dX12_least_131 C_X12_272 rfl ?_
      refine zJ_icmp_ne (tgt := 140) dX12_least_134 (by decide) rfl (fun hc => ?_) (fun hc => ?_)
      · replace h := it_f hc h
        refine zJ_aload_n dX12_least_140 rfl rfl ?_
        refine zJ_iconst dX12_least_141 zc_0 rfl ?_
        refine zK_puti (mi := mX12_least) (la' := [(3457, m_fences), (3472, (0 : Int32))]) zW_ok dX12_least_142 F_X12_116 P_12_16 zW_54 rfl rfl rfl ?_
        refine zJ_aload_n dX12_least_145 rfl rfl ?_
        refine zJ_aload_n dX12_least_146 rfl rfl ?_
        refine zJ_getr (mi := mX12_least) dX12_least_147 F_X12_64 zW_54 rfl rfl ?_
        refine zJ_iload_n dX12_least_150 rfl rfl ?_
        obtain ⟨hg, h⟩ := gd_some h
        refine zJ_iald (mi := mX12_least) (f := m_left_46x) dX12_least_151 zW_71 (ix_in hg) rfl rfl ?_
        refine zJ_sipush dX12_least_152 zs_10000 rfl ?_
        refine zJ_irem dX12_least_155 (by decide) rfl ?_
        refine zJ_i2l dX12_least_156 rfl ?_
        obtain ⟨m_rowManyn3, m_rown4, hcl, h⟩ := bd2_some h
        refine zJ_callV2 (σ := σ) (L := ([(3457, m_fences), (3472, (0 : Int32))], [(71, m_left_46x), (72, m_spent), (73, m_little)], [(65, m_row)])) (mi := mX12_least) (yi := mX12_tell) (as := [.long (((m_left_46x v2n1.toNatClampNeg) - (m_left_46x v2n1.toNatClampNeg) / (10000 : Int32) * (10000 : Int32))).toInt64]) (st := []) (L2 := ([(3457, m_fences), (3472, m_rowManyn3)], [(71, m_left_46x), (72, m_spent), (73, m_little)], [(65, m_rown4)])) dX12_least_157 ML_X12_265 Yv_X12_tell rfl zW_54 rfl rfl (t_X12_tell l _ hcl) (zsub_i (zle_c rfl zle_n) zle_n (zle_c rfl zle_n)) (zjok_i rfl rfl (zle_c rfl (zle_c rfl zle_n)) rfl rfl (zle_c rfl (zle_c rfl (zle_c rfl zle_n))) rfl rfl (zle_c rfl zle_n)) (Nat.le_of_ble_eq_true rfl) (Nat.le_of_ble_eq_true rfl) rfl rfl ?_
        refine zJ_iload_n dX12_least_160 rfl rfl ?_
        refine zJ_istore_n (ls' := [(3, .int v2n1), (0, .ref 54), (2, .int v2n1)]) dX12_least_161 rfl rfl rfl ?_
        refine zJ_iconst dX12_least_162 zc_0 rfl ?_
        refine zJ_istore (ls' := [(4, .int (0 : Int32)), (3, .int v2n1), (0, .ref 54), (2, .int v2n1)]) dX12_least_163 rfl rfl rfl ?_
        have hk165 : ∀ (m_rowMany_165x : Int32) (m_row_165x : (Nat → Int64)), k_X12_least_165 v2n1 m_left_46x m_rowMany_165x m_row_165x = some (r, w_m_rowMany, w_m_left, w_m_row) → zJ l zW 1 mX12_least σ ([(3457, m_fences), (3472, m_rowMany_165x)], [(71, m_left_46x), (72, m_spent), (73, m_little)], [(65, m_row_165x)]) 237 [(0, .ref 54), (2, .int v2n1)] [] (some (.int r)) ([(3457, m_fences), (3472, w_m_rowMany)], [(71, w_m_left), (72, m_spent), (73, m_little)], [(65, w_m_row)]) := by
          intro m_rowMany_165x m_row_165x h
          unfold k_X12_least_165 at h
          refine zJ_aload_n dX12_least_237 rfl rfl ?_
          refine zJ_getr (mi := mX12_least) dX12_least_238 F_X12_64 zW_54 rfl rfl ?_
          refine zJ_iload_n dX12_least_241 rfl rfl ?_
          obtain ⟨hg, h⟩ := gd_some h
          refine zJ_iald (mi := mX12_least) (f := m_left_46x) dX12_least_242 zW_71 (ix_in hg) rfl rfl ?_
          refine zJ_sipush dX12_least_243 zs_10000 rfl ?_
          refine zJ_idiv dX12_least_246 (by decide) rfl ?_
          obtain ⟨rfl, rfl, rfl, rfl⟩ := so4 h
          exact zJ_iret dX12_least_247 rfl rfl
        refine zJ_loc (ls' := [(0, .ref 54), (2, .int v2n1), (3, .int v2n1), (4, .int (0 : Int32))]) (zll_c rfl (zll_c rfl (zll_c rfl (zll_c rfl zll_n)))) ?_
        refine ml4_J (fun (v3_165 : Int32) (v4_165 : Int32) (m_rowMany_165 : Int32) (m_row_165 : (Nat → Int64)) => zJ l zW 1 mX12_least σ ([(3457, m_fences), (3472, m_rowMany_165)], [(71, m_left_46x), (72, m_spent), (73, m_little)], [(65, m_row_165)]) 165 [(0, .ref 54), (2, .int v2n1), (3, .int v3_165), (4, .int v4_165)] [] (some (.int r)) ([(3457, m_fences), (3472, w_m_rowMany)], [(71, w_m_left), (72, m_spent), (73, m_little)], [(65, w_m_row)])) (fun rc165 hrc165 v3_165 v4_165 m_rowMany_165 m_row_165 h => ?_) zN _ _ _ _ h
        unfold s_X12_least_165 at h
        refine zJ_iload dX12_least_165 rfl rfl ?_
        refine zJ_aload_n dX12_least_167 rfl rfl ?_
        refine zJ_geti (mi := mX12_least) (x := m_fences) dX12_least_168 F_X12_119 zW_54 rfl rfl rfl ?_
        refine zJ_icmp_ge (tgt := 237) dX12_least_171 (by decide) rfl (fun hc => ?_) (fun hc => ?_)
        · replace h := it_t hc h
          refine zJ_loc (ls' := [(0, .ref 54), (2, .int v2n1)]) (zll_c rfl (zll_c rfl zll_n)) ?_
          exact hk165 _ _ h
        · replace h := it_f hc h
          refine zJ_iconst dX12_least_174 zc_0 rfl ?_
          refine zJ_istore (ls' := [(5, .int (0 : Int32)), (0, .ref 54), (2, .int v2n1), (3, .int v3_165), (4, .int v4_165)]) dX12_least_175 rfl rfl rfl ?_
          have hk177 : ∀ (v5_177x : Int32), k_X12_least_177 m_spent rc165 v3_165 v4_165 m_rowMany_165 m_row_165 v5_177x = some (r, w_m_rowMany, w_m_left, w_m_row) → zJ l zW 1 mX12_least σ ([(3457, m_fences), (3472, m_rowMany_165)], [(71, m_left_46x), (72, m_spent), (73, m_little)], [(65, m_row_165)]) 208 [(0, .ref 54), (2, .int v2n1), (3, .int v3_165), (4, .int v4_165), (5, .int v5_177x)] [] (some (.int r)) ([(3457, m_fences), (3472, w_m_rowMany)], [(71, w_m_left), (72, m_spent), (73, m_little)], [(65, w_m_row)]) := by
            intro v5_177x h
            unfold k_X12_least_177 at h
            refine zJ_aload_n dX12_least_208 rfl rfl ?_
            refine zJ_iload dX12_least_209 rfl rfl ?_
            refine zJ_i2l dX12_least_211 rfl ?_
            obtain ⟨m_rowManyn5, m_rown6, hcl, h⟩ := bd2_some h
            refine zJ_callV2 (σ := σ) (L := ([(3457, m_fences), (3472, m_rowMany_165)], [(71, m_left_46x), (72, m_spent), (73, m_little)], [(65, m_row_165)])) (mi := mX12_least) (yi := mX12_tell) (as := [.long v5_177x.toInt64]) (st := []) (L2 := ([(3457, m_fences), (3472, m_rowManyn5)], [(71, m_left_46x), (72, m_spent), (73, m_little)], [(65, m_rown6)])) dX12_least_212 ML_X12_265 Yv_X12_tell rfl zW_54 rfl rfl (t_X12_tell l _ hcl) (zsub_i (zle_c rfl zle_n) zle_n (zle_c rfl zle_n)) (zjok_i rfl rfl (zle_c rfl (zle_c rfl zle_n)) rfl rfl (zle_c rfl (zle_c rfl (zle_c rfl zle_n))) rfl rfl (zle_c rfl zle_n)) (Nat.le_of_ble_eq_true rfl) (Nat.le_of_ble_eq_true rfl) rfl rfl ?_
            refine zJ_iload_n dX12_least_215 rfl rfl ?_
            refine zJ_aload_n dX12_least_216 rfl rfl ?_
            refine zJ_getr (mi := mX12_least) dX12_least_217 F_X12_67 zW_54 rfl rfl ?_
            refine zJ_bipush dX12_least_220 zb_8 rfl ?_
            refine zJ_iload dX12_least_222 rfl rfl ?_
            refine zJ_imul dX12_least_224 rfl ?_
            refine zJ_iload dX12_least_225 rfl rfl ?_
            refine zJ_iadd dX12_least_227 rfl ?_
            obtain ⟨hg, h⟩ := gd_some h
            refine zJ_iald (mi := mX12_least) (f := m_spent) dX12_least_228 zW_72 (ix_in hg) rfl rfl ?_
            refine zJ_isub dX12_least_229 rfl ?_
            obtain ⟨v3n7, ev3n7, h⟩ := lt1_some h
            refine zJ_nmi ev3n7 ?_
            refine zJ_istore_n (ls' := [(3, .int v3n7), (0, .ref 54), (2, .int v2n1), (4, .int v4_165), (5, .int v5_177x)]) dX12_least_230 rfl rfl rfl ?_
            obtain ⟨v4n8, ev4n8, h⟩ := lt1_some h
            refine zJ_iincN (ls' := [(4, .int v4n8), (3, .int v3n7), (0, .ref 54), (2, .int v2n1), (5, .int v5_177x)]) dX12_least_231 rfl rfl zc_1 ev4n8 rfl rfl ?_
            refine zJ_goto (tgt := 165) dX12_least_234 (by decide) ?_
            refine zJ_loc (ls' := [(0, .ref 54), (2, .int v2n1), (3, .int v3n7), (4, .int v4n8)]) (zll_c rfl (zll_c rfl (zll_c rfl (zll_c rfl zll_n)))) ?_
            exact hrc165 _ _ _ _ h
          refine zJ_loc (ls' := [(0, .ref 54), (2, .int v2n1), (3, .int v3_165), (4, .int v4_165), (5, .int (0 : Int32))]) (zll_c rfl (zll_c rfl (zll_c rfl (zll_c rfl (zll_c rfl zll_n))))) ?_
          refine ml1_J (fun (v5_177 : Int32) => zJ l zW 1 mX12_least σ ([(3457, m_fences), (3472, m_rowMany_165)], [(71, m_left_46x), (72, m_spent), (73, m_little)], [(65, m_row_165)]) 177 [(0, .ref 54), (2, .int v2n1), (3, .int v3_165), (4, .int v4_165), (5, .int v5_177)] [] (some (.int r)) ([(3457, m_fences), (3472, w_m_rowMany)], [(71, w_m_left), (72, m_spent), (73, m_little)], [(65, w_m_row)])) (fun rc177 hrc177 v5_177 h => ?_) zN _ h
          unfold s_X12_least_177 at h
          refine zJ_aload_n dX12_least_177 rfl rfl ?_
          refine zJ_iload dX12_least_178 rfl rfl ?_
          refine zJ_iload dX12_least_180 rfl rfl ?_
          refine zJ_iload_n dX12_least_182 rfl rfl ?_
          obtain ⟨rn9, hcl, h⟩ := bd1_some h
          refine zJ_callV2 (σ := σ) (L := ([(3457, m_fences), (3472, m_rowMany_165)], [(71, m_left_46x), (72, m_spent), (73, m_little)], [(65, m_row_165)])) (mi := mX12_least) (yi := mX12_leftBy) (as := [.int v4_165, .int v5_177, .int v3_165]) (st := []) (L2 := ([(3457, m_fences), (3472, m_rowMany_165)], [(71, m_left_46x), (72, m_spent), (73, m_little)], [(65, m_row_165)])) dX12_least_183 ML_X12_292 Yv_X12_leftBy rfl zW_54 rfl rfl (t_X12_leftBy l _ hcl) (zsub_i zle_n (zle_c rfl (zle_c rfl (zle_c rfl zle_n))) zle_n) (zjok_i rfl rfl (zle_c rfl (zle_c rfl zle_n)) rfl rfl (zle_c rfl (zle_c rfl (zle_c rfl zle_n))) rfl rfl (zle_c rfl zle_n)) (Nat.le_of_ble_eq_true rfl) (Nat.le_of_ble_eq_true rfl) rfl rfl ?_
          refine zJ_aload_n dX12_least_186 rfl rfl ?_
          refine zJ_getr (mi := mX12_least) dX12_least_187 F_X12_64 zW_54 rfl rfl ?_
          refine zJ_sipush dX12_least_190 zs_1300 rfl ?_
          refine zJ_iload dX12_least_193 rfl rfl ?_
          refine zJ_imul dX12_least_195 rfl ?_
          refine zJ_iload_n dX12_least_196 rfl rfl ?_
          refine zJ_iadd dX12_least_197 rfl ?_
          obtain ⟨hg, h⟩ := gd_some h
          refine zJ_iald (mi := mX12_least) (f := m_left_46x) dX12_least_198 zW_71 (ix_in hg) rfl rfl ?_
          refine zJ_icmp_eq (tgt := 208) dX12_least_199 (by decide) rfl (fun hc => ?_) (fun hc => ?_)
          · replace h := it_t hc h
            refine zJ_loc (ls' := [(0, .ref 54), (2, .int v2n1), (3, .int v3_165), (4, .int v4_165), (5, .int v5_177)]) (zll_c rfl (zll_c rfl (zll_c rfl (zll_c rfl (zll_c rfl zll_n))))) ?_
            exact hk177 _ h
          · replace h := it_f hc h
            obtain ⟨v5n10, ev5n10, h⟩ := lt1_some h
            refine zJ_iincN (ls' := [(5, .int v5n10), (0, .ref 54), (2, .int v2n1), (3, .int v3_165), (4, .int v4_165)]) dX12_least_202 rfl rfl zc_1 ev5n10 rfl rfl ?_
            refine zJ_goto (tgt := 177) dX12_least_205 (by decide) ?_
            refine zJ_loc (ls' := [(0, .ref 54), (2, .int v2n1), (3, .int v3_165), (4, .int v4_165), (5, .int v5n10)]) (zll_c rfl (zll_c rfl (zll_c rfl (zll_c rfl (zll_c rfl zll_n))))) ?_
            exact hrc177 _ h
      · replace h := it_t hc h
        refine zJ_bipush dX12_least_137 zb_m2 rfl ?_
        obtain ⟨rfl, rfl, rfl, rfl⟩ := so4 h
        exact zJ_iret dX12_least_139 rfl rfl
    refine zJ_loc (ls' := [(0, .ref 54), (2, .int v2n1), (3, .int v3n2)]) (zll_c rfl (zll_c rfl (zll_c rfl zll_n))) ?_
    refine ml2_J (fun (v3_46 : Int32) (m_left_46 : (Nat → Int32)) => zJ l zW 1 mX12_least σ ([(3457, m_fences), (3472, m_rowMany)], [(71, m_left_46), (72, m_spent), (73, m_little)], [(65, m_row)]) 46 [(0, .ref 54), (2, .int v2n1), (3, .int v3_46)] [] (some (.int r)) ([(3457, m_fences), (3472, w_m_rowMany)], [(71, w_m_left), (72, m_spent), (73, m_little)], [(65, w_m_row)])) (fun rc46 hrc46 v3_46 m_left_46 h => ?_) zN _ _ h
    unfold s_X12_least_46 at h
    refine zJ_iload_n dX12_least_46 rfl rfl ?_
    refine zJ_if_lt (tgt := 125) dX12_least_47 (by decide) rfl (fun hc => ?_) (fun hc => ?_)
    · replace h := it_t hc h
      refine zJ_loc (ls' := [(0, .ref 54), (2, .int v2n1)]) (zll_c rfl (zll_c rfl zll_n)) ?_
      exact hk46 _ h
    · replace h := it_f hc h
      refine zJ_iconst dX12_least_50 zc_0 rfl ?_
      refine zJ_istore (ls' := [(4, .int (0 : Int32)), (0, .ref 54), (2, .int v2n1), (3, .int v3_46)]) dX12_least_51 rfl rfl rfl ?_
      have hk53 : ∀ (m_left_53x : (Nat → Int32)), k_X12_least_53 rc46 v3_46 m_left_53x = some (r, w_m_rowMany, w_m_left, w_m_row) → zJ l zW 1 mX12_least σ ([(3457, m_fences), (3472, m_rowMany)], [(71, m_left_53x), (72, m_spent), (73, m_little)], [(65, m_row)]) 119 [(0, .ref 54), (2, .int v2n1), (3, .int v3_46)] [] (some (.int r)) ([(3457, m_fences), (3472, w_m_rowMany)], [(71, w_m_left), (72, m_spent), (73, m_little)], [(65, w_m_row)]) := by
        intro m_left_53x h
        unfold k_X12_least_53 at h
        obtain ⟨v3n11, ev3n11, h⟩ := lt1_some h
        refine zJ_iincN (ls' := [(3, .int v3n11), (0, .ref 54), (2, .int v2n1)]) dX12_least_119 rfl rfl zc_m1 ev3n11 rfl rfl ?_
        refine zJ_goto (tgt := 46) dX12_least_122 (by decide) ?_
        refine zJ_loc (ls' := [(0, .ref 54), (2, .int v2n1), (3, .int v3n11)]) (zll_c rfl (zll_c rfl (zll_c rfl zll_n))) ?_
        exact hrc46 _ _ h
      refine zJ_loc (ls' := [(0, .ref 54), (2, .int v2n1), (3, .int v3_46), (4, .int (0 : Int32))]) (zll_c rfl (zll_c rfl (zll_c rfl (zll_c rfl zll_n)))) ?_
      refine ml2_J (fun (v4_53 : Int32) (m_left_53 : (Nat → Int32)) => zJ l zW 1 mX12_least σ ([(3457, m_fences), (3472, m_rowMany)], [(71, m_left_53), (72, m_spent), (73, m_little)], [(65, m_row)]) 53 [(0, .ref 54), (2, .int v2n1), (3, .int v3_46), (4, .int v4_53)] [] (some (.int r)) ([(3457, m_fences), (3472, w_m_rowMany)], [(71, w_m_left), (72, m_spent), (73, m_little)], [(65, w_m_row)])) (fun rc53 hrc53 v4_53 m_left_53 h => ?_) zN _ _ h
      unfold s_X12_least_53 at h
      refine zJ_iload dX12_least_53 rfl rfl ?_
      refine zJ_sipush dX12_least_55 zs_1300 rfl ?_
      refine zJ_icmp_ge (tgt := 119) dX12_least_58 (by decide) rfl (fun hc => ?_) (fun hc => ?_)
      · replace h := it_t hc h
        refine zJ_loc (ls' := [(0, .ref 54), (2, .int v2n1), (3, .int v3_46)]) (zll_c rfl (zll_c rfl (zll_c rfl zll_n))) ?_
        exact hk53 _ h
      · replace h := it_f hc h
        refine zJ_ldc_w (v := 100000000) dX12_least_61 C_X12_272 rfl ?_
        refine zJ_istore (ls' := [(5, .int (100000000 : Int32)), (0, .ref 54), (2, .int v2n1), (3, .int v3_46), (4, .int v4_53)]) dX12_least_64 rfl rfl rfl ?_
        refine zJ_iconst dX12_least_66 zc_0 rfl ?_
        refine zJ_istore (ls' := [(6, .int (0 : Int32)), (5, .int (100000000 : Int32)), (0, .ref 54), (2, .int v2n1), (3, .int v3_46), (4, .int v4_53)]) dX12_least_67 rfl rfl rfl ?_
        have hk69 : ∀ (v5_69x : Int32), k_X12_least_69 v3_46 rc53 v4_53 m_left_53 v5_69x = some (r, w_m_rowMany, w_m_left, w_m_row) → zJ l zW 1 mX12_least σ ([(3457, m_fences), (3472, m_rowMany)], [(71, m_left_53), (72, m_spent), (73, m_little)], [(65, m_row)]) 98 [(0, .ref 54), (2, .int v2n1), (3, .int v3_46), (4, .int v4_53), (5, .int v5_69x)] [] (some (.int r)) ([(3457, m_fences), (3472, w_m_rowMany)], [(71, w_m_left), (72, m_spent), (73, m_little)], [(65, w_m_row)]) := by
          intro v5_69x h
          unfold k_X12_least_69 at h
          refine zJ_aload_n dX12_least_98 rfl rfl ?_
          refine zJ_getr (mi := mX12_least) dX12_least_99 F_X12_64 zW_54 rfl rfl ?_
          refine zJ_sipush dX12_least_102 zs_1300 rfl ?_
          refine zJ_iload_n dX12_least_105 rfl rfl ?_
          refine zJ_imul dX12_least_106 rfl ?_
          refine zJ_iload dX12_least_107 rfl rfl ?_
          refine zJ_iadd dX12_least_109 rfl ?_
          refine zJ_iload dX12_least_110 rfl rfl ?_
          obtain ⟨hg, h⟩ := gd_some h
          refine zK_iast (mi := mX12_least) (f := m_left_53) (lb' := [(71, (upd m_left_53 (((1300 : Int32) * v3_46) + v4_53).toNatClampNeg v5_69x)), (72, m_spent), (73, m_little)]) dX12_least_112 zW_71 (ix_in hg) rfl rfl rfl ?_
          obtain ⟨v4n12, ev4n12, h⟩ := lt1_some h
          refine zJ_iincN (ls' := [(4, .int v4n12), (0, .ref 54), (2, .int v2n1), (3, .int v3_46), (5, .int v5_69x)]) dX12_least_113 rfl rfl zc_1 ev4n12 rfl rfl ?_
          refine zJ_goto (tgt := 53) dX12_least_116 (by decide) ?_
          refine zJ_loc (ls' := [(0, .ref 54), (2, .int v2n1), (3, .int v3_46), (4, .int v4n12)]) (zll_c rfl (zll_c rfl (zll_c rfl (zll_c rfl zll_n)))) ?_
          exact hrc53 _ _ h
        refine zJ_loc (ls' := [(0, .ref 54), (2, .int v2n1), (3, .int v3_46), (4, .int v4_53), (5, .int (100000000 : Int32)), (6, .int (0 : Int32))]) (zll_c rfl (zll_c rfl (zll_c rfl (zll_c rfl (zll_c rfl (zll_c rfl zll_n)))))) ?_
        refine ml2_J (fun (v5_69 : Int32) (v6_69 : Int32) => zJ l zW 1 mX12_least σ ([(3457, m_fences), (3472, m_rowMany)], [(71, m_left_53), (72, m_spent), (73, m_little)], [(65, m_row)]) 69 [(0, .ref 54), (2, .int v2n1), (3, .int v3_46), (4, .int v4_53), (5, .int v5_69), (6, .int v6_69)] [] (some (.int r)) ([(3457, m_fences), (3472, w_m_rowMany)], [(71, w_m_left), (72, m_spent), (73, m_little)], [(65, w_m_row)])) (fun rc69 hrc69 v5_69 v6_69 h => ?_) zN _ _ h
        unfold s_X12_least_69 at h
        refine zJ_iload dX12_least_69 rfl rfl ?_
        refine zJ_bipush dX12_least_71 zb_8 rfl ?_
        refine zJ_icmp_ge (tgt := 98) dX12_least_73 (by decide) rfl (fun hc => ?_) (fun hc => ?_)
        · replace h := it_t hc h
          refine zJ_loc (ls' := [(0, .ref 54), (2, .int v2n1), (3, .int v3_46), (4, .int v4_53), (5, .int v5_69)]) (zll_c rfl (zll_c rfl (zll_c rfl (zll_c rfl (zll_c rfl zll_n))))) ?_
          exact hk69 _ h
        · replace h := it_f hc h
          refine zJ_iload dX12_least_76 rfl rfl ?_
          refine zJ_aload_n dX12_least_78 rfl rfl ?_
          refine zJ_iload_n dX12_least_79 rfl rfl ?_
          refine zJ_iload dX12_least_80 rfl rfl ?_
          refine zJ_iload dX12_least_82 rfl rfl ?_
          obtain ⟨rn13, hcl, h⟩ := bd1_some h
          refine zJ_callV2 (σ := σ) (L := ([(3457, m_fences), (3472, m_rowMany)], [(71, m_left_53), (72, m_spent), (73, m_little)], [(65, m_row)])) (mi := mX12_least) (yi := mX12_leftBy) (as := [.int v3_46, .int v6_69, .int v4_53]) (st := [.int v5_69]) (L2 := ([(3457, m_fences), (3472, m_rowMany)], [(71, m_left_53), (72, m_spent), (73, m_little)], [(65, m_row)])) dX12_least_84 ML_X12_292 Yv_X12_leftBy rfl zW_54 rfl rfl (t_X12_leftBy l _ hcl) (zsub_i zle_n (zle_c rfl (zle_c rfl (zle_c rfl zle_n))) zle_n) (zjok_i rfl rfl (zle_c rfl (zle_c rfl zle_n)) rfl rfl (zle_c rfl (zle_c rfl (zle_c rfl zle_n))) rfl rfl (zle_c rfl zle_n)) (Nat.le_of_ble_eq_true rfl) (Nat.le_of_ble_eq_true rfl) rfl rfl ?_
          refine zJ_mmin (mi := mX12_least) dX12_least_87 L_X12_238 K_min_s K_math K_min_c (Nat.le_of_ble_eq_true rfl) (Nat.le_of_ble_eq_true rfl) rfl ?_
          obtain ⟨v5n14, ev5n14, h⟩ := lt1_some h
          refine zJ_nmi ev5n14 ?_
          refine zJ_istore (ls' := [(5, .int v5n14), (0, .ref 54), (2, .int v2n1), (3, .int v3_46), (4, .int v4_53), (6, .int v6_69)]) dX12_least_90 rfl rfl rfl ?_
          obtain ⟨v6n15, ev6n15, h⟩ := lt1_some h
          refine zJ_iincN (ls' := [(6, .int v6n15), (5, .int v5n14), (0, .ref 54), (2, .int v2n1), (3, .int v3_46), (4, .int v4_53)]) dX12_least_92 rfl rfl zc_1 ev6n15 rfl rfl ?_
          refine zJ_goto (tgt := 69) dX12_least_95 (by decide) ?_
          refine zJ_loc (ls' := [(0, .ref 54), (2, .int v2n1), (3, .int v3_46), (4, .int v4_53), (5, .int v5n14), (6, .int v6n15)]) (zll_c rfl (zll_c rfl (zll_c rfl (zll_c rfl (zll_c rfl (zll_c rfl zll_n)))))) ?_
          exact hrc69 _ _ h
  refine zJ_loc (ls' := [(0, .ref 54), (2, .int v2n1), (3, .int (0 : Int32))]) (zll_c rfl (zll_c rfl (zll_c rfl zll_n))) ?_
  refine ml2_J (fun (v3_10 : Int32) (m_left_10 : (Nat → Int32)) => zJ l zW 1 mX12_least σ ([(3457, m_fences), (3472, m_rowMany)], [(71, m_left_10), (72, m_spent), (73, m_little)], [(65, m_row)]) 10 [(0, .ref 54), (2, .int v2n1), (3, .int v3_10)] [] (some (.int r)) ([(3457, m_fences), (3472, w_m_rowMany)], [(71, w_m_left), (72, m_spent), (73, m_little)], [(65, w_m_row)])) (fun rc10 hrc10 v3_10 m_left_10 h => ?_) zN _ _ h
  unfold s_X12_least_10 at h
  refine zJ_iload_n dX12_least_10 rfl rfl ?_
  refine zJ_sipush dX12_least_11 zs_1300 rfl ?_
  refine zJ_icmp_ge (tgt := 39) dX12_least_14 (by decide) rfl (fun hc => ?_) (fun hc => ?_)
  · replace h := it_t hc h
    refine zJ_loc (ls' := [(0, .ref 54), (2, .int v2n1)]) (zll_c rfl (zll_c rfl zll_n)) ?_
    exact hk10 _ h
  · replace h := it_f hc h
    refine zJ_aload_n dX12_least_17 rfl rfl ?_
    refine zJ_getr (mi := mX12_least) dX12_least_18 F_X12_64 zW_54 rfl rfl ?_
    refine zJ_sipush dX12_least_21 zs_1300 rfl ?_
    refine zJ_aload_n dX12_least_24 rfl rfl ?_
    refine zJ_geti (mi := mX12_least) (x := m_fences) dX12_least_25 F_X12_119 zW_54 rfl rfl rfl ?_
    refine zJ_imul dX12_least_28 rfl ?_
    refine zJ_iload_n dX12_least_29 rfl rfl ?_
    refine zJ_iadd dX12_least_30 rfl ?_
    refine zJ_iconst dX12_least_31 zc_0 rfl ?_
    obtain ⟨hg, h⟩ := gd_some h
    refine zK_iast (mi := mX12_least) (f := m_left_10) (lb' := [(71, (upd m_left_10 (((1300 : Int32) * m_fences) + v3_10).toNatClampNeg (0 : Int32))), (72, m_spent), (73, m_little)]) dX12_least_32 zW_71 (ix_in hg) rfl rfl rfl ?_
    obtain ⟨v3n16, ev3n16, h⟩ := lt1_some h
    refine zJ_iincN (ls' := [(3, .int v3n16), (0, .ref 54), (2, .int v2n1)]) dX12_least_33 rfl rfl zc_1 ev3n16 rfl rfl ?_
    refine zJ_goto (tgt := 10) dX12_least_36 (by decide) ?_
    refine zJ_loc (ls' := [(0, .ref 54), (2, .int v2n1), (3, .int v3n16)]) (zll_c rfl (zll_c rfl (zll_c rfl zll_n))) ?_
    exact hrc10 _ _ h
set_option maxRecDepth 100000 in
set_option maxHeartbeats 4000000 in
theorem t_X12_curve (l : Launch) (σ : zS) {p1 : Int32} {p2 : Int32} {m_fences : Int32} {m_horses : Int32} {m_rowMany : Int32} {m_thrown : Int32} {m_read : Int32} {m_length : Int32} {m_top : Int32} {m_at : Int32} {m_wrong : Int32} {m_ruleSize : Int32} {m_isAsked : Int32} {m_askedHorse : Int32} {m_askedFence : Int32} {m_askedLetter : Int32} {m_askedHeight : Int32} {m_kind : (Nat → Int32)} {m_height : (Nat → Int32)} {m_feet : (Nat → Int32)} {m_stride : (Nat → Int32)} {m_scope : (Nat → Int32)} {m_care : (Nat → Int32)} {m_rule : (Nat → Int32)} {m_left : (Nat → Int32)} {m_spent : (Nat → Int32)} {m_little : (Nat → Int32)} {m_row : (Nat → Int64)} {r : Int32} {w_m_rowMany : Int32} {w_m_thrown : Int32} {w_m_read : Int32} {w_m_length : Int32} {w_m_top : Int32} {w_m_at : Int32} {w_m_wrong : Int32} {w_m_isAsked : Int32} {w_m_askedHorse : Int32} {w_m_askedFence : Int32} {w_m_askedLetter : Int32} {w_m_askedHeight : Int32} {w_m_left : (Nat → Int32)} {w_m_spent : (Nat → Int32)} {w_m_little : (Nat → Int32)} {w_m_row : (Nat → Int64)} (h : f_X12_curve p1 p2 m_fences m_horses m_rowMany m_thrown m_read m_length m_top m_at m_wrong m_ruleSize m_isAsked m_askedHorse m_askedFence m_askedLetter m_askedHeight m_kind m_height m_feet m_stride m_scope m_care m_rule m_left m_spent m_little m_row = some (r, w_m_rowMany, w_m_thrown, w_m_read, w_m_length, w_m_top, w_m_at, w_m_wrong, w_m_isAsked, w_m_askedHorse, w_m_askedFence, w_m_askedLetter, w_m_askedHeight, w_m_left, w_m_spent, w_m_little, w_m_row)) : zMt l zW 208 mX12_curve σ ([(3457, m_fences), (3462, m_horses), (3472, m_rowMany), (3473, m_thrown), (3474, m_read), (3475, m_length), (3476, m_top), (3477, m_at), (3478, m_wrong), (3483, m_ruleSize), (3484, m_isAsked), (3485, m_askedHorse), (3486, m_askedFence), (3487, m_askedLetter), (3488, m_askedHeight)], [(56, m_kind), (57, m_height), (58, m_feet), (59, m_stride), (60, m_scope), (61, m_care), (69, m_rule), (71, m_left), (72, m_spent), (73, m_little)], [(65, m_row)]) [.ref 54, .int p1, .int p2] (some (.int r)) ([(3457, m_fences), (3462, m_horses), (3472, w_m_rowMany), (3473, w_m_thrown), (3474, w_m_read), (3475, w_m_length), (3476, w_m_top), (3477, w_m_at), (3478, w_m_wrong), (3483, m_ruleSize), (3484, w_m_isAsked), (3485, w_m_askedHorse), (3486, w_m_askedFence), (3487, w_m_askedLetter), (3488, w_m_askedHeight)], [(56, m_kind), (57, m_height), (58, m_feet), (59, m_stride), (60, m_scope), (61, m_care), (69, m_rule), (71, w_m_left), (72, w_m_spent), (73, w_m_little)], [(65, w_m_row)]) := by
  refine zMt_of (ls := [(0, .ref 54), (1, .int p1), (2, .int p2)]) (by decide) rfl (fun _ => Nat.le_of_ble_eq_true rfl) rfl ?_
  unfold f_X12_curve at h
  refine zJ_aload_n dX12_curve_0 rfl rfl ?_
  refine zJ_iconst dX12_curve_1 zc_0 rfl ?_
  refine zK_puti (mi := mX12_curve) (la' := [(3457, m_fences), (3462, m_horses), (3472, m_rowMany), (3473, (0 : Int32)), (3474, m_read), (3475, m_length), (3476, m_top), (3477, m_at), (3478, m_wrong), (3483, m_ruleSize), (3484, m_isAsked), (3485, m_askedHorse), (3486, m_askedFence), (3487, m_askedLetter), (3488, m_askedHeight)]) zW_ok dX12_curve_2 F_X12_113 P_12_17 zW_54 rfl rfl rfl ?_
  refine zJ_aload_n dX12_curve_5 rfl rfl ?_
  refine zJ_iload_n dX12_curve_6 rfl rfl ?_
  obtain ⟨rn1, hcl, h⟩ := bd1_some h
  refine zJ_callV2 (σ := σ) (L := ([(3457, m_fences), (3462, m_horses), (3472, m_rowMany), (3473, (0 : Int32)), (3474, m_read), (3475, m_length), (3476, m_top), (3477, m_at), (3478, m_wrong), (3483, m_ruleSize), (3484, m_isAsked), (3485, m_askedHorse), (3486, m_askedFence), (3487, m_askedLetter), (3488, m_askedHeight)], [(56, m_kind), (57, m_height), (58, m_feet), (59, m_stride), (60, m_scope), (61, m_care), (69, m_rule), (71, m_left), (72, m_spent), (73, m_little)], [(65, m_row)])) (mi := mX12_curve) (yi := mX12_isHorse) (as := [.int p1]) (st := []) (L2 := ([(3457, m_fences), (3462, m_horses), (3472, m_rowMany), (3473, (0 : Int32)), (3474, m_read), (3475, m_length), (3476, m_top), (3477, m_at), (3478, m_wrong), (3483, m_ruleSize), (3484, m_isAsked), (3485, m_askedHorse), (3486, m_askedFence), (3487, m_askedLetter), (3488, m_askedHeight)], [(56, m_kind), (57, m_height), (58, m_feet), (59, m_stride), (60, m_scope), (61, m_care), (69, m_rule), (71, m_left), (72, m_spent), (73, m_little)], [(65, m_row)])) dX12_curve_7 ML_X12_132 Yv_X12_isHorse rfl zW_54 rfl rfl (t_X12_isHorse l _ hcl) (zsub_i (zle_c rfl zle_n) zle_n zle_n) (zjok_i rfl rfl (zle_c rfl (zle_c rfl (zle_c rfl (zle_c rfl (zle_c rfl (zle_c rfl (zle_c rfl (zle_c rfl (zle_c rfl (zle_c rfl (zle_c rfl (zle_c rfl (zle_c rfl (zle_c rfl (zle_c rfl zle_n))))))))))))))) rfl rfl (zle_c rfl (zle_c rfl (zle_c rfl (zle_c rfl (zle_c rfl (zle_c rfl (zle_c rfl (zle_c rfl (zle_c rfl (zle_c rfl zle_n)))))))))) rfl rfl (zle_c rfl zle_n)) (Nat.le_of_ble_eq_true rfl) (Nat.le_of_ble_eq_true rfl) rfl rfl ?_
  refine zJ_if_eq (tgt := 20) dX12_curve_10 (by decide) rfl (fun hc => ?_) (fun hc => ?_)
  · replace h := it_t hc h
    refine zJ_iconst dX12_curve_20 zc_m1 rfl ?_
    obtain ⟨rfl, rfl, rfl, rfl, rfl, rfl, rfl, rfl, rfl, rfl, rfl, rfl, rfl, rfl, rfl, rfl, rfl⟩ := so17 h
    exact zJ_iret dX12_curve_21 rfl rfl
  · replace h := it_f hc h
    refine zJ_iload_n dX12_curve_13 rfl rfl ?_
    obtain ⟨rn2, hcl, h⟩ := bd1_some h
    refine zJ_callS2 (σ := σ) (L := ([(3457, m_fences), (3462, m_horses), (3472, m_rowMany), (3473, (0 : Int32)), (3474, m_read), (3475, m_length), (3476, m_top), (3477, m_at), (3478, m_wrong), (3483, m_ruleSize), (3484, m_isAsked), (3485, m_askedHorse), (3486, m_askedFence), (3487, m_askedLetter), (3488, m_askedHeight)], [(56, m_kind), (57, m_height), (58, m_feet), (59, m_stride), (60, m_scope), (61, m_care), (69, m_rule), (71, m_left), (72, m_spent), (73, m_little)], [(65, m_row)])) (mi := mX12_curve) (yi := mX12_isMost) (as := [.int p2]) (st := []) (L2 := ([(3457, m_fences), (3462, m_horses), (3472, m_rowMany), (3473, (0 : Int32)), (3474, m_read), (3475, m_length), (3476, m_top), (3477, m_at), (3478, m_wrong), (3483, m_ruleSize), (3484, m_isAsked), (3485, m_askedHorse), (3486, m_askedFence), (3487, m_askedLetter), (3488, m_askedHeight)], [(56, m_kind), (57, m_height), (58, m_feet), (59, m_stride), (60, m_scope), (61, m_care), (69, m_rule), (71, m_left), (72, m_spent), (73, m_little)], [(65, m_row)])) dX12_curve_14 ML_X12_256 Ys_X12_isMost rfl (t_X12_isMost l _ hcl) (zsub_i zle_n zle_n zle_n) (zjok_i rfl rfl (zle_c rfl (zle_c rfl (zle_c rfl (zle_c rfl (zle_c rfl (zle_c rfl (zle_c rfl (zle_c rfl (zle_c rfl (zle_c rfl (zle_c rfl (zle_c rfl (zle_c rfl (zle_c rfl (zle_c rfl zle_n))))))))))))))) rfl rfl (zle_c rfl (zle_c rfl (zle_c rfl (zle_c rfl (zle_c rfl (zle_c rfl (zle_c rfl (zle_c rfl (zle_c rfl (zle_c rfl zle_n)))))))))) rfl rfl (zle_c rfl zle_n)) (Nat.le_of_ble_eq_true rfl) (Nat.le_of_ble_eq_true rfl) rfl rfl ?_
    refine zJ_if_ne (tgt := 22) dX12_curve_17 (by decide) rfl (fun hc => ?_) (fun hc => ?_)
    · replace h := it_f hc h
      refine zJ_aload_n dX12_curve_22 rfl rfl ?_
      refine zJ_iload_n dX12_curve_23 rfl rfl ?_
      refine zJ_iconst dX12_curve_24 zc_1 rfl ?_
      obtain ⟨m_readn3, m_lengthn4, m_topn5, m_atn6, m_wrongn7, m_isAskedn8, m_askedHorsen9, m_askedFencen10, m_askedLettern11, m_askedHeightn12, m_spentn13, m_littlen14, hcl, h⟩ := bd12_some h
      refine zJ_callV2 (σ := σ) (L := ([(3457, m_fences), (3462, m_horses), (3472, m_rowMany), (3473, (0 : Int32)), (3474, m_read), (3475, m_length), (3476, m_top), (3477, m_at), (3478, m_wrong), (3483, m_ruleSize), (3484, m_isAsked), (3485, m_askedHorse), (3486, m_askedFence), (3487, m_askedLetter), (3488, m_askedHeight)], [(56, m_kind), (57, m_height), (58, m_feet), (59, m_stride), (60, m_scope), (61, m_care), (69, m_rule), (71, m_left), (72, m_spent), (73, m_little)], [(65, m_row)])) (mi := mX12_curve) (yi := mX12_layFences) (as := [.int p1, .int (1 : Int32)]) (st := []) (L2 := ([(3457, m_fences), (3462, m_horses), (3472, m_rowMany), (3473, (0 : Int32)), (3474, m_readn3), (3475, m_lengthn4), (3476, m_topn5), (3477, m_atn6), (3478, m_wrongn7), (3483, m_ruleSize), (3484, m_isAskedn8), (3485, m_askedHorsen9), (3486, m_askedFencen10), (3487, m_askedLettern11), (3488, m_askedHeightn12)], [(56, m_kind), (57, m_height), (58, m_feet), (59, m_stride), (60, m_scope), (61, m_care), (69, m_rule), (71, m_left), (72, m_spentn13), (73, m_littlen14)], [(65, m_row)])) dX12_curve_25 ML_X12_295 Yv_X12_layFences rfl zW_54 rfl rfl (t_X12_layFences l _ hcl) (zsub_i (zle_c rfl (zle_c rfl (zle_c rfl (zle_c rfl (zle_c rfl (zle_c rfl (zle_c rfl (zle_c rfl (zle_c rfl (zle_c rfl (zle_c rfl (zle_c rfl zle_n)))))))))))) (zle_c rfl (zle_c rfl (zle_c rfl (zle_c rfl (zle_c rfl (zle_c rfl (zle_c rfl (zle_c rfl (zle_c rfl zle_n))))))))) zle_n) (zjok_i rfl rfl (zle_c rfl (zle_c rfl (zle_c rfl (zle_c rfl (zle_c rfl (zle_c rfl (zle_c rfl (zle_c rfl (zle_c rfl (zle_c rfl (zle_c rfl (zle_c rfl (zle_c rfl (zle_c rfl (zle_c rfl zle_n))))))))))))))) rfl rfl (zle_c rfl (zle_c rfl (zle_c rfl (zle_c rfl (zle_c rfl (zle_c rfl (zle_c rfl (zle_c rfl (zle_c rfl (zle_c rfl zle_n)))))))))) rfl rfl (zle_c rfl zle_n)) (Nat.le_of_ble_eq_true rfl) (Nat.le_of_ble_eq_true rfl) rfl rfl ?_
      refine zJ_aload_n dX12_curve_28 rfl rfl ?_
      refine zJ_iload_n dX12_curve_29 rfl rfl ?_
      obtain ⟨rn15, m_rowManyn16, m_leftn17, m_rown18, hcl, h⟩ := bd4_some h
      refine zJ_callV2 (σ := σ) (L := ([(3457, m_fences), (3462, m_horses), (3472, m_rowMany), (3473, (0 : Int32)), (3474, m_readn3), (3475, m_lengthn4), (3476, m_topn5), (3477, m_atn6), (3478, m_wrongn7), (3483, m_ruleSize), (3484, m_isAskedn8), (3485, m_askedHorsen9), (3486, m_askedFencen10), (3487, m_askedLettern11), (3488, m_askedHeightn12)], [(56, m_kind), (57, m_height), (58, m_feet), (59, m_stride), (60, m_scope), (61, m_care), (69, m_rule), (71, m_left), (72, m_spentn13), (73, m_littlen14)], [(65, m_row)])) (mi := mX12_curve) (yi := mX12_least) (as := [.int p2]) (st := []) (L2 := ([(3457, m_fences), (3462, m_horses), (3472, m_rowManyn16), (3473, (0 : Int32)), (3474, m_readn3), (3475, m_lengthn4), (3476, m_topn5), (3477, m_atn6), (3478, m_wrongn7), (3483, m_ruleSize), (3484, m_isAskedn8), (3485, m_askedHorsen9), (3486, m_askedFencen10), (3487, m_askedLettern11), (3488, m_askedHeightn12)], [(56, m_kind), (57, m_height), (58, m_feet), (59, m_stride), (60, m_scope), (61, m_care), (69, m_rule), (71, m_leftn17), (72, m_spentn13), (73, m_littlen14)], [(65, m_rown18)])) dX12_curve_30 ML_X12_299 Yv_X12_least rfl zW_54 rfl rfl (t_X12_least l _ hcl) (zsub_i (zle_c rfl (zle_c rfl zle_n)) (zle_c rfl (zle_c rfl (zle_c rfl zle_n))) (zle_c rfl zle_n)) (zjok_i rfl rfl (zle_c rfl (zle_c rfl (zle_c rfl (zle_c rfl (zle_c rfl (zle_c rfl (zle_c rfl (zle_c rfl (zle_c rfl (zle_c rfl (zle_c rfl (zle_c rfl (zle_c rfl (zle_c rfl (zle_c rfl zle_n))))))))))))))) rfl rfl (zle_c rfl (zle_c rfl (zle_c rfl (zle_c rfl (zle_c rfl (zle_c rfl (zle_c rfl (zle_c rfl (zle_c rfl (zle_c rfl zle_n)))))))))) rfl rfl (zle_c rfl zle_n)) (Nat.le_of_ble_eq_true rfl) (Nat.le_of_ble_eq_true rfl) rfl rfl ?_
      obtain ⟨rfl, rfl, rfl, rfl, rfl, rfl, rfl, rfl, rfl, rfl, rfl, rfl, rfl, rfl, rfl, rfl, rfl⟩ := so17 h
      exact zJ_iret dX12_curve_33 rfl rfl
    · replace h := it_t hc h
      refine zJ_iconst dX12_curve_20 zc_m1 rfl ?_
      obtain ⟨rfl, rfl, rfl, rfl, rfl, rfl, rfl, rfl, rfl, rfl, rfl, rfl, rfl, rfl, rfl, rfl, rfl⟩ := so17 h
      exact zJ_iret dX12_curve_21 rfl rfl
set_option maxRecDepth 100000 in
set_option maxHeartbeats 4000000 in
theorem t_X12_cuts (l : Launch) (σ : zS) {p1 : Int32} {p2 : Int32} {m_fences : Int32} {m_horses : Int32} {m_plans : Int32} {m_rowMany : Int32} {m_thrown : Int32} {m_read : Int32} {m_length : Int32} {m_top : Int32} {m_at : Int32} {m_wrong : Int32} {m_ruleSize : Int32} {m_isAsked : Int32} {m_askedHorse : Int32} {m_askedFence : Int32} {m_askedLetter : Int32} {m_askedHeight : Int32} {m_kind : (Nat → Int32)} {m_height : (Nat → Int32)} {m_feet : (Nat → Int32)} {m_stride : (Nat → Int32)} {m_scope : (Nat → Int32)} {m_care : (Nat → Int32)} {m_plan : (Nat → Int32)} {m_rule : (Nat → Int32)} {m_row : (Nat → Int64)} {r : Int32} {w_m_rowMany : Int32} {w_m_thrown : Int32} {w_m_read : Int32} {w_m_length : Int32} {w_m_top : Int32} {w_m_at : Int32} {w_m_wrong : Int32} {w_m_isAsked : Int32} {w_m_askedHorse : Int32} {w_m_askedFence : Int32} {w_m_askedLetter : Int32} {w_m_askedHeight : Int32} {w_m_row : (Nat → Int64)} (h : f_X12_cuts p1 p2 m_fences m_horses m_plans m_rowMany m_thrown m_read m_length m_top m_at m_wrong m_ruleSize m_isAsked m_askedHorse m_askedFence m_askedLetter m_askedHeight m_kind m_height m_feet m_stride m_scope m_care m_plan m_rule m_row = some (r, w_m_rowMany, w_m_thrown, w_m_read, w_m_length, w_m_top, w_m_at, w_m_wrong, w_m_isAsked, w_m_askedHorse, w_m_askedFence, w_m_askedLetter, w_m_askedHeight, w_m_row)) : zMt l zW 207 mX12_cuts σ ([(3457, m_fences), (3462, m_horses), (3466, m_plans), (3472, m_rowMany), (3473, m_thrown), (3474, m_read), (3475, m_length), (3476, m_top), (3477, m_at), (3478, m_wrong), (3483, m_ruleSize), (3484, m_isAsked), (3485, m_askedHorse), (3486, m_askedFence), (3487, m_askedLetter), (3488, m_askedHeight)], [(56, m_kind), (57, m_height), (58, m_feet), (59, m_stride), (60, m_scope), (61, m_care), (62, m_plan), (69, m_rule)], [(65, m_row)]) [.ref 54, .int p1, .int p2] (some (.int r)) ([(3457, m_fences), (3462, m_horses), (3466, m_plans), (3472, w_m_rowMany), (3473, w_m_thrown), (3474, w_m_read), (3475, w_m_length), (3476, w_m_top), (3477, w_m_at), (3478, w_m_wrong), (3483, m_ruleSize), (3484, w_m_isAsked), (3485, w_m_askedHorse), (3486, w_m_askedFence), (3487, w_m_askedLetter), (3488, w_m_askedHeight)], [(56, m_kind), (57, m_height), (58, m_feet), (59, m_stride), (60, m_scope), (61, m_care), (62, m_plan), (69, m_rule)], [(65, w_m_row)]) := by
  refine zMt_of (ls := [(0, .ref 54), (1, .int p1), (2, .int p2)]) (by decide) rfl (fun _ => Nat.le_of_ble_eq_true rfl) rfl ?_
  unfold f_X12_cuts at h
  refine zJ_aload_n dX12_cuts_0 rfl rfl ?_
  refine zJ_iconst dX12_cuts_1 zc_0 rfl ?_
  refine zK_puti (mi := mX12_cuts) (la' := [(3457, m_fences), (3462, m_horses), (3466, m_plans), (3472, m_rowMany), (3473, (0 : Int32)), (3474, m_read), (3475, m_length), (3476, m_top), (3477, m_at), (3478, m_wrong), (3483, m_ruleSize), (3484, m_isAsked), (3485, m_askedHorse), (3486, m_askedFence), (3487, m_askedLetter), (3488, m_askedHeight)]) zW_ok dX12_cuts_2 F_X12_113 P_12_17 zW_54 rfl rfl rfl ?_
  refine zJ_aload_n dX12_cuts_5 rfl rfl ?_
  refine zJ_iload_n dX12_cuts_6 rfl rfl ?_
  refine zJ_iload_n dX12_cuts_7 rfl rfl ?_
  obtain ⟨rn1, hcl, h⟩ := bd1_some h
  refine zJ_callV2 (σ := σ) (L := ([(3457, m_fences), (3462, m_horses), (3466, m_plans), (3472, m_rowMany), (3473, (0 : Int32)), (3474, m_read), (3475, m_length), (3476, m_top), (3477, m_at), (3478, m_wrong), (3483, m_ruleSize), (3484, m_isAsked), (3485, m_askedHorse), (3486, m_askedFence), (3487, m_askedLetter), (3488, m_askedHeight)], [(56, m_kind), (57, m_height), (58, m_feet), (59, m_stride), (60, m_scope), (61, m_care), (62, m_plan), (69, m_rule)], [(65, m_row)])) (mi := mX12_cuts) (yi := mX12_areBoth) (as := [.int p1, .int p2]) (st := []) (L2 := ([(3457, m_fences), (3462, m_horses), (3466, m_plans), (3472, m_rowMany), (3473, (0 : Int32)), (3474, m_read), (3475, m_length), (3476, m_top), (3477, m_at), (3478, m_wrong), (3483, m_ruleSize), (3484, m_isAsked), (3485, m_askedHorse), (3486, m_askedFence), (3487, m_askedLetter), (3488, m_askedHeight)], [(56, m_kind), (57, m_height), (58, m_feet), (59, m_stride), (60, m_scope), (61, m_care), (62, m_plan), (69, m_rule)], [(65, m_row)])) dX12_cuts_8 ML_X12_279 Yv_X12_areBoth rfl zW_54 rfl rfl (t_X12_areBoth l _ hcl) (zsub_i (zle_c rfl (zle_c rfl zle_n)) zle_n zle_n) (zjok_i rfl rfl (zle_c rfl (zle_c rfl (zle_c rfl (zle_c rfl (zle_c rfl (zle_c rfl (zle_c rfl (zle_c rfl (zle_c rfl (zle_c rfl (zle_c rfl (zle_c rfl (zle_c rfl (zle_c rfl (zle_c rfl (zle_c rfl zle_n)))))))))))))))) rfl rfl (zle_c rfl (zle_c rfl (zle_c rfl (zle_c rfl (zle_c rfl (zle_c rfl (zle_c rfl (zle_c rfl zle_n)))))))) rfl rfl (zle_c rfl zle_n)) (Nat.le_of_ble_eq_true rfl) (Nat.le_of_ble_eq_true rfl) rfl rfl ?_
  refine zJ_if_ne (tgt := 16) dX12_cuts_11 (by decide) rfl (fun hc => ?_) (fun hc => ?_)
  · replace h := it_f hc h
    refine zJ_bipush dX12_cuts_16 zb_m2 rfl ?_
    refine zJ_istore_n (ls' := [(3, .int (-2 : Int32)), (0, .ref 54), (1, .int p1), (2, .int p2)]) dX12_cuts_18 rfl rfl rfl ?_
    refine zJ_iconst dX12_cuts_19 zc_0 rfl ?_
    refine zJ_istore (ls' := [(4, .int (0 : Int32)), (3, .int (-2 : Int32)), (0, .ref 54), (1, .int p1), (2, .int p2)]) dX12_cuts_20 rfl rfl rfl ?_
    refine zJ_iconst dX12_cuts_22 zc_0 rfl ?_
    refine zJ_istore (ls' := [(5, .int (0 : Int32)), (4, .int (0 : Int32)), (3, .int (-2 : Int32)), (0, .ref 54), (1, .int p1), (2, .int p2)]) dX12_cuts_23 rfl rfl rfl ?_
    refine zJ_iconst dX12_cuts_25 zc_0 rfl ?_
    refine zJ_istore (ls' := [(6, .int (0 : Int32)), (5, .int (0 : Int32)), (4, .int (0 : Int32)), (3, .int (-2 : Int32)), (0, .ref 54), (1, .int p1), (2, .int p2)]) dX12_cuts_26 rfl rfl rfl ?_
    have hk28 : ∀ (v3_28x : Int32) (v4_28x : Int32) (v5_28x : Int32) (m_read_28x : Int32) (m_length_28x : Int32) (m_top_28x : Int32) (m_at_28x : Int32) (m_wrong_28x : Int32) (m_isAsked_28x : Int32) (m_askedHorse_28x : Int32) (m_askedFence_28x : Int32) (m_askedLetter_28x : Int32) (m_askedHeight_28x : Int32), k_X12_cuts_28 m_rowMany m_row v3_28x v4_28x v5_28x m_read_28x m_length_28x m_top_28x m_at_28x m_wrong_28x m_isAsked_28x m_askedHorse_28x m_askedFence_28x m_askedLetter_28x m_askedHeight_28x = some (r, w_m_rowMany, w_m_thrown, w_m_read, w_m_length, w_m_top, w_m_at, w_m_wrong, w_m_isAsked, w_m_askedHorse, w_m_askedFence, w_m_askedLetter, w_m_askedHeight, w_m_row) → zJ l zW 207 mX12_cuts σ ([(3457, m_fences), (3462, m_horses), (3466, m_plans), (3472, m_rowMany), (3473, (0 : Int32)), (3474, m_read_28x), (3475, m_length_28x), (3476, m_top_28x), (3477, m_at_28x), (3478, m_wrong_28x), (3483, m_ruleSize), (3484, m_isAsked_28x), (3485, m_askedHorse_28x), (3486, m_askedFence_28x), (3487, m_askedLetter_28x), (3488, m_askedHeight_28x)], [(56, m_kind), (57, m_height), (58, m_feet), (59, m_stride), (60, m_scope), (61, m_care), (62, m_plan), (69, m_rule)], [(65, m_row)]) 144 [(0, .ref 54), (3, .int v3_28x), (4, .int v4_28x), (5, .int v5_28x)] [] (some (.int r)) ([(3457, m_fences), (3462, m_horses), (3466, m_plans), (3472, w_m_rowMany), (3473, w_m_thrown), (3474, w_m_read), (3475, w_m_length), (3476, w_m_top), (3477, w_m_at), (3478, w_m_wrong), (3483, m_ruleSize), (3484, w_m_isAsked), (3485, w_m_askedHorse), (3486, w_m_askedFence), (3487, w_m_askedLetter), (3488, w_m_askedHeight)], [(56, m_kind), (57, m_height), (58, m_feet), (59, m_stride), (60, m_scope), (61, m_care), (62, m_plan), (69, m_rule)], [(65, w_m_row)]) := by
      intro v3_28x v4_28x v5_28x m_read_28x m_length_28x m_top_28x m_at_28x m_wrong_28x m_isAsked_28x m_askedHorse_28x m_askedFence_28x m_askedLetter_28x m_askedHeight_28x h
      unfold k_X12_cuts_28 at h
      refine zJ_iload_n dX12_cuts_144 rfl rfl ?_
      refine zJ_if_ge (tgt := 151) dX12_cuts_145 (by decide) rfl (fun hc => ?_) (fun hc => ?_)
      · replace h := it_t hc h
        refine zJ_aload_n dX12_cuts_151 rfl rfl ?_
        refine zJ_iconst dX12_cuts_152 zc_0 rfl ?_
        refine zK_puti (mi := mX12_cuts) (la' := [(3457, m_fences), (3462, m_horses), (3466, m_plans), (3472, (0 : Int32)), (3473, (0 : Int32)), (3474, m_read_28x), (3475, m_length_28x), (3476, m_top_28x), (3477, m_at_28x), (3478, m_wrong_28x), (3483, m_ruleSize), (3484, m_isAsked_28x), (3485, m_askedHorse_28x), (3486, m_askedFence_28x), (3487, m_askedLetter_28x), (3488, m_askedHeight_28x)]) zW_ok dX12_cuts_153 F_X12_116 P_12_16 zW_54 rfl rfl rfl ?_
        refine zJ_aload_n dX12_cuts_156 rfl rfl ?_
        refine zJ_iload dX12_cuts_157 rfl rfl ?_
        refine zJ_i2l dX12_cuts_159 rfl ?_
        obtain ⟨m_rowManyn2, m_rown3, hcl, h⟩ := bd2_some h
        refine zJ_callV2 (σ := σ) (L := ([(3457, m_fences), (3462, m_horses), (3466, m_plans), (3472, (0 : Int32)), (3473, (0 : Int32)), (3474, m_read_28x), (3475, m_length_28x), (3476, m_top_28x), (3477, m_at_28x), (3478, m_wrong_28x), (3483, m_ruleSize), (3484, m_isAsked_28x), (3485, m_askedHorse_28x), (3486, m_askedFence_28x), (3487, m_askedLetter_28x), (3488, m_askedHeight_28x)], [(56, m_kind), (57, m_height), (58, m_feet), (59, m_stride), (60, m_scope), (61, m_care), (62, m_plan), (69, m_rule)], [(65, m_row)])) (mi := mX12_cuts) (yi := mX12_tell) (as := [.long v4_28x.toInt64]) (st := []) (L2 := ([(3457, m_fences), (3462, m_horses), (3466, m_plans), (3472, m_rowManyn2), (3473, (0 : Int32)), (3474, m_read_28x), (3475, m_length_28x), (3476, m_top_28x), (3477, m_at_28x), (3478, m_wrong_28x), (3483, m_ruleSize), (3484, m_isAsked_28x), (3485, m_askedHorse_28x), (3486, m_askedFence_28x), (3487, m_askedLetter_28x), (3488, m_askedHeight_28x)], [(56, m_kind), (57, m_height), (58, m_feet), (59, m_stride), (60, m_scope), (61, m_care), (62, m_plan), (69, m_rule)], [(65, m_rown3)])) dX12_cuts_160 ML_X12_265 Yv_X12_tell rfl zW_54 rfl rfl (t_X12_tell l _ hcl) (zsub_i (zle_c rfl zle_n) zle_n (zle_c rfl zle_n)) (zjok_i rfl rfl (zle_c rfl (zle_c rfl (zle_c rfl (zle_c rfl (zle_c rfl (zle_c rfl (zle_c rfl (zle_c rfl (zle_c rfl (zle_c rfl (zle_c rfl (zle_c rfl (zle_c rfl (zle_c rfl (zle_c rfl (zle_c rfl zle_n)))))))))))))))) rfl rfl (zle_c rfl (zle_c rfl (zle_c rfl (zle_c rfl (zle_c rfl (zle_c rfl (zle_c rfl (zle_c rfl zle_n)))))))) rfl rfl (zle_c rfl zle_n)) (Nat.le_of_ble_eq_true rfl) (Nat.le_of_ble_eq_true rfl) rfl rfl ?_
        refine zJ_aload_n dX12_cuts_163 rfl rfl ?_
        refine zJ_iload dX12_cuts_164 rfl rfl ?_
        refine zJ_i2l dX12_cuts_166 rfl ?_
        obtain ⟨m_rowManyn4, m_rown5, hcl, h⟩ := bd2_some h
        refine zJ_callV2 (σ := σ) (L := ([(3457, m_fences), (3462, m_horses), (3466, m_plans), (3472, m_rowManyn2), (3473, (0 : Int32)), (3474, m_read_28x), (3475, m_length_28x), (3476, m_top_28x), (3477, m_at_28x), (3478, m_wrong_28x), (3483, m_ruleSize), (3484, m_isAsked_28x), (3485, m_askedHorse_28x), (3486, m_askedFence_28x), (3487, m_askedLetter_28x), (3488, m_askedHeight_28x)], [(56, m_kind), (57, m_height), (58, m_feet), (59, m_stride), (60, m_scope), (61, m_care), (62, m_plan), (69, m_rule)], [(65, m_rown3)])) (mi := mX12_cuts) (yi := mX12_tell) (as := [.long v5_28x.toInt64]) (st := []) (L2 := ([(3457, m_fences), (3462, m_horses), (3466, m_plans), (3472, m_rowManyn4), (3473, (0 : Int32)), (3474, m_read_28x), (3475, m_length_28x), (3476, m_top_28x), (3477, m_at_28x), (3478, m_wrong_28x), (3483, m_ruleSize), (3484, m_isAsked_28x), (3485, m_askedHorse_28x), (3486, m_askedFence_28x), (3487, m_askedLetter_28x), (3488, m_askedHeight_28x)], [(56, m_kind), (57, m_height), (58, m_feet), (59, m_stride), (60, m_scope), (61, m_care), (62, m_plan), (69, m_rule)], [(65, m_rown5)])) dX12_cuts_167 ML_X12_265 Yv_X12_tell rfl zW_54 rfl rfl (t_X12_tell l _ hcl) (zsub_i (zle_c rfl zle_n) zle_n (zle_c rfl zle_n)) (zjok_i rfl rfl (zle_c rfl (zle_c rfl (zle_c rfl (zle_c rfl (zle_c rfl (zle_c rfl (zle_c rfl (zle_c rfl (zle_c rfl (zle_c rfl (zle_c rfl (zle_c rfl (zle_c rfl (zle_c rfl (zle_c rfl (zle_c rfl zle_n)))))))))))))))) rfl rfl (zle_c rfl (zle_c rfl (zle_c rfl (zle_c rfl (zle_c rfl (zle_c rfl (zle_c rfl (zle_c rfl zle_n)))))))) rfl rfl (zle_c rfl zle_n)) (Nat.le_of_ble_eq_true rfl) (Nat.le_of_ble_eq_true rfl) rfl rfl ?_
        refine zJ_iload_n dX12_cuts_170 rfl rfl ?_
        obtain ⟨rfl, rfl, rfl, rfl, rfl, rfl, rfl, rfl, rfl, rfl, rfl, rfl, rfl, rfl⟩ := so14 h
        exact zJ_iret dX12_cuts_171 rfl rfl
      · replace h := it_f hc h
        refine zJ_bipush dX12_cuts_148 zb_m2 rfl ?_
        obtain ⟨rfl, rfl, rfl, rfl, rfl, rfl, rfl, rfl, rfl, rfl, rfl, rfl, rfl, rfl⟩ := so14 h
        exact zJ_iret dX12_cuts_150 rfl rfl
    refine zJ_loc (ls' := [(0, .ref 54), (1, .int p1), (2, .int p2), (3, .int (-2 : Int32)), (4, .int (0 : Int32)), (5, .int (0 : Int32)), (6, .int (0 : Int32))]) (zll_c rfl (zll_c rfl (zll_c rfl (zll_c rfl (zll_c rfl (zll_c rfl (zll_c rfl zll_n))))))) ?_
    refine ml14_J (fun (v3_28 : Int32) (v4_28 : Int32) (v5_28 : Int32) (v6_28 : Int32) (m_read_28 : Int32) (m_length_28 : Int32) (m_top_28 : Int32) (m_at_28 : Int32) (m_wrong_28 : Int32) (m_isAsked_28 : Int32) (m_askedHorse_28 : Int32) (m_askedFence_28 : Int32) (m_askedLetter_28 : Int32) (m_askedHeight_28 : Int32) => zJ l zW 207 mX12_cuts σ ([(3457, m_fences), (3462, m_horses), (3466, m_plans), (3472, m_rowMany), (3473, (0 : Int32)), (3474, m_read_28), (3475, m_length_28), (3476, m_top_28), (3477, m_at_28), (3478, m_wrong_28), (3483, m_ruleSize), (3484, m_isAsked_28), (3485, m_askedHorse_28), (3486, m_askedFence_28), (3487, m_askedLetter_28), (3488, m_askedHeight_28)], [(56, m_kind), (57, m_height), (58, m_feet), (59, m_stride), (60, m_scope), (61, m_care), (62, m_plan), (69, m_rule)], [(65, m_row)]) 28 [(0, .ref 54), (1, .int p1), (2, .int p2), (3, .int v3_28), (4, .int v4_28), (5, .int v5_28), (6, .int v6_28)] [] (some (.int r)) ([(3457, m_fences), (3462, m_horses), (3466, m_plans), (3472, w_m_rowMany), (3473, w_m_thrown), (3474, w_m_read), (3475, w_m_length), (3476, w_m_top), (3477, w_m_at), (3478, w_m_wrong), (3483, m_ruleSize), (3484, w_m_isAsked), (3485, w_m_askedHorse), (3486, w_m_askedFence), (3487, w_m_askedLetter), (3488, w_m_askedHeight)], [(56, m_kind), (57, m_height), (58, m_feet), (59, m_stride), (60, m_scope), (61, m_care), (62, m_plan), (69, m_rule)], [(65, w_m_row)])) (fun rc28 hrc28 v3_28 v4_28 v5_28 v6_28 m_read_28 m_length_28 m_top_28 m_at_28 m_wrong_28 m_isAsked_28 m_askedHorse_28 m_askedFence_28 m_askedLetter_28 m_askedHeight_28 h => ?_) zN _ _ _ _ _ _ _ _ _ _ _ _ _ _ h
    unfold s_X12_cuts_28 at h
    refine zJ_iload dX12_cuts_28 rfl rfl ?_
    refine zJ_aload_n dX12_cuts_30 rfl rfl ?_
    refine zJ_geti (mi := mX12_cuts) (x := m_fences) dX12_cuts_31 F_X12_119 zW_54 rfl rfl rfl ?_
    refine zJ_icmp_ge (tgt := 144) dX12_cuts_34 (by decide) rfl (fun hc => ?_) (fun hc => ?_)
    · replace h := it_t hc h
      refine zJ_loc (ls' := [(0, .ref 54), (3, .int v3_28), (4, .int v4_28), (5, .int v5_28)]) (zll_c rfl (zll_c rfl (zll_c rfl (zll_c rfl zll_n)))) ?_
      exact hk28 _ _ _ _ _ _ _ _ _ _ _ _ _ h
    · replace h := it_f hc h
      refine zJ_aload_n dX12_cuts_37 rfl rfl ?_
      refine zJ_iload_n dX12_cuts_38 rfl rfl ?_
      refine zJ_iload dX12_cuts_39 rfl rfl ?_
      obtain ⟨rn6, hcl, h⟩ := bd1_some h
      refine zJ_callV2 (σ := σ) (L := ([(3457, m_fences), (3462, m_horses), (3466, m_plans), (3472, m_rowMany), (3473, (0 : Int32)), (3474, m_read_28), (3475, m_length_28), (3476, m_top_28), (3477, m_at_28), (3478, m_wrong_28), (3483, m_ruleSize), (3484, m_isAsked_28), (3485, m_askedHorse_28), (3486, m_askedFence_28), (3487, m_askedLetter_28), (3488, m_askedHeight_28)], [(56, m_kind), (57, m_height), (58, m_feet), (59, m_stride), (60, m_scope), (61, m_care), (62, m_plan), (69, m_rule)], [(65, m_row)])) (mi := mX12_cuts) (yi := mX12_letterOf) (as := [.int p2, .int v6_28]) (st := []) (L2 := ([(3457, m_fences), (3462, m_horses), (3466, m_plans), (3472, m_rowMany), (3473, (0 : Int32)), (3474, m_read_28), (3475, m_length_28), (3476, m_top_28), (3477, m_at_28), (3478, m_wrong_28), (3483, m_ruleSize), (3484, m_isAsked_28), (3485, m_askedHorse_28), (3486, m_askedFence_28), (3487, m_askedLetter_28), (3488, m_askedHeight_28)], [(56, m_kind), (57, m_height), (58, m_feet), (59, m_stride), (60, m_scope), (61, m_care), (62, m_plan), (69, m_rule)], [(65, m_row)])) dX12_cuts_41 ML_X12_273 Yv_X12_letterOf rfl zW_54 rfl rfl (t_X12_letterOf l _ hcl) (zsub_i zle_n (zle_c rfl zle_n) zle_n) (zjok_i rfl rfl (zle_c rfl (zle_c rfl (zle_c rfl (zle_c rfl (zle_c rfl (zle_c rfl (zle_c rfl (zle_c rfl (zle_c rfl (zle_c rfl (zle_c rfl (zle_c rfl (zle_c rfl (zle_c rfl (zle_c rfl (zle_c rfl zle_n)))))))))))))))) rfl rfl (zle_c rfl (zle_c rfl (zle_c rfl (zle_c rfl (zle_c rfl (zle_c rfl (zle_c rfl (zle_c rfl zle_n)))))))) rfl rfl (zle_c rfl zle_n)) (Nat.le_of_ble_eq_true rfl) (Nat.le_of_ble_eq_true rfl) rfl rfl ?_
      refine zJ_istore (ls' := [(7, .int rn6), (0, .ref 54), (1, .int p1), (2, .int p2), (3, .int v3_28), (4, .int v4_28), (5, .int v5_28), (6, .int v6_28)]) dX12_cuts_44 rfl rfl rfl ?_
      refine zJ_iload dX12_cuts_46 rfl rfl ?_
      refine zJ_iconst dX12_cuts_48 zc_4 rfl ?_
      refine zJ_icmp_lt (tgt := 55) dX12_cuts_49 (by decide) rfl (fun hc => ?_) (fun hc => ?_)
      · replace h := it_t hc h
        refine zJ_aload_n dX12_cuts_55 rfl rfl ?_
        refine zJ_iload_n dX12_cuts_56 rfl rfl ?_
        refine zJ_iload dX12_cuts_57 rfl rfl ?_
        refine zJ_iload dX12_cuts_59 rfl rfl ?_
        refine zJ_iconst dX12_cuts_61 zc_4 rfl ?_
        refine zJ_iadd dX12_cuts_62 rfl ?_
        obtain ⟨rn7, m_readn8, m_lengthn9, m_topn10, m_atn11, m_wrongn12, m_isAskedn13, m_askedHorsen14, m_askedFencen15, m_askedLettern16, m_askedHeightn17, hcl, h⟩ := bd11_some h
        refine zJ_callV2 (σ := σ) (L := ([(3457, m_fences), (3462, m_horses), (3466, m_plans), (3472, m_rowMany), (3473, (0 : Int32)), (3474, m_read_28), (3475, m_length_28), (3476, m_top_28), (3477, m_at_28), (3478, m_wrong_28), (3483, m_ruleSize), (3484, m_isAsked_28), (3485, m_askedHorse_28), (3486, m_askedFence_28), (3487, m_askedLetter_28), (3488, m_askedHeight_28)], [(56, m_kind), (57, m_height), (58, m_feet), (59, m_stride), (60, m_scope), (61, m_care), (62, m_plan), (69, m_rule)], [(65, m_row)])) (mi := mX12_cuts) (yi := mX12_oddsOf_) (as := [.int p1, .int v6_28, .int (rn6 + (4 : Int32))]) (st := []) (L2 := ([(3457, m_fences), (3462, m_horses), (3466, m_plans), (3472, m_rowMany), (3473, (0 : Int32)), (3474, m_readn8), (3475, m_lengthn9), (3476, m_topn10), (3477, m_atn11), (3478, m_wrongn12), (3483, m_ruleSize), (3484, m_isAskedn13), (3485, m_askedHorsen14), (3486, m_askedFencen15), (3487, m_askedLettern16), (3488, m_askedHeightn17)], [(56, m_kind), (57, m_height), (58, m_feet), (59, m_stride), (60, m_scope), (61, m_care), (62, m_plan), (69, m_rule)], [(65, m_row)])) dX12_cuts_63 ML_X12_259 Yv_X12_oddsOf_ rfl zW_54 rfl rfl (t_X12_oddsOf_ l _ hcl) (zsub_i (zle_c rfl (zle_c rfl (zle_c rfl (zle_c rfl (zle_c rfl (zle_c rfl (zle_c rfl (zle_c rfl (zle_c rfl (zle_c rfl (zle_c rfl zle_n))))))))))) (zle_c rfl (zle_c rfl (zle_c rfl (zle_c rfl (zle_c rfl (zle_c rfl (zle_c rfl zle_n))))))) zle_n) (zjok_i rfl rfl (zle_c rfl (zle_c rfl (zle_c rfl (zle_c rfl (zle_c rfl (zle_c rfl (zle_c rfl (zle_c rfl (zle_c rfl (zle_c rfl (zle_c rfl (zle_c rfl (zle_c rfl (zle_c rfl (zle_c rfl (zle_c rfl zle_n)))))))))))))))) rfl rfl (zle_c rfl (zle_c rfl (zle_c rfl (zle_c rfl (zle_c rfl (zle_c rfl (zle_c rfl (zle_c rfl zle_n)))))))) rfl rfl (zle_c rfl zle_n)) (Nat.le_of_ble_eq_true rfl) (Nat.le_of_ble_eq_true rfl) rfl rfl ?_
        refine zJ_aload_n dX12_cuts_66 rfl rfl ?_
        refine zJ_iload_n dX12_cuts_67 rfl rfl ?_
        refine zJ_iload dX12_cuts_68 rfl rfl ?_
        refine zJ_iload dX12_cuts_70 rfl rfl ?_
        obtain ⟨rn18, m_readn19, m_lengthn20, m_topn21, m_atn22, m_wrongn23, m_isAskedn24, m_askedHorsen25, m_askedFencen26, m_askedLettern27, m_askedHeightn28, hcl, h⟩ := bd11_some h
        refine zJ_callV2 (σ := σ) (L := ([(3457, m_fences), (3462, m_horses), (3466, m_plans), (3472, m_rowMany), (3473, (0 : Int32)), (3474, m_readn8), (3475, m_lengthn9), (3476, m_topn10), (3477, m_atn11), (3478, m_wrongn12), (3483, m_ruleSize), (3484, m_isAskedn13), (3485, m_askedHorsen14), (3486, m_askedFencen15), (3487, m_askedLettern16), (3488, m_askedHeightn17)], [(56, m_kind), (57, m_height), (58, m_feet), (59, m_stride), (60, m_scope), (61, m_care), (62, m_plan), (69, m_rule)], [(65, m_row)])) (mi := mX12_cuts) (yi := mX12_oddsOf_) (as := [.int p1, .int v6_28, .int rn6]) (st := [.int rn7]) (L2 := ([(3457, m_fences), (3462, m_horses), (3466, m_plans), (3472, m_rowMany), (3473, (0 : Int32)), (3474, m_readn19), (3475, m_lengthn20), (3476, m_topn21), (3477, m_atn22), (3478, m_wrongn23), (3483, m_ruleSize), (3484, m_isAskedn24), (3485, m_askedHorsen25), (3486, m_askedFencen26), (3487, m_askedLettern27), (3488, m_askedHeightn28)], [(56, m_kind), (57, m_height), (58, m_feet), (59, m_stride), (60, m_scope), (61, m_care), (62, m_plan), (69, m_rule)], [(65, m_row)])) dX12_cuts_72 ML_X12_259 Yv_X12_oddsOf_ rfl zW_54 rfl rfl (t_X12_oddsOf_ l _ hcl) (zsub_i (zle_c rfl (zle_c rfl (zle_c rfl (zle_c rfl (zle_c rfl (zle_c rfl (zle_c rfl (zle_c rfl (zle_c rfl (zle_c rfl (zle_c rfl zle_n))))))))))) (zle_c rfl (zle_c rfl (zle_c rfl (zle_c rfl (zle_c rfl (zle_c rfl (zle_c rfl zle_n))))))) zle_n) (zjok_i rfl rfl (zle_c rfl (zle_c rfl (zle_c rfl (zle_c rfl (zle_c rfl (zle_c rfl (zle_c rfl (zle_c rfl (zle_c rfl (zle_c rfl (zle_c rfl (zle_c rfl (zle_c rfl (zle_c rfl (zle_c rfl (zle_c rfl zle_n)))))))))))))))) rfl rfl (zle_c rfl (zle_c rfl (zle_c rfl (zle_c rfl (zle_c rfl (zle_c rfl (zle_c rfl (zle_c rfl zle_n)))))))) rfl rfl (zle_c rfl zle_n)) (Nat.le_of_ble_eq_true rfl) (Nat.le_of_ble_eq_true rfl) rfl rfl ?_
        refine zJ_isub dX12_cuts_75 rfl ?_
        obtain ⟨v8n29, ev8n29, h⟩ := lt1_some h
        refine zJ_nmi ev8n29 ?_
        refine zJ_istore (ls' := [(8, .int v8n29), (7, .int rn6), (0, .ref 54), (1, .int p1), (2, .int p2), (3, .int v3_28), (4, .int v4_28), (5, .int v5_28), (6, .int v6_28)]) dX12_cuts_76 rfl rfl rfl ?_
        refine zJ_aload_n dX12_cuts_78 rfl rfl ?_
        refine zJ_iload dX12_cuts_79 rfl rfl ?_
        refine zJ_iload dX12_cuts_81 rfl rfl ?_
        obtain ⟨rn30, hcl, h⟩ := bd1_some h
        refine zJ_callV2 (σ := σ) (L := ([(3457, m_fences), (3462, m_horses), (3466, m_plans), (3472, m_rowMany), (3473, (0 : Int32)), (3474, m_readn19), (3475, m_lengthn20), (3476, m_topn21), (3477, m_atn22), (3478, m_wrongn23), (3483, m_ruleSize), (3484, m_isAskedn24), (3485, m_askedHorsen25), (3486, m_askedFencen26), (3487, m_askedLettern27), (3488, m_askedHeightn28)], [(56, m_kind), (57, m_height), (58, m_feet), (59, m_stride), (60, m_scope), (61, m_care), (62, m_plan), (69, m_rule)], [(65, m_row)])) (mi := mX12_cuts) (yi := mX12_tenthsOf) (as := [.int v6_28, .int rn6]) (st := []) (L2 := ([(3457, m_fences), (3462, m_horses), (3466, m_plans), (3472, m_rowMany), (3473, (0 : Int32)), (3474, m_readn19), (3475, m_lengthn20), (3476, m_topn21), (3477, m_atn22), (3478, m_wrongn23), (3483, m_ruleSize), (3484, m_isAskedn24), (3485, m_askedHorsen25), (3486, m_askedFencen26), (3487, m_askedLettern27), (3488, m_askedHeightn28)], [(56, m_kind), (57, m_height), (58, m_feet), (59, m_stride), (60, m_scope), (61, m_care), (62, m_plan), (69, m_rule)], [(65, m_row)])) dX12_cuts_83 ML_X12_269 Yv_X12_tenthsOf rfl zW_54 rfl rfl (t_X12_tenthsOf l _ hcl) (zsub_i zle_n (zle_c rfl (zle_c rfl zle_n)) zle_n) (zjok_i rfl rfl (zle_c rfl (zle_c rfl (zle_c rfl (zle_c rfl (zle_c rfl (zle_c rfl (zle_c rfl (zle_c rfl (zle_c rfl (zle_c rfl (zle_c rfl (zle_c rfl (zle_c rfl (zle_c rfl (zle_c rfl (zle_c rfl zle_n)))))))))))))))) rfl rfl (zle_c rfl (zle_c rfl (zle_c rfl (zle_c rfl (zle_c rfl (zle_c rfl (zle_c rfl (zle_c rfl zle_n)))))))) rfl rfl (zle_c rfl zle_n)) (Nat.le_of_ble_eq_true rfl) (Nat.le_of_ble_eq_true rfl) rfl rfl ?_
        refine zJ_aload_n dX12_cuts_86 rfl rfl ?_
        refine zJ_iload dX12_cuts_87 rfl rfl ?_
        refine zJ_iload dX12_cuts_89 rfl rfl ?_
        refine zJ_iconst dX12_cuts_91 zc_4 rfl ?_
        refine zJ_iadd dX12_cuts_92 rfl ?_
        obtain ⟨rn31, hcl, h⟩ := bd1_some h
        refine zJ_callV2 (σ := σ) (L := ([(3457, m_fences), (3462, m_horses), (3466, m_plans), (3472, m_rowMany), (3473, (0 : Int32)), (3474, m_readn19), (3475, m_lengthn20), (3476, m_topn21), (3477, m_atn22), (3478, m_wrongn23), (3483, m_ruleSize), (3484, m_isAskedn24), (3485, m_askedHorsen25), (3486, m_askedFencen26), (3487, m_askedLettern27), (3488, m_askedHeightn28)], [(56, m_kind), (57, m_height), (58, m_feet), (59, m_stride), (60, m_scope), (61, m_care), (62, m_plan), (69, m_rule)], [(65, m_row)])) (mi := mX12_cuts) (yi := mX12_tenthsOf) (as := [.int v6_28, .int (rn6 + (4 : Int32))]) (st := [.int rn30]) (L2 := ([(3457, m_fences), (3462, m_horses), (3466, m_plans), (3472, m_rowMany), (3473, (0 : Int32)), (3474, m_readn19), (3475, m_lengthn20), (3476, m_topn21), (3477, m_atn22), (3478, m_wrongn23), (3483, m_ruleSize), (3484, m_isAskedn24), (3485, m_askedHorsen25), (3486, m_askedFencen26), (3487, m_askedLettern27), (3488, m_askedHeightn28)], [(56, m_kind), (57, m_height), (58, m_feet), (59, m_stride), (60, m_scope), (61, m_care), (62, m_plan), (69, m_rule)], [(65, m_row)])) dX12_cuts_93 ML_X12_269 Yv_X12_tenthsOf rfl zW_54 rfl rfl (t_X12_tenthsOf l _ hcl) (zsub_i zle_n (zle_c rfl (zle_c rfl zle_n)) zle_n) (zjok_i rfl rfl (zle_c rfl (zle_c rfl (zle_c rfl (zle_c rfl (zle_c rfl (zle_c rfl (zle_c rfl (zle_c rfl (zle_c rfl (zle_c rfl (zle_c rfl (zle_c rfl (zle_c rfl (zle_c rfl (zle_c rfl (zle_c rfl zle_n)))))))))))))))) rfl rfl (zle_c rfl (zle_c rfl (zle_c rfl (zle_c rfl (zle_c rfl (zle_c rfl (zle_c rfl (zle_c rfl zle_n)))))))) rfl rfl (zle_c rfl zle_n)) (Nat.le_of_ble_eq_true rfl) (Nat.le_of_ble_eq_true rfl) rfl rfl ?_
        refine zJ_isub dX12_cuts_96 rfl ?_
        obtain ⟨v9n32, ev9n32, h⟩ := lt1_some h
        refine zJ_nmi ev9n32 ?_
        refine zJ_istore (ls' := [(9, .int v9n32), (8, .int v8n29), (7, .int rn6), (0, .ref 54), (1, .int p1), (2, .int p2), (3, .int v3_28), (4, .int v4_28), (5, .int v5_28), (6, .int v6_28)]) dX12_cuts_97 rfl rfl rfl ?_
        refine zJ_iload_n dX12_cuts_99 rfl rfl ?_
        refine zJ_if_lt (tgt := 127) dX12_cuts_100 (by decide) rfl (fun hc => ?_) (fun hc => ?_)
        · replace h := it_t hc h
          refine zJ_iload dX12_cuts_127 rfl rfl ?_
          refine zJ_istore_n (ls' := [(3, .int v6_28), (9, .int v9n32), (8, .int v8n29), (7, .int rn6), (0, .ref 54), (1, .int p1), (2, .int p2), (4, .int v4_28), (5, .int v5_28), (6, .int v6_28)]) dX12_cuts_129 rfl rfl rfl ?_
          refine zJ_iload dX12_cuts_130 rfl rfl ?_
          refine zJ_istore (ls' := [(4, .int v8n29), (3, .int v6_28), (9, .int v9n32), (8, .int v8n29), (7, .int rn6), (0, .ref 54), (1, .int p1), (2, .int p2), (5, .int v5_28), (6, .int v6_28)]) dX12_cuts_132 rfl rfl rfl ?_
          refine zJ_iload dX12_cuts_134 rfl rfl ?_
          refine zJ_istore (ls' := [(5, .int v9n32), (4, .int v8n29), (3, .int v6_28), (9, .int v9n32), (8, .int v8n29), (7, .int rn6), (0, .ref 54), (1, .int p1), (2, .int p2), (6, .int v6_28)]) dX12_cuts_136 rfl rfl rfl ?_
          obtain ⟨v6n33, ev6n33, h⟩ := lt1_some h
          refine zJ_iincN (ls' := [(6, .int v6n33), (5, .int v9n32), (4, .int v8n29), (3, .int v6_28), (9, .int v9n32), (8, .int v8n29), (7, .int rn6), (0, .ref 54), (1, .int p1), (2, .int p2)]) dX12_cuts_138 rfl rfl zc_1 ev6n33 rfl rfl ?_
          refine zJ_goto (tgt := 28) dX12_cuts_141 (by decide) ?_
          refine zJ_loc (ls' := [(0, .ref 54), (1, .int p1), (2, .int p2), (3, .int v6_28), (4, .int v8n29), (5, .int v9n32), (6, .int v6n33)]) (zll_c rfl (zll_c rfl (zll_c rfl (zll_c rfl (zll_c rfl (zll_c rfl (zll_c rfl zll_n))))))) ?_
          exact hrc28 _ _ _ _ _ _ _ _ _ _ _ _ _ _ h
        · replace h := it_f hc h
          refine zJ_iload dX12_cuts_103 rfl rfl ?_
          refine zJ_iload dX12_cuts_105 rfl rfl ?_
          refine zJ_icmp_gt (tgt := 138) dX12_cuts_107 (by decide) rfl (fun hc => ?_) (fun hc => ?_)
          · replace h := it_t hc h
            obtain ⟨v6n34, ev6n34, h⟩ := lt1_some h
            refine zJ_iincN (ls' := [(6, .int v6n34), (9, .int v9n32), (8, .int v8n29), (7, .int rn6), (0, .ref 54), (1, .int p1), (2, .int p2), (3, .int v3_28), (4, .int v4_28), (5, .int v5_28)]) dX12_cuts_138 rfl rfl zc_1 ev6n34 rfl rfl ?_
            refine zJ_goto (tgt := 28) dX12_cuts_141 (by decide) ?_
            refine zJ_loc (ls' := [(0, .ref 54), (1, .int p1), (2, .int p2), (3, .int v3_28), (4, .int v4_28), (5, .int v5_28), (6, .int v6n34)]) (zll_c rfl (zll_c rfl (zll_c rfl (zll_c rfl (zll_c rfl (zll_c rfl (zll_c rfl zll_n))))))) ?_
            exact hrc28 _ _ _ _ _ _ _ _ _ _ _ _ _ _ h
          · replace h := it_f hc h
            refine zJ_iload dX12_cuts_110 rfl rfl ?_
            refine zJ_iload dX12_cuts_112 rfl rfl ?_
            refine zJ_icmp_ne (tgt := 127) dX12_cuts_114 (by decide) rfl (fun hc => ?_) (fun hc => ?_)
            · replace h := it_f hc h
              refine zJ_iload dX12_cuts_127 rfl rfl ?_
              refine zJ_istore_n (ls' := [(3, .int v6_28), (9, .int v9n32), (8, .int v8n29), (7, .int rn6), (0, .ref 54), (1, .int p1), (2, .int p2), (4, .int v4_28), (5, .int v5_28), (6, .int v6_28)]) dX12_cuts_129 rfl rfl rfl ?_
              refine zJ_iload dX12_cuts_130 rfl rfl ?_
              refine zJ_istore (ls' := [(4, .int v8n29), (3, .int v6_28), (9, .int v9n32), (8, .int v8n29), (7, .int rn6), (0, .ref 54), (1, .int p1), (2, .int p2), (5, .int v5_28), (6, .int v6_28)]) dX12_cuts_132 rfl rfl rfl ?_
              refine zJ_iload dX12_cuts_134 rfl rfl ?_
              refine zJ_istore (ls' := [(5, .int v9n32), (4, .int v8n29), (3, .int v6_28), (9, .int v9n32), (8, .int v8n29), (7, .int rn6), (0, .ref 54), (1, .int p1), (2, .int p2), (6, .int v6_28)]) dX12_cuts_136 rfl rfl rfl ?_
              obtain ⟨v6n35, ev6n35, h⟩ := lt1_some h
              refine zJ_iincN (ls' := [(6, .int v6n35), (5, .int v9n32), (4, .int v8n29), (3, .int v6_28), (9, .int v9n32), (8, .int v8n29), (7, .int rn6), (0, .ref 54), (1, .int p1), (2, .int p2)]) dX12_cuts_138 rfl rfl zc_1 ev6n35 rfl rfl ?_
              refine zJ_goto (tgt := 28) dX12_cuts_141 (by decide) ?_
              refine zJ_loc (ls' := [(0, .ref 54), (1, .int p1), (2, .int p2), (3, .int v6_28), (4, .int v8n29), (5, .int v9n32), (6, .int v6n35)]) (zll_c rfl (zll_c rfl (zll_c rfl (zll_c rfl (zll_c rfl (zll_c rfl (zll_c rfl zll_n))))))) ?_
              exact hrc28 _ _ _ _ _ _ _ _ _ _ _ _ _ _ h
            · replace h := it_t hc h
              refine zJ_iload dX12_cuts_117 rfl rfl ?_
              refine zJ_iload dX12_cuts_119 rfl rfl ?_
              refine zJ_icmp_gt (tgt := 127) dX12_cuts_121 (by decide) rfl (fun hc => ?_) (fun hc => ?_)
              · replace h := it_t hc h
                refine zJ_iload dX12_cuts_127 rfl rfl ?_
                refine zJ_istore_n (ls' := [(3, .int v6_28), (9, .int v9n32), (8, .int v8n29), (7, .int rn6), (0, .ref 54), (1, .int p1), (2, .int p2), (4, .int v4_28), (5, .int v5_28), (6, .int v6_28)]) dX12_cuts_129 rfl rfl rfl ?_
                refine zJ_iload dX12_cuts_130 rfl rfl ?_
                refine zJ_istore (ls' := [(4, .int v8n29), (3, .int v6_28), (9, .int v9n32), (8, .int v8n29), (7, .int rn6), (0, .ref 54), (1, .int p1), (2, .int p2), (5, .int v5_28), (6, .int v6_28)]) dX12_cuts_132 rfl rfl rfl ?_
                refine zJ_iload dX12_cuts_134 rfl rfl ?_
                refine zJ_istore (ls' := [(5, .int v9n32), (4, .int v8n29), (3, .int v6_28), (9, .int v9n32), (8, .int v8n29), (7, .int rn6), (0, .ref 54), (1, .int p1), (2, .int p2), (6, .int v6_28)]) dX12_cuts_136 rfl rfl rfl ?_
                obtain ⟨v6n36, ev6n36, h⟩ := lt1_some h
                refine zJ_iincN (ls' := [(6, .int v6n36), (5, .int v9n32), (4, .int v8n29), (3, .int v6_28), (9, .int v9n32), (8, .int v8n29), (7, .int rn6), (0, .ref 54), (1, .int p1), (2, .int p2)]) dX12_cuts_138 rfl rfl zc_1 ev6n36 rfl rfl ?_
                refine zJ_goto (tgt := 28) dX12_cuts_141 (by decide) ?_
                refine zJ_loc (ls' := [(0, .ref 54), (1, .int p1), (2, .int p2), (3, .int v6_28), (4, .int v8n29), (5, .int v9n32), (6, .int v6n36)]) (zll_c rfl (zll_c rfl (zll_c rfl (zll_c rfl (zll_c rfl (zll_c rfl (zll_c rfl zll_n))))))) ?_
                exact hrc28 _ _ _ _ _ _ _ _ _ _ _ _ _ _ h
              · replace h := it_f hc h
                refine zJ_goto (tgt := 138) dX12_cuts_124 (by decide) ?_
                obtain ⟨v6n37, ev6n37, h⟩ := lt1_some h
                refine zJ_iincN (ls' := [(6, .int v6n37), (9, .int v9n32), (8, .int v8n29), (7, .int rn6), (0, .ref 54), (1, .int p1), (2, .int p2), (3, .int v3_28), (4, .int v4_28), (5, .int v5_28)]) dX12_cuts_138 rfl rfl zc_1 ev6n37 rfl rfl ?_
                refine zJ_goto (tgt := 28) dX12_cuts_141 (by decide) ?_
                refine zJ_loc (ls' := [(0, .ref 54), (1, .int p1), (2, .int p2), (3, .int v3_28), (4, .int v4_28), (5, .int v5_28), (6, .int v6n37)]) (zll_c rfl (zll_c rfl (zll_c rfl (zll_c rfl (zll_c rfl (zll_c rfl (zll_c rfl zll_n))))))) ?_
                exact hrc28 _ _ _ _ _ _ _ _ _ _ _ _ _ _ h
      · replace h := it_f hc h
        refine zJ_goto (tgt := 138) dX12_cuts_52 (by decide) ?_
        obtain ⟨v6n38, ev6n38, h⟩ := lt1_some h
        refine zJ_iincN (ls' := [(6, .int v6n38), (7, .int rn6), (0, .ref 54), (1, .int p1), (2, .int p2), (3, .int v3_28), (4, .int v4_28), (5, .int v5_28)]) dX12_cuts_138 rfl rfl zc_1 ev6n38 rfl rfl ?_
        refine zJ_goto (tgt := 28) dX12_cuts_141 (by decide) ?_
        refine zJ_loc (ls' := [(0, .ref 54), (1, .int p1), (2, .int p2), (3, .int v3_28), (4, .int v4_28), (5, .int v5_28), (6, .int v6n38)]) (zll_c rfl (zll_c rfl (zll_c rfl (zll_c rfl (zll_c rfl (zll_c rfl (zll_c rfl zll_n))))))) ?_
        exact hrc28 _ _ _ _ _ _ _ _ _ _ _ _ _ _ h
  · replace h := it_t hc h
    refine zJ_iconst dX12_cuts_14 zc_m1 rfl ?_
    obtain ⟨rfl, rfl, rfl, rfl, rfl, rfl, rfl, rfl, rfl, rfl, rfl, rfl, rfl, rfl⟩ := so14 h
    exact zJ_iret dX12_cuts_15 rfl rfl
set_option maxRecDepth 100000 in
set_option maxHeartbeats 4000000 in
theorem t_X12_here_t (l : Launch) (σ : zS) {m_length : Int32} {m_top : Int32} {m_at : Int32} {m_text : (Nat → Int32)} {r : Int32} (h : f_X12_here_t m_length m_top m_at m_text = some r) : zMt l zW 0 mX12_here σ ([(3474, (nI 64)), (3475, m_length), (3476, m_top), (3477, m_at)], [(64, m_text)], []) [.ref 54] (some (.int r)) ([(3474, (nI 64)), (3475, m_length), (3476, m_top), (3477, m_at)], [(64, m_text)], []) := by
  refine zMt_of (ls := [(0, .ref 54)]) (by decide) rfl (fun _ => Nat.le_of_ble_eq_true rfl) rfl ?_
  unfold f_X12_here_t at h
  refine zJ_aload_n dX12_here_0 rfl rfl ?_
  refine zJ_geti (mi := mX12_here) (x := m_at) dX12_here_1 F_X12_151 zW_54 rfl rfl rfl ?_
  refine zJ_aload_n dX12_here_4 rfl rfl ?_
  refine zJ_geti (mi := mX12_here) (x := m_length) dX12_here_5 F_X12_145 zW_54 rfl rfl rfl ?_
  refine zJ_icmp_ge (tgt := 38) dX12_here_8 (by decide) rfl (fun hc => ?_) (fun hc => ?_)
  · replace h := it_t hc h
    refine zJ_iconst dX12_here_38 zc_m1 rfl ?_
    obtain rfl := so1 h
    exact zJ_iret dX12_here_39 rfl rfl
  · replace h := it_f hc h
    refine zJ_aload_n dX12_here_11 rfl rfl ?_
    refine zJ_geti (mi := mX12_here) (x := m_at) dX12_here_12 F_X12_151 zW_54 rfl rfl rfl ?_
    refine zJ_aload_n dX12_here_15 rfl rfl ?_
    refine zJ_geti (mi := mX12_here) (x := m_top) dX12_here_16 F_X12_148 zW_54 rfl rfl rfl ?_
    refine zJ_icmp_ge (tgt := 38) dX12_here_19 (by decide) rfl (fun hc => ?_) (fun hc => ?_)
    · replace h := it_t hc h
      refine zJ_iconst dX12_here_38 zc_m1 rfl ?_
      obtain rfl := so1 h
      exact zJ_iret dX12_here_39 rfl rfl
    · replace h := it_f hc h
      refine zJ_aload_n dX12_here_22 rfl rfl ?_
      refine zJ_getq (mi := mX12_here) (q := 64) dX12_here_23 F_X12_142 zW_54 rfl rfl (by decide) rfl ?_
      refine zJ_aload_n dX12_here_26 rfl rfl ?_
      refine zJ_geti (mi := mX12_here) (x := m_at) dX12_here_27 F_X12_151 zW_54 rfl rfl rfl ?_
      obtain ⟨hg, h⟩ := gd_some h
      refine zJ_bald (mi := mX12_here) (f := m_text) dX12_here_30 zW_64 (ix_in hg) rfl rfl ?_
      refine zJ_sipush dX12_here_31 zs_255 rfl ?_
      refine zJ_iand dX12_here_34 rfl ?_
      refine zJ_goto (tgt := 39) dX12_here_35 (by decide) ?_
      obtain rfl := so1 h
      exact zJ_iret dX12_here_39 rfl rfl
set_option maxRecDepth 100000 in
set_option maxHeartbeats 4000000 in
theorem t_X12_digit_t (l : Launch) (σ : zS) {p1 : Int32} {p2 : Int32} {m_length : Int32} {m_top : Int32} {m_at : Int32} {m_wrong : Int32} {m_text : (Nat → Int32)} {r : Int32} {w_m_at : Int32} {w_m_wrong : Int32} (h : f_X12_digit_t p1 p2 m_length m_top m_at m_wrong m_text = some (r, w_m_at, w_m_wrong)) : zMt l zW 2 mX12_digit σ ([(3474, (nI 64)), (3475, m_length), (3476, m_top), (3477, m_at), (3478, m_wrong)], [(64, m_text)], []) [.ref 54, .int p1, .int p2] (some (.int r)) ([(3474, (nI 64)), (3475, m_length), (3476, m_top), (3477, w_m_at), (3478, w_m_wrong)], [(64, m_text)], []) := by
  refine zMt_of (ls := [(0, .ref 54), (1, .int p1), (2, .int p2)]) (by decide) rfl (fun _ => Nat.le_of_ble_eq_true rfl) rfl ?_
  unfold f_X12_digit_t at h
  refine zJ_aload_n dX12_digit_0 rfl rfl ?_
  obtain ⟨rn1, hcl, h⟩ := bd1_some h
  refine zJ_callV2 (σ := σ) (L := ([(3474, (nI 64)), (3475, m_length), (3476, m_top), (3477, m_at), (3478, m_wrong)], [(64, m_text)], [])) (mi := mX12_digit) (yi := mX12_fine) (as := []) (st := []) (L2 := ([(3474, (nI 64)), (3475, m_length), (3476, m_top), (3477, m_at), (3478, m_wrong)], [(64, m_text)], [])) dX12_digit_1 ML_X12_157 Yv_X12_fine rfl zW_54 rfl rfl (t_X12_fine l _ hcl) (zsub_i (zle_c rfl zle_n) zle_n zle_n) (zjok_i rfl rfl (zle_c rfl (zle_c rfl (zle_c rfl (zle_c rfl (zle_c rfl zle_n))))) rfl rfl (zle_c rfl zle_n) rfl rfl zle_n) (Nat.le_of_ble_eq_true rfl) (Nat.le_of_ble_eq_true rfl) rfl rfl ?_
  refine zJ_if_ne (tgt := 9) dX12_digit_4 (by decide) rfl (fun hc => ?_) (fun hc => ?_)
  · replace h := it_f hc h
    refine zJ_aload_n dX12_digit_9 rfl rfl ?_
    obtain ⟨rn2, hcl, h⟩ := bd1_some h
    refine zJ_callV2 (σ := σ) (L := ([(3474, (nI 64)), (3475, m_length), (3476, m_top), (3477, m_at), (3478, m_wrong)], [(64, m_text)], [])) (mi := mX12_digit) (yi := mX12_here) (as := []) (st := []) (L2 := ([(3474, (nI 64)), (3475, m_length), (3476, m_top), (3477, m_at), (3478, m_wrong)], [(64, m_text)], [])) dX12_digit_10 ML_X12_161 Yv_X12_here rfl zW_54 rfl rfl (t_X12_here_t l _ hcl) (zsub_i (zle_c rfl (zle_c rfl (zle_c rfl (zle_c rfl zle_n)))) (zle_c rfl zle_n) zle_n) (zjok_i rfl rfl (zle_c rfl (zle_c rfl (zle_c rfl (zle_c rfl (zle_c rfl zle_n))))) rfl rfl (zle_c rfl zle_n) rfl rfl zle_n) (Nat.le_of_ble_eq_true rfl) (Nat.le_of_ble_eq_true rfl) rfl rfl ?_
    refine zJ_bipush dX12_digit_13 zb_48 rfl ?_
    refine zJ_iload_n dX12_digit_15 rfl rfl ?_
    refine zJ_iadd dX12_digit_16 rfl ?_
    refine zJ_bipush dX12_digit_17 zb_48 rfl ?_
    refine zJ_iload_n dX12_digit_19 rfl rfl ?_
    refine zJ_iadd dX12_digit_20 rfl ?_
    obtain ⟨rn3, hcl, h⟩ := bd1_some h
    refine zJ_callS2 (σ := σ) (L := ([(3474, (nI 64)), (3475, m_length), (3476, m_top), (3477, m_at), (3478, m_wrong)], [(64, m_text)], [])) (mi := mX12_digit) (yi := mX12_in) (as := [.int rn2, .int ((48 : Int32) + p1), .int ((48 : Int32) + p2)]) (st := []) (L2 := ([(3474, (nI 64)), (3475, m_length), (3476, m_top), (3477, m_at), (3478, m_wrong)], [(64, m_text)], [])) dX12_digit_21 ML_X12_122 Ys_X12_in rfl (t_X12_in l _ hcl) (zsub_i zle_n zle_n zle_n) (zjok_i rfl rfl (zle_c rfl (zle_c rfl (zle_c rfl (zle_c rfl (zle_c rfl zle_n))))) rfl rfl (zle_c rfl zle_n) rfl rfl zle_n) (Nat.le_of_ble_eq_true rfl) (Nat.le_of_ble_eq_true rfl) rfl rfl ?_
    refine zJ_if_ne (tgt := 37) dX12_digit_24 (by decide) rfl (fun hc => ?_) (fun hc => ?_)
    · replace h := it_f hc h
      refine zJ_aload_n dX12_digit_37 rfl rfl ?_
      refine zJ_dup dX12_digit_38 rfl rfl ?_
      refine zJ_geti (mi := mX12_digit) (x := m_at) dX12_digit_39 F_X12_151 zW_54 rfl rfl rfl ?_
      refine zJ_iconst dX12_digit_42 zc_1 rfl ?_
      refine zJ_iadd dX12_digit_43 rfl ?_
      refine zK_puti (mi := mX12_digit) (la' := [(3474, (nI 64)), (3475, m_length), (3476, m_top), (3477, (m_at + (1 : Int32))), (3478, m_wrong)]) zW_ok dX12_digit_44 F_X12_151 P_12_21 zW_54 rfl rfl rfl ?_
      refine zJ_aload_n dX12_digit_47 rfl rfl ?_
      refine zJ_getq (mi := mX12_digit) (q := 64) dX12_digit_48 F_X12_142 zW_54 rfl rfl (by decide) rfl ?_
      refine zJ_aload_n dX12_digit_51 rfl rfl ?_
      refine zJ_geti (mi := mX12_digit) (x := (m_at + (1 : Int32))) dX12_digit_52 F_X12_151 zW_54 rfl rfl rfl ?_
      refine zJ_iconst dX12_digit_55 zc_1 rfl ?_
      refine zJ_isub dX12_digit_56 rfl ?_
      obtain ⟨hg, h⟩ := gd_some h
      refine zJ_bald (mi := mX12_digit) (f := m_text) dX12_digit_57 zW_64 (ix_in hg) rfl rfl ?_
      refine zJ_bipush dX12_digit_58 zb_48 rfl ?_
      refine zJ_isub dX12_digit_60 rfl ?_
      obtain ⟨rfl, rfl, rfl⟩ := so3 h
      exact zJ_iret dX12_digit_61 rfl rfl
    · replace h := it_t hc h
      refine zJ_aload_n dX12_digit_27 rfl rfl ?_
      refine zJ_aload_n dX12_digit_28 rfl rfl ?_
      refine zJ_geti (mi := mX12_digit) (x := m_at) dX12_digit_29 F_X12_151 zW_54 rfl rfl rfl ?_
      obtain ⟨m_wrongn4, hcl, h⟩ := bd1_some h
      refine zJ_callV2 (σ := σ) (L := ([(3474, (nI 64)), (3475, m_length), (3476, m_top), (3477, m_at), (3478, m_wrong)], [(64, m_text)], [])) (mi := mX12_digit) (yi := mX12_fault) (as := [.int m_at]) (st := []) (L2 := ([(3474, (nI 64)), (3475, m_length), (3476, m_top), (3477, m_at), (3478, m_wrongn4)], [(64, m_text)], [])) dX12_digit_32 ML_X12_169 Yv_X12_fault rfl zW_54 rfl rfl (t_X12_fault l _ hcl) (zsub_i (zle_c rfl zle_n) zle_n zle_n) (zjok_i rfl rfl (zle_c rfl (zle_c rfl (zle_c rfl (zle_c rfl (zle_c rfl zle_n))))) rfl rfl (zle_c rfl zle_n) rfl rfl zle_n) (Nat.le_of_ble_eq_true rfl) (Nat.le_of_ble_eq_true rfl) rfl rfl ?_
      refine zJ_iconst dX12_digit_35 zc_0 rfl ?_
      obtain ⟨rfl, rfl, rfl⟩ := so3 h
      exact zJ_iret dX12_digit_36 rfl rfl
  · replace h := it_t hc h
    refine zJ_iconst dX12_digit_7 zc_0 rfl ?_
    obtain ⟨rfl, rfl, rfl⟩ := so3 h
    exact zJ_iret dX12_digit_8 rfl rfl
set_option maxRecDepth 100000 in
set_option maxHeartbeats 4000000 in
theorem t_X12_end (l : Launch) (σ : zS) {p1 : Int32} {m_typed : Int32} {m_thrown : Int32} {r : Int32} {w_m_typed : Int32} {w_m_thrown : Int32} (h : f_X12_end p1 m_typed m_thrown = some (r, w_m_typed, w_m_thrown)) : zMt l zW 1 mX12_end σ ([(3470, m_typed), (3473, m_thrown)], [], []) [.ref 54, .int p1] (some (.int r)) ([(3470, w_m_typed), (3473, w_m_thrown)], [], []) := by
  refine zMt_of (ls := [(0, .ref 54), (1, .int p1)]) (by decide) rfl (fun _ => Nat.le_of_ble_eq_true rfl) rfl ?_
  unfold f_X12_end at h
  refine zJ_aload_n dX12_end_0 rfl rfl ?_
  refine zJ_iconst dX12_end_1 zc_0 rfl ?_
  refine zK_puti (mi := mX12_end) (la' := [(3470, m_typed), (3473, (0 : Int32))]) zW_ok dX12_end_2 F_X12_113 P_12_17 zW_54 rfl rfl rfl ?_
  refine zJ_iload_n dX12_end_5 rfl rfl ?_
  refine zJ_iconst dX12_end_6 zc_0 rfl ?_
  refine zJ_aload_n dX12_end_7 rfl rfl ?_
  refine zJ_geti (mi := mX12_end) (x := m_typed) dX12_end_8 F_X12_139 zW_54 rfl rfl rfl ?_
  obtain ⟨rn1, hcl, h⟩ := bd1_some h
  refine zJ_callS2 (σ := σ) (L := ([(3470, m_typed), (3473, (0 : Int32))], [], [])) (mi := mX12_end) (yi := mX12_in) (as := [.int p1, .int (0 : Int32), .int m_typed]) (st := []) (L2 := ([(3470, m_typed), (3473, (0 : Int32))], [], [])) dX12_end_11 ML_X12_122 Ys_X12_in rfl (t_X12_in l _ hcl) (zsub_i zle_n zle_n zle_n) (zjok_i rfl rfl (zle_c rfl (zle_c rfl zle_n)) rfl rfl zle_n rfl rfl zle_n) (Nat.le_of_ble_eq_true rfl) (Nat.le_of_ble_eq_true rfl) rfl rfl ?_
  refine zJ_if_ne (tgt := 19) dX12_end_14 (by decide) rfl (fun hc => ?_) (fun hc => ?_)
  · replace h := it_f hc h
    refine zJ_aload_n dX12_end_19 rfl rfl ?_
    refine zJ_iload_n dX12_end_20 rfl rfl ?_
    refine zK_puti (mi := mX12_end) (la' := [(3470, p1), (3473, (0 : Int32))]) zW_ok dX12_end_21 F_X12_139 P_12_14 zW_54 rfl rfl rfl ?_
    refine zJ_iconst dX12_end_24 zc_1 rfl ?_
    obtain ⟨rfl, rfl, rfl⟩ := so3 h
    exact zJ_iret dX12_end_25 rfl (by decide)
  · replace h := it_t hc h
    refine zJ_iconst dX12_end_17 zc_0 rfl ?_
    obtain ⟨rfl, rfl, rfl⟩ := so3 h
    exact zJ_iret dX12_end_18 rfl (by decide)
set_option maxRecDepth 100000 in
set_option maxHeartbeats 4000000 in
theorem t_X12_fair (l : Launch) (σ : zS) {p1 : Int32} {m_fences : Int32} {m_horses : Int32} {m_rowMany : Int32} {m_thrown : Int32} {m_stride : (Nat → Int32)} {m_row : (Nat → Int64)} {r : Int32} {w_m_rowMany : Int32} {w_m_thrown : Int32} {w_m_row : (Nat → Int64)} (h : f_X12_fair p1 m_fences m_horses m_rowMany m_thrown m_stride m_row = some (r, w_m_rowMany, w_m_thrown, w_m_row)) : zMt l zW 2 mX12_fair σ ([(3457, m_fences), (3462, m_horses), (3472, m_rowMany), (3473, m_thrown)], [(59, m_stride)], [(65, m_row)]) [.ref 54, .int p1] (some (.int r)) ([(3457, m_fences), (3462, m_horses), (3472, w_m_rowMany), (3473, w_m_thrown)], [(59, m_stride)], [(65, w_m_row)]) := by
  refine zMt_of (ls := [(0, .ref 54), (1, .int p1)]) (by decide) rfl (fun _ => Nat.le_of_ble_eq_true rfl) rfl ?_
  unfold f_X12_fair at h
  refine zJ_aload_n dX12_fair_0 rfl rfl ?_
  refine zJ_iconst dX12_fair_1 zc_0 rfl ?_
  refine zK_puti (mi := mX12_fair) (la' := [(3457, m_fences), (3462, m_horses), (3472, m_rowMany), (3473, (0 : Int32))]) zW_ok dX12_fair_2 F_X12_113 P_12_17 zW_54 rfl rfl rfl ?_
  refine zJ_aload_n dX12_fair_5 rfl rfl ?_
  refine zJ_iload_n dX12_fair_6 rfl rfl ?_
  obtain ⟨rn1, hcl, h⟩ := bd1_some h
  refine zJ_callV2 (σ := σ) (L := ([(3457, m_fences), (3462, m_horses), (3472, m_rowMany), (3473, (0 : Int32))], [(59, m_stride)], [(65, m_row)])) (mi := mX12_fair) (yi := mX12_isFence) (as := [.int p1]) (st := []) (L2 := ([(3457, m_fences), (3462, m_horses), (3472, m_rowMany), (3473, (0 : Int32))], [(59, m_stride)], [(65, m_row)])) dX12_fair_7 ML_X12_250 Yv_X12_isFence rfl zW_54 rfl rfl (t_X12_isFence l _ hcl) (zsub_i (zle_c rfl zle_n) zle_n zle_n) (zjok_i rfl rfl (zle_c rfl (zle_c rfl (zle_c rfl (zle_c rfl zle_n)))) rfl rfl (zle_c rfl zle_n) rfl rfl (zle_c rfl zle_n)) (Nat.le_of_ble_eq_true rfl) (Nat.le_of_ble_eq_true rfl) rfl rfl ?_
  refine zJ_if_ne (tgt := 15) dX12_fair_10 (by decide) rfl (fun hc => ?_) (fun hc => ?_)
  · replace h := it_f hc h
    refine zJ_iconst dX12_fair_15 zc_0 rfl ?_
    refine zJ_istore_n (ls' := [(2, .int (0 : Int32)), (0, .ref 54), (1, .int p1)]) dX12_fair_16 rfl rfl rfl ?_
    refine zJ_ldc_w (v := 100000000) dX12_fair_17 C_X12_272 rfl ?_
    refine zJ_istore_n (ls' := [(3, .int (100000000 : Int32)), (2, .int (0 : Int32)), (0, .ref 54), (1, .int p1)]) dX12_fair_20 rfl rfl rfl ?_
    refine zJ_iconst dX12_fair_21 zc_0 rfl ?_
    refine zJ_istore (ls' := [(4, .int (0 : Int32)), (3, .int (100000000 : Int32)), (2, .int (0 : Int32)), (0, .ref 54), (1, .int p1)]) dX12_fair_22 rfl rfl rfl ?_
    refine zJ_bipush dX12_fair_24 zb_10 rfl ?_
    refine zJ_istore (ls' := [(5, .int (10 : Int32)), (4, .int (0 : Int32)), (3, .int (100000000 : Int32)), (2, .int (0 : Int32)), (0, .ref 54), (1, .int p1)]) dX12_fair_26 rfl rfl rfl ?_
    have hk28 : ∀ (v2_28x : Int32) (v3_28x : Int32) (v4_28x : Int32), k_X12_fair_28 m_row v2_28x v3_28x v4_28x = some (r, w_m_rowMany, w_m_thrown, w_m_row) → zJ l zW 2 mX12_fair σ ([(3457, m_fences), (3462, m_horses), (3472, m_rowMany), (3473, (0 : Int32))], [(59, m_stride)], [(65, m_row)]) 112 [(0, .ref 54), (2, .int v2_28x), (3, .int v3_28x), (4, .int v4_28x)] [] (some (.int r)) ([(3457, m_fences), (3462, m_horses), (3472, w_m_rowMany), (3473, w_m_thrown)], [(59, m_stride)], [(65, w_m_row)]) := by
      intro v2_28x v3_28x v4_28x h
      unfold k_X12_fair_28 at h
      refine zJ_aload_n dX12_fair_112 rfl rfl ?_
      refine zJ_iconst dX12_fair_113 zc_0 rfl ?_
      refine zK_puti (mi := mX12_fair) (la' := [(3457, m_fences), (3462, m_horses), (3472, (0 : Int32)), (3473, (0 : Int32))]) zW_ok dX12_fair_114 F_X12_116 P_12_16 zW_54 rfl rfl rfl ?_
      refine zJ_aload_n dX12_fair_117 rfl rfl ?_
      refine zJ_iload_n dX12_fair_118 rfl rfl ?_
      refine zJ_i2l dX12_fair_119 rfl ?_
      obtain ⟨m_rowManyn2, m_rown3, hcl, h⟩ := bd2_some h
      refine zJ_callV2 (σ := σ) (L := ([(3457, m_fences), (3462, m_horses), (3472, (0 : Int32)), (3473, (0 : Int32))], [(59, m_stride)], [(65, m_row)])) (mi := mX12_fair) (yi := mX12_tell) (as := [.long v3_28x.toInt64]) (st := []) (L2 := ([(3457, m_fences), (3462, m_horses), (3472, m_rowManyn2), (3473, (0 : Int32))], [(59, m_stride)], [(65, m_rown3)])) dX12_fair_120 ML_X12_265 Yv_X12_tell rfl zW_54 rfl rfl (t_X12_tell l _ hcl) (zsub_i (zle_c rfl zle_n) zle_n (zle_c rfl zle_n)) (zjok_i rfl rfl (zle_c rfl (zle_c rfl (zle_c rfl (zle_c rfl zle_n)))) rfl rfl (zle_c rfl zle_n) rfl rfl (zle_c rfl zle_n)) (Nat.le_of_ble_eq_true rfl) (Nat.le_of_ble_eq_true rfl) rfl rfl ?_
      refine zJ_aload_n dX12_fair_123 rfl rfl ?_
      refine zJ_iload dX12_fair_124 rfl rfl ?_
      refine zJ_i2l dX12_fair_126 rfl ?_
      obtain ⟨m_rowManyn4, m_rown5, hcl, h⟩ := bd2_some h
      refine zJ_callV2 (σ := σ) (L := ([(3457, m_fences), (3462, m_horses), (3472, m_rowManyn2), (3473, (0 : Int32))], [(59, m_stride)], [(65, m_rown3)])) (mi := mX12_fair) (yi := mX12_tell) (as := [.long v4_28x.toInt64]) (st := []) (L2 := ([(3457, m_fences), (3462, m_horses), (3472, m_rowManyn4), (3473, (0 : Int32))], [(59, m_stride)], [(65, m_rown5)])) dX12_fair_127 ML_X12_265 Yv_X12_tell rfl zW_54 rfl rfl (t_X12_tell l _ hcl) (zsub_i (zle_c rfl zle_n) zle_n (zle_c rfl zle_n)) (zjok_i rfl rfl (zle_c rfl (zle_c rfl (zle_c rfl (zle_c rfl zle_n)))) rfl rfl (zle_c rfl zle_n) rfl rfl (zle_c rfl zle_n)) (Nat.le_of_ble_eq_true rfl) (Nat.le_of_ble_eq_true rfl) rfl rfl ?_
      refine zJ_iload_n dX12_fair_130 rfl rfl ?_
      obtain ⟨rfl, rfl, rfl, rfl⟩ := so4 h
      exact zJ_iret dX12_fair_131 rfl rfl
    refine zJ_loc (ls' := [(0, .ref 54), (2, .int (0 : Int32)), (3, .int (100000000 : Int32)), (4, .int (0 : Int32)), (5, .int (10 : Int32))]) (zll_c rfl (zll_c rfl (zll_c rfl (zll_c rfl (zll_c rfl zll_n))))) ?_
    refine ml4_J (fun (v2_28 : Int32) (v3_28 : Int32) (v4_28 : Int32) (v5_28 : Int32) => zJ l zW 2 mX12_fair σ ([(3457, m_fences), (3462, m_horses), (3472, m_rowMany), (3473, (0 : Int32))], [(59, m_stride)], [(65, m_row)]) 28 [(0, .ref 54), (2, .int v2_28), (3, .int v3_28), (4, .int v4_28), (5, .int v5_28)] [] (some (.int r)) ([(3457, m_fences), (3462, m_horses), (3472, w_m_rowMany), (3473, w_m_thrown)], [(59, m_stride)], [(65, w_m_row)])) (fun rc28 hrc28 v2_28 v3_28 v4_28 v5_28 h => ?_) zN _ _ _ _ h
    unfold s_X12_fair_28 at h
    refine zJ_iload dX12_fair_28 rfl rfl ?_
    refine zJ_bipush dX12_fair_30 zb_99 rfl ?_
    refine zJ_icmp_gt (tgt := 112) dX12_fair_32 (by decide) rfl (fun hc => ?_) (fun hc => ?_)
    · replace h := it_t hc h
      refine zJ_loc (ls' := [(0, .ref 54), (2, .int v2_28), (3, .int v3_28), (4, .int v4_28)]) (zll_c rfl (zll_c rfl (zll_c rfl (zll_c rfl zll_n)))) ?_
      exact hk28 _ _ _ h
    · replace h := it_f hc h
      refine zJ_iconst dX12_fair_35 zc_0 rfl ?_
      refine zJ_istore (ls' := [(6, .int (0 : Int32)), (0, .ref 54), (2, .int v2_28), (3, .int v3_28), (4, .int v4_28), (5, .int v5_28)]) dX12_fair_36 rfl rfl rfl ?_
      refine zJ_iconst dX12_fair_38 zc_0 rfl ?_
      refine zJ_istore (ls' := [(7, .int (0 : Int32)), (6, .int (0 : Int32)), (0, .ref 54), (2, .int v2_28), (3, .int v3_28), (4, .int v4_28), (5, .int v5_28)]) dX12_fair_39 rfl rfl rfl ?_
      refine zJ_iconst dX12_fair_41 zc_0 rfl ?_
      refine zJ_istore (ls' := [(8, .int (0 : Int32)), (7, .int (0 : Int32)), (6, .int (0 : Int32)), (0, .ref 54), (2, .int v2_28), (3, .int v3_28), (4, .int v4_28), (5, .int v5_28)]) dX12_fair_42 rfl rfl rfl ?_
      have hk44 : ∀ (v6_44x : Int32) (v7_44x : Int32), k_X12_fair_44 rc28 v2_28 v3_28 v4_28 v5_28 v6_44x v7_44x = some (r, w_m_rowMany, w_m_thrown, w_m_row) → zJ l zW 2 mX12_fair σ ([(3457, m_fences), (3462, m_horses), (3472, m_rowMany), (3473, (0 : Int32))], [(59, m_stride)], [(65, m_row)]) 87 [(0, .ref 54), (2, .int v2_28), (3, .int v3_28), (4, .int v4_28), (5, .int v5_28), (6, .int v6_44x), (7, .int v7_44x)] [] (some (.int r)) ([(3457, m_fences), (3462, m_horses), (3472, w_m_rowMany), (3473, w_m_thrown)], [(59, m_stride)], [(65, w_m_row)]) := by
        intro v6_44x v7_44x h
        unfold k_X12_fair_44 at h
        refine zJ_iload dX12_fair_87 rfl rfl ?_
        refine zJ_iload_n dX12_fair_89 rfl rfl ?_
        refine zJ_icmp_lt (tgt := 96) dX12_fair_90 (by decide) rfl (fun hc => ?_) (fun hc => ?_)
        · replace h := it_t hc h
          refine zJ_iload dX12_fair_96 rfl rfl ?_
          refine zJ_istore_n (ls' := [(2, .int v5_28), (0, .ref 54), (3, .int v3_28), (4, .int v4_28), (5, .int v5_28), (6, .int v6_44x), (7, .int v7_44x)]) dX12_fair_98 rfl rfl rfl ?_
          refine zJ_iload dX12_fair_99 rfl rfl ?_
          refine zJ_istore_n (ls' := [(3, .int v6_44x), (2, .int v5_28), (0, .ref 54), (4, .int v4_28), (5, .int v5_28), (6, .int v6_44x), (7, .int v7_44x)]) dX12_fair_101 rfl rfl rfl ?_
          refine zJ_iload dX12_fair_102 rfl rfl ?_
          refine zJ_istore (ls' := [(4, .int v7_44x), (3, .int v6_44x), (2, .int v5_28), (0, .ref 54), (5, .int v5_28), (6, .int v6_44x), (7, .int v7_44x)]) dX12_fair_104 rfl rfl rfl ?_
          obtain ⟨v5n6, ev5n6, h⟩ := lt1_some h
          refine zJ_iincN (ls' := [(5, .int v5n6), (4, .int v7_44x), (3, .int v6_44x), (2, .int v5_28), (0, .ref 54), (6, .int v6_44x), (7, .int v7_44x)]) dX12_fair_106 rfl rfl zc_1 ev5n6 rfl rfl ?_
          refine zJ_goto (tgt := 28) dX12_fair_109 (by decide) ?_
          refine zJ_loc (ls' := [(0, .ref 54), (2, .int v5_28), (3, .int v6_44x), (4, .int v7_44x), (5, .int v5n6)]) (zll_c rfl (zll_c rfl (zll_c rfl (zll_c rfl (zll_c rfl zll_n))))) ?_
          exact hrc28 _ _ _ _ h
        · replace h := it_f hc h
          refine zJ_goto (tgt := 106) dX12_fair_93 (by decide) ?_
          obtain ⟨v5n7, ev5n7, h⟩ := lt1_some h
          refine zJ_iincN (ls' := [(5, .int v5n7), (0, .ref 54), (2, .int v2_28), (3, .int v3_28), (4, .int v4_28), (6, .int v6_44x), (7, .int v7_44x)]) dX12_fair_106 rfl rfl zc_1 ev5n7 rfl rfl ?_
          refine zJ_goto (tgt := 28) dX12_fair_109 (by decide) ?_
          refine zJ_loc (ls' := [(0, .ref 54), (2, .int v2_28), (3, .int v3_28), (4, .int v4_28), (5, .int v5n7)]) (zll_c rfl (zll_c rfl (zll_c rfl (zll_c rfl (zll_c rfl zll_n))))) ?_
          exact hrc28 _ _ _ _ h
      refine zJ_loc (ls' := [(0, .ref 54), (2, .int v2_28), (3, .int v3_28), (4, .int v4_28), (5, .int v5_28), (6, .int (0 : Int32)), (7, .int (0 : Int32)), (8, .int (0 : Int32))]) (zll_c rfl (zll_c rfl (zll_c rfl (zll_c rfl (zll_c rfl (zll_c rfl (zll_c rfl (zll_c rfl zll_n)))))))) ?_
      refine ml3_J (fun (v6_44 : Int32) (v7_44 : Int32) (v8_44 : Int32) => zJ l zW 2 mX12_fair σ ([(3457, m_fences), (3462, m_horses), (3472, m_rowMany), (3473, (0 : Int32))], [(59, m_stride)], [(65, m_row)]) 44 [(0, .ref 54), (2, .int v2_28), (3, .int v3_28), (4, .int v4_28), (5, .int v5_28), (6, .int v6_44), (7, .int v7_44), (8, .int v8_44)] [] (some (.int r)) ([(3457, m_fences), (3462, m_horses), (3472, w_m_rowMany), (3473, w_m_thrown)], [(59, m_stride)], [(65, w_m_row)])) (fun rc44 hrc44 v6_44 v7_44 v8_44 h => ?_) zN _ _ _ h
      unfold s_X12_fair_44 at h
      refine zJ_iload dX12_fair_44 rfl rfl ?_
      refine zJ_aload_n dX12_fair_46 rfl rfl ?_
      refine zJ_geti (mi := mX12_fair) (x := m_horses) dX12_fair_47 F_X12_126 zW_54 rfl rfl rfl ?_
      refine zJ_icmp_ge (tgt := 87) dX12_fair_50 (by decide) rfl (fun hc => ?_) (fun hc => ?_)
      · replace h := it_t hc h
        refine zJ_loc (ls' := [(0, .ref 54), (2, .int v2_28), (3, .int v3_28), (4, .int v4_28), (5, .int v5_28), (6, .int v6_44), (7, .int v7_44)]) (zll_c rfl (zll_c rfl (zll_c rfl (zll_c rfl (zll_c rfl (zll_c rfl (zll_c rfl zll_n))))))) ?_
        exact hk44 _ _ h
      · replace h := it_f hc h
        refine zJ_iload dX12_fair_53 rfl rfl ?_
        refine zJ_aload_n dX12_fair_55 rfl rfl ?_
        refine zJ_iload dX12_fair_56 rfl rfl ?_
        refine zJ_iload dX12_fair_58 rfl rfl ?_
        obtain ⟨rn8, hcl, h⟩ := bd1_some h
        refine zJ_callV2 (σ := σ) (L := ([(3457, m_fences), (3462, m_horses), (3472, m_rowMany), (3473, (0 : Int32))], [(59, m_stride)], [(65, m_row)])) (mi := mX12_fair) (yi := mX12_leanOf) (as := [.int v8_44, .int v5_28]) (st := [.int v6_44]) (L2 := ([(3457, m_fences), (3462, m_horses), (3472, m_rowMany), (3473, (0 : Int32))], [(59, m_stride)], [(65, m_row)])) dX12_fair_60 ML_X12_232 Yv_X12_leanOf rfl zW_54 rfl rfl (t_X12_leanOf l _ hcl) (zsub_i zle_n (zle_c rfl zle_n) zle_n) (zjok_i rfl rfl (zle_c rfl (zle_c rfl (zle_c rfl (zle_c rfl zle_n)))) rfl rfl (zle_c rfl zle_n) rfl rfl (zle_c rfl zle_n)) (Nat.le_of_ble_eq_true rfl) (Nat.le_of_ble_eq_true rfl) rfl rfl ?_
        refine zJ_iadd dX12_fair_63 rfl ?_
        obtain ⟨v6n9, ev6n9, h⟩ := lt1_some h
        refine zJ_nmi ev6n9 ?_
        refine zJ_istore (ls' := [(6, .int v6n9), (0, .ref 54), (2, .int v2_28), (3, .int v3_28), (4, .int v4_28), (5, .int v5_28), (7, .int v7_44), (8, .int v8_44)]) dX12_fair_64 rfl rfl rfl ?_
        refine zJ_iload dX12_fair_66 rfl rfl ?_
        refine zJ_aload_n dX12_fair_68 rfl rfl ?_
        refine zJ_iload dX12_fair_69 rfl rfl ?_
        refine zJ_iload dX12_fair_71 rfl rfl ?_
        obtain ⟨rn10, hcl, h⟩ := bd1_some h
        refine zJ_callV2 (σ := σ) (L := ([(3457, m_fences), (3462, m_horses), (3472, m_rowMany), (3473, (0 : Int32))], [(59, m_stride)], [(65, m_row)])) (mi := mX12_fair) (yi := mX12_leanOf) (as := [.int v8_44, .int v5_28]) (st := [.int v7_44]) (L2 := ([(3457, m_fences), (3462, m_horses), (3472, m_rowMany), (3473, (0 : Int32))], [(59, m_stride)], [(65, m_row)])) dX12_fair_73 ML_X12_232 Yv_X12_leanOf rfl zW_54 rfl rfl (t_X12_leanOf l _ hcl) (zsub_i zle_n (zle_c rfl zle_n) zle_n) (zjok_i rfl rfl (zle_c rfl (zle_c rfl (zle_c rfl (zle_c rfl zle_n)))) rfl rfl (zle_c rfl zle_n) rfl rfl (zle_c rfl zle_n)) (Nat.le_of_ble_eq_true rfl) (Nat.le_of_ble_eq_true rfl) rfl rfl ?_
        refine zJ_mmax (mi := mX12_fair) dX12_fair_76 L_X12_243 K_max_s K_math K_max_c (Nat.le_of_ble_eq_true rfl) (Nat.le_of_ble_eq_true rfl) rfl ?_
        obtain ⟨v7n11, ev7n11, h⟩ := lt1_some h
        refine zJ_nmi ev7n11 ?_
        refine zJ_istore (ls' := [(7, .int v7n11), (6, .int v6n9), (0, .ref 54), (2, .int v2_28), (3, .int v3_28), (4, .int v4_28), (5, .int v5_28), (8, .int v8_44)]) dX12_fair_79 rfl rfl rfl ?_
        obtain ⟨v8n12, ev8n12, h⟩ := lt1_some h
        refine zJ_iincN (ls' := [(8, .int v8n12), (7, .int v7n11), (6, .int v6n9), (0, .ref 54), (2, .int v2_28), (3, .int v3_28), (4, .int v4_28), (5, .int v5_28)]) dX12_fair_81 rfl rfl zc_1 ev8n12 rfl rfl ?_
        refine zJ_goto (tgt := 44) dX12_fair_84 (by decide) ?_
        refine zJ_loc (ls' := [(0, .ref 54), (2, .int v2_28), (3, .int v3_28), (4, .int v4_28), (5, .int v5_28), (6, .int v6n9), (7, .int v7n11), (8, .int v8n12)]) (zll_c rfl (zll_c rfl (zll_c rfl (zll_c rfl (zll_c rfl (zll_c rfl (zll_c rfl (zll_c rfl zll_n)))))))) ?_
        exact hrc44 _ _ _ h
  · replace h := it_t hc h
    refine zJ_iconst dX12_fair_13 zc_m1 rfl ?_
    obtain ⟨rfl, rfl, rfl, rfl⟩ := so4 h
    exact zJ_iret dX12_fair_14 rfl rfl
