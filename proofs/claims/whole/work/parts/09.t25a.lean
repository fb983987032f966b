set_option maxRecDepth 100000 in
set_option maxHeartbeats 4000000 in
theorem t_X12_sign (l : Launch) (σ : zS) {p1 : Int32} {m_typed : Int32} {m_thrown : Int32} {m_text : (Nat → Int32)} {r : Int32} {w_m_typed : Int32} {w_m_thrown : Int32} {w_m_text : (Nat → Int32)} (h : f_X12_sign p1 m_typed m_thrown m_text = some (r, w_m_typed, w_m_thrown, w_m_text)) : zMt l zW 0 mX12_sign σ ([(3470, m_typed), (3473, m_thrown)], [(64, m_text)], []) [.ref 54, .int p1] (some (.int r)) ([(3470, w_m_typed), (3473, w_m_thrown)], [(64, w_m_text)], []) := by
  refine zMt_of (ls := [(0, .ref 54), (1, .int p1)]) (by decide) rfl (fun _ => Nat.le_of_ble_eq_true rfl) rfl ?_
  unfold f_X12_sign at h
  refine zJ_aload_n dX12_sign_0 rfl rfl ?_
  refine zJ_iconst dX12_sign_1 zc_0 rfl ?_
  refine zK_puti (mi := mX12_sign) (la' := [(3470, m_typed), (3473, (0 : Int32))]) zW_ok dX12_sign_2 F_X12_113 P_12_17 zW_54 rfl rfl rfl ?_
  refine zJ_aload_n dX12_sign_5 rfl rfl ?_
  refine zJ_geti (mi := mX12_sign) (x := m_typed) dX12_sign_6 F_X12_139 zW_54 rfl rfl rfl ?_
  refine zJ_iconst dX12_sign_9 zc_4 rfl ?_
  refine zJ_iadd dX12_sign_10 rfl ?_
  refine zJ_bipush dX12_sign_11 zb_80 rfl ?_
  refine zJ_icmp_le (tgt := 18) dX12_sign_13 (by decide) rfl (fun hc => ?_) (fun hc => ?_)
  · replace h := it_t hc h
    refine zJ_iconst dX12_sign_18 zc_3 rfl ?_
    refine zJ_istore_n (ls' := [(2, .int (3 : Int32)), (0, .ref 54), (1, .int p1)]) dX12_sign_19 rfl rfl rfl ?_
    have hk20 : ∀ (m_typed_20x : Int32) (m_text_20x : (Nat → Int32)), k_X12_sign_20  m_typed_20x m_text_20x = some (r, w_m_typed, w_m_thrown, w_m_text) → zJ l zW 0 mX12_sign σ ([(3470, m_typed_20x), (3473, (0 : Int32))], [(64, m_text_20x)], []) 53 [(0, .ref 54)] [] (some (.int r)) ([(3470, w_m_typed), (3473, w_m_thrown)], [(64, w_m_text)], []) := by
      intro m_typed_20x m_text_20x h
      unfold k_X12_sign_20 at h
      refine zJ_aload_n dX12_sign_53 rfl rfl ?_
      refine zJ_geti (mi := mX12_sign) (x := m_typed_20x) dX12_sign_54 F_X12_139 zW_54 rfl rfl rfl ?_
      obtain ⟨rfl, rfl, rfl, rfl⟩ := so4 h
      exact zJ_iret dX12_sign_57 rfl rfl
    refine zJ_loc (ls' := [(0, .ref 54), (1, .int p1), (2, .int (3 : Int32))]) (zll_c rfl (zll_c rfl (zll_c rfl zll_n))) ?_
    refine ml3_J (fun (v2_20 : Int32) (m_typed_20 : Int32) (m_text_20 : (Nat → Int32)) => zJ l zW 0 mX12_sign σ ([(3470, m_typed_20), (3473, (0 : Int32))], [(64, m_text_20)], []) 20 [(0, .ref 54), (1, .int p1), (2, .int v2_20)] [] (some (.int r)) ([(3470, w_m_typed), (3473, w_m_thrown)], [(64, w_m_text)], [])) (fun rc20 hrc20 v2_20 m_typed_20 m_text_20 h => ?_) zN _ _ _ h
    unfold s_X12_sign_20 at h
    refine zJ_iload_n dX12_sign_20 rfl rfl ?_
    refine zJ_if_lt (tgt := 53) dX12_sign_21 (by decide) rfl (fun hc => ?_) (fun hc => ?_)
    · replace h := it_t hc h
      refine zJ_loc (ls' := [(0, .ref 54)]) (zll_c rfl zll_n) ?_
      exact hk20 _ _ h
    · replace h := it_f hc h
      refine zJ_aload_n dX12_sign_24 rfl rfl ?_
      refine zJ_getr (mi := mX12_sign) dX12_sign_25 F_X12_41 zW_54 rfl rfl ?_
      refine zJ_aload_n dX12_sign_28 rfl rfl ?_
      refine zJ_dup dX12_sign_29 rfl rfl ?_
      refine zJ_geti (mi := mX12_sign) (x := m_typed_20) dX12_sign_30 F_X12_139 zW_54 rfl rfl rfl ?_
      refine zJ_dup_x1 dX12_sign_33 rfl rfl rfl ?_
      refine zJ_iconst dX12_sign_34 zc_1 rfl ?_
      refine zJ_iadd dX12_sign_35 rfl ?_
      refine zK_puti (mi := mX12_sign) (la' := [(3470, (m_typed_20 + (1 : Int32))), (3473, (0 : Int32))]) zW_ok dX12_sign_36 F_X12_139 P_12_14 zW_54 rfl rfl rfl ?_
      refine zJ_iload_n dX12_sign_39 rfl rfl ?_
      refine zJ_bipush dX12_sign_40 zb_8 rfl ?_
      refine zJ_iload_n dX12_sign_42 rfl rfl ?_
      refine zJ_imul dX12_sign_43 rfl ?_
      refine zJ_ishr dX12_sign_44 rfl ?_
      refine zJ_i2b dX12_sign_45 rfl ?_
      obtain ⟨hg, h⟩ := gd_some h
      refine zK_bast (mi := mX12_sign) (f := m_text_20) (lb' := [(64, (upd m_text_20 m_typed_20.toNatClampNeg (vp_nar .byte ((p1 >>> (((8 : Int32) * v2_20) &&& 31))).toInt8.toInt32)))]) dX12_sign_46 zW_64 (ix_in hg) rfl rfl rfl ?_
      obtain ⟨v2n1, ev2n1, h⟩ := lt1_some h
      refine zJ_iincN (ls' := [(2, .int v2n1), (0, .ref 54), (1, .int p1)]) dX12_sign_47 rfl rfl zc_m1 ev2n1 rfl rfl ?_
      refine zJ_goto (tgt := 20) dX12_sign_50 (by decide) ?_
      refine zJ_loc (ls' := [(0, .ref 54), (1, .int p1), (2, .int v2n1)]) (zll_c rfl (zll_c rfl (zll_c rfl zll_n))) ?_
      exact hrc20 _ _ _ h
  · replace h := it_f hc h
    refine zJ_iconst dX12_sign_16 zc_m1 rfl ?_
    obtain ⟨rfl, rfl, rfl, rfl⟩ := so4 h
    exact zJ_iret dX12_sign_17 rfl rfl
