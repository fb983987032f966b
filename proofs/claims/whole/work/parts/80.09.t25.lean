set_option maxRecDepth 100000 in
set_option maxHeartbeats 4000000 in
theorem t_X12_lay_m_now_m_then (l : Launch) (σ : zS) {p2 : Int32} {m_now : (Nat → Int32)} {m_then : (Nat → Int32)} {w_m_then : (Nat → Int32)} (h : f_X12_lay_m_now_m_then p2 m_now m_then = some w_m_then) : zMt l zW 0 mX12_lay σ ([], [(55, m_now), (77, m_then)], []) [.ref 55, .ref 77, .int p2] none ([], [(55, m_now), (77, w_m_then)], []) := by
  refine zMt_of (ls := [(0, .ref 55), (1, .ref 77), (2, .int p2)]) (by decide) rfl (fun _ => Nat.le_of_ble_eq_true rfl) rfl ?_
  unfold f_X12_lay_m_now_m_then at h
  refine zJ_iconst dX12_lay_0 zc_0 rfl ?_
  refine zJ_istore_n (ls' := [(3, .int (0 : Int32)), (0, .ref 55), (1, .ref 77), (2, .int p2)]) dX12_lay_1 rfl rfl rfl ?_
  have hk2 : ∀ (m_then_2x : (Nat → Int32)), k_X12_lay_m_now_m_then_2  m_then_2x = some w_m_then → zJ l zW 0 mX12_lay σ ([], [(55, m_now), (77, m_then_2x)], []) 22 [] [] none ([], [(55, m_now), (77, w_m_then)], []) := by
    intro m_then_2x h
    unfold k_X12_lay_m_now_m_then_2 at h
    obtain rfl := so1 h
    exact zJ_vret dX12_lay_22 rfl
  refine zJ_loc (ls' := [(0, .ref 55), (1, .ref 77), (2, .int p2), (3, .int (0 : Int32))]) (zll_c rfl (zll_c rfl (zll_c rfl (zll_c rfl zll_n)))) ?_
  refine ml2_J (fun (v3_2 : Int32) (m_then_2 : (Nat → Int32)) => zJ l zW 0 mX12_lay σ ([], [(55, m_now), (77, m_then_2)], []) 2 [(0, .ref 55), (1, .ref 77), (2, .int p2), (3, .int v3_2)] [] none ([], [(55, m_now), (77, w_m_then)], [])) (fun rc2 hrc2 v3_2 m_then_2 h => ?_) zN _ _ h
  unfold s_X12_lay_m_now_m_then_2 at h
  refine zJ_iload_n dX12_lay_2 rfl rfl ?_
  refine zJ_bipush dX12_lay_3 zb_49 rfl ?_
  refine zJ_icmp_ge (tgt := 22) dX12_lay_5 (by decide) rfl (fun hc => ?_) (fun hc => ?_)
  · replace h := it_t hc h
    refine zJ_loc (ls' := []) zll_n ?_
    exact hk2 _ h
  · replace h := it_f hc h
    refine zJ_aload_n dX12_lay_8 rfl rfl ?_
    refine zJ_iload_n dX12_lay_9 rfl rfl ?_
    refine zJ_iload_n dX12_lay_10 rfl rfl ?_
    refine zJ_iadd dX12_lay_11 rfl ?_
    refine zJ_aload_n dX12_lay_12 rfl rfl ?_
    refine zJ_iload_n dX12_lay_13 rfl rfl ?_
    obtain ⟨hg, h⟩ := gd_some h
    refine zJ_iald (mi := mX12_lay) (f := m_now) dX12_lay_14 zW_55 (ix_in hg) rfl rfl ?_
    obtain ⟨hg, h⟩ := gd_some h
    refine zK_iast (mi := mX12_lay) (f := m_then_2) (lb' := [(55, m_now), (77, (upd m_then_2 (p2 + v3_2).toNatClampNeg (m_now v3_2.toNatClampNeg)))]) dX12_lay_15 zW_77 (ix_in hg) rfl rfl rfl ?_
    obtain ⟨v3n1, ev3n1, h⟩ := lt1_some h
    refine zJ_iincN (ls' := [(3, .int v3n1), (0, .ref 55), (1, .ref 77), (2, .int p2)]) dX12_lay_16 rfl rfl zc_1 ev3n1 rfl rfl ?_
    refine zJ_goto (tgt := 2) dX12_lay_19 (by decide) ?_
    refine zJ_loc (ls' := [(0, .ref 55), (1, .ref 77), (2, .int p2), (3, .int v3n1)]) (zll_c rfl (zll_c rfl (zll_c rfl (zll_c rfl zll_n)))) ?_
    exact hrc2 _ _ h
set_option maxRecDepth 100000 in
set_option maxHeartbeats 4000000 in
theorem t_X12_placeOf_m_now (l : Launch) (σ : zS) {p1 : Int32} {m_now : (Nat → Int32)} {r : Int32} (h : f_X12_placeOf_m_now p1 m_now = some r) : zMt l zW 1 mX12_placeOf σ ([], [(55, m_now)], []) [.ref 55, .int p1] (some (.int r)) ([], [(55, m_now)], []) := by
  refine zMt_of (ls := [(0, .ref 55), (1, .int p1)]) (by decide) rfl (fun _ => Nat.le_of_ble_eq_true rfl) rfl ?_
  unfold f_X12_placeOf_m_now at h
  refine zJ_iconst dX12_placeOf_0 zc_1 rfl ?_
  refine zJ_istore_n (ls' := [(2, .int (1 : Int32)), (0, .ref 55), (1, .int p1)]) dX12_placeOf_1 rfl rfl rfl ?_
  refine zJ_iconst dX12_placeOf_2 zc_0 rfl ?_
  refine zJ_istore_n (ls' := [(3, .int (0 : Int32)), (2, .int (1 : Int32)), (0, .ref 55), (1, .int p1)]) dX12_placeOf_3 rfl rfl rfl ?_
  have hk4 : ∀ (v2_4x : Int32), k_X12_placeOf_m_now_4  v2_4x = some r → zJ l zW 1 mX12_placeOf σ ([], [(55, m_now)], []) 35 [(2, .int v2_4x)] [] (some (.int r)) ([], [(55, m_now)], []) := by
    intro v2_4x h
    unfold k_X12_placeOf_m_now_4 at h
    refine zJ_iload_n dX12_placeOf_35 rfl rfl ?_
    obtain rfl := so1 h
    exact zJ_iret dX12_placeOf_36 rfl rfl
  refine zJ_loc (ls' := [(0, .ref 55), (1, .int p1), (2, .int (1 : Int32)), (3, .int (0 : Int32))]) (zll_c rfl (zll_c rfl (zll_c rfl (zll_c rfl zll_n)))) ?_
  refine ml2_J (fun (v2_4 : Int32) (v3_4 : Int32) => zJ l zW 1 mX12_placeOf σ ([], [(55, m_now)], []) 4 [(0, .ref 55), (1, .int p1), (2, .int v2_4), (3, .int v3_4)] [] (some (.int r)) ([], [(55, m_now)], [])) (fun rc4 hrc4 v2_4 v3_4 h => ?_) zN _ _ h
  unfold s_X12_placeOf_m_now_4 at h
  refine zJ_iload_n dX12_placeOf_4 rfl rfl ?_
  refine zJ_aload_n dX12_placeOf_5 rfl rfl ?_
  refine zJ_bipush dX12_placeOf_6 zb_48 rfl ?_
  obtain ⟨hg, h⟩ := gd_some h
  refine zJ_iald (mi := mX12_placeOf) (f := m_now) dX12_placeOf_8 zW_55 (ix_in hg) rfl rfl ?_
  refine zJ_icmp_ge (tgt := 35) dX12_placeOf_9 (by decide) rfl (fun hc => ?_) (fun hc => ?_)
  · replace h := it_t hc h
    refine zJ_loc (ls' := [(2, .int v2_4)]) (zll_c rfl zll_n) ?_
    exact hk4 _ h
  · replace h := it_f hc h
    refine zJ_iload_n dX12_placeOf_12 rfl rfl ?_
    refine zJ_iload_n dX12_placeOf_13 rfl rfl ?_
    refine zJ_icmp_eq (tgt := 29) dX12_placeOf_14 (by decide) rfl (fun hc => ?_) (fun hc => ?_)
    · replace h := it_t hc h
      obtain ⟨v3n1, ev3n1, h⟩ := lt1_some h
      refine zJ_iincN (ls' := [(3, .int v3n1), (0, .ref 55), (1, .int p1), (2, .int v2_4)]) dX12_placeOf_29 rfl rfl zc_1 ev3n1 rfl rfl ?_
      refine zJ_goto (tgt := 4) dX12_placeOf_32 (by decide) ?_
      refine zJ_loc (ls' := [(0, .ref 55), (1, .int p1), (2, .int v2_4), (3, .int v3n1)]) (zll_c rfl (zll_c rfl (zll_c rfl (zll_c rfl zll_n)))) ?_
      exact hrc4 _ _ h
    · replace h := it_f hc h
      refine zJ_aload_n dX12_placeOf_17 rfl rfl ?_
      refine zJ_iload_n dX12_placeOf_18 rfl rfl ?_
      refine zJ_iload_n dX12_placeOf_19 rfl rfl ?_
      obtain ⟨rn2, hcl, h⟩ := bd1_some h
      refine zJ_callS2 (σ := σ) (L := ([], [(55, m_now)], [])) (mi := mX12_placeOf) (yi := mX12_isAhead) (as := [.ref 55, .int v3_4, .int p1]) (st := []) (L2 := ([], [(55, m_now)], [])) dX12_placeOf_20 ML_X12_354 Ys_X12_isAhead rfl (t_X12_isAhead_m_now l _ hcl) (zsub_i zle_n (zle_c rfl zle_n) zle_n) (zjok_i rfl rfl zle_n rfl rfl (zle_c rfl zle_n) rfl rfl zle_n) (Nat.le_of_ble_eq_true rfl) (Nat.le_of_ble_eq_true rfl) rfl rfl ?_
      refine zJ_if_eq (tgt := 29) dX12_placeOf_23 (by decide) rfl (fun hc => ?_) (fun hc => ?_)
      · replace h := it_t hc h
        obtain ⟨v3n3, ev3n3, h⟩ := lt1_some h
        refine zJ_iincN (ls' := [(3, .int v3n3), (0, .ref 55), (1, .int p1), (2, .int v2_4)]) dX12_placeOf_29 rfl rfl zc_1 ev3n3 rfl rfl ?_
        refine zJ_goto (tgt := 4) dX12_placeOf_32 (by decide) ?_
        refine zJ_loc (ls' := [(0, .ref 55), (1, .int p1), (2, .int v2_4), (3, .int v3n3)]) (zll_c rfl (zll_c rfl (zll_c rfl (zll_c rfl zll_n)))) ?_
        exact hrc4 _ _ h
      · replace h := it_f hc h
        obtain ⟨v2n4, ev2n4, h⟩ := lt1_some h
        refine zJ_iincN (ls' := [(2, .int v2n4), (0, .ref 55), (1, .int p1), (3, .int v3_4)]) dX12_placeOf_26 rfl rfl zc_1 ev2n4 rfl rfl ?_
        obtain ⟨v3n5, ev3n5, h⟩ := lt1_some h
        refine zJ_iincN (ls' := [(3, .int v3n5), (2, .int v2n4), (0, .ref 55), (1, .int p1)]) dX12_placeOf_29 rfl rfl zc_1 ev3n5 rfl rfl ?_
        refine zJ_goto (tgt := 4) dX12_placeOf_32 (by decide) ?_
        refine zJ_loc (ls' := [(0, .ref 55), (1, .int p1), (2, .int v2n4), (3, .int v3n5)]) (zll_c rfl (zll_c rfl (zll_c rfl (zll_c rfl zll_n)))) ?_
        exact hrc4 _ _ h
set_option maxRecDepth 100000 in
set_option maxHeartbeats 4000000 in
theorem t_X12_placeOf_m_then (l : Launch) (σ : zS) {p1 : Int32} {m_then : (Nat → Int32)} {r : Int32} (h : f_X12_placeOf_m_then p1 m_then = some r) : zMt l zW 1 mX12_placeOf σ ([], [(77, m_then)], []) [.ref 77, .int p1] (some (.int r)) ([], [(77, m_then)], []) := by
  refine zMt_of (ls := [(0, .ref 77), (1, .int p1)]) (by decide) rfl (fun _ => Nat.le_of_ble_eq_true rfl) rfl ?_
  unfold f_X12_placeOf_m_then at h
  refine zJ_iconst dX12_placeOf_0 zc_1 rfl ?_
  refine zJ_istore_n (ls' := [(2, .int (1 : Int32)), (0, .ref 77), (1, .int p1)]) dX12_placeOf_1 rfl rfl rfl ?_
  refine zJ_iconst dX12_placeOf_2 zc_0 rfl ?_
  refine zJ_istore_n (ls' := [(3, .int (0 : Int32)), (2, .int (1 : Int32)), (0, .ref 77), (1, .int p1)]) dX12_placeOf_3 rfl rfl rfl ?_
  have hk4 : ∀ (v2_4x : Int32), k_X12_placeOf_m_then_4  v2_4x = some r → zJ l zW 1 mX12_placeOf σ ([], [(77, m_then)], []) 35 [(2, .int v2_4x)] [] (some (.int r)) ([], [(77, m_then)], []) := by
    intro v2_4x h
    unfold k_X12_placeOf_m_then_4 at h
    refine zJ_iload_n dX12_placeOf_35 rfl rfl ?_
    obtain rfl := so1 h
    exact zJ_iret dX12_placeOf_36 rfl rfl
  refine zJ_loc (ls' := [(0, .ref 77), (1, .int p1), (2, .int (1 : Int32)), (3, .int (0 : Int32))]) (zll_c rfl (zll_c rfl (zll_c rfl (zll_c rfl zll_n)))) ?_
  refine ml2_J (fun (v2_4 : Int32) (v3_4 : Int32) => zJ l zW 1 mX12_placeOf σ ([], [(77, m_then)], []) 4 [(0, .ref 77), (1, .int p1), (2, .int v2_4), (3, .int v3_4)] [] (some (.int r)) ([], [(77, m_then)], [])) (fun rc4 hrc4 v2_4 v3_4 h => ?_) zN _ _ h
  unfold s_X12_placeOf_m_then_4 at h
  refine zJ_iload_n dX12_placeOf_4 rfl rfl ?_
  refine zJ_aload_n dX12_placeOf_5 rfl rfl ?_
  refine zJ_bipush dX12_placeOf_6 zb_48 rfl ?_
  obtain ⟨hg, h⟩ := gd_some h
  refine zJ_iald (mi := mX12_placeOf) (f := m_then) dX12_placeOf_8 zW_77 (ix_in hg) rfl rfl ?_
  refine zJ_icmp_ge (tgt := 35) dX12_placeOf_9 (by decide) rfl (fun hc => ?_) (fun hc => ?_)
  · replace h := it_t hc h
    refine zJ_loc (ls' := [(2, .int v2_4)]) (zll_c rfl zll_n) ?_
    exact hk4 _ h
  · replace h := it_f hc h
    refine zJ_iload_n dX12_placeOf_12 rfl rfl ?_
    refine zJ_iload_n dX12_placeOf_13 rfl rfl ?_
    refine zJ_icmp_eq (tgt := 29) dX12_placeOf_14 (by decide) rfl (fun hc => ?_) (fun hc => ?_)
    · replace h := it_t hc h
      obtain ⟨v3n1, ev3n1, h⟩ := lt1_some h
      refine zJ_iincN (ls' := [(3, .int v3n1), (0, .ref 77), (1, .int p1), (2, .int v2_4)]) dX12_placeOf_29 rfl rfl zc_1 ev3n1 rfl rfl ?_
      refine zJ_goto (tgt := 4) dX12_placeOf_32 (by decide) ?_
      refine zJ_loc (ls' := [(0, .ref 77), (1, .int p1), (2, .int v2_4), (3, .int v3n1)]) (zll_c rfl (zll_c rfl (zll_c rfl (zll_c rfl zll_n)))) ?_
      exact hrc4 _ _ h
    · replace h := it_f hc h
      refine zJ_aload_n dX12_placeOf_17 rfl rfl ?_
      refine zJ_iload_n dX12_placeOf_18 rfl rfl ?_
      refine zJ_iload_n dX12_placeOf_19 rfl rfl ?_
      obtain ⟨rn2, hcl, h⟩ := bd1_some h
      refine zJ_callS2 (σ := σ) (L := ([], [(77, m_then)], [])) (mi := mX12_placeOf) (yi := mX12_isAhead) (as := [.ref 77, .int v3_4, .int p1]) (st := []) (L2 := ([], [(77, m_then)], [])) dX12_placeOf_20 ML_X12_354 Ys_X12_isAhead rfl (t_X12_isAhead_m_then l _ hcl) (zsub_i zle_n (zle_c rfl zle_n) zle_n) (zjok_i rfl rfl zle_n rfl rfl (zle_c rfl zle_n) rfl rfl zle_n) (Nat.le_of_ble_eq_true rfl) (Nat.le_of_ble_eq_true rfl) rfl rfl ?_
      refine zJ_if_eq (tgt := 29) dX12_placeOf_23 (by decide) rfl (fun hc => ?_) (fun hc => ?_)
      · replace h := it_t hc h
        obtain ⟨v3n3, ev3n3, h⟩ := lt1_some h
        refine zJ_iincN (ls' := [(3, .int v3n3), (0, .ref 77), (1, .int p1), (2, .int v2_4)]) dX12_placeOf_29 rfl rfl zc_1 ev3n3 rfl rfl ?_
        refine zJ_goto (tgt := 4) dX12_placeOf_32 (by decide) ?_
        refine zJ_loc (ls' := [(0, .ref 77), (1, .int p1), (2, .int v2_4), (3, .int v3n3)]) (zll_c rfl (zll_c rfl (zll_c rfl (zll_c rfl zll_n)))) ?_
        exact hrc4 _ _ h
      · replace h := it_f hc h
        obtain ⟨v2n4, ev2n4, h⟩ := lt1_some h
        refine zJ_iincN (ls' := [(2, .int v2n4), (0, .ref 77), (1, .int p1), (3, .int v3_4)]) dX12_placeOf_26 rfl rfl zc_1 ev2n4 rfl rfl ?_
        obtain ⟨v3n5, ev3n5, h⟩ := lt1_some h
        refine zJ_iincN (ls' := [(3, .int v3n5), (2, .int v2n4), (0, .ref 77), (1, .int p1)]) dX12_placeOf_29 rfl rfl zc_1 ev3n5 rfl rfl ?_
        refine zJ_goto (tgt := 4) dX12_placeOf_32 (by decide) ?_
        refine zJ_loc (ls' := [(0, .ref 77), (1, .int p1), (2, .int v2n4), (3, .int v3n5)]) (zll_c rfl (zll_c rfl (zll_c rfl (zll_c rfl zll_n)))) ?_
        exact hrc4 _ _ h
set_option maxRecDepth 100000 in
set_option maxHeartbeats 4000000 in
theorem t_X12_tellPlaces_m_then (l : Launch) (σ : zS) {m_rowMany : Int32} {m_then : (Nat → Int32)} {m_row : (Nat → Int64)} {w_m_rowMany : Int32} {w_m_row : (Nat → Int64)} (h : f_X12_tellPlaces_m_then m_rowMany m_then m_row = some (w_m_rowMany, w_m_row)) : zMt l zW 2 mX12_tellPlaces σ ([(3472, m_rowMany)], [(77, m_then)], [(65, m_row)]) [.ref 54, .ref 77] none ([(3472, w_m_rowMany)], [(77, m_then)], [(65, w_m_row)]) := by
  refine zMt_of (ls := [(0, .ref 54), (1, .ref 77)]) (by decide) rfl (fun _ => Nat.le_of_ble_eq_true rfl) rfl ?_
  unfold f_X12_tellPlaces_m_then at h
  refine zJ_iconst dX12_tellPlaces_0 zc_1 rfl ?_
  refine zJ_istore_n (ls' := [(2, .int (1 : Int32)), (0, .ref 54), (1, .ref 77)]) dX12_tellPlaces_1 rfl rfl rfl ?_
  have hk2 : ∀ (m_rowMany_2x : Int32) (m_row_2x : (Nat → Int64)), k_X12_tellPlaces_m_then_2  m_rowMany_2x m_row_2x = some (w_m_rowMany, w_m_row) → zJ l zW 2 mX12_tellPlaces σ ([(3472, m_rowMany_2x)], [(77, m_then)], [(65, m_row_2x)]) 47 [] [] none ([(3472, w_m_rowMany)], [(77, m_then)], [(65, w_m_row)]) := by
    intro m_rowMany_2x m_row_2x h
    unfold k_X12_tellPlaces_m_then_2 at h
    obtain ⟨rfl, rfl⟩ := so2 h
    exact zJ_vret dX12_tellPlaces_47 rfl
  refine zJ_loc (ls' := [(0, .ref 54), (1, .ref 77), (2, .int (1 : Int32))]) (zll_c rfl (zll_c rfl (zll_c rfl zll_n))) ?_
  refine ml3_J (fun (v2_2 : Int32) (m_rowMany_2 : Int32) (m_row_2 : (Nat → Int64)) => zJ l zW 2 mX12_tellPlaces σ ([(3472, m_rowMany_2)], [(77, m_then)], [(65, m_row_2)]) 2 [(0, .ref 54), (1, .ref 77), (2, .int v2_2)] [] none ([(3472, w_m_rowMany)], [(77, m_then)], [(65, w_m_row)])) (fun rc2 hrc2 v2_2 m_rowMany_2 m_row_2 h => ?_) zN _ _ _ h
  unfold s_X12_tellPlaces_m_then_2 at h
  refine zJ_iload_n dX12_tellPlaces_2 rfl rfl ?_
  refine zJ_aload_n dX12_tellPlaces_3 rfl rfl ?_
  refine zJ_bipush dX12_tellPlaces_4 zb_48 rfl ?_
  obtain ⟨hg, h⟩ := gd_some h
  refine zJ_iald (mi := mX12_tellPlaces) (f := m_then) dX12_tellPlaces_6 zW_77 (ix_in hg) rfl rfl ?_
  refine zJ_icmp_gt (tgt := 47) dX12_tellPlaces_7 (by decide) rfl (fun hc => ?_) (fun hc => ?_)
  · replace h := it_t hc h
    refine zJ_loc (ls' := []) zll_n ?_
    exact hk2 _ _ h
  · replace h := it_f hc h
    refine zJ_iconst dX12_tellPlaces_10 zc_0 rfl ?_
    refine zJ_istore_n (ls' := [(3, .int (0 : Int32)), (0, .ref 54), (1, .ref 77), (2, .int v2_2)]) dX12_tellPlaces_11 rfl rfl rfl ?_
    have hk12 : ∀ (m_rowMany_12x : Int32) (m_row_12x : (Nat → Int64)), k_X12_tellPlaces_m_then_12 rc2 v2_2 m_rowMany_12x m_row_12x = some (w_m_rowMany, w_m_row) → zJ l zW 2 mX12_tellPlaces σ ([(3472, m_rowMany_12x)], [(77, m_then)], [(65, m_row_12x)]) 41 [(0, .ref 54), (1, .ref 77), (2, .int v2_2)] [] none ([(3472, w_m_rowMany)], [(77, m_then)], [(65, w_m_row)]) := by
      intro m_rowMany_12x m_row_12x h
      unfold k_X12_tellPlaces_m_then_12 at h
      obtain ⟨v2n1, ev2n1, h⟩ := lt1_some h
      refine zJ_iincN (ls' := [(2, .int v2n1), (0, .ref 54), (1, .ref 77)]) dX12_tellPlaces_41 rfl rfl zc_1 ev2n1 rfl rfl ?_
      refine zJ_goto (tgt := 2) dX12_tellPlaces_44 (by decide) ?_
      refine zJ_loc (ls' := [(0, .ref 54), (1, .ref 77), (2, .int v2n1)]) (zll_c rfl (zll_c rfl (zll_c rfl zll_n))) ?_
      exact hrc2 _ _ _ h
    refine zJ_loc (ls' := [(0, .ref 54), (1, .ref 77), (2, .int v2_2), (3, .int (0 : Int32))]) (zll_c rfl (zll_c rfl (zll_c rfl (zll_c rfl zll_n)))) ?_
    refine ml3_J (fun (v3_12 : Int32) (m_rowMany_12 : Int32) (m_row_12 : (Nat → Int64)) => zJ l zW 2 mX12_tellPlaces σ ([(3472, m_rowMany_12)], [(77, m_then)], [(65, m_row_12)]) 12 [(0, .ref 54), (1, .ref 77), (2, .int v2_2), (3, .int v3_12)] [] none ([(3472, w_m_rowMany)], [(77, m_then)], [(65, w_m_row)])) (fun rc12 hrc12 v3_12 m_rowMany_12 m_row_12 h => ?_) zN _ _ _ h
    unfold s_X12_tellPlaces_m_then_12 at h
    refine zJ_iload_n dX12_tellPlaces_12 rfl rfl ?_
    refine zJ_aload_n dX12_tellPlaces_13 rfl rfl ?_
    refine zJ_bipush dX12_tellPlaces_14 zb_48 rfl ?_
    obtain ⟨hg, h⟩ := gd_some h
    refine zJ_iald (mi := mX12_tellPlaces) (f := m_then) dX12_tellPlaces_16 zW_77 (ix_in hg) rfl rfl ?_
    refine zJ_icmp_ge (tgt := 41) dX12_tellPlaces_17 (by decide) rfl (fun hc => ?_) (fun hc => ?_)
    · replace h := it_t hc h
      refine zJ_loc (ls' := [(0, .ref 54), (1, .ref 77), (2, .int v2_2)]) (zll_c rfl (zll_c rfl (zll_c rfl zll_n))) ?_
      exact hk12 _ _ h
    · replace h := it_f hc h
      refine zJ_aload_n dX12_tellPlaces_20 rfl rfl ?_
      refine zJ_iload_n dX12_tellPlaces_21 rfl rfl ?_
      obtain ⟨rn2, hcl, h⟩ := bd1_some h
      refine zJ_callS2 (σ := σ) (L := ([(3472, m_rowMany_12)], [(77, m_then)], [(65, m_row_12)])) (mi := mX12_tellPlaces) (yi := mX12_placeOf) (as := [.ref 77, .int v3_12]) (st := []) (L2 := ([(3472, m_rowMany_12)], [(77, m_then)], [(65, m_row_12)])) dX12_tellPlaces_22 ML_X12_358 Ys_X12_placeOf rfl (t_X12_placeOf_m_then l _ hcl) (zsub_i zle_n (zle_c rfl zle_n) zle_n) (zjok_i rfl rfl (zle_c rfl zle_n) rfl rfl (zle_c rfl zle_n) rfl rfl (zle_c rfl zle_n)) (Nat.le_of_ble_eq_true rfl) (Nat.le_of_ble_eq_true rfl) rfl rfl ?_
      refine zJ_iload_n dX12_tellPlaces_25 rfl rfl ?_
      refine zJ_icmp_ne (tgt := 35) dX12_tellPlaces_26 (by decide) rfl (fun hc => ?_) (fun hc => ?_)
      · replace h := it_f hc h
        obtain ⟨v3n3, ev3n3, h⟩ := lt1_some h
        refine zJ_iincN (ls' := [(3, .int v3n3), (0, .ref 54), (1, .ref 77), (2, .int v2_2)]) dX12_tellPlaces_35 rfl rfl zc_1 ev3n3 rfl rfl ?_
        refine zJ_goto (tgt := 12) dX12_tellPlaces_38 (by decide) ?_
        refine zJ_loc (ls' := [(0, .ref 54), (1, .ref 77), (2, .int v2_2), (3, .int v3n3)]) (zll_c rfl (zll_c rfl (zll_c rfl (zll_c rfl zll_n)))) ?_
        exact hrc12 _ _ _ h
      · replace h := it_t hc h
        refine zJ_aload_n dX12_tellPlaces_29 rfl rfl ?_
        refine zJ_iload_n dX12_tellPlaces_30 rfl rfl ?_
        refine zJ_i2l dX12_tellPlaces_31 rfl ?_
        obtain ⟨m_rowManyn4, m_rown5, hcl, h⟩ := bd2_some h
        refine zJ_callV2 (σ := σ) (L := ([(3472, m_rowMany_12)], [(77, m_then)], [(65, m_row_12)])) (mi := mX12_tellPlaces) (yi := mX12_tell) (as := [.long v3_12.toInt64]) (st := []) (L2 := ([(3472, m_rowManyn4)], [(77, m_then)], [(65, m_rown5)])) dX12_tellPlaces_32 ML_X12_265 Yv_X12_tell rfl zW_54 rfl rfl (t_X12_tell l _ hcl) (zsub_i (zle_c rfl zle_n) zle_n (zle_c rfl zle_n)) (zjok_i rfl rfl (zle_c rfl zle_n) rfl rfl (zle_c rfl zle_n) rfl rfl (zle_c rfl zle_n)) (Nat.le_of_ble_eq_true rfl) (Nat.le_of_ble_eq_true rfl) rfl rfl ?_
        obtain ⟨v3n6, ev3n6, h⟩ := lt1_some h
        refine zJ_iincN (ls' := [(3, .int v3n6), (0, .ref 54), (1, .ref 77), (2, .int v2_2)]) dX12_tellPlaces_35 rfl rfl zc_1 ev3n6 rfl rfl ?_
        refine zJ_goto (tgt := 12) dX12_tellPlaces_38 (by decide) ?_
        refine zJ_loc (ls' := [(0, .ref 54), (1, .ref 77), (2, .int v2_2), (3, .int v3n6)]) (zll_c rfl (zll_c rfl (zll_c rfl (zll_c rfl zll_n)))) ?_
        exact hrc12 _ _ _ h
set_option maxRecDepth 100000 in
set_option maxHeartbeats 4000000 in
theorem t_X12_law (l : Launch) (σ : zS) {p1 : Int32} {p2 : Int32} {m_allowed : Int32} {m_rowMany : Int32} {m_thrown : Int32} {m_now : (Nat → Int32)} {m_then : (Nat → Int32)} {m_row : (Nat → Int64)} {r : Int32} {w_m_rowMany : Int32} {w_m_thrown : Int32} {w_m_then : (Nat → Int32)} {w_m_row : (Nat → Int64)} (h : f_X12_law p1 p2 m_allowed m_rowMany m_thrown m_now m_then m_row = some (r, w_m_rowMany, w_m_thrown, w_m_then, w_m_row)) : zMt l zW 3 mX12_law σ ([(3461, m_allowed), (3472, m_rowMany), (3473, m_thrown)], [(55, m_now), (77, m_then)], [(65, m_row)]) [.ref 54, .int p1, .int p2] (some (.int r)) ([(3461, m_allowed), (3472, w_m_rowMany), (3473, w_m_thrown)], [(55, m_now), (77, w_m_then)], [(65, w_m_row)]) := by
  refine zMt_of (ls := [(0, .ref 54), (1, .int p1), (2, .int p2)]) (by decide) rfl (fun _ => Nat.le_of_ble_eq_true rfl) rfl ?_
  unfold f_X12_law at h
  refine zJ_aload_n dX12_law_0 rfl rfl ?_
  refine zJ_iconst dX12_law_1 zc_0 rfl ?_
  refine zK_puti (mi := mX12_law) (la' := [(3461, m_allowed), (3472, m_rowMany), (3473, (0 : Int32))]) zW_ok dX12_law_2 F_X12_113 P_12_17 zW_54 rfl rfl rfl ?_
  refine zJ_iload_n dX12_law_5 rfl rfl ?_
  refine zJ_iconst dX12_law_6 zc_1 rfl ?_
  refine zJ_sipush dX12_law_7 zs_999 rfl ?_
  obtain ⟨rn1, hcl, h⟩ := bd1_some h
  refine zJ_callS2 (σ := σ) (L := ([(3461, m_allowed), (3472, m_rowMany), (3473, (0 : Int32))], [(55, m_now), (77, m_then)], [(65, m_row)])) (mi := mX12_law) (yi := mX12_in) (as := [.int p1, .int (1 : Int32), .int (999 : Int32)]) (st := []) (L2 := ([(3461, m_allowed), (3472, m_rowMany), (3473, (0 : Int32))], [(55, m_now), (77, m_then)], [(65, m_row)])) dX12_law_10 ML_X12_122 Ys_X12_in rfl (t_X12_in l _ hcl) (zsub_i zle_n zle_n zle_n) (zjok_i rfl rfl (zle_c rfl (zle_c rfl (zle_c rfl zle_n))) rfl rfl (zle_c rfl (zle_c rfl zle_n)) rfl rfl (zle_c rfl zle_n)) (Nat.le_of_ble_eq_true rfl) (Nat.le_of_ble_eq_true rfl) rfl rfl ?_
  refine zJ_if_eq (tgt := 26) dX12_law_13 (by decide) rfl (fun hc => ?_) (fun hc => ?_)
  · replace h := it_t hc h
    refine zJ_iconst dX12_law_26 zc_m1 rfl ?_
    obtain ⟨rfl, rfl, rfl, rfl, rfl⟩ := so5 h
    exact zJ_iret dX12_law_27 rfl rfl
  · replace h := it_f hc h
    refine zJ_iload_n dX12_law_16 rfl rfl ?_
    refine zJ_iconst dX12_law_17 zc_0 rfl ?_
    refine zJ_bipush dX12_law_18 zb_9 rfl ?_
    obtain ⟨rn2, hcl, h⟩ := bd1_some h
    refine zJ_callS2 (σ := σ) (L := ([(3461, m_allowed), (3472, m_rowMany), (3473, (0 : Int32))], [(55, m_now), (77, m_then)], [(65, m_row)])) (mi := mX12_law) (yi := mX12_in) (as := [.int p2, .int (0 : Int32), .int (9 : Int32)]) (st := []) (L2 := ([(3461, m_allowed), (3472, m_rowMany), (3473, (0 : Int32))], [(55, m_now), (77, m_then)], [(65, m_row)])) dX12_law_20 ML_X12_122 Ys_X12_in rfl (t_X12_in l _ hcl) (zsub_i zle_n zle_n zle_n) (zjok_i rfl rfl (zle_c rfl (zle_c rfl (zle_c rfl zle_n))) rfl rfl (zle_c rfl (zle_c rfl zle_n)) rfl rfl (zle_c rfl zle_n)) (Nat.le_of_ble_eq_true rfl) (Nat.le_of_ble_eq_true rfl) rfl rfl ?_
    refine zJ_if_ne (tgt := 28) dX12_law_23 (by decide) rfl (fun hc => ?_) (fun hc => ?_)
    · replace h := it_f hc h
      refine zJ_aload_n dX12_law_28 rfl rfl ?_
      refine zJ_getr (mi := mX12_law) dX12_law_29 F_X12_9 zW_54 rfl rfl ?_
      refine zJ_aload_n dX12_law_32 rfl rfl ?_
      refine zJ_getr (mi := mX12_law) dX12_law_33 F_X12_82 zW_54 rfl rfl ?_
      refine zJ_iconst dX12_law_36 zc_0 rfl ?_
      obtain ⟨m_thenn3, hcl, h⟩ := bd1_some h
      refine zJ_callS2 (σ := σ) (L := ([(3461, m_allowed), (3472, m_rowMany), (3473, (0 : Int32))], [(55, m_now), (77, m_then)], [(65, m_row)])) (mi := mX12_law) (yi := mX12_lay) (as := [.ref 55, .ref 77, .int (0 : Int32)]) (st := []) (L2 := ([(3461, m_allowed), (3472, m_rowMany), (3473, (0 : Int32))], [(55, m_now), (77, m_thenn3)], [(65, m_row)])) dX12_law_37 ML_X12_305 Ys_X12_lay rfl (t_X12_lay_m_now_m_then l _ hcl) (zsub_i zle_n (zle_c rfl (zle_c rfl zle_n)) zle_n) (zjok_i rfl rfl (zle_c rfl (zle_c rfl (zle_c rfl zle_n))) rfl rfl (zle_c rfl (zle_c rfl zle_n)) rfl rfl (zle_c rfl zle_n)) (Nat.le_of_ble_eq_true rfl) (Nat.le_of_ble_eq_true rfl) rfl rfl ?_
      refine zJ_iconst dX12_law_40 zc_0 rfl ?_
      refine zJ_istore_n (ls' := [(3, .int (0 : Int32)), (0, .ref 54), (1, .int p1), (2, .int p2)]) dX12_law_41 rfl rfl rfl ?_
      have hk42 : ∀ (m_then_42x : (Nat → Int32)), k_X12_law_42 m_now m_row m_then_42x = some (r, w_m_rowMany, w_m_thrown, w_m_then, w_m_row) → zJ l zW 3 mX12_law σ ([(3461, m_allowed), (3472, m_rowMany), (3473, (0 : Int32))], [(55, m_now), (77, m_then_42x)], [(65, m_row)]) 114 [(0, .ref 54)] [] (some (.int r)) ([(3461, m_allowed), (3472, w_m_rowMany), (3473, w_m_thrown)], [(55, m_now), (77, w_m_then)], [(65, w_m_row)]) := by
        intro m_then_42x h
        unfold k_X12_law_42 at h
        refine zJ_iconst dX12_law_114 zc_0 rfl ?_
        refine zJ_istore_n (ls' := [(3, .int (0 : Int32)), (0, .ref 54)]) dX12_law_115 rfl rfl rfl ?_
        refine zJ_iconst dX12_law_116 zc_0 rfl ?_
        refine zJ_istore (ls' := [(4, .int (0 : Int32)), (3, .int (0 : Int32)), (0, .ref 54)]) dX12_law_117 rfl rfl rfl ?_
        have hk119 : ∀ (v3_119x : Int32), k_X12_law_119 m_row m_then_42x v3_119x = some (r, w_m_rowMany, w_m_thrown, w_m_then, w_m_row) → zJ l zW 3 mX12_law σ ([(3461, m_allowed), (3472, m_rowMany), (3473, (0 : Int32))], [(55, m_now), (77, m_then_42x)], [(65, m_row)]) 166 [(0, .ref 54), (3, .int v3_119x)] [] (some (.int r)) ([(3461, m_allowed), (3472, w_m_rowMany), (3473, w_m_thrown)], [(55, m_now), (77, w_m_then)], [(65, w_m_row)]) := by
          intro v3_119x h
          unfold k_X12_law_119 at h
          refine zJ_aload_n dX12_law_166 rfl rfl ?_
          refine zJ_iconst dX12_law_167 zc_0 rfl ?_
          refine zK_puti (mi := mX12_law) (la' := [(3461, m_allowed), (3472, (0 : Int32)), (3473, (0 : Int32))]) zW_ok dX12_law_168 F_X12_116 P_12_16 zW_54 rfl rfl rfl ?_
          refine zJ_aload_n dX12_law_171 rfl rfl ?_
          refine zJ_aload_n dX12_law_172 rfl rfl ?_
          refine zJ_getr (mi := mX12_law) dX12_law_173 F_X12_82 zW_54 rfl rfl ?_
          obtain ⟨m_rowManyn4, m_rown5, hcl, h⟩ := bd2_some h
          refine zJ_callV2 (σ := σ) (L := ([(3461, m_allowed), (3472, (0 : Int32)), (3473, (0 : Int32))], [(55, m_now), (77, m_then_42x)], [(65, m_row)])) (mi := mX12_law) (yi := mX12_tellPlaces) (as := [.ref 77]) (st := []) (L2 := ([(3461, m_allowed), (3472, m_rowManyn4), (3473, (0 : Int32))], [(55, m_now), (77, m_then_42x)], [(65, m_rown5)])) dX12_law_176 ML_X12_365 Yv_X12_tellPlaces rfl zW_54 rfl rfl (t_X12_tellPlaces_m_then l _ hcl) (zsub_i (zle_c rfl zle_n) (zle_c rfl zle_n) (zle_c rfl zle_n)) (zjok_i rfl rfl (zle_c rfl (zle_c rfl (zle_c rfl zle_n))) rfl rfl (zle_c rfl (zle_c rfl zle_n)) rfl rfl (zle_c rfl zle_n)) (Nat.le_of_ble_eq_true rfl) (Nat.le_of_ble_eq_true rfl) rfl rfl ?_
          refine zJ_iload_n dX12_law_179 rfl rfl ?_
          obtain ⟨rfl, rfl, rfl, rfl, rfl⟩ := so5 h
          exact zJ_iret dX12_law_180 rfl rfl
        refine zJ_loc (ls' := [(0, .ref 54), (3, .int (0 : Int32)), (4, .int (0 : Int32))]) (zll_c rfl (zll_c rfl (zll_c rfl zll_n))) ?_
        refine ml2_J (fun (v3_119 : Int32) (v4_119 : Int32) => zJ l zW 3 mX12_law σ ([(3461, m_allowed), (3472, m_rowMany), (3473, (0 : Int32))], [(55, m_now), (77, m_then_42x)], [(65, m_row)]) 119 [(0, .ref 54), (3, .int v3_119), (4, .int v4_119)] [] (some (.int r)) ([(3461, m_allowed), (3472, w_m_rowMany), (3473, w_m_thrown)], [(55, m_now), (77, w_m_then)], [(65, w_m_row)])) (fun rc119 hrc119 v3_119 v4_119 h => ?_) zN _ _ h
        unfold s_X12_law_119 at h
        refine zJ_iload dX12_law_119 rfl rfl ?_
        refine zJ_aload_n dX12_law_121 rfl rfl ?_
        refine zJ_getr (mi := mX12_law) dX12_law_122 F_X12_82 zW_54 rfl rfl ?_
        refine zJ_bipush dX12_law_125 zb_48 rfl ?_
        obtain ⟨hg, h⟩ := gd_some h
        refine zJ_iald (mi := mX12_law) (f := m_then_42x) dX12_law_127 zW_77 (ix_in hg) rfl rfl ?_
        refine zJ_icmp_ge (tgt := 166) dX12_law_128 (by decide) rfl (fun hc => ?_) (fun hc => ?_)
        · replace h := it_t hc h
          refine zJ_loc (ls' := [(0, .ref 54), (3, .int v3_119)]) (zll_c rfl (zll_c rfl zll_n)) ?_
          exact hk119 _ h
        · replace h := it_f hc h
          refine zJ_iload_n dX12_law_131 rfl rfl ?_
          refine zJ_aload_n dX12_law_132 rfl rfl ?_
          refine zJ_getr (mi := mX12_law) dX12_law_133 F_X12_82 zW_54 rfl rfl ?_
          refine zJ_iload dX12_law_136 rfl rfl ?_
          obtain ⟨rn6, hcl, h⟩ := bd1_some h
          refine zJ_callS2 (σ := σ) (L := ([(3461, m_allowed), (3472, m_rowMany), (3473, (0 : Int32))], [(55, m_now), (77, m_then_42x)], [(65, m_row)])) (mi := mX12_law) (yi := mX12_placeOf) (as := [.ref 77, .int v4_119]) (st := [.int v3_119]) (L2 := ([(3461, m_allowed), (3472, m_rowMany), (3473, (0 : Int32))], [(55, m_now), (77, m_then_42x)], [(65, m_row)])) dX12_law_138 ML_X12_358 Ys_X12_placeOf rfl (t_X12_placeOf_m_then l _ hcl) (zsub_i zle_n (zle_c rfl zle_n) zle_n) (zjok_i rfl rfl (zle_c rfl (zle_c rfl (zle_c rfl zle_n))) rfl rfl (zle_c rfl (zle_c rfl zle_n)) rfl rfl (zle_c rfl zle_n)) (Nat.le_of_ble_eq_true rfl) (Nat.le_of_ble_eq_true rfl) rfl rfl ?_
          refine zJ_aload_n dX12_law_141 rfl rfl ?_
          refine zJ_getr (mi := mX12_law) dX12_law_142 F_X12_9 zW_54 rfl rfl ?_
          refine zJ_iload dX12_law_145 rfl rfl ?_
          obtain ⟨rn7, hcl, h⟩ := bd1_some h
          refine zJ_callS2 (σ := σ) (L := ([(3461, m_allowed), (3472, m_rowMany), (3473, (0 : Int32))], [(55, m_now), (77, m_then_42x)], [(65, m_row)])) (mi := mX12_law) (yi := mX12_placeOf) (as := [.ref 55, .int v4_119]) (st := [.int rn6, .int v3_119]) (L2 := ([(3461, m_allowed), (3472, m_rowMany), (3473, (0 : Int32))], [(55, m_now), (77, m_then_42x)], [(65, m_row)])) dX12_law_147 ML_X12_358 Ys_X12_placeOf rfl (t_X12_placeOf_m_now l _ hcl) (zsub_i zle_n (zle_c rfl zle_n) zle_n) (zjok_i rfl rfl (zle_c rfl (zle_c rfl (zle_c rfl zle_n))) rfl rfl (zle_c rfl (zle_c rfl zle_n)) rfl rfl (zle_c rfl zle_n)) (Nat.le_of_ble_eq_true rfl) (Nat.le_of_ble_eq_true rfl) rfl rfl ?_
          refine zJ_icmp_ne (tgt := 157) dX12_law_150 (by decide) rfl (fun hc => ?_) (fun hc => ?_)
          · replace h := it_f hc h
            refine zJ_iconst dX12_law_157 zc_1 rfl ?_
            refine zJ_iadd dX12_law_158 rfl ?_
            obtain ⟨v3n8, ev3n8, h⟩ := lt1_some h
            refine zJ_nmi ev3n8 ?_
            refine zJ_istore_n (ls' := [(3, .int v3n8), (0, .ref 54), (4, .int v4_119)]) dX12_law_159 rfl rfl rfl ?_
            obtain ⟨v4n9, ev4n9, h⟩ := lt1_some h
            refine zJ_iincN (ls' := [(4, .int v4n9), (3, .int v3n8), (0, .ref 54)]) dX12_law_160 rfl rfl zc_1 ev4n9 rfl rfl ?_
            refine zJ_goto (tgt := 119) dX12_law_163 (by decide) ?_
            refine zJ_loc (ls' := [(0, .ref 54), (3, .int v3n8), (4, .int v4n9)]) (zll_c rfl (zll_c rfl (zll_c rfl zll_n))) ?_
            exact hrc119 _ _ h
          · replace h := it_t hc h
            refine zJ_iconst dX12_law_153 zc_0 rfl ?_
            refine zJ_goto (tgt := 158) dX12_law_154 (by decide) ?_
            refine zJ_iadd dX12_law_158 rfl ?_
            obtain ⟨v3n10, ev3n10, h⟩ := lt1_some h
            refine zJ_nmi ev3n10 ?_
            refine zJ_istore_n (ls' := [(3, .int v3n10), (0, .ref 54), (4, .int v4_119)]) dX12_law_159 rfl rfl rfl ?_
            obtain ⟨v4n11, ev4n11, h⟩ := lt1_some h
            refine zJ_iincN (ls' := [(4, .int v4n11), (3, .int v3n10), (0, .ref 54)]) dX12_law_160 rfl rfl zc_1 ev4n11 rfl rfl ?_
            refine zJ_goto (tgt := 119) dX12_law_163 (by decide) ?_
            refine zJ_loc (ls' := [(0, .ref 54), (3, .int v3n10), (4, .int v4n11)]) (zll_c rfl (zll_c rfl (zll_c rfl zll_n))) ?_
            exact hrc119 _ _ h
      refine zJ_loc (ls' := [(0, .ref 54), (1, .int p1), (2, .int p2), (3, .int (0 : Int32))]) (zll_c rfl (zll_c rfl (zll_c rfl (zll_c rfl zll_n)))) ?_
      refine ml2_J (fun (v3_42 : Int32) (m_then_42 : (Nat → Int32)) => zJ l zW 3 mX12_law σ ([(3461, m_allowed), (3472, m_rowMany), (3473, (0 : Int32))], [(55, m_now), (77, m_then_42)], [(65, m_row)]) 42 [(0, .ref 54), (1, .int p1), (2, .int p2), (3, .int v3_42)] [] (some (.int r)) ([(3461, m_allowed), (3472, w_m_rowMany), (3473, w_m_thrown)], [(55, m_now), (77, w_m_then)], [(65, w_m_row)])) (fun rc42 hrc42 v3_42 m_then_42 h => ?_) zN _ _ h
      unfold s_X12_law_42 at h
      refine zJ_iload_n dX12_law_42 rfl rfl ?_
      refine zJ_aload_n dX12_law_43 rfl rfl ?_
      refine zJ_getr (mi := mX12_law) dX12_law_44 F_X12_82 zW_54 rfl rfl ?_
      refine zJ_bipush dX12_law_47 zb_48 rfl ?_
      obtain ⟨hg, h⟩ := gd_some h
      refine zJ_iald (mi := mX12_law) (f := m_then_42) dX12_law_49 zW_77 (ix_in hg) rfl rfl ?_
      refine zJ_icmp_ge (tgt := 114) dX12_law_50 (by decide) rfl (fun hc => ?_) (fun hc => ?_)
      · replace h := it_t hc h
        refine zJ_loc (ls' := [(0, .ref 54)]) (zll_c rfl zll_n) ?_
        exact hk42 _ h
      · replace h := it_f hc h
        refine zJ_aload_n dX12_law_53 rfl rfl ?_
        refine zJ_getr (mi := mX12_law) dX12_law_54 F_X12_82 zW_54 rfl rfl ?_
        refine zJ_iconst dX12_law_57 zc_4 rfl ?_
        refine zJ_iload_n dX12_law_58 rfl rfl ?_
        refine zJ_imul dX12_law_59 rfl ?_
        refine zJ_iconst dX12_law_60 zc_3 rfl ?_
        refine zJ_iadd dX12_law_61 rfl ?_
        obtain ⟨hg, h⟩ := gd_some h
        refine zJ_iald (mi := mX12_law) (f := m_then_42) dX12_law_62 zW_77 (ix_in hg) rfl rfl ?_
        obtain ⟨v4n12, ev4n12, h⟩ := lt1_some h
        refine zJ_nmi ev4n12 ?_
        refine zJ_istore (ls' := [(4, .int v4n12), (0, .ref 54), (1, .int p1), (2, .int p2), (3, .int v3_42)]) dX12_law_63 rfl rfl rfl ?_
        refine zJ_aload_n dX12_law_65 rfl rfl ?_
        refine zJ_getr (mi := mX12_law) dX12_law_66 F_X12_82 zW_54 rfl rfl ?_
        refine zJ_iconst dX12_law_69 zc_4 rfl ?_
        refine zJ_iload_n dX12_law_70 rfl rfl ?_
        refine zJ_imul dX12_law_71 rfl ?_
        refine zJ_iconst dX12_law_72 zc_2 rfl ?_
        refine zJ_iadd dX12_law_73 rfl ?_
        refine zJ_iconst dX12_law_74 zc_0 rfl ?_
        refine zJ_aload_n dX12_law_75 rfl rfl ?_
        refine zJ_getr (mi := mX12_law) dX12_law_76 F_X12_82 zW_54 rfl rfl ?_
        refine zJ_iconst dX12_law_79 zc_4 rfl ?_
        refine zJ_iload_n dX12_law_80 rfl rfl ?_
        refine zJ_imul dX12_law_81 rfl ?_
        refine zJ_iconst dX12_law_82 zc_2 rfl ?_
        refine zJ_iadd dX12_law_83 rfl ?_
        obtain ⟨hg, h⟩ := gd_some h
        refine zJ_iald (mi := mX12_law) (f := m_then_42) dX12_law_84 zW_77 (ix_in hg) rfl rfl ?_
        refine zJ_aload_n dX12_law_85 rfl rfl ?_
        refine zJ_iload dX12_law_86 rfl rfl ?_
        refine zJ_bipush dX12_law_88 zb_40 rfl ?_
        refine zJ_iconst dX12_law_90 zc_1 rfl ?_
        obtain ⟨rn13, hcl, h⟩ := bd1_some h
        refine zJ_callV2 (σ := σ) (L := ([(3461, m_allowed), (3472, m_rowMany), (3473, (0 : Int32))], [(55, m_now), (77, m_then_42)], [(65, m_row)])) (mi := mX12_law) (yi := mX12_timeFaults) (as := [.int v4n12, .int (40 : Int32), .int (1 : Int32)]) (st := [.int (m_then_42 (((4 : Int32) * v3_42) + (2 : Int32)).toNatClampNeg), .int (0 : Int32), .int (((4 : Int32) * v3_42) + (2 : Int32)), .ref 77]) (L2 := ([(3461, m_allowed), (3472, m_rowMany), (3473, (0 : Int32))], [(55, m_now), (77, m_then_42)], [(65, m_row)])) dX12_law_91 ML_X12_325 Yv_X12_timeFaults rfl zW_54 rfl rfl (t_X12_timeFaults l _ hcl) (zsub_i (zle_c rfl zle_n) zle_n zle_n) (zjok_i rfl rfl (zle_c rfl (zle_c rfl (zle_c rfl zle_n))) rfl rfl (zle_c rfl (zle_c rfl zle_n)) rfl rfl (zle_c rfl zle_n)) (Nat.le_of_ble_eq_true rfl) (Nat.le_of_ble_eq_true rfl) rfl rfl ?_
        refine zJ_isub dX12_law_94 rfl ?_
        refine zJ_mmax (mi := mX12_law) dX12_law_95 L_X12_243 K_max_s K_math K_max_c (Nat.le_of_ble_eq_true rfl) (Nat.le_of_ble_eq_true rfl) rfl ?_
        refine zJ_aload_n dX12_law_98 rfl rfl ?_
        refine zJ_iload dX12_law_99 rfl rfl ?_
        refine zJ_iload_n dX12_law_101 rfl rfl ?_
        refine zJ_iload_n dX12_law_102 rfl rfl ?_
        obtain ⟨rn14, hcl, h⟩ := bd1_some h
        refine zJ_callV2 (σ := σ) (L := ([(3461, m_allowed), (3472, m_rowMany), (3473, (0 : Int32))], [(55, m_now), (77, m_then_42)], [(65, m_row)])) (mi := mX12_law) (yi := mX12_timeFaults) (as := [.int v4n12, .int p1, .int p2]) (st := [.int (if (0 : Int32) < ((m_then_42 (((4 : Int32) * v3_42) + (2 : Int32)).toNatClampNeg) - rn13) then ((m_then_42 (((4 : Int32) * v3_42) + (2 : Int32)).toNatClampNeg) - rn13) else (0 : Int32)), .int (((4 : Int32) * v3_42) + (2 : Int32)), .ref 77]) (L2 := ([(3461, m_allowed), (3472, m_rowMany), (3473, (0 : Int32))], [(55, m_now), (77, m_then_42)], [(65, m_row)])) dX12_law_103 ML_X12_325 Yv_X12_timeFaults rfl zW_54 rfl rfl (t_X12_timeFaults l _ hcl) (zsub_i (zle_c rfl zle_n) zle_n zle_n) (zjok_i rfl rfl (zle_c rfl (zle_c rfl (zle_c rfl zle_n))) rfl rfl (zle_c rfl (zle_c rfl zle_n)) rfl rfl (zle_c rfl zle_n)) (Nat.le_of_ble_eq_true rfl) (Nat.le_of_ble_eq_true rfl) rfl rfl ?_
        refine zJ_iadd dX12_law_106 rfl ?_
        obtain ⟨hg, h⟩ := gd_some h
        refine zK_iast (mi := mX12_law) (f := m_then_42) (lb' := [(55, m_now), (77, (upd m_then_42 (((4 : Int32) * v3_42) + (2 : Int32)).toNatClampNeg ((if (0 : Int32) < ((m_then_42 (((4 : Int32) * v3_42) + (2 : Int32)).toNatClampNeg) - rn13) then ((m_then_42 (((4 : Int32) * v3_42) + (2 : Int32)).toNatClampNeg) - rn13) else (0 : Int32)) + rn14)))]) dX12_law_107 zW_77 (ix_in hg) rfl rfl rfl ?_
        obtain ⟨v3n15, ev3n15, h⟩ := lt1_some h
        refine zJ_iincN (ls' := [(3, .int v3n15), (4, .int v4n12), (0, .ref 54), (1, .int p1), (2, .int p2)]) dX12_law_108 rfl rfl zc_1 ev3n15 rfl rfl ?_
        refine zJ_goto (tgt := 42) dX12_law_111 (by decide) ?_
        refine zJ_loc (ls' := [(0, .ref 54), (1, .int p1), (2, .int p2), (3, .int v3n15)]) (zll_c rfl (zll_c rfl (zll_c rfl (zll_c rfl zll_n)))) ?_
        exact hrc42 _ _ h
    · replace h := it_t hc h
      refine zJ_iconst dX12_law_26 zc_m1 rfl ?_
      obtain ⟨rfl, rfl, rfl, rfl, rfl⟩ := so5 h
      exact zJ_iret dX12_law_27 rfl rfl
set_option maxRecDepth 100000 in
set_option maxHeartbeats 4000000 in
theorem t_X12_lay_m_aside_m_undos (l : Launch) (σ : zS) {p2 : Int32} {m_undos : (Nat → Int32)} {m_aside : (Nat → Int32)} {w_m_undos : (Nat → Int32)} (h : f_X12_lay_m_aside_m_undos p2 m_undos m_aside = some w_m_undos) : zMt l zW 0 mX12_lay σ ([], [(74, m_undos), (75, m_aside)], []) [.ref 75, .ref 74, .int p2] none ([], [(74, w_m_undos), (75, m_aside)], []) := by
  refine zMt_of (ls := [(0, .ref 75), (1, .ref 74), (2, .int p2)]) (by decide) rfl (fun _ => Nat.le_of_ble_eq_true rfl) rfl ?_
  unfold f_X12_lay_m_aside_m_undos at h
  refine zJ_iconst dX12_lay_0 zc_0 rfl ?_
  refine zJ_istore_n (ls' := [(3, .int (0 : Int32)), (0, .ref 75), (1, .ref 74), (2, .int p2)]) dX12_lay_1 rfl rfl rfl ?_
  have hk2 : ∀ (m_undos_2x : (Nat → Int32)), k_X12_lay_m_aside_m_undos_2  m_undos_2x = some w_m_undos → zJ l zW 0 mX12_lay σ ([], [(74, m_undos_2x), (75, m_aside)], []) 22 [] [] none ([], [(74, w_m_undos), (75, m_aside)], []) := by
    intro m_undos_2x h
    unfold k_X12_lay_m_aside_m_undos_2 at h
    obtain rfl := so1 h
    exact zJ_vret dX12_lay_22 rfl
  refine zJ_loc (ls' := [(0, .ref 75), (1, .ref 74), (2, .int p2), (3, .int (0 : Int32))]) (zll_c rfl (zll_c rfl (zll_c rfl (zll_c rfl zll_n)))) ?_
  refine ml2_J (fun (v3_2 : Int32) (m_undos_2 : (Nat → Int32)) => zJ l zW 0 mX12_lay σ ([], [(74, m_undos_2), (75, m_aside)], []) 2 [(0, .ref 75), (1, .ref 74), (2, .int p2), (3, .int v3_2)] [] none ([], [(74, w_m_undos), (75, m_aside)], [])) (fun rc2 hrc2 v3_2 m_undos_2 h => ?_) zN _ _ h
  unfold s_X12_lay_m_aside_m_undos_2 at h
  refine zJ_iload_n dX12_lay_2 rfl rfl ?_
  refine zJ_bipush dX12_lay_3 zb_49 rfl ?_
  refine zJ_icmp_ge (tgt := 22) dX12_lay_5 (by decide) rfl (fun hc => ?_) (fun hc => ?_)
  · replace h := it_t hc h
    refine zJ_loc (ls' := []) zll_n ?_
    exact hk2 _ h
  · replace h := it_f hc h
    refine zJ_aload_n dX12_lay_8 rfl rfl ?_
    refine zJ_iload_n dX12_lay_9 rfl rfl ?_
    refine zJ_iload_n dX12_lay_10 rfl rfl ?_
    refine zJ_iadd dX12_lay_11 rfl ?_
    refine zJ_aload_n dX12_lay_12 rfl rfl ?_
    refine zJ_iload_n dX12_lay_13 rfl rfl ?_
    obtain ⟨hg, h⟩ := gd_some h
    refine zJ_iald (mi := mX12_lay) (f := m_aside) dX12_lay_14 zW_75 (ix_in hg) rfl rfl ?_
    obtain ⟨hg, h⟩ := gd_some h
    refine zK_iast (mi := mX12_lay) (f := m_undos_2) (lb' := [(74, (upd m_undos_2 (p2 + v3_2).toNatClampNeg (m_aside v3_2.toNatClampNeg))), (75, m_aside)]) dX12_lay_15 zW_74 (ix_in hg) rfl rfl rfl ?_
    obtain ⟨v3n1, ev3n1, h⟩ := lt1_some h
    refine zJ_iincN (ls' := [(3, .int v3n1), (0, .ref 75), (1, .ref 74), (2, .int p2)]) dX12_lay_16 rfl rfl zc_1 ev3n1 rfl rfl ?_
    refine zJ_goto (tgt := 2) dX12_lay_19 (by decide) ?_
    refine zJ_loc (ls' := [(0, .ref 75), (1, .ref 74), (2, .int p2), (3, .int v3n1)]) (zll_c rfl (zll_c rfl (zll_c rfl (zll_c rfl zll_n)))) ?_
    exact hrc2 _ _ h
set_option maxRecDepth 100000 in
set_option maxHeartbeats 4000000 in
theorem t_X12_lay_m_now_m_aside (l : Launch) (σ : zS) {p2 : Int32} {m_now : (Nat → Int32)} {m_aside : (Nat → Int32)} {w_m_aside : (Nat → Int32)} (h : f_X12_lay_m_now_m_aside p2 m_now m_aside = some w_m_aside) : zMt l zW 0 mX12_lay σ ([], [(55, m_now), (75, m_aside)], []) [.ref 55, .ref 75, .int p2] none ([], [(55, m_now), (75, w_m_aside)], []) := by
  refine zMt_of (ls := [(0, .ref 55), (1, .ref 75), (2, .int p2)]) (by decide) rfl (fun _ => Nat.le_of_ble_eq_true rfl) rfl ?_
  unfold f_X12_lay_m_now_m_aside at h
  refine zJ_iconst dX12_lay_0 zc_0 rfl ?_
  refine zJ_istore_n (ls' := [(3, .int (0 : Int32)), (0, .ref 55), (1, .ref 75), (2, .int p2)]) dX12_lay_1 rfl rfl rfl ?_
  have hk2 : ∀ (m_aside_2x : (Nat → Int32)), k_X12_lay_m_now_m_aside_2  m_aside_2x = some w_m_aside → zJ l zW 0 mX12_lay σ ([], [(55, m_now), (75, m_aside_2x)], []) 22 [] [] none ([], [(55, m_now), (75, w_m_aside)], []) := by
    intro m_aside_2x h
    unfold k_X12_lay_m_now_m_aside_2 at h
    obtain rfl := so1 h
    exact zJ_vret dX12_lay_22 rfl
  refine zJ_loc (ls' := [(0, .ref 55), (1, .ref 75), (2, .int p2), (3, .int (0 : Int32))]) (zll_c rfl (zll_c rfl (zll_c rfl (zll_c rfl zll_n)))) ?_
  refine ml2_J (fun (v3_2 : Int32) (m_aside_2 : (Nat → Int32)) => zJ l zW 0 mX12_lay σ ([], [(55, m_now), (75, m_aside_2)], []) 2 [(0, .ref 55), (1, .ref 75), (2, .int p2), (3, .int v3_2)] [] none ([], [(55, m_now), (75, w_m_aside)], [])) (fun rc2 hrc2 v3_2 m_aside_2 h => ?_) zN _ _ h
  unfold s_X12_lay_m_now_m_aside_2 at h
  refine zJ_iload_n dX12_lay_2 rfl rfl ?_
  refine zJ_bipush dX12_lay_3 zb_49 rfl ?_
  refine zJ_icmp_ge (tgt := 22) dX12_lay_5 (by decide) rfl (fun hc => ?_) (fun hc => ?_)
  · replace h := it_t hc h
    refine zJ_loc (ls' := []) zll_n ?_
    exact hk2 _ h
  · replace h := it_f hc h
    refine zJ_aload_n dX12_lay_8 rfl rfl ?_
    refine zJ_iload_n dX12_lay_9 rfl rfl ?_
    refine zJ_iload_n dX12_lay_10 rfl rfl ?_
    refine zJ_iadd dX12_lay_11 rfl ?_
    refine zJ_aload_n dX12_lay_12 rfl rfl ?_
    refine zJ_iload_n dX12_lay_13 rfl rfl ?_
    obtain ⟨hg, h⟩ := gd_some h
    refine zJ_iald (mi := mX12_lay) (f := m_now) dX12_lay_14 zW_55 (ix_in hg) rfl rfl ?_
    obtain ⟨hg, h⟩ := gd_some h
    refine zK_iast (mi := mX12_lay) (f := m_aside_2) (lb' := [(55, m_now), (75, (upd m_aside_2 (p2 + v3_2).toNatClampNeg (m_now v3_2.toNatClampNeg)))]) dX12_lay_15 zW_75 (ix_in hg) rfl rfl rfl ?_
    obtain ⟨v3n1, ev3n1, h⟩ := lt1_some h
    refine zJ_iincN (ls' := [(3, .int v3n1), (0, .ref 55), (1, .ref 75), (2, .int p2)]) dX12_lay_16 rfl rfl zc_1 ev3n1 rfl rfl ?_
    refine zJ_goto (tgt := 2) dX12_lay_19 (by decide) ?_
    refine zJ_loc (ls' := [(0, .ref 55), (1, .ref 75), (2, .int p2), (3, .int v3n1)]) (zll_c rfl (zll_c rfl (zll_c rfl (zll_c rfl zll_n)))) ?_
    exact hrc2 _ _ h
set_option maxRecDepth 100000 in
set_option maxHeartbeats 4000000 in
theorem t_X12_lay_m_now_m_undos (l : Launch) (σ : zS) {p2 : Int32} {m_now : (Nat → Int32)} {m_undos : (Nat → Int32)} {w_m_undos : (Nat → Int32)} (h : f_X12_lay_m_now_m_undos p2 m_now m_undos = some w_m_undos) : zMt l zW 0 mX12_lay σ ([], [(55, m_now), (74, m_undos)], []) [.ref 55, .ref 74, .int p2] none ([], [(55, m_now), (74, w_m_undos)], []) := by
  refine zMt_of (ls := [(0, .ref 55), (1, .ref 74), (2, .int p2)]) (by decide) rfl (fun _ => Nat.le_of_ble_eq_true rfl) rfl ?_
  unfold f_X12_lay_m_now_m_undos at h
  refine zJ_iconst dX12_lay_0 zc_0 rfl ?_
  refine zJ_istore_n (ls' := [(3, .int (0 : Int32)), (0, .ref 55), (1, .ref 74), (2, .int p2)]) dX12_lay_1 rfl rfl rfl ?_
  have hk2 : ∀ (m_undos_2x : (Nat → Int32)), k_X12_lay_m_now_m_undos_2  m_undos_2x = some w_m_undos → zJ l zW 0 mX12_lay σ ([], [(55, m_now), (74, m_undos_2x)], []) 22 [] [] none ([], [(55, m_now), (74, w_m_undos)], []) := by
    intro m_undos_2x h
    unfold k_X12_lay_m_now_m_undos_2 at h
    obtain rfl := so1 h
    exact zJ_vret dX12_lay_22 rfl
  refine zJ_loc (ls' := [(0, .ref 55), (1, .ref 74), (2, .int p2), (3, .int (0 : Int32))]) (zll_c rfl (zll_c rfl (zll_c rfl (zll_c rfl zll_n)))) ?_
  refine ml2_J (fun (v3_2 : Int32) (m_undos_2 : (Nat → Int32)) => zJ l zW 0 mX12_lay σ ([], [(55, m_now), (74, m_undos_2)], []) 2 [(0, .ref 55), (1, .ref 74), (2, .int p2), (3, .int v3_2)] [] none ([], [(55, m_now), (74, w_m_undos)], [])) (fun rc2 hrc2 v3_2 m_undos_2 h => ?_) zN _ _ h
  unfold s_X12_lay_m_now_m_undos_2 at h
  refine zJ_iload_n dX12_lay_2 rfl rfl ?_
  refine zJ_bipush dX12_lay_3 zb_49 rfl ?_
  refine zJ_icmp_ge (tgt := 22) dX12_lay_5 (by decide) rfl (fun hc => ?_) (fun hc => ?_)
  · replace h := it_t hc h
    refine zJ_loc (ls' := []) zll_n ?_
    exact hk2 _ h
  · replace h := it_f hc h
    refine zJ_aload_n dX12_lay_8 rfl rfl ?_
    refine zJ_iload_n dX12_lay_9 rfl rfl ?_
    refine zJ_iload_n dX12_lay_10 rfl rfl ?_
    refine zJ_iadd dX12_lay_11 rfl ?_
    refine zJ_aload_n dX12_lay_12 rfl rfl ?_
    refine zJ_iload_n dX12_lay_13 rfl rfl ?_
    obtain ⟨hg, h⟩ := gd_some h
    refine zJ_iald (mi := mX12_lay) (f := m_now) dX12_lay_14 zW_55 (ix_in hg) rfl rfl ?_
    obtain ⟨hg, h⟩ := gd_some h
    refine zK_iast (mi := mX12_lay) (f := m_undos_2) (lb' := [(55, m_now), (74, (upd m_undos_2 (p2 + v3_2).toNatClampNeg (m_now v3_2.toNatClampNeg)))]) dX12_lay_15 zW_74 (ix_in hg) rfl rfl rfl ?_
    obtain ⟨v3n1, ev3n1, h⟩ := lt1_some h
    refine zJ_iincN (ls' := [(3, .int v3n1), (0, .ref 55), (1, .ref 74), (2, .int p2)]) dX12_lay_16 rfl rfl zc_1 ev3n1 rfl rfl ?_
    refine zJ_goto (tgt := 2) dX12_lay_19 (by decide) ?_
    refine zJ_loc (ls' := [(0, .ref 55), (1, .ref 74), (2, .int p2), (3, .int v3n1)]) (zll_c rfl (zll_c rfl (zll_c rfl (zll_c rfl zll_n)))) ?_
    exact hrc2 _ _ h
set_option maxRecDepth 100000 in
set_option maxHeartbeats 4000000 in
theorem t_X12_tellRound (l : Launch) (σ : zS) {m_rowMany : Int32} {m_rodeTenths : Int32} {m_refused : Int32} {m_down : Int32} {m_drawn : Int32} {m_row : (Nat → Int64)} {w_m_rowMany : Int32} {w_m_row : (Nat → Int64)} (h : f_X12_tellRound m_rowMany m_rodeTenths m_refused m_down m_drawn m_row = some (w_m_rowMany, w_m_row)) : zMt l zW 1 mX12_tellRound σ ([(3472, m_rowMany), (3496, m_rodeTenths), (3497, m_refused), (3498, m_down), (3499, m_drawn)], [], [(65, m_row)]) [.ref 54] none ([(3472, w_m_rowMany), (3496, m_rodeTenths), (3497, m_refused), (3498, m_down), (3499, m_drawn)], [], [(65, w_m_row)]) := by
  refine zMt_of (ls := [(0, .ref 54)]) (by decide) rfl (fun _ => Nat.le_of_ble_eq_true rfl) rfl ?_
  unfold f_X12_tellRound at h
  refine zJ_aload_n dX12_tellRound_0 rfl rfl ?_
  refine zJ_iconst dX12_tellRound_1 zc_0 rfl ?_
  refine zK_puti (mi := mX12_tellRound) (la' := [(3472, (0 : Int32)), (3496, m_rodeTenths), (3497, m_refused), (3498, m_down), (3499, m_drawn)]) zW_ok dX12_tellRound_2 F_X12_116 P_12_16 zW_54 rfl rfl rfl ?_
  refine zJ_aload_n dX12_tellRound_5 rfl rfl ?_
  refine zJ_aload_n dX12_tellRound_6 rfl rfl ?_
  refine zJ_geti (mi := mX12_tellRound) (x := m_rodeTenths) dX12_tellRound_7 F_X12_313 zW_54 rfl rfl rfl ?_
  refine zJ_i2l dX12_tellRound_10 rfl ?_
  obtain ⟨m_rowManyn1, m_rown2, hcl, h⟩ := bd2_some h
  refine zJ_callV2 (σ := σ) (L := ([(3472, (0 : Int32)), (3496, m_rodeTenths), (3497, m_refused), (3498, m_down), (3499, m_drawn)], [], [(65, m_row)])) (mi := mX12_tellRound) (yi := mX12_tell) (as := [.long m_rodeTenths.toInt64]) (st := []) (L2 := ([(3472, m_rowManyn1), (3496, m_rodeTenths), (3497, m_refused), (3498, m_down), (3499, m_drawn)], [], [(65, m_rown2)])) dX12_tellRound_11 ML_X12_265 Yv_X12_tell rfl zW_54 rfl rfl (t_X12_tell l _ hcl) (zsub_i (zle_c rfl zle_n) zle_n (zle_c rfl zle_n)) (zjok_i rfl rfl (zle_c rfl (zle_c rfl (zle_c rfl (zle_c rfl (zle_c rfl zle_n))))) rfl rfl zle_n rfl rfl (zle_c rfl zle_n)) (Nat.le_of_ble_eq_true rfl) (Nat.le_of_ble_eq_true rfl) rfl rfl ?_
  refine zJ_aload_n dX12_tellRound_14 rfl rfl ?_
  refine zJ_aload_n dX12_tellRound_15 rfl rfl ?_
  refine zJ_geti (mi := mX12_tellRound) (x := m_refused) dX12_tellRound_16 F_X12_316 zW_54 rfl rfl rfl ?_
  refine zJ_i2l dX12_tellRound_19 rfl ?_
  obtain ⟨m_rowManyn3, m_rown4, hcl, h⟩ := bd2_some h
  refine zJ_callV2 (σ := σ) (L := ([(3472, m_rowManyn1), (3496, m_rodeTenths), (3497, m_refused), (3498, m_down), (3499, m_drawn)], [], [(65, m_rown2)])) (mi := mX12_tellRound) (yi := mX12_tell) (as := [.long m_refused.toInt64]) (st := []) (L2 := ([(3472, m_rowManyn3), (3496, m_rodeTenths), (3497, m_refused), (3498, m_down), (3499, m_drawn)], [], [(65, m_rown4)])) dX12_tellRound_20 ML_X12_265 Yv_X12_tell rfl zW_54 rfl rfl (t_X12_tell l _ hcl) (zsub_i (zle_c rfl zle_n) zle_n (zle_c rfl zle_n)) (zjok_i rfl rfl (zle_c rfl (zle_c rfl (zle_c rfl (zle_c rfl (zle_c rfl zle_n))))) rfl rfl zle_n rfl rfl (zle_c rfl zle_n)) (Nat.le_of_ble_eq_true rfl) (Nat.le_of_ble_eq_true rfl) rfl rfl ?_
  refine zJ_aload_n dX12_tellRound_23 rfl rfl ?_
  refine zJ_aload_n dX12_tellRound_24 rfl rfl ?_
  refine zJ_geti (mi := mX12_tellRound) (x := m_down) dX12_tellRound_25 F_X12_319 zW_54 rfl rfl rfl ?_
  refine zJ_i2l dX12_tellRound_28 rfl ?_
  obtain ⟨m_rowManyn5, m_rown6, hcl, h⟩ := bd2_some h
  refine zJ_callV2 (σ := σ) (L := ([(3472, m_rowManyn3), (3496, m_rodeTenths), (3497, m_refused), (3498, m_down), (3499, m_drawn)], [], [(65, m_rown4)])) (mi := mX12_tellRound) (yi := mX12_tell) (as := [.long m_down.toInt64]) (st := []) (L2 := ([(3472, m_rowManyn5), (3496, m_rodeTenths), (3497, m_refused), (3498, m_down), (3499, m_drawn)], [], [(65, m_rown6)])) dX12_tellRound_29 ML_X12_265 Yv_X12_tell rfl zW_54 rfl rfl (t_X12_tell l _ hcl) (zsub_i (zle_c rfl zle_n) zle_n (zle_c rfl zle_n)) (zjok_i rfl rfl (zle_c rfl (zle_c rfl (zle_c rfl (zle_c rfl (zle_c rfl zle_n))))) rfl rfl zle_n rfl rfl (zle_c rfl zle_n)) (Nat.le_of_ble_eq_true rfl) (Nat.le_of_ble_eq_true rfl) rfl rfl ?_
  refine zJ_aload_n dX12_tellRound_32 rfl rfl ?_
  refine zJ_aload_n dX12_tellRound_33 rfl rfl ?_
  refine zJ_geti (mi := mX12_tellRound) (x := m_drawn) dX12_tellRound_34 F_X12_309 zW_54 rfl rfl rfl ?_
  refine zJ_i2l dX12_tellRound_37 rfl ?_
  obtain ⟨m_rowManyn7, m_rown8, hcl, h⟩ := bd2_some h
  refine zJ_callV2 (σ := σ) (L := ([(3472, m_rowManyn5), (3496, m_rodeTenths), (3497, m_refused), (3498, m_down), (3499, m_drawn)], [], [(65, m_rown6)])) (mi := mX12_tellRound) (yi := mX12_tell) (as := [.long m_drawn.toInt64]) (st := []) (L2 := ([(3472, m_rowManyn7), (3496, m_rodeTenths), (3497, m_refused), (3498, m_down), (3499, m_drawn)], [], [(65, m_rown8)])) dX12_tellRound_38 ML_X12_265 Yv_X12_tell rfl zW_54 rfl rfl (t_X12_tell l _ hcl) (zsub_i (zle_c rfl zle_n) zle_n (zle_c rfl zle_n)) (zjok_i rfl rfl (zle_c rfl (zle_c rfl (zle_c rfl (zle_c rfl (zle_c rfl zle_n))))) rfl rfl zle_n rfl rfl (zle_c rfl zle_n)) (Nat.le_of_ble_eq_true rfl) (Nat.le_of_ble_eq_true rfl) rfl rfl ?_
  obtain ⟨rfl, rfl⟩ := so2 h
  exact zJ_vret dX12_tellRound_41 rfl
set_option maxRecDepth 100000 in
set_option maxHeartbeats 4000000 in
theorem t_X12_look (l : Launch) (σ : zS) {p1 : Int32} {p2 : Int32} {p3 : Int32} {m_fences : Int32} {m_allowed : Int32} {m_horses : Int32} {m_plans : Int32} {m_rowMany : Int32} {m_thrown : Int32} {m_read : Int32} {m_length : Int32} {m_top : Int32} {m_at : Int32} {m_wrong : Int32} {m_ruleSize : Int32} {m_isAsked : Int32} {m_askedHorse : Int32} {m_askedFence : Int32} {m_askedLetter : Int32} {m_askedHeight : Int32} {m_rodeTenths : Int32} {m_refused : Int32} {m_down : Int32} {m_drawn : Int32} {m_kind : (Nat → Int32)} {m_height : (Nat → Int32)} {m_feet : (Nat → Int32)} {m_stride : (Nat → Int32)} {m_scope : (Nat → Int32)} {m_care : (Nat → Int32)} {m_plan : (Nat → Int32)} {m_rule : (Nat → Int32)} {m_row : (Nat → Int64)} {r : Int32} {w_m_rowMany : Int32} {w_m_thrown : Int32} {w_m_read : Int32} {w_m_length : Int32} {w_m_top : Int32} {w_m_at : Int32} {w_m_wrong : Int32} {w_m_isAsked : Int32} {w_m_askedHorse : Int32} {w_m_askedFence : Int32} {w_m_askedLetter : Int32} {w_m_askedHeight : Int32} {w_m_rodeTenths : Int32} {w_m_refused : Int32} {w_m_down : Int32} {w_m_drawn : Int32} {w_m_row : (Nat → Int64)} (h : f_X12_look p1 p2 p3 m_fences m_allowed m_horses m_plans m_rowMany m_thrown m_read m_length m_top m_at m_wrong m_ruleSize m_isAsked m_askedHorse m_askedFence m_askedLetter m_askedHeight m_rodeTenths m_refused m_down m_drawn m_kind m_height m_feet m_stride m_scope m_care m_plan m_rule m_row = some (r, w_m_rowMany, w_m_thrown, w_m_read, w_m_length, w_m_top, w_m_at, w_m_wrong, w_m_isAsked, w_m_askedHorse, w_m_askedFence, w_m_askedLetter, w_m_askedHeight, w_m_rodeTenths, w_m_refused, w_m_down, w_m_drawn, w_m_row)) : zMt l zW 208 mX12_look σ ([(3457, m_fences), (3461, m_allowed), (3462, m_horses), (3466, m_plans), (3472, m_rowMany), (3473, m_thrown), (3474, m_read), (3475, m_length), (3476, m_top), (3477, m_at), (3478, m_wrong), (3483, m_ruleSize), (3484, m_isAsked), (3485, m_askedHorse), (3486, m_askedFence), (3487, m_askedLetter), (3488, m_askedHeight), (3496, m_rodeTenths), (3497, m_refused), (3498, m_down), (3499, m_drawn)], [(56, m_kind), (57, m_height), (58, m_feet), (59, m_stride), (60, m_scope), (61, m_care), (62, m_plan), (69, m_rule)], [(65, m_row)]) [.ref 54, .int p1, .int p2, .int p3] (some (.int r)) ([(3457, m_fences), (3461, m_allowed), (3462, m_horses), (3466, m_plans), (3472, w_m_rowMany), (3473, w_m_thrown), (3474, w_m_read), (3475, w_m_length), (3476, w_m_top), (3477, w_m_at), (3478, w_m_wrong), (3483, m_ruleSize), (3484, w_m_isAsked), (3485, w_m_askedHorse), (3486, w_m_askedFence), (3487, w_m_askedLetter), (3488, w_m_askedHeight), (3496, w_m_rodeTenths), (3497, w_m_refused), (3498, w_m_down), (3499, w_m_drawn)], [(56, m_kind), (57, m_height), (58, m_feet), (59, m_stride), (60, m_scope), (61, m_care), (62, m_plan), (69, m_rule)], [(65, w_m_row)]) := by
  refine zMt_of (ls := [(0, .ref 54), (1, .int p1), (2, .int p2), (3, .int p3)]) (by decide) rfl (fun _ => Nat.le_of_ble_eq_true rfl) rfl ?_
  unfold f_X12_look at h
  refine zJ_aload_n dX12_look_0 rfl rfl ?_
  refine zJ_iconst dX12_look_1 zc_0 rfl ?_
  refine zK_puti (mi := mX12_look) (la' := [(3457, m_fences), (3461, m_allowed), (3462, m_horses), (3466, m_plans), (3472, m_rowMany), (3473, (0 : Int32)), (3474, m_read), (3475, m_length), (3476, m_top), (3477, m_at), (3478, m_wrong), (3483, m_ruleSize), (3484, m_isAsked), (3485, m_askedHorse), (3486, m_askedFence), (3487, m_askedLetter), (3488, m_askedHeight), (3496, m_rodeTenths), (3497, m_refused), (3498, m_down), (3499, m_drawn)]) zW_ok dX12_look_2 F_X12_113 P_12_17 zW_54 rfl rfl rfl ?_
  refine zJ_aload_n dX12_look_5 rfl rfl ?_
  refine zJ_iload_n dX12_look_6 rfl rfl ?_
  refine zJ_iload_n dX12_look_7 rfl rfl ?_
  obtain ⟨rn1, hcl, h⟩ := bd1_some h
  refine zJ_callV2 (σ := σ) (L := ([(3457, m_fences), (3461, m_allowed), (3462, m_horses), (3466, m_plans), (3472, m_rowMany), (3473, (0 : Int32)), (3474, m_read), (3475, m_length), (3476, m_top), (3477, m_at), (3478, m_wrong), (3483, m_ruleSize), (3484, m_isAsked), (3485, m_askedHorse), (3486, m_askedFence), (3487, m_askedLetter), (3488, m_askedHeight), (3496, m_rodeTenths), (3497, m_refused), (3498, m_down), (3499, m_drawn)], [(56, m_kind), (57, m_height), (58, m_feet), (59, m_stride), (60, m_scope), (61, m_care), (62, m_plan), (69, m_rule)], [(65, m_row)])) (mi := mX12_look) (yi := mX12_areBoth) (as := [.int p1, .int p2]) (st := []) (L2 := ([(3457, m_fences), (3461, m_allowed), (3462, m_horses), (3466, m_plans), (3472, m_rowMany), (3473, (0 : Int32)), (3474, m_read), (3475, m_length), (3476, m_top), (3477, m_at), (3478, m_wrong), (3483, m_ruleSize), (3484, m_isAsked), (3485, m_askedHorse), (3486, m_askedFence), (3487, m_askedLetter), (3488, m_askedHeight), (3496, m_rodeTenths), (3497, m_refused), (3498, m_down), (3499, m_drawn)], [(56, m_kind), (57, m_height), (58, m_feet), (59, m_stride), (60, m_scope), (61, m_care), (62, m_plan), (69, m_rule)], [(65, m_row)])) dX12_look_8 ML_X12_279 Yv_X12_areBoth rfl zW_54 rfl rfl (t_X12_areBoth l _ hcl) (zsub_i (zle_c rfl (zle_c rfl zle_n)) zle_n zle_n) (zjok_i rfl rfl (zle_c rfl (zle_c rfl (zle_c rfl (zle_c rfl (zle_c rfl (zle_c rfl (zle_c rfl (zle_c rfl (zle_c rfl (zle_c rfl (zle_c rfl (zle_c rfl (zle_c rfl (zle_c rfl (zle_c rfl (zle_c rfl (zle_c rfl (zle_c rfl (zle_c rfl (zle_c rfl (zle_c rfl zle_n))))))))))))))))))))) rfl rfl (zle_c rfl (zle_c rfl (zle_c rfl (zle_c rfl (zle_c rfl (zle_c rfl (zle_c rfl (zle_c rfl zle_n)))))))) rfl rfl (zle_c rfl zle_n)) (Nat.le_of_ble_eq_true rfl) (Nat.le_of_ble_eq_true rfl) rfl rfl ?_
  refine zJ_if_ne (tgt := 16) dX12_look_11 (by decide) rfl (fun hc => ?_) (fun hc => ?_)
  · replace h := it_f hc h
    refine zJ_aload_n dX12_look_16 rfl rfl ?_
    refine zJ_iload_n dX12_look_17 rfl rfl ?_
    refine zJ_iload_n dX12_look_18 rfl rfl ?_
    refine zJ_iload_n dX12_look_19 rfl rfl ?_
    obtain ⟨rn2, m_readn3, m_lengthn4, m_topn5, m_atn6, m_wrongn7, m_isAskedn8, m_askedHorsen9, m_askedFencen10, m_askedLettern11, m_askedHeightn12, m_rodeTenthsn13, m_refusedn14, m_downn15, m_drawnn16, hcl, h⟩ := bd15_some h
    refine zJ_callV2 (σ := σ) (L := ([(3457, m_fences), (3461, m_allowed), (3462, m_horses), (3466, m_plans), (3472, m_rowMany), (3473, (0 : Int32)), (3474, m_read), (3475, m_length), (3476, m_top), (3477, m_at), (3478, m_wrong), (3483, m_ruleSize), (3484, m_isAsked), (3485, m_askedHorse), (3486, m_askedFence), (3487, m_askedLetter), (3488, m_askedHeight), (3496, m_rodeTenths), (3497, m_refused), (3498, m_down), (3499, m_drawn)], [(56, m_kind), (57, m_height), (58, m_feet), (59, m_stride), (60, m_scope), (61, m_care), (62, m_plan), (69, m_rule)], [(65, m_row)])) (mi := mX12_look) (yi := mX12_goRound) (as := [.int p1, .int p2, .int p3]) (st := []) (L2 := ([(3457, m_fences), (3461, m_allowed), (3462, m_horses), (3466, m_plans), (3472, m_rowMany), (3473, (0 : Int32)), (3474, m_readn3), (3475, m_lengthn4), (3476, m_topn5), (3477, m_atn6), (3478, m_wrongn7), (3483, m_ruleSize), (3484, m_isAskedn8), (3485, m_askedHorsen9), (3486, m_askedFencen10), (3487, m_askedLettern11), (3488, m_askedHeightn12), (3496, m_rodeTenthsn13), (3497, m_refusedn14), (3498, m_downn15), (3499, m_drawnn16)], [(56, m_kind), (57, m_height), (58, m_feet), (59, m_stride), (60, m_scope), (61, m_care), (62, m_plan), (69, m_rule)], [(65, m_row)])) dX12_look_20 ML_X12_335 Yv_X12_goRound rfl zW_54 rfl rfl (t_X12_goRound l _ hcl) (zsub_i (zle_c rfl (zle_c rfl (zle_c rfl (zle_c rfl (zle_c rfl (zle_c rfl (zle_c rfl (zle_c rfl (zle_c rfl (zle_c rfl (zle_c rfl (zle_c rfl (zle_c rfl (zle_c rfl (zle_c rfl (zle_c rfl (zle_c rfl zle_n))))))))))))))))) (zle_c rfl (zle_c rfl (zle_c rfl (zle_c rfl (zle_c rfl (zle_c rfl (zle_c rfl (zle_c rfl zle_n)))))))) zle_n) (zjok_i rfl rfl (zle_c rfl (zle_c rfl (zle_c rfl (zle_c rfl (zle_c rfl (zle_c rfl (zle_c rfl (zle_c rfl (zle_c rfl (zle_c rfl (zle_c rfl (zle_c rfl (zle_c rfl (zle_c rfl (zle_c rfl (zle_c rfl (zle_c rfl (zle_c rfl (zle_c rfl (zle_c rfl (zle_c rfl zle_n))))))))))))))))))))) rfl rfl (zle_c rfl (zle_c rfl (zle_c rfl (zle_c rfl (zle_c rfl (zle_c rfl (zle_c rfl (zle_c rfl zle_n)))))))) rfl rfl (zle_c rfl zle_n)) (Nat.le_of_ble_eq_true rfl) (Nat.le_of_ble_eq_true rfl) rfl rfl ?_
    refine zJ_istore (ls' := [(4, .int rn2), (0, .ref 54), (1, .int p1), (2, .int p2), (3, .int p3)]) dX12_look_23 rfl rfl rfl ?_
    refine zJ_aload_n dX12_look_25 rfl rfl ?_
    obtain ⟨m_rowManyn17, m_rown18, hcl, h⟩ := bd2_some h
    refine zJ_callV2 (σ := σ) (L := ([(3457, m_fences), (3461, m_allowed), (3462, m_horses), (3466, m_plans), (3472, m_rowMany), (3473, (0 : Int32)), (3474, m_readn3), (3475, m_lengthn4), (3476, m_topn5), (3477, m_atn6), (3478, m_wrongn7), (3483, m_ruleSize), (3484, m_isAskedn8), (3485, m_askedHorsen9), (3486, m_askedFencen10), (3487, m_askedLettern11), (3488, m_askedHeightn12), (3496, m_rodeTenthsn13), (3497, m_refusedn14), (3498, m_downn15), (3499, m_drawnn16)], [(56, m_kind), (57, m_height), (58, m_feet), (59, m_stride), (60, m_scope), (61, m_care), (62, m_plan), (69, m_rule)], [(65, m_row)])) (mi := mX12_look) (yi := mX12_tellRound) (as := []) (st := []) (L2 := ([(3457, m_fences), (3461, m_allowed), (3462, m_horses), (3466, m_plans), (3472, m_rowManyn17), (3473, (0 : Int32)), (3474, m_readn3), (3475, m_lengthn4), (3476, m_topn5), (3477, m_atn6), (3478, m_wrongn7), (3483, m_ruleSize), (3484, m_isAskedn8), (3485, m_askedHorsen9), (3486, m_askedFencen10), (3487, m_askedLettern11), (3488, m_askedHeightn12), (3496, m_rodeTenthsn13), (3497, m_refusedn14), (3498, m_downn15), (3499, m_drawnn16)], [(56, m_kind), (57, m_height), (58, m_feet), (59, m_stride), (60, m_scope), (61, m_care), (62, m_plan), (69, m_rule)], [(65, m_rown18)])) dX12_look_26 ML_X12_342 Yv_X12_tellRound rfl zW_54 rfl rfl (t_X12_tellRound l _ hcl) (zsub_i (zle_c rfl (zle_c rfl (zle_c rfl (zle_c rfl (zle_c rfl zle_n))))) zle_n (zle_c rfl zle_n)) (zjok_i rfl rfl (zle_c rfl (zle_c rfl (zle_c rfl (zle_c rfl (zle_c rfl (zle_c rfl (zle_c rfl (zle_c rfl (zle_c rfl (zle_c rfl (zle_c rfl (zle_c rfl (zle_c rfl (zle_c rfl (zle_c rfl (zle_c rfl (zle_c rfl (zle_c rfl (zle_c rfl (zle_c rfl (zle_c rfl zle_n))))))))))))))))))))) rfl rfl (zle_c rfl (zle_c rfl (zle_c rfl (zle_c rfl (zle_c rfl (zle_c rfl (zle_c rfl (zle_c rfl zle_n)))))))) rfl rfl (zle_c rfl zle_n)) (Nat.le_of_ble_eq_true rfl) (Nat.le_of_ble_eq_true rfl) rfl rfl ?_
    refine zJ_iload dX12_look_29 rfl rfl ?_
    obtain ⟨rfl, rfl, rfl, rfl, rfl, rfl, rfl, rfl, rfl, rfl, rfl, rfl, rfl, rfl, rfl, rfl, rfl, rfl⟩ := so18 h
    exact zJ_iret dX12_look_31 rfl rfl
  · replace h := it_t hc h
    refine zJ_iconst dX12_look_14 zc_m1 rfl ?_
    obtain ⟨rfl, rfl, rfl, rfl, rfl, rfl, rfl, rfl, rfl, rfl, rfl, rfl, rfl, rfl, rfl, rfl, rfl, rfl⟩ := so18 h
    exact zJ_iret dX12_look_15 rfl rfl
set_option maxRecDepth 100000 in
set_option maxHeartbeats 4000000 in
theorem t_X12_lot (l : Launch) (σ : zS) {m_fences : Int32} {m_allowed : Int32} {m_horses : Int32} {m_plans : Int32} {m_typed : Int32} {m_rowMany : Int32} {m_thrown : Int32} {m_read : Int32} {m_length : Int32} {m_top : Int32} {m_at : Int32} {m_wrong : Int32} {m_ruleSize : Int32} {m_isAsked : Int32} {m_askedHorse : Int32} {m_askedFence : Int32} {m_askedLetter : Int32} {m_askedHeight : Int32} {m_comingMany : Int32} {m_now : (Nat → Int32)} {m_kind : (Nat → Int32)} {m_height : (Nat → Int32)} {m_feet : (Nat → Int32)} {m_stride : (Nat → Int32)} {m_scope : (Nat → Int32)} {m_care : (Nat → Int32)} {m_plan : (Nat → Int32)} {m_money : (Nat → Int32)} {m_text : (Nat → Int32)} {m_rule : (Nat → Int32)} {m_coming : (Nat → Int32)} {m_planOf : (Nat → Int32)} {m_extra : (Nat → Int32)} {m_asTold : (Nat → Int32)} {m_row : (Nat → Int64)} {m_wins : (Nat → Int64)} {r : Int32} {w_m_typed : Int32} {w_m_rowMany : Int32} {w_m_thrown : Int32} {w_m_read : Int32} {w_m_length : Int32} {w_m_top : Int32} {w_m_at : Int32} {w_m_wrong : Int32} {w_m_isAsked : Int32} {w_m_askedHorse : Int32} {w_m_askedFence : Int32} {w_m_askedLetter : Int32} {w_m_askedHeight : Int32} {w_m_comingMany : Int32} {w_m_coming : (Nat → Int32)} {w_m_planOf : (Nat → Int32)} {w_m_extra : (Nat → Int32)} {w_m_asTold : (Nat → Int32)} {w_m_row : (Nat → Int64)} {w_m_wins : (Nat → Int64)} (h : f_X12_lot m_fences m_allowed m_horses m_plans m_typed m_rowMany m_thrown m_read m_length m_top m_at m_wrong m_ruleSize m_isAsked m_askedHorse m_askedFence m_askedLetter m_askedHeight m_comingMany m_now m_kind m_height m_feet m_stride m_scope m_care m_plan m_money m_text m_rule m_coming m_planOf m_extra m_asTold m_row m_wins = some (r, w_m_typed, w_m_rowMany, w_m_thrown, w_m_read, w_m_length, w_m_top, w_m_at, w_m_wrong, w_m_isAsked, w_m_askedHorse, w_m_askedFence, w_m_askedLetter, w_m_askedHeight, w_m_comingMany, w_m_coming, w_m_planOf, w_m_extra, w_m_asTold, w_m_row, w_m_wins)) : zMt l zW 409 mX12_lot σ ([(3457, m_fences), (3461, m_allowed), (3462, m_horses), (3466, m_plans), (3470, m_typed), (3472, m_rowMany), (3473, m_thrown), (3474, m_read), (3475, m_length), (3476, m_top), (3477, m_at), (3478, m_wrong), (3483, m_ruleSize), (3484, m_isAsked), (3485, m_askedHorse), (3486, m_askedFence), (3487, m_askedLetter), (3488, m_askedHeight), (3503, m_comingMany)], [(55, m_now), (56, m_kind), (57, m_height), (58, m_feet), (59, m_stride), (60, m_scope), (61, m_care), (62, m_plan), (63, m_money), (64, m_text), (69, m_rule), (78, m_coming), (80, m_planOf), (81, m_extra), (82, m_asTold)], [(65, m_row), (79, m_wins)]) [.ref 54] (some (.int r)) ([(3457, m_fences), (3461, m_allowed), (3462, m_horses), (3466, m_plans), (3470, w_m_typed), (3472, w_m_rowMany), (3473, w_m_thrown), (3474, w_m_read), (3475, w_m_length), (3476, w_m_top), (3477, w_m_at), (3478, w_m_wrong), (3483, m_ruleSize), (3484, w_m_isAsked), (3485, w_m_askedHorse), (3486, w_m_askedFence), (3487, w_m_askedLetter), (3488, w_m_askedHeight), (3503, w_m_comingMany)], [(55, m_now), (56, m_kind), (57, m_height), (58, m_feet), (59, m_stride), (60, m_scope), (61, m_care), (62, m_plan), (63, m_money), (64, m_text), (69, m_rule), (78, w_m_coming), (80, w_m_planOf), (81, w_m_extra), (82, w_m_asTold)], [(65, w_m_row), (79, w_m_wins)]) := by
  refine zMt_of (ls := [(0, .ref 54)]) (by decide) rfl (fun _ => Nat.le_of_ble_eq_true rfl) rfl ?_
  unfold f_X12_lot at h
  refine zJ_aload_n dX12_lot_0 rfl rfl ?_
  refine zJ_iconst dX12_lot_1 zc_0 rfl ?_
  refine zK_puti (mi := mX12_lot) (la' := [(3457, m_fences), (3461, m_allowed), (3462, m_horses), (3466, m_plans), (3470, m_typed), (3472, m_rowMany), (3473, (0 : Int32)), (3474, m_read), (3475, m_length), (3476, m_top), (3477, m_at), (3478, m_wrong), (3483, m_ruleSize), (3484, m_isAsked), (3485, m_askedHorse), (3486, m_askedFence), (3487, m_askedLetter), (3488, m_askedHeight), (3503, m_comingMany)]) zW_ok dX12_lot_2 F_X12_113 P_12_17 zW_54 rfl rfl rfl ?_
  refine zJ_aload_n dX12_lot_5 rfl rfl ?_
  refine zJ_iconst dX12_lot_6 zc_2 rfl ?_
  refine zJ_iconst dX12_lot_7 zc_3 rfl ?_
  obtain ⟨rn1, m_typedn2, m_comingManyn3, m_comingn4, hcl, h⟩ := bd4_some h
  refine zJ_callV2 (σ := σ) (L := ([(3457, m_fences), (3461, m_allowed), (3462, m_horses), (3466, m_plans), (3470, m_typed), (3472, m_rowMany), (3473, (0 : Int32)), (3474, m_read), (3475, m_length), (3476, m_top), (3477, m_at), (3478, m_wrong), (3483, m_ruleSize), (3484, m_isAsked), (3485, m_askedHorse), (3486, m_askedFence), (3487, m_askedLetter), (3488, m_askedHeight), (3503, m_comingMany)], [(55, m_now), (56, m_kind), (57, m_height), (58, m_feet), (59, m_stride), (60, m_scope), (61, m_care), (62, m_plan), (63, m_money), (64, m_text), (69, m_rule), (78, m_coming), (80, m_planOf), (81, m_extra), (82, m_asTold)], [(65, m_row), (79, m_wins)])) (mi := mX12_lot) (yi := mX12_readComing) (as := [.int (2 : Int32), .int (3 : Int32)]) (st := []) (L2 := ([(3457, m_fences), (3461, m_allowed), (3462, m_horses), (3466, m_plans), (3470, m_typedn2), (3472, m_rowMany), (3473, (0 : Int32)), (3474, m_read), (3475, m_length), (3476, m_top), (3477, m_at), (3478, m_wrong), (3483, m_ruleSize), (3484, m_isAsked), (3485, m_askedHorse), (3486, m_askedFence), (3487, m_askedLetter), (3488, m_askedHeight), (3503, m_comingManyn3)], [(55, m_now), (56, m_kind), (57, m_height), (58, m_feet), (59, m_stride), (60, m_scope), (61, m_care), (62, m_plan), (63, m_money), (64, m_text), (69, m_rule), (78, m_comingn4), (80, m_planOf), (81, m_extra), (82, m_asTold)], [(65, m_row), (79, m_wins)])) dX12_lot_8 ML_X12_405 Yv_X12_readComing rfl zW_54 rfl rfl (t_X12_readComing l _ hcl) (zsub_i (zle_c rfl (zle_c rfl (zle_c rfl (zle_c rfl zle_n)))) (zle_c rfl (zle_c rfl zle_n)) zle_n) (zjok_i rfl rfl (zle_c rfl (zle_c rfl (zle_c rfl (zle_c rfl (zle_c rfl (zle_c rfl (zle_c rfl (zle_c rfl (zle_c rfl (zle_c rfl (zle_c rfl (zle_c rfl (zle_c rfl (zle_c rfl (zle_c rfl (zle_c rfl (zle_c rfl (zle_c rfl (zle_c rfl zle_n))))))))))))))))))) rfl rfl (zle_c rfl (zle_c rfl (zle_c rfl (zle_c rfl (zle_c rfl (zle_c rfl (zle_c rfl (zle_c rfl (zle_c rfl (zle_c rfl (zle_c rfl (zle_c rfl (zle_c rfl (zle_c rfl (zle_c rfl zle_n))))))))))))))) rfl rfl (zle_c rfl (zle_c rfl zle_n))) (Nat.le_of_ble_eq_true rfl) (Nat.le_of_ble_eq_true rfl) rfl rfl ?_
  refine zJ_istore_n (ls' := [(1, .int rn1), (0, .ref 54)]) dX12_lot_11 rfl rfl rfl ?_
  refine zJ_iload_n dX12_lot_12 rfl rfl ?_
  refine zJ_if_ge (tgt := 18) dX12_lot_13 (by decide) rfl (fun hc => ?_) (fun hc => ?_)
  · replace h := it_t hc h
    refine zJ_iconst dX12_lot_18 zc_0 rfl ?_
    refine zJ_istore_n (ls' := [(2, .int (0 : Int32)), (1, .int rn1), (0, .ref 54)]) dX12_lot_19 rfl rfl rfl ?_
    have hk20 : ∀ (m_asTold_20x : (Nat → Int32)), k_X12_lot_20 m_fences m_allowed m_plans m_read m_length m_top m_at m_wrong m_ruleSize m_isAsked m_askedHorse m_askedFence m_askedLetter m_askedHeight m_now m_kind m_height m_feet m_stride m_scope m_care m_plan m_money m_rule m_planOf m_extra m_row m_wins m_typedn2 m_comingManyn3 m_comingn4 m_asTold_20x = some (r, w_m_typed, w_m_rowMany, w_m_thrown, w_m_read, w_m_length, w_m_top, w_m_at, w_m_wrong, w_m_isAsked, w_m_askedHorse, w_m_askedFence, w_m_askedLetter, w_m_askedHeight, w_m_comingMany, w_m_coming, w_m_planOf, w_m_extra, w_m_asTold, w_m_row, w_m_wins) → zJ l zW 409 mX12_lot σ ([(3457, m_fences), (3461, m_allowed), (3462, m_horses), (3466, m_plans), (3470, m_typedn2), (3472, m_rowMany), (3473, (0 : Int32)), (3474, m_read), (3475, m_length), (3476, m_top), (3477, m_at), (3478, m_wrong), (3483, m_ruleSize), (3484, m_isAsked), (3485, m_askedHorse), (3486, m_askedFence), (3487, m_askedLetter), (3488, m_askedHeight), (3503, m_comingManyn3)], [(55, m_now), (56, m_kind), (57, m_height), (58, m_feet), (59, m_stride), (60, m_scope), (61, m_care), (62, m_plan), (63, m_money), (64, m_text), (69, m_rule), (78, m_comingn4), (80, m_planOf), (81, m_extra), (82, m_asTold_20x)], [(65, m_row), (79, m_wins)]) 46 [(0, .ref 54)] [] (some (.int r)) ([(3457, m_fences), (3461, m_allowed), (3462, m_horses), (3466, m_plans), (3470, w_m_typed), (3472, w_m_rowMany), (3473, w_m_thrown), (3474, w_m_read), (3475, w_m_length), (3476, w_m_top), (3477, w_m_at), (3478, w_m_wrong), (3483, m_ruleSize), (3484, w_m_isAsked), (3485, w_m_askedHorse), (3486, w_m_askedFence), (3487, w_m_askedLetter), (3488, w_m_askedHeight), (3503, w_m_comingMany)], [(55, m_now), (56, m_kind), (57, m_height), (58, m_feet), (59, m_stride), (60, m_scope), (61, m_care), (62, m_plan), (63, m_money), (64, m_text), (69, m_rule), (78, w_m_coming), (80, w_m_planOf), (81, w_m_extra), (82, w_m_asTold)], [(65, w_m_row), (79, w_m_wins)]) := by
      intro m_asTold_20x h
      unfold k_X12_lot_20 at h
      refine zJ_iconst dX12_lot_46 zc_0 rfl ?_
      refine zJ_istore_n (ls' := [(2, .int (0 : Int32)), (0, .ref 54)]) dX12_lot_47 rfl rfl rfl ?_
      refine zJ_ldc2_w (v := -1) dX12_lot_48 C_X12_388 rfl ?_
      refine zJ_lstore_n (ls' := [(3, .long (-1 : Int64)), (2, .int (0 : Int32)), (0, .ref 54)]) dX12_lot_51 rfl rfl rfl ?_
      refine zJ_iconst dX12_lot_52 zc_0 rfl ?_
      refine zJ_istore (ls' := [(5, .int (0 : Int32)), (3, .long (-1 : Int64)), (2, .int (0 : Int32)), (0, .ref 54)]) dX12_lot_53 rfl rfl rfl ?_
      have hk55 : ∀ (v2_55x : Int32) (v3_55x : Int64) (m_read_55x : Int32) (m_length_55x : Int32) (m_top_55x : Int32) (m_at_55x : Int32) (m_wrong_55x : Int32) (m_isAsked_55x : Int32) (m_askedHorse_55x : Int32) (m_askedFence_55x : Int32) (m_askedLetter_55x : Int32) (m_askedHeight_55x : Int32) (m_coming_55x : (Nat → Int32)) (m_planOf_55x : (Nat → Int32)) (m_extra_55x : (Nat → Int32)) (m_wins_55x : (Nat → Int64)), k_X12_lot_55 m_row m_typedn2 m_comingManyn3 m_asTold_20x v2_55x v3_55x m_read_55x m_length_55x m_top_55x m_at_55x m_wrong_55x m_isAsked_55x m_askedHorse_55x m_askedFence_55x m_askedLetter_55x m_askedHeight_55x m_coming_55x m_planOf_55x m_extra_55x m_wins_55x = some (r, w_m_typed, w_m_rowMany, w_m_thrown, w_m_read, w_m_length, w_m_top, w_m_at, w_m_wrong, w_m_isAsked, w_m_askedHorse, w_m_askedFence, w_m_askedLetter, w_m_askedHeight, w_m_comingMany, w_m_coming, w_m_planOf, w_m_extra, w_m_asTold, w_m_row, w_m_wins) → zJ l zW 409 mX12_lot σ ([(3457, m_fences), (3461, m_allowed), (3462, m_horses), (3466, m_plans), (3470, m_typedn2), (3472, m_rowMany), (3473, (0 : Int32)), (3474, m_read_55x), (3475, m_length_55x), (3476, m_top_55x), (3477, m_at_55x), (3478, m_wrong_55x), (3483, m_ruleSize), (3484, m_isAsked_55x), (3485, m_askedHorse_55x), (3486, m_askedFence_55x), (3487, m_askedLetter_55x), (3488, m_askedHeight_55x), (3503, m_comingManyn3)], [(55, m_now), (56, m_kind), (57, m_height), (58, m_feet), (59, m_stride), (60, m_scope), (61, m_care), (62, m_plan), (63, m_money), (64, m_text), (69, m_rule), (78, m_coming_55x), (80, m_planOf_55x), (81, m_extra_55x), (82, m_asTold_20x)], [(65, m_row), (79, m_wins_55x)]) 162 [(0, .ref 54), (2, .int v2_55x), (3, .long v3_55x)] [] (some (.int r)) ([(3457, m_fences), (3461, m_allowed), (3462, m_horses), (3466, m_plans), (3470, w_m_typed), (3472, w_m_rowMany), (3473, w_m_thrown), (3474, w_m_read), (3475, w_m_length), (3476, w_m_top), (3477, w_m_at), (3478, w_m_wrong), (3483, m_ruleSize), (3484, w_m_isAsked), (3485, w_m_askedHorse), (3486, w_m_askedFence), (3487, w_m_askedLetter), (3488, w_m_askedHeight), (3503, w_m_comingMany)], [(55, m_now), (56, m_kind), (57, m_height), (58, m_feet), (59, m_stride), (60, m_scope), (61, m_care), (62, m_plan), (63, m_money), (64, m_text), (69, m_rule), (78, w_m_coming), (80, w_m_planOf), (81, w_m_extra), (82, w_m_asTold)], [(65, w_m_row), (79, w_m_wins)]) := by
        intro v2_55x v3_55x m_read_55x m_length_55x m_top_55x m_at_55x m_wrong_55x m_isAsked_55x m_askedHorse_55x m_askedFence_55x m_askedLetter_55x m_askedHeight_55x m_coming_55x m_planOf_55x m_extra_55x m_wins_55x h
        unfold k_X12_lot_55 at h
        refine zJ_aload_n dX12_lot_162 rfl rfl ?_
        refine zJ_iconst dX12_lot_163 zc_0 rfl ?_
        refine zK_puti (mi := mX12_lot) (la' := [(3457, m_fences), (3461, m_allowed), (3462, m_horses), (3466, m_plans), (3470, m_typedn2), (3472, (0 : Int32)), (3473, (0 : Int32)), (3474, m_read_55x), (3475, m_length_55x), (3476, m_top_55x), (3477, m_at_55x), (3478, m_wrong_55x), (3483, m_ruleSize), (3484, m_isAsked_55x), (3485, m_askedHorse_55x), (3486, m_askedFence_55x), (3487, m_askedLetter_55x), (3488, m_askedHeight_55x), (3503, m_comingManyn3)]) zW_ok dX12_lot_164 F_X12_116 P_12_16 zW_54 rfl rfl rfl ?_
        refine zJ_aload_n dX12_lot_167 rfl rfl ?_
        refine zJ_lload_n dX12_lot_168 rfl rfl ?_
        refine zJ_ldc2_w (v := 10000) dX12_lot_169 C_X12_408 rfl ?_
        refine zJ_aload_n dX12_lot_172 rfl rfl ?_
        refine zJ_geti (mi := mX12_lot) (x := m_comingManyn3) dX12_lot_173 F_X12_382 zW_54 rfl rfl rfl ?_
        obtain ⟨rn5, hcl, h⟩ := bd1_some h
        refine zJ_callS2 (σ := σ) (L := ([(3457, m_fences), (3461, m_allowed), (3462, m_horses), (3466, m_plans), (3470, m_typedn2), (3472, (0 : Int32)), (3473, (0 : Int32)), (3474, m_read_55x), (3475, m_length_55x), (3476, m_top_55x), (3477, m_at_55x), (3478, m_wrong_55x), (3483, m_ruleSize), (3484, m_isAsked_55x), (3485, m_askedHorse_55x), (3486, m_askedFence_55x), (3487, m_askedLetter_55x), (3488, m_askedHeight_55x), (3503, m_comingManyn3)], [(55, m_now), (56, m_kind), (57, m_height), (58, m_feet), (59, m_stride), (60, m_scope), (61, m_care), (62, m_plan), (63, m_money), (64, m_text), (69, m_rule), (78, m_coming_55x), (80, m_planOf_55x), (81, m_extra_55x), (82, m_asTold_20x)], [(65, m_row), (79, m_wins_55x)])) (mi := mX12_lot) (yi := mX12_power) (as := [.long (10000 : Int64), .int m_comingManyn3]) (st := [.long v3_55x, .ref 54]) (L2 := ([(3457, m_fences), (3461, m_allowed), (3462, m_horses), (3466, m_plans), (3470, m_typedn2), (3472, (0 : Int32)), (3473, (0 : Int32)), (3474, m_read_55x), (3475, m_length_55x), (3476, m_top_55x), (3477, m_at_55x), (3478, m_wrong_55x), (3483, m_ruleSize), (3484, m_isAsked_55x), (3485, m_askedHorse_55x), (3486, m_askedFence_55x), (3487, m_askedLetter_55x), (3488, m_askedHeight_55x), (3503, m_comingManyn3)], [(55, m_now), (56, m_kind), (57, m_height), (58, m_feet), (59, m_stride), (60, m_scope), (61, m_care), (62, m_plan), (63, m_money), (64, m_text), (69, m_rule), (78, m_coming_55x), (80, m_planOf_55x), (81, m_extra_55x), (82, m_asTold_20x)], [(65, m_row), (79, m_wins_55x)])) dX12_lot_176 ML_X12_410 Ys_X12_power rfl (t_X12_power l _ hcl) (zsub_i zle_n zle_n zle_n) (zjok_i rfl rfl (zle_c rfl (zle_c rfl (zle_c rfl (zle_c rfl (zle_c rfl (zle_c rfl (zle_c rfl (zle_c rfl (zle_c rfl (zle_c rfl (zle_c rfl (zle_c rfl (zle_c rfl (zle_c rfl (zle_c rfl (zle_c rfl (zle_c rfl (zle_c rfl (zle_c rfl zle_n))))))))))))))))))) rfl rfl (zle_c rfl (zle_c rfl (zle_c rfl (zle_c rfl (zle_c rfl (zle_c rfl (zle_c rfl (zle_c rfl (zle_c rfl (zle_c rfl (zle_c rfl (zle_c rfl (zle_c rfl (zle_c rfl (zle_c rfl zle_n))))))))))))))) rfl rfl (zle_c rfl (zle_c rfl zle_n))) (Nat.le_of_ble_eq_true rfl) (Nat.le_of_ble_eq_true rfl) rfl rfl ?_
        obtain ⟨m_rowManyn6, m_rown7, hcl, h⟩ := bd2_some h
        refine zJ_callV2 (σ := σ) (L := ([(3457, m_fences), (3461, m_allowed), (3462, m_horses), (3466, m_plans), (3470, m_typedn2), (3472, (0 : Int32)), (3473, (0 : Int32)), (3474, m_read_55x), (3475, m_length_55x), (3476, m_top_55x), (3477, m_at_55x), (3478, m_wrong_55x), (3483, m_ruleSize), (3484, m_isAsked_55x), (3485, m_askedHorse_55x), (3486, m_askedFence_55x), (3487, m_askedLetter_55x), (3488, m_askedHeight_55x), (3503, m_comingManyn3)], [(55, m_now), (56, m_kind), (57, m_height), (58, m_feet), (59, m_stride), (60, m_scope), (61, m_care), (62, m_plan), (63, m_money), (64, m_text), (69, m_rule), (78, m_coming_55x), (80, m_planOf_55x), (81, m_extra_55x), (82, m_asTold_20x)], [(65, m_row), (79, m_wins_55x)])) (mi := mX12_lot) (yi := mX12_tellPart) (as := [.long v3_55x, .long rn5]) (st := []) (L2 := ([(3457, m_fences), (3461, m_allowed), (3462, m_horses), (3466, m_plans), (3470, m_typedn2), (3472, m_rowManyn6), (3473, (0 : Int32)), (3474, m_read_55x), (3475, m_length_55x), (3476, m_top_55x), (3477, m_at_55x), (3478, m_wrong_55x), (3483, m_ruleSize), (3484, m_isAsked_55x), (3485, m_askedHorse_55x), (3486, m_askedFence_55x), (3487, m_askedLetter_55x), (3488, m_askedHeight_55x), (3503, m_comingManyn3)], [(55, m_now), (56, m_kind), (57, m_height), (58, m_feet), (59, m_stride), (60, m_scope), (61, m_care), (62, m_plan), (63, m_money), (64, m_text), (69, m_rule), (78, m_coming_55x), (80, m_planOf_55x), (81, m_extra_55x), (82, m_asTold_20x)], [(65, m_rown7), (79, m_wins_55x)])) dX12_lot_179 ML_X12_414 Yv_X12_tellPart rfl zW_54 rfl rfl (t_X12_tellPart l _ hcl) (zsub_i (zle_c rfl zle_n) zle_n (zle_c rfl zle_n)) (zjok_i rfl rfl (zle_c rfl (zle_c rfl (zle_c rfl (zle_c rfl (zle_c rfl (zle_c rfl (zle_c rfl (zle_c rfl (zle_c rfl (zle_c rfl (zle_c rfl (zle_c rfl (zle_c rfl (zle_c rfl (zle_c rfl (zle_c rfl (zle_c rfl (zle_c rfl (zle_c rfl zle_n))))))))))))))))))) rfl rfl (zle_c rfl (zle_c rfl (zle_c rfl (zle_c rfl (zle_c rfl (zle_c rfl (zle_c rfl (zle_c rfl (zle_c rfl (zle_c rfl (zle_c rfl (zle_c rfl (zle_c rfl (zle_c rfl (zle_c rfl zle_n))))))))))))))) rfl rfl (zle_c rfl (zle_c rfl zle_n))) (Nat.le_of_ble_eq_true rfl) (Nat.le_of_ble_eq_true rfl) rfl rfl ?_
        refine zJ_iload_n dX12_lot_182 rfl rfl ?_
        obtain ⟨rfl, rfl, rfl, rfl, rfl, rfl, rfl, rfl, rfl, rfl, rfl, rfl, rfl, rfl, rfl, rfl, rfl, rfl, rfl, rfl, rfl⟩ := so21 h
        exact zJ_iret dX12_lot_183 rfl rfl
      refine zJ_loc (ls' := [(0, .ref 54), (2, .int (0 : Int32)), (3, .long (-1 : Int64)), (5, .int (0 : Int32))]) (zll_c rfl (zll_c rfl (zll_c rfl (zll_c rfl zll_n)))) ?_
      refine ml17_J (fun (v2_55 : Int32) (v3_55 : Int64) (v5_55 : Int32) (m_read_55 : Int32) (m_length_55 : Int32) (m_top_55 : Int32) (m_at_55 : Int32) (m_wrong_55 : Int32) (m_isAsked_55 : Int32) (m_askedHorse_55 : Int32) (m_askedFence_55 : Int32) (m_askedLetter_55 : Int32) (m_askedHeight_55 : Int32) (m_coming_55 : (Nat → Int32)) (m_planOf_55 : (Nat → Int32)) (m_extra_55 : (Nat → Int32)) (m_wins_55 : (Nat → Int64)) => zJ l zW 409 mX12_lot σ ([(3457, m_fences), (3461, m_allowed), (3462, m_horses), (3466, m_plans), (3470, m_typedn2), (3472, m_rowMany), (3473, (0 : Int32)), (3474, m_read_55), (3475, m_length_55), (3476, m_top_55), (3477, m_at_55), (3478, m_wrong_55), (3483, m_ruleSize), (3484, m_isAsked_55), (3485, m_askedHorse_55), (3486, m_askedFence_55), (3487, m_askedLetter_55), (3488, m_askedHeight_55), (3503, m_comingManyn3)], [(55, m_now), (56, m_kind), (57, m_height), (58, m_feet), (59, m_stride), (60, m_scope), (61, m_care), (62, m_plan), (63, m_money), (64, m_text), (69, m_rule), (78, m_coming_55), (80, m_planOf_55), (81, m_extra_55), (82, m_asTold_20x)], [(65, m_row), (79, m_wins_55)]) 55 [(0, .ref 54), (2, .int v2_55), (3, .long v3_55), (5, .int v5_55)] [] (some (.int r)) ([(3457, m_fences), (3461, m_allowed), (3462, m_horses), (3466, m_plans), (3470, w_m_typed), (3472, w_m_rowMany), (3473, w_m_thrown), (3474, w_m_read), (3475, w_m_length), (3476, w_m_top), (3477, w_m_at), (3478, w_m_wrong), (3483, m_ruleSize), (3484, w_m_isAsked), (3485, w_m_askedHorse), (3486, w_m_askedFence), (3487, w_m_askedLetter), (3488, w_m_askedHeight), (3503, w_m_comingMany)], [(55, m_now), (56, m_kind), (57, m_height), (58, m_feet), (59, m_stride), (60, m_scope), (61, m_care), (62, m_plan), (63, m_money), (64, m_text), (69, m_rule), (78, w_m_coming), (80, w_m_planOf), (81, w_m_extra), (82, w_m_asTold)], [(65, w_m_row), (79, w_m_wins)])) (fun rc55 hrc55 v2_55 v3_55 v5_55 m_read_55 m_length_55 m_top_55 m_at_55 m_wrong_55 m_isAsked_55 m_askedHorse_55 m_askedFence_55 m_askedLetter_55 m_askedHeight_55 m_coming_55 m_planOf_55 m_extra_55 m_wins_55 h => ?_) zN _ _ _ _ _ _ _ _ _ _ _ _ _ _ _ _ _ h
      unfold s_X12_lot_55 at h
      refine zJ_iload dX12_lot_55 rfl rfl ?_
      refine zJ_aload_n dX12_lot_57 rfl rfl ?_
      refine zJ_geti (mi := mX12_lot) (x := m_comingManyn3) dX12_lot_58 F_X12_382 zW_54 rfl rfl rfl ?_
      refine zJ_icmp_ge (tgt := 162) dX12_lot_61 (by decide) rfl (fun hc => ?_) (fun hc => ?_)
      · replace h := it_t hc h
        refine zJ_loc (ls' := [(0, .ref 54), (2, .int v2_55), (3, .long v3_55)]) (zll_c rfl (zll_c rfl (zll_c rfl zll_n))) ?_
        exact hk55 _ _ _ _ _ _ _ _ _ _ _ _ _ _ _ _ h
      · replace h := it_f hc h
        refine zJ_iconst dX12_lot_64 zc_1 rfl ?_
        refine zJ_istore (ls' := [(6, .int (1 : Int32)), (0, .ref 54), (2, .int v2_55), (3, .long v3_55), (5, .int v5_55)]) dX12_lot_65 rfl rfl rfl ?_
        refine zJ_iconst dX12_lot_67 zc_0 rfl ?_
        refine zJ_istore (ls' := [(7, .int (0 : Int32)), (6, .int (1 : Int32)), (0, .ref 54), (2, .int v2_55), (3, .long v3_55), (5, .int v5_55)]) dX12_lot_68 rfl rfl rfl ?_
        have hk70 : ∀ (m_coming_70x : (Nat → Int32)), k_X12_lot_70 m_fences m_allowed m_plans m_ruleSize m_now m_kind m_height m_feet m_stride m_scope m_care m_plan m_money m_rule m_comingManyn3 rc55 v2_55 v3_55 v5_55 m_read_55 m_length_55 m_top_55 m_at_55 m_wrong_55 m_isAsked_55 m_askedHorse_55 m_askedFence_55 m_askedLetter_55 m_askedHeight_55 m_planOf_55 m_extra_55 m_wins_55 m_coming_70x = some (r, w_m_typed, w_m_rowMany, w_m_thrown, w_m_read, w_m_length, w_m_top, w_m_at, w_m_wrong, w_m_isAsked, w_m_askedHorse, w_m_askedFence, w_m_askedLetter, w_m_askedHeight, w_m_comingMany, w_m_coming, w_m_planOf, w_m_extra, w_m_asTold, w_m_row, w_m_wins) → zJ l zW 409 mX12_lot σ ([(3457, m_fences), (3461, m_allowed), (3462, m_horses), (3466, m_plans), (3470, m_typedn2), (3472, m_rowMany), (3473, (0 : Int32)), (3474, m_read_55), (3475, m_length_55), (3476, m_top_55), (3477, m_at_55), (3478, m_wrong_55), (3483, m_ruleSize), (3484, m_isAsked_55), (3485, m_askedHorse_55), (3486, m_askedFence_55), (3487, m_askedLetter_55), (3488, m_askedHeight_55), (3503, m_comingManyn3)], [(55, m_now), (56, m_kind), (57, m_height), (58, m_feet), (59, m_stride), (60, m_scope), (61, m_care), (62, m_plan), (63, m_money), (64, m_text), (69, m_rule), (78, m_coming_70x), (80, m_planOf_55), (81, m_extra_55), (82, m_asTold_20x)], [(65, m_row), (79, m_wins_55)]) 125 [(0, .ref 54), (2, .int v2_55), (3, .long v3_55), (5, .int v5_55)] [] (some (.int r)) ([(3457, m_fences), (3461, m_allowed), (3462, m_horses), (3466, m_plans), (3470, w_m_typed), (3472, w_m_rowMany), (3473, w_m_thrown), (3474, w_m_read), (3475, w_m_length), (3476, w_m_top), (3477, w_m_at), (3478, w_m_wrong), (3483, m_ruleSize), (3484, w_m_isAsked), (3485, w_m_askedHorse), (3486, w_m_askedFence), (3487, w_m_askedLetter), (3488, w_m_askedHeight), (3503, w_m_comingMany)], [(55, m_now), (56, m_kind), (57, m_height), (58, m_feet), (59, m_stride), (60, m_scope), (61, m_care), (62, m_plan), (63, m_money), (64, m_text), (69, m_rule), (78, w_m_coming), (80, w_m_planOf), (81, w_m_extra), (82, w_m_asTold)], [(65, w_m_row), (79, w_m_wins)]) := by
          intro m_coming_70x h
          unfold k_X12_lot_70 at h
          refine zJ_aload_n dX12_lot_125 rfl rfl ?_
          refine zJ_iconst dX12_lot_126 zc_0 rfl ?_
          obtain ⟨m_readn8, m_lengthn9, m_topn10, m_atn11, m_wrongn12, m_isAskedn13, m_askedHorsen14, m_askedFencen15, m_askedLettern16, m_askedHeightn17, m_planOfn18, m_extran19, m_winsn20, hcl, h⟩ := bd13_some h
          refine zJ_callV2 (σ := σ) (L := ([(3457, m_fences), (3461, m_allowed), (3462, m_horses), (3466, m_plans), (3470, m_typedn2), (3472, m_rowMany), (3473, (0 : Int32)), (3474, m_read_55), (3475, m_length_55), (3476, m_top_55), (3477, m_at_55), (3478, m_wrong_55), (3483, m_ruleSize), (3484, m_isAsked_55), (3485, m_askedHorse_55), (3486, m_askedFence_55), (3487, m_askedLetter_55), (3488, m_askedHeight_55), (3503, m_comingManyn3)], [(55, m_now), (56, m_kind), (57, m_height), (58, m_feet), (59, m_stride), (60, m_scope), (61, m_care), (62, m_plan), (63, m_money), (64, m_text), (69, m_rule), (78, m_coming_70x), (80, m_planOf_55), (81, m_extra_55), (82, m_asTold_20x)], [(65, m_row), (79, m_wins_55)])) (mi := mX12_lot) (yi := mX12_goGame) (as := [.int (0 : Int32)]) (st := []) (L2 := ([(3457, m_fences), (3461, m_allowed), (3462, m_horses), (3466, m_plans), (3470, m_typedn2), (3472, m_rowMany), (3473, (0 : Int32)), (3474, m_readn8), (3475, m_lengthn9), (3476, m_topn10), (3477, m_atn11), (3478, m_wrongn12), (3483, m_ruleSize), (3484, m_isAskedn13), (3485, m_askedHorsen14), (3486, m_askedFencen15), (3487, m_askedLettern16), (3488, m_askedHeightn17), (3503, m_comingManyn3)], [(55, m_now), (56, m_kind), (57, m_height), (58, m_feet), (59, m_stride), (60, m_scope), (61, m_care), (62, m_plan), (63, m_money), (64, m_text), (69, m_rule), (78, m_coming_70x), (80, m_planOfn18), (81, m_extran19), (82, m_asTold_20x)], [(65, m_row), (79, m_winsn20)])) dX12_lot_127 ML_X12_394 Yv_X12_goGame rfl zW_54 rfl rfl (t_X12_goGame l _ 200 hcl) (zsub_i (zle_c rfl (zle_c rfl (zle_c rfl (zle_c rfl (zle_c rfl (zle_c rfl (zle_c rfl (zle_c rfl (zle_c rfl (zle_c rfl (zle_c rfl (zle_c rfl (zle_c rfl (zle_c rfl (zle_c rfl zle_n))))))))))))))) (zle_c rfl (zle_c rfl (zle_c rfl (zle_c rfl (zle_c rfl (zle_c rfl (zle_c rfl (zle_c rfl (zle_c rfl (zle_c rfl (zle_c rfl (zle_c rfl (zle_c rfl zle_n))))))))))))) (zle_c rfl zle_n)) (zjok_i rfl rfl (zle_c rfl (zle_c rfl (zle_c rfl (zle_c rfl (zle_c rfl (zle_c rfl (zle_c rfl (zle_c rfl (zle_c rfl (zle_c rfl (zle_c rfl (zle_c rfl (zle_c rfl (zle_c rfl (zle_c rfl (zle_c rfl (zle_c rfl (zle_c rfl (zle_c rfl zle_n))))))))))))))))))) rfl rfl (zle_c rfl (zle_c rfl (zle_c rfl (zle_c rfl (zle_c rfl (zle_c rfl (zle_c rfl (zle_c rfl (zle_c rfl (zle_c rfl (zle_c rfl (zle_c rfl (zle_c rfl (zle_c rfl (zle_c rfl zle_n))))))))))))))) rfl rfl (zle_c rfl (zle_c rfl zle_n))) (Nat.le_of_ble_eq_true rfl) (Nat.le_of_ble_eq_true rfl) rfl rfl ?_
          refine zJ_aload_n dX12_lot_130 rfl rfl ?_
          refine zJ_getr (mi := mX12_lot) dX12_lot_131 F_X12_88 zW_54 rfl rfl ?_
          refine zJ_iload dX12_lot_134 rfl rfl ?_
          obtain ⟨hg, h⟩ := gd_some h
          refine zJ_lald (mi := mX12_lot) (f := m_winsn20) dX12_lot_136 zW_79 (ix_in hg) rfl rfl ?_
          refine zJ_lload_n dX12_lot_137 rfl rfl ?_
          refine zJ_lcmp dX12_lot_138 rfl ?_
          refine zJ_if_gt (tgt := 145) dX12_lot_139 (by decide) rfl (fun hc => ?_) (fun hc => ?_)
          · replace h := it_t hc h
            refine zJ_iload dX12_lot_145 rfl rfl ?_
            refine zJ_istore_n (ls' := [(2, .int v5_55), (0, .ref 54), (3, .long v3_55), (5, .int v5_55)]) dX12_lot_147 rfl rfl rfl ?_
            refine zJ_aload_n dX12_lot_148 rfl rfl ?_
            refine zJ_getr (mi := mX12_lot) dX12_lot_149 F_X12_88 zW_54 rfl rfl ?_
            refine zJ_iload dX12_lot_152 rfl rfl ?_
            obtain ⟨hg, h⟩ := gd_some h
            refine zJ_lald (mi := mX12_lot) (f := m_winsn20) dX12_lot_154 zW_79 (ix_in hg) rfl rfl ?_
            obtain ⟨v3n21, ev3n21, h⟩ := lt1_some h
            refine zJ_nml ev3n21 ?_
            refine zJ_lstore_n (ls' := [(3, .long v3n21), (2, .int v5_55), (0, .ref 54), (5, .int v5_55)]) dX12_lot_155 rfl rfl rfl ?_
            obtain ⟨v5n22, ev5n22, h⟩ := lt1_some h
            refine zJ_iincN (ls' := [(5, .int v5n22), (3, .long v3n21), (2, .int v5_55), (0, .ref 54)]) dX12_lot_156 rfl rfl zc_1 ev5n22 rfl rfl ?_
            refine zJ_goto (tgt := 55) dX12_lot_159 (by decide) ?_
            refine zJ_loc (ls' := [(0, .ref 54), (2, .int v5_55), (3, .long v3n21), (5, .int v5n22)]) (zll_c rfl (zll_c rfl (zll_c rfl (zll_c rfl zll_n)))) ?_
            exact hrc55 _ _ _ _ _ _ _ _ _ _ _ _ _ _ _ _ _ h
          · replace h := it_f hc h
            refine zJ_goto (tgt := 156) dX12_lot_142 (by decide) ?_
            obtain ⟨v5n23, ev5n23, h⟩ := lt1_some h
            refine zJ_iincN (ls' := [(5, .int v5n23), (0, .ref 54), (2, .int v2_55), (3, .long v3_55)]) dX12_lot_156 rfl rfl zc_1 ev5n23 rfl rfl ?_
            refine zJ_goto (tgt := 55) dX12_lot_159 (by decide) ?_
            refine zJ_loc (ls' := [(0, .ref 54), (2, .int v2_55), (3, .long v3_55), (5, .int v5n23)]) (zll_c rfl (zll_c rfl (zll_c rfl (zll_c rfl zll_n)))) ?_
            exact hrc55 _ _ _ _ _ _ _ _ _ _ _ _ _ _ _ _ _ h
        refine zJ_loc (ls' := [(0, .ref 54), (2, .int v2_55), (3, .long v3_55), (5, .int v5_55), (6, .int (1 : Int32)), (7, .int (0 : Int32))]) (zll_c rfl (zll_c rfl (zll_c rfl (zll_c rfl (zll_c rfl (zll_c rfl zll_n)))))) ?_
        refine ml3_J (fun (v6_70 : Int32) (v7_70 : Int32) (m_coming_70 : (Nat → Int32)) => zJ l zW 409 mX12_lot σ ([(3457, m_fences), (3461, m_allowed), (3462, m_horses), (3466, m_plans), (3470, m_typedn2), (3472, m_rowMany), (3473, (0 : Int32)), (3474, m_read_55), (3475, m_length_55), (3476, m_top_55), (3477, m_at_55), (3478, m_wrong_55), (3483, m_ruleSize), (3484, m_isAsked_55), (3485, m_askedHorse_55), (3486, m_askedFence_55), (3487, m_askedLetter_55), (3488, m_askedHeight_55), (3503, m_comingManyn3)], [(55, m_now), (56, m_kind), (57, m_height), (58, m_feet), (59, m_stride), (60, m_scope), (61, m_care), (62, m_plan), (63, m_money), (64, m_text), (69, m_rule), (78, m_coming_70), (80, m_planOf_55), (81, m_extra_55), (82, m_asTold_20x)], [(65, m_row), (79, m_wins_55)]) 70 [(0, .ref 54), (2, .int v2_55), (3, .long v3_55), (5, .int v5_55), (6, .int v6_70), (7, .int v7_70)] [] (some (.int r)) ([(3457, m_fences), (3461, m_allowed), (3462, m_horses), (3466, m_plans), (3470, w_m_typed), (3472, w_m_rowMany), (3473, w_m_thrown), (3474, w_m_read), (3475, w_m_length), (3476, w_m_top), (3477, w_m_at), (3478, w_m_wrong), (3483, m_ruleSize), (3484, w_m_isAsked), (3485, w_m_askedHorse), (3486, w_m_askedFence), (3487, w_m_askedLetter), (3488, w_m_askedHeight), (3503, w_m_comingMany)], [(55, m_now), (56, m_kind), (57, m_height), (58, m_feet), (59, m_stride), (60, m_scope), (61, m_care), (62, m_plan), (63, m_money), (64, m_text), (69, m_rule), (78, w_m_coming), (80, w_m_planOf), (81, w_m_extra), (82, w_m_asTold)], [(65, w_m_row), (79, w_m_wins)])) (fun rc70 hrc70 v6_70 v7_70 m_coming_70 h => ?_) zN _ _ _ h
        unfold s_X12_lot_70 at h
        refine zJ_iload dX12_lot_70 rfl rfl ?_
        refine zJ_aload_n dX12_lot_72 rfl rfl ?_
        refine zJ_geti (mi := mX12_lot) (x := m_comingManyn3) dX12_lot_73 F_X12_382 zW_54 rfl rfl rfl ?_
        refine zJ_icmp_ge (tgt := 125) dX12_lot_76 (by decide) rfl (fun hc => ?_) (fun hc => ?_)
        · replace h := it_t hc h
          refine zJ_loc (ls' := [(0, .ref 54), (2, .int v2_55), (3, .long v3_55), (5, .int v5_55)]) (zll_c rfl (zll_c rfl (zll_c rfl (zll_c rfl zll_n)))) ?_
          exact hk70 _ h
        · replace h := it_f hc h
          refine zJ_aload_n dX12_lot_79 rfl rfl ?_
          refine zJ_getr (mi := mX12_lot) dX12_lot_80 F_X12_85 zW_54 rfl rfl ?_
          refine zJ_iload dX12_lot_83 rfl rfl ?_
          refine zJ_iload dX12_lot_85 rfl rfl ?_
          refine zJ_iload dX12_lot_87 rfl rfl ?_
          refine zJ_icmp_ne (tgt := 101) dX12_lot_89 (by decide) rfl (fun hc => ?_) (fun hc => ?_)
          · replace h := it_f hc h
            refine zJ_aload_n dX12_lot_101 rfl rfl ?_
            refine zJ_getr (mi := mX12_lot) dX12_lot_102 F_X12_97 zW_54 rfl rfl ?_
            refine zJ_iload dX12_lot_105 rfl rfl ?_
            obtain ⟨hg, h⟩ := gd_some h
            refine zJ_iald (mi := mX12_lot) (f := m_asTold_20x) dX12_lot_107 zW_82 (ix_in hg) rfl rfl ?_
            obtain ⟨hg, h⟩ := gd_some h
            refine zK_iast (mi := mX12_lot) (f := m_coming_70) (lb' := [(55, m_now), (56, m_kind), (57, m_height), (58, m_feet), (59, m_stride), (60, m_scope), (61, m_care), (62, m_plan), (63, m_money), (64, m_text), (69, m_rule), (78, (upd m_coming_70 v7_70.toNatClampNeg (m_asTold_20x v6_70.toNatClampNeg))), (80, m_planOf_55), (81, m_extra_55), (82, m_asTold_20x)]) dX12_lot_108 zW_78 (ix_in hg) rfl rfl rfl ?_
            refine zJ_iload dX12_lot_109 rfl rfl ?_
            refine zJ_iload dX12_lot_111 rfl rfl ?_
            refine zJ_icmp_eq (tgt := 119) dX12_lot_113 (by decide) rfl (fun hc => ?_) (fun hc => ?_)
            · replace h := it_t hc h
              obtain ⟨v7n24, ev7n24, h⟩ := lt1_some h
              refine zJ_iincN (ls' := [(7, .int v7n24), (0, .ref 54), (2, .int v2_55), (3, .long v3_55), (5, .int v5_55), (6, .int v6_70)]) dX12_lot_119 rfl rfl zc_1 ev7n24 rfl rfl ?_
              refine zJ_goto (tgt := 70) dX12_lot_122 (by decide) ?_
              refine zJ_loc (ls' := [(0, .ref 54), (2, .int v2_55), (3, .long v3_55), (5, .int v5_55), (6, .int v6_70), (7, .int v7n24)]) (zll_c rfl (zll_c rfl (zll_c rfl (zll_c rfl (zll_c rfl (zll_c rfl zll_n)))))) ?_
              exact hrc70 _ _ _ h
            · replace h := it_f hc h
              obtain ⟨v6n25, ev6n25, h⟩ := lt1_some h
              refine zJ_iincN (ls' := [(6, .int v6n25), (0, .ref 54), (2, .int v2_55), (3, .long v3_55), (5, .int v5_55), (7, .int v7_70)]) dX12_lot_116 rfl rfl zc_1 ev6n25 rfl rfl ?_
              obtain ⟨v7n26, ev7n26, h⟩ := lt1_some h
              refine zJ_iincN (ls' := [(7, .int v7n26), (6, .int v6n25), (0, .ref 54), (2, .int v2_55), (3, .long v3_55), (5, .int v5_55)]) dX12_lot_119 rfl rfl zc_1 ev7n26 rfl rfl ?_
              refine zJ_goto (tgt := 70) dX12_lot_122 (by decide) ?_
              refine zJ_loc (ls' := [(0, .ref 54), (2, .int v2_55), (3, .long v3_55), (5, .int v5_55), (6, .int v6n25), (7, .int v7n26)]) (zll_c rfl (zll_c rfl (zll_c rfl (zll_c rfl (zll_c rfl (zll_c rfl zll_n)))))) ?_
              exact hrc70 _ _ _ h
          · replace h := it_t hc h
            refine zJ_aload_n dX12_lot_92 rfl rfl ?_
            refine zJ_getr (mi := mX12_lot) dX12_lot_93 F_X12_97 zW_54 rfl rfl ?_
            refine zJ_iconst dX12_lot_96 zc_0 rfl ?_
            obtain ⟨hg, h⟩ := gd_some h
            refine zJ_iald (mi := mX12_lot) (f := m_asTold_20x) dX12_lot_97 zW_82 (ix_in hg) rfl rfl ?_
            refine zJ_goto (tgt := 108) dX12_lot_98 (by decide) ?_
            obtain ⟨hg, h⟩ := gd_some h
            refine zK_iast (mi := mX12_lot) (f := m_coming_70) (lb' := [(55, m_now), (56, m_kind), (57, m_height), (58, m_feet), (59, m_stride), (60, m_scope), (61, m_care), (62, m_plan), (63, m_money), (64, m_text), (69, m_rule), (78, (upd m_coming_70 v7_70.toNatClampNeg (m_asTold_20x (0 : Int32).toNatClampNeg))), (80, m_planOf_55), (81, m_extra_55), (82, m_asTold_20x)]) dX12_lot_108 zW_78 (ix_in hg) rfl rfl rfl ?_
            refine zJ_iload dX12_lot_109 rfl rfl ?_
            refine zJ_iload dX12_lot_111 rfl rfl ?_
            refine zJ_icmp_eq (tgt := 119) dX12_lot_113 (by decide) rfl (fun hc => ?_) (fun hc => ?_)
            · replace h := it_t hc h
              obtain ⟨v7n27, ev7n27, h⟩ := lt1_some h
              refine zJ_iincN (ls' := [(7, .int v7n27), (0, .ref 54), (2, .int v2_55), (3, .long v3_55), (5, .int v5_55), (6, .int v6_70)]) dX12_lot_119 rfl rfl zc_1 ev7n27 rfl rfl ?_
              refine zJ_goto (tgt := 70) dX12_lot_122 (by decide) ?_
              refine zJ_loc (ls' := [(0, .ref 54), (2, .int v2_55), (3, .long v3_55), (5, .int v5_55), (6, .int v6_70), (7, .int v7n27)]) (zll_c rfl (zll_c rfl (zll_c rfl (zll_c rfl (zll_c rfl (zll_c rfl zll_n)))))) ?_
              exact hrc70 _ _ _ h
            · replace h := it_f hc h
              obtain ⟨v6n28, ev6n28, h⟩ := lt1_some h
              refine zJ_iincN (ls' := [(6, .int v6n28), (0, .ref 54), (2, .int v2_55), (3, .long v3_55), (5, .int v5_55), (7, .int v7_70)]) dX12_lot_116 rfl rfl zc_1 ev6n28 rfl rfl ?_
              obtain ⟨v7n29, ev7n29, h⟩ := lt1_some h
              refine zJ_iincN (ls' := [(7, .int v7n29), (6, .int v6n28), (0, .ref 54), (2, .int v2_55), (3, .long v3_55), (5, .int v5_55)]) dX12_lot_119 rfl rfl zc_1 ev7n29 rfl rfl ?_
              refine zJ_goto (tgt := 70) dX12_lot_122 (by decide) ?_
              refine zJ_loc (ls' := [(0, .ref 54), (2, .int v2_55), (3, .long v3_55), (5, .int v5_55), (6, .int v6n28), (7, .int v7n29)]) (zll_c rfl (zll_c rfl (zll_c rfl (zll_c rfl (zll_c rfl (zll_c rfl zll_n)))))) ?_
              exact hrc70 _ _ _ h
    refine zJ_loc (ls' := [(0, .ref 54), (2, .int (0 : Int32))]) (zll_c rfl (zll_c rfl zll_n)) ?_
    refine ml2_J (fun (v2_20 : Int32) (m_asTold_20 : (Nat → Int32)) => zJ l zW 409 mX12_lot σ ([(3457, m_fences), (3461, m_allowed), (3462, m_horses), (3466, m_plans), (3470, m_typedn2), (3472, m_rowMany), (3473, (0 : Int32)), (3474, m_read), (3475, m_length), (3476, m_top), (3477, m_at), (3478, m_wrong), (3483, m_ruleSize), (3484, m_isAsked), (3485, m_askedHorse), (3486, m_askedFence), (3487, m_askedLetter), (3488, m_askedHeight), (3503, m_comingManyn3)], [(55, m_now), (56, m_kind), (57, m_height), (58, m_feet), (59, m_stride), (60, m_scope), (61, m_care), (62, m_plan), (63, m_money), (64, m_text), (69, m_rule), (78, m_comingn4), (80, m_planOf), (81, m_extra), (82, m_asTold_20)], [(65, m_row), (79, m_wins)]) 20 [(0, .ref 54), (2, .int v2_20)] [] (some (.int r)) ([(3457, m_fences), (3461, m_allowed), (3462, m_horses), (3466, m_plans), (3470, w_m_typed), (3472, w_m_rowMany), (3473, w_m_thrown), (3474, w_m_read), (3475, w_m_length), (3476, w_m_top), (3477, w_m_at), (3478, w_m_wrong), (3483, m_ruleSize), (3484, w_m_isAsked), (3485, w_m_askedHorse), (3486, w_m_askedFence), (3487, w_m_askedLetter), (3488, w_m_askedHeight), (3503, w_m_comingMany)], [(55, m_now), (56, m_kind), (57, m_height), (58, m_feet), (59, m_stride), (60, m_scope), (61, m_care), (62, m_plan), (63, m_money), (64, m_text), (69, m_rule), (78, w_m_coming), (80, w_m_planOf), (81, w_m_extra), (82, w_m_asTold)], [(65, w_m_row), (79, w_m_wins)])) (fun rc20 hrc20 v2_20 m_asTold_20 h => ?_) zN _ _ h
    unfold s_X12_lot_20 at h
    refine zJ_iload_n dX12_lot_20 rfl rfl ?_
    refine zJ_aload_n dX12_lot_21 rfl rfl ?_
    refine zJ_geti (mi := mX12_lot) (x := m_comingManyn3) dX12_lot_22 F_X12_382 zW_54 rfl rfl rfl ?_
    refine zJ_icmp_ge (tgt := 46) dX12_lot_25 (by decide) rfl (fun hc => ?_) (fun hc => ?_)
    · replace h := it_t hc h
      refine zJ_loc (ls' := [(0, .ref 54)]) (zll_c rfl zll_n) ?_
      exact hk20 _ h
    · replace h := it_f hc h
      refine zJ_aload_n dX12_lot_28 rfl rfl ?_
      refine zJ_getr (mi := mX12_lot) dX12_lot_29 F_X12_97 zW_54 rfl rfl ?_
      refine zJ_iload_n dX12_lot_32 rfl rfl ?_
      refine zJ_aload_n dX12_lot_33 rfl rfl ?_
      refine zJ_getr (mi := mX12_lot) dX12_lot_34 F_X12_85 zW_54 rfl rfl ?_
      refine zJ_iload_n dX12_lot_37 rfl rfl ?_
      obtain ⟨hg, h⟩ := gd_some h
      refine zJ_iald (mi := mX12_lot) (f := m_comingn4) dX12_lot_38 zW_78 (ix_in hg) rfl rfl ?_
      obtain ⟨hg, h⟩ := gd_some h
      refine zK_iast (mi := mX12_lot) (f := m_asTold_20) (lb' := [(55, m_now), (56, m_kind), (57, m_height), (58, m_feet), (59, m_stride), (60, m_scope), (61, m_care), (62, m_plan), (63, m_money), (64, m_text), (69, m_rule), (78, m_comingn4), (80, m_planOf), (81, m_extra), (82, (upd m_asTold_20 v2_20.toNatClampNeg (m_comingn4 v2_20.toNatClampNeg)))]) dX12_lot_39 zW_82 (ix_in hg) rfl rfl rfl ?_
      obtain ⟨v2n30, ev2n30, h⟩ := lt1_some h
      refine zJ_iincN (ls' := [(2, .int v2n30), (0, .ref 54)]) dX12_lot_40 rfl rfl zc_1 ev2n30 rfl rfl ?_
      refine zJ_goto (tgt := 20) dX12_lot_43 (by decide) ?_
      refine zJ_loc (ls' := [(0, .ref 54), (2, .int v2n30)]) (zll_c rfl (zll_c rfl zll_n)) ?_
      exact hrc20 _ _ h
  · replace h := it_f hc h
    refine zJ_iload_n dX12_lot_16 rfl rfl ?_
    obtain ⟨rfl, rfl, rfl, rfl, rfl, rfl, rfl, rfl, rfl, rfl, rfl, rfl, rfl, rfl, rfl, rfl, rfl, rfl, rfl, rfl, rfl⟩ := so21 h
    exact zJ_iret dX12_lot_17 rfl rfl
