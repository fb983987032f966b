set_option maxRecDepth 100000 in
set_option maxHeartbeats 4000000 in
theorem t_X10_placeOf_rounds_faults (l : Launch) (σ : zS) {p1 : Int32} {rounds_size : Int32} {rounds_faults : (Nat → Int32)} {rounds_tenths : (Nat → Int32)} {r : Int32} (h : f_X10_placeOf_rounds_faults p1 rounds_size rounds_faults rounds_tenths = some r) : zMt l zW 0 mX10_placeOf σ ([(1284, rounds_size)], [(23, rounds_faults), (24, rounds_tenths)], []) [.ref 20, .int p1, .ref 23] (some (.int r)) ([(1284, rounds_size)], [(23, rounds_faults), (24, rounds_tenths)], []) := by
  refine zMt_of (ls := [(0, .ref 20), (1, .int p1), (2, .ref 23)]) (by decide) rfl (fun _ => Nat.le_of_ble_eq_true rfl) rfl ?_
  unfold f_X10_placeOf_rounds_faults at h
  refine zJ_iconst dX10_placeOf_0 zc_1 rfl ?_
  refine zJ_istore_n (ls' := [(3, .int (1 : Int32)), (0, .ref 20), (1, .int p1), (2, .ref 23)]) dX10_placeOf_1 rfl rfl rfl ?_
  refine zJ_iconst dX10_placeOf_2 zc_0 rfl ?_
  refine zJ_istore (ls' := [(4, .int (0 : Int32)), (3, .int (1 : Int32)), (0, .ref 20), (1, .int p1), (2, .ref 23)]) dX10_placeOf_3 rfl rfl rfl ?_
  have hk5 : ∀ (v3_5x : Int32), k_X10_placeOf_rounds_faults_5  v3_5x = some r → zJ l zW 0 mX10_placeOf σ ([(1284, rounds_size)], [(23, rounds_faults), (24, rounds_tenths)], []) 108 [(3, .int v3_5x)] [] (some (.int r)) ([(1284, rounds_size)], [(23, rounds_faults), (24, rounds_tenths)], []) := by
    intro v3_5x h
    unfold k_X10_placeOf_rounds_faults_5 at h
    refine zJ_iload_n dX10_placeOf_108 rfl rfl ?_
    obtain rfl := so1 h
    exact zJ_iret dX10_placeOf_109 rfl rfl
  refine zJ_loc (ls' := [(0, .ref 20), (1, .int p1), (2, .ref 23), (3, .int (1 : Int32)), (4, .int (0 : Int32))]) (zll_c rfl (zll_c rfl (zll_c rfl (zll_c rfl (zll_c rfl zll_n))))) ?_
  refine ml2_J (fun (v3_5 : Int32) (v4_5 : Int32) => zJ l zW 0 mX10_placeOf σ ([(1284, rounds_size)], [(23, rounds_faults), (24, rounds_tenths)], []) 5 [(0, .ref 20), (1, .int p1), (2, .ref 23), (3, .int v3_5), (4, .int v4_5)] [] (some (.int r)) ([(1284, rounds_size)], [(23, rounds_faults), (24, rounds_tenths)], [])) (fun rc5 hrc5 v3_5 v4_5 h => ?_) zN _ _ h
  unfold s_X10_placeOf_rounds_faults_5 at h
  refine zJ_iload dX10_placeOf_5 rfl rfl ?_
  refine zJ_aload_n dX10_placeOf_7 rfl rfl ?_
  refine zJ_geti (mi := mX10_placeOf) (x := rounds_size) dX10_placeOf_8 F_X10_64 zW_20 rfl rfl rfl ?_
  refine zJ_icmp_ge (tgt := 108) dX10_placeOf_11 (by decide) rfl (fun hc => ?_) (fun hc => ?_)
  · replace h := it_t hc h
    refine zJ_loc (ls' := [(3, .int v3_5)]) (zll_c rfl zll_n) ?_
    exact hk5 _ h
  · replace h := it_f hc h
    refine zJ_aload_n dX10_placeOf_14 rfl rfl ?_
    refine zJ_iload dX10_placeOf_15 rfl rfl ?_
    obtain ⟨hg, h⟩ := gd_some h
    refine zJ_iald (mi := mX10_placeOf) (f := rounds_faults) dX10_placeOf_17 zW_23 (ix_in hg) rfl rfl ?_
    refine zJ_aload_n dX10_placeOf_18 rfl rfl ?_
    refine zJ_iload_n dX10_placeOf_19 rfl rfl ?_
    obtain ⟨hg, h⟩ := gd_some h
    refine zJ_iald (mi := mX10_placeOf) (f := rounds_faults) dX10_placeOf_20 zW_23 (ix_in hg) rfl rfl ?_
    refine zJ_icmp_eq (tgt := 45) dX10_placeOf_21 (by decide) rfl (fun hc => ?_) (fun hc => ?_)
    · replace h := it_t hc h
      refine zJ_aload_n dX10_placeOf_45 rfl rfl ?_
      refine zJ_getr (mi := mX10_placeOf) dX10_placeOf_46 F_X10_21 zW_20 rfl rfl ?_
      refine zJ_iload dX10_placeOf_49 rfl rfl ?_
      obtain ⟨hg, h⟩ := gd_some h
      refine zJ_iald (mi := mX10_placeOf) (f := rounds_tenths) dX10_placeOf_51 zW_24 (ix_in hg) rfl rfl ?_
      refine zJ_aload_n dX10_placeOf_52 rfl rfl ?_
      refine zJ_getr (mi := mX10_placeOf) dX10_placeOf_53 F_X10_21 zW_20 rfl rfl ?_
      refine zJ_iload_n dX10_placeOf_56 rfl rfl ?_
      obtain ⟨hg, h⟩ := gd_some h
      refine zJ_iald (mi := mX10_placeOf) (f := rounds_tenths) dX10_placeOf_57 zW_24 (ix_in hg) rfl rfl ?_
      refine zJ_icmp_eq (tgt := 88) dX10_placeOf_58 (by decide) rfl (fun hc => ?_) (fun hc => ?_)
      · replace h := it_t hc h
        refine zJ_iload_n dX10_placeOf_88 rfl rfl ?_
        refine zJ_iload dX10_placeOf_89 rfl rfl ?_
        refine zJ_iload_n dX10_placeOf_91 rfl rfl ?_
        refine zJ_icmp_ge (tgt := 99) dX10_placeOf_92 (by decide) rfl (fun hc => ?_) (fun hc => ?_)
        · replace h := it_t hc h
          refine zJ_iconst dX10_placeOf_99 zc_0 rfl ?_
          refine zJ_iadd dX10_placeOf_100 rfl ?_
          obtain ⟨v3n1, ev3n1, h⟩ := lt1_some h
          refine zJ_nmi ev3n1 ?_
          refine zJ_istore_n (ls' := [(3, .int v3n1), (0, .ref 20), (1, .int p1), (2, .ref 23), (4, .int v4_5)]) dX10_placeOf_101 rfl rfl rfl ?_
          obtain ⟨v4n2, ev4n2, h⟩ := lt1_some h
          refine zJ_iincN (ls' := [(4, .int v4n2), (3, .int v3n1), (0, .ref 20), (1, .int p1), (2, .ref 23)]) dX10_placeOf_102 rfl rfl zc_1 ev4n2 rfl rfl ?_
          refine zJ_goto (tgt := 5) dX10_placeOf_105 (by decide) ?_
          refine zJ_loc (ls' := [(0, .ref 20), (1, .int p1), (2, .ref 23), (3, .int v3n1), (4, .int v4n2)]) (zll_c rfl (zll_c rfl (zll_c rfl (zll_c rfl (zll_c rfl zll_n))))) ?_
          exact hrc5 _ _ h
        · replace h := it_f hc h
          refine zJ_iconst dX10_placeOf_95 zc_1 rfl ?_
          refine zJ_goto (tgt := 100) dX10_placeOf_96 (by decide) ?_
          refine zJ_iadd dX10_placeOf_100 rfl ?_
          obtain ⟨v3n3, ev3n3, h⟩ := lt1_some h
          refine zJ_nmi ev3n3 ?_
          refine zJ_istore_n (ls' := [(3, .int v3n3), (0, .ref 20), (1, .int p1), (2, .ref 23), (4, .int v4_5)]) dX10_placeOf_101 rfl rfl rfl ?_
          obtain ⟨v4n4, ev4n4, h⟩ := lt1_some h
          refine zJ_iincN (ls' := [(4, .int v4n4), (3, .int v3n3), (0, .ref 20), (1, .int p1), (2, .ref 23)]) dX10_placeOf_102 rfl rfl zc_1 ev4n4 rfl rfl ?_
          refine zJ_goto (tgt := 5) dX10_placeOf_105 (by decide) ?_
          refine zJ_loc (ls' := [(0, .ref 20), (1, .int p1), (2, .ref 23), (3, .int v3n3), (4, .int v4n4)]) (zll_c rfl (zll_c rfl (zll_c rfl (zll_c rfl (zll_c rfl zll_n))))) ?_
          exact hrc5 _ _ h
      · replace h := it_f hc h
        refine zJ_iload_n dX10_placeOf_61 rfl rfl ?_
        refine zJ_aload_n dX10_placeOf_62 rfl rfl ?_
        refine zJ_getr (mi := mX10_placeOf) dX10_placeOf_63 F_X10_21 zW_20 rfl rfl ?_
        refine zJ_iload dX10_placeOf_66 rfl rfl ?_
        obtain ⟨hg, h⟩ := gd_some h
        refine zJ_iald (mi := mX10_placeOf) (f := rounds_tenths) dX10_placeOf_68 zW_24 (ix_in hg) rfl rfl ?_
        refine zJ_aload_n dX10_placeOf_69 rfl rfl ?_
        refine zJ_getr (mi := mX10_placeOf) dX10_placeOf_70 F_X10_21 zW_20 rfl rfl ?_
        refine zJ_iload_n dX10_placeOf_73 rfl rfl ?_
        obtain ⟨hg, h⟩ := gd_some h
        refine zJ_iald (mi := mX10_placeOf) (f := rounds_tenths) dX10_placeOf_74 zW_24 (ix_in hg) rfl rfl ?_
        refine zJ_icmp_ge (tgt := 82) dX10_placeOf_75 (by decide) rfl (fun hc => ?_) (fun hc => ?_)
        · replace h := it_t hc h
          refine zJ_iconst dX10_placeOf_82 zc_0 rfl ?_
          refine zJ_iadd dX10_placeOf_83 rfl ?_
          obtain ⟨v3n5, ev3n5, h⟩ := lt1_some h
          refine zJ_nmi ev3n5 ?_
          refine zJ_istore_n (ls' := [(3, .int v3n5), (0, .ref 20), (1, .int p1), (2, .ref 23), (4, .int v4_5)]) dX10_placeOf_84 rfl rfl rfl ?_
          refine zJ_goto (tgt := 102) dX10_placeOf_85 (by decide) ?_
          obtain ⟨v4n6, ev4n6, h⟩ := lt1_some h
          refine zJ_iincN (ls' := [(4, .int v4n6), (3, .int v3n5), (0, .ref 20), (1, .int p1), (2, .ref 23)]) dX10_placeOf_102 rfl rfl zc_1 ev4n6 rfl rfl ?_
          refine zJ_goto (tgt := 5) dX10_placeOf_105 (by decide) ?_
          refine zJ_loc (ls' := [(0, .ref 20), (1, .int p1), (2, .ref 23), (3, .int v3n5), (4, .int v4n6)]) (zll_c rfl (zll_c rfl (zll_c rfl (zll_c rfl (zll_c rfl zll_n))))) ?_
          exact hrc5 _ _ h
        · replace h := it_f hc h
          refine zJ_iconst dX10_placeOf_78 zc_1 rfl ?_
          refine zJ_goto (tgt := 83) dX10_placeOf_79 (by decide) ?_
          refine zJ_iadd dX10_placeOf_83 rfl ?_
          obtain ⟨v3n7, ev3n7, h⟩ := lt1_some h
          refine zJ_nmi ev3n7 ?_
          refine zJ_istore_n (ls' := [(3, .int v3n7), (0, .ref 20), (1, .int p1), (2, .ref 23), (4, .int v4_5)]) dX10_placeOf_84 rfl rfl rfl ?_
          refine zJ_goto (tgt := 102) dX10_placeOf_85 (by decide) ?_
          obtain ⟨v4n8, ev4n8, h⟩ := lt1_some h
          refine zJ_iincN (ls' := [(4, .int v4n8), (3, .int v3n7), (0, .ref 20), (1, .int p1), (2, .ref 23)]) dX10_placeOf_102 rfl rfl zc_1 ev4n8 rfl rfl ?_
          refine zJ_goto (tgt := 5) dX10_placeOf_105 (by decide) ?_
          refine zJ_loc (ls' := [(0, .ref 20), (1, .int p1), (2, .ref 23), (3, .int v3n7), (4, .int v4n8)]) (zll_c rfl (zll_c rfl (zll_c rfl (zll_c rfl (zll_c rfl zll_n))))) ?_
          exact hrc5 _ _ h
    · replace h := it_f hc h
      refine zJ_iload_n dX10_placeOf_24 rfl rfl ?_
      refine zJ_aload_n dX10_placeOf_25 rfl rfl ?_
      refine zJ_iload dX10_placeOf_26 rfl rfl ?_
      obtain ⟨hg, h⟩ := gd_some h
      refine zJ_iald (mi := mX10_placeOf) (f := rounds_faults) dX10_placeOf_28 zW_23 (ix_in hg) rfl rfl ?_
      refine zJ_aload_n dX10_placeOf_29 rfl rfl ?_
      refine zJ_iload_n dX10_placeOf_30 rfl rfl ?_
      obtain ⟨hg, h⟩ := gd_some h
      refine zJ_iald (mi := mX10_placeOf) (f := rounds_faults) dX10_placeOf_31 zW_23 (ix_in hg) rfl rfl ?_
      refine zJ_icmp_ge (tgt := 39) dX10_placeOf_32 (by decide) rfl (fun hc => ?_) (fun hc => ?_)
      · replace h := it_t hc h
        refine zJ_iconst dX10_placeOf_39 zc_0 rfl ?_
        refine zJ_iadd dX10_placeOf_40 rfl ?_
        obtain ⟨v3n9, ev3n9, h⟩ := lt1_some h
        refine zJ_nmi ev3n9 ?_
        refine zJ_istore_n (ls' := [(3, .int v3n9), (0, .ref 20), (1, .int p1), (2, .ref 23), (4, .int v4_5)]) dX10_placeOf_41 rfl rfl rfl ?_
        refine zJ_goto (tgt := 102) dX10_placeOf_42 (by decide) ?_
        obtain ⟨v4n10, ev4n10, h⟩ := lt1_some h
        refine zJ_iincN (ls' := [(4, .int v4n10), (3, .int v3n9), (0, .ref 20), (1, .int p1), (2, .ref 23)]) dX10_placeOf_102 rfl rfl zc_1 ev4n10 rfl rfl ?_
        refine zJ_goto (tgt := 5) dX10_placeOf_105 (by decide) ?_
        refine zJ_loc (ls' := [(0, .ref 20), (1, .int p1), (2, .ref 23), (3, .int v3n9), (4, .int v4n10)]) (zll_c rfl (zll_c rfl (zll_c rfl (zll_c rfl (zll_c rfl zll_n))))) ?_
        exact hrc5 _ _ h
      · replace h := it_f hc h
        refine zJ_iconst dX10_placeOf_35 zc_1 rfl ?_
        refine zJ_goto (tgt := 40) dX10_placeOf_36 (by decide) ?_
        refine zJ_iadd dX10_placeOf_40 rfl ?_
        obtain ⟨v3n11, ev3n11, h⟩ := lt1_some h
        refine zJ_nmi ev3n11 ?_
        refine zJ_istore_n (ls' := [(3, .int v3n11), (0, .ref 20), (1, .int p1), (2, .ref 23), (4, .int v4_5)]) dX10_placeOf_41 rfl rfl rfl ?_
        refine zJ_goto (tgt := 102) dX10_placeOf_42 (by decide) ?_
        obtain ⟨v4n12, ev4n12, h⟩ := lt1_some h
        refine zJ_iincN (ls' := [(4, .int v4n12), (3, .int v3n11), (0, .ref 20), (1, .int p1), (2, .ref 23)]) dX10_placeOf_102 rfl rfl zc_1 ev4n12 rfl rfl ?_
        refine zJ_goto (tgt := 5) dX10_placeOf_105 (by decide) ?_
        refine zJ_loc (ls' := [(0, .ref 20), (1, .int p1), (2, .ref 23), (3, .int v3n11), (4, .int v4n12)]) (zll_c rfl (zll_c rfl (zll_c rfl (zll_c rfl (zll_c rfl zll_n))))) ?_
        exact hrc5 _ _ h
set_option maxRecDepth 100000 in
set_option maxHeartbeats 4000000 in
theorem t_X10_readMoney (l : Launch) (σ : zS) {text_size : Int32} {text_limit : Int32} {text_at : Int32} {text_signs : (Nat → Int32)} {rounds_money : (Nat → Int32)} {rounds_draft : (Nat → Int32)} {r : Int32} {w_text_limit : Int32} {w_text_at : Int32} {w_rounds_money : (Nat → Int32)} {w_rounds_draft : (Nat → Int32)} (h : f_X10_readMoney text_size text_limit text_at text_signs rounds_money rounds_draft = some (r, w_text_limit, w_text_at, w_rounds_money, w_rounds_draft)) : zMt l zW 2 mX10_readMoney σ ([(65, text_size), (66, text_limit), (67, text_at)], [(2, text_signs), (25, rounds_money), (26, rounds_draft)], []) [.ref 20, .ref 1] (some (.int r)) ([(65, text_size), (66, w_text_limit), (67, w_text_at)], [(2, text_signs), (25, w_rounds_money), (26, w_rounds_draft)], []) := by
  refine zMt_of (ls := [(0, .ref 20), (1, .ref 1)]) (by decide) rfl (fun _ => Nat.le_of_ble_eq_true rfl) rfl ?_
  unfold f_X10_readMoney at h
  refine zJ_aload_n dX10_readMoney_0 rfl rfl ?_
  refine zJ_bipush dX10_readMoney_1 zb_80 rfl ?_
  obtain ⟨text_limitn1, text_atn2, hcl, h⟩ := bd2_some h
  refine zJ_callV2 (σ := σ) (L := ([(65, text_size), (66, text_limit), (67, text_at)], [(2, text_signs), (25, rounds_money), (26, rounds_draft)], [])) (mi := mX10_readMoney) (yi := mX9_open) (as := [.int (80 : Int32)]) (st := []) (L2 := ([(65, text_size), (66, text_limitn1), (67, text_atn2)], [(2, text_signs), (25, rounds_money), (26, rounds_draft)], [])) dX10_readMoney_3 ML_X10_30 Yv_X9_open rfl zW_1 rfl rfl (t_X9_open l _ hcl) (zsub_i (zle_c rfl (zle_c rfl (zle_c rfl zle_n))) zle_n zle_n) (zjok_i rfl rfl (zle_c rfl (zle_c rfl (zle_c rfl zle_n))) rfl rfl (zle_c rfl (zle_c rfl (zle_c rfl zle_n))) rfl rfl zle_n) (Nat.le_of_ble_eq_true rfl) (Nat.le_of_ble_eq_true rfl) rfl rfl ?_
  refine zJ_aload_n dX10_readMoney_6 rfl rfl ?_
  refine zJ_getr (mi := mX10_readMoney) dX10_readMoney_7 F_X10_27 zW_20 rfl rfl ?_
  refine zJ_iconst dX10_readMoney_10 zc_0 rfl ?_
  obtain ⟨rounds_draftn3, hcl, h⟩ := bd1_some h
  refine zJ_callS2 (σ := σ) (L := ([(65, text_size), (66, text_limitn1), (67, text_atn2)], [(2, text_signs), (25, rounds_money), (26, rounds_draft)], [])) (mi := mX10_readMoney) (yi := mJ7_fill_53178) (as := [.ref 26, .int (0 : Int32)]) (st := []) (L2 := ([(65, text_size), (66, text_limitn1), (67, text_atn2)], [(2, text_signs), (25, rounds_money), (26, rounds_draftn3)], [])) dX10_readMoney_11 ML_X10_36 Ys_J7_fill_53178 rfl (t_J7_fill_53178_rounds_draft l _ hcl) (zsub_i zle_n (zle_c rfl zle_n) zle_n) (zjok_i rfl rfl (zle_c rfl (zle_c rfl (zle_c rfl zle_n))) rfl rfl (zle_c rfl (zle_c rfl (zle_c rfl zle_n))) rfl rfl zle_n) (Nat.le_of_ble_eq_true rfl) (Nat.le_of_ble_eq_true rfl) rfl rfl ?_
  refine zJ_iconst dX10_readMoney_14 zc_0 rfl ?_
  refine zJ_istore_n (ls' := [(2, .int (0 : Int32)), (0, .ref 20), (1, .ref 1)]) dX10_readMoney_15 rfl rfl rfl ?_
  have hk16 : ∀ (text_at_16x : Int32) (rounds_draft_16x : (Nat → Int32)), k_X10_readMoney_16 rounds_money text_limitn1 text_at_16x rounds_draft_16x = some (r, w_text_limit, w_text_at, w_rounds_money, w_rounds_draft) → zJ l zW 2 mX10_readMoney σ ([(65, text_size), (66, text_limitn1), (67, text_at_16x)], [(2, text_signs), (25, rounds_money), (26, rounds_draft_16x)], []) 94 [(1, .ref 1)] [] (some (.int r)) ([(65, text_size), (66, w_text_limit), (67, w_text_at)], [(2, text_signs), (25, w_rounds_money), (26, w_rounds_draft)], []) := by
    intro text_at_16x rounds_draft_16x h
    unfold k_X10_readMoney_16 at h
    refine zJ_aload_n dX10_readMoney_94 rfl rfl ?_
    obtain ⟨rn4, hcl, h⟩ := bd1_some h
    refine zJ_callV2 (σ := σ) (L := ([(65, text_size), (66, text_limitn1), (67, text_at_16x)], [(2, text_signs), (25, rounds_money), (26, rounds_draft_16x)], [])) (mi := mX10_readMoney) (yi := mX9_fault) (as := []) (st := []) (L2 := ([(65, text_size), (66, text_limitn1), (67, text_at_16x)], [(2, text_signs), (25, rounds_money), (26, rounds_draft_16x)], [])) dX10_readMoney_95 ML_X10_46 Yv_X9_fault rfl zW_1 rfl rfl (t_X9_fault l _ hcl) (zsub_i (zle_c rfl zle_n) zle_n zle_n) (zjok_i rfl rfl (zle_c rfl (zle_c rfl (zle_c rfl zle_n))) rfl rfl (zle_c rfl (zle_c rfl (zle_c rfl zle_n))) rfl rfl zle_n) (Nat.le_of_ble_eq_true rfl) (Nat.le_of_ble_eq_true rfl) rfl rfl ?_
    obtain ⟨rfl, rfl, rfl, rfl, rfl⟩ := so5 h
    exact zJ_iret dX10_readMoney_98 rfl rfl
  refine zJ_loc (ls' := [(0, .ref 20), (1, .ref 1), (2, .int (0 : Int32))]) (zll_c rfl (zll_c rfl (zll_c rfl zll_n))) ?_
  refine ml3_J (fun (v2_16 : Int32) (text_at_16 : Int32) (rounds_draft_16 : (Nat → Int32)) => zJ l zW 2 mX10_readMoney σ ([(65, text_size), (66, text_limitn1), (67, text_at_16)], [(2, text_signs), (25, rounds_money), (26, rounds_draft_16)], []) 16 [(0, .ref 20), (1, .ref 1), (2, .int v2_16)] [] (some (.int r)) ([(65, text_size), (66, w_text_limit), (67, w_text_at)], [(2, text_signs), (25, w_rounds_money), (26, w_rounds_draft)], [])) (fun rc16 hrc16 v2_16 text_at_16 rounds_draft_16 h => ?_) zN _ _ _ h
  unfold s_X10_readMoney_16 at h
  refine zJ_iload_n dX10_readMoney_16 rfl rfl ?_
  refine zJ_bipush dX10_readMoney_17 zb_6 rfl ?_
  refine zJ_icmp_ge (tgt := 94) dX10_readMoney_19 (by decide) rfl (fun hc => ?_) (fun hc => ?_)
  · replace h := it_t hc h
    refine zJ_loc (ls' := [(1, .ref 1)]) (zll_c rfl zll_n) ?_
    exact hk16 _ _ h
  · replace h := it_f hc h
    refine zJ_aload_n dX10_readMoney_22 rfl rfl ?_
    refine zJ_getr (mi := mX10_readMoney) dX10_readMoney_23 F_X10_27 zW_20 rfl rfl ?_
    refine zJ_iload_n dX10_readMoney_26 rfl rfl ?_
    refine zJ_aload_n dX10_readMoney_27 rfl rfl ?_
    refine zJ_iconst dX10_readMoney_28 zc_2 rfl ?_
    obtain ⟨rn5, text_atn6, hcl, h⟩ := bd2_some h
    refine zJ_callV2 (σ := σ) (L := ([(65, text_size), (66, text_limitn1), (67, text_at_16)], [(2, text_signs), (25, rounds_money), (26, rounds_draft_16)], [])) (mi := mX10_readMoney) (yi := mX9_number) (as := [.int (2 : Int32)]) (st := [.int v2_16, .ref 26]) (L2 := ([(65, text_size), (66, text_limitn1), (67, text_atn6)], [(2, text_signs), (25, rounds_money), (26, rounds_draft_16)], [])) dX10_readMoney_29 ML_X10_42 Yv_X9_number rfl zW_1 rfl rfl (t_X9_number l _ hcl) (zsub_i (zle_c rfl (zle_c rfl zle_n)) (zle_c rfl zle_n) zle_n) (zjok_i rfl rfl (zle_c rfl (zle_c rfl (zle_c rfl zle_n))) rfl rfl (zle_c rfl (zle_c rfl (zle_c rfl zle_n))) rfl rfl zle_n) (Nat.le_of_ble_eq_true rfl) (Nat.le_of_ble_eq_true rfl) rfl rfl ?_
    obtain ⟨hg, h⟩ := gd_some h
    refine zK_iast (mi := mX10_readMoney) (f := rounds_draft_16) (lb' := [(2, text_signs), (25, rounds_money), (26, (upd rounds_draft_16 v2_16.toNatClampNeg rn5))]) dX10_readMoney_32 zW_26 (ix_in hg) rfl rfl rfl ?_
    refine zJ_aload_n dX10_readMoney_33 rfl rfl ?_
    refine zJ_getr (mi := mX10_readMoney) dX10_readMoney_34 F_X10_27 zW_20 rfl rfl ?_
    refine zJ_iload_n dX10_readMoney_37 rfl rfl ?_
    obtain ⟨hg, h⟩ := gd_some h
    refine zJ_iald (mi := mX10_readMoney) (f := (upd rounds_draft_16 v2_16.toNatClampNeg rn5)) dX10_readMoney_38 zW_26 (ix_in hg) rfl rfl ?_
    refine zJ_iconst dX10_readMoney_39 zc_m1 rfl ?_
    refine zJ_icmp_ne (tgt := 48) dX10_readMoney_40 (by decide) rfl (fun hc => ?_) (fun hc => ?_)
    · replace h := it_f hc h
      refine zJ_aload_n dX10_readMoney_48 rfl rfl ?_
      obtain ⟨rn7, hcl, h⟩ := bd1_some h
      refine zJ_callV2 (σ := σ) (L := ([(65, text_size), (66, text_limitn1), (67, text_atn6)], [(2, text_signs), (25, rounds_money), (26, (upd rounds_draft_16 v2_16.toNatClampNeg rn5))], [])) (mi := mX10_readMoney) (yi := mX9_isDone) (as := []) (st := []) (L2 := ([(65, text_size), (66, text_limitn1), (67, text_atn6)], [(2, text_signs), (25, rounds_money), (26, (upd rounds_draft_16 v2_16.toNatClampNeg rn5))], [])) dX10_readMoney_49 ML_X10_50 Yv_X9_isDone rfl zW_1 rfl rfl (t_X9_isDone l _ hcl) (zsub_i (zle_c rfl (zle_c rfl zle_n)) zle_n zle_n) (zjok_i rfl rfl (zle_c rfl (zle_c rfl (zle_c rfl zle_n))) rfl rfl (zle_c rfl (zle_c rfl (zle_c rfl zle_n))) rfl rfl zle_n) (Nat.le_of_ble_eq_true rfl) (Nat.le_of_ble_eq_true rfl) rfl rfl ?_
      refine zJ_if_eq (tgt := 74) dX10_readMoney_52 (by decide) rfl (fun hc => ?_) (fun hc => ?_)
      · replace h := it_t hc h
        refine zJ_aload_n dX10_readMoney_74 rfl rfl ?_
        refine zJ_bipush dX10_readMoney_75 zb_44 rfl ?_
        obtain ⟨rn8, text_atn9, hcl, h⟩ := bd2_some h
        refine zJ_callV2 (σ := σ) (L := ([(65, text_size), (66, text_limitn1), (67, text_atn6)], [(2, text_signs), (25, rounds_money), (26, (upd rounds_draft_16 v2_16.toNatClampNeg rn5))], [])) (mi := mX10_readMoney) (yi := mX9_take) (as := [.int (44 : Int32)]) (st := []) (L2 := ([(65, text_size), (66, text_limitn1), (67, text_atn9)], [(2, text_signs), (25, rounds_money), (26, (upd rounds_draft_16 v2_16.toNatClampNeg rn5))], [])) dX10_readMoney_77 ML_X10_60 Yv_X9_take rfl zW_1 rfl rfl (t_X9_take l _ hcl) (zsub_i (zle_c rfl (zle_c rfl zle_n)) (zle_c rfl zle_n) zle_n) (zjok_i rfl rfl (zle_c rfl (zle_c rfl (zle_c rfl zle_n))) rfl rfl (zle_c rfl (zle_c rfl (zle_c rfl zle_n))) rfl rfl zle_n) (Nat.le_of_ble_eq_true rfl) (Nat.le_of_ble_eq_true rfl) rfl rfl ?_
        refine zJ_if_ne (tgt := 88) dX10_readMoney_80 (by decide) rfl (fun hc => ?_) (fun hc => ?_)
        · replace h := it_f hc h
          obtain ⟨v2n10, ev2n10, h⟩ := lt1_some h
          refine zJ_iincN (ls' := [(2, .int v2n10), (0, .ref 20), (1, .ref 1)]) dX10_readMoney_88 rfl rfl zc_1 ev2n10 rfl rfl ?_
          refine zJ_goto (tgt := 16) dX10_readMoney_91 (by decide) ?_
          refine zJ_loc (ls' := [(0, .ref 20), (1, .ref 1), (2, .int v2n10)]) (zll_c rfl (zll_c rfl (zll_c rfl zll_n))) ?_
          exact hrc16 _ _ _ h
        · replace h := it_t hc h
          refine zJ_aload_n dX10_readMoney_83 rfl rfl ?_
          obtain ⟨rn11, hcl, h⟩ := bd1_some h
          refine zJ_callV2 (σ := σ) (L := ([(65, text_size), (66, text_limitn1), (67, text_atn9)], [(2, text_signs), (25, rounds_money), (26, (upd rounds_draft_16 v2_16.toNatClampNeg rn5))], [])) (mi := mX10_readMoney) (yi := mX9_fault) (as := []) (st := []) (L2 := ([(65, text_size), (66, text_limitn1), (67, text_atn9)], [(2, text_signs), (25, rounds_money), (26, (upd rounds_draft_16 v2_16.toNatClampNeg rn5))], [])) dX10_readMoney_84 ML_X10_46 Yv_X9_fault rfl zW_1 rfl rfl (t_X9_fault l _ hcl) (zsub_i (zle_c rfl zle_n) zle_n zle_n) (zjok_i rfl rfl (zle_c rfl (zle_c rfl (zle_c rfl zle_n))) rfl rfl (zle_c rfl (zle_c rfl (zle_c rfl zle_n))) rfl rfl zle_n) (Nat.le_of_ble_eq_true rfl) (Nat.le_of_ble_eq_true rfl) rfl rfl ?_
          obtain ⟨rfl, rfl, rfl, rfl, rfl⟩ := so5 h
          exact zJ_iret dX10_readMoney_87 rfl rfl
      · replace h := it_f hc h
        refine zJ_aload_n dX10_readMoney_55 rfl rfl ?_
        refine zJ_getr (mi := mX10_readMoney) dX10_readMoney_56 F_X10_27 zW_20 rfl rfl ?_
        refine zJ_iconst dX10_readMoney_59 zc_0 rfl ?_
        refine zJ_aload_n dX10_readMoney_60 rfl rfl ?_
        refine zJ_getr (mi := mX10_readMoney) dX10_readMoney_61 F_X10_24 zW_20 rfl rfl ?_
        refine zJ_iconst dX10_readMoney_64 zc_0 rfl ?_
        refine zJ_bipush dX10_readMoney_65 zb_6 rfl ?_
        obtain ⟨hg, h⟩ := gd_some h
        refine zK_copyi (mi := mX10_readMoney) (f := ((upd rounds_draft_16 v2_16.toNatClampNeg rn5))) (g := rounds_money) (lb' := [(2, text_signs), (25, (va_cpy ((upd rounds_draft_16 v2_16.toNatClampNeg rn5)) rounds_money (0 : Int32).toNatClampNeg (0 : Int32).toNatClampNeg (6 : Int32).toNatClampNeg)), (26, (upd rounds_draft_16 v2_16.toNatClampNeg rn5))]) dX10_readMoney_67 L_X10_54 K_cpy_n K_cpy_s K_sys zW_26 zW_25 rfl rfl (cpok_s hg) (Nat.le_of_ble_eq_true rfl) (Nat.le_of_ble_eq_true rfl) rfl rfl ?_
        refine zJ_iload_n dX10_readMoney_70 rfl rfl ?_
        refine zJ_iconst dX10_readMoney_71 zc_1 rfl ?_
        refine zJ_iadd dX10_readMoney_72 rfl ?_
        obtain ⟨rfl, rfl, rfl, rfl, rfl⟩ := so5 h
        exact zJ_iret dX10_readMoney_73 rfl rfl
    · replace h := it_t hc h
      refine zJ_aload_n dX10_readMoney_43 rfl rfl ?_
      obtain ⟨rn12, hcl, h⟩ := bd1_some h
      refine zJ_callV2 (σ := σ) (L := ([(65, text_size), (66, text_limitn1), (67, text_atn6)], [(2, text_signs), (25, rounds_money), (26, (upd rounds_draft_16 v2_16.toNatClampNeg rn5))], [])) (mi := mX10_readMoney) (yi := mX9_fault) (as := []) (st := []) (L2 := ([(65, text_size), (66, text_limitn1), (67, text_atn6)], [(2, text_signs), (25, rounds_money), (26, (upd rounds_draft_16 v2_16.toNatClampNeg rn5))], [])) dX10_readMoney_44 ML_X10_46 Yv_X9_fault rfl zW_1 rfl rfl (t_X9_fault l _ hcl) (zsub_i (zle_c rfl zle_n) zle_n zle_n) (zjok_i rfl rfl (zle_c rfl (zle_c rfl (zle_c rfl zle_n))) rfl rfl (zle_c rfl (zle_c rfl (zle_c rfl zle_n))) rfl rfl zle_n) (Nat.le_of_ble_eq_true rfl) (Nat.le_of_ble_eq_true rfl) rfl rfl ?_
      obtain ⟨rfl, rfl, rfl, rfl, rfl⟩ := so5 h
      exact zJ_iret dX10_readMoney_47 rfl rfl
set_option maxRecDepth 100000 in
set_option maxHeartbeats 4000000 in
theorem t_X10_scaledMean (l : Launch) (σ : zS) {p1 : Int32} {p2 : Int32} {rounds_size : Int32} {rounds_riders : (Nat → Int32)} {rounds_horses : (Nat → Int32)} {rounds_faults : (Nat → Int32)} {r : Int64} (h : f_X10_scaledMean p1 p2 rounds_size rounds_riders rounds_horses rounds_faults = some r) : zMt l zW 0 mX10_scaledMean σ ([(1284, rounds_size)], [(21, rounds_riders), (22, rounds_horses), (23, rounds_faults)], []) [.ref 20, .int p1, .int p2] (some (.long r)) ([(1284, rounds_size)], [(21, rounds_riders), (22, rounds_horses), (23, rounds_faults)], []) := by
  refine zMt_of (ls := [(0, .ref 20), (1, .int p1), (2, .int p2)]) (by decide) rfl (fun _ => Nat.le_of_ble_eq_true rfl) rfl ?_
  unfold f_X10_scaledMean at h
  refine zJ_lconst dX10_scaledMean_0 zl_0 rfl ?_
  refine zJ_lstore_n (ls' := [(3, .long (0 : Int64)), (0, .ref 20), (1, .int p1), (2, .int p2)]) dX10_scaledMean_1 rfl rfl rfl ?_
  refine zJ_iconst dX10_scaledMean_2 zc_0 rfl ?_
  refine zJ_istore (ls' := [(5, .int (0 : Int32)), (3, .long (0 : Int64)), (0, .ref 20), (1, .int p1), (2, .int p2)]) dX10_scaledMean_3 rfl rfl rfl ?_
  refine zJ_iconst dX10_scaledMean_5 zc_0 rfl ?_
  refine zJ_istore (ls' := [(6, .int (0 : Int32)), (5, .int (0 : Int32)), (3, .long (0 : Int64)), (0, .ref 20), (1, .int p1), (2, .int p2)]) dX10_scaledMean_6 rfl rfl rfl ?_
  have hk8 : ∀ (v3_8x : Int64) (v5_8x : Int32), k_X10_scaledMean_8  v3_8x v5_8x = some r → zJ l zW 0 mX10_scaledMean σ ([(1284, rounds_size)], [(21, rounds_riders), (22, rounds_horses), (23, rounds_faults)], []) 59 [(3, .long v3_8x), (5, .int v5_8x)] [] (some (.long r)) ([(1284, rounds_size)], [(21, rounds_riders), (22, rounds_horses), (23, rounds_faults)], []) := by
    intro v3_8x v5_8x h
    unfold k_X10_scaledMean_8 at h
    refine zJ_iload dX10_scaledMean_59 rfl rfl ?_
    refine zJ_if_ne (tgt := 70) dX10_scaledMean_61 (by decide) rfl (fun hc => ?_) (fun hc => ?_)
    · replace h := it_f hc h
      refine zJ_lload_n dX10_scaledMean_70 rfl rfl ?_
      refine zJ_ldc2_w (v := 27720) dX10_scaledMean_71 C_X10_86 rfl ?_
      refine zJ_lmul dX10_scaledMean_74 rfl ?_
      refine zJ_iload dX10_scaledMean_75 rfl rfl ?_
      refine zJ_i2l dX10_scaledMean_77 rfl ?_
      obtain ⟨hg, h⟩ := gd_some h
      refine zJ_ldiv dX10_scaledMean_78 (nzl_ne hg) rfl ?_
      obtain rfl := so1 h
      exact zJ_lret dX10_scaledMean_79 rfl
    · replace h := it_t hc h
      refine zJ_ldc2_w (v := -1) dX10_scaledMean_64 C_X10_84 rfl ?_
      refine zJ_goto (tgt := 79) dX10_scaledMean_67 (by decide) ?_
      obtain rfl := so1 h
      exact zJ_lret dX10_scaledMean_79 rfl
  refine zJ_loc (ls' := [(0, .ref 20), (1, .int p1), (2, .int p2), (3, .long (0 : Int64)), (5, .int (0 : Int32)), (6, .int (0 : Int32))]) (zll_c rfl (zll_c rfl (zll_c rfl (zll_c rfl (zll_c rfl (zll_c rfl zll_n)))))) ?_
  refine ml3_J (fun (v3_8 : Int64) (v5_8 : Int32) (v6_8 : Int32) => zJ l zW 0 mX10_scaledMean σ ([(1284, rounds_size)], [(21, rounds_riders), (22, rounds_horses), (23, rounds_faults)], []) 8 [(0, .ref 20), (1, .int p1), (2, .int p2), (3, .long v3_8), (5, .int v5_8), (6, .int v6_8)] [] (some (.long r)) ([(1284, rounds_size)], [(21, rounds_riders), (22, rounds_horses), (23, rounds_faults)], [])) (fun rc8 hrc8 v3_8 v5_8 v6_8 h => ?_) zN _ _ _ h
  unfold s_X10_scaledMean_8 at h
  refine zJ_iload dX10_scaledMean_8 rfl rfl ?_
  refine zJ_aload_n dX10_scaledMean_10 rfl rfl ?_
  refine zJ_geti (mi := mX10_scaledMean) (x := rounds_size) dX10_scaledMean_11 F_X10_64 zW_20 rfl rfl rfl ?_
  refine zJ_icmp_ge (tgt := 59) dX10_scaledMean_14 (by decide) rfl (fun hc => ?_) (fun hc => ?_)
  · replace h := it_t hc h
    refine zJ_loc (ls' := [(3, .long v3_8), (5, .int v5_8)]) (zll_c rfl (zll_c rfl zll_n)) ?_
    exact hk8 _ _ h
  · replace h := it_f hc h
    refine zJ_aload_n dX10_scaledMean_17 rfl rfl ?_
    refine zJ_getr (mi := mX10_scaledMean) dX10_scaledMean_18 F_X10_9 zW_20 rfl rfl ?_
    refine zJ_iload dX10_scaledMean_21 rfl rfl ?_
    obtain ⟨hg, h⟩ := gd_some h
    refine zJ_iald (mi := mX10_scaledMean) (f := rounds_riders) dX10_scaledMean_23 zW_21 (ix_in hg) rfl rfl ?_
    refine zJ_iload_n dX10_scaledMean_24 rfl rfl ?_
    refine zJ_icmp_ne (tgt := 53) dX10_scaledMean_25 (by decide) rfl (fun hc => ?_) (fun hc => ?_)
    · replace h := it_f hc h
      obtain ⟨v6n1, ev6n1, h⟩ := lt1_some h
      refine zJ_iincN (ls' := [(6, .int v6n1), (0, .ref 20), (1, .int p1), (2, .int p2), (3, .long v3_8), (5, .int v5_8)]) dX10_scaledMean_53 rfl rfl zc_1 ev6n1 rfl rfl ?_
      refine zJ_goto (tgt := 8) dX10_scaledMean_56 (by decide) ?_
      refine zJ_loc (ls' := [(0, .ref 20), (1, .int p1), (2, .int p2), (3, .long v3_8), (5, .int v5_8), (6, .int v6n1)]) (zll_c rfl (zll_c rfl (zll_c rfl (zll_c rfl (zll_c rfl (zll_c rfl zll_n)))))) ?_
      exact hrc8 _ _ _ h
    · replace h := it_t hc h
      refine zJ_aload_n dX10_scaledMean_28 rfl rfl ?_
      refine zJ_getr (mi := mX10_scaledMean) dX10_scaledMean_29 F_X10_15 zW_20 rfl rfl ?_
      refine zJ_iload dX10_scaledMean_32 rfl rfl ?_
      obtain ⟨hg, h⟩ := gd_some h
      refine zJ_iald (mi := mX10_scaledMean) (f := rounds_horses) dX10_scaledMean_34 zW_22 (ix_in hg) rfl rfl ?_
      refine zJ_iload_n dX10_scaledMean_35 rfl rfl ?_
      refine zJ_icmp_ne (tgt := 53) dX10_scaledMean_36 (by decide) rfl (fun hc => ?_) (fun hc => ?_)
      · replace h := it_f hc h
        obtain ⟨v6n2, ev6n2, h⟩ := lt1_some h
        refine zJ_iincN (ls' := [(6, .int v6n2), (0, .ref 20), (1, .int p1), (2, .int p2), (3, .long v3_8), (5, .int v5_8)]) dX10_scaledMean_53 rfl rfl zc_1 ev6n2 rfl rfl ?_
        refine zJ_goto (tgt := 8) dX10_scaledMean_56 (by decide) ?_
        refine zJ_loc (ls' := [(0, .ref 20), (1, .int p1), (2, .int p2), (3, .long v3_8), (5, .int v5_8), (6, .int v6n2)]) (zll_c rfl (zll_c rfl (zll_c rfl (zll_c rfl (zll_c rfl (zll_c rfl zll_n)))))) ?_
        exact hrc8 _ _ _ h
      · replace h := it_t hc h
        refine zJ_lload_n dX10_scaledMean_39 rfl rfl ?_
        refine zJ_aload_n dX10_scaledMean_40 rfl rfl ?_
        refine zJ_getr (mi := mX10_scaledMean) dX10_scaledMean_41 F_X10_18 zW_20 rfl rfl ?_
        refine zJ_iload dX10_scaledMean_44 rfl rfl ?_
        obtain ⟨hg, h⟩ := gd_some h
        refine zJ_iald (mi := mX10_scaledMean) (f := rounds_faults) dX10_scaledMean_46 zW_23 (ix_in hg) rfl rfl ?_
        refine zJ_i2l dX10_scaledMean_47 rfl ?_
        refine zJ_ladd dX10_scaledMean_48 rfl ?_
        obtain ⟨v3n3, ev3n3, h⟩ := lt1_some h
        refine zJ_nml ev3n3 ?_
        refine zJ_lstore_n (ls' := [(3, .long v3n3), (0, .ref 20), (1, .int p1), (2, .int p2), (5, .int v5_8), (6, .int v6_8)]) dX10_scaledMean_49 rfl rfl rfl ?_
        obtain ⟨v5n4, ev5n4, h⟩ := lt1_some h
        refine zJ_iincN (ls' := [(5, .int v5n4), (3, .long v3n3), (0, .ref 20), (1, .int p1), (2, .int p2), (6, .int v6_8)]) dX10_scaledMean_50 rfl rfl zc_1 ev5n4 rfl rfl ?_
        obtain ⟨v6n5, ev6n5, h⟩ := lt1_some h
        refine zJ_iincN (ls' := [(6, .int v6n5), (5, .int v5n4), (3, .long v3n3), (0, .ref 20), (1, .int p1), (2, .int p2)]) dX10_scaledMean_53 rfl rfl zc_1 ev6n5 rfl rfl ?_
        refine zJ_goto (tgt := 8) dX10_scaledMean_56 (by decide) ?_
        refine zJ_loc (ls' := [(0, .ref 20), (1, .int p1), (2, .int p2), (3, .long v3n3), (5, .int v5n4), (6, .int v6n5)]) (zll_c rfl (zll_c rfl (zll_c rfl (zll_c rfl (zll_c rfl (zll_c rfl zll_n)))))) ?_
        exact hrc8 _ _ _ h
set_option maxRecDepth 100000 in
set_option maxHeartbeats 4000000 in
theorem t_X10_strike (l : Launch) (σ : zS) {rounds_size : Int32} {r : Int32} {w_rounds_size : Int32} (h : f_X10_strike rounds_size = some (r, w_rounds_size)) : zMt l zW 0 mX10_strike σ ([(1284, rounds_size)], [], []) [.ref 20] (some (.int r)) ([(1284, w_rounds_size)], [], []) := by
  refine zMt_of (ls := [(0, .ref 20)]) (by decide) rfl (fun _ => Nat.le_of_ble_eq_true rfl) rfl ?_
  unfold f_X10_strike at h
  refine zJ_aload_n dX10_strike_0 rfl rfl ?_
  refine zJ_geti (mi := mX10_strike) (x := rounds_size) dX10_strike_1 F_X10_64 zW_20 rfl rfl rfl ?_
  refine zJ_if_ne (tgt := 9) dX10_strike_4 (by decide) rfl (fun hc => ?_) (fun hc => ?_)
  · replace h := it_f hc h
    refine zJ_aload_n dX10_strike_9 rfl rfl ?_
    refine zJ_dup dX10_strike_10 rfl rfl ?_
    refine zJ_geti (mi := mX10_strike) (x := rounds_size) dX10_strike_11 F_X10_64 zW_20 rfl rfl rfl ?_
    refine zJ_iconst dX10_strike_14 zc_1 rfl ?_
    refine zJ_isub dX10_strike_15 rfl ?_
    refine zK_puti (mi := mX10_strike) (la' := [(1284, (rounds_size - (1 : Int32)))]) zW_ok dX10_strike_16 F_X10_64 P_10_4 zW_20 rfl rfl rfl ?_
    refine zJ_iconst dX10_strike_19 zc_1 rfl ?_
    obtain ⟨rfl, rfl⟩ := so2 h
    exact zJ_iret dX10_strike_20 rfl (by decide)
  · replace h := it_t hc h
    refine zJ_iconst dX10_strike_7 zc_0 rfl ?_
    obtain ⟨rfl, rfl⟩ := so2 h
    exact zJ_iret dX10_strike_8 rfl (by decide)
set_option maxRecDepth 100000 in
set_option maxHeartbeats 4000000 in
theorem t_X6_put (l : Launch) (σ : zS) {p1 : Int64} {numbers_size : Int32} {numbers_told : (Nat → Int64)} {w_numbers_size : Int32} {w_numbers_told : (Nat → Int64)} (h : f_X6_put p1 numbers_size numbers_told = some (w_numbers_size, w_numbers_told)) : zMt l zW 0 mX6_put σ ([(193, numbers_size)], [], [(4, numbers_told)]) [.ref 3, .long p1] none ([(193, w_numbers_size)], [], [(4, w_numbers_told)]) := by
  refine zMt_of (ls := [(0, .ref 3), (1, .long p1)]) (by decide) rfl (fun _ => Nat.le_of_ble_eq_true rfl) rfl ?_
  unfold f_X6_put at h
  refine zJ_aload_n dX6_put_0 rfl rfl ?_
  refine zJ_geti (mi := mX6_put) (x := numbers_size) dX6_put_1 F_X6_15 zW_3 rfl rfl rfl ?_
  refine zJ_bipush dX6_put_4 zb_12 rfl ?_
  refine zJ_icmp_ge (tgt := 29) dX6_put_6 (by decide) rfl (fun hc => ?_) (fun hc => ?_)
  · replace h := it_t hc h
    obtain ⟨rfl, rfl⟩ := so2 h
    exact zJ_vret dX6_put_29 rfl
  · replace h := it_f hc h
    refine zJ_aload_n dX6_put_9 rfl rfl ?_
    refine zJ_getr (mi := mX6_put) dX6_put_10 F_X6_9 zW_3 rfl rfl ?_
    refine zJ_aload_n dX6_put_13 rfl rfl ?_
    refine zJ_geti (mi := mX6_put) (x := numbers_size) dX6_put_14 F_X6_15 zW_3 rfl rfl rfl ?_
    refine zJ_lload_n dX6_put_17 rfl rfl ?_
    obtain ⟨hg, h⟩ := gd_some h
    refine zK_last (mi := mX6_put) (f := numbers_told) (lc' := [(4, (vp_updL numbers_told numbers_size.toNatClampNeg p1))]) dX6_put_18 zW_4 (ix_in hg) rfl rfl rfl ?_
    refine zJ_aload_n dX6_put_19 rfl rfl ?_
    refine zJ_dup dX6_put_20 rfl rfl ?_
    refine zJ_geti (mi := mX6_put) (x := numbers_size) dX6_put_21 F_X6_15 zW_3 rfl rfl rfl ?_
    refine zJ_iconst dX6_put_24 zc_1 rfl ?_
    refine zJ_iadd dX6_put_25 rfl ?_
    refine zK_puti (mi := mX6_put) (la' := [(193, (numbers_size + (1 : Int32)))]) zW_ok dX6_put_26 F_X6_15 P_6_1 zW_3 rfl rfl rfl ?_
    obtain ⟨rfl, rfl⟩ := so2 h
    exact zJ_vret dX6_put_29 rfl
set_option maxRecDepth 100000 in
set_option maxHeartbeats 4000000 in
theorem t_X6_start (l : Launch) (σ : zS) {numbers_size : Int32} {w_numbers_size : Int32} (h : f_X6_start numbers_size = some w_numbers_size) : zMt l zW 0 mX6_start σ ([(193, numbers_size)], [], []) [.ref 3] none ([(193, w_numbers_size)], [], []) := by
  refine zMt_of (ls := [(0, .ref 3)]) (by decide) rfl (fun _ => Nat.le_of_ble_eq_true rfl) rfl ?_
  unfold f_X6_start at h
  refine zJ_aload_n dX6_start_0 rfl rfl ?_
  refine zJ_iconst dX6_start_1 zc_0 rfl ?_
  refine zK_puti (mi := mX6_start) (la' := [(193, (0 : Int32))]) zW_ok dX6_start_2 F_X6_15 P_6_1 zW_3 rfl rfl rfl ?_
  obtain rfl := so1 h
  exact zJ_vret dX6_start_5 rfl
set_option maxRecDepth 100000 in
set_option maxHeartbeats 4000000 in
theorem t_X10_tellOrder_newFaults (l : Launch) (σ : zS) {numbers_size : Int32} {rounds_size : Int32} {rounds_tenths : (Nat → Int32)} {newFaults : (Nat → Int32)} {numbers_told : (Nat → Int64)} {w_numbers_size : Int32} {w_numbers_told : (Nat → Int64)} (h : f_X10_tellOrder_newFaults numbers_size rounds_size rounds_tenths newFaults numbers_told = some (w_numbers_size, w_numbers_told)) : zMt l zW 1 mX10_tellOrder σ ([(193, numbers_size), (1284, rounds_size)], [(24, rounds_tenths), (53, newFaults)], [(4, numbers_told)]) [.ref 20, .ref 3, .ref 53] none ([(193, w_numbers_size), (1284, rounds_size)], [(24, rounds_tenths), (53, newFaults)], [(4, w_numbers_told)]) := by
  refine zMt_of (ls := [(0, .ref 20), (1, .ref 3), (2, .ref 53)]) (by decide) rfl (fun _ => Nat.le_of_ble_eq_true rfl) rfl ?_
  unfold f_X10_tellOrder_newFaults at h
  refine zJ_aload_n dX10_tellOrder_0 rfl rfl ?_
  obtain ⟨numbers_sizen1, hcl, h⟩ := bd1_some h
  refine zJ_callV2 (σ := σ) (L := ([(193, numbers_size), (1284, rounds_size)], [(24, rounds_tenths), (53, newFaults)], [(4, numbers_told)])) (mi := mX10_tellOrder) (yi := mX6_start) (as := []) (st := []) (L2 := ([(193, numbers_sizen1), (1284, rounds_size)], [(24, rounds_tenths), (53, newFaults)], [(4, numbers_told)])) dX10_tellOrder_1 ML_X10_71 Yv_X6_start rfl zW_3 rfl rfl (t_X6_start l _ hcl) (zsub_i (zle_c rfl zle_n) zle_n zle_n) (zjok_i rfl rfl (zle_c rfl (zle_c rfl zle_n)) rfl rfl (zle_c rfl (zle_c rfl zle_n)) rfl rfl (zle_c rfl zle_n)) (Nat.le_of_ble_eq_true rfl) (Nat.le_of_ble_eq_true rfl) rfl rfl ?_
  refine zJ_iconst dX10_tellOrder_4 zc_1 rfl ?_
  refine zJ_istore_n (ls' := [(3, .int (1 : Int32)), (0, .ref 20), (1, .ref 3), (2, .ref 53)]) dX10_tellOrder_5 rfl rfl rfl ?_
  have hk6 : ∀ (numbers_size_6x : Int32) (numbers_told_6x : (Nat → Int64)), k_X10_tellOrder_newFaults_6  numbers_size_6x numbers_told_6x = some (w_numbers_size, w_numbers_told) → zJ l zW 1 mX10_tellOrder σ ([(193, numbers_size_6x), (1284, rounds_size)], [(24, rounds_tenths), (53, newFaults)], [(4, numbers_told_6x)]) 56 [] [] none ([(193, w_numbers_size), (1284, rounds_size)], [(24, rounds_tenths), (53, newFaults)], [(4, w_numbers_told)]) := by
    intro numbers_size_6x numbers_told_6x h
    unfold k_X10_tellOrder_newFaults_6 at h
    obtain ⟨rfl, rfl⟩ := so2 h
    exact zJ_vret dX10_tellOrder_56 rfl
  refine zJ_loc (ls' := [(0, .ref 20), (1, .ref 3), (2, .ref 53), (3, .int (1 : Int32))]) (zll_c rfl (zll_c rfl (zll_c rfl (zll_c rfl zll_n)))) ?_
  refine ml3_J (fun (v3_6 : Int32) (numbers_size_6 : Int32) (numbers_told_6 : (Nat → Int64)) => zJ l zW 1 mX10_tellOrder σ ([(193, numbers_size_6), (1284, rounds_size)], [(24, rounds_tenths), (53, newFaults)], [(4, numbers_told_6)]) 6 [(0, .ref 20), (1, .ref 3), (2, .ref 53), (3, .int v3_6)] [] none ([(193, w_numbers_size), (1284, rounds_size)], [(24, rounds_tenths), (53, newFaults)], [(4, w_numbers_told)])) (fun rc6 hrc6 v3_6 numbers_size_6 numbers_told_6 h => ?_) zN _ _ _ h
  unfold s_X10_tellOrder_newFaults_6 at h
  refine zJ_iload_n dX10_tellOrder_6 rfl rfl ?_
  refine zJ_aload_n dX10_tellOrder_7 rfl rfl ?_
  refine zJ_geti (mi := mX10_tellOrder) (x := rounds_size) dX10_tellOrder_8 F_X10_64 zW_20 rfl rfl rfl ?_
  refine zJ_icmp_gt (tgt := 56) dX10_tellOrder_11 (by decide) rfl (fun hc => ?_) (fun hc => ?_)
  · replace h := it_t hc h
    refine zJ_loc (ls' := []) zll_n ?_
    exact hk6 _ _ h
  · replace h := it_f hc h
    refine zJ_iconst dX10_tellOrder_14 zc_0 rfl ?_
    refine zJ_istore (ls' := [(4, .int (0 : Int32)), (0, .ref 20), (1, .ref 3), (2, .ref 53), (3, .int v3_6)]) dX10_tellOrder_15 rfl rfl rfl ?_
    have hk17 : ∀ (numbers_size_17x : Int32) (numbers_told_17x : (Nat → Int64)), k_X10_tellOrder_newFaults_17 rc6 v3_6 numbers_size_17x numbers_told_17x = some (w_numbers_size, w_numbers_told) → zJ l zW 1 mX10_tellOrder σ ([(193, numbers_size_17x), (1284, rounds_size)], [(24, rounds_tenths), (53, newFaults)], [(4, numbers_told_17x)]) 50 [(0, .ref 20), (1, .ref 3), (2, .ref 53), (3, .int v3_6)] [] none ([(193, w_numbers_size), (1284, rounds_size)], [(24, rounds_tenths), (53, newFaults)], [(4, w_numbers_told)]) := by
      intro numbers_size_17x numbers_told_17x h
      unfold k_X10_tellOrder_newFaults_17 at h
      obtain ⟨v3n2, ev3n2, h⟩ := lt1_some h
      refine zJ_iincN (ls' := [(3, .int v3n2), (0, .ref 20), (1, .ref 3), (2, .ref 53)]) dX10_tellOrder_50 rfl rfl zc_1 ev3n2 rfl rfl ?_
      refine zJ_goto (tgt := 6) dX10_tellOrder_53 (by decide) ?_
      refine zJ_loc (ls' := [(0, .ref 20), (1, .ref 3), (2, .ref 53), (3, .int v3n2)]) (zll_c rfl (zll_c rfl (zll_c rfl (zll_c rfl zll_n)))) ?_
      exact hrc6 _ _ _ h
    refine zJ_loc (ls' := [(0, .ref 20), (1, .ref 3), (2, .ref 53), (3, .int v3_6), (4, .int (0 : Int32))]) (zll_c rfl (zll_c rfl (zll_c rfl (zll_c rfl (zll_c rfl zll_n))))) ?_
    refine ml3_J (fun (v4_17 : Int32) (numbers_size_17 : Int32) (numbers_told_17 : (Nat → Int64)) => zJ l zW 1 mX10_tellOrder σ ([(193, numbers_size_17), (1284, rounds_size)], [(24, rounds_tenths), (53, newFaults)], [(4, numbers_told_17)]) 17 [(0, .ref 20), (1, .ref 3), (2, .ref 53), (3, .int v3_6), (4, .int v4_17)] [] none ([(193, w_numbers_size), (1284, rounds_size)], [(24, rounds_tenths), (53, newFaults)], [(4, w_numbers_told)])) (fun rc17 hrc17 v4_17 numbers_size_17 numbers_told_17 h => ?_) zN _ _ _ h
    unfold s_X10_tellOrder_newFaults_17 at h
    refine zJ_iload dX10_tellOrder_17 rfl rfl ?_
    refine zJ_aload_n dX10_tellOrder_19 rfl rfl ?_
    refine zJ_geti (mi := mX10_tellOrder) (x := rounds_size) dX10_tellOrder_20 F_X10_64 zW_20 rfl rfl rfl ?_
    refine zJ_icmp_ge (tgt := 50) dX10_tellOrder_23 (by decide) rfl (fun hc => ?_) (fun hc => ?_)
    · replace h := it_t hc h
      refine zJ_loc (ls' := [(0, .ref 20), (1, .ref 3), (2, .ref 53), (3, .int v3_6)]) (zll_c rfl (zll_c rfl (zll_c rfl (zll_c rfl zll_n)))) ?_
      exact hk17 _ _ h
    · replace h := it_f hc h
      refine zJ_aload_n dX10_tellOrder_26 rfl rfl ?_
      refine zJ_iload dX10_tellOrder_27 rfl rfl ?_
      refine zJ_aload_n dX10_tellOrder_29 rfl rfl ?_
      obtain ⟨rn3, hcl, h⟩ := bd1_some h
      refine zJ_callV2 (σ := σ) (L := ([(193, numbers_size_17), (1284, rounds_size)], [(24, rounds_tenths), (53, newFaults)], [(4, numbers_told_17)])) (mi := mX10_tellOrder) (yi := mX10_placeOf) (as := [.int v4_17, .ref 53]) (st := []) (L2 := ([(193, numbers_size_17), (1284, rounds_size)], [(24, rounds_tenths), (53, newFaults)], [(4, numbers_told_17)])) dX10_tellOrder_30 ML_X10_76 Yv_X10_placeOf rfl zW_20 rfl rfl (t_X10_placeOf_newFaults l _ hcl) (zsub_i (zle_c rfl zle_n) (zle_c rfl (zle_c rfl zle_n)) zle_n) (zjok_i rfl rfl (zle_c rfl (zle_c rfl zle_n)) rfl rfl (zle_c rfl (zle_c rfl zle_n)) rfl rfl (zle_c rfl zle_n)) (Nat.le_of_ble_eq_true rfl) (Nat.le_of_ble_eq_true rfl) rfl rfl ?_
      refine zJ_iload_n dX10_tellOrder_33 rfl rfl ?_
      refine zJ_icmp_ne (tgt := 44) dX10_tellOrder_34 (by decide) rfl (fun hc => ?_) (fun hc => ?_)
      · replace h := it_f hc h
        obtain ⟨v4n4, ev4n4, h⟩ := lt1_some h
        refine zJ_iincN (ls' := [(4, .int v4n4), (0, .ref 20), (1, .ref 3), (2, .ref 53), (3, .int v3_6)]) dX10_tellOrder_44 rfl rfl zc_1 ev4n4 rfl rfl ?_
        refine zJ_goto (tgt := 17) dX10_tellOrder_47 (by decide) ?_
        refine zJ_loc (ls' := [(0, .ref 20), (1, .ref 3), (2, .ref 53), (3, .int v3_6), (4, .int v4n4)]) (zll_c rfl (zll_c rfl (zll_c rfl (zll_c rfl (zll_c rfl zll_n))))) ?_
        exact hrc17 _ _ _ h
      · replace h := it_t hc h
        refine zJ_aload_n dX10_tellOrder_37 rfl rfl ?_
        refine zJ_iload dX10_tellOrder_38 rfl rfl ?_
        refine zJ_i2l dX10_tellOrder_40 rfl ?_
        obtain ⟨numbers_sizen5, numbers_toldn6, hcl, h⟩ := bd2_some h
        refine zJ_callV2 (σ := σ) (L := ([(193, numbers_size_17), (1284, rounds_size)], [(24, rounds_tenths), (53, newFaults)], [(4, numbers_told_17)])) (mi := mX10_tellOrder) (yi := mX6_put) (as := [.long v4_17.toInt64]) (st := []) (L2 := ([(193, numbers_sizen5), (1284, rounds_size)], [(24, rounds_tenths), (53, newFaults)], [(4, numbers_toldn6)])) dX10_tellOrder_41 ML_X10_80 Yv_X6_put rfl zW_3 rfl rfl (t_X6_put l _ hcl) (zsub_i (zle_c rfl zle_n) zle_n (zle_c rfl zle_n)) (zjok_i rfl rfl (zle_c rfl (zle_c rfl zle_n)) rfl rfl (zle_c rfl (zle_c rfl zle_n)) rfl rfl (zle_c rfl zle_n)) (Nat.le_of_ble_eq_true rfl) (Nat.le_of_ble_eq_true rfl) rfl rfl ?_
        obtain ⟨v4n7, ev4n7, h⟩ := lt1_some h
        refine zJ_iincN (ls' := [(4, .int v4n7), (0, .ref 20), (1, .ref 3), (2, .ref 53), (3, .int v3_6)]) dX10_tellOrder_44 rfl rfl zc_1 ev4n7 rfl rfl ?_
        refine zJ_goto (tgt := 17) dX10_tellOrder_47 (by decide) ?_
        refine zJ_loc (ls' := [(0, .ref 20), (1, .ref 3), (2, .ref 53), (3, .int v3_6), (4, .int v4n7)]) (zll_c rfl (zll_c rfl (zll_c rfl (zll_c rfl (zll_c rfl zll_n))))) ?_
        exact hrc17 _ _ _ h
set_option maxRecDepth 100000 in
set_option maxHeartbeats 4000000 in
theorem t_X10_tellOrder_rounds_faults (l : Launch) (σ : zS) {numbers_size : Int32} {rounds_size : Int32} {rounds_faults : (Nat → Int32)} {rounds_tenths : (Nat → Int32)} {numbers_told : (Nat → Int64)} {w_numbers_size : Int32} {w_numbers_told : (Nat → Int64)} (h : f_X10_tellOrder_rounds_faults numbers_size rounds_size rounds_faults rounds_tenths numbers_told = some (w_numbers_size, w_numbers_told)) : zMt l zW 1 mX10_tellOrder σ ([(193, numbers_size), (1284, rounds_size)], [(23, rounds_faults), (24, rounds_tenths)], [(4, numbers_told)]) [.ref 20, .ref 3, .ref 23] none ([(193, w_numbers_size), (1284, rounds_size)], [(23, rounds_faults), (24, rounds_tenths)], [(4, w_numbers_told)]) := by
  refine zMt_of (ls := [(0, .ref 20), (1, .ref 3), (2, .ref 23)]) (by decide) rfl (fun _ => Nat.le_of_ble_eq_true rfl) rfl ?_
  unfold f_X10_tellOrder_rounds_faults at h
  refine zJ_aload_n dX10_tellOrder_0 rfl rfl ?_
  obtain ⟨numbers_sizen1, hcl, h⟩ := bd1_some h
  refine zJ_callV2 (σ := σ) (L := ([(193, numbers_size), (1284, rounds_size)], [(23, rounds_faults), (24, rounds_tenths)], [(4, numbers_told)])) (mi := mX10_tellOrder) (yi := mX6_start) (as := []) (st := []) (L2 := ([(193, numbers_sizen1), (1284, rounds_size)], [(23, rounds_faults), (24, rounds_tenths)], [(4, numbers_told)])) dX10_tellOrder_1 ML_X10_71 Yv_X6_start rfl zW_3 rfl rfl (t_X6_start l _ hcl) (zsub_i (zle_c rfl zle_n) zle_n zle_n) (zjok_i rfl rfl (zle_c rfl (zle_c rfl zle_n)) rfl rfl (zle_c rfl (zle_c rfl zle_n)) rfl rfl (zle_c rfl zle_n)) (Nat.le_of_ble_eq_true rfl) (Nat.le_of_ble_eq_true rfl) rfl rfl ?_
  refine zJ_iconst dX10_tellOrder_4 zc_1 rfl ?_
  refine zJ_istore_n (ls' := [(3, .int (1 : Int32)), (0, .ref 20), (1, .ref 3), (2, .ref 23)]) dX10_tellOrder_5 rfl rfl rfl ?_
  have hk6 : ∀ (numbers_size_6x : Int32) (numbers_told_6x : (Nat → Int64)), k_X10_tellOrder_rounds_faults_6  numbers_size_6x numbers_told_6x = some (w_numbers_size, w_numbers_told) → zJ l zW 1 mX10_tellOrder σ ([(193, numbers_size_6x), (1284, rounds_size)], [(23, rounds_faults), (24, rounds_tenths)], [(4, numbers_told_6x)]) 56 [] [] none ([(193, w_numbers_size), (1284, rounds_size)], [(23, rounds_faults), (24, rounds_tenths)], [(4, w_numbers_told)]) := by
    intro numbers_size_6x numbers_told_6x h
    unfold k_X10_tellOrder_rounds_faults_6 at h
    obtain ⟨rfl, rfl⟩ := so2 h
    exact zJ_vret dX10_tellOrder_56 rfl
  refine zJ_loc (ls' := [(0, .ref 20), (1, .ref 3), (2, .ref 23), (3, .int (1 : Int32))]) (zll_c rfl (zll_c rfl (zll_c rfl (zll_c rfl zll_n)))) ?_
  refine ml3_J (fun (v3_6 : Int32) (numbers_size_6 : Int32) (numbers_told_6 : (Nat → Int64)) => zJ l zW 1 mX10_tellOrder σ ([(193, numbers_size_6), (1284, rounds_size)], [(23, rounds_faults), (24, rounds_tenths)], [(4, numbers_told_6)]) 6 [(0, .ref 20), (1, .ref 3), (2, .ref 23), (3, .int v3_6)] [] none ([(193, w_numbers_size), (1284, rounds_size)], [(23, rounds_faults), (24, rounds_tenths)], [(4, w_numbers_told)])) (fun rc6 hrc6 v3_6 numbers_size_6 numbers_told_6 h => ?_) zN _ _ _ h
  unfold s_X10_tellOrder_rounds_faults_6 at h
  refine zJ_iload_n dX10_tellOrder_6 rfl rfl ?_
  refine zJ_aload_n dX10_tellOrder_7 rfl rfl ?_
  refine zJ_geti (mi := mX10_tellOrder) (x := rounds_size) dX10_tellOrder_8 F_X10_64 zW_20 rfl rfl rfl ?_
  refine zJ_icmp_gt (tgt := 56) dX10_tellOrder_11 (by decide) rfl (fun hc => ?_) (fun hc => ?_)
  · replace h := it_t hc h
    refine zJ_loc (ls' := []) zll_n ?_
    exact hk6 _ _ h
  · replace h := it_f hc h
    refine zJ_iconst dX10_tellOrder_14 zc_0 rfl ?_
    refine zJ_istore (ls' := [(4, .int (0 : Int32)), (0, .ref 20), (1, .ref 3), (2, .ref 23), (3, .int v3_6)]) dX10_tellOrder_15 rfl rfl rfl ?_
    have hk17 : ∀ (numbers_size_17x : Int32) (numbers_told_17x : (Nat → Int64)), k_X10_tellOrder_rounds_faults_17 rc6 v3_6 numbers_size_17x numbers_told_17x = some (w_numbers_size, w_numbers_told) → zJ l zW 1 mX10_tellOrder σ ([(193, numbers_size_17x), (1284, rounds_size)], [(23, rounds_faults), (24, rounds_tenths)], [(4, numbers_told_17x)]) 50 [(0, .ref 20), (1, .ref 3), (2, .ref 23), (3, .int v3_6)] [] none ([(193, w_numbers_size), (1284, rounds_size)], [(23, rounds_faults), (24, rounds_tenths)], [(4, w_numbers_told)]) := by
      intro numbers_size_17x numbers_told_17x h
      unfold k_X10_tellOrder_rounds_faults_17 at h
      obtain ⟨v3n2, ev3n2, h⟩ := lt1_some h
      refine zJ_iincN (ls' := [(3, .int v3n2), (0, .ref 20), (1, .ref 3), (2, .ref 23)]) dX10_tellOrder_50 rfl rfl zc_1 ev3n2 rfl rfl ?_
      refine zJ_goto (tgt := 6) dX10_tellOrder_53 (by decide) ?_
      refine zJ_loc (ls' := [(0, .ref 20), (1, .ref 3), (2, .ref 23), (3, .int v3n2)]) (zll_c rfl (zll_c rfl (zll_c rfl (zll_c rfl zll_n)))) ?_
      exact hrc6 _ _ _ h
    refine zJ_loc (ls' := [(0, .ref 20), (1, .ref 3), (2, .ref 23), (3, .int v3_6), (4, .int (0 : Int32))]) (zll_c rfl (zll_c rfl (zll_c rfl (zll_c rfl (zll_c rfl zll_n))))) ?_
    refine ml3_J (fun (v4_17 : Int32) (numbers_size_17 : Int32) (numbers_told_17 : (Nat → Int64)) => zJ l zW 1 mX10_tellOrder σ ([(193, numbers_size_17), (1284, rounds_size)], [(23, rounds_faults), (24, rounds_tenths)], [(4, numbers_told_17)]) 17 [(0, .ref 20), (1, .ref 3), (2, .ref 23), (3, .int v3_6), (4, .int v4_17)] [] none ([(193, w_numbers_size), (1284, rounds_size)], [(23, rounds_faults), (24, rounds_tenths)], [(4, w_numbers_told)])) (fun rc17 hrc17 v4_17 numbers_size_17 numbers_told_17 h => ?_) zN _ _ _ h
    unfold s_X10_tellOrder_rounds_faults_17 at h
    refine zJ_iload dX10_tellOrder_17 rfl rfl ?_
    refine zJ_aload_n dX10_tellOrder_19 rfl rfl ?_
    refine zJ_geti (mi := mX10_tellOrder) (x := rounds_size) dX10_tellOrder_20 F_X10_64 zW_20 rfl rfl rfl ?_
    refine zJ_icmp_ge (tgt := 50) dX10_tellOrder_23 (by decide) rfl (fun hc => ?_) (fun hc => ?_)
    · replace h := it_t hc h
      refine zJ_loc (ls' := [(0, .ref 20), (1, .ref 3), (2, .ref 23), (3, .int v3_6)]) (zll_c rfl (zll_c rfl (zll_c rfl (zll_c rfl zll_n)))) ?_
      exact hk17 _ _ h
    · replace h := it_f hc h
      refine zJ_aload_n dX10_tellOrder_26 rfl rfl ?_
      refine zJ_iload dX10_tellOrder_27 rfl rfl ?_
      refine zJ_aload_n dX10_tellOrder_29 rfl rfl ?_
      obtain ⟨rn3, hcl, h⟩ := bd1_some h
      refine zJ_callV2 (σ := σ) (L := ([(193, numbers_size_17), (1284, rounds_size)], [(23, rounds_faults), (24, rounds_tenths)], [(4, numbers_told_17)])) (mi := mX10_tellOrder) (yi := mX10_placeOf) (as := [.int v4_17, .ref 23]) (st := []) (L2 := ([(193, numbers_size_17), (1284, rounds_size)], [(23, rounds_faults), (24, rounds_tenths)], [(4, numbers_told_17)])) dX10_tellOrder_30 ML_X10_76 Yv_X10_placeOf rfl zW_20 rfl rfl (t_X10_placeOf_rounds_faults l _ hcl) (zsub_i (zle_c rfl zle_n) (zle_c rfl (zle_c rfl zle_n)) zle_n) (zjok_i rfl rfl (zle_c rfl (zle_c rfl zle_n)) rfl rfl (zle_c rfl (zle_c rfl zle_n)) rfl rfl (zle_c rfl zle_n)) (Nat.le_of_ble_eq_true rfl) (Nat.le_of_ble_eq_true rfl) rfl rfl ?_
      refine zJ_iload_n dX10_tellOrder_33 rfl rfl ?_
      refine zJ_icmp_ne (tgt := 44) dX10_tellOrder_34 (by decide) rfl (fun hc => ?_) (fun hc => ?_)
      · replace h := it_f hc h
        obtain ⟨v4n4, ev4n4, h⟩ := lt1_some h
        refine zJ_iincN (ls' := [(4, .int v4n4), (0, .ref 20), (1, .ref 3), (2, .ref 23), (3, .int v3_6)]) dX10_tellOrder_44 rfl rfl zc_1 ev4n4 rfl rfl ?_
        refine zJ_goto (tgt := 17) dX10_tellOrder_47 (by decide) ?_
        refine zJ_loc (ls' := [(0, .ref 20), (1, .ref 3), (2, .ref 23), (3, .int v3_6), (4, .int v4n4)]) (zll_c rfl (zll_c rfl (zll_c rfl (zll_c rfl (zll_c rfl zll_n))))) ?_
        exact hrc17 _ _ _ h
      · replace h := it_t hc h
        refine zJ_aload_n dX10_tellOrder_37 rfl rfl ?_
        refine zJ_iload dX10_tellOrder_38 rfl rfl ?_
        refine zJ_i2l dX10_tellOrder_40 rfl ?_
        obtain ⟨numbers_sizen5, numbers_toldn6, hcl, h⟩ := bd2_some h
        refine zJ_callV2 (σ := σ) (L := ([(193, numbers_size_17), (1284, rounds_size)], [(23, rounds_faults), (24, rounds_tenths)], [(4, numbers_told_17)])) (mi := mX10_tellOrder) (yi := mX6_put) (as := [.long v4_17.toInt64]) (st := []) (L2 := ([(193, numbers_sizen5), (1284, rounds_size)], [(23, rounds_faults), (24, rounds_tenths)], [(4, numbers_toldn6)])) dX10_tellOrder_41 ML_X10_80 Yv_X6_put rfl zW_3 rfl rfl (t_X6_put l _ hcl) (zsub_i (zle_c rfl zle_n) zle_n (zle_c rfl zle_n)) (zjok_i rfl rfl (zle_c rfl (zle_c rfl zle_n)) rfl rfl (zle_c rfl (zle_c rfl zle_n)) rfl rfl (zle_c rfl zle_n)) (Nat.le_of_ble_eq_true rfl) (Nat.le_of_ble_eq_true rfl) rfl rfl ?_
        obtain ⟨v4n7, ev4n7, h⟩ := lt1_some h
        refine zJ_iincN (ls' := [(4, .int v4n7), (0, .ref 20), (1, .ref 3), (2, .ref 23), (3, .int v3_6)]) dX10_tellOrder_44 rfl rfl zc_1 ev4n7 rfl rfl ?_
        refine zJ_goto (tgt := 17) dX10_tellOrder_47 (by decide) ?_
        refine zJ_loc (ls' := [(0, .ref 20), (1, .ref 3), (2, .ref 23), (3, .int v3_6), (4, .int v4n7)]) (zll_c rfl (zll_c rfl (zll_c rfl (zll_c rfl (zll_c rfl zll_n))))) ?_
        exact hrc17 _ _ _ h
set_option maxRecDepth 100000 in
set_option maxHeartbeats 4000000 in
theorem t_X11_isRider (l : Launch) (σ : zS) {p0 : Int32} {r : Int32} (h : f_X11_isRider p0 = some r) : zMt l zW 0 mX11_isRider σ ([], [], []) [.int p0] (some (.int r)) ([], [], []) := by
  refine zMt_of (ls := [(0, .int p0)]) (by decide) rfl (fun _ => Nat.le_of_ble_eq_true rfl) rfl ?_
  unfold f_X11_isRider at h
  refine zJ_iload_n dX11_isRider_0 rfl rfl ?_
  refine zJ_if_lt (tgt := 14) dX11_isRider_1 (by decide) rfl (fun hc => ?_) (fun hc => ?_)
  · replace h := it_t hc h
    refine zJ_iconst dX11_isRider_14 zc_0 rfl ?_
    obtain rfl := so1 h
    exact zJ_iret dX11_isRider_15 rfl (by decide)
  · replace h := it_f hc h
    refine zJ_iload_n dX11_isRider_4 rfl rfl ?_
    refine zJ_bipush dX11_isRider_5 zb_6 rfl ?_
    refine zJ_icmp_ge (tgt := 14) dX11_isRider_7 (by decide) rfl (fun hc => ?_) (fun hc => ?_)
    · replace h := it_t hc h
      refine zJ_iconst dX11_isRider_14 zc_0 rfl ?_
      obtain rfl := so1 h
      exact zJ_iret dX11_isRider_15 rfl (by decide)
    · replace h := it_f hc h
      refine zJ_iconst dX11_isRider_10 zc_1 rfl ?_
      refine zJ_goto (tgt := 15) dX11_isRider_11 (by decide) ?_
      obtain rfl := so1 h
      exact zJ_iret dX11_isRider_15 rfl (by decide)
set_option maxRecDepth 100000 in
set_option maxHeartbeats 4000000 in
theorem t_X1_hasHorse (l : Launch) (σ : zS) {p1 : Int32} {course_horseCount : Int32} {r : Int32} (h : f_X1_hasHorse p1 course_horseCount = some r) : zMt l zW 0 mX1_hasHorse σ ([(326, course_horseCount)], [], []) [.ref 5, .int p1] (some (.int r)) ([(326, course_horseCount)], [], []) := by
  refine zMt_of (ls := [(0, .ref 5), (1, .int p1)]) (by decide) rfl (fun _ => Nat.le_of_ble_eq_true rfl) rfl ?_
  unfold f_X1_hasHorse at h
  refine zJ_iload_n dX1_hasHorse_0 rfl rfl ?_
  refine zJ_if_lt (tgt := 16) dX1_hasHorse_1 (by decide) rfl (fun hc => ?_) (fun hc => ?_)
  · replace h := it_t hc h
    refine zJ_iconst dX1_hasHorse_16 zc_0 rfl ?_
    obtain rfl := so1 h
    exact zJ_iret dX1_hasHorse_17 rfl (by decide)
  · replace h := it_f hc h
    refine zJ_iload_n dX1_hasHorse_4 rfl rfl ?_
    refine zJ_aload_n dX1_hasHorse_5 rfl rfl ?_
    refine zJ_geti (mi := mX1_hasHorse) (x := course_horseCount) dX1_hasHorse_6 F_X1_53 zW_5 rfl rfl rfl ?_
    refine zJ_icmp_ge (tgt := 16) dX1_hasHorse_9 (by decide) rfl (fun hc => ?_) (fun hc => ?_)
    · replace h := it_t hc h
      refine zJ_iconst dX1_hasHorse_16 zc_0 rfl ?_
      obtain rfl := so1 h
      exact zJ_iret dX1_hasHorse_17 rfl (by decide)
    · replace h := it_f hc h
      refine zJ_iconst dX1_hasHorse_12 zc_1 rfl ?_
      refine zJ_goto (tgt := 17) dX1_hasHorse_13 (by decide) ?_
      obtain rfl := so1 h
      exact zJ_iret dX1_hasHorse_17 rfl (by decide)
set_option maxRecDepth 100000 in
set_option maxHeartbeats 4000000 in
theorem t_X1_hasPlan (l : Launch) (σ : zS) {p1 : Int32} {course_planCount : Int32} {r : Int32} (h : f_X1_hasPlan p1 course_planCount = some r) : zMt l zW 0 mX1_hasPlan σ ([(328, course_planCount)], [], []) [.ref 5, .int p1] (some (.int r)) ([(328, course_planCount)], [], []) := by
  refine zMt_of (ls := [(0, .ref 5), (1, .int p1)]) (by decide) rfl (fun _ => Nat.le_of_ble_eq_true rfl) rfl ?_
  unfold f_X1_hasPlan at h
  refine zJ_iload_n dX1_hasPlan_0 rfl rfl ?_
  refine zJ_if_lt (tgt := 16) dX1_hasPlan_1 (by decide) rfl (fun hc => ?_) (fun hc => ?_)
  · replace h := it_t hc h
    refine zJ_iconst dX1_hasPlan_16 zc_0 rfl ?_
    obtain rfl := so1 h
    exact zJ_iret dX1_hasPlan_17 rfl (by decide)
  · replace h := it_f hc h
    refine zJ_iload_n dX1_hasPlan_4 rfl rfl ?_
    refine zJ_aload_n dX1_hasPlan_5 rfl rfl ?_
    refine zJ_geti (mi := mX1_hasPlan) (x := course_planCount) dX1_hasPlan_6 F_X1_56 zW_5 rfl rfl rfl ?_
    refine zJ_icmp_ge (tgt := 16) dX1_hasPlan_9 (by decide) rfl (fun hc => ?_) (fun hc => ?_)
    · replace h := it_t hc h
      refine zJ_iconst dX1_hasPlan_16 zc_0 rfl ?_
      obtain rfl := so1 h
      exact zJ_iret dX1_hasPlan_17 rfl (by decide)
    · replace h := it_f hc h
      refine zJ_iconst dX1_hasPlan_12 zc_1 rfl ?_
      refine zJ_goto (tgt := 17) dX1_hasPlan_13 (by decide) ?_
      obtain rfl := so1 h
      exact zJ_iret dX1_hasPlan_17 rfl (by decide)
set_option maxRecDepth 100000 in
set_option maxHeartbeats 4000000 in
theorem t_X11_begun (l : Launch) (σ : zS) {p0 : Int32} {p1 : Int32} {p2 : Int32} {r : Int32} (h : f_X11_begun p0 p1 p2 = some r) : zMt l zW 0 mX11_begun σ ([], [], []) [.int p0, .int p1, .int p2] (some (.int r)) ([], [], []) := by
  refine zMt_of (ls := [(0, .int p0), (1, .int p1), (2, .int p2)]) (by decide) rfl (fun _ => Nat.le_of_ble_eq_true rfl) rfl ?_
  unfold f_X11_begun at h
  refine zJ_iload_n dX11_begun_0 rfl rfl ?_
  refine zJ_iload_n dX11_begun_1 rfl rfl ?_
  refine zJ_icmp_le (tgt := 9) dX11_begun_2 (by decide) rfl (fun hc => ?_) (fun hc => ?_)
  · replace h := it_t hc h
    refine zJ_iconst dX11_begun_9 zc_0 rfl ?_
    obtain rfl := so1 h
    exact zJ_iret dX11_begun_10 rfl rfl
  · replace h := it_f hc h
    refine zJ_iload_n dX11_begun_5 rfl rfl ?_
    refine zJ_if_gt (tgt := 11) dX11_begun_6 (by decide) rfl (fun hc => ?_) (fun hc => ?_)
    · replace h := it_t hc h
      refine zJ_iload_n dX11_begun_11 rfl rfl ?_
      refine zJ_iload_n dX11_begun_12 rfl rfl ?_
      refine zJ_isub dX11_begun_13 rfl ?_
      refine zJ_iload_n dX11_begun_14 rfl rfl ?_
      refine zJ_iadd dX11_begun_15 rfl ?_
      refine zJ_iconst dX11_begun_16 zc_1 rfl ?_
      refine zJ_isub dX11_begun_17 rfl ?_
      refine zJ_iload_n dX11_begun_18 rfl rfl ?_
      obtain ⟨hg, h⟩ := gd_some h
      refine zJ_idiv dX11_begun_19 (nz_ne hg) rfl ?_
      obtain rfl := so1 h
      exact zJ_iret dX11_begun_20 rfl rfl
    · replace h := it_f hc h
      refine zJ_iconst dX11_begun_9 zc_0 rfl ?_
      obtain rfl := so1 h
      exact zJ_iret dX11_begun_10 rfl rfl
set_option maxRecDepth 100000 in
set_option maxHeartbeats 4000000 in
theorem t_X1_letterAt (l : Launch) (σ : zS) {p1 : Int32} {p2 : Int32} {course_plans : (Nat → Int32)} {r : Int32} (h : f_X1_letterAt p1 p2 course_plans = some r) : zMt l zW 0 mX1_letterAt σ ([], [(11, course_plans)], []) [.ref 5, .int p1, .int p2] (some (.int r)) ([], [(11, course_plans)], []) := by
  refine zMt_of (ls := [(0, .ref 5), (1, .int p1), (2, .int p2)]) (by decide) rfl (fun _ => Nat.le_of_ble_eq_true rfl) rfl ?_
  unfold f_X1_letterAt at h
  refine zJ_aload_n dX1_letterAt_0 rfl rfl ?_
  refine zJ_getr (mi := mX1_letterAt) dX1_letterAt_1 F_X1_27 zW_5 rfl rfl ?_
  refine zJ_iload_n dX1_letterAt_4 rfl rfl ?_
  refine zJ_bipush dX1_letterAt_5 zb_8 rfl ?_
  refine zJ_imul dX1_letterAt_7 rfl ?_
  refine zJ_iload_n dX1_letterAt_8 rfl rfl ?_
  refine zJ_iadd dX1_letterAt_9 rfl ?_
  obtain ⟨hg, h⟩ := gd_some h
  refine zJ_iald (mi := mX1_letterAt) (f := course_plans) dX1_letterAt_10 zW_11 (ix_in hg) rfl rfl ?_
  obtain rfl := so1 h
  exact zJ_iret dX1_letterAt_11 rfl rfl
set_option maxRecDepth 100000 in
set_option maxHeartbeats 4000000 in
theorem t_X1_isCut (l : Launch) (σ : zS) {p0 : Int32} {r : Int32} (h : f_X1_isCut p0 = some r) : zMt l zW 0 mX1_isCut σ ([], [], []) [.int p0] (some (.int r)) ([], [], []) := by
  refine zMt_of (ls := [(0, .int p0)]) (by decide) rfl (fun _ => Nat.le_of_ble_eq_true rfl) rfl ?_
  unfold f_X1_isCut at h
  refine zJ_iload_n dX1_isCut_0 rfl rfl ?_
  refine zJ_iconst dX1_isCut_1 zc_4 rfl ?_
  refine zJ_icmp_lt (tgt := 9) dX1_isCut_2 (by decide) rfl (fun hc => ?_) (fun hc => ?_)
  · replace h := it_t hc h
    refine zJ_iconst dX1_isCut_9 zc_0 rfl ?_
    obtain rfl := so1 h
    exact zJ_iret dX1_isCut_10 rfl (by decide)
  · replace h := it_f hc h
    refine zJ_iconst dX1_isCut_5 zc_1 rfl ?_
    refine zJ_goto (tgt := 10) dX1_isCut_6 (by decide) ?_
    obtain rfl := so1 h
    exact zJ_iret dX1_isCut_10 rfl (by decide)
set_option maxRecDepth 100000 in
set_option maxHeartbeats 4000000 in
theorem t_X1_fenceTenths (l : Launch) (σ : zS) {p1 : Int32} {p2 : Int32} {course_kinds : (Nat → Int32)} {course_feet : (Nat → Int32)} {r : Int32} (h : f_X1_fenceTenths p1 p2 course_kinds course_feet = some r) : zMt l zW 1 mX1_fenceTenths σ ([], [(6, course_kinds), (8, course_feet)], []) [.ref 5, .int p1, .int p2] (some (.int r)) ([], [(6, course_kinds), (8, course_feet)], []) := by
  refine zMt_of (ls := [(0, .ref 5), (1, .int p1), (2, .int p2)]) (by decide) rfl (fun _ => Nat.le_of_ble_eq_true rfl) rfl ?_
  unfold f_X1_fenceTenths at h
  refine zJ_aload_n dX1_fenceTenths_0 rfl rfl ?_
  refine zJ_getr (mi := mX1_fenceTenths) dX1_fenceTenths_1 F_X1_18 zW_5 rfl rfl ?_
  refine zJ_iload_n dX1_fenceTenths_4 rfl rfl ?_
  obtain ⟨hg, h⟩ := gd_some h
  refine zJ_iald (mi := mX1_fenceTenths) (f := course_feet) dX1_fenceTenths_5 zW_8 (ix_in hg) rfl rfl ?_
  refine zJ_bipush dX1_fenceTenths_6 zb_6 rfl ?_
  refine zJ_iload_n dX1_fenceTenths_8 rfl rfl ?_
  refine zJ_iconst dX1_fenceTenths_9 zc_4 rfl ?_
  refine zJ_irem dX1_fenceTenths_10 (by decide) rfl ?_
  refine zJ_isub dX1_fenceTenths_11 rfl ?_
  refine zJ_imul dX1_fenceTenths_12 rfl ?_
  refine zJ_iconst dX1_fenceTenths_13 zc_4 rfl ?_
  refine zJ_idiv dX1_fenceTenths_14 (by decide) rfl ?_
  obtain ⟨v3n1, ev3n1, h⟩ := lt1_some h
  refine zJ_nmi ev3n1 ?_
  refine zJ_istore_n (ls' := [(3, .int v3n1), (0, .ref 5), (1, .int p1), (2, .int p2)]) dX1_fenceTenths_15 rfl rfl rfl ?_
  refine zJ_iload_n dX1_fenceTenths_16 rfl rfl ?_
  obtain ⟨rn2, hcl, h⟩ := bd1_some h
  refine zJ_callS2 (σ := σ) (L := ([], [(6, course_kinds), (8, course_feet)], [])) (mi := mX1_fenceTenths) (yi := mX1_isCut) (as := [.int p2]) (st := []) (L2 := ([], [(6, course_kinds), (8, course_feet)], [])) dX1_fenceTenths_17 ML_X1_110 Ys_X1_isCut rfl (t_X1_isCut l _ hcl) (zsub_i zle_n zle_n zle_n) (zjok_i rfl rfl zle_n rfl rfl (zle_c rfl (zle_c rfl zle_n)) rfl rfl zle_n) (Nat.le_of_ble_eq_true rfl) (Nat.le_of_ble_eq_true rfl) rfl rfl ?_
  refine zJ_if_eq (tgt := 34) dX1_fenceTenths_20 (by decide) rfl (fun hc => ?_) (fun hc => ?_)
  · replace h := it_t hc h
    refine zJ_aload_n dX1_fenceTenths_34 rfl rfl ?_
    refine zJ_getr (mi := mX1_fenceTenths) dX1_fenceTenths_35 F_X1_11 zW_5 rfl rfl ?_
    refine zJ_iload_n dX1_fenceTenths_38 rfl rfl ?_
    obtain ⟨hg, h⟩ := gd_some h
    refine zJ_iald (mi := mX1_fenceTenths) (f := course_kinds) dX1_fenceTenths_39 zW_6 (ix_in hg) rfl rfl ?_
    refine zJ_iconst dX1_fenceTenths_40 zc_2 rfl ?_
    refine zJ_icmp_ne (tgt := 47) dX1_fenceTenths_41 (by decide) rfl (fun hc => ?_) (fun hc => ?_)
    · replace h := it_f hc h
      refine zJ_iconst dX1_fenceTenths_47 zc_1 rfl ?_
      refine zJ_iload_n dX1_fenceTenths_48 rfl rfl ?_
      refine zJ_mmax (mi := mX1_fenceTenths) dX1_fenceTenths_49 L_X1_114 K_max_s K_math K_max_c (Nat.le_of_ble_eq_true rfl) (Nat.le_of_ble_eq_true rfl) rfl ?_
      obtain rfl := so1 h
      exact zJ_iret dX1_fenceTenths_52 rfl rfl
    · replace h := it_t hc h
      obtain ⟨v3n3, ev3n3, h⟩ := lt1_some h
      refine zJ_iincN (ls' := [(3, .int v3n3), (0, .ref 5), (1, .int p1), (2, .int p2)]) dX1_fenceTenths_44 rfl rfl zc_2 ev3n3 rfl rfl ?_
      refine zJ_iconst dX1_fenceTenths_47 zc_1 rfl ?_
      refine zJ_iload_n dX1_fenceTenths_48 rfl rfl ?_
      refine zJ_mmax (mi := mX1_fenceTenths) dX1_fenceTenths_49 L_X1_114 K_max_s K_math K_max_c (Nat.le_of_ble_eq_true rfl) (Nat.le_of_ble_eq_true rfl) rfl ?_
      obtain rfl := so1 h
      exact zJ_iret dX1_fenceTenths_52 rfl rfl
  · replace h := it_f hc h
    refine zJ_iload_n dX1_fenceTenths_23 rfl rfl ?_
    refine zJ_aload_n dX1_fenceTenths_24 rfl rfl ?_
    refine zJ_getr (mi := mX1_fenceTenths) dX1_fenceTenths_25 F_X1_18 zW_5 rfl rfl ?_
    refine zJ_iload_n dX1_fenceTenths_28 rfl rfl ?_
    obtain ⟨hg, h⟩ := gd_some h
    refine zJ_iald (mi := mX1_fenceTenths) (f := course_feet) dX1_fenceTenths_29 zW_8 (ix_in hg) rfl rfl ?_
    refine zJ_iconst dX1_fenceTenths_30 zc_4 rfl ?_
    refine zJ_idiv dX1_fenceTenths_31 (by decide) rfl ?_
    refine zJ_isub dX1_fenceTenths_32 rfl ?_
    obtain ⟨v3n4, ev3n4, h⟩ := lt1_some h
    refine zJ_nmi ev3n4 ?_
    refine zJ_istore_n (ls' := [(3, .int v3n4), (0, .ref 5), (1, .int p1), (2, .int p2)]) dX1_fenceTenths_33 rfl rfl rfl ?_
    refine zJ_aload_n dX1_fenceTenths_34 rfl rfl ?_
    refine zJ_getr (mi := mX1_fenceTenths) dX1_fenceTenths_35 F_X1_11 zW_5 rfl rfl ?_
    refine zJ_iload_n dX1_fenceTenths_38 rfl rfl ?_
    obtain ⟨hg, h⟩ := gd_some h
    refine zJ_iald (mi := mX1_fenceTenths) (f := course_kinds) dX1_fenceTenths_39 zW_6 (ix_in hg) rfl rfl ?_
    refine zJ_iconst dX1_fenceTenths_40 zc_2 rfl ?_
    refine zJ_icmp_ne (tgt := 47) dX1_fenceTenths_41 (by decide) rfl (fun hc => ?_) (fun hc => ?_)
    · replace h := it_f hc h
      refine zJ_iconst dX1_fenceTenths_47 zc_1 rfl ?_
      refine zJ_iload_n dX1_fenceTenths_48 rfl rfl ?_
      refine zJ_mmax (mi := mX1_fenceTenths) dX1_fenceTenths_49 L_X1_114 K_max_s K_math K_max_c (Nat.le_of_ble_eq_true rfl) (Nat.le_of_ble_eq_true rfl) rfl ?_
      obtain rfl := so1 h
      exact zJ_iret dX1_fenceTenths_52 rfl rfl
    · replace h := it_t hc h
      obtain ⟨v3n5, ev3n5, h⟩ := lt1_some h
      refine zJ_iincN (ls' := [(3, .int v3n5), (0, .ref 5), (1, .int p1), (2, .int p2)]) dX1_fenceTenths_44 rfl rfl zc_2 ev3n5 rfl rfl ?_
      refine zJ_iconst dX1_fenceTenths_47 zc_1 rfl ?_
      refine zJ_iload_n dX1_fenceTenths_48 rfl rfl ?_
      refine zJ_mmax (mi := mX1_fenceTenths) dX1_fenceTenths_49 L_X1_114 K_max_s K_math K_max_c (Nat.le_of_ble_eq_true rfl) (Nat.le_of_ble_eq_true rfl) rfl ?_
      obtain rfl := so1 h
      exact zJ_iret dX1_fenceTenths_52 rfl rfl
set_option maxRecDepth 100000 in
set_option maxHeartbeats 4000000 in
theorem t_X1_planTenths (l : Launch) (σ : zS) {p1 : Int32} {course_fences : Int32} {course_kinds : (Nat → Int32)} {course_feet : (Nat → Int32)} {course_plans : (Nat → Int32)} {r : Int32} (h : f_X1_planTenths p1 course_fences course_kinds course_feet course_plans = some r) : zMt l zW 2 mX1_planTenths σ ([(323, course_fences)], [(6, course_kinds), (8, course_feet), (11, course_plans)], []) [.ref 5, .int p1] (some (.int r)) ([(323, course_fences)], [(6, course_kinds), (8, course_feet), (11, course_plans)], []) := by
  refine zMt_of (ls := [(0, .ref 5), (1, .int p1)]) (by decide) rfl (fun _ => Nat.le_of_ble_eq_true rfl) rfl ?_
  unfold f_X1_planTenths at h
  refine zJ_iconst dX1_planTenths_0 zc_0 rfl ?_
  refine zJ_istore_n (ls' := [(2, .int (0 : Int32)), (0, .ref 5), (1, .int p1)]) dX1_planTenths_1 rfl rfl rfl ?_
  refine zJ_iconst dX1_planTenths_2 zc_0 rfl ?_
  refine zJ_istore_n (ls' := [(3, .int (0 : Int32)), (2, .int (0 : Int32)), (0, .ref 5), (1, .int p1)]) dX1_planTenths_3 rfl rfl rfl ?_
  have hk4 : ∀ (v2_4x : Int32), k_X1_planTenths_4  v2_4x = some r → zJ l zW 2 mX1_planTenths σ ([(323, course_fences)], [(6, course_kinds), (8, course_feet), (11, course_plans)], []) 32 [(2, .int v2_4x)] [] (some (.int r)) ([(323, course_fences)], [(6, course_kinds), (8, course_feet), (11, course_plans)], []) := by
    intro v2_4x h
    unfold k_X1_planTenths_4 at h
    refine zJ_iload_n dX1_planTenths_32 rfl rfl ?_
    obtain rfl := so1 h
    exact zJ_iret dX1_planTenths_33 rfl rfl
  refine zJ_loc (ls' := [(0, .ref 5), (1, .int p1), (2, .int (0 : Int32)), (3, .int (0 : Int32))]) (zll_c rfl (zll_c rfl (zll_c rfl (zll_c rfl zll_n)))) ?_
  refine ml2_J (fun (v2_4 : Int32) (v3_4 : Int32) => zJ l zW 2 mX1_planTenths σ ([(323, course_fences)], [(6, course_kinds), (8, course_feet), (11, course_plans)], []) 4 [(0, .ref 5), (1, .int p1), (2, .int v2_4), (3, .int v3_4)] [] (some (.int r)) ([(323, course_fences)], [(6, course_kinds), (8, course_feet), (11, course_plans)], [])) (fun rc4 hrc4 v2_4 v3_4 h => ?_) zN _ _ h
  unfold s_X1_planTenths_4 at h
  refine zJ_iload_n dX1_planTenths_4 rfl rfl ?_
  refine zJ_aload_n dX1_planTenths_5 rfl rfl ?_
  refine zJ_geti (mi := mX1_planTenths) (x := course_fences) dX1_planTenths_6 F_X1_50 zW_5 rfl rfl rfl ?_
  refine zJ_icmp_ge (tgt := 32) dX1_planTenths_9 (by decide) rfl (fun hc => ?_) (fun hc => ?_)
  · replace h := it_t hc h
    refine zJ_loc (ls' := [(2, .int v2_4)]) (zll_c rfl zll_n) ?_
    exact hk4 _ h
  · replace h := it_f hc h
    refine zJ_iload_n dX1_planTenths_12 rfl rfl ?_
    refine zJ_aload_n dX1_planTenths_13 rfl rfl ?_
    refine zJ_iload_n dX1_planTenths_14 rfl rfl ?_
    refine zJ_aload_n dX1_planTenths_15 rfl rfl ?_
    refine zJ_iload_n dX1_planTenths_16 rfl rfl ?_
    refine zJ_iload_n dX1_planTenths_17 rfl rfl ?_
    obtain ⟨rn1, hcl, h⟩ := bd1_some h
    refine zJ_callV2 (σ := σ) (L := ([(323, course_fences)], [(6, course_kinds), (8, course_feet), (11, course_plans)], [])) (mi := mX1_planTenths) (yi := mX1_letterAt) (as := [.int p1, .int v3_4]) (st := [.int v3_4, .ref 5, .int v2_4]) (L2 := ([(323, course_fences)], [(6, course_kinds), (8, course_feet), (11, course_plans)], [])) dX1_planTenths_18 ML_X1_117 Yv_X1_letterAt rfl zW_5 rfl rfl (t_X1_letterAt l _ hcl) (zsub_i zle_n (zle_c rfl zle_n) zle_n) (zjok_i rfl rfl (zle_c rfl zle_n) rfl rfl (zle_c rfl (zle_c rfl (zle_c rfl zle_n))) rfl rfl zle_n) (Nat.le_of_ble_eq_true rfl) (Nat.le_of_ble_eq_true rfl) rfl rfl ?_
    obtain ⟨rn2, hcl, h⟩ := bd1_some h
    refine zJ_callV2 (σ := σ) (L := ([(323, course_fences)], [(6, course_kinds), (8, course_feet), (11, course_plans)], [])) (mi := mX1_planTenths) (yi := mX1_fenceTenths) (as := [.int v3_4, .int rn1]) (st := [.int v2_4]) (L2 := ([(323, course_fences)], [(6, course_kinds), (8, course_feet), (11, course_plans)], [])) dX1_planTenths_21 ML_X1_120 Yv_X1_fenceTenths rfl zW_5 rfl rfl (t_X1_fenceTenths l _ hcl) (zsub_i zle_n (zle_c rfl (zle_c rfl zle_n)) zle_n) (zjok_i rfl rfl (zle_c rfl zle_n) rfl rfl (zle_c rfl (zle_c rfl (zle_c rfl zle_n))) rfl rfl zle_n) (Nat.le_of_ble_eq_true rfl) (Nat.le_of_ble_eq_true rfl) rfl rfl ?_
    refine zJ_iadd dX1_planTenths_24 rfl ?_
    obtain ⟨v2n3, ev2n3, h⟩ := lt1_some h
    refine zJ_nmi ev2n3 ?_
    refine zJ_istore_n (ls' := [(2, .int v2n3), (0, .ref 5), (1, .int p1), (3, .int v3_4)]) dX1_planTenths_25 rfl rfl rfl ?_
    obtain ⟨v3n4, ev3n4, h⟩ := lt1_some h
    refine zJ_iincN (ls' := [(3, .int v3n4), (2, .int v2n3), (0, .ref 5), (1, .int p1)]) dX1_planTenths_26 rfl rfl zc_1 ev3n4 rfl rfl ?_
    refine zJ_goto (tgt := 4) dX1_planTenths_29 (by decide) ?_
    refine zJ_loc (ls' := [(0, .ref 5), (1, .int p1), (2, .int v2n3), (3, .int v3n4)]) (zll_c rfl (zll_c rfl (zll_c rfl (zll_c rfl zll_n)))) ?_
    exact hrc4 _ _ h
set_option maxRecDepth 100000 in
set_option maxHeartbeats 4000000 in
theorem t_X1_lean (l : Launch) (σ : zS) {p0 : Int32} {p1 : Int32} {r : Int32} (h : f_X1_lean p0 p1 = some r) : zMt l zW 1 mX1_lean σ ([], [], []) [.int p0, .int p1] (some (.int r)) ([], [], []) := by
  refine zMt_of (ls := [(0, .int p0), (1, .int p1)]) (by decide) rfl (fun _ => Nat.le_of_ble_eq_true rfl) rfl ?_
  unfold f_X1_lean at h
  refine zJ_iload_n dX1_lean_0 rfl rfl ?_
  refine zJ_if_gt (tgt := 6) dX1_lean_1 (by decide) rfl (fun hc => ?_) (fun hc => ?_)
  · replace h := it_t hc h
    refine zJ_iload_n dX1_lean_6 rfl rfl ?_
    refine zJ_iload_n dX1_lean_7 rfl rfl ?_
    obtain ⟨hg, h⟩ := gd_some h
    refine zJ_irem dX1_lean_8 (nz_ne hg) rfl ?_
    obtain ⟨v2n1, ev2n1, h⟩ := lt1_some h
    refine zJ_nmi ev2n1 ?_
    refine zJ_istore_n (ls' := [(2, .int v2n1), (0, .int p0), (1, .int p1)]) dX1_lean_9 rfl rfl rfl ?_
    refine zJ_iload_n dX1_lean_10 rfl rfl ?_
    refine zJ_iload_n dX1_lean_11 rfl rfl ?_
    refine zJ_iload_n dX1_lean_12 rfl rfl ?_
    refine zJ_isub dX1_lean_13 rfl ?_
    refine zJ_mmin (mi := mX1_lean) dX1_lean_14 L_X1_99 K_min_s K_math K_min_c (Nat.le_of_ble_eq_true rfl) (Nat.le_of_ble_eq_true rfl) rfl ?_
    obtain rfl := so1 h
    exact zJ_iret dX1_lean_17 rfl rfl
  · replace h := it_f hc h
    refine zJ_iconst dX1_lean_4 zc_0 rfl ?_
    obtain rfl := so1 h
    exact zJ_iret dX1_lean_5 rfl rfl
set_option maxRecDepth 100000 in
set_option maxHeartbeats 4000000 in
theorem t_X1_ofHorse (l : Launch) (σ : zS) {p1 : Int32} {p2 : Int32} {course_digits : (Nat → Int32)} {r : Int32} (h : f_X1_ofHorse p1 p2 course_digits = some r) : zMt l zW 0 mX1_ofHorse σ ([], [(10, course_digits)], []) [.ref 5, .int p1, .int p2] (some (.int r)) ([], [(10, course_digits)], []) := by
  refine zMt_of (ls := [(0, .ref 5), (1, .int p1), (2, .int p2)]) (by decide) rfl (fun _ => Nat.le_of_ble_eq_true rfl) rfl ?_
  unfold f_X1_ofHorse at h
  refine zJ_aload_n dX1_ofHorse_0 rfl rfl ?_
  refine zJ_getr (mi := mX1_ofHorse) dX1_ofHorse_1 F_X1_24 zW_5 rfl rfl ?_
  refine zJ_iload_n dX1_ofHorse_4 rfl rfl ?_
  refine zJ_bipush dX1_ofHorse_5 zb_6 rfl ?_
  refine zJ_imul dX1_ofHorse_7 rfl ?_
  refine zJ_iload_n dX1_ofHorse_8 rfl rfl ?_
  refine zJ_iadd dX1_ofHorse_9 rfl ?_
  obtain ⟨hg, h⟩ := gd_some h
  refine zJ_iald (mi := mX1_ofHorse) (f := course_digits) dX1_ofHorse_10 zW_10 (ix_in hg) rfl rfl ?_
  obtain rfl := so1 h
  exact zJ_iret dX1_ofHorse_11 rfl rfl
set_option maxRecDepth 100000 in
set_option maxHeartbeats 4000000 in
theorem t_X1_leanAt (l : Launch) (σ : zS) {p1 : Int32} {p2 : Int32} {course_feet : (Nat → Int32)} {course_digits : (Nat → Int32)} {r : Int32} (h : f_X1_leanAt p1 p2 course_feet course_digits = some r) : zMt l zW 2 mX1_leanAt σ ([], [(8, course_feet), (10, course_digits)], []) [.ref 5, .int p1, .int p2] (some (.int r)) ([], [(8, course_feet), (10, course_digits)], []) := by
  refine zMt_of (ls := [(0, .ref 5), (1, .int p1), (2, .int p2)]) (by decide) rfl (fun _ => Nat.le_of_ble_eq_true rfl) rfl ?_
  unfold f_X1_leanAt at h
  refine zJ_aload_n dX1_leanAt_0 rfl rfl ?_
  refine zJ_getr (mi := mX1_leanAt) dX1_leanAt_1 F_X1_18 zW_5 rfl rfl ?_
  refine zJ_iload_n dX1_leanAt_4 rfl rfl ?_
  obtain ⟨hg, h⟩ := gd_some h
  refine zJ_iald (mi := mX1_leanAt) (f := course_feet) dX1_leanAt_5 zW_8 (ix_in hg) rfl rfl ?_
  refine zJ_aload_n dX1_leanAt_6 rfl rfl ?_
  refine zJ_iload_n dX1_leanAt_7 rfl rfl ?_
  refine zJ_iconst dX1_leanAt_8 zc_0 rfl ?_
  obtain ⟨rn1, hcl, h⟩ := bd1_some h
  refine zJ_callV2 (σ := σ) (L := ([], [(8, course_feet), (10, course_digits)], [])) (mi := mX1_leanAt) (yi := mX1_ofHorse) (as := [.int p1, .int (0 : Int32)]) (st := [.int (course_feet p2.toNatClampNeg)]) (L2 := ([], [(8, course_feet), (10, course_digits)], [])) dX1_leanAt_9 ML_X1_104 Yv_X1_ofHorse rfl zW_5 rfl rfl (t_X1_ofHorse l _ hcl) (zsub_i zle_n (zle_c rfl zle_n) zle_n) (zjok_i rfl rfl zle_n rfl rfl (zle_c rfl (zle_c rfl zle_n)) rfl rfl zle_n) (Nat.le_of_ble_eq_true rfl) (Nat.le_of_ble_eq_true rfl) rfl rfl ?_
  obtain ⟨rn2, hcl, h⟩ := bd1_some h
  refine zJ_callS2 (σ := σ) (L := ([], [(8, course_feet), (10, course_digits)], [])) (mi := mX1_leanAt) (yi := mX1_lean) (as := [.int (course_feet p2.toNatClampNeg), .int rn1]) (st := []) (L2 := ([], [(8, course_feet), (10, course_digits)], [])) dX1_leanAt_12 ML_X1_107 Ys_X1_lean rfl (t_X1_lean l _ hcl) (zsub_i zle_n zle_n zle_n) (zjok_i rfl rfl zle_n rfl rfl (zle_c rfl (zle_c rfl zle_n)) rfl rfl zle_n) (Nat.le_of_ble_eq_true rfl) (Nat.le_of_ble_eq_true rfl) rfl rfl ?_
  obtain rfl := so1 h
  exact zJ_iret dX1_leanAt_15 rfl rfl
set_option maxRecDepth 100000 in
set_option maxHeartbeats 4000000 in
theorem t_X7_join (l : Launch) (σ : zS) {p0 : Int32} {p1 : Int32} {p2 : Int32} {r : Int32} (h : f_X7_join p0 p1 p2 = some r) : zMt l zW 0 mX7_join σ ([], [], []) [.int p0, .int p1, .int p2] (some (.int r)) ([], [], []) := by
  refine zMt_of (ls := [(0, .int p0), (1, .int p1), (2, .int p2)]) (by decide) rfl (fun _ => Nat.le_of_ble_eq_true rfl) rfl ?_
  unfold f_X7_join at h
  refine zJ_iload_n dX7_join_0 rfl rfl ?_
  by_cases hc0 : p0 = (0 : Int32)
  · replace h := it_t hc0 h
    refine zJ_tswI (tgt := 44) (off := 43) dX7_join_1 0 (by rw [hc0]; decide) (by decide) (by decide) rfl (by decide) ?_
    refine zJ_iload_n dX7_join_44 rfl rfl ?_
    refine zJ_iload_n dX7_join_45 rfl rfl ?_
    refine zJ_icmp_ge (tgt := 53) dX7_join_46 (by decide) rfl (fun hc => ?_) (fun hc => ?_)
    · replace h := it_t hc h
      refine zJ_iconst dX7_join_53 zc_0 rfl ?_
      obtain rfl := so1 h
      exact zJ_iret dX7_join_54 rfl rfl
    · replace h := it_f hc h
      refine zJ_iconst dX7_join_49 zc_1 rfl ?_
      refine zJ_goto (tgt := 54) dX7_join_50 (by decide) ?_
      obtain rfl := so1 h
      exact zJ_iret dX7_join_54 rfl rfl
  replace h := it_f hc0 h
  by_cases hc1 : p0 = (1 : Int32)
  · replace h := it_t hc1 h
    refine zJ_tswI (tgt := 55) (off := 54) dX7_join_1 1 (by rw [hc1]; decide) (by decide) (by decide) rfl (by decide) ?_
    refine zJ_iload_n dX7_join_55 rfl rfl ?_
    refine zJ_iload_n dX7_join_56 rfl rfl ?_
    refine zJ_icmp_le (tgt := 64) dX7_join_57 (by decide) rfl (fun hc => ?_) (fun hc => ?_)
    · replace h := it_t hc h
      refine zJ_iconst dX7_join_64 zc_0 rfl ?_
      obtain rfl := so1 h
      exact zJ_iret dX7_join_65 rfl rfl
    · replace h := it_f hc h
      refine zJ_iconst dX7_join_60 zc_1 rfl ?_
      refine zJ_goto (tgt := 65) dX7_join_61 (by decide) ?_
      obtain rfl := so1 h
      exact zJ_iret dX7_join_65 rfl rfl
  replace h := it_f hc1 h
  by_cases hc2 : p0 = (2 : Int32)
  · replace h := it_t hc2 h
    refine zJ_tswI (tgt := 66) (off := 65) dX7_join_1 2 (by rw [hc2]; decide) (by decide) (by decide) rfl (by decide) ?_
    refine zJ_iload_n dX7_join_66 rfl rfl ?_
    refine zJ_iload_n dX7_join_67 rfl rfl ?_
    refine zJ_icmp_ne (tgt := 75) dX7_join_68 (by decide) rfl (fun hc => ?_) (fun hc => ?_)
    · replace h := it_f hc h
      refine zJ_iconst dX7_join_75 zc_0 rfl ?_
      obtain rfl := so1 h
      exact zJ_iret dX7_join_76 rfl rfl
    · replace h := it_t hc h
      refine zJ_iconst dX7_join_71 zc_1 rfl ?_
      refine zJ_goto (tgt := 76) dX7_join_72 (by decide) ?_
      obtain rfl := so1 h
      exact zJ_iret dX7_join_76 rfl rfl
  replace h := it_f hc2 h
  by_cases hc3 : p0 = (3 : Int32)
  · replace h := it_t hc3 h
    refine zJ_tswI (tgt := 77) (off := 76) dX7_join_1 3 (by rw [hc3]; decide) (by decide) (by decide) rfl (by decide) ?_
    refine zJ_iload_n dX7_join_77 rfl rfl ?_
    refine zJ_iload_n dX7_join_78 rfl rfl ?_
    refine zJ_iadd dX7_join_79 rfl ?_
    obtain rfl := so1 h
    exact zJ_iret dX7_join_80 rfl rfl
  replace h := it_f hc3 h
  by_cases hc4 : p0 = (4 : Int32)
  · replace h := it_t hc4 h
    refine zJ_tswI (tgt := 81) (off := 80) dX7_join_1 4 (by rw [hc4]; decide) (by decide) (by decide) rfl (by decide) ?_
    refine zJ_iload_n dX7_join_81 rfl rfl ?_
    refine zJ_iload_n dX7_join_82 rfl rfl ?_
    refine zJ_isub dX7_join_83 rfl ?_
    obtain rfl := so1 h
    exact zJ_iret dX7_join_84 rfl rfl
  replace h := it_f hc4 h
  by_cases hc5 : p0 = (5 : Int32)
  · replace h := it_t hc5 h
    refine zJ_tswI (tgt := 89) (off := 88) dX7_join_1 5 (by rw [hc5]; decide) (by decide) (by decide) rfl (by decide) ?_
    refine zJ_iload_n dX7_join_89 rfl rfl ?_
    refine zJ_if_ne (tgt := 97) dX7_join_90 (by decide) rfl (fun hc => ?_) (fun hc => ?_)
    · replace h := it_f hc h
      refine zJ_iload_n dX7_join_97 rfl rfl ?_
      refine zJ_iload_n dX7_join_98 rfl rfl ?_
      obtain ⟨hg, h⟩ := gd_some h
      refine zJ_idiv dX7_join_99 (nz_ne hg) rfl ?_
      obtain rfl := so1 h
      exact zJ_iret dX7_join_100 rfl rfl
    · replace h := it_t hc h
      refine zJ_iconst dX7_join_93 zc_0 rfl ?_
      refine zJ_goto (tgt := 100) dX7_join_94 (by decide) ?_
      obtain rfl := so1 h
      exact zJ_iret dX7_join_100 rfl rfl
  replace h := it_f hc5 h
  by_cases hc6 : p0 = (6 : Int32)
  · replace h := it_t hc6 h
    refine zJ_tswI (tgt := 85) (off := 84) dX7_join_1 6 (by rw [hc6]; decide) (by decide) (by decide) rfl (by decide) ?_
    refine zJ_iload_n dX7_join_85 rfl rfl ?_
    refine zJ_iload_n dX7_join_86 rfl rfl ?_
    refine zJ_imul dX7_join_87 rfl ?_
    obtain rfl := so1 h
    exact zJ_iret dX7_join_88 rfl rfl
  replace h := it_f hc6 h
  have hq0 := z_ne (n := 0) hc0 (by decide)
  have hq1 := z_ne (n := 1) hc1 (by decide)
  have hq2 := z_ne (n := 2) hc2 (by decide)
  have hq3 := z_ne (n := 3) hc3 (by decide)
  have hq4 := z_ne (n := 4) hc4 (by decide)
  have hq5 := z_ne (n := 5) hc5 (by decide)
  have hq6 := z_ne (n := 6) hc6 (by decide)
  refine zJ_tswO (tgt := 89) dX7_join_1 (by omega) (by decide) ?_
  refine zJ_iload_n dX7_join_89 rfl rfl ?_
  refine zJ_if_ne (tgt := 97) dX7_join_90 (by decide) rfl (fun hc => ?_) (fun hc => ?_)
  · replace h := it_f hc h
    refine zJ_iload_n dX7_join_97 rfl rfl ?_
    refine zJ_iload_n dX7_join_98 rfl rfl ?_
    obtain ⟨hg, h⟩ := gd_some h
    refine zJ_idiv dX7_join_99 (nz_ne hg) rfl ?_
    obtain rfl := so1 h
    exact zJ_iret dX7_join_100 rfl rfl
  · replace h := it_t hc h
    refine zJ_iconst dX7_join_93 zc_0 rfl ?_
    refine zJ_goto (tgt := 100) dX7_join_94 (by decide) ?_
    obtain rfl := so1 h
    exact zJ_iret dX7_join_100 rfl rfl
set_option maxRecDepth 100000 in
set_option maxHeartbeats 4000000 in
theorem t_X7_usual (l : Launch) (σ : zS) {rule_things : (Nat → Int32)} {r : Int32} (h : f_X7_usual rule_things = some r) : zMt l zW 0 mX7_usual σ ([], [(16, rule_things)], []) [.ref 12] (some (.int r)) ([], [(16, rule_things)], []) := by
  refine zMt_of (ls := [(0, .ref 12)]) (by decide) rfl (fun _ => Nat.le_of_ble_eq_true rfl) rfl ?_
  unfold f_X7_usual at h
  refine zJ_aload_n dX7_usual_0 rfl rfl ?_
  refine zJ_getr (mi := mX7_usual) dX7_usual_1 F_X7_21 zW_12 rfl rfl ?_
  refine zJ_iconst dX7_usual_4 zc_0 rfl ?_
  obtain ⟨hg, h⟩ := gd_some h
  refine zJ_iald (mi := mX7_usual) (f := rule_things) dX7_usual_5 zW_16 (ix_in hg) rfl rfl ?_
  obtain ⟨v1n1, ev1n1, h⟩ := lt1_some h
  refine zJ_nmi ev1n1 ?_
  refine zJ_istore_n (ls' := [(1, .int v1n1), (0, .ref 12)]) dX7_usual_6 rfl rfl rfl ?_
  refine zJ_aload_n dX7_usual_7 rfl rfl ?_
  refine zJ_getr (mi := mX7_usual) dX7_usual_8 F_X7_21 zW_12 rfl rfl ?_
  refine zJ_iconst dX7_usual_11 zc_1 rfl ?_
  obtain ⟨hg, h⟩ := gd_some h
  refine zJ_iald (mi := mX7_usual) (f := rule_things) dX7_usual_12 zW_16 (ix_in hg) rfl rfl ?_
  obtain ⟨v2n2, ev2n2, h⟩ := lt1_some h
  refine zJ_nmi ev2n2 ?_
  refine zJ_istore_n (ls' := [(2, .int v2n2), (1, .int v1n1), (0, .ref 12)]) dX7_usual_13 rfl rfl rfl ?_
  refine zJ_aload_n dX7_usual_14 rfl rfl ?_
  refine zJ_getr (mi := mX7_usual) dX7_usual_15 F_X7_21 zW_12 rfl rfl ?_
  refine zJ_iconst dX7_usual_18 zc_2 rfl ?_
  obtain ⟨hg, h⟩ := gd_some h
  refine zJ_iald (mi := mX7_usual) (f := rule_things) dX7_usual_19 zW_16 (ix_in hg) rfl rfl ?_
  obtain ⟨v3n3, ev3n3, h⟩ := lt1_some h
  refine zJ_nmi ev3n3 ?_
  refine zJ_istore_n (ls' := [(3, .int v3n3), (2, .int v2n2), (1, .int v1n1), (0, .ref 12)]) dX7_usual_20 rfl rfl rfl ?_
  refine zJ_aload_n dX7_usual_21 rfl rfl ?_
  refine zJ_getr (mi := mX7_usual) dX7_usual_22 F_X7_21 zW_12 rfl rfl ?_
  refine zJ_iconst dX7_usual_25 zc_3 rfl ?_
  obtain ⟨hg, h⟩ := gd_some h
  refine zJ_iald (mi := mX7_usual) (f := rule_things) dX7_usual_26 zW_16 (ix_in hg) rfl rfl ?_
  obtain ⟨v4n4, ev4n4, h⟩ := lt1_some h
  refine zJ_nmi ev4n4 ?_
  refine zJ_istore (ls' := [(4, .int v4n4), (3, .int v3n3), (2, .int v2n2), (1, .int v1n1), (0, .ref 12)]) dX7_usual_27 rfl rfl rfl ?_
  refine zJ_aload_n dX7_usual_29 rfl rfl ?_
  refine zJ_getr (mi := mX7_usual) dX7_usual_30 F_X7_21 zW_12 rfl rfl ?_
  refine zJ_iconst dX7_usual_33 zc_4 rfl ?_
  obtain ⟨hg, h⟩ := gd_some h
  refine zJ_iald (mi := mX7_usual) (f := rule_things) dX7_usual_34 zW_16 (ix_in hg) rfl rfl ?_
  obtain ⟨v5n5, ev5n5, h⟩ := lt1_some h
  refine zJ_nmi ev5n5 ?_
  refine zJ_istore (ls' := [(5, .int v5n5), (4, .int v4n4), (3, .int v3n3), (2, .int v2n2), (1, .int v1n1), (0, .ref 12)]) dX7_usual_35 rfl rfl rfl ?_
  refine zJ_aload_n dX7_usual_37 rfl rfl ?_
  refine zJ_getr (mi := mX7_usual) dX7_usual_38 F_X7_21 zW_12 rfl rfl ?_
  refine zJ_iconst dX7_usual_41 zc_5 rfl ?_
  obtain ⟨hg, h⟩ := gd_some h
  refine zJ_iald (mi := mX7_usual) (f := rule_things) dX7_usual_42 zW_16 (ix_in hg) rfl rfl ?_
  obtain ⟨v6n6, ev6n6, h⟩ := lt1_some h
  refine zJ_nmi ev6n6 ?_
  refine zJ_istore (ls' := [(6, .int v6n6), (5, .int v5n5), (4, .int v4n4), (3, .int v3n3), (2, .int v2n2), (1, .int v1n1), (0, .ref 12)]) dX7_usual_43 rfl rfl rfl ?_
  refine zJ_iload_n dX7_usual_45 rfl rfl ?_
  refine zJ_iconst dX7_usual_46 zc_3 rfl ?_
  refine zJ_imul dX7_usual_47 rfl ?_
  refine zJ_iload_n dX7_usual_48 rfl rfl ?_
  refine zJ_iconst dX7_usual_49 zc_2 rfl ?_
  refine zJ_imul dX7_usual_50 rfl ?_
  refine zJ_isub dX7_usual_51 rfl ?_
  refine zJ_iload_n dX7_usual_52 rfl rfl ?_
  refine zJ_isub dX7_usual_53 rfl ?_
  refine zJ_iload dX7_usual_54 rfl rfl ?_
  refine zJ_iload dX7_usual_56 rfl rfl ?_
  refine zJ_imul dX7_usual_58 rfl ?_
  refine zJ_iadd dX7_usual_59 rfl ?_
  refine zJ_iload dX7_usual_60 rfl rfl ?_
  refine zJ_iconst dX7_usual_62 zc_4 rfl ?_
  refine zJ_imul dX7_usual_63 rfl ?_
  refine zJ_iadd dX7_usual_64 rfl ?_
  refine zJ_iload dX7_usual_65 rfl rfl ?_
  refine zJ_iconst dX7_usual_67 zc_2 rfl ?_
  refine zJ_imul dX7_usual_68 rfl ?_
  refine zJ_iadd dX7_usual_69 rfl ?_
  refine zJ_iconst dX7_usual_70 zc_5 rfl ?_
  refine zJ_iadd dX7_usual_71 rfl ?_
  obtain rfl := so1 h
  exact zJ_iret dX7_usual_72 rfl rfl
set_option maxRecDepth 100000 in
set_option maxHeartbeats 4000000 in
theorem t_X7_odds (l : Launch) (σ : zS) {course_rule_size : Int32} {rule_codes : (Nat → Int32)} {rule_stack : (Nat → Int32)} {rule_things : (Nat → Int32)} {r : Int32} {w_rule_stack : (Nat → Int32)} (h : f_X7_odds course_rule_size rule_codes rule_stack rule_things = some (r, w_rule_stack)) : zMt l zW 1 mX7_odds σ ([(769, course_rule_size)], [(13, rule_codes), (15, rule_stack), (16, rule_things)], []) [.ref 12] (some (.int r)) ([(769, course_rule_size)], [(13, rule_codes), (15, w_rule_stack), (16, rule_things)], []) := by
  refine zMt_of (ls := [(0, .ref 12)]) (by decide) rfl (fun _ => Nat.le_of_ble_eq_true rfl) rfl ?_
  unfold f_X7_odds at h
  refine zJ_iconst dX7_odds_0 zc_0 rfl ?_
  refine zJ_istore_n (ls' := [(1, .int (0 : Int32)), (0, .ref 12)]) dX7_odds_1 rfl rfl rfl ?_
  refine zJ_iconst dX7_odds_2 zc_0 rfl ?_
  refine zJ_istore_n (ls' := [(2, .int (0 : Int32)), (1, .int (0 : Int32)), (0, .ref 12)]) dX7_odds_3 rfl rfl rfl ?_
  have hk4 : ∀ (v1_4x : Int32) (rule_stack_4x : (Nat → Int32)), k_X7_odds_4 rule_things v1_4x rule_stack_4x = some (r, w_rule_stack) → zJ l zW 1 mX7_odds σ ([(769, course_rule_size)], [(13, rule_codes), (15, rule_stack_4x), (16, rule_things)], []) 141 [(0, .ref 12), (1, .int v1_4x)] [] (some (.int r)) ([(769, course_rule_size)], [(13, rule_codes), (15, w_rule_stack), (16, rule_things)], []) := by
    intro v1_4x rule_stack_4x h
    unfold k_X7_odds_4 at h
    refine zJ_iload_n dX7_odds_141 rfl rfl ?_
    refine zJ_if_le (tgt := 154) dX7_odds_142 (by decide) rfl (fun hc => ?_) (fun hc => ?_)
    · replace h := it_t hc h
      refine zJ_aload_n dX7_odds_154 rfl rfl ?_
      obtain ⟨rn1, hcl, h⟩ := bd1_some h
      refine zJ_callV2 (σ := σ) (L := ([(769, course_rule_size)], [(13, rule_codes), (15, rule_stack_4x), (16, rule_things)], [])) (mi := mX7_odds) (yi := mX7_usual) (as := []) (st := []) (L2 := ([(769, course_rule_size)], [(13, rule_codes), (15, rule_stack_4x), (16, rule_things)], [])) dX7_odds_155 ML_X7_93 Yv_X7_usual rfl zW_12 rfl rfl (t_X7_usual l _ hcl) (zsub_i zle_n (zle_c rfl zle_n) zle_n) (zjok_i rfl rfl (zle_c rfl zle_n) rfl rfl (zle_c rfl (zle_c rfl (zle_c rfl zle_n))) rfl rfl zle_n) (Nat.le_of_ble_eq_true rfl) (Nat.le_of_ble_eq_true rfl) rfl rfl ?_
      refine zJ_istore_n (ls' := [(2, .int rn1), (0, .ref 12), (1, .int v1_4x)]) dX7_odds_158 rfl rfl rfl ?_
      refine zJ_iconst dX7_odds_159 zc_0 rfl ?_
      refine zJ_bipush dX7_odds_160 zb_100 rfl ?_
      refine zJ_iload_n dX7_odds_162 rfl rfl ?_
      refine zJ_mmin (mi := mX7_odds) dX7_odds_163 L_X7_96 K_min_s K_math K_min_c (Nat.le_of_ble_eq_true rfl) (Nat.le_of_ble_eq_true rfl) rfl ?_
      refine zJ_mmax (mi := mX7_odds) dX7_odds_166 L_X7_102 K_max_s K_math K_max_c (Nat.le_of_ble_eq_true rfl) (Nat.le_of_ble_eq_true rfl) rfl ?_
      obtain ⟨rfl, rfl⟩ := so2 h
      exact zJ_iret dX7_odds_169 rfl rfl
    · replace h := it_f hc h
      refine zJ_aload_n dX7_odds_145 rfl rfl ?_
      refine zJ_getr (mi := mX7_odds) dX7_odds_146 F_X7_18 zW_12 rfl rfl ?_
      refine zJ_iconst dX7_odds_149 zc_0 rfl ?_
      obtain ⟨hg, h⟩ := gd_some h
      refine zJ_iald (mi := mX7_odds) (f := rule_stack_4x) dX7_odds_150 zW_15 (ix_in hg) rfl rfl ?_
      refine zJ_goto (tgt := 158) dX7_odds_151 (by decide) ?_
      obtain ⟨v2n2, ev2n2, h⟩ := lt1_some h
      refine zJ_nmi ev2n2 ?_
      refine zJ_istore_n (ls' := [(2, .int v2n2), (0, .ref 12), (1, .int v1_4x)]) dX7_odds_158 rfl rfl rfl ?_
      refine zJ_iconst dX7_odds_159 zc_0 rfl ?_
      refine zJ_bipush dX7_odds_160 zb_100 rfl ?_
      refine zJ_iload_n dX7_odds_162 rfl rfl ?_
      refine zJ_mmin (mi := mX7_odds) dX7_odds_163 L_X7_96 K_min_s K_math K_min_c (Nat.le_of_ble_eq_true rfl) (Nat.le_of_ble_eq_true rfl) rfl ?_
      refine zJ_mmax (mi := mX7_odds) dX7_odds_166 L_X7_102 K_max_s K_math K_max_c (Nat.le_of_ble_eq_true rfl) (Nat.le_of_ble_eq_true rfl) rfl ?_
      obtain ⟨rfl, rfl⟩ := so2 h
      exact zJ_iret dX7_odds_169 rfl rfl
  refine zJ_loc (ls' := [(0, .ref 12), (1, .int (0 : Int32)), (2, .int (0 : Int32))]) (zll_c rfl (zll_c rfl (zll_c rfl zll_n))) ?_
  refine ml3_J (fun (v1_4 : Int32) (v2_4 : Int32) (rule_stack_4 : (Nat → Int32)) => zJ l zW 1 mX7_odds σ ([(769, course_rule_size)], [(13, rule_codes), (15, rule_stack_4), (16, rule_things)], []) 4 [(0, .ref 12), (1, .int v1_4), (2, .int v2_4)] [] (some (.int r)) ([(769, course_rule_size)], [(13, rule_codes), (15, w_rule_stack), (16, rule_things)], [])) (fun rc4 hrc4 v1_4 v2_4 rule_stack_4 h => ?_) zN _ _ _ h
  unfold s_X7_odds_4 at h
  refine zJ_iload_n dX7_odds_4 rfl rfl ?_
  refine zJ_aload_n dX7_odds_5 rfl rfl ?_
  refine zJ_geti (mi := mX7_odds) (x := course_rule_size) dX7_odds_6 F_X7_52 zW_12 rfl rfl rfl ?_
  refine zJ_icmp_ge (tgt := 141) dX7_odds_9 (by decide) rfl (fun hc => ?_) (fun hc => ?_)
  · replace h := it_t hc h
    refine zJ_loc (ls' := [(0, .ref 12), (1, .int v1_4)]) (zll_c rfl (zll_c rfl zll_n)) ?_
    exact hk4 _ _ h
  · replace h := it_f hc h
    refine zJ_aload_n dX7_odds_12 rfl rfl ?_
    refine zJ_getr (mi := mX7_odds) dX7_odds_13 F_X7_11 zW_12 rfl rfl ?_
    refine zJ_iload_n dX7_odds_16 rfl rfl ?_
    obtain ⟨hg, h⟩ := gd_some h
    refine zJ_iald (mi := mX7_odds) (f := rule_codes) dX7_odds_17 zW_13 (ix_in hg) rfl rfl ?_
    obtain ⟨v3n3, ev3n3, h⟩ := lt1_some h
    refine zJ_nmi ev3n3 ?_
    refine zJ_istore_n (ls' := [(3, .int v3n3), (0, .ref 12), (1, .int v1_4), (2, .int v2_4)]) dX7_odds_18 rfl rfl rfl ?_
    refine zJ_iload_n dX7_odds_19 rfl rfl ?_
    refine zJ_sipush dX7_odds_20 zs_2000 rfl ?_
    have hj_X7_odds_65 : ∀ (v1_65j : Int32) (v2_65j : Int32) (rule_stack_65j : (Nat → Int32)), j_X7_odds_65 rc4 v3n3 v1_65j v2_65j rule_stack_65j = some (r, w_rule_stack) → zJ l zW 1 mX7_odds σ ([(769, course_rule_size)], [(13, rule_codes), (15, rule_stack_65j), (16, rule_things)], []) 65 [(0, .ref 12), (1, .int v1_65j), (2, .int v2_65j), (3, .int v3n3)] [] (some (.int r)) ([(769, course_rule_size)], [(13, rule_codes), (15, w_rule_stack), (16, rule_things)], []) := by
      intro v1_65j v2_65j rule_stack_65j h
      unfold j_X7_odds_65 at h
      refine zJ_iload_n dX7_odds_65 rfl rfl ?_
      refine zJ_sipush dX7_odds_66 zs_3000 rfl ?_
      have hj_X7_odds_97 : ∀ (v2_97j : Int32) (rule_stack_97j : (Nat → Int32)), j_X7_odds_97 rc4 v3n3 v1_65j v2_97j rule_stack_97j = some (r, w_rule_stack) → zJ l zW 1 mX7_odds σ ([(769, course_rule_size)], [(13, rule_codes), (15, rule_stack_97j), (16, rule_things)], []) 97 [(0, .ref 12), (1, .int v1_65j), (2, .int v2_97j), (3, .int v3n3)] [] (some (.int r)) ([(769, course_rule_size)], [(13, rule_codes), (15, w_rule_stack), (16, rule_things)], []) := by
        intro v2_97j rule_stack_97j h
        unfold j_X7_odds_97 at h
        refine zJ_iload_n dX7_odds_97 rfl rfl ?_
        refine zJ_iconst dX7_odds_98 zc_2 rfl ?_
        refine zJ_icmp_lt (tgt := 135) dX7_odds_99 (by decide) rfl (fun hc => ?_) (fun hc => ?_)
        · replace h := it_t hc h
          obtain ⟨v2n4, ev2n4, h⟩ := lt1_some h
          refine zJ_iincN (ls' := [(2, .int v2n4), (0, .ref 12), (1, .int v1_65j), (3, .int v3n3)]) dX7_odds_135 rfl rfl zc_1 ev2n4 rfl rfl ?_
          refine zJ_goto (tgt := 4) dX7_odds_138 (by decide) ?_
          refine zJ_loc (ls' := [(0, .ref 12), (1, .int v1_65j), (2, .int v2n4)]) (zll_c rfl (zll_c rfl (zll_c rfl zll_n))) ?_
          exact hrc4 _ _ _ h
        · replace h := it_f hc h
          obtain ⟨v1n5, ev1n5, h⟩ := lt1_some h
          refine zJ_iincN (ls' := [(1, .int v1n5), (0, .ref 12), (2, .int v2_97j), (3, .int v3n3)]) dX7_odds_102 rfl rfl zc_m1 ev1n5 rfl rfl ?_
          refine zJ_aload_n dX7_odds_105 rfl rfl ?_
          refine zJ_getr (mi := mX7_odds) dX7_odds_106 F_X7_18 zW_12 rfl rfl ?_
          refine zJ_iload_n dX7_odds_109 rfl rfl ?_
          refine zJ_iconst dX7_odds_110 zc_1 rfl ?_
          refine zJ_isub dX7_odds_111 rfl ?_
          refine zJ_iload_n dX7_odds_112 rfl rfl ?_
          refine zJ_sipush dX7_odds_113 zs_2000 rfl ?_
          refine zJ_isub dX7_odds_116 rfl ?_
          refine zJ_aload_n dX7_odds_117 rfl rfl ?_
          refine zJ_getr (mi := mX7_odds) dX7_odds_118 F_X7_18 zW_12 rfl rfl ?_
          refine zJ_iload_n dX7_odds_121 rfl rfl ?_
          refine zJ_iconst dX7_odds_122 zc_1 rfl ?_
          refine zJ_isub dX7_odds_123 rfl ?_
          obtain ⟨hg, h⟩ := gd_some h
          refine zJ_iald (mi := mX7_odds) (f := rule_stack_97j) dX7_odds_124 zW_15 (ix_in hg) rfl rfl ?_
          refine zJ_aload_n dX7_odds_125 rfl rfl ?_
          refine zJ_getr (mi := mX7_odds) dX7_odds_126 F_X7_18 zW_12 rfl rfl ?_
          refine zJ_iload_n dX7_odds_129 rfl rfl ?_
          obtain ⟨hg, h⟩ := gd_some h
          refine zJ_iald (mi := mX7_odds) (f := rule_stack_97j) dX7_odds_130 zW_15 (ix_in hg) rfl rfl ?_
          obtain ⟨rn6, hcl, h⟩ := bd1_some h
          refine zJ_callS2 (σ := σ) (L := ([(769, course_rule_size)], [(13, rule_codes), (15, rule_stack_97j), (16, rule_things)], [])) (mi := mX7_odds) (yi := mX7_join) (as := [.int (v3n3 - (2000 : Int32)), .int (rule_stack_97j (v1n5 - (1 : Int32)).toNatClampNeg), .int (rule_stack_97j v1n5.toNatClampNeg)]) (st := [.int (v1n5 - (1 : Int32)), .ref 15]) (L2 := ([(769, course_rule_size)], [(13, rule_codes), (15, rule_stack_97j), (16, rule_things)], [])) dX7_odds_131 ML_X7_89 Ys_X7_join rfl (t_X7_join l _ hcl) (zsub_i zle_n zle_n zle_n) (zjok_i rfl rfl (zle_c rfl zle_n) rfl rfl (zle_c rfl (zle_c rfl (zle_c rfl zle_n))) rfl rfl zle_n) (Nat.le_of_ble_eq_true rfl) (Nat.le_of_ble_eq_true rfl) rfl rfl ?_
          obtain ⟨hg, h⟩ := gd_some h
          refine zK_iast (mi := mX7_odds) (f := rule_stack_97j) (lb' := [(13, rule_codes), (15, (upd rule_stack_97j (v1n5 - (1 : Int32)).toNatClampNeg rn6)), (16, rule_things)]) dX7_odds_134 zW_15 (ix_in hg) rfl rfl rfl ?_
          obtain ⟨v2n7, ev2n7, h⟩ := lt1_some h
          refine zJ_iincN (ls' := [(2, .int v2n7), (1, .int v1n5), (0, .ref 12), (3, .int v3n3)]) dX7_odds_135 rfl rfl zc_1 ev2n7 rfl rfl ?_
          refine zJ_goto (tgt := 4) dX7_odds_138 (by decide) ?_
          refine zJ_loc (ls' := [(0, .ref 12), (1, .int v1n5), (2, .int v2n7)]) (zll_c rfl (zll_c rfl (zll_c rfl zll_n))) ?_
          exact hrc4 _ _ _ h
      refine zJ_icmp_ne (tgt := 97) dX7_odds_69 (by decide) rfl (fun hc => ?_) (fun hc => ?_)
      · replace h := it_f hc h
        refine zJ_loc (ls' := [(0, .ref 12), (1, .int v1_65j), (2, .int v2_65j), (3, .int v3n3)]) (zll_c rfl (zll_c rfl (zll_c rfl (zll_c rfl zll_n)))) ?_
        exact hj_X7_odds_97 _ _ h
      · replace h := it_t hc h
        refine zJ_iload_n dX7_odds_72 rfl rfl ?_
        refine zJ_iconst dX7_odds_73 zc_1 rfl ?_
        refine zJ_icmp_lt (tgt := 97) dX7_odds_74 (by decide) rfl (fun hc => ?_) (fun hc => ?_)
        · replace h := it_t hc h
          refine zJ_loc (ls' := [(0, .ref 12), (1, .int v1_65j), (2, .int v2_65j), (3, .int v3n3)]) (zll_c rfl (zll_c rfl (zll_c rfl (zll_c rfl zll_n)))) ?_
          exact hj_X7_odds_97 _ _ h
        · replace h := it_f hc h
          refine zJ_aload_n dX7_odds_77 rfl rfl ?_
          refine zJ_getr (mi := mX7_odds) dX7_odds_78 F_X7_18 zW_12 rfl rfl ?_
          refine zJ_iload_n dX7_odds_81 rfl rfl ?_
          refine zJ_iconst dX7_odds_82 zc_1 rfl ?_
          refine zJ_isub dX7_odds_83 rfl ?_
          refine zJ_aload_n dX7_odds_84 rfl rfl ?_
          refine zJ_getr (mi := mX7_odds) dX7_odds_85 F_X7_18 zW_12 rfl rfl ?_
          refine zJ_iload_n dX7_odds_88 rfl rfl ?_
          refine zJ_iconst dX7_odds_89 zc_1 rfl ?_
          refine zJ_isub dX7_odds_90 rfl ?_
          obtain ⟨hg, h⟩ := gd_some h
          refine zJ_iald (mi := mX7_odds) (f := rule_stack_65j) dX7_odds_91 zW_15 (ix_in hg) rfl rfl ?_
          refine zJ_ineg dX7_odds_92 rfl ?_
          obtain ⟨hg, h⟩ := gd_some h
          refine zK_iast (mi := mX7_odds) (f := rule_stack_65j) (lb' := [(13, rule_codes), (15, (upd rule_stack_65j (v1_65j - (1 : Int32)).toNatClampNeg (-(rule_stack_65j (v1_65j - (1 : Int32)).toNatClampNeg)))), (16, rule_things)]) dX7_odds_93 zW_15 (ix_in hg) rfl rfl rfl ?_
          refine zJ_goto (tgt := 135) dX7_odds_94 (by decide) ?_
          obtain ⟨v2n8, ev2n8, h⟩ := lt1_some h
          refine zJ_iincN (ls' := [(2, .int v2n8), (0, .ref 12), (1, .int v1_65j), (3, .int v3n3)]) dX7_odds_135 rfl rfl zc_1 ev2n8 rfl rfl ?_
          refine zJ_goto (tgt := 4) dX7_odds_138 (by decide) ?_
          refine zJ_loc (ls' := [(0, .ref 12), (1, .int v1_65j), (2, .int v2n8)]) (zll_c rfl (zll_c rfl (zll_c rfl zll_n))) ?_
          exact hrc4 _ _ _ h
    refine zJ_icmp_ge (tgt := 65) dX7_odds_23 (by decide) rfl (fun hc => ?_) (fun hc => ?_)
    · replace h := it_t hc h
      refine zJ_loc (ls' := [(0, .ref 12), (1, .int v1_4), (2, .int v2_4), (3, .int v3n3)]) (zll_c rfl (zll_c rfl (zll_c rfl (zll_c rfl zll_n)))) ?_
      exact hj_X7_odds_65 _ _ _ h
    · replace h := it_f hc h
      refine zJ_iload_n dX7_odds_26 rfl rfl ?_
      refine zJ_bipush dX7_odds_27 zb_40 rfl ?_
      refine zJ_icmp_ge (tgt := 65) dX7_odds_29 (by decide) rfl (fun hc => ?_) (fun hc => ?_)
      · replace h := it_t hc h
        refine zJ_loc (ls' := [(0, .ref 12), (1, .int v1_4), (2, .int v2_4), (3, .int v3n3)]) (zll_c rfl (zll_c rfl (zll_c rfl (zll_c rfl zll_n)))) ?_
        exact hj_X7_odds_65 _ _ _ h
      · replace h := it_f hc h
        refine zJ_aload_n dX7_odds_32 rfl rfl ?_
        refine zJ_getr (mi := mX7_odds) dX7_odds_33 F_X7_18 zW_12 rfl rfl ?_
        refine zJ_iload_n dX7_odds_36 rfl rfl ?_
        refine zJ_iload_n dX7_odds_37 rfl rfl ?_
        refine zJ_sipush dX7_odds_38 zs_1000 rfl ?_
        refine zJ_icmp_ge (tgt := 48) dX7_odds_41 (by decide) rfl (fun hc => ?_) (fun hc => ?_)
        · replace h := it_t hc h
          refine zJ_aload_n dX7_odds_48 rfl rfl ?_
          refine zJ_getr (mi := mX7_odds) dX7_odds_49 F_X7_21 zW_12 rfl rfl ?_
          refine zJ_iload_n dX7_odds_52 rfl rfl ?_
          refine zJ_sipush dX7_odds_53 zs_1000 rfl ?_
          refine zJ_isub dX7_odds_56 rfl ?_
          obtain ⟨hg, h⟩ := gd_some h
          refine zJ_iald (mi := mX7_odds) (f := rule_things) dX7_odds_57 zW_16 (ix_in hg) rfl rfl ?_
          obtain ⟨hg, h⟩ := gd_some h
          refine zK_iast (mi := mX7_odds) (f := rule_stack_4) (lb' := [(13, rule_codes), (15, (upd rule_stack_4 v1_4.toNatClampNeg (rule_things (v3n3 - (1000 : Int32)).toNatClampNeg))), (16, rule_things)]) dX7_odds_58 zW_15 (ix_in hg) rfl rfl rfl ?_
          obtain ⟨v1n9, ev1n9, h⟩ := lt1_some h
          refine zJ_iincN (ls' := [(1, .int v1n9), (3, .int v3n3), (0, .ref 12), (2, .int v2_4)]) dX7_odds_59 rfl rfl zc_1 ev1n9 rfl rfl ?_
          refine zJ_goto (tgt := 135) dX7_odds_62 (by decide) ?_
          obtain ⟨v2n10, ev2n10, h⟩ := lt1_some h
          refine zJ_iincN (ls' := [(2, .int v2n10), (1, .int v1n9), (3, .int v3n3), (0, .ref 12)]) dX7_odds_135 rfl rfl zc_1 ev2n10 rfl rfl ?_
          refine zJ_goto (tgt := 4) dX7_odds_138 (by decide) ?_
          refine zJ_loc (ls' := [(0, .ref 12), (1, .int v1n9), (2, .int v2n10)]) (zll_c rfl (zll_c rfl (zll_c rfl zll_n))) ?_
          exact hrc4 _ _ _ h
        · replace h := it_f hc h
          refine zJ_iload_n dX7_odds_44 rfl rfl ?_
          refine zJ_goto (tgt := 58) dX7_odds_45 (by decide) ?_
          obtain ⟨hg, h⟩ := gd_some h
          refine zK_iast (mi := mX7_odds) (f := rule_stack_4) (lb' := [(13, rule_codes), (15, (upd rule_stack_4 v1_4.toNatClampNeg v3n3)), (16, rule_things)]) dX7_odds_58 zW_15 (ix_in hg) rfl rfl rfl ?_
          obtain ⟨v1n11, ev1n11, h⟩ := lt1_some h
          refine zJ_iincN (ls' := [(1, .int v1n11), (3, .int v3n3), (0, .ref 12), (2, .int v2_4)]) dX7_odds_59 rfl rfl zc_1 ev1n11 rfl rfl ?_
          refine zJ_goto (tgt := 135) dX7_odds_62 (by decide) ?_
          obtain ⟨v2n12, ev2n12, h⟩ := lt1_some h
          refine zJ_iincN (ls' := [(2, .int v2n12), (1, .int v1n11), (3, .int v3n3), (0, .ref 12)]) dX7_odds_135 rfl rfl zc_1 ev2n12 rfl rfl ?_
          refine zJ_goto (tgt := 4) dX7_odds_138 (by decide) ?_
          refine zJ_loc (ls' := [(0, .ref 12), (1, .int v1n11), (2, .int v2n12)]) (zll_c rfl (zll_c rfl (zll_c rfl zll_n))) ?_
          exact hrc4 _ _ _ h
