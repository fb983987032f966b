set_option maxRecDepth 100000 in
set_option maxHeartbeats 4000000 in
theorem t_J6_bitCount_0f7a4 (l : Launch) (σ : zS) {p0 : Int32} {r : Int32} (h : f_J6_bitCount_0f7a4 p0 = some r) : zMt l zW 0 mJ6_bitCount_0f7a4 σ ([], [], []) [.int p0] (some (.int r)) ([], [], []) := by
  refine zMt_of (ls := [(0, .int p0)]) (by decide) rfl (fun _ => Nat.le_of_ble_eq_true rfl) rfl ?_
  unfold f_J6_bitCount_0f7a4 at h
  refine zJ_iload_n dJ6_bitCount_0f7a4_0 rfl rfl ?_
  refine zJ_iload_n dJ6_bitCount_0f7a4_1 rfl rfl ?_
  refine zJ_iconst dJ6_bitCount_0f7a4_2 zc_1 rfl ?_
  refine zJ_iushr dJ6_bitCount_0f7a4_3 rfl ?_
  refine zJ_ldc_w (v := 1431655765) dJ6_bitCount_0f7a4_4 C_J6_265 rfl ?_
  refine zJ_iand dJ6_bitCount_0f7a4_7 rfl ?_
  refine zJ_isub dJ6_bitCount_0f7a4_8 rfl ?_
  obtain ⟨v0n1, ev0n1, h⟩ := lt1_some h
  refine zJ_nmi ev0n1 ?_
  refine zJ_istore_n (ls' := [(0, .int v0n1)]) dJ6_bitCount_0f7a4_9 rfl rfl rfl ?_
  refine zJ_iload_n dJ6_bitCount_0f7a4_10 rfl rfl ?_
  refine zJ_ldc_w (v := 858993459) dJ6_bitCount_0f7a4_11 C_J6_266 rfl ?_
  refine zJ_iand dJ6_bitCount_0f7a4_14 rfl ?_
  refine zJ_iload_n dJ6_bitCount_0f7a4_15 rfl rfl ?_
  refine zJ_iconst dJ6_bitCount_0f7a4_16 zc_2 rfl ?_
  refine zJ_iushr dJ6_bitCount_0f7a4_17 rfl ?_
  refine zJ_ldc_w (v := 858993459) dJ6_bitCount_0f7a4_18 C_J6_266 rfl ?_
  refine zJ_iand dJ6_bitCount_0f7a4_21 rfl ?_
  refine zJ_iadd dJ6_bitCount_0f7a4_22 rfl ?_
  obtain ⟨v0n2, ev0n2, h⟩ := lt1_some h
  refine zJ_nmi ev0n2 ?_
  refine zJ_istore_n (ls' := [(0, .int v0n2)]) dJ6_bitCount_0f7a4_23 rfl rfl rfl ?_
  refine zJ_iload_n dJ6_bitCount_0f7a4_24 rfl rfl ?_
  refine zJ_iload_n dJ6_bitCount_0f7a4_25 rfl rfl ?_
  refine zJ_iconst dJ6_bitCount_0f7a4_26 zc_4 rfl ?_
  refine zJ_iushr dJ6_bitCount_0f7a4_27 rfl ?_
  refine zJ_iadd dJ6_bitCount_0f7a4_28 rfl ?_
  refine zJ_ldc_w (v := 252645135) dJ6_bitCount_0f7a4_29 C_J6_267 rfl ?_
  refine zJ_iand dJ6_bitCount_0f7a4_32 rfl ?_
  obtain ⟨v0n3, ev0n3, h⟩ := lt1_some h
  refine zJ_nmi ev0n3 ?_
  refine zJ_istore_n (ls' := [(0, .int v0n3)]) dJ6_bitCount_0f7a4_33 rfl rfl rfl ?_
  refine zJ_iload_n dJ6_bitCount_0f7a4_34 rfl rfl ?_
  refine zJ_iload_n dJ6_bitCount_0f7a4_35 rfl rfl ?_
  refine zJ_bipush dJ6_bitCount_0f7a4_36 zb_8 rfl ?_
  refine zJ_iushr dJ6_bitCount_0f7a4_38 rfl ?_
  refine zJ_iadd dJ6_bitCount_0f7a4_39 rfl ?_
  obtain ⟨v0n4, ev0n4, h⟩ := lt1_some h
  refine zJ_nmi ev0n4 ?_
  refine zJ_istore_n (ls' := [(0, .int v0n4)]) dJ6_bitCount_0f7a4_40 rfl rfl rfl ?_
  refine zJ_iload_n dJ6_bitCount_0f7a4_41 rfl rfl ?_
  refine zJ_iload_n dJ6_bitCount_0f7a4_42 rfl rfl ?_
  refine zJ_bipush dJ6_bitCount_0f7a4_43 zb_16 rfl ?_
  refine zJ_iushr dJ6_bitCount_0f7a4_45 rfl ?_
  refine zJ_iadd dJ6_bitCount_0f7a4_46 rfl ?_
  obtain ⟨v0n5, ev0n5, h⟩ := lt1_some h
  refine zJ_nmi ev0n5 ?_
  refine zJ_istore_n (ls' := [(0, .int v0n5)]) dJ6_bitCount_0f7a4_47 rfl rfl rfl ?_
  refine zJ_iload_n dJ6_bitCount_0f7a4_48 rfl rfl ?_
  refine zJ_bipush dJ6_bitCount_0f7a4_49 zb_63 rfl ?_
  refine zJ_iand dJ6_bitCount_0f7a4_51 rfl ?_
  obtain rfl := so1 h
  exact zJ_iret dJ6_bitCount_0f7a4_52 rfl rfl
set_option maxRecDepth 100000 in
set_option maxHeartbeats 4000000 in
theorem t_J7_fill_53178_course_counts (l : Launch) (σ : zS) {p1 : Int32} {course_counts : (Nat → Int32)} {w_course_counts : (Nat → Int32)} (h : f_J7_fill_53178_course_counts p1 course_counts = some w_course_counts) : zMt l zW 0 mJ7_fill_53178 σ ([], [(17, course_counts)], []) [.ref 17, .int p1] none ([], [(17, w_course_counts)], []) := by
  refine zMt_of (ls := [(0, .ref 17), (1, .int p1)]) (by decide) rfl (fun _ => Nat.le_of_ble_eq_true rfl) rfl ?_
  unfold f_J7_fill_53178_course_counts at h
  refine zJ_iconst dJ7_fill_53178_0 zc_0 rfl ?_
  refine zJ_istore_n (ls' := [(2, .int (0 : Int32)), (0, .ref 17), (1, .int p1)]) dJ7_fill_53178_1 rfl rfl rfl ?_
  refine zJ_aload_n dJ7_fill_53178_2 rfl rfl ?_
  refine zJ_alen (v := 80) dJ7_fill_53178_3 zW_17 (by decide) (by decide) rfl ?_
  refine zJ_istore_n (ls' := [(3, .int (80 : Int32)), (2, .int (0 : Int32)), (0, .ref 17), (1, .int p1)]) dJ7_fill_53178_4 rfl rfl rfl ?_
  have hk5 : ∀ (course_counts_5x : (Nat → Int32)), k_J7_fill_53178_course_counts_5  course_counts_5x = some w_course_counts → zJ l zW 0 mJ7_fill_53178 σ ([], [(17, course_counts_5x)], []) 20 [] [] none ([], [(17, w_course_counts)], []) := by
    intro course_counts_5x h
    unfold k_J7_fill_53178_course_counts_5 at h
    obtain rfl := so1 h
    exact zJ_vret dJ7_fill_53178_20 rfl
  refine zJ_loc (ls' := [(0, .ref 17), (1, .int p1), (2, .int (0 : Int32)), (3, .int (80 : Int32))]) (zll_c rfl (zll_c rfl (zll_c rfl (zll_c rfl zll_n)))) ?_
  refine ml2_J (fun (v2_5 : Int32) (course_counts_5 : (Nat → Int32)) => zJ l zW 0 mJ7_fill_53178 σ ([], [(17, course_counts_5)], []) 5 [(0, .ref 17), (1, .int p1), (2, .int v2_5), (3, .int (80 : Int32))] [] none ([], [(17, w_course_counts)], [])) (fun rc5 hrc5 v2_5 course_counts_5 h => ?_) zN _ _ h
  unfold s_J7_fill_53178_course_counts_5 at h
  refine zJ_iload_n dJ7_fill_53178_5 rfl rfl ?_
  refine zJ_iload_n dJ7_fill_53178_6 rfl rfl ?_
  refine zJ_icmp_ge (tgt := 20) dJ7_fill_53178_7 (by decide) rfl (fun hc => ?_) (fun hc => ?_)
  · replace h := it_t hc h
    refine zJ_loc (ls' := []) zll_n ?_
    exact hk5 _ h
  · replace h := it_f hc h
    refine zJ_aload_n dJ7_fill_53178_10 rfl rfl ?_
    refine zJ_iload_n dJ7_fill_53178_11 rfl rfl ?_
    refine zJ_iload_n dJ7_fill_53178_12 rfl rfl ?_
    obtain ⟨hg, h⟩ := gd_some h
    refine zK_iast (mi := mJ7_fill_53178) (f := course_counts_5) (lb' := [(17, (upd course_counts_5 v2_5.toNatClampNeg p1))]) dJ7_fill_53178_13 zW_17 (ix_in hg) rfl rfl rfl ?_
    obtain ⟨v2n1, ev2n1, h⟩ := lt1_some h
    refine zJ_iincN (ls' := [(2, .int v2n1), (0, .ref 17), (1, .int p1), (3, .int (80 : Int32))]) dJ7_fill_53178_14 rfl rfl zc_1 ev2n1 rfl rfl ?_
    refine zJ_goto (tgt := 5) dJ7_fill_53178_17 (by decide) ?_
    refine zJ_loc (ls' := [(0, .ref 17), (1, .int p1), (2, .int v2n1), (3, .int (80 : Int32))]) (zll_c rfl (zll_c rfl (zll_c rfl (zll_c rfl zll_n)))) ?_
    exact hrc5 _ _ h
set_option maxRecDepth 100000 in
set_option maxHeartbeats 4000000 in
theorem t_J7_fill_53178_history_sizes (l : Launch) (σ : zS) {p1 : Int32} {history_sizes : (Nat → Int32)} {w_history_sizes : (Nat → Int32)} (h : f_J7_fill_53178_history_sizes p1 history_sizes = some w_history_sizes) : zMt l zW 0 mJ7_fill_53178 σ ([], [(29, history_sizes)], []) [.ref 29, .int p1] none ([], [(29, w_history_sizes)], []) := by
  refine zMt_of (ls := [(0, .ref 29), (1, .int p1)]) (by decide) rfl (fun _ => Nat.le_of_ble_eq_true rfl) rfl ?_
  unfold f_J7_fill_53178_history_sizes at h
  refine zJ_iconst dJ7_fill_53178_0 zc_0 rfl ?_
  refine zJ_istore_n (ls' := [(2, .int (0 : Int32)), (0, .ref 29), (1, .int p1)]) dJ7_fill_53178_1 rfl rfl rfl ?_
  refine zJ_aload_n dJ7_fill_53178_2 rfl rfl ?_
  refine zJ_alen (v := 13) dJ7_fill_53178_3 zW_29 (by decide) (by decide) rfl ?_
  refine zJ_istore_n (ls' := [(3, .int (13 : Int32)), (2, .int (0 : Int32)), (0, .ref 29), (1, .int p1)]) dJ7_fill_53178_4 rfl rfl rfl ?_
  have hk5 : ∀ (history_sizes_5x : (Nat → Int32)), k_J7_fill_53178_history_sizes_5  history_sizes_5x = some w_history_sizes → zJ l zW 0 mJ7_fill_53178 σ ([], [(29, history_sizes_5x)], []) 20 [] [] none ([], [(29, w_history_sizes)], []) := by
    intro history_sizes_5x h
    unfold k_J7_fill_53178_history_sizes_5 at h
    obtain rfl := so1 h
    exact zJ_vret dJ7_fill_53178_20 rfl
  refine zJ_loc (ls' := [(0, .ref 29), (1, .int p1), (2, .int (0 : Int32)), (3, .int (13 : Int32))]) (zll_c rfl (zll_c rfl (zll_c rfl (zll_c rfl zll_n)))) ?_
  refine ml2_J (fun (v2_5 : Int32) (history_sizes_5 : (Nat → Int32)) => zJ l zW 0 mJ7_fill_53178 σ ([], [(29, history_sizes_5)], []) 5 [(0, .ref 29), (1, .int p1), (2, .int v2_5), (3, .int (13 : Int32))] [] none ([], [(29, w_history_sizes)], [])) (fun rc5 hrc5 v2_5 history_sizes_5 h => ?_) zN _ _ h
  unfold s_J7_fill_53178_history_sizes_5 at h
  refine zJ_iload_n dJ7_fill_53178_5 rfl rfl ?_
  refine zJ_iload_n dJ7_fill_53178_6 rfl rfl ?_
  refine zJ_icmp_ge (tgt := 20) dJ7_fill_53178_7 (by decide) rfl (fun hc => ?_) (fun hc => ?_)
  · replace h := it_t hc h
    refine zJ_loc (ls' := []) zll_n ?_
    exact hk5 _ h
  · replace h := it_f hc h
    refine zJ_aload_n dJ7_fill_53178_10 rfl rfl ?_
    refine zJ_iload_n dJ7_fill_53178_11 rfl rfl ?_
    refine zJ_iload_n dJ7_fill_53178_12 rfl rfl ?_
    obtain ⟨hg, h⟩ := gd_some h
    refine zK_iast (mi := mJ7_fill_53178) (f := history_sizes_5) (lb' := [(29, (upd history_sizes_5 v2_5.toNatClampNeg p1))]) dJ7_fill_53178_13 zW_29 (ix_in hg) rfl rfl rfl ?_
    obtain ⟨v2n1, ev2n1, h⟩ := lt1_some h
    refine zJ_iincN (ls' := [(2, .int v2n1), (0, .ref 29), (1, .int p1), (3, .int (13 : Int32))]) dJ7_fill_53178_14 rfl rfl zc_1 ev2n1 rfl rfl ?_
    refine zJ_goto (tgt := 5) dJ7_fill_53178_17 (by decide) ?_
    refine zJ_loc (ls' := [(0, .ref 29), (1, .int p1), (2, .int v2n1), (3, .int (13 : Int32))]) (zll_c rfl (zll_c rfl (zll_c rfl (zll_c rfl zll_n)))) ?_
    exact hrc5 _ _ h
set_option maxRecDepth 100000 in
set_option maxHeartbeats 4000000 in
theorem t_J7_fill_53178_kept_sizes (l : Launch) (σ : zS) {p1 : Int32} {kept_sizes : (Nat → Int32)} {w_kept_sizes : (Nat → Int32)} (h : f_J7_fill_53178_kept_sizes p1 kept_sizes = some w_kept_sizes) : zMt l zW 0 mJ7_fill_53178 σ ([], [(32, kept_sizes)], []) [.ref 32, .int p1] none ([], [(32, w_kept_sizes)], []) := by
  refine zMt_of (ls := [(0, .ref 32), (1, .int p1)]) (by decide) rfl (fun _ => Nat.le_of_ble_eq_true rfl) rfl ?_
  unfold f_J7_fill_53178_kept_sizes at h
  refine zJ_iconst dJ7_fill_53178_0 zc_0 rfl ?_
  refine zJ_istore_n (ls' := [(2, .int (0 : Int32)), (0, .ref 32), (1, .int p1)]) dJ7_fill_53178_1 rfl rfl rfl ?_
  refine zJ_aload_n dJ7_fill_53178_2 rfl rfl ?_
  refine zJ_alen (v := 2) dJ7_fill_53178_3 zW_32 (by decide) (by decide) rfl ?_
  refine zJ_istore_n (ls' := [(3, .int (2 : Int32)), (2, .int (0 : Int32)), (0, .ref 32), (1, .int p1)]) dJ7_fill_53178_4 rfl rfl rfl ?_
  have hk5 : ∀ (kept_sizes_5x : (Nat → Int32)), k_J7_fill_53178_kept_sizes_5  kept_sizes_5x = some w_kept_sizes → zJ l zW 0 mJ7_fill_53178 σ ([], [(32, kept_sizes_5x)], []) 20 [] [] none ([], [(32, w_kept_sizes)], []) := by
    intro kept_sizes_5x h
    unfold k_J7_fill_53178_kept_sizes_5 at h
    obtain rfl := so1 h
    exact zJ_vret dJ7_fill_53178_20 rfl
  refine zJ_loc (ls' := [(0, .ref 32), (1, .int p1), (2, .int (0 : Int32)), (3, .int (2 : Int32))]) (zll_c rfl (zll_c rfl (zll_c rfl (zll_c rfl zll_n)))) ?_
  refine ml2_J (fun (v2_5 : Int32) (kept_sizes_5 : (Nat → Int32)) => zJ l zW 0 mJ7_fill_53178 σ ([], [(32, kept_sizes_5)], []) 5 [(0, .ref 32), (1, .int p1), (2, .int v2_5), (3, .int (2 : Int32))] [] none ([], [(32, w_kept_sizes)], [])) (fun rc5 hrc5 v2_5 kept_sizes_5 h => ?_) zN _ _ h
  unfold s_J7_fill_53178_kept_sizes_5 at h
  refine zJ_iload_n dJ7_fill_53178_5 rfl rfl ?_
  refine zJ_iload_n dJ7_fill_53178_6 rfl rfl ?_
  refine zJ_icmp_ge (tgt := 20) dJ7_fill_53178_7 (by decide) rfl (fun hc => ?_) (fun hc => ?_)
  · replace h := it_t hc h
    refine zJ_loc (ls' := []) zll_n ?_
    exact hk5 _ h
  · replace h := it_f hc h
    refine zJ_aload_n dJ7_fill_53178_10 rfl rfl ?_
    refine zJ_iload_n dJ7_fill_53178_11 rfl rfl ?_
    refine zJ_iload_n dJ7_fill_53178_12 rfl rfl ?_
    obtain ⟨hg, h⟩ := gd_some h
    refine zK_iast (mi := mJ7_fill_53178) (f := kept_sizes_5) (lb' := [(32, (upd kept_sizes_5 v2_5.toNatClampNeg p1))]) dJ7_fill_53178_13 zW_32 (ix_in hg) rfl rfl rfl ?_
    obtain ⟨v2n1, ev2n1, h⟩ := lt1_some h
    refine zJ_iincN (ls' := [(2, .int v2n1), (0, .ref 32), (1, .int p1), (3, .int (2 : Int32))]) dJ7_fill_53178_14 rfl rfl zc_1 ev2n1 rfl rfl ?_
    refine zJ_goto (tgt := 5) dJ7_fill_53178_17 (by decide) ?_
    refine zJ_loc (ls' := [(0, .ref 32), (1, .int p1), (2, .int v2n1), (3, .int (2 : Int32))]) (zll_c rfl (zll_c rfl (zll_c rfl (zll_c rfl zll_n)))) ?_
    exact hrc5 _ _ h
set_option maxRecDepth 100000 in
set_option maxHeartbeats 4000000 in
theorem t_J7_fill_53178_rounds_draft (l : Launch) (σ : zS) {p1 : Int32} {rounds_draft : (Nat → Int32)} {w_rounds_draft : (Nat → Int32)} (h : f_J7_fill_53178_rounds_draft p1 rounds_draft = some w_rounds_draft) : zMt l zW 0 mJ7_fill_53178 σ ([], [(26, rounds_draft)], []) [.ref 26, .int p1] none ([], [(26, w_rounds_draft)], []) := by
  refine zMt_of (ls := [(0, .ref 26), (1, .int p1)]) (by decide) rfl (fun _ => Nat.le_of_ble_eq_true rfl) rfl ?_
  unfold f_J7_fill_53178_rounds_draft at h
  refine zJ_iconst dJ7_fill_53178_0 zc_0 rfl ?_
  refine zJ_istore_n (ls' := [(2, .int (0 : Int32)), (0, .ref 26), (1, .int p1)]) dJ7_fill_53178_1 rfl rfl rfl ?_
  refine zJ_aload_n dJ7_fill_53178_2 rfl rfl ?_
  refine zJ_alen (v := 6) dJ7_fill_53178_3 zW_26 (by decide) (by decide) rfl ?_
  refine zJ_istore_n (ls' := [(3, .int (6 : Int32)), (2, .int (0 : Int32)), (0, .ref 26), (1, .int p1)]) dJ7_fill_53178_4 rfl rfl rfl ?_
  have hk5 : ∀ (rounds_draft_5x : (Nat → Int32)), k_J7_fill_53178_rounds_draft_5  rounds_draft_5x = some w_rounds_draft → zJ l zW 0 mJ7_fill_53178 σ ([], [(26, rounds_draft_5x)], []) 20 [] [] none ([], [(26, w_rounds_draft)], []) := by
    intro rounds_draft_5x h
    unfold k_J7_fill_53178_rounds_draft_5 at h
    obtain rfl := so1 h
    exact zJ_vret dJ7_fill_53178_20 rfl
  refine zJ_loc (ls' := [(0, .ref 26), (1, .int p1), (2, .int (0 : Int32)), (3, .int (6 : Int32))]) (zll_c rfl (zll_c rfl (zll_c rfl (zll_c rfl zll_n)))) ?_
  refine ml2_J (fun (v2_5 : Int32) (rounds_draft_5 : (Nat → Int32)) => zJ l zW 0 mJ7_fill_53178 σ ([], [(26, rounds_draft_5)], []) 5 [(0, .ref 26), (1, .int p1), (2, .int v2_5), (3, .int (6 : Int32))] [] none ([], [(26, w_rounds_draft)], [])) (fun rc5 hrc5 v2_5 rounds_draft_5 h => ?_) zN _ _ h
  unfold s_J7_fill_53178_rounds_draft_5 at h
  refine zJ_iload_n dJ7_fill_53178_5 rfl rfl ?_
  refine zJ_iload_n dJ7_fill_53178_6 rfl rfl ?_
  refine zJ_icmp_ge (tgt := 20) dJ7_fill_53178_7 (by decide) rfl (fun hc => ?_) (fun hc => ?_)
  · replace h := it_t hc h
    refine zJ_loc (ls' := []) zll_n ?_
    exact hk5 _ h
  · replace h := it_f hc h
    refine zJ_aload_n dJ7_fill_53178_10 rfl rfl ?_
    refine zJ_iload_n dJ7_fill_53178_11 rfl rfl ?_
    refine zJ_iload_n dJ7_fill_53178_12 rfl rfl ?_
    obtain ⟨hg, h⟩ := gd_some h
    refine zK_iast (mi := mJ7_fill_53178) (f := rounds_draft_5) (lb' := [(26, (upd rounds_draft_5 v2_5.toNatClampNeg p1))]) dJ7_fill_53178_13 zW_26 (ix_in hg) rfl rfl rfl ?_
    obtain ⟨v2n1, ev2n1, h⟩ := lt1_some h
    refine zJ_iincN (ls' := [(2, .int v2n1), (0, .ref 26), (1, .int p1), (3, .int (6 : Int32))]) dJ7_fill_53178_14 rfl rfl zc_1 ev2n1 rfl rfl ?_
    refine zJ_goto (tgt := 5) dJ7_fill_53178_17 (by decide) ?_
    refine zJ_loc (ls' := [(0, .ref 26), (1, .int p1), (2, .int v2n1), (3, .int (6 : Int32))]) (zll_c rfl (zll_c rfl (zll_c rfl (zll_c rfl zll_n)))) ?_
    exact hrc5 _ _ h
set_option maxRecDepth 100000 in
set_option maxHeartbeats 4000000 in
theorem t_J7_fill_d0a16_chances (l : Launch) (σ : zS) {p1 : Int64} {chances : (Nat → Int64)} {w_chances : (Nat → Int64)} (h : f_J7_fill_d0a16_chances p1 chances = some w_chances) : zMt l zW 0 mJ7_fill_d0a16 σ ([], [], [(52, chances)]) [.ref 52, .long p1] none ([], [], [(52, w_chances)]) := by
  refine zMt_of (ls := [(0, .ref 52), (1, .long p1)]) (by decide) rfl (fun _ => Nat.le_of_ble_eq_true rfl) rfl ?_
  unfold f_J7_fill_d0a16_chances at h
  refine zJ_iconst dJ7_fill_d0a16_0 zc_0 rfl ?_
  refine zJ_istore_n (ls' := [(3, .int (0 : Int32)), (0, .ref 52), (1, .long p1)]) dJ7_fill_d0a16_1 rfl rfl rfl ?_
  refine zJ_aload_n dJ7_fill_d0a16_2 rfl rfl ?_
  refine zJ_alen (v := 9) dJ7_fill_d0a16_3 zW_52 (by decide) (by decide) rfl ?_
  refine zJ_istore (ls' := [(4, .int (9 : Int32)), (3, .int (0 : Int32)), (0, .ref 52), (1, .long p1)]) dJ7_fill_d0a16_4 rfl rfl rfl ?_
  have hk6 : ∀ (chances_6x : (Nat → Int64)), k_J7_fill_d0a16_chances_6  chances_6x = some w_chances → zJ l zW 0 mJ7_fill_d0a16 σ ([], [], [(52, chances_6x)]) 22 [] [] none ([], [], [(52, w_chances)]) := by
    intro chances_6x h
    unfold k_J7_fill_d0a16_chances_6 at h
    obtain rfl := so1 h
    exact zJ_vret dJ7_fill_d0a16_22 rfl
  refine zJ_loc (ls' := [(0, .ref 52), (1, .long p1), (3, .int (0 : Int32)), (4, .int (9 : Int32))]) (zll_c rfl (zll_c rfl (zll_c rfl (zll_c rfl zll_n)))) ?_
  refine ml2_J (fun (v3_6 : Int32) (chances_6 : (Nat → Int64)) => zJ l zW 0 mJ7_fill_d0a16 σ ([], [], [(52, chances_6)]) 6 [(0, .ref 52), (1, .long p1), (3, .int v3_6), (4, .int (9 : Int32))] [] none ([], [], [(52, w_chances)])) (fun rc6 hrc6 v3_6 chances_6 h => ?_) zN _ _ h
  unfold s_J7_fill_d0a16_chances_6 at h
  refine zJ_iload_n dJ7_fill_d0a16_6 rfl rfl ?_
  refine zJ_iload dJ7_fill_d0a16_7 rfl rfl ?_
  refine zJ_icmp_ge (tgt := 22) dJ7_fill_d0a16_9 (by decide) rfl (fun hc => ?_) (fun hc => ?_)
  · replace h := it_t hc h
    refine zJ_loc (ls' := []) zll_n ?_
    exact hk6 _ h
  · replace h := it_f hc h
    refine zJ_aload_n dJ7_fill_d0a16_12 rfl rfl ?_
    refine zJ_iload_n dJ7_fill_d0a16_13 rfl rfl ?_
    refine zJ_lload_n dJ7_fill_d0a16_14 rfl rfl ?_
    obtain ⟨hg, h⟩ := gd_some h
    refine zK_last (mi := mJ7_fill_d0a16) (f := chances_6) (lc' := [(52, (vp_updL chances_6 v3_6.toNatClampNeg p1))]) dJ7_fill_d0a16_15 zW_52 (ix_in hg) rfl rfl rfl ?_
    obtain ⟨v3n1, ev3n1, h⟩ := lt1_some h
    refine zJ_iincN (ls' := [(3, .int v3n1), (0, .ref 52), (1, .long p1), (4, .int (9 : Int32))]) dJ7_fill_d0a16_16 rfl rfl zc_1 ev3n1 rfl rfl ?_
    refine zJ_goto (tgt := 6) dJ7_fill_d0a16_19 (by decide) ?_
    refine zJ_loc (ls' := [(0, .ref 52), (1, .long p1), (3, .int v3n1), (4, .int (9 : Int32))]) (zll_c rfl (zll_c rfl (zll_c rfl (zll_c rfl zll_n)))) ?_
    exact hrc6 _ _ h
set_option maxRecDepth 100000 in
set_option maxHeartbeats 4000000 in
theorem t_X9_digit (l : Launch) (σ : zS) {p1 : Int32} {p2 : Int32} {text_limit : Int32} {text_at : Int32} {text_signs : (Nat → Int32)} {r : Int32} {w_text_at : Int32} (h : f_X9_digit p1 p2 text_limit text_at text_signs = some (r, w_text_at)) : zMt l zW 0 mX9_digit σ ([(66, text_limit), (67, text_at)], [(2, text_signs)], []) [.ref 1, .int p1, .int p2] (some (.int r)) ([(66, text_limit), (67, w_text_at)], [(2, text_signs)], []) := by
  refine zMt_of (ls := [(0, .ref 1), (1, .int p1), (2, .int p2)]) (by decide) rfl (fun _ => Nat.le_of_ble_eq_true rfl) rfl ?_
  unfold f_X9_digit at h
  refine zJ_aload_n dX9_digit_0 rfl rfl ?_
  refine zJ_geti (mi := mX9_digit) (x := text_at) dX9_digit_1 F_X9_19 zW_1 rfl rfl rfl ?_
  refine zJ_aload_n dX9_digit_4 rfl rfl ?_
  refine zJ_geti (mi := mX9_digit) (x := text_limit) dX9_digit_5 F_X9_28 zW_1 rfl rfl rfl ?_
  refine zJ_icmp_ge (tgt := 43) dX9_digit_8 (by decide) rfl (fun hc => ?_) (fun hc => ?_)
  · replace h := it_t hc h
    refine zJ_iconst dX9_digit_43 zc_m1 rfl ?_
    obtain ⟨rfl, rfl⟩ := so2 h
    exact zJ_iret dX9_digit_44 rfl rfl
  · replace h := it_f hc h
    refine zJ_aload_n dX9_digit_11 rfl rfl ?_
    refine zJ_getr (mi := mX9_digit) dX9_digit_12 F_X9_9 zW_1 rfl rfl ?_
    refine zJ_aload_n dX9_digit_15 rfl rfl ?_
    refine zJ_geti (mi := mX9_digit) (x := text_at) dX9_digit_16 F_X9_19 zW_1 rfl rfl rfl ?_
    obtain ⟨hg, h⟩ := gd_some h
    refine zJ_cald (mi := mX9_digit) (f := text_signs) dX9_digit_19 zW_2 (ix_in hg) rfl rfl ?_
    refine zJ_bipush dX9_digit_20 zb_48 rfl ?_
    refine zJ_isub dX9_digit_22 rfl ?_
    refine zJ_iload_n dX9_digit_23 rfl rfl ?_
    refine zJ_icmp_lt (tgt := 43) dX9_digit_24 (by decide) rfl (fun hc => ?_) (fun hc => ?_)
    · replace h := it_t hc h
      refine zJ_iconst dX9_digit_43 zc_m1 rfl ?_
      obtain ⟨rfl, rfl⟩ := so2 h
      exact zJ_iret dX9_digit_44 rfl rfl
    · replace h := it_f hc h
      refine zJ_aload_n dX9_digit_27 rfl rfl ?_
      refine zJ_getr (mi := mX9_digit) dX9_digit_28 F_X9_9 zW_1 rfl rfl ?_
      refine zJ_aload_n dX9_digit_31 rfl rfl ?_
      refine zJ_geti (mi := mX9_digit) (x := text_at) dX9_digit_32 F_X9_19 zW_1 rfl rfl rfl ?_
      obtain ⟨hg, h⟩ := gd_some h
      refine zJ_cald (mi := mX9_digit) (f := text_signs) dX9_digit_35 zW_2 (ix_in hg) rfl rfl ?_
      refine zJ_bipush dX9_digit_36 zb_48 rfl ?_
      refine zJ_isub dX9_digit_38 rfl ?_
      refine zJ_iload_n dX9_digit_39 rfl rfl ?_
      refine zJ_icmp_le (tgt := 45) dX9_digit_40 (by decide) rfl (fun hc => ?_) (fun hc => ?_)
      · replace h := it_t hc h
        refine zJ_aload_n dX9_digit_45 rfl rfl ?_
        refine zJ_dup dX9_digit_46 rfl rfl ?_
        refine zJ_geti (mi := mX9_digit) (x := text_at) dX9_digit_47 F_X9_19 zW_1 rfl rfl rfl ?_
        refine zJ_iconst dX9_digit_50 zc_1 rfl ?_
        refine zJ_iadd dX9_digit_51 rfl ?_
        refine zK_puti (mi := mX9_digit) (la' := [(66, text_limit), (67, (text_at + (1 : Int32)))]) zW_ok dX9_digit_52 F_X9_19 P_9_3 zW_1 rfl rfl rfl ?_
        refine zJ_aload_n dX9_digit_55 rfl rfl ?_
        refine zJ_getr (mi := mX9_digit) dX9_digit_56 F_X9_9 zW_1 rfl rfl ?_
        refine zJ_aload_n dX9_digit_59 rfl rfl ?_
        refine zJ_geti (mi := mX9_digit) (x := (text_at + (1 : Int32))) dX9_digit_60 F_X9_19 zW_1 rfl rfl rfl ?_
        refine zJ_iconst dX9_digit_63 zc_1 rfl ?_
        refine zJ_isub dX9_digit_64 rfl ?_
        obtain ⟨hg, h⟩ := gd_some h
        refine zJ_cald (mi := mX9_digit) (f := text_signs) dX9_digit_65 zW_2 (ix_in hg) rfl rfl ?_
        refine zJ_bipush dX9_digit_66 zb_48 rfl ?_
        refine zJ_isub dX9_digit_68 rfl ?_
        obtain ⟨rfl, rfl⟩ := so2 h
        exact zJ_iret dX9_digit_69 rfl rfl
      · replace h := it_f hc h
        refine zJ_iconst dX9_digit_43 zc_m1 rfl ?_
        obtain ⟨rfl, rfl⟩ := so2 h
        exact zJ_iret dX9_digit_44 rfl rfl
set_option maxRecDepth 100000 in
set_option maxHeartbeats 4000000 in
theorem t_X0_readPair (l : Launch) (σ : zS) {text_limit : Int32} {text_at : Int32} {act_rider : Int32} {act_horse : Int32} {text_signs : (Nat → Int32)} {r : Int32} {w_text_at : Int32} {w_act_rider : Int32} {w_act_horse : Int32} (h : f_X0_readPair text_limit text_at act_rider act_horse text_signs = some (r, w_text_at, w_act_rider, w_act_horse)) : zMt l zW 1 mX0_readPair σ ([(66, text_limit), (67, text_at), (3073, act_rider), (3074, act_horse)], [(2, text_signs)], []) [.ref 48, .ref 1] (some (.int r)) ([(66, text_limit), (67, w_text_at), (3073, w_act_rider), (3074, w_act_horse)], [(2, text_signs)], []) := by
  refine zMt_of (ls := [(0, .ref 48), (1, .ref 1)]) (by decide) rfl (fun _ => Nat.le_of_ble_eq_true rfl) rfl ?_
  unfold f_X0_readPair at h
  refine zJ_aload_n dX0_readPair_0 rfl rfl ?_
  refine zJ_aload_n dX0_readPair_1 rfl rfl ?_
  refine zJ_iconst dX0_readPair_2 zc_0 rfl ?_
  refine zJ_bipush dX0_readPair_3 zb_9 rfl ?_
  obtain ⟨rn1, text_atn2, hcl, h⟩ := bd2_some h
  refine zJ_callV2 (σ := σ) (L := ([(66, text_limit), (67, text_at), (3073, act_rider), (3074, act_horse)], [(2, text_signs)], [])) (mi := mX0_readPair) (yi := mX9_digit) (as := [.int (0 : Int32), .int (9 : Int32)]) (st := [.ref 48]) (L2 := ([(66, text_limit), (67, text_atn2), (3073, act_rider), (3074, act_horse)], [(2, text_signs)], [])) dX0_readPair_5 ML_X0_46 Yv_X9_digit rfl zW_1 rfl rfl (t_X9_digit l _ hcl) (zsub_i (zle_c rfl (zle_c rfl zle_n)) (zle_c rfl zle_n) zle_n) (zjok_i rfl rfl (zle_c rfl (zle_c rfl (zle_c rfl (zle_c rfl zle_n)))) rfl rfl (zle_c rfl zle_n) rfl rfl zle_n) (Nat.le_of_ble_eq_true rfl) (Nat.le_of_ble_eq_true rfl) rfl rfl ?_
  refine zK_puti (mi := mX0_readPair) (la' := [(66, text_limit), (67, text_atn2), (3073, rn1), (3074, act_horse)]) zW_ok dX0_readPair_8 F_X0_50 P_0_1 zW_48 rfl rfl rfl ?_
  refine zJ_aload_n dX0_readPair_11 rfl rfl ?_
  refine zJ_aload_n dX0_readPair_12 rfl rfl ?_
  refine zJ_geti (mi := mX0_readPair) (x := rn1) dX0_readPair_13 F_X0_50 zW_48 rfl rfl rfl ?_
  refine zJ_iconst dX0_readPair_16 zc_m1 rfl ?_
  refine zJ_icmp_ne (tgt := 24) dX0_readPair_17 (by decide) rfl (fun hc => ?_) (fun hc => ?_)
  · replace h := it_f hc h
    refine zJ_aload_n dX0_readPair_24 rfl rfl ?_
    refine zJ_iconst dX0_readPair_25 zc_0 rfl ?_
    refine zJ_bipush dX0_readPair_26 zb_9 rfl ?_
    obtain ⟨rn3, text_atn4, hcl, h⟩ := bd2_some h
    refine zJ_callV2 (σ := σ) (L := ([(66, text_limit), (67, text_atn2), (3073, rn1), (3074, act_horse)], [(2, text_signs)], [])) (mi := mX0_readPair) (yi := mX9_digit) (as := [.int (0 : Int32), .int (9 : Int32)]) (st := [.ref 48]) (L2 := ([(66, text_limit), (67, text_atn4), (3073, rn1), (3074, act_horse)], [(2, text_signs)], [])) dX0_readPair_28 ML_X0_46 Yv_X9_digit rfl zW_1 rfl rfl (t_X9_digit l _ hcl) (zsub_i (zle_c rfl (zle_c rfl zle_n)) (zle_c rfl zle_n) zle_n) (zjok_i rfl rfl (zle_c rfl (zle_c rfl (zle_c rfl (zle_c rfl zle_n)))) rfl rfl (zle_c rfl zle_n) rfl rfl zle_n) (Nat.le_of_ble_eq_true rfl) (Nat.le_of_ble_eq_true rfl) rfl rfl ?_
    refine zK_puti (mi := mX0_readPair) (la' := [(66, text_limit), (67, text_atn4), (3073, rn1), (3074, rn3)]) zW_ok dX0_readPair_31 F_X0_54 P_0_2 zW_48 rfl rfl rfl ?_
    refine zJ_aload_n dX0_readPair_34 rfl rfl ?_
    refine zJ_geti (mi := mX0_readPair) (x := rn3) dX0_readPair_35 F_X0_54 zW_48 rfl rfl rfl ?_
    refine zJ_iconst dX0_readPair_38 zc_m1 rfl ?_
    refine zJ_icmp_eq (tgt := 46) dX0_readPair_39 (by decide) rfl (fun hc => ?_) (fun hc => ?_)
    · replace h := it_t hc h
      refine zJ_iconst dX0_readPair_46 zc_0 rfl ?_
      obtain ⟨rfl, rfl, rfl, rfl⟩ := so4 h
      exact zJ_iret dX0_readPair_47 rfl (by decide)
    · replace h := it_f hc h
      refine zJ_iconst dX0_readPair_42 zc_1 rfl ?_
      refine zJ_goto (tgt := 47) dX0_readPair_43 (by decide) ?_
      obtain ⟨rfl, rfl, rfl, rfl⟩ := so4 h
      exact zJ_iret dX0_readPair_47 rfl (by decide)
  · replace h := it_t hc h
    refine zJ_iconst dX0_readPair_20 zc_m1 rfl ?_
    refine zJ_goto (tgt := 31) dX0_readPair_21 (by decide) ?_
    refine zK_puti (mi := mX0_readPair) (la' := [(66, text_limit), (67, text_atn2), (3073, rn1), (3074, (-1 : Int32))]) zW_ok dX0_readPair_31 F_X0_54 P_0_2 zW_48 rfl rfl rfl ?_
    refine zJ_aload_n dX0_readPair_34 rfl rfl ?_
    refine zJ_geti (mi := mX0_readPair) (x := (-1 : Int32)) dX0_readPair_35 F_X0_54 zW_48 rfl rfl rfl ?_
    refine zJ_iconst dX0_readPair_38 zc_m1 rfl ?_
    refine zJ_icmp_eq (tgt := 46) dX0_readPair_39 (by decide) rfl (fun hc => ?_) (fun hc => ?_)
    · refine zJ_iconst dX0_readPair_46 zc_0 rfl ?_
      obtain ⟨rfl, rfl, rfl, rfl⟩ := so4 h
      exact zJ_iret dX0_readPair_47 rfl (by decide)
    · exact absurd hc (by decide)
set_option maxRecDepth 100000 in
set_option maxHeartbeats 4000000 in
theorem t_X9_take (l : Launch) (σ : zS) {p1 : Int32} {text_limit : Int32} {text_at : Int32} {text_signs : (Nat → Int32)} {r : Int32} {w_text_at : Int32} (h : f_X9_take p1 text_limit text_at text_signs = some (r, w_text_at)) : zMt l zW 0 mX9_take σ ([(66, text_limit), (67, text_at)], [(2, text_signs)], []) [.ref 1, .int p1] (some (.int r)) ([(66, text_limit), (67, w_text_at)], [(2, text_signs)], []) := by
  refine zMt_of (ls := [(0, .ref 1), (1, .int p1)]) (by decide) rfl (fun _ => Nat.le_of_ble_eq_true rfl) rfl ?_
  unfold f_X9_take at h
  refine zJ_aload_n dX9_take_0 rfl rfl ?_
  refine zJ_geti (mi := mX9_take) (x := text_at) dX9_take_1 F_X9_19 zW_1 rfl rfl rfl ?_
  refine zJ_aload_n dX9_take_4 rfl rfl ?_
  refine zJ_geti (mi := mX9_take) (x := text_limit) dX9_take_5 F_X9_28 zW_1 rfl rfl rfl ?_
  refine zJ_icmp_ge (tgt := 24) dX9_take_8 (by decide) rfl (fun hc => ?_) (fun hc => ?_)
  · replace h := it_t hc h
    refine zJ_iconst dX9_take_24 zc_0 rfl ?_
    obtain ⟨rfl, rfl⟩ := so2 h
    exact zJ_iret dX9_take_25 rfl (by decide)
  · replace h := it_f hc h
    refine zJ_aload_n dX9_take_11 rfl rfl ?_
    refine zJ_getr (mi := mX9_take) dX9_take_12 F_X9_9 zW_1 rfl rfl ?_
    refine zJ_aload_n dX9_take_15 rfl rfl ?_
    refine zJ_geti (mi := mX9_take) (x := text_at) dX9_take_16 F_X9_19 zW_1 rfl rfl rfl ?_
    obtain ⟨hg, h⟩ := gd_some h
    refine zJ_cald (mi := mX9_take) (f := text_signs) dX9_take_19 zW_2 (ix_in hg) rfl rfl ?_
    refine zJ_iload_n dX9_take_20 rfl rfl ?_
    refine zJ_icmp_eq (tgt := 26) dX9_take_21 (by decide) rfl (fun hc => ?_) (fun hc => ?_)
    · replace h := it_t hc h
      refine zJ_aload_n dX9_take_26 rfl rfl ?_
      refine zJ_dup dX9_take_27 rfl rfl ?_
      refine zJ_geti (mi := mX9_take) (x := text_at) dX9_take_28 F_X9_19 zW_1 rfl rfl rfl ?_
      refine zJ_iconst dX9_take_31 zc_1 rfl ?_
      refine zJ_iadd dX9_take_32 rfl ?_
      refine zK_puti (mi := mX9_take) (la' := [(66, text_limit), (67, (text_at + (1 : Int32)))]) zW_ok dX9_take_33 F_X9_19 P_9_3 zW_1 rfl rfl rfl ?_
      refine zJ_iconst dX9_take_36 zc_1 rfl ?_
      obtain ⟨rfl, rfl⟩ := so2 h
      exact zJ_iret dX9_take_37 rfl (by decide)
    · replace h := it_f hc h
      refine zJ_iconst dX9_take_24 zc_0 rfl ?_
      obtain ⟨rfl, rfl⟩ := so2 h
      exact zJ_iret dX9_take_25 rfl (by decide)
set_option maxRecDepth 100000 in
set_option maxHeartbeats 4000000 in
theorem t_X0_readRide (l : Launch) (σ : zS) {text_limit : Int32} {text_at : Int32} {act_third : Int32} {act_fourth : Int32} {text_signs : (Nat → Int32)} {r : Int32} {w_text_at : Int32} {w_act_third : Int32} {w_act_fourth : Int32} (h : f_X0_readRide text_limit text_at act_third act_fourth text_signs = some (r, w_text_at, w_act_third, w_act_fourth)) : zMt l zW 1 mX0_readRide σ ([(66, text_limit), (67, text_at), (3075, act_third), (3076, act_fourth)], [(2, text_signs)], []) [.ref 48, .ref 1] (some (.int r)) ([(66, text_limit), (67, w_text_at), (3075, w_act_third), (3076, w_act_fourth)], [(2, text_signs)], []) := by
  refine zMt_of (ls := [(0, .ref 48), (1, .ref 1)]) (by decide) rfl (fun _ => Nat.le_of_ble_eq_true rfl) rfl ?_
  unfold f_X0_readRide at h
  refine zJ_aload_n dX0_readRide_0 rfl rfl ?_
  refine zJ_aload_n dX0_readRide_1 rfl rfl ?_
  refine zJ_iconst dX0_readRide_2 zc_0 rfl ?_
  refine zJ_bipush dX0_readRide_3 zb_9 rfl ?_
  obtain ⟨rn1, text_atn2, hcl, h⟩ := bd2_some h
  refine zJ_callV2 (σ := σ) (L := ([(66, text_limit), (67, text_at), (3075, act_third), (3076, act_fourth)], [(2, text_signs)], [])) (mi := mX0_readRide) (yi := mX9_digit) (as := [.int (0 : Int32), .int (9 : Int32)]) (st := [.ref 48]) (L2 := ([(66, text_limit), (67, text_atn2), (3075, act_third), (3076, act_fourth)], [(2, text_signs)], [])) dX0_readRide_5 ML_X0_46 Yv_X9_digit rfl zW_1 rfl rfl (t_X9_digit l _ hcl) (zsub_i (zle_c rfl (zle_c rfl zle_n)) (zle_c rfl zle_n) zle_n) (zjok_i rfl rfl (zle_c rfl (zle_c rfl (zle_c rfl (zle_c rfl zle_n)))) rfl rfl (zle_c rfl zle_n) rfl rfl zle_n) (Nat.le_of_ble_eq_true rfl) (Nat.le_of_ble_eq_true rfl) rfl rfl ?_
  refine zK_puti (mi := mX0_readRide) (la' := [(66, text_limit), (67, text_atn2), (3075, rn1), (3076, act_fourth)]) zW_ok dX0_readRide_8 F_X0_57 P_0_3 zW_48 rfl rfl rfl ?_
  refine zJ_aload_n dX0_readRide_11 rfl rfl ?_
  refine zJ_geti (mi := mX0_readRide) (x := rn1) dX0_readRide_12 F_X0_57 zW_48 rfl rfl rfl ?_
  refine zJ_iconst dX0_readRide_15 zc_m1 rfl ?_
  refine zJ_icmp_eq (tgt := 28) dX0_readRide_16 (by decide) rfl (fun hc => ?_) (fun hc => ?_)
  · replace h := it_t hc h
    refine zJ_iconst dX0_readRide_28 zc_0 rfl ?_
    obtain ⟨rfl, rfl, rfl, rfl⟩ := so4 h
    exact zJ_iret dX0_readRide_29 rfl (by decide)
  · replace h := it_f hc h
    refine zJ_aload_n dX0_readRide_19 rfl rfl ?_
    refine zJ_bipush dX0_readRide_20 zb_42 rfl ?_
    obtain ⟨rn3, text_atn4, hcl, h⟩ := bd2_some h
    refine zJ_callV2 (σ := σ) (L := ([(66, text_limit), (67, text_atn2), (3075, rn1), (3076, act_fourth)], [(2, text_signs)], [])) (mi := mX0_readRide) (yi := mX9_take) (as := [.int (42 : Int32)]) (st := []) (L2 := ([(66, text_limit), (67, text_atn4), (3075, rn1), (3076, act_fourth)], [(2, text_signs)], [])) dX0_readRide_22 ML_X0_29 Yv_X9_take rfl zW_1 rfl rfl (t_X9_take l _ hcl) (zsub_i (zle_c rfl (zle_c rfl zle_n)) (zle_c rfl zle_n) zle_n) (zjok_i rfl rfl (zle_c rfl (zle_c rfl (zle_c rfl (zle_c rfl zle_n)))) rfl rfl (zle_c rfl zle_n) rfl rfl zle_n) (Nat.le_of_ble_eq_true rfl) (Nat.le_of_ble_eq_true rfl) rfl rfl ?_
    refine zJ_if_ne (tgt := 30) dX0_readRide_25 (by decide) rfl (fun hc => ?_) (fun hc => ?_)
    · replace h := it_f hc h
      refine zJ_aload_n dX0_readRide_30 rfl rfl ?_
      refine zJ_aload_n dX0_readRide_31 rfl rfl ?_
      refine zJ_iconst dX0_readRide_32 zc_0 rfl ?_
      refine zJ_bipush dX0_readRide_33 zb_9 rfl ?_
      obtain ⟨rn5, text_atn6, hcl, h⟩ := bd2_some h
      refine zJ_callV2 (σ := σ) (L := ([(66, text_limit), (67, text_atn4), (3075, rn1), (3076, act_fourth)], [(2, text_signs)], [])) (mi := mX0_readRide) (yi := mX9_digit) (as := [.int (0 : Int32), .int (9 : Int32)]) (st := [.ref 48]) (L2 := ([(66, text_limit), (67, text_atn6), (3075, rn1), (3076, act_fourth)], [(2, text_signs)], [])) dX0_readRide_35 ML_X0_46 Yv_X9_digit rfl zW_1 rfl rfl (t_X9_digit l _ hcl) (zsub_i (zle_c rfl (zle_c rfl zle_n)) (zle_c rfl zle_n) zle_n) (zjok_i rfl rfl (zle_c rfl (zle_c rfl (zle_c rfl (zle_c rfl zle_n)))) rfl rfl (zle_c rfl zle_n) rfl rfl zle_n) (Nat.le_of_ble_eq_true rfl) (Nat.le_of_ble_eq_true rfl) rfl rfl ?_
      refine zK_puti (mi := mX0_readRide) (la' := [(66, text_limit), (67, text_atn6), (3075, rn1), (3076, rn5)]) zW_ok dX0_readRide_38 F_X0_60 P_0_4 zW_48 rfl rfl rfl ?_
      refine zJ_aload_n dX0_readRide_41 rfl rfl ?_
      refine zJ_geti (mi := mX0_readRide) (x := rn5) dX0_readRide_42 F_X0_60 zW_48 rfl rfl rfl ?_
      refine zJ_iconst dX0_readRide_45 zc_m1 rfl ?_
      refine zJ_icmp_eq (tgt := 53) dX0_readRide_46 (by decide) rfl (fun hc => ?_) (fun hc => ?_)
      · replace h := it_t hc h
        refine zJ_iconst dX0_readRide_53 zc_0 rfl ?_
        obtain ⟨rfl, rfl, rfl, rfl⟩ := so4 h
        exact zJ_iret dX0_readRide_54 rfl (by decide)
      · replace h := it_f hc h
        refine zJ_iconst dX0_readRide_49 zc_1 rfl ?_
        refine zJ_goto (tgt := 54) dX0_readRide_50 (by decide) ?_
        obtain ⟨rfl, rfl, rfl, rfl⟩ := so4 h
        exact zJ_iret dX0_readRide_54 rfl (by decide)
    · replace h := it_t hc h
      refine zJ_iconst dX0_readRide_28 zc_0 rfl ?_
      obtain ⟨rfl, rfl, rfl, rfl⟩ := so4 h
      exact zJ_iret dX0_readRide_29 rfl (by decide)
set_option maxRecDepth 100000 in
set_option maxHeartbeats 4000000 in
theorem t_X9_number (l : Launch) (σ : zS) {p1 : Int32} {text_limit : Int32} {text_at : Int32} {text_signs : (Nat → Int32)} {r : Int32} {w_text_at : Int32} (h : f_X9_number p1 text_limit text_at text_signs = some (r, w_text_at)) : zMt l zW 1 mX9_number σ ([(66, text_limit), (67, text_at)], [(2, text_signs)], []) [.ref 1, .int p1] (some (.int r)) ([(66, text_limit), (67, w_text_at)], [(2, text_signs)], []) := by
  refine zMt_of (ls := [(0, .ref 1), (1, .int p1)]) (by decide) rfl (fun _ => Nat.le_of_ble_eq_true rfl) rfl ?_
  unfold f_X9_number at h
  refine zJ_aload_n dX9_number_0 rfl rfl ?_
  refine zJ_iconst dX9_number_1 zc_0 rfl ?_
  refine zJ_bipush dX9_number_2 zb_9 rfl ?_
  obtain ⟨rn1, text_atn2, hcl, h⟩ := bd2_some h
  refine zJ_callV2 (σ := σ) (L := ([(66, text_limit), (67, text_at)], [(2, text_signs)], [])) (mi := mX9_number) (yi := mX9_digit) (as := [.int (0 : Int32), .int (9 : Int32)]) (st := []) (L2 := ([(66, text_limit), (67, text_atn2)], [(2, text_signs)], [])) dX9_number_4 ML_X9_37 Yv_X9_digit rfl zW_1 rfl rfl (t_X9_digit l _ hcl) (zsub_i (zle_c rfl (zle_c rfl zle_n)) (zle_c rfl zle_n) zle_n) (zjok_i rfl rfl (zle_c rfl (zle_c rfl zle_n)) rfl rfl (zle_c rfl zle_n) rfl rfl zle_n) (Nat.le_of_ble_eq_true rfl) (Nat.le_of_ble_eq_true rfl) rfl rfl ?_
  refine zJ_istore_n (ls' := [(2, .int rn1), (0, .ref 1), (1, .int p1)]) dX9_number_7 rfl rfl rfl ?_
  refine zJ_iconst dX9_number_8 zc_1 rfl ?_
  refine zJ_istore_n (ls' := [(3, .int (1 : Int32)), (2, .int rn1), (0, .ref 1), (1, .int p1)]) dX9_number_9 rfl rfl rfl ?_
  have hk10 : ∀ (v2_10x : Int32) (text_at_10x : Int32), k_X9_number_10  v2_10x text_at_10x = some (r, w_text_at) → zJ l zW 1 mX9_number σ ([(66, text_limit), (67, text_at_10x)], [(2, text_signs)], []) 51 [(2, .int v2_10x)] [] (some (.int r)) ([(66, text_limit), (67, w_text_at)], [(2, text_signs)], []) := by
    intro v2_10x text_at_10x h
    unfold k_X9_number_10 at h
    refine zJ_iload_n dX9_number_51 rfl rfl ?_
    obtain ⟨rfl, rfl⟩ := so2 h
    exact zJ_iret dX9_number_52 rfl rfl
  refine zJ_loc (ls' := [(0, .ref 1), (1, .int p1), (2, .int rn1), (3, .int (1 : Int32))]) (zll_c rfl (zll_c rfl (zll_c rfl (zll_c rfl zll_n)))) ?_
  refine ml3_J (fun (v2_10 : Int32) (v3_10 : Int32) (text_at_10 : Int32) => zJ l zW 1 mX9_number σ ([(66, text_limit), (67, text_at_10)], [(2, text_signs)], []) 10 [(0, .ref 1), (1, .int p1), (2, .int v2_10), (3, .int v3_10)] [] (some (.int r)) ([(66, text_limit), (67, w_text_at)], [(2, text_signs)], [])) (fun rc10 hrc10 v2_10 v3_10 text_at_10 h => ?_) zN _ _ _ h
  unfold s_X9_number_10 at h
  refine zJ_iload_n dX9_number_10 rfl rfl ?_
  refine zJ_iload_n dX9_number_11 rfl rfl ?_
  refine zJ_icmp_ge (tgt := 51) dX9_number_12 (by decide) rfl (fun hc => ?_) (fun hc => ?_)
  · replace h := it_t hc h
    refine zJ_loc (ls' := [(2, .int v2_10)]) (zll_c rfl zll_n) ?_
    exact hk10 _ _ h
  · replace h := it_f hc h
    refine zJ_iload_n dX9_number_15 rfl rfl ?_
    refine zJ_iconst dX9_number_16 zc_m1 rfl ?_
    refine zJ_icmp_eq (tgt := 51) dX9_number_17 (by decide) rfl (fun hc => ?_) (fun hc => ?_)
    · replace h := it_t hc h
      refine zJ_loc (ls' := [(2, .int v2_10)]) (zll_c rfl zll_n) ?_
      exact hk10 _ _ h
    · replace h := it_f hc h
      refine zJ_aload_n dX9_number_20 rfl rfl ?_
      refine zJ_iconst dX9_number_21 zc_0 rfl ?_
      refine zJ_bipush dX9_number_22 zb_9 rfl ?_
      obtain ⟨rn3, text_atn4, hcl, h⟩ := bd2_some h
      refine zJ_callV2 (σ := σ) (L := ([(66, text_limit), (67, text_at_10)], [(2, text_signs)], [])) (mi := mX9_number) (yi := mX9_digit) (as := [.int (0 : Int32), .int (9 : Int32)]) (st := []) (L2 := ([(66, text_limit), (67, text_atn4)], [(2, text_signs)], [])) dX9_number_24 ML_X9_37 Yv_X9_digit rfl zW_1 rfl rfl (t_X9_digit l _ hcl) (zsub_i (zle_c rfl (zle_c rfl zle_n)) (zle_c rfl zle_n) zle_n) (zjok_i rfl rfl (zle_c rfl (zle_c rfl zle_n)) rfl rfl (zle_c rfl zle_n) rfl rfl zle_n) (Nat.le_of_ble_eq_true rfl) (Nat.le_of_ble_eq_true rfl) rfl rfl ?_
      refine zJ_istore (ls' := [(4, .int rn3), (0, .ref 1), (1, .int p1), (2, .int v2_10), (3, .int v3_10)]) dX9_number_27 rfl rfl rfl ?_
      refine zJ_iload dX9_number_29 rfl rfl ?_
      refine zJ_iconst dX9_number_31 zc_m1 rfl ?_
      refine zJ_icmp_ne (tgt := 37) dX9_number_32 (by decide) rfl (fun hc => ?_) (fun hc => ?_)
      · replace h := it_f hc h
        refine zJ_iload_n dX9_number_37 rfl rfl ?_
        refine zJ_bipush dX9_number_38 zb_10 rfl ?_
        refine zJ_imul dX9_number_40 rfl ?_
        refine zJ_iload dX9_number_41 rfl rfl ?_
        refine zJ_iadd dX9_number_43 rfl ?_
        obtain ⟨v2n5, ev2n5, h⟩ := lt1_some h
        refine zJ_nmi ev2n5 ?_
        refine zJ_istore_n (ls' := [(2, .int v2n5), (4, .int rn3), (0, .ref 1), (1, .int p1), (3, .int v3_10)]) dX9_number_44 rfl rfl rfl ?_
        obtain ⟨v3n6, ev3n6, h⟩ := lt1_some h
        refine zJ_iincN (ls' := [(3, .int v3n6), (2, .int v2n5), (4, .int rn3), (0, .ref 1), (1, .int p1)]) dX9_number_45 rfl rfl zc_1 ev3n6 rfl rfl ?_
        refine zJ_goto (tgt := 10) dX9_number_48 (by decide) ?_
        refine zJ_loc (ls' := [(0, .ref 1), (1, .int p1), (2, .int v2n5), (3, .int v3n6)]) (zll_c rfl (zll_c rfl (zll_c rfl (zll_c rfl zll_n)))) ?_
        exact hrc10 _ _ _ h
      · replace h := it_t hc h
        refine zJ_iload_n dX9_number_35 rfl rfl ?_
        obtain ⟨rfl, rfl⟩ := so2 h
        exact zJ_iret dX9_number_36 rfl rfl
set_option maxRecDepth 100000 in
set_option maxHeartbeats 4000000 in
theorem t_X0_readTold (l : Launch) (σ : zS) {text_limit : Int32} {text_at : Int32} {act_third : Int32} {act_fourth : Int32} {text_signs : (Nat → Int32)} {r : Int32} {w_text_at : Int32} {w_act_third : Int32} {w_act_fourth : Int32} (h : f_X0_readTold text_limit text_at act_third act_fourth text_signs = some (r, w_text_at, w_act_third, w_act_fourth)) : zMt l zW 2 mX0_readTold σ ([(66, text_limit), (67, text_at), (3075, act_third), (3076, act_fourth)], [(2, text_signs)], []) [.ref 48, .ref 1] (some (.int r)) ([(66, text_limit), (67, w_text_at), (3075, w_act_third), (3076, w_act_fourth)], [(2, text_signs)], []) := by
  refine zMt_of (ls := [(0, .ref 48), (1, .ref 1)]) (by decide) rfl (fun _ => Nat.le_of_ble_eq_true rfl) rfl ?_
  unfold f_X0_readTold at h
  refine zJ_aload_n dX0_readTold_0 rfl rfl ?_
  refine zJ_bipush dX0_readTold_1 zb_58 rfl ?_
  obtain ⟨rn1, text_atn2, hcl, h⟩ := bd2_some h
  refine zJ_callV2 (σ := σ) (L := ([(66, text_limit), (67, text_at), (3075, act_third), (3076, act_fourth)], [(2, text_signs)], [])) (mi := mX0_readTold) (yi := mX9_take) (as := [.int (58 : Int32)]) (st := []) (L2 := ([(66, text_limit), (67, text_atn2), (3075, act_third), (3076, act_fourth)], [(2, text_signs)], [])) dX0_readTold_3 ML_X0_29 Yv_X9_take rfl zW_1 rfl rfl (t_X9_take l _ hcl) (zsub_i (zle_c rfl (zle_c rfl zle_n)) (zle_c rfl zle_n) zle_n) (zjok_i rfl rfl (zle_c rfl (zle_c rfl (zle_c rfl (zle_c rfl zle_n)))) rfl rfl (zle_c rfl zle_n) rfl rfl zle_n) (Nat.le_of_ble_eq_true rfl) (Nat.le_of_ble_eq_true rfl) rfl rfl ?_
  refine zJ_if_ne (tgt := 11) dX0_readTold_6 (by decide) rfl (fun hc => ?_) (fun hc => ?_)
  · replace h := it_f hc h
    refine zJ_aload_n dX0_readTold_11 rfl rfl ?_
    refine zJ_aload_n dX0_readTold_12 rfl rfl ?_
    refine zJ_iconst dX0_readTold_13 zc_2 rfl ?_
    obtain ⟨rn3, text_atn4, hcl, h⟩ := bd2_some h
    refine zJ_callV2 (σ := σ) (L := ([(66, text_limit), (67, text_atn2), (3075, act_third), (3076, act_fourth)], [(2, text_signs)], [])) (mi := mX0_readTold) (yi := mX9_number) (as := [.int (2 : Int32)]) (st := [.ref 48]) (L2 := ([(66, text_limit), (67, text_atn4), (3075, act_third), (3076, act_fourth)], [(2, text_signs)], [])) dX0_readTold_14 ML_X0_63 Yv_X9_number rfl zW_1 rfl rfl (t_X9_number l _ hcl) (zsub_i (zle_c rfl (zle_c rfl zle_n)) (zle_c rfl zle_n) zle_n) (zjok_i rfl rfl (zle_c rfl (zle_c rfl (zle_c rfl (zle_c rfl zle_n)))) rfl rfl (zle_c rfl zle_n) rfl rfl zle_n) (Nat.le_of_ble_eq_true rfl) (Nat.le_of_ble_eq_true rfl) rfl rfl ?_
    refine zK_puti (mi := mX0_readTold) (la' := [(66, text_limit), (67, text_atn4), (3075, rn3), (3076, act_fourth)]) zW_ok dX0_readTold_17 F_X0_57 P_0_3 zW_48 rfl rfl rfl ?_
    refine zJ_aload_n dX0_readTold_20 rfl rfl ?_
    refine zJ_geti (mi := mX0_readTold) (x := rn3) dX0_readTold_21 F_X0_57 zW_48 rfl rfl rfl ?_
    refine zJ_iconst dX0_readTold_24 zc_m1 rfl ?_
    refine zJ_icmp_eq (tgt := 37) dX0_readTold_25 (by decide) rfl (fun hc => ?_) (fun hc => ?_)
    · replace h := it_t hc h
      refine zJ_iconst dX0_readTold_37 zc_0 rfl ?_
      obtain ⟨rfl, rfl, rfl, rfl⟩ := so4 h
      exact zJ_iret dX0_readTold_38 rfl (by decide)
    · replace h := it_f hc h
      refine zJ_aload_n dX0_readTold_28 rfl rfl ?_
      refine zJ_bipush dX0_readTold_29 zb_43 rfl ?_
      obtain ⟨rn5, text_atn6, hcl, h⟩ := bd2_some h
      refine zJ_callV2 (σ := σ) (L := ([(66, text_limit), (67, text_atn4), (3075, rn3), (3076, act_fourth)], [(2, text_signs)], [])) (mi := mX0_readTold) (yi := mX9_take) (as := [.int (43 : Int32)]) (st := []) (L2 := ([(66, text_limit), (67, text_atn6), (3075, rn3), (3076, act_fourth)], [(2, text_signs)], [])) dX0_readTold_31 ML_X0_29 Yv_X9_take rfl zW_1 rfl rfl (t_X9_take l _ hcl) (zsub_i (zle_c rfl (zle_c rfl zle_n)) (zle_c rfl zle_n) zle_n) (zjok_i rfl rfl (zle_c rfl (zle_c rfl (zle_c rfl (zle_c rfl zle_n)))) rfl rfl (zle_c rfl zle_n) rfl rfl zle_n) (Nat.le_of_ble_eq_true rfl) (Nat.le_of_ble_eq_true rfl) rfl rfl ?_
      refine zJ_if_ne (tgt := 39) dX0_readTold_34 (by decide) rfl (fun hc => ?_) (fun hc => ?_)
      · replace h := it_f hc h
        refine zJ_aload_n dX0_readTold_39 rfl rfl ?_
        refine zJ_aload_n dX0_readTold_40 rfl rfl ?_
        refine zJ_iconst dX0_readTold_41 zc_4 rfl ?_
        obtain ⟨rn7, text_atn8, hcl, h⟩ := bd2_some h
        refine zJ_callV2 (σ := σ) (L := ([(66, text_limit), (67, text_atn6), (3075, rn3), (3076, act_fourth)], [(2, text_signs)], [])) (mi := mX0_readTold) (yi := mX9_number) (as := [.int (4 : Int32)]) (st := [.ref 48]) (L2 := ([(66, text_limit), (67, text_atn8), (3075, rn3), (3076, act_fourth)], [(2, text_signs)], [])) dX0_readTold_42 ML_X0_63 Yv_X9_number rfl zW_1 rfl rfl (t_X9_number l _ hcl) (zsub_i (zle_c rfl (zle_c rfl zle_n)) (zle_c rfl zle_n) zle_n) (zjok_i rfl rfl (zle_c rfl (zle_c rfl (zle_c rfl (zle_c rfl zle_n)))) rfl rfl (zle_c rfl zle_n) rfl rfl zle_n) (Nat.le_of_ble_eq_true rfl) (Nat.le_of_ble_eq_true rfl) rfl rfl ?_
        refine zK_puti (mi := mX0_readTold) (la' := [(66, text_limit), (67, text_atn8), (3075, rn3), (3076, rn7)]) zW_ok dX0_readTold_45 F_X0_60 P_0_4 zW_48 rfl rfl rfl ?_
        refine zJ_aload_n dX0_readTold_48 rfl rfl ?_
        refine zJ_geti (mi := mX0_readTold) (x := rn7) dX0_readTold_49 F_X0_60 zW_48 rfl rfl rfl ?_
        refine zJ_iconst dX0_readTold_52 zc_m1 rfl ?_
        refine zJ_icmp_eq (tgt := 60) dX0_readTold_53 (by decide) rfl (fun hc => ?_) (fun hc => ?_)
        · replace h := it_t hc h
          refine zJ_iconst dX0_readTold_60 zc_0 rfl ?_
          obtain ⟨rfl, rfl, rfl, rfl⟩ := so4 h
          exact zJ_iret dX0_readTold_61 rfl (by decide)
        · replace h := it_f hc h
          refine zJ_iconst dX0_readTold_56 zc_1 rfl ?_
          refine zJ_goto (tgt := 61) dX0_readTold_57 (by decide) ?_
          obtain ⟨rfl, rfl, rfl, rfl⟩ := so4 h
          exact zJ_iret dX0_readTold_61 rfl (by decide)
      · replace h := it_t hc h
        refine zJ_iconst dX0_readTold_37 zc_0 rfl ?_
        obtain ⟨rfl, rfl, rfl, rfl⟩ := so4 h
        exact zJ_iret dX0_readTold_38 rfl (by decide)
  · replace h := it_t hc h
    refine zJ_iconst dX0_readTold_9 zc_0 rfl ?_
    obtain ⟨rfl, rfl, rfl, rfl⟩ := so4 h
    exact zJ_iret dX0_readTold_10 rfl (by decide)
set_option maxRecDepth 100000 in
set_option maxHeartbeats 4000000 in
theorem t_X0_read (l : Launch) (σ : zS) {text_limit : Int32} {text_at : Int32} {act_kind : Int32} {act_rider : Int32} {act_horse : Int32} {act_third : Int32} {act_fourth : Int32} {text_signs : (Nat → Int32)} {r : Int32} {w_text_at : Int32} {w_act_kind : Int32} {w_act_rider : Int32} {w_act_horse : Int32} {w_act_third : Int32} {w_act_fourth : Int32} (h : f_X0_read text_limit text_at act_kind act_rider act_horse act_third act_fourth text_signs = some (r, w_text_at, w_act_kind, w_act_rider, w_act_horse, w_act_third, w_act_fourth)) : zMt l zW 3 mX0_read σ ([(66, text_limit), (67, text_at), (3072, act_kind), (3073, act_rider), (3074, act_horse), (3075, act_third), (3076, act_fourth)], [(2, text_signs)], []) [.ref 48, .ref 1] (some (.int r)) ([(66, text_limit), (67, w_text_at), (3072, w_act_kind), (3073, w_act_rider), (3074, w_act_horse), (3075, w_act_third), (3076, w_act_fourth)], [(2, text_signs)], []) := by
  refine zMt_of (ls := [(0, .ref 48), (1, .ref 1)]) (by decide) rfl (fun _ => Nat.le_of_ble_eq_true rfl) rfl ?_
  unfold f_X0_read at h
  refine zJ_aload_n dX0_read_0 rfl rfl ?_
  refine zJ_bipush dX0_read_1 zb_120 rfl ?_
  obtain ⟨rn1, text_atn2, hcl, h⟩ := bd2_some h
  refine zJ_callV2 (σ := σ) (L := ([(66, text_limit), (67, text_at), (3072, act_kind), (3073, act_rider), (3074, act_horse), (3075, act_third), (3076, act_fourth)], [(2, text_signs)], [])) (mi := mX0_read) (yi := mX9_take) (as := [.int (120 : Int32)]) (st := []) (L2 := ([(66, text_limit), (67, text_atn2), (3072, act_kind), (3073, act_rider), (3074, act_horse), (3075, act_third), (3076, act_fourth)], [(2, text_signs)], [])) dX0_read_3 ML_X0_29 Yv_X9_take rfl zW_1 rfl rfl (t_X9_take l _ hcl) (zsub_i (zle_c rfl (zle_c rfl zle_n)) (zle_c rfl zle_n) zle_n) (zjok_i rfl rfl (zle_c rfl (zle_c rfl (zle_c rfl (zle_c rfl (zle_c rfl (zle_c rfl (zle_c rfl zle_n))))))) rfl rfl (zle_c rfl zle_n) rfl rfl zle_n) (Nat.le_of_ble_eq_true rfl) (Nat.le_of_ble_eq_true rfl) rfl rfl ?_
  refine zJ_if_eq (tgt := 17) dX0_read_6 (by decide) rfl (fun hc => ?_) (fun hc => ?_)
  · replace h := it_t hc h
    refine zJ_aload_n dX0_read_17 rfl rfl ?_
    refine zJ_bipush dX0_read_18 zb_114 rfl ?_
    obtain ⟨rn3, text_atn4, hcl, h⟩ := bd2_some h
    refine zJ_callV2 (σ := σ) (L := ([(66, text_limit), (67, text_atn2), (3072, act_kind), (3073, act_rider), (3074, act_horse), (3075, act_third), (3076, act_fourth)], [(2, text_signs)], [])) (mi := mX0_read) (yi := mX9_take) (as := [.int (114 : Int32)]) (st := []) (L2 := ([(66, text_limit), (67, text_atn4), (3072, act_kind), (3073, act_rider), (3074, act_horse), (3075, act_third), (3076, act_fourth)], [(2, text_signs)], [])) dX0_read_20 ML_X0_29 Yv_X9_take rfl zW_1 rfl rfl (t_X9_take l _ hcl) (zsub_i (zle_c rfl (zle_c rfl zle_n)) (zle_c rfl zle_n) zle_n) (zjok_i rfl rfl (zle_c rfl (zle_c rfl (zle_c rfl (zle_c rfl (zle_c rfl (zle_c rfl (zle_c rfl zle_n))))))) rfl rfl (zle_c rfl zle_n) rfl rfl zle_n) (Nat.le_of_ble_eq_true rfl) (Nat.le_of_ble_eq_true rfl) rfl rfl ?_
    refine zJ_if_eq (tgt := 54) dX0_read_23 (by decide) rfl (fun hc => ?_) (fun hc => ?_)
    · replace h := it_t hc h
      refine zJ_aload_n dX0_read_54 rfl rfl ?_
      refine zJ_bipush dX0_read_55 zb_116 rfl ?_
      refine zK_putz (mi := mX0_read) (la' := [(66, text_limit), (67, text_atn4), (3072, (116 : Int32)), (3073, act_rider), (3074, act_horse), (3075, act_third), (3076, act_fourth)]) zW_ok dX0_read_57 F_X0_33 P_0_0 zW_48 rfl (by decide) (by decide) rfl rfl ?_
      refine zJ_aload_n dX0_read_60 rfl rfl ?_
      refine zJ_bipush dX0_read_61 zb_116 rfl ?_
      obtain ⟨rn5, text_atn6, hcl, h⟩ := bd2_some h
      refine zJ_callV2 (σ := σ) (L := ([(66, text_limit), (67, text_atn4), (3072, (116 : Int32)), (3073, act_rider), (3074, act_horse), (3075, act_third), (3076, act_fourth)], [(2, text_signs)], [])) (mi := mX0_read) (yi := mX9_take) (as := [.int (116 : Int32)]) (st := []) (L2 := ([(66, text_limit), (67, text_atn6), (3072, (116 : Int32)), (3073, act_rider), (3074, act_horse), (3075, act_third), (3076, act_fourth)], [(2, text_signs)], [])) dX0_read_63 ML_X0_29 Yv_X9_take rfl zW_1 rfl rfl (t_X9_take l _ hcl) (zsub_i (zle_c rfl (zle_c rfl zle_n)) (zle_c rfl zle_n) zle_n) (zjok_i rfl rfl (zle_c rfl (zle_c rfl (zle_c rfl (zle_c rfl (zle_c rfl (zle_c rfl (zle_c rfl zle_n))))))) rfl rfl (zle_c rfl zle_n) rfl rfl zle_n) (Nat.le_of_ble_eq_true rfl) (Nat.le_of_ble_eq_true rfl) rfl rfl ?_
      refine zJ_if_eq (tgt := 89) dX0_read_66 (by decide) rfl (fun hc => ?_) (fun hc => ?_)
      · replace h := it_t hc h
        refine zJ_iconst dX0_read_89 zc_0 rfl ?_
        obtain ⟨rfl, rfl, rfl, rfl, rfl, rfl, rfl⟩ := so7 h
        exact zJ_iret dX0_read_90 rfl (by decide)
      · replace h := it_f hc h
        refine zJ_aload_n dX0_read_69 rfl rfl ?_
        refine zJ_aload_n dX0_read_70 rfl rfl ?_
        obtain ⟨rn7, text_atn8, act_ridern9, act_horsen10, hcl, h⟩ := bd4_some h
        refine zJ_callV2 (σ := σ) (L := ([(66, text_limit), (67, text_atn6), (3072, (116 : Int32)), (3073, act_rider), (3074, act_horse), (3075, act_third), (3076, act_fourth)], [(2, text_signs)], [])) (mi := mX0_read) (yi := mX0_readPair) (as := [.ref 1]) (st := []) (L2 := ([(66, text_limit), (67, text_atn8), (3072, (116 : Int32)), (3073, act_ridern9), (3074, act_horsen10), (3075, act_third), (3076, act_fourth)], [(2, text_signs)], [])) dX0_read_71 ML_X0_37 Yv_X0_readPair rfl zW_48 rfl rfl (t_X0_readPair l _ hcl) (zsub_i (zle_c rfl (zle_c rfl (zle_c rfl (zle_c rfl zle_n)))) (zle_c rfl zle_n) zle_n) (zjok_i rfl rfl (zle_c rfl (zle_c rfl (zle_c rfl (zle_c rfl (zle_c rfl (zle_c rfl (zle_c rfl zle_n))))))) rfl rfl (zle_c rfl zle_n) rfl rfl zle_n) (Nat.le_of_ble_eq_true rfl) (Nat.le_of_ble_eq_true rfl) rfl rfl ?_
        refine zJ_if_eq (tgt := 89) dX0_read_74 (by decide) rfl (fun hc => ?_) (fun hc => ?_)
        · replace h := it_t hc h
          refine zJ_iconst dX0_read_89 zc_0 rfl ?_
          obtain ⟨rfl, rfl, rfl, rfl, rfl, rfl, rfl⟩ := so7 h
          exact zJ_iret dX0_read_90 rfl (by decide)
        · replace h := it_f hc h
          refine zJ_aload_n dX0_read_77 rfl rfl ?_
          refine zJ_aload_n dX0_read_78 rfl rfl ?_
          obtain ⟨rn11, text_atn12, act_thirdn13, act_fourthn14, hcl, h⟩ := bd4_some h
          refine zJ_callV2 (σ := σ) (L := ([(66, text_limit), (67, text_atn8), (3072, (116 : Int32)), (3073, act_ridern9), (3074, act_horsen10), (3075, act_third), (3076, act_fourth)], [(2, text_signs)], [])) (mi := mX0_read) (yi := mX0_readTold) (as := [.ref 1]) (st := []) (L2 := ([(66, text_limit), (67, text_atn12), (3072, (116 : Int32)), (3073, act_ridern9), (3074, act_horsen10), (3075, act_thirdn13), (3076, act_fourthn14)], [(2, text_signs)], [])) dX0_read_79 ML_X0_43 Yv_X0_readTold rfl zW_48 rfl rfl (t_X0_readTold l _ hcl) (zsub_i (zle_c rfl (zle_c rfl (zle_c rfl (zle_c rfl zle_n)))) (zle_c rfl zle_n) zle_n) (zjok_i rfl rfl (zle_c rfl (zle_c rfl (zle_c rfl (zle_c rfl (zle_c rfl (zle_c rfl (zle_c rfl zle_n))))))) rfl rfl (zle_c rfl zle_n) rfl rfl zle_n) (Nat.le_of_ble_eq_true rfl) (Nat.le_of_ble_eq_true rfl) rfl rfl ?_
          refine zJ_if_eq (tgt := 89) dX0_read_82 (by decide) rfl (fun hc => ?_) (fun hc => ?_)
          · replace h := it_t hc h
            refine zJ_iconst dX0_read_89 zc_0 rfl ?_
            obtain ⟨rfl, rfl, rfl, rfl, rfl, rfl, rfl⟩ := so7 h
            exact zJ_iret dX0_read_90 rfl (by decide)
          · replace h := it_f hc h
            refine zJ_iconst dX0_read_85 zc_1 rfl ?_
            refine zJ_goto (tgt := 90) dX0_read_86 (by decide) ?_
            obtain ⟨rfl, rfl, rfl, rfl, rfl, rfl, rfl⟩ := so7 h
            exact zJ_iret dX0_read_90 rfl (by decide)
    · replace h := it_f hc h
      refine zJ_aload_n dX0_read_26 rfl rfl ?_
      refine zJ_bipush dX0_read_27 zb_114 rfl ?_
      refine zK_putz (mi := mX0_read) (la' := [(66, text_limit), (67, text_atn4), (3072, (114 : Int32)), (3073, act_rider), (3074, act_horse), (3075, act_third), (3076, act_fourth)]) zW_ok dX0_read_29 F_X0_33 P_0_0 zW_48 rfl (by decide) (by decide) rfl rfl ?_
      refine zJ_aload_n dX0_read_32 rfl rfl ?_
      refine zJ_aload_n dX0_read_33 rfl rfl ?_
      obtain ⟨rn15, text_atn16, act_ridern17, act_horsen18, hcl, h⟩ := bd4_some h
      refine zJ_callV2 (σ := σ) (L := ([(66, text_limit), (67, text_atn4), (3072, (114 : Int32)), (3073, act_rider), (3074, act_horse), (3075, act_third), (3076, act_fourth)], [(2, text_signs)], [])) (mi := mX0_read) (yi := mX0_readPair) (as := [.ref 1]) (st := []) (L2 := ([(66, text_limit), (67, text_atn16), (3072, (114 : Int32)), (3073, act_ridern17), (3074, act_horsen18), (3075, act_third), (3076, act_fourth)], [(2, text_signs)], [])) dX0_read_34 ML_X0_37 Yv_X0_readPair rfl zW_48 rfl rfl (t_X0_readPair l _ hcl) (zsub_i (zle_c rfl (zle_c rfl (zle_c rfl (zle_c rfl zle_n)))) (zle_c rfl zle_n) zle_n) (zjok_i rfl rfl (zle_c rfl (zle_c rfl (zle_c rfl (zle_c rfl (zle_c rfl (zle_c rfl (zle_c rfl zle_n))))))) rfl rfl (zle_c rfl zle_n) rfl rfl zle_n) (Nat.le_of_ble_eq_true rfl) (Nat.le_of_ble_eq_true rfl) rfl rfl ?_
      refine zJ_if_eq (tgt := 52) dX0_read_37 (by decide) rfl (fun hc => ?_) (fun hc => ?_)
      · replace h := it_t hc h
        refine zJ_iconst dX0_read_52 zc_0 rfl ?_
        obtain ⟨rfl, rfl, rfl, rfl, rfl, rfl, rfl⟩ := so7 h
        exact zJ_iret dX0_read_53 rfl (by decide)
      · replace h := it_f hc h
        refine zJ_aload_n dX0_read_40 rfl rfl ?_
        refine zJ_aload_n dX0_read_41 rfl rfl ?_
        obtain ⟨rn19, text_atn20, act_thirdn21, act_fourthn22, hcl, h⟩ := bd4_some h
        refine zJ_callV2 (σ := σ) (L := ([(66, text_limit), (67, text_atn16), (3072, (114 : Int32)), (3073, act_ridern17), (3074, act_horsen18), (3075, act_third), (3076, act_fourth)], [(2, text_signs)], [])) (mi := mX0_read) (yi := mX0_readRide) (as := [.ref 1]) (st := []) (L2 := ([(66, text_limit), (67, text_atn20), (3072, (114 : Int32)), (3073, act_ridern17), (3074, act_horsen18), (3075, act_thirdn21), (3076, act_fourthn22)], [(2, text_signs)], [])) dX0_read_42 ML_X0_40 Yv_X0_readRide rfl zW_48 rfl rfl (t_X0_readRide l _ hcl) (zsub_i (zle_c rfl (zle_c rfl (zle_c rfl (zle_c rfl zle_n)))) (zle_c rfl zle_n) zle_n) (zjok_i rfl rfl (zle_c rfl (zle_c rfl (zle_c rfl (zle_c rfl (zle_c rfl (zle_c rfl (zle_c rfl zle_n))))))) rfl rfl (zle_c rfl zle_n) rfl rfl zle_n) (Nat.le_of_ble_eq_true rfl) (Nat.le_of_ble_eq_true rfl) rfl rfl ?_
        refine zJ_if_eq (tgt := 52) dX0_read_45 (by decide) rfl (fun hc => ?_) (fun hc => ?_)
        · replace h := it_t hc h
          refine zJ_iconst dX0_read_52 zc_0 rfl ?_
          obtain ⟨rfl, rfl, rfl, rfl, rfl, rfl, rfl⟩ := so7 h
          exact zJ_iret dX0_read_53 rfl (by decide)
        · replace h := it_f hc h
          refine zJ_iconst dX0_read_48 zc_1 rfl ?_
          refine zJ_goto (tgt := 53) dX0_read_49 (by decide) ?_
          obtain ⟨rfl, rfl, rfl, rfl, rfl, rfl, rfl⟩ := so7 h
          exact zJ_iret dX0_read_53 rfl (by decide)
  · replace h := it_f hc h
    refine zJ_aload_n dX0_read_9 rfl rfl ?_
    refine zJ_bipush dX0_read_10 zb_120 rfl ?_
    refine zK_putz (mi := mX0_read) (la' := [(66, text_limit), (67, text_atn2), (3072, (120 : Int32)), (3073, act_rider), (3074, act_horse), (3075, act_third), (3076, act_fourth)]) zW_ok dX0_read_12 F_X0_33 P_0_0 zW_48 rfl (by decide) (by decide) rfl rfl ?_
    refine zJ_iconst dX0_read_15 zc_1 rfl ?_
    obtain ⟨rfl, rfl, rfl, rfl, rfl, rfl, rfl⟩ := so7 h
    exact zJ_iret dX0_read_16 rfl (by decide)
set_option maxRecDepth 100000 in
set_option maxHeartbeats 4000000 in
theorem t_X9_fault (l : Launch) (σ : zS) {text_at : Int32} {r : Int32} (h : f_X9_fault text_at = some r) : zMt l zW 0 mX9_fault σ ([(67, text_at)], [], []) [.ref 1] (some (.int r)) ([(67, text_at)], [], []) := by
  refine zMt_of (ls := [(0, .ref 1)]) (by decide) rfl (fun _ => Nat.le_of_ble_eq_true rfl) rfl ?_
  unfold f_X9_fault at h
  refine zJ_iconst dX9_fault_0 zc_m1 rfl ?_
  refine zJ_aload_n dX9_fault_1 rfl rfl ?_
  refine zJ_geti (mi := mX9_fault) (x := text_at) dX9_fault_2 F_X9_19 zW_1 rfl rfl rfl ?_
  refine zJ_isub dX9_fault_5 rfl ?_
  obtain rfl := so1 h
  exact zJ_iret dX9_fault_6 rfl rfl
set_option maxRecDepth 100000 in
set_option maxHeartbeats 4000000 in
theorem t_X9_isDone (l : Launch) (σ : zS) {text_size : Int32} {text_at : Int32} {r : Int32} (h : f_X9_isDone text_size text_at = some r) : zMt l zW 0 mX9_isDone σ ([(65, text_size), (67, text_at)], [], []) [.ref 1] (some (.int r)) ([(65, text_size), (67, text_at)], [], []) := by
  refine zMt_of (ls := [(0, .ref 1)]) (by decide) rfl (fun _ => Nat.le_of_ble_eq_true rfl) rfl ?_
  unfold f_X9_isDone at h
  refine zJ_aload_n dX9_isDone_0 rfl rfl ?_
  refine zJ_geti (mi := mX9_isDone) (x := text_at) dX9_isDone_1 F_X9_19 zW_1 rfl rfl rfl ?_
  refine zJ_aload_n dX9_isDone_4 rfl rfl ?_
  refine zJ_geti (mi := mX9_isDone) (x := text_size) dX9_isDone_5 F_X9_15 zW_1 rfl rfl rfl ?_
  refine zJ_icmp_ne (tgt := 15) dX9_isDone_8 (by decide) rfl (fun hc => ?_) (fun hc => ?_)
  · replace h := it_f hc h
    refine zJ_iconst dX9_isDone_15 zc_0 rfl ?_
    obtain rfl := so1 h
    exact zJ_iret dX9_isDone_16 rfl (by decide)
  · replace h := it_t hc h
    refine zJ_iconst dX9_isDone_11 zc_1 rfl ?_
    refine zJ_goto (tgt := 16) dX9_isDone_12 (by decide) ?_
    obtain rfl := so1 h
    exact zJ_iret dX9_isDone_16 rfl (by decide)
set_option maxRecDepth 100000 in
set_option maxHeartbeats 4000000 in
theorem t_X9_open (l : Launch) (σ : zS) {p1 : Int32} {text_size : Int32} {text_limit : Int32} {text_at : Int32} {w_text_limit : Int32} {w_text_at : Int32} (h : f_X9_open p1 text_size text_limit text_at = some (w_text_limit, w_text_at)) : zMt l zW 1 mX9_open σ ([(65, text_size), (66, text_limit), (67, text_at)], [], []) [.ref 1, .int p1] none ([(65, text_size), (66, w_text_limit), (67, w_text_at)], [], []) := by
  refine zMt_of (ls := [(0, .ref 1), (1, .int p1)]) (by decide) rfl (fun _ => Nat.le_of_ble_eq_true rfl) rfl ?_
  unfold f_X9_open at h
  refine zJ_aload_n dX9_open_0 rfl rfl ?_
  refine zJ_iconst dX9_open_1 zc_0 rfl ?_
  refine zK_puti (mi := mX9_open) (la' := [(65, text_size), (66, text_limit), (67, (0 : Int32))]) zW_ok dX9_open_2 F_X9_19 P_9_3 zW_1 rfl rfl rfl ?_
  refine zJ_aload_n dX9_open_5 rfl rfl ?_
  refine zJ_aload_n dX9_open_6 rfl rfl ?_
  refine zJ_geti (mi := mX9_open) (x := text_size) dX9_open_7 F_X9_15 zW_1 rfl rfl rfl ?_
  refine zJ_iload_n dX9_open_10 rfl rfl ?_
  refine zJ_mmin (mi := mX9_open) dX9_open_11 L_X9_22 K_min_s K_math K_min_c (Nat.le_of_ble_eq_true rfl) (Nat.le_of_ble_eq_true rfl) rfl ?_
  refine zK_puti (mi := mX9_open) (la' := [(65, text_size), (66, (if p1 < text_size then p1 else text_size)), (67, (0 : Int32))]) zW_ok dX9_open_14 F_X9_28 P_9_2 zW_1 rfl rfl rfl ?_
  obtain ⟨rfl, rfl⟩ := so2 h
  exact zJ_vret dX9_open_17 rfl
set_option maxRecDepth 100000 in
set_option maxHeartbeats 4000000 in
theorem t_X0_check (l : Launch) (σ : zS) {text_size : Int32} {text_limit : Int32} {text_at : Int32} {act_kind : Int32} {act_rider : Int32} {act_horse : Int32} {act_third : Int32} {act_fourth : Int32} {text_signs : (Nat → Int32)} {r : Int32} {w_text_limit : Int32} {w_text_at : Int32} {w_act_kind : Int32} {w_act_rider : Int32} {w_act_horse : Int32} {w_act_third : Int32} {w_act_fourth : Int32} (h : f_X0_check text_size text_limit text_at act_kind act_rider act_horse act_third act_fourth text_signs = some (r, w_text_limit, w_text_at, w_act_kind, w_act_rider, w_act_horse, w_act_third, w_act_fourth)) : zMt l zW 4 mX0_check σ ([(65, text_size), (66, text_limit), (67, text_at), (3072, act_kind), (3073, act_rider), (3074, act_horse), (3075, act_third), (3076, act_fourth)], [(2, text_signs)], []) [.ref 48, .ref 1] (some (.int r)) ([(65, text_size), (66, w_text_limit), (67, w_text_at), (3072, w_act_kind), (3073, w_act_rider), (3074, w_act_horse), (3075, w_act_third), (3076, w_act_fourth)], [(2, text_signs)], []) := by
  refine zMt_of (ls := [(0, .ref 48), (1, .ref 1)]) (by decide) rfl (fun _ => Nat.le_of_ble_eq_true rfl) rfl ?_
  unfold f_X0_check at h
  refine zJ_aload_n dX0_check_0 rfl rfl ?_
  refine zJ_bipush dX0_check_1 zb_60 rfl ?_
  obtain ⟨text_limitn1, text_atn2, hcl, h⟩ := bd2_some h
  refine zJ_callV2 (σ := σ) (L := ([(65, text_size), (66, text_limit), (67, text_at), (3072, act_kind), (3073, act_rider), (3074, act_horse), (3075, act_third), (3076, act_fourth)], [(2, text_signs)], [])) (mi := mX0_check) (yi := mX9_open) (as := [.int (60 : Int32)]) (st := []) (L2 := ([(65, text_size), (66, text_limitn1), (67, text_atn2), (3072, act_kind), (3073, act_rider), (3074, act_horse), (3075, act_third), (3076, act_fourth)], [(2, text_signs)], [])) dX0_check_3 ML_X0_11 Yv_X9_open rfl zW_1 rfl rfl (t_X9_open l _ hcl) (zsub_i (zle_c rfl (zle_c rfl (zle_c rfl zle_n))) zle_n zle_n) (zjok_i rfl rfl (zle_c rfl (zle_c rfl (zle_c rfl (zle_c rfl (zle_c rfl (zle_c rfl (zle_c rfl (zle_c rfl zle_n)))))))) rfl rfl (zle_c rfl zle_n) rfl rfl zle_n) (Nat.le_of_ble_eq_true rfl) (Nat.le_of_ble_eq_true rfl) rfl rfl ?_
  refine zJ_aload_n dX0_check_6 rfl rfl ?_
  obtain ⟨rn3, hcl, h⟩ := bd1_some h
  refine zJ_callV2 (σ := σ) (L := ([(65, text_size), (66, text_limitn1), (67, text_atn2), (3072, act_kind), (3073, act_rider), (3074, act_horse), (3075, act_third), (3076, act_fourth)], [(2, text_signs)], [])) (mi := mX0_check) (yi := mX9_isDone) (as := []) (st := []) (L2 := ([(65, text_size), (66, text_limitn1), (67, text_atn2), (3072, act_kind), (3073, act_rider), (3074, act_horse), (3075, act_third), (3076, act_fourth)], [(2, text_signs)], [])) dX0_check_7 ML_X0_17 Yv_X9_isDone rfl zW_1 rfl rfl (t_X9_isDone l _ hcl) (zsub_i (zle_c rfl (zle_c rfl zle_n)) zle_n zle_n) (zjok_i rfl rfl (zle_c rfl (zle_c rfl (zle_c rfl (zle_c rfl (zle_c rfl (zle_c rfl (zle_c rfl (zle_c rfl zle_n)))))))) rfl rfl (zle_c rfl zle_n) rfl rfl zle_n) (Nat.le_of_ble_eq_true rfl) (Nat.le_of_ble_eq_true rfl) rfl rfl ?_
  refine zJ_if_eq (tgt := 15) dX0_check_10 (by decide) rfl (fun hc => ?_) (fun hc => ?_)
  · replace h := it_t hc h
    refine zJ_iconst dX0_check_15 zc_0 rfl ?_
    refine zJ_istore_n (ls' := [(2, .int (0 : Int32)), (0, .ref 48), (1, .ref 1)]) dX0_check_16 rfl rfl rfl ?_
    have hk17 : ∀ (text_at_17x : Int32) (act_kind_17x : Int32) (act_rider_17x : Int32) (act_horse_17x : Int32) (act_third_17x : Int32) (act_fourth_17x : Int32), k_X0_check_17 text_limitn1 text_at_17x act_kind_17x act_rider_17x act_horse_17x act_third_17x act_fourth_17x = some (r, w_text_limit, w_text_at, w_act_kind, w_act_rider, w_act_horse, w_act_third, w_act_fourth) → zJ l zW 4 mX0_check σ ([(65, text_size), (66, text_limitn1), (67, text_at_17x), (3072, act_kind_17x), (3073, act_rider_17x), (3074, act_horse_17x), (3075, act_third_17x), (3076, act_fourth_17x)], [(2, text_signs)], []) 65 [(1, .ref 1)] [] (some (.int r)) ([(65, text_size), (66, w_text_limit), (67, w_text_at), (3072, w_act_kind), (3073, w_act_rider), (3074, w_act_horse), (3075, w_act_third), (3076, w_act_fourth)], [(2, text_signs)], []) := by
      intro text_at_17x act_kind_17x act_rider_17x act_horse_17x act_third_17x act_fourth_17x h
      unfold k_X0_check_17 at h
      refine zJ_aload_n dX0_check_65 rfl rfl ?_
      obtain ⟨rn4, hcl, h⟩ := bd1_some h
      refine zJ_callV2 (σ := σ) (L := ([(65, text_size), (66, text_limitn1), (67, text_at_17x), (3072, act_kind_17x), (3073, act_rider_17x), (3074, act_horse_17x), (3075, act_third_17x), (3076, act_fourth_17x)], [(2, text_signs)], [])) (mi := mX0_check) (yi := mX9_fault) (as := []) (st := []) (L2 := ([(65, text_size), (66, text_limitn1), (67, text_at_17x), (3072, act_kind_17x), (3073, act_rider_17x), (3074, act_horse_17x), (3075, act_third_17x), (3076, act_fourth_17x)], [(2, text_signs)], [])) dX0_check_66 ML_X0_25 Yv_X9_fault rfl zW_1 rfl rfl (t_X9_fault l _ hcl) (zsub_i (zle_c rfl zle_n) zle_n zle_n) (zjok_i rfl rfl (zle_c rfl (zle_c rfl (zle_c rfl (zle_c rfl (zle_c rfl (zle_c rfl (zle_c rfl (zle_c rfl zle_n)))))))) rfl rfl (zle_c rfl zle_n) rfl rfl zle_n) (Nat.le_of_ble_eq_true rfl) (Nat.le_of_ble_eq_true rfl) rfl rfl ?_
      obtain ⟨rfl, rfl, rfl, rfl, rfl, rfl, rfl, rfl⟩ := so8 h
      exact zJ_iret dX0_check_69 rfl rfl
    refine zJ_loc (ls' := [(0, .ref 48), (1, .ref 1), (2, .int (0 : Int32))]) (zll_c rfl (zll_c rfl (zll_c rfl zll_n))) ?_
    refine ml7_J (fun (v2_17 : Int32) (text_at_17 : Int32) (act_kind_17 : Int32) (act_rider_17 : Int32) (act_horse_17 : Int32) (act_third_17 : Int32) (act_fourth_17 : Int32) => zJ l zW 4 mX0_check σ ([(65, text_size), (66, text_limitn1), (67, text_at_17), (3072, act_kind_17), (3073, act_rider_17), (3074, act_horse_17), (3075, act_third_17), (3076, act_fourth_17)], [(2, text_signs)], []) 17 [(0, .ref 48), (1, .ref 1), (2, .int v2_17)] [] (some (.int r)) ([(65, text_size), (66, w_text_limit), (67, w_text_at), (3072, w_act_kind), (3073, w_act_rider), (3074, w_act_horse), (3075, w_act_third), (3076, w_act_fourth)], [(2, text_signs)], [])) (fun rc17 hrc17 v2_17 text_at_17 act_kind_17 act_rider_17 act_horse_17 act_third_17 act_fourth_17 h => ?_) zN _ _ _ _ _ _ _ h
    unfold s_X0_check_17 at h
    refine zJ_iload_n dX0_check_17 rfl rfl ?_
    refine zJ_bipush dX0_check_18 zb_60 rfl ?_
    refine zJ_icmp_ge (tgt := 65) dX0_check_20 (by decide) rfl (fun hc => ?_) (fun hc => ?_)
    · replace h := it_t hc h
      refine zJ_loc (ls' := [(1, .ref 1)]) (zll_c rfl zll_n) ?_
      exact hk17 _ _ _ _ _ _ h
    · replace h := it_f hc h
      refine zJ_aload_n dX0_check_23 rfl rfl ?_
      refine zJ_aload_n dX0_check_24 rfl rfl ?_
      obtain ⟨rn5, text_atn6, act_kindn7, act_ridern8, act_horsen9, act_thirdn10, act_fourthn11, hcl, h⟩ := bd7_some h
      refine zJ_callV2 (σ := σ) (L := ([(65, text_size), (66, text_limitn1), (67, text_at_17), (3072, act_kind_17), (3073, act_rider_17), (3074, act_horse_17), (3075, act_third_17), (3076, act_fourth_17)], [(2, text_signs)], [])) (mi := mX0_check) (yi := mX0_read) (as := [.ref 1]) (st := []) (L2 := ([(65, text_size), (66, text_limitn1), (67, text_atn6), (3072, act_kindn7), (3073, act_ridern8), (3074, act_horsen9), (3075, act_thirdn10), (3076, act_fourthn11)], [(2, text_signs)], [])) dX0_check_25 ML_X0_21 Yv_X0_read rfl zW_48 rfl rfl (t_X0_read l _ hcl) (zsub_i (zle_c rfl (zle_c rfl (zle_c rfl (zle_c rfl (zle_c rfl (zle_c rfl (zle_c rfl zle_n))))))) (zle_c rfl zle_n) zle_n) (zjok_i rfl rfl (zle_c rfl (zle_c rfl (zle_c rfl (zle_c rfl (zle_c rfl (zle_c rfl (zle_c rfl (zle_c rfl zle_n)))))))) rfl rfl (zle_c rfl zle_n) rfl rfl zle_n) (Nat.le_of_ble_eq_true rfl) (Nat.le_of_ble_eq_true rfl) rfl rfl ?_
      refine zJ_if_ne (tgt := 36) dX0_check_28 (by decide) rfl (fun hc => ?_) (fun hc => ?_)
      · replace h := it_f hc h
        refine zJ_aload_n dX0_check_36 rfl rfl ?_
        obtain ⟨rn12, hcl, h⟩ := bd1_some h
        refine zJ_callV2 (σ := σ) (L := ([(65, text_size), (66, text_limitn1), (67, text_atn6), (3072, act_kindn7), (3073, act_ridern8), (3074, act_horsen9), (3075, act_thirdn10), (3076, act_fourthn11)], [(2, text_signs)], [])) (mi := mX0_check) (yi := mX9_isDone) (as := []) (st := []) (L2 := ([(65, text_size), (66, text_limitn1), (67, text_atn6), (3072, act_kindn7), (3073, act_ridern8), (3074, act_horsen9), (3075, act_thirdn10), (3076, act_fourthn11)], [(2, text_signs)], [])) dX0_check_37 ML_X0_17 Yv_X9_isDone rfl zW_1 rfl rfl (t_X9_isDone l _ hcl) (zsub_i (zle_c rfl (zle_c rfl zle_n)) zle_n zle_n) (zjok_i rfl rfl (zle_c rfl (zle_c rfl (zle_c rfl (zle_c rfl (zle_c rfl (zle_c rfl (zle_c rfl (zle_c rfl zle_n)))))))) rfl rfl (zle_c rfl zle_n) rfl rfl zle_n) (Nat.le_of_ble_eq_true rfl) (Nat.le_of_ble_eq_true rfl) rfl rfl ?_
        refine zJ_if_eq (tgt := 45) dX0_check_40 (by decide) rfl (fun hc => ?_) (fun hc => ?_)
        · replace h := it_t hc h
          refine zJ_aload_n dX0_check_45 rfl rfl ?_
          refine zJ_bipush dX0_check_46 zb_59 rfl ?_
          obtain ⟨rn13, text_atn14, hcl, h⟩ := bd2_some h
          refine zJ_callV2 (σ := σ) (L := ([(65, text_size), (66, text_limitn1), (67, text_atn6), (3072, act_kindn7), (3073, act_ridern8), (3074, act_horsen9), (3075, act_thirdn10), (3076, act_fourthn11)], [(2, text_signs)], [])) (mi := mX0_check) (yi := mX9_take) (as := [.int (59 : Int32)]) (st := []) (L2 := ([(65, text_size), (66, text_limitn1), (67, text_atn14), (3072, act_kindn7), (3073, act_ridern8), (3074, act_horsen9), (3075, act_thirdn10), (3076, act_fourthn11)], [(2, text_signs)], [])) dX0_check_48 ML_X0_29 Yv_X9_take rfl zW_1 rfl rfl (t_X9_take l _ hcl) (zsub_i (zle_c rfl (zle_c rfl zle_n)) (zle_c rfl zle_n) zle_n) (zjok_i rfl rfl (zle_c rfl (zle_c rfl (zle_c rfl (zle_c rfl (zle_c rfl (zle_c rfl (zle_c rfl (zle_c rfl zle_n)))))))) rfl rfl (zle_c rfl zle_n) rfl rfl zle_n) (Nat.le_of_ble_eq_true rfl) (Nat.le_of_ble_eq_true rfl) rfl rfl ?_
          refine zJ_if_ne (tgt := 59) dX0_check_51 (by decide) rfl (fun hc => ?_) (fun hc => ?_)
          · replace h := it_f hc h
            obtain ⟨v2n15, ev2n15, h⟩ := lt1_some h
            refine zJ_iincN (ls' := [(2, .int v2n15), (0, .ref 48), (1, .ref 1)]) dX0_check_59 rfl rfl zc_1 ev2n15 rfl rfl ?_
            refine zJ_goto (tgt := 17) dX0_check_62 (by decide) ?_
            refine zJ_loc (ls' := [(0, .ref 48), (1, .ref 1), (2, .int v2n15)]) (zll_c rfl (zll_c rfl (zll_c rfl zll_n))) ?_
            exact hrc17 _ _ _ _ _ _ _ h
          · replace h := it_t hc h
            refine zJ_aload_n dX0_check_54 rfl rfl ?_
            obtain ⟨rn16, hcl, h⟩ := bd1_some h
            refine zJ_callV2 (σ := σ) (L := ([(65, text_size), (66, text_limitn1), (67, text_atn14), (3072, act_kindn7), (3073, act_ridern8), (3074, act_horsen9), (3075, act_thirdn10), (3076, act_fourthn11)], [(2, text_signs)], [])) (mi := mX0_check) (yi := mX9_fault) (as := []) (st := []) (L2 := ([(65, text_size), (66, text_limitn1), (67, text_atn14), (3072, act_kindn7), (3073, act_ridern8), (3074, act_horsen9), (3075, act_thirdn10), (3076, act_fourthn11)], [(2, text_signs)], [])) dX0_check_55 ML_X0_25 Yv_X9_fault rfl zW_1 rfl rfl (t_X9_fault l _ hcl) (zsub_i (zle_c rfl zle_n) zle_n zle_n) (zjok_i rfl rfl (zle_c rfl (zle_c rfl (zle_c rfl (zle_c rfl (zle_c rfl (zle_c rfl (zle_c rfl (zle_c rfl zle_n)))))))) rfl rfl (zle_c rfl zle_n) rfl rfl zle_n) (Nat.le_of_ble_eq_true rfl) (Nat.le_of_ble_eq_true rfl) rfl rfl ?_
            obtain ⟨rfl, rfl, rfl, rfl, rfl, rfl, rfl, rfl⟩ := so8 h
            exact zJ_iret dX0_check_58 rfl rfl
        · replace h := it_f hc h
          refine zJ_iconst dX0_check_43 zc_0 rfl ?_
          obtain ⟨rfl, rfl, rfl, rfl, rfl, rfl, rfl, rfl⟩ := so8 h
          exact zJ_iret dX0_check_44 rfl rfl
      · replace h := it_t hc h
        refine zJ_aload_n dX0_check_31 rfl rfl ?_
        obtain ⟨rn17, hcl, h⟩ := bd1_some h
        refine zJ_callV2 (σ := σ) (L := ([(65, text_size), (66, text_limitn1), (67, text_atn6), (3072, act_kindn7), (3073, act_ridern8), (3074, act_horsen9), (3075, act_thirdn10), (3076, act_fourthn11)], [(2, text_signs)], [])) (mi := mX0_check) (yi := mX9_fault) (as := []) (st := []) (L2 := ([(65, text_size), (66, text_limitn1), (67, text_atn6), (3072, act_kindn7), (3073, act_ridern8), (3074, act_horsen9), (3075, act_thirdn10), (3076, act_fourthn11)], [(2, text_signs)], [])) dX0_check_32 ML_X0_25 Yv_X9_fault rfl zW_1 rfl rfl (t_X9_fault l _ hcl) (zsub_i (zle_c rfl zle_n) zle_n zle_n) (zjok_i rfl rfl (zle_c rfl (zle_c rfl (zle_c rfl (zle_c rfl (zle_c rfl (zle_c rfl (zle_c rfl (zle_c rfl zle_n)))))))) rfl rfl (zle_c rfl zle_n) rfl rfl zle_n) (Nat.le_of_ble_eq_true rfl) (Nat.le_of_ble_eq_true rfl) rfl rfl ?_
        obtain ⟨rfl, rfl, rfl, rfl, rfl, rfl, rfl, rfl⟩ := so8 h
        exact zJ_iret dX0_check_35 rfl rfl
  · replace h := it_f hc h
    refine zJ_iconst dX0_check_13 zc_0 rfl ?_
    obtain ⟨rfl, rfl, rfl, rfl, rfl, rfl, rfl, rfl⟩ := so8 h
    exact zJ_iret dX0_check_14 rfl rfl
set_option maxRecDepth 100000 in
set_option maxHeartbeats 4000000 in
theorem t_X10_isFull (l : Launch) (σ : zS) {rounds_size : Int32} {r : Int32} (h : f_X10_isFull rounds_size = some r) : zMt l zW 0 mX10_isFull σ ([(1284, rounds_size)], [], []) [.ref 20] (some (.int r)) ([(1284, rounds_size)], [], []) := by
  refine zMt_of (ls := [(0, .ref 20)]) (by decide) rfl (fun _ => Nat.le_of_ble_eq_true rfl) rfl ?_
  unfold f_X10_isFull at h
  refine zJ_aload_n dX10_isFull_0 rfl rfl ?_
  refine zJ_geti (mi := mX10_isFull) (x := rounds_size) dX10_isFull_1 F_X10_64 zW_20 rfl rfl rfl ?_
  refine zJ_bipush dX10_isFull_4 zb_12 rfl ?_
  refine zJ_icmp_lt (tgt := 13) dX10_isFull_6 (by decide) rfl (fun hc => ?_) (fun hc => ?_)
  · replace h := it_t hc h
    refine zJ_iconst dX10_isFull_13 zc_0 rfl ?_
    obtain rfl := so1 h
    exact zJ_iret dX10_isFull_14 rfl (by decide)
  · replace h := it_f hc h
    refine zJ_iconst dX10_isFull_9 zc_1 rfl ?_
    refine zJ_goto (tgt := 14) dX10_isFull_10 (by decide) ?_
    obtain rfl := so1 h
    exact zJ_iret dX10_isFull_14 rfl (by decide)
set_option maxRecDepth 100000 in
set_option maxHeartbeats 4000000 in
theorem t_X10_add (l : Launch) (σ : zS) {p1 : Int32} {p2 : Int32} {p3 : Int32} {p4 : Int32} {rounds_size : Int32} {rounds_riders : (Nat → Int32)} {rounds_horses : (Nat → Int32)} {rounds_faults : (Nat → Int32)} {rounds_tenths : (Nat → Int32)} {w_rounds_size : Int32} {w_rounds_riders : (Nat → Int32)} {w_rounds_horses : (Nat → Int32)} {w_rounds_faults : (Nat → Int32)} {w_rounds_tenths : (Nat → Int32)} (h : f_X10_add p1 p2 p3 p4 rounds_size rounds_riders rounds_horses rounds_faults rounds_tenths = some (w_rounds_size, w_rounds_riders, w_rounds_horses, w_rounds_faults, w_rounds_tenths)) : zMt l zW 1 mX10_add σ ([(1284, rounds_size)], [(21, rounds_riders), (22, rounds_horses), (23, rounds_faults), (24, rounds_tenths)], []) [.ref 20, .int p1, .int p2, .int p3, .int p4] none ([(1284, w_rounds_size)], [(21, w_rounds_riders), (22, w_rounds_horses), (23, w_rounds_faults), (24, w_rounds_tenths)], []) := by
  refine zMt_of (ls := [(0, .ref 20), (1, .int p1), (2, .int p2), (3, .int p3), (4, .int p4)]) (by decide) rfl (fun _ => Nat.le_of_ble_eq_true rfl) rfl ?_
  unfold f_X10_add at h
  refine zJ_aload_n dX10_add_0 rfl rfl ?_
  obtain ⟨rn1, hcl, h⟩ := bd1_some h
  refine zJ_callV2 (σ := σ) (L := ([(1284, rounds_size)], [(21, rounds_riders), (22, rounds_horses), (23, rounds_faults), (24, rounds_tenths)], [])) (mi := mX10_add) (yi := mX10_isFull) (as := []) (st := []) (L2 := ([(1284, rounds_size)], [(21, rounds_riders), (22, rounds_horses), (23, rounds_faults), (24, rounds_tenths)], [])) dX10_add_1 ML_X10_68 Yv_X10_isFull rfl zW_20 rfl rfl (t_X10_isFull l _ hcl) (zsub_i (zle_c rfl zle_n) zle_n zle_n) (zjok_i rfl rfl (zle_c rfl zle_n) rfl rfl (zle_c rfl (zle_c rfl (zle_c rfl (zle_c rfl zle_n)))) rfl rfl zle_n) (Nat.le_of_ble_eq_true rfl) (Nat.le_of_ble_eq_true rfl) rfl rfl ?_
  refine zJ_if_eq (tgt := 8) dX10_add_4 (by decide) rfl (fun hc => ?_) (fun hc => ?_)
  · replace h := it_t hc h
    refine zJ_aload_n dX10_add_8 rfl rfl ?_
    refine zJ_getr (mi := mX10_add) dX10_add_9 F_X10_9 zW_20 rfl rfl ?_
    refine zJ_aload_n dX10_add_12 rfl rfl ?_
    refine zJ_geti (mi := mX10_add) (x := rounds_size) dX10_add_13 F_X10_64 zW_20 rfl rfl rfl ?_
    refine zJ_iload_n dX10_add_16 rfl rfl ?_
    obtain ⟨hg, h⟩ := gd_some h
    refine zK_iast (mi := mX10_add) (f := rounds_riders) (lb' := [(21, (upd rounds_riders rounds_size.toNatClampNeg p1)), (22, rounds_horses), (23, rounds_faults), (24, rounds_tenths)]) dX10_add_17 zW_21 (ix_in hg) rfl rfl rfl ?_
    refine zJ_aload_n dX10_add_18 rfl rfl ?_
    refine zJ_getr (mi := mX10_add) dX10_add_19 F_X10_15 zW_20 rfl rfl ?_
    refine zJ_aload_n dX10_add_22 rfl rfl ?_
    refine zJ_geti (mi := mX10_add) (x := rounds_size) dX10_add_23 F_X10_64 zW_20 rfl rfl rfl ?_
    refine zJ_iload_n dX10_add_26 rfl rfl ?_
    obtain ⟨hg, h⟩ := gd_some h
    refine zK_iast (mi := mX10_add) (f := rounds_horses) (lb' := [(21, (upd rounds_riders rounds_size.toNatClampNeg p1)), (22, (upd rounds_horses rounds_size.toNatClampNeg p2)), (23, rounds_faults), (24, rounds_tenths)]) dX10_add_27 zW_22 (ix_in hg) rfl rfl rfl ?_
    refine zJ_aload_n dX10_add_28 rfl rfl ?_
    refine zJ_getr (mi := mX10_add) dX10_add_29 F_X10_18 zW_20 rfl rfl ?_
    refine zJ_aload_n dX10_add_32 rfl rfl ?_
    refine zJ_geti (mi := mX10_add) (x := rounds_size) dX10_add_33 F_X10_64 zW_20 rfl rfl rfl ?_
    refine zJ_iload_n dX10_add_36 rfl rfl ?_
    obtain ⟨hg, h⟩ := gd_some h
    refine zK_iast (mi := mX10_add) (f := rounds_faults) (lb' := [(21, (upd rounds_riders rounds_size.toNatClampNeg p1)), (22, (upd rounds_horses rounds_size.toNatClampNeg p2)), (23, (upd rounds_faults rounds_size.toNatClampNeg p3)), (24, rounds_tenths)]) dX10_add_37 zW_23 (ix_in hg) rfl rfl rfl ?_
    refine zJ_aload_n dX10_add_38 rfl rfl ?_
    refine zJ_getr (mi := mX10_add) dX10_add_39 F_X10_21 zW_20 rfl rfl ?_
    refine zJ_aload_n dX10_add_42 rfl rfl ?_
    refine zJ_geti (mi := mX10_add) (x := rounds_size) dX10_add_43 F_X10_64 zW_20 rfl rfl rfl ?_
    refine zJ_iload dX10_add_46 rfl rfl ?_
    obtain ⟨hg, h⟩ := gd_some h
    refine zK_iast (mi := mX10_add) (f := rounds_tenths) (lb' := [(21, (upd rounds_riders rounds_size.toNatClampNeg p1)), (22, (upd rounds_horses rounds_size.toNatClampNeg p2)), (23, (upd rounds_faults rounds_size.toNatClampNeg p3)), (24, (upd rounds_tenths rounds_size.toNatClampNeg p4))]) dX10_add_48 zW_24 (ix_in hg) rfl rfl rfl ?_
    refine zJ_aload_n dX10_add_49 rfl rfl ?_
    refine zJ_dup dX10_add_50 rfl rfl ?_
    refine zJ_geti (mi := mX10_add) (x := rounds_size) dX10_add_51 F_X10_64 zW_20 rfl rfl rfl ?_
    refine zJ_iconst dX10_add_54 zc_1 rfl ?_
    refine zJ_iadd dX10_add_55 rfl ?_
    refine zK_puti (mi := mX10_add) (la' := [(1284, (rounds_size + (1 : Int32)))]) zW_ok dX10_add_56 F_X10_64 P_10_4 zW_20 rfl rfl rfl ?_
    obtain ⟨rfl, rfl, rfl, rfl, rfl⟩ := so5 h
    exact zJ_vret dX10_add_59 rfl
  · replace h := it_f hc h
    obtain ⟨rfl, rfl, rfl, rfl, rfl⟩ := so5 h
    exact zJ_vret dX10_add_7 rfl
set_option maxRecDepth 100000 in
set_option maxHeartbeats 4000000 in
theorem t_X10_moneyAt (l : Launch) (σ : zS) {p1 : Int32} {rounds_money : (Nat → Int32)} {r : Int32} (h : f_X10_moneyAt p1 rounds_money = some r) : zMt l zW 0 mX10_moneyAt σ ([], [(25, rounds_money)], []) [.ref 20, .int p1] (some (.int r)) ([], [(25, rounds_money)], []) := by
  refine zMt_of (ls := [(0, .ref 20), (1, .int p1)]) (by decide) rfl (fun _ => Nat.le_of_ble_eq_true rfl) rfl ?_
  unfold f_X10_moneyAt at h
  refine zJ_iload_n dX10_moneyAt_0 rfl rfl ?_
  refine zJ_iconst dX10_moneyAt_1 zc_1 rfl ?_
  refine zJ_icmp_lt (tgt := 22) dX10_moneyAt_2 (by decide) rfl (fun hc => ?_) (fun hc => ?_)
  · replace h := it_t hc h
    refine zJ_iconst dX10_moneyAt_22 zc_0 rfl ?_
    obtain rfl := so1 h
    exact zJ_iret dX10_moneyAt_23 rfl rfl
  · replace h := it_f hc h
    refine zJ_iload_n dX10_moneyAt_5 rfl rfl ?_
    refine zJ_bipush dX10_moneyAt_6 zb_6 rfl ?_
    refine zJ_icmp_gt (tgt := 22) dX10_moneyAt_8 (by decide) rfl (fun hc => ?_) (fun hc => ?_)
    · replace h := it_t hc h
      refine zJ_iconst dX10_moneyAt_22 zc_0 rfl ?_
      obtain rfl := so1 h
      exact zJ_iret dX10_moneyAt_23 rfl rfl
    · replace h := it_f hc h
      refine zJ_aload_n dX10_moneyAt_11 rfl rfl ?_
      refine zJ_getr (mi := mX10_moneyAt) dX10_moneyAt_12 F_X10_24 zW_20 rfl rfl ?_
      refine zJ_iload_n dX10_moneyAt_15 rfl rfl ?_
      refine zJ_iconst dX10_moneyAt_16 zc_1 rfl ?_
      refine zJ_isub dX10_moneyAt_17 rfl ?_
      obtain ⟨hg, h⟩ := gd_some h
      refine zJ_iald (mi := mX10_moneyAt) (f := rounds_money) dX10_moneyAt_18 zW_25 (ix_in hg) rfl rfl ?_
      refine zJ_goto (tgt := 23) dX10_moneyAt_19 (by decide) ?_
      obtain rfl := so1 h
      exact zJ_iret dX10_moneyAt_23 rfl rfl
set_option maxRecDepth 100000 in
set_option maxHeartbeats 4000000 in
theorem t_X10_moneyInAll (l : Launch) (σ : zS) {rounds_money : (Nat → Int32)} {r : Int32} (h : f_X10_moneyInAll rounds_money = some r) : zMt l zW 0 mX10_moneyInAll σ ([], [(25, rounds_money)], []) [.ref 20] (some (.int r)) ([], [(25, rounds_money)], []) := by
  refine zMt_of (ls := [(0, .ref 20)]) (by decide) rfl (fun _ => Nat.le_of_ble_eq_true rfl) rfl ?_
  unfold f_X10_moneyInAll at h
  refine zJ_iconst dX10_moneyInAll_0 zc_0 rfl ?_
  refine zJ_istore_n (ls' := [(1, .int (0 : Int32)), (0, .ref 20)]) dX10_moneyInAll_1 rfl rfl rfl ?_
  refine zJ_iconst dX10_moneyInAll_2 zc_0 rfl ?_
  refine zJ_istore_n (ls' := [(2, .int (0 : Int32)), (1, .int (0 : Int32)), (0, .ref 20)]) dX10_moneyInAll_3 rfl rfl rfl ?_
  have hk4 : ∀ (v1_4x : Int32), k_X10_moneyInAll_4  v1_4x = some r → zJ l zW 0 mX10_moneyInAll σ ([], [(25, rounds_money)], []) 25 [(1, .int v1_4x)] [] (some (.int r)) ([], [(25, rounds_money)], []) := by
    intro v1_4x h
    unfold k_X10_moneyInAll_4 at h
    refine zJ_iload_n dX10_moneyInAll_25 rfl rfl ?_
    obtain rfl := so1 h
    exact zJ_iret dX10_moneyInAll_26 rfl rfl
  refine zJ_loc (ls' := [(0, .ref 20), (1, .int (0 : Int32)), (2, .int (0 : Int32))]) (zll_c rfl (zll_c rfl (zll_c rfl zll_n))) ?_
  refine ml2_J (fun (v1_4 : Int32) (v2_4 : Int32) => zJ l zW 0 mX10_moneyInAll σ ([], [(25, rounds_money)], []) 4 [(0, .ref 20), (1, .int v1_4), (2, .int v2_4)] [] (some (.int r)) ([], [(25, rounds_money)], [])) (fun rc4 hrc4 v1_4 v2_4 h => ?_) zN _ _ h
  unfold s_X10_moneyInAll_4 at h
  refine zJ_iload_n dX10_moneyInAll_4 rfl rfl ?_
  refine zJ_bipush dX10_moneyInAll_5 zb_6 rfl ?_
  refine zJ_icmp_ge (tgt := 25) dX10_moneyInAll_7 (by decide) rfl (fun hc => ?_) (fun hc => ?_)
  · replace h := it_t hc h
    refine zJ_loc (ls' := [(1, .int v1_4)]) (zll_c rfl zll_n) ?_
    exact hk4 _ h
  · replace h := it_f hc h
    refine zJ_iload_n dX10_moneyInAll_10 rfl rfl ?_
    refine zJ_aload_n dX10_moneyInAll_11 rfl rfl ?_
    refine zJ_getr (mi := mX10_moneyInAll) dX10_moneyInAll_12 F_X10_24 zW_20 rfl rfl ?_
    refine zJ_iload_n dX10_moneyInAll_15 rfl rfl ?_
    obtain ⟨hg, h⟩ := gd_some h
    refine zJ_iald (mi := mX10_moneyInAll) (f := rounds_money) dX10_moneyInAll_16 zW_25 (ix_in hg) rfl rfl ?_
    refine zJ_iadd dX10_moneyInAll_17 rfl ?_
    obtain ⟨v1n1, ev1n1, h⟩ := lt1_some h
    refine zJ_nmi ev1n1 ?_
    refine zJ_istore_n (ls' := [(1, .int v1n1), (0, .ref 20), (2, .int v2_4)]) dX10_moneyInAll_18 rfl rfl rfl ?_
    obtain ⟨v2n2, ev2n2, h⟩ := lt1_some h
    refine zJ_iincN (ls' := [(2, .int v2n2), (1, .int v1n1), (0, .ref 20)]) dX10_moneyInAll_19 rfl rfl zc_1 ev2n2 rfl rfl ?_
    refine zJ_goto (tgt := 4) dX10_moneyInAll_22 (by decide) ?_
    refine zJ_loc (ls' := [(0, .ref 20), (1, .int v1n1), (2, .int v2n2)]) (zll_c rfl (zll_c rfl (zll_c rfl zll_n))) ?_
    exact hrc4 _ _ h
set_option maxRecDepth 100000 in
set_option maxHeartbeats 4000000 in
theorem t_X10_placeFor (l : Launch) (σ : zS) {p1 : Int32} {p2 : Int32} {rounds_size : Int32} {rounds_faults : (Nat → Int32)} {rounds_tenths : (Nat → Int32)} {r : Int32} (h : f_X10_placeFor p1 p2 rounds_size rounds_faults rounds_tenths = some r) : zMt l zW 0 mX10_placeFor σ ([(1284, rounds_size)], [(23, rounds_faults), (24, rounds_tenths)], []) [.ref 20, .int p1, .int p2] (some (.int r)) ([(1284, rounds_size)], [(23, rounds_faults), (24, rounds_tenths)], []) := by
  refine zMt_of (ls := [(0, .ref 20), (1, .int p1), (2, .int p2)]) (by decide) rfl (fun _ => Nat.le_of_ble_eq_true rfl) rfl ?_
  unfold f_X10_placeFor at h
  refine zJ_iconst dX10_placeFor_0 zc_1 rfl ?_
  refine zJ_istore_n (ls' := [(3, .int (1 : Int32)), (0, .ref 20), (1, .int p1), (2, .int p2)]) dX10_placeFor_1 rfl rfl rfl ?_
  refine zJ_iconst dX10_placeFor_2 zc_0 rfl ?_
  refine zJ_istore (ls' := [(4, .int (0 : Int32)), (3, .int (1 : Int32)), (0, .ref 20), (1, .int p1), (2, .int p2)]) dX10_placeFor_3 rfl rfl rfl ?_
  have hk5 : ∀ (v3_5x : Int32), k_X10_placeFor_5  v3_5x = some r → zJ l zW 0 mX10_placeFor σ ([(1284, rounds_size)], [(23, rounds_faults), (24, rounds_tenths)], []) 73 [(3, .int v3_5x)] [] (some (.int r)) ([(1284, rounds_size)], [(23, rounds_faults), (24, rounds_tenths)], []) := by
    intro v3_5x h
    unfold k_X10_placeFor_5 at h
    refine zJ_iload_n dX10_placeFor_73 rfl rfl ?_
    obtain rfl := so1 h
    exact zJ_iret dX10_placeFor_74 rfl rfl
  refine zJ_loc (ls' := [(0, .ref 20), (1, .int p1), (2, .int p2), (3, .int (1 : Int32)), (4, .int (0 : Int32))]) (zll_c rfl (zll_c rfl (zll_c rfl (zll_c rfl (zll_c rfl zll_n))))) ?_
  refine ml2_J (fun (v3_5 : Int32) (v4_5 : Int32) => zJ l zW 0 mX10_placeFor σ ([(1284, rounds_size)], [(23, rounds_faults), (24, rounds_tenths)], []) 5 [(0, .ref 20), (1, .int p1), (2, .int p2), (3, .int v3_5), (4, .int v4_5)] [] (some (.int r)) ([(1284, rounds_size)], [(23, rounds_faults), (24, rounds_tenths)], [])) (fun rc5 hrc5 v3_5 v4_5 h => ?_) zN _ _ h
  unfold s_X10_placeFor_5 at h
  refine zJ_iload dX10_placeFor_5 rfl rfl ?_
  refine zJ_aload_n dX10_placeFor_7 rfl rfl ?_
  refine zJ_geti (mi := mX10_placeFor) (x := rounds_size) dX10_placeFor_8 F_X10_64 zW_20 rfl rfl rfl ?_
  refine zJ_icmp_ge (tgt := 73) dX10_placeFor_11 (by decide) rfl (fun hc => ?_) (fun hc => ?_)
  · replace h := it_t hc h
    refine zJ_loc (ls' := [(3, .int v3_5)]) (zll_c rfl zll_n) ?_
    exact hk5 _ h
  · replace h := it_f hc h
    refine zJ_aload_n dX10_placeFor_14 rfl rfl ?_
    refine zJ_getr (mi := mX10_placeFor) dX10_placeFor_15 F_X10_18 zW_20 rfl rfl ?_
    refine zJ_iload dX10_placeFor_18 rfl rfl ?_
    obtain ⟨hg, h⟩ := gd_some h
    refine zJ_iald (mi := mX10_placeFor) (f := rounds_faults) dX10_placeFor_20 zW_23 (ix_in hg) rfl rfl ?_
    refine zJ_iload_n dX10_placeFor_21 rfl rfl ?_
    refine zJ_icmp_lt (tgt := 47) dX10_placeFor_22 (by decide) rfl (fun hc => ?_) (fun hc => ?_)
    · replace h := it_t hc h
      refine zJ_iconst dX10_placeFor_47 zc_1 rfl ?_
      refine zJ_goto (tgt := 52) dX10_placeFor_48 (by decide) ?_
      refine zJ_istore (ls' := [(5, .int (1 : Int32)), (0, .ref 20), (1, .int p1), (2, .int p2), (3, .int v3_5), (4, .int v4_5)]) dX10_placeFor_52 rfl rfl rfl ?_
      refine zJ_iload_n dX10_placeFor_54 rfl rfl ?_
      refine zJ_iload dX10_placeFor_55 rfl rfl ?_
      refine zJ_if_eq (tgt := 64) dX10_placeFor_57 (by decide) rfl (fun hc => ?_) (fun hc => ?_)
      · exact absurd hc (by decide)
      · refine zJ_iconst dX10_placeFor_60 zc_1 rfl ?_
        refine zJ_goto (tgt := 65) dX10_placeFor_61 (by decide) ?_
        refine zJ_iadd dX10_placeFor_65 rfl ?_
        obtain ⟨v3n1, ev3n1, h⟩ := lt1_some h
        refine zJ_nmi ev3n1 ?_
        refine zJ_istore_n (ls' := [(3, .int v3n1), (5, .int (1 : Int32)), (0, .ref 20), (1, .int p1), (2, .int p2), (4, .int v4_5)]) dX10_placeFor_66 rfl rfl rfl ?_
        obtain ⟨v4n2, ev4n2, h⟩ := lt1_some h
        refine zJ_iincN (ls' := [(4, .int v4n2), (3, .int v3n1), (5, .int (1 : Int32)), (0, .ref 20), (1, .int p1), (2, .int p2)]) dX10_placeFor_67 rfl rfl zc_1 ev4n2 rfl rfl ?_
        refine zJ_goto (tgt := 5) dX10_placeFor_70 (by decide) ?_
        refine zJ_loc (ls' := [(0, .ref 20), (1, .int p1), (2, .int p2), (3, .int v3n1), (4, .int v4n2)]) (zll_c rfl (zll_c rfl (zll_c rfl (zll_c rfl (zll_c rfl zll_n))))) ?_
        exact hrc5 _ _ h
    · replace h := it_f hc h
      refine zJ_aload_n dX10_placeFor_25 rfl rfl ?_
      refine zJ_getr (mi := mX10_placeFor) dX10_placeFor_26 F_X10_18 zW_20 rfl rfl ?_
      refine zJ_iload dX10_placeFor_29 rfl rfl ?_
      obtain ⟨hg, h⟩ := gd_some h
      refine zJ_iald (mi := mX10_placeFor) (f := rounds_faults) dX10_placeFor_31 zW_23 (ix_in hg) rfl rfl ?_
      refine zJ_iload_n dX10_placeFor_32 rfl rfl ?_
      refine zJ_icmp_ne (tgt := 51) dX10_placeFor_33 (by decide) rfl (fun hc => ?_) (fun hc => ?_)
      · replace h := it_f hc h
        refine zJ_iconst dX10_placeFor_51 zc_0 rfl ?_
        refine zJ_istore (ls' := [(5, .int (0 : Int32)), (0, .ref 20), (1, .int p1), (2, .int p2), (3, .int v3_5), (4, .int v4_5)]) dX10_placeFor_52 rfl rfl rfl ?_
        refine zJ_iload_n dX10_placeFor_54 rfl rfl ?_
        refine zJ_iload dX10_placeFor_55 rfl rfl ?_
        refine zJ_if_eq (tgt := 64) dX10_placeFor_57 (by decide) rfl (fun hc => ?_) (fun hc => ?_)
        · refine zJ_iconst dX10_placeFor_64 zc_0 rfl ?_
          refine zJ_iadd dX10_placeFor_65 rfl ?_
          obtain ⟨v3n3, ev3n3, h⟩ := lt1_some h
          refine zJ_nmi ev3n3 ?_
          refine zJ_istore_n (ls' := [(3, .int v3n3), (5, .int (0 : Int32)), (0, .ref 20), (1, .int p1), (2, .int p2), (4, .int v4_5)]) dX10_placeFor_66 rfl rfl rfl ?_
          obtain ⟨v4n4, ev4n4, h⟩ := lt1_some h
          refine zJ_iincN (ls' := [(4, .int v4n4), (3, .int v3n3), (5, .int (0 : Int32)), (0, .ref 20), (1, .int p1), (2, .int p2)]) dX10_placeFor_67 rfl rfl zc_1 ev4n4 rfl rfl ?_
          refine zJ_goto (tgt := 5) dX10_placeFor_70 (by decide) ?_
          refine zJ_loc (ls' := [(0, .ref 20), (1, .int p1), (2, .int p2), (3, .int v3n3), (4, .int v4n4)]) (zll_c rfl (zll_c rfl (zll_c rfl (zll_c rfl (zll_c rfl zll_n))))) ?_
          exact hrc5 _ _ h
        · exact absurd hc (by decide)
      · replace h := it_t hc h
        refine zJ_aload_n dX10_placeFor_36 rfl rfl ?_
        refine zJ_getr (mi := mX10_placeFor) dX10_placeFor_37 F_X10_21 zW_20 rfl rfl ?_
        refine zJ_iload dX10_placeFor_40 rfl rfl ?_
        obtain ⟨hg, h⟩ := gd_some h
        refine zJ_iald (mi := mX10_placeFor) (f := rounds_tenths) dX10_placeFor_42 zW_24 (ix_in hg) rfl rfl ?_
        refine zJ_iload_n dX10_placeFor_43 rfl rfl ?_
        refine zJ_icmp_gt (tgt := 51) dX10_placeFor_44 (by decide) rfl (fun hc => ?_) (fun hc => ?_)
        · replace h := it_t hc h
          refine zJ_iconst dX10_placeFor_51 zc_0 rfl ?_
          refine zJ_istore (ls' := [(5, .int (0 : Int32)), (0, .ref 20), (1, .int p1), (2, .int p2), (3, .int v3_5), (4, .int v4_5)]) dX10_placeFor_52 rfl rfl rfl ?_
          refine zJ_iload_n dX10_placeFor_54 rfl rfl ?_
          refine zJ_iload dX10_placeFor_55 rfl rfl ?_
          refine zJ_if_eq (tgt := 64) dX10_placeFor_57 (by decide) rfl (fun hc => ?_) (fun hc => ?_)
          · refine zJ_iconst dX10_placeFor_64 zc_0 rfl ?_
            refine zJ_iadd dX10_placeFor_65 rfl ?_
            obtain ⟨v3n5, ev3n5, h⟩ := lt1_some h
            refine zJ_nmi ev3n5 ?_
            refine zJ_istore_n (ls' := [(3, .int v3n5), (5, .int (0 : Int32)), (0, .ref 20), (1, .int p1), (2, .int p2), (4, .int v4_5)]) dX10_placeFor_66 rfl rfl rfl ?_
            obtain ⟨v4n6, ev4n6, h⟩ := lt1_some h
            refine zJ_iincN (ls' := [(4, .int v4n6), (3, .int v3n5), (5, .int (0 : Int32)), (0, .ref 20), (1, .int p1), (2, .int p2)]) dX10_placeFor_67 rfl rfl zc_1 ev4n6 rfl rfl ?_
            refine zJ_goto (tgt := 5) dX10_placeFor_70 (by decide) ?_
            refine zJ_loc (ls' := [(0, .ref 20), (1, .int p1), (2, .int p2), (3, .int v3n5), (4, .int v4n6)]) (zll_c rfl (zll_c rfl (zll_c rfl (zll_c rfl (zll_c rfl zll_n))))) ?_
            exact hrc5 _ _ h
          · exact absurd hc (by decide)
        · replace h := it_f hc h
          refine zJ_iconst dX10_placeFor_47 zc_1 rfl ?_
          refine zJ_goto (tgt := 52) dX10_placeFor_48 (by decide) ?_
          refine zJ_istore (ls' := [(5, .int (1 : Int32)), (0, .ref 20), (1, .int p1), (2, .int p2), (3, .int v3_5), (4, .int v4_5)]) dX10_placeFor_52 rfl rfl rfl ?_
          refine zJ_iload_n dX10_placeFor_54 rfl rfl ?_
          refine zJ_iload dX10_placeFor_55 rfl rfl ?_
          refine zJ_if_eq (tgt := 64) dX10_placeFor_57 (by decide) rfl (fun hc => ?_) (fun hc => ?_)
          · exact absurd hc (by decide)
          · refine zJ_iconst dX10_placeFor_60 zc_1 rfl ?_
            refine zJ_goto (tgt := 65) dX10_placeFor_61 (by decide) ?_
            refine zJ_iadd dX10_placeFor_65 rfl ?_
            obtain ⟨v3n7, ev3n7, h⟩ := lt1_some h
            refine zJ_nmi ev3n7 ?_
            refine zJ_istore_n (ls' := [(3, .int v3n7), (5, .int (1 : Int32)), (0, .ref 20), (1, .int p1), (2, .int p2), (4, .int v4_5)]) dX10_placeFor_66 rfl rfl rfl ?_
            obtain ⟨v4n8, ev4n8, h⟩ := lt1_some h
            refine zJ_iincN (ls' := [(4, .int v4n8), (3, .int v3n7), (5, .int (1 : Int32)), (0, .ref 20), (1, .int p1), (2, .int p2)]) dX10_placeFor_67 rfl rfl zc_1 ev4n8 rfl rfl ?_
            refine zJ_goto (tgt := 5) dX10_placeFor_70 (by decide) ?_
            refine zJ_loc (ls' := [(0, .ref 20), (1, .int p1), (2, .int p2), (3, .int v3n7), (4, .int v4n8)]) (zll_c rfl (zll_c rfl (zll_c rfl (zll_c rfl (zll_c rfl zll_n))))) ?_
            exact hrc5 _ _ h
set_option maxRecDepth 100000 in
set_option maxHeartbeats 4000000 in
theorem t_X10_placeOf_newFaults (l : Launch) (σ : zS) {p1 : Int32} {rounds_size : Int32} {rounds_tenths : (Nat → Int32)} {newFaults : (Nat → Int32)} {r : Int32} (h : f_X10_placeOf_newFaults p1 rounds_size rounds_tenths newFaults = some r) : zMt l zW 0 mX10_placeOf σ ([(1284, rounds_size)], [(24, rounds_tenths), (53, newFaults)], []) [.ref 20, .int p1, .ref 53] (some (.int r)) ([(1284, rounds_size)], [(24, rounds_tenths), (53, newFaults)], []) := by
  refine zMt_of (ls := [(0, .ref 20), (1, .int p1), (2, .ref 53)]) (by decide) rfl (fun _ => Nat.le_of_ble_eq_true rfl) rfl ?_
  unfold f_X10_placeOf_newFaults at h
  refine zJ_iconst dX10_placeOf_0 zc_1 rfl ?_
  refine zJ_istore_n (ls' := [(3, .int (1 : Int32)), (0, .ref 20), (1, .int p1), (2, .ref 53)]) dX10_placeOf_1 rfl rfl rfl ?_
  refine zJ_iconst dX10_placeOf_2 zc_0 rfl ?_
  refine zJ_istore (ls' := [(4, .int (0 : Int32)), (3, .int (1 : Int32)), (0, .ref 20), (1, .int p1), (2, .ref 53)]) dX10_placeOf_3 rfl rfl rfl ?_
  have hk5 : ∀ (v3_5x : Int32), k_X10_placeOf_newFaults_5  v3_5x = some r → zJ l zW 0 mX10_placeOf σ ([(1284, rounds_size)], [(24, rounds_tenths), (53, newFaults)], []) 108 [(3, .int v3_5x)] [] (some (.int r)) ([(1284, rounds_size)], [(24, rounds_tenths), (53, newFaults)], []) := by
    intro v3_5x h
    unfold k_X10_placeOf_newFaults_5 at h
    refine zJ_iload_n dX10_placeOf_108 rfl rfl ?_
    obtain rfl := so1 h
    exact zJ_iret dX10_placeOf_109 rfl rfl
  refine zJ_loc (ls' := [(0, .ref 20), (1, .int p1), (2, .ref 53), (3, .int (1 : Int32)), (4, .int (0 : Int32))]) (zll_c rfl (zll_c rfl (zll_c rfl (zll_c rfl (zll_c rfl zll_n))))) ?_
  refine ml2_J (fun (v3_5 : Int32) (v4_5 : Int32) => zJ l zW 0 mX10_placeOf σ ([(1284, rounds_size)], [(24, rounds_tenths), (53, newFaults)], []) 5 [(0, .ref 20), (1, .int p1), (2, .ref 53), (3, .int v3_5), (4, .int v4_5)] [] (some (.int r)) ([(1284, rounds_size)], [(24, rounds_tenths), (53, newFaults)], [])) (fun rc5 hrc5 v3_5 v4_5 h => ?_) zN _ _ h
  unfold s_X10_placeOf_newFaults_5 at h
  refine zJ_iload dX10_placeOf_5 rfl rfl ?_
  refine zJ_aload_n dX10_placeOf_7 rfl rfl ?_
  refine zJ_geti (mi := mX10_placeOf) (x := rounds_size) dX10_placeOf_8 F_X10_64 zW_20 rfl rfl rfl ?_
  refine zJ_icmp_ge (tgt := 108) dX10_placeOf_11 (by decide) rfl (fun hc => ?_) (fun hc => ?_)
  · replace h := it_t hc h
    refine zJ_loc (ls' := [(3, .int v3_5)]) (zll_c rfl zll_n) ?_
    exact hk5 _ h
  · replace h := it_f hc h
    refine zJ_aload_n dX10_placeOf_14 rfl rfl ?_
    refine zJ_iload dX10_placeOf_15 rfl rfl ?_
    obtain ⟨hg, h⟩ := gd_some h
    refine zJ_iald (mi := mX10_placeOf) (f := newFaults) dX10_placeOf_17 zW_53 (ix_in hg) rfl rfl ?_
    refine zJ_aload_n dX10_placeOf_18 rfl rfl ?_
    refine zJ_iload_n dX10_placeOf_19 rfl rfl ?_
    obtain ⟨hg, h⟩ := gd_some h
    refine zJ_iald (mi := mX10_placeOf) (f := newFaults) dX10_placeOf_20 zW_53 (ix_in hg) rfl rfl ?_
    refine zJ_icmp_eq (tgt := 45) dX10_placeOf_21 (by decide) rfl (fun hc => ?_) (fun hc => ?_)
    · replace h := it_t hc h
      refine zJ_aload_n dX10_placeOf_45 rfl rfl ?_
      refine zJ_getr (mi := mX10_placeOf) dX10_placeOf_46 F_X10_21 zW_20 rfl rfl ?_
      refine zJ_iload dX10_placeOf_49 rfl rfl ?_
      obtain ⟨hg, h⟩ := gd_some h
      refine zJ_iald (mi := mX10_placeOf) (f := rounds_tenths) dX10_placeOf_51 zW_24 (ix_in hg) rfl rfl ?_
      refine zJ_aload_n dX10_placeOf_52 rfl rfl ?_
      refine zJ_getr (mi := mX10_placeOf) dX10_placeOf_53 F_X10_21 zW_20 rfl rfl ?_
      refine zJ_iload_n dX10_placeOf_56 rfl rfl ?_
      obtain ⟨hg, h⟩ := gd_some h
      refine zJ_iald (mi := mX10_placeOf) (f := rounds_tenths) dX10_placeOf_57 zW_24 (ix_in hg) rfl rfl ?_
      refine zJ_icmp_eq (tgt := 88) dX10_placeOf_58 (by decide) rfl (fun hc => ?_) (fun hc => ?_)
      · replace h := it_t hc h
        refine zJ_iload_n dX10_placeOf_88 rfl rfl ?_
        refine zJ_iload dX10_placeOf_89 rfl rfl ?_
        refine zJ_iload_n dX10_placeOf_91 rfl rfl ?_
        refine zJ_icmp_ge (tgt := 99) dX10_placeOf_92 (by decide) rfl (fun hc => ?_) (fun hc => ?_)
        · replace h := it_t hc h
          refine zJ_iconst dX10_placeOf_99 zc_0 rfl ?_
          refine zJ_iadd dX10_placeOf_100 rfl ?_
          obtain ⟨v3n1, ev3n1, h⟩ := lt1_some h
          refine zJ_nmi ev3n1 ?_
          refine zJ_istore_n (ls' := [(3, .int v3n1), (0, .ref 20), (1, .int p1), (2, .ref 53), (4, .int v4_5)]) dX10_placeOf_101 rfl rfl rfl ?_
          obtain ⟨v4n2, ev4n2, h⟩ := lt1_some h
          refine zJ_iincN (ls' := [(4, .int v4n2), (3, .int v3n1), (0, .ref 20), (1, .int p1), (2, .ref 53)]) dX10_placeOf_102 rfl rfl zc_1 ev4n2 rfl rfl ?_
          refine zJ_goto (tgt := 5) dX10_placeOf_105 (by decide) ?_
          refine zJ_loc (ls' := [(0, .ref 20), (1, .int p1), (2, .ref 53), (3, .int v3n1), (4, .int v4n2)]) (zll_c rfl (zll_c rfl (zll_c rfl (zll_c rfl (zll_c rfl zll_n))))) ?_
          exact hrc5 _ _ h
        · replace h := it_f hc h
          refine zJ_iconst dX10_placeOf_95 zc_1 rfl ?_
          refine zJ_goto (tgt := 100) dX10_placeOf_96 (by decide) ?_
          refine zJ_iadd dX10_placeOf_100 rfl ?_
          obtain ⟨v3n3, ev3n3, h⟩ := lt1_some h
          refine zJ_nmi ev3n3 ?_
          refine zJ_istore_n (ls' := [(3, .int v3n3), (0, .ref 20), (1, .int p1), (2, .ref 53), (4, .int v4_5)]) dX10_placeOf_101 rfl rfl rfl ?_
          obtain ⟨v4n4, ev4n4, h⟩ := lt1_some h
          refine zJ_iincN (ls' := [(4, .int v4n4), (3, .int v3n3), (0, .ref 20), (1, .int p1), (2, .ref 53)]) dX10_placeOf_102 rfl rfl zc_1 ev4n4 rfl rfl ?_
          refine zJ_goto (tgt := 5) dX10_placeOf_105 (by decide) ?_
          refine zJ_loc (ls' := [(0, .ref 20), (1, .int p1), (2, .ref 53), (3, .int v3n3), (4, .int v4n4)]) (zll_c rfl (zll_c rfl (zll_c rfl (zll_c rfl (zll_c rfl zll_n))))) ?_
          exact hrc5 _ _ h
      · replace h := it_f hc h
        refine zJ_iload_n dX10_placeOf_61 rfl rfl ?_
        refine zJ_aload_n dX10_placeOf_62 rfl rfl ?_
        refine zJ_getr (mi := mX10_placeOf) dX10_placeOf_63 F_X10_21 zW_20 rfl rfl ?_
        refine zJ_iload dX10_placeOf_66 rfl rfl ?_
        obtain ⟨hg, h⟩ := gd_some h
        refine zJ_iald (mi := mX10_placeOf) (f := rounds_tenths) dX10_placeOf_68 zW_24 (ix_in hg) rfl rfl ?_
        refine zJ_aload_n dX10_placeOf_69 rfl rfl ?_
        refine zJ_getr (mi := mX10_placeOf) dX10_placeOf_70 F_X10_21 zW_20 rfl rfl ?_
        refine zJ_iload_n dX10_placeOf_73 rfl rfl ?_
        obtain ⟨hg, h⟩ := gd_some h
        refine zJ_iald (mi := mX10_placeOf) (f := rounds_tenths) dX10_placeOf_74 zW_24 (ix_in hg) rfl rfl ?_
        refine zJ_icmp_ge (tgt := 82) dX10_placeOf_75 (by decide) rfl (fun hc => ?_) (fun hc => ?_)
        · replace h := it_t hc h
          refine zJ_iconst dX10_placeOf_82 zc_0 rfl ?_
          refine zJ_iadd dX10_placeOf_83 rfl ?_
          obtain ⟨v3n5, ev3n5, h⟩ := lt1_some h
          refine zJ_nmi ev3n5 ?_
          refine zJ_istore_n (ls' := [(3, .int v3n5), (0, .ref 20), (1, .int p1), (2, .ref 53), (4, .int v4_5)]) dX10_placeOf_84 rfl rfl rfl ?_
          refine zJ_goto (tgt := 102) dX10_placeOf_85 (by decide) ?_
          obtain ⟨v4n6, ev4n6, h⟩ := lt1_some h
          refine zJ_iincN (ls' := [(4, .int v4n6), (3, .int v3n5), (0, .ref 20), (1, .int p1), (2, .ref 53)]) dX10_placeOf_102 rfl rfl zc_1 ev4n6 rfl rfl ?_
          refine zJ_goto (tgt := 5) dX10_placeOf_105 (by decide) ?_
          refine zJ_loc (ls' := [(0, .ref 20), (1, .int p1), (2, .ref 53), (3, .int v3n5), (4, .int v4n6)]) (zll_c rfl (zll_c rfl (zll_c rfl (zll_c rfl (zll_c rfl zll_n))))) ?_
          exact hrc5 _ _ h
        · replace h := it_f hc h
          refine zJ_iconst dX10_placeOf_78 zc_1 rfl ?_
          refine zJ_goto (tgt := 83) dX10_placeOf_79 (by decide) ?_
          refine zJ_iadd dX10_placeOf_83 rfl ?_
          obtain ⟨v3n7, ev3n7, h⟩ := lt1_some h
          refine zJ_nmi ev3n7 ?_
          refine zJ_istore_n (ls' := [(3, .int v3n7), (0, .ref 20), (1, .int p1), (2, .ref 53), (4, .int v4_5)]) dX10_placeOf_84 rfl rfl rfl ?_
          refine zJ_goto (tgt := 102) dX10_placeOf_85 (by decide) ?_
          obtain ⟨v4n8, ev4n8, h⟩ := lt1_some h
          refine zJ_iincN (ls' := [(4, .int v4n8), (3, .int v3n7), (0, .ref 20), (1, .int p1), (2, .ref 53)]) dX10_placeOf_102 rfl rfl zc_1 ev4n8 rfl rfl ?_
          refine zJ_goto (tgt := 5) dX10_placeOf_105 (by decide) ?_
          refine zJ_loc (ls' := [(0, .ref 20), (1, .int p1), (2, .ref 53), (3, .int v3n7), (4, .int v4n8)]) (zll_c rfl (zll_c rfl (zll_c rfl (zll_c rfl (zll_c rfl zll_n))))) ?_
          exact hrc5 _ _ h
    · replace h := it_f hc h
      refine zJ_iload_n dX10_placeOf_24 rfl rfl ?_
      refine zJ_aload_n dX10_placeOf_25 rfl rfl ?_
      refine zJ_iload dX10_placeOf_26 rfl rfl ?_
      obtain ⟨hg, h⟩ := gd_some h
      refine zJ_iald (mi := mX10_placeOf) (f := newFaults) dX10_placeOf_28 zW_53 (ix_in hg) rfl rfl ?_
      refine zJ_aload_n dX10_placeOf_29 rfl rfl ?_
      refine zJ_iload_n dX10_placeOf_30 rfl rfl ?_
      obtain ⟨hg, h⟩ := gd_some h
      refine zJ_iald (mi := mX10_placeOf) (f := newFaults) dX10_placeOf_31 zW_53 (ix_in hg) rfl rfl ?_
      refine zJ_icmp_ge (tgt := 39) dX10_placeOf_32 (by decide) rfl (fun hc => ?_) (fun hc => ?_)
      · replace h := it_t hc h
        refine zJ_iconst dX10_placeOf_39 zc_0 rfl ?_
        refine zJ_iadd dX10_placeOf_40 rfl ?_
        obtain ⟨v3n9, ev3n9, h⟩ := lt1_some h
        refine zJ_nmi ev3n9 ?_
        refine zJ_istore_n (ls' := [(3, .int v3n9), (0, .ref 20), (1, .int p1), (2, .ref 53), (4, .int v4_5)]) dX10_placeOf_41 rfl rfl rfl ?_
        refine zJ_goto (tgt := 102) dX10_placeOf_42 (by decide) ?_
        obtain ⟨v4n10, ev4n10, h⟩ := lt1_some h
        refine zJ_iincN (ls' := [(4, .int v4n10), (3, .int v3n9), (0, .ref 20), (1, .int p1), (2, .ref 53)]) dX10_placeOf_102 rfl rfl zc_1 ev4n10 rfl rfl ?_
        refine zJ_goto (tgt := 5) dX10_placeOf_105 (by decide) ?_
        refine zJ_loc (ls' := [(0, .ref 20), (1, .int p1), (2, .ref 53), (3, .int v3n9), (4, .int v4n10)]) (zll_c rfl (zll_c rfl (zll_c rfl (zll_c rfl (zll_c rfl zll_n))))) ?_
        exact hrc5 _ _ h
      · replace h := it_f hc h
        refine zJ_iconst dX10_placeOf_35 zc_1 rfl ?_
        refine zJ_goto (tgt := 40) dX10_placeOf_36 (by decide) ?_
        refine zJ_iadd dX10_placeOf_40 rfl ?_
        obtain ⟨v3n11, ev3n11, h⟩ := lt1_some h
        refine zJ_nmi ev3n11 ?_
        refine zJ_istore_n (ls' := [(3, .int v3n11), (0, .ref 20), (1, .int p1), (2, .ref 53), (4, .int v4_5)]) dX10_placeOf_41 rfl rfl rfl ?_
        refine zJ_goto (tgt := 102) dX10_placeOf_42 (by decide) ?_
        obtain ⟨v4n12, ev4n12, h⟩ := lt1_some h
        refine zJ_iincN (ls' := [(4, .int v4n12), (3, .int v3n11), (0, .ref 20), (1, .int p1), (2, .ref 53)]) dX10_placeOf_102 rfl rfl zc_1 ev4n12 rfl rfl ?_
        refine zJ_goto (tgt := 5) dX10_placeOf_105 (by decide) ?_
        refine zJ_loc (ls' := [(0, .ref 20), (1, .int p1), (2, .ref 53), (3, .int v3n11), (4, .int v4n12)]) (zll_c rfl (zll_c rfl (zll_c rfl (zll_c rfl (zll_c rfl zll_n))))) ?_
        exact hrc5 _ _ h
