set_option maxRecDepth 100000 in
set_option maxHeartbeats 4000000 in
theorem t_J6_bitCount_0f7a4 (l : Launch) (σ : zS) {p0 : Int32} {r : Int32} (h : f_J6_bitCount_0f7a4 p0 = some r) : zMt l zW 0 mJ6_bitCount_0f7a4 σ ([], [], []) [.int p0] (some (.int r)) ([], [], []) := by
  refine zMt_of (ls := [(0, .int p0)]) (by decide) rfl (fun _ => Nat.le_of_ble_eq_true rfl) rfl ?_
  unfold f_J6_bitCount_0f7a4 at h
  refine zJ_iload_n dJ6_bitCount_0f7a4_0 rfl rfl ?_
  refine zJ_iload_n dJ6_bitCount_0f7a4_1 rfl rfl ?_
  refine zJ_iconst dJ6_bitCount_0f7a4_2 zc_1 rfl ?_
  refine zJ_iushr dJ6_bitCount_0f7a4_3 rfl ?_
  refine zJ_ldc_w (v := 1431655765) dJ6_bitCount_0f7a4_4 C_J6_265 rfl ?_
  refine zJ_iand dJ6_bitCount_0f7a4_7 rfl ?_
  refine zJ_isub dJ6_bitCount_0f7a4_8 rfl ?_
  obtain ⟨v0n1, ev0n1, h⟩ := lt1_some h
  refine zJ_nmi ev0n1 ?_
  refine zJ_istore_n (ls' := [(0, .int v0n1)]) dJ6_bitCount_0f7a4_9 rfl rfl rfl ?_
  refine zJ_iload_n dJ6_bitCount_0f7a4_10 rfl rfl ?_
  refine zJ_ldc_w (v := 858993459) dJ6_bitCount_0f7a4_11 C_J6_266 rfl ?_
  refine zJ_iand dJ6_bitCount_0f7a4_14 rfl ?_
  refine zJ_iload_n dJ6_bitCount_0f7a4_15 rfl rfl ?_
  refine zJ_iconst dJ6_bitCount_0f7a4_16 zc_2 rfl ?_
  refine zJ_iushr dJ6_bitCount_0f7a4_17 rfl ?_
  refine zJ_ldc_w (v := 858993459) dJ6_bitCount_0f7a4_18 C_J6_266 rfl ?_
  refine zJ_iand dJ6_bitCount_0f7a4_21 rfl ?_
  refine zJ_iadd dJ6_bitCount_0f7a4_22 rfl ?_
  obtain ⟨v0n2, ev0n2, h⟩ := lt1_some h
  refine zJ_nmi ev0n2 ?_
  refine zJ_istore_n (ls' := [(0, .int v0n2)]) dJ6_bitCount_0f7a4_23 rfl rfl rfl ?_
  refine zJ_iload_n dJ6_bitCount_0f7a4_24 rfl rfl ?_
  refine zJ_iload_n dJ6_bitCount_0f7a4_25 rfl rfl ?_
  refine zJ_iconst dJ6_bitCount_0f7a4_26 zc_4 rfl ?_
  refine zJ_iushr dJ6_bitCount_0f7a4_27 rfl ?_
  refine zJ_iadd dJ6_bitCount_0f7a4_28 rfl ?_
  refine zJ_ldc_w (v := 252645135) dJ6_bitCount_0f7a4_29 C_J6_267 rfl ?_
  refine zJ_iand dJ6_bitCount_0f7a4_32 rfl ?_
  obtain ⟨v0n3, ev0n3, h⟩ := lt1_some h
  refine zJ_nmi ev0n3 ?_
  refine zJ_istore_n (ls' := [(0, .int v0n3)]) dJ6_bitCount_0f7a4_33 rfl rfl rfl ?_
  refine zJ_iload_n dJ6_bitCount_0f7a4_34 rfl rfl ?_
  refine zJ_iload_n dJ6_bitCount_0f7a4_35 rfl rfl ?_
  refine zJ_bipush dJ6_bitCount_0f7a4_36 zb_8 rfl ?_
  refine zJ_iushr dJ6_bitCount_0f7a4_38 rfl ?_
  refine zJ_iadd dJ6_bitCount_0f7a4_39 rfl ?_
  obtain ⟨v0n4, ev0n4, h⟩ := lt1_some h
  refine zJ_nmi ev0n4 ?_
  refine zJ_istore_n (ls' := [(0, .int v0n4)]) dJ6_bitCount_0f7a4_40 rfl rfl rfl ?_
  refine zJ_iload_n dJ6_bitCount_0f7a4_41 rfl rfl ?_
  refine zJ_iload_n dJ6_bitCount_0f7a4_42 rfl rfl ?_
  refine zJ_bipush dJ6_bitCount_0f7a4_43 zb_16 rfl ?_
  refine zJ_iushr dJ6_bitCount_0f7a4_45 rfl ?_
  refine zJ_iadd dJ6_bitCount_0f7a4_46 rfl ?_
  obtain ⟨v0n5, ev0n5, h⟩ := lt1_some h
  refine zJ_nmi ev0n5 ?_
  refine zJ_istore_n (ls' := [(0, .int v0n5)]) dJ6_bitCount_0f7a4_47 rfl rfl rfl ?_
  refine zJ_iload_n dJ6_bitCount_0f7a4_48 rfl rfl ?_
  refine zJ_bipush dJ6_bitCount_0f7a4_49 zb_63 rfl ?_
  refine zJ_iand dJ6_bitCount_0f7a4_51 rfl ?_
  cases h
  exact zJ_iret dJ6_bitCount_0f7a4_52 rfl rfl
set_option maxRecDepth 100000 in
set_option maxHeartbeats 4000000 in
theorem t_J7_fill_53178_course_counts (l : Launch) (σ : zS) {p1 : Int32} {course_counts : (Nat → Int32)} {w_course_counts : (Nat → Int32)} (h : f_J7_fill_53178_course_counts p1 course_counts = some w_course_counts) : zMt l zW 0 mJ7_fill_53178 σ ([], [(17, course_counts)], []) [.ref 17, .int p1] none ([], [(17, w_course_counts)], []) := by
  refine zMt_of (ls := [(0, .ref 17), (1, .int p1)]) (by decide) rfl (fun _ => Nat.le_of_ble_eq_true rfl) rfl ?_
  unfold f_J7_fill_53178_course_counts at h
  refine zJ_iconst dJ7_fill_53178_0 zc_0 rfl ?_
  refine zJ_istore_n (ls' := [(2, .int (0 : Int32)), (0, .ref 17), (1, .int p1)]) dJ7_fill_53178_1 rfl rfl rfl ?_
  refine zJ_aload_n dJ7_fill_53178_2 rfl rfl ?_
  refine zJ_alen (v := 80) dJ7_fill_53178_3 zW_17 (by decide) (by decide) rfl ?_
  refine zJ_istore_n (ls' := [(3, .int (80 : Int32)), (2, .int (0 : Int32)), (0, .ref 17), (1, .int p1)]) dJ7_fill_53178_4 rfl rfl rfl ?_
  have hk5 : ∀ (course_counts_5x : (Nat → Int32)), k_J7_fill_53178_course_counts_5  course_counts_5x = some w_course_counts → zJ l zW 0 mJ7_fill_53178 σ ([], [(17, course_counts_5x)], []) 20 [] [] none ([], [(17, w_course_counts)], []) := by
    intro course_counts_5x h
    unfold k_J7_fill_53178_course_counts_5 at h
    cases h
    exact zJ_vret dJ7_fill_53178_20 rfl
  refine zJ_loc (ls' := [(0, .ref 17), (1, .int p1), (2, .int (0 : Int32)), (3, .int (80 : Int32))]) (zll_c rfl (zll_c rfl (zll_c rfl (zll_c rfl zll_n)))) ?_
  refine ml2_J (fun (v2_5 : Int32) (course_counts_5 : (Nat → Int32)) => zJ l zW 0 mJ7_fill_53178 σ ([], [(17, course_counts_5)], []) 5 [(0, .ref 17), (1, .int p1), (2, .int v2_5), (3, .int (80 : Int32))] [] none ([], [(17, w_course_counts)], [])) (fun rc5 hrc5 v2_5 course_counts_5 h => ?_) zN _ _ h
  unfold s_J7_fill_53178_course_counts_5 at h
  refine zJ_iload_n dJ7_fill_53178_5 rfl rfl ?_
  refine zJ_iload_n dJ7_fill_53178_6 rfl rfl ?_
  refine zJ_icmp_ge (tgt := 20) dJ7_fill_53178_7 (by decide) rfl (fun hc => ?_) (fun hc => ?_)
  · replace h := it_t hc h
    refine zJ_loc (ls' := []) zll_n ?_
    exact hk5 _ h
  · replace h := it_f hc h
    refine zJ_aload_n dJ7_fill_53178_10 rfl rfl ?_
    refine zJ_iload_n dJ7_fill_53178_11 rfl rfl ?_
    refine zJ_iload_n dJ7_fill_53178_12 rfl rfl ?_
    obtain ⟨hg, h⟩ := gd_some h
    refine zK_iast (lb' := [(17, (upd course_counts_5 v2_5.toNatClampNeg p1))]) dJ7_fill_53178_13 zW_17 (ix_in hg) rfl rfl rfl ?_
    obtain ⟨v2n1, ev2n1, h⟩ := lt1_some h
    refine zJ_iincN (ls' := [(2, .int v2n1), (0, .ref 17), (1, .int p1), (3, .int (80 : Int32))]) dJ7_fill_53178_14 rfl rfl zc_1 ev2n1 rfl rfl ?_
    refine zJ_goto (tgt := 5) dJ7_fill_53178_17 (by decide) ?_
    refine zJ_loc (ls' := [(0, .ref 17), (1, .int p1), (2, .int v2n1), (3, .int (80 : Int32))]) (zll_c rfl (zll_c rfl (zll_c rfl (zll_c rfl zll_n)))) ?_
    exact hrc5 _ _ h
set_option maxRecDepth 100000 in
set_option maxHeartbeats 4000000 in
theorem t_J7_fill_53178_history_sizes (l : Launch) (σ : zS) {p1 : Int32} {history_sizes : (Nat → Int32)} {w_history_sizes : (Nat → Int32)} (h : f_J7_fill_53178_history_sizes p1 history_sizes = some w_history_sizes) : zMt l zW 0 mJ7_fill_53178 σ ([], [(29, history_sizes)], []) [.ref 29, .int p1] none ([], [(29, w_history_sizes)], []) := by
  refine zMt_of (ls := [(0, .ref 29), (1, .int p1)]) (by decide) rfl (fun _ => Nat.le_of_ble_eq_true rfl) rfl ?_
  unfold f_J7_fill_53178_history_sizes at h
  refine zJ_iconst dJ7_fill_53178_0 zc_0 rfl ?_
  refine zJ_istore_n (ls' := [(2, .int (0 : Int32)), (0, .ref 29), (1, .int p1)]) dJ7_fill_53178_1 rfl rfl rfl ?_
  refine zJ_aload_n dJ7_fill_53178_2 rfl rfl ?_
  refine zJ_alen (v := 13) dJ7_fill_53178_3 zW_29 (by decide) (by decide) rfl ?_
  refine zJ_istore_n (ls' := [(3, .int (13 : Int32)), (2, .int (0 : Int32)), (0, .ref 29), (1, .int p1)]) dJ7_fill_53178_4 rfl rfl rfl ?_
  have hk5 : ∀ (history_sizes_5x : (Nat → Int32)), k_J7_fill_53178_history_sizes_5  history_sizes_5x = some w_history_sizes → zJ l zW 0 mJ7_fill_53178 σ ([], [(29, history_sizes_5x)], []) 20 [] [] none ([], [(29, w_history_sizes)], []) := by
    intro history_sizes_5x h
    unfold k_J7_fill_53178_history_sizes_5 at h
    cases h
    exact zJ_vret dJ7_fill_53178_20 rfl
  refine zJ_loc (ls' := [(0, .ref 29), (1, .int p1), (2, .int (0 : Int32)), (3, .int (13 : Int32))]) (zll_c rfl (zll_c rfl (zll_c rfl (zll_c rfl zll_n)))) ?_
  refine ml2_J (fun (v2_5 : Int32) (history_sizes_5 : (Nat → Int32)) => zJ l zW 0 mJ7_fill_53178 σ ([], [(29, history_sizes_5)], []) 5 [(0, .ref 29), (1, .int p1), (2, .int v2_5), (3, .int (13 : Int32))] [] none ([], [(29, w_history_sizes)], [])) (fun rc5 hrc5 v2_5 history_sizes_5 h => ?_) zN _ _ h
  unfold s_J7_fill_53178_history_sizes_5 at h
  refine zJ_iload_n dJ7_fill_53178_5 rfl rfl ?_
  refine zJ_iload_n dJ7_fill_53178_6 rfl rfl ?_
  refine zJ_icmp_ge (tgt := 20) dJ7_fill_53178_7 (by decide) rfl (fun hc => ?_) (fun hc => ?_)
  · replace h := it_t hc h
    refine zJ_loc (ls' := []) zll_n ?_
    exact hk5 _ h
  · replace h := it_f hc h
    refine zJ_aload_n dJ7_fill_53178_10 rfl rfl ?_
    refine zJ_iload_n dJ7_fill_53178_11 rfl rfl ?_
    refine zJ_iload_n dJ7_fill_53178_12 rfl rfl ?_
    obtain ⟨hg, h⟩ := gd_some h
    refine zK_iast (lb' := [(29, (upd history_sizes_5 v2_5.toNatClampNeg p1))]) dJ7_fill_53178_13 zW_29 (ix_in hg) rfl rfl rfl ?_
    obtain ⟨v2n1, ev2n1, h⟩ := lt1_some h
    refine zJ_iincN (ls' := [(2, .int v2n1), (0, .ref 29), (1, .int p1), (3, .int (13 : Int32))]) dJ7_fill_53178_14 rfl rfl zc_1 ev2n1 rfl rfl ?_
    refine zJ_goto (tgt := 5) dJ7_fill_53178_17 (by decide) ?_
    refine zJ_loc (ls' := [(0, .ref 29), (1, .int p1), (2, .int v2n1), (3, .int (13 : Int32))]) (zll_c rfl (zll_c rfl (zll_c rfl (zll_c rfl zll_n)))) ?_
    exact hrc5 _ _ h
set_option maxRecDepth 100000 in
set_option maxHeartbeats 4000000 in
theorem t_J7_fill_53178_kept_sizes (l : Launch) (σ : zS) {p1 : Int32} {kept_sizes : (Nat → Int32)} {w_kept_sizes : (Nat → Int32)} (h : f_J7_fill_53178_kept_sizes p1 kept_sizes = some w_kept_sizes) : zMt l zW 0 mJ7_fill_53178 σ ([], [(32, kept_sizes)], []) [.ref 32, .int p1] none ([], [(32, w_kept_sizes)], []) := by
  refine zMt_of (ls := [(0, .ref 32), (1, .int p1)]) (by decide) rfl (fun _ => Nat.le_of_ble_eq_true rfl) rfl ?_
  unfold f_J7_fill_53178_kept_sizes at h
  refine zJ_iconst dJ7_fill_53178_0 zc_0 rfl ?_
  refine zJ_istore_n (ls' := [(2, .int (0 : Int32)), (0, .ref 32), (1, .int p1)]) dJ7_fill_53178_1 rfl rfl rfl ?_
  refine zJ_aload_n dJ7_fill_53178_2 rfl rfl ?_
  refine zJ_alen (v := 2) dJ7_fill_53178_3 zW_32 (by decide) (by decide) rfl ?_
  refine zJ_istore_n (ls' := [(3, .int (2 : Int32)), (2, .int (0 : Int32)), (0, .ref 32), (1, .int p1)]) dJ7_fill_53178_4 rfl rfl rfl ?_
  have hk5 : ∀ (kept_sizes_5x : (Nat → Int32)), k_J7_fill_53178_kept_sizes_5  kept_sizes_5x = some w_kept_sizes → zJ l zW 0 mJ7_fill_53178 σ ([], [(32, kept_sizes_5x)], []) 20 [] [] none ([], [(32, w_kept_sizes)], []) := by
    intro kept_sizes_5x h
    unfold k_J7_fill_53178_kept_sizes_5 at h
    cases h
    exact zJ_vret dJ7_fill_53178_20 rfl
  refine zJ_loc (ls' := [(0, .ref 32), (1, .int p1), (2, .int (0 : Int32)), (3, .int (2 : Int32))]) (zll_c rfl (zll_c rfl (zll_c rfl (zll_c rfl zll_n)))) ?_
  refine ml2_J (fun (v2_5 : Int32) (kept_sizes_5 : (Nat → Int32)) => zJ l zW 0 mJ7_fill_53178 σ ([], [(32, kept_sizes_5)], []) 5 [(0, .ref 32), (1, .int p1), (2, .int v2_5), (3, .int (2 : Int32))] [] none ([], [(32, w_kept_sizes)], [])) (fun rc5 hrc5 v2_5 kept_sizes_5 h => ?_) zN _ _ h
  unfold s_J7_fill_53178_kept_sizes_5 at h
  refine zJ_iload_n dJ7_fill_53178_5 rfl rfl ?_
  refine zJ_iload_n dJ7_fill_53178_6 rfl rfl ?_
  refine zJ_icmp_ge (tgt := 20) dJ7_fill_53178_7 (by decide) rfl (fun hc => ?_) (fun hc => ?_)
  · replace h := it_t hc h
    refine zJ_loc (ls' := []) zll_n ?_
    exact hk5 _ h
  · replace h := it_f hc h
    refine zJ_aload_n dJ7_fill_53178_10 rfl rfl ?_
    refine zJ_iload_n dJ7_fill_53178_11 rfl rfl ?_
    refine zJ_iload_n dJ7_fill_53178_12 rfl rfl ?_
    obtain ⟨hg, h⟩ := gd_some h
    refine zK_iast (lb' := [(32, (upd kept_sizes_5 v2_5.toNatClampNeg p1))]) dJ7_fill_53178_13 zW_32 (ix_in hg) rfl rfl rfl ?_
    obtain ⟨v2n1, ev2n1, h⟩ := lt1_some h
    refine zJ_iincN (ls' := [(2, .int v2n1), (0, .ref 32), (1, .int p1), (3, .int (2 : Int32))]) dJ7_fill_53178_14 rfl rfl zc_1 ev2n1 rfl rfl ?_
    refine zJ_goto (tgt := 5) dJ7_fill_53178_17 (by decide) ?_
    refine zJ_loc (ls' := [(0, .ref 32), (1, .int p1), (2, .int v2n1), (3, .int (2 : Int32))]) (zll_c rfl (zll_c rfl (zll_c rfl (zll_c rfl zll_n)))) ?_
    exact hrc5 _ _ h
set_option maxRecDepth 100000 in
set_option maxHeartbeats 4000000 in
theorem t_J7_fill_53178_rounds_draft (l : Launch) (σ : zS) {p1 : Int32} {rounds_draft : (Nat → Int32)} {w_rounds_draft : (Nat → Int32)} (h : f_J7_fill_53178_rounds_draft p1 rounds_draft = some w_rounds_draft) : zMt l zW 0 mJ7_fill_53178 σ ([], [(26, rounds_draft)], []) [.ref 26, .int p1] none ([], [(26, w_rounds_draft)], []) := by
  refine zMt_of (ls := [(0, .ref 26), (1, .int p1)]) (by decide) rfl (fun _ => Nat.le_of_ble_eq_true rfl) rfl ?_
  unfold f_J7_fill_53178_rounds_draft at h
  refine zJ_iconst dJ7_fill_53178_0 zc_0 rfl ?_
  refine zJ_istore_n (ls' := [(2, .int (0 : Int32)), (0, .ref 26), (1, .int p1)]) dJ7_fill_53178_1 rfl rfl rfl ?_
  refine zJ_aload_n dJ7_fill_53178_2 rfl rfl ?_
  refine zJ_alen (v := 6) dJ7_fill_53178_3 zW_26 (by decide) (by decide) rfl ?_
  refine zJ_istore_n (ls' := [(3, .int (6 : Int32)), (2, .int (0 : Int32)), (0, .ref 26), (1, .int p1)]) dJ7_fill_53178_4 rfl rfl rfl ?_
  have hk5 : ∀ (rounds_draft_5x : (Nat → Int32)), k_J7_fill_53178_rounds_draft_5  rounds_draft_5x = some w_rounds_draft → zJ l zW 0 mJ7_fill_53178 σ ([], [(26, rounds_draft_5x)], []) 20 [] [] none ([], [(26, w_rounds_draft)], []) := by
    intro rounds_draft_5x h
    unfold k_J7_fill_53178_rounds_draft_5 at h
    cases h
    exact zJ_vret dJ7_fill_53178_20 rfl
  refine zJ_loc (ls' := [(0, .ref 26), (1, .int p1), (2, .int (0 : Int32)), (3, .int (6 : Int32))]) (zll_c rfl (zll_c rfl (zll_c rfl (zll_c rfl zll_n)))) ?_
  refine ml2_J (fun (v2_5 : Int32) (rounds_draft_5 : (Nat → Int32)) => zJ l zW 0 mJ7_fill_53178 σ ([], [(26, rounds_draft_5)], []) 5 [(0, .ref 26), (1, .int p1), (2, .int v2_5), (3, .int (6 : Int32))] [] none ([], [(26, w_rounds_draft)], [])) (fun rc5 hrc5 v2_5 rounds_draft_5 h => ?_) zN _ _ h
  unfold s_J7_fill_53178_rounds_draft_5 at h
  refine zJ_iload_n dJ7_fill_53178_5 rfl rfl ?_
  refine zJ_iload_n dJ7_fill_53178_6 rfl rfl ?_
  refine zJ_icmp_ge (tgt := 20) dJ7_fill_53178_7 (by decide) rfl (fun hc => ?_) (fun hc => ?_)
  · replace h := it_t hc h
    refine zJ_loc (ls' := []) zll_n ?_
    exact hk5 _ h
  · replace h := it_f hc h
    refine zJ_aload_n dJ7_fill_53178_10 rfl rfl ?_
    refine zJ_iload_n dJ7_fill_53178_11 rfl rfl ?_
    refine zJ_iload_n dJ7_fill_53178_12 rfl rfl ?_
    obtain ⟨hg, h⟩ := gd_some h
    refine zK_iast (lb' := [(26, (upd rounds_draft_5 v2_5.toNatClampNeg p1))]) dJ7_fill_53178_13 zW_26 (ix_in hg) rfl rfl rfl ?_
    obtain ⟨v2n1, ev2n1, h⟩ := lt1_some h
    refine zJ_iincN (ls' := [(2, .int v2n1), (0, .ref 26), (1, .int p1), (3, .int (6 : Int32))]) dJ7_fill_53178_14 rfl rfl zc_1 ev2n1 rfl rfl ?_
    refine zJ_goto (tgt := 5) dJ7_fill_53178_17 (by decide) ?_
    refine zJ_loc (ls' := [(0, .ref 26), (1, .int p1), (2, .int v2n1), (3, .int (6 : Int32))]) (zll_c rfl (zll_c rfl (zll_c rfl (zll_c rfl zll_n)))) ?_
    exact hrc5 _ _ h
set_option maxRecDepth 100000 in
set_option maxHeartbeats 4000000 in
theorem t_J7_fill_d0a16_chances (l : Launch) (σ : zS) {p1 : Int64} {chances : (Nat → Int64)} {w_chances : (Nat → Int64)} (h : f_J7_fill_d0a16_chances p1 chances = some w_chances) : zMt l zW 0 mJ7_fill_d0a16 σ ([], [], [(52, chances)]) [.ref 52, .long p1] none ([], [], [(52, w_chances)]) := by
  refine zMt_of (ls := [(0, .ref 52), (1, .long p1)]) (by decide) rfl (fun _ => Nat.le_of_ble_eq_true rfl) rfl ?_
  unfold f_J7_fill_d0a16_chances at h
  refine zJ_iconst dJ7_fill_d0a16_0 zc_0 rfl ?_
  refine zJ_istore_n (ls' := [(3, .int (0 : Int32)), (0, .ref 52), (1, .long p1)]) dJ7_fill_d0a16_1 rfl rfl rfl ?_
  refine zJ_aload_n dJ7_fill_d0a16_2 rfl rfl ?_
  refine zJ_alen (v := 9) dJ7_fill_d0a16_3 zW_52 (by decide) (by decide) rfl ?_
  refine zJ_istore (ls' := [(4, .int (9 : Int32)), (3, .int (0 : Int32)), (0, .ref 52), (1, .long p1)]) dJ7_fill_d0a16_4 rfl rfl rfl ?_
  have hk6 : ∀ (chances_6x : (Nat → Int64)), k_J7_fill_d0a16_chances_6  chances_6x = some w_chances → zJ l zW 0 mJ7_fill_d0a16 σ ([], [], [(52, chances_6x)]) 22 [] [] none ([], [], [(52, w_chances)]) := by
    intro chances_6x h
    unfold k_J7_fill_d0a16_chances_6 at h
    cases h
    exact zJ_vret dJ7_fill_d0a16_22 rfl
  refine zJ_loc (ls' := [(0, .ref 52), (1, .long p1), (3, .int (0 : Int32)), (4, .int (9 : Int32))]) (zll_c rfl (zll_c rfl (zll_c rfl (zll_c rfl zll_n)))) ?_
  refine ml2_J (fun (v3_6 : Int32) (chances_6 : (Nat → Int64)) => zJ l zW 0 mJ7_fill_d0a16 σ ([], [], [(52, chances_6)]) 6 [(0, .ref 52), (1, .long p1), (3, .int v3_6), (4, .int (9 : Int32))] [] none ([], [], [(52, w_chances)])) (fun rc6 hrc6 v3_6 chances_6 h => ?_) zN _ _ h
  unfold s_J7_fill_d0a16_chances_6 at h
  refine zJ_iload_n dJ7_fill_d0a16_6 rfl rfl ?_
  refine zJ_iload dJ7_fill_d0a16_7 rfl rfl ?_
  refine zJ_icmp_ge (tgt := 22) dJ7_fill_d0a16_9 (by decide) rfl (fun hc => ?_) (fun hc => ?_)
  · replace h := it_t hc h
    refine zJ_loc (ls' := []) zll_n ?_
    exact hk6 _ h
  · replace h := it_f hc h
    refine zJ_aload_n dJ7_fill_d0a16_12 rfl rfl ?_
    refine zJ_iload_n dJ7_fill_d0a16_13 rfl rfl ?_
    refine zJ_lload_n dJ7_fill_d0a16_14 rfl rfl ?_
    obtain ⟨hg, h⟩ := gd_some h
    refine zK_last (lc' := [(52, (vp_updL chances_6 v3_6.toNatClampNeg p1))]) dJ7_fill_d0a16_15 zW_52 (ix_in hg) rfl rfl rfl ?_
    obtain ⟨v3n1, ev3n1, h⟩ := lt1_some h
    refine zJ_iincN (ls' := [(3, .int v3n1), (0, .ref 52), (1, .long p1), (4, .int (9 : Int32))]) dJ7_fill_d0a16_16 rfl rfl zc_1 ev3n1 rfl rfl ?_
    refine zJ_goto (tgt := 6) dJ7_fill_d0a16_19 (by decide) ?_
    refine zJ_loc (ls' := [(0, .ref 52), (1, .long p1), (3, .int v3n1), (4, .int (9 : Int32))]) (zll_c rfl (zll_c rfl (zll_c rfl (zll_c rfl zll_n)))) ?_
    exact hrc6 _ _ h
set_option maxRecDepth 100000 in
set_option maxHeartbeats 4000000 in
theorem t_J9_abs_067f4 (l : Launch) (σ : zS) {p0 : Int64} {r : Int64} (h : f_J9_abs_067f4 p0 = some r) : zMt l zW 0 mJ9_abs_067f4 σ ([], [], []) [.long p0] (some (.long r)) ([], [], []) := by
  refine zMt_of (ls := [(0, .long p0)]) (by decide) rfl (fun _ => Nat.le_of_ble_eq_true rfl) rfl ?_
  unfold f_J9_abs_067f4 at h
  refine zJ_lload_n dJ9_abs_067f4_0 rfl rfl ?_
  refine zJ_lconst dJ9_abs_067f4_1 zl_0 rfl ?_
  refine zJ_lcmp dJ9_abs_067f4_2 rfl ?_
  refine zJ_if_ge (tgt := 11) dJ9_abs_067f4_3 (by decide) rfl (fun hc => ?_) (fun hc => ?_)
  · replace h := it_t hc h
    refine zJ_lload_n dJ9_abs_067f4_11 rfl rfl ?_
    cases h
    exact zJ_lret dJ9_abs_067f4_12 rfl
  · replace h := it_f hc h
    refine zJ_lload_n dJ9_abs_067f4_6 rfl rfl ?_
    refine zJ_lneg dJ9_abs_067f4_7 rfl ?_
    refine zJ_goto (tgt := 12) dJ9_abs_067f4_8 (by decide) ?_
    cases h
    exact zJ_lret dJ9_abs_067f4_12 rfl
set_option maxRecDepth 100000 in
set_option maxHeartbeats 4000000 in
theorem t_X9_digit (l : Launch) (σ : zS) {p1 : Int32} {p2 : Int32} {text_limit : Int32} {text_at : Int32} {text_signs : (Nat → Int32)} {r : Int32} {w_text_at : Int32} (h : f_X9_digit p1 p2 text_limit text_at text_signs = some (r, w_text_at)) : zMt l zW 0 mX9_digit σ ([(66, text_limit), (67, text_at)], [(2, text_signs)], []) [.ref 1, .int p1, .int p2] (some (.int r)) ([(66, text_limit), (67, w_text_at)], [(2, text_signs)], []) := by
  refine zMt_of (ls := [(0, .ref 1), (1, .int p1), (2, .int p2)]) (by decide) rfl (fun _ => Nat.le_of_ble_eq_true rfl) rfl ?_
  unfold f_X9_digit at h
  refine zJ_aload_n dX9_digit_0 rfl rfl ?_
  refine zJ_geti dX9_digit_1 F_X9_19 zW_1 rfl rfl rfl ?_
  refine zJ_aload_n dX9_digit_4 rfl rfl ?_
  refine zJ_geti dX9_digit_5 F_X9_28 zW_1 rfl rfl rfl ?_
  refine zJ_icmp_ge (tgt := 43) dX9_digit_8 (by decide) rfl (fun hc => ?_) (fun hc => ?_)
  · replace h := it_t hc h
    refine zJ_iconst dX9_digit_43 zc_m1 rfl ?_
    cases h
    exact zJ_iret dX9_digit_44 rfl rfl
  · replace h := it_f hc h
    refine zJ_aload_n dX9_digit_11 rfl rfl ?_
    refine zJ_getr dX9_digit_12 F_X9_9 zW_1 rfl rfl ?_
    refine zJ_aload_n dX9_digit_15 rfl rfl ?_
    refine zJ_geti dX9_digit_16 F_X9_19 zW_1 rfl rfl rfl ?_
    obtain ⟨hg, h⟩ := gd_some h
    refine zJ_cald dX9_digit_19 zW_2 (ix_in hg) rfl rfl ?_
    refine zJ_bipush dX9_digit_20 zb_48 rfl ?_
    refine zJ_isub dX9_digit_22 rfl ?_
    refine zJ_iload_n dX9_digit_23 rfl rfl ?_
    refine zJ_icmp_lt (tgt := 43) dX9_digit_24 (by decide) rfl (fun hc => ?_) (fun hc => ?_)
    · replace h := it_t hc h
      refine zJ_iconst dX9_digit_43 zc_m1 rfl ?_
      cases h
      exact zJ_iret dX9_digit_44 rfl rfl
    · replace h := it_f hc h
      refine zJ_aload_n dX9_digit_27 rfl rfl ?_
      refine zJ_getr dX9_digit_28 F_X9_9 zW_1 rfl rfl ?_
      refine zJ_aload_n dX9_digit_31 rfl rfl ?_
      refine zJ_geti dX9_digit_32 F_X9_19 zW_1 rfl rfl rfl ?_
      obtain ⟨hg, h⟩ := gd_some h
      refine zJ_cald dX9_digit_35 zW_2 (ix_in hg) rfl rfl ?_
      refine zJ_bipush dX9_digit_36 zb_48 rfl ?_
      refine zJ_isub dX9_digit_38 rfl ?_
      refine zJ_iload_n dX9_digit_39 rfl rfl ?_
      refine zJ_icmp_le (tgt := 45) dX9_digit_40 (by decide) rfl (fun hc => ?_) (fun hc => ?_)
      · replace h := it_t hc h
        refine zJ_aload_n dX9_digit_45 rfl rfl ?_
        refine zJ_dup dX9_digit_46 rfl rfl ?_
        refine zJ_geti dX9_digit_47 F_X9_19 zW_1 rfl rfl rfl ?_
        refine zJ_iconst dX9_digit_50 zc_1 rfl ?_
        refine zJ_iadd dX9_digit_51 rfl ?_
        refine zK_puti (la' := [(66, text_limit), (67, (text_at + (1 : Int32)))]) zW_ok dX9_digit_52 F_X9_19 P_9_3 zW_1 rfl rfl rfl ?_
        refine zJ_aload_n dX9_digit_55 rfl rfl ?_
        refine zJ_getr dX9_digit_56 F_X9_9 zW_1 rfl rfl ?_
        refine zJ_aload_n dX9_digit_59 rfl rfl ?_
        refine zJ_geti dX9_digit_60 F_X9_19 zW_1 rfl rfl rfl ?_
        refine zJ_iconst dX9_digit_63 zc_1 rfl ?_
        refine zJ_isub dX9_digit_64 rfl ?_
        obtain ⟨hg, h⟩ := gd_some h
        refine zJ_cald dX9_digit_65 zW_2 (ix_in hg) rfl rfl ?_
        refine zJ_bipush dX9_digit_66 zb_48 rfl ?_
        refine zJ_isub dX9_digit_68 rfl ?_
        cases h
        exact zJ_iret dX9_digit_69 rfl rfl
      · replace h := it_f hc h
        refine zJ_iconst dX9_digit_43 zc_m1 rfl ?_
        cases h
        exact zJ_iret dX9_digit_44 rfl rfl
set_option maxRecDepth 100000 in
set_option maxHeartbeats 4000000 in
theorem t_X0_readPair (l : Launch) (σ : zS) {text_limit : Int32} {text_at : Int32} {act_rider : Int32} {act_horse : Int32} {text_signs : (Nat → Int32)} {r : Int32} {w_text_at : Int32} {w_act_rider : Int32} {w_act_horse : Int32} (h : f_X0_readPair text_limit text_at act_rider act_horse text_signs = some (r, w_text_at, w_act_rider, w_act_horse)) : zMt l zW 1 mX0_readPair σ ([(66, text_limit), (67, text_at), (3073, act_rider), (3074, act_horse)], [(2, text_signs)], []) [.ref 48, .ref 1] (some (.int r)) ([(66, text_limit), (67, w_text_at), (3073, w_act_rider), (3074, w_act_horse)], [(2, text_signs)], []) := by
  refine zMt_of (ls := [(0, .ref 48), (1, .ref 1)]) (by decide) rfl (fun _ => Nat.le_of_ble_eq_true rfl) rfl ?_
  unfold f_X0_readPair at h
  refine zJ_aload_n dX0_readPair_0 rfl rfl ?_
  refine zJ_aload_n dX0_readPair_1 rfl rfl ?_
  refine zJ_iconst dX0_readPair_2 zc_0 rfl ?_
  refine zJ_bipush dX0_readPair_3 zb_9 rfl ?_
  obtain ⟨rn1, text_atn2, hcl, h⟩ := bd2_some h
  refine zJ_callV (yi := mX9_digit) (as := [.int (0 : Int32), .int (9 : Int32)]) (st := [.ref 48]) (L2 := ([(66, text_limit), (67, text_atn2), (3073, act_rider), (3074, act_horse)], [(2, text_signs)], [])) dX0_readPair_5 ML_X0_46 Yv_X9_digit rfl zW_1 rfl rfl (t_X9_digit l _ hcl) (zsub_i (zle_c rfl (zle_c rfl zle_n)) (zle_c rfl zle_n) zle_n) rfl (Nat.le_of_ble_eq_true rfl) (Nat.le_of_ble_eq_true rfl) rfl rfl ?_
  refine zK_puti (la' := [(66, text_limit), (67, text_atn2), (3073, rn1), (3074, act_horse)]) zW_ok dX0_readPair_8 F_X0_50 P_0_1 zW_48 rfl rfl rfl ?_
  refine zJ_aload_n dX0_readPair_11 rfl rfl ?_
  refine zJ_aload_n dX0_readPair_12 rfl rfl ?_
  refine zJ_geti dX0_readPair_13 F_X0_50 zW_48 rfl rfl rfl ?_
  refine zJ_iconst dX0_readPair_16 zc_m1 rfl ?_
  refine zJ_icmp_ne (tgt := 24) dX0_readPair_17 (by decide) rfl (fun hc => ?_) (fun hc => ?_)
  · replace h := it_f hc h
    refine zJ_aload_n dX0_readPair_24 rfl rfl ?_
    refine zJ_iconst dX0_readPair_25 zc_0 rfl ?_
    refine zJ_bipush dX0_readPair_26 zb_9 rfl ?_
    obtain ⟨rn3, text_atn4, hcl, h⟩ := bd2_some h
    refine zJ_callV (yi := mX9_digit) (as := [.int (0 : Int32), .int (9 : Int32)]) (st := [.ref 48]) (L2 := ([(66, text_limit), (67, text_atn4), (3073, rn1), (3074, act_horse)], [(2, text_signs)], [])) dX0_readPair_28 ML_X0_46 Yv_X9_digit rfl zW_1 rfl rfl (t_X9_digit l _ hcl) (zsub_i (zle_c rfl (zle_c rfl zle_n)) (zle_c rfl zle_n) zle_n) rfl (Nat.le_of_ble_eq_true rfl) (Nat.le_of_ble_eq_true rfl) rfl rfl ?_
    refine zK_puti (la' := [(66, text_limit), (67, text_atn4), (3073, rn1), (3074, rn3)]) zW_ok dX0_readPair_31 F_X0_54 P_0_2 zW_48 rfl rfl rfl ?_
    refine zJ_aload_n dX0_readPair_34 rfl rfl ?_
    refine zJ_geti dX0_readPair_35 F_X0_54 zW_48 rfl rfl rfl ?_
    refine zJ_iconst dX0_readPair_38 zc_m1 rfl ?_
    refine zJ_icmp_eq (tgt := 46) dX0_readPair_39 (by decide) rfl (fun hc => ?_) (fun hc => ?_)
    · replace h := it_t hc h
      refine zJ_iconst dX0_readPair_46 zc_0 rfl ?_
      cases h
      exact zJ_iret dX0_readPair_47 rfl (by decide)
    · replace h := it_f hc h
      refine zJ_iconst dX0_readPair_42 zc_1 rfl ?_
      refine zJ_goto (tgt := 47) dX0_readPair_43 (by decide) ?_
      cases h
      exact zJ_iret dX0_readPair_47 rfl (by decide)
  · replace h := it_t hc h
    refine zJ_iconst dX0_readPair_20 zc_m1 rfl ?_
    refine zJ_goto (tgt := 31) dX0_readPair_21 (by decide) ?_
    refine zK_puti (la' := [(66, text_limit), (67, text_atn2), (3073, rn1), (3074, (-1 : Int32))]) zW_ok dX0_readPair_31 F_X0_54 P_0_2 zW_48 rfl rfl rfl ?_
    refine zJ_aload_n dX0_readPair_34 rfl rfl ?_
    refine zJ_geti dX0_readPair_35 F_X0_54 zW_48 rfl rfl rfl ?_
    refine zJ_iconst dX0_readPair_38 zc_m1 rfl ?_
    refine zJ_icmp_eq (tgt := 46) dX0_readPair_39 (by decide) rfl (fun hc => ?_) (fun hc => ?_)
    · refine zJ_iconst dX0_readPair_46 zc_0 rfl ?_
      cases h
      exact zJ_iret dX0_readPair_47 rfl (by decide)
    · exact absurd hc (by decide)
set_option maxRecDepth 100000 in
set_option maxHeartbeats 4000000 in
theorem t_X9_take (l : Launch) (σ : zS) {p1 : Int32} {text_limit : Int32} {text_at : Int32} {text_signs : (Nat → Int32)} {r : Int32} {w_text_at : Int32} (h : f_X9_take p1 text_limit text_at text_signs = some (r, w_text_at)) : zMt l zW 0 mX9_take σ ([(66, text_limit), (67, text_at)], [(2, text_signs)], []) [.ref 1, .int p1] (some (.int r)) ([(66, text_limit), (67, w_text_at)], [(2, text_signs)], []) := by
  refine zMt_of (ls := [(0, .ref 1), (1, .int p1)]) (by decide) rfl (fun _ => Nat.le_of_ble_eq_true rfl) rfl ?_
  unfold f_X9_take at h
  refine zJ_aload_n dX9_take_0 rfl rfl ?_
  refine zJ_geti dX9_take_1 F_X9_19 zW_1 rfl rfl rfl ?_
  refine zJ_aload_n dX9_take_4 rfl rfl ?_
  refine zJ_geti dX9_take_5 F_X9_28 zW_1 rfl rfl rfl ?_
  refine zJ_icmp_ge (tgt := 24) dX9_take_8 (by decide) rfl (fun hc => ?_) (fun hc => ?_)
  · replace h := it_t hc h
    refine zJ_iconst dX9_take_24 zc_0 rfl ?_
    cases h
    exact zJ_iret dX9_take_25 rfl (by decide)
  · replace h := it_f hc h
    refine zJ_aload_n dX9_take_11 rfl rfl ?_
    refine zJ_getr dX9_take_12 F_X9_9 zW_1 rfl rfl ?_
    refine zJ_aload_n dX9_take_15 rfl rfl ?_
    refine zJ_geti dX9_take_16 F_X9_19 zW_1 rfl rfl rfl ?_
    obtain ⟨hg, h⟩ := gd_some h
    refine zJ_cald dX9_take_19 zW_2 (ix_in hg) rfl rfl ?_
    refine zJ_iload_n dX9_take_20 rfl rfl ?_
    refine zJ_icmp_eq (tgt := 26) dX9_take_21 (by decide) rfl (fun hc => ?_) (fun hc => ?_)
    · replace h := it_t hc h
      refine zJ_aload_n dX9_take_26 rfl rfl ?_
      refine zJ_dup dX9_take_27 rfl rfl ?_
      refine zJ_geti dX9_take_28 F_X9_19 zW_1 rfl rfl rfl ?_
      refine zJ_iconst dX9_take_31 zc_1 rfl ?_
      refine zJ_iadd dX9_take_32 rfl ?_
      refine zK_puti (la' := [(66, text_limit), (67, (text_at + (1 : Int32)))]) zW_ok dX9_take_33 F_X9_19 P_9_3 zW_1 rfl rfl rfl ?_
      refine zJ_iconst dX9_take_36 zc_1 rfl ?_
      cases h
      exact zJ_iret dX9_take_37 rfl (by decide)
    · replace h := it_f hc h
      refine zJ_iconst dX9_take_24 zc_0 rfl ?_
      cases h
      exact zJ_iret dX9_take_25 rfl (by decide)
set_option maxRecDepth 100000 in
set_option maxHeartbeats 4000000 in
theorem t_X0_readRide (l : Launch) (σ : zS) {text_limit : Int32} {text_at : Int32} {act_third : Int32} {act_fourth : Int32} {text_signs : (Nat → Int32)} {r : Int32} {w_text_at : Int32} {w_act_third : Int32} {w_act_fourth : Int32} (h : f_X0_readRide text_limit text_at act_third act_fourth text_signs = some (r, w_text_at, w_act_third, w_act_fourth)) : zMt l zW 1 mX0_readRide σ ([(66, text_limit), (67, text_at), (3075, act_third), (3076, act_fourth)], [(2, text_signs)], []) [.ref 48, .ref 1] (some (.int r)) ([(66, text_limit), (67, w_text_at), (3075, w_act_third), (3076, w_act_fourth)], [(2, text_signs)], []) := by
  refine zMt_of (ls := [(0, .ref 48), (1, .ref 1)]) (by decide) rfl (fun _ => Nat.le_of_ble_eq_true rfl) rfl ?_
  unfold f_X0_readRide at h
  refine zJ_aload_n dX0_readRide_0 rfl rfl ?_
  refine zJ_aload_n dX0_readRide_1 rfl rfl ?_
  refine zJ_iconst dX0_readRide_2 zc_0 rfl ?_
  refine zJ_bipush dX0_readRide_3 zb_9 rfl ?_
  obtain ⟨rn1, text_atn2, hcl, h⟩ := bd2_some h
  refine zJ_callV (yi := mX9_digit) (as := [.int (0 : Int32), .int (9 : Int32)]) (st := [.ref 48]) (L2 := ([(66, text_limit), (67, text_atn2), (3075, act_third), (3076, act_fourth)], [(2, text_signs)], [])) dX0_readRide_5 ML_X0_46 Yv_X9_digit rfl zW_1 rfl rfl (t_X9_digit l _ hcl) (zsub_i (zle_c rfl (zle_c rfl zle_n)) (zle_c rfl zle_n) zle_n) rfl (Nat.le_of_ble_eq_true rfl) (Nat.le_of_ble_eq_true rfl) rfl rfl ?_
  refine zK_puti (la' := [(66, text_limit), (67, text_atn2), (3075, rn1), (3076, act_fourth)]) zW_ok dX0_readRide_8 F_X0_57 P_0_3 zW_48 rfl rfl rfl ?_
  refine zJ_aload_n dX0_readRide_11 rfl rfl ?_
  refine zJ_geti dX0_readRide_12 F_X0_57 zW_48 rfl rfl rfl ?_
  refine zJ_iconst dX0_readRide_15 zc_m1 rfl ?_
  refine zJ_icmp_eq (tgt := 28) dX0_readRide_16 (by decide) rfl (fun hc => ?_) (fun hc => ?_)
  · replace h := it_t hc h
    refine zJ_iconst dX0_readRide_28 zc_0 rfl ?_
    cases h
    exact zJ_iret dX0_readRide_29 rfl (by decide)
  · replace h := it_f hc h
    refine zJ_aload_n dX0_readRide_19 rfl rfl ?_
    refine zJ_bipush dX0_readRide_20 zb_42 rfl ?_
    obtain ⟨rn3, text_atn4, hcl, h⟩ := bd2_some h
    refine zJ_callV (yi := mX9_take) (as := [.int (42 : Int32)]) (st := []) (L2 := ([(66, text_limit), (67, text_atn4), (3075, rn1), (3076, act_fourth)], [(2, text_signs)], [])) dX0_readRide_22 ML_X0_29 Yv_X9_take rfl zW_1 rfl rfl (t_X9_take l _ hcl) (zsub_i (zle_c rfl (zle_c rfl zle_n)) (zle_c rfl zle_n) zle_n) rfl (Nat.le_of_ble_eq_true rfl) (Nat.le_of_ble_eq_true rfl) rfl rfl ?_
    refine zJ_if_ne (tgt := 30) dX0_readRide_25 (by decide) rfl (fun hc => ?_) (fun hc => ?_)
    · replace h := it_f hc h
      refine zJ_aload_n dX0_readRide_30 rfl rfl ?_
      refine zJ_aload_n dX0_readRide_31 rfl rfl ?_
      refine zJ_iconst dX0_readRide_32 zc_0 rfl ?_
      refine zJ_bipush dX0_readRide_33 zb_9 rfl ?_
      obtain ⟨rn5, text_atn6, hcl, h⟩ := bd2_some h
      refine zJ_callV (yi := mX9_digit) (as := [.int (0 : Int32), .int (9 : Int32)]) (st := [.ref 48]) (L2 := ([(66, text_limit), (67, text_atn6), (3075, rn1), (3076, act_fourth)], [(2, text_signs)], [])) dX0_readRide_35 ML_X0_46 Yv_X9_digit rfl zW_1 rfl rfl (t_X9_digit l _ hcl) (zsub_i (zle_c rfl (zle_c rfl zle_n)) (zle_c rfl zle_n) zle_n) rfl (Nat.le_of_ble_eq_true rfl) (Nat.le_of_ble_eq_true rfl) rfl rfl ?_
      refine zK_puti (la' := [(66, text_limit), (67, text_atn6), (3075, rn1), (3076, rn5)]) zW_ok dX0_readRide_38 F_X0_60 P_0_4 zW_48 rfl rfl rfl ?_
      refine zJ_aload_n dX0_readRide_41 rfl rfl ?_
      refine zJ_geti dX0_readRide_42 F_X0_60 zW_48 rfl rfl rfl ?_
      refine zJ_iconst dX0_readRide_45 zc_m1 rfl ?_
      refine zJ_icmp_eq (tgt := 53) dX0_readRide_46 (by decide) rfl (fun hc => ?_) (fun hc => ?_)
      · replace h := it_t hc h
        refine zJ_iconst dX0_readRide_53 zc_0 rfl ?_
        cases h
        exact zJ_iret dX0_readRide_54 rfl (by decide)
      · replace h := it_f hc h
        refine zJ_iconst dX0_readRide_49 zc_1 rfl ?_
        refine zJ_goto (tgt := 54) dX0_readRide_50 (by decide) ?_
        cases h
        exact zJ_iret dX0_readRide_54 rfl (by decide)
    · replace h := it_t hc h
      refine zJ_iconst dX0_readRide_28 zc_0 rfl ?_
      cases h
      exact zJ_iret dX0_readRide_29 rfl (by decide)
set_option maxRecDepth 100000 in
set_option maxHeartbeats 4000000 in
theorem t_X9_number (l : Launch) (σ : zS) {p1 : Int32} {text_limit : Int32} {text_at : Int32} {text_signs : (Nat → Int32)} {r : Int32} {w_text_at : Int32} (h : f_X9_number p1 text_limit text_at text_signs = some (r, w_text_at)) : zMt l zW 1 mX9_number σ ([(66, text_limit), (67, text_at)], [(2, text_signs)], []) [.ref 1, .int p1] (some (.int r)) ([(66, text_limit), (67, w_text_at)], [(2, text_signs)], []) := by
  refine zMt_of (ls := [(0, .ref 1), (1, .int p1)]) (by decide) rfl (fun _ => Nat.le_of_ble_eq_true rfl) rfl ?_
  unfold f_X9_number at h
  refine zJ_aload_n dX9_number_0 rfl rfl ?_
  refine zJ_iconst dX9_number_1 zc_0 rfl ?_
  refine zJ_bipush dX9_number_2 zb_9 rfl ?_
  obtain ⟨rn1, text_atn2, hcl, h⟩ := bd2_some h
  refine zJ_callV (yi := mX9_digit) (as := [.int (0 : Int32), .int (9 : Int32)]) (st := []) (L2 := ([(66, text_limit), (67, text_atn2)], [(2, text_signs)], [])) dX9_number_4 ML_X9_37 Yv_X9_digit rfl zW_1 rfl rfl (t_X9_digit l _ hcl) (zsub_i (zle_c rfl (zle_c rfl zle_n)) (zle_c rfl zle_n) zle_n) rfl (Nat.le_of_ble_eq_true rfl) (Nat.le_of_ble_eq_true rfl) rfl rfl ?_
  refine zJ_istore_n (ls' := [(2, .int rn1), (0, .ref 1), (1, .int p1)]) dX9_number_7 rfl rfl rfl ?_
  refine zJ_iconst dX9_number_8 zc_1 rfl ?_
  refine zJ_istore_n (ls' := [(3, .int (1 : Int32)), (2, .int rn1), (0, .ref 1), (1, .int p1)]) dX9_number_9 rfl rfl rfl ?_
  have hk10 : ∀ (v2_10x : Int32) (text_at_10x : Int32), k_X9_number_10  v2_10x text_at_10x = some (r, w_text_at) → zJ l zW 1 mX9_number σ ([(66, text_limit), (67, text_at_10x)], [(2, text_signs)], []) 51 [(2, .int v2_10x)] [] (some (.int r)) ([(66, text_limit), (67, w_text_at)], [(2, text_signs)], []) := by
    intro v2_10x text_at_10x h
    unfold k_X9_number_10 at h
    refine zJ_iload_n dX9_number_51 rfl rfl ?_
    cases h
    exact zJ_iret dX9_number_52 rfl rfl
  refine zJ_loc (ls' := [(0, .ref 1), (1, .int p1), (2, .int rn1), (3, .int (1 : Int32))]) (zll_c rfl (zll_c rfl (zll_c rfl (zll_c rfl zll_n)))) ?_
  refine ml3_J (fun (v2_10 : Int32) (v3_10 : Int32) (text_at_10 : Int32) => zJ l zW 1 mX9_number σ ([(66, text_limit), (67, text_at_10)], [(2, text_signs)], []) 10 [(0, .ref 1), (1, .int p1), (2, .int v2_10), (3, .int v3_10)] [] (some (.int r)) ([(66, text_limit), (67, w_text_at)], [(2, text_signs)], [])) (fun rc10 hrc10 v2_10 v3_10 text_at_10 h => ?_) zN _ _ _ h
  unfold s_X9_number_10 at h
  refine zJ_iload_n dX9_number_10 rfl rfl ?_
  refine zJ_iload_n dX9_number_11 rfl rfl ?_
  refine zJ_icmp_ge (tgt := 51) dX9_number_12 (by decide) rfl (fun hc => ?_) (fun hc => ?_)
  · replace h := it_t hc h
    refine zJ_loc (ls' := [(2, .int v2_10)]) (zll_c rfl zll_n) ?_
    exact hk10 _ _ h
  · replace h := it_f hc h
    refine zJ_iload_n dX9_number_15 rfl rfl ?_
    refine zJ_iconst dX9_number_16 zc_m1 rfl ?_
    refine zJ_icmp_eq (tgt := 51) dX9_number_17 (by decide) rfl (fun hc => ?_) (fun hc => ?_)
    · replace h := it_t hc h
      refine zJ_loc (ls' := [(2, .int v2_10)]) (zll_c rfl zll_n) ?_
      exact hk10 _ _ h
    · replace h := it_f hc h
      refine zJ_aload_n dX9_number_20 rfl rfl ?_
      refine zJ_iconst dX9_number_21 zc_0 rfl ?_
      refine zJ_bipush dX9_number_22 zb_9 rfl ?_
      obtain ⟨rn3, text_atn4, hcl, h⟩ := bd2_some h
      refine zJ_callV (yi := mX9_digit) (as := [.int (0 : Int32), .int (9 : Int32)]) (st := []) (L2 := ([(66, text_limit), (67, text_atn4)], [(2, text_signs)], [])) dX9_number_24 ML_X9_37 Yv_X9_digit rfl zW_1 rfl rfl (t_X9_digit l _ hcl) (zsub_i (zle_c rfl (zle_c rfl zle_n)) (zle_c rfl zle_n) zle_n) rfl (Nat.le_of_ble_eq_true rfl) (Nat.le_of_ble_eq_true rfl) rfl rfl ?_
      refine zJ_istore (ls' := [(4, .int rn3), (0, .ref 1), (1, .int p1), (2, .int v2_10), (3, .int v3_10)]) dX9_number_27 rfl rfl rfl ?_
      refine zJ_iload dX9_number_29 rfl rfl ?_
      refine zJ_iconst dX9_number_31 zc_m1 rfl ?_
      refine zJ_icmp_ne (tgt := 37) dX9_number_32 (by decide) rfl (fun hc => ?_) (fun hc => ?_)
      · replace h := it_f hc h
        refine zJ_iload_n dX9_number_37 rfl rfl ?_
        refine zJ_bipush dX9_number_38 zb_10 rfl ?_
        refine zJ_imul dX9_number_40 rfl ?_
        refine zJ_iload dX9_number_41 rfl rfl ?_
        refine zJ_iadd dX9_number_43 rfl ?_
        obtain ⟨v2n5, ev2n5, h⟩ := lt1_some h
        refine zJ_nmi ev2n5 ?_
        refine zJ_istore_n (ls' := [(2, .int v2n5), (4, .int rn3), (0, .ref 1), (1, .int p1), (3, .int v3_10)]) dX9_number_44 rfl rfl rfl ?_
        obtain ⟨v3n6, ev3n6, h⟩ := lt1_some h
        refine zJ_iincN (ls' := [(3, .int v3n6), (2, .int v2n5), (4, .int rn3), (0, .ref 1), (1, .int p1)]) dX9_number_45 rfl rfl zc_1 ev3n6 rfl rfl ?_
        refine zJ_goto (tgt := 10) dX9_number_48 (by decide) ?_
        refine zJ_loc (ls' := [(0, .ref 1), (1, .int p1), (2, .int v2n5), (3, .int v3n6)]) (zll_c rfl (zll_c rfl (zll_c rfl (zll_c rfl zll_n)))) ?_
        exact hrc10 _ _ _ h
      · replace h := it_t hc h
        refine zJ_iload_n dX9_number_35 rfl rfl ?_
        cases h
        exact zJ_iret dX9_number_36 rfl rfl
set_option maxRecDepth 100000 in
set_option maxHeartbeats 4000000 in
theorem t_X0_readTold (l : Launch) (σ : zS) {text_limit : Int32} {text_at : Int32} {act_third : Int32} {act_fourth : Int32} {text_signs : (Nat → Int32)} {r : Int32} {w_text_at : Int32} {w_act_third : Int32} {w_act_fourth : Int32} (h : f_X0_readTold text_limit text_at act_third act_fourth text_signs = some (r, w_text_at, w_act_third, w_act_fourth)) : zMt l zW 2 mX0_readTold σ ([(66, text_limit), (67, text_at), (3075, act_third), (3076, act_fourth)], [(2, text_signs)], []) [.ref 48, .ref 1] (some (.int r)) ([(66, text_limit), (67, w_text_at), (3075, w_act_third), (3076, w_act_fourth)], [(2, text_signs)], []) := by
  refine zMt_of (ls := [(0, .ref 48), (1, .ref 1)]) (by decide) rfl (fun _ => Nat.le_of_ble_eq_true rfl) rfl ?_
  unfold f_X0_readTold at h
  refine zJ_aload_n dX0_readTold_0 rfl rfl ?_
  refine zJ_bipush dX0_readTold_1 zb_58 rfl ?_
  obtain ⟨rn1, text_atn2, hcl, h⟩ := bd2_some h
  refine zJ_callV (yi := mX9_take) (as := [.int (58 : Int32)]) (st := []) (L2 := ([(66, text_limit), (67, text_atn2), (3075, act_third), (3076, act_fourth)], [(2, text_signs)], [])) dX0_readTold_3 ML_X0_29 Yv_X9_take rfl zW_1 rfl rfl (t_X9_take l _ hcl) (zsub_i (zle_c rfl (zle_c rfl zle_n)) (zle_c rfl zle_n) zle_n) rfl (Nat.le_of_ble_eq_true rfl) (Nat.le_of_ble_eq_true rfl) rfl rfl ?_
  refine zJ_if_ne (tgt := 11) dX0_readTold_6 (by decide) rfl (fun hc => ?_) (fun hc => ?_)
  · replace h := it_f hc h
    refine zJ_aload_n dX0_readTold_11 rfl rfl ?_
    refine zJ_aload_n dX0_readTold_12 rfl rfl ?_
    refine zJ_iconst dX0_readTold_13 zc_2 rfl ?_
    obtain ⟨rn3, text_atn4, hcl, h⟩ := bd2_some h
    refine zJ_callV (yi := mX9_number) (as := [.int (2 : Int32)]) (st := [.ref 48]) (L2 := ([(66, text_limit), (67, text_atn4), (3075, act_third), (3076, act_fourth)], [(2, text_signs)], [])) dX0_readTold_14 ML_X0_63 Yv_X9_number rfl zW_1 rfl rfl (t_X9_number l _ hcl) (zsub_i (zle_c rfl (zle_c rfl zle_n)) (zle_c rfl zle_n) zle_n) rfl (Nat.le_of_ble_eq_true rfl) (Nat.le_of_ble_eq_true rfl) rfl rfl ?_
    refine zK_puti (la' := [(66, text_limit), (67, text_atn4), (3075, rn3), (3076, act_fourth)]) zW_ok dX0_readTold_17 F_X0_57 P_0_3 zW_48 rfl rfl rfl ?_
    refine zJ_aload_n dX0_readTold_20 rfl rfl ?_
    refine zJ_geti dX0_readTold_21 F_X0_57 zW_48 rfl rfl rfl ?_
    refine zJ_iconst dX0_readTold_24 zc_m1 rfl ?_
    refine zJ_icmp_eq (tgt := 37) dX0_readTold_25 (by decide) rfl (fun hc => ?_) (fun hc => ?_)
    · replace h := it_t hc h
      refine zJ_iconst dX0_readTold_37 zc_0 rfl ?_
      cases h
      exact zJ_iret dX0_readTold_38 rfl (by decide)
    · replace h := it_f hc h
      refine zJ_aload_n dX0_readTold_28 rfl rfl ?_
      refine zJ_bipush dX0_readTold_29 zb_43 rfl ?_
      obtain ⟨rn5, text_atn6, hcl, h⟩ := bd2_some h
      refine zJ_callV (yi := mX9_take) (as := [.int (43 : Int32)]) (st := []) (L2 := ([(66, text_limit), (67, text_atn6), (3075, rn3), (3076, act_fourth)], [(2, text_signs)], [])) dX0_readTold_31 ML_X0_29 Yv_X9_take rfl zW_1 rfl rfl (t_X9_take l _ hcl) (zsub_i (zle_c rfl (zle_c rfl zle_n)) (zle_c rfl zle_n) zle_n) rfl (Nat.le_of_ble_eq_true rfl) (Nat.le_of_ble_eq_true rfl) rfl rfl ?_
      refine zJ_if_ne (tgt := 39) dX0_readTold_34 (by decide) rfl (fun hc => ?_) (fun hc => ?_)
      · replace h := it_f hc h
        refine zJ_aload_n dX0_readTold_39 rfl rfl ?_
        refine zJ_aload_n dX0_readTold_40 rfl rfl ?_
        refine zJ_iconst dX0_readTold_41 zc_4 rfl ?_
        obtain ⟨rn7, text_atn8, hcl, h⟩ := bd2_some h
        refine zJ_callV (yi := mX9_number) (as := [.int (4 : Int32)]) (st := [.ref 48]) (L2 := ([(66, text_limit), (67, text_atn8), (3075, rn3), (3076, act_fourth)], [(2, text_signs)], [])) dX0_readTold_42 ML_X0_63 Yv_X9_number rfl zW_1 rfl rfl (t_X9_number l _ hcl) (zsub_i (zle_c rfl (zle_c rfl zle_n)) (zle_c rfl zle_n) zle_n) rfl (Nat.le_of_ble_eq_true rfl) (Nat.le_of_ble_eq_true rfl) rfl rfl ?_
        refine zK_puti (la' := [(66, text_limit), (67, text_atn8), (3075, rn3), (3076, rn7)]) zW_ok dX0_readTold_45 F_X0_60 P_0_4 zW_48 rfl rfl rfl ?_
        refine zJ_aload_n dX0_readTold_48 rfl rfl ?_
        refine zJ_geti dX0_readTold_49 F_X0_60 zW_48 rfl rfl rfl ?_
        refine zJ_iconst dX0_readTold_52 zc_m1 rfl ?_
        refine zJ_icmp_eq (tgt := 60) dX0_readTold_53 (by decide) rfl (fun hc => ?_) (fun hc => ?_)
        · replace h := it_t hc h
          refine zJ_iconst dX0_readTold_60 zc_0 rfl ?_
          cases h
          exact zJ_iret dX0_readTold_61 rfl (by decide)
        · replace h := it_f hc h
          refine zJ_iconst dX0_readTold_56 zc_1 rfl ?_
          refine zJ_goto (tgt := 61) dX0_readTold_57 (by decide) ?_
          cases h
          exact zJ_iret dX0_readTold_61 rfl (by decide)
      · replace h := it_t hc h
        refine zJ_iconst dX0_readTold_37 zc_0 rfl ?_
        cases h
        exact zJ_iret dX0_readTold_38 rfl (by decide)
  · replace h := it_t hc h
    refine zJ_iconst dX0_readTold_9 zc_0 rfl ?_
    cases h
    exact zJ_iret dX0_readTold_10 rfl (by decide)
set_option maxRecDepth 100000 in
set_option maxHeartbeats 4000000 in
theorem t_X0_read (l : Launch) (σ : zS) {text_limit : Int32} {text_at : Int32} {act_kind : Int32} {act_rider : Int32} {act_horse : Int32} {act_third : Int32} {act_fourth : Int32} {text_signs : (Nat → Int32)} {r : Int32} {w_text_at : Int32} {w_act_kind : Int32} {w_act_rider : Int32} {w_act_horse : Int32} {w_act_third : Int32} {w_act_fourth : Int32} (h : f_X0_read text_limit text_at act_kind act_rider act_horse act_third act_fourth text_signs = some (r, w_text_at, w_act_kind, w_act_rider, w_act_horse, w_act_third, w_act_fourth)) : zMt l zW 3 mX0_read σ ([(66, text_limit), (67, text_at), (3072, act_kind), (3073, act_rider), (3074, act_horse), (3075, act_third), (3076, act_fourth)], [(2, text_signs)], []) [.ref 48, .ref 1] (some (.int r)) ([(66, text_limit), (67, w_text_at), (3072, w_act_kind), (3073, w_act_rider), (3074, w_act_horse), (3075, w_act_third), (3076, w_act_fourth)], [(2, text_signs)], []) := by
  refine zMt_of (ls := [(0, .ref 48), (1, .ref 1)]) (by decide) rfl (fun _ => Nat.le_of_ble_eq_true rfl) rfl ?_
  unfold f_X0_read at h
  refine zJ_aload_n dX0_read_0 rfl rfl ?_
  refine zJ_bipush dX0_read_1 zb_120 rfl ?_
  obtain ⟨rn1, text_atn2, hcl, h⟩ := bd2_some h
  refine zJ_callV (yi := mX9_take) (as := [.int (120 : Int32)]) (st := []) (L2 := ([(66, text_limit), (67, text_atn2), (3072, act_kind), (3073, act_rider), (3074, act_horse), (3075, act_third), (3076, act_fourth)], [(2, text_signs)], [])) dX0_read_3 ML_X0_29 Yv_X9_take rfl zW_1 rfl rfl (t_X9_take l _ hcl) (zsub_i (zle_c rfl (zle_c rfl zle_n)) (zle_c rfl zle_n) zle_n) rfl (Nat.le_of_ble_eq_true rfl) (Nat.le_of_ble_eq_true rfl) rfl rfl ?_
  refine zJ_if_eq (tgt := 17) dX0_read_6 (by decide) rfl (fun hc => ?_) (fun hc => ?_)
  · replace h := it_t hc h
    refine zJ_aload_n dX0_read_17 rfl rfl ?_
    refine zJ_bipush dX0_read_18 zb_114 rfl ?_
    obtain ⟨rn3, text_atn4, hcl, h⟩ := bd2_some h
    refine zJ_callV (yi := mX9_take) (as := [.int (114 : Int32)]) (st := []) (L2 := ([(66, text_limit), (67, text_atn4), (3072, act_kind), (3073, act_rider), (3074, act_horse), (3075, act_third), (3076, act_fourth)], [(2, text_signs)], [])) dX0_read_20 ML_X0_29 Yv_X9_take rfl zW_1 rfl rfl (t_X9_take l _ hcl) (zsub_i (zle_c rfl (zle_c rfl zle_n)) (zle_c rfl zle_n) zle_n) rfl (Nat.le_of_ble_eq_true rfl) (Nat.le_of_ble_eq_true rfl) rfl rfl ?_
    refine zJ_if_eq (tgt := 54) dX0_read_23 (by decide) rfl (fun hc => ?_) (fun hc => ?_)
    · replace h := it_t hc h
      refine zJ_aload_n dX0_read_54 rfl rfl ?_
      refine zJ_bipush dX0_read_55 zb_116 rfl ?_
      refine zK_putz (la' := [(66, text_limit), (67, text_atn4), (3072, (116 : Int32)), (3073, act_rider), (3074, act_horse), (3075, act_third), (3076, act_fourth)]) zW_ok dX0_read_57 F_X0_33 P_0_0 zW_48 rfl (by decide) (by decide) rfl rfl ?_
      refine zJ_aload_n dX0_read_60 rfl rfl ?_
      refine zJ_bipush dX0_read_61 zb_116 rfl ?_
      obtain ⟨rn5, text_atn6, hcl, h⟩ := bd2_some h
      refine zJ_callV (yi := mX9_take) (as := [.int (116 : Int32)]) (st := []) (L2 := ([(66, text_limit), (67, text_atn6), (3072, (116 : Int32)), (3073, act_rider), (3074, act_horse), (3075, act_third), (3076, act_fourth)], [(2, text_signs)], [])) dX0_read_63 ML_X0_29 Yv_X9_take rfl zW_1 rfl rfl (t_X9_take l _ hcl) (zsub_i (zle_c rfl (zle_c rfl zle_n)) (zle_c rfl zle_n) zle_n) rfl (Nat.le_of_ble_eq_true rfl) (Nat.le_of_ble_eq_true rfl) rfl rfl ?_
      refine zJ_if_eq (tgt := 89) dX0_read_66 (by decide) rfl (fun hc => ?_) (fun hc => ?_)
      · replace h := it_t hc h
        refine zJ_iconst dX0_read_89 zc_0 rfl ?_
        cases h
        exact zJ_iret dX0_read_90 rfl (by decide)
      · replace h := it_f hc h
        refine zJ_aload_n dX0_read_69 rfl rfl ?_
        refine zJ_aload_n dX0_read_70 rfl rfl ?_
        obtain ⟨rn7, text_atn8, act_ridern9, act_horsen10, hcl, h⟩ := bd4_some h
        refine zJ_callV (yi := mX0_readPair) (as := [.ref 1]) (st := []) (L2 := ([(66, text_limit), (67, text_atn8), (3072, (116 : Int32)), (3073, act_ridern9), (3074, act_horsen10), (3075, act_third), (3076, act_fourth)], [(2, text_signs)], [])) dX0_read_71 ML_X0_37 Yv_X0_readPair rfl zW_48 rfl rfl (t_X0_readPair l _ hcl) (zsub_i (zle_c rfl (zle_c rfl (zle_c rfl (zle_c rfl zle_n)))) (zle_c rfl zle_n) zle_n) rfl (Nat.le_of_ble_eq_true rfl) (Nat.le_of_ble_eq_true rfl) rfl rfl ?_
        refine zJ_if_eq (tgt := 89) dX0_read_74 (by decide) rfl (fun hc => ?_) (fun hc => ?_)
        · replace h := it_t hc h
          refine zJ_iconst dX0_read_89 zc_0 rfl ?_
          cases h
          exact zJ_iret dX0_read_90 rfl (by decide)
        · replace h := it_f hc h
          refine zJ_aload_n dX0_read_77 rfl rfl ?_
          refine zJ_aload_n dX0_read_78 rfl rfl ?_
          obtain ⟨rn11, text_atn12, act_thirdn13, act_fourthn14, hcl, h⟩ := bd4_some h
          refine zJ_callV (yi := mX0_readTold) (as := [.ref 1]) (st := []) (L2 := ([(66, text_limit), (67, text_atn12), (3072, (116 : Int32)), (3073, act_ridern9), (3074, act_horsen10), (3075, act_thirdn13), (3076, act_fourthn14)], [(2, text_signs)], [])) dX0_read_79 ML_X0_43 Yv_X0_readTold rfl zW_48 rfl rfl (t_X0_readTold l _ hcl) (zsub_i (zle_c rfl (zle_c rfl (zle_c rfl (zle_c rfl zle_n)))) (zle_c rfl zle_n) zle_n) rfl (Nat.le_of_ble_eq_true rfl) (Nat.le_of_ble_eq_true rfl) rfl rfl ?_
          refine zJ_if_eq (tgt := 89) dX0_read_82 (by decide) rfl (fun hc => ?_) (fun hc => ?_)
          · replace h := it_t hc h
            refine zJ_iconst dX0_read_89 zc_0 rfl ?_
            cases h
            exact zJ_iret dX0_read_90 rfl (by decide)
          · replace h := it_f hc h
            refine zJ_iconst dX0_read_85 zc_1 rfl ?_
            refine zJ_goto (tgt := 90) dX0_read_86 (by decide) ?_
            cases h
            exact zJ_iret dX0_read_90 rfl (by decide)
    · replace h := it_f hc h
      refine zJ_aload_n dX0_read_26 rfl rfl ?_
      refine zJ_bipush dX0_read_27 zb_114 rfl ?_
      refine zK_putz (la' := [(66, text_limit), (67, text_atn4), (3072, (114 : Int32)), (3073, act_rider), (3074, act_horse), (3075, act_third), (3076, act_fourth)]) zW_ok dX0_read_29 F_X0_33 P_0_0 zW_48 rfl (by decide) (by decide) rfl rfl ?_
      refine zJ_aload_n dX0_read_32 rfl rfl ?_
      refine zJ_aload_n dX0_read_33 rfl rfl ?_
      obtain ⟨rn15, text_atn16, act_ridern17, act_horsen18, hcl, h⟩ := bd4_some h
      refine zJ_callV (yi := mX0_readPair) (as := [.ref 1]) (st := []) (L2 := ([(66, text_limit), (67, text_atn16), (3072, (114 : Int32)), (3073, act_ridern17), (3074, act_horsen18), (3075, act_third), (3076, act_fourth)], [(2, text_signs)], [])) dX0_read_34 ML_X0_37 Yv_X0_readPair rfl zW_48 rfl rfl (t_X0_readPair l _ hcl) (zsub_i (zle_c rfl (zle_c rfl (zle_c rfl (zle_c rfl zle_n)))) (zle_c rfl zle_n) zle_n) rfl (Nat.le_of_ble_eq_true rfl) (Nat.le_of_ble_eq_true rfl) rfl rfl ?_
      refine zJ_if_eq (tgt := 52) dX0_read_37 (by decide) rfl (fun hc => ?_) (fun hc => ?_)
      · replace h := it_t hc h
        refine zJ_iconst dX0_read_52 zc_0 rfl ?_
        cases h
        exact zJ_iret dX0_read_53 rfl (by decide)
      · replace h := it_f hc h
        refine zJ_aload_n dX0_read_40 rfl rfl ?_
        refine zJ_aload_n dX0_read_41 rfl rfl ?_
        obtain ⟨rn19, text_atn20, act_thirdn21, act_fourthn22, hcl, h⟩ := bd4_some h
        refine zJ_callV (yi := mX0_readRide) (as := [.ref 1]) (st := []) (L2 := ([(66, text_limit), (67, text_atn20), (3072, (114 : Int32)), (3073, act_ridern17), (3074, act_horsen18), (3075, act_thirdn21), (3076, act_fourthn22)], [(2, text_signs)], [])) dX0_read_42 ML_X0_40 Yv_X0_readRide rfl zW_48 rfl rfl (t_X0_readRide l _ hcl) (zsub_i (zle_c rfl (zle_c rfl (zle_c rfl (zle_c rfl zle_n)))) (zle_c rfl zle_n) zle_n) rfl (Nat.le_of_ble_eq_true rfl) (Nat.le_of_ble_eq_true rfl) rfl rfl ?_
        refine zJ_if_eq (tgt := 52) dX0_read_45 (by decide) rfl (fun hc => ?_) (fun hc => ?_)
        · replace h := it_t hc h
          refine zJ_iconst dX0_read_52 zc_0 rfl ?_
          cases h
          exact zJ_iret dX0_read_53 rfl (by decide)
        · replace h := it_f hc h
          refine zJ_iconst dX0_read_48 zc_1 rfl ?_
          refine zJ_goto (tgt := 53) dX0_read_49 (by decide) ?_
          cases h
          exact zJ_iret dX0_read_53 rfl (by decide)
  · replace h := it_f hc h
    refine zJ_aload_n dX0_read_9 rfl rfl ?_
    refine zJ_bipush dX0_read_10 zb_120 rfl ?_
    refine zK_putz (la' := [(66, text_limit), (67, text_atn2), (3072, (120 : Int32)), (3073, act_rider), (3074, act_horse), (3075, act_third), (3076, act_fourth)]) zW_ok dX0_read_12 F_X0_33 P_0_0 zW_48 rfl (by decide) (by decide) rfl rfl ?_
    refine zJ_iconst dX0_read_15 zc_1 rfl ?_
    cases h
    exact zJ_iret dX0_read_16 rfl (by decide)
set_option maxRecDepth 100000 in
set_option maxHeartbeats 4000000 in
theorem t_X9_fault (l : Launch) (σ : zS) {text_at : Int32} {r : Int32} (h : f_X9_fault text_at = some r) : zMt l zW 0 mX9_fault σ ([(67, text_at)], [], []) [.ref 1] (some (.int r)) ([(67, text_at)], [], []) := by
  refine zMt_of (ls := [(0, .ref 1)]) (by decide) rfl (fun _ => Nat.le_of_ble_eq_true rfl) rfl ?_
  unfold f_X9_fault at h
  refine zJ_iconst dX9_fault_0 zc_m1 rfl ?_
  refine zJ_aload_n dX9_fault_1 rfl rfl ?_
  refine zJ_geti dX9_fault_2 F_X9_19 zW_1 rfl rfl rfl ?_
  refine zJ_isub dX9_fault_5 rfl ?_
  cases h
  exact zJ_iret dX9_fault_6 rfl rfl
set_option maxRecDepth 100000 in
set_option maxHeartbeats 4000000 in
theorem t_X9_isDone (l : Launch) (σ : zS) {text_size : Int32} {text_at : Int32} {r : Int32} (h : f_X9_isDone text_size text_at = some r) : zMt l zW 0 mX9_isDone σ ([(65, text_size), (67, text_at)], [], []) [.ref 1] (some (.int r)) ([(65, text_size), (67, text_at)], [], []) := by
  refine zMt_of (ls := [(0, .ref 1)]) (by decide) rfl (fun _ => Nat.le_of_ble_eq_true rfl) rfl ?_
  unfold f_X9_isDone at h
  refine zJ_aload_n dX9_isDone_0 rfl rfl ?_
  refine zJ_geti dX9_isDone_1 F_X9_19 zW_1 rfl rfl rfl ?_
  refine zJ_aload_n dX9_isDone_4 rfl rfl ?_
  refine zJ_geti dX9_isDone_5 F_X9_15 zW_1 rfl rfl rfl ?_
  refine zJ_icmp_ne (tgt := 15) dX9_isDone_8 (by decide) rfl (fun hc => ?_) (fun hc => ?_)
  · replace h := it_f hc h
    refine zJ_iconst dX9_isDone_15 zc_0 rfl ?_
    cases h
    exact zJ_iret dX9_isDone_16 rfl (by decide)
  · replace h := it_t hc h
    refine zJ_iconst dX9_isDone_11 zc_1 rfl ?_
    refine zJ_goto (tgt := 16) dX9_isDone_12 (by decide) ?_
    cases h
    exact zJ_iret dX9_isDone_16 rfl (by decide)
set_option maxRecDepth 100000 in
set_option maxHeartbeats 4000000 in
theorem t_X9_open (l : Launch) (σ : zS) {p1 : Int32} {text_size : Int32} {text_limit : Int32} {text_at : Int32} {w_text_limit : Int32} {w_text_at : Int32} (h : f_X9_open p1 text_size text_limit text_at = some (w_text_limit, w_text_at)) : zMt l zW 1 mX9_open σ ([(65, text_size), (66, text_limit), (67, text_at)], [], []) [.ref 1, .int p1] none ([(65, text_size), (66, w_text_limit), (67, w_text_at)], [], []) := by
  refine zMt_of (ls := [(0, .ref 1), (1, .int p1)]) (by decide) rfl (fun _ => Nat.le_of_ble_eq_true rfl) rfl ?_
  unfold f_X9_open at h
  refine zJ_aload_n dX9_open_0 rfl rfl ?_
  refine zJ_iconst dX9_open_1 zc_0 rfl ?_
  refine zK_puti (la' := [(65, text_size), (66, text_limit), (67, (0 : Int32))]) zW_ok dX9_open_2 F_X9_19 P_9_3 zW_1 rfl rfl rfl ?_
  refine zJ_aload_n dX9_open_5 rfl rfl ?_
  refine zJ_aload_n dX9_open_6 rfl rfl ?_
  refine zJ_geti dX9_open_7 F_X9_15 zW_1 rfl rfl rfl ?_
  refine zJ_iload_n dX9_open_10 rfl rfl ?_
  refine zJ_mmin dX9_open_11 L_X9_22 K_min_s K_math K_min_c (Nat.le_of_ble_eq_true rfl) (Nat.le_of_ble_eq_true rfl) rfl ?_
  refine zK_puti (la' := [(65, text_size), (66, (if p1 < text_size then p1 else text_size)), (67, (0 : Int32))]) zW_ok dX9_open_14 F_X9_28 P_9_2 zW_1 rfl rfl rfl ?_
  cases h
  exact zJ_vret dX9_open_17 rfl
set_option maxRecDepth 100000 in
set_option maxHeartbeats 4000000 in
theorem t_X0_check (l : Launch) (σ : zS) {text_size : Int32} {text_limit : Int32} {text_at : Int32} {act_kind : Int32} {act_rider : Int32} {act_horse : Int32} {act_third : Int32} {act_fourth : Int32} {text_signs : (Nat → Int32)} {r : Int32} {w_text_limit : Int32} {w_text_at : Int32} {w_act_kind : Int32} {w_act_rider : Int32} {w_act_horse : Int32} {w_act_third : Int32} {w_act_fourth : Int32} (h : f_X0_check text_size text_limit text_at act_kind act_rider act_horse act_third act_fourth text_signs = some (r, w_text_limit, w_text_at, w_act_kind, w_act_rider, w_act_horse, w_act_third, w_act_fourth)) : zMt l zW 4 mX0_check σ ([(65, text_size), (66, text_limit), (67, text_at), (3072, act_kind), (3073, act_rider), (3074, act_horse), (3075, act_third), (3076, act_fourth)], [(2, text_signs)], []) [.ref 48, .ref 1] (some (.int r)) ([(65, text_size), (66, w_text_limit), (67, w_text_at), (3072, w_act_kind), (3073, w_act_rider), (3074, w_act_horse), (3075, w_act_third), (3076, w_act_fourth)], [(2, text_signs)], []) := by
  refine zMt_of (ls := [(0, .ref 48), (1, .ref 1)]) (by decide) rfl (fun _ => Nat.le_of_ble_eq_true rfl) rfl ?_
  unfold f_X0_check at h
  refine zJ_aload_n dX0_check_0 rfl rfl ?_
  refine zJ_bipush dX0_check_1 zb_60 rfl ?_
  obtain ⟨text_limitn1, text_atn2, hcl, h⟩ := bd2_some h
  refine zJ_callV (yi := mX9_open) (as := [.int (60 : Int32)]) (st := []) (L2 := ([(65, text_size), (66, text_limitn1), (67, text_atn2), (3072, act_kind), (3073, act_rider), (3074, act_horse), (3075, act_third), (3076, act_fourth)], [(2, text_signs)], [])) dX0_check_3 ML_X0_11 Yv_X9_open rfl zW_1 rfl rfl (t_X9_open l _ hcl) (zsub_i (zle_c rfl (zle_c rfl (zle_c rfl zle_n))) zle_n zle_n) rfl (Nat.le_of_ble_eq_true rfl) (Nat.le_of_ble_eq_true rfl) rfl rfl ?_
  refine zJ_aload_n dX0_check_6 rfl rfl ?_
  obtain ⟨rn3, hcl, h⟩ := bd1_some h
  refine zJ_callV (yi := mX9_isDone) (as := []) (st := []) (L2 := ([(65, text_size), (66, text_limitn1), (67, text_atn2), (3072, act_kind), (3073, act_rider), (3074, act_horse), (3075, act_third), (3076, act_fourth)], [(2, text_signs)], [])) dX0_check_7 ML_X0_17 Yv_X9_isDone rfl zW_1 rfl rfl (t_X9_isDone l _ hcl) (zsub_i (zle_c rfl (zle_c rfl zle_n)) zle_n zle_n) rfl (Nat.le_of_ble_eq_true rfl) (Nat.le_of_ble_eq_true rfl) rfl rfl ?_
  refine zJ_if_eq (tgt := 15) dX0_check_10 (by decide) rfl (fun hc => ?_) (fun hc => ?_)
  · replace h := it_t hc h
    refine zJ_iconst dX0_check_15 zc_0 rfl ?_
    refine zJ_istore_n (ls' := [(2, .int (0 : Int32)), (0, .ref 48), (1, .ref 1)]) dX0_check_16 rfl rfl rfl ?_
    have hk17 : ∀ (text_at_17x : Int32) (act_kind_17x : Int32) (act_rider_17x : Int32) (act_horse_17x : Int32) (act_third_17x : Int32) (act_fourth_17x : Int32), k_X0_check_17 text_limitn1 text_at_17x act_kind_17x act_rider_17x act_horse_17x act_third_17x act_fourth_17x = some (r, w_text_limit, w_text_at, w_act_kind, w_act_rider, w_act_horse, w_act_third, w_act_fourth) → zJ l zW 4 mX0_check σ ([(65, text_size), (66, text_limitn1), (67, text_at_17x), (3072, act_kind_17x), (3073, act_rider_17x), (3074, act_horse_17x), (3075, act_third_17x), (3076, act_fourth_17x)], [(2, text_signs)], []) 65 [(1, .ref 1)] [] (some (.int r)) ([(65, text_size), (66, w_text_limit), (67, w_text_at), (3072, w_act_kind), (3073, w_act_rider), (3074, w_act_horse), (3075, w_act_third), (3076, w_act_fourth)], [(2, text_signs)], []) := by
      intro text_at_17x act_kind_17x act_rider_17x act_horse_17x act_third_17x act_fourth_17x h
      unfold k_X0_check_17 at h
      refine zJ_aload_n dX0_check_65 rfl rfl ?_
      obtain ⟨rn4, hcl, h⟩ := bd1_some h
      refine zJ_callV (yi := mX9_fault) (as := []) (st := []) (L2 := ([(65, text_size), (66, text_limitn1), (67, text_at_17x), (3072, act_kind_17x), (3073, act_rider_17x), (3074, act_horse_17x), (3075, act_third_17x), (3076, act_fourth_17x)], [(2, text_signs)], [])) dX0_check_66 ML_X0_25 Yv_X9_fault rfl zW_1 rfl rfl (t_X9_fault l _ hcl) (zsub_i (zle_c rfl zle_n) zle_n zle_n) rfl (Nat.le_of_ble_eq_true rfl) (Nat.le_of_ble_eq_true rfl) rfl rfl ?_
      cases h
      exact zJ_iret dX0_check_69 rfl rfl
    refine zJ_loc (ls' := [(0, .ref 48), (1, .ref 1), (2, .int (0 : Int32))]) (zll_c rfl (zll_c rfl (zll_c rfl zll_n))) ?_
    refine ml7_J (fun (v2_17 : Int32) (text_at_17 : Int32) (act_kind_17 : Int32) (act_rider_17 : Int32) (act_horse_17 : Int32) (act_third_17 : Int32) (act_fourth_17 : Int32) => zJ l zW 4 mX0_check σ ([(65, text_size), (66, text_limitn1), (67, text_at_17), (3072, act_kind_17), (3073, act_rider_17), (3074, act_horse_17), (3075, act_third_17), (3076, act_fourth_17)], [(2, text_signs)], []) 17 [(0, .ref 48), (1, .ref 1), (2, .int v2_17)] [] (some (.int r)) ([(65, text_size), (66, w_text_limit), (67, w_text_at), (3072, w_act_kind), (3073, w_act_rider), (3074, w_act_horse), (3075, w_act_third), (3076, w_act_fourth)], [(2, text_signs)], [])) (fun rc17 hrc17 v2_17 text_at_17 act_kind_17 act_rider_17 act_horse_17 act_third_17 act_fourth_17 h => ?_) zN _ _ _ _ _ _ _ h
    unfold s_X0_check_17 at h
    refine zJ_iload_n dX0_check_17 rfl rfl ?_
    refine zJ_bipush dX0_check_18 zb_60 rfl ?_
    refine zJ_icmp_ge (tgt := 65) dX0_check_20 (by decide) rfl (fun hc => ?_) (fun hc => ?_)
    · replace h := it_t hc h
      refine zJ_loc (ls' := [(1, .ref 1)]) (zll_c rfl zll_n) ?_
      exact hk17 _ _ _ _ _ _ h
    · replace h := it_f hc h
      refine zJ_aload_n dX0_check_23 rfl rfl ?_
      refine zJ_aload_n dX0_check_24 rfl rfl ?_
      obtain ⟨rn5, text_atn6, act_kindn7, act_ridern8, act_horsen9, act_thirdn10, act_fourthn11, hcl, h⟩ := bd7_some h
      refine zJ_callV (yi := mX0_read) (as := [.ref 1]) (st := []) (L2 := ([(65, text_size), (66, text_limitn1), (67, text_atn6), (3072, act_kindn7), (3073, act_ridern8), (3074, act_horsen9), (3075, act_thirdn10), (3076, act_fourthn11)], [(2, text_signs)], [])) dX0_check_25 ML_X0_21 Yv_X0_read rfl zW_48 rfl rfl (t_X0_read l _ hcl) (zsub_i (zle_c rfl (zle_c rfl (zle_c rfl (zle_c rfl (zle_c rfl (zle_c rfl (zle_c rfl zle_n))))))) (zle_c rfl zle_n) zle_n) rfl (Nat.le_of_ble_eq_true rfl) (Nat.le_of_ble_eq_true rfl) rfl rfl ?_
      refine zJ_if_ne (tgt := 36) dX0_check_28 (by decide) rfl (fun hc => ?_) (fun hc => ?_)
      · replace h := it_f hc h
        refine zJ_aload_n dX0_check_36 rfl rfl ?_
        obtain ⟨rn12, hcl, h⟩ := bd1_some h
        refine zJ_callV (yi := mX9_isDone) (as := []) (st := []) (L2 := ([(65, text_size), (66, text_limitn1), (67, text_atn6), (3072, act_kindn7), (3073, act_ridern8), (3074, act_horsen9), (3075, act_thirdn10), (3076, act_fourthn11)], [(2, text_signs)], [])) dX0_check_37 ML_X0_17 Yv_X9_isDone rfl zW_1 rfl rfl (t_X9_isDone l _ hcl) (zsub_i (zle_c rfl (zle_c rfl zle_n)) zle_n zle_n) rfl (Nat.le_of_ble_eq_true rfl) (Nat.le_of_ble_eq_true rfl) rfl rfl ?_
        refine zJ_if_eq (tgt := 45) dX0_check_40 (by decide) rfl (fun hc => ?_) (fun hc => ?_)
        · replace h := it_t hc h
          refine zJ_aload_n dX0_check_45 rfl rfl ?_
          refine zJ_bipush dX0_check_46 zb_59 rfl ?_
          obtain ⟨rn13, text_atn14, hcl, h⟩ := bd2_some h
          refine zJ_callV (yi := mX9_take) (as := [.int (59 : Int32)]) (st := []) (L2 := ([(65, text_size), (66, text_limitn1), (67, text_atn14), (3072, act_kindn7), (3073, act_ridern8), (3074, act_horsen9), (3075, act_thirdn10), (3076, act_fourthn11)], [(2, text_signs)], [])) dX0_check_48 ML_X0_29 Yv_X9_take rfl zW_1 rfl rfl (t_X9_take l _ hcl) (zsub_i (zle_c rfl (zle_c rfl zle_n)) (zle_c rfl zle_n) zle_n) rfl (Nat.le_of_ble_eq_true rfl) (Nat.le_of_ble_eq_true rfl) rfl rfl ?_
          refine zJ_if_ne (tgt := 59) dX0_check_51 (by decide) rfl (fun hc => ?_) (fun hc => ?_)
          · replace h := it_f hc h
            obtain ⟨v2n15, ev2n15, h⟩ := lt1_some h
            refine zJ_iincN (ls' := [(2, .int v2n15), (0, .ref 48), (1, .ref 1)]) dX0_check_59 rfl rfl zc_1 ev2n15 rfl rfl ?_
            refine zJ_goto (tgt := 17) dX0_check_62 (by decide) ?_
            refine zJ_loc (ls' := [(0, .ref 48), (1, .ref 1), (2, .int v2n15)]) (zll_c rfl (zll_c rfl (zll_c rfl zll_n))) ?_
            exact hrc17 _ _ _ _ _ _ _ h
          · replace h := it_t hc h
            refine zJ_aload_n dX0_check_54 rfl rfl ?_
            obtain ⟨rn16, hcl, h⟩ := bd1_some h
            refine zJ_callV (yi := mX9_fault) (as := []) (st := []) (L2 := ([(65, text_size), (66, text_limitn1), (67, text_atn14), (3072, act_kindn7), (3073, act_ridern8), (3074, act_horsen9), (3075, act_thirdn10), (3076, act_fourthn11)], [(2, text_signs)], [])) dX0_check_55 ML_X0_25 Yv_X9_fault rfl zW_1 rfl rfl (t_X9_fault l _ hcl) (zsub_i (zle_c rfl zle_n) zle_n zle_n) rfl (Nat.le_of_ble_eq_true rfl) (Nat.le_of_ble_eq_true rfl) rfl rfl ?_
            cases h
            exact zJ_iret dX0_check_58 rfl rfl
        · replace h := it_f hc h
          refine zJ_iconst dX0_check_43 zc_0 rfl ?_
          cases h
          exact zJ_iret dX0_check_44 rfl rfl
      · replace h := it_t hc h
        refine zJ_aload_n dX0_check_31 rfl rfl ?_
        obtain ⟨rn17, hcl, h⟩ := bd1_some h
        refine zJ_callV (yi := mX9_fault) (as := []) (st := []) (L2 := ([(65, text_size), (66, text_limitn1), (67, text_atn6), (3072, act_kindn7), (3073, act_ridern8), (3074, act_horsen9), (3075, act_thirdn10), (3076, act_fourthn11)], [(2, text_signs)], [])) dX0_check_32 ML_X0_25 Yv_X9_fault rfl zW_1 rfl rfl (t_X9_fault l _ hcl) (zsub_i (zle_c rfl zle_n) zle_n zle_n) rfl (Nat.le_of_ble_eq_true rfl) (Nat.le_of_ble_eq_true rfl) rfl rfl ?_
        cases h
        exact zJ_iret dX0_check_35 rfl rfl
  · replace h := it_f hc h
    refine zJ_iconst dX0_check_13 zc_0 rfl ?_
    cases h
    exact zJ_iret dX0_check_14 rfl rfl
set_option maxRecDepth 100000 in
set_option maxHeartbeats 4000000 in
theorem t_X10_isFull (l : Launch) (σ : zS) {rounds_size : Int32} {r : Int32} (h : f_X10_isFull rounds_size = some r) : zMt l zW 0 mX10_isFull σ ([(1284, rounds_size)], [], []) [.ref 20] (some (.int r)) ([(1284, rounds_size)], [], []) := by
  refine zMt_of (ls := [(0, .ref 20)]) (by decide) rfl (fun _ => Nat.le_of_ble_eq_true rfl) rfl ?_
  unfold f_X10_isFull at h
  refine zJ_aload_n dX10_isFull_0 rfl rfl ?_
  refine zJ_geti dX10_isFull_1 F_X10_64 zW_20 rfl rfl rfl ?_
  refine zJ_bipush dX10_isFull_4 zb_12 rfl ?_
  refine zJ_icmp_lt (tgt := 13) dX10_isFull_6 (by decide) rfl (fun hc => ?_) (fun hc => ?_)
  · replace h := it_t hc h
    refine zJ_iconst dX10_isFull_13 zc_0 rfl ?_
    cases h
    exact zJ_iret dX10_isFull_14 rfl (by decide)
  · replace h := it_f hc h
    refine zJ_iconst dX10_isFull_9 zc_1 rfl ?_
    refine zJ_goto (tgt := 14) dX10_isFull_10 (by decide) ?_
    cases h
    exact zJ_iret dX10_isFull_14 rfl (by decide)
set_option maxRecDepth 100000 in
set_option maxHeartbeats 4000000 in
theorem t_X10_add (l : Launch) (σ : zS) {p1 : Int32} {p2 : Int32} {p3 : Int32} {p4 : Int32} {rounds_size : Int32} {rounds_riders : (Nat → Int32)} {rounds_horses : (Nat → Int32)} {rounds_faults : (Nat → Int32)} {rounds_tenths : (Nat → Int32)} {w_rounds_size : Int32} {w_rounds_riders : (Nat → Int32)} {w_rounds_horses : (Nat → Int32)} {w_rounds_faults : (Nat → Int32)} {w_rounds_tenths : (Nat → Int32)} (h : f_X10_add p1 p2 p3 p4 rounds_size rounds_riders rounds_horses rounds_faults rounds_tenths = some (w_rounds_size, w_rounds_riders, w_rounds_horses, w_rounds_faults, w_rounds_tenths)) : zMt l zW 1 mX10_add σ ([(1284, rounds_size)], [(21, rounds_riders), (22, rounds_horses), (23, rounds_faults), (24, rounds_tenths)], []) [.ref 20, .int p1, .int p2, .int p3, .int p4] none ([(1284, w_rounds_size)], [(21, w_rounds_riders), (22, w_rounds_horses), (23, w_rounds_faults), (24, w_rounds_tenths)], []) := by
  refine zMt_of (ls := [(0, .ref 20), (1, .int p1), (2, .int p2), (3, .int p3), (4, .int p4)]) (by decide) rfl (fun _ => Nat.le_of_ble_eq_true rfl) rfl ?_
  unfold f_X10_add at h
  refine zJ_aload_n dX10_add_0 rfl rfl ?_
  obtain ⟨rn1, hcl, h⟩ := bd1_some h
  refine zJ_callV (yi := mX10_isFull) (as := []) (st := []) (L2 := ([(1284, rounds_size)], [(21, rounds_riders), (22, rounds_horses), (23, rounds_faults), (24, rounds_tenths)], [])) dX10_add_1 ML_X10_68 Yv_X10_isFull rfl zW_20 rfl rfl (t_X10_isFull l _ hcl) (zsub_i (zle_c rfl zle_n) zle_n zle_n) rfl (Nat.le_of_ble_eq_true rfl) (Nat.le_of_ble_eq_true rfl) rfl rfl ?_
  refine zJ_if_eq (tgt := 8) dX10_add_4 (by decide) rfl (fun hc => ?_) (fun hc => ?_)
  · replace h := it_t hc h
    refine zJ_aload_n dX10_add_8 rfl rfl ?_
    refine zJ_getr dX10_add_9 F_X10_9 zW_20 rfl rfl ?_
    refine zJ_aload_n dX10_add_12 rfl rfl ?_
    refine zJ_geti dX10_add_13 F_X10_64 zW_20 rfl rfl rfl ?_
    refine zJ_iload_n dX10_add_16 rfl rfl ?_
    obtain ⟨hg, h⟩ := gd_some h
    refine zK_iast (lb' := [(21, (upd rounds_riders rounds_size.toNatClampNeg p1)), (22, rounds_horses), (23, rounds_faults), (24, rounds_tenths)]) dX10_add_17 zW_21 (ix_in hg) rfl rfl rfl ?_
    refine zJ_aload_n dX10_add_18 rfl rfl ?_
    refine zJ_getr dX10_add_19 F_X10_15 zW_20 rfl rfl ?_
    refine zJ_aload_n dX10_add_22 rfl rfl ?_
    refine zJ_geti dX10_add_23 F_X10_64 zW_20 rfl rfl rfl ?_
    refine zJ_iload_n dX10_add_26 rfl rfl ?_
    obtain ⟨hg, h⟩ := gd_some h
    refine zK_iast (lb' := [(21, (upd rounds_riders rounds_size.toNatClampNeg p1)), (22, (upd rounds_horses rounds_size.toNatClampNeg p2)), (23, rounds_faults), (24, rounds_tenths)]) dX10_add_27 zW_22 (ix_in hg) rfl rfl rfl ?_
    refine zJ_aload_n dX10_add_28 rfl rfl ?_
    refine zJ_getr dX10_add_29 F_X10_18 zW_20 rfl rfl ?_
    refine zJ_aload_n dX10_add_32 rfl rfl ?_
    refine zJ_geti dX10_add_33 F_X10_64 zW_20 rfl rfl rfl ?_
    refine zJ_iload_n dX10_add_36 rfl rfl ?_
    obtain ⟨hg, h⟩ := gd_some h
    refine zK_iast (lb' := [(21, (upd rounds_riders rounds_size.toNatClampNeg p1)), (22, (upd rounds_horses rounds_size.toNatClampNeg p2)), (23, (upd rounds_faults rounds_size.toNatClampNeg p3)), (24, rounds_tenths)]) dX10_add_37 zW_23 (ix_in hg) rfl rfl rfl ?_
    refine zJ_aload_n dX10_add_38 rfl rfl ?_
    refine zJ_getr dX10_add_39 F_X10_21 zW_20 rfl rfl ?_
    refine zJ_aload_n dX10_add_42 rfl rfl ?_
    refine zJ_geti dX10_add_43 F_X10_64 zW_20 rfl rfl rfl ?_
    refine zJ_iload dX10_add_46 rfl rfl ?_
    obtain ⟨hg, h⟩ := gd_some h
    refine zK_iast (lb' := [(21, (upd rounds_riders rounds_size.toNatClampNeg p1)), (22, (upd rounds_horses rounds_size.toNatClampNeg p2)), (23, (upd rounds_faults rounds_size.toNatClampNeg p3)), (24, (upd rounds_tenths rounds_size.toNatClampNeg p4))]) dX10_add_48 zW_24 (ix_in hg) rfl rfl rfl ?_
    refine zJ_aload_n dX10_add_49 rfl rfl ?_
    refine zJ_dup dX10_add_50 rfl rfl ?_
    refine zJ_geti dX10_add_51 F_X10_64 zW_20 rfl rfl rfl ?_
    refine zJ_iconst dX10_add_54 zc_1 rfl ?_
    refine zJ_iadd dX10_add_55 rfl ?_
    refine zK_puti (la' := [(1284, (rounds_size + (1 : Int32)))]) zW_ok dX10_add_56 F_X10_64 P_10_4 zW_20 rfl rfl rfl ?_
    cases h
    exact zJ_vret dX10_add_59 rfl
  · replace h := it_f hc h
    cases h
    exact zJ_vret dX10_add_7 rfl
set_option maxRecDepth 100000 in
set_option maxHeartbeats 4000000 in
theorem t_X10_moneyAt (l : Launch) (σ : zS) {p1 : Int32} {rounds_money : (Nat → Int32)} {r : Int32} (h : f_X10_moneyAt p1 rounds_money = some r) : zMt l zW 0 mX10_moneyAt σ ([], [(25, rounds_money)], []) [.ref 20, .int p1] (some (.int r)) ([], [(25, rounds_money)], []) := by
  refine zMt_of (ls := [(0, .ref 20), (1, .int p1)]) (by decide) rfl (fun _ => Nat.le_of_ble_eq_true rfl) rfl ?_
  unfold f_X10_moneyAt at h
  refine zJ_iload_n dX10_moneyAt_0 rfl rfl ?_
  refine zJ_iconst dX10_moneyAt_1 zc_1 rfl ?_
  refine zJ_icmp_lt (tgt := 22) dX10_moneyAt_2 (by decide) rfl (fun hc => ?_) (fun hc => ?_)
  · replace h := it_t hc h
    refine zJ_iconst dX10_moneyAt_22 zc_0 rfl ?_
    cases h
    exact zJ_iret dX10_moneyAt_23 rfl rfl
  · replace h := it_f hc h
    refine zJ_iload_n dX10_moneyAt_5 rfl rfl ?_
    refine zJ_bipush dX10_moneyAt_6 zb_6 rfl ?_
    refine zJ_icmp_gt (tgt := 22) dX10_moneyAt_8 (by decide) rfl (fun hc => ?_) (fun hc => ?_)
    · replace h := it_t hc h
      refine zJ_iconst dX10_moneyAt_22 zc_0 rfl ?_
      cases h
      exact zJ_iret dX10_moneyAt_23 rfl rfl
    · replace h := it_f hc h
      refine zJ_aload_n dX10_moneyAt_11 rfl rfl ?_
      refine zJ_getr dX10_moneyAt_12 F_X10_24 zW_20 rfl rfl ?_
      refine zJ_iload_n dX10_moneyAt_15 rfl rfl ?_
      refine zJ_iconst dX10_moneyAt_16 zc_1 rfl ?_
      refine zJ_isub dX10_moneyAt_17 rfl ?_
      obtain ⟨hg, h⟩ := gd_some h
      refine zJ_iald dX10_moneyAt_18 zW_25 (ix_in hg) rfl rfl ?_
      refine zJ_goto (tgt := 23) dX10_moneyAt_19 (by decide) ?_
      cases h
      exact zJ_iret dX10_moneyAt_23 rfl rfl
set_option maxRecDepth 100000 in
set_option maxHeartbeats 4000000 in
theorem t_X10_moneyInAll (l : Launch) (σ : zS) {rounds_money : (Nat → Int32)} {r : Int32} (h : f_X10_moneyInAll rounds_money = some r) : zMt l zW 0 mX10_moneyInAll σ ([], [(25, rounds_money)], []) [.ref 20] (some (.int r)) ([], [(25, rounds_money)], []) := by
  refine zMt_of (ls := [(0, .ref 20)]) (by decide) rfl (fun _ => Nat.le_of_ble_eq_true rfl) rfl ?_
  unfold f_X10_moneyInAll at h
  refine zJ_iconst dX10_moneyInAll_0 zc_0 rfl ?_
  refine zJ_istore_n (ls' := [(1, .int (0 : Int32)), (0, .ref 20)]) dX10_moneyInAll_1 rfl rfl rfl ?_
  refine zJ_iconst dX10_moneyInAll_2 zc_0 rfl ?_
  refine zJ_istore_n (ls' := [(2, .int (0 : Int32)), (1, .int (0 : Int32)), (0, .ref 20)]) dX10_moneyInAll_3 rfl rfl rfl ?_
  have hk4 : ∀ (v1_4x : Int32), k_X10_moneyInAll_4  v1_4x = some r → zJ l zW 0 mX10_moneyInAll σ ([], [(25, rounds_money)], []) 25 [(1, .int v1_4x)] [] (some (.int r)) ([], [(25, rounds_money)], []) := by
    intro v1_4x h
    unfold k_X10_moneyInAll_4 at h
    refine zJ_iload_n dX10_moneyInAll_25 rfl rfl ?_
    cases h
    exact zJ_iret dX10_moneyInAll_26 rfl rfl
  refine zJ_loc (ls' := [(0, .ref 20), (1, .int (0 : Int32)), (2, .int (0 : Int32))]) (zll_c rfl (zll_c rfl (zll_c rfl zll_n))) ?_
  refine ml2_J (fun (v1_4 : Int32) (v2_4 : Int32) => zJ l zW 0 mX10_moneyInAll σ ([], [(25, rounds_money)], []) 4 [(0, .ref 20), (1, .int v1_4), (2, .int v2_4)] [] (some (.int r)) ([], [(25, rounds_money)], [])) (fun rc4 hrc4 v1_4 v2_4 h => ?_) zN _ _ h
  unfold s_X10_moneyInAll_4 at h
  refine zJ_iload_n dX10_moneyInAll_4 rfl rfl ?_
  refine zJ_bipush dX10_moneyInAll_5 zb_6 rfl ?_
  refine zJ_icmp_ge (tgt := 25) dX10_moneyInAll_7 (by decide) rfl (fun hc => ?_) (fun hc => ?_)
  · replace h := it_t hc h
    refine zJ_loc (ls' := [(1, .int v1_4)]) (zll_c rfl zll_n) ?_
    exact hk4 _ h
  · replace h := it_f hc h
    refine zJ_iload_n dX10_moneyInAll_10 rfl rfl ?_
    refine zJ_aload_n dX10_moneyInAll_11 rfl rfl ?_
    refine zJ_getr dX10_moneyInAll_12 F_X10_24 zW_20 rfl rfl ?_
    refine zJ_iload_n dX10_moneyInAll_15 rfl rfl ?_
    obtain ⟨hg, h⟩ := gd_some h
    refine zJ_iald dX10_moneyInAll_16 zW_25 (ix_in hg) rfl rfl ?_
    refine zJ_iadd dX10_moneyInAll_17 rfl ?_
    obtain ⟨v1n1, ev1n1, h⟩ := lt1_some h
    refine zJ_nmi ev1n1 ?_
    refine zJ_istore_n (ls' := [(1, .int v1n1), (0, .ref 20), (2, .int v2_4)]) dX10_moneyInAll_18 rfl rfl rfl ?_
    obtain ⟨v2n2, ev2n2, h⟩ := lt1_some h
    refine zJ_iincN (ls' := [(2, .int v2n2), (1, .int v1n1), (0, .ref 20)]) dX10_moneyInAll_19 rfl rfl zc_1 ev2n2 rfl rfl ?_
    refine zJ_goto (tgt := 4) dX10_moneyInAll_22 (by decide) ?_
    refine zJ_loc (ls' := [(0, .ref 20), (1, .int v1n1), (2, .int v2n2)]) (zll_c rfl (zll_c rfl (zll_c rfl zll_n))) ?_
    exact hrc4 _ _ h
set_option maxRecDepth 100000 in
set_option maxHeartbeats 4000000 in
theorem t_X10_placeFor (l : Launch) (σ : zS) {p1 : Int32} {p2 : Int32} {rounds_size : Int32} {rounds_faults : (Nat → Int32)} {rounds_tenths : (Nat → Int32)} {r : Int32} (h : f_X10_placeFor p1 p2 rounds_size rounds_faults rounds_tenths = some r) : zMt l zW 0 mX10_placeFor σ ([(1284, rounds_size)], [(23, rounds_faults), (24, rounds_tenths)], []) [.ref 20, .int p1, .int p2] (some (.int r)) ([(1284, rounds_size)], [(23, rounds_faults), (24, rounds_tenths)], []) := by
  refine zMt_of (ls := [(0, .ref 20), (1, .int p1), (2, .int p2)]) (by decide) rfl (fun _ => Nat.le_of_ble_eq_true rfl) rfl ?_
  unfold f_X10_placeFor at h
  refine zJ_iconst dX10_placeFor_0 zc_1 rfl ?_
  refine zJ_istore_n (ls' := [(3, .int (1 : Int32)), (0, .ref 20), (1, .int p1), (2, .int p2)]) dX10_placeFor_1 rfl rfl rfl ?_
  refine zJ_iconst dX10_placeFor_2 zc_0 rfl ?_
  refine zJ_istore (ls' := [(4, .int (0 : Int32)), (3, .int (1 : Int32)), (0, .ref 20), (1, .int p1), (2, .int p2)]) dX10_placeFor_3 rfl rfl rfl ?_
  have hk5 : ∀ (v3_5x : Int32), k_X10_placeFor_5  v3_5x = some r → zJ l zW 0 mX10_placeFor σ ([(1284, rounds_size)], [(23, rounds_faults), (24, rounds_tenths)], []) 73 [(3, .int v3_5x)] [] (some (.int r)) ([(1284, rounds_size)], [(23, rounds_faults), (24, rounds_tenths)], []) := by
    intro v3_5x h
    unfold k_X10_placeFor_5 at h
    refine zJ_iload_n dX10_placeFor_73 rfl rfl ?_
    cases h
    exact zJ_iret dX10_placeFor_74 rfl rfl
  refine zJ_loc (ls' := [(0, .ref 20), (1, .int p1), (2, .int p2), (3, .int (1 : Int32)), (4, .int (0 : Int32))]) (zll_c rfl (zll_c rfl (zll_c rfl (zll_c rfl (zll_c rfl zll_n))))) ?_
  refine ml2_J (fun (v3_5 : Int32) (v4_5 : Int32) => zJ l zW 0 mX10_placeFor σ ([(1284, rounds_size)], [(23, rounds_faults), (24, rounds_tenths)], []) 5 [(0, .ref 20), (1, .int p1), (2, .int p2), (3, .int v3_5), (4, .int v4_5)] [] (some (.int r)) ([(1284, rounds_size)], [(23, rounds_faults), (24, rounds_tenths)], [])) (fun rc5 hrc5 v3_5 v4_5 h => ?_) zN _ _ h
  unfold s_X10_placeFor_5 at h
  refine zJ_iload dX10_placeFor_5 rfl rfl ?_
  refine zJ_aload_n dX10_placeFor_7 rfl rfl ?_
  refine zJ_geti dX10_placeFor_8 F_X10_64 zW_20 rfl rfl rfl ?_
  refine zJ_icmp_ge (tgt := 73) dX10_placeFor_11 (by decide) rfl (fun hc => ?_) (fun hc => ?_)
  · replace h := it_t hc h
    refine zJ_loc (ls' := [(3, .int v3_5)]) (zll_c rfl zll_n) ?_
    exact hk5 _ h
  · replace h := it_f hc h
    refine zJ_aload_n dX10_placeFor_14 rfl rfl ?_
    refine zJ_getr dX10_placeFor_15 F_X10_18 zW_20 rfl rfl ?_
    refine zJ_iload dX10_placeFor_18 rfl rfl ?_
    obtain ⟨hg, h⟩ := gd_some h
    refine zJ_iald dX10_placeFor_20 zW_23 (ix_in hg) rfl rfl ?_
    refine zJ_iload_n dX10_placeFor_21 rfl rfl ?_
    refine zJ_icmp_lt (tgt := 47) dX10_placeFor_22 (by decide) rfl (fun hc => ?_) (fun hc => ?_)
    · replace h := it_t hc h
      refine zJ_iconst dX10_placeFor_47 zc_1 rfl ?_
      refine zJ_goto (tgt := 52) dX10_placeFor_48 (by decide) ?_
      refine zJ_istore (ls' := [(5, .int (1 : Int32)), (0, .ref 20), (1, .int p1), (2, .int p2), (3, .int v3_5), (4, .int v4_5)]) dX10_placeFor_52 rfl rfl rfl ?_
      refine zJ_iload_n dX10_placeFor_54 rfl rfl ?_
      refine zJ_iload dX10_placeFor_55 rfl rfl ?_
      refine zJ_if_eq (tgt := 64) dX10_placeFor_57 (by decide) rfl (fun hc => ?_) (fun hc => ?_)
      · exact absurd hc (by decide)
      · refine zJ_iconst dX10_placeFor_60 zc_1 rfl ?_
        refine zJ_goto (tgt := 65) dX10_placeFor_61 (by decide) ?_
        refine zJ_iadd dX10_placeFor_65 rfl ?_
        obtain ⟨v3n1, ev3n1, h⟩ := lt1_some h
        refine zJ_nmi ev3n1 ?_
        refine zJ_istore_n (ls' := [(3, .int v3n1), (5, .int (1 : Int32)), (0, .ref 20), (1, .int p1), (2, .int p2), (4, .int v4_5)]) dX10_placeFor_66 rfl rfl rfl ?_
        obtain ⟨v4n2, ev4n2, h⟩ := lt1_some h
        refine zJ_iincN (ls' := [(4, .int v4n2), (3, .int v3n1), (5, .int (1 : Int32)), (0, .ref 20), (1, .int p1), (2, .int p2)]) dX10_placeFor_67 rfl rfl zc_1 ev4n2 rfl rfl ?_
        refine zJ_goto (tgt := 5) dX10_placeFor_70 (by decide) ?_
        refine zJ_loc (ls' := [(0, .ref 20), (1, .int p1), (2, .int p2), (3, .int v3n1), (4, .int v4n2)]) (zll_c rfl (zll_c rfl (zll_c rfl (zll_c rfl (zll_c rfl zll_n))))) ?_
        exact hrc5 _ _ h
    · replace h := it_f hc h
      refine zJ_aload_n dX10_placeFor_25 rfl rfl ?_
      refine zJ_getr dX10_placeFor_26 F_X10_18 zW_20 rfl rfl ?_
      refine zJ_iload dX10_placeFor_29 rfl rfl ?_
      obtain ⟨hg, h⟩ := gd_some h
      refine zJ_iald dX10_placeFor_31 zW_23 (ix_in hg) rfl rfl ?_
      refine zJ_iload_n dX10_placeFor_32 rfl rfl ?_
      refine zJ_icmp_ne (tgt := 51) dX10_placeFor_33 (by decide) rfl (fun hc => ?_) (fun hc => ?_)
      · replace h := it_f hc h
        refine zJ_iconst dX10_placeFor_51 zc_0 rfl ?_
        refine zJ_istore (ls' := [(5, .int (0 : Int32)), (0, .ref 20), (1, .int p1), (2, .int p2), (3, .int v3_5), (4, .int v4_5)]) dX10_placeFor_52 rfl rfl rfl ?_
        refine zJ_iload_n dX10_placeFor_54 rfl rfl ?_
        refine zJ_iload dX10_placeFor_55 rfl rfl ?_
        refine zJ_if_eq (tgt := 64) dX10_placeFor_57 (by decide) rfl (fun hc => ?_) (fun hc => ?_)
        · refine zJ_iconst dX10_placeFor_64 zc_0 rfl ?_
          refine zJ_iadd dX10_placeFor_65 rfl ?_
          obtain ⟨v3n3, ev3n3, h⟩ := lt1_some h
          refine zJ_nmi ev3n3 ?_
          refine zJ_istore_n (ls' := [(3, .int v3n3), (5, .int (0 : Int32)), (0, .ref 20), (1, .int p1), (2, .int p2), (4, .int v4_5)]) dX10_placeFor_66 rfl rfl rfl ?_
          obtain ⟨v4n4, ev4n4, h⟩ := lt1_some h
          refine zJ_iincN (ls' := [(4, .int v4n4), (3, .int v3n3), (5, .int (0 : Int32)), (0, .ref 20), (1, .int p1), (2, .int p2)]) dX10_placeFor_67 rfl rfl zc_1 ev4n4 rfl rfl ?_
          refine zJ_goto (tgt := 5) dX10_placeFor_70 (by decide) ?_
          refine zJ_loc (ls' := [(0, .ref 20), (1, .int p1), (2, .int p2), (3, .int v3n3), (4, .int v4n4)]) (zll_c rfl (zll_c rfl (zll_c rfl (zll_c rfl (zll_c rfl zll_n))))) ?_
          exact hrc5 _ _ h
        · exact absurd hc (by decide)
      · replace h := it_t hc h
        refine zJ_aload_n dX10_placeFor_36 rfl rfl ?_
        refine zJ_getr dX10_placeFor_37 F_X10_21 zW_20 rfl rfl ?_
        refine zJ_iload dX10_placeFor_40 rfl rfl ?_
        obtain ⟨hg, h⟩ := gd_some h
        refine zJ_iald dX10_placeFor_42 zW_24 (ix_in hg) rfl rfl ?_
        refine zJ_iload_n dX10_placeFor_43 rfl rfl ?_
        refine zJ_icmp_gt (tgt := 51) dX10_placeFor_44 (by decide) rfl (fun hc => ?_) (fun hc => ?_)
        · replace h := it_t hc h
          refine zJ_iconst dX10_placeFor_51 zc_0 rfl ?_
          refine zJ_istore (ls' := [(5, .int (0 : Int32)), (0, .ref 20), (1, .int p1), (2, .int p2), (3, .int v3_5), (4, .int v4_5)]) dX10_placeFor_52 rfl rfl rfl ?_
          refine zJ_iload_n dX10_placeFor_54 rfl rfl ?_
          refine zJ_iload dX10_placeFor_55 rfl rfl ?_
          refine zJ_if_eq (tgt := 64) dX10_placeFor_57 (by decide) rfl (fun hc => ?_) (fun hc => ?_)
          · refine zJ_iconst dX10_placeFor_64 zc_0 rfl ?_
            refine zJ_iadd dX10_placeFor_65 rfl ?_
            obtain ⟨v3n5, ev3n5, h⟩ := lt1_some h
            refine zJ_nmi ev3n5 ?_
            refine zJ_istore_n (ls' := [(3, .int v3n5), (5, .int (0 : Int32)), (0, .ref 20), (1, .int p1), (2, .int p2), (4, .int v4_5)]) dX10_placeFor_66 rfl rfl rfl ?_
            obtain ⟨v4n6, ev4n6, h⟩ := lt1_some h
            refine zJ_iincN (ls' := [(4, .int v4n6), (3, .int v3n5), (5, .int (0 : Int32)), (0, .ref 20), (1, .int p1), (2, .int p2)]) dX10_placeFor_67 rfl rfl zc_1 ev4n6 rfl rfl ?_
            refine zJ_goto (tgt := 5) dX10_placeFor_70 (by decide) ?_
            refine zJ_loc (ls' := [(0, .ref 20), (1, .int p1), (2, .int p2), (3, .int v3n5), (4, .int v4n6)]) (zll_c rfl (zll_c rfl (zll_c rfl (zll_c rfl (zll_c rfl zll_n))))) ?_
            exact hrc5 _ _ h
          · exact absurd hc (by decide)
        · replace h := it_f hc h
          refine zJ_iconst dX10_placeFor_47 zc_1 rfl ?_
          refine zJ_goto (tgt := 52) dX10_placeFor_48 (by decide) ?_
          refine zJ_istore (ls' := [(5, .int (1 : Int32)), (0, .ref 20), (1, .int p1), (2, .int p2), (3, .int v3_5), (4, .int v4_5)]) dX10_placeFor_52 rfl rfl rfl ?_
          refine zJ_iload_n dX10_placeFor_54 rfl rfl ?_
          refine zJ_iload dX10_placeFor_55 rfl rfl ?_
          refine zJ_if_eq (tgt := 64) dX10_placeFor_57 (by decide) rfl (fun hc => ?_) (fun hc => ?_)
          · exact absurd hc (by decide)
          · refine zJ_iconst dX10_placeFor_60 zc_1 rfl ?_
            refine zJ_goto (tgt := 65) dX10_placeFor_61 (by decide) ?_
            refine zJ_iadd dX10_placeFor_65 rfl ?_
            obtain ⟨v3n7, ev3n7, h⟩ := lt1_some h
            refine zJ_nmi ev3n7 ?_
            refine zJ_istore_n (ls' := [(3, .int v3n7), (5, .int (1 : Int32)), (0, .ref 20), (1, .int p1), (2, .int p2), (4, .int v4_5)]) dX10_placeFor_66 rfl rfl rfl ?_
            obtain ⟨v4n8, ev4n8, h⟩ := lt1_some h
            refine zJ_iincN (ls' := [(4, .int v4n8), (3, .int v3n7), (5, .int (1 : Int32)), (0, .ref 20), (1, .int p1), (2, .int p2)]) dX10_placeFor_67 rfl rfl zc_1 ev4n8 rfl rfl ?_
            refine zJ_goto (tgt := 5) dX10_placeFor_70 (by decide) ?_
            refine zJ_loc (ls' := [(0, .ref 20), (1, .int p1), (2, .int p2), (3, .int v3n7), (4, .int v4n8)]) (zll_c rfl (zll_c rfl (zll_c rfl (zll_c rfl (zll_c rfl zll_n))))) ?_
            exact hrc5 _ _ h
set_option maxRecDepth 100000 in
set_option maxHeartbeats 4000000 in
theorem t_X10_placeOf_newFaults (l : Launch) (σ : zS) {p1 : Int32} {rounds_size : Int32} {rounds_tenths : (Nat → Int32)} {newFaults : (Nat → Int32)} {r : Int32} (h : f_X10_placeOf_newFaults p1 rounds_size rounds_tenths newFaults = some r) : zMt l zW 0 mX10_placeOf σ ([(1284, rounds_size)], [(24, rounds_tenths), (53, newFaults)], []) [.ref 20, .int p1, .ref 53] (some (.int r)) ([(1284, rounds_size)], [(24, rounds_tenths), (53, newFaults)], []) := by
  refine zMt_of (ls := [(0, .ref 20), (1, .int p1), (2, .ref 53)]) (by decide) rfl (fun _ => Nat.le_of_ble_eq_true rfl) rfl ?_
  unfold f_X10_placeOf_newFaults at h
  refine zJ_iconst dX10_placeOf_0 zc_1 rfl ?_
  refine zJ_istore_n (ls' := [(3, .int (1 : Int32)), (0, .ref 20), (1, .int p1), (2, .ref 53)]) dX10_placeOf_1 rfl rfl rfl ?_
  refine zJ_iconst dX10_placeOf_2 zc_0 rfl ?_
  refine zJ_istore (ls' := [(4, .int (0 : Int32)), (3, .int (1 : Int32)), (0, .ref 20), (1, .int p1), (2, .ref 53)]) dX10_placeOf_3 rfl rfl rfl ?_
  have hk5 : ∀ (v3_5x : Int32), k_X10_placeOf_newFaults_5  v3_5x = some r → zJ l zW 0 mX10_placeOf σ ([(1284, rounds_size)], [(24, rounds_tenths), (53, newFaults)], []) 108 [(3, .int v3_5x)] [] (some (.int r)) ([(1284, rounds_size)], [(24, rounds_tenths), (53, newFaults)], []) := by
    intro v3_5x h
    unfold k_X10_placeOf_newFaults_5 at h
    refine zJ_iload_n dX10_placeOf_108 rfl rfl ?_
    cases h
    exact zJ_iret dX10_placeOf_109 rfl rfl
  refine zJ_loc (ls' := [(0, .ref 20), (1, .int p1), (2, .ref 53), (3, .int (1 : Int32)), (4, .int (0 : Int32))]) (zll_c rfl (zll_c rfl (zll_c rfl (zll_c rfl (zll_c rfl zll_n))))) ?_
  refine ml2_J (fun (v3_5 : Int32) (v4_5 : Int32) => zJ l zW 0 mX10_placeOf σ ([(1284, rounds_size)], [(24, rounds_tenths), (53, newFaults)], []) 5 [(0, .ref 20), (1, .int p1), (2, .ref 53), (3, .int v3_5), (4, .int v4_5)] [] (some (.int r)) ([(1284, rounds_size)], [(24, rounds_tenths), (53, newFaults)], [])) (fun rc5 hrc5 v3_5 v4_5 h => ?_) zN _ _ h
  unfold s_X10_placeOf_newFaults_5 at h
  refine zJ_iload dX10_placeOf_5 rfl rfl ?_
  refine zJ_aload_n dX10_placeOf_7 rfl rfl ?_
  refine zJ_geti dX10_placeOf_8 F_X10_64 zW_20 rfl rfl rfl ?_
  refine zJ_icmp_ge (tgt := 108) dX10_placeOf_11 (by decide) rfl (fun hc => ?_) (fun hc => ?_)
  · replace h := it_t hc h
    refine zJ_loc (ls' := [(3, .int v3_5)]) (zll_c rfl zll_n) ?_
    exact hk5 _ h
  · replace h := it_f hc h
    refine zJ_aload_n dX10_placeOf_14 rfl rfl ?_
    refine zJ_iload dX10_placeOf_15 rfl rfl ?_
    obtain ⟨hg, h⟩ := gd_some h
    refine zJ_iald dX10_placeOf_17 zW_53 (ix_in hg) rfl rfl ?_
    refine zJ_aload_n dX10_placeOf_18 rfl rfl ?_
    refine zJ_iload_n dX10_placeOf_19 rfl rfl ?_
    obtain ⟨hg, h⟩ := gd_some h
    refine zJ_iald dX10_placeOf_20 zW_53 (ix_in hg) rfl rfl ?_
    refine zJ_icmp_eq (tgt := 45) dX10_placeOf_21 (by decide) rfl (fun hc => ?_) (fun hc => ?_)
    · replace h := it_t hc h
      refine zJ_aload_n dX10_placeOf_45 rfl rfl ?_
      refine zJ_getr dX10_placeOf_46 F_X10_21 zW_20 rfl rfl ?_
      refine zJ_iload dX10_placeOf_49 rfl rfl ?_
      obtain ⟨hg, h⟩ := gd_some h
      refine zJ_iald dX10_placeOf_51 zW_24 (ix_in hg) rfl rfl ?_
      refine zJ_aload_n dX10_placeOf_52 rfl rfl ?_
      refine zJ_getr dX10_placeOf_53 F_X10_21 zW_20 rfl rfl ?_
      refine zJ_iload_n dX10_placeOf_56 rfl rfl ?_
      obtain ⟨hg, h⟩ := gd_some h
      refine zJ_iald dX10_placeOf_57 zW_24 (ix_in hg) rfl rfl ?_
      refine zJ_icmp_eq (tgt := 88) dX10_placeOf_58 (by decide) rfl (fun hc => ?_) (fun hc => ?_)
      · replace h := it_t hc h
        refine zJ_iload_n dX10_placeOf_88 rfl rfl ?_
        refine zJ_iload dX10_placeOf_89 rfl rfl ?_
        refine zJ_iload_n dX10_placeOf_91 rfl rfl ?_
        refine zJ_icmp_ge (tgt := 99) dX10_placeOf_92 (by decide) rfl (fun hc => ?_) (fun hc => ?_)
        · replace h := it_t hc h
          refine zJ_iconst dX10_placeOf_99 zc_0 rfl ?_
          refine zJ_iadd dX10_placeOf_100 rfl ?_
          obtain ⟨v3n1, ev3n1, h⟩ := lt1_some h
          refine zJ_nmi ev3n1 ?_
          refine zJ_istore_n (ls' := [(3, .int v3n1), (0, .ref 20), (1, .int p1), (2, .ref 53), (4, .int v4_5)]) dX10_placeOf_101 rfl rfl rfl ?_
          obtain ⟨v4n2, ev4n2, h⟩ := lt1_some h
          refine zJ_iincN (ls' := [(4, .int v4n2), (3, .int v3n1), (0, .ref 20), (1, .int p1), (2, .ref 53)]) dX10_placeOf_102 rfl rfl zc_1 ev4n2 rfl rfl ?_
          refine zJ_goto (tgt := 5) dX10_placeOf_105 (by decide) ?_
          refine zJ_loc (ls' := [(0, .ref 20), (1, .int p1), (2, .ref 53), (3, .int v3n1), (4, .int v4n2)]) (zll_c rfl (zll_c rfl (zll_c rfl (zll_c rfl (zll_c rfl zll_n))))) ?_
          exact hrc5 _ _ h
        · replace h := it_f hc h
          refine zJ_iconst dX10_placeOf_95 zc_1 rfl ?_
          refine zJ_goto (tgt := 100) dX10_placeOf_96 (by decide) ?_
          refine zJ_iadd dX10_placeOf_100 rfl ?_
          obtain ⟨v3n3, ev3n3, h⟩ := lt1_some h
          refine zJ_nmi ev3n3 ?_
          refine zJ_istore_n (ls' := [(3, .int v3n3), (0, .ref 20), (1, .int p1), (2, .ref 53), (4, .int v4_5)]) dX10_placeOf_101 rfl rfl rfl ?_
          obtain ⟨v4n4, ev4n4, h⟩ := lt1_some h
          refine zJ_iincN (ls' := [(4, .int v4n4), (3, .int v3n3), (0, .ref 20), (1, .int p1), (2, .ref 53)]) dX10_placeOf_102 rfl rfl zc_1 ev4n4 rfl rfl ?_
          refine zJ_goto (tgt := 5) dX10_placeOf_105 (by decide) ?_
          refine zJ_loc (ls' := [(0, .ref 20), (1, .int p1), (2, .ref 53), (3, .int v3n3), (4, .int v4n4)]) (zll_c rfl (zll_c rfl (zll_c rfl (zll_c rfl (zll_c rfl zll_n))))) ?_
          exact hrc5 _ _ h
      · replace h := it_f hc h
        refine zJ_iload_n dX10_placeOf_61 rfl rfl ?_
        refine zJ_aload_n dX10_placeOf_62 rfl rfl ?_
        refine zJ_getr dX10_placeOf_63 F_X10_21 zW_20 rfl rfl ?_
        refine zJ_iload dX10_placeOf_66 rfl rfl ?_
        obtain ⟨hg, h⟩ := gd_some h
        refine zJ_iald dX10_placeOf_68 zW_24 (ix_in hg) rfl rfl ?_
        refine zJ_aload_n dX10_placeOf_69 rfl rfl ?_
        refine zJ_getr dX10_placeOf_70 F_X10_21 zW_20 rfl rfl ?_
        refine zJ_iload_n dX10_placeOf_73 rfl rfl ?_
        obtain ⟨hg, h⟩ := gd_some h
        refine zJ_iald dX10_placeOf_74 zW_24 (ix_in hg) rfl rfl ?_
        refine zJ_icmp_ge (tgt := 82) dX10_placeOf_75 (by decide) rfl (fun hc => ?_) (fun hc => ?_)
        · replace h := it_t hc h
          refine zJ_iconst dX10_placeOf_82 zc_0 rfl ?_
          refine zJ_iadd dX10_placeOf_83 rfl ?_
          obtain ⟨v3n5, ev3n5, h⟩ := lt1_some h
          refine zJ_nmi ev3n5 ?_
          refine zJ_istore_n (ls' := [(3, .int v3n5), (0, .ref 20), (1, .int p1), (2, .ref 53), (4, .int v4_5)]) dX10_placeOf_84 rfl rfl rfl ?_
          refine zJ_goto (tgt := 102) dX10_placeOf_85 (by decide) ?_
          obtain ⟨v4n6, ev4n6, h⟩ := lt1_some h
          refine zJ_iincN (ls' := [(4, .int v4n6), (3, .int v3n5), (0, .ref 20), (1, .int p1), (2, .ref 53)]) dX10_placeOf_102 rfl rfl zc_1 ev4n6 rfl rfl ?_
          refine zJ_goto (tgt := 5) dX10_placeOf_105 (by decide) ?_
          refine zJ_loc (ls' := [(0, .ref 20), (1, .int p1), (2, .ref 53), (3, .int v3n5), (4, .int v4n6)]) (zll_c rfl (zll_c rfl (zll_c rfl (zll_c rfl (zll_c rfl zll_n))))) ?_
          exact hrc5 _ _ h
        · replace h := it_f hc h
          refine zJ_iconst dX10_placeOf_78 zc_1 rfl ?_
          refine zJ_goto (tgt := 83) dX10_placeOf_79 (by decide) ?_
          refine zJ_iadd dX10_placeOf_83 rfl ?_
          obtain ⟨v3n7, ev3n7, h⟩ := lt1_some h
          refine zJ_nmi ev3n7 ?_
          refine zJ_istore_n (ls' := [(3, .int v3n7), (0, .ref 20), (1, .int p1), (2, .ref 53), (4, .int v4_5)]) dX10_placeOf_84 rfl rfl rfl ?_
          refine zJ_goto (tgt := 102) dX10_placeOf_85 (by decide) ?_
          obtain ⟨v4n8, ev4n8, h⟩ := lt1_some h
          refine zJ_iincN (ls' := [(4, .int v4n8), (3, .int v3n7), (0, .ref 20), (1, .int p1), (2, .ref 53)]) dX10_placeOf_102 rfl rfl zc_1 ev4n8 rfl rfl ?_
          refine zJ_goto (tgt := 5) dX10_placeOf_105 (by decide) ?_
          refine zJ_loc (ls' := [(0, .ref 20), (1, .int p1), (2, .ref 53), (3, .int v3n7), (4, .int v4n8)]) (zll_c rfl (zll_c rfl (zll_c rfl (zll_c rfl (zll_c rfl zll_n))))) ?_
          exact hrc5 _ _ h
    · replace h := it_f hc h
      refine zJ_iload_n dX10_placeOf_24 rfl rfl ?_
      refine zJ_aload_n dX10_placeOf_25 rfl rfl ?_
      refine zJ_iload dX10_placeOf_26 rfl rfl ?_
      obtain ⟨hg, h⟩ := gd_some h
      refine zJ_iald dX10_placeOf_28 zW_53 (ix_in hg) rfl rfl ?_
      refine zJ_aload_n dX10_placeOf_29 rfl rfl ?_
      refine zJ_iload_n dX10_placeOf_30 rfl rfl ?_
      obtain ⟨hg, h⟩ := gd_some h
      refine zJ_iald dX10_placeOf_31 zW_53 (ix_in hg) rfl rfl ?_
      refine zJ_icmp_ge (tgt := 39) dX10_placeOf_32 (by decide) rfl (fun hc => ?_) (fun hc => ?_)
      · replace h := it_t hc h
        refine zJ_iconst dX10_placeOf_39 zc_0 rfl ?_
        refine zJ_iadd dX10_placeOf_40 rfl ?_
        obtain ⟨v3n9, ev3n9, h⟩ := lt1_some h
        refine zJ_nmi ev3n9 ?_
        refine zJ_istore_n (ls' := [(3, .int v3n9), (0, .ref 20), (1, .int p1), (2, .ref 53), (4, .int v4_5)]) dX10_placeOf_41 rfl rfl rfl ?_
        refine zJ_goto (tgt := 102) dX10_placeOf_42 (by decide) ?_
        obtain ⟨v4n10, ev4n10, h⟩ := lt1_some h
        refine zJ_iincN (ls' := [(4, .int v4n10), (3, .int v3n9), (0, .ref 20), (1, .int p1), (2, .ref 53)]) dX10_placeOf_102 rfl rfl zc_1 ev4n10 rfl rfl ?_
        refine zJ_goto (tgt := 5) dX10_placeOf_105 (by decide) ?_
        refine zJ_loc (ls' := [(0, .ref 20), (1, .int p1), (2, .ref 53), (3, .int v3n9), (4, .int v4n10)]) (zll_c rfl (zll_c rfl (zll_c rfl (zll_c rfl (zll_c rfl zll_n))))) ?_
        exact hrc5 _ _ h
      · replace h := it_f hc h
        refine zJ_iconst dX10_placeOf_35 zc_1 rfl ?_
        refine zJ_goto (tgt := 40) dX10_placeOf_36 (by decide) ?_
        refine zJ_iadd dX10_placeOf_40 rfl ?_
        obtain ⟨v3n11, ev3n11, h⟩ := lt1_some h
        refine zJ_nmi ev3n11 ?_
        refine zJ_istore_n (ls' := [(3, .int v3n11), (0, .ref 20), (1, .int p1), (2, .ref 53), (4, .int v4_5)]) dX10_placeOf_41 rfl rfl rfl ?_
        refine zJ_goto (tgt := 102) dX10_placeOf_42 (by decide) ?_
        obtain ⟨v4n12, ev4n12, h⟩ := lt1_some h
        refine zJ_iincN (ls' := [(4, .int v4n12), (3, .int v3n11), (0, .ref 20), (1, .int p1), (2, .ref 53)]) dX10_placeOf_102 rfl rfl zc_1 ev4n12 rfl rfl ?_
        refine zJ_goto (tgt := 5) dX10_placeOf_105 (by decide) ?_
        refine zJ_loc (ls' := [(0, .ref 20), (1, .int p1), (2, .ref 53), (3, .int v3n11), (4, .int v4n12)]) (zll_c rfl (zll_c rfl (zll_c rfl (zll_c rfl (zll_c rfl zll_n))))) ?_
        exact hrc5 _ _ h
set_option maxRecDepth 100000 in
set_option maxHeartbeats 4000000 in
theorem t_X10_placeOf_rounds_faults (l : Launch) (σ : zS) {p1 : Int32} {rounds_size : Int32} {rounds_faults : (Nat → Int32)} {rounds_tenths : (Nat → Int32)} {r : Int32} (h : f_X10_placeOf_rounds_faults p1 rounds_size rounds_faults rounds_tenths = some r) : zMt l zW 0 mX10_placeOf σ ([(1284, rounds_size)], [(23, rounds_faults), (24, rounds_tenths)], []) [.ref 20, .int p1, .ref 23] (some (.int r)) ([(1284, rounds_size)], [(23, rounds_faults), (24, rounds_tenths)], []) := by
  refine zMt_of (ls := [(0, .ref 20), (1, .int p1), (2, .ref 23)]) (by decide) rfl (fun _ => Nat.le_of_ble_eq_true rfl) rfl ?_
  unfold f_X10_placeOf_rounds_faults at h
  refine zJ_iconst dX10_placeOf_0 zc_1 rfl ?_
  refine zJ_istore_n (ls' := [(3, .int (1 : Int32)), (0, .ref 20), (1, .int p1), (2, .ref 23)]) dX10_placeOf_1 rfl rfl rfl ?_
  refine zJ_iconst dX10_placeOf_2 zc_0 rfl ?_
  refine zJ_istore (ls' := [(4, .int (0 : Int32)), (3, .int (1 : Int32)), (0, .ref 20), (1, .int p1), (2, .ref 23)]) dX10_placeOf_3 rfl rfl rfl ?_
  have hk5 : ∀ (v3_5x : Int32), k_X10_placeOf_rounds_faults_5  v3_5x = some r → zJ l zW 0 mX10_placeOf σ ([(1284, rounds_size)], [(23, rounds_faults), (24, rounds_tenths)], []) 108 [(3, .int v3_5x)] [] (some (.int r)) ([(1284, rounds_size)], [(23, rounds_faults), (24, rounds_tenths)], []) := by
    intro v3_5x h
    unfold k_X10_placeOf_rounds_faults_5 at h
    refine zJ_iload_n dX10_placeOf_108 rfl rfl ?_
    cases h
    exact zJ_iret dX10_placeOf_109 rfl rfl
  refine zJ_loc (ls' := [(0, .ref 20), (1, .int p1), (2, .ref 23), (3, .int (1 : Int32)), (4, .int (0 : Int32))]) (zll_c rfl (zll_c rfl (zll_c rfl (zll_c rfl (zll_c rfl zll_n))))) ?_
  refine ml2_J (fun (v3_5 : Int32) (v4_5 : Int32) => zJ l zW 0 mX10_placeOf σ ([(1284, rounds_size)], [(23, rounds_faults), (24, rounds_tenths)], []) 5 [(0, .ref 20), (1, .int p1), (2, .ref 23), (3, .int v3_5), (4, .int v4_5)] [] (some (.int r)) ([(1284, rounds_size)], [(23, rounds_faults), (24, rounds_tenths)], [])) (fun rc5 hrc5 v3_5 v4_5 h => ?_) zN _ _ h
  unfold s_X10_placeOf_rounds_faults_5 at h
  refine zJ_iload dX10_placeOf_5 rfl rfl ?_
  refine zJ_aload_n dX10_placeOf_7 rfl rfl ?_
  refine zJ_geti dX10_placeOf_8 F_X10_64 zW_20 rfl rfl rfl ?_
  refine zJ_icmp_ge (tgt := 108) dX10_placeOf_11 (by decide) rfl (fun hc => ?_) (fun hc => ?_)
  · replace h := it_t hc h
    refine zJ_loc (ls' := [(3, .int v3_5)]) (zll_c rfl zll_n) ?_
    exact hk5 _ h
  · replace h := it_f hc h
    refine zJ_aload_n dX10_placeOf_14 rfl rfl ?_
    refine zJ_iload dX10_placeOf_15 rfl rfl ?_
    obtain ⟨hg, h⟩ := gd_some h
    refine zJ_iald dX10_placeOf_17 zW_23 (ix_in hg) rfl rfl ?_
    refine zJ_aload_n dX10_placeOf_18 rfl rfl ?_
    refine zJ_iload_n dX10_placeOf_19 rfl rfl ?_
    obtain ⟨hg, h⟩ := gd_some h
    refine zJ_iald dX10_placeOf_20 zW_23 (ix_in hg) rfl rfl ?_
    refine zJ_icmp_eq (tgt := 45) dX10_placeOf_21 (by decide) rfl (fun hc => ?_) (fun hc => ?_)
    · replace h := it_t hc h
      refine zJ_aload_n dX10_placeOf_45 rfl rfl ?_
      refine zJ_getr dX10_placeOf_46 F_X10_21 zW_20 rfl rfl ?_
      refine zJ_iload dX10_placeOf_49 rfl rfl ?_
      obtain ⟨hg, h⟩ := gd_some h
      refine zJ_iald dX10_placeOf_51 zW_24 (ix_in hg) rfl rfl ?_
      refine zJ_aload_n dX10_placeOf_52 rfl rfl ?_
      refine zJ_getr dX10_placeOf_53 F_X10_21 zW_20 rfl rfl ?_
      refine zJ_iload_n dX10_placeOf_56 rfl rfl ?_
      obtain ⟨hg, h⟩ := gd_some h
      refine zJ_iald dX10_placeOf_57 zW_24 (ix_in hg) rfl rfl ?_
      refine zJ_icmp_eq (tgt := 88) dX10_placeOf_58 (by decide) rfl (fun hc => ?_) (fun hc => ?_)
      · replace h := it_t hc h
        refine zJ_iload_n dX10_placeOf_88 rfl rfl ?_
        refine zJ_iload dX10_placeOf_89 rfl rfl ?_
        refine zJ_iload_n dX10_placeOf_91 rfl rfl ?_
        refine zJ_icmp_ge (tgt := 99) dX10_placeOf_92 (by decide) rfl (fun hc => ?_) (fun hc => ?_)
        · replace h := it_t hc h
          refine zJ_iconst dX10_placeOf_99 zc_0 rfl ?_
          refine zJ_iadd dX10_placeOf_100 rfl ?_
          obtain ⟨v3n1, ev3n1, h⟩ := lt1_some h
          refine zJ_nmi ev3n1 ?_
          refine zJ_istore_n (ls' := [(3, .int v3n1), (0, .ref 20), (1, .int p1), (2, .ref 23), (4, .int v4_5)]) dX10_placeOf_101 rfl rfl rfl ?_
          obtain ⟨v4n2, ev4n2, h⟩ := lt1_some h
          refine zJ_iincN (ls' := [(4, .int v4n2), (3, .int v3n1), (0, .ref 20), (1, .int p1), (2, .ref 23)]) dX10_placeOf_102 rfl rfl zc_1 ev4n2 rfl rfl ?_
          refine zJ_goto (tgt := 5) dX10_placeOf_105 (by decide) ?_
          refine zJ_loc (ls' := [(0, .ref 20), (1, .int p1), (2, .ref 23), (3, .int v3n1), (4, .int v4n2)]) (zll_c rfl (zll_c rfl (zll_c rfl (zll_c rfl (zll_c rfl zll_n))))) ?_
          exact hrc5 _ _ h
        · replace h := it_f hc h
          refine zJ_iconst dX10_placeOf_95 zc_1 rfl ?_
          refine zJ_goto (tgt := 100) dX10_placeOf_96 (by decide) ?_
          refine zJ_iadd dX10_placeOf_100 rfl ?_
          obtain ⟨v3n3, ev3n3, h⟩ := lt1_some h
          refine zJ_nmi ev3n3 ?_
          refine zJ_istore_n (ls' := [(3, .int v3n3), (0, .ref 20), (1, .int p1), (2, .ref 23), (4, .int v4_5)]) dX10_placeOf_101 rfl rfl rfl ?_
          obtain ⟨v4n4, ev4n4, h⟩ := lt1_some h
          refine zJ_iincN (ls' := [(4, .int v4n4), (3, .int v3n3), (0, .ref 20), (1, .int p1), (2, .ref 23)]) dX10_placeOf_102 rfl rfl zc_1 ev4n4 rfl rfl ?_
          refine zJ_goto (tgt := 5) dX10_placeOf_105 (by decide) ?_
          refine zJ_loc (ls' := [(0, .ref 20), (1, .int p1), (2, .ref 23), (3, .int v3n3), (4, .int v4n4)]) (zll_c rfl (zll_c rfl (zll_c rfl (zll_c rfl (zll_c rfl zll_n))))) ?_
          exact hrc5 _ _ h
      · replace h := it_f hc h
        refine zJ_iload_n dX10_placeOf_61 rfl rfl ?_
        refine zJ_aload_n dX10_placeOf_62 rfl rfl ?_
        refine zJ_getr dX10_placeOf_63 F_X10_21 zW_20 rfl rfl ?_
        refine zJ_iload dX10_placeOf_66 rfl rfl ?_
        obtain ⟨hg, h⟩ := gd_some h
        refine zJ_iald dX10_placeOf_68 zW_24 (ix_in hg) rfl rfl ?_
        refine zJ_aload_n dX10_placeOf_69 rfl rfl ?_
        refine zJ_getr dX10_placeOf_70 F_X10_21 zW_20 rfl rfl ?_
        refine zJ_iload_n dX10_placeOf_73 rfl rfl ?_
        obtain ⟨hg, h⟩ := gd_some h
        refine zJ_iald dX10_placeOf_74 zW_24 (ix_in hg) rfl rfl ?_
        refine zJ_icmp_ge (tgt := 82) dX10_placeOf_75 (by decide) rfl (fun hc => ?_) (fun hc => ?_)
        · replace h := it_t hc h
          refine zJ_iconst dX10_placeOf_82 zc_0 rfl ?_
          refine zJ_iadd dX10_placeOf_83 rfl ?_
          obtain ⟨v3n5, ev3n5, h⟩ := lt1_some h
          refine zJ_nmi ev3n5 ?_
          refine zJ_istore_n (ls' := [(3, .int v3n5), (0, .ref 20), (1, .int p1), (2, .ref 23), (4, .int v4_5)]) dX10_placeOf_84 rfl rfl rfl ?_
          refine zJ_goto (tgt := 102) dX10_placeOf_85 (by decide) ?_
          obtain ⟨v4n6, ev4n6, h⟩ := lt1_some h
          refine zJ_iincN (ls' := [(4, .int v4n6), (3, .int v3n5), (0, .ref 20), (1, .int p1), (2, .ref 23)]) dX10_placeOf_102 rfl rfl zc_1 ev4n6 rfl rfl ?_
          refine zJ_goto (tgt := 5) dX10_placeOf_105 (by decide) ?_
          refine zJ_loc (ls' := [(0, .ref 20), (1, .int p1), (2, .ref 23), (3, .int v3n5), (4, .int v4n6)]) (zll_c rfl (zll_c rfl (zll_c rfl (zll_c rfl (zll_c rfl zll_n))))) ?_
          exact hrc5 _ _ h
        · replace h := it_f hc h
          refine zJ_iconst dX10_placeOf_78 zc_1 rfl ?_
          refine zJ_goto (tgt := 83) dX10_placeOf_79 (by decide) ?_
          refine zJ_iadd dX10_placeOf_83 rfl ?_
          obtain ⟨v3n7, ev3n7, h⟩ := lt1_some h
          refine zJ_nmi ev3n7 ?_
          refine zJ_istore_n (ls' := [(3, .int v3n7), (0, .ref 20), (1, .int p1), (2, .ref 23), (4, .int v4_5)]) dX10_placeOf_84 rfl rfl rfl ?_
          refine zJ_goto (tgt := 102) dX10_placeOf_85 (by decide) ?_
          obtain ⟨v4n8, ev4n8, h⟩ := lt1_some h
          refine zJ_iincN (ls' := [(4, .int v4n8), (3, .int v3n7), (0, .ref 20), (1, .int p1), (2, .ref 23)]) dX10_placeOf_102 rfl rfl zc_1 ev4n8 rfl rfl ?_
          refine zJ_goto (tgt := 5) dX10_placeOf_105 (by decide) ?_
          refine zJ_loc (ls' := [(0, .ref 20), (1, .int p1), (2, .ref 23), (3, .int v3n7), (4, .int v4n8)]) (zll_c rfl (zll_c rfl (zll_c rfl (zll_c rfl (zll_c rfl zll_n))))) ?_
          exact hrc5 _ _ h
    · replace h := it_f hc h
      refine zJ_iload_n dX10_placeOf_24 rfl rfl ?_
      refine zJ_aload_n dX10_placeOf_25 rfl rfl ?_
      refine zJ_iload dX10_placeOf_26 rfl rfl ?_
      obtain ⟨hg, h⟩ := gd_some h
      refine zJ_iald dX10_placeOf_28 zW_23 (ix_in hg) rfl rfl ?_
      refine zJ_aload_n dX10_placeOf_29 rfl rfl ?_
      refine zJ_iload_n dX10_placeOf_30 rfl rfl ?_
      obtain ⟨hg, h⟩ := gd_some h
      refine zJ_iald dX10_placeOf_31 zW_23 (ix_in hg) rfl rfl ?_
      refine zJ_icmp_ge (tgt := 39) dX10_placeOf_32 (by decide) rfl (fun hc => ?_) (fun hc => ?_)
      · replace h := it_t hc h
        refine zJ_iconst dX10_placeOf_39 zc_0 rfl ?_
        refine zJ_iadd dX10_placeOf_40 rfl ?_
        obtain ⟨v3n9, ev3n9, h⟩ := lt1_some h
        refine zJ_nmi ev3n9 ?_
        refine zJ_istore_n (ls' := [(3, .int v3n9), (0, .ref 20), (1, .int p1), (2, .ref 23), (4, .int v4_5)]) dX10_placeOf_41 rfl rfl rfl ?_
        refine zJ_goto (tgt := 102) dX10_placeOf_42 (by decide) ?_
        obtain ⟨v4n10, ev4n10, h⟩ := lt1_some h
        refine zJ_iincN (ls' := [(4, .int v4n10), (3, .int v3n9), (0, .ref 20), (1, .int p1), (2, .ref 23)]) dX10_placeOf_102 rfl rfl zc_1 ev4n10 rfl rfl ?_
        refine zJ_goto (tgt := 5) dX10_placeOf_105 (by decide) ?_
        refine zJ_loc (ls' := [(0, .ref 20), (1, .int p1), (2, .ref 23), (3, .int v3n9), (4, .int v4n10)]) (zll_c rfl (zll_c rfl (zll_c rfl (zll_c rfl (zll_c rfl zll_n))))) ?_
        exact hrc5 _ _ h
      · replace h := it_f hc h
        refine zJ_iconst dX10_placeOf_35 zc_1 rfl ?_
        refine zJ_goto (tgt := 40) dX10_placeOf_36 (by decide) ?_
        refine zJ_iadd dX10_placeOf_40 rfl ?_
        obtain ⟨v3n11, ev3n11, h⟩ := lt1_some h
        refine zJ_nmi ev3n11 ?_
        refine zJ_istore_n (ls' := [(3, .int v3n11), (0, .ref 20), (1, .int p1), (2, .ref 23), (4, .int v4_5)]) dX10_placeOf_41 rfl rfl rfl ?_
        refine zJ_goto (tgt := 102) dX10_placeOf_42 (by decide) ?_
        obtain ⟨v4n12, ev4n12, h⟩ := lt1_some h
        refine zJ_iincN (ls' := [(4, .int v4n12), (3, .int v3n11), (0, .ref 20), (1, .int p1), (2, .ref 23)]) dX10_placeOf_102 rfl rfl zc_1 ev4n12 rfl rfl ?_
        refine zJ_goto (tgt := 5) dX10_placeOf_105 (by decide) ?_
        refine zJ_loc (ls' := [(0, .ref 20), (1, .int p1), (2, .ref 23), (3, .int v3n11), (4, .int v4n12)]) (zll_c rfl (zll_c rfl (zll_c rfl (zll_c rfl (zll_c rfl zll_n))))) ?_
        exact hrc5 _ _ h
set_option maxRecDepth 100000 in
set_option maxHeartbeats 4000000 in
theorem t_X10_readMoney (l : Launch) (σ : zS) {text_size : Int32} {text_limit : Int32} {text_at : Int32} {text_signs : (Nat → Int32)} {rounds_money : (Nat → Int32)} {rounds_draft : (Nat → Int32)} {r : Int32} {w_text_limit : Int32} {w_text_at : Int32} {w_rounds_money : (Nat → Int32)} {w_rounds_draft : (Nat → Int32)} (h : f_X10_readMoney text_size text_limit text_at text_signs rounds_money rounds_draft = some (r, w_text_limit, w_text_at, w_rounds_money, w_rounds_draft)) : zMt l zW 2 mX10_readMoney σ ([(65, text_size), (66, text_limit), (67, text_at)], [(2, text_signs), (25, rounds_money), (26, rounds_draft)], []) [.ref 20, .ref 1] (some (.int r)) ([(65, text_size), (66, w_text_limit), (67, w_text_at)], [(2, text_signs), (25, w_rounds_money), (26, w_rounds_draft)], []) := by
  refine zMt_of (ls := [(0, .ref 20), (1, .ref 1)]) (by decide) rfl (fun _ => Nat.le_of_ble_eq_true rfl) rfl ?_
  unfold f_X10_readMoney at h
  refine zJ_aload_n dX10_readMoney_0 rfl rfl ?_
  refine zJ_bipush dX10_readMoney_1 zb_80 rfl ?_
  obtain ⟨text_limitn1, text_atn2, hcl, h⟩ := bd2_some h
  refine zJ_callV (yi := mX9_open) (as := [.int (80 : Int32)]) (st := []) (L2 := ([(65, text_size), (66, text_limitn1), (67, text_atn2)], [(2, text_signs), (25, rounds_money), (26, rounds_draft)], [])) dX10_readMoney_3 ML_X10_30 Yv_X9_open rfl zW_1 rfl rfl (t_X9_open l _ hcl) (zsub_i (zle_c rfl (zle_c rfl (zle_c rfl zle_n))) zle_n zle_n) rfl (Nat.le_of_ble_eq_true rfl) (Nat.le_of_ble_eq_true rfl) rfl rfl ?_
  refine zJ_aload_n dX10_readMoney_6 rfl rfl ?_
  refine zJ_getr dX10_readMoney_7 F_X10_27 zW_20 rfl rfl ?_
  refine zJ_iconst dX10_readMoney_10 zc_0 rfl ?_
  obtain ⟨rounds_draftn3, hcl, h⟩ := bd1_some h
  refine zJ_callS (yi := mJ7_fill_53178) (as := [.ref 26, .int (0 : Int32)]) (st := []) (L2 := ([(65, text_size), (66, text_limitn1), (67, text_atn2)], [(2, text_signs), (25, rounds_money), (26, rounds_draftn3)], [])) dX10_readMoney_11 ML_X10_36 Ys_J7_fill_53178 rfl (t_J7_fill_53178_rounds_draft l _ hcl) (zsub_i zle_n (zle_c rfl zle_n) zle_n) rfl (Nat.le_of_ble_eq_true rfl) (Nat.le_of_ble_eq_true rfl) rfl rfl ?_
  refine zJ_iconst dX10_readMoney_14 zc_0 rfl ?_
  refine zJ_istore_n (ls' := [(2, .int (0 : Int32)), (0, .ref 20), (1, .ref 1)]) dX10_readMoney_15 rfl rfl rfl ?_
  have hk16 : ∀ (text_at_16x : Int32) (rounds_draft_16x : (Nat → Int32)), k_X10_readMoney_16 rounds_money text_limitn1 text_at_16x rounds_draft_16x = some (r, w_text_limit, w_text_at, w_rounds_money, w_rounds_draft) → zJ l zW 2 mX10_readMoney σ ([(65, text_size), (66, text_limitn1), (67, text_at_16x)], [(2, text_signs), (25, rounds_money), (26, rounds_draft_16x)], []) 94 [(1, .ref 1)] [] (some (.int r)) ([(65, text_size), (66, w_text_limit), (67, w_text_at)], [(2, text_signs), (25, w_rounds_money), (26, w_rounds_draft)], []) := by
    intro text_at_16x rounds_draft_16x h
    unfold k_X10_readMoney_16 at h
    refine zJ_aload_n dX10_readMoney_94 rfl rfl ?_
    obtain ⟨rn4, hcl, h⟩ := bd1_some h
    refine zJ_callV (yi := mX9_fault) (as := []) (st := []) (L2 := ([(65, text_size), (66, text_limitn1), (67, text_at_16x)], [(2, text_signs), (25, rounds_money), (26, rounds_draft_16x)], [])) dX10_readMoney_95 ML_X10_46 Yv_X9_fault rfl zW_1 rfl rfl (t_X9_fault l _ hcl) (zsub_i (zle_c rfl zle_n) zle_n zle_n) rfl (Nat.le_of_ble_eq_true rfl) (Nat.le_of_ble_eq_true rfl) rfl rfl ?_
    cases h
    exact zJ_iret dX10_readMoney_98 rfl rfl
  refine zJ_loc (ls' := [(0, .ref 20), (1, .ref 1), (2, .int (0 : Int32))]) (zll_c rfl (zll_c rfl (zll_c rfl zll_n))) ?_
  refine ml3_J (fun (v2_16 : Int32) (text_at_16 : Int32) (rounds_draft_16 : (Nat → Int32)) => zJ l zW 2 mX10_readMoney σ ([(65, text_size), (66, text_limitn1), (67, text_at_16)], [(2, text_signs), (25, rounds_money), (26, rounds_draft_16)], []) 16 [(0, .ref 20), (1, .ref 1), (2, .int v2_16)] [] (some (.int r)) ([(65, text_size), (66, w_text_limit), (67, w_text_at)], [(2, text_signs), (25, w_rounds_money), (26, w_rounds_draft)], [])) (fun rc16 hrc16 v2_16 text_at_16 rounds_draft_16 h => ?_) zN _ _ _ h
  unfold s_X10_readMoney_16 at h
  refine zJ_iload_n dX10_readMoney_16 rfl rfl ?_
  refine zJ_bipush dX10_readMoney_17 zb_6 rfl ?_
  refine zJ_icmp_ge (tgt := 94) dX10_readMoney_19 (by decide) rfl (fun hc => ?_) (fun hc => ?_)
  · replace h := it_t hc h
    refine zJ_loc (ls' := [(1, .ref 1)]) (zll_c rfl zll_n) ?_
    exact hk16 _ _ h
  · replace h := it_f hc h
    refine zJ_aload_n dX10_readMoney_22 rfl rfl ?_
    refine zJ_getr dX10_readMoney_23 F_X10_27 zW_20 rfl rfl ?_
    refine zJ_iload_n dX10_readMoney_26 rfl rfl ?_
    refine zJ_aload_n dX10_readMoney_27 rfl rfl ?_
    refine zJ_iconst dX10_readMoney_28 zc_2 rfl ?_
    obtain ⟨rn5, text_atn6, hcl, h⟩ := bd2_some h
    refine zJ_callV (yi := mX9_number) (as := [.int (2 : Int32)]) (st := [.int v2_16, .ref 26]) (L2 := ([(65, text_size), (66, text_limitn1), (67, text_atn6)], [(2, text_signs), (25, rounds_money), (26, rounds_draft_16)], [])) dX10_readMoney_29 ML_X10_42 Yv_X9_number rfl zW_1 rfl rfl (t_X9_number l _ hcl) (zsub_i (zle_c rfl (zle_c rfl zle_n)) (zle_c rfl zle_n) zle_n) rfl (Nat.le_of_ble_eq_true rfl) (Nat.le_of_ble_eq_true rfl) rfl rfl ?_
    obtain ⟨hg, h⟩ := gd_some h
    refine zK_iast (lb' := [(2, text_signs), (25, rounds_money), (26, (upd rounds_draft_16 v2_16.toNatClampNeg rn5))]) dX10_readMoney_32 zW_26 (ix_in hg) rfl rfl rfl ?_
    refine zJ_aload_n dX10_readMoney_33 rfl rfl ?_
    refine zJ_getr dX10_readMoney_34 F_X10_27 zW_20 rfl rfl ?_
    refine zJ_iload_n dX10_readMoney_37 rfl rfl ?_
    obtain ⟨hg, h⟩ := gd_some h
    refine zJ_iald dX10_readMoney_38 zW_26 (ix_in hg) rfl rfl ?_
    refine zJ_iconst dX10_readMoney_39 zc_m1 rfl ?_
    refine zJ_icmp_ne (tgt := 48) dX10_readMoney_40 (by decide) rfl (fun hc => ?_) (fun hc => ?_)
    · replace h := it_f hc h
      refine zJ_aload_n dX10_readMoney_48 rfl rfl ?_
      obtain ⟨rn7, hcl, h⟩ := bd1_some h
      refine zJ_callV (yi := mX9_isDone) (as := []) (st := []) (L2 := ([(65, text_size), (66, text_limitn1), (67, text_atn6)], [(2, text_signs), (25, rounds_money), (26, (upd rounds_draft_16 v2_16.toNatClampNeg rn5))], [])) dX10_readMoney_49 ML_X10_50 Yv_X9_isDone rfl zW_1 rfl rfl (t_X9_isDone l _ hcl) (zsub_i (zle_c rfl (zle_c rfl zle_n)) zle_n zle_n) rfl (Nat.le_of_ble_eq_true rfl) (Nat.le_of_ble_eq_true rfl) rfl rfl ?_
      refine zJ_if_eq (tgt := 74) dX10_readMoney_52 (by decide) rfl (fun hc => ?_) (fun hc => ?_)
      · replace h := it_t hc h
        refine zJ_aload_n dX10_readMoney_74 rfl rfl ?_
        refine zJ_bipush dX10_readMoney_75 zb_44 rfl ?_
        obtain ⟨rn8, text_atn9, hcl, h⟩ := bd2_some h
        refine zJ_callV (yi := mX9_take) (as := [.int (44 : Int32)]) (st := []) (L2 := ([(65, text_size), (66, text_limitn1), (67, text_atn9)], [(2, text_signs), (25, rounds_money), (26, (upd rounds_draft_16 v2_16.toNatClampNeg rn5))], [])) dX10_readMoney_77 ML_X10_60 Yv_X9_take rfl zW_1 rfl rfl (t_X9_take l _ hcl) (zsub_i (zle_c rfl (zle_c rfl zle_n)) (zle_c rfl zle_n) zle_n) rfl (Nat.le_of_ble_eq_true rfl) (Nat.le_of_ble_eq_true rfl) rfl rfl ?_
        refine zJ_if_ne (tgt := 88) dX10_readMoney_80 (by decide) rfl (fun hc => ?_) (fun hc => ?_)
        · replace h := it_f hc h
          obtain ⟨v2n10, ev2n10, h⟩ := lt1_some h
          refine zJ_iincN (ls' := [(2, .int v2n10), (0, .ref 20), (1, .ref 1)]) dX10_readMoney_88 rfl rfl zc_1 ev2n10 rfl rfl ?_
          refine zJ_goto (tgt := 16) dX10_readMoney_91 (by decide) ?_
          refine zJ_loc (ls' := [(0, .ref 20), (1, .ref 1), (2, .int v2n10)]) (zll_c rfl (zll_c rfl (zll_c rfl zll_n))) ?_
          exact hrc16 _ _ _ h
        · replace h := it_t hc h
          refine zJ_aload_n dX10_readMoney_83 rfl rfl ?_
          obtain ⟨rn11, hcl, h⟩ := bd1_some h
          refine zJ_callV (yi := mX9_fault) (as := []) (st := []) (L2 := ([(65, text_size), (66, text_limitn1), (67, text_atn9)], [(2, text_signs), (25, rounds_money), (26, (upd rounds_draft_16 v2_16.toNatClampNeg rn5))], [])) dX10_readMoney_84 ML_X10_46 Yv_X9_fault rfl zW_1 rfl rfl (t_X9_fault l _ hcl) (zsub_i (zle_c rfl zle_n) zle_n zle_n) rfl (Nat.le_of_ble_eq_true rfl) (Nat.le_of_ble_eq_true rfl) rfl rfl ?_
          cases h
          exact zJ_iret dX10_readMoney_87 rfl rfl
      · replace h := it_f hc h
        refine zJ_aload_n dX10_readMoney_55 rfl rfl ?_
        refine zJ_getr dX10_readMoney_56 F_X10_27 zW_20 rfl rfl ?_
        refine zJ_iconst dX10_readMoney_59 zc_0 rfl ?_
        refine zJ_aload_n dX10_readMoney_60 rfl rfl ?_
        refine zJ_getr dX10_readMoney_61 F_X10_24 zW_20 rfl rfl ?_
        refine zJ_iconst dX10_readMoney_64 zc_0 rfl ?_
        refine zJ_bipush dX10_readMoney_65 zb_6 rfl ?_
        obtain ⟨hg, h⟩ := gd_some h
        refine zK_copyi (lb' := [(2, text_signs), (25, (va_cpy ((upd rounds_draft_16 v2_16.toNatClampNeg rn5)) rounds_money (0 : Int32).toNatClampNeg (0 : Int32).toNatClampNeg (6 : Int32).toNatClampNeg)), (26, (upd rounds_draft_16 v2_16.toNatClampNeg rn5))]) dX10_readMoney_67 L_X10_54 K_cpy_n K_cpy_s K_sys zW_26 zW_25 rfl rfl (cpok_s hg) (Nat.le_of_ble_eq_true rfl) (Nat.le_of_ble_eq_true rfl) rfl rfl ?_
        refine zJ_iload_n dX10_readMoney_70 rfl rfl ?_
        refine zJ_iconst dX10_readMoney_71 zc_1 rfl ?_
        refine zJ_iadd dX10_readMoney_72 rfl ?_
        cases h
        exact zJ_iret dX10_readMoney_73 rfl rfl
    · replace h := it_t hc h
      refine zJ_aload_n dX10_readMoney_43 rfl rfl ?_
      obtain ⟨rn12, hcl, h⟩ := bd1_some h
      refine zJ_callV (yi := mX9_fault) (as := []) (st := []) (L2 := ([(65, text_size), (66, text_limitn1), (67, text_atn6)], [(2, text_signs), (25, rounds_money), (26, (upd rounds_draft_16 v2_16.toNatClampNeg rn5))], [])) dX10_readMoney_44 ML_X10_46 Yv_X9_fault rfl zW_1 rfl rfl (t_X9_fault l _ hcl) (zsub_i (zle_c rfl zle_n) zle_n zle_n) rfl (Nat.le_of_ble_eq_true rfl) (Nat.le_of_ble_eq_true rfl) rfl rfl ?_
      cases h
      exact zJ_iret dX10_readMoney_47 rfl rfl
set_option maxRecDepth 100000 in
set_option maxHeartbeats 4000000 in
theorem t_X10_scaledMean (l : Launch) (σ : zS) {p1 : Int32} {p2 : Int32} {rounds_size : Int32} {rounds_riders : (Nat → Int32)} {rounds_horses : (Nat → Int32)} {rounds_faults : (Nat → Int32)} {r : Int64} (h : f_X10_scaledMean p1 p2 rounds_size rounds_riders rounds_horses rounds_faults = some r) : zMt l zW 0 mX10_scaledMean σ ([(1284, rounds_size)], [(21, rounds_riders), (22, rounds_horses), (23, rounds_faults)], []) [.ref 20, .int p1, .int p2] (some (.long r)) ([(1284, rounds_size)], [(21, rounds_riders), (22, rounds_horses), (23, rounds_faults)], []) := by
  refine zMt_of (ls := [(0, .ref 20), (1, .int p1), (2, .int p2)]) (by decide) rfl (fun _ => Nat.le_of_ble_eq_true rfl) rfl ?_
  unfold f_X10_scaledMean at h
  refine zJ_lconst dX10_scaledMean_0 zl_0 rfl ?_
  refine zJ_lstore_n (ls' := [(3, .long (0 : Int64)), (0, .ref 20), (1, .int p1), (2, .int p2)]) dX10_scaledMean_1 rfl rfl rfl ?_
  refine zJ_iconst dX10_scaledMean_2 zc_0 rfl ?_
  refine zJ_istore (ls' := [(5, .int (0 : Int32)), (3, .long (0 : Int64)), (0, .ref 20), (1, .int p1), (2, .int p2)]) dX10_scaledMean_3 rfl rfl rfl ?_
  refine zJ_iconst dX10_scaledMean_5 zc_0 rfl ?_
  refine zJ_istore (ls' := [(6, .int (0 : Int32)), (5, .int (0 : Int32)), (3, .long (0 : Int64)), (0, .ref 20), (1, .int p1), (2, .int p2)]) dX10_scaledMean_6 rfl rfl rfl ?_
  have hk8 : ∀ (v3_8x : Int64) (v5_8x : Int32), k_X10_scaledMean_8  v3_8x v5_8x = some r → zJ l zW 0 mX10_scaledMean σ ([(1284, rounds_size)], [(21, rounds_riders), (22, rounds_horses), (23, rounds_faults)], []) 59 [(3, .long v3_8x), (5, .int v5_8x)] [] (some (.long r)) ([(1284, rounds_size)], [(21, rounds_riders), (22, rounds_horses), (23, rounds_faults)], []) := by
    intro v3_8x v5_8x h
    unfold k_X10_scaledMean_8 at h
    refine zJ_iload dX10_scaledMean_59 rfl rfl ?_
    refine zJ_if_ne (tgt := 70) dX10_scaledMean_61 (by decide) rfl (fun hc => ?_) (fun hc => ?_)
    · replace h := it_f hc h
      refine zJ_lload_n dX10_scaledMean_70 rfl rfl ?_
      refine zJ_ldc2_w (v := 27720) dX10_scaledMean_71 C_X10_86 rfl ?_
      refine zJ_lmul dX10_scaledMean_74 rfl ?_
      refine zJ_iload dX10_scaledMean_75 rfl rfl ?_
      refine zJ_i2l dX10_scaledMean_77 rfl ?_
      obtain ⟨hg, h⟩ := gd_some h
      refine zJ_ldiv dX10_scaledMean_78 (nzl_ne hg) rfl ?_
      cases h
      exact zJ_lret dX10_scaledMean_79 rfl
    · replace h := it_t hc h
      refine zJ_ldc2_w (v := -1) dX10_scaledMean_64 C_X10_84 rfl ?_
      refine zJ_goto (tgt := 79) dX10_scaledMean_67 (by decide) ?_
      cases h
      exact zJ_lret dX10_scaledMean_79 rfl
  refine zJ_loc (ls' := [(0, .ref 20), (1, .int p1), (2, .int p2), (3, .long (0 : Int64)), (5, .int (0 : Int32)), (6, .int (0 : Int32))]) (zll_c rfl (zll_c rfl (zll_c rfl (zll_c rfl (zll_c rfl (zll_c rfl zll_n)))))) ?_
  refine ml3_J (fun (v3_8 : Int64) (v5_8 : Int32) (v6_8 : Int32) => zJ l zW 0 mX10_scaledMean σ ([(1284, rounds_size)], [(21, rounds_riders), (22, rounds_horses), (23, rounds_faults)], []) 8 [(0, .ref 20), (1, .int p1), (2, .int p2), (3, .long v3_8), (5, .int v5_8), (6, .int v6_8)] [] (some (.long r)) ([(1284, rounds_size)], [(21, rounds_riders), (22, rounds_horses), (23, rounds_faults)], [])) (fun rc8 hrc8 v3_8 v5_8 v6_8 h => ?_) zN _ _ _ h
  unfold s_X10_scaledMean_8 at h
  refine zJ_iload dX10_scaledMean_8 rfl rfl ?_
  refine zJ_aload_n dX10_scaledMean_10 rfl rfl ?_
  refine zJ_geti dX10_scaledMean_11 F_X10_64 zW_20 rfl rfl rfl ?_
  refine zJ_icmp_ge (tgt := 59) dX10_scaledMean_14 (by decide) rfl (fun hc => ?_) (fun hc => ?_)
  · replace h := it_t hc h
    refine zJ_loc (ls' := [(3, .long v3_8), (5, .int v5_8)]) (zll_c rfl (zll_c rfl zll_n)) ?_
    exact hk8 _ _ h
  · replace h := it_f hc h
    refine zJ_aload_n dX10_scaledMean_17 rfl rfl ?_
    refine zJ_getr dX10_scaledMean_18 F_X10_9 zW_20 rfl rfl ?_
    refine zJ_iload dX10_scaledMean_21 rfl rfl ?_
    obtain ⟨hg, h⟩ := gd_some h
    refine zJ_iald dX10_scaledMean_23 zW_21 (ix_in hg) rfl rfl ?_
    refine zJ_iload_n dX10_scaledMean_24 rfl rfl ?_
    refine zJ_icmp_ne (tgt := 53) dX10_scaledMean_25 (by decide) rfl (fun hc => ?_) (fun hc => ?_)
    · replace h := it_f hc h
      obtain ⟨v6n1, ev6n1, h⟩ := lt1_some h
      refine zJ_iincN (ls' := [(6, .int v6n1), (0, .ref 20), (1, .int p1), (2, .int p2), (3, .long v3_8), (5, .int v5_8)]) dX10_scaledMean_53 rfl rfl zc_1 ev6n1 rfl rfl ?_
      refine zJ_goto (tgt := 8) dX10_scaledMean_56 (by decide) ?_
      refine zJ_loc (ls' := [(0, .ref 20), (1, .int p1), (2, .int p2), (3, .long v3_8), (5, .int v5_8), (6, .int v6n1)]) (zll_c rfl (zll_c rfl (zll_c rfl (zll_c rfl (zll_c rfl (zll_c rfl zll_n)))))) ?_
      exact hrc8 _ _ _ h
    · replace h := it_t hc h
      refine zJ_aload_n dX10_scaledMean_28 rfl rfl ?_
      refine zJ_getr dX10_scaledMean_29 F_X10_15 zW_20 rfl rfl ?_
      refine zJ_iload dX10_scaledMean_32 rfl rfl ?_
      obtain ⟨hg, h⟩ := gd_some h
      refine zJ_iald dX10_scaledMean_34 zW_22 (ix_in hg) rfl rfl ?_
      refine zJ_iload_n dX10_scaledMean_35 rfl rfl ?_
      refine zJ_icmp_ne (tgt := 53) dX10_scaledMean_36 (by decide) rfl (fun hc => ?_) (fun hc => ?_)
      · replace h := it_f hc h
        obtain ⟨v6n2, ev6n2, h⟩ := lt1_some h
        refine zJ_iincN (ls' := [(6, .int v6n2), (0, .ref 20), (1, .int p1), (2, .int p2), (3, .long v3_8), (5, .int v5_8)]) dX10_scaledMean_53 rfl rfl zc_1 ev6n2 rfl rfl ?_
        refine zJ_goto (tgt := 8) dX10_scaledMean_56 (by decide) ?_
        refine zJ_loc (ls' := [(0, .ref 20), (1, .int p1), (2, .int p2), (3, .long v3_8), (5, .int v5_8), (6, .int v6n2)]) (zll_c rfl (zll_c rfl (zll_c rfl (zll_c rfl (zll_c rfl (zll_c rfl zll_n)))))) ?_
        exact hrc8 _ _ _ h
      · replace h := it_t hc h
        refine zJ_lload_n dX10_scaledMean_39 rfl rfl ?_
        refine zJ_aload_n dX10_scaledMean_40 rfl rfl ?_
        refine zJ_getr dX10_scaledMean_41 F_X10_18 zW_20 rfl rfl ?_
        refine zJ_iload dX10_scaledMean_44 rfl rfl ?_
        obtain ⟨hg, h⟩ := gd_some h
        refine zJ_iald dX10_scaledMean_46 zW_23 (ix_in hg) rfl rfl ?_
        refine zJ_i2l dX10_scaledMean_47 rfl ?_
        refine zJ_ladd dX10_scaledMean_48 rfl ?_
        obtain ⟨v3n3, ev3n3, h⟩ := lt1_some h
        refine zJ_nml ev3n3 ?_
        refine zJ_lstore_n (ls' := [(3, .long v3n3), (0, .ref 20), (1, .int p1), (2, .int p2), (5, .int v5_8), (6, .int v6_8)]) dX10_scaledMean_49 rfl rfl rfl ?_
        obtain ⟨v5n4, ev5n4, h⟩ := lt1_some h
        refine zJ_iincN (ls' := [(5, .int v5n4), (3, .long v3n3), (0, .ref 20), (1, .int p1), (2, .int p2), (6, .int v6_8)]) dX10_scaledMean_50 rfl rfl zc_1 ev5n4 rfl rfl ?_
        obtain ⟨v6n5, ev6n5, h⟩ := lt1_some h
        refine zJ_iincN (ls' := [(6, .int v6n5), (5, .int v5n4), (3, .long v3n3), (0, .ref 20), (1, .int p1), (2, .int p2)]) dX10_scaledMean_53 rfl rfl zc_1 ev6n5 rfl rfl ?_
        refine zJ_goto (tgt := 8) dX10_scaledMean_56 (by decide) ?_
        refine zJ_loc (ls' := [(0, .ref 20), (1, .int p1), (2, .int p2), (3, .long v3n3), (5, .int v5n4), (6, .int v6n5)]) (zll_c rfl (zll_c rfl (zll_c rfl (zll_c rfl (zll_c rfl (zll_c rfl zll_n)))))) ?_
        exact hrc8 _ _ _ h
set_option maxRecDepth 100000 in
set_option maxHeartbeats 4000000 in
theorem t_X10_strike (l : Launch) (σ : zS) {rounds_size : Int32} {r : Int32} {w_rounds_size : Int32} (h : f_X10_strike rounds_size = some (r, w_rounds_size)) : zMt l zW 0 mX10_strike σ ([(1284, rounds_size)], [], []) [.ref 20] (some (.int r)) ([(1284, w_rounds_size)], [], []) := by
  refine zMt_of (ls := [(0, .ref 20)]) (by decide) rfl (fun _ => Nat.le_of_ble_eq_true rfl) rfl ?_
  unfold f_X10_strike at h
  refine zJ_aload_n dX10_strike_0 rfl rfl ?_
  refine zJ_geti dX10_strike_1 F_X10_64 zW_20 rfl rfl rfl ?_
  refine zJ_if_ne (tgt := 9) dX10_strike_4 (by decide) rfl (fun hc => ?_) (fun hc => ?_)
  · replace h := it_f hc h
    refine zJ_aload_n dX10_strike_9 rfl rfl ?_
    refine zJ_dup dX10_strike_10 rfl rfl ?_
    refine zJ_geti dX10_strike_11 F_X10_64 zW_20 rfl rfl rfl ?_
    refine zJ_iconst dX10_strike_14 zc_1 rfl ?_
    refine zJ_isub dX10_strike_15 rfl ?_
    refine zK_puti (la' := [(1284, (rounds_size - (1 : Int32)))]) zW_ok dX10_strike_16 F_X10_64 P_10_4 zW_20 rfl rfl rfl ?_
    refine zJ_iconst dX10_strike_19 zc_1 rfl ?_
    cases h
    exact zJ_iret dX10_strike_20 rfl (by decide)
  · replace h := it_t hc h
    refine zJ_iconst dX10_strike_7 zc_0 rfl ?_
    cases h
    exact zJ_iret dX10_strike_8 rfl (by decide)
set_option maxRecDepth 100000 in
set_option maxHeartbeats 4000000 in
theorem t_X6_put (l : Launch) (σ : zS) {p1 : Int64} {numbers_size : Int32} {numbers_told : (Nat → Int64)} {w_numbers_size : Int32} {w_numbers_told : (Nat → Int64)} (h : f_X6_put p1 numbers_size numbers_told = some (w_numbers_size, w_numbers_told)) : zMt l zW 0 mX6_put σ ([(193, numbers_size)], [], [(4, numbers_told)]) [.ref 3, .long p1] none ([(193, w_numbers_size)], [], [(4, w_numbers_told)]) := by
  refine zMt_of (ls := [(0, .ref 3), (1, .long p1)]) (by decide) rfl (fun _ => Nat.le_of_ble_eq_true rfl) rfl ?_
  unfold f_X6_put at h
  refine zJ_aload_n dX6_put_0 rfl rfl ?_
  refine zJ_geti dX6_put_1 F_X6_15 zW_3 rfl rfl rfl ?_
  refine zJ_bipush dX6_put_4 zb_12 rfl ?_
  refine zJ_icmp_ge (tgt := 29) dX6_put_6 (by decide) rfl (fun hc => ?_) (fun hc => ?_)
  · replace h := it_t hc h
    cases h
    exact zJ_vret dX6_put_29 rfl
  · replace h := it_f hc h
    refine zJ_aload_n dX6_put_9 rfl rfl ?_
    refine zJ_getr dX6_put_10 F_X6_9 zW_3 rfl rfl ?_
    refine zJ_aload_n dX6_put_13 rfl rfl ?_
    refine zJ_geti dX6_put_14 F_X6_15 zW_3 rfl rfl rfl ?_
    refine zJ_lload_n dX6_put_17 rfl rfl ?_
    obtain ⟨hg, h⟩ := gd_some h
    refine zK_last (lc' := [(4, (vp_updL numbers_told numbers_size.toNatClampNeg p1))]) dX6_put_18 zW_4 (ix_in hg) rfl rfl rfl ?_
    refine zJ_aload_n dX6_put_19 rfl rfl ?_
    refine zJ_dup dX6_put_20 rfl rfl ?_
    refine zJ_geti dX6_put_21 F_X6_15 zW_3 rfl rfl rfl ?_
    refine zJ_iconst dX6_put_24 zc_1 rfl ?_
    refine zJ_iadd dX6_put_25 rfl ?_
    refine zK_puti (la' := [(193, (numbers_size + (1 : Int32)))]) zW_ok dX6_put_26 F_X6_15 P_6_1 zW_3 rfl rfl rfl ?_
    cases h
    exact zJ_vret dX6_put_29 rfl
set_option maxRecDepth 100000 in
set_option maxHeartbeats 4000000 in
theorem t_X6_start (l : Launch) (σ : zS) {numbers_size : Int32} {w_numbers_size : Int32} (h : f_X6_start numbers_size = some w_numbers_size) : zMt l zW 0 mX6_start σ ([(193, numbers_size)], [], []) [.ref 3] none ([(193, w_numbers_size)], [], []) := by
  refine zMt_of (ls := [(0, .ref 3)]) (by decide) rfl (fun _ => Nat.le_of_ble_eq_true rfl) rfl ?_
  unfold f_X6_start at h
  refine zJ_aload_n dX6_start_0 rfl rfl ?_
  refine zJ_iconst dX6_start_1 zc_0 rfl ?_
  refine zK_puti (la' := [(193, (0 : Int32))]) zW_ok dX6_start_2 F_X6_15 P_6_1 zW_3 rfl rfl rfl ?_
  cases h
  exact zJ_vret dX6_start_5 rfl
set_option maxRecDepth 100000 in
set_option maxHeartbeats 4000000 in
theorem t_X10_tellOrder_newFaults (l : Launch) (σ : zS) {numbers_size : Int32} {rounds_size : Int32} {rounds_tenths : (Nat → Int32)} {newFaults : (Nat → Int32)} {numbers_told : (Nat → Int64)} {w_numbers_size : Int32} {w_numbers_told : (Nat → Int64)} (h : f_X10_tellOrder_newFaults numbers_size rounds_size rounds_tenths newFaults numbers_told = some (w_numbers_size, w_numbers_told)) : zMt l zW 1 mX10_tellOrder σ ([(193, numbers_size), (1284, rounds_size)], [(24, rounds_tenths), (53, newFaults)], [(4, numbers_told)]) [.ref 20, .ref 3, .ref 53] none ([(193, w_numbers_size), (1284, rounds_size)], [(24, rounds_tenths), (53, newFaults)], [(4, w_numbers_told)]) := by
  refine zMt_of (ls := [(0, .ref 20), (1, .ref 3), (2, .ref 53)]) (by decide) rfl (fun _ => Nat.le_of_ble_eq_true rfl) rfl ?_
  unfold f_X10_tellOrder_newFaults at h
  refine zJ_aload_n dX10_tellOrder_0 rfl rfl ?_
  obtain ⟨numbers_sizen1, hcl, h⟩ := bd1_some h
  refine zJ_callV (yi := mX6_start) (as := []) (st := []) (L2 := ([(193, numbers_sizen1), (1284, rounds_size)], [(24, rounds_tenths), (53, newFaults)], [(4, numbers_told)])) dX10_tellOrder_1 ML_X10_71 Yv_X6_start rfl zW_3 rfl rfl (t_X6_start l _ hcl) (zsub_i (zle_c rfl zle_n) zle_n zle_n) rfl (Nat.le_of_ble_eq_true rfl) (Nat.le_of_ble_eq_true rfl) rfl rfl ?_
  refine zJ_iconst dX10_tellOrder_4 zc_1 rfl ?_
  refine zJ_istore_n (ls' := [(3, .int (1 : Int32)), (0, .ref 20), (1, .ref 3), (2, .ref 53)]) dX10_tellOrder_5 rfl rfl rfl ?_
  have hk6 : ∀ (numbers_size_6x : Int32) (numbers_told_6x : (Nat → Int64)), k_X10_tellOrder_newFaults_6  numbers_size_6x numbers_told_6x = some (w_numbers_size, w_numbers_told) → zJ l zW 1 mX10_tellOrder σ ([(193, numbers_size_6x), (1284, rounds_size)], [(24, rounds_tenths), (53, newFaults)], [(4, numbers_told_6x)]) 56 [] [] none ([(193, w_numbers_size), (1284, rounds_size)], [(24, rounds_tenths), (53, newFaults)], [(4, w_numbers_told)]) := by
    intro numbers_size_6x numbers_told_6x h
    unfold k_X10_tellOrder_newFaults_6 at h
    cases h
    exact zJ_vret dX10_tellOrder_56 rfl
  refine zJ_loc (ls' := [(0, .ref 20), (1, .ref 3), (2, .ref 53), (3, .int (1 : Int32))]) (zll_c rfl (zll_c rfl (zll_c rfl (zll_c rfl zll_n)))) ?_
  refine ml3_J (fun (v3_6 : Int32) (numbers_size_6 : Int32) (numbers_told_6 : (Nat → Int64)) => zJ l zW 1 mX10_tellOrder σ ([(193, numbers_size_6), (1284, rounds_size)], [(24, rounds_tenths), (53, newFaults)], [(4, numbers_told_6)]) 6 [(0, .ref 20), (1, .ref 3), (2, .ref 53), (3, .int v3_6)] [] none ([(193, w_numbers_size), (1284, rounds_size)], [(24, rounds_tenths), (53, newFaults)], [(4, w_numbers_told)])) (fun rc6 hrc6 v3_6 numbers_size_6 numbers_told_6 h => ?_) zN _ _ _ h
  unfold s_X10_tellOrder_newFaults_6 at h
  refine zJ_iload_n dX10_tellOrder_6 rfl rfl ?_
  refine zJ_aload_n dX10_tellOrder_7 rfl rfl ?_
  refine zJ_geti dX10_tellOrder_8 F_X10_64 zW_20 rfl rfl rfl ?_
  refine zJ_icmp_gt (tgt := 56) dX10_tellOrder_11 (by decide) rfl (fun hc => ?_) (fun hc => ?_)
  · replace h := it_t hc h
    refine zJ_loc (ls' := []) zll_n ?_
    exact hk6 _ _ h
  · replace h := it_f hc h
    refine zJ_iconst dX10_tellOrder_14 zc_0 rfl ?_
    refine zJ_istore (ls' := [(4, .int (0 : Int32)), (0, .ref 20), (1, .ref 3), (2, .ref 53), (3, .int v3_6)]) dX10_tellOrder_15 rfl rfl rfl ?_
    have hk17 : ∀ (numbers_size_17x : Int32) (numbers_told_17x : (Nat → Int64)), k_X10_tellOrder_newFaults_17 rc6 v3_6 numbers_size_17x numbers_told_17x = some (w_numbers_size, w_numbers_told) → zJ l zW 1 mX10_tellOrder σ ([(193, numbers_size_17x), (1284, rounds_size)], [(24, rounds_tenths), (53, newFaults)], [(4, numbers_told_17x)]) 50 [(0, .ref 20), (1, .ref 3), (2, .ref 53), (3, .int v3_6)] [] none ([(193, w_numbers_size), (1284, rounds_size)], [(24, rounds_tenths), (53, newFaults)], [(4, w_numbers_told)]) := by
      intro numbers_size_17x numbers_told_17x h
      unfold k_X10_tellOrder_newFaults_17 at h
      obtain ⟨v3n2, ev3n2, h⟩ := lt1_some h
      refine zJ_iincN (ls' := [(3, .int v3n2), (0, .ref 20), (1, .ref 3), (2, .ref 53)]) dX10_tellOrder_50 rfl rfl zc_1 ev3n2 rfl rfl ?_
      refine zJ_goto (tgt := 6) dX10_tellOrder_53 (by decide) ?_
      refine zJ_loc (ls' := [(0, .ref 20), (1, .ref 3), (2, .ref 53), (3, .int v3n2)]) (zll_c rfl (zll_c rfl (zll_c rfl (zll_c rfl zll_n)))) ?_
      exact hrc6 _ _ _ h
    refine zJ_loc (ls' := [(0, .ref 20), (1, .ref 3), (2, .ref 53), (3, .int v3_6), (4, .int (0 : Int32))]) (zll_c rfl (zll_c rfl (zll_c rfl (zll_c rfl (zll_c rfl zll_n))))) ?_
    refine ml3_J (fun (v4_17 : Int32) (numbers_size_17 : Int32) (numbers_told_17 : (Nat → Int64)) => zJ l zW 1 mX10_tellOrder σ ([(193, numbers_size_17), (1284, rounds_size)], [(24, rounds_tenths), (53, newFaults)], [(4, numbers_told_17)]) 17 [(0, .ref 20), (1, .ref 3), (2, .ref 53), (3, .int v3_6), (4, .int v4_17)] [] none ([(193, w_numbers_size), (1284, rounds_size)], [(24, rounds_tenths), (53, newFaults)], [(4, w_numbers_told)])) (fun rc17 hrc17 v4_17 numbers_size_17 numbers_told_17 h => ?_) zN _ _ _ h
    unfold s_X10_tellOrder_newFaults_17 at h
    refine zJ_iload dX10_tellOrder_17 rfl rfl ?_
    refine zJ_aload_n dX10_tellOrder_19 rfl rfl ?_
    refine zJ_geti dX10_tellOrder_20 F_X10_64 zW_20 rfl rfl rfl ?_
    refine zJ_icmp_ge (tgt := 50) dX10_tellOrder_23 (by decide) rfl (fun hc => ?_) (fun hc => ?_)
    · replace h := it_t hc h
      refine zJ_loc (ls' := [(0, .ref 20), (1, .ref 3), (2, .ref 53), (3, .int v3_6)]) (zll_c rfl (zll_c rfl (zll_c rfl (zll_c rfl zll_n)))) ?_
      exact hk17 _ _ h
    · replace h := it_f hc h
      refine zJ_aload_n dX10_tellOrder_26 rfl rfl ?_
      refine zJ_iload dX10_tellOrder_27 rfl rfl ?_
      refine zJ_aload_n dX10_tellOrder_29 rfl rfl ?_
      obtain ⟨rn3, hcl, h⟩ := bd1_some h
      refine zJ_callV (yi := mX10_placeOf) (as := [.int v4_17, .ref 53]) (st := []) (L2 := ([(193, numbers_size_17), (1284, rounds_size)], [(24, rounds_tenths), (53, newFaults)], [(4, numbers_told_17)])) dX10_tellOrder_30 ML_X10_76 Yv_X10_placeOf rfl zW_20 rfl rfl (t_X10_placeOf_newFaults l _ hcl) (zsub_i (zle_c rfl zle_n) (zle_c rfl (zle_c rfl zle_n)) zle_n) rfl (Nat.le_of_ble_eq_true rfl) (Nat.le_of_ble_eq_true rfl) rfl rfl ?_
      refine zJ_iload_n dX10_tellOrder_33 rfl rfl ?_
      refine zJ_icmp_ne (tgt := 44) dX10_tellOrder_34 (by decide) rfl (fun hc => ?_) (fun hc => ?_)
      · replace h := it_f hc h
        obtain ⟨v4n4, ev4n4, h⟩ := lt1_some h
        refine zJ_iincN (ls' := [(4, .int v4n4), (0, .ref 20), (1, .ref 3), (2, .ref 53), (3, .int v3_6)]) dX10_tellOrder_44 rfl rfl zc_1 ev4n4 rfl rfl ?_
        refine zJ_goto (tgt := 17) dX10_tellOrder_47 (by decide) ?_
        refine zJ_loc (ls' := [(0, .ref 20), (1, .ref 3), (2, .ref 53), (3, .int v3_6), (4, .int v4n4)]) (zll_c rfl (zll_c rfl (zll_c rfl (zll_c rfl (zll_c rfl zll_n))))) ?_
        exact hrc17 _ _ _ h
      · replace h := it_t hc h
        refine zJ_aload_n dX10_tellOrder_37 rfl rfl ?_
        refine zJ_iload dX10_tellOrder_38 rfl rfl ?_
        refine zJ_i2l dX10_tellOrder_40 rfl ?_
        obtain ⟨numbers_sizen5, numbers_toldn6, hcl, h⟩ := bd2_some h
        refine zJ_callV (yi := mX6_put) (as := [.long v4_17.toInt64]) (st := []) (L2 := ([(193, numbers_sizen5), (1284, rounds_size)], [(24, rounds_tenths), (53, newFaults)], [(4, numbers_toldn6)])) dX10_tellOrder_41 ML_X10_80 Yv_X6_put rfl zW_3 rfl rfl (t_X6_put l _ hcl) (zsub_i (zle_c rfl zle_n) zle_n (zle_c rfl zle_n)) rfl (Nat.le_of_ble_eq_true rfl) (Nat.le_of_ble_eq_true rfl) rfl rfl ?_
        obtain ⟨v4n7, ev4n7, h⟩ := lt1_some h
        refine zJ_iincN (ls' := [(4, .int v4n7), (0, .ref 20), (1, .ref 3), (2, .ref 53), (3, .int v3_6)]) dX10_tellOrder_44 rfl rfl zc_1 ev4n7 rfl rfl ?_
        refine zJ_goto (tgt := 17) dX10_tellOrder_47 (by decide) ?_
        refine zJ_loc (ls' := [(0, .ref 20), (1, .ref 3), (2, .ref 53), (3, .int v3_6), (4, .int v4n7)]) (zll_c rfl (zll_c rfl (zll_c rfl (zll_c rfl (zll_c rfl zll_n))))) ?_
        exact hrc17 _ _ _ h
set_option maxRecDepth 100000 in
set_option maxHeartbeats 4000000 in
theorem t_X10_tellOrder_rounds_faults (l : Launch) (σ : zS) {numbers_size : Int32} {rounds_size : Int32} {rounds_faults : (Nat → Int32)} {rounds_tenths : (Nat → Int32)} {numbers_told : (Nat → Int64)} {w_numbers_size : Int32} {w_numbers_told : (Nat → Int64)} (h : f_X10_tellOrder_rounds_faults numbers_size rounds_size rounds_faults rounds_tenths numbers_told = some (w_numbers_size, w_numbers_told)) : zMt l zW 1 mX10_tellOrder σ ([(193, numbers_size), (1284, rounds_size)], [(23, rounds_faults), (24, rounds_tenths)], [(4, numbers_told)]) [.ref 20, .ref 3, .ref 23] none ([(193, w_numbers_size), (1284, rounds_size)], [(23, rounds_faults), (24, rounds_tenths)], [(4, w_numbers_told)]) := by
  refine zMt_of (ls := [(0, .ref 20), (1, .ref 3), (2, .ref 23)]) (by decide) rfl (fun _ => Nat.le_of_ble_eq_true rfl) rfl ?_
  unfold f_X10_tellOrder_rounds_faults at h
  refine zJ_aload_n dX10_tellOrder_0 rfl rfl ?_
  obtain ⟨numbers_sizen1, hcl, h⟩ := bd1_some h
  refine zJ_callV (yi := mX6_start) (as := []) (st := []) (L2 := ([(193, numbers_sizen1), (1284, rounds_size)], [(23, rounds_faults), (24, rounds_tenths)], [(4, numbers_told)])) dX10_tellOrder_1 ML_X10_71 Yv_X6_start rfl zW_3 rfl rfl (t_X6_start l _ hcl) (zsub_i (zle_c rfl zle_n) zle_n zle_n) rfl (Nat.le_of_ble_eq_true rfl) (Nat.le_of_ble_eq_true rfl) rfl rfl ?_
  refine zJ_iconst dX10_tellOrder_4 zc_1 rfl ?_
  refine zJ_istore_n (ls' := [(3, .int (1 : Int32)), (0, .ref 20), (1, .ref 3), (2, .ref 23)]) dX10_tellOrder_5 rfl rfl rfl ?_
  have hk6 : ∀ (numbers_size_6x : Int32) (numbers_told_6x : (Nat → Int64)), k_X10_tellOrder_rounds_faults_6  numbers_size_6x numbers_told_6x = some (w_numbers_size, w_numbers_told) → zJ l zW 1 mX10_tellOrder σ ([(193, numbers_size_6x), (1284, rounds_size)], [(23, rounds_faults), (24, rounds_tenths)], [(4, numbers_told_6x)]) 56 [] [] none ([(193, w_numbers_size), (1284, rounds_size)], [(23, rounds_faults), (24, rounds_tenths)], [(4, w_numbers_told)]) := by
    intro numbers_size_6x numbers_told_6x h
    unfold k_X10_tellOrder_rounds_faults_6 at h
    cases h
    exact zJ_vret dX10_tellOrder_56 rfl
  refine zJ_loc (ls' := [(0, .ref 20), (1, .ref 3), (2, .ref 23), (3, .int (1 : Int32))]) (zll_c rfl (zll_c rfl (zll_c rfl (zll_c rfl zll_n)))) ?_
  refine ml3_J (fun (v3_6 : Int32) (numbers_size_6 : Int32) (numbers_told_6 : (Nat → Int64)) => zJ l zW 1 mX10_tellOrder σ ([(193, numbers_size_6), (1284, rounds_size)], [(23, rounds_faults), (24, rounds_tenths)], [(4, numbers_told_6)]) 6 [(0, .ref 20), (1, .ref 3), (2, .ref 23), (3, .int v3_6)] [] none ([(193, w_numbers_size), (1284, rounds_size)], [(23, rounds_faults), (24, rounds_tenths)], [(4, w_numbers_told)])) (fun rc6 hrc6 v3_6 numbers_size_6 numbers_told_6 h => ?_) zN _ _ _ h
  unfold s_X10_tellOrder_rounds_faults_6 at h
  refine zJ_iload_n dX10_tellOrder_6 rfl rfl ?_
  refine zJ_aload_n dX10_tellOrder_7 rfl rfl ?_
  refine zJ_geti dX10_tellOrder_8 F_X10_64 zW_20 rfl rfl rfl ?_
  refine zJ_icmp_gt (tgt := 56) dX10_tellOrder_11 (by decide) rfl (fun hc => ?_) (fun hc => ?_)
  · replace h := it_t hc h
    refine zJ_loc (ls' := []) zll_n ?_
    exact hk6 _ _ h
  · replace h := it_f hc h
    refine zJ_iconst dX10_tellOrder_14 zc_0 rfl ?_
    refine zJ_istore (ls' := [(4, .int (0 : Int32)), (0, .ref 20), (1, .ref 3), (2, .ref 23), (3, .int v3_6)]) dX10_tellOrder_15 rfl rfl rfl ?_
    have hk17 : ∀ (numbers_size_17x : Int32) (numbers_told_17x : (Nat → Int64)), k_X10_tellOrder_rounds_faults_17 rc6 v3_6 numbers_size_17x numbers_told_17x = some (w_numbers_size, w_numbers_told) → zJ l zW 1 mX10_tellOrder σ ([(193, numbers_size_17x), (1284, rounds_size)], [(23, rounds_faults), (24, rounds_tenths)], [(4, numbers_told_17x)]) 50 [(0, .ref 20), (1, .ref 3), (2, .ref 23), (3, .int v3_6)] [] none ([(193, w_numbers_size), (1284, rounds_size)], [(23, rounds_faults), (24, rounds_tenths)], [(4, w_numbers_told)]) := by
      intro numbers_size_17x numbers_told_17x h
      unfold k_X10_tellOrder_rounds_faults_17 at h
      obtain ⟨v3n2, ev3n2, h⟩ := lt1_some h
      refine zJ_iincN (ls' := [(3, .int v3n2), (0, .ref 20), (1, .ref 3), (2, .ref 23)]) dX10_tellOrder_50 rfl rfl zc_1 ev3n2 rfl rfl ?_
      refine zJ_goto (tgt := 6) dX10_tellOrder_53 (by decide) ?_
      refine zJ_loc (ls' := [(0, .ref 20), (1, .ref 3), (2, .ref 23), (3, .int v3n2)]) (zll_c rfl (zll_c rfl (zll_c rfl (zll_c rfl zll_n)))) ?_
      exact hrc6 _ _ _ h
    refine zJ_loc (ls' := [(0, .ref 20), (1, .ref 3), (2, .ref 23), (3, .int v3_6), (4, .int (0 : Int32))]) (zll_c rfl (zll_c rfl (zll_c rfl (zll_c rfl (zll_c rfl zll_n))))) ?_
    refine ml3_J (fun (v4_17 : Int32) (numbers_size_17 : Int32) (numbers_told_17 : (Nat → Int64)) => zJ l zW 1 mX10_tellOrder σ ([(193, numbers_size_17), (1284, rounds_size)], [(23, rounds_faults), (24, rounds_tenths)], [(4, numbers_told_17)]) 17 [(0, .ref 20), (1, .ref 3), (2, .ref 23), (3, .int v3_6), (4, .int v4_17)] [] none ([(193, w_numbers_size), (1284, rounds_size)], [(23, rounds_faults), (24, rounds_tenths)], [(4, w_numbers_told)])) (fun rc17 hrc17 v4_17 numbers_size_17 numbers_told_17 h => ?_) zN _ _ _ h
    unfold s_X10_tellOrder_rounds_faults_17 at h
    refine zJ_iload dX10_tellOrder_17 rfl rfl ?_
    refine zJ_aload_n dX10_tellOrder_19 rfl rfl ?_
    refine zJ_geti dX10_tellOrder_20 F_X10_64 zW_20 rfl rfl rfl ?_
    refine zJ_icmp_ge (tgt := 50) dX10_tellOrder_23 (by decide) rfl (fun hc => ?_) (fun hc => ?_)
    · replace h := it_t hc h
      refine zJ_loc (ls' := [(0, .ref 20), (1, .ref 3), (2, .ref 23), (3, .int v3_6)]) (zll_c rfl (zll_c rfl (zll_c rfl (zll_c rfl zll_n)))) ?_
      exact hk17 _ _ h
    · replace h := it_f hc h
      refine zJ_aload_n dX10_tellOrder_26 rfl rfl ?_
      refine zJ_iload dX10_tellOrder_27 rfl rfl ?_
      refine zJ_aload_n dX10_tellOrder_29 rfl rfl ?_
      obtain ⟨rn3, hcl, h⟩ := bd1_some h
      refine zJ_callV (yi := mX10_placeOf) (as := [.int v4_17, .ref 23]) (st := []) (L2 := ([(193, numbers_size_17), (1284, rounds_size)], [(23, rounds_faults), (24, rounds_tenths)], [(4, numbers_told_17)])) dX10_tellOrder_30 ML_X10_76 Yv_X10_placeOf rfl zW_20 rfl rfl (t_X10_placeOf_rounds_faults l _ hcl) (zsub_i (zle_c rfl zle_n) (zle_c rfl (zle_c rfl zle_n)) zle_n) rfl (Nat.le_of_ble_eq_true rfl) (Nat.le_of_ble_eq_true rfl) rfl rfl ?_
      refine zJ_iload_n dX10_tellOrder_33 rfl rfl ?_
      refine zJ_icmp_ne (tgt := 44) dX10_tellOrder_34 (by decide) rfl (fun hc => ?_) (fun hc => ?_)
      · replace h := it_f hc h
        obtain ⟨v4n4, ev4n4, h⟩ := lt1_some h
        refine zJ_iincN (ls' := [(4, .int v4n4), (0, .ref 20), (1, .ref 3), (2, .ref 23), (3, .int v3_6)]) dX10_tellOrder_44 rfl rfl zc_1 ev4n4 rfl rfl ?_
        refine zJ_goto (tgt := 17) dX10_tellOrder_47 (by decide) ?_
        refine zJ_loc (ls' := [(0, .ref 20), (1, .ref 3), (2, .ref 23), (3, .int v3_6), (4, .int v4n4)]) (zll_c rfl (zll_c rfl (zll_c rfl (zll_c rfl (zll_c rfl zll_n))))) ?_
        exact hrc17 _ _ _ h
      · replace h := it_t hc h
        refine zJ_aload_n dX10_tellOrder_37 rfl rfl ?_
        refine zJ_iload dX10_tellOrder_38 rfl rfl ?_
        refine zJ_i2l dX10_tellOrder_40 rfl ?_
        obtain ⟨numbers_sizen5, numbers_toldn6, hcl, h⟩ := bd2_some h
        refine zJ_callV (yi := mX6_put) (as := [.long v4_17.toInt64]) (st := []) (L2 := ([(193, numbers_sizen5), (1284, rounds_size)], [(23, rounds_faults), (24, rounds_tenths)], [(4, numbers_toldn6)])) dX10_tellOrder_41 ML_X10_80 Yv_X6_put rfl zW_3 rfl rfl (t_X6_put l _ hcl) (zsub_i (zle_c rfl zle_n) zle_n (zle_c rfl zle_n)) rfl (Nat.le_of_ble_eq_true rfl) (Nat.le_of_ble_eq_true rfl) rfl rfl ?_
        obtain ⟨v4n7, ev4n7, h⟩ := lt1_some h
        refine zJ_iincN (ls' := [(4, .int v4n7), (0, .ref 20), (1, .ref 3), (2, .ref 23), (3, .int v3_6)]) dX10_tellOrder_44 rfl rfl zc_1 ev4n7 rfl rfl ?_
        refine zJ_goto (tgt := 17) dX10_tellOrder_47 (by decide) ?_
        refine zJ_loc (ls' := [(0, .ref 20), (1, .ref 3), (2, .ref 23), (3, .int v3_6), (4, .int v4n7)]) (zll_c rfl (zll_c rfl (zll_c rfl (zll_c rfl (zll_c rfl zll_n))))) ?_
        exact hrc17 _ _ _ h
set_option maxRecDepth 100000 in
set_option maxHeartbeats 4000000 in
theorem t_X11_isRider (l : Launch) (σ : zS) {p0 : Int32} {r : Int32} (h : f_X11_isRider p0 = some r) : zMt l zW 0 mX11_isRider σ ([], [], []) [.int p0] (some (.int r)) ([], [], []) := by
  refine zMt_of (ls := [(0, .int p0)]) (by decide) rfl (fun _ => Nat.le_of_ble_eq_true rfl) rfl ?_
  unfold f_X11_isRider at h
  refine zJ_iload_n dX11_isRider_0 rfl rfl ?_
  refine zJ_if_lt (tgt := 14) dX11_isRider_1 (by decide) rfl (fun hc => ?_) (fun hc => ?_)
  · replace h := it_t hc h
    refine zJ_iconst dX11_isRider_14 zc_0 rfl ?_
    cases h
    exact zJ_iret dX11_isRider_15 rfl (by decide)
  · replace h := it_f hc h
    refine zJ_iload_n dX11_isRider_4 rfl rfl ?_
    refine zJ_bipush dX11_isRider_5 zb_6 rfl ?_
    refine zJ_icmp_ge (tgt := 14) dX11_isRider_7 (by decide) rfl (fun hc => ?_) (fun hc => ?_)
    · replace h := it_t hc h
      refine zJ_iconst dX11_isRider_14 zc_0 rfl ?_
      cases h
      exact zJ_iret dX11_isRider_15 rfl (by decide)
    · replace h := it_f hc h
      refine zJ_iconst dX11_isRider_10 zc_1 rfl ?_
      refine zJ_goto (tgt := 15) dX11_isRider_11 (by decide) ?_
      cases h
      exact zJ_iret dX11_isRider_15 rfl (by decide)
set_option maxRecDepth 100000 in
set_option maxHeartbeats 4000000 in
theorem t_X1_hasHorse (l : Launch) (σ : zS) {p1 : Int32} {course_horseCount : Int32} {r : Int32} (h : f_X1_hasHorse p1 course_horseCount = some r) : zMt l zW 0 mX1_hasHorse σ ([(326, course_horseCount)], [], []) [.ref 5, .int p1] (some (.int r)) ([(326, course_horseCount)], [], []) := by
  refine zMt_of (ls := [(0, .ref 5), (1, .int p1)]) (by decide) rfl (fun _ => Nat.le_of_ble_eq_true rfl) rfl ?_
  unfold f_X1_hasHorse at h
  refine zJ_iload_n dX1_hasHorse_0 rfl rfl ?_
  refine zJ_if_lt (tgt := 16) dX1_hasHorse_1 (by decide) rfl (fun hc => ?_) (fun hc => ?_)
  · replace h := it_t hc h
    refine zJ_iconst dX1_hasHorse_16 zc_0 rfl ?_
    cases h
    exact zJ_iret dX1_hasHorse_17 rfl (by decide)
  · replace h := it_f hc h
    refine zJ_iload_n dX1_hasHorse_4 rfl rfl ?_
    refine zJ_aload_n dX1_hasHorse_5 rfl rfl ?_
    refine zJ_geti dX1_hasHorse_6 F_X1_53 zW_5 rfl rfl rfl ?_
    refine zJ_icmp_ge (tgt := 16) dX1_hasHorse_9 (by decide) rfl (fun hc => ?_) (fun hc => ?_)
    · replace h := it_t hc h
      refine zJ_iconst dX1_hasHorse_16 zc_0 rfl ?_
      cases h
      exact zJ_iret dX1_hasHorse_17 rfl (by decide)
    · replace h := it_f hc h
      refine zJ_iconst dX1_hasHorse_12 zc_1 rfl ?_
      refine zJ_goto (tgt := 17) dX1_hasHorse_13 (by decide) ?_
      cases h
      exact zJ_iret dX1_hasHorse_17 rfl (by decide)
set_option maxRecDepth 100000 in
set_option maxHeartbeats 4000000 in
theorem t_X1_hasPlan (l : Launch) (σ : zS) {p1 : Int32} {course_planCount : Int32} {r : Int32} (h : f_X1_hasPlan p1 course_planCount = some r) : zMt l zW 0 mX1_hasPlan σ ([(328, course_planCount)], [], []) [.ref 5, .int p1] (some (.int r)) ([(328, course_planCount)], [], []) := by
  refine zMt_of (ls := [(0, .ref 5), (1, .int p1)]) (by decide) rfl (fun _ => Nat.le_of_ble_eq_true rfl) rfl ?_
  unfold f_X1_hasPlan at h
  refine zJ_iload_n dX1_hasPlan_0 rfl rfl ?_
  refine zJ_if_lt (tgt := 16) dX1_hasPlan_1 (by decide) rfl (fun hc => ?_) (fun hc => ?_)
  · replace h := it_t hc h
    refine zJ_iconst dX1_hasPlan_16 zc_0 rfl ?_
    cases h
    exact zJ_iret dX1_hasPlan_17 rfl (by decide)
  · replace h := it_f hc h
    refine zJ_iload_n dX1_hasPlan_4 rfl rfl ?_
    refine zJ_aload_n dX1_hasPlan_5 rfl rfl ?_
    refine zJ_geti dX1_hasPlan_6 F_X1_56 zW_5 rfl rfl rfl ?_
    refine zJ_icmp_ge (tgt := 16) dX1_hasPlan_9 (by decide) rfl (fun hc => ?_) (fun hc => ?_)
    · replace h := it_t hc h
      refine zJ_iconst dX1_hasPlan_16 zc_0 rfl ?_
      cases h
      exact zJ_iret dX1_hasPlan_17 rfl (by decide)
    · replace h := it_f hc h
      refine zJ_iconst dX1_hasPlan_12 zc_1 rfl ?_
      refine zJ_goto (tgt := 17) dX1_hasPlan_13 (by decide) ?_
      cases h
      exact zJ_iret dX1_hasPlan_17 rfl (by decide)
set_option maxRecDepth 100000 in
set_option maxHeartbeats 4000000 in
theorem t_X11_begun (l : Launch) (σ : zS) {p0 : Int32} {p1 : Int32} {p2 : Int32} {r : Int32} (h : f_X11_begun p0 p1 p2 = some r) : zMt l zW 0 mX11_begun σ ([], [], []) [.int p0, .int p1, .int p2] (some (.int r)) ([], [], []) := by
  refine zMt_of (ls := [(0, .int p0), (1, .int p1), (2, .int p2)]) (by decide) rfl (fun _ => Nat.le_of_ble_eq_true rfl) rfl ?_
  unfold f_X11_begun at h
  refine zJ_iload_n dX11_begun_0 rfl rfl ?_
  refine zJ_iload_n dX11_begun_1 rfl rfl ?_
  refine zJ_icmp_le (tgt := 9) dX11_begun_2 (by decide) rfl (fun hc => ?_) (fun hc => ?_)
  · replace h := it_t hc h
    refine zJ_iconst dX11_begun_9 zc_0 rfl ?_
    cases h
    exact zJ_iret dX11_begun_10 rfl rfl
  · replace h := it_f hc h
    refine zJ_iload_n dX11_begun_5 rfl rfl ?_
    refine zJ_if_gt (tgt := 11) dX11_begun_6 (by decide) rfl (fun hc => ?_) (fun hc => ?_)
    · replace h := it_t hc h
      refine zJ_iload_n dX11_begun_11 rfl rfl ?_
      refine zJ_iload_n dX11_begun_12 rfl rfl ?_
      refine zJ_isub dX11_begun_13 rfl ?_
      refine zJ_iload_n dX11_begun_14 rfl rfl ?_
      refine zJ_iadd dX11_begun_15 rfl ?_
      refine zJ_iconst dX11_begun_16 zc_1 rfl ?_
      refine zJ_isub dX11_begun_17 rfl ?_
      refine zJ_iload_n dX11_begun_18 rfl rfl ?_
      obtain ⟨hg, h⟩ := gd_some h
      refine zJ_idiv dX11_begun_19 (nz_ne hg) rfl ?_
      cases h
      exact zJ_iret dX11_begun_20 rfl rfl
    · replace h := it_f hc h
      refine zJ_iconst dX11_begun_9 zc_0 rfl ?_
      cases h
      exact zJ_iret dX11_begun_10 rfl rfl
set_option maxRecDepth 100000 in
set_option maxHeartbeats 4000000 in
theorem t_X1_letterAt (l : Launch) (σ : zS) {p1 : Int32} {p2 : Int32} {course_plans : (Nat → Int32)} {r : Int32} (h : f_X1_letterAt p1 p2 course_plans = some r) : zMt l zW 0 mX1_letterAt σ ([], [(11, course_plans)], []) [.ref 5, .int p1, .int p2] (some (.int r)) ([], [(11, course_plans)], []) := by
  refine zMt_of (ls := [(0, .ref 5), (1, .int p1), (2, .int p2)]) (by decide) rfl (fun _ => Nat.le_of_ble_eq_true rfl) rfl ?_
  unfold f_X1_letterAt at h
  refine zJ_aload_n dX1_letterAt_0 rfl rfl ?_
  refine zJ_getr dX1_letterAt_1 F_X1_27 zW_5 rfl rfl ?_
  refine zJ_iload_n dX1_letterAt_4 rfl rfl ?_
  refine zJ_bipush dX1_letterAt_5 zb_8 rfl ?_
  refine zJ_imul dX1_letterAt_7 rfl ?_
  refine zJ_iload_n dX1_letterAt_8 rfl rfl ?_
  refine zJ_iadd dX1_letterAt_9 rfl ?_
  obtain ⟨hg, h⟩ := gd_some h
  refine zJ_iald dX1_letterAt_10 zW_11 (ix_in hg) rfl rfl ?_
  cases h
  exact zJ_iret dX1_letterAt_11 rfl rfl
set_option maxRecDepth 100000 in
set_option maxHeartbeats 4000000 in
theorem t_X1_isCut (l : Launch) (σ : zS) {p0 : Int32} {r : Int32} (h : f_X1_isCut p0 = some r) : zMt l zW 0 mX1_isCut σ ([], [], []) [.int p0] (some (.int r)) ([], [], []) := by
  refine zMt_of (ls := [(0, .int p0)]) (by decide) rfl (fun _ => Nat.le_of_ble_eq_true rfl) rfl ?_
  unfold f_X1_isCut at h
  refine zJ_iload_n dX1_isCut_0 rfl rfl ?_
  refine zJ_iconst dX1_isCut_1 zc_4 rfl ?_
  refine zJ_icmp_lt (tgt := 9) dX1_isCut_2 (by decide) rfl (fun hc => ?_) (fun hc => ?_)
  · replace h := it_t hc h
    refine zJ_iconst dX1_isCut_9 zc_0 rfl ?_
    cases h
    exact zJ_iret dX1_isCut_10 rfl (by decide)
  · replace h := it_f hc h
    refine zJ_iconst dX1_isCut_5 zc_1 rfl ?_
    refine zJ_goto (tgt := 10) dX1_isCut_6 (by decide) ?_
    cases h
    exact zJ_iret dX1_isCut_10 rfl (by decide)
set_option maxRecDepth 100000 in
set_option maxHeartbeats 4000000 in
theorem t_X1_fenceTenths (l : Launch) (σ : zS) {p1 : Int32} {p2 : Int32} {course_kinds : (Nat → Int32)} {course_feet : (Nat → Int32)} {r : Int32} (h : f_X1_fenceTenths p1 p2 course_kinds course_feet = some r) : zMt l zW 1 mX1_fenceTenths σ ([], [(6, course_kinds), (8, course_feet)], []) [.ref 5, .int p1, .int p2] (some (.int r)) ([], [(6, course_kinds), (8, course_feet)], []) := by
  refine zMt_of (ls := [(0, .ref 5), (1, .int p1), (2, .int p2)]) (by decide) rfl (fun _ => Nat.le_of_ble_eq_true rfl) rfl ?_
  unfold f_X1_fenceTenths at h
  refine zJ_aload_n dX1_fenceTenths_0 rfl rfl ?_
  refine zJ_getr dX1_fenceTenths_1 F_X1_18 zW_5 rfl rfl ?_
  refine zJ_iload_n dX1_fenceTenths_4 rfl rfl ?_
  obtain ⟨hg, h⟩ := gd_some h
  refine zJ_iald dX1_fenceTenths_5 zW_8 (ix_in hg) rfl rfl ?_
  refine zJ_bipush dX1_fenceTenths_6 zb_6 rfl ?_
  refine zJ_iload_n dX1_fenceTenths_8 rfl rfl ?_
  refine zJ_iconst dX1_fenceTenths_9 zc_4 rfl ?_
  refine zJ_irem dX1_fenceTenths_10 (by decide) rfl ?_
  refine zJ_isub dX1_fenceTenths_11 rfl ?_
  refine zJ_imul dX1_fenceTenths_12 rfl ?_
  refine zJ_iconst dX1_fenceTenths_13 zc_4 rfl ?_
  refine zJ_idiv dX1_fenceTenths_14 (by decide) rfl ?_
  obtain ⟨v3n1, ev3n1, h⟩ := lt1_some h
  refine zJ_nmi ev3n1 ?_
  refine zJ_istore_n (ls' := [(3, .int v3n1), (0, .ref 5), (1, .int p1), (2, .int p2)]) dX1_fenceTenths_15 rfl rfl rfl ?_
  refine zJ_iload_n dX1_fenceTenths_16 rfl rfl ?_
  obtain ⟨rn2, hcl, h⟩ := bd1_some h
  refine zJ_callS (yi := mX1_isCut) (as := [.int p2]) (st := []) (L2 := ([], [(6, course_kinds), (8, course_feet)], [])) dX1_fenceTenths_17 ML_X1_110 Ys_X1_isCut rfl (t_X1_isCut l _ hcl) (zsub_i zle_n zle_n zle_n) rfl (Nat.le_of_ble_eq_true rfl) (Nat.le_of_ble_eq_true rfl) rfl rfl ?_
  refine zJ_if_eq (tgt := 34) dX1_fenceTenths_20 (by decide) rfl (fun hc => ?_) (fun hc => ?_)
  · replace h := it_t hc h
    refine zJ_aload_n dX1_fenceTenths_34 rfl rfl ?_
    refine zJ_getr dX1_fenceTenths_35 F_X1_11 zW_5 rfl rfl ?_
    refine zJ_iload_n dX1_fenceTenths_38 rfl rfl ?_
    obtain ⟨hg, h⟩ := gd_some h
    refine zJ_iald dX1_fenceTenths_39 zW_6 (ix_in hg) rfl rfl ?_
    refine zJ_iconst dX1_fenceTenths_40 zc_2 rfl ?_
    refine zJ_icmp_ne (tgt := 47) dX1_fenceTenths_41 (by decide) rfl (fun hc => ?_) (fun hc => ?_)
    · replace h := it_f hc h
      refine zJ_iconst dX1_fenceTenths_47 zc_1 rfl ?_
      refine zJ_iload_n dX1_fenceTenths_48 rfl rfl ?_
      refine zJ_mmax dX1_fenceTenths_49 L_X1_114 K_max_s K_math K_max_c (Nat.le_of_ble_eq_true rfl) (Nat.le_of_ble_eq_true rfl) rfl ?_
      cases h
      exact zJ_iret dX1_fenceTenths_52 rfl rfl
    · replace h := it_t hc h
      obtain ⟨v3n3, ev3n3, h⟩ := lt1_some h
      refine zJ_iincN (ls' := [(3, .int v3n3), (0, .ref 5), (1, .int p1), (2, .int p2)]) dX1_fenceTenths_44 rfl rfl zc_2 ev3n3 rfl rfl ?_
      refine zJ_iconst dX1_fenceTenths_47 zc_1 rfl ?_
      refine zJ_iload_n dX1_fenceTenths_48 rfl rfl ?_
      refine zJ_mmax dX1_fenceTenths_49 L_X1_114 K_max_s K_math K_max_c (Nat.le_of_ble_eq_true rfl) (Nat.le_of_ble_eq_true rfl) rfl ?_
      cases h
      exact zJ_iret dX1_fenceTenths_52 rfl rfl
  · replace h := it_f hc h
    refine zJ_iload_n dX1_fenceTenths_23 rfl rfl ?_
    refine zJ_aload_n dX1_fenceTenths_24 rfl rfl ?_
    refine zJ_getr dX1_fenceTenths_25 F_X1_18 zW_5 rfl rfl ?_
    refine zJ_iload_n dX1_fenceTenths_28 rfl rfl ?_
    obtain ⟨hg, h⟩ := gd_some h
    refine zJ_iald dX1_fenceTenths_29 zW_8 (ix_in hg) rfl rfl ?_
    refine zJ_iconst dX1_fenceTenths_30 zc_4 rfl ?_
    refine zJ_idiv dX1_fenceTenths_31 (by decide) rfl ?_
    refine zJ_isub dX1_fenceTenths_32 rfl ?_
    obtain ⟨v3n4, ev3n4, h⟩ := lt1_some h
    refine zJ_nmi ev3n4 ?_
    refine zJ_istore_n (ls' := [(3, .int v3n4), (0, .ref 5), (1, .int p1), (2, .int p2)]) dX1_fenceTenths_33 rfl rfl rfl ?_
    refine zJ_aload_n dX1_fenceTenths_34 rfl rfl ?_
    refine zJ_getr dX1_fenceTenths_35 F_X1_11 zW_5 rfl rfl ?_
    refine zJ_iload_n dX1_fenceTenths_38 rfl rfl ?_
    obtain ⟨hg, h⟩ := gd_some h
    refine zJ_iald dX1_fenceTenths_39 zW_6 (ix_in hg) rfl rfl ?_
    refine zJ_iconst dX1_fenceTenths_40 zc_2 rfl ?_
    refine zJ_icmp_ne (tgt := 47) dX1_fenceTenths_41 (by decide) rfl (fun hc => ?_) (fun hc => ?_)
    · replace h := it_f hc h
      refine zJ_iconst dX1_fenceTenths_47 zc_1 rfl ?_
      refine zJ_iload_n dX1_fenceTenths_48 rfl rfl ?_
      refine zJ_mmax dX1_fenceTenths_49 L_X1_114 K_max_s K_math K_max_c (Nat.le_of_ble_eq_true rfl) (Nat.le_of_ble_eq_true rfl) rfl ?_
      cases h
      exact zJ_iret dX1_fenceTenths_52 rfl rfl
    · replace h := it_t hc h
      obtain ⟨v3n5, ev3n5, h⟩ := lt1_some h
      refine zJ_iincN (ls' := [(3, .int v3n5), (0, .ref 5), (1, .int p1), (2, .int p2)]) dX1_fenceTenths_44 rfl rfl zc_2 ev3n5 rfl rfl ?_
      refine zJ_iconst dX1_fenceTenths_47 zc_1 rfl ?_
      refine zJ_iload_n dX1_fenceTenths_48 rfl rfl ?_
      refine zJ_mmax dX1_fenceTenths_49 L_X1_114 K_max_s K_math K_max_c (Nat.le_of_ble_eq_true rfl) (Nat.le_of_ble_eq_true rfl) rfl ?_
      cases h
      exact zJ_iret dX1_fenceTenths_52 rfl rfl
set_option maxRecDepth 100000 in
set_option maxHeartbeats 4000000 in
theorem t_X1_planTenths (l : Launch) (σ : zS) {p1 : Int32} {course_fences : Int32} {course_kinds : (Nat → Int32)} {course_feet : (Nat → Int32)} {course_plans : (Nat → Int32)} {r : Int32} (h : f_X1_planTenths p1 course_fences course_kinds course_feet course_plans = some r) : zMt l zW 2 mX1_planTenths σ ([(323, course_fences)], [(6, course_kinds), (8, course_feet), (11, course_plans)], []) [.ref 5, .int p1] (some (.int r)) ([(323, course_fences)], [(6, course_kinds), (8, course_feet), (11, course_plans)], []) := by
  refine zMt_of (ls := [(0, .ref 5), (1, .int p1)]) (by decide) rfl (fun _ => Nat.le_of_ble_eq_true rfl) rfl ?_
  unfold f_X1_planTenths at h
  refine zJ_iconst dX1_planTenths_0 zc_0 rfl ?_
  refine zJ_istore_n (ls' := [(2, .int (0 : Int32)), (0, .ref 5), (1, .int p1)]) dX1_planTenths_1 rfl rfl rfl ?_
  refine zJ_iconst dX1_planTenths_2 zc_0 rfl ?_
  refine zJ_istore_n (ls' := [(3, .int (0 : Int32)), (2, .int (0 : Int32)), (0, .ref 5), (1, .int p1)]) dX1_planTenths_3 rfl rfl rfl ?_
  have hk4 : ∀ (v2_4x : Int32), k_X1_planTenths_4  v2_4x = some r → zJ l zW 2 mX1_planTenths σ ([(323, course_fences)], [(6, course_kinds), (8, course_feet), (11, course_plans)], []) 32 [(2, .int v2_4x)] [] (some (.int r)) ([(323, course_fences)], [(6, course_kinds), (8, course_feet), (11, course_plans)], []) := by
    intro v2_4x h
    unfold k_X1_planTenths_4 at h
    refine zJ_iload_n dX1_planTenths_32 rfl rfl ?_
    cases h
    exact zJ_iret dX1_planTenths_33 rfl rfl
  refine zJ_loc (ls' := [(0, .ref 5), (1, .int p1), (2, .int (0 : Int32)), (3, .int (0 : Int32))]) (zll_c rfl (zll_c rfl (zll_c rfl (zll_c rfl zll_n)))) ?_
  refine ml2_J (fun (v2_4 : Int32) (v3_4 : Int32) => zJ l zW 2 mX1_planTenths σ ([(323, course_fences)], [(6, course_kinds), (8, course_feet), (11, course_plans)], []) 4 [(0, .ref 5), (1, .int p1), (2, .int v2_4), (3, .int v3_4)] [] (some (.int r)) ([(323, course_fences)], [(6, course_kinds), (8, course_feet), (11, course_plans)], [])) (fun rc4 hrc4 v2_4 v3_4 h => ?_) zN _ _ h
  unfold s_X1_planTenths_4 at h
  refine zJ_iload_n dX1_planTenths_4 rfl rfl ?_
  refine zJ_aload_n dX1_planTenths_5 rfl rfl ?_
  refine zJ_geti dX1_planTenths_6 F_X1_50 zW_5 rfl rfl rfl ?_
  refine zJ_icmp_ge (tgt := 32) dX1_planTenths_9 (by decide) rfl (fun hc => ?_) (fun hc => ?_)
  · replace h := it_t hc h
    refine zJ_loc (ls' := [(2, .int v2_4)]) (zll_c rfl zll_n) ?_
    exact hk4 _ h
  · replace h := it_f hc h
    refine zJ_iload_n dX1_planTenths_12 rfl rfl ?_
    refine zJ_aload_n dX1_planTenths_13 rfl rfl ?_
    refine zJ_iload_n dX1_planTenths_14 rfl rfl ?_
    refine zJ_aload_n dX1_planTenths_15 rfl rfl ?_
    refine zJ_iload_n dX1_planTenths_16 rfl rfl ?_
    refine zJ_iload_n dX1_planTenths_17 rfl rfl ?_
    obtain ⟨rn1, hcl, h⟩ := bd1_some h
    refine zJ_callV (yi := mX1_letterAt) (as := [.int p1, .int v3_4]) (st := [.int v3_4, .ref 5, .int v2_4]) (L2 := ([(323, course_fences)], [(6, course_kinds), (8, course_feet), (11, course_plans)], [])) dX1_planTenths_18 ML_X1_117 Yv_X1_letterAt rfl zW_5 rfl rfl (t_X1_letterAt l _ hcl) (zsub_i zle_n (zle_c rfl zle_n) zle_n) rfl (Nat.le_of_ble_eq_true rfl) (Nat.le_of_ble_eq_true rfl) rfl rfl ?_
    obtain ⟨rn2, hcl, h⟩ := bd1_some h
    refine zJ_callV (yi := mX1_fenceTenths) (as := [.int v3_4, .int rn1]) (st := [.int v2_4]) (L2 := ([(323, course_fences)], [(6, course_kinds), (8, course_feet), (11, course_plans)], [])) dX1_planTenths_21 ML_X1_120 Yv_X1_fenceTenths rfl zW_5 rfl rfl (t_X1_fenceTenths l _ hcl) (zsub_i zle_n (zle_c rfl (zle_c rfl zle_n)) zle_n) rfl (Nat.le_of_ble_eq_true rfl) (Nat.le_of_ble_eq_true rfl) rfl rfl ?_
    refine zJ_iadd dX1_planTenths_24 rfl ?_
    obtain ⟨v2n3, ev2n3, h⟩ := lt1_some h
    refine zJ_nmi ev2n3 ?_
    refine zJ_istore_n (ls' := [(2, .int v2n3), (0, .ref 5), (1, .int p1), (3, .int v3_4)]) dX1_planTenths_25 rfl rfl rfl ?_
    obtain ⟨v3n4, ev3n4, h⟩ := lt1_some h
    refine zJ_iincN (ls' := [(3, .int v3n4), (2, .int v2n3), (0, .ref 5), (1, .int p1)]) dX1_planTenths_26 rfl rfl zc_1 ev3n4 rfl rfl ?_
    refine zJ_goto (tgt := 4) dX1_planTenths_29 (by decide) ?_
    refine zJ_loc (ls' := [(0, .ref 5), (1, .int p1), (2, .int v2n3), (3, .int v3n4)]) (zll_c rfl (zll_c rfl (zll_c rfl (zll_c rfl zll_n)))) ?_
    exact hrc4 _ _ h
set_option maxRecDepth 100000 in
set_option maxHeartbeats 4000000 in
theorem t_X1_lean (l : Launch) (σ : zS) {p0 : Int32} {p1 : Int32} {r : Int32} (h : f_X1_lean p0 p1 = some r) : zMt l zW 1 mX1_lean σ ([], [], []) [.int p0, .int p1] (some (.int r)) ([], [], []) := by
  refine zMt_of (ls := [(0, .int p0), (1, .int p1)]) (by decide) rfl (fun _ => Nat.le_of_ble_eq_true rfl) rfl ?_
  unfold f_X1_lean at h
  refine zJ_iload_n dX1_lean_0 rfl rfl ?_
  refine zJ_if_gt (tgt := 6) dX1_lean_1 (by decide) rfl (fun hc => ?_) (fun hc => ?_)
  · replace h := it_t hc h
    refine zJ_iload_n dX1_lean_6 rfl rfl ?_
    refine zJ_iload_n dX1_lean_7 rfl rfl ?_
    obtain ⟨hg, h⟩ := gd_some h
    refine zJ_irem dX1_lean_8 (nz_ne hg) rfl ?_
    obtain ⟨v2n1, ev2n1, h⟩ := lt1_some h
    refine zJ_nmi ev2n1 ?_
    refine zJ_istore_n (ls' := [(2, .int v2n1), (0, .int p0), (1, .int p1)]) dX1_lean_9 rfl rfl rfl ?_
    refine zJ_iload_n dX1_lean_10 rfl rfl ?_
    refine zJ_iload_n dX1_lean_11 rfl rfl ?_
    refine zJ_iload_n dX1_lean_12 rfl rfl ?_
    refine zJ_isub dX1_lean_13 rfl ?_
    refine zJ_mmin dX1_lean_14 L_X1_99 K_min_s K_math K_min_c (Nat.le_of_ble_eq_true rfl) (Nat.le_of_ble_eq_true rfl) rfl ?_
    cases h
    exact zJ_iret dX1_lean_17 rfl rfl
  · replace h := it_f hc h
    refine zJ_iconst dX1_lean_4 zc_0 rfl ?_
    cases h
    exact zJ_iret dX1_lean_5 rfl rfl
set_option maxRecDepth 100000 in
set_option maxHeartbeats 4000000 in
theorem t_X1_ofHorse (l : Launch) (σ : zS) {p1 : Int32} {p2 : Int32} {course_digits : (Nat → Int32)} {r : Int32} (h : f_X1_ofHorse p1 p2 course_digits = some r) : zMt l zW 0 mX1_ofHorse σ ([], [(10, course_digits)], []) [.ref 5, .int p1, .int p2] (some (.int r)) ([], [(10, course_digits)], []) := by
  refine zMt_of (ls := [(0, .ref 5), (1, .int p1), (2, .int p2)]) (by decide) rfl (fun _ => Nat.le_of_ble_eq_true rfl) rfl ?_
  unfold f_X1_ofHorse at h
  refine zJ_aload_n dX1_ofHorse_0 rfl rfl ?_
  refine zJ_getr dX1_ofHorse_1 F_X1_24 zW_5 rfl rfl ?_
  refine zJ_iload_n dX1_ofHorse_4 rfl rfl ?_
  refine zJ_bipush dX1_ofHorse_5 zb_6 rfl ?_
  refine zJ_imul dX1_ofHorse_7 rfl ?_
  refine zJ_iload_n dX1_ofHorse_8 rfl rfl ?_
  refine zJ_iadd dX1_ofHorse_9 rfl ?_
  obtain ⟨hg, h⟩ := gd_some h
  refine zJ_iald dX1_ofHorse_10 zW_10 (ix_in hg) rfl rfl ?_
  cases h
  exact zJ_iret dX1_ofHorse_11 rfl rfl
set_option maxRecDepth 100000 in
set_option maxHeartbeats 4000000 in
theorem t_X1_leanAt (l : Launch) (σ : zS) {p1 : Int32} {p2 : Int32} {course_feet : (Nat → Int32)} {course_digits : (Nat → Int32)} {r : Int32} (h : f_X1_leanAt p1 p2 course_feet course_digits = some r) : zMt l zW 2 mX1_leanAt σ ([], [(8, course_feet), (10, course_digits)], []) [.ref 5, .int p1, .int p2] (some (.int r)) ([], [(8, course_feet), (10, course_digits)], []) := by
  refine zMt_of (ls := [(0, .ref 5), (1, .int p1), (2, .int p2)]) (by decide) rfl (fun _ => Nat.le_of_ble_eq_true rfl) rfl ?_
  unfold f_X1_leanAt at h
  refine zJ_aload_n dX1_leanAt_0 rfl rfl ?_
  refine zJ_getr dX1_leanAt_1 F_X1_18 zW_5 rfl rfl ?_
  refine zJ_iload_n dX1_leanAt_4 rfl rfl ?_
  obtain ⟨hg, h⟩ := gd_some h
  refine zJ_iald dX1_leanAt_5 zW_8 (ix_in hg) rfl rfl ?_
  refine zJ_aload_n dX1_leanAt_6 rfl rfl ?_
  refine zJ_iload_n dX1_leanAt_7 rfl rfl ?_
  refine zJ_iconst dX1_leanAt_8 zc_0 rfl ?_
  obtain ⟨rn1, hcl, h⟩ := bd1_some h
  refine zJ_callV (yi := mX1_ofHorse) (as := [.int p1, .int (0 : Int32)]) (st := [.int (course_feet p2.toNatClampNeg)]) (L2 := ([], [(8, course_feet), (10, course_digits)], [])) dX1_leanAt_9 ML_X1_104 Yv_X1_ofHorse rfl zW_5 rfl rfl (t_X1_ofHorse l _ hcl) (zsub_i zle_n (zle_c rfl zle_n) zle_n) rfl (Nat.le_of_ble_eq_true rfl) (Nat.le_of_ble_eq_true rfl) rfl rfl ?_
  obtain ⟨rn2, hcl, h⟩ := bd1_some h
  refine zJ_callS (yi := mX1_lean) (as := [.int (course_feet p2.toNatClampNeg), .int rn1]) (st := []) (L2 := ([], [(8, course_feet), (10, course_digits)], [])) dX1_leanAt_12 ML_X1_107 Ys_X1_lean rfl (t_X1_lean l _ hcl) (zsub_i zle_n zle_n zle_n) rfl (Nat.le_of_ble_eq_true rfl) (Nat.le_of_ble_eq_true rfl) rfl rfl ?_
  cases h
  exact zJ_iret dX1_leanAt_15 rfl rfl
set_option maxRecDepth 100000 in
set_option maxHeartbeats 4000000 in
theorem t_X7_join (l : Launch) (σ : zS) {p0 : Int32} {p1 : Int32} {p2 : Int32} {r : Int32} (h : f_X7_join p0 p1 p2 = some r) : zMt l zW 0 mX7_join σ ([], [], []) [.int p0, .int p1, .int p2] (some (.int r)) ([], [], []) := by
  refine zMt_of (ls := [(0, .int p0), (1, .int p1), (2, .int p2)]) (by decide) rfl (fun _ => Nat.le_of_ble_eq_true rfl) rfl ?_
  unfold f_X7_join at h
  refine zJ_iload_n dX7_join_0 rfl rfl ?_
  by_cases hc0 : p0 = (0 : Int32)
  · replace h := it_t hc0 h
    refine zJ_tswI (tgt := 44) (off := 43) dX7_join_1 0 (by rw [hc0]; decide) (by decide) (by decide) rfl (by decide) ?_
    refine zJ_iload_n dX7_join_44 rfl rfl ?_
    refine zJ_iload_n dX7_join_45 rfl rfl ?_
    refine zJ_icmp_ge (tgt := 53) dX7_join_46 (by decide) rfl (fun hc => ?_) (fun hc => ?_)
    · replace h := it_t hc h
      refine zJ_iconst dX7_join_53 zc_0 rfl ?_
      cases h
      exact zJ_iret dX7_join_54 rfl rfl
    · replace h := it_f hc h
      refine zJ_iconst dX7_join_49 zc_1 rfl ?_
      refine zJ_goto (tgt := 54) dX7_join_50 (by decide) ?_
      cases h
      exact zJ_iret dX7_join_54 rfl rfl
  replace h := it_f hc0 h
  by_cases hc1 : p0 = (1 : Int32)
  · replace h := it_t hc1 h
    refine zJ_tswI (tgt := 55) (off := 54) dX7_join_1 1 (by rw [hc1]; decide) (by decide) (by decide) rfl (by decide) ?_
    refine zJ_iload_n dX7_join_55 rfl rfl ?_
    refine zJ_iload_n dX7_join_56 rfl rfl ?_
    refine zJ_icmp_le (tgt := 64) dX7_join_57 (by decide) rfl (fun hc => ?_) (fun hc => ?_)
    · replace h := it_t hc h
      refine zJ_iconst dX7_join_64 zc_0 rfl ?_
      cases h
      exact zJ_iret dX7_join_65 rfl rfl
    · replace h := it_f hc h
      refine zJ_iconst dX7_join_60 zc_1 rfl ?_
      refine zJ_goto (tgt := 65) dX7_join_61 (by decide) ?_
      cases h
      exact zJ_iret dX7_join_65 rfl rfl
  replace h := it_f hc1 h
  by_cases hc2 : p0 = (2 : Int32)
  · replace h := it_t hc2 h
    refine zJ_tswI (tgt := 66) (off := 65) dX7_join_1 2 (by rw [hc2]; decide) (by decide) (by decide) rfl (by decide) ?_
    refine zJ_iload_n dX7_join_66 rfl rfl ?_
    refine zJ_iload_n dX7_join_67 rfl rfl ?_
    refine zJ_icmp_ne (tgt := 75) dX7_join_68 (by decide) rfl (fun hc => ?_) (fun hc => ?_)
    · replace h := it_f hc h
      refine zJ_iconst dX7_join_75 zc_0 rfl ?_
      cases h
      exact zJ_iret dX7_join_76 rfl rfl
    · replace h := it_t hc h
      refine zJ_iconst dX7_join_71 zc_1 rfl ?_
      refine zJ_goto (tgt := 76) dX7_join_72 (by decide) ?_
      cases h
      exact zJ_iret dX7_join_76 rfl rfl
  replace h := it_f hc2 h
  by_cases hc3 : p0 = (3 : Int32)
  · replace h := it_t hc3 h
    refine zJ_tswI (tgt := 77) (off := 76) dX7_join_1 3 (by rw [hc3]; decide) (by decide) (by decide) rfl (by decide) ?_
    refine zJ_iload_n dX7_join_77 rfl rfl ?_
    refine zJ_iload_n dX7_join_78 rfl rfl ?_
    refine zJ_iadd dX7_join_79 rfl ?_
    cases h
    exact zJ_iret dX7_join_80 rfl rfl
  replace h := it_f hc3 h
  by_cases hc4 : p0 = (4 : Int32)
  · replace h := it_t hc4 h
    refine zJ_tswI (tgt := 81) (off := 80) dX7_join_1 4 (by rw [hc4]; decide) (by decide) (by decide) rfl (by decide) ?_
    refine zJ_iload_n dX7_join_81 rfl rfl ?_
    refine zJ_iload_n dX7_join_82 rfl rfl ?_
    refine zJ_isub dX7_join_83 rfl ?_
    cases h
    exact zJ_iret dX7_join_84 rfl rfl
  replace h := it_f hc4 h
  by_cases hc5 : p0 = (5 : Int32)
  · replace h := it_t hc5 h
    refine zJ_tswI (tgt := 89) (off := 88) dX7_join_1 5 (by rw [hc5]; decide) (by decide) (by decide) rfl (by decide) ?_
    refine zJ_iload_n dX7_join_89 rfl rfl ?_
    refine zJ_if_ne (tgt := 97) dX7_join_90 (by decide) rfl (fun hc => ?_) (fun hc => ?_)
    · replace h := it_f hc h
      refine zJ_iload_n dX7_join_97 rfl rfl ?_
      refine zJ_iload_n dX7_join_98 rfl rfl ?_
      obtain ⟨hg, h⟩ := gd_some h
      refine zJ_idiv dX7_join_99 (nz_ne hg) rfl ?_
      cases h
      exact zJ_iret dX7_join_100 rfl rfl
    · replace h := it_t hc h
      refine zJ_iconst dX7_join_93 zc_0 rfl ?_
      refine zJ_goto (tgt := 100) dX7_join_94 (by decide) ?_
      cases h
      exact zJ_iret dX7_join_100 rfl rfl
  replace h := it_f hc5 h
  by_cases hc6 : p0 = (6 : Int32)
  · replace h := it_t hc6 h
    refine zJ_tswI (tgt := 85) (off := 84) dX7_join_1 6 (by rw [hc6]; decide) (by decide) (by decide) rfl (by decide) ?_
    refine zJ_iload_n dX7_join_85 rfl rfl ?_
    refine zJ_iload_n dX7_join_86 rfl rfl ?_
    refine zJ_imul dX7_join_87 rfl ?_
    cases h
    exact zJ_iret dX7_join_88 rfl rfl
  replace h := it_f hc6 h
  have hq0 := z_ne (n := 0) hc0 (by decide)
  have hq1 := z_ne (n := 1) hc1 (by decide)
  have hq2 := z_ne (n := 2) hc2 (by decide)
  have hq3 := z_ne (n := 3) hc3 (by decide)
  have hq4 := z_ne (n := 4) hc4 (by decide)
  have hq5 := z_ne (n := 5) hc5 (by decide)
  have hq6 := z_ne (n := 6) hc6 (by decide)
  refine zJ_tswO (tgt := 89) dX7_join_1 (by omega) (by decide) ?_
  refine zJ_iload_n dX7_join_89 rfl rfl ?_
  refine zJ_if_ne (tgt := 97) dX7_join_90 (by decide) rfl (fun hc => ?_) (fun hc => ?_)
  · replace h := it_f hc h
    refine zJ_iload_n dX7_join_97 rfl rfl ?_
    refine zJ_iload_n dX7_join_98 rfl rfl ?_
    obtain ⟨hg, h⟩ := gd_some h
    refine zJ_idiv dX7_join_99 (nz_ne hg) rfl ?_
    cases h
    exact zJ_iret dX7_join_100 rfl rfl
  · replace h := it_t hc h
    refine zJ_iconst dX7_join_93 zc_0 rfl ?_
    refine zJ_goto (tgt := 100) dX7_join_94 (by decide) ?_
    cases h
    exact zJ_iret dX7_join_100 rfl rfl
set_option maxRecDepth 100000 in
set_option maxHeartbeats 4000000 in
theorem t_X7_usual (l : Launch) (σ : zS) {rule_things : (Nat → Int32)} {r : Int32} (h : f_X7_usual rule_things = some r) : zMt l zW 0 mX7_usual σ ([], [(16, rule_things)], []) [.ref 12] (some (.int r)) ([], [(16, rule_things)], []) := by
  refine zMt_of (ls := [(0, .ref 12)]) (by decide) rfl (fun _ => Nat.le_of_ble_eq_true rfl) rfl ?_
  unfold f_X7_usual at h
  refine zJ_aload_n dX7_usual_0 rfl rfl ?_
  refine zJ_getr dX7_usual_1 F_X7_21 zW_12 rfl rfl ?_
  refine zJ_iconst dX7_usual_4 zc_0 rfl ?_
  obtain ⟨hg, h⟩ := gd_some h
  refine zJ_iald dX7_usual_5 zW_16 (ix_in hg) rfl rfl ?_
  obtain ⟨v1n1, ev1n1, h⟩ := lt1_some h
  refine zJ_nmi ev1n1 ?_
  refine zJ_istore_n (ls' := [(1, .int v1n1), (0, .ref 12)]) dX7_usual_6 rfl rfl rfl ?_
  refine zJ_aload_n dX7_usual_7 rfl rfl ?_
  refine zJ_getr dX7_usual_8 F_X7_21 zW_12 rfl rfl ?_
  refine zJ_iconst dX7_usual_11 zc_1 rfl ?_
  obtain ⟨hg, h⟩ := gd_some h
  refine zJ_iald dX7_usual_12 zW_16 (ix_in hg) rfl rfl ?_
  obtain ⟨v2n2, ev2n2, h⟩ := lt1_some h
  refine zJ_nmi ev2n2 ?_
  refine zJ_istore_n (ls' := [(2, .int v2n2), (1, .int v1n1), (0, .ref 12)]) dX7_usual_13 rfl rfl rfl ?_
  refine zJ_aload_n dX7_usual_14 rfl rfl ?_
  refine zJ_getr dX7_usual_15 F_X7_21 zW_12 rfl rfl ?_
  refine zJ_iconst dX7_usual_18 zc_2 rfl ?_
  obtain ⟨hg, h⟩ := gd_some h
  refine zJ_iald dX7_usual_19 zW_16 (ix_in hg) rfl rfl ?_
  obtain ⟨v3n3, ev3n3, h⟩ := lt1_some h
  refine zJ_nmi ev3n3 ?_
  refine zJ_istore_n (ls' := [(3, .int v3n3), (2, .int v2n2), (1, .int v1n1), (0, .ref 12)]) dX7_usual_20 rfl rfl rfl ?_
  refine zJ_aload_n dX7_usual_21 rfl rfl ?_
  refine zJ_getr dX7_usual_22 F_X7_21 zW_12 rfl rfl ?_
  refine zJ_iconst dX7_usual_25 zc_3 rfl ?_
  obtain ⟨hg, h⟩ := gd_some h
  refine zJ_iald dX7_usual_26 zW_16 (ix_in hg) rfl rfl ?_
  obtain ⟨v4n4, ev4n4, h⟩ := lt1_some h
  refine zJ_nmi ev4n4 ?_
  refine zJ_istore (ls' := [(4, .int v4n4), (3, .int v3n3), (2, .int v2n2), (1, .int v1n1), (0, .ref 12)]) dX7_usual_27 rfl rfl rfl ?_
  refine zJ_aload_n dX7_usual_29 rfl rfl ?_
  refine zJ_getr dX7_usual_30 F_X7_21 zW_12 rfl rfl ?_
  refine zJ_iconst dX7_usual_33 zc_4 rfl ?_
  obtain ⟨hg, h⟩ := gd_some h
  refine zJ_iald dX7_usual_34 zW_16 (ix_in hg) rfl rfl ?_
  obtain ⟨v5n5, ev5n5, h⟩ := lt1_some h
  refine zJ_nmi ev5n5 ?_
  refine zJ_istore (ls' := [(5, .int v5n5), (4, .int v4n4), (3, .int v3n3), (2, .int v2n2), (1, .int v1n1), (0, .ref 12)]) dX7_usual_35 rfl rfl rfl ?_
  refine zJ_aload_n dX7_usual_37 rfl rfl ?_
  refine zJ_getr dX7_usual_38 F_X7_21 zW_12 rfl rfl ?_
  refine zJ_iconst dX7_usual_41 zc_5 rfl ?_
  obtain ⟨hg, h⟩ := gd_some h
  refine zJ_iald dX7_usual_42 zW_16 (ix_in hg) rfl rfl ?_
  obtain ⟨v6n6, ev6n6, h⟩ := lt1_some h
  refine zJ_nmi ev6n6 ?_
  refine zJ_istore (ls' := [(6, .int v6n6), (5, .int v5n5), (4, .int v4n4), (3, .int v3n3), (2, .int v2n2), (1, .int v1n1), (0, .ref 12)]) dX7_usual_43 rfl rfl rfl ?_
  refine zJ_iload_n dX7_usual_45 rfl rfl ?_
  refine zJ_iconst dX7_usual_46 zc_3 rfl ?_
  refine zJ_imul dX7_usual_47 rfl ?_
  refine zJ_iload_n dX7_usual_48 rfl rfl ?_
  refine zJ_iconst dX7_usual_49 zc_2 rfl ?_
  refine zJ_imul dX7_usual_50 rfl ?_
  refine zJ_isub dX7_usual_51 rfl ?_
  refine zJ_iload_n dX7_usual_52 rfl rfl ?_
  refine zJ_isub dX7_usual_53 rfl ?_
  refine zJ_iload dX7_usual_54 rfl rfl ?_
  refine zJ_iload dX7_usual_56 rfl rfl ?_
  refine zJ_imul dX7_usual_58 rfl ?_
  refine zJ_iadd dX7_usual_59 rfl ?_
  refine zJ_iload dX7_usual_60 rfl rfl ?_
  refine zJ_iconst dX7_usual_62 zc_4 rfl ?_
  refine zJ_imul dX7_usual_63 rfl ?_
  refine zJ_iadd dX7_usual_64 rfl ?_
  refine zJ_iload dX7_usual_65 rfl rfl ?_
  refine zJ_iconst dX7_usual_67 zc_2 rfl ?_
  refine zJ_imul dX7_usual_68 rfl ?_
  refine zJ_iadd dX7_usual_69 rfl ?_
  refine zJ_iconst dX7_usual_70 zc_5 rfl ?_
  refine zJ_iadd dX7_usual_71 rfl ?_
  cases h
  exact zJ_iret dX7_usual_72 rfl rfl
set_option maxRecDepth 100000 in
set_option maxHeartbeats 4000000 in
theorem t_X7_odds (l : Launch) (σ : zS) {course_rule_size : Int32} {rule_codes : (Nat → Int32)} {rule_stack : (Nat → Int32)} {rule_things : (Nat → Int32)} {r : Int32} {w_rule_stack : (Nat → Int32)} (h : f_X7_odds course_rule_size rule_codes rule_stack rule_things = some (r, w_rule_stack)) : zMt l zW 1 mX7_odds σ ([(769, course_rule_size)], [(13, rule_codes), (15, rule_stack), (16, rule_things)], []) [.ref 12] (some (.int r)) ([(769, course_rule_size)], [(13, rule_codes), (15, w_rule_stack), (16, rule_things)], []) := by
  refine zMt_of (ls := [(0, .ref 12)]) (by decide) rfl (fun _ => Nat.le_of_ble_eq_true rfl) rfl ?_
  unfold f_X7_odds at h
  refine zJ_iconst dX7_odds_0 zc_0 rfl ?_
  refine zJ_istore_n (ls' := [(1, .int (0 : Int32)), (0, .ref 12)]) dX7_odds_1 rfl rfl rfl ?_
  refine zJ_iconst dX7_odds_2 zc_0 rfl ?_
  refine zJ_istore_n (ls' := [(2, .int (0 : Int32)), (1, .int (0 : Int32)), (0, .ref 12)]) dX7_odds_3 rfl rfl rfl ?_
  have hk4 : ∀ (v1_4x : Int32) (rule_stack_4x : (Nat → Int32)), k_X7_odds_4 rule_things v1_4x rule_stack_4x = some (r, w_rule_stack) → zJ l zW 1 mX7_odds σ ([(769, course_rule_size)], [(13, rule_codes), (15, rule_stack_4x), (16, rule_things)], []) 141 [(0, .ref 12), (1, .int v1_4x)] [] (some (.int r)) ([(769, course_rule_size)], [(13, rule_codes), (15, w_rule_stack), (16, rule_things)], []) := by
    intro v1_4x rule_stack_4x h
    unfold k_X7_odds_4 at h
    refine zJ_iload_n dX7_odds_141 rfl rfl ?_
    refine zJ_if_le (tgt := 154) dX7_odds_142 (by decide) rfl (fun hc => ?_) (fun hc => ?_)
    · replace h := it_t hc h
      refine zJ_aload_n dX7_odds_154 rfl rfl ?_
      obtain ⟨rn1, hcl, h⟩ := bd1_some h
      refine zJ_callV (yi := mX7_usual) (as := []) (st := []) (L2 := ([(769, course_rule_size)], [(13, rule_codes), (15, rule_stack_4x), (16, rule_things)], [])) dX7_odds_155 ML_X7_93 Yv_X7_usual rfl zW_12 rfl rfl (t_X7_usual l _ hcl) (zsub_i zle_n (zle_c rfl zle_n) zle_n) rfl (Nat.le_of_ble_eq_true rfl) (Nat.le_of_ble_eq_true rfl) rfl rfl ?_
      refine zJ_istore_n (ls' := [(2, .int rn1), (0, .ref 12), (1, .int v1_4x)]) dX7_odds_158 rfl rfl rfl ?_
      refine zJ_iconst dX7_odds_159 zc_0 rfl ?_
      refine zJ_bipush dX7_odds_160 zb_100 rfl ?_
      refine zJ_iload_n dX7_odds_162 rfl rfl ?_
      refine zJ_mmin dX7_odds_163 L_X7_96 K_min_s K_math K_min_c (Nat.le_of_ble_eq_true rfl) (Nat.le_of_ble_eq_true rfl) rfl ?_
      refine zJ_mmax dX7_odds_166 L_X7_102 K_max_s K_math K_max_c (Nat.le_of_ble_eq_true rfl) (Nat.le_of_ble_eq_true rfl) rfl ?_
      cases h
      exact zJ_iret dX7_odds_169 rfl rfl
    · replace h := it_f hc h
      refine zJ_aload_n dX7_odds_145 rfl rfl ?_
      refine zJ_getr dX7_odds_146 F_X7_18 zW_12 rfl rfl ?_
      refine zJ_iconst dX7_odds_149 zc_0 rfl ?_
      obtain ⟨hg, h⟩ := gd_some h
      refine zJ_iald dX7_odds_150 zW_15 (ix_in hg) rfl rfl ?_
      refine zJ_goto (tgt := 158) dX7_odds_151 (by decide) ?_
      obtain ⟨v2n2, ev2n2, h⟩ := lt1_some h
      refine zJ_nmi ev2n2 ?_
      refine zJ_istore_n (ls' := [(2, .int v2n2), (0, .ref 12), (1, .int v1_4x)]) dX7_odds_158 rfl rfl rfl ?_
      refine zJ_iconst dX7_odds_159 zc_0 rfl ?_
      refine zJ_bipush dX7_odds_160 zb_100 rfl ?_
      refine zJ_iload_n dX7_odds_162 rfl rfl ?_
      refine zJ_mmin dX7_odds_163 L_X7_96 K_min_s K_math K_min_c (Nat.le_of_ble_eq_true rfl) (Nat.le_of_ble_eq_true rfl) rfl ?_
      refine zJ_mmax dX7_odds_166 L_X7_102 K_max_s K_math K_max_c (Nat.le_of_ble_eq_true rfl) (Nat.le_of_ble_eq_true rfl) rfl ?_
      cases h
      exact zJ_iret dX7_odds_169 rfl rfl
  refine zJ_loc (ls' := [(0, .ref 12), (1, .int (0 : Int32)), (2, .int (0 : Int32))]) (zll_c rfl (zll_c rfl (zll_c rfl zll_n))) ?_
  refine ml3_J (fun (v1_4 : Int32) (v2_4 : Int32) (rule_stack_4 : (Nat → Int32)) => zJ l zW 1 mX7_odds σ ([(769, course_rule_size)], [(13, rule_codes), (15, rule_stack_4), (16, rule_things)], []) 4 [(0, .ref 12), (1, .int v1_4), (2, .int v2_4)] [] (some (.int r)) ([(769, course_rule_size)], [(13, rule_codes), (15, w_rule_stack), (16, rule_things)], [])) (fun rc4 hrc4 v1_4 v2_4 rule_stack_4 h => ?_) zN _ _ _ h
  unfold s_X7_odds_4 at h
  refine zJ_iload_n dX7_odds_4 rfl rfl ?_
  refine zJ_aload_n dX7_odds_5 rfl rfl ?_
  refine zJ_geti dX7_odds_6 F_X7_52 zW_12 rfl rfl rfl ?_
  refine zJ_icmp_ge (tgt := 141) dX7_odds_9 (by decide) rfl (fun hc => ?_) (fun hc => ?_)
  · replace h := it_t hc h
    refine zJ_loc (ls' := [(0, .ref 12), (1, .int v1_4)]) (zll_c rfl (zll_c rfl zll_n)) ?_
    exact hk4 _ _ h
  · replace h := it_f hc h
    refine zJ_aload_n dX7_odds_12 rfl rfl ?_
    refine zJ_getr dX7_odds_13 F_X7_11 zW_12 rfl rfl ?_
    refine zJ_iload_n dX7_odds_16 rfl rfl ?_
    obtain ⟨hg, h⟩ := gd_some h
    refine zJ_iald dX7_odds_17 zW_13 (ix_in hg) rfl rfl ?_
    obtain ⟨v3n3, ev3n3, h⟩ := lt1_some h
    refine zJ_nmi ev3n3 ?_
    refine zJ_istore_n (ls' := [(3, .int v3n3), (0, .ref 12), (1, .int v1_4), (2, .int v2_4)]) dX7_odds_18 rfl rfl rfl ?_
    refine zJ_iload_n dX7_odds_19 rfl rfl ?_
    refine zJ_sipush dX7_odds_20 zs_2000 rfl ?_
    have hj_X7_odds_65 : ∀ (v1_65j : Int32) (v2_65j : Int32) (rule_stack_65j : (Nat → Int32)), j_X7_odds_65 rc4 v3n3 v1_65j v2_65j rule_stack_65j = some (r, w_rule_stack) → zJ l zW 1 mX7_odds σ ([(769, course_rule_size)], [(13, rule_codes), (15, rule_stack_65j), (16, rule_things)], []) 65 [(0, .ref 12), (1, .int v1_65j), (2, .int v2_65j), (3, .int v3n3)] [] (some (.int r)) ([(769, course_rule_size)], [(13, rule_codes), (15, w_rule_stack), (16, rule_things)], []) := by
      intro v1_65j v2_65j rule_stack_65j h
      unfold j_X7_odds_65 at h
      refine zJ_iload_n dX7_odds_65 rfl rfl ?_
      refine zJ_sipush dX7_odds_66 zs_3000 rfl ?_
      have hj_X7_odds_97 : ∀ (v2_97j : Int32) (rule_stack_97j : (Nat → Int32)), j_X7_odds_97 rc4 v3n3 v1_65j v2_97j rule_stack_97j = some (r, w_rule_stack) → zJ l zW 1 mX7_odds σ ([(769, course_rule_size)], [(13, rule_codes), (15, rule_stack_97j), (16, rule_things)], []) 97 [(0, .ref 12), (1, .int v1_65j), (2, .int v2_97j), (3, .int v3n3)] [] (some (.int r)) ([(769, course_rule_size)], [(13, rule_codes), (15, w_rule_stack), (16, rule_things)], []) := by
        intro v2_97j rule_stack_97j h
        unfold j_X7_odds_97 at h
        refine zJ_iload_n dX7_odds_97 rfl rfl ?_
        refine zJ_iconst dX7_odds_98 zc_2 rfl ?_
        refine zJ_icmp_lt (tgt := 135) dX7_odds_99 (by decide) rfl (fun hc => ?_) (fun hc => ?_)
        · replace h := it_t hc h
          obtain ⟨v2n4, ev2n4, h⟩ := lt1_some h
          refine zJ_iincN (ls' := [(2, .int v2n4), (0, .ref 12), (1, .int v1_65j), (3, .int v3n3)]) dX7_odds_135 rfl rfl zc_1 ev2n4 rfl rfl ?_
          refine zJ_goto (tgt := 4) dX7_odds_138 (by decide) ?_
          refine zJ_loc (ls' := [(0, .ref 12), (1, .int v1_65j), (2, .int v2n4)]) (zll_c rfl (zll_c rfl (zll_c rfl zll_n))) ?_
          exact hrc4 _ _ _ h
        · replace h := it_f hc h
          obtain ⟨v1n5, ev1n5, h⟩ := lt1_some h
          refine zJ_iincN (ls' := [(1, .int v1n5), (0, .ref 12), (2, .int v2_97j), (3, .int v3n3)]) dX7_odds_102 rfl rfl zc_m1 ev1n5 rfl rfl ?_
          refine zJ_aload_n dX7_odds_105 rfl rfl ?_
          refine zJ_getr dX7_odds_106 F_X7_18 zW_12 rfl rfl ?_
          refine zJ_iload_n dX7_odds_109 rfl rfl ?_
          refine zJ_iconst dX7_odds_110 zc_1 rfl ?_
          refine zJ_isub dX7_odds_111 rfl ?_
          refine zJ_iload_n dX7_odds_112 rfl rfl ?_
          refine zJ_sipush dX7_odds_113 zs_2000 rfl ?_
          refine zJ_isub dX7_odds_116 rfl ?_
          refine zJ_aload_n dX7_odds_117 rfl rfl ?_
          refine zJ_getr dX7_odds_118 F_X7_18 zW_12 rfl rfl ?_
          refine zJ_iload_n dX7_odds_121 rfl rfl ?_
          refine zJ_iconst dX7_odds_122 zc_1 rfl ?_
          refine zJ_isub dX7_odds_123 rfl ?_
          obtain ⟨hg, h⟩ := gd_some h
          refine zJ_iald dX7_odds_124 zW_15 (ix_in hg) rfl rfl ?_
          refine zJ_aload_n dX7_odds_125 rfl rfl ?_
          refine zJ_getr dX7_odds_126 F_X7_18 zW_12 rfl rfl ?_
          refine zJ_iload_n dX7_odds_129 rfl rfl ?_
          obtain ⟨hg, h⟩ := gd_some h
          refine zJ_iald dX7_odds_130 zW_15 (ix_in hg) rfl rfl ?_
          obtain ⟨rn6, hcl, h⟩ := bd1_some h
          refine zJ_callS (yi := mX7_join) (as := [.int (v3n3 - (2000 : Int32)), .int (rule_stack_97j (v1n5 - (1 : Int32)).toNatClampNeg), .int (rule_stack_97j v1n5.toNatClampNeg)]) (st := [.int (v1n5 - (1 : Int32)), .ref 15]) (L2 := ([(769, course_rule_size)], [(13, rule_codes), (15, rule_stack_97j), (16, rule_things)], [])) dX7_odds_131 ML_X7_89 Ys_X7_join rfl (t_X7_join l _ hcl) (zsub_i zle_n zle_n zle_n) rfl (Nat.le_of_ble_eq_true rfl) (Nat.le_of_ble_eq_true rfl) rfl rfl ?_
          obtain ⟨hg, h⟩ := gd_some h
          refine zK_iast (lb' := [(13, rule_codes), (15, (upd rule_stack_97j (v1n5 - (1 : Int32)).toNatClampNeg rn6)), (16, rule_things)]) dX7_odds_134 zW_15 (ix_in hg) rfl rfl rfl ?_
          obtain ⟨v2n7, ev2n7, h⟩ := lt1_some h
          refine zJ_iincN (ls' := [(2, .int v2n7), (1, .int v1n5), (0, .ref 12), (3, .int v3n3)]) dX7_odds_135 rfl rfl zc_1 ev2n7 rfl rfl ?_
          refine zJ_goto (tgt := 4) dX7_odds_138 (by decide) ?_
          refine zJ_loc (ls' := [(0, .ref 12), (1, .int v1n5), (2, .int v2n7)]) (zll_c rfl (zll_c rfl (zll_c rfl zll_n))) ?_
          exact hrc4 _ _ _ h
      refine zJ_icmp_ne (tgt := 97) dX7_odds_69 (by decide) rfl (fun hc => ?_) (fun hc => ?_)
      · replace h := it_f hc h
        refine zJ_loc (ls' := [(0, .ref 12), (1, .int v1_65j), (2, .int v2_65j), (3, .int v3n3)]) (zll_c rfl (zll_c rfl (zll_c rfl (zll_c rfl zll_n)))) ?_
        exact hj_X7_odds_97 _ _ h
      · replace h := it_t hc h
        refine zJ_iload_n dX7_odds_72 rfl rfl ?_
        refine zJ_iconst dX7_odds_73 zc_1 rfl ?_
        refine zJ_icmp_lt (tgt := 97) dX7_odds_74 (by decide) rfl (fun hc => ?_) (fun hc => ?_)
        · replace h := it_t hc h
          refine zJ_loc (ls' := [(0, .ref 12), (1, .int v1_65j), (2, .int v2_65j), (3, .int v3n3)]) (zll_c rfl (zll_c rfl (zll_c rfl (zll_c rfl zll_n)))) ?_
          exact hj_X7_odds_97 _ _ h
        · replace h := it_f hc h
          refine zJ_aload_n dX7_odds_77 rfl rfl ?_
          refine zJ_getr dX7_odds_78 F_X7_18 zW_12 rfl rfl ?_
          refine zJ_iload_n dX7_odds_81 rfl rfl ?_
          refine zJ_iconst dX7_odds_82 zc_1 rfl ?_
          refine zJ_isub dX7_odds_83 rfl ?_
          refine zJ_aload_n dX7_odds_84 rfl rfl ?_
          refine zJ_getr dX7_odds_85 F_X7_18 zW_12 rfl rfl ?_
          refine zJ_iload_n dX7_odds_88 rfl rfl ?_
          refine zJ_iconst dX7_odds_89 zc_1 rfl ?_
          refine zJ_isub dX7_odds_90 rfl ?_
          obtain ⟨hg, h⟩ := gd_some h
          refine zJ_iald dX7_odds_91 zW_15 (ix_in hg) rfl rfl ?_
          refine zJ_ineg dX7_odds_92 rfl ?_
          obtain ⟨hg, h⟩ := gd_some h
          refine zK_iast (lb' := [(13, rule_codes), (15, (upd rule_stack_65j (v1_65j - (1 : Int32)).toNatClampNeg (-(rule_stack_65j (v1_65j - (1 : Int32)).toNatClampNeg)))), (16, rule_things)]) dX7_odds_93 zW_15 (ix_in hg) rfl rfl rfl ?_
          refine zJ_goto (tgt := 135) dX7_odds_94 (by decide) ?_
          obtain ⟨v2n8, ev2n8, h⟩ := lt1_some h
          refine zJ_iincN (ls' := [(2, .int v2n8), (0, .ref 12), (1, .int v1_65j), (3, .int v3n3)]) dX7_odds_135 rfl rfl zc_1 ev2n8 rfl rfl ?_
          refine zJ_goto (tgt := 4) dX7_odds_138 (by decide) ?_
          refine zJ_loc (ls' := [(0, .ref 12), (1, .int v1_65j), (2, .int v2n8)]) (zll_c rfl (zll_c rfl (zll_c rfl zll_n))) ?_
          exact hrc4 _ _ _ h
    refine zJ_icmp_ge (tgt := 65) dX7_odds_23 (by decide) rfl (fun hc => ?_) (fun hc => ?_)
    · replace h := it_t hc h
      refine zJ_loc (ls' := [(0, .ref 12), (1, .int v1_4), (2, .int v2_4), (3, .int v3n3)]) (zll_c rfl (zll_c rfl (zll_c rfl (zll_c rfl zll_n)))) ?_
      exact hj_X7_odds_65 _ _ _ h
    · replace h := it_f hc h
      refine zJ_iload_n dX7_odds_26 rfl rfl ?_
      refine zJ_bipush dX7_odds_27 zb_40 rfl ?_
      refine zJ_icmp_ge (tgt := 65) dX7_odds_29 (by decide) rfl (fun hc => ?_) (fun hc => ?_)
      · replace h := it_t hc h
        refine zJ_loc (ls' := [(0, .ref 12), (1, .int v1_4), (2, .int v2_4), (3, .int v3n3)]) (zll_c rfl (zll_c rfl (zll_c rfl (zll_c rfl zll_n)))) ?_
        exact hj_X7_odds_65 _ _ _ h
      · replace h := it_f hc h
        refine zJ_aload_n dX7_odds_32 rfl rfl ?_
        refine zJ_getr dX7_odds_33 F_X7_18 zW_12 rfl rfl ?_
        refine zJ_iload_n dX7_odds_36 rfl rfl ?_
        refine zJ_iload_n dX7_odds_37 rfl rfl ?_
        refine zJ_sipush dX7_odds_38 zs_1000 rfl ?_
        refine zJ_icmp_ge (tgt := 48) dX7_odds_41 (by decide) rfl (fun hc => ?_) (fun hc => ?_)
        · replace h := it_t hc h
          refine zJ_aload_n dX7_odds_48 rfl rfl ?_
          refine zJ_getr dX7_odds_49 F_X7_21 zW_12 rfl rfl ?_
          refine zJ_iload_n dX7_odds_52 rfl rfl ?_
          refine zJ_sipush dX7_odds_53 zs_1000 rfl ?_
          refine zJ_isub dX7_odds_56 rfl ?_
          obtain ⟨hg, h⟩ := gd_some h
          refine zJ_iald dX7_odds_57 zW_16 (ix_in hg) rfl rfl ?_
          obtain ⟨hg, h⟩ := gd_some h
          refine zK_iast (lb' := [(13, rule_codes), (15, (upd rule_stack_4 v1_4.toNatClampNeg (rule_things (v3n3 - (1000 : Int32)).toNatClampNeg))), (16, rule_things)]) dX7_odds_58 zW_15 (ix_in hg) rfl rfl rfl ?_
          obtain ⟨v1n9, ev1n9, h⟩ := lt1_some h
          refine zJ_iincN (ls' := [(1, .int v1n9), (3, .int v3n3), (0, .ref 12), (2, .int v2_4)]) dX7_odds_59 rfl rfl zc_1 ev1n9 rfl rfl ?_
          refine zJ_goto (tgt := 135) dX7_odds_62 (by decide) ?_
          obtain ⟨v2n10, ev2n10, h⟩ := lt1_some h
          refine zJ_iincN (ls' := [(2, .int v2n10), (1, .int v1n9), (3, .int v3n3), (0, .ref 12)]) dX7_odds_135 rfl rfl zc_1 ev2n10 rfl rfl ?_
          refine zJ_goto (tgt := 4) dX7_odds_138 (by decide) ?_
          refine zJ_loc (ls' := [(0, .ref 12), (1, .int v1n9), (2, .int v2n10)]) (zll_c rfl (zll_c rfl (zll_c rfl zll_n))) ?_
          exact hrc4 _ _ _ h
        · replace h := it_f hc h
          refine zJ_iload_n dX7_odds_44 rfl rfl ?_
          refine zJ_goto (tgt := 58) dX7_odds_45 (by decide) ?_
          obtain ⟨hg, h⟩ := gd_some h
          refine zK_iast (lb' := [(13, rule_codes), (15, (upd rule_stack_4 v1_4.toNatClampNeg v3n3)), (16, rule_things)]) dX7_odds_58 zW_15 (ix_in hg) rfl rfl rfl ?_
          obtain ⟨v1n11, ev1n11, h⟩ := lt1_some h
          refine zJ_iincN (ls' := [(1, .int v1n11), (3, .int v3n3), (0, .ref 12), (2, .int v2_4)]) dX7_odds_59 rfl rfl zc_1 ev1n11 rfl rfl ?_
          refine zJ_goto (tgt := 135) dX7_odds_62 (by decide) ?_
          obtain ⟨v2n12, ev2n12, h⟩ := lt1_some h
          refine zJ_iincN (ls' := [(2, .int v2n12), (1, .int v1n11), (3, .int v3n3), (0, .ref 12)]) dX7_odds_135 rfl rfl zc_1 ev2n12 rfl rfl ?_
          refine zJ_goto (tgt := 4) dX7_odds_138 (by decide) ?_
          refine zJ_loc (ls' := [(0, .ref 12), (1, .int v1n11), (2, .int v2n12)]) (zll_c rfl (zll_c rfl (zll_c rfl zll_n))) ?_
          exact hrc4 _ _ _ h
set_option maxRecDepth 100000 in
set_option maxHeartbeats 4000000 in
theorem t_X1_poleOdds (l : Launch) (σ : zS) {p1 : Int32} {p2 : Int32} {p3 : Int32} {course_rule_size : Int32} {course_kinds : (Nat → Int32)} {course_heights : (Nat → Int32)} {course_feet : (Nat → Int32)} {course_digits : (Nat → Int32)} {rule_codes : (Nat → Int32)} {rule_stack : (Nat → Int32)} {rule_things : (Nat → Int32)} {r : Int32} {w_rule_stack : (Nat → Int32)} {w_rule_things : (Nat → Int32)} (h : f_X1_poleOdds p1 p2 p3 course_rule_size course_kinds course_heights course_feet course_digits rule_codes rule_stack rule_things = some (r, w_rule_stack, w_rule_things)) : zMt l zW 3 mX1_poleOdds σ ([(769, course_rule_size)], [(6, course_kinds), (7, course_heights), (8, course_feet), (10, course_digits), (13, rule_codes), (15, rule_stack), (16, rule_things)], []) [.ref 5, .int p1, .int p2, .int p3] (some (.int r)) ([(769, course_rule_size)], [(6, course_kinds), (7, course_heights), (8, course_feet), (10, course_digits), (13, rule_codes), (15, w_rule_stack), (16, w_rule_things)], []) := by
  refine zMt_of (ls := [(0, .ref 5), (1, .int p1), (2, .int p2), (3, .int p3)]) (by decide) rfl (fun _ => Nat.le_of_ble_eq_true rfl) rfl ?_
  unfold f_X1_poleOdds at h
  refine zJ_aload_n dX1_poleOdds_0 rfl rfl ?_
  refine zJ_getr dX1_poleOdds_1 F_X1_37 zW_5 rfl rfl ?_
  refine zJ_getr dX1_poleOdds_4 F_X1_126 zW_12 rfl rfl ?_
  refine zJ_astore (ls' := [(4, .ref 16), (0, .ref 5), (1, .int p1), (2, .int p2), (3, .int p3)]) dX1_poleOdds_7 rfl rfl rfl ?_
  refine zJ_aload dX1_poleOdds_9 rfl rfl ?_
  refine zJ_iconst dX1_poleOdds_11 zc_0 rfl ?_
  refine zJ_aload_n dX1_poleOdds_12 rfl rfl ?_
  refine zJ_getr dX1_poleOdds_13 F_X1_15 zW_5 rfl rfl ?_
  refine zJ_iload_n dX1_poleOdds_16 rfl rfl ?_
  obtain ⟨hg, h⟩ := gd_some h
  refine zJ_iald dX1_poleOdds_17 zW_7 (ix_in hg) rfl rfl ?_
  obtain ⟨hg, h⟩ := gd_some h
  refine zK_iast (lb' := [(6, course_kinds), (7, course_heights), (8, course_feet), (10, course_digits), (13, rule_codes), (15, rule_stack), (16, (upd rule_things (0 : Int32).toNatClampNeg (course_heights p2.toNatClampNeg)))]) dX1_poleOdds_18 zW_16 (ix_in hg) rfl rfl rfl ?_
  refine zJ_aload dX1_poleOdds_19 rfl rfl ?_
  refine zJ_iconst dX1_poleOdds_21 zc_1 rfl ?_
  refine zJ_aload_n dX1_poleOdds_22 rfl rfl ?_
  refine zJ_iload_n dX1_poleOdds_23 rfl rfl ?_
  refine zJ_iconst dX1_poleOdds_24 zc_1 rfl ?_
  obtain ⟨rn1, hcl, h⟩ := bd1_some h
  refine zJ_callV (yi := mX1_ofHorse) (as := [.int p1, .int (1 : Int32)]) (st := [.int (1 : Int32), .ref 16]) (L2 := ([(769, course_rule_size)], [(6, course_kinds), (7, course_heights), (8, course_feet), (10, course_digits), (13, rule_codes), (15, rule_stack), (16, (upd rule_things (0 : Int32).toNatClampNeg (course_heights p2.toNatClampNeg)))], [])) dX1_poleOdds_25 ML_X1_104 Yv_X1_ofHorse rfl zW_5 rfl rfl (t_X1_ofHorse l _ hcl) (zsub_i zle_n (zle_c rfl zle_n) zle_n) rfl (Nat.le_of_ble_eq_true rfl) (Nat.le_of_ble_eq_true rfl) rfl rfl ?_
  obtain ⟨hg, h⟩ := gd_some h
  refine zK_iast (lb' := [(6, course_kinds), (7, course_heights), (8, course_feet), (10, course_digits), (13, rule_codes), (15, rule_stack), (16, (upd ((upd rule_things (0 : Int32).toNatClampNeg (course_heights p2.toNatClampNeg))) (1 : Int32).toNatClampNeg rn1))]) dX1_poleOdds_28 zW_16 (ix_in hg) rfl rfl rfl ?_
  refine zJ_aload dX1_poleOdds_29 rfl rfl ?_
  refine zJ_iconst dX1_poleOdds_31 zc_2 rfl ?_
  refine zJ_aload_n dX1_poleOdds_32 rfl rfl ?_
  refine zJ_iload_n dX1_poleOdds_33 rfl rfl ?_
  refine zJ_iconst dX1_poleOdds_34 zc_2 rfl ?_
  refine zJ_aload_n dX1_poleOdds_35 rfl rfl ?_
  refine zJ_getr dX1_poleOdds_36 F_X1_11 zW_5 rfl rfl ?_
  refine zJ_iload_n dX1_poleOdds_39 rfl rfl ?_
  obtain ⟨hg, h⟩ := gd_some h
  refine zJ_iald dX1_poleOdds_40 zW_6 (ix_in hg) rfl rfl ?_
  refine zJ_iadd dX1_poleOdds_41 rfl ?_
  obtain ⟨rn2, hcl, h⟩ := bd1_some h
  refine zJ_callV (yi := mX1_ofHorse) (as := [.int p1, .int ((2 : Int32) + (course_kinds p2.toNatClampNeg))]) (st := [.int (2 : Int32), .ref 16]) (L2 := ([(769, course_rule_size)], [(6, course_kinds), (7, course_heights), (8, course_feet), (10, course_digits), (13, rule_codes), (15, rule_stack), (16, (upd ((upd rule_things (0 : Int32).toNatClampNeg (course_heights p2.toNatClampNeg))) (1 : Int32).toNatClampNeg rn1))], [])) dX1_poleOdds_42 ML_X1_104 Yv_X1_ofHorse rfl zW_5 rfl rfl (t_X1_ofHorse l _ hcl) (zsub_i zle_n (zle_c rfl zle_n) zle_n) rfl (Nat.le_of_ble_eq_true rfl) (Nat.le_of_ble_eq_true rfl) rfl rfl ?_
  obtain ⟨hg, h⟩ := gd_some h
  refine zK_iast (lb' := [(6, course_kinds), (7, course_heights), (8, course_feet), (10, course_digits), (13, rule_codes), (15, rule_stack), (16, (upd ((upd ((upd rule_things (0 : Int32).toNatClampNeg (course_heights p2.toNatClampNeg))) (1 : Int32).toNatClampNeg rn1)) (2 : Int32).toNatClampNeg rn2))]) dX1_poleOdds_45 zW_16 (ix_in hg) rfl rfl rfl ?_
  refine zJ_aload dX1_poleOdds_46 rfl rfl ?_
  refine zJ_iconst dX1_poleOdds_48 zc_3 rfl ?_
  refine zJ_iload_n dX1_poleOdds_49 rfl rfl ?_
  refine zJ_iconst dX1_poleOdds_50 zc_4 rfl ?_
  refine zJ_irem dX1_poleOdds_51 (by decide) rfl ?_
  obtain ⟨hg, h⟩ := gd_some h
  refine zK_iast (lb' := [(6, course_kinds), (7, course_heights), (8, course_feet), (10, course_digits), (13, rule_codes), (15, rule_stack), (16, (upd ((upd ((upd ((upd rule_things (0 : Int32).toNatClampNeg (course_heights p2.toNatClampNeg))) (1 : Int32).toNatClampNeg rn1)) (2 : Int32).toNatClampNeg rn2)) (3 : Int32).toNatClampNeg (p3 - p3 / (4 : Int32) * (4 : Int32))))]) dX1_poleOdds_52 zW_16 (ix_in hg) rfl rfl rfl ?_
  refine zJ_aload dX1_poleOdds_53 rfl rfl ?_
  refine zJ_iconst dX1_poleOdds_55 zc_4 rfl ?_
  refine zJ_iload_n dX1_poleOdds_56 rfl rfl ?_
  obtain ⟨rn3, hcl, h⟩ := bd1_some h
  refine zJ_callS (yi := mX1_isCut) (as := [.int p3]) (st := [.int (4 : Int32), .ref 16]) (L2 := ([(769, course_rule_size)], [(6, course_kinds), (7, course_heights), (8, course_feet), (10, course_digits), (13, rule_codes), (15, rule_stack), (16, (upd ((upd ((upd ((upd rule_things (0 : Int32).toNatClampNeg (course_heights p2.toNatClampNeg))) (1 : Int32).toNatClampNeg rn1)) (2 : Int32).toNatClampNeg rn2)) (3 : Int32).toNatClampNeg (p3 - p3 / (4 : Int32) * (4 : Int32))))], [])) dX1_poleOdds_57 ML_X1_110 Ys_X1_isCut rfl (t_X1_isCut l _ hcl) (zsub_i zle_n zle_n zle_n) rfl (Nat.le_of_ble_eq_true rfl) (Nat.le_of_ble_eq_true rfl) rfl rfl ?_
  have hj_X1_poleOdds_68 : ∀ (t2_68j : Int32), j_X1_poleOdds_68 p1 p2 p3 course_rule_size course_heights course_feet course_digits rule_codes rule_stack rule_things rn1 rn2 t2_68j = some (r, w_rule_stack, w_rule_things) → zJ l zW 3 mX1_poleOdds σ ([(769, course_rule_size)], [(6, course_kinds), (7, course_heights), (8, course_feet), (10, course_digits), (13, rule_codes), (15, rule_stack), (16, (upd ((upd ((upd ((upd rule_things (0 : Int32).toNatClampNeg (course_heights p2.toNatClampNeg))) (1 : Int32).toNatClampNeg rn1)) (2 : Int32).toNatClampNeg rn2)) (3 : Int32).toNatClampNeg (p3 - p3 / (4 : Int32) * (4 : Int32))))], []) 68 [(0, .ref 5), (1, .int p1), (2, .int p2), (4, .ref 16)] [.int t2_68j, .int (4 : Int32), .ref 16] (some (.int r)) ([(769, course_rule_size)], [(6, course_kinds), (7, course_heights), (8, course_feet), (10, course_digits), (13, rule_codes), (15, w_rule_stack), (16, w_rule_things)], []) := by
    intro t2_68j h
    unfold j_X1_poleOdds_68 at h
    obtain ⟨hg, h⟩ := gd_some h
    refine zK_iast (lb' := [(6, course_kinds), (7, course_heights), (8, course_feet), (10, course_digits), (13, rule_codes), (15, rule_stack), (16, (upd ((upd ((upd ((upd ((upd rule_things (0 : Int32).toNatClampNeg (course_heights p2.toNatClampNeg))) (1 : Int32).toNatClampNeg rn1)) (2 : Int32).toNatClampNeg rn2)) (3 : Int32).toNatClampNeg (p3 - p3 / (4 : Int32) * (4 : Int32)))) (4 : Int32).toNatClampNeg t2_68j))]) dX1_poleOdds_68 zW_16 (ix_in hg) rfl rfl rfl ?_
    refine zJ_aload dX1_poleOdds_69 rfl rfl ?_
    refine zJ_iconst dX1_poleOdds_71 zc_5 rfl ?_
    refine zJ_aload_n dX1_poleOdds_72 rfl rfl ?_
    refine zJ_iload_n dX1_poleOdds_73 rfl rfl ?_
    refine zJ_iload_n dX1_poleOdds_74 rfl rfl ?_
    obtain ⟨rn4, hcl, h⟩ := bd1_some h
    refine zJ_callV (yi := mX1_leanAt) (as := [.int p1, .int p2]) (st := [.int (5 : Int32), .ref 16]) (L2 := ([(769, course_rule_size)], [(6, course_kinds), (7, course_heights), (8, course_feet), (10, course_digits), (13, rule_codes), (15, rule_stack), (16, (upd ((upd ((upd ((upd ((upd rule_things (0 : Int32).toNatClampNeg (course_heights p2.toNatClampNeg))) (1 : Int32).toNatClampNeg rn1)) (2 : Int32).toNatClampNeg rn2)) (3 : Int32).toNatClampNeg (p3 - p3 / (4 : Int32) * (4 : Int32)))) (4 : Int32).toNatClampNeg t2_68j))], [])) dX1_poleOdds_75 ML_X1_123 Yv_X1_leanAt rfl zW_5 rfl rfl (t_X1_leanAt l _ hcl) (zsub_i zle_n (zle_c rfl (zle_c rfl zle_n)) zle_n) rfl (Nat.le_of_ble_eq_true rfl) (Nat.le_of_ble_eq_true rfl) rfl rfl ?_
    obtain ⟨hg, h⟩ := gd_some h
    refine zK_iast (lb' := [(6, course_kinds), (7, course_heights), (8, course_feet), (10, course_digits), (13, rule_codes), (15, rule_stack), (16, (upd ((upd ((upd ((upd ((upd ((upd rule_things (0 : Int32).toNatClampNeg (course_heights p2.toNatClampNeg))) (1 : Int32).toNatClampNeg rn1)) (2 : Int32).toNatClampNeg rn2)) (3 : Int32).toNatClampNeg (p3 - p3 / (4 : Int32) * (4 : Int32)))) (4 : Int32).toNatClampNeg t2_68j)) (5 : Int32).toNatClampNeg rn4))]) dX1_poleOdds_78 zW_16 (ix_in hg) rfl rfl rfl ?_
    refine zJ_aload dX1_poleOdds_79 rfl rfl ?_
    refine zJ_bipush dX1_poleOdds_81 zb_6 rfl ?_
    refine zJ_iload_n dX1_poleOdds_83 rfl rfl ?_
    obtain ⟨hg, h⟩ := gd_some h
    refine zK_iast (lb' := [(6, course_kinds), (7, course_heights), (8, course_feet), (10, course_digits), (13, rule_codes), (15, rule_stack), (16, (upd ((upd ((upd ((upd ((upd ((upd ((upd rule_things (0 : Int32).toNatClampNeg (course_heights p2.toNatClampNeg))) (1 : Int32).toNatClampNeg rn1)) (2 : Int32).toNatClampNeg rn2)) (3 : Int32).toNatClampNeg (p3 - p3 / (4 : Int32) * (4 : Int32)))) (4 : Int32).toNatClampNeg t2_68j)) (5 : Int32).toNatClampNeg rn4)) (6 : Int32).toNatClampNeg p2))]) dX1_poleOdds_84 zW_16 (ix_in hg) rfl rfl rfl ?_
    refine zJ_aload dX1_poleOdds_85 rfl rfl ?_
    refine zJ_bipush dX1_poleOdds_87 zb_7 rfl ?_
    refine zJ_aload_n dX1_poleOdds_89 rfl rfl ?_
    refine zJ_getr dX1_poleOdds_90 F_X1_18 zW_5 rfl rfl ?_
    refine zJ_iload_n dX1_poleOdds_93 rfl rfl ?_
    obtain ⟨hg, h⟩ := gd_some h
    refine zJ_iald dX1_poleOdds_94 zW_8 (ix_in hg) rfl rfl ?_
    obtain ⟨hg, h⟩ := gd_some h
    refine zK_iast (lb' := [(6, course_kinds), (7, course_heights), (8, course_feet), (10, course_digits), (13, rule_codes), (15, rule_stack), (16, (upd ((upd ((upd ((upd ((upd ((upd ((upd ((upd rule_things (0 : Int32).toNatClampNeg (course_heights p2.toNatClampNeg))) (1 : Int32).toNatClampNeg rn1)) (2 : Int32).toNatClampNeg rn2)) (3 : Int32).toNatClampNeg (p3 - p3 / (4 : Int32) * (4 : Int32)))) (4 : Int32).toNatClampNeg t2_68j)) (5 : Int32).toNatClampNeg rn4)) (6 : Int32).toNatClampNeg p2)) (7 : Int32).toNatClampNeg (course_feet p2.toNatClampNeg)))]) dX1_poleOdds_95 zW_16 (ix_in hg) rfl rfl rfl ?_
    refine zJ_aload_n dX1_poleOdds_96 rfl rfl ?_
    refine zJ_getr dX1_poleOdds_97 F_X1_37 zW_5 rfl rfl ?_
    obtain ⟨rn5, rule_stackn6, hcl, h⟩ := bd2_some h
    refine zJ_callV (yi := mX7_odds) (as := []) (st := []) (L2 := ([(769, course_rule_size)], [(6, course_kinds), (7, course_heights), (8, course_feet), (10, course_digits), (13, rule_codes), (15, rule_stackn6), (16, (upd ((upd ((upd ((upd ((upd ((upd ((upd ((upd rule_things (0 : Int32).toNatClampNeg (course_heights p2.toNatClampNeg))) (1 : Int32).toNatClampNeg rn1)) (2 : Int32).toNatClampNeg rn2)) (3 : Int32).toNatClampNeg (p3 - p3 / (4 : Int32) * (4 : Int32)))) (4 : Int32).toNatClampNeg t2_68j)) (5 : Int32).toNatClampNeg rn4)) (6 : Int32).toNatClampNeg p2)) (7 : Int32).toNatClampNeg (course_feet p2.toNatClampNeg)))], [])) dX1_poleOdds_100 ML_X1_129 Yv_X7_odds rfl zW_12 rfl rfl (t_X7_odds l _ hcl) (zsub_i (zle_c rfl zle_n) (zle_c rfl (zle_c rfl (zle_c rfl zle_n))) zle_n) rfl (Nat.le_of_ble_eq_true rfl) (Nat.le_of_ble_eq_true rfl) rfl rfl ?_
    cases h
    exact zJ_iret dX1_poleOdds_103 rfl rfl
  refine zJ_if_eq (tgt := 67) dX1_poleOdds_60 (by decide) rfl (fun hc => ?_) (fun hc => ?_)
  · replace h := it_t hc h
    refine zJ_iconst dX1_poleOdds_67 zc_0 rfl ?_
    refine zJ_loc (ls' := [(0, .ref 5), (1, .int p1), (2, .int p2), (4, .ref 16)]) (zll_c rfl (zll_c rfl (zll_c rfl (zll_c rfl zll_n)))) ?_
    exact hj_X1_poleOdds_68 _ h
  · replace h := it_f hc h
    refine zJ_iconst dX1_poleOdds_63 zc_1 rfl ?_
    refine zJ_goto (tgt := 68) dX1_poleOdds_64 (by decide) ?_
    refine zJ_loc (ls' := [(0, .ref 5), (1, .int p1), (2, .int p2), (4, .ref 16)]) (zll_c rfl (zll_c rfl (zll_c rfl (zll_c rfl zll_n)))) ?_
    exact hj_X1_poleOdds_68 _ h
set_option maxRecDepth 100000 in
set_option maxHeartbeats 4000000 in
theorem t_X1_refusalOdds (l : Launch) (σ : zS) {p1 : Int32} {p2 : Int32} {course_kinds : (Nat → Int32)} {course_feet : (Nat → Int32)} {course_digits : (Nat → Int32)} {r : Int32} (h : f_X1_refusalOdds p1 p2 course_kinds course_feet course_digits = some r) : zMt l zW 3 mX1_refusalOdds σ ([], [(6, course_kinds), (8, course_feet), (10, course_digits)], []) [.ref 5, .int p1, .int p2] (some (.int r)) ([], [(6, course_kinds), (8, course_feet), (10, course_digits)], []) := by
  refine zMt_of (ls := [(0, .ref 5), (1, .int p1), (2, .int p2)]) (by decide) rfl (fun _ => Nat.le_of_ble_eq_true rfl) rfl ?_
  unfold f_X1_refusalOdds at h
  refine zJ_iconst dX1_refusalOdds_0 zc_0 rfl ?_
  refine zJ_bipush dX1_refusalOdds_1 zb_8 rfl ?_
  refine zJ_aload_n dX1_refusalOdds_3 rfl rfl ?_
  refine zJ_iload_n dX1_refusalOdds_4 rfl rfl ?_
  refine zJ_iload_n dX1_refusalOdds_5 rfl rfl ?_
  obtain ⟨rn1, hcl, h⟩ := bd1_some h
  refine zJ_callV (yi := mX1_leanAt) (as := [.int p1, .int p2]) (st := [.int (8 : Int32), .int (0 : Int32)]) (L2 := ([], [(6, course_kinds), (8, course_feet), (10, course_digits)], [])) dX1_refusalOdds_6 ML_X1_123 Yv_X1_leanAt rfl zW_5 rfl rfl (t_X1_leanAt l _ hcl) (zsub_i zle_n (zle_c rfl (zle_c rfl zle_n)) zle_n) rfl (Nat.le_of_ble_eq_true rfl) (Nat.le_of_ble_eq_true rfl) rfl rfl ?_
  refine zJ_iconst dX1_refusalOdds_9 zc_2 rfl ?_
  refine zJ_isub dX1_refusalOdds_10 rfl ?_
  refine zJ_imul dX1_refusalOdds_11 rfl ?_
  refine zJ_mmax dX1_refusalOdds_12 L_X1_114 K_max_s K_math K_max_c (Nat.le_of_ble_eq_true rfl) (Nat.le_of_ble_eq_true rfl) rfl ?_
  obtain ⟨v3n2, ev3n2, h⟩ := lt1_some h
  refine zJ_nmi ev3n2 ?_
  refine zJ_istore_n (ls' := [(3, .int v3n2), (0, .ref 5), (1, .int p1), (2, .int p2)]) dX1_refusalOdds_15 rfl rfl rfl ?_
  refine zJ_aload_n dX1_refusalOdds_16 rfl rfl ?_
  refine zJ_getr dX1_refusalOdds_17 F_X1_11 zW_5 rfl rfl ?_
  refine zJ_iload_n dX1_refusalOdds_20 rfl rfl ?_
  obtain ⟨hg, h⟩ := gd_some h
  refine zJ_iald dX1_refusalOdds_21 zW_6 (ix_in hg) rfl rfl ?_
  refine zJ_iconst dX1_refusalOdds_22 zc_3 rfl ?_
  refine zJ_icmp_ne (tgt := 40) dX1_refusalOdds_23 (by decide) rfl (fun hc => ?_) (fun hc => ?_)
  · replace h := it_f hc h
    refine zJ_iconst dX1_refusalOdds_40 zc_0 rfl ?_
    refine zJ_istore (ls' := [(4, .int (0 : Int32)), (3, .int v3n2), (0, .ref 5), (1, .int p1), (2, .int p2)]) dX1_refusalOdds_41 rfl rfl rfl ?_
    refine zJ_iload dX1_refusalOdds_43 rfl rfl ?_
    refine zJ_if_eq (tgt := 54) dX1_refusalOdds_45 (by decide) rfl (fun hc => ?_) (fun hc => ?_)
    · refine zJ_iload_n dX1_refusalOdds_54 rfl rfl ?_
      cases h
      exact zJ_iret dX1_refusalOdds_55 rfl rfl
    · exact absurd hc (by decide)
  · replace h := it_t hc h
    refine zJ_aload_n dX1_refusalOdds_26 rfl rfl ?_
    refine zJ_iload_n dX1_refusalOdds_27 rfl rfl ?_
    refine zJ_iconst dX1_refusalOdds_28 zc_5 rfl ?_
    obtain ⟨rn3, hcl, h⟩ := bd1_some h
    refine zJ_callV (yi := mX1_ofHorse) (as := [.int p1, .int (5 : Int32)]) (st := []) (L2 := ([], [(6, course_kinds), (8, course_feet), (10, course_digits)], [])) dX1_refusalOdds_29 ML_X1_104 Yv_X1_ofHorse rfl zW_5 rfl rfl (t_X1_ofHorse l _ hcl) (zsub_i zle_n (zle_c rfl zle_n) zle_n) rfl (Nat.le_of_ble_eq_true rfl) (Nat.le_of_ble_eq_true rfl) rfl rfl ?_
    refine zJ_iconst dX1_refusalOdds_32 zc_5 rfl ?_
    refine zJ_icmp_ge (tgt := 40) dX1_refusalOdds_33 (by decide) rfl (fun hc => ?_) (fun hc => ?_)
    · replace h := it_t hc h
      refine zJ_iconst dX1_refusalOdds_40 zc_0 rfl ?_
      refine zJ_istore (ls' := [(4, .int (0 : Int32)), (3, .int v3n2), (0, .ref 5), (1, .int p1), (2, .int p2)]) dX1_refusalOdds_41 rfl rfl rfl ?_
      refine zJ_iload dX1_refusalOdds_43 rfl rfl ?_
      refine zJ_if_eq (tgt := 54) dX1_refusalOdds_45 (by decide) rfl (fun hc => ?_) (fun hc => ?_)
      · refine zJ_iload_n dX1_refusalOdds_54 rfl rfl ?_
        cases h
        exact zJ_iret dX1_refusalOdds_55 rfl rfl
      · exact absurd hc (by decide)
    · replace h := it_f hc h
      refine zJ_iconst dX1_refusalOdds_36 zc_1 rfl ?_
      refine zJ_goto (tgt := 41) dX1_refusalOdds_37 (by decide) ?_
      refine zJ_istore (ls' := [(4, .int (1 : Int32)), (3, .int v3n2), (0, .ref 5), (1, .int p1), (2, .int p2)]) dX1_refusalOdds_41 rfl rfl rfl ?_
      refine zJ_iload dX1_refusalOdds_43 rfl rfl ?_
      refine zJ_if_eq (tgt := 54) dX1_refusalOdds_45 (by decide) rfl (fun hc => ?_) (fun hc => ?_)
      · exact absurd hc (by decide)
      · refine zJ_iload_n dX1_refusalOdds_48 rfl rfl ?_
        refine zJ_iconst dX1_refusalOdds_49 zc_5 rfl ?_
        refine zJ_iadd dX1_refusalOdds_50 rfl ?_
        refine zJ_goto (tgt := 55) dX1_refusalOdds_51 (by decide) ?_
        cases h
        exact zJ_iret dX1_refusalOdds_55 rfl rfl
set_option maxRecDepth 100000 in
set_option maxHeartbeats 4000000 in
theorem t_X2_next (l : Launch) (σ : zS) {p1 : Int32} {drawn_state : Int32} {r : Int32} {w_drawn_state : Int32} (h : f_X2_next p1 drawn_state = some (r, w_drawn_state)) : zMt l zW 0 mX2_next σ ([(2112, drawn_state)], [], []) [.ref 33, .int p1] (some (.int r)) ([(2112, w_drawn_state)], [], []) := by
  refine zMt_of (ls := [(0, .ref 33), (1, .int p1)]) (by decide) rfl (fun _ => Nat.le_of_ble_eq_true rfl) rfl ?_
  unfold f_X2_next at h
  refine zJ_aload_n dX2_next_0 rfl rfl ?_
  refine zJ_aload_n dX2_next_1 rfl rfl ?_
  refine zJ_geti dX2_next_2 F_X2_9 zW_33 rfl rfl rfl ?_
  refine zJ_ldc (v := 1103515245) dX2_next_5 C_X2_56 rfl ?_
  refine zJ_imul dX2_next_7 rfl ?_
  refine zJ_sipush dX2_next_8 zs_12345 rfl ?_
  refine zJ_iadd dX2_next_11 rfl ?_
  refine zK_puti (la' := [(2112, ((drawn_state * (1103515245 : Int32)) + (12345 : Int32)))]) zW_ok dX2_next_12 F_X2_9 P_2_0 zW_33 rfl rfl rfl ?_
  refine zJ_iload_n dX2_next_15 rfl rfl ?_
  refine zJ_if_le (tgt := 31) dX2_next_16 (by decide) rfl (fun hc => ?_) (fun hc => ?_)
  · replace h := it_t hc h
    refine zJ_iconst dX2_next_31 zc_0 rfl ?_
    cases h
    exact zJ_iret dX2_next_32 rfl rfl
  · replace h := it_f hc h
    refine zJ_aload_n dX2_next_19 rfl rfl ?_
    refine zJ_geti dX2_next_20 F_X2_9 zW_33 rfl rfl rfl ?_
    refine zJ_bipush dX2_next_23 zb_16 rfl ?_
    refine zJ_iushr dX2_next_25 rfl ?_
    refine zJ_iload_n dX2_next_26 rfl rfl ?_
    obtain ⟨hg, h⟩ := gd_some h
    refine zJ_irem dX2_next_27 (nz_ne hg) rfl ?_
    refine zJ_goto (tgt := 32) dX2_next_28 (by decide) ?_
    cases h
    exact zJ_iret dX2_next_32 rfl rfl
