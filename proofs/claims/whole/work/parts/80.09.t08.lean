set_option maxRecDepth 100000 in
set_option maxHeartbeats 4000000 in
theorem t_X3_pay (l : Launch) (σ : zS) {play_players : Int32} {rounds_money : (Nat → Int32)} {play_faults : (Nat → Int32)} {play_tenths : (Nat → Int32)} {play_places : (Nat → Int32)} {play_ends : (Nat → Int32)} {play_worth : (Nat → Int64)} {w_play_worth : (Nat → Int64)} (h : f_X3_pay play_players rounds_money play_faults play_tenths play_places play_ends play_worth = some w_play_worth) : zMt l zW 1 mX3_pay σ ([(2497, play_players)], [(25, rounds_money), (41, play_faults), (42, play_tenths), (43, play_places), (45, play_ends)], [(46, play_worth)]) [.ref 39, .ref 20] none ([(2497, play_players)], [(25, rounds_money), (41, play_faults), (42, play_tenths), (43, play_places), (45, play_ends)], [(46, w_play_worth)]) := by
  refine zMt_of (ls := [(0, .ref 39), (1, .ref 20)]) (by decide) rfl (fun _ => Nat.le_of_ble_eq_true rfl) rfl ?_
  unfold f_X3_pay at h
  refine zJ_iconst dX3_pay_0 zc_0 rfl ?_
  refine zJ_istore_n (ls' := [(2, .int (0 : Int32)), (0, .ref 39), (1, .ref 20)]) dX3_pay_1 rfl rfl rfl ?_
  have hk2 : ∀ (play_worth_2x : (Nat → Int64)), k_X3_pay_2  play_worth_2x = some w_play_worth → zJ l zW 1 mX3_pay σ ([(2497, play_players)], [(25, rounds_money), (41, play_faults), (42, play_tenths), (43, play_places), (45, play_ends)], [(46, play_worth_2x)]) 89 [] [] none ([(2497, play_players)], [(25, rounds_money), (41, play_faults), (42, play_tenths), (43, play_places), (45, play_ends)], [(46, w_play_worth)]) := by
    intro play_worth_2x h
    unfold k_X3_pay_2 at h
    obtain rfl := so1 h
    exact zJ_vret dX3_pay_89 rfl
  refine zJ_loc (ls' := [(0, .ref 39), (1, .ref 20), (2, .int (0 : Int32))]) (zll_c rfl (zll_c rfl (zll_c rfl zll_n))) ?_
  refine ml2_J (fun (v2_2 : Int32) (play_worth_2 : (Nat → Int64)) => zJ l zW 1 mX3_pay σ ([(2497, play_players)], [(25, rounds_money), (41, play_faults), (42, play_tenths), (43, play_places), (45, play_ends)], [(46, play_worth_2)]) 2 [(0, .ref 39), (1, .ref 20), (2, .int v2_2)] [] none ([(2497, play_players)], [(25, rounds_money), (41, play_faults), (42, play_tenths), (43, play_places), (45, play_ends)], [(46, w_play_worth)])) (fun rc2 hrc2 v2_2 play_worth_2 h => ?_) zN _ _ h
  unfold s_X3_pay_2 at h
  refine zJ_iload_n dX3_pay_2 rfl rfl ?_
  refine zJ_aload_n dX3_pay_3 rfl rfl ?_
  refine zJ_geti (mi := mX3_pay) (x := play_players) dX3_pay_4 F_X3_43 zW_39 rfl rfl rfl ?_
  refine zJ_icmp_ge (tgt := 89) dX3_pay_7 (by decide) rfl (fun hc => ?_) (fun hc => ?_)
  · replace h := it_t hc h
    refine zJ_loc (ls' := []) zll_n ?_
    exact hk2 _ h
  · replace h := it_f hc h
    refine zJ_aload_n dX3_pay_10 rfl rfl ?_
    refine zJ_getr (mi := mX3_pay) dX3_pay_11 F_X3_21 zW_39 rfl rfl ?_
    refine zJ_aload_n dX3_pay_14 rfl rfl ?_
    refine zJ_getr (mi := mX3_pay) dX3_pay_15 F_X3_27 zW_39 rfl rfl ?_
    refine zJ_iload_n dX3_pay_18 rfl rfl ?_
    obtain ⟨hg, h⟩ := gd_some h
    refine zJ_iald (mi := mX3_pay) (f := play_ends) dX3_pay_19 zW_45 (ix_in hg) rfl rfl ?_
    obtain ⟨hg, h⟩ := gd_some h
    refine zJ_iald (mi := mX3_pay) (f := play_places) dX3_pay_20 zW_43 (ix_in hg) rfl rfl ?_
    obtain ⟨v3n1, ev3n1, h⟩ := lt1_some h
    refine zJ_nmi ev3n1 ?_
    refine zJ_istore_n (ls' := [(3, .int v3n1), (0, .ref 39), (1, .ref 20), (2, .int v2_2)]) dX3_pay_21 rfl rfl rfl ?_
    refine zJ_iconst dX3_pay_22 zc_0 rfl ?_
    refine zJ_istore (ls' := [(4, .int (0 : Int32)), (3, .int v3n1), (0, .ref 39), (1, .ref 20), (2, .int v2_2)]) dX3_pay_23 rfl rfl rfl ?_
    have hk25 : ∀ (v3_25x : Int32), k_X3_pay_25 play_players rounds_money rc2 v2_2 play_worth_2 v3_25x = some w_play_worth → zJ l zW 1 mX3_pay σ ([(2497, play_players)], [(25, rounds_money), (41, play_faults), (42, play_tenths), (43, play_places), (45, play_ends)], [(46, play_worth_2)]) 64 [(0, .ref 39), (1, .ref 20), (2, .int v2_2), (3, .int v3_25x)] [] none ([(2497, play_players)], [(25, rounds_money), (41, play_faults), (42, play_tenths), (43, play_places), (45, play_ends)], [(46, w_play_worth)]) := by
      intro v3_25x h
      unfold k_X3_pay_25 at h
      refine zJ_aload_n dX3_pay_64 rfl rfl ?_
      refine zJ_getr (mi := mX3_pay) dX3_pay_65 F_X3_30 zW_39 rfl rfl ?_
      refine zJ_aload_n dX3_pay_68 rfl rfl ?_
      refine zJ_geti (mi := mX3_pay) (x := play_players) dX3_pay_69 F_X3_43 zW_39 rfl rfl rfl ?_
      refine zJ_iconst dX3_pay_72 zc_3 rfl ?_
      refine zJ_imul dX3_pay_73 rfl ?_
      refine zJ_iload_n dX3_pay_74 rfl rfl ?_
      refine zJ_iadd dX3_pay_75 rfl ?_
      refine zJ_aload_n dX3_pay_76 rfl rfl ?_
      refine zJ_iload_n dX3_pay_77 rfl rfl ?_
      obtain ⟨rn2, hcl, h⟩ := bd1_some h
      refine zJ_callV2 (σ := σ) (L := ([(2497, play_players)], [(25, rounds_money), (41, play_faults), (42, play_tenths), (43, play_places), (45, play_ends)], [(46, play_worth_2)])) (mi := mX3_pay) (yi := mX10_moneyAt) (as := [.int v3_25x]) (st := [.int ((play_players * (3 : Int32)) + v2_2), .ref 46]) (L2 := ([(2497, play_players)], [(25, rounds_money), (41, play_faults), (42, play_tenths), (43, play_places), (45, play_ends)], [(46, play_worth_2)])) dX3_pay_78 ML_X3_113 Yv_X10_moneyAt rfl zW_20 rfl rfl (t_X10_moneyAt l _ hcl) (zsub_i zle_n (zle_c rfl zle_n) zle_n) (zjok_i rfl rfl (zle_c rfl zle_n) rfl rfl (zle_c rfl (zle_c rfl (zle_c rfl (zle_c rfl (zle_c rfl zle_n))))) rfl rfl (zle_c rfl zle_n)) (Nat.le_of_ble_eq_true rfl) (Nat.le_of_ble_eq_true rfl) rfl rfl ?_
      refine zJ_i2l dX3_pay_81 rfl ?_
      obtain ⟨hg, h⟩ := gd_some h
      refine zK_last (mi := mX3_pay) (f := play_worth_2) (lc' := [(46, (vp_updL play_worth_2 ((play_players * (3 : Int32)) + v2_2).toNatClampNeg rn2.toInt64))]) dX3_pay_82 zW_46 (ix_in hg) rfl rfl rfl ?_
      obtain ⟨v2n3, ev2n3, h⟩ := lt1_some h
      refine zJ_iincN (ls' := [(2, .int v2n3), (0, .ref 39), (1, .ref 20), (3, .int v3_25x)]) dX3_pay_83 rfl rfl zc_1 ev2n3 rfl rfl ?_
      refine zJ_goto (tgt := 2) dX3_pay_86 (by decide) ?_
      refine zJ_loc (ls' := [(0, .ref 39), (1, .ref 20), (2, .int v2n3)]) (zll_c rfl (zll_c rfl (zll_c rfl zll_n))) ?_
      exact hrc2 _ _ h
    refine zJ_loc (ls' := [(0, .ref 39), (1, .ref 20), (2, .int v2_2), (3, .int v3n1), (4, .int (0 : Int32))]) (zll_c rfl (zll_c rfl (zll_c rfl (zll_c rfl (zll_c rfl zll_n))))) ?_
    refine ml2_J (fun (v3_25 : Int32) (v4_25 : Int32) => zJ l zW 1 mX3_pay σ ([(2497, play_players)], [(25, rounds_money), (41, play_faults), (42, play_tenths), (43, play_places), (45, play_ends)], [(46, play_worth_2)]) 25 [(0, .ref 39), (1, .ref 20), (2, .int v2_2), (3, .int v3_25), (4, .int v4_25)] [] none ([(2497, play_players)], [(25, rounds_money), (41, play_faults), (42, play_tenths), (43, play_places), (45, play_ends)], [(46, w_play_worth)])) (fun rc25 hrc25 v3_25 v4_25 h => ?_) zN _ _ h
    unfold s_X3_pay_25 at h
    refine zJ_iload dX3_pay_25 rfl rfl ?_
    refine zJ_aload_n dX3_pay_27 rfl rfl ?_
    refine zJ_geti (mi := mX3_pay) (x := play_players) dX3_pay_28 F_X3_43 zW_39 rfl rfl rfl ?_
    refine zJ_icmp_ge (tgt := 64) dX3_pay_31 (by decide) rfl (fun hc => ?_) (fun hc => ?_)
    · replace h := it_t hc h
      refine zJ_loc (ls' := [(0, .ref 39), (1, .ref 20), (2, .int v2_2), (3, .int v3_25)]) (zll_c rfl (zll_c rfl (zll_c rfl (zll_c rfl zll_n)))) ?_
      exact hk25 _ h
    · replace h := it_f hc h
      refine zJ_iload_n dX3_pay_34 rfl rfl ?_
      refine zJ_iload dX3_pay_35 rfl rfl ?_
      refine zJ_iload_n dX3_pay_37 rfl rfl ?_
      refine zJ_icmp_eq (tgt := 55) dX3_pay_38 (by decide) rfl (fun hc => ?_) (fun hc => ?_)
      · replace h := it_t hc h
        refine zJ_iconst dX3_pay_55 zc_0 rfl ?_
        refine zJ_iadd dX3_pay_56 rfl ?_
        obtain ⟨v3n4, ev3n4, h⟩ := lt1_some h
        refine zJ_nmi ev3n4 ?_
        refine zJ_istore_n (ls' := [(3, .int v3n4), (0, .ref 39), (1, .ref 20), (2, .int v2_2), (4, .int v4_25)]) dX3_pay_57 rfl rfl rfl ?_
        obtain ⟨v4n5, ev4n5, h⟩ := lt1_some h
        refine zJ_iincN (ls' := [(4, .int v4n5), (3, .int v3n4), (0, .ref 39), (1, .ref 20), (2, .int v2_2)]) dX3_pay_58 rfl rfl zc_1 ev4n5 rfl rfl ?_
        refine zJ_goto (tgt := 25) dX3_pay_61 (by decide) ?_
        refine zJ_loc (ls' := [(0, .ref 39), (1, .ref 20), (2, .int v2_2), (3, .int v3n4), (4, .int v4n5)]) (zll_c rfl (zll_c rfl (zll_c rfl (zll_c rfl (zll_c rfl zll_n))))) ?_
        exact hrc25 _ _ h
      · replace h := it_f hc h
        refine zJ_aload_n dX3_pay_41 rfl rfl ?_
        refine zJ_iload dX3_pay_42 rfl rfl ?_
        refine zJ_iload_n dX3_pay_44 rfl rfl ?_
        obtain ⟨rn6, hcl, h⟩ := bd1_some h
        refine zJ_callV2 (σ := σ) (L := ([(2497, play_players)], [(25, rounds_money), (41, play_faults), (42, play_tenths), (43, play_places), (45, play_ends)], [(46, play_worth_2)])) (mi := mX3_pay) (yi := mX3_isAhead) (as := [.int v4_25, .int v2_2]) (st := [.int v3_25]) (L2 := ([(2497, play_players)], [(25, rounds_money), (41, play_faults), (42, play_tenths), (43, play_places), (45, play_ends)], [(46, play_worth_2)])) dX3_pay_45 ML_X3_109 Yv_X3_isAhead rfl zW_39 rfl rfl (t_X3_isAhead l _ hcl) (zsub_i zle_n (zle_c rfl (zle_c rfl (zle_c rfl zle_n))) zle_n) (zjok_i rfl rfl (zle_c rfl zle_n) rfl rfl (zle_c rfl (zle_c rfl (zle_c rfl (zle_c rfl (zle_c rfl zle_n))))) rfl rfl (zle_c rfl zle_n)) (Nat.le_of_ble_eq_true rfl) (Nat.le_of_ble_eq_true rfl) rfl rfl ?_
        refine zJ_if_eq (tgt := 55) dX3_pay_48 (by decide) rfl (fun hc => ?_) (fun hc => ?_)
        · replace h := it_t hc h
          refine zJ_iconst dX3_pay_55 zc_0 rfl ?_
          refine zJ_iadd dX3_pay_56 rfl ?_
          obtain ⟨v3n7, ev3n7, h⟩ := lt1_some h
          refine zJ_nmi ev3n7 ?_
          refine zJ_istore_n (ls' := [(3, .int v3n7), (0, .ref 39), (1, .ref 20), (2, .int v2_2), (4, .int v4_25)]) dX3_pay_57 rfl rfl rfl ?_
          obtain ⟨v4n8, ev4n8, h⟩ := lt1_some h
          refine zJ_iincN (ls' := [(4, .int v4n8), (3, .int v3n7), (0, .ref 39), (1, .ref 20), (2, .int v2_2)]) dX3_pay_58 rfl rfl zc_1 ev4n8 rfl rfl ?_
          refine zJ_goto (tgt := 25) dX3_pay_61 (by decide) ?_
          refine zJ_loc (ls' := [(0, .ref 39), (1, .ref 20), (2, .int v2_2), (3, .int v3n7), (4, .int v4n8)]) (zll_c rfl (zll_c rfl (zll_c rfl (zll_c rfl (zll_c rfl zll_n))))) ?_
          exact hrc25 _ _ h
        · replace h := it_f hc h
          refine zJ_iconst dX3_pay_51 zc_1 rfl ?_
          refine zJ_goto (tgt := 56) dX3_pay_52 (by decide) ?_
          refine zJ_iadd dX3_pay_56 rfl ?_
          obtain ⟨v3n9, ev3n9, h⟩ := lt1_some h
          refine zJ_nmi ev3n9 ?_
          refine zJ_istore_n (ls' := [(3, .int v3n9), (0, .ref 39), (1, .ref 20), (2, .int v2_2), (4, .int v4_25)]) dX3_pay_57 rfl rfl rfl ?_
          obtain ⟨v4n10, ev4n10, h⟩ := lt1_some h
          refine zJ_iincN (ls' := [(4, .int v4n10), (3, .int v3n9), (0, .ref 39), (1, .ref 20), (2, .int v2_2)]) dX3_pay_58 rfl rfl zc_1 ev4n10 rfl rfl ?_
          refine zJ_goto (tgt := 25) dX3_pay_61 (by decide) ?_
          refine zJ_loc (ls' := [(0, .ref 39), (1, .ref 20), (2, .int v2_2), (3, .int v3n9), (4, .int v4n10)]) (zll_c rfl (zll_c rfl (zll_c rfl (zll_c rfl (zll_c rfl zll_n))))) ?_
          exact hrc25 _ _ h
set_option maxRecDepth 100000 in
set_option maxHeartbeats 4000000 in
theorem tg_X3_settle (l : Launch) : ∀ n : Nat, (∀ (σ : zS) (p2 : Int32) (play_players : Int32) (play_plans : Int32) (play_firstPlan : Int32) (rounds_money : (Nat → Int32)) (play_faults : (Nat → Int32)) (play_tenths : (Nat → Int32)) (play_places : (Nat → Int32)) (play_clears : (Nat → Int32)) (play_ends : (Nat → Int32)) (play_worth : (Nat → Int64)) (play_trial : (Nat → Int64)) (w_play_firstPlan : Int32) (w_play_ends : (Nat → Int32)) (w_play_worth : (Nat → Int64)) (w_play_trial : (Nat → Int64)), (G_X3_settle n).1 p2 play_players play_plans play_firstPlan rounds_money play_faults play_tenths play_places play_clears play_ends play_worth play_trial = some (w_play_firstPlan, w_play_ends, w_play_worth, w_play_trial) → zMt l zW (n + 2) mX3_settle σ ([(2497, play_players), (2498, play_plans), (2499, play_firstPlan)], [(25, rounds_money), (41, play_faults), (42, play_tenths), (43, play_places), (44, play_clears), (45, play_ends)], [(46, play_worth), (47, play_trial)]) [.ref 39, .ref 20, .int p2] none ([(2497, play_players), (2498, play_plans), (2499, w_play_firstPlan)], [(25, rounds_money), (41, play_faults), (42, play_tenths), (43, play_places), (44, play_clears), (45, w_play_ends)], [(46, w_play_worth), (47, w_play_trial)])) ∧ (∀ (σ : zS) (p2 : Int32) (p3 : Int32) (play_players : Int32) (play_plans : Int32) (play_firstPlan : Int32) (rounds_money : (Nat → Int32)) (play_faults : (Nat → Int32)) (play_tenths : (Nat → Int32)) (play_places : (Nat → Int32)) (play_clears : (Nat → Int32)) (play_ends : (Nat → Int32)) (play_worth : (Nat → Int64)) (play_trial : (Nat → Int64)) (w_play_firstPlan : Int32) (w_play_ends : (Nat → Int32)) (w_play_worth : (Nat → Int64)) (w_play_trial : (Nat → Int64)), (G_X3_settle n).2 p2 p3 play_players play_plans play_firstPlan rounds_money play_faults play_tenths play_places play_clears play_ends play_worth play_trial = some (w_play_firstPlan, w_play_ends, w_play_worth, w_play_trial) → zMt l zW (n + 2) mX3_weigh σ ([(2497, play_players), (2498, play_plans), (2499, play_firstPlan)], [(25, rounds_money), (41, play_faults), (42, play_tenths), (43, play_places), (44, play_clears), (45, play_ends)], [(46, play_worth), (47, play_trial)]) [.ref 39, .ref 20, .int p2, .int p3] none ([(2497, play_players), (2498, play_plans), (2499, w_play_firstPlan)], [(25, rounds_money), (41, play_faults), (42, play_tenths), (43, play_places), (44, play_clears), (45, w_play_ends)], [(46, w_play_worth), (47, w_play_trial)])) := by
  intro n
  induction n with
  | zero => exact ⟨(fun _ _ _ _ _ _ _ _ _ _ _ _ _ _ _ _ _ h => by cases (show (none : Option _) = some _ from h)), (fun _ _ _ _ _ _ _ _ _ _ _ _ _ _ _ _ _ _ h => by cases (show (none : Option _) = some _ from h))⟩
  | succ n ih =>
    obtain ⟨ih_X3_settle, ih_X3_weigh⟩ := ih
    refine ⟨?_, ?_⟩
    · intro σ p2 play_players play_plans play_firstPlan rounds_money play_faults play_tenths play_places play_clears play_ends play_worth play_trial w_play_firstPlan w_play_ends w_play_worth w_play_trial h
      replace h : g_X3_settle (G_X3_settle n).1 (G_X3_settle n).2 p2 play_players play_plans play_firstPlan rounds_money play_faults play_tenths play_places play_clears play_ends play_worth play_trial = some (w_play_firstPlan, w_play_ends, w_play_worth, w_play_trial) := h
      generalize (G_X3_settle n).1 = q_X3_settle at h ih_X3_settle ih_X3_weigh
      generalize (G_X3_settle n).2 = q_X3_weigh at h ih_X3_settle ih_X3_weigh
      show zMt l zW (n + 3) mX3_settle σ ([(2497, play_players), (2498, play_plans), (2499, play_firstPlan)], [(25, rounds_money), (41, play_faults), (42, play_tenths), (43, play_places), (44, play_clears), (45, play_ends)], [(46, play_worth), (47, play_trial)]) [.ref 39, .ref 20, .int p2] none ([(2497, play_players), (2498, play_plans), (2499, w_play_firstPlan)], [(25, rounds_money), (41, play_faults), (42, play_tenths), (43, play_places), (44, play_clears), (45, w_play_ends)], [(46, w_play_worth), (47, w_play_trial)])
      refine zMt_of (ls := [(0, .ref 39), (1, .ref 20), (2, .int p2)]) (by decide) rfl (fun _ => Nat.le_of_ble_eq_true rfl) rfl ?_
      unfold g_X3_settle at h
      refine zJ_iload_n dX3_settle_0 rfl rfl ?_
      refine zJ_aload_n dX3_settle_1 rfl rfl ?_
      refine zJ_geti (mi := mX3_settle) (x := play_players) dX3_settle_2 F_X3_43 zW_39 rfl rfl rfl ?_
      refine zJ_icmp_lt (tgt := 14) dX3_settle_5 (by decide) rfl (fun hc => ?_) (fun hc => ?_)
      · replace h := it_t hc h
        refine zJ_iload_n dX3_settle_14 rfl rfl ?_
        refine zJ_iconst dX3_settle_15 zc_3 rfl ?_
        refine zJ_imul dX3_settle_16 rfl ?_
        obtain ⟨v3n1, ev3n1, h⟩ := lt1_some h
        refine zJ_nmi ev3n1 ?_
        refine zJ_istore_n (ls' := [(3, .int v3n1), (0, .ref 39), (1, .ref 20), (2, .int p2)]) dX3_settle_17 rfl rfl rfl ?_
        refine zJ_iconst dX3_settle_18 zc_0 rfl ?_
        refine zJ_istore (ls' := [(4, .int (0 : Int32)), (3, .int v3n1), (0, .ref 39), (1, .ref 20), (2, .int p2)]) dX3_settle_19 rfl rfl rfl ?_
        have hk21 : ∀ (play_firstPlan_21x : Int32) (play_ends_21x : (Nat → Int32)) (play_worth_21x : (Nat → Int64)) (play_trial_21x : (Nat → Int64)), k_X3_settle_21  play_firstPlan_21x play_ends_21x play_worth_21x play_trial_21x = some (w_play_firstPlan, w_play_ends, w_play_worth, w_play_trial) → zJ l zW (n + 3) mX3_settle σ ([(2497, play_players), (2498, play_plans), (2499, play_firstPlan_21x)], [(25, rounds_money), (41, play_faults), (42, play_tenths), (43, play_places), (44, play_clears), (45, play_ends_21x)], [(46, play_worth_21x), (47, play_trial_21x)]) 100 [] [] none ([(2497, play_players), (2498, play_plans), (2499, w_play_firstPlan)], [(25, rounds_money), (41, play_faults), (42, play_tenths), (43, play_places), (44, play_clears), (45, w_play_ends)], [(46, w_play_worth), (47, w_play_trial)]) := by
          intro play_firstPlan_21x play_ends_21x play_worth_21x play_trial_21x h
          unfold k_X3_settle_21 at h
          obtain ⟨rfl, rfl, rfl, rfl⟩ := so4 h
          exact zJ_vret dX3_settle_100 rfl
        refine zJ_loc (ls' := [(0, .ref 39), (1, .ref 20), (2, .int p2), (3, .int v3n1), (4, .int (0 : Int32))]) (zll_c rfl (zll_c rfl (zll_c rfl (zll_c rfl (zll_c rfl zll_n))))) ?_
        refine ml5_J (fun (v4_21 : Int32) (play_firstPlan_21 : Int32) (play_ends_21 : (Nat → Int32)) (play_worth_21 : (Nat → Int64)) (play_trial_21 : (Nat → Int64)) => zJ l zW (n + 3) mX3_settle σ ([(2497, play_players), (2498, play_plans), (2499, play_firstPlan_21)], [(25, rounds_money), (41, play_faults), (42, play_tenths), (43, play_places), (44, play_clears), (45, play_ends_21)], [(46, play_worth_21), (47, play_trial_21)]) 21 [(0, .ref 39), (1, .ref 20), (2, .int p2), (3, .int v3n1), (4, .int v4_21)] [] none ([(2497, play_players), (2498, play_plans), (2499, w_play_firstPlan)], [(25, rounds_money), (41, play_faults), (42, play_tenths), (43, play_places), (44, play_clears), (45, w_play_ends)], [(46, w_play_worth), (47, w_play_trial)])) (fun rc21 hrc21 v4_21 play_firstPlan_21 play_ends_21 play_worth_21 play_trial_21 h => ?_) zN _ _ _ _ _ h
        unfold s_X3_settle_21 at h
        refine zJ_iload dX3_settle_21 rfl rfl ?_
        refine zJ_aload_n dX3_settle_23 rfl rfl ?_
        refine zJ_geti (mi := mX3_settle) (x := play_plans) dX3_settle_24 F_X3_64 zW_39 rfl rfl rfl ?_
        refine zJ_icmp_ge (tgt := 100) dX3_settle_27 (by decide) rfl (fun hc => ?_) (fun hc => ?_)
        · replace h := it_t hc h
          refine zJ_loc (ls' := []) zll_n ?_
          exact hk21 _ _ _ _ h
        · replace h := it_f hc h
          refine zJ_aload_n dX3_settle_30 rfl rfl ?_
          refine zJ_aload_n dX3_settle_31 rfl rfl ?_
          refine zJ_iload_n dX3_settle_32 rfl rfl ?_
          refine zJ_iload dX3_settle_33 rfl rfl ?_
          obtain ⟨play_firstPlann2, play_endsn3, play_worthn4, play_trialn5, hcl, h⟩ := bd4_some h
          refine zJ_callV2 (σ := σ) (L := ([(2497, play_players), (2498, play_plans), (2499, play_firstPlan_21)], [(25, rounds_money), (41, play_faults), (42, play_tenths), (43, play_places), (44, play_clears), (45, play_ends_21)], [(46, play_worth_21), (47, play_trial_21)])) (mi := mX3_settle) (yi := mX3_weigh) (as := [.ref 20, .int p2, .int v4_21]) (st := []) (L2 := ([(2497, play_players), (2498, play_plans), (2499, play_firstPlann2)], [(25, rounds_money), (41, play_faults), (42, play_tenths), (43, play_places), (44, play_clears), (45, play_endsn3)], [(46, play_worthn4), (47, play_trialn5)])) dX3_settle_35 ML_X3_96 Yv_X3_weigh rfl zW_39 rfl rfl (ih_X3_weigh _ _ _ _ _ _ _ _ _ _ _ _ _ _ _ _ _ _ hcl) (zsub_i (zle_c rfl (zle_c rfl (zle_c rfl zle_n))) (zle_c rfl (zle_c rfl (zle_c rfl (zle_c rfl (zle_c rfl (zle_c rfl zle_n)))))) (zle_c rfl (zle_c rfl zle_n))) (zjok_i rfl rfl (zle_c rfl (zle_c rfl (zle_c rfl zle_n))) rfl rfl (zle_c rfl (zle_c rfl (zle_c rfl (zle_c rfl (zle_c rfl (zle_c rfl zle_n)))))) rfl rfl (zle_c rfl (zle_c rfl zle_n))) (by omega) (Nat.le_of_ble_eq_true rfl) rfl rfl ?_
          refine zJ_iload dX3_settle_38 rfl rfl ?_
          have hj_X3_settle_63 : ∀ (v4_63j : Int32), j_X3_settle_63 p2 v3n1 rc21 play_firstPlann2 play_endsn3 play_worthn4 play_trialn5 v4_63j = some (w_play_firstPlan, w_play_ends, w_play_worth, w_play_trial) → zJ l zW (n + 3) mX3_settle σ ([(2497, play_players), (2498, play_plans), (2499, play_firstPlann2)], [(25, rounds_money), (41, play_faults), (42, play_tenths), (43, play_places), (44, play_clears), (45, play_endsn3)], [(46, play_worthn4), (47, play_trialn5)]) 63 [(0, .ref 39), (1, .ref 20), (2, .int p2), (3, .int v3n1), (4, .int v4_63j)] [] none ([(2497, play_players), (2498, play_plans), (2499, w_play_firstPlan)], [(25, rounds_money), (41, play_faults), (42, play_tenths), (43, play_places), (44, play_clears), (45, w_play_ends)], [(46, w_play_worth), (47, w_play_trial)]) := by
            intro v4_63j h
            unfold j_X3_settle_63 at h
            refine zJ_aload_n dX3_settle_63 rfl rfl ?_
            refine zJ_getr (mi := mX3_settle) dX3_settle_64 F_X3_34 zW_39 rfl rfl ?_
            refine zJ_iload_n dX3_settle_67 rfl rfl ?_
            refine zJ_aload_n dX3_settle_68 rfl rfl ?_
            refine zJ_getr (mi := mX3_settle) dX3_settle_69 F_X3_30 zW_39 rfl rfl ?_
            refine zJ_iload_n dX3_settle_72 rfl rfl ?_
            refine zJ_iconst dX3_settle_73 zc_3 rfl ?_
            obtain ⟨hg, h⟩ := gd_some h
            refine zK_copyl (mi := mX3_settle) (f := play_trialn5) (g := play_worthn4) (lc' := [(46, (va_cpy play_trialn5 play_worthn4 v3n1.toNatClampNeg v3n1.toNatClampNeg (3 : Int32).toNatClampNeg)), (47, play_trialn5)]) dX3_settle_74 L_X3_100 K_cpy_n K_cpy_s K_sys zW_47 zW_46 rfl rfl (cpok_s hg) (by omega) (Nat.le_of_ble_eq_true rfl) rfl rfl ?_
            refine zJ_aload_n dX3_settle_77 rfl rfl ?_
            refine zJ_iload_n dX3_settle_78 rfl rfl ?_
            refine zJ_if_ne (tgt := 87) dX3_settle_79 (by decide) rfl (fun hc => ?_) (fun hc => ?_)
            · replace h := it_f hc h
              refine zJ_aload_n dX3_settle_87 rfl rfl ?_
              refine zJ_geti (mi := mX3_settle) (x := play_firstPlann2) dX3_settle_88 F_X3_106 zW_39 rfl rfl rfl ?_
              refine zK_puti (mi := mX3_settle) (la' := [(2497, play_players), (2498, play_plans), (2499, play_firstPlann2)]) zW_ok dX3_settle_91 F_X3_106 P_3_3 zW_39 rfl rfl rfl ?_
              obtain ⟨v4n6, ev4n6, h⟩ := lt1_some h
              refine zJ_iincN (ls' := [(4, .int v4n6), (0, .ref 39), (1, .ref 20), (2, .int p2), (3, .int v3n1)]) dX3_settle_94 rfl rfl zc_1 ev4n6 rfl rfl ?_
              refine zJ_goto (tgt := 21) dX3_settle_97 (by decide) ?_
              refine zJ_loc (ls' := [(0, .ref 39), (1, .ref 20), (2, .int p2), (3, .int v3n1), (4, .int v4n6)]) (zll_c rfl (zll_c rfl (zll_c rfl (zll_c rfl (zll_c rfl zll_n))))) ?_
              exact hrc21 _ _ _ _ _ h
            · replace h := it_t hc h
              refine zJ_iload dX3_settle_82 rfl rfl ?_
              refine zJ_goto (tgt := 91) dX3_settle_84 (by decide) ?_
              refine zK_puti (mi := mX3_settle) (la' := [(2497, play_players), (2498, play_plans), (2499, v4_63j)]) zW_ok dX3_settle_91 F_X3_106 P_3_3 zW_39 rfl rfl rfl ?_
              obtain ⟨v4n7, ev4n7, h⟩ := lt1_some h
              refine zJ_iincN (ls' := [(4, .int v4n7), (0, .ref 39), (1, .ref 20), (2, .int p2), (3, .int v3n1)]) dX3_settle_94 rfl rfl zc_1 ev4n7 rfl rfl ?_
              refine zJ_goto (tgt := 21) dX3_settle_97 (by decide) ?_
              refine zJ_loc (ls' := [(0, .ref 39), (1, .ref 20), (2, .int p2), (3, .int v3n1), (4, .int v4n7)]) (zll_c rfl (zll_c rfl (zll_c rfl (zll_c rfl (zll_c rfl zll_n))))) ?_
              exact hrc21 _ _ _ _ _ h
          refine zJ_if_eq (tgt := 63) dX3_settle_40 (by decide) rfl (fun hc => ?_) (fun hc => ?_)
          · replace h := it_t hc h
            refine zJ_loc (ls' := [(0, .ref 39), (1, .ref 20), (2, .int p2), (3, .int v3n1), (4, .int v4_21)]) (zll_c rfl (zll_c rfl (zll_c rfl (zll_c rfl (zll_c rfl zll_n))))) ?_
            exact hj_X3_settle_63 _ h
          · replace h := it_f hc h
            refine zJ_aload_n dX3_settle_43 rfl rfl ?_
            refine zJ_getr (mi := mX3_settle) dX3_settle_44 F_X3_34 zW_39 rfl rfl ?_
            refine zJ_iload_n dX3_settle_47 rfl rfl ?_
            refine zJ_iload_n dX3_settle_48 rfl rfl ?_
            refine zJ_iadd dX3_settle_49 rfl ?_
            obtain ⟨hg, h⟩ := gd_some h
            refine zJ_lald (mi := mX3_settle) (f := play_trialn5) dX3_settle_50 zW_47 (ix_in hg) rfl rfl ?_
            refine zJ_aload_n dX3_settle_51 rfl rfl ?_
            refine zJ_getr (mi := mX3_settle) dX3_settle_52 F_X3_30 zW_39 rfl rfl ?_
            refine zJ_iload_n dX3_settle_55 rfl rfl ?_
            refine zJ_iload_n dX3_settle_56 rfl rfl ?_
            refine zJ_iadd dX3_settle_57 rfl ?_
            obtain ⟨hg, h⟩ := gd_some h
            refine zJ_lald (mi := mX3_settle) (f := play_worthn4) dX3_settle_58 zW_46 (ix_in hg) rfl rfl ?_
            refine zJ_lcmp dX3_settle_59 rfl ?_
            refine zJ_if_le (tgt := 94) dX3_settle_60 (by decide) rfl (fun hc => ?_) (fun hc => ?_)
            · replace h := it_t hc h
              obtain ⟨v4n8, ev4n8, h⟩ := lt1_some h
              refine zJ_iincN (ls' := [(4, .int v4n8), (0, .ref 39), (1, .ref 20), (2, .int p2), (3, .int v3n1)]) dX3_settle_94 rfl rfl zc_1 ev4n8 rfl rfl ?_
              refine zJ_goto (tgt := 21) dX3_settle_97 (by decide) ?_
              refine zJ_loc (ls' := [(0, .ref 39), (1, .ref 20), (2, .int p2), (3, .int v3n1), (4, .int v4n8)]) (zll_c rfl (zll_c rfl (zll_c rfl (zll_c rfl (zll_c rfl zll_n))))) ?_
              exact hrc21 _ _ _ _ _ h
            · replace h := it_f hc h
              refine zJ_loc (ls' := [(0, .ref 39), (1, .ref 20), (2, .int p2), (3, .int v3n1), (4, .int v4_21)]) (zll_c rfl (zll_c rfl (zll_c rfl (zll_c rfl (zll_c rfl zll_n))))) ?_
              exact hj_X3_settle_63 _ h
      · replace h := it_f hc h
        refine zJ_aload_n dX3_settle_8 rfl rfl ?_
        refine zJ_aload_n dX3_settle_9 rfl rfl ?_
        obtain ⟨play_worthn9, hcl, h⟩ := bd1_some h
        refine zJ_callV2 (σ := σ) (L := ([(2497, play_players), (2498, play_plans), (2499, play_firstPlan)], [(25, rounds_money), (41, play_faults), (42, play_tenths), (43, play_places), (44, play_clears), (45, play_ends)], [(46, play_worth), (47, play_trial)])) (mi := mX3_settle) (yi := mX3_pay) (as := [.ref 20]) (st := []) (L2 := ([(2497, play_players), (2498, play_plans), (2499, play_firstPlan)], [(25, rounds_money), (41, play_faults), (42, play_tenths), (43, play_places), (44, play_clears), (45, play_ends)], [(46, play_worthn9), (47, play_trial)])) dX3_settle_10 ML_X3_92 Yv_X3_pay rfl zW_39 rfl rfl (t_X3_pay l _ hcl) (zsub_i (zle_c rfl zle_n) (zle_c rfl (zle_c rfl (zle_c rfl (zle_c rfl (zle_c rfl zle_n))))) (zle_c rfl zle_n)) (zjok_i rfl rfl (zle_c rfl (zle_c rfl (zle_c rfl zle_n))) rfl rfl (zle_c rfl (zle_c rfl (zle_c rfl (zle_c rfl (zle_c rfl (zle_c rfl zle_n)))))) rfl rfl (zle_c rfl (zle_c rfl zle_n))) (by omega) (Nat.le_of_ble_eq_true rfl) rfl rfl ?_
        obtain ⟨rfl, rfl, rfl, rfl⟩ := so4 h
        exact zJ_vret dX3_settle_13 rfl
    · intro σ p2 p3 play_players play_plans play_firstPlan rounds_money play_faults play_tenths play_places play_clears play_ends play_worth play_trial w_play_firstPlan w_play_ends w_play_worth w_play_trial h
      replace h : g_X3_weigh (G_X3_settle n).1 (G_X3_settle n).2 p2 p3 play_players play_plans play_firstPlan rounds_money play_faults play_tenths play_places play_clears play_ends play_worth play_trial = some (w_play_firstPlan, w_play_ends, w_play_worth, w_play_trial) := h
      generalize (G_X3_settle n).1 = q_X3_settle at h ih_X3_settle ih_X3_weigh
      generalize (G_X3_settle n).2 = q_X3_weigh at h ih_X3_settle ih_X3_weigh
      show zMt l zW (n + 3) mX3_weigh σ ([(2497, play_players), (2498, play_plans), (2499, play_firstPlan)], [(25, rounds_money), (41, play_faults), (42, play_tenths), (43, play_places), (44, play_clears), (45, play_ends)], [(46, play_worth), (47, play_trial)]) [.ref 39, .ref 20, .int p2, .int p3] none ([(2497, play_players), (2498, play_plans), (2499, w_play_firstPlan)], [(25, rounds_money), (41, play_faults), (42, play_tenths), (43, play_places), (44, play_clears), (45, w_play_ends)], [(46, w_play_worth), (47, w_play_trial)])
      refine zMt_of (ls := [(0, .ref 39), (1, .ref 20), (2, .int p2), (3, .int p3)]) (by decide) rfl (fun _ => Nat.le_of_ble_eq_true rfl) rfl ?_
      unfold g_X3_weigh at h
      refine zJ_iload_n dX3_weigh_0 rfl rfl ?_
      refine zJ_iconst dX3_weigh_1 zc_3 rfl ?_
      refine zJ_imul dX3_weigh_2 rfl ?_
      obtain ⟨v4n1, ev4n1, h⟩ := lt1_some h
      refine zJ_nmi ev4n1 ?_
      refine zJ_istore (ls' := [(4, .int v4n1), (0, .ref 39), (1, .ref 20), (2, .int p2), (3, .int p3)]) dX3_weigh_3 rfl rfl rfl ?_
      refine zJ_aload_n dX3_weigh_5 rfl rfl ?_
      refine zJ_getr (mi := mX3_weigh) dX3_weigh_6 F_X3_24 zW_39 rfl rfl ?_
      refine zJ_iload_n dX3_weigh_9 rfl rfl ?_
      refine zJ_bipush dX3_weigh_10 zb_6 rfl ?_
      refine zJ_imul dX3_weigh_12 rfl ?_
      refine zJ_iload_n dX3_weigh_13 rfl rfl ?_
      refine zJ_iadd dX3_weigh_14 rfl ?_
      obtain ⟨hg, h⟩ := gd_some h
      refine zJ_iald (mi := mX3_weigh) (f := play_clears) dX3_weigh_15 zW_44 (ix_in hg) rfl rfl ?_
      refine zJ_i2l dX3_weigh_16 rfl ?_
      obtain ⟨v5n2, ev5n2, h⟩ := lt1_some h
      refine zJ_nml ev5n2 ?_
      refine zJ_lstore (ls' := [(5, .long v5n2), (4, .int v4n1), (0, .ref 39), (1, .ref 20), (2, .int p2), (3, .int p3)]) dX3_weigh_17 rfl rfl rfl ?_
      refine zJ_aload_n dX3_weigh_19 rfl rfl ?_
      refine zJ_getr (mi := mX3_weigh) dX3_weigh_20 F_X3_27 zW_39 rfl rfl ?_
      refine zJ_iload_n dX3_weigh_23 rfl rfl ?_
      refine zJ_iconst dX3_weigh_24 zc_2 rfl ?_
      refine zJ_iload_n dX3_weigh_25 rfl rfl ?_
      refine zJ_imul dX3_weigh_26 rfl ?_
      obtain ⟨hg, h⟩ := gd_some h
      refine zK_iast (mi := mX3_weigh) (f := play_ends) (lb' := [(25, rounds_money), (41, play_faults), (42, play_tenths), (43, play_places), (44, play_clears), (45, (upd play_ends p2.toNatClampNeg ((2 : Int32) * p3)))]) dX3_weigh_27 zW_45 (ix_in hg) rfl rfl rfl ?_
      refine zJ_aload_n dX3_weigh_28 rfl rfl ?_
      refine zJ_aload_n dX3_weigh_29 rfl rfl ?_
      refine zJ_iload_n dX3_weigh_30 rfl rfl ?_
      refine zJ_iconst dX3_weigh_31 zc_1 rfl ?_
      refine zJ_iadd dX3_weigh_32 rfl ?_
      obtain ⟨play_firstPlann3, play_endsn4, play_worthn5, play_trialn6, hcl, h⟩ := bd4_some h
      refine zJ_callV2 (σ := σ) (L := ([(2497, play_players), (2498, play_plans), (2499, play_firstPlan)], [(25, rounds_money), (41, play_faults), (42, play_tenths), (43, play_places), (44, play_clears), (45, (upd play_ends p2.toNatClampNeg ((2 : Int32) * p3)))], [(46, play_worth), (47, play_trial)])) (mi := mX3_weigh) (yi := mX3_settle) (as := [.ref 20, .int (p2 + (1 : Int32))]) (st := []) (L2 := ([(2497, play_players), (2498, play_plans), (2499, play_firstPlann3)], [(25, rounds_money), (41, play_faults), (42, play_tenths), (43, play_places), (44, play_clears), (45, play_endsn4)], [(46, play_worthn5), (47, play_trialn6)])) dX3_weigh_33 ML_X3_86 Yv_X3_settle rfl zW_39 rfl rfl (ih_X3_settle _ _ _ _ _ _ _ _ _ _ _ _ _ _ _ _ _ hcl) (zsub_i (zle_c rfl (zle_c rfl (zle_c rfl zle_n))) (zle_c rfl (zle_c rfl (zle_c rfl (zle_c rfl (zle_c rfl (zle_c rfl zle_n)))))) (zle_c rfl (zle_c rfl zle_n))) (zjok_i rfl rfl (zle_c rfl (zle_c rfl (zle_c rfl zle_n))) rfl rfl (zle_c rfl (zle_c rfl (zle_c rfl (zle_c rfl (zle_c rfl (zle_c rfl zle_n)))))) rfl rfl (zle_c rfl (zle_c rfl zle_n))) (by omega) (Nat.le_of_ble_eq_true rfl) rfl rfl ?_
      refine zJ_iconst dX3_weigh_36 zc_0 rfl ?_
      refine zJ_istore (ls' := [(7, .int (0 : Int32)), (5, .long v5n2), (4, .int v4n1), (0, .ref 39), (1, .ref 20), (2, .int p2), (3, .int p3)]) dX3_weigh_37 rfl rfl rfl ?_
      have hk39 : ∀ (play_trial_39x : (Nat → Int64)), k_X3_weigh_39 q_X3_settle p2 p3 play_players play_plans rounds_money play_faults play_tenths play_places play_clears v4n1 v5n2 play_firstPlann3 play_endsn4 play_worthn5 play_trial_39x = some (w_play_firstPlan, w_play_ends, w_play_worth, w_play_trial) → zJ l zW (n + 3) mX3_weigh σ ([(2497, play_players), (2498, play_plans), (2499, play_firstPlann3)], [(25, rounds_money), (41, play_faults), (42, play_tenths), (43, play_places), (44, play_clears), (45, play_endsn4)], [(46, play_worthn5), (47, play_trial_39x)]) 79 [(0, .ref 39), (1, .ref 20), (2, .int p2), (3, .int p3), (4, .int v4n1), (5, .long v5n2)] [] none ([(2497, play_players), (2498, play_plans), (2499, w_play_firstPlan)], [(25, rounds_money), (41, play_faults), (42, play_tenths), (43, play_places), (44, play_clears), (45, w_play_ends)], [(46, w_play_worth), (47, w_play_trial)]) := by
        intro play_trial_39x h
        unfold k_X3_weigh_39 at h
        refine zJ_aload_n dX3_weigh_79 rfl rfl ?_
        refine zJ_getr (mi := mX3_weigh) dX3_weigh_80 F_X3_27 zW_39 rfl rfl ?_
        refine zJ_iload_n dX3_weigh_83 rfl rfl ?_
        refine zJ_iconst dX3_weigh_84 zc_2 rfl ?_
        refine zJ_iload_n dX3_weigh_85 rfl rfl ?_
        refine zJ_imul dX3_weigh_86 rfl ?_
        refine zJ_iconst dX3_weigh_87 zc_1 rfl ?_
        refine zJ_iadd dX3_weigh_88 rfl ?_
        obtain ⟨hg, h⟩ := gd_some h
        refine zK_iast (mi := mX3_weigh) (f := play_endsn4) (lb' := [(25, rounds_money), (41, play_faults), (42, play_tenths), (43, play_places), (44, play_clears), (45, (upd play_endsn4 p2.toNatClampNeg (((2 : Int32) * p3) + (1 : Int32))))]) dX3_weigh_89 zW_45 (ix_in hg) rfl rfl rfl ?_
        refine zJ_aload_n dX3_weigh_90 rfl rfl ?_
        refine zJ_aload_n dX3_weigh_91 rfl rfl ?_
        refine zJ_iload_n dX3_weigh_92 rfl rfl ?_
        refine zJ_iconst dX3_weigh_93 zc_1 rfl ?_
        refine zJ_iadd dX3_weigh_94 rfl ?_
        obtain ⟨play_firstPlann7, play_endsn8, play_worthn9, play_trialn10, hcl, h⟩ := bd4_some h
        refine zJ_callV2 (σ := σ) (L := ([(2497, play_players), (2498, play_plans), (2499, play_firstPlann3)], [(25, rounds_money), (41, play_faults), (42, play_tenths), (43, play_places), (44, play_clears), (45, (upd play_endsn4 p2.toNatClampNeg (((2 : Int32) * p3) + (1 : Int32))))], [(46, play_worthn5), (47, play_trial_39x)])) (mi := mX3_weigh) (yi := mX3_settle) (as := [.ref 20, .int (p2 + (1 : Int32))]) (st := []) (L2 := ([(2497, play_players), (2498, play_plans), (2499, play_firstPlann7)], [(25, rounds_money), (41, play_faults), (42, play_tenths), (43, play_places), (44, play_clears), (45, play_endsn8)], [(46, play_worthn9), (47, play_trialn10)])) dX3_weigh_95 ML_X3_86 Yv_X3_settle rfl zW_39 rfl rfl (ih_X3_settle _ _ _ _ _ _ _ _ _ _ _ _ _ _ _ _ _ hcl) (zsub_i (zle_c rfl (zle_c rfl (zle_c rfl zle_n))) (zle_c rfl (zle_c rfl (zle_c rfl (zle_c rfl (zle_c rfl (zle_c rfl zle_n)))))) (zle_c rfl (zle_c rfl zle_n))) (zjok_i rfl rfl (zle_c rfl (zle_c rfl (zle_c rfl zle_n))) rfl rfl (zle_c rfl (zle_c rfl (zle_c rfl (zle_c rfl (zle_c rfl (zle_c rfl zle_n)))))) rfl rfl (zle_c rfl (zle_c rfl zle_n))) (by omega) (Nat.le_of_ble_eq_true rfl) rfl rfl ?_
        refine zJ_iconst dX3_weigh_98 zc_0 rfl ?_
        refine zJ_istore (ls' := [(7, .int (0 : Int32)), (0, .ref 39), (1, .ref 20), (2, .int p2), (3, .int p3), (4, .int v4n1), (5, .long v5n2)]) dX3_weigh_99 rfl rfl rfl ?_
        have hk101 : ∀ (play_trial_101x : (Nat → Int64)), k_X3_weigh_101 play_firstPlann7 play_endsn8 play_worthn9 play_trial_101x = some (w_play_firstPlan, w_play_ends, w_play_worth, w_play_trial) → zJ l zW (n + 3) mX3_weigh σ ([(2497, play_players), (2498, play_plans), (2499, play_firstPlann7)], [(25, rounds_money), (41, play_faults), (42, play_tenths), (43, play_places), (44, play_clears), (45, play_endsn8)], [(46, play_worthn9), (47, play_trial_101x)]) 148 [] [] none ([(2497, play_players), (2498, play_plans), (2499, w_play_firstPlan)], [(25, rounds_money), (41, play_faults), (42, play_tenths), (43, play_places), (44, play_clears), (45, w_play_ends)], [(46, w_play_worth), (47, w_play_trial)]) := by
          intro play_trial_101x h
          unfold k_X3_weigh_101 at h
          obtain ⟨rfl, rfl, rfl, rfl⟩ := so4 h
          exact zJ_vret dX3_weigh_148 rfl
        refine zJ_loc (ls' := [(0, .ref 39), (4, .int v4n1), (5, .long v5n2), (7, .int (0 : Int32))]) (zll_c rfl (zll_c rfl (zll_c rfl (zll_c rfl zll_n)))) ?_
        refine ml2_J (fun (v7_101 : Int32) (play_trial_101 : (Nat → Int64)) => zJ l zW (n + 3) mX3_weigh σ ([(2497, play_players), (2498, play_plans), (2499, play_firstPlann7)], [(25, rounds_money), (41, play_faults), (42, play_tenths), (43, play_places), (44, play_clears), (45, play_endsn8)], [(46, play_worthn9), (47, play_trial_101)]) 101 [(0, .ref 39), (4, .int v4n1), (5, .long v5n2), (7, .int v7_101)] [] none ([(2497, play_players), (2498, play_plans), (2499, w_play_firstPlan)], [(25, rounds_money), (41, play_faults), (42, play_tenths), (43, play_places), (44, play_clears), (45, w_play_ends)], [(46, w_play_worth), (47, w_play_trial)])) (fun rc101 hrc101 v7_101 play_trial_101 h => ?_) zN _ _ h
        unfold s_X3_weigh_101 at h
        refine zJ_iload dX3_weigh_101 rfl rfl ?_
        refine zJ_aload_n dX3_weigh_103 rfl rfl ?_
        refine zJ_geti (mi := mX3_weigh) (x := play_players) dX3_weigh_104 F_X3_43 zW_39 rfl rfl rfl ?_
        refine zJ_icmp_ge (tgt := 148) dX3_weigh_107 (by decide) rfl (fun hc => ?_) (fun hc => ?_)
        · replace h := it_t hc h
          refine zJ_loc (ls' := []) zll_n ?_
          exact hk101 _ h
        · replace h := it_f hc h
          refine zJ_aload_n dX3_weigh_110 rfl rfl ?_
          refine zJ_getr (mi := mX3_weigh) dX3_weigh_111 F_X3_34 zW_39 rfl rfl ?_
          refine zJ_iload dX3_weigh_114 rfl rfl ?_
          refine zJ_iload dX3_weigh_116 rfl rfl ?_
          refine zJ_iadd dX3_weigh_118 rfl ?_
          refine zJ_dup2 dX3_weigh_119 rfl rfl rfl ?_
          obtain ⟨hg, h⟩ := gd_some h
          refine zJ_lald (mi := mX3_weigh) (f := play_trial_101) dX3_weigh_120 zW_47 (ix_in hg) rfl rfl ?_
          refine zJ_ldc2_w (v := 10000) dX3_weigh_121 C_X3_90 rfl ?_
          refine zJ_lload dX3_weigh_124 rfl rfl ?_
          refine zJ_lsub dX3_weigh_126 rfl ?_
          refine zJ_aload_n dX3_weigh_127 rfl rfl ?_
          refine zJ_getr (mi := mX3_weigh) dX3_weigh_128 F_X3_30 zW_39 rfl rfl ?_
          refine zJ_iload dX3_weigh_131 rfl rfl ?_
          refine zJ_iconst dX3_weigh_133 zc_3 rfl ?_
          refine zJ_iadd dX3_weigh_134 rfl ?_
          refine zJ_iload dX3_weigh_135 rfl rfl ?_
          refine zJ_iadd dX3_weigh_137 rfl ?_
          obtain ⟨hg, h⟩ := gd_some h
          refine zJ_lald (mi := mX3_weigh) (f := play_worthn9) dX3_weigh_138 zW_46 (ix_in hg) rfl rfl ?_
          refine zJ_lmul dX3_weigh_139 rfl ?_
          refine zJ_ladd dX3_weigh_140 rfl ?_
          obtain ⟨hg, h⟩ := gd_some h
          refine zK_last (mi := mX3_weigh) (f := play_trial_101) (lc' := [(46, play_worthn9), (47, (vp_updL play_trial_101 (v4n1 + v7_101).toNatClampNeg ((play_trial_101 (v4n1 + v7_101).toNatClampNeg) + (((10000 : Int64) - v5n2) * (play_worthn9 ((v4n1 + (3 : Int32)) + v7_101).toNatClampNeg)))))]) dX3_weigh_141 zW_47 (ix_in hg) rfl rfl rfl ?_
          obtain ⟨v7n11, ev7n11, h⟩ := lt1_some h
          refine zJ_iincN (ls' := [(7, .int v7n11), (0, .ref 39), (4, .int v4n1), (5, .long v5n2)]) dX3_weigh_142 rfl rfl zc_1 ev7n11 rfl rfl ?_
          refine zJ_goto (tgt := 101) dX3_weigh_145 (by decide) ?_
          refine zJ_loc (ls' := [(0, .ref 39), (4, .int v4n1), (5, .long v5n2), (7, .int v7n11)]) (zll_c rfl (zll_c rfl (zll_c rfl (zll_c rfl zll_n)))) ?_
          exact hrc101 _ _ h
      refine zJ_loc (ls' := [(0, .ref 39), (1, .ref 20), (2, .int p2), (3, .int p3), (4, .int v4n1), (5, .long v5n2), (7, .int (0 : Int32))]) (zll_c rfl (zll_c rfl (zll_c rfl (zll_c rfl (zll_c rfl (zll_c rfl (zll_c rfl zll_n))))))) ?_
      refine ml2_J (fun (v7_39 : Int32) (play_trial_39 : (Nat → Int64)) => zJ l zW (n + 3) mX3_weigh σ ([(2497, play_players), (2498, play_plans), (2499, play_firstPlann3)], [(25, rounds_money), (41, play_faults), (42, play_tenths), (43, play_places), (44, play_clears), (45, play_endsn4)], [(46, play_worthn5), (47, play_trial_39)]) 39 [(0, .ref 39), (1, .ref 20), (2, .int p2), (3, .int p3), (4, .int v4n1), (5, .long v5n2), (7, .int v7_39)] [] none ([(2497, play_players), (2498, play_plans), (2499, w_play_firstPlan)], [(25, rounds_money), (41, play_faults), (42, play_tenths), (43, play_places), (44, play_clears), (45, w_play_ends)], [(46, w_play_worth), (47, w_play_trial)])) (fun rc39 hrc39 v7_39 play_trial_39 h => ?_) zN _ _ h
      unfold s_X3_weigh_39 at h
      refine zJ_iload dX3_weigh_39 rfl rfl ?_
      refine zJ_aload_n dX3_weigh_41 rfl rfl ?_
      refine zJ_geti (mi := mX3_weigh) (x := play_players) dX3_weigh_42 F_X3_43 zW_39 rfl rfl rfl ?_
      refine zJ_icmp_ge (tgt := 79) dX3_weigh_45 (by decide) rfl (fun hc => ?_) (fun hc => ?_)
      · replace h := it_t hc h
        refine zJ_loc (ls' := [(0, .ref 39), (1, .ref 20), (2, .int p2), (3, .int p3), (4, .int v4n1), (5, .long v5n2)]) (zll_c rfl (zll_c rfl (zll_c rfl (zll_c rfl (zll_c rfl (zll_c rfl zll_n)))))) ?_
        exact hk39 _ h
      · replace h := it_f hc h
        refine zJ_aload_n dX3_weigh_48 rfl rfl ?_
        refine zJ_getr (mi := mX3_weigh) dX3_weigh_49 F_X3_34 zW_39 rfl rfl ?_
        refine zJ_iload dX3_weigh_52 rfl rfl ?_
        refine zJ_iload dX3_weigh_54 rfl rfl ?_
        refine zJ_iadd dX3_weigh_56 rfl ?_
        refine zJ_lload dX3_weigh_57 rfl rfl ?_
        refine zJ_aload_n dX3_weigh_59 rfl rfl ?_
        refine zJ_getr (mi := mX3_weigh) dX3_weigh_60 F_X3_30 zW_39 rfl rfl ?_
        refine zJ_iload dX3_weigh_63 rfl rfl ?_
        refine zJ_iconst dX3_weigh_65 zc_3 rfl ?_
        refine zJ_iadd dX3_weigh_66 rfl ?_
        refine zJ_iload dX3_weigh_67 rfl rfl ?_
        refine zJ_iadd dX3_weigh_69 rfl ?_
        obtain ⟨hg, h⟩ := gd_some h
        refine zJ_lald (mi := mX3_weigh) (f := play_worthn5) dX3_weigh_70 zW_46 (ix_in hg) rfl rfl ?_
        refine zJ_lmul dX3_weigh_71 rfl ?_
        obtain ⟨hg, h⟩ := gd_some h
        refine zK_last (mi := mX3_weigh) (f := play_trial_39) (lc' := [(46, play_worthn5), (47, (vp_updL play_trial_39 (v4n1 + v7_39).toNatClampNeg (v5n2 * (play_worthn5 ((v4n1 + (3 : Int32)) + v7_39).toNatClampNeg))))]) dX3_weigh_72 zW_47 (ix_in hg) rfl rfl rfl ?_
        obtain ⟨v7n12, ev7n12, h⟩ := lt1_some h
        refine zJ_iincN (ls' := [(7, .int v7n12), (0, .ref 39), (1, .ref 20), (2, .int p2), (3, .int p3), (4, .int v4n1), (5, .long v5n2)]) dX3_weigh_73 rfl rfl zc_1 ev7n12 rfl rfl ?_
        refine zJ_goto (tgt := 39) dX3_weigh_76 (by decide) ?_
        refine zJ_loc (ls' := [(0, .ref 39), (1, .ref 20), (2, .int p2), (3, .int p3), (4, .int v4n1), (5, .long v5n2), (7, .int v7n12)]) (zll_c rfl (zll_c rfl (zll_c rfl (zll_c rfl (zll_c rfl (zll_c rfl (zll_c rfl zll_n))))))) ?_
        exact hrc39 _ _ h

theorem t_X3_settle (l : Launch) (σ : zS) (n : Nat) {p2 : Int32} {play_players : Int32} {play_plans : Int32} {play_firstPlan : Int32} {rounds_money : (Nat → Int32)} {play_faults : (Nat → Int32)} {play_tenths : (Nat → Int32)} {play_places : (Nat → Int32)} {play_clears : (Nat → Int32)} {play_ends : (Nat → Int32)} {play_worth : (Nat → Int64)} {play_trial : (Nat → Int64)} {w_play_firstPlan : Int32} {w_play_ends : (Nat → Int32)} {w_play_worth : (Nat → Int64)} {w_play_trial : (Nat → Int64)} (h : f_X3_settle n p2 play_players play_plans play_firstPlan rounds_money play_faults play_tenths play_places play_clears play_ends play_worth play_trial = some (w_play_firstPlan, w_play_ends, w_play_worth, w_play_trial)) : zMt l zW (n + 2) mX3_settle σ ([(2497, play_players), (2498, play_plans), (2499, play_firstPlan)], [(25, rounds_money), (41, play_faults), (42, play_tenths), (43, play_places), (44, play_clears), (45, play_ends)], [(46, play_worth), (47, play_trial)]) [.ref 39, .ref 20, .int p2] none ([(2497, play_players), (2498, play_plans), (2499, w_play_firstPlan)], [(25, rounds_money), (41, play_faults), (42, play_tenths), (43, play_places), (44, play_clears), (45, w_play_ends)], [(46, w_play_worth), (47, w_play_trial)]) := (tg_X3_settle l n).1 σ _ _ _ _ _ _ _ _ _ _ _ _ _ _ _ _ h
theorem t_X3_weigh (l : Launch) (σ : zS) (n : Nat) {p2 : Int32} {p3 : Int32} {play_players : Int32} {play_plans : Int32} {play_firstPlan : Int32} {rounds_money : (Nat → Int32)} {play_faults : (Nat → Int32)} {play_tenths : (Nat → Int32)} {play_places : (Nat → Int32)} {play_clears : (Nat → Int32)} {play_ends : (Nat → Int32)} {play_worth : (Nat → Int64)} {play_trial : (Nat → Int64)} {w_play_firstPlan : Int32} {w_play_ends : (Nat → Int32)} {w_play_worth : (Nat → Int64)} {w_play_trial : (Nat → Int64)} (h : f_X3_weigh n p2 p3 play_players play_plans play_firstPlan rounds_money play_faults play_tenths play_places play_clears play_ends play_worth play_trial = some (w_play_firstPlan, w_play_ends, w_play_worth, w_play_trial)) : zMt l zW (n + 2) mX3_weigh σ ([(2497, play_players), (2498, play_plans), (2499, play_firstPlan)], [(25, rounds_money), (41, play_faults), (42, play_tenths), (43, play_places), (44, play_clears), (45, play_ends)], [(46, play_worth), (47, play_trial)]) [.ref 39, .ref 20, .int p2, .int p3] none ([(2497, play_players), (2498, play_plans), (2499, w_play_firstPlan)], [(25, rounds_money), (41, play_faults), (42, play_tenths), (43, play_places), (44, play_clears), (45, w_play_ends)], [(46, w_play_worth), (47, w_play_trial)]) := (tg_X3_settle l n).2 σ _ _ _ _ _ _ _ _ _ _ _ _ _ _ _ _ _ h
set_option maxRecDepth 100000 in
set_option maxHeartbeats 4000000 in
theorem t_X3_start (l : Launch) (σ : zS) {p3 : Int32} {course_fences : Int32} {course_rule_size : Int32} {play_players : Int32} {play_plans : Int32} {play_firstPlan : Int32} {course_kinds : (Nat → Int32)} {course_heights : (Nat → Int32)} {course_feet : (Nat → Int32)} {course_digits : (Nat → Int32)} {course_plans : (Nat → Int32)} {rule_codes : (Nat → Int32)} {rule_stack : (Nat → Int32)} {rule_things : (Nat → Int32)} {rounds_money : (Nat → Int32)} {play_named : (Nat → Int32)} {play_faults : (Nat → Int32)} {play_tenths : (Nat → Int32)} {play_places : (Nat → Int32)} {play_clears : (Nat → Int32)} {play_ends : (Nat → Int32)} {play_worth : (Nat → Int64)} {play_trial : (Nat → Int64)} {w_play_firstPlan : Int32} {w_rule_stack : (Nat → Int32)} {w_rule_things : (Nat → Int32)} {w_play_clears : (Nat → Int32)} {w_play_ends : (Nat → Int32)} {w_play_worth : (Nat → Int64)} {w_play_trial : (Nat → Int64)} (h : f_X3_start p3 course_fences course_rule_size play_players play_plans play_firstPlan course_kinds course_heights course_feet course_digits course_plans rule_codes rule_stack rule_things rounds_money play_named play_faults play_tenths play_places play_clears play_ends play_worth play_trial = some (w_play_firstPlan, w_rule_stack, w_rule_things, w_play_clears, w_play_ends, w_play_worth, w_play_trial)) : zMt l zW 203 mX3_start σ ([(323, course_fences), (769, course_rule_size), (2497, play_players), (2498, play_plans), (2499, play_firstPlan)], [(6, course_kinds), (7, course_heights), (8, course_feet), (10, course_digits), (11, course_plans), (13, rule_codes), (15, rule_stack), (16, rule_things), (25, rounds_money), (40, play_named), (41, play_faults), (42, play_tenths), (43, play_places), (44, play_clears), (45, play_ends)], [(46, play_worth), (47, play_trial)]) [.ref 39, .ref 5, .ref 20, .int p3] none ([(323, course_fences), (769, course_rule_size), (2497, play_players), (2498, play_plans), (2499, w_play_firstPlan)], [(6, course_kinds), (7, course_heights), (8, course_feet), (10, course_digits), (11, course_plans), (13, rule_codes), (15, w_rule_stack), (16, w_rule_things), (25, rounds_money), (40, play_named), (41, play_faults), (42, play_tenths), (43, play_places), (44, w_play_clears), (45, w_play_ends)], [(46, w_play_worth), (47, w_play_trial)]) := by
  refine zMt_of (ls := [(0, .ref 39), (1, .ref 5), (2, .ref 20), (3, .int p3)]) (by decide) rfl (fun _ => Nat.le_of_ble_eq_true rfl) rfl ?_
  unfold f_X3_start at h
  refine zJ_iconst dX3_start_0 zc_0 rfl ?_
  refine zJ_istore (ls' := [(4, .int (0 : Int32)), (0, .ref 39), (1, .ref 5), (2, .ref 20), (3, .int p3)]) dX3_start_1 rfl rfl rfl ?_
  have hk3 : ∀ (rule_stack_3x : (Nat → Int32)) (rule_things_3x : (Nat → Int32)) (play_clears_3x : (Nat → Int32)), k_X3_start_3 play_players play_plans play_firstPlan rounds_money play_faults play_tenths play_places play_ends play_worth play_trial rule_stack_3x rule_things_3x play_clears_3x = some (w_play_firstPlan, w_rule_stack, w_rule_things, w_play_clears, w_play_ends, w_play_worth, w_play_trial) → zJ l zW 203 mX3_start σ ([(323, course_fences), (769, course_rule_size), (2497, play_players), (2498, play_plans), (2499, play_firstPlan)], [(6, course_kinds), (7, course_heights), (8, course_feet), (10, course_digits), (11, course_plans), (13, rule_codes), (15, rule_stack_3x), (16, rule_things_3x), (25, rounds_money), (40, play_named), (41, play_faults), (42, play_tenths), (43, play_places), (44, play_clears_3x), (45, play_ends)], [(46, play_worth), (47, play_trial)]) 97 [(0, .ref 39), (2, .ref 20)] [] none ([(323, course_fences), (769, course_rule_size), (2497, play_players), (2498, play_plans), (2499, w_play_firstPlan)], [(6, course_kinds), (7, course_heights), (8, course_feet), (10, course_digits), (11, course_plans), (13, rule_codes), (15, w_rule_stack), (16, w_rule_things), (25, rounds_money), (40, play_named), (41, play_faults), (42, play_tenths), (43, play_places), (44, w_play_clears), (45, w_play_ends)], [(46, w_play_worth), (47, w_play_trial)]) := by
    intro rule_stack_3x rule_things_3x play_clears_3x h
    unfold k_X3_start_3 at h
    refine zJ_aload_n dX3_start_97 rfl rfl ?_
    refine zJ_aload_n dX3_start_98 rfl rfl ?_
    refine zJ_iconst dX3_start_99 zc_0 rfl ?_
    obtain ⟨play_firstPlann1, play_endsn2, play_worthn3, play_trialn4, hcl, h⟩ := bd4_some h
    refine zJ_callV2 (σ := σ) (L := ([(323, course_fences), (769, course_rule_size), (2497, play_players), (2498, play_plans), (2499, play_firstPlan)], [(6, course_kinds), (7, course_heights), (8, course_feet), (10, course_digits), (11, course_plans), (13, rule_codes), (15, rule_stack_3x), (16, rule_things_3x), (25, rounds_money), (40, play_named), (41, play_faults), (42, play_tenths), (43, play_places), (44, play_clears_3x), (45, play_ends)], [(46, play_worth), (47, play_trial)])) (mi := mX3_start) (yi := mX3_settle) (as := [.ref 20, .int (0 : Int32)]) (st := []) (L2 := ([(323, course_fences), (769, course_rule_size), (2497, play_players), (2498, play_plans), (2499, play_firstPlann1)], [(6, course_kinds), (7, course_heights), (8, course_feet), (10, course_digits), (11, course_plans), (13, rule_codes), (15, rule_stack_3x), (16, rule_things_3x), (25, rounds_money), (40, play_named), (41, play_faults), (42, play_tenths), (43, play_places), (44, play_clears_3x), (45, play_endsn2)], [(46, play_worthn3), (47, play_trialn4)])) dX3_start_100 ML_X3_86 Yv_X3_settle rfl zW_39 rfl rfl (t_X3_settle l _ 200 hcl) (zsub_i (zle_c rfl (zle_c rfl (zle_c rfl zle_n))) (zle_c rfl (zle_c rfl (zle_c rfl (zle_c rfl (zle_c rfl (zle_c rfl zle_n)))))) (zle_c rfl (zle_c rfl zle_n))) (zjok_i rfl rfl (zle_c rfl (zle_c rfl (zle_c rfl (zle_c rfl (zle_c rfl zle_n))))) rfl rfl (zle_c rfl (zle_c rfl (zle_c rfl (zle_c rfl (zle_c rfl (zle_c rfl (zle_c rfl (zle_c rfl (zle_c rfl (zle_c rfl (zle_c rfl (zle_c rfl (zle_c rfl (zle_c rfl (zle_c rfl zle_n))))))))))))))) rfl rfl (zle_c rfl (zle_c rfl zle_n))) (Nat.le_of_ble_eq_true rfl) (Nat.le_of_ble_eq_true rfl) rfl rfl ?_
    obtain ⟨rfl, rfl, rfl, rfl, rfl, rfl, rfl⟩ := so7 h
    exact zJ_vret dX3_start_103 rfl
  refine zJ_loc (ls' := [(0, .ref 39), (1, .ref 5), (2, .ref 20), (3, .int p3), (4, .int (0 : Int32))]) (zll_c rfl (zll_c rfl (zll_c rfl (zll_c rfl (zll_c rfl zll_n))))) ?_
  refine ml4_J (fun (v4_3 : Int32) (rule_stack_3 : (Nat → Int32)) (rule_things_3 : (Nat → Int32)) (play_clears_3 : (Nat → Int32)) => zJ l zW 203 mX3_start σ ([(323, course_fences), (769, course_rule_size), (2497, play_players), (2498, play_plans), (2499, play_firstPlan)], [(6, course_kinds), (7, course_heights), (8, course_feet), (10, course_digits), (11, course_plans), (13, rule_codes), (15, rule_stack_3), (16, rule_things_3), (25, rounds_money), (40, play_named), (41, play_faults), (42, play_tenths), (43, play_places), (44, play_clears_3), (45, play_ends)], [(46, play_worth), (47, play_trial)]) 3 [(0, .ref 39), (1, .ref 5), (2, .ref 20), (3, .int p3), (4, .int v4_3)] [] none ([(323, course_fences), (769, course_rule_size), (2497, play_players), (2498, play_plans), (2499, w_play_firstPlan)], [(6, course_kinds), (7, course_heights), (8, course_feet), (10, course_digits), (11, course_plans), (13, rule_codes), (15, w_rule_stack), (16, w_rule_things), (25, rounds_money), (40, play_named), (41, play_faults), (42, play_tenths), (43, play_places), (44, w_play_clears), (45, w_play_ends)], [(46, w_play_worth), (47, w_play_trial)])) (fun rc3 hrc3 v4_3 rule_stack_3 rule_things_3 play_clears_3 h => ?_) zN _ _ _ _ h
  unfold s_X3_start_3 at h
  refine zJ_iload dX3_start_3 rfl rfl ?_
  refine zJ_aload_n dX3_start_5 rfl rfl ?_
  refine zJ_geti (mi := mX3_start) (x := play_players) dX3_start_6 F_X3_43 zW_39 rfl rfl rfl ?_
  refine zJ_icmp_ge (tgt := 97) dX3_start_9 (by decide) rfl (fun hc => ?_) (fun hc => ?_)
  · replace h := it_t hc h
    refine zJ_loc (ls' := [(0, .ref 39), (2, .ref 20)]) (zll_c rfl (zll_c rfl zll_n)) ?_
    exact hk3 _ _ _ h
  · replace h := it_f hc h
    refine zJ_iload dX3_start_12 rfl rfl ?_
    refine zJ_iload_n dX3_start_14 rfl rfl ?_
    have hj_X3_start_24 : ∀ (t0_24j : Int32), j_X3_start_24 p3 course_fences course_rule_size play_players play_plans course_kinds course_heights course_feet course_digits course_plans rule_codes play_named rc3 v4_3 rule_stack_3 rule_things_3 play_clears_3 t0_24j = some (w_play_firstPlan, w_rule_stack, w_rule_things, w_play_clears, w_play_ends, w_play_worth, w_play_trial) → zJ l zW 203 mX3_start σ ([(323, course_fences), (769, course_rule_size), (2497, play_players), (2498, play_plans), (2499, play_firstPlan)], [(6, course_kinds), (7, course_heights), (8, course_feet), (10, course_digits), (11, course_plans), (13, rule_codes), (15, rule_stack_3), (16, rule_things_3), (25, rounds_money), (40, play_named), (41, play_faults), (42, play_tenths), (43, play_places), (44, play_clears_3), (45, play_ends)], [(46, play_worth), (47, play_trial)]) 24 [(0, .ref 39), (1, .ref 5), (2, .ref 20), (3, .int p3), (4, .int v4_3)] [.int t0_24j] none ([(323, course_fences), (769, course_rule_size), (2497, play_players), (2498, play_plans), (2499, w_play_firstPlan)], [(6, course_kinds), (7, course_heights), (8, course_feet), (10, course_digits), (11, course_plans), (13, rule_codes), (15, w_rule_stack), (16, w_rule_things), (25, rounds_money), (40, play_named), (41, play_faults), (42, play_tenths), (43, play_places), (44, w_play_clears), (45, w_play_ends)], [(46, w_play_worth), (47, w_play_trial)]) := by
      intro t0_24j h
      unfold j_X3_start_24 at h
      refine zJ_istore (ls' := [(5, .int t0_24j), (0, .ref 39), (1, .ref 5), (2, .ref 20), (3, .int p3), (4, .int v4_3)]) dX3_start_24 rfl rfl rfl ?_
      refine zJ_iload dX3_start_26 rfl rfl ?_
      refine zJ_iload_n dX3_start_28 rfl rfl ?_
      have hj_X3_start_38 : ∀ (v5_38j : Int32), j_X3_start_38 course_fences course_rule_size play_players play_plans course_kinds course_heights course_feet course_digits course_plans rule_codes play_named rc3 v4_3 rule_stack_3 rule_things_3 play_clears_3 v5_38j = some (w_play_firstPlan, w_rule_stack, w_rule_things, w_play_clears, w_play_ends, w_play_worth, w_play_trial) → zJ l zW 203 mX3_start σ ([(323, course_fences), (769, course_rule_size), (2497, play_players), (2498, play_plans), (2499, play_firstPlan)], [(6, course_kinds), (7, course_heights), (8, course_feet), (10, course_digits), (11, course_plans), (13, rule_codes), (15, rule_stack_3), (16, rule_things_3), (25, rounds_money), (40, play_named), (41, play_faults), (42, play_tenths), (43, play_places), (44, play_clears_3), (45, play_ends)], [(46, play_worth), (47, play_trial)]) 38 [(0, .ref 39), (1, .ref 5), (2, .ref 20), (3, .int p3), (4, .int v4_3), (5, .int v5_38j)] [] none ([(323, course_fences), (769, course_rule_size), (2497, play_players), (2498, play_plans), (2499, w_play_firstPlan)], [(6, course_kinds), (7, course_heights), (8, course_feet), (10, course_digits), (11, course_plans), (13, rule_codes), (15, w_rule_stack), (16, w_rule_things), (25, rounds_money), (40, play_named), (41, play_faults), (42, play_tenths), (43, play_places), (44, w_play_clears), (45, w_play_ends)], [(46, w_play_worth), (47, w_play_trial)]) := by
        intro v5_38j h
        unfold j_X3_start_38 at h
        refine zJ_iconst dX3_start_38 zc_0 rfl ?_
        refine zJ_istore (ls' := [(6, .int (0 : Int32)), (0, .ref 39), (1, .ref 5), (2, .ref 20), (3, .int p3), (4, .int v4_3), (5, .int v5_38j)]) dX3_start_39 rfl rfl rfl ?_
        have hk41 : ∀ (rule_stack_41x : (Nat → Int32)) (rule_things_41x : (Nat → Int32)) (play_clears_41x : (Nat → Int32)), k_X3_start_41 rc3 v4_3 rule_stack_41x rule_things_41x play_clears_41x = some (w_play_firstPlan, w_rule_stack, w_rule_things, w_play_clears, w_play_ends, w_play_worth, w_play_trial) → zJ l zW 203 mX3_start σ ([(323, course_fences), (769, course_rule_size), (2497, play_players), (2498, play_plans), (2499, play_firstPlan)], [(6, course_kinds), (7, course_heights), (8, course_feet), (10, course_digits), (11, course_plans), (13, rule_codes), (15, rule_stack_41x), (16, rule_things_41x), (25, rounds_money), (40, play_named), (41, play_faults), (42, play_tenths), (43, play_places), (44, play_clears_41x), (45, play_ends)], [(46, play_worth), (47, play_trial)]) 91 [(0, .ref 39), (1, .ref 5), (2, .ref 20), (3, .int p3), (4, .int v4_3)] [] none ([(323, course_fences), (769, course_rule_size), (2497, play_players), (2498, play_plans), (2499, w_play_firstPlan)], [(6, course_kinds), (7, course_heights), (8, course_feet), (10, course_digits), (11, course_plans), (13, rule_codes), (15, w_rule_stack), (16, w_rule_things), (25, rounds_money), (40, play_named), (41, play_faults), (42, play_tenths), (43, play_places), (44, w_play_clears), (45, w_play_ends)], [(46, w_play_worth), (47, w_play_trial)]) := by
          intro rule_stack_41x rule_things_41x play_clears_41x h
          unfold k_X3_start_41 at h
          obtain ⟨v4n5, ev4n5, h⟩ := lt1_some h
          refine zJ_iincN (ls' := [(4, .int v4n5), (0, .ref 39), (1, .ref 5), (2, .ref 20), (3, .int p3)]) dX3_start_91 rfl rfl zc_1 ev4n5 rfl rfl ?_
          refine zJ_goto (tgt := 3) dX3_start_94 (by decide) ?_
          refine zJ_loc (ls' := [(0, .ref 39), (1, .ref 5), (2, .ref 20), (3, .int p3), (4, .int v4n5)]) (zll_c rfl (zll_c rfl (zll_c rfl (zll_c rfl (zll_c rfl zll_n))))) ?_
          exact hrc3 _ _ _ _ h
        refine zJ_loc (ls' := [(0, .ref 39), (1, .ref 5), (2, .ref 20), (3, .int p3), (4, .int v4_3), (5, .int v5_38j), (6, .int (0 : Int32))]) (zll_c rfl (zll_c rfl (zll_c rfl (zll_c rfl (zll_c rfl (zll_c rfl (zll_c rfl zll_n))))))) ?_
        refine ml4_J (fun (v6_41 : Int32) (rule_stack_41 : (Nat → Int32)) (rule_things_41 : (Nat → Int32)) (play_clears_41 : (Nat → Int32)) => zJ l zW 203 mX3_start σ ([(323, course_fences), (769, course_rule_size), (2497, play_players), (2498, play_plans), (2499, play_firstPlan)], [(6, course_kinds), (7, course_heights), (8, course_feet), (10, course_digits), (11, course_plans), (13, rule_codes), (15, rule_stack_41), (16, rule_things_41), (25, rounds_money), (40, play_named), (41, play_faults), (42, play_tenths), (43, play_places), (44, play_clears_41), (45, play_ends)], [(46, play_worth), (47, play_trial)]) 41 [(0, .ref 39), (1, .ref 5), (2, .ref 20), (3, .int p3), (4, .int v4_3), (5, .int v5_38j), (6, .int v6_41)] [] none ([(323, course_fences), (769, course_rule_size), (2497, play_players), (2498, play_plans), (2499, w_play_firstPlan)], [(6, course_kinds), (7, course_heights), (8, course_feet), (10, course_digits), (11, course_plans), (13, rule_codes), (15, w_rule_stack), (16, w_rule_things), (25, rounds_money), (40, play_named), (41, play_faults), (42, play_tenths), (43, play_places), (44, w_play_clears), (45, w_play_ends)], [(46, w_play_worth), (47, w_play_trial)])) (fun rc41 hrc41 v6_41 rule_stack_41 rule_things_41 play_clears_41 h => ?_) zN _ _ _ _ h
        unfold s_X3_start_41 at h
        refine zJ_iload dX3_start_41 rfl rfl ?_
        refine zJ_aload_n dX3_start_43 rfl rfl ?_
        refine zJ_geti (mi := mX3_start) (x := play_plans) dX3_start_44 F_X3_64 zW_39 rfl rfl rfl ?_
        refine zJ_icmp_ge (tgt := 91) dX3_start_47 (by decide) rfl (fun hc => ?_) (fun hc => ?_)
        · replace h := it_t hc h
          refine zJ_loc (ls' := [(0, .ref 39), (1, .ref 5), (2, .ref 20), (3, .int p3), (4, .int v4_3)]) (zll_c rfl (zll_c rfl (zll_c rfl (zll_c rfl (zll_c rfl zll_n))))) ?_
          exact hk41 _ _ _ h
        · replace h := it_f hc h
          refine zJ_iload dX3_start_50 rfl rfl ?_
          refine zJ_aload_n dX3_start_52 rfl rfl ?_
          refine zJ_geti (mi := mX3_start) (x := play_players) dX3_start_53 F_X3_43 zW_39 rfl rfl rfl ?_
          refine zJ_icmp_ge (tgt := 91) dX3_start_56 (by decide) rfl (fun hc => ?_) (fun hc => ?_)
          · replace h := it_t hc h
            refine zJ_loc (ls' := [(0, .ref 39), (1, .ref 5), (2, .ref 20), (3, .int p3), (4, .int v4_3)]) (zll_c rfl (zll_c rfl (zll_c rfl (zll_c rfl (zll_c rfl zll_n))))) ?_
            exact hk41 _ _ _ h
          · replace h := it_f hc h
            refine zJ_aload_n dX3_start_59 rfl rfl ?_
            refine zJ_getr (mi := mX3_start) dX3_start_60 F_X3_24 zW_39 rfl rfl ?_
            refine zJ_iload dX3_start_63 rfl rfl ?_
            refine zJ_bipush dX3_start_65 zb_6 rfl ?_
            refine zJ_imul dX3_start_67 rfl ?_
            refine zJ_iload dX3_start_68 rfl rfl ?_
            refine zJ_iadd dX3_start_70 rfl ?_
            refine zJ_aload_n dX3_start_71 rfl rfl ?_
            refine zJ_aload_n dX3_start_72 rfl rfl ?_
            refine zJ_getr (mi := mX3_start) dX3_start_73 F_X3_11 zW_39 rfl rfl ?_
            refine zJ_iload dX3_start_76 rfl rfl ?_
            obtain ⟨hg, h⟩ := gd_some h
            refine zJ_iald (mi := mX3_start) (f := play_named) dX3_start_78 zW_40 (ix_in hg) rfl rfl ?_
            refine zJ_iload dX3_start_79 rfl rfl ?_
            obtain ⟨rn6, rule_stackn7, rule_thingsn8, hcl, h⟩ := bd3_some h
            refine zJ_callV2 (σ := σ) (L := ([(323, course_fences), (769, course_rule_size), (2497, play_players), (2498, play_plans), (2499, play_firstPlan)], [(6, course_kinds), (7, course_heights), (8, course_feet), (10, course_digits), (11, course_plans), (13, rule_codes), (15, rule_stack_41), (16, rule_things_41), (25, rounds_money), (40, play_named), (41, play_faults), (42, play_tenths), (43, play_places), (44, play_clears_41), (45, play_ends)], [(46, play_worth), (47, play_trial)])) (mi := mX3_start) (yi := mX1_clearOf) (as := [.int (play_named v5_38j.toNatClampNeg), .int v6_41]) (st := [.int ((v4_3 * (6 : Int32)) + v6_41), .ref 44]) (L2 := ([(323, course_fences), (769, course_rule_size), (2497, play_players), (2498, play_plans), (2499, play_firstPlan)], [(6, course_kinds), (7, course_heights), (8, course_feet), (10, course_digits), (11, course_plans), (13, rule_codes), (15, rule_stackn7), (16, rule_thingsn8), (25, rounds_money), (40, play_named), (41, play_faults), (42, play_tenths), (43, play_places), (44, play_clears_41), (45, play_ends)], [(46, play_worth), (47, play_trial)])) dX3_start_81 ML_X3_83 Yv_X1_clearOf rfl zW_5 rfl rfl (t_X1_clearOf l _ hcl) (zsub_i (zle_c rfl (zle_c rfl zle_n)) (zle_c rfl (zle_c rfl (zle_c rfl (zle_c rfl (zle_c rfl (zle_c rfl (zle_c rfl (zle_c rfl zle_n)))))))) zle_n) (zjok_i rfl rfl (zle_c rfl (zle_c rfl (zle_c rfl (zle_c rfl (zle_c rfl zle_n))))) rfl rfl (zle_c rfl (zle_c rfl (zle_c rfl (zle_c rfl (zle_c rfl (zle_c rfl (zle_c rfl (zle_c rfl (zle_c rfl (zle_c rfl (zle_c rfl (zle_c rfl (zle_c rfl (zle_c rfl (zle_c rfl zle_n))))))))))))))) rfl rfl (zle_c rfl (zle_c rfl zle_n))) (Nat.le_of_ble_eq_true rfl) (Nat.le_of_ble_eq_true rfl) rfl rfl ?_
            obtain ⟨hg, h⟩ := gd_some h
            refine zK_iast (mi := mX3_start) (f := play_clears_41) (lb' := [(6, course_kinds), (7, course_heights), (8, course_feet), (10, course_digits), (11, course_plans), (13, rule_codes), (15, rule_stackn7), (16, rule_thingsn8), (25, rounds_money), (40, play_named), (41, play_faults), (42, play_tenths), (43, play_places), (44, (upd play_clears_41 ((v4_3 * (6 : Int32)) + v6_41).toNatClampNeg rn6)), (45, play_ends)]) dX3_start_84 zW_44 (ix_in hg) rfl rfl rfl ?_
            obtain ⟨v6n9, ev6n9, h⟩ := lt1_some h
            refine zJ_iincN (ls' := [(6, .int v6n9), (0, .ref 39), (1, .ref 5), (2, .ref 20), (3, .int p3), (4, .int v4_3), (5, .int v5_38j)]) dX3_start_85 rfl rfl zc_1 ev6n9 rfl rfl ?_
            refine zJ_goto (tgt := 41) dX3_start_88 (by decide) ?_
            refine zJ_loc (ls' := [(0, .ref 39), (1, .ref 5), (2, .ref 20), (3, .int p3), (4, .int v4_3), (5, .int v5_38j), (6, .int v6n9)]) (zll_c rfl (zll_c rfl (zll_c rfl (zll_c rfl (zll_c rfl (zll_c rfl (zll_c rfl zll_n))))))) ?_
            exact hrc41 _ _ _ _ h
      refine zJ_icmp_ge (tgt := 38) dX3_start_29 (by decide) rfl (fun hc => ?_) (fun hc => ?_)
      · replace h := it_t hc h
        refine zJ_loc (ls' := [(0, .ref 39), (1, .ref 5), (2, .ref 20), (3, .int p3), (4, .int v4_3), (5, .int t0_24j)]) (zll_c rfl (zll_c rfl (zll_c rfl (zll_c rfl (zll_c rfl (zll_c rfl zll_n)))))) ?_
        exact hj_X3_start_38 _ h
      · replace h := it_f hc h
        refine zJ_iload dX3_start_32 rfl rfl ?_
        refine zJ_iconst dX3_start_34 zc_1 rfl ?_
        refine zJ_iadd dX3_start_35 rfl ?_
        obtain ⟨v5n10, ev5n10, h⟩ := lt1_some h
        refine zJ_nmi ev5n10 ?_
        refine zJ_istore (ls' := [(5, .int v5n10), (0, .ref 39), (1, .ref 5), (2, .ref 20), (3, .int p3), (4, .int v4_3)]) dX3_start_36 rfl rfl rfl ?_
        refine zJ_loc (ls' := [(0, .ref 39), (1, .ref 5), (2, .ref 20), (3, .int p3), (4, .int v4_3), (5, .int v5n10)]) (zll_c rfl (zll_c rfl (zll_c rfl (zll_c rfl (zll_c rfl (zll_c rfl zll_n)))))) ?_
        exact hj_X3_start_38 _ h
    refine zJ_icmp_ne (tgt := 22) dX3_start_15 (by decide) rfl (fun hc => ?_) (fun hc => ?_)
    · replace h := it_f hc h
      refine zJ_iload dX3_start_22 rfl rfl ?_
      refine zJ_loc (ls' := [(0, .ref 39), (1, .ref 5), (2, .ref 20), (3, .int p3), (4, .int v4_3)]) (zll_c rfl (zll_c rfl (zll_c rfl (zll_c rfl (zll_c rfl zll_n))))) ?_
      exact hj_X3_start_24 _ h
    · replace h := it_t hc h
      refine zJ_iconst dX3_start_18 zc_0 rfl ?_
      refine zJ_goto (tgt := 24) dX3_start_19 (by decide) ?_
      refine zJ_loc (ls' := [(0, .ref 39), (1, .ref 5), (2, .ref 20), (3, .int p3), (4, .int v4_3)]) (zll_c rfl (zll_c rfl (zll_c rfl (zll_c rfl (zll_c rfl zll_n))))) ?_
      exact hj_X3_start_24 _ h
set_option maxRecDepth 100000 in
set_option maxHeartbeats 4000000 in
theorem t_X3_won (l : Launch) (σ : zS) {p1 : Int32} {play_players : Int32} {play_worth : (Nat → Int64)} {r : Int64} (h : f_X3_won p1 play_players play_worth = some r) : zMt l zW 0 mX3_won σ ([(2497, play_players)], [], [(46, play_worth)]) [.ref 39, .int p1] (some (.long r)) ([(2497, play_players)], [], [(46, play_worth)]) := by
  refine zMt_of (ls := [(0, .ref 39), (1, .int p1)]) (by decide) rfl (fun _ => Nat.le_of_ble_eq_true rfl) rfl ?_
  unfold f_X3_won at h
  refine zJ_iload_n dX3_won_0 rfl rfl ?_
  refine zJ_if_lt (tgt := 21) dX3_won_1 (by decide) rfl (fun hc => ?_) (fun hc => ?_)
  · replace h := it_t hc h
    refine zJ_lconst dX3_won_21 zl_0 rfl ?_
    obtain rfl := so1 h
    exact zJ_lret dX3_won_22 rfl
  · replace h := it_f hc h
    refine zJ_iload_n dX3_won_4 rfl rfl ?_
    refine zJ_aload_n dX3_won_5 rfl rfl ?_
    refine zJ_geti (mi := mX3_won) (x := play_players) dX3_won_6 F_X3_43 zW_39 rfl rfl rfl ?_
    refine zJ_icmp_ge (tgt := 21) dX3_won_9 (by decide) rfl (fun hc => ?_) (fun hc => ?_)
    · replace h := it_t hc h
      refine zJ_lconst dX3_won_21 zl_0 rfl ?_
      obtain rfl := so1 h
      exact zJ_lret dX3_won_22 rfl
    · replace h := it_f hc h
      refine zJ_aload_n dX3_won_12 rfl rfl ?_
      refine zJ_getr (mi := mX3_won) dX3_won_13 F_X3_30 zW_39 rfl rfl ?_
      refine zJ_iload_n dX3_won_16 rfl rfl ?_
      obtain ⟨hg, h⟩ := gd_some h
      refine zJ_lald (mi := mX3_won) (f := play_worth) dX3_won_17 zW_46 (ix_in hg) rfl rfl ?_
      refine zJ_goto (tgt := 22) dX3_won_18 (by decide) ?_
      obtain rfl := so1 h
      exact zJ_lret dX3_won_22 rfl
set_option maxRecDepth 100000 in
set_option maxHeartbeats 4000000 in
theorem t_X6_common (l : Launch) (σ : zS) {p0 : Int64} {p2 : Int64} {r : Int64} (h : f_X6_common p0 p2 = some r) : zMt l zW 0 mX6_common σ ([], [], []) [.long p0, .long p2] (some (.long r)) ([], [], []) := by
  refine zMt_of (ls := [(0, .long p0), (2, .long p2)]) (by decide) rfl (fun _ => Nat.le_of_ble_eq_true rfl) rfl ?_
  unfold f_X6_common at h
  refine zJ_lload_n dX6_common_0 rfl rfl ?_
  refine zJ_lstore (ls' := [(4, .long p0), (0, .long p0), (2, .long p2)]) dX6_common_1 rfl rfl rfl ?_
  refine zJ_lload_n dX6_common_3 rfl rfl ?_
  refine zJ_lstore (ls' := [(6, .long p2), (4, .long p0), (0, .long p0), (2, .long p2)]) dX6_common_4 rfl rfl rfl ?_
  refine zJ_iconst dX6_common_6 zc_0 rfl ?_
  refine zJ_istore (ls' := [(8, .int (0 : Int32)), (6, .long p2), (4, .long p0), (0, .long p0), (2, .long p2)]) dX6_common_7 rfl rfl rfl ?_
  have hk9 : ∀ (v4_9x : Int64), k_X6_common_9  v4_9x = some r → zJ l zW 0 mX6_common σ ([], [], []) 45 [(4, .long v4_9x)] [] (some (.long r)) ([], [], []) := by
    intro v4_9x h
    unfold k_X6_common_9 at h
    refine zJ_lload dX6_common_45 rfl rfl ?_
    obtain rfl := so1 h
    exact zJ_lret dX6_common_47 rfl
  refine zJ_loc (ls' := [(4, .long p0), (6, .long p2), (8, .int (0 : Int32))]) (zll_c rfl (zll_c rfl (zll_c rfl zll_n))) ?_
  refine ml3_J (fun (v4_9 : Int64) (v6_9 : Int64) (v8_9 : Int32) => zJ l zW 0 mX6_common σ ([], [], []) 9 [(4, .long v4_9), (6, .long v6_9), (8, .int v8_9)] [] (some (.long r)) ([], [], [])) (fun rc9 hrc9 v4_9 v6_9 v8_9 h => ?_) zN _ _ _ h
  unfold s_X6_common_9 at h
  refine zJ_iload dX6_common_9 rfl rfl ?_
  refine zJ_sipush dX6_common_11 zs_200 rfl ?_
  refine zJ_icmp_ge (tgt := 45) dX6_common_14 (by decide) rfl (fun hc => ?_) (fun hc => ?_)
  · replace h := it_t hc h
    refine zJ_loc (ls' := [(4, .long v4_9)]) (zll_c rfl zll_n) ?_
    exact hk9 _ h
  · replace h := it_f hc h
    refine zJ_lload dX6_common_17 rfl rfl ?_
    refine zJ_lconst dX6_common_19 zl_0 rfl ?_
    refine zJ_lcmp dX6_common_20 rfl ?_
    refine zJ_if_eq (tgt := 45) dX6_common_21 (by decide) rfl (fun hc => ?_) (fun hc => ?_)
    · replace h := it_t hc h
      refine zJ_loc (ls' := [(4, .long v4_9)]) (zll_c rfl zll_n) ?_
      exact hk9 _ h
    · replace h := it_f hc h
      refine zJ_lload dX6_common_24 rfl rfl ?_
      refine zJ_lload dX6_common_26 rfl rfl ?_
      obtain ⟨hg, h⟩ := gd_some h
      refine zJ_lrem dX6_common_28 (nzl_ne hg) rfl ?_
      obtain ⟨v9n1, ev9n1, h⟩ := lt1_some h
      refine zJ_nml ev9n1 ?_
      refine zJ_lstore (ls' := [(9, .long v9n1), (4, .long v4_9), (6, .long v6_9), (8, .int v8_9)]) dX6_common_29 rfl rfl rfl ?_
      refine zJ_lload dX6_common_31 rfl rfl ?_
      refine zJ_lstore (ls' := [(4, .long v6_9), (9, .long v9n1), (6, .long v6_9), (8, .int v8_9)]) dX6_common_33 rfl rfl rfl ?_
      refine zJ_lload dX6_common_35 rfl rfl ?_
      refine zJ_lstore (ls' := [(6, .long v9n1), (4, .long v6_9), (9, .long v9n1), (8, .int v8_9)]) dX6_common_37 rfl rfl rfl ?_
      obtain ⟨v8n2, ev8n2, h⟩ := lt1_some h
      refine zJ_iincN (ls' := [(8, .int v8n2), (6, .long v9n1), (4, .long v6_9), (9, .long v9n1)]) dX6_common_39 rfl rfl zc_1 ev8n2 rfl rfl ?_
      refine zJ_goto (tgt := 9) dX6_common_42 (by decide) ?_
      refine zJ_loc (ls' := [(4, .long v6_9), (6, .long v9n1), (8, .int v8n2)]) (zll_c rfl (zll_c rfl (zll_c rfl zll_n))) ?_
      exact hrc9 _ _ _ h
set_option maxRecDepth 100000 in
set_option maxHeartbeats 4000000 in
theorem t_X6_putFraction (l : Launch) (σ : zS) {p1 : Int64} {p3 : Int64} {numbers_size : Int32} {numbers_told : (Nat → Int64)} {w_numbers_size : Int32} {w_numbers_told : (Nat → Int64)} (h : f_X6_putFraction p1 p3 numbers_size numbers_told = some (w_numbers_size, w_numbers_told)) : zMt l zW 1 mX6_putFraction σ ([(193, numbers_size)], [], [(4, numbers_told)]) [.ref 3, .long p1, .long p3] none ([(193, w_numbers_size)], [], [(4, w_numbers_told)]) := by
  refine zMt_of (ls := [(0, .ref 3), (1, .long p1), (3, .long p3)]) (by decide) rfl (fun _ => Nat.le_of_ble_eq_true rfl) rfl ?_
  unfold f_X6_putFraction at h
  refine zJ_lload_n dX6_putFraction_0 rfl rfl ?_
  refine zJ_mabsl (mi := mX6_putFraction) dX6_putFraction_1 L_X6_19 K_absl_s K_math K_absl_c (Nat.le_of_ble_eq_true rfl) (Nat.le_of_ble_eq_true rfl) rfl ?_
  refine zJ_lload_n dX6_putFraction_4 rfl rfl ?_
  obtain ⟨rn1, hcl, h⟩ := bd1_some h
  refine zJ_callS2 (σ := σ) (L := ([(193, numbers_size)], [], [(4, numbers_told)])) (mi := mX6_putFraction) (yi := mX6_common) (as := [.long (if 0 < p1 then p1 else -p1), .long p3]) (st := []) (L2 := ([(193, numbers_size)], [], [(4, numbers_told)])) dX6_putFraction_5 ML_X6_25 Ys_X6_common rfl (t_X6_common l _ hcl) (zsub_i zle_n zle_n zle_n) (zjok_i rfl rfl (zle_c rfl zle_n) rfl rfl zle_n rfl rfl (zle_c rfl zle_n)) (Nat.le_of_ble_eq_true rfl) (Nat.le_of_ble_eq_true rfl) rfl rfl ?_
  refine zJ_lstore (ls' := [(5, .long rn1), (0, .ref 3), (1, .long p1), (3, .long p3)]) dX6_putFraction_8 rfl rfl rfl ?_
  refine zJ_aload_n dX6_putFraction_10 rfl rfl ?_
  refine zJ_lload dX6_putFraction_11 rfl rfl ?_
  refine zJ_lconst dX6_putFraction_13 zl_0 rfl ?_
  refine zJ_lcmp dX6_putFraction_14 rfl ?_
  refine zJ_if_le (tgt := 25) dX6_putFraction_15 (by decide) rfl (fun hc => ?_) (fun hc => ?_)
  · replace h := it_t hc h
    refine zJ_lload_n dX6_putFraction_25 rfl rfl ?_
    obtain ⟨numbers_sizen2, numbers_toldn3, hcl, h⟩ := bd2_some h
    refine zJ_callV2 (σ := σ) (L := ([(193, numbers_size)], [], [(4, numbers_told)])) (mi := mX6_putFraction) (yi := mX6_put) (as := [.long p1]) (st := []) (L2 := ([(193, numbers_sizen2)], [], [(4, numbers_toldn3)])) dX6_putFraction_26 ML_X6_29 Yv_X6_put rfl zW_3 rfl rfl (t_X6_put l _ hcl) (zsub_i (zle_c rfl zle_n) zle_n (zle_c rfl zle_n)) (zjok_i rfl rfl (zle_c rfl zle_n) rfl rfl zle_n rfl rfl (zle_c rfl zle_n)) (Nat.le_of_ble_eq_true rfl) (Nat.le_of_ble_eq_true rfl) rfl rfl ?_
    refine zJ_aload_n dX6_putFraction_29 rfl rfl ?_
    refine zJ_lload dX6_putFraction_30 rfl rfl ?_
    refine zJ_lconst dX6_putFraction_32 zl_0 rfl ?_
    refine zJ_lcmp dX6_putFraction_33 rfl ?_
    refine zJ_if_le (tgt := 44) dX6_putFraction_34 (by decide) rfl (fun hc => ?_) (fun hc => ?_)
    · replace h := it_t hc h
      refine zJ_lload_n dX6_putFraction_44 rfl rfl ?_
      obtain ⟨numbers_sizen4, numbers_toldn5, hcl, h⟩ := bd2_some h
      refine zJ_callV2 (σ := σ) (L := ([(193, numbers_sizen2)], [], [(4, numbers_toldn3)])) (mi := mX6_putFraction) (yi := mX6_put) (as := [.long p3]) (st := []) (L2 := ([(193, numbers_sizen4)], [], [(4, numbers_toldn5)])) dX6_putFraction_45 ML_X6_29 Yv_X6_put rfl zW_3 rfl rfl (t_X6_put l _ hcl) (zsub_i (zle_c rfl zle_n) zle_n (zle_c rfl zle_n)) (zjok_i rfl rfl (zle_c rfl zle_n) rfl rfl zle_n rfl rfl (zle_c rfl zle_n)) (Nat.le_of_ble_eq_true rfl) (Nat.le_of_ble_eq_true rfl) rfl rfl ?_
      obtain ⟨rfl, rfl⟩ := so2 h
      exact zJ_vret dX6_putFraction_48 rfl
    · replace h := it_f hc h
      refine zJ_lload_n dX6_putFraction_37 rfl rfl ?_
      refine zJ_lload dX6_putFraction_38 rfl rfl ?_
      obtain ⟨hg, h⟩ := gd_some h
      refine zJ_ldiv dX6_putFraction_40 (nzl_ne hg) rfl ?_
      refine zJ_goto (tgt := 45) dX6_putFraction_41 (by decide) ?_
      obtain ⟨numbers_sizen6, numbers_toldn7, hcl, h⟩ := bd2_some h
      refine zJ_callV2 (σ := σ) (L := ([(193, numbers_sizen2)], [], [(4, numbers_toldn3)])) (mi := mX6_putFraction) (yi := mX6_put) (as := [.long (p3 / rn1)]) (st := []) (L2 := ([(193, numbers_sizen6)], [], [(4, numbers_toldn7)])) dX6_putFraction_45 ML_X6_29 Yv_X6_put rfl zW_3 rfl rfl (t_X6_put l _ hcl) (zsub_i (zle_c rfl zle_n) zle_n (zle_c rfl zle_n)) (zjok_i rfl rfl (zle_c rfl zle_n) rfl rfl zle_n rfl rfl (zle_c rfl zle_n)) (Nat.le_of_ble_eq_true rfl) (Nat.le_of_ble_eq_true rfl) rfl rfl ?_
      obtain ⟨rfl, rfl⟩ := so2 h
      exact zJ_vret dX6_putFraction_48 rfl
  · replace h := it_f hc h
    refine zJ_lload_n dX6_putFraction_18 rfl rfl ?_
    refine zJ_lload dX6_putFraction_19 rfl rfl ?_
    obtain ⟨hg, h⟩ := gd_some h
    refine zJ_ldiv dX6_putFraction_21 (nzl_ne hg) rfl ?_
    refine zJ_goto (tgt := 26) dX6_putFraction_22 (by decide) ?_
    obtain ⟨numbers_sizen8, numbers_toldn9, hcl, h⟩ := bd2_some h
    refine zJ_callV2 (σ := σ) (L := ([(193, numbers_size)], [], [(4, numbers_told)])) (mi := mX6_putFraction) (yi := mX6_put) (as := [.long (p1 / rn1)]) (st := []) (L2 := ([(193, numbers_sizen8)], [], [(4, numbers_toldn9)])) dX6_putFraction_26 ML_X6_29 Yv_X6_put rfl zW_3 rfl rfl (t_X6_put l _ hcl) (zsub_i (zle_c rfl zle_n) zle_n (zle_c rfl zle_n)) (zjok_i rfl rfl (zle_c rfl zle_n) rfl rfl zle_n rfl rfl (zle_c rfl zle_n)) (Nat.le_of_ble_eq_true rfl) (Nat.le_of_ble_eq_true rfl) rfl rfl ?_
    refine zJ_aload_n dX6_putFraction_29 rfl rfl ?_
    refine zJ_lload dX6_putFraction_30 rfl rfl ?_
    refine zJ_lconst dX6_putFraction_32 zl_0 rfl ?_
    refine zJ_lcmp dX6_putFraction_33 rfl ?_
    refine zJ_if_le (tgt := 44) dX6_putFraction_34 (by decide) rfl (fun hc => ?_) (fun hc => ?_)
    · replace h := it_t hc h
      refine zJ_lload_n dX6_putFraction_44 rfl rfl ?_
      obtain ⟨numbers_sizen10, numbers_toldn11, hcl, h⟩ := bd2_some h
      refine zJ_callV2 (σ := σ) (L := ([(193, numbers_sizen8)], [], [(4, numbers_toldn9)])) (mi := mX6_putFraction) (yi := mX6_put) (as := [.long p3]) (st := []) (L2 := ([(193, numbers_sizen10)], [], [(4, numbers_toldn11)])) dX6_putFraction_45 ML_X6_29 Yv_X6_put rfl zW_3 rfl rfl (t_X6_put l _ hcl) (zsub_i (zle_c rfl zle_n) zle_n (zle_c rfl zle_n)) (zjok_i rfl rfl (zle_c rfl zle_n) rfl rfl zle_n rfl rfl (zle_c rfl zle_n)) (Nat.le_of_ble_eq_true rfl) (Nat.le_of_ble_eq_true rfl) rfl rfl ?_
      obtain ⟨rfl, rfl⟩ := so2 h
      exact zJ_vret dX6_putFraction_48 rfl
    · replace h := it_f hc h
      refine zJ_lload_n dX6_putFraction_37 rfl rfl ?_
      refine zJ_lload dX6_putFraction_38 rfl rfl ?_
      obtain ⟨hg, h⟩ := gd_some h
      refine zJ_ldiv dX6_putFraction_40 (nzl_ne hg) rfl ?_
      refine zJ_goto (tgt := 45) dX6_putFraction_41 (by decide) ?_
      obtain ⟨numbers_sizen12, numbers_toldn13, hcl, h⟩ := bd2_some h
      refine zJ_callV2 (σ := σ) (L := ([(193, numbers_sizen8)], [], [(4, numbers_toldn9)])) (mi := mX6_putFraction) (yi := mX6_put) (as := [.long (p3 / rn1)]) (st := []) (L2 := ([(193, numbers_sizen12)], [], [(4, numbers_toldn13)])) dX6_putFraction_45 ML_X6_29 Yv_X6_put rfl zW_3 rfl rfl (t_X6_put l _ hcl) (zsub_i (zle_c rfl zle_n) zle_n (zle_c rfl zle_n)) (zjok_i rfl rfl (zle_c rfl zle_n) rfl rfl zle_n rfl rfl (zle_c rfl zle_n)) (Nat.le_of_ble_eq_true rfl) (Nat.le_of_ble_eq_true rfl) rfl rfl ?_
      obtain ⟨rfl, rfl⟩ := so2 h
      exact zJ_vret dX6_putFraction_48 rfl
set_option maxRecDepth 100000 in
set_option maxHeartbeats 4000000 in
theorem t_X11_game (l : Launch) (σ : zS) {text_size : Int32} {text_limit : Int32} {text_at : Int32} {numbers_size : Int32} {course_fences : Int32} {course_horseCount : Int32} {course_planCount : Int32} {course_allowed : Int32} {course_rule_size : Int32} {rounds_size : Int32} {play_players : Int32} {play_plans : Int32} {play_firstPlan : Int32} {text_signs : (Nat → Int32)} {course_kinds : (Nat → Int32)} {course_heights : (Nat → Int32)} {course_feet : (Nat → Int32)} {course_digits : (Nat → Int32)} {course_plans : (Nat → Int32)} {rule_codes : (Nat → Int32)} {rule_stack : (Nat → Int32)} {rule_things : (Nat → Int32)} {rounds_faults : (Nat → Int32)} {rounds_tenths : (Nat → Int32)} {rounds_money : (Nat → Int32)} {play_named : (Nat → Int32)} {play_faults : (Nat → Int32)} {play_tenths : (Nat → Int32)} {play_places : (Nat → Int32)} {play_clears : (Nat → Int32)} {play_ends : (Nat → Int32)} {numbers_told : (Nat → Int64)} {play_worth : (Nat → Int64)} {play_trial : (Nat → Int64)} {r : Int32} {w_text_size : Int32} {w_text_limit : Int32} {w_text_at : Int32} {w_numbers_size : Int32} {w_play_players : Int32} {w_play_plans : Int32} {w_play_firstPlan : Int32} {w_rule_stack : (Nat → Int32)} {w_rule_things : (Nat → Int32)} {w_play_named : (Nat → Int32)} {w_play_faults : (Nat → Int32)} {w_play_tenths : (Nat → Int32)} {w_play_places : (Nat → Int32)} {w_play_clears : (Nat → Int32)} {w_play_ends : (Nat → Int32)} {w_numbers_told : (Nat → Int64)} {w_play_worth : (Nat → Int64)} {w_play_trial : (Nat → Int64)} (h : f_X11_game text_size text_limit text_at numbers_size course_fences course_horseCount course_planCount course_allowed course_rule_size rounds_size play_players play_plans play_firstPlan text_signs course_kinds course_heights course_feet course_digits course_plans rule_codes rule_stack rule_things rounds_faults rounds_tenths rounds_money play_named play_faults play_tenths play_places play_clears play_ends numbers_told play_worth play_trial = some (r, w_text_size, w_text_limit, w_text_at, w_numbers_size, w_play_players, w_play_plans, w_play_firstPlan, w_rule_stack, w_rule_things, w_play_named, w_play_faults, w_play_tenths, w_play_places, w_play_clears, w_play_ends, w_numbers_told, w_play_worth, w_play_trial)) : zMt l zW 204 mX11_game σ ([(65, text_size), (66, text_limit), (67, text_at), (193, numbers_size), (323, course_fences), (326, course_horseCount), (328, course_planCount), (329, course_allowed), (769, course_rule_size), (1284, rounds_size), (2497, play_players), (2498, play_plans), (2499, play_firstPlan)], [(2, text_signs), (6, course_kinds), (7, course_heights), (8, course_feet), (10, course_digits), (11, course_plans), (13, rule_codes), (15, rule_stack), (16, rule_things), (23, rounds_faults), (24, rounds_tenths), (25, rounds_money), (40, play_named), (41, play_faults), (42, play_tenths), (43, play_places), (44, play_clears), (45, play_ends)], [(4, numbers_told), (46, play_worth), (47, play_trial)]) [.ref 0] (some (.int r)) ([(65, w_text_size), (66, w_text_limit), (67, w_text_at), (193, w_numbers_size), (323, course_fences), (326, course_horseCount), (328, course_planCount), (329, course_allowed), (769, course_rule_size), (1284, rounds_size), (2497, w_play_players), (2498, w_play_plans), (2499, w_play_firstPlan)], [(2, text_signs), (6, course_kinds), (7, course_heights), (8, course_feet), (10, course_digits), (11, course_plans), (13, rule_codes), (15, w_rule_stack), (16, w_rule_things), (23, rounds_faults), (24, rounds_tenths), (25, rounds_money), (40, w_play_named), (41, w_play_faults), (42, w_play_tenths), (43, w_play_places), (44, w_play_clears), (45, w_play_ends)], [(4, w_numbers_told), (46, w_play_worth), (47, w_play_trial)]) := by
  refine zMt_of (ls := [(0, .ref 0)]) (by decide) rfl (fun _ => Nat.le_of_ble_eq_true rfl) rfl ?_
  unfold f_X11_game at h
  refine zJ_aload_n dX11_game_0 rfl rfl ?_
  refine zJ_iconst dX11_game_1 zc_1 rfl ?_
  refine zJ_iconst dX11_game_2 zc_3 rfl ?_
  obtain ⟨rn1, text_sizen2, text_limitn3, text_atn4, play_playersn5, play_namedn6, hcl, h⟩ := bd6_some h
  refine zJ_callV2 (σ := σ) (L := ([(65, text_size), (66, text_limit), (67, text_at), (193, numbers_size), (323, course_fences), (326, course_horseCount), (328, course_planCount), (329, course_allowed), (769, course_rule_size), (1284, rounds_size), (2497, play_players), (2498, play_plans), (2499, play_firstPlan)], [(2, text_signs), (6, course_kinds), (7, course_heights), (8, course_feet), (10, course_digits), (11, course_plans), (13, rule_codes), (15, rule_stack), (16, rule_things), (23, rounds_faults), (24, rounds_tenths), (25, rounds_money), (40, play_named), (41, play_faults), (42, play_tenths), (43, play_places), (44, play_clears), (45, play_ends)], [(4, numbers_told), (46, play_worth), (47, play_trial)])) (mi := mX11_game) (yi := mX11_readPlayers) (as := [.int (1 : Int32), .int (3 : Int32)]) (st := []) (L2 := ([(65, text_sizen2), (66, text_limitn3), (67, text_atn4), (193, numbers_size), (323, course_fences), (326, course_horseCount), (328, course_planCount), (329, course_allowed), (769, course_rule_size), (1284, rounds_size), (2497, play_playersn5), (2498, play_plans), (2499, play_firstPlan)], [(2, text_signs), (6, course_kinds), (7, course_heights), (8, course_feet), (10, course_digits), (11, course_plans), (13, rule_codes), (15, rule_stack), (16, rule_things), (23, rounds_faults), (24, rounds_tenths), (25, rounds_money), (40, play_namedn6), (41, play_faults), (42, play_tenths), (43, play_places), (44, play_clears), (45, play_ends)], [(4, numbers_told), (46, play_worth), (47, play_trial)])) dX11_game_3 ML_X11_371 Yv_X11_readPlayers rfl zW_0 rfl rfl (t_X11_readPlayers l _ hcl) (zsub_i (zle_c rfl (zle_c rfl (zle_c rfl (zle_c rfl (zle_c rfl (zle_c rfl zle_n)))))) (zle_c rfl (zle_c rfl zle_n)) zle_n) (zjok_i rfl rfl (zle_c rfl (zle_c rfl (zle_c rfl (zle_c rfl (zle_c rfl (zle_c rfl (zle_c rfl (zle_c rfl (zle_c rfl (zle_c rfl (zle_c rfl (zle_c rfl (zle_c rfl zle_n))))))))))))) rfl rfl (zle_c rfl (zle_c rfl (zle_c rfl (zle_c rfl (zle_c rfl (zle_c rfl (zle_c rfl (zle_c rfl (zle_c rfl (zle_c rfl (zle_c rfl (zle_c rfl (zle_c rfl (zle_c rfl (zle_c rfl (zle_c rfl (zle_c rfl (zle_c rfl zle_n)))))))))))))))))) rfl rfl (zle_c rfl (zle_c rfl (zle_c rfl zle_n)))) (Nat.le_of_ble_eq_true rfl) (Nat.le_of_ble_eq_true rfl) rfl rfl ?_
  refine zJ_istore_n (ls' := [(1, .int rn1), (0, .ref 0)]) dX11_game_6 rfl rfl rfl ?_
  refine zJ_iload_n dX11_game_7 rfl rfl ?_
  refine zJ_if_ge (tgt := 13) dX11_game_8 (by decide) rfl (fun hc => ?_) (fun hc => ?_)
  · replace h := it_t hc h
    refine zJ_aload_n dX11_game_13 rfl rfl ?_
    refine zJ_getr (mi := mX11_game) dX11_game_14 F_X11_66 zW_0 rfl rfl ?_
    refine zJ_aload_n dX11_game_17 rfl rfl ?_
    refine zJ_getr (mi := mX11_game) dX11_game_18 F_X11_26 zW_0 rfl rfl ?_
    refine zJ_aload_n dX11_game_21 rfl rfl ?_
    refine zJ_getr (mi := mX11_game) dX11_game_22 F_X11_33 zW_0 rfl rfl ?_
    obtain ⟨play_plansn7, play_faultsn8, play_tenthsn9, play_placesn10, hcl, h⟩ := bd4_some h
    refine zJ_callV2 (σ := σ) (L := ([(65, text_sizen2), (66, text_limitn3), (67, text_atn4), (193, numbers_size), (323, course_fences), (326, course_horseCount), (328, course_planCount), (329, course_allowed), (769, course_rule_size), (1284, rounds_size), (2497, play_playersn5), (2498, play_plans), (2499, play_firstPlan)], [(2, text_signs), (6, course_kinds), (7, course_heights), (8, course_feet), (10, course_digits), (11, course_plans), (13, rule_codes), (15, rule_stack), (16, rule_things), (23, rounds_faults), (24, rounds_tenths), (25, rounds_money), (40, play_namedn6), (41, play_faults), (42, play_tenths), (43, play_places), (44, play_clears), (45, play_ends)], [(4, numbers_told), (46, play_worth), (47, play_trial)])) (mi := mX11_game) (yi := mX3_begin) (as := [.ref 5, .ref 20]) (st := []) (L2 := ([(65, text_sizen2), (66, text_limitn3), (67, text_atn4), (193, numbers_size), (323, course_fences), (326, course_horseCount), (328, course_planCount), (329, course_allowed), (769, course_rule_size), (1284, rounds_size), (2497, play_playersn5), (2498, play_plansn7), (2499, play_firstPlan)], [(2, text_signs), (6, course_kinds), (7, course_heights), (8, course_feet), (10, course_digits), (11, course_plans), (13, rule_codes), (15, rule_stack), (16, rule_things), (23, rounds_faults), (24, rounds_tenths), (25, rounds_money), (40, play_namedn6), (41, play_faultsn8), (42, play_tenthsn9), (43, play_placesn10), (44, play_clears), (45, play_ends)], [(4, numbers_told), (46, play_worth), (47, play_trial)])) dX11_game_25 ML_X11_374 Yv_X3_begin rfl zW_39 rfl rfl (t_X3_begin l _ hcl) (zsub_i (zle_c rfl (zle_c rfl (zle_c rfl (zle_c rfl (zle_c rfl zle_n))))) (zle_c rfl (zle_c rfl (zle_c rfl (zle_c rfl (zle_c rfl (zle_c rfl (zle_c rfl (zle_c rfl zle_n)))))))) zle_n) (zjok_i rfl rfl (zle_c rfl (zle_c rfl (zle_c rfl (zle_c rfl (zle_c rfl (zle_c rfl (zle_c rfl (zle_c rfl (zle_c rfl (zle_c rfl (zle_c rfl (zle_c rfl (zle_c rfl zle_n))))))))))))) rfl rfl (zle_c rfl (zle_c rfl (zle_c rfl (zle_c rfl (zle_c rfl (zle_c rfl (zle_c rfl (zle_c rfl (zle_c rfl (zle_c rfl (zle_c rfl (zle_c rfl (zle_c rfl (zle_c rfl (zle_c rfl (zle_c rfl (zle_c rfl (zle_c rfl zle_n)))))))))))))))))) rfl rfl (zle_c rfl (zle_c rfl (zle_c rfl zle_n)))) (Nat.le_of_ble_eq_true rfl) (Nat.le_of_ble_eq_true rfl) rfl rfl ?_
    refine zJ_aload_n dX11_game_28 rfl rfl ?_
    refine zJ_getr (mi := mX11_game) dX11_game_29 F_X11_66 zW_0 rfl rfl ?_
    refine zJ_aload_n dX11_game_32 rfl rfl ?_
    refine zJ_getr (mi := mX11_game) dX11_game_33 F_X11_26 zW_0 rfl rfl ?_
    refine zJ_aload_n dX11_game_36 rfl rfl ?_
    refine zJ_getr (mi := mX11_game) dX11_game_37 F_X11_33 zW_0 rfl rfl ?_
    refine zJ_iconst dX11_game_40 zc_0 rfl ?_
    obtain ⟨play_firstPlann11, rule_stackn12, rule_thingsn13, play_clearsn14, play_endsn15, play_worthn16, play_trialn17, hcl, h⟩ := bd7_some h
    refine zJ_callV2 (σ := σ) (L := ([(65, text_sizen2), (66, text_limitn3), (67, text_atn4), (193, numbers_size), (323, course_fences), (326, course_horseCount), (328, course_planCount), (329, course_allowed), (769, course_rule_size), (1284, rounds_size), (2497, play_playersn5), (2498, play_plansn7), (2499, play_firstPlan)], [(2, text_signs), (6, course_kinds), (7, course_heights), (8, course_feet), (10, course_digits), (11, course_plans), (13, rule_codes), (15, rule_stack), (16, rule_things), (23, rounds_faults), (24, rounds_tenths), (25, rounds_money), (40, play_namedn6), (41, play_faultsn8), (42, play_tenthsn9), (43, play_placesn10), (44, play_clears), (45, play_ends)], [(4, numbers_told), (46, play_worth), (47, play_trial)])) (mi := mX11_game) (yi := mX3_start) (as := [.ref 5, .ref 20, .int (0 : Int32)]) (st := []) (L2 := ([(65, text_sizen2), (66, text_limitn3), (67, text_atn4), (193, numbers_size), (323, course_fences), (326, course_horseCount), (328, course_planCount), (329, course_allowed), (769, course_rule_size), (1284, rounds_size), (2497, play_playersn5), (2498, play_plansn7), (2499, play_firstPlann11)], [(2, text_signs), (6, course_kinds), (7, course_heights), (8, course_feet), (10, course_digits), (11, course_plans), (13, rule_codes), (15, rule_stackn12), (16, rule_thingsn13), (23, rounds_faults), (24, rounds_tenths), (25, rounds_money), (40, play_namedn6), (41, play_faultsn8), (42, play_tenthsn9), (43, play_placesn10), (44, play_clearsn14), (45, play_endsn15)], [(4, numbers_told), (46, play_worthn16), (47, play_trialn17)])) dX11_game_41 ML_X11_378 Yv_X3_start rfl zW_39 rfl rfl (t_X3_start l _ hcl) (zsub_i (zle_c rfl (zle_c rfl (zle_c rfl (zle_c rfl (zle_c rfl zle_n))))) (zle_c rfl (zle_c rfl (zle_c rfl (zle_c rfl (zle_c rfl (zle_c rfl (zle_c rfl (zle_c rfl (zle_c rfl (zle_c rfl (zle_c rfl (zle_c rfl (zle_c rfl (zle_c rfl (zle_c rfl zle_n))))))))))))))) (zle_c rfl (zle_c rfl zle_n))) (zjok_i rfl rfl (zle_c rfl (zle_c rfl (zle_c rfl (zle_c rfl (zle_c rfl (zle_c rfl (zle_c rfl (zle_c rfl (zle_c rfl (zle_c rfl (zle_c rfl (zle_c rfl (zle_c rfl zle_n))))))))))))) rfl rfl (zle_c rfl (zle_c rfl (zle_c rfl (zle_c rfl (zle_c rfl (zle_c rfl (zle_c rfl (zle_c rfl (zle_c rfl (zle_c rfl (zle_c rfl (zle_c rfl (zle_c rfl (zle_c rfl (zle_c rfl (zle_c rfl (zle_c rfl (zle_c rfl zle_n)))))))))))))))))) rfl rfl (zle_c rfl (zle_c rfl (zle_c rfl zle_n)))) (Nat.le_of_ble_eq_true rfl) (Nat.le_of_ble_eq_true rfl) rfl rfl ?_
    refine zJ_aload_n dX11_game_44 rfl rfl ?_
    refine zJ_getr (mi := mX11_game) dX11_game_45 F_X11_19 zW_0 rfl rfl ?_
    obtain ⟨numbers_sizen18, hcl, h⟩ := bd1_some h
    refine zJ_callV2 (σ := σ) (L := ([(65, text_sizen2), (66, text_limitn3), (67, text_atn4), (193, numbers_size), (323, course_fences), (326, course_horseCount), (328, course_planCount), (329, course_allowed), (769, course_rule_size), (1284, rounds_size), (2497, play_playersn5), (2498, play_plansn7), (2499, play_firstPlann11)], [(2, text_signs), (6, course_kinds), (7, course_heights), (8, course_feet), (10, course_digits), (11, course_plans), (13, rule_codes), (15, rule_stackn12), (16, rule_thingsn13), (23, rounds_faults), (24, rounds_tenths), (25, rounds_money), (40, play_namedn6), (41, play_faultsn8), (42, play_tenthsn9), (43, play_placesn10), (44, play_clearsn14), (45, play_endsn15)], [(4, numbers_told), (46, play_worthn16), (47, play_trialn17)])) (mi := mX11_game) (yi := mX6_start) (as := []) (st := []) (L2 := ([(65, text_sizen2), (66, text_limitn3), (67, text_atn4), (193, numbers_sizen18), (323, course_fences), (326, course_horseCount), (328, course_planCount), (329, course_allowed), (769, course_rule_size), (1284, rounds_size), (2497, play_playersn5), (2498, play_plansn7), (2499, play_firstPlann11)], [(2, text_signs), (6, course_kinds), (7, course_heights), (8, course_feet), (10, course_digits), (11, course_plans), (13, rule_codes), (15, rule_stackn12), (16, rule_thingsn13), (23, rounds_faults), (24, rounds_tenths), (25, rounds_money), (40, play_namedn6), (41, play_faultsn8), (42, play_tenthsn9), (43, play_placesn10), (44, play_clearsn14), (45, play_endsn15)], [(4, numbers_told), (46, play_worthn16), (47, play_trialn17)])) dX11_game_48 ML_X11_171 Yv_X6_start rfl zW_3 rfl rfl (t_X6_start l _ hcl) (zsub_i (zle_c rfl zle_n) zle_n zle_n) (zjok_i rfl rfl (zle_c rfl (zle_c rfl (zle_c rfl (zle_c rfl (zle_c rfl (zle_c rfl (zle_c rfl (zle_c rfl (zle_c rfl (zle_c rfl (zle_c rfl (zle_c rfl (zle_c rfl zle_n))))))))))))) rfl rfl (zle_c rfl (zle_c rfl (zle_c rfl (zle_c rfl (zle_c rfl (zle_c rfl (zle_c rfl (zle_c rfl (zle_c rfl (zle_c rfl (zle_c rfl (zle_c rfl (zle_c rfl (zle_c rfl (zle_c rfl (zle_c rfl (zle_c rfl (zle_c rfl zle_n)))))))))))))))))) rfl rfl (zle_c rfl (zle_c rfl (zle_c rfl zle_n)))) (Nat.le_of_ble_eq_true rfl) (Nat.le_of_ble_eq_true rfl) rfl rfl ?_
    refine zJ_iconst dX11_game_51 zc_0 rfl ?_
    refine zJ_istore_n (ls' := [(2, .int (0 : Int32)), (1, .int rn1), (0, .ref 0)]) dX11_game_52 rfl rfl rfl ?_
    have hk53 : ∀ (numbers_size_53x : Int32) (numbers_told_53x : (Nat → Int64)), k_X11_game_53 text_sizen2 text_limitn3 text_atn4 play_playersn5 play_namedn6 play_plansn7 play_faultsn8 play_tenthsn9 play_placesn10 play_firstPlann11 rule_stackn12 rule_thingsn13 play_clearsn14 play_endsn15 play_worthn16 play_trialn17 numbers_size_53x numbers_told_53x = some (r, w_text_size, w_text_limit, w_text_at, w_numbers_size, w_play_players, w_play_plans, w_play_firstPlan, w_rule_stack, w_rule_things, w_play_named, w_play_faults, w_play_tenths, w_play_places, w_play_clears, w_play_ends, w_numbers_told, w_play_worth, w_play_trial) → zJ l zW 204 mX11_game σ ([(65, text_sizen2), (66, text_limitn3), (67, text_atn4), (193, numbers_size_53x), (323, course_fences), (326, course_horseCount), (328, course_planCount), (329, course_allowed), (769, course_rule_size), (1284, rounds_size), (2497, play_playersn5), (2498, play_plansn7), (2499, play_firstPlann11)], [(2, text_signs), (6, course_kinds), (7, course_heights), (8, course_feet), (10, course_digits), (11, course_plans), (13, rule_codes), (15, rule_stackn12), (16, rule_thingsn13), (23, rounds_faults), (24, rounds_tenths), (25, rounds_money), (40, play_namedn6), (41, play_faultsn8), (42, play_tenthsn9), (43, play_placesn10), (44, play_clearsn14), (45, play_endsn15)], [(4, numbers_told_53x), (46, play_worthn16), (47, play_trialn17)]) 92 [(0, .ref 0)] [] (some (.int r)) ([(65, w_text_size), (66, w_text_limit), (67, w_text_at), (193, w_numbers_size), (323, course_fences), (326, course_horseCount), (328, course_planCount), (329, course_allowed), (769, course_rule_size), (1284, rounds_size), (2497, w_play_players), (2498, w_play_plans), (2499, w_play_firstPlan)], [(2, text_signs), (6, course_kinds), (7, course_heights), (8, course_feet), (10, course_digits), (11, course_plans), (13, rule_codes), (15, w_rule_stack), (16, w_rule_things), (23, rounds_faults), (24, rounds_tenths), (25, rounds_money), (40, w_play_named), (41, w_play_faults), (42, w_play_tenths), (43, w_play_places), (44, w_play_clears), (45, w_play_ends)], [(4, w_numbers_told), (46, w_play_worth), (47, w_play_trial)]) := by
      intro numbers_size_53x numbers_told_53x h
      unfold k_X11_game_53 at h
      refine zJ_aload_n dX11_game_92 rfl rfl ?_
      refine zJ_getr (mi := mX11_game) dX11_game_93 F_X11_66 zW_0 rfl rfl ?_
      refine zJ_geti (mi := mX11_game) (x := play_firstPlann11) dX11_game_96 F_X11_396 zW_39 rfl rfl rfl ?_
      obtain ⟨rfl, rfl, rfl, rfl, rfl, rfl, rfl, rfl, rfl, rfl, rfl, rfl, rfl, rfl, rfl, rfl, rfl, rfl, rfl⟩ := so19 h
      exact zJ_iret dX11_game_99 rfl rfl
    refine zJ_loc (ls' := [(0, .ref 0), (2, .int (0 : Int32))]) (zll_c rfl (zll_c rfl zll_n)) ?_
    refine ml3_J (fun (v2_53 : Int32) (numbers_size_53 : Int32) (numbers_told_53 : (Nat → Int64)) => zJ l zW 204 mX11_game σ ([(65, text_sizen2), (66, text_limitn3), (67, text_atn4), (193, numbers_size_53), (323, course_fences), (326, course_horseCount), (328, course_planCount), (329, course_allowed), (769, course_rule_size), (1284, rounds_size), (2497, play_playersn5), (2498, play_plansn7), (2499, play_firstPlann11)], [(2, text_signs), (6, course_kinds), (7, course_heights), (8, course_feet), (10, course_digits), (11, course_plans), (13, rule_codes), (15, rule_stackn12), (16, rule_thingsn13), (23, rounds_faults), (24, rounds_tenths), (25, rounds_money), (40, play_namedn6), (41, play_faultsn8), (42, play_tenthsn9), (43, play_placesn10), (44, play_clearsn14), (45, play_endsn15)], [(4, numbers_told_53), (46, play_worthn16), (47, play_trialn17)]) 53 [(0, .ref 0), (2, .int v2_53)] [] (some (.int r)) ([(65, w_text_size), (66, w_text_limit), (67, w_text_at), (193, w_numbers_size), (323, course_fences), (326, course_horseCount), (328, course_planCount), (329, course_allowed), (769, course_rule_size), (1284, rounds_size), (2497, w_play_players), (2498, w_play_plans), (2499, w_play_firstPlan)], [(2, text_signs), (6, course_kinds), (7, course_heights), (8, course_feet), (10, course_digits), (11, course_plans), (13, rule_codes), (15, w_rule_stack), (16, w_rule_things), (23, rounds_faults), (24, rounds_tenths), (25, rounds_money), (40, w_play_named), (41, w_play_faults), (42, w_play_tenths), (43, w_play_places), (44, w_play_clears), (45, w_play_ends)], [(4, w_numbers_told), (46, w_play_worth), (47, w_play_trial)])) (fun rc53 hrc53 v2_53 numbers_size_53 numbers_told_53 h => ?_) zN _ _ _ h
    unfold s_X11_game_53 at h
    refine zJ_iload_n dX11_game_53 rfl rfl ?_
    refine zJ_aload_n dX11_game_54 rfl rfl ?_
    refine zJ_getr (mi := mX11_game) dX11_game_55 F_X11_66 zW_0 rfl rfl ?_
    refine zJ_geti (mi := mX11_game) (x := play_playersn5) dX11_game_58 F_X11_381 zW_39 rfl rfl rfl ?_
    refine zJ_icmp_ge (tgt := 92) dX11_game_61 (by decide) rfl (fun hc => ?_) (fun hc => ?_)
    · replace h := it_t hc h
      refine zJ_loc (ls' := [(0, .ref 0)]) (zll_c rfl zll_n) ?_
      exact hk53 _ _ h
    · replace h := it_f hc h
      refine zJ_aload_n dX11_game_64 rfl rfl ?_
      refine zJ_getr (mi := mX11_game) dX11_game_65 F_X11_19 zW_0 rfl rfl ?_
      refine zJ_aload_n dX11_game_68 rfl rfl ?_
      refine zJ_getr (mi := mX11_game) dX11_game_69 F_X11_66 zW_0 rfl rfl ?_
      refine zJ_iload_n dX11_game_72 rfl rfl ?_
      obtain ⟨rn19, hcl, h⟩ := bd1_some h
      refine zJ_callV2 (σ := σ) (L := ([(65, text_sizen2), (66, text_limitn3), (67, text_atn4), (193, numbers_size_53), (323, course_fences), (326, course_horseCount), (328, course_planCount), (329, course_allowed), (769, course_rule_size), (1284, rounds_size), (2497, play_playersn5), (2498, play_plansn7), (2499, play_firstPlann11)], [(2, text_signs), (6, course_kinds), (7, course_heights), (8, course_feet), (10, course_digits), (11, course_plans), (13, rule_codes), (15, rule_stackn12), (16, rule_thingsn13), (23, rounds_faults), (24, rounds_tenths), (25, rounds_money), (40, play_namedn6), (41, play_faultsn8), (42, play_tenthsn9), (43, play_placesn10), (44, play_clearsn14), (45, play_endsn15)], [(4, numbers_told_53), (46, play_worthn16), (47, play_trialn17)])) (mi := mX11_game) (yi := mX3_won) (as := [.int v2_53]) (st := [.ref 3]) (L2 := ([(65, text_sizen2), (66, text_limitn3), (67, text_atn4), (193, numbers_size_53), (323, course_fences), (326, course_horseCount), (328, course_planCount), (329, course_allowed), (769, course_rule_size), (1284, rounds_size), (2497, play_playersn5), (2498, play_plansn7), (2499, play_firstPlann11)], [(2, text_signs), (6, course_kinds), (7, course_heights), (8, course_feet), (10, course_digits), (11, course_plans), (13, rule_codes), (15, rule_stackn12), (16, rule_thingsn13), (23, rounds_faults), (24, rounds_tenths), (25, rounds_money), (40, play_namedn6), (41, play_faultsn8), (42, play_tenthsn9), (43, play_placesn10), (44, play_clearsn14), (45, play_endsn15)], [(4, numbers_told_53), (46, play_worthn16), (47, play_trialn17)])) dX11_game_73 ML_X11_384 Yv_X3_won rfl zW_39 rfl rfl (t_X3_won l _ hcl) (zsub_i (zle_c rfl zle_n) zle_n (zle_c rfl zle_n)) (zjok_i rfl rfl (zle_c rfl (zle_c rfl (zle_c rfl (zle_c rfl (zle_c rfl (zle_c rfl (zle_c rfl (zle_c rfl (zle_c rfl (zle_c rfl (zle_c rfl (zle_c rfl (zle_c rfl zle_n))))))))))))) rfl rfl (zle_c rfl (zle_c rfl (zle_c rfl (zle_c rfl (zle_c rfl (zle_c rfl (zle_c rfl (zle_c rfl (zle_c rfl (zle_c rfl (zle_c rfl (zle_c rfl (zle_c rfl (zle_c rfl (zle_c rfl (zle_c rfl (zle_c rfl (zle_c rfl zle_n)))))))))))))))))) rfl rfl (zle_c rfl (zle_c rfl (zle_c rfl zle_n)))) (Nat.le_of_ble_eq_true rfl) (Nat.le_of_ble_eq_true rfl) rfl rfl ?_
      refine zJ_aload_n dX11_game_76 rfl rfl ?_
      refine zJ_getr (mi := mX11_game) dX11_game_77 F_X11_66 zW_0 rfl rfl ?_
      obtain ⟨rn20, hcl, h⟩ := bd1_some h
      refine zJ_callV2 (σ := σ) (L := ([(65, text_sizen2), (66, text_limitn3), (67, text_atn4), (193, numbers_size_53), (323, course_fences), (326, course_horseCount), (328, course_planCount), (329, course_allowed), (769, course_rule_size), (1284, rounds_size), (2497, play_playersn5), (2498, play_plansn7), (2499, play_firstPlann11)], [(2, text_signs), (6, course_kinds), (7, course_heights), (8, course_feet), (10, course_digits), (11, course_plans), (13, rule_codes), (15, rule_stackn12), (16, rule_thingsn13), (23, rounds_faults), (24, rounds_tenths), (25, rounds_money), (40, play_namedn6), (41, play_faultsn8), (42, play_tenthsn9), (43, play_placesn10), (44, play_clearsn14), (45, play_endsn15)], [(4, numbers_told_53), (46, play_worthn16), (47, play_trialn17)])) (mi := mX11_game) (yi := mX3_scale) (as := []) (st := [.long rn19, .ref 3]) (L2 := ([(65, text_sizen2), (66, text_limitn3), (67, text_atn4), (193, numbers_size_53), (323, course_fences), (326, course_horseCount), (328, course_planCount), (329, course_allowed), (769, course_rule_size), (1284, rounds_size), (2497, play_playersn5), (2498, play_plansn7), (2499, play_firstPlann11)], [(2, text_signs), (6, course_kinds), (7, course_heights), (8, course_feet), (10, course_digits), (11, course_plans), (13, rule_codes), (15, rule_stackn12), (16, rule_thingsn13), (23, rounds_faults), (24, rounds_tenths), (25, rounds_money), (40, play_namedn6), (41, play_faultsn8), (42, play_tenthsn9), (43, play_placesn10), (44, play_clearsn14), (45, play_endsn15)], [(4, numbers_told_53), (46, play_worthn16), (47, play_trialn17)])) dX11_game_80 ML_X11_388 Yv_X3_scale rfl zW_39 rfl rfl (t_X3_scale l _ hcl) (zsub_i (zle_c rfl zle_n) zle_n zle_n) (zjok_i rfl rfl (zle_c rfl (zle_c rfl (zle_c rfl (zle_c rfl (zle_c rfl (zle_c rfl (zle_c rfl (zle_c rfl (zle_c rfl (zle_c rfl (zle_c rfl (zle_c rfl (zle_c rfl zle_n))))))))))))) rfl rfl (zle_c rfl (zle_c rfl (zle_c rfl (zle_c rfl (zle_c rfl (zle_c rfl (zle_c rfl (zle_c rfl (zle_c rfl (zle_c rfl (zle_c rfl (zle_c rfl (zle_c rfl (zle_c rfl (zle_c rfl (zle_c rfl (zle_c rfl (zle_c rfl zle_n)))))))))))))))))) rfl rfl (zle_c rfl (zle_c rfl (zle_c rfl zle_n)))) (Nat.le_of_ble_eq_true rfl) (Nat.le_of_ble_eq_true rfl) rfl rfl ?_
      obtain ⟨numbers_sizen21, numbers_toldn22, hcl, h⟩ := bd2_some h
      refine zJ_callV2 (σ := σ) (L := ([(65, text_sizen2), (66, text_limitn3), (67, text_atn4), (193, numbers_size_53), (323, course_fences), (326, course_horseCount), (328, course_planCount), (329, course_allowed), (769, course_rule_size), (1284, rounds_size), (2497, play_playersn5), (2498, play_plansn7), (2499, play_firstPlann11)], [(2, text_signs), (6, course_kinds), (7, course_heights), (8, course_feet), (10, course_digits), (11, course_plans), (13, rule_codes), (15, rule_stackn12), (16, rule_thingsn13), (23, rounds_faults), (24, rounds_tenths), (25, rounds_money), (40, play_namedn6), (41, play_faultsn8), (42, play_tenthsn9), (43, play_placesn10), (44, play_clearsn14), (45, play_endsn15)], [(4, numbers_told_53), (46, play_worthn16), (47, play_trialn17)])) (mi := mX11_game) (yi := mX6_putFraction) (as := [.long rn19, .long rn20]) (st := []) (L2 := ([(65, text_sizen2), (66, text_limitn3), (67, text_atn4), (193, numbers_sizen21), (323, course_fences), (326, course_horseCount), (328, course_planCount), (329, course_allowed), (769, course_rule_size), (1284, rounds_size), (2497, play_playersn5), (2498, play_plansn7), (2499, play_firstPlann11)], [(2, text_signs), (6, course_kinds), (7, course_heights), (8, course_feet), (10, course_digits), (11, course_plans), (13, rule_codes), (15, rule_stackn12), (16, rule_thingsn13), (23, rounds_faults), (24, rounds_tenths), (25, rounds_money), (40, play_namedn6), (41, play_faultsn8), (42, play_tenthsn9), (43, play_placesn10), (44, play_clearsn14), (45, play_endsn15)], [(4, numbers_toldn22), (46, play_worthn16), (47, play_trialn17)])) dX11_game_83 ML_X11_392 Yv_X6_putFraction rfl zW_3 rfl rfl (t_X6_putFraction l _ hcl) (zsub_i (zle_c rfl zle_n) zle_n (zle_c rfl zle_n)) (zjok_i rfl rfl (zle_c rfl (zle_c rfl (zle_c rfl (zle_c rfl (zle_c rfl (zle_c rfl (zle_c rfl (zle_c rfl (zle_c rfl (zle_c rfl (zle_c rfl (zle_c rfl (zle_c rfl zle_n))))))))))))) rfl rfl (zle_c rfl (zle_c rfl (zle_c rfl (zle_c rfl (zle_c rfl (zle_c rfl (zle_c rfl (zle_c rfl (zle_c rfl (zle_c rfl (zle_c rfl (zle_c rfl (zle_c rfl (zle_c rfl (zle_c rfl (zle_c rfl (zle_c rfl (zle_c rfl zle_n)))))))))))))))))) rfl rfl (zle_c rfl (zle_c rfl (zle_c rfl zle_n)))) (Nat.le_of_ble_eq_true rfl) (Nat.le_of_ble_eq_true rfl) rfl rfl ?_
      obtain ⟨v2n23, ev2n23, h⟩ := lt1_some h
      refine zJ_iincN (ls' := [(2, .int v2n23), (0, .ref 0)]) dX11_game_86 rfl rfl zc_1 ev2n23 rfl rfl ?_
      refine zJ_goto (tgt := 53) dX11_game_89 (by decide) ?_
      refine zJ_loc (ls' := [(0, .ref 0), (2, .int v2n23)]) (zll_c rfl (zll_c rfl zll_n)) ?_
      exact hrc53 _ _ _ h
  · replace h := it_f hc h
    refine zJ_iload_n dX11_game_11 rfl rfl ?_
    obtain ⟨rfl, rfl, rfl, rfl, rfl, rfl, rfl, rfl, rfl, rfl, rfl, rfl, rfl, rfl, rfl, rfl, rfl, rfl, rfl⟩ := so19 h
    exact zJ_iret dX11_game_12 rfl rfl
