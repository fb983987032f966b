set_option maxRecDepth 100000 in
set_option maxHeartbeats 4000000 in
theorem tg_X12_goGame (l : Launch) : ∀ n : Nat, (∀ (σ : zS) (p1 : Int32) (m_fences : Int32) (m_allowed : Int32) (m_plans : Int32) (m_read : Int32) (m_length : Int32) (m_top : Int32) (m_at : Int32) (m_wrong : Int32) (m_ruleSize : Int32) (m_isAsked : Int32) (m_askedHorse : Int32) (m_askedFence : Int32) (m_askedLetter : Int32) (m_askedHeight : Int32) (m_comingMany : Int32) (m_now : (Nat → Int32)) (m_kind : (Nat → Int32)) (m_height : (Nat → Int32)) (m_feet : (Nat → Int32)) (m_stride : (Nat → Int32)) (m_scope : (Nat → Int32)) (m_care : (Nat → Int32)) (m_plan : (Nat → Int32)) (m_money : (Nat → Int32)) (m_rule : (Nat → Int32)) (m_coming : (Nat → Int32)) (m_planOf : (Nat → Int32)) (m_extra : (Nat → Int32)) (m_wins : (Nat → Int64)) (w_m_read : Int32) (w_m_length : Int32) (w_m_top : Int32) (w_m_at : Int32) (w_m_wrong : Int32) (w_m_isAsked : Int32) (w_m_askedHorse : Int32) (w_m_askedFence : Int32) (w_m_askedLetter : Int32) (w_m_askedHeight : Int32) (w_m_planOf : (Nat → Int32)) (w_m_extra : (Nat → Int32)) (w_m_wins : (Nat → Int64)), (G_X12_goGame n) p1 m_fences m_allowed m_plans m_read m_length m_top m_at m_wrong m_ruleSize m_isAsked m_askedHorse m_askedFence m_askedLetter m_askedHeight m_comingMany m_now m_kind m_height m_feet m_stride m_scope m_care m_plan m_money m_rule m_coming m_planOf m_extra m_wins = some (w_m_read, w_m_length, w_m_top, w_m_at, w_m_wrong, w_m_isAsked, w_m_askedHorse, w_m_askedFence, w_m_askedLetter, w_m_askedHeight, w_m_planOf, w_m_extra, w_m_wins) → zMt l zW (n + 208) mX12_goGame σ ([(3457, m_fences), (3461, m_allowed), (3466, m_plans), (3474, m_read), (3475, m_length), (3476, m_top), (3477, m_at), (3478, m_wrong), (3483, m_ruleSize), (3484, m_isAsked), (3485, m_askedHorse), (3486, m_askedFence), (3487, m_askedLetter), (3488, m_askedHeight), (3503, m_comingMany)], [(55, m_now), (56, m_kind), (57, m_height), (58, m_feet), (59, m_stride), (60, m_scope), (61, m_care), (62, m_plan), (63, m_money), (69, m_rule), (78, m_coming), (80, m_planOf), (81, m_extra)], [(79, m_wins)]) [.ref 54, .int p1] none ([(3457, m_fences), (3461, m_allowed), (3466, m_plans), (3474, w_m_read), (3475, w_m_length), (3476, w_m_top), (3477, w_m_at), (3478, w_m_wrong), (3483, m_ruleSize), (3484, w_m_isAsked), (3485, w_m_askedHorse), (3486, w_m_askedFence), (3487, w_m_askedLetter), (3488, w_m_askedHeight), (3503, m_comingMany)], [(55, m_now), (56, m_kind), (57, m_height), (58, m_feet), (59, m_stride), (60, m_scope), (61, m_care), (62, m_plan), (63, m_money), (69, m_rule), (78, m_coming), (80, w_m_planOf), (81, w_m_extra)], [(79, w_m_wins)])) := by
  intro n
  induction n with
  | zero => exact (fun _ _ _ _ _ _ _ _ _ _ _ _ _ _ _ _ _ _ _ _ _ _ _ _ _ _ _ _ _ _ _ _ _ _ _ _ _ _ _ _ _ _ _ _ h => by cases (show (none : Option _) = some _ from h))
  | succ n ih =>
    have ih_X12_goGame := ih
    intro σ p1 m_fences m_allowed m_plans m_read m_length m_top m_at m_wrong m_ruleSize m_isAsked m_askedHorse m_askedFence m_askedLetter m_askedHeight m_comingMany m_now m_kind m_height m_feet m_stride m_scope m_care m_plan m_money m_rule m_coming m_planOf m_extra m_wins w_m_read w_m_length w_m_top w_m_at w_m_wrong w_m_isAsked w_m_askedHorse w_m_askedFence w_m_askedLetter w_m_askedHeight w_m_planOf w_m_extra w_m_wins h
    replace h : g_X12_goGame (G_X12_goGame n) p1 m_fences m_allowed m_plans m_read m_length m_top m_at m_wrong m_ruleSize m_isAsked m_askedHorse m_askedFence m_askedLetter m_askedHeight m_comingMany m_now m_kind m_height m_feet m_stride m_scope m_care m_plan m_money m_rule m_coming m_planOf m_extra m_wins = some (w_m_read, w_m_length, w_m_top, w_m_at, w_m_wrong, w_m_isAsked, w_m_askedHorse, w_m_askedFence, w_m_askedLetter, w_m_askedHeight, w_m_planOf, w_m_extra, w_m_wins) := h
    generalize (G_X12_goGame n) = q_X12_goGame at h ih_X12_goGame
    show zMt l zW (n + 209) mX12_goGame σ ([(3457, m_fences), (3461, m_allowed), (3466, m_plans), (3474, m_read), (3475, m_length), (3476, m_top), (3477, m_at), (3478, m_wrong), (3483, m_ruleSize), (3484, m_isAsked), (3485, m_askedHorse), (3486, m_askedFence), (3487, m_askedLetter), (3488, m_askedHeight), (3503, m_comingMany)], [(55, m_now), (56, m_kind), (57, m_height), (58, m_feet), (59, m_stride), (60, m_scope), (61, m_care), (62, m_plan), (63, m_money), (69, m_rule), (78, m_coming), (80, m_planOf), (81, m_extra)], [(79, m_wins)]) [.ref 54, .int p1] none ([(3457, m_fences), (3461, m_allowed), (3466, m_plans), (3474, w_m_read), (3475, w_m_length), (3476, w_m_top), (3477, w_m_at), (3478, w_m_wrong), (3483, m_ruleSize), (3484, w_m_isAsked), (3485, w_m_askedHorse), (3486, w_m_askedFence), (3487, w_m_askedLetter), (3488, w_m_askedHeight), (3503, m_comingMany)], [(55, m_now), (56, m_kind), (57, m_height), (58, m_feet), (59, m_stride), (60, m_scope), (61, m_care), (62, m_plan), (63, m_money), (69, m_rule), (78, m_coming), (80, w_m_planOf), (81, w_m_extra)], [(79, w_m_wins)])
    refine zMt_of (ls := [(0, .ref 54), (1, .int p1)]) (by decide) rfl (fun _ => Nat.le_of_ble_eq_true rfl) rfl ?_
    unfold g_X12_goGame at h
    refine zJ_iload_n dX12_goGame_0 rfl rfl ?_
    refine zJ_aload_n dX12_goGame_1 rfl rfl ?_
    refine zJ_geti (mi := mX12_goGame) (x := m_comingMany) dX12_goGame_2 F_X12_382 zW_54 rfl rfl rfl ?_
    refine zJ_icmp_ne (tgt := 45) dX12_goGame_5 (by decide) rfl (fun hc => ?_) (fun hc => ?_)
    · replace h := it_f hc h
      refine zJ_ldc2_w (v := -1) dX12_goGame_45 C_X12_388 rfl ?_
      refine zJ_lstore_n (ls' := [(2, .long (-1 : Int64)), (0, .ref 54), (1, .int p1)]) dX12_goGame_48 rfl rfl rfl ?_
      refine zJ_lconst dX12_goGame_49 zl_0 rfl ?_
      refine zJ_lstore (ls' := [(4, .long (0 : Int64)), (2, .long (-1 : Int64)), (0, .ref 54), (1, .int p1)]) dX12_goGame_50 rfl rfl rfl ?_
      refine zJ_lconst dX12_goGame_52 zl_0 rfl ?_
      refine zJ_lstore (ls' := [(6, .long (0 : Int64)), (4, .long (0 : Int64)), (2, .long (-1 : Int64)), (0, .ref 54), (1, .int p1)]) dX12_goGame_53 rfl rfl rfl ?_
      refine zJ_lconst dX12_goGame_55 zl_0 rfl ?_
      refine zJ_lstore (ls' := [(8, .long (0 : Int64)), (6, .long (0 : Int64)), (4, .long (0 : Int64)), (2, .long (-1 : Int64)), (0, .ref 54), (1, .int p1)]) dX12_goGame_56 rfl rfl rfl ?_
      refine zJ_iconst dX12_goGame_58 zc_0 rfl ?_
      refine zJ_istore (ls' := [(10, .int (0 : Int32)), (8, .long (0 : Int64)), (6, .long (0 : Int64)), (4, .long (0 : Int64)), (2, .long (-1 : Int64)), (0, .ref 54), (1, .int p1)]) dX12_goGame_59 rfl rfl rfl ?_
      refine zJ_iconst dX12_goGame_61 zc_0 rfl ?_
      refine zJ_istore (ls' := [(11, .int (0 : Int32)), (10, .int (0 : Int32)), (8, .long (0 : Int64)), (6, .long (0 : Int64)), (4, .long (0 : Int64)), (2, .long (-1 : Int64)), (0, .ref 54), (1, .int p1)]) dX12_goGame_62 rfl rfl rfl ?_
      have hk64 : ∀ (v4_64x : Int64) (v6_64x : Int64) (v8_64x : Int64) (v10_64x : Int32) (m_read_64x : Int32) (m_length_64x : Int32) (m_top_64x : Int32) (m_at_64x : Int32) (m_wrong_64x : Int32) (m_isAsked_64x : Int32) (m_askedHorse_64x : Int32) (m_askedFence_64x : Int32) (m_askedLetter_64x : Int32) (m_askedHeight_64x : Int32) (m_planOf_64x : (Nat → Int32)) (m_extra_64x : (Nat → Int32)) (m_wins_64x : (Nat → Int64)), k_X12_goGame_64 p1 v4_64x v6_64x v8_64x v10_64x m_read_64x m_length_64x m_top_64x m_at_64x m_wrong_64x m_isAsked_64x m_askedHorse_64x m_askedFence_64x m_askedLetter_64x m_askedHeight_64x m_planOf_64x m_extra_64x m_wins_64x = some (w_m_read, w_m_length, w_m_top, w_m_at, w_m_wrong, w_m_isAsked, w_m_askedHorse, w_m_askedFence, w_m_askedLetter, w_m_askedHeight, w_m_planOf, w_m_extra, w_m_wins) → zJ l zW (n + 209) mX12_goGame σ ([(3457, m_fences), (3461, m_allowed), (3466, m_plans), (3474, m_read_64x), (3475, m_length_64x), (3476, m_top_64x), (3477, m_at_64x), (3478, m_wrong_64x), (3483, m_ruleSize), (3484, m_isAsked_64x), (3485, m_askedHorse_64x), (3486, m_askedFence_64x), (3487, m_askedLetter_64x), (3488, m_askedHeight_64x), (3503, m_comingMany)], [(55, m_now), (56, m_kind), (57, m_height), (58, m_feet), (59, m_stride), (60, m_scope), (61, m_care), (62, m_plan), (63, m_money), (69, m_rule), (78, m_coming), (80, m_planOf_64x), (81, m_extra_64x)], [(79, m_wins_64x)]) 300 [(0, .ref 54), (1, .int p1), (4, .long v4_64x), (6, .long v6_64x), (8, .long v8_64x), (10, .int v10_64x)] [] none ([(3457, m_fences), (3461, m_allowed), (3466, m_plans), (3474, w_m_read), (3475, w_m_length), (3476, w_m_top), (3477, w_m_at), (3478, w_m_wrong), (3483, m_ruleSize), (3484, w_m_isAsked), (3485, w_m_askedHorse), (3486, w_m_askedFence), (3487, w_m_askedLetter), (3488, w_m_askedHeight), (3503, m_comingMany)], [(55, m_now), (56, m_kind), (57, m_height), (58, m_feet), (59, m_stride), (60, m_scope), (61, m_care), (62, m_plan), (63, m_money), (69, m_rule), (78, m_coming), (80, w_m_planOf), (81, w_m_extra)], [(79, w_m_wins)]) := by
        intro v4_64x v6_64x v8_64x v10_64x m_read_64x m_length_64x m_top_64x m_at_64x m_wrong_64x m_isAsked_64x m_askedHorse_64x m_askedFence_64x m_askedLetter_64x m_askedHeight_64x m_planOf_64x m_extra_64x m_wins_64x h
        unfold k_X12_goGame_64 at h
        refine zJ_aload_n dX12_goGame_300 rfl rfl ?_
        refine zJ_getr (mi := mX12_goGame) dX12_goGame_301 F_X12_88 zW_54 rfl rfl ?_
        refine zJ_iconst dX12_goGame_304 zc_3 rfl ?_
        refine zJ_iload_n dX12_goGame_305 rfl rfl ?_
        refine zJ_imul dX12_goGame_306 rfl ?_
        refine zJ_lload dX12_goGame_307 rfl rfl ?_
        obtain ⟨hg, h⟩ := gd_some h
        refine zK_last (mi := mX12_goGame) (f := m_wins_64x) (lc' := [(79, (vp_updL m_wins_64x ((3 : Int32) * p1).toNatClampNeg v4_64x))]) dX12_goGame_309 zW_79 (ix_in hg) rfl rfl rfl ?_
        refine zJ_aload_n dX12_goGame_310 rfl rfl ?_
        refine zJ_getr (mi := mX12_goGame) dX12_goGame_311 F_X12_88 zW_54 rfl rfl ?_
        refine zJ_iconst dX12_goGame_314 zc_3 rfl ?_
        refine zJ_iload_n dX12_goGame_315 rfl rfl ?_
        refine zJ_imul dX12_goGame_316 rfl ?_
        refine zJ_iconst dX12_goGame_317 zc_1 rfl ?_
        refine zJ_iadd dX12_goGame_318 rfl ?_
        refine zJ_lload dX12_goGame_319 rfl rfl ?_
        obtain ⟨hg, h⟩ := gd_some h
        refine zK_last (mi := mX12_goGame) (f := ((vp_updL m_wins_64x ((3 : Int32) * p1).toNatClampNeg v4_64x))) (lc' := [(79, (vp_updL ((vp_updL m_wins_64x ((3 : Int32) * p1).toNatClampNeg v4_64x)) (((3 : Int32) * p1) + (1 : Int32)).toNatClampNeg v6_64x))]) dX12_goGame_321 zW_79 (ix_in hg) rfl rfl rfl ?_
        refine zJ_aload_n dX12_goGame_322 rfl rfl ?_
        refine zJ_getr (mi := mX12_goGame) dX12_goGame_323 F_X12_88 zW_54 rfl rfl ?_
        refine zJ_iconst dX12_goGame_326 zc_3 rfl ?_
        refine zJ_iload_n dX12_goGame_327 rfl rfl ?_
        refine zJ_imul dX12_goGame_328 rfl ?_
        refine zJ_iconst dX12_goGame_329 zc_2 rfl ?_
        refine zJ_iadd dX12_goGame_330 rfl ?_
        refine zJ_lload dX12_goGame_331 rfl rfl ?_
        obtain ⟨hg, h⟩ := gd_some h
        refine zK_last (mi := mX12_goGame) (f := ((vp_updL ((vp_updL m_wins_64x ((3 : Int32) * p1).toNatClampNeg v4_64x)) (((3 : Int32) * p1) + (1 : Int32)).toNatClampNeg v6_64x))) (lc' := [(79, (vp_updL ((vp_updL ((vp_updL m_wins_64x ((3 : Int32) * p1).toNatClampNeg v4_64x)) (((3 : Int32) * p1) + (1 : Int32)).toNatClampNeg v6_64x)) (((3 : Int32) * p1) + (2 : Int32)).toNatClampNeg v8_64x))]) dX12_goGame_333 zW_79 (ix_in hg) rfl rfl rfl ?_
        refine zJ_aload_n dX12_goGame_334 rfl rfl ?_
        refine zJ_getr (mi := mX12_goGame) dX12_goGame_335 F_X12_91 zW_54 rfl rfl ?_
        refine zJ_iload_n dX12_goGame_338 rfl rfl ?_
        refine zJ_iload dX12_goGame_339 rfl rfl ?_
        obtain ⟨hg, h⟩ := gd_some h
        refine zK_iast (mi := mX12_goGame) (f := m_planOf_64x) (lb' := [(55, m_now), (56, m_kind), (57, m_height), (58, m_feet), (59, m_stride), (60, m_scope), (61, m_care), (62, m_plan), (63, m_money), (69, m_rule), (78, m_coming), (80, (upd m_planOf_64x p1.toNatClampNeg v10_64x)), (81, m_extra_64x)]) dX12_goGame_341 zW_80 (ix_in hg) rfl rfl rfl ?_
        obtain ⟨rfl, rfl, rfl, rfl, rfl, rfl, rfl, rfl, rfl, rfl, rfl, rfl, rfl⟩ := so13 h
        exact zJ_vret dX12_goGame_342 rfl
      refine zJ_loc (ls' := [(0, .ref 54), (1, .int p1), (2, .long (-1 : Int64)), (4, .long (0 : Int64)), (6, .long (0 : Int64)), (8, .long (0 : Int64)), (10, .int (0 : Int32)), (11, .int (0 : Int32))]) (zll_c rfl (zll_c rfl (zll_c rfl (zll_c rfl (zll_c rfl (zll_c rfl (zll_c rfl (zll_c rfl zll_n)))))))) ?_
      refine ml19_J (fun (v2_64 : Int64) (v4_64 : Int64) (v6_64 : Int64) (v8_64 : Int64) (v10_64 : Int32) (v11_64 : Int32) (m_read_64 : Int32) (m_length_64 : Int32) (m_top_64 : Int32) (m_at_64 : Int32) (m_wrong_64 : Int32) (m_isAsked_64 : Int32) (m_askedHorse_64 : Int32) (m_askedFence_64 : Int32) (m_askedLetter_64 : Int32) (m_askedHeight_64 : Int32) (m_planOf_64 : (Nat → Int32)) (m_extra_64 : (Nat → Int32)) (m_wins_64 : (Nat → Int64)) => zJ l zW (n + 209) mX12_goGame σ ([(3457, m_fences), (3461, m_allowed), (3466, m_plans), (3474, m_read_64), (3475, m_length_64), (3476, m_top_64), (3477, m_at_64), (3478, m_wrong_64), (3483, m_ruleSize), (3484, m_isAsked_64), (3485, m_askedHorse_64), (3486, m_askedFence_64), (3487, m_askedLetter_64), (3488, m_askedHeight_64), (3503, m_comingMany)], [(55, m_now), (56, m_kind), (57, m_height), (58, m_feet), (59, m_stride), (60, m_scope), (61, m_care), (62, m_plan), (63, m_money), (69, m_rule), (78, m_coming), (80, m_planOf_64), (81, m_extra_64)], [(79, m_wins_64)]) 64 [(0, .ref 54), (1, .int p1), (2, .long v2_64), (4, .long v4_64), (6, .long v6_64), (8, .long v8_64), (10, .int v10_64), (11, .int v11_64)] [] none ([(3457, m_fences), (3461, m_allowed), (3466, m_plans), (3474, w_m_read), (3475, w_m_length), (3476, w_m_top), (3477, w_m_at), (3478, w_m_wrong), (3483, m_ruleSize), (3484, w_m_isAsked), (3485, w_m_askedHorse), (3486, w_m_askedFence), (3487, w_m_askedLetter), (3488, w_m_askedHeight), (3503, m_comingMany)], [(55, m_now), (56, m_kind), (57, m_height), (58, m_feet), (59, m_stride), (60, m_scope), (61, m_care), (62, m_plan), (63, m_money), (69, m_rule), (78, m_coming), (80, w_m_planOf), (81, w_m_extra)], [(79, w_m_wins)])) (fun rc64 hrc64 v2_64 v4_64 v6_64 v8_64 v10_64 v11_64 m_read_64 m_length_64 m_top_64 m_at_64 m_wrong_64 m_isAsked_64 m_askedHorse_64 m_askedFence_64 m_askedLetter_64 m_askedHeight_64 m_planOf_64 m_extra_64 m_wins_64 h => ?_) zN _ _ _ _ _ _ _ _ _ _ _ _ _ _ _ _ _ _ _ h
      unfold s_X12_goGame_64 at h
      refine zJ_iload dX12_goGame_64 rfl rfl ?_
      refine zJ_aload_n dX12_goGame_66 rfl rfl ?_
      refine zJ_geti (mi := mX12_goGame) (x := m_plans) dX12_goGame_67 F_X12_129 zW_54 rfl rfl rfl ?_
      refine zJ_icmp_ge (tgt := 300) dX12_goGame_70 (by decide) rfl (fun hc => ?_) (fun hc => ?_)
      · replace h := it_t hc h
        refine zJ_loc (ls' := [(0, .ref 54), (1, .int p1), (4, .long v4_64), (6, .long v6_64), (8, .long v8_64), (10, .int v10_64)]) (zll_c rfl (zll_c rfl (zll_c rfl (zll_c rfl (zll_c rfl (zll_c rfl zll_n)))))) ?_
        exact hk64 _ _ _ _ _ _ _ _ _ _ _ _ _ _ _ _ _ h
      · replace h := it_f hc h
        refine zJ_aload_n dX12_goGame_73 rfl rfl ?_
        refine zJ_aload_n dX12_goGame_74 rfl rfl ?_
        refine zJ_getr (mi := mX12_goGame) dX12_goGame_75 F_X12_85 zW_54 rfl rfl ?_
        refine zJ_iload_n dX12_goGame_78 rfl rfl ?_
        obtain ⟨hg, h⟩ := gd_some h
        refine zJ_iald (mi := mX12_goGame) (f := m_coming) dX12_goGame_79 zW_78 (ix_in hg) rfl rfl ?_
        refine zJ_iload dX12_goGame_80 rfl rfl ?_
        obtain ⟨rn1, m_readn2, m_lengthn3, m_topn4, m_atn5, m_wrongn6, m_isAskedn7, m_askedHorsen8, m_askedFencen9, m_askedLettern10, m_askedHeightn11, hcl, h⟩ := bd11_some h
        refine zJ_callV2 (σ := σ) (L := ([(3457, m_fences), (3461, m_allowed), (3466, m_plans), (3474, m_read_64), (3475, m_length_64), (3476, m_top_64), (3477, m_at_64), (3478, m_wrong_64), (3483, m_ruleSize), (3484, m_isAsked_64), (3485, m_askedHorse_64), (3486, m_askedFence_64), (3487, m_askedLetter_64), (3488, m_askedHeight_64), (3503, m_comingMany)], [(55, m_now), (56, m_kind), (57, m_height), (58, m_feet), (59, m_stride), (60, m_scope), (61, m_care), (62, m_plan), (63, m_money), (69, m_rule), (78, m_coming), (80, m_planOf_64), (81, m_extra_64)], [(79, m_wins_64)])) (mi := mX12_goGame) (yi := mX12_clearOf) (as := [.int (m_coming p1.toNatClampNeg), .int v11_64]) (st := []) (L2 := ([(3457, m_fences), (3461, m_allowed), (3466, m_plans), (3474, m_readn2), (3475, m_lengthn3), (3476, m_topn4), (3477, m_atn5), (3478, m_wrongn6), (3483, m_ruleSize), (3484, m_isAskedn7), (3485, m_askedHorsen8), (3486, m_askedFencen9), (3487, m_askedLettern10), (3488, m_askedHeightn11), (3503, m_comingMany)], [(55, m_now), (56, m_kind), (57, m_height), (58, m_feet), (59, m_stride), (60, m_scope), (61, m_care), (62, m_plan), (63, m_money), (69, m_rule), (78, m_coming), (80, m_planOf_64), (81, m_extra_64)], [(79, m_wins_64)])) dX12_goGame_82 ML_X12_286 Yv_X12_clearOf rfl zW_54 rfl rfl (t_X12_clearOf l _ hcl) (zsub_i (zle_c rfl (zle_c rfl (zle_c rfl (zle_c rfl (zle_c rfl (zle_c rfl (zle_c rfl (zle_c rfl (zle_c rfl (zle_c rfl (zle_c rfl (zle_c rfl zle_n)))))))))))) (zle_c rfl (zle_c rfl (zle_c rfl (zle_c rfl (zle_c rfl (zle_c rfl (zle_c rfl (zle_c rfl zle_n)))))))) zle_n) (zjok_i rfl rfl (zle_c rfl (zle_c rfl (zle_c rfl (zle_c rfl (zle_c rfl (zle_c rfl (zle_c rfl (zle_c rfl (zle_c rfl (zle_c rfl (zle_c rfl (zle_c rfl (zle_c rfl (zle_c rfl (zle_c rfl zle_n))))))))))))))) rfl rfl (zle_c rfl (zle_c rfl (zle_c rfl (zle_c rfl (zle_c rfl (zle_c rfl (zle_c rfl (zle_c rfl (zle_c rfl (zle_c rfl (zle_c rfl (zle_c rfl (zle_c rfl zle_n))))))))))))) rfl rfl (zle_c rfl zle_n)) (by omega) (Nat.le_of_ble_eq_true rfl) rfl rfl ?_
        refine zJ_istore (ls' := [(12, .int rn1), (0, .ref 54), (1, .int p1), (2, .long v2_64), (4, .long v4_64), (6, .long v6_64), (8, .long v8_64), (10, .int v10_64), (11, .int v11_64)]) dX12_goGame_85 rfl rfl rfl ?_
        refine zJ_aload_n dX12_goGame_87 rfl rfl ?_
        refine zJ_iload_n dX12_goGame_88 rfl rfl ?_
        refine zJ_iload dX12_goGame_89 rfl rfl ?_
        refine zJ_iconst dX12_goGame_91 zc_1 rfl ?_
        obtain ⟨m_extran12, hcl, h⟩ := bd1_some h
        refine zJ_callV2 (σ := σ) (L := ([(3457, m_fences), (3461, m_allowed), (3466, m_plans), (3474, m_readn2), (3475, m_lengthn3), (3476, m_topn4), (3477, m_atn5), (3478, m_wrongn6), (3483, m_ruleSize), (3484, m_isAskedn7), (3485, m_askedHorsen8), (3486, m_askedFencen9), (3487, m_askedLettern10), (3488, m_askedHeightn11), (3503, m_comingMany)], [(55, m_now), (56, m_kind), (57, m_height), (58, m_feet), (59, m_stride), (60, m_scope), (61, m_care), (62, m_plan), (63, m_money), (69, m_rule), (78, m_coming), (80, m_planOf_64), (81, m_extra_64)], [(79, m_wins_64)])) (mi := mX12_goGame) (yi := mX12_layThought) (as := [.int p1, .int v11_64, .int (1 : Int32)]) (st := []) (L2 := ([(3457, m_fences), (3461, m_allowed), (3466, m_plans), (3474, m_readn2), (3475, m_lengthn3), (3476, m_topn4), (3477, m_atn5), (3478, m_wrongn6), (3483, m_ruleSize), (3484, m_isAskedn7), (3485, m_askedHorsen8), (3486, m_askedFencen9), (3487, m_askedLettern10), (3488, m_askedHeightn11), (3503, m_comingMany)], [(55, m_now), (56, m_kind), (57, m_height), (58, m_feet), (59, m_stride), (60, m_scope), (61, m_care), (62, m_plan), (63, m_money), (69, m_rule), (78, m_coming), (80, m_planOf_64), (81, m_extran12)], [(79, m_wins_64)])) dX12_goGame_92 ML_X12_390 Yv_X12_layThought rfl zW_54 rfl rfl (t_X12_layThought l _ hcl) (zsub_i (zle_c rfl (zle_c rfl zle_n)) (zle_c rfl (zle_c rfl (zle_c rfl (zle_c rfl zle_n)))) zle_n) (zjok_i rfl rfl (zle_c rfl (zle_c rfl (zle_c rfl (zle_c rfl (zle_c rfl (zle_c rfl (zle_c rfl (zle_c rfl (zle_c rfl (zle_c rfl (zle_c rfl (zle_c rfl (zle_c rfl (zle_c rfl (zle_c rfl zle_n))))))))))))))) rfl rfl (zle_c rfl (zle_c rfl (zle_c rfl (zle_c rfl (zle_c rfl (zle_c rfl (zle_c rfl (zle_c rfl (zle_c rfl (zle_c rfl (zle_c rfl (zle_c rfl (zle_c rfl zle_n))))))))))))) rfl rfl (zle_c rfl zle_n)) (by omega) (Nat.le_of_ble_eq_true rfl) rfl rfl ?_
        refine zJ_aload_n dX12_goGame_95 rfl rfl ?_
        refine zJ_iload_n dX12_goGame_96 rfl rfl ?_
        refine zJ_iconst dX12_goGame_97 zc_1 rfl ?_
        refine zJ_iadd dX12_goGame_98 rfl ?_
        obtain ⟨m_readn13, m_lengthn14, m_topn15, m_atn16, m_wrongn17, m_isAskedn18, m_askedHorsen19, m_askedFencen20, m_askedLettern21, m_askedHeightn22, m_planOfn23, m_extran24, m_winsn25, hcl, h⟩ := bd13_some h
        refine zJ_callV2 (σ := σ) (L := ([(3457, m_fences), (3461, m_allowed), (3466, m_plans), (3474, m_readn2), (3475, m_lengthn3), (3476, m_topn4), (3477, m_atn5), (3478, m_wrongn6), (3483, m_ruleSize), (3484, m_isAskedn7), (3485, m_askedHorsen8), (3486, m_askedFencen9), (3487, m_askedLettern10), (3488, m_askedHeightn11), (3503, m_comingMany)], [(55, m_now), (56, m_kind), (57, m_height), (58, m_feet), (59, m_stride), (60, m_scope), (61, m_care), (62, m_plan), (63, m_money), (69, m_rule), (78, m_coming), (80, m_planOf_64), (81, m_extran12)], [(79, m_wins_64)])) (mi := mX12_goGame) (yi := mX12_goGame) (as := [.int (p1 + (1 : Int32))]) (st := []) (L2 := ([(3457, m_fences), (3461, m_allowed), (3466, m_plans), (3474, m_readn13), (3475, m_lengthn14), (3476, m_topn15), (3477, m_atn16), (3478, m_wrongn17), (3483, m_ruleSize), (3484, m_isAskedn18), (3485, m_askedHorsen19), (3486, m_askedFencen20), (3487, m_askedLettern21), (3488, m_askedHeightn22), (3503, m_comingMany)], [(55, m_now), (56, m_kind), (57, m_height), (58, m_feet), (59, m_stride), (60, m_scope), (61, m_care), (62, m_plan), (63, m_money), (69, m_rule), (78, m_coming), (80, m_planOfn23), (81, m_extran24)], [(79, m_winsn25)])) dX12_goGame_99 ML_X12_394 Yv_X12_goGame rfl zW_54 rfl rfl (ih_X12_goGame _ _ _ _ _ _ _ _ _ _ _ _ _ _ _ _ _ _ _ _ _ _ _ _ _ _ _ _ _ _ _ _ _ _ _ _ _ _ _ _ _ _ _ _ hcl) (zsub_i (zle_c rfl (zle_c rfl (zle_c rfl (zle_c rfl (zle_c rfl (zle_c rfl (zle_c rfl (zle_c rfl (zle_c rfl (zle_c rfl (zle_c rfl (zle_c rfl (zle_c rfl (zle_c rfl (zle_c rfl zle_n))))))))))))))) (zle_c rfl (zle_c rfl (zle_c rfl (zle_c rfl (zle_c rfl (zle_c rfl (zle_c rfl (zle_c rfl (zle_c rfl (zle_c rfl (zle_c rfl (zle_c rfl (zle_c rfl zle_n))))))))))))) (zle_c rfl zle_n)) (zjok_i rfl rfl (zle_c rfl (zle_c rfl (zle_c rfl (zle_c rfl (zle_c rfl (zle_c rfl (zle_c rfl (zle_c rfl (zle_c rfl (zle_c rfl (zle_c rfl (zle_c rfl (zle_c rfl (zle_c rfl (zle_c rfl zle_n))))))))))))))) rfl rfl (zle_c rfl (zle_c rfl (zle_c rfl (zle_c rfl (zle_c rfl (zle_c rfl (zle_c rfl (zle_c rfl (zle_c rfl (zle_c rfl (zle_c rfl (zle_c rfl (zle_c rfl zle_n))))))))))))) rfl rfl (zle_c rfl zle_n)) (by omega) (Nat.le_of_ble_eq_true rfl) rfl rfl ?_
        refine zJ_iload dX12_goGame_102 rfl rfl ?_
        refine zJ_i2l dX12_goGame_104 rfl ?_
        refine zJ_aload_n dX12_goGame_105 rfl rfl ?_
        refine zJ_getr (mi := mX12_goGame) dX12_goGame_106 F_X12_88 zW_54 rfl rfl ?_
        refine zJ_iconst dX12_goGame_109 zc_3 rfl ?_
        refine zJ_iload_n dX12_goGame_110 rfl rfl ?_
        refine zJ_iconst dX12_goGame_111 zc_1 rfl ?_
        refine zJ_iadd dX12_goGame_112 rfl ?_
        refine zJ_imul dX12_goGame_113 rfl ?_
        obtain ⟨hg, h⟩ := gd_some h
        refine zJ_lald (mi := mX12_goGame) (f := m_winsn25) dX12_goGame_114 zW_79 (ix_in hg) rfl rfl ?_
        refine zJ_lmul dX12_goGame_115 rfl ?_
        obtain ⟨v13n26, ev13n26, h⟩ := lt1_some h
        refine zJ_nml ev13n26 ?_
        refine zJ_lstore (ls' := [(13, .long v13n26), (12, .int rn1), (0, .ref 54), (1, .int p1), (2, .long v2_64), (4, .long v4_64), (6, .long v6_64), (8, .long v8_64), (10, .int v10_64), (11, .int v11_64)]) dX12_goGame_116 rfl rfl rfl ?_
        refine zJ_iload dX12_goGame_118 rfl rfl ?_
        refine zJ_i2l dX12_goGame_120 rfl ?_
        refine zJ_aload_n dX12_goGame_121 rfl rfl ?_
        refine zJ_getr (mi := mX12_goGame) dX12_goGame_122 F_X12_88 zW_54 rfl rfl ?_
        refine zJ_iconst dX12_goGame_125 zc_3 rfl ?_
        refine zJ_iload_n dX12_goGame_126 rfl rfl ?_
        refine zJ_iconst dX12_goGame_127 zc_1 rfl ?_
        refine zJ_iadd dX12_goGame_128 rfl ?_
        refine zJ_imul dX12_goGame_129 rfl ?_
        refine zJ_iconst dX12_goGame_130 zc_1 rfl ?_
        refine zJ_iadd dX12_goGame_131 rfl ?_
        obtain ⟨hg, h⟩ := gd_some h
        refine zJ_lald (mi := mX12_goGame) (f := m_winsn25) dX12_goGame_132 zW_79 (ix_in hg) rfl rfl ?_
        refine zJ_lmul dX12_goGame_133 rfl ?_
        obtain ⟨v15n27, ev15n27, h⟩ := lt1_some h
        refine zJ_nml ev15n27 ?_
        refine zJ_lstore (ls' := [(15, .long v15n27), (13, .long v13n26), (12, .int rn1), (0, .ref 54), (1, .int p1), (2, .long v2_64), (4, .long v4_64), (6, .long v6_64), (8, .long v8_64), (10, .int v10_64), (11, .int v11_64)]) dX12_goGame_134 rfl rfl rfl ?_
        refine zJ_iload dX12_goGame_136 rfl rfl ?_
        refine zJ_i2l dX12_goGame_138 rfl ?_
        refine zJ_aload_n dX12_goGame_139 rfl rfl ?_
        refine zJ_getr (mi := mX12_goGame) dX12_goGame_140 F_X12_88 zW_54 rfl rfl ?_
        refine zJ_iconst dX12_goGame_143 zc_3 rfl ?_
        refine zJ_iload_n dX12_goGame_144 rfl rfl ?_
        refine zJ_iconst dX12_goGame_145 zc_1 rfl ?_
        refine zJ_iadd dX12_goGame_146 rfl ?_
        refine zJ_imul dX12_goGame_147 rfl ?_
        refine zJ_iconst dX12_goGame_148 zc_2 rfl ?_
        refine zJ_iadd dX12_goGame_149 rfl ?_
        obtain ⟨hg, h⟩ := gd_some h
        refine zJ_lald (mi := mX12_goGame) (f := m_winsn25) dX12_goGame_150 zW_79 (ix_in hg) rfl rfl ?_
        refine zJ_lmul dX12_goGame_151 rfl ?_
        obtain ⟨v17n28, ev17n28, h⟩ := lt1_some h
        refine zJ_nml ev17n28 ?_
        refine zJ_lstore (ls' := [(17, .long v17n28), (15, .long v15n27), (13, .long v13n26), (12, .int rn1), (0, .ref 54), (1, .int p1), (2, .long v2_64), (4, .long v4_64), (6, .long v6_64), (8, .long v8_64), (10, .int v10_64), (11, .int v11_64)]) dX12_goGame_152 rfl rfl rfl ?_
        refine zJ_aload_n dX12_goGame_154 rfl rfl ?_
        refine zJ_iload_n dX12_goGame_155 rfl rfl ?_
        refine zJ_iload dX12_goGame_156 rfl rfl ?_
        refine zJ_iconst dX12_goGame_158 zc_0 rfl ?_
        obtain ⟨m_extran29, hcl, h⟩ := bd1_some h
        refine zJ_callV2 (σ := σ) (L := ([(3457, m_fences), (3461, m_allowed), (3466, m_plans), (3474, m_readn13), (3475, m_lengthn14), (3476, m_topn15), (3477, m_atn16), (3478, m_wrongn17), (3483, m_ruleSize), (3484, m_isAskedn18), (3485, m_askedHorsen19), (3486, m_askedFencen20), (3487, m_askedLettern21), (3488, m_askedHeightn22), (3503, m_comingMany)], [(55, m_now), (56, m_kind), (57, m_height), (58, m_feet), (59, m_stride), (60, m_scope), (61, m_care), (62, m_plan), (63, m_money), (69, m_rule), (78, m_coming), (80, m_planOfn23), (81, m_extran24)], [(79, m_winsn25)])) (mi := mX12_goGame) (yi := mX12_layThought) (as := [.int p1, .int v11_64, .int (0 : Int32)]) (st := []) (L2 := ([(3457, m_fences), (3461, m_allowed), (3466, m_plans), (3474, m_readn13), (3475, m_lengthn14), (3476, m_topn15), (3477, m_atn16), (3478, m_wrongn17), (3483, m_ruleSize), (3484, m_isAskedn18), (3485, m_askedHorsen19), (3486, m_askedFencen20), (3487, m_askedLettern21), (3488, m_askedHeightn22), (3503, m_comingMany)], [(55, m_now), (56, m_kind), (57, m_height), (58, m_feet), (59, m_stride), (60, m_scope), (61, m_care), (62, m_plan), (63, m_money), (69, m_rule), (78, m_coming), (80, m_planOfn23), (81, m_extran29)], [(79, m_winsn25)])) dX12_goGame_159 ML_X12_390 Yv_X12_layThought rfl zW_54 rfl rfl (t_X12_layThought l _ hcl) (zsub_i (zle_c rfl (zle_c rfl zle_n)) (zle_c rfl (zle_c rfl (zle_c rfl (zle_c rfl zle_n)))) zle_n) (zjok_i rfl rfl (zle_c rfl (zle_c rfl (zle_c rfl (zle_c rfl (zle_c rfl (zle_c rfl (zle_c rfl (zle_c rfl (zle_c rfl (zle_c rfl (zle_c rfl (zle_c rfl (zle_c rfl (zle_c rfl (zle_c rfl zle_n))))))))))))))) rfl rfl (zle_c rfl (zle_c rfl (zle_c rfl (zle_c rfl (zle_c rfl (zle_c rfl (zle_c rfl (zle_c rfl (zle_c rfl (zle_c rfl (zle_c rfl (zle_c rfl (zle_c rfl zle_n))))))))))))) rfl rfl (zle_c rfl zle_n)) (by omega) (Nat.le_of_ble_eq_true rfl) rfl rfl ?_
        refine zJ_aload_n dX12_goGame_162 rfl rfl ?_
        refine zJ_iload_n dX12_goGame_163 rfl rfl ?_
        refine zJ_iconst dX12_goGame_164 zc_1 rfl ?_
        refine zJ_iadd dX12_goGame_165 rfl ?_
        obtain ⟨m_readn30, m_lengthn31, m_topn32, m_atn33, m_wrongn34, m_isAskedn35, m_askedHorsen36, m_askedFencen37, m_askedLettern38, m_askedHeightn39, m_planOfn40, m_extran41, m_winsn42, hcl, h⟩ := bd13_some h
        refine zJ_callV2 (σ := σ) (L := ([(3457, m_fences), (3461, m_allowed), (3466, m_plans), (3474, m_readn13), (3475, m_lengthn14), (3476, m_topn15), (3477, m_atn16), (3478, m_wrongn17), (3483, m_ruleSize), (3484, m_isAskedn18), (3485, m_askedHorsen19), (3486, m_askedFencen20), (3487, m_askedLettern21), (3488, m_askedHeightn22), (3503, m_comingMany)], [(55, m_now), (56, m_kind), (57, m_height), (58, m_feet), (59, m_stride), (60, m_scope), (61, m_care), (62, m_plan), (63, m_money), (69, m_rule), (78, m_coming), (80, m_planOfn23), (81, m_extran29)], [(79, m_winsn25)])) (mi := mX12_goGame) (yi := mX12_goGame) (as := [.int (p1 + (1 : Int32))]) (st := []) (L2 := ([(3457, m_fences), (3461, m_allowed), (3466, m_plans), (3474, m_readn30), (3475, m_lengthn31), (3476, m_topn32), (3477, m_atn33), (3478, m_wrongn34), (3483, m_ruleSize), (3484, m_isAskedn35), (3485, m_askedHorsen36), (3486, m_askedFencen37), (3487, m_askedLettern38), (3488, m_askedHeightn39), (3503, m_comingMany)], [(55, m_now), (56, m_kind), (57, m_height), (58, m_feet), (59, m_stride), (60, m_scope), (61, m_care), (62, m_plan), (63, m_money), (69, m_rule), (78, m_coming), (80, m_planOfn40), (81, m_extran41)], [(79, m_winsn42)])) dX12_goGame_166 ML_X12_394 Yv_X12_goGame rfl zW_54 rfl rfl (ih_X12_goGame _ _ _ _ _ _ _ _ _ _ _ _ _ _ _ _ _ _ _ _ _ _ _ _ _ _ _ _ _ _ _ _ _ _ _ _ _ _ _ _ _ _ _ _ hcl) (zsub_i (zle_c rfl (zle_c rfl (zle_c rfl (zle_c rfl (zle_c rfl (zle_c rfl (zle_c rfl (zle_c rfl (zle_c rfl (zle_c rfl (zle_c rfl (zle_c rfl (zle_c rfl (zle_c rfl (zle_c rfl zle_n))))))))))))))) (zle_c rfl (zle_c rfl (zle_c rfl (zle_c rfl (zle_c rfl (zle_c rfl (zle_c rfl (zle_c rfl (zle_c rfl (zle_c rfl (zle_c rfl (zle_c rfl (zle_c rfl zle_n))))))))))))) (zle_c rfl zle_n)) (zjok_i rfl rfl (zle_c rfl (zle_c rfl (zle_c rfl (zle_c rfl (zle_c rfl (zle_c rfl (zle_c rfl (zle_c rfl (zle_c rfl (zle_c rfl (zle_c rfl (zle_c rfl (zle_c rfl (zle_c rfl (zle_c rfl zle_n))))))))))))))) rfl rfl (zle_c rfl (zle_c rfl (zle_c rfl (zle_c rfl (zle_c rfl (zle_c rfl (zle_c rfl (zle_c rfl (zle_c rfl (zle_c rfl (zle_c rfl (zle_c rfl (zle_c rfl zle_n))))))))))))) rfl rfl (zle_c rfl zle_n)) (by omega) (Nat.le_of_ble_eq_true rfl) rfl rfl ?_
        refine zJ_lload dX12_goGame_169 rfl rfl ?_
        refine zJ_sipush dX12_goGame_171 zs_10000 rfl ?_
        refine zJ_iload dX12_goGame_174 rfl rfl ?_
        refine zJ_isub dX12_goGame_176 rfl ?_
        refine zJ_i2l dX12_goGame_177 rfl ?_
        refine zJ_aload_n dX12_goGame_178 rfl rfl ?_
        refine zJ_getr (mi := mX12_goGame) dX12_goGame_179 F_X12_88 zW_54 rfl rfl ?_
        refine zJ_iconst dX12_goGame_182 zc_3 rfl ?_
        refine zJ_iload_n dX12_goGame_183 rfl rfl ?_
        refine zJ_iconst dX12_goGame_184 zc_1 rfl ?_
        refine zJ_iadd dX12_goGame_185 rfl ?_
        refine zJ_imul dX12_goGame_186 rfl ?_
        obtain ⟨hg, h⟩ := gd_some h
        refine zJ_lald (mi := mX12_goGame) (f := m_winsn42) dX12_goGame_187 zW_79 (ix_in hg) rfl rfl ?_
        refine zJ_lmul dX12_goGame_188 rfl ?_
        refine zJ_ladd dX12_goGame_189 rfl ?_
        obtain ⟨v13n43, ev13n43, h⟩ := lt1_some h
        refine zJ_nml ev13n43 ?_
        refine zJ_lstore (ls' := [(13, .long v13n43), (17, .long v17n28), (15, .long v15n27), (12, .int rn1), (0, .ref 54), (1, .int p1), (2, .long v2_64), (4, .long v4_64), (6, .long v6_64), (8, .long v8_64), (10, .int v10_64), (11, .int v11_64)]) dX12_goGame_190 rfl rfl rfl ?_
        refine zJ_lload dX12_goGame_192 rfl rfl ?_
        refine zJ_sipush dX12_goGame_194 zs_10000 rfl ?_
        refine zJ_iload dX12_goGame_197 rfl rfl ?_
        refine zJ_isub dX12_goGame_199 rfl ?_
        refine zJ_i2l dX12_goGame_200 rfl ?_
        refine zJ_aload_n dX12_goGame_201 rfl rfl ?_
        refine zJ_getr (mi := mX12_goGame) dX12_goGame_202 F_X12_88 zW_54 rfl rfl ?_
        refine zJ_iconst dX12_goGame_205 zc_3 rfl ?_
        refine zJ_iload_n dX12_goGame_206 rfl rfl ?_
        refine zJ_iconst dX12_goGame_207 zc_1 rfl ?_
        refine zJ_iadd dX12_goGame_208 rfl ?_
        refine zJ_imul dX12_goGame_209 rfl ?_
        refine zJ_iconst dX12_goGame_210 zc_1 rfl ?_
        refine zJ_iadd dX12_goGame_211 rfl ?_
        obtain ⟨hg, h⟩ := gd_some h
        refine zJ_lald (mi := mX12_goGame) (f := m_winsn42) dX12_goGame_212 zW_79 (ix_in hg) rfl rfl ?_
        refine zJ_lmul dX12_goGame_213 rfl ?_
        refine zJ_ladd dX12_goGame_214 rfl ?_
        obtain ⟨v15n44, ev15n44, h⟩ := lt1_some h
        refine zJ_nml ev15n44 ?_
        refine zJ_lstore (ls' := [(15, .long v15n44), (13, .long v13n43), (17, .long v17n28), (12, .int rn1), (0, .ref 54), (1, .int p1), (2, .long v2_64), (4, .long v4_64), (6, .long v6_64), (8, .long v8_64), (10, .int v10_64), (11, .int v11_64)]) dX12_goGame_215 rfl rfl rfl ?_
        refine zJ_lload dX12_goGame_217 rfl rfl ?_
        refine zJ_sipush dX12_goGame_219 zs_10000 rfl ?_
        refine zJ_iload dX12_goGame_222 rfl rfl ?_
        refine zJ_isub dX12_goGame_224 rfl ?_
        refine zJ_i2l dX12_goGame_225 rfl ?_
        refine zJ_aload_n dX12_goGame_226 rfl rfl ?_
        refine zJ_getr (mi := mX12_goGame) dX12_goGame_227 F_X12_88 zW_54 rfl rfl ?_
        refine zJ_iconst dX12_goGame_230 zc_3 rfl ?_
        refine zJ_iload_n dX12_goGame_231 rfl rfl ?_
        refine zJ_iconst dX12_goGame_232 zc_1 rfl ?_
        refine zJ_iadd dX12_goGame_233 rfl ?_
        refine zJ_imul dX12_goGame_234 rfl ?_
        refine zJ_iconst dX12_goGame_235 zc_2 rfl ?_
        refine zJ_iadd dX12_goGame_236 rfl ?_
        obtain ⟨hg, h⟩ := gd_some h
        refine zJ_lald (mi := mX12_goGame) (f := m_winsn42) dX12_goGame_237 zW_79 (ix_in hg) rfl rfl ?_
        refine zJ_lmul dX12_goGame_238 rfl ?_
        refine zJ_ladd dX12_goGame_239 rfl ?_
        obtain ⟨v17n45, ev17n45, h⟩ := lt1_some h
        refine zJ_nml ev17n45 ?_
        refine zJ_lstore (ls' := [(17, .long v17n45), (15, .long v15n44), (13, .long v13n43), (12, .int rn1), (0, .ref 54), (1, .int p1), (2, .long v2_64), (4, .long v4_64), (6, .long v6_64), (8, .long v8_64), (10, .int v10_64), (11, .int v11_64)]) dX12_goGame_240 rfl rfl rfl ?_
        refine zJ_iload_n dX12_goGame_242 rfl rfl ?_
        have hj_X12_goGame_263 : ∀ (t0_263j : Int64), j_X12_goGame_263 rc64 v2_64 v4_64 v6_64 v8_64 v10_64 v11_64 m_readn30 m_lengthn31 m_topn32 m_atn33 m_wrongn34 m_isAskedn35 m_askedHorsen36 m_askedFencen37 m_askedLettern38 m_askedHeightn39 m_planOfn40 m_extran41 m_winsn42 v13n43 v15n44 v17n45 t0_263j = some (w_m_read, w_m_length, w_m_top, w_m_at, w_m_wrong, w_m_isAsked, w_m_askedHorse, w_m_askedFence, w_m_askedLetter, w_m_askedHeight, w_m_planOf, w_m_extra, w_m_wins) → zJ l zW (n + 209) mX12_goGame σ ([(3457, m_fences), (3461, m_allowed), (3466, m_plans), (3474, m_readn30), (3475, m_lengthn31), (3476, m_topn32), (3477, m_atn33), (3478, m_wrongn34), (3483, m_ruleSize), (3484, m_isAskedn35), (3485, m_askedHorsen36), (3486, m_askedFencen37), (3487, m_askedLettern38), (3488, m_askedHeightn39), (3503, m_comingMany)], [(55, m_now), (56, m_kind), (57, m_height), (58, m_feet), (59, m_stride), (60, m_scope), (61, m_care), (62, m_plan), (63, m_money), (69, m_rule), (78, m_coming), (80, m_planOfn40), (81, m_extran41)], [(79, m_winsn42)]) 263 [(0, .ref 54), (1, .int p1), (2, .long v2_64), (4, .long v4_64), (6, .long v6_64), (8, .long v8_64), (10, .int v10_64), (11, .int v11_64), (13, .long v13n43), (15, .long v15n44), (17, .long v17n45)] [.long t0_263j] none ([(3457, m_fences), (3461, m_allowed), (3466, m_plans), (3474, w_m_read), (3475, w_m_length), (3476, w_m_top), (3477, w_m_at), (3478, w_m_wrong), (3483, m_ruleSize), (3484, w_m_isAsked), (3485, w_m_askedHorse), (3486, w_m_askedFence), (3487, w_m_askedLetter), (3488, w_m_askedHeight), (3503, m_comingMany)], [(55, m_now), (56, m_kind), (57, m_height), (58, m_feet), (59, m_stride), (60, m_scope), (61, m_care), (62, m_plan), (63, m_money), (69, m_rule), (78, m_coming), (80, w_m_planOf), (81, w_m_extra)], [(79, w_m_wins)]) := by
          intro t0_263j h
          unfold j_X12_goGame_263 at h
          refine zJ_lstore (ls' := [(19, .long t0_263j), (0, .ref 54), (1, .int p1), (2, .long v2_64), (4, .long v4_64), (6, .long v6_64), (8, .long v8_64), (10, .int v10_64), (11, .int v11_64), (13, .long v13n43), (15, .long v15n44), (17, .long v17n45)]) dX12_goGame_263 rfl rfl rfl ?_
          refine zJ_lload dX12_goGame_265 rfl rfl ?_
          refine zJ_lload_n dX12_goGame_267 rfl rfl ?_
          refine zJ_lcmp dX12_goGame_268 rfl ?_
          refine zJ_if_gt (tgt := 275) dX12_goGame_269 (by decide) rfl (fun hc => ?_) (fun hc => ?_)
          · replace h := it_t hc h
            refine zJ_lload dX12_goGame_275 rfl rfl ?_
            refine zJ_lstore_n (ls' := [(2, .long t0_263j), (19, .long t0_263j), (0, .ref 54), (1, .int p1), (4, .long v4_64), (6, .long v6_64), (8, .long v8_64), (10, .int v10_64), (11, .int v11_64), (13, .long v13n43), (15, .long v15n44), (17, .long v17n45)]) dX12_goGame_277 rfl rfl rfl ?_
            refine zJ_iload dX12_goGame_278 rfl rfl ?_
            refine zJ_istore (ls' := [(10, .int v11_64), (2, .long t0_263j), (19, .long t0_263j), (0, .ref 54), (1, .int p1), (4, .long v4_64), (6, .long v6_64), (8, .long v8_64), (11, .int v11_64), (13, .long v13n43), (15, .long v15n44), (17, .long v17n45)]) dX12_goGame_280 rfl rfl rfl ?_
            refine zJ_lload dX12_goGame_282 rfl rfl ?_
            refine zJ_lstore (ls' := [(4, .long v13n43), (10, .int v11_64), (2, .long t0_263j), (19, .long t0_263j), (0, .ref 54), (1, .int p1), (6, .long v6_64), (8, .long v8_64), (11, .int v11_64), (13, .long v13n43), (15, .long v15n44), (17, .long v17n45)]) dX12_goGame_284 rfl rfl rfl ?_
            refine zJ_lload dX12_goGame_286 rfl rfl ?_
            refine zJ_lstore (ls' := [(6, .long v15n44), (4, .long v13n43), (10, .int v11_64), (2, .long t0_263j), (19, .long t0_263j), (0, .ref 54), (1, .int p1), (8, .long v8_64), (11, .int v11_64), (13, .long v13n43), (15, .long v15n44), (17, .long v17n45)]) dX12_goGame_288 rfl rfl rfl ?_
            refine zJ_lload dX12_goGame_290 rfl rfl ?_
            refine zJ_lstore (ls' := [(8, .long v17n45), (6, .long v15n44), (4, .long v13n43), (10, .int v11_64), (2, .long t0_263j), (19, .long t0_263j), (0, .ref 54), (1, .int p1), (11, .int v11_64), (13, .long v13n43), (15, .long v15n44), (17, .long v17n45)]) dX12_goGame_292 rfl rfl rfl ?_
            obtain ⟨v11n46, ev11n46, h⟩ := lt1_some h
            refine zJ_iincN (ls' := [(11, .int v11n46), (8, .long v17n45), (6, .long v15n44), (4, .long v13n43), (10, .int v11_64), (2, .long t0_263j), (19, .long t0_263j), (0, .ref 54), (1, .int p1), (13, .long v13n43), (15, .long v15n44), (17, .long v17n45)]) dX12_goGame_294 rfl rfl zc_1 ev11n46 rfl rfl ?_
            refine zJ_goto (tgt := 64) dX12_goGame_297 (by decide) ?_
            refine zJ_loc (ls' := [(0, .ref 54), (1, .int p1), (2, .long t0_263j), (4, .long v13n43), (6, .long v15n44), (8, .long v17n45), (10, .int v11_64), (11, .int v11n46)]) (zll_c rfl (zll_c rfl (zll_c rfl (zll_c rfl (zll_c rfl (zll_c rfl (zll_c rfl (zll_c rfl zll_n)))))))) ?_
            exact hrc64 _ _ _ _ _ _ _ _ _ _ _ _ _ _ _ _ _ _ _ h
          · replace h := it_f hc h
            refine zJ_goto (tgt := 294) dX12_goGame_272 (by decide) ?_
            obtain ⟨v11n47, ev11n47, h⟩ := lt1_some h
            refine zJ_iincN (ls' := [(11, .int v11n47), (19, .long t0_263j), (0, .ref 54), (1, .int p1), (2, .long v2_64), (4, .long v4_64), (6, .long v6_64), (8, .long v8_64), (10, .int v10_64), (13, .long v13n43), (15, .long v15n44), (17, .long v17n45)]) dX12_goGame_294 rfl rfl zc_1 ev11n47 rfl rfl ?_
            refine zJ_goto (tgt := 64) dX12_goGame_297 (by decide) ?_
            refine zJ_loc (ls' := [(0, .ref 54), (1, .int p1), (2, .long v2_64), (4, .long v4_64), (6, .long v6_64), (8, .long v8_64), (10, .int v10_64), (11, .int v11n47)]) (zll_c rfl (zll_c rfl (zll_c rfl (zll_c rfl (zll_c rfl (zll_c rfl (zll_c rfl (zll_c rfl zll_n)))))))) ?_
            exact hrc64 _ _ _ _ _ _ _ _ _ _ _ _ _ _ _ _ _ _ _ h
        refine zJ_if_ne (tgt := 251) dX12_goGame_243 (by decide) rfl (fun hc => ?_) (fun hc => ?_)
        · replace h := it_f hc h
          refine zJ_iload_n dX12_goGame_251 rfl rfl ?_
          refine zJ_iconst dX12_goGame_252 zc_1 rfl ?_
          refine zJ_icmp_ne (tgt := 261) dX12_goGame_253 (by decide) rfl (fun hc => ?_) (fun hc => ?_)
          · replace h := it_f hc h
            refine zJ_lload dX12_goGame_261 rfl rfl ?_
            refine zJ_loc (ls' := [(0, .ref 54), (1, .int p1), (2, .long v2_64), (4, .long v4_64), (6, .long v6_64), (8, .long v8_64), (10, .int v10_64), (11, .int v11_64), (13, .long v13n43), (15, .long v15n44), (17, .long v17n45)]) (zll_c rfl (zll_c rfl (zll_c rfl (zll_c rfl (zll_c rfl (zll_c rfl (zll_c rfl (zll_c rfl (zll_c rfl (zll_c rfl (zll_c rfl zll_n))))))))))) ?_
            exact hj_X12_goGame_263 _ h
          · replace h := it_t hc h
            refine zJ_lload dX12_goGame_256 rfl rfl ?_
            refine zJ_goto (tgt := 263) dX12_goGame_258 (by decide) ?_
            refine zJ_loc (ls' := [(0, .ref 54), (1, .int p1), (2, .long v2_64), (4, .long v4_64), (6, .long v6_64), (8, .long v8_64), (10, .int v10_64), (11, .int v11_64), (13, .long v13n43), (15, .long v15n44), (17, .long v17n45)]) (zll_c rfl (zll_c rfl (zll_c rfl (zll_c rfl (zll_c rfl (zll_c rfl (zll_c rfl (zll_c rfl (zll_c rfl (zll_c rfl (zll_c rfl zll_n))))))))))) ?_
            exact hj_X12_goGame_263 _ h
        · replace h := it_t hc h
          refine zJ_lload dX12_goGame_246 rfl rfl ?_
          refine zJ_goto (tgt := 263) dX12_goGame_248 (by decide) ?_
          refine zJ_loc (ls' := [(0, .ref 54), (1, .int p1), (2, .long v2_64), (4, .long v4_64), (6, .long v6_64), (8, .long v8_64), (10, .int v10_64), (11, .int v11_64), (13, .long v13n43), (15, .long v15n44), (17, .long v17n45)]) (zll_c rfl (zll_c rfl (zll_c rfl (zll_c rfl (zll_c rfl (zll_c rfl (zll_c rfl (zll_c rfl (zll_c rfl (zll_c rfl (zll_c rfl zll_n))))))))))) ?_
          exact hj_X12_goGame_263 _ h
    · replace h := it_t hc h
      refine zJ_iconst dX12_goGame_8 zc_0 rfl ?_
      refine zJ_istore_n (ls' := [(2, .int (0 : Int32)), (0, .ref 54), (1, .int p1)]) dX12_goGame_9 rfl rfl rfl ?_
      have hk10 : ∀ (m_wins_10x : (Nat → Int64)), k_X12_goGame_10 m_read m_length m_top m_at m_wrong m_isAsked m_askedHorse m_askedFence m_askedLetter m_askedHeight m_planOf m_extra m_wins_10x = some (w_m_read, w_m_length, w_m_top, w_m_at, w_m_wrong, w_m_isAsked, w_m_askedHorse, w_m_askedFence, w_m_askedLetter, w_m_askedHeight, w_m_planOf, w_m_extra, w_m_wins) → zJ l zW (n + 209) mX12_goGame σ ([(3457, m_fences), (3461, m_allowed), (3466, m_plans), (3474, m_read), (3475, m_length), (3476, m_top), (3477, m_at), (3478, m_wrong), (3483, m_ruleSize), (3484, m_isAsked), (3485, m_askedHorse), (3486, m_askedFence), (3487, m_askedLetter), (3488, m_askedHeight), (3503, m_comingMany)], [(55, m_now), (56, m_kind), (57, m_height), (58, m_feet), (59, m_stride), (60, m_scope), (61, m_care), (62, m_plan), (63, m_money), (69, m_rule), (78, m_coming), (80, m_planOf), (81, m_extra)], [(79, m_wins_10x)]) 44 [] [] none ([(3457, m_fences), (3461, m_allowed), (3466, m_plans), (3474, w_m_read), (3475, w_m_length), (3476, w_m_top), (3477, w_m_at), (3478, w_m_wrong), (3483, m_ruleSize), (3484, w_m_isAsked), (3485, w_m_askedHorse), (3486, w_m_askedFence), (3487, w_m_askedLetter), (3488, w_m_askedHeight), (3503, m_comingMany)], [(55, m_now), (56, m_kind), (57, m_height), (58, m_feet), (59, m_stride), (60, m_scope), (61, m_care), (62, m_plan), (63, m_money), (69, m_rule), (78, m_coming), (80, w_m_planOf), (81, w_m_extra)], [(79, w_m_wins)]) := by
        intro m_wins_10x h
        unfold k_X12_goGame_10 at h
        obtain ⟨rfl, rfl, rfl, rfl, rfl, rfl, rfl, rfl, rfl, rfl, rfl, rfl, rfl⟩ := so13 h
        exact zJ_vret dX12_goGame_44 rfl
      refine zJ_loc (ls' := [(0, .ref 54), (1, .int p1), (2, .int (0 : Int32))]) (zll_c rfl (zll_c rfl (zll_c rfl zll_n))) ?_
      refine ml2_J (fun (v2_10 : Int32) (m_wins_10 : (Nat → Int64)) => zJ l zW (n + 209) mX12_goGame σ ([(3457, m_fences), (3461, m_allowed), (3466, m_plans), (3474, m_read), (3475, m_length), (3476, m_top), (3477, m_at), (3478, m_wrong), (3483, m_ruleSize), (3484, m_isAsked), (3485, m_askedHorse), (3486, m_askedFence), (3487, m_askedLetter), (3488, m_askedHeight), (3503, m_comingMany)], [(55, m_now), (56, m_kind), (57, m_height), (58, m_feet), (59, m_stride), (60, m_scope), (61, m_care), (62, m_plan), (63, m_money), (69, m_rule), (78, m_coming), (80, m_planOf), (81, m_extra)], [(79, m_wins_10)]) 10 [(0, .ref 54), (1, .int p1), (2, .int v2_10)] [] none ([(3457, m_fences), (3461, m_allowed), (3466, m_plans), (3474, w_m_read), (3475, w_m_length), (3476, w_m_top), (3477, w_m_at), (3478, w_m_wrong), (3483, m_ruleSize), (3484, w_m_isAsked), (3485, w_m_askedHorse), (3486, w_m_askedFence), (3487, w_m_askedLetter), (3488, w_m_askedHeight), (3503, m_comingMany)], [(55, m_now), (56, m_kind), (57, m_height), (58, m_feet), (59, m_stride), (60, m_scope), (61, m_care), (62, m_plan), (63, m_money), (69, m_rule), (78, m_coming), (80, w_m_planOf), (81, w_m_extra)], [(79, w_m_wins)])) (fun rc10 hrc10 v2_10 m_wins_10 h => ?_) zN _ _ h
      unfold s_X12_goGame_10 at h
      refine zJ_iload_n dX12_goGame_10 rfl rfl ?_
      refine zJ_aload_n dX12_goGame_11 rfl rfl ?_
      refine zJ_geti (mi := mX12_goGame) (x := m_comingMany) dX12_goGame_12 F_X12_382 zW_54 rfl rfl rfl ?_
      refine zJ_icmp_ge (tgt := 44) dX12_goGame_15 (by decide) rfl (fun hc => ?_) (fun hc => ?_)
      · replace h := it_t hc h
        refine zJ_loc (ls' := []) zll_n ?_
        exact hk10 _ h
      · replace h := it_f hc h
        refine zJ_aload_n dX12_goGame_18 rfl rfl ?_
        refine zJ_getr (mi := mX12_goGame) dX12_goGame_19 F_X12_88 zW_54 rfl rfl ?_
        refine zJ_iconst dX12_goGame_22 zc_3 rfl ?_
        refine zJ_iload_n dX12_goGame_23 rfl rfl ?_
        refine zJ_imul dX12_goGame_24 rfl ?_
        refine zJ_iload_n dX12_goGame_25 rfl rfl ?_
        refine zJ_iadd dX12_goGame_26 rfl ?_
        refine zJ_aload_n dX12_goGame_27 rfl rfl ?_
        refine zJ_aload_n dX12_goGame_28 rfl rfl ?_
        refine zJ_iload_n dX12_goGame_29 rfl rfl ?_
        obtain ⟨rn48, hcl, h⟩ := bd1_some h
        refine zJ_callV2 (σ := σ) (L := ([(3457, m_fences), (3461, m_allowed), (3466, m_plans), (3474, m_read), (3475, m_length), (3476, m_top), (3477, m_at), (3478, m_wrong), (3483, m_ruleSize), (3484, m_isAsked), (3485, m_askedHorse), (3486, m_askedFence), (3487, m_askedLetter), (3488, m_askedHeight), (3503, m_comingMany)], [(55, m_now), (56, m_kind), (57, m_height), (58, m_feet), (59, m_stride), (60, m_scope), (61, m_care), (62, m_plan), (63, m_money), (69, m_rule), (78, m_coming), (80, m_planOf), (81, m_extra)], [(79, m_wins_10)])) (mi := mX12_goGame) (yi := mX12_placeThought) (as := [.int v2_10]) (st := [.ref 54, .int (((3 : Int32) * p1) + v2_10), .ref 79]) (L2 := ([(3457, m_fences), (3461, m_allowed), (3466, m_plans), (3474, m_read), (3475, m_length), (3476, m_top), (3477, m_at), (3478, m_wrong), (3483, m_ruleSize), (3484, m_isAsked), (3485, m_askedHorse), (3486, m_askedFence), (3487, m_askedLetter), (3488, m_askedHeight), (3503, m_comingMany)], [(55, m_now), (56, m_kind), (57, m_height), (58, m_feet), (59, m_stride), (60, m_scope), (61, m_care), (62, m_plan), (63, m_money), (69, m_rule), (78, m_coming), (80, m_planOf), (81, m_extra)], [(79, m_wins_10)])) dX12_goGame_30 ML_X12_385 Yv_X12_placeThought rfl zW_54 rfl rfl (t_X12_placeThought l _ hcl) (zsub_i (zle_c rfl zle_n) (zle_c rfl (zle_c rfl zle_n)) zle_n) (zjok_i rfl rfl (zle_c rfl (zle_c rfl (zle_c rfl (zle_c rfl (zle_c rfl (zle_c rfl (zle_c rfl (zle_c rfl (zle_c rfl (zle_c rfl (zle_c rfl (zle_c rfl (zle_c rfl (zle_c rfl (zle_c rfl zle_n))))))))))))))) rfl rfl (zle_c rfl (zle_c rfl (zle_c rfl (zle_c rfl (zle_c rfl (zle_c rfl (zle_c rfl (zle_c rfl (zle_c rfl (zle_c rfl (zle_c rfl (zle_c rfl (zle_c rfl zle_n))))))))))))) rfl rfl (zle_c rfl zle_n)) (by omega) (Nat.le_of_ble_eq_true rfl) rfl rfl ?_
        obtain ⟨rn49, hcl, h⟩ := bd1_some h
        refine zJ_callV2 (σ := σ) (L := ([(3457, m_fences), (3461, m_allowed), (3466, m_plans), (3474, m_read), (3475, m_length), (3476, m_top), (3477, m_at), (3478, m_wrong), (3483, m_ruleSize), (3484, m_isAsked), (3485, m_askedHorse), (3486, m_askedFence), (3487, m_askedLetter), (3488, m_askedHeight), (3503, m_comingMany)], [(55, m_now), (56, m_kind), (57, m_height), (58, m_feet), (59, m_stride), (60, m_scope), (61, m_care), (62, m_plan), (63, m_money), (69, m_rule), (78, m_coming), (80, m_planOf), (81, m_extra)], [(79, m_wins_10)])) (mi := mX12_goGame) (yi := mX12_moneyOf) (as := [.int rn48]) (st := [.int (((3 : Int32) * p1) + v2_10), .ref 79]) (L2 := ([(3457, m_fences), (3461, m_allowed), (3466, m_plans), (3474, m_read), (3475, m_length), (3476, m_top), (3477, m_at), (3478, m_wrong), (3483, m_ruleSize), (3484, m_isAsked), (3485, m_askedHorse), (3486, m_askedFence), (3487, m_askedLetter), (3488, m_askedHeight), (3503, m_comingMany)], [(55, m_now), (56, m_kind), (57, m_height), (58, m_feet), (59, m_stride), (60, m_scope), (61, m_care), (62, m_plan), (63, m_money), (69, m_rule), (78, m_coming), (80, m_planOf), (81, m_extra)], [(79, m_wins_10)])) dX12_goGame_33 ML_X12_362 Yv_X12_moneyOf rfl zW_54 rfl rfl (t_X12_moneyOf l _ hcl) (zsub_i zle_n (zle_c rfl zle_n) zle_n) (zjok_i rfl rfl (zle_c rfl (zle_c rfl (zle_c rfl (zle_c rfl (zle_c rfl (zle_c rfl (zle_c rfl (zle_c rfl (zle_c rfl (zle_c rfl (zle_c rfl (zle_c rfl (zle_c rfl (zle_c rfl (zle_c rfl zle_n))))))))))))))) rfl rfl (zle_c rfl (zle_c rfl (zle_c rfl (zle_c rfl (zle_c rfl (zle_c rfl (zle_c rfl (zle_c rfl (zle_c rfl (zle_c rfl (zle_c rfl (zle_c rfl (zle_c rfl zle_n))))))))))))) rfl rfl (zle_c rfl zle_n)) (by omega) (Nat.le_of_ble_eq_true rfl) rfl rfl ?_
        refine zJ_i2l dX12_goGame_36 rfl ?_
        obtain ⟨hg, h⟩ := gd_some h
        refine zK_last (mi := mX12_goGame) (f := m_wins_10) (lc' := [(79, (vp_updL m_wins_10 (((3 : Int32) * p1) + v2_10).toNatClampNeg rn49.toInt64))]) dX12_goGame_37 zW_79 (ix_in hg) rfl rfl rfl ?_
        obtain ⟨v2n50, ev2n50, h⟩ := lt1_some h
        refine zJ_iincN (ls' := [(2, .int v2n50), (0, .ref 54), (1, .int p1)]) dX12_goGame_38 rfl rfl zc_1 ev2n50 rfl rfl ?_
        refine zJ_goto (tgt := 10) dX12_goGame_41 (by decide) ?_
        refine zJ_loc (ls' := [(0, .ref 54), (1, .int p1), (2, .int v2n50)]) (zll_c rfl (zll_c rfl (zll_c rfl zll_n))) ?_
        exact hrc10 _ _ h

theorem t_X12_goGame (l : Launch) (σ : zS) (n : Nat) {p1 : Int32} {m_fences : Int32} {m_allowed : Int32} {m_plans : Int32} {m_read : Int32} {m_length : Int32} {m_top : Int32} {m_at : Int32} {m_wrong : Int32} {m_ruleSize : Int32} {m_isAsked : Int32} {m_askedHorse : Int32} {m_askedFence : Int32} {m_askedLetter : Int32} {m_askedHeight : Int32} {m_comingMany : Int32} {m_now : (Nat → Int32)} {m_kind : (Nat → Int32)} {m_height : (Nat → Int32)} {m_feet : (Nat → Int32)} {m_stride : (Nat → Int32)} {m_scope : (Nat → Int32)} {m_care : (Nat → Int32)} {m_plan : (Nat → Int32)} {m_money : (Nat → Int32)} {m_rule : (Nat → Int32)} {m_coming : (Nat → Int32)} {m_planOf : (Nat → Int32)} {m_extra : (Nat → Int32)} {m_wins : (Nat → Int64)} {w_m_read : Int32} {w_m_length : Int32} {w_m_top : Int32} {w_m_at : Int32} {w_m_wrong : Int32} {w_m_isAsked : Int32} {w_m_askedHorse : Int32} {w_m_askedFence : Int32} {w_m_askedLetter : Int32} {w_m_askedHeight : Int32} {w_m_planOf : (Nat → Int32)} {w_m_extra : (Nat → Int32)} {w_m_wins : (Nat → Int64)} (h : f_X12_goGame n p1 m_fences m_allowed m_plans m_read m_length m_top m_at m_wrong m_ruleSize m_isAsked m_askedHorse m_askedFence m_askedLetter m_askedHeight m_comingMany m_now m_kind m_height m_feet m_stride m_scope m_care m_plan m_money m_rule m_coming m_planOf m_extra m_wins = some (w_m_read, w_m_length, w_m_top, w_m_at, w_m_wrong, w_m_isAsked, w_m_askedHorse, w_m_askedFence, w_m_askedLetter, w_m_askedHeight, w_m_planOf, w_m_extra, w_m_wins)) : zMt l zW (n + 208) mX12_goGame σ ([(3457, m_fences), (3461, m_allowed), (3466, m_plans), (3474, m_read), (3475, m_length), (3476, m_top), (3477, m_at), (3478, m_wrong), (3483, m_ruleSize), (3484, m_isAsked), (3485, m_askedHorse), (3486, m_askedFence), (3487, m_askedLetter), (3488, m_askedHeight), (3503, m_comingMany)], [(55, m_now), (56, m_kind), (57, m_height), (58, m_feet), (59, m_stride), (60, m_scope), (61, m_care), (62, m_plan), (63, m_money), (69, m_rule), (78, m_coming), (80, m_planOf), (81, m_extra)], [(79, m_wins)]) [.ref 54, .int p1] none ([(3457, m_fences), (3461, m_allowed), (3466, m_plans), (3474, w_m_read), (3475, w_m_length), (3476, w_m_top), (3477, w_m_at), (3478, w_m_wrong), (3483, m_ruleSize), (3484, w_m_isAsked), (3485, w_m_askedHorse), (3486, w_m_askedFence), (3487, w_m_askedLetter), (3488, w_m_askedHeight), (3503, m_comingMany)], [(55, m_now), (56, m_kind), (57, m_height), (58, m_feet), (59, m_stride), (60, m_scope), (61, m_care), (62, m_plan), (63, m_money), (69, m_rule), (78, m_coming), (80, w_m_planOf), (81, w_m_extra)], [(79, w_m_wins)]) := (tg_X12_goGame l n) σ _ _ _ _ _ _ _ _ _ _ _ _ _ _ _ _ _ _ _ _ _ _ _ _ _ _ _ _ _ _ _ _ _ _ _ _ _ _ _ _ _ _ _ h
set_option maxRecDepth 100000 in
set_option maxHeartbeats 4000000 in
theorem t_X12_power (l : Launch) (σ : zS) {p0 : Int64} {p2 : Int32} {r : Int64} (h : f_X12_power p0 p2 = some r) : zMt l zW 0 mX12_power σ ([], [], []) [.long p0, .int p2] (some (.long r)) ([], [], []) := by
  refine zMt_of (ls := [(0, .long p0), (2, .int p2)]) (by decide) rfl (fun _ => Nat.le_of_ble_eq_true rfl) rfl ?_
  unfold f_X12_power at h
  refine zJ_lconst dX12_power_0 zl_1 rfl ?_
  refine zJ_lstore_n (ls' := [(3, .long (1 : Int64)), (0, .long p0), (2, .int p2)]) dX12_power_1 rfl rfl rfl ?_
  refine zJ_iconst dX12_power_2 zc_0 rfl ?_
  refine zJ_istore (ls' := [(5, .int (0 : Int32)), (3, .long (1 : Int64)), (0, .long p0), (2, .int p2)]) dX12_power_3 rfl rfl rfl ?_
  have hk5 : ∀ (v3_5x : Int64), k_X12_power_5  v3_5x = some r → zJ l zW 0 mX12_power σ ([], [], []) 21 [(3, .long v3_5x)] [] (some (.long r)) ([], [], []) := by
    intro v3_5x h
    unfold k_X12_power_5 at h
    refine zJ_lload_n dX12_power_21 rfl rfl ?_
    obtain rfl := so1 h
    exact zJ_lret dX12_power_22 rfl
  refine zJ_loc (ls' := [(0, .long p0), (2, .int p2), (3, .long (1 : Int64)), (5, .int (0 : Int32))]) (zll_c rfl (zll_c rfl (zll_c rfl (zll_c rfl zll_n)))) ?_
  refine ml2_J (fun (v3_5 : Int64) (v5_5 : Int32) => zJ l zW 0 mX12_power σ ([], [], []) 5 [(0, .long p0), (2, .int p2), (3, .long v3_5), (5, .int v5_5)] [] (some (.long r)) ([], [], [])) (fun rc5 hrc5 v3_5 v5_5 h => ?_) zN _ _ h
  unfold s_X12_power_5 at h
  refine zJ_iload dX12_power_5 rfl rfl ?_
  refine zJ_iload_n dX12_power_7 rfl rfl ?_
  refine zJ_icmp_ge (tgt := 21) dX12_power_8 (by decide) rfl (fun hc => ?_) (fun hc => ?_)
  · replace h := it_t hc h
    refine zJ_loc (ls' := [(3, .long v3_5)]) (zll_c rfl zll_n) ?_
    exact hk5 _ h
  · replace h := it_f hc h
    refine zJ_lload_n dX12_power_11 rfl rfl ?_
    refine zJ_lload_n dX12_power_12 rfl rfl ?_
    refine zJ_lmul dX12_power_13 rfl ?_
    obtain ⟨v3n1, ev3n1, h⟩ := lt1_some h
    refine zJ_nml ev3n1 ?_
    refine zJ_lstore_n (ls' := [(3, .long v3n1), (0, .long p0), (2, .int p2), (5, .int v5_5)]) dX12_power_14 rfl rfl rfl ?_
    obtain ⟨v5n2, ev5n2, h⟩ := lt1_some h
    refine zJ_iincN (ls' := [(5, .int v5n2), (3, .long v3n1), (0, .long p0), (2, .int p2)]) dX12_power_15 rfl rfl zc_1 ev5n2 rfl rfl ?_
    refine zJ_goto (tgt := 5) dX12_power_18 (by decide) ?_
    refine zJ_loc (ls' := [(0, .long p0), (2, .int p2), (3, .long v3n1), (5, .int v5n2)]) (zll_c rfl (zll_c rfl (zll_c rfl (zll_c rfl zll_n)))) ?_
    exact hrc5 _ _ h
set_option maxRecDepth 100000 in
set_option maxHeartbeats 4000000 in
theorem t_X12_readComing (l : Launch) (σ : zS) {p1 : Int32} {p2 : Int32} {m_horses : Int32} {m_plans : Int32} {m_typed : Int32} {m_comingMany : Int32} {m_text : (Nat → Int32)} {m_coming : (Nat → Int32)} {r : Int32} {w_m_typed : Int32} {w_m_comingMany : Int32} {w_m_coming : (Nat → Int32)} (h : f_X12_readComing p1 p2 m_horses m_plans m_typed m_comingMany m_text m_coming = some (r, w_m_typed, w_m_comingMany, w_m_coming)) : zMt l zW 1 mX12_readComing σ ([(3462, m_horses), (3466, m_plans), (3470, m_typed), (3503, m_comingMany)], [(64, m_text), (78, m_coming)], []) [.ref 54, .int p1, .int p2] (some (.int r)) ([(3462, m_horses), (3466, m_plans), (3470, w_m_typed), (3503, w_m_comingMany)], [(64, m_text), (78, w_m_coming)], []) := by
  refine zMt_of (ls := [(0, .ref 54), (1, .int p1), (2, .int p2)]) (by decide) rfl (fun _ => Nat.le_of_ble_eq_true rfl) rfl ?_
  unfold f_X12_readComing at h
  refine zJ_aload_n dX12_readComing_0 rfl rfl ?_
  refine zJ_geti (mi := mX12_readComing) (x := m_typed) dX12_readComing_1 F_X12_139 zW_54 rfl rfl rfl ?_
  refine zJ_istore_n (ls' := [(3, .int m_typed), (0, .ref 54), (1, .int p1), (2, .int p2)]) dX12_readComing_4 rfl rfl rfl ?_
  refine zJ_aload_n dX12_readComing_5 rfl rfl ?_
  refine zJ_iconst dX12_readComing_6 zc_0 rfl ?_
  refine zK_puti (mi := mX12_readComing) (la' := [(3462, m_horses), (3466, m_plans), (3470, (0 : Int32)), (3503, m_comingMany)]) zW_ok dX12_readComing_7 F_X12_139 P_12_14 zW_54 rfl rfl rfl ?_
  refine zJ_aload_n dX12_readComing_10 rfl rfl ?_
  refine zJ_geti (mi := mX12_readComing) (x := m_plans) dX12_readComing_11 F_X12_129 zW_54 rfl rfl rfl ?_
  refine zJ_if_ne (tgt := 20) dX12_readComing_14 (by decide) rfl (fun hc => ?_) (fun hc => ?_)
  · replace h := it_f hc h
    refine zJ_iconst dX12_readComing_20 zc_0 rfl ?_
    refine zJ_istore (ls' := [(4, .int (0 : Int32)), (3, .int m_typed), (0, .ref 54), (1, .int p1), (2, .int p2)]) dX12_readComing_21 rfl rfl rfl ?_
    have hk23 : ∀ (_u : Unit), k_X12_readComing_23 p1 m_typed m_comingMany m_text m_coming _u = some (r, w_m_typed, w_m_comingMany, w_m_coming) → zJ l zW 1 mX12_readComing σ ([(3462, m_horses), (3466, m_plans), (3470, (0 : Int32)), (3503, m_comingMany)], [(64, m_text), (78, m_coming)], []) 70 [(0, .ref 54), (1, .int p1), (3, .int m_typed)] [] (some (.int r)) ([(3462, m_horses), (3466, m_plans), (3470, w_m_typed), (3503, w_m_comingMany)], [(64, m_text), (78, w_m_coming)], []) := by
      intro _u h
      unfold k_X12_readComing_23 at h
      refine zJ_iload_n dX12_readComing_70 rfl rfl ?_
      refine zJ_iload_n dX12_readComing_71 rfl rfl ?_
      refine zJ_icmp_ge (tgt := 79) dX12_readComing_72 (by decide) rfl (fun hc => ?_) (fun hc => ?_)
      · replace h := it_t hc h
        refine zJ_iconst dX12_readComing_79 zc_0 rfl ?_
        refine zJ_istore (ls' := [(4, .int (0 : Int32)), (0, .ref 54), (1, .int p1), (3, .int m_typed)]) dX12_readComing_80 rfl rfl rfl ?_
        have hk82 : ∀ (m_coming_82x : (Nat → Int32)), k_X12_readComing_82 m_typed m_coming_82x = some (r, w_m_typed, w_m_comingMany, w_m_coming) → zJ l zW 1 mX12_readComing σ ([(3462, m_horses), (3466, m_plans), (3470, (0 : Int32)), (3503, m_comingMany)], [(64, m_text), (78, m_coming_82x)], []) 111 [(0, .ref 54), (3, .int m_typed)] [] (some (.int r)) ([(3462, m_horses), (3466, m_plans), (3470, w_m_typed), (3503, w_m_comingMany)], [(64, m_text), (78, w_m_coming)], []) := by
          intro m_coming_82x h
          unfold k_X12_readComing_82 at h
          refine zJ_aload_n dX12_readComing_111 rfl rfl ?_
          refine zJ_iload_n dX12_readComing_112 rfl rfl ?_
          refine zK_puti (mi := mX12_readComing) (la' := [(3462, m_horses), (3466, m_plans), (3470, (0 : Int32)), (3503, m_typed)]) zW_ok dX12_readComing_113 F_X12_382 P_12_47 zW_54 rfl rfl rfl ?_
          refine zJ_iconst dX12_readComing_116 zc_0 rfl ?_
          obtain ⟨rfl, rfl, rfl, rfl⟩ := so4 h
          exact zJ_iret dX12_readComing_117 rfl rfl
        refine zJ_loc (ls' := [(0, .ref 54), (3, .int m_typed), (4, .int (0 : Int32))]) (zll_c rfl (zll_c rfl (zll_c rfl zll_n))) ?_
        refine ml2_J (fun (v4_82 : Int32) (m_coming_82 : (Nat → Int32)) => zJ l zW 1 mX12_readComing σ ([(3462, m_horses), (3466, m_plans), (3470, (0 : Int32)), (3503, m_comingMany)], [(64, m_text), (78, m_coming_82)], []) 82 [(0, .ref 54), (3, .int m_typed), (4, .int v4_82)] [] (some (.int r)) ([(3462, m_horses), (3466, m_plans), (3470, w_m_typed), (3503, w_m_comingMany)], [(64, m_text), (78, w_m_coming)], [])) (fun rc82 hrc82 v4_82 m_coming_82 h => ?_) zN _ _ h
        unfold s_X12_readComing_82 at h
        refine zJ_iload dX12_readComing_82 rfl rfl ?_
        refine zJ_iload_n dX12_readComing_84 rfl rfl ?_
        refine zJ_icmp_ge (tgt := 111) dX12_readComing_85 (by decide) rfl (fun hc => ?_) (fun hc => ?_)
        · replace h := it_t hc h
          refine zJ_loc (ls' := [(0, .ref 54), (3, .int m_typed)]) (zll_c rfl (zll_c rfl zll_n)) ?_
          exact hk82 _ h
        · replace h := it_f hc h
          refine zJ_aload_n dX12_readComing_88 rfl rfl ?_
          refine zJ_getr (mi := mX12_readComing) dX12_readComing_89 F_X12_85 zW_54 rfl rfl ?_
          refine zJ_iload dX12_readComing_92 rfl rfl ?_
          refine zJ_aload_n dX12_readComing_94 rfl rfl ?_
          refine zJ_getr (mi := mX12_readComing) dX12_readComing_95 F_X12_41 zW_54 rfl rfl ?_
          refine zJ_iload dX12_readComing_98 rfl rfl ?_
          obtain ⟨hg, h⟩ := gd_some h
          refine zJ_bald (mi := mX12_readComing) (f := m_text) dX12_readComing_100 zW_64 (ix_in hg) rfl rfl ?_
          refine zJ_bipush dX12_readComing_101 zb_48 rfl ?_
          refine zJ_isub dX12_readComing_103 rfl ?_
          obtain ⟨hg, h⟩ := gd_some h
          refine zK_iast (mi := mX12_readComing) (f := m_coming_82) (lb' := [(64, m_text), (78, (upd m_coming_82 v4_82.toNatClampNeg ((m_text v4_82.toNatClampNeg) - (48 : Int32))))]) dX12_readComing_104 zW_78 (ix_in hg) rfl rfl rfl ?_
          obtain ⟨v4n1, ev4n1, h⟩ := lt1_some h
          refine zJ_iincN (ls' := [(4, .int v4n1), (0, .ref 54), (3, .int m_typed)]) dX12_readComing_105 rfl rfl zc_1 ev4n1 rfl rfl ?_
          refine zJ_goto (tgt := 82) dX12_readComing_108 (by decide) ?_
          refine zJ_loc (ls' := [(0, .ref 54), (3, .int m_typed), (4, .int v4n1)]) (zll_c rfl (zll_c rfl (zll_c rfl zll_n))) ?_
          exact hrc82 _ _ h
      · replace h := it_f hc h
        refine zJ_iconst dX12_readComing_75 zc_m1 rfl ?_
        refine zJ_iload_n dX12_readComing_76 rfl rfl ?_
        refine zJ_isub dX12_readComing_77 rfl ?_
        obtain ⟨rfl, rfl, rfl, rfl⟩ := so4 h
        exact zJ_iret dX12_readComing_78 rfl rfl
    refine zJ_loc (ls' := [(0, .ref 54), (1, .int p1), (2, .int p2), (3, .int m_typed), (4, .int (0 : Int32))]) (zll_c rfl (zll_c rfl (zll_c rfl (zll_c rfl (zll_c rfl zll_n))))) ?_
    refine ml1_J (fun (v4_23 : Int32) => zJ l zW 1 mX12_readComing σ ([(3462, m_horses), (3466, m_plans), (3470, (0 : Int32)), (3503, m_comingMany)], [(64, m_text), (78, m_coming)], []) 23 [(0, .ref 54), (1, .int p1), (2, .int p2), (3, .int m_typed), (4, .int v4_23)] [] (some (.int r)) ([(3462, m_horses), (3466, m_plans), (3470, w_m_typed), (3503, w_m_comingMany)], [(64, m_text), (78, w_m_coming)], [])) (fun rc23 hrc23 v4_23 h => ?_) zN _ h
    unfold s_X12_readComing_23 at h
    refine zJ_iload dX12_readComing_23 rfl rfl ?_
    refine zJ_iload_n dX12_readComing_25 rfl rfl ?_
    refine zJ_icmp_ge (tgt := 70) dX12_readComing_26 (by decide) rfl (fun hc => ?_) (fun hc => ?_)
    · replace h := it_t hc h
      refine zJ_loc (ls' := [(0, .ref 54), (1, .int p1), (3, .int m_typed)]) (zll_c rfl (zll_c rfl (zll_c rfl zll_n))) ?_
      exact hk23 _ h
    · replace h := it_f hc h
      refine zJ_iload dX12_readComing_29 rfl rfl ?_
      refine zJ_iload_n dX12_readComing_31 rfl rfl ?_
      refine zJ_icmp_eq (tgt := 59) dX12_readComing_32 (by decide) rfl (fun hc => ?_) (fun hc => ?_)
      · replace h := it_t hc h
        refine zJ_iconst dX12_readComing_59 zc_m1 rfl ?_
        refine zJ_iload dX12_readComing_60 rfl rfl ?_
        refine zJ_isub dX12_readComing_62 rfl ?_
        obtain ⟨rfl, rfl, rfl, rfl⟩ := so4 h
        exact zJ_iret dX12_readComing_63 rfl rfl
      · replace h := it_f hc h
        refine zJ_aload_n dX12_readComing_35 rfl rfl ?_
        refine zJ_getr (mi := mX12_readComing) dX12_readComing_36 F_X12_41 zW_54 rfl rfl ?_
        refine zJ_iload dX12_readComing_39 rfl rfl ?_
        obtain ⟨hg, h⟩ := gd_some h
        refine zJ_bald (mi := mX12_readComing) (f := m_text) dX12_readComing_41 zW_64 (ix_in hg) rfl rfl ?_
        refine zJ_bipush dX12_readComing_42 zb_48 rfl ?_
        refine zJ_bipush dX12_readComing_44 zb_48 rfl ?_
        refine zJ_aload_n dX12_readComing_46 rfl rfl ?_
        refine zJ_geti (mi := mX12_readComing) (x := m_horses) dX12_readComing_47 F_X12_126 zW_54 rfl rfl rfl ?_
        refine zJ_iadd dX12_readComing_50 rfl ?_
        refine zJ_iconst dX12_readComing_51 zc_1 rfl ?_
        refine zJ_isub dX12_readComing_52 rfl ?_
        obtain ⟨rn2, hcl, h⟩ := bd1_some h
        refine zJ_callS2 (σ := σ) (L := ([(3462, m_horses), (3466, m_plans), (3470, (0 : Int32)), (3503, m_comingMany)], [(64, m_text), (78, m_coming)], [])) (mi := mX12_readComing) (yi := mX12_in) (as := [.int (m_text v4_23.toNatClampNeg), .int (48 : Int32), .int (((48 : Int32) + m_horses) - (1 : Int32))]) (st := []) (L2 := ([(3462, m_horses), (3466, m_plans), (3470, (0 : Int32)), (3503, m_comingMany)], [(64, m_text), (78, m_coming)], [])) dX12_readComing_53 ML_X12_122 Ys_X12_in rfl (t_X12_in l _ hcl) (zsub_i zle_n zle_n zle_n) (zjok_i rfl rfl (zle_c rfl (zle_c rfl (zle_c rfl (zle_c rfl zle_n)))) rfl rfl (zle_c rfl (zle_c rfl zle_n)) rfl rfl zle_n) (Nat.le_of_ble_eq_true rfl) (Nat.le_of_ble_eq_true rfl) rfl rfl ?_
        refine zJ_if_ne (tgt := 64) dX12_readComing_56 (by decide) rfl (fun hc => ?_) (fun hc => ?_)
        · replace h := it_f hc h
          obtain ⟨v4n3, ev4n3, h⟩ := lt1_some h
          refine zJ_iincN (ls' := [(4, .int v4n3), (0, .ref 54), (1, .int p1), (2, .int p2), (3, .int m_typed)]) dX12_readComing_64 rfl rfl zc_1 ev4n3 rfl rfl ?_
          refine zJ_goto (tgt := 23) dX12_readComing_67 (by decide) ?_
          refine zJ_loc (ls' := [(0, .ref 54), (1, .int p1), (2, .int p2), (3, .int m_typed), (4, .int v4n3)]) (zll_c rfl (zll_c rfl (zll_c rfl (zll_c rfl (zll_c rfl zll_n))))) ?_
          exact hrc23 _ h
        · replace h := it_t hc h
          refine zJ_iconst dX12_readComing_59 zc_m1 rfl ?_
          refine zJ_iload dX12_readComing_60 rfl rfl ?_
          refine zJ_isub dX12_readComing_62 rfl ?_
          obtain ⟨rfl, rfl, rfl, rfl⟩ := so4 h
          exact zJ_iret dX12_readComing_63 rfl rfl
  · replace h := it_t hc h
    refine zJ_bipush dX12_readComing_17 zb_m100 rfl ?_
    obtain ⟨rfl, rfl, rfl, rfl⟩ := so4 h
    exact zJ_iret dX12_readComing_19 rfl rfl
set_option maxRecDepth 100000 in
set_option maxHeartbeats 4000000 in
theorem t_X12_tellPart (l : Launch) (σ : zS) {p1 : Int64} {p3 : Int64} {m_rowMany : Int32} {m_row : (Nat → Int64)} {w_m_rowMany : Int32} {w_m_row : (Nat → Int64)} (h : f_X12_tellPart p1 p3 m_rowMany m_row = some (w_m_rowMany, w_m_row)) : zMt l zW 201 mX12_tellPart σ ([(3472, m_rowMany)], [], [(65, m_row)]) [.ref 54, .long p1, .long p3] none ([(3472, w_m_rowMany)], [], [(65, w_m_row)]) := by
  refine zMt_of (ls := [(0, .ref 54), (1, .long p1), (3, .long p3)]) (by decide) rfl (fun _ => Nat.le_of_ble_eq_true rfl) rfl ?_
  unfold f_X12_tellPart at h
  refine zJ_lload_n dX12_tellPart_0 rfl rfl ?_
  refine zJ_mabsl (mi := mX12_tellPart) dX12_tellPart_1 L_X12_401 K_absl_s K_math K_absl_c (Nat.le_of_ble_eq_true rfl) (Nat.le_of_ble_eq_true rfl) rfl ?_
  refine zJ_lload_n dX12_tellPart_4 rfl rfl ?_
  obtain ⟨rn1, hcl, h⟩ := bd1_some h
  refine zJ_callS2 (σ := σ) (L := ([(3472, m_rowMany)], [], [(65, m_row)])) (mi := mX12_tellPart) (yi := mX12_common) (as := [.long (if 0 < p1 then p1 else -p1), .long p3]) (st := []) (L2 := ([(3472, m_rowMany)], [], [(65, m_row)])) dX12_tellPart_5 ML_X12_397 Ys_X12_common rfl (t_X12_common l _ 200 hcl) (zsub_i zle_n zle_n zle_n) (zjok_i rfl rfl (zle_c rfl zle_n) rfl rfl zle_n rfl rfl (zle_c rfl zle_n)) (Nat.le_of_ble_eq_true rfl) (Nat.le_of_ble_eq_true rfl) rfl rfl ?_
  refine zJ_lstore (ls' := [(5, .long rn1), (0, .ref 54), (1, .long p1), (3, .long p3)]) dX12_tellPart_8 rfl rfl rfl ?_
  refine zJ_aload_n dX12_tellPart_10 rfl rfl ?_
  refine zJ_lload_n dX12_tellPart_11 rfl rfl ?_
  refine zJ_lload dX12_tellPart_12 rfl rfl ?_
  obtain ⟨hg, h⟩ := gd_some h
  refine zJ_ldiv dX12_tellPart_14 (nzl_ne hg) rfl ?_
  obtain ⟨m_rowManyn2, m_rown3, hcl, h⟩ := bd2_some h
  refine zJ_callV2 (σ := σ) (L := ([(3472, m_rowMany)], [], [(65, m_row)])) (mi := mX12_tellPart) (yi := mX12_tell) (as := [.long (p1 / rn1)]) (st := []) (L2 := ([(3472, m_rowManyn2)], [], [(65, m_rown3)])) dX12_tellPart_15 ML_X12_265 Yv_X12_tell rfl zW_54 rfl rfl (t_X12_tell l _ hcl) (zsub_i (zle_c rfl zle_n) zle_n (zle_c rfl zle_n)) (zjok_i rfl rfl (zle_c rfl zle_n) rfl rfl zle_n rfl rfl (zle_c rfl zle_n)) (Nat.le_of_ble_eq_true rfl) (Nat.le_of_ble_eq_true rfl) rfl rfl ?_
  refine zJ_aload_n dX12_tellPart_18 rfl rfl ?_
  refine zJ_lload_n dX12_tellPart_19 rfl rfl ?_
  refine zJ_lload dX12_tellPart_20 rfl rfl ?_
  obtain ⟨hg, h⟩ := gd_some h
  refine zJ_ldiv dX12_tellPart_22 (nzl_ne hg) rfl ?_
  obtain ⟨m_rowManyn4, m_rown5, hcl, h⟩ := bd2_some h
  refine zJ_callV2 (σ := σ) (L := ([(3472, m_rowManyn2)], [], [(65, m_rown3)])) (mi := mX12_tellPart) (yi := mX12_tell) (as := [.long (p3 / rn1)]) (st := []) (L2 := ([(3472, m_rowManyn4)], [], [(65, m_rown5)])) dX12_tellPart_23 ML_X12_265 Yv_X12_tell rfl zW_54 rfl rfl (t_X12_tell l _ hcl) (zsub_i (zle_c rfl zle_n) zle_n (zle_c rfl zle_n)) (zjok_i rfl rfl (zle_c rfl zle_n) rfl rfl zle_n rfl rfl (zle_c rfl zle_n)) (Nat.le_of_ble_eq_true rfl) (Nat.le_of_ble_eq_true rfl) rfl rfl ?_
  obtain ⟨rfl, rfl⟩ := so2 h
  exact zJ_vret dX12_tellPart_26 rfl
set_option maxRecDepth 100000 in
set_option maxHeartbeats 4000000 in
theorem t_X12_game (l : Launch) (σ : zS) {m_fences : Int32} {m_allowed : Int32} {m_horses : Int32} {m_plans : Int32} {m_typed : Int32} {m_rowMany : Int32} {m_thrown : Int32} {m_read : Int32} {m_length : Int32} {m_top : Int32} {m_at : Int32} {m_wrong : Int32} {m_ruleSize : Int32} {m_isAsked : Int32} {m_askedHorse : Int32} {m_askedFence : Int32} {m_askedLetter : Int32} {m_askedHeight : Int32} {m_comingMany : Int32} {m_now : (Nat → Int32)} {m_kind : (Nat → Int32)} {m_height : (Nat → Int32)} {m_feet : (Nat → Int32)} {m_stride : (Nat → Int32)} {m_scope : (Nat → Int32)} {m_care : (Nat → Int32)} {m_plan : (Nat → Int32)} {m_money : (Nat → Int32)} {m_text : (Nat → Int32)} {m_rule : (Nat → Int32)} {m_coming : (Nat → Int32)} {m_planOf : (Nat → Int32)} {m_extra : (Nat → Int32)} {m_row : (Nat → Int64)} {m_wins : (Nat → Int64)} {r : Int32} {w_m_typed : Int32} {w_m_rowMany : Int32} {w_m_thrown : Int32} {w_m_read : Int32} {w_m_length : Int32} {w_m_top : Int32} {w_m_at : Int32} {w_m_wrong : Int32} {w_m_isAsked : Int32} {w_m_askedHorse : Int32} {w_m_askedFence : Int32} {w_m_askedLetter : Int32} {w_m_askedHeight : Int32} {w_m_comingMany : Int32} {w_m_coming : (Nat → Int32)} {w_m_planOf : (Nat → Int32)} {w_m_extra : (Nat → Int32)} {w_m_row : (Nat → Int64)} {w_m_wins : (Nat → Int64)} (h : f_X12_game m_fences m_allowed m_horses m_plans m_typed m_rowMany m_thrown m_read m_length m_top m_at m_wrong m_ruleSize m_isAsked m_askedHorse m_askedFence m_askedLetter m_askedHeight m_comingMany m_now m_kind m_height m_feet m_stride m_scope m_care m_plan m_money m_text m_rule m_coming m_planOf m_extra m_row m_wins = some (r, w_m_typed, w_m_rowMany, w_m_thrown, w_m_read, w_m_length, w_m_top, w_m_at, w_m_wrong, w_m_isAsked, w_m_askedHorse, w_m_askedFence, w_m_askedLetter, w_m_askedHeight, w_m_comingMany, w_m_coming, w_m_planOf, w_m_extra, w_m_row, w_m_wins)) : zMt l zW 409 mX12_game σ ([(3457, m_fences), (3461, m_allowed), (3462, m_horses), (3466, m_plans), (3470, m_typed), (3472, m_rowMany), (3473, m_thrown), (3474, m_read), (3475, m_length), (3476, m_top), (3477, m_at), (3478, m_wrong), (3483, m_ruleSize), (3484, m_isAsked), (3485, m_askedHorse), (3486, m_askedFence), (3487, m_askedLetter), (3488, m_askedHeight), (3503, m_comingMany)], [(55, m_now), (56, m_kind), (57, m_height), (58, m_feet), (59, m_stride), (60, m_scope), (61, m_care), (62, m_plan), (63, m_money), (64, m_text), (69, m_rule), (78, m_coming), (80, m_planOf), (81, m_extra)], [(65, m_row), (79, m_wins)]) [.ref 54] (some (.int r)) ([(3457, m_fences), (3461, m_allowed), (3462, m_horses), (3466, m_plans), (3470, w_m_typed), (3472, w_m_rowMany), (3473, w_m_thrown), (3474, w_m_read), (3475, w_m_length), (3476, w_m_top), (3477, w_m_at), (3478, w_m_wrong), (3483, m_ruleSize), (3484, w_m_isAsked), (3485, w_m_askedHorse), (3486, w_m_askedFence), (3487, w_m_askedLetter), (3488, w_m_askedHeight), (3503, w_m_comingMany)], [(55, m_now), (56, m_kind), (57, m_height), (58, m_feet), (59, m_stride), (60, m_scope), (61, m_care), (62, m_plan), (63, m_money), (64, m_text), (69, m_rule), (78, w_m_coming), (80, w_m_planOf), (81, w_m_extra)], [(65, w_m_row), (79, w_m_wins)]) := by
  refine zMt_of (ls := [(0, .ref 54)]) (by decide) rfl (fun _ => Nat.le_of_ble_eq_true rfl) rfl ?_
  unfold f_X12_game at h
  refine zJ_aload_n dX12_game_0 rfl rfl ?_
  refine zJ_iconst dX12_game_1 zc_0 rfl ?_
  refine zK_puti (mi := mX12_game) (la' := [(3457, m_fences), (3461, m_allowed), (3462, m_horses), (3466, m_plans), (3470, m_typed), (3472, m_rowMany), (3473, (0 : Int32)), (3474, m_read), (3475, m_length), (3476, m_top), (3477, m_at), (3478, m_wrong), (3483, m_ruleSize), (3484, m_isAsked), (3485, m_askedHorse), (3486, m_askedFence), (3487, m_askedLetter), (3488, m_askedHeight), (3503, m_comingMany)]) zW_ok dX12_game_2 F_X12_113 P_12_17 zW_54 rfl rfl rfl ?_
  refine zJ_aload_n dX12_game_5 rfl rfl ?_
  refine zJ_iconst dX12_game_6 zc_1 rfl ?_
  refine zJ_iconst dX12_game_7 zc_3 rfl ?_
  obtain ⟨rn1, m_typedn2, m_comingManyn3, m_comingn4, hcl, h⟩ := bd4_some h
  refine zJ_callV2 (σ := σ) (L := ([(3457, m_fences), (3461, m_allowed), (3462, m_horses), (3466, m_plans), (3470, m_typed), (3472, m_rowMany), (3473, (0 : Int32)), (3474, m_read), (3475, m_length), (3476, m_top), (3477, m_at), (3478, m_wrong), (3483, m_ruleSize), (3484, m_isAsked), (3485, m_askedHorse), (3486, m_askedFence), (3487, m_askedLetter), (3488, m_askedHeight), (3503, m_comingMany)], [(55, m_now), (56, m_kind), (57, m_height), (58, m_feet), (59, m_stride), (60, m_scope), (61, m_care), (62, m_plan), (63, m_money), (64, m_text), (69, m_rule), (78, m_coming), (80, m_planOf), (81, m_extra)], [(65, m_row), (79, m_wins)])) (mi := mX12_game) (yi := mX12_readComing) (as := [.int (1 : Int32), .int (3 : Int32)]) (st := []) (L2 := ([(3457, m_fences), (3461, m_allowed), (3462, m_horses), (3466, m_plans), (3470, m_typedn2), (3472, m_rowMany), (3473, (0 : Int32)), (3474, m_read), (3475, m_length), (3476, m_top), (3477, m_at), (3478, m_wrong), (3483, m_ruleSize), (3484, m_isAsked), (3485, m_askedHorse), (3486, m_askedFence), (3487, m_askedLetter), (3488, m_askedHeight), (3503, m_comingManyn3)], [(55, m_now), (56, m_kind), (57, m_height), (58, m_feet), (59, m_stride), (60, m_scope), (61, m_care), (62, m_plan), (63, m_money), (64, m_text), (69, m_rule), (78, m_comingn4), (80, m_planOf), (81, m_extra)], [(65, m_row), (79, m_wins)])) dX12_game_8 ML_X12_405 Yv_X12_readComing rfl zW_54 rfl rfl (t_X12_readComing l _ hcl) (zsub_i (zle_c rfl (zle_c rfl (zle_c rfl (zle_c rfl zle_n)))) (zle_c rfl (zle_c rfl zle_n)) zle_n) (zjok_i rfl rfl (zle_c rfl (zle_c rfl (zle_c rfl (zle_c rfl (zle_c rfl (zle_c rfl (zle_c rfl (zle_c rfl (zle_c rfl (zle_c rfl (zle_c rfl (zle_c rfl (zle_c rfl (zle_c rfl (zle_c rfl (zle_c rfl (zle_c rfl (zle_c rfl (zle_c rfl zle_n))))))))))))))))))) rfl rfl (zle_c rfl (zle_c rfl (zle_c rfl (zle_c rfl (zle_c rfl (zle_c rfl (zle_c rfl (zle_c rfl (zle_c rfl (zle_c rfl (zle_c rfl (zle_c rfl (zle_c rfl (zle_c rfl zle_n)))))))))))))) rfl rfl (zle_c rfl (zle_c rfl zle_n))) (Nat.le_of_ble_eq_true rfl) (Nat.le_of_ble_eq_true rfl) rfl rfl ?_
  refine zJ_istore_n (ls' := [(1, .int rn1), (0, .ref 54)]) dX12_game_11 rfl rfl rfl ?_
  refine zJ_iload_n dX12_game_12 rfl rfl ?_
  refine zJ_if_ge (tgt := 18) dX12_game_13 (by decide) rfl (fun hc => ?_) (fun hc => ?_)
  · replace h := it_t hc h
    refine zJ_aload_n dX12_game_18 rfl rfl ?_
    refine zJ_iconst dX12_game_19 zc_0 rfl ?_
    obtain ⟨m_readn5, m_lengthn6, m_topn7, m_atn8, m_wrongn9, m_isAskedn10, m_askedHorsen11, m_askedFencen12, m_askedLettern13, m_askedHeightn14, m_planOfn15, m_extran16, m_winsn17, hcl, h⟩ := bd13_some h
    refine zJ_callV2 (σ := σ) (L := ([(3457, m_fences), (3461, m_allowed), (3462, m_horses), (3466, m_plans), (3470, m_typedn2), (3472, m_rowMany), (3473, (0 : Int32)), (3474, m_read), (3475, m_length), (3476, m_top), (3477, m_at), (3478, m_wrong), (3483, m_ruleSize), (3484, m_isAsked), (3485, m_askedHorse), (3486, m_askedFence), (3487, m_askedLetter), (3488, m_askedHeight), (3503, m_comingManyn3)], [(55, m_now), (56, m_kind), (57, m_height), (58, m_feet), (59, m_stride), (60, m_scope), (61, m_care), (62, m_plan), (63, m_money), (64, m_text), (69, m_rule), (78, m_comingn4), (80, m_planOf), (81, m_extra)], [(65, m_row), (79, m_wins)])) (mi := mX12_game) (yi := mX12_goGame) (as := [.int (0 : Int32)]) (st := []) (L2 := ([(3457, m_fences), (3461, m_allowed), (3462, m_horses), (3466, m_plans), (3470, m_typedn2), (3472, m_rowMany), (3473, (0 : Int32)), (3474, m_readn5), (3475, m_lengthn6), (3476, m_topn7), (3477, m_atn8), (3478, m_wrongn9), (3483, m_ruleSize), (3484, m_isAskedn10), (3485, m_askedHorsen11), (3486, m_askedFencen12), (3487, m_askedLettern13), (3488, m_askedHeightn14), (3503, m_comingManyn3)], [(55, m_now), (56, m_kind), (57, m_height), (58, m_feet), (59, m_stride), (60, m_scope), (61, m_care), (62, m_plan), (63, m_money), (64, m_text), (69, m_rule), (78, m_comingn4), (80, m_planOfn15), (81, m_extran16)], [(65, m_row), (79, m_winsn17)])) dX12_game_20 ML_X12_394 Yv_X12_goGame rfl zW_54 rfl rfl (t_X12_goGame l _ 200 hcl) (zsub_i (zle_c rfl (zle_c rfl (zle_c rfl (zle_c rfl (zle_c rfl (zle_c rfl (zle_c rfl (zle_c rfl (zle_c rfl (zle_c rfl (zle_c rfl (zle_c rfl (zle_c rfl (zle_c rfl (zle_c rfl zle_n))))))))))))))) (zle_c rfl (zle_c rfl (zle_c rfl (zle_c rfl (zle_c rfl (zle_c rfl (zle_c rfl (zle_c rfl (zle_c rfl (zle_c rfl (zle_c rfl (zle_c rfl (zle_c rfl zle_n))))))))))))) (zle_c rfl zle_n)) (zjok_i rfl rfl (zle_c rfl (zle_c rfl (zle_c rfl (zle_c rfl (zle_c rfl (zle_c rfl (zle_c rfl (zle_c rfl (zle_c rfl (zle_c rfl (zle_c rfl (zle_c rfl (zle_c rfl (zle_c rfl (zle_c rfl (zle_c rfl (zle_c rfl (zle_c rfl (zle_c rfl zle_n))))))))))))))))))) rfl rfl (zle_c rfl (zle_c rfl (zle_c rfl (zle_c rfl (zle_c rfl (zle_c rfl (zle_c rfl (zle_c rfl (zle_c rfl (zle_c rfl (zle_c rfl (zle_c rfl (zle_c rfl (zle_c rfl zle_n)))))))))))))) rfl rfl (zle_c rfl (zle_c rfl zle_n))) (Nat.le_of_ble_eq_true rfl) (Nat.le_of_ble_eq_true rfl) rfl rfl ?_
    refine zJ_aload_n dX12_game_23 rfl rfl ?_
    refine zJ_iconst dX12_game_24 zc_0 rfl ?_
    refine zK_puti (mi := mX12_game) (la' := [(3457, m_fences), (3461, m_allowed), (3462, m_horses), (3466, m_plans), (3470, m_typedn2), (3472, (0 : Int32)), (3473, (0 : Int32)), (3474, m_readn5), (3475, m_lengthn6), (3476, m_topn7), (3477, m_atn8), (3478, m_wrongn9), (3483, m_ruleSize), (3484, m_isAskedn10), (3485, m_askedHorsen11), (3486, m_askedFencen12), (3487, m_askedLettern13), (3488, m_askedHeightn14), (3503, m_comingManyn3)]) zW_ok dX12_game_25 F_X12_116 P_12_16 zW_54 rfl rfl rfl ?_
    refine zJ_iconst dX12_game_28 zc_0 rfl ?_
    refine zJ_istore_n (ls' := [(2, .int (0 : Int32)), (1, .int rn1), (0, .ref 54)]) dX12_game_29 rfl rfl rfl ?_
    have hk30 : ∀ (m_rowMany_30x : Int32) (m_row_30x : (Nat → Int64)), k_X12_game_30 m_typedn2 m_comingManyn3 m_comingn4 m_readn5 m_lengthn6 m_topn7 m_atn8 m_wrongn9 m_isAskedn10 m_askedHorsen11 m_askedFencen12 m_askedLettern13 m_askedHeightn14 m_planOfn15 m_extran16 m_winsn17 m_rowMany_30x m_row_30x = some (r, w_m_typed, w_m_rowMany, w_m_thrown, w_m_read, w_m_length, w_m_top, w_m_at, w_m_wrong, w_m_isAsked, w_m_askedHorse, w_m_askedFence, w_m_askedLetter, w_m_askedHeight, w_m_comingMany, w_m_coming, w_m_planOf, w_m_extra, w_m_row, w_m_wins) → zJ l zW 409 mX12_game σ ([(3457, m_fences), (3461, m_allowed), (3462, m_horses), (3466, m_plans), (3470, m_typedn2), (3472, m_rowMany_30x), (3473, (0 : Int32)), (3474, m_readn5), (3475, m_lengthn6), (3476, m_topn7), (3477, m_atn8), (3478, m_wrongn9), (3483, m_ruleSize), (3484, m_isAskedn10), (3485, m_askedHorsen11), (3486, m_askedFencen12), (3487, m_askedLettern13), (3488, m_askedHeightn14), (3503, m_comingManyn3)], [(55, m_now), (56, m_kind), (57, m_height), (58, m_feet), (59, m_stride), (60, m_scope), (61, m_care), (62, m_plan), (63, m_money), (64, m_text), (69, m_rule), (78, m_comingn4), (80, m_planOfn15), (81, m_extran16)], [(65, m_row_30x), (79, m_winsn17)]) 64 [(0, .ref 54)] [] (some (.int r)) ([(3457, m_fences), (3461, m_allowed), (3462, m_horses), (3466, m_plans), (3470, w_m_typed), (3472, w_m_rowMany), (3473, w_m_thrown), (3474, w_m_read), (3475, w_m_length), (3476, w_m_top), (3477, w_m_at), (3478, w_m_wrong), (3483, m_ruleSize), (3484, w_m_isAsked), (3485, w_m_askedHorse), (3486, w_m_askedFence), (3487, w_m_askedLetter), (3488, w_m_askedHeight), (3503, w_m_comingMany)], [(55, m_now), (56, m_kind), (57, m_height), (58, m_feet), (59, m_stride), (60, m_scope), (61, m_care), (62, m_plan), (63, m_money), (64, m_text), (69, m_rule), (78, w_m_coming), (80, w_m_planOf), (81, w_m_extra)], [(65, w_m_row), (79, w_m_wins)]) := by
      intro m_rowMany_30x m_row_30x h
      unfold k_X12_game_30 at h
      refine zJ_aload_n dX12_game_64 rfl rfl ?_
      refine zJ_getr (mi := mX12_game) dX12_game_65 F_X12_91 zW_54 rfl rfl ?_
      refine zJ_iconst dX12_game_68 zc_0 rfl ?_
      obtain ⟨hg, h⟩ := gd_some h
      refine zJ_iald (mi := mX12_game) (f := m_planOfn15) dX12_game_69 zW_80 (ix_in hg) rfl rfl ?_
      obtain ⟨rfl, rfl, rfl, rfl, rfl, rfl, rfl, rfl, rfl, rfl, rfl, rfl, rfl, rfl, rfl, rfl, rfl, rfl, rfl, rfl⟩ := so20 h
      exact zJ_iret dX12_game_70 rfl rfl
    refine zJ_loc (ls' := [(0, .ref 54), (2, .int (0 : Int32))]) (zll_c rfl (zll_c rfl zll_n)) ?_
    refine ml3_J (fun (v2_30 : Int32) (m_rowMany_30 : Int32) (m_row_30 : (Nat → Int64)) => zJ l zW 409 mX12_game σ ([(3457, m_fences), (3461, m_allowed), (3462, m_horses), (3466, m_plans), (3470, m_typedn2), (3472, m_rowMany_30), (3473, (0 : Int32)), (3474, m_readn5), (3475, m_lengthn6), (3476, m_topn7), (3477, m_atn8), (3478, m_wrongn9), (3483, m_ruleSize), (3484, m_isAskedn10), (3485, m_askedHorsen11), (3486, m_askedFencen12), (3487, m_askedLettern13), (3488, m_askedHeightn14), (3503, m_comingManyn3)], [(55, m_now), (56, m_kind), (57, m_height), (58, m_feet), (59, m_stride), (60, m_scope), (61, m_care), (62, m_plan), (63, m_money), (64, m_text), (69, m_rule), (78, m_comingn4), (80, m_planOfn15), (81, m_extran16)], [(65, m_row_30), (79, m_winsn17)]) 30 [(0, .ref 54), (2, .int v2_30)] [] (some (.int r)) ([(3457, m_fences), (3461, m_allowed), (3462, m_horses), (3466, m_plans), (3470, w_m_typed), (3472, w_m_rowMany), (3473, w_m_thrown), (3474, w_m_read), (3475, w_m_length), (3476, w_m_top), (3477, w_m_at), (3478, w_m_wrong), (3483, m_ruleSize), (3484, w_m_isAsked), (3485, w_m_askedHorse), (3486, w_m_askedFence), (3487, w_m_askedLetter), (3488, w_m_askedHeight), (3503, w_m_comingMany)], [(55, m_now), (56, m_kind), (57, m_height), (58, m_feet), (59, m_stride), (60, m_scope), (61, m_care), (62, m_plan), (63, m_money), (64, m_text), (69, m_rule), (78, w_m_coming), (80, w_m_planOf), (81, w_m_extra)], [(65, w_m_row), (79, w_m_wins)])) (fun rc30 hrc30 v2_30 m_rowMany_30 m_row_30 h => ?_) zN _ _ _ h
    unfold s_X12_game_30 at h
    refine zJ_iload_n dX12_game_30 rfl rfl ?_
    refine zJ_aload_n dX12_game_31 rfl rfl ?_
    refine zJ_geti (mi := mX12_game) (x := m_comingManyn3) dX12_game_32 F_X12_382 zW_54 rfl rfl rfl ?_
    refine zJ_icmp_ge (tgt := 64) dX12_game_35 (by decide) rfl (fun hc => ?_) (fun hc => ?_)
    · replace h := it_t hc h
      refine zJ_loc (ls' := [(0, .ref 54)]) (zll_c rfl zll_n) ?_
      exact hk30 _ _ h
    · replace h := it_f hc h
      refine zJ_aload_n dX12_game_38 rfl rfl ?_
      refine zJ_aload_n dX12_game_39 rfl rfl ?_
      refine zJ_getr (mi := mX12_game) dX12_game_40 F_X12_88 zW_54 rfl rfl ?_
      refine zJ_iload_n dX12_game_43 rfl rfl ?_
      obtain ⟨hg, h⟩ := gd_some h
      refine zJ_lald (mi := mX12_game) (f := m_winsn17) dX12_game_44 zW_79 (ix_in hg) rfl rfl ?_
      refine zJ_ldc2_w (v := 10000) dX12_game_45 C_X12_408 rfl ?_
      refine zJ_aload_n dX12_game_48 rfl rfl ?_
      refine zJ_geti (mi := mX12_game) (x := m_comingManyn3) dX12_game_49 F_X12_382 zW_54 rfl rfl rfl ?_
      obtain ⟨rn18, hcl, h⟩ := bd1_some h
      refine zJ_callS2 (σ := σ) (L := ([(3457, m_fences), (3461, m_allowed), (3462, m_horses), (3466, m_plans), (3470, m_typedn2), (3472, m_rowMany_30), (3473, (0 : Int32)), (3474, m_readn5), (3475, m_lengthn6), (3476, m_topn7), (3477, m_atn8), (3478, m_wrongn9), (3483, m_ruleSize), (3484, m_isAskedn10), (3485, m_askedHorsen11), (3486, m_askedFencen12), (3487, m_askedLettern13), (3488, m_askedHeightn14), (3503, m_comingManyn3)], [(55, m_now), (56, m_kind), (57, m_height), (58, m_feet), (59, m_stride), (60, m_scope), (61, m_care), (62, m_plan), (63, m_money), (64, m_text), (69, m_rule), (78, m_comingn4), (80, m_planOfn15), (81, m_extran16)], [(65, m_row_30), (79, m_winsn17)])) (mi := mX12_game) (yi := mX12_power) (as := [.long (10000 : Int64), .int m_comingManyn3]) (st := [.long (m_winsn17 v2_30.toNatClampNeg), .ref 54]) (L2 := ([(3457, m_fences), (3461, m_allowed), (3462, m_horses), (3466, m_plans), (3470, m_typedn2), (3472, m_rowMany_30), (3473, (0 : Int32)), (3474, m_readn5), (3475, m_lengthn6), (3476, m_topn7), (3477, m_atn8), (3478, m_wrongn9), (3483, m_ruleSize), (3484, m_isAskedn10), (3485, m_askedHorsen11), (3486, m_askedFencen12), (3487, m_askedLettern13), (3488, m_askedHeightn14), (3503, m_comingManyn3)], [(55, m_now), (56, m_kind), (57, m_height), (58, m_feet), (59, m_stride), (60, m_scope), (61, m_care), (62, m_plan), (63, m_money), (64, m_text), (69, m_rule), (78, m_comingn4), (80, m_planOfn15), (81, m_extran16)], [(65, m_row_30), (79, m_winsn17)])) dX12_game_52 ML_X12_410 Ys_X12_power rfl (t_X12_power l _ hcl) (zsub_i zle_n zle_n zle_n) (zjok_i rfl rfl (zle_c rfl (zle_c rfl (zle_c rfl (zle_c rfl (zle_c rfl (zle_c rfl (zle_c rfl (zle_c rfl (zle_c rfl (zle_c rfl (zle_c rfl (zle_c rfl (zle_c rfl (zle_c rfl (zle_c rfl (zle_c rfl (zle_c rfl (zle_c rfl (zle_c rfl zle_n))))))))))))))))))) rfl rfl (zle_c rfl (zle_c rfl (zle_c rfl (zle_c rfl (zle_c rfl (zle_c rfl (zle_c rfl (zle_c rfl (zle_c rfl (zle_c rfl (zle_c rfl (zle_c rfl (zle_c rfl (zle_c rfl zle_n)))))))))))))) rfl rfl (zle_c rfl (zle_c rfl zle_n))) (Nat.le_of_ble_eq_true rfl) (Nat.le_of_ble_eq_true rfl) rfl rfl ?_
      obtain ⟨m_rowManyn19, m_rown20, hcl, h⟩ := bd2_some h
      refine zJ_callV2 (σ := σ) (L := ([(3457, m_fences), (3461, m_allowed), (3462, m_horses), (3466, m_plans), (3470, m_typedn2), (3472, m_rowMany_30), (3473, (0 : Int32)), (3474, m_readn5), (3475, m_lengthn6), (3476, m_topn7), (3477, m_atn8), (3478, m_wrongn9), (3483, m_ruleSize), (3484, m_isAskedn10), (3485, m_askedHorsen11), (3486, m_askedFencen12), (3487, m_askedLettern13), (3488, m_askedHeightn14), (3503, m_comingManyn3)], [(55, m_now), (56, m_kind), (57, m_height), (58, m_feet), (59, m_stride), (60, m_scope), (61, m_care), (62, m_plan), (63, m_money), (64, m_text), (69, m_rule), (78, m_comingn4), (80, m_planOfn15), (81, m_extran16)], [(65, m_row_30), (79, m_winsn17)])) (mi := mX12_game) (yi := mX12_tellPart) (as := [.long (m_winsn17 v2_30.toNatClampNeg), .long rn18]) (st := []) (L2 := ([(3457, m_fences), (3461, m_allowed), (3462, m_horses), (3466, m_plans), (3470, m_typedn2), (3472, m_rowManyn19), (3473, (0 : Int32)), (3474, m_readn5), (3475, m_lengthn6), (3476, m_topn7), (3477, m_atn8), (3478, m_wrongn9), (3483, m_ruleSize), (3484, m_isAskedn10), (3485, m_askedHorsen11), (3486, m_askedFencen12), (3487, m_askedLettern13), (3488, m_askedHeightn14), (3503, m_comingManyn3)], [(55, m_now), (56, m_kind), (57, m_height), (58, m_feet), (59, m_stride), (60, m_scope), (61, m_care), (62, m_plan), (63, m_money), (64, m_text), (69, m_rule), (78, m_comingn4), (80, m_planOfn15), (81, m_extran16)], [(65, m_rown20), (79, m_winsn17)])) dX12_game_55 ML_X12_414 Yv_X12_tellPart rfl zW_54 rfl rfl (t_X12_tellPart l _ hcl) (zsub_i (zle_c rfl zle_n) zle_n (zle_c rfl zle_n)) (zjok_i rfl rfl (zle_c rfl (zle_c rfl (zle_c rfl (zle_c rfl (zle_c rfl (zle_c rfl (zle_c rfl (zle_c rfl (zle_c rfl (zle_c rfl (zle_c rfl (zle_c rfl (zle_c rfl (zle_c rfl (zle_c rfl (zle_c rfl (zle_c rfl (zle_c rfl (zle_c rfl zle_n))))))))))))))))))) rfl rfl (zle_c rfl (zle_c rfl (zle_c rfl (zle_c rfl (zle_c rfl (zle_c rfl (zle_c rfl (zle_c rfl (zle_c rfl (zle_c rfl (zle_c rfl (zle_c rfl (zle_c rfl (zle_c rfl zle_n)))))))))))))) rfl rfl (zle_c rfl (zle_c rfl zle_n))) (Nat.le_of_ble_eq_true rfl) (Nat.le_of_ble_eq_true rfl) rfl rfl ?_
      obtain ⟨v2n21, ev2n21, h⟩ := lt1_some h
      refine zJ_iincN (ls' := [(2, .int v2n21), (0, .ref 54)]) dX12_game_58 rfl rfl zc_1 ev2n21 rfl rfl ?_
      refine zJ_goto (tgt := 30) dX12_game_61 (by decide) ?_
      refine zJ_loc (ls' := [(0, .ref 54), (2, .int v2n21)]) (zll_c rfl (zll_c rfl zll_n)) ?_
      exact hrc30 _ _ _ h
  · replace h := it_f hc h
    refine zJ_iload_n dX12_game_16 rfl rfl ?_
    obtain ⟨rfl, rfl, rfl, rfl, rfl, rfl, rfl, rfl, rfl, rfl, rfl, rfl, rfl, rfl, rfl, rfl, rfl, rfl, rfl, rfl⟩ := so20 h
    exact zJ_iret dX12_game_17 rfl rfl
set_option maxRecDepth 100000 in
set_option maxHeartbeats 4000000 in
theorem t_X12_passes_t (l : Launch) (σ : zS) {p1 : Int32} {m_length : Int32} {m_top : Int32} {m_at : Int32} {m_wrong : Int32} {m_text : (Nat → Int32)} {r : Int32} {w_m_at : Int32} (h : f_X12_passes_t p1 m_length m_top m_at m_wrong m_text = some (r, w_m_at)) : zMt l zW 1 mX12_passes σ ([(3474, (nI 64)), (3475, m_length), (3476, m_top), (3477, m_at), (3478, m_wrong)], [(64, m_text)], []) [.ref 54, .int p1] (some (.int r)) ([(3474, (nI 64)), (3475, m_length), (3476, m_top), (3477, w_m_at), (3478, m_wrong)], [(64, m_text)], []) := by
  refine zMt_of (ls := [(0, .ref 54), (1, .int p1)]) (by decide) rfl (fun _ => Nat.le_of_ble_eq_true rfl) rfl ?_
  unfold f_X12_passes_t at h
  refine zJ_aload_n dX12_passes_0 rfl rfl ?_
  obtain ⟨rn1, hcl, h⟩ := bd1_some h
  refine zJ_callV2 (σ := σ) (L := ([(3474, (nI 64)), (3475, m_length), (3476, m_top), (3477, m_at), (3478, m_wrong)], [(64, m_text)], [])) (mi := mX12_passes) (yi := mX12_fine) (as := []) (st := []) (L2 := ([(3474, (nI 64)), (3475, m_length), (3476, m_top), (3477, m_at), (3478, m_wrong)], [(64, m_text)], [])) dX12_passes_1 ML_X12_157 Yv_X12_fine rfl zW_54 rfl rfl (t_X12_fine l _ hcl) (zsub_i (zle_c rfl zle_n) zle_n zle_n) (zjok_i rfl rfl (zle_c rfl (zle_c rfl (zle_c rfl (zle_c rfl (zle_c rfl zle_n))))) rfl rfl (zle_c rfl zle_n) rfl rfl zle_n) (Nat.le_of_ble_eq_true rfl) (Nat.le_of_ble_eq_true rfl) rfl rfl ?_
  refine zJ_if_eq (tgt := 15) dX12_passes_4 (by decide) rfl (fun hc => ?_) (fun hc => ?_)
  · replace h := it_t hc h
    refine zJ_iconst dX12_passes_15 zc_0 rfl ?_
    obtain ⟨rfl, rfl⟩ := so2 h
    exact zJ_iret dX12_passes_16 rfl (by decide)
  · replace h := it_f hc h
    refine zJ_aload_n dX12_passes_7 rfl rfl ?_
    obtain ⟨rn2, hcl, h⟩ := bd1_some h
    refine zJ_callV2 (σ := σ) (L := ([(3474, (nI 64)), (3475, m_length), (3476, m_top), (3477, m_at), (3478, m_wrong)], [(64, m_text)], [])) (mi := mX12_passes) (yi := mX12_here) (as := []) (st := []) (L2 := ([(3474, (nI 64)), (3475, m_length), (3476, m_top), (3477, m_at), (3478, m_wrong)], [(64, m_text)], [])) dX12_passes_8 ML_X12_161 Yv_X12_here rfl zW_54 rfl rfl (t_X12_here_t l _ hcl) (zsub_i (zle_c rfl (zle_c rfl (zle_c rfl (zle_c rfl zle_n)))) (zle_c rfl zle_n) zle_n) (zjok_i rfl rfl (zle_c rfl (zle_c rfl (zle_c rfl (zle_c rfl (zle_c rfl zle_n))))) rfl rfl (zle_c rfl zle_n) rfl rfl zle_n) (Nat.le_of_ble_eq_true rfl) (Nat.le_of_ble_eq_true rfl) rfl rfl ?_
    refine zJ_iload_n dX12_passes_11 rfl rfl ?_
    refine zJ_icmp_eq (tgt := 17) dX12_passes_12 (by decide) rfl (fun hc => ?_) (fun hc => ?_)
    · replace h := it_t hc h
      refine zJ_aload_n dX12_passes_17 rfl rfl ?_
      refine zJ_dup dX12_passes_18 rfl rfl ?_
      refine zJ_geti (mi := mX12_passes) (x := m_at) dX12_passes_19 F_X12_151 zW_54 rfl rfl rfl ?_
      refine zJ_iconst dX12_passes_22 zc_1 rfl ?_
      refine zJ_iadd dX12_passes_23 rfl ?_
      refine zK_puti (mi := mX12_passes) (la' := [(3474, (nI 64)), (3475, m_length), (3476, m_top), (3477, (m_at + (1 : Int32))), (3478, m_wrong)]) zW_ok dX12_passes_24 F_X12_151 P_12_21 zW_54 rfl rfl rfl ?_
      refine zJ_iconst dX12_passes_27 zc_1 rfl ?_
      obtain ⟨rfl, rfl⟩ := so2 h
      exact zJ_iret dX12_passes_28 rfl (by decide)
    · replace h := it_f hc h
      refine zJ_iconst dX12_passes_15 zc_0 rfl ?_
      obtain ⟨rfl, rfl⟩ := so2 h
      exact zJ_iret dX12_passes_16 rfl (by decide)
set_option maxRecDepth 100000 in
set_option maxHeartbeats 4000000 in
theorem t_X12_need_t (l : Launch) (σ : zS) {p1 : Int32} {m_length : Int32} {m_top : Int32} {m_at : Int32} {m_wrong : Int32} {m_text : (Nat → Int32)} {w_m_at : Int32} {w_m_wrong : Int32} (h : f_X12_need_t p1 m_length m_top m_at m_wrong m_text = some (w_m_at, w_m_wrong)) : zMt l zW 2 mX12_need σ ([(3474, (nI 64)), (3475, m_length), (3476, m_top), (3477, m_at), (3478, m_wrong)], [(64, m_text)], []) [.ref 54, .int p1] none ([(3474, (nI 64)), (3475, m_length), (3476, m_top), (3477, w_m_at), (3478, w_m_wrong)], [(64, m_text)], []) := by
  refine zMt_of (ls := [(0, .ref 54), (1, .int p1)]) (by decide) rfl (fun _ => Nat.le_of_ble_eq_true rfl) rfl ?_
  unfold f_X12_need_t at h
  refine zJ_aload_n dX12_need_0 rfl rfl ?_
  refine zJ_iload_n dX12_need_1 rfl rfl ?_
  obtain ⟨rn1, m_atn2, hcl, h⟩ := bd2_some h
  refine zJ_callV2 (σ := σ) (L := ([(3474, (nI 64)), (3475, m_length), (3476, m_top), (3477, m_at), (3478, m_wrong)], [(64, m_text)], [])) (mi := mX12_need) (yi := mX12_passes) (as := [.int p1]) (st := []) (L2 := ([(3474, (nI 64)), (3475, m_length), (3476, m_top), (3477, m_atn2), (3478, m_wrong)], [(64, m_text)], [])) dX12_need_2 ML_X12_165 Yv_X12_passes rfl zW_54 rfl rfl (t_X12_passes_t l _ hcl) (zsub_i (zle_c rfl (zle_c rfl (zle_c rfl (zle_c rfl (zle_c rfl zle_n))))) (zle_c rfl zle_n) zle_n) (zjok_i rfl rfl (zle_c rfl (zle_c rfl (zle_c rfl (zle_c rfl (zle_c rfl zle_n))))) rfl rfl (zle_c rfl zle_n) rfl rfl zle_n) (Nat.le_of_ble_eq_true rfl) (Nat.le_of_ble_eq_true rfl) rfl rfl ?_
  refine zJ_if_ne (tgt := 16) dX12_need_5 (by decide) rfl (fun hc => ?_) (fun hc => ?_)
  · replace h := it_f hc h
    obtain ⟨rfl, rfl⟩ := so2 h
    exact zJ_vret dX12_need_16 rfl
  · replace h := it_t hc h
    refine zJ_aload_n dX12_need_8 rfl rfl ?_
    refine zJ_aload_n dX12_need_9 rfl rfl ?_
    refine zJ_geti (mi := mX12_need) (x := m_atn2) dX12_need_10 F_X12_151 zW_54 rfl rfl rfl ?_
    obtain ⟨m_wrongn3, hcl, h⟩ := bd1_some h
    refine zJ_callV2 (σ := σ) (L := ([(3474, (nI 64)), (3475, m_length), (3476, m_top), (3477, m_atn2), (3478, m_wrong)], [(64, m_text)], [])) (mi := mX12_need) (yi := mX12_fault) (as := [.int m_atn2]) (st := []) (L2 := ([(3474, (nI 64)), (3475, m_length), (3476, m_top), (3477, m_atn2), (3478, m_wrongn3)], [(64, m_text)], [])) dX12_need_13 ML_X12_169 Yv_X12_fault rfl zW_54 rfl rfl (t_X12_fault l _ hcl) (zsub_i (zle_c rfl zle_n) zle_n zle_n) (zjok_i rfl rfl (zle_c rfl (zle_c rfl (zle_c rfl (zle_c rfl (zle_c rfl zle_n))))) rfl rfl (zle_c rfl zle_n) rfl rfl zle_n) (Nat.le_of_ble_eq_true rfl) (Nat.le_of_ble_eq_true rfl) rfl rfl ?_
    obtain ⟨rfl, rfl⟩ := so2 h
    exact zJ_vret dX12_need_16 rfl
set_option maxRecDepth 100000 in
set_option maxHeartbeats 4000000 in
theorem t_X12_number_t (l : Launch) (σ : zS) {p1 : Int32} {m_length : Int32} {m_top : Int32} {m_at : Int32} {m_wrong : Int32} {m_text : (Nat → Int32)} {r : Int32} {w_m_at : Int32} {w_m_wrong : Int32} (h : f_X12_number_t p1 m_length m_top m_at m_wrong m_text = some (r, w_m_at, w_m_wrong)) : zMt l zW 3 mX12_number σ ([(3474, (nI 64)), (3475, m_length), (3476, m_top), (3477, m_at), (3478, m_wrong)], [(64, m_text)], []) [.ref 54, .int p1] (some (.int r)) ([(3474, (nI 64)), (3475, m_length), (3476, m_top), (3477, w_m_at), (3478, w_m_wrong)], [(64, m_text)], []) := by
  refine zMt_of (ls := [(0, .ref 54), (1, .int p1)]) (by decide) rfl (fun _ => Nat.le_of_ble_eq_true rfl) rfl ?_
  unfold f_X12_number_t at h
  refine zJ_aload_n dX12_number_0 rfl rfl ?_
  refine zJ_iconst dX12_number_1 zc_0 rfl ?_
  refine zJ_bipush dX12_number_2 zb_9 rfl ?_
  obtain ⟨rn1, m_atn2, m_wrongn3, hcl, h⟩ := bd3_some h
  refine zJ_callV2 (σ := σ) (L := ([(3474, (nI 64)), (3475, m_length), (3476, m_top), (3477, m_at), (3478, m_wrong)], [(64, m_text)], [])) (mi := mX12_number) (yi := mX12_digit) (as := [.int (0 : Int32), .int (9 : Int32)]) (st := []) (L2 := ([(3474, (nI 64)), (3475, m_length), (3476, m_top), (3477, m_atn2), (3478, m_wrongn3)], [(64, m_text)], [])) dX12_number_4 ML_X12_173 Yv_X12_digit rfl zW_54 rfl rfl (t_X12_digit_t l _ hcl) (zsub_i (zle_c rfl (zle_c rfl (zle_c rfl (zle_c rfl (zle_c rfl zle_n))))) (zle_c rfl zle_n) zle_n) (zjok_i rfl rfl (zle_c rfl (zle_c rfl (zle_c rfl (zle_c rfl (zle_c rfl zle_n))))) rfl rfl (zle_c rfl zle_n) rfl rfl zle_n) (Nat.le_of_ble_eq_true rfl) (Nat.le_of_ble_eq_true rfl) rfl rfl ?_
  refine zJ_istore_n (ls' := [(2, .int rn1), (0, .ref 54), (1, .int p1)]) dX12_number_7 rfl rfl rfl ?_
  refine zJ_iconst dX12_number_8 zc_1 rfl ?_
  refine zJ_istore_n (ls' := [(3, .int (1 : Int32)), (2, .int rn1), (0, .ref 54), (1, .int p1)]) dX12_number_9 rfl rfl rfl ?_
  have hk10 : ∀ (v2_10x : Int32) (m_at_10x : Int32) (m_wrong_10x : Int32), k_X12_number_t_10  v2_10x m_at_10x m_wrong_10x = some (r, w_m_at, w_m_wrong) → zJ l zW 3 mX12_number σ ([(3474, (nI 64)), (3475, m_length), (3476, m_top), (3477, m_at_10x), (3478, m_wrong_10x)], [(64, m_text)], []) 55 [(2, .int v2_10x)] [] (some (.int r)) ([(3474, (nI 64)), (3475, m_length), (3476, m_top), (3477, w_m_at), (3478, w_m_wrong)], [(64, m_text)], []) := by
    intro v2_10x m_at_10x m_wrong_10x h
    unfold k_X12_number_t_10 at h
    refine zJ_iload_n dX12_number_55 rfl rfl ?_
    obtain ⟨rfl, rfl, rfl⟩ := so3 h
    exact zJ_iret dX12_number_56 rfl rfl
  refine zJ_loc (ls' := [(0, .ref 54), (1, .int p1), (2, .int rn1), (3, .int (1 : Int32))]) (zll_c rfl (zll_c rfl (zll_c rfl (zll_c rfl zll_n)))) ?_
  refine ml4_J (fun (v2_10 : Int32) (v3_10 : Int32) (m_at_10 : Int32) (m_wrong_10 : Int32) => zJ l zW 3 mX12_number σ ([(3474, (nI 64)), (3475, m_length), (3476, m_top), (3477, m_at_10), (3478, m_wrong_10)], [(64, m_text)], []) 10 [(0, .ref 54), (1, .int p1), (2, .int v2_10), (3, .int v3_10)] [] (some (.int r)) ([(3474, (nI 64)), (3475, m_length), (3476, m_top), (3477, w_m_at), (3478, w_m_wrong)], [(64, m_text)], [])) (fun rc10 hrc10 v2_10 v3_10 m_at_10 m_wrong_10 h => ?_) zN _ _ _ _ h
  unfold s_X12_number_t_10 at h
  refine zJ_iload_n dX12_number_10 rfl rfl ?_
  refine zJ_iload_n dX12_number_11 rfl rfl ?_
  refine zJ_icmp_ge (tgt := 55) dX12_number_12 (by decide) rfl (fun hc => ?_) (fun hc => ?_)
  · replace h := it_t hc h
    refine zJ_loc (ls' := [(2, .int v2_10)]) (zll_c rfl zll_n) ?_
    exact hk10 _ _ _ h
  · replace h := it_f hc h
    refine zJ_aload_n dX12_number_15 rfl rfl ?_
    obtain ⟨rn4, hcl, h⟩ := bd1_some h
    refine zJ_callV2 (σ := σ) (L := ([(3474, (nI 64)), (3475, m_length), (3476, m_top), (3477, m_at_10), (3478, m_wrong_10)], [(64, m_text)], [])) (mi := mX12_number) (yi := mX12_fine) (as := []) (st := []) (L2 := ([(3474, (nI 64)), (3475, m_length), (3476, m_top), (3477, m_at_10), (3478, m_wrong_10)], [(64, m_text)], [])) dX12_number_16 ML_X12_157 Yv_X12_fine rfl zW_54 rfl rfl (t_X12_fine l _ hcl) (zsub_i (zle_c rfl zle_n) zle_n zle_n) (zjok_i rfl rfl (zle_c rfl (zle_c rfl (zle_c rfl (zle_c rfl (zle_c rfl zle_n))))) rfl rfl (zle_c rfl zle_n) rfl rfl zle_n) (Nat.le_of_ble_eq_true rfl) (Nat.le_of_ble_eq_true rfl) rfl rfl ?_
    refine zJ_if_eq (tgt := 55) dX12_number_19 (by decide) rfl (fun hc => ?_) (fun hc => ?_)
    · replace h := it_t hc h
      refine zJ_loc (ls' := [(2, .int v2_10)]) (zll_c rfl zll_n) ?_
      exact hk10 _ _ _ h
    · replace h := it_f hc h
      refine zJ_aload_n dX12_number_22 rfl rfl ?_
      obtain ⟨rn5, hcl, h⟩ := bd1_some h
      refine zJ_callV2 (σ := σ) (L := ([(3474, (nI 64)), (3475, m_length), (3476, m_top), (3477, m_at_10), (3478, m_wrong_10)], [(64, m_text)], [])) (mi := mX12_number) (yi := mX12_here) (as := []) (st := []) (L2 := ([(3474, (nI 64)), (3475, m_length), (3476, m_top), (3477, m_at_10), (3478, m_wrong_10)], [(64, m_text)], [])) dX12_number_23 ML_X12_161 Yv_X12_here rfl zW_54 rfl rfl (t_X12_here_t l _ hcl) (zsub_i (zle_c rfl (zle_c rfl (zle_c rfl (zle_c rfl zle_n)))) (zle_c rfl zle_n) zle_n) (zjok_i rfl rfl (zle_c rfl (zle_c rfl (zle_c rfl (zle_c rfl (zle_c rfl zle_n))))) rfl rfl (zle_c rfl zle_n) rfl rfl zle_n) (Nat.le_of_ble_eq_true rfl) (Nat.le_of_ble_eq_true rfl) rfl rfl ?_
      refine zJ_bipush dX12_number_26 zb_48 rfl ?_
      refine zJ_bipush dX12_number_28 zb_57 rfl ?_
      obtain ⟨rn6, hcl, h⟩ := bd1_some h
      refine zJ_callS2 (σ := σ) (L := ([(3474, (nI 64)), (3475, m_length), (3476, m_top), (3477, m_at_10), (3478, m_wrong_10)], [(64, m_text)], [])) (mi := mX12_number) (yi := mX12_in) (as := [.int rn5, .int (48 : Int32), .int (57 : Int32)]) (st := []) (L2 := ([(3474, (nI 64)), (3475, m_length), (3476, m_top), (3477, m_at_10), (3478, m_wrong_10)], [(64, m_text)], [])) dX12_number_30 ML_X12_122 Ys_X12_in rfl (t_X12_in l _ hcl) (zsub_i zle_n zle_n zle_n) (zjok_i rfl rfl (zle_c rfl (zle_c rfl (zle_c rfl (zle_c rfl (zle_c rfl zle_n))))) rfl rfl (zle_c rfl zle_n) rfl rfl zle_n) (Nat.le_of_ble_eq_true rfl) (Nat.le_of_ble_eq_true rfl) rfl rfl ?_
      refine zJ_if_eq (tgt := 55) dX12_number_33 (by decide) rfl (fun hc => ?_) (fun hc => ?_)
      · replace h := it_t hc h
        refine zJ_loc (ls' := [(2, .int v2_10)]) (zll_c rfl zll_n) ?_
        exact hk10 _ _ _ h
      · replace h := it_f hc h
        refine zJ_bipush dX12_number_36 zb_10 rfl ?_
        refine zJ_iload_n dX12_number_38 rfl rfl ?_
        refine zJ_imul dX12_number_39 rfl ?_
        refine zJ_aload_n dX12_number_40 rfl rfl ?_
        refine zJ_iconst dX12_number_41 zc_0 rfl ?_
        refine zJ_bipush dX12_number_42 zb_9 rfl ?_
        obtain ⟨rn7, m_atn8, m_wrongn9, hcl, h⟩ := bd3_some h
        refine zJ_callV2 (σ := σ) (L := ([(3474, (nI 64)), (3475, m_length), (3476, m_top), (3477, m_at_10), (3478, m_wrong_10)], [(64, m_text)], [])) (mi := mX12_number) (yi := mX12_digit) (as := [.int (0 : Int32), .int (9 : Int32)]) (st := [.int ((10 : Int32) * v2_10)]) (L2 := ([(3474, (nI 64)), (3475, m_length), (3476, m_top), (3477, m_atn8), (3478, m_wrongn9)], [(64, m_text)], [])) dX12_number_44 ML_X12_173 Yv_X12_digit rfl zW_54 rfl rfl (t_X12_digit_t l _ hcl) (zsub_i (zle_c rfl (zle_c rfl (zle_c rfl (zle_c rfl (zle_c rfl zle_n))))) (zle_c rfl zle_n) zle_n) (zjok_i rfl rfl (zle_c rfl (zle_c rfl (zle_c rfl (zle_c rfl (zle_c rfl zle_n))))) rfl rfl (zle_c rfl zle_n) rfl rfl zle_n) (Nat.le_of_ble_eq_true rfl) (Nat.le_of_ble_eq_true rfl) rfl rfl ?_
        refine zJ_iadd dX12_number_47 rfl ?_
        obtain ⟨v2n10, ev2n10, h⟩ := lt1_some h
        refine zJ_nmi ev2n10 ?_
        refine zJ_istore_n (ls' := [(2, .int v2n10), (0, .ref 54), (1, .int p1), (3, .int v3_10)]) dX12_number_48 rfl rfl rfl ?_
        obtain ⟨v3n11, ev3n11, h⟩ := lt1_some h
        refine zJ_iincN (ls' := [(3, .int v3n11), (2, .int v2n10), (0, .ref 54), (1, .int p1)]) dX12_number_49 rfl rfl zc_1 ev3n11 rfl rfl ?_
        refine zJ_goto (tgt := 10) dX12_number_52 (by decide) ?_
        refine zJ_loc (ls' := [(0, .ref 54), (1, .int p1), (2, .int v2n10), (3, .int v3n11)]) (zll_c rfl (zll_c rfl (zll_c rfl (zll_c rfl zll_n)))) ?_
        exact hrc10 _ _ _ _ h
