set_option maxRecDepth 100000 in
set_option maxHeartbeats 4000000 in
theorem tg_X12_held_r (l : Launch) : ∀ n : Nat, (∀ (σ : zS) (p1 : Int32) (m_length : Int32) (m_top : Int32) (m_at : Int32) (m_wrong : Int32) (m_isAsked : Int32) (m_askedHorse : Int32) (m_askedFence : Int32) (m_askedLetter : Int32) (m_askedHeight : Int32) (m_kind : (Nat → Int32)) (m_feet : (Nat → Int32)) (m_stride : (Nat → Int32)) (m_scope : (Nat → Int32)) (m_care : (Nat → Int32)) (m_rule : (Nat → Int32)) (r : Int32) (w_m_at : Int32) (w_m_wrong : Int32), (G_X12_held_r n).1 p1 m_length m_top m_at m_wrong m_isAsked m_askedHorse m_askedFence m_askedLetter m_askedHeight m_kind m_feet m_stride m_scope m_care m_rule = some (r, w_m_at, w_m_wrong) → zMt l zW (n + 4) mX12_held σ ([(3474, (nI 69)), (3475, m_length), (3476, m_top), (3477, m_at), (3478, m_wrong), (3484, m_isAsked), (3485, m_askedHorse), (3486, m_askedFence), (3487, m_askedLetter), (3488, m_askedHeight)], [(56, m_kind), (58, m_feet), (59, m_stride), (60, m_scope), (61, m_care), (69, m_rule)], []) [.ref 54, .int p1] (some (.int r)) ([(3474, (nI 69)), (3475, m_length), (3476, m_top), (3477, w_m_at), (3478, w_m_wrong), (3484, m_isAsked), (3485, m_askedHorse), (3486, m_askedFence), (3487, m_askedLetter), (3488, m_askedHeight)], [(56, m_kind), (58, m_feet), (59, m_stride), (60, m_scope), (61, m_care), (69, m_rule)], [])) ∧ (∀ (σ : zS) (p1 : Int32) (m_length : Int32) (m_top : Int32) (m_at : Int32) (m_wrong : Int32) (m_isAsked : Int32) (m_askedHorse : Int32) (m_askedFence : Int32) (m_askedLetter : Int32) (m_askedHeight : Int32) (m_kind : (Nat → Int32)) (m_feet : (Nat → Int32)) (m_stride : (Nat → Int32)) (m_scope : (Nat → Int32)) (m_care : (Nat → Int32)) (m_rule : (Nat → Int32)) (r : Int32) (w_m_at : Int32) (w_m_wrong : Int32), (G_X12_held_r n).2.1 p1 m_length m_top m_at m_wrong m_isAsked m_askedHorse m_askedFence m_askedLetter m_askedHeight m_kind m_feet m_stride m_scope m_care m_rule = some (r, w_m_at, w_m_wrong) → zMt l zW (n + 4) mX12_product σ ([(3474, (nI 69)), (3475, m_length), (3476, m_top), (3477, m_at), (3478, m_wrong), (3484, m_isAsked), (3485, m_askedHorse), (3486, m_askedFence), (3487, m_askedLetter), (3488, m_askedHeight)], [(56, m_kind), (58, m_feet), (59, m_stride), (60, m_scope), (61, m_care), (69, m_rule)], []) [.ref 54, .int p1] (some (.int r)) ([(3474, (nI 69)), (3475, m_length), (3476, m_top), (3477, w_m_at), (3478, w_m_wrong), (3484, m_isAsked), (3485, m_askedHorse), (3486, m_askedFence), (3487, m_askedLetter), (3488, m_askedHeight)], [(56, m_kind), (58, m_feet), (59, m_stride), (60, m_scope), (61, m_care), (69, m_rule)], [])) ∧ (∀ (σ : zS) (p1 : Int32) (m_length : Int32) (m_top : Int32) (m_at : Int32) (m_wrong : Int32) (m_isAsked : Int32) (m_askedHorse : Int32) (m_askedFence : Int32) (m_askedLetter : Int32) (m_askedHeight : Int32) (m_kind : (Nat → Int32)) (m_feet : (Nat → Int32)) (m_stride : (Nat → Int32)) (m_scope : (Nat → Int32)) (m_care : (Nat → Int32)) (m_rule : (Nat → Int32)) (r : Int32) (w_m_at : Int32) (w_m_wrong : Int32), (G_X12_held_r n).2.2.1 p1 m_length m_top m_at m_wrong m_isAsked m_askedHorse m_askedFence m_askedLetter m_askedHeight m_kind m_feet m_stride m_scope m_care m_rule = some (r, w_m_at, w_m_wrong) → zMt l zW (n + 4) mX12_sum σ ([(3474, (nI 69)), (3475, m_length), (3476, m_top), (3477, m_at), (3478, m_wrong), (3484, m_isAsked), (3485, m_askedHorse), (3486, m_askedFence), (3487, m_askedLetter), (3488, m_askedHeight)], [(56, m_kind), (58, m_feet), (59, m_stride), (60, m_scope), (61, m_care), (69, m_rule)], []) [.ref 54, .int p1] (some (.int r)) ([(3474, (nI 69)), (3475, m_length), (3476, m_top), (3477, w_m_at), (3478, w_m_wrong), (3484, m_isAsked), (3485, m_askedHorse), (3486, m_askedFence), (3487, m_askedLetter), (3488, m_askedHeight)], [(56, m_kind), (58, m_feet), (59, m_stride), (60, m_scope), (61, m_care), (69, m_rule)], [])) ∧ (∀ (σ : zS) (p1 : Int32) (m_length : Int32) (m_top : Int32) (m_at : Int32) (m_wrong : Int32) (m_isAsked : Int32) (m_askedHorse : Int32) (m_askedFence : Int32) (m_askedLetter : Int32) (m_askedHeight : Int32) (m_kind : (Nat → Int32)) (m_feet : (Nat → Int32)) (m_stride : (Nat → Int32)) (m_scope : (Nat → Int32)) (m_care : (Nat → Int32)) (m_rule : (Nat → Int32)) (r : Int32) (w_m_at : Int32) (w_m_wrong : Int32), (G_X12_held_r n).2.2.2 p1 m_length m_top m_at m_wrong m_isAsked m_askedHorse m_askedFence m_askedLetter m_askedHeight m_kind m_feet m_stride m_scope m_care m_rule = some (r, w_m_at, w_m_wrong) → zMt l zW (n + 4) mX12_thing σ ([(3474, (nI 69)), (3475, m_length), (3476, m_top), (3477, m_at), (3478, m_wrong), (3484, m_isAsked), (3485, m_askedHorse), (3486, m_askedFence), (3487, m_askedLetter), (3488, m_askedHeight)], [(56, m_kind), (58, m_feet), (59, m_stride), (60, m_scope), (61, m_care), (69, m_rule)], []) [.ref 54, .int p1] (some (.int r)) ([(3474, (nI 69)), (3475, m_length), (3476, m_top), (3477, w_m_at), (3478, w_m_wrong), (3484, m_isAsked), (3485, m_askedHorse), (3486, m_askedFence), (3487, m_askedLetter), (3488, m_askedHeight)], [(56, m_kind), (58, m_feet), (59, m_stride), (60, m_scope), (61, m_care), (69, m_rule)], [])) := by
  intro n
  induction n with
  | zero => exact ⟨(fun _ _ _ _ _ _ _ _ _ _ _ _ _ _ _ _ _ _ _ _ h => by cases (show (none : Option _) = some _ from h)), (fun _ _ _ _ _ _ _ _ _ _ _ _ _ _ _ _ _ _ _ _ h => by cases (show (none : Option _) = some _ from h)), (fun _ _ _ _ _ _ _ _ _ _ _ _ _ _ _ _ _ _ _ _ h => by cases (show (none : Option _) = some _ from h)), (fun _ _ _ _ _ _ _ _ _ _ _ _ _ _ _ _ _ _ _ _ h => by cases (show (none : Option _) = some _ from h))⟩
  | succ n ih =>
    obtain ⟨ih_X12_held_r, ih_X12_product_r, ih_X12_sum_r, ih_X12_thing_r⟩ := ih
    refine ⟨?_, ?_, ?_, ?_⟩
    · intro σ p1 m_length m_top m_at m_wrong m_isAsked m_askedHorse m_askedFence m_askedLetter m_askedHeight m_kind m_feet m_stride m_scope m_care m_rule r w_m_at w_m_wrong h
      replace h : g_X12_held_r (G_X12_held_r n).1 (G_X12_held_r n).2.1 (G_X12_held_r n).2.2.1 (G_X12_held_r n).2.2.2 p1 m_length m_top m_at m_wrong m_isAsked m_askedHorse m_askedFence m_askedLetter m_askedHeight m_kind m_feet m_stride m_scope m_care m_rule = some (r, w_m_at, w_m_wrong) := h
      generalize (G_X12_held_r n).1 = q_X12_held_r at h ih_X12_held_r ih_X12_product_r ih_X12_sum_r ih_X12_thing_r
      generalize (G_X12_held_r n).2.1 = q_X12_product_r at h ih_X12_held_r ih_X12_product_r ih_X12_sum_r ih_X12_thing_r
      generalize (G_X12_held_r n).2.2.1 = q_X12_sum_r at h ih_X12_held_r ih_X12_product_r ih_X12_sum_r ih_X12_thing_r
      generalize (G_X12_held_r n).2.2.2 = q_X12_thing_r at h ih_X12_held_r ih_X12_product_r ih_X12_sum_r ih_X12_thing_r
      show zMt l zW (n + 5) mX12_held σ ([(3474, (nI 69)), (3475, m_length), (3476, m_top), (3477, m_at), (3478, m_wrong), (3484, m_isAsked), (3485, m_askedHorse), (3486, m_askedFence), (3487, m_askedLetter), (3488, m_askedHeight)], [(56, m_kind), (58, m_feet), (59, m_stride), (60, m_scope), (61, m_care), (69, m_rule)], []) [.ref 54, .int p1] (some (.int r)) ([(3474, (nI 69)), (3475, m_length), (3476, m_top), (3477, w_m_at), (3478, w_m_wrong), (3484, m_isAsked), (3485, m_askedHorse), (3486, m_askedFence), (3487, m_askedLetter), (3488, m_askedHeight)], [(56, m_kind), (58, m_feet), (59, m_stride), (60, m_scope), (61, m_care), (69, m_rule)], [])
      refine zMt_of (ls := [(0, .ref 54), (1, .int p1)]) (by decide) rfl (fun _ => Nat.le_of_ble_eq_true rfl) rfl ?_
      unfold g_X12_held_r at h
      refine zJ_aload_n dX12_held_0 rfl rfl ?_
      refine zJ_iload_n dX12_held_1 rfl rfl ?_
      obtain ⟨rn1, m_atn2, m_wrongn3, hcl, h⟩ := bd3_some h
      refine zJ_callV2 (σ := σ) (L := ([(3474, (nI 69)), (3475, m_length), (3476, m_top), (3477, m_at), (3478, m_wrong), (3484, m_isAsked), (3485, m_askedHorse), (3486, m_askedFence), (3487, m_askedLetter), (3488, m_askedHeight)], [(56, m_kind), (58, m_feet), (59, m_stride), (60, m_scope), (61, m_care), (69, m_rule)], [])) (mi := mX12_held) (yi := mX12_sum) (as := [.int p1]) (st := []) (L2 := ([(3474, (nI 69)), (3475, m_length), (3476, m_top), (3477, m_atn2), (3478, m_wrongn3), (3484, m_isAsked), (3485, m_askedHorse), (3486, m_askedFence), (3487, m_askedLetter), (3488, m_askedHeight)], [(56, m_kind), (58, m_feet), (59, m_stride), (60, m_scope), (61, m_care), (69, m_rule)], [])) dX12_held_2 ML_X12_201 Yv_X12_sum rfl zW_54 rfl rfl (ih_X12_sum_r _ _ _ _ _ _ _ _ _ _ _ _ _ _ _ _ _ _ _ _ hcl) (zsub_i (zle_c rfl (zle_c rfl (zle_c rfl (zle_c rfl (zle_c rfl (zle_c rfl (zle_c rfl (zle_c rfl (zle_c rfl (zle_c rfl zle_n)))))))))) (zle_c rfl (zle_c rfl (zle_c rfl (zle_c rfl (zle_c rfl (zle_c rfl zle_n)))))) zle_n) (zjok_i rfl rfl (zle_c rfl (zle_c rfl (zle_c rfl (zle_c rfl (zle_c rfl (zle_c rfl (zle_c rfl (zle_c rfl (zle_c rfl (zle_c rfl zle_n)))))))))) rfl rfl (zle_c rfl (zle_c rfl (zle_c rfl (zle_c rfl (zle_c rfl (zle_c rfl zle_n)))))) rfl rfl zle_n) (by omega) (Nat.le_of_ble_eq_true rfl) rfl rfl ?_
      refine zJ_istore_n (ls' := [(2, .int rn1), (0, .ref 54), (1, .int p1)]) dX12_held_5 rfl rfl rfl ?_
      refine zJ_aload_n dX12_held_6 rfl rfl ?_
      refine zJ_bipush dX12_held_7 zb_60 rfl ?_
      obtain ⟨rn4, m_atn5, hcl, h⟩ := bd2_some h
      refine zJ_callV2 (σ := σ) (L := ([(3474, (nI 69)), (3475, m_length), (3476, m_top), (3477, m_atn2), (3478, m_wrongn3), (3484, m_isAsked), (3485, m_askedHorse), (3486, m_askedFence), (3487, m_askedLetter), (3488, m_askedHeight)], [(56, m_kind), (58, m_feet), (59, m_stride), (60, m_scope), (61, m_care), (69, m_rule)], [])) (mi := mX12_held) (yi := mX12_passes) (as := [.int (60 : Int32)]) (st := []) (L2 := ([(3474, (nI 69)), (3475, m_length), (3476, m_top), (3477, m_atn5), (3478, m_wrongn3), (3484, m_isAsked), (3485, m_askedHorse), (3486, m_askedFence), (3487, m_askedLetter), (3488, m_askedHeight)], [(56, m_kind), (58, m_feet), (59, m_stride), (60, m_scope), (61, m_care), (69, m_rule)], [])) dX12_held_9 ML_X12_165 Yv_X12_passes rfl zW_54 rfl rfl (t_X12_passes_r l _ hcl) (zsub_i (zle_c rfl (zle_c rfl (zle_c rfl (zle_c rfl (zle_c rfl zle_n))))) (zle_c rfl zle_n) zle_n) (zjok_i rfl rfl (zle_c rfl (zle_c rfl (zle_c rfl (zle_c rfl (zle_c rfl (zle_c rfl (zle_c rfl (zle_c rfl (zle_c rfl (zle_c rfl zle_n)))))))))) rfl rfl (zle_c rfl (zle_c rfl (zle_c rfl (zle_c rfl (zle_c rfl (zle_c rfl zle_n)))))) rfl rfl zle_n) (by omega) (Nat.le_of_ble_eq_true rfl) rfl rfl ?_
      refine zJ_if_eq (tgt := 30) dX12_held_12 (by decide) rfl (fun hc => ?_) (fun hc => ?_)
      · replace h := it_t hc h
        refine zJ_aload_n dX12_held_30 rfl rfl ?_
        refine zJ_bipush dX12_held_31 zb_62 rfl ?_
        obtain ⟨rn6, m_atn7, hcl, h⟩ := bd2_some h
        refine zJ_callV2 (σ := σ) (L := ([(3474, (nI 69)), (3475, m_length), (3476, m_top), (3477, m_atn5), (3478, m_wrongn3), (3484, m_isAsked), (3485, m_askedHorse), (3486, m_askedFence), (3487, m_askedLetter), (3488, m_askedHeight)], [(56, m_kind), (58, m_feet), (59, m_stride), (60, m_scope), (61, m_care), (69, m_rule)], [])) (mi := mX12_held) (yi := mX12_passes) (as := [.int (62 : Int32)]) (st := []) (L2 := ([(3474, (nI 69)), (3475, m_length), (3476, m_top), (3477, m_atn7), (3478, m_wrongn3), (3484, m_isAsked), (3485, m_askedHorse), (3486, m_askedFence), (3487, m_askedLetter), (3488, m_askedHeight)], [(56, m_kind), (58, m_feet), (59, m_stride), (60, m_scope), (61, m_care), (69, m_rule)], [])) dX12_held_33 ML_X12_165 Yv_X12_passes rfl zW_54 rfl rfl (t_X12_passes_r l _ hcl) (zsub_i (zle_c rfl (zle_c rfl (zle_c rfl (zle_c rfl (zle_c rfl zle_n))))) (zle_c rfl zle_n) zle_n) (zjok_i rfl rfl (zle_c rfl (zle_c rfl (zle_c rfl (zle_c rfl (zle_c rfl (zle_c rfl (zle_c rfl (zle_c rfl (zle_c rfl (zle_c rfl zle_n)))))))))) rfl rfl (zle_c rfl (zle_c rfl (zle_c rfl (zle_c rfl (zle_c rfl (zle_c rfl zle_n)))))) rfl rfl zle_n) (by omega) (Nat.le_of_ble_eq_true rfl) rfl rfl ?_
        refine zJ_if_eq (tgt := 54) dX12_held_36 (by decide) rfl (fun hc => ?_) (fun hc => ?_)
        · replace h := it_t hc h
          refine zJ_aload_n dX12_held_54 rfl rfl ?_
          refine zJ_bipush dX12_held_55 zb_61 rfl ?_
          obtain ⟨rn8, m_atn9, hcl, h⟩ := bd2_some h
          refine zJ_callV2 (σ := σ) (L := ([(3474, (nI 69)), (3475, m_length), (3476, m_top), (3477, m_atn7), (3478, m_wrongn3), (3484, m_isAsked), (3485, m_askedHorse), (3486, m_askedFence), (3487, m_askedLetter), (3488, m_askedHeight)], [(56, m_kind), (58, m_feet), (59, m_stride), (60, m_scope), (61, m_care), (69, m_rule)], [])) (mi := mX12_held) (yi := mX12_passes) (as := [.int (61 : Int32)]) (st := []) (L2 := ([(3474, (nI 69)), (3475, m_length), (3476, m_top), (3477, m_atn9), (3478, m_wrongn3), (3484, m_isAsked), (3485, m_askedHorse), (3486, m_askedFence), (3487, m_askedLetter), (3488, m_askedHeight)], [(56, m_kind), (58, m_feet), (59, m_stride), (60, m_scope), (61, m_care), (69, m_rule)], [])) dX12_held_57 ML_X12_165 Yv_X12_passes rfl zW_54 rfl rfl (t_X12_passes_r l _ hcl) (zsub_i (zle_c rfl (zle_c rfl (zle_c rfl (zle_c rfl (zle_c rfl zle_n))))) (zle_c rfl zle_n) zle_n) (zjok_i rfl rfl (zle_c rfl (zle_c rfl (zle_c rfl (zle_c rfl (zle_c rfl (zle_c rfl (zle_c rfl (zle_c rfl (zle_c rfl (zle_c rfl zle_n)))))))))) rfl rfl (zle_c rfl (zle_c rfl (zle_c rfl (zle_c rfl (zle_c rfl (zle_c rfl zle_n)))))) rfl rfl zle_n) (by omega) (Nat.le_of_ble_eq_true rfl) rfl rfl ?_
          refine zJ_if_eq (tgt := 78) dX12_held_60 (by decide) rfl (fun hc => ?_) (fun hc => ?_)
          · replace h := it_t hc h
            refine zJ_iload_n dX12_held_78 rfl rfl ?_
            obtain ⟨rfl, rfl, rfl⟩ := so3 h
            exact zJ_iret dX12_held_79 rfl rfl
          · replace h := it_f hc h
            refine zJ_iload_n dX12_held_63 rfl rfl ?_
            refine zJ_aload_n dX12_held_64 rfl rfl ?_
            refine zJ_iload_n dX12_held_65 rfl rfl ?_
            obtain ⟨rn10, m_atn11, m_wrongn12, hcl, h⟩ := bd3_some h
            refine zJ_callV2 (σ := σ) (L := ([(3474, (nI 69)), (3475, m_length), (3476, m_top), (3477, m_atn9), (3478, m_wrongn3), (3484, m_isAsked), (3485, m_askedHorse), (3486, m_askedFence), (3487, m_askedLetter), (3488, m_askedHeight)], [(56, m_kind), (58, m_feet), (59, m_stride), (60, m_scope), (61, m_care), (69, m_rule)], [])) (mi := mX12_held) (yi := mX12_sum) (as := [.int p1]) (st := [.int rn1]) (L2 := ([(3474, (nI 69)), (3475, m_length), (3476, m_top), (3477, m_atn11), (3478, m_wrongn12), (3484, m_isAsked), (3485, m_askedHorse), (3486, m_askedFence), (3487, m_askedLetter), (3488, m_askedHeight)], [(56, m_kind), (58, m_feet), (59, m_stride), (60, m_scope), (61, m_care), (69, m_rule)], [])) dX12_held_66 ML_X12_201 Yv_X12_sum rfl zW_54 rfl rfl (ih_X12_sum_r _ _ _ _ _ _ _ _ _ _ _ _ _ _ _ _ _ _ _ _ hcl) (zsub_i (zle_c rfl (zle_c rfl (zle_c rfl (zle_c rfl (zle_c rfl (zle_c rfl (zle_c rfl (zle_c rfl (zle_c rfl (zle_c rfl zle_n)))))))))) (zle_c rfl (zle_c rfl (zle_c rfl (zle_c rfl (zle_c rfl (zle_c rfl zle_n)))))) zle_n) (zjok_i rfl rfl (zle_c rfl (zle_c rfl (zle_c rfl (zle_c rfl (zle_c rfl (zle_c rfl (zle_c rfl (zle_c rfl (zle_c rfl (zle_c rfl zle_n)))))))))) rfl rfl (zle_c rfl (zle_c rfl (zle_c rfl (zle_c rfl (zle_c rfl (zle_c rfl zle_n)))))) rfl rfl zle_n) (by omega) (Nat.le_of_ble_eq_true rfl) rfl rfl ?_
            refine zJ_icmp_ne (tgt := 76) dX12_held_69 (by decide) rfl (fun hc => ?_) (fun hc => ?_)
            · replace h := it_f hc h
              refine zJ_iconst dX12_held_76 zc_0 rfl ?_
              obtain ⟨rfl, rfl, rfl⟩ := so3 h
              exact zJ_iret dX12_held_77 rfl rfl
            · replace h := it_t hc h
              refine zJ_iconst dX12_held_72 zc_1 rfl ?_
              refine zJ_goto (tgt := 77) dX12_held_73 (by decide) ?_
              obtain ⟨rfl, rfl, rfl⟩ := so3 h
              exact zJ_iret dX12_held_77 rfl rfl
        · replace h := it_f hc h
          refine zJ_iload_n dX12_held_39 rfl rfl ?_
          refine zJ_aload_n dX12_held_40 rfl rfl ?_
          refine zJ_iload_n dX12_held_41 rfl rfl ?_
          obtain ⟨rn13, m_atn14, m_wrongn15, hcl, h⟩ := bd3_some h
          refine zJ_callV2 (σ := σ) (L := ([(3474, (nI 69)), (3475, m_length), (3476, m_top), (3477, m_atn7), (3478, m_wrongn3), (3484, m_isAsked), (3485, m_askedHorse), (3486, m_askedFence), (3487, m_askedLetter), (3488, m_askedHeight)], [(56, m_kind), (58, m_feet), (59, m_stride), (60, m_scope), (61, m_care), (69, m_rule)], [])) (mi := mX12_held) (yi := mX12_sum) (as := [.int p1]) (st := [.int rn1]) (L2 := ([(3474, (nI 69)), (3475, m_length), (3476, m_top), (3477, m_atn14), (3478, m_wrongn15), (3484, m_isAsked), (3485, m_askedHorse), (3486, m_askedFence), (3487, m_askedLetter), (3488, m_askedHeight)], [(56, m_kind), (58, m_feet), (59, m_stride), (60, m_scope), (61, m_care), (69, m_rule)], [])) dX12_held_42 ML_X12_201 Yv_X12_sum rfl zW_54 rfl rfl (ih_X12_sum_r _ _ _ _ _ _ _ _ _ _ _ _ _ _ _ _ _ _ _ _ hcl) (zsub_i (zle_c rfl (zle_c rfl (zle_c rfl (zle_c rfl (zle_c rfl (zle_c rfl (zle_c rfl (zle_c rfl (zle_c rfl (zle_c rfl zle_n)))))))))) (zle_c rfl (zle_c rfl (zle_c rfl (zle_c rfl (zle_c rfl (zle_c rfl zle_n)))))) zle_n) (zjok_i rfl rfl (zle_c rfl (zle_c rfl (zle_c rfl (zle_c rfl (zle_c rfl (zle_c rfl (zle_c rfl (zle_c rfl (zle_c rfl (zle_c rfl zle_n)))))))))) rfl rfl (zle_c rfl (zle_c rfl (zle_c rfl (zle_c rfl (zle_c rfl (zle_c rfl zle_n)))))) rfl rfl zle_n) (by omega) (Nat.le_of_ble_eq_true rfl) rfl rfl ?_
          refine zJ_icmp_le (tgt := 52) dX12_held_45 (by decide) rfl (fun hc => ?_) (fun hc => ?_)
          · replace h := it_t hc h
            refine zJ_iconst dX12_held_52 zc_0 rfl ?_
            obtain ⟨rfl, rfl, rfl⟩ := so3 h
            exact zJ_iret dX12_held_53 rfl rfl
          · replace h := it_f hc h
            refine zJ_iconst dX12_held_48 zc_1 rfl ?_
            refine zJ_goto (tgt := 53) dX12_held_49 (by decide) ?_
            obtain ⟨rfl, rfl, rfl⟩ := so3 h
            exact zJ_iret dX12_held_53 rfl rfl
      · replace h := it_f hc h
        refine zJ_iload_n dX12_held_15 rfl rfl ?_
        refine zJ_aload_n dX12_held_16 rfl rfl ?_
        refine zJ_iload_n dX12_held_17 rfl rfl ?_
        obtain ⟨rn16, m_atn17, m_wrongn18, hcl, h⟩ := bd3_some h
        refine zJ_callV2 (σ := σ) (L := ([(3474, (nI 69)), (3475, m_length), (3476, m_top), (3477, m_atn5), (3478, m_wrongn3), (3484, m_isAsked), (3485, m_askedHorse), (3486, m_askedFence), (3487, m_askedLetter), (3488, m_askedHeight)], [(56, m_kind), (58, m_feet), (59, m_stride), (60, m_scope), (61, m_care), (69, m_rule)], [])) (mi := mX12_held) (yi := mX12_sum) (as := [.int p1]) (st := [.int rn1]) (L2 := ([(3474, (nI 69)), (3475, m_length), (3476, m_top), (3477, m_atn17), (3478, m_wrongn18), (3484, m_isAsked), (3485, m_askedHorse), (3486, m_askedFence), (3487, m_askedLetter), (3488, m_askedHeight)], [(56, m_kind), (58, m_feet), (59, m_stride), (60, m_scope), (61, m_care), (69, m_rule)], [])) dX12_held_18 ML_X12_201 Yv_X12_sum rfl zW_54 rfl rfl (ih_X12_sum_r _ _ _ _ _ _ _ _ _ _ _ _ _ _ _ _ _ _ _ _ hcl) (zsub_i (zle_c rfl (zle_c rfl (zle_c rfl (zle_c rfl (zle_c rfl (zle_c rfl (zle_c rfl (zle_c rfl (zle_c rfl (zle_c rfl zle_n)))))))))) (zle_c rfl (zle_c rfl (zle_c rfl (zle_c rfl (zle_c rfl (zle_c rfl zle_n)))))) zle_n) (zjok_i rfl rfl (zle_c rfl (zle_c rfl (zle_c rfl (zle_c rfl (zle_c rfl (zle_c rfl (zle_c rfl (zle_c rfl (zle_c rfl (zle_c rfl zle_n)))))))))) rfl rfl (zle_c rfl (zle_c rfl (zle_c rfl (zle_c rfl (zle_c rfl (zle_c rfl zle_n)))))) rfl rfl zle_n) (by omega) (Nat.le_of_ble_eq_true rfl) rfl rfl ?_
        refine zJ_icmp_ge (tgt := 28) dX12_held_21 (by decide) rfl (fun hc => ?_) (fun hc => ?_)
        · replace h := it_t hc h
          refine zJ_iconst dX12_held_28 zc_0 rfl ?_
          obtain ⟨rfl, rfl, rfl⟩ := so3 h
          exact zJ_iret dX12_held_29 rfl rfl
        · replace h := it_f hc h
          refine zJ_iconst dX12_held_24 zc_1 rfl ?_
          refine zJ_goto (tgt := 29) dX12_held_25 (by decide) ?_
          obtain ⟨rfl, rfl, rfl⟩ := so3 h
          exact zJ_iret dX12_held_29 rfl rfl
    · intro σ p1 m_length m_top m_at m_wrong m_isAsked m_askedHorse m_askedFence m_askedLetter m_askedHeight m_kind m_feet m_stride m_scope m_care m_rule r w_m_at w_m_wrong h
      replace h : g_X12_product_r (G_X12_held_r n).1 (G_X12_held_r n).2.1 (G_X12_held_r n).2.2.1 (G_X12_held_r n).2.2.2 p1 m_length m_top m_at m_wrong m_isAsked m_askedHorse m_askedFence m_askedLetter m_askedHeight m_kind m_feet m_stride m_scope m_care m_rule = some (r, w_m_at, w_m_wrong) := h
      generalize (G_X12_held_r n).1 = q_X12_held_r at h ih_X12_held_r ih_X12_product_r ih_X12_sum_r ih_X12_thing_r
      generalize (G_X12_held_r n).2.1 = q_X12_product_r at h ih_X12_held_r ih_X12_product_r ih_X12_sum_r ih_X12_thing_r
      generalize (G_X12_held_r n).2.2.1 = q_X12_sum_r at h ih_X12_held_r ih_X12_product_r ih_X12_sum_r ih_X12_thing_r
      generalize (G_X12_held_r n).2.2.2 = q_X12_thing_r at h ih_X12_held_r ih_X12_product_r ih_X12_sum_r ih_X12_thing_r
      show zMt l zW (n + 5) mX12_product σ ([(3474, (nI 69)), (3475, m_length), (3476, m_top), (3477, m_at), (3478, m_wrong), (3484, m_isAsked), (3485, m_askedHorse), (3486, m_askedFence), (3487, m_askedLetter), (3488, m_askedHeight)], [(56, m_kind), (58, m_feet), (59, m_stride), (60, m_scope), (61, m_care), (69, m_rule)], []) [.ref 54, .int p1] (some (.int r)) ([(3474, (nI 69)), (3475, m_length), (3476, m_top), (3477, w_m_at), (3478, w_m_wrong), (3484, m_isAsked), (3485, m_askedHorse), (3486, m_askedFence), (3487, m_askedLetter), (3488, m_askedHeight)], [(56, m_kind), (58, m_feet), (59, m_stride), (60, m_scope), (61, m_care), (69, m_rule)], [])
      refine zMt_of (ls := [(0, .ref 54), (1, .int p1)]) (by decide) rfl (fun _ => Nat.le_of_ble_eq_true rfl) rfl ?_
      unfold g_X12_product_r at h
      refine zJ_aload_n dX12_product_0 rfl rfl ?_
      refine zJ_iload_n dX12_product_1 rfl rfl ?_
      obtain ⟨rn1, m_atn2, m_wrongn3, hcl, h⟩ := bd3_some h
      refine zJ_callV2 (σ := σ) (L := ([(3474, (nI 69)), (3475, m_length), (3476, m_top), (3477, m_at), (3478, m_wrong), (3484, m_isAsked), (3485, m_askedHorse), (3486, m_askedFence), (3487, m_askedLetter), (3488, m_askedHeight)], [(56, m_kind), (58, m_feet), (59, m_stride), (60, m_scope), (61, m_care), (69, m_rule)], [])) (mi := mX12_product) (yi := mX12_thing) (as := [.int p1]) (st := []) (L2 := ([(3474, (nI 69)), (3475, m_length), (3476, m_top), (3477, m_atn2), (3478, m_wrongn3), (3484, m_isAsked), (3485, m_askedHorse), (3486, m_askedFence), (3487, m_askedLetter), (3488, m_askedHeight)], [(56, m_kind), (58, m_feet), (59, m_stride), (60, m_scope), (61, m_care), (69, m_rule)], [])) dX12_product_2 ML_X12_207 Yv_X12_thing rfl zW_54 rfl rfl (ih_X12_thing_r _ _ _ _ _ _ _ _ _ _ _ _ _ _ _ _ _ _ _ _ hcl) (zsub_i (zle_c rfl (zle_c rfl (zle_c rfl (zle_c rfl (zle_c rfl (zle_c rfl (zle_c rfl (zle_c rfl (zle_c rfl (zle_c rfl zle_n)))))))))) (zle_c rfl (zle_c rfl (zle_c rfl (zle_c rfl (zle_c rfl (zle_c rfl zle_n)))))) zle_n) (zjok_i rfl rfl (zle_c rfl (zle_c rfl (zle_c rfl (zle_c rfl (zle_c rfl (zle_c rfl (zle_c rfl (zle_c rfl (zle_c rfl (zle_c rfl zle_n)))))))))) rfl rfl (zle_c rfl (zle_c rfl (zle_c rfl (zle_c rfl (zle_c rfl (zle_c rfl zle_n)))))) rfl rfl zle_n) (by omega) (Nat.le_of_ble_eq_true rfl) rfl rfl ?_
      refine zJ_istore_n (ls' := [(2, .int rn1), (0, .ref 54), (1, .int p1)]) dX12_product_5 rfl rfl rfl ?_
      have hk6 : ∀ (v2_6x : Int32) (m_at_6x : Int32) (m_wrong_6x : Int32), k_X12_product_r_6  v2_6x m_at_6x m_wrong_6x = some (r, w_m_at, w_m_wrong) → zJ l zW (n + 5) mX12_product σ ([(3474, (nI 69)), (3475, m_length), (3476, m_top), (3477, m_at_6x), (3478, m_wrong_6x), (3484, m_isAsked), (3485, m_askedHorse), (3486, m_askedFence), (3487, m_askedLetter), (3488, m_askedHeight)], [(56, m_kind), (58, m_feet), (59, m_stride), (60, m_scope), (61, m_care), (69, m_rule)], []) 91 [(2, .int v2_6x)] [] (some (.int r)) ([(3474, (nI 69)), (3475, m_length), (3476, m_top), (3477, w_m_at), (3478, w_m_wrong), (3484, m_isAsked), (3485, m_askedHorse), (3486, m_askedFence), (3487, m_askedLetter), (3488, m_askedHeight)], [(56, m_kind), (58, m_feet), (59, m_stride), (60, m_scope), (61, m_care), (69, m_rule)], []) := by
        intro v2_6x m_at_6x m_wrong_6x h
        unfold k_X12_product_r_6 at h
        refine zJ_iload_n dX12_product_91 rfl rfl ?_
        obtain ⟨rfl, rfl, rfl⟩ := so3 h
        exact zJ_iret dX12_product_92 rfl rfl
      refine zJ_loc (ls' := [(0, .ref 54), (1, .int p1), (2, .int rn1)]) (zll_c rfl (zll_c rfl (zll_c rfl zll_n))) ?_
      refine ml3_J (fun (v2_6 : Int32) (m_at_6 : Int32) (m_wrong_6 : Int32) => zJ l zW (n + 5) mX12_product σ ([(3474, (nI 69)), (3475, m_length), (3476, m_top), (3477, m_at_6), (3478, m_wrong_6), (3484, m_isAsked), (3485, m_askedHorse), (3486, m_askedFence), (3487, m_askedLetter), (3488, m_askedHeight)], [(56, m_kind), (58, m_feet), (59, m_stride), (60, m_scope), (61, m_care), (69, m_rule)], []) 6 [(0, .ref 54), (1, .int p1), (2, .int v2_6)] [] (some (.int r)) ([(3474, (nI 69)), (3475, m_length), (3476, m_top), (3477, w_m_at), (3478, w_m_wrong), (3484, m_isAsked), (3485, m_askedHorse), (3486, m_askedFence), (3487, m_askedLetter), (3488, m_askedHeight)], [(56, m_kind), (58, m_feet), (59, m_stride), (60, m_scope), (61, m_care), (69, m_rule)], [])) (fun rc6 hrc6 v2_6 m_at_6 m_wrong_6 h => ?_) zN _ _ _ h
      unfold s_X12_product_r_6 at h
      refine zJ_aload_n dX12_product_6 rfl rfl ?_
      obtain ⟨rn4, hcl, h⟩ := bd1_some h
      refine zJ_callV2 (σ := σ) (L := ([(3474, (nI 69)), (3475, m_length), (3476, m_top), (3477, m_at_6), (3478, m_wrong_6), (3484, m_isAsked), (3485, m_askedHorse), (3486, m_askedFence), (3487, m_askedLetter), (3488, m_askedHeight)], [(56, m_kind), (58, m_feet), (59, m_stride), (60, m_scope), (61, m_care), (69, m_rule)], [])) (mi := mX12_product) (yi := mX12_fine) (as := []) (st := []) (L2 := ([(3474, (nI 69)), (3475, m_length), (3476, m_top), (3477, m_at_6), (3478, m_wrong_6), (3484, m_isAsked), (3485, m_askedHorse), (3486, m_askedFence), (3487, m_askedLetter), (3488, m_askedHeight)], [(56, m_kind), (58, m_feet), (59, m_stride), (60, m_scope), (61, m_care), (69, m_rule)], [])) dX12_product_7 ML_X12_157 Yv_X12_fine rfl zW_54 rfl rfl (t_X12_fine l _ hcl) (zsub_i (zle_c rfl zle_n) zle_n zle_n) (zjok_i rfl rfl (zle_c rfl (zle_c rfl (zle_c rfl (zle_c rfl (zle_c rfl (zle_c rfl (zle_c rfl (zle_c rfl (zle_c rfl (zle_c rfl zle_n)))))))))) rfl rfl (zle_c rfl (zle_c rfl (zle_c rfl (zle_c rfl (zle_c rfl (zle_c rfl zle_n)))))) rfl rfl zle_n) (by omega) (Nat.le_of_ble_eq_true rfl) rfl rfl ?_
      refine zJ_if_eq (tgt := 91) dX12_product_10 (by decide) rfl (fun hc => ?_) (fun hc => ?_)
      · replace h := it_t hc h
        refine zJ_loc (ls' := [(2, .int v2_6)]) (zll_c rfl zll_n) ?_
        exact hk6 _ _ _ h
      · replace h := it_f hc h
        refine zJ_aload_n dX12_product_13 rfl rfl ?_
        obtain ⟨rn5, hcl, h⟩ := bd1_some h
        refine zJ_callV2 (σ := σ) (L := ([(3474, (nI 69)), (3475, m_length), (3476, m_top), (3477, m_at_6), (3478, m_wrong_6), (3484, m_isAsked), (3485, m_askedHorse), (3486, m_askedFence), (3487, m_askedLetter), (3488, m_askedHeight)], [(56, m_kind), (58, m_feet), (59, m_stride), (60, m_scope), (61, m_care), (69, m_rule)], [])) (mi := mX12_product) (yi := mX12_here) (as := []) (st := []) (L2 := ([(3474, (nI 69)), (3475, m_length), (3476, m_top), (3477, m_at_6), (3478, m_wrong_6), (3484, m_isAsked), (3485, m_askedHorse), (3486, m_askedFence), (3487, m_askedLetter), (3488, m_askedHeight)], [(56, m_kind), (58, m_feet), (59, m_stride), (60, m_scope), (61, m_care), (69, m_rule)], [])) dX12_product_14 ML_X12_161 Yv_X12_here rfl zW_54 rfl rfl (t_X12_here_r l _ hcl) (zsub_i (zle_c rfl (zle_c rfl (zle_c rfl (zle_c rfl zle_n)))) (zle_c rfl zle_n) zle_n) (zjok_i rfl rfl (zle_c rfl (zle_c rfl (zle_c rfl (zle_c rfl (zle_c rfl (zle_c rfl (zle_c rfl (zle_c rfl (zle_c rfl (zle_c rfl zle_n)))))))))) rfl rfl (zle_c rfl (zle_c rfl (zle_c rfl (zle_c rfl (zle_c rfl (zle_c rfl zle_n)))))) rfl rfl zle_n) (by omega) (Nat.le_of_ble_eq_true rfl) rfl rfl ?_
        refine zJ_bipush dX12_product_17 zb_42 rfl ?_
        have hj_X12_product_r_31 : ∀ (_u : Unit), j_X12_product_r_31 q_X12_thing_r p1 m_length m_top m_isAsked m_askedHorse m_askedFence m_askedLetter m_askedHeight m_kind m_feet m_stride m_scope m_care m_rule rc6 v2_6 m_at_6 m_wrong_6 _u = some (r, w_m_at, w_m_wrong) → zJ l zW (n + 5) mX12_product σ ([(3474, (nI 69)), (3475, m_length), (3476, m_top), (3477, m_at_6), (3478, m_wrong_6), (3484, m_isAsked), (3485, m_askedHorse), (3486, m_askedFence), (3487, m_askedLetter), (3488, m_askedHeight)], [(56, m_kind), (58, m_feet), (59, m_stride), (60, m_scope), (61, m_care), (69, m_rule)], []) 31 [(0, .ref 54), (1, .int p1), (2, .int v2_6)] [] (some (.int r)) ([(3474, (nI 69)), (3475, m_length), (3476, m_top), (3477, w_m_at), (3478, w_m_wrong), (3484, m_isAsked), (3485, m_askedHorse), (3486, m_askedFence), (3487, m_askedLetter), (3488, m_askedHeight)], [(56, m_kind), (58, m_feet), (59, m_stride), (60, m_scope), (61, m_care), (69, m_rule)], []) := by
          intro _u h
          unfold j_X12_product_r_31 at h
          refine zJ_aload_n dX12_product_31 rfl rfl ?_
          obtain ⟨rn6, hcl, h⟩ := bd1_some h
          refine zJ_callV2 (σ := σ) (L := ([(3474, (nI 69)), (3475, m_length), (3476, m_top), (3477, m_at_6), (3478, m_wrong_6), (3484, m_isAsked), (3485, m_askedHorse), (3486, m_askedFence), (3487, m_askedLetter), (3488, m_askedHeight)], [(56, m_kind), (58, m_feet), (59, m_stride), (60, m_scope), (61, m_care), (69, m_rule)], [])) (mi := mX12_product) (yi := mX12_here) (as := []) (st := []) (L2 := ([(3474, (nI 69)), (3475, m_length), (3476, m_top), (3477, m_at_6), (3478, m_wrong_6), (3484, m_isAsked), (3485, m_askedHorse), (3486, m_askedFence), (3487, m_askedLetter), (3488, m_askedHeight)], [(56, m_kind), (58, m_feet), (59, m_stride), (60, m_scope), (61, m_care), (69, m_rule)], [])) dX12_product_32 ML_X12_161 Yv_X12_here rfl zW_54 rfl rfl (t_X12_here_r l _ hcl) (zsub_i (zle_c rfl (zle_c rfl (zle_c rfl (zle_c rfl zle_n)))) (zle_c rfl zle_n) zle_n) (zjok_i rfl rfl (zle_c rfl (zle_c rfl (zle_c rfl (zle_c rfl (zle_c rfl (zle_c rfl (zle_c rfl (zle_c rfl (zle_c rfl (zle_c rfl zle_n)))))))))) rfl rfl (zle_c rfl (zle_c rfl (zle_c rfl (zle_c rfl (zle_c rfl (zle_c rfl zle_n)))))) rfl rfl zle_n) (by omega) (Nat.le_of_ble_eq_true rfl) rfl rfl ?_
          refine zJ_bipush dX12_product_35 zb_42 rfl ?_
          have hj_X12_product_r_45 : ∀ (t0_45j : Int32), j_X12_product_r_45 q_X12_thing_r p1 m_length m_top m_isAsked m_askedHorse m_askedFence m_askedLetter m_askedHeight m_kind m_feet m_stride m_scope m_care m_rule rc6 v2_6 m_at_6 m_wrong_6 t0_45j = some (r, w_m_at, w_m_wrong) → zJ l zW (n + 5) mX12_product σ ([(3474, (nI 69)), (3475, m_length), (3476, m_top), (3477, m_at_6), (3478, m_wrong_6), (3484, m_isAsked), (3485, m_askedHorse), (3486, m_askedFence), (3487, m_askedLetter), (3488, m_askedHeight)], [(56, m_kind), (58, m_feet), (59, m_stride), (60, m_scope), (61, m_care), (69, m_rule)], []) 45 [(0, .ref 54), (1, .int p1), (2, .int v2_6)] [.int t0_45j] (some (.int r)) ([(3474, (nI 69)), (3475, m_length), (3476, m_top), (3477, w_m_at), (3478, w_m_wrong), (3484, m_isAsked), (3485, m_askedHorse), (3486, m_askedFence), (3487, m_askedLetter), (3488, m_askedHeight)], [(56, m_kind), (58, m_feet), (59, m_stride), (60, m_scope), (61, m_care), (69, m_rule)], []) := by
            intro t0_45j h
            unfold j_X12_product_r_45 at h
            refine zJ_istore_n (ls' := [(3, .int t0_45j), (0, .ref 54), (1, .int p1), (2, .int v2_6)]) dX12_product_45 rfl rfl rfl ?_
            refine zJ_aload_n dX12_product_46 rfl rfl ?_
            refine zJ_dup dX12_product_47 rfl rfl ?_
            refine zJ_geti (mi := mX12_product) (x := m_at_6) dX12_product_48 F_X12_151 zW_54 rfl rfl rfl ?_
            refine zJ_iconst dX12_product_51 zc_1 rfl ?_
            refine zJ_iadd dX12_product_52 rfl ?_
            refine zK_puti (mi := mX12_product) (la' := [(3474, (nI 69)), (3475, m_length), (3476, m_top), (3477, (m_at_6 + (1 : Int32))), (3478, m_wrong_6), (3484, m_isAsked), (3485, m_askedHorse), (3486, m_askedFence), (3487, m_askedLetter), (3488, m_askedHeight)]) zW_ok dX12_product_53 F_X12_151 P_12_21 zW_54 rfl rfl rfl ?_
            refine zJ_aload_n dX12_product_56 rfl rfl ?_
            refine zJ_iload_n dX12_product_57 rfl rfl ?_
            obtain ⟨rn7, m_atn8, m_wrongn9, hcl, h⟩ := bd3_some h
            refine zJ_callV2 (σ := σ) (L := ([(3474, (nI 69)), (3475, m_length), (3476, m_top), (3477, (m_at_6 + (1 : Int32))), (3478, m_wrong_6), (3484, m_isAsked), (3485, m_askedHorse), (3486, m_askedFence), (3487, m_askedLetter), (3488, m_askedHeight)], [(56, m_kind), (58, m_feet), (59, m_stride), (60, m_scope), (61, m_care), (69, m_rule)], [])) (mi := mX12_product) (yi := mX12_thing) (as := [.int p1]) (st := []) (L2 := ([(3474, (nI 69)), (3475, m_length), (3476, m_top), (3477, m_atn8), (3478, m_wrongn9), (3484, m_isAsked), (3485, m_askedHorse), (3486, m_askedFence), (3487, m_askedLetter), (3488, m_askedHeight)], [(56, m_kind), (58, m_feet), (59, m_stride), (60, m_scope), (61, m_care), (69, m_rule)], [])) dX12_product_58 ML_X12_207 Yv_X12_thing rfl zW_54 rfl rfl (ih_X12_thing_r _ _ _ _ _ _ _ _ _ _ _ _ _ _ _ _ _ _ _ _ hcl) (zsub_i (zle_c rfl (zle_c rfl (zle_c rfl (zle_c rfl (zle_c rfl (zle_c rfl (zle_c rfl (zle_c rfl (zle_c rfl (zle_c rfl zle_n)))))))))) (zle_c rfl (zle_c rfl (zle_c rfl (zle_c rfl (zle_c rfl (zle_c rfl zle_n)))))) zle_n) (zjok_i rfl rfl (zle_c rfl (zle_c rfl (zle_c rfl (zle_c rfl (zle_c rfl (zle_c rfl (zle_c rfl (zle_c rfl (zle_c rfl (zle_c rfl zle_n)))))))))) rfl rfl (zle_c rfl (zle_c rfl (zle_c rfl (zle_c rfl (zle_c rfl (zle_c rfl zle_n)))))) rfl rfl zle_n) (by omega) (Nat.le_of_ble_eq_true rfl) rfl rfl ?_
            refine zJ_istore (ls' := [(4, .int rn7), (3, .int t0_45j), (0, .ref 54), (1, .int p1), (2, .int v2_6)]) dX12_product_61 rfl rfl rfl ?_
            refine zJ_iload_n dX12_product_63 rfl rfl ?_
            refine zJ_if_eq (tgt := 74) dX12_product_64 (by decide) rfl (fun hc => ?_) (fun hc => ?_)
            · replace h := it_t hc h
              refine zJ_iload dX12_product_74 rfl rfl ?_
              refine zJ_if_ne (tgt := 83) dX12_product_76 (by decide) rfl (fun hc => ?_) (fun hc => ?_)
              · replace h := it_f hc h
                refine zJ_iload_n dX12_product_83 rfl rfl ?_
                refine zJ_iload dX12_product_84 rfl rfl ?_
                obtain ⟨hg, h⟩ := gd_some h
                refine zJ_idiv dX12_product_86 (nz_ne hg) rfl ?_
                obtain ⟨v2n10, ev2n10, h⟩ := lt1_some h
                refine zJ_nmi ev2n10 ?_
                refine zJ_istore_n (ls' := [(2, .int v2n10), (4, .int rn7), (3, .int t0_45j), (0, .ref 54), (1, .int p1)]) dX12_product_87 rfl rfl rfl ?_
                refine zJ_goto (tgt := 6) dX12_product_88 (by decide) ?_
                refine zJ_loc (ls' := [(0, .ref 54), (1, .int p1), (2, .int v2n10)]) (zll_c rfl (zll_c rfl (zll_c rfl zll_n))) ?_
                exact hrc6 _ _ _ h
              · replace h := it_t hc h
                refine zJ_iconst dX12_product_79 zc_0 rfl ?_
                refine zJ_goto (tgt := 87) dX12_product_80 (by decide) ?_
                refine zJ_istore_n (ls' := [(2, .int (0 : Int32)), (4, .int rn7), (3, .int t0_45j), (0, .ref 54), (1, .int p1)]) dX12_product_87 rfl rfl rfl ?_
                refine zJ_goto (tgt := 6) dX12_product_88 (by decide) ?_
                refine zJ_loc (ls' := [(0, .ref 54), (1, .int p1), (2, .int (0 : Int32))]) (zll_c rfl (zll_c rfl (zll_c rfl zll_n))) ?_
                exact hrc6 _ _ _ h
            · replace h := it_f hc h
              refine zJ_iload_n dX12_product_67 rfl rfl ?_
              refine zJ_iload dX12_product_68 rfl rfl ?_
              refine zJ_imul dX12_product_70 rfl ?_
              refine zJ_goto (tgt := 87) dX12_product_71 (by decide) ?_
              obtain ⟨v2n11, ev2n11, h⟩ := lt1_some h
              refine zJ_nmi ev2n11 ?_
              refine zJ_istore_n (ls' := [(2, .int v2n11), (4, .int rn7), (3, .int t0_45j), (0, .ref 54), (1, .int p1)]) dX12_product_87 rfl rfl rfl ?_
              refine zJ_goto (tgt := 6) dX12_product_88 (by decide) ?_
              refine zJ_loc (ls' := [(0, .ref 54), (1, .int p1), (2, .int v2n11)]) (zll_c rfl (zll_c rfl (zll_c rfl zll_n))) ?_
              exact hrc6 _ _ _ h
          refine zJ_icmp_ne (tgt := 44) dX12_product_37 (by decide) rfl (fun hc => ?_) (fun hc => ?_)
          · replace h := it_f hc h
            refine zJ_iconst dX12_product_44 zc_0 rfl ?_
            refine zJ_loc (ls' := [(0, .ref 54), (1, .int p1), (2, .int v2_6)]) (zll_c rfl (zll_c rfl (zll_c rfl zll_n))) ?_
            exact hj_X12_product_r_45 _ h
          · replace h := it_t hc h
            refine zJ_iconst dX12_product_40 zc_1 rfl ?_
            refine zJ_goto (tgt := 45) dX12_product_41 (by decide) ?_
            refine zJ_loc (ls' := [(0, .ref 54), (1, .int p1), (2, .int v2_6)]) (zll_c rfl (zll_c rfl (zll_c rfl zll_n))) ?_
            exact hj_X12_product_r_45 _ h
        refine zJ_icmp_eq (tgt := 31) dX12_product_19 (by decide) rfl (fun hc => ?_) (fun hc => ?_)
        · replace h := it_t hc h
          refine zJ_loc (ls' := [(0, .ref 54), (1, .int p1), (2, .int v2_6)]) (zll_c rfl (zll_c rfl (zll_c rfl zll_n))) ?_
          exact hj_X12_product_r_31 _ h
        · replace h := it_f hc h
          refine zJ_aload_n dX12_product_22 rfl rfl ?_
          obtain ⟨rn12, hcl, h⟩ := bd1_some h
          refine zJ_callV2 (σ := σ) (L := ([(3474, (nI 69)), (3475, m_length), (3476, m_top), (3477, m_at_6), (3478, m_wrong_6), (3484, m_isAsked), (3485, m_askedHorse), (3486, m_askedFence), (3487, m_askedLetter), (3488, m_askedHeight)], [(56, m_kind), (58, m_feet), (59, m_stride), (60, m_scope), (61, m_care), (69, m_rule)], [])) (mi := mX12_product) (yi := mX12_here) (as := []) (st := []) (L2 := ([(3474, (nI 69)), (3475, m_length), (3476, m_top), (3477, m_at_6), (3478, m_wrong_6), (3484, m_isAsked), (3485, m_askedHorse), (3486, m_askedFence), (3487, m_askedLetter), (3488, m_askedHeight)], [(56, m_kind), (58, m_feet), (59, m_stride), (60, m_scope), (61, m_care), (69, m_rule)], [])) dX12_product_23 ML_X12_161 Yv_X12_here rfl zW_54 rfl rfl (t_X12_here_r l _ hcl) (zsub_i (zle_c rfl (zle_c rfl (zle_c rfl (zle_c rfl zle_n)))) (zle_c rfl zle_n) zle_n) (zjok_i rfl rfl (zle_c rfl (zle_c rfl (zle_c rfl (zle_c rfl (zle_c rfl (zle_c rfl (zle_c rfl (zle_c rfl (zle_c rfl (zle_c rfl zle_n)))))))))) rfl rfl (zle_c rfl (zle_c rfl (zle_c rfl (zle_c rfl (zle_c rfl (zle_c rfl zle_n)))))) rfl rfl zle_n) (by omega) (Nat.le_of_ble_eq_true rfl) rfl rfl ?_
          refine zJ_bipush dX12_product_26 zb_47 rfl ?_
          refine zJ_icmp_ne (tgt := 91) dX12_product_28 (by decide) rfl (fun hc => ?_) (fun hc => ?_)
          · replace h := it_f hc h
            refine zJ_loc (ls' := [(2, .int v2_6)]) (zll_c rfl zll_n) ?_
            exact hk6 _ _ _ h
          · replace h := it_t hc h
            refine zJ_loc (ls' := [(0, .ref 54), (1, .int p1), (2, .int v2_6)]) (zll_c rfl (zll_c rfl (zll_c rfl zll_n))) ?_
            exact hj_X12_product_r_31 _ h
    · intro σ p1 m_length m_top m_at m_wrong m_isAsked m_askedHorse m_askedFence m_askedLetter m_askedHeight m_kind m_feet m_stride m_scope m_care m_rule r w_m_at w_m_wrong h
      replace h : g_X12_sum_r (G_X12_held_r n).1 (G_X12_held_r n).2.1 (G_X12_held_r n).2.2.1 (G_X12_held_r n).2.2.2 p1 m_length m_top m_at m_wrong m_isAsked m_askedHorse m_askedFence m_askedLetter m_askedHeight m_kind m_feet m_stride m_scope m_care m_rule = some (r, w_m_at, w_m_wrong) := h
      generalize (G_X12_held_r n).1 = q_X12_held_r at h ih_X12_held_r ih_X12_product_r ih_X12_sum_r ih_X12_thing_r
      generalize (G_X12_held_r n).2.1 = q_X12_product_r at h ih_X12_held_r ih_X12_product_r ih_X12_sum_r ih_X12_thing_r
      generalize (G_X12_held_r n).2.2.1 = q_X12_sum_r at h ih_X12_held_r ih_X12_product_r ih_X12_sum_r ih_X12_thing_r
      generalize (G_X12_held_r n).2.2.2 = q_X12_thing_r at h ih_X12_held_r ih_X12_product_r ih_X12_sum_r ih_X12_thing_r
      show zMt l zW (n + 5) mX12_sum σ ([(3474, (nI 69)), (3475, m_length), (3476, m_top), (3477, m_at), (3478, m_wrong), (3484, m_isAsked), (3485, m_askedHorse), (3486, m_askedFence), (3487, m_askedLetter), (3488, m_askedHeight)], [(56, m_kind), (58, m_feet), (59, m_stride), (60, m_scope), (61, m_care), (69, m_rule)], []) [.ref 54, .int p1] (some (.int r)) ([(3474, (nI 69)), (3475, m_length), (3476, m_top), (3477, w_m_at), (3478, w_m_wrong), (3484, m_isAsked), (3485, m_askedHorse), (3486, m_askedFence), (3487, m_askedLetter), (3488, m_askedHeight)], [(56, m_kind), (58, m_feet), (59, m_stride), (60, m_scope), (61, m_care), (69, m_rule)], [])
      refine zMt_of (ls := [(0, .ref 54), (1, .int p1)]) (by decide) rfl (fun _ => Nat.le_of_ble_eq_true rfl) rfl ?_
      unfold g_X12_sum_r at h
      refine zJ_aload_n dX12_sum_0 rfl rfl ?_
      refine zJ_iload_n dX12_sum_1 rfl rfl ?_
      obtain ⟨rn1, m_atn2, m_wrongn3, hcl, h⟩ := bd3_some h
      refine zJ_callV2 (σ := σ) (L := ([(3474, (nI 69)), (3475, m_length), (3476, m_top), (3477, m_at), (3478, m_wrong), (3484, m_isAsked), (3485, m_askedHorse), (3486, m_askedFence), (3487, m_askedLetter), (3488, m_askedHeight)], [(56, m_kind), (58, m_feet), (59, m_stride), (60, m_scope), (61, m_care), (69, m_rule)], [])) (mi := mX12_sum) (yi := mX12_product) (as := [.int p1]) (st := []) (L2 := ([(3474, (nI 69)), (3475, m_length), (3476, m_top), (3477, m_atn2), (3478, m_wrongn3), (3484, m_isAsked), (3485, m_askedHorse), (3486, m_askedFence), (3487, m_askedLetter), (3488, m_askedHeight)], [(56, m_kind), (58, m_feet), (59, m_stride), (60, m_scope), (61, m_care), (69, m_rule)], [])) dX12_sum_2 ML_X12_204 Yv_X12_product rfl zW_54 rfl rfl (ih_X12_product_r _ _ _ _ _ _ _ _ _ _ _ _ _ _ _ _ _ _ _ _ hcl) (zsub_i (zle_c rfl (zle_c rfl (zle_c rfl (zle_c rfl (zle_c rfl (zle_c rfl (zle_c rfl (zle_c rfl (zle_c rfl (zle_c rfl zle_n)))))))))) (zle_c rfl (zle_c rfl (zle_c rfl (zle_c rfl (zle_c rfl (zle_c rfl zle_n)))))) zle_n) (zjok_i rfl rfl (zle_c rfl (zle_c rfl (zle_c rfl (zle_c rfl (zle_c rfl (zle_c rfl (zle_c rfl (zle_c rfl (zle_c rfl (zle_c rfl zle_n)))))))))) rfl rfl (zle_c rfl (zle_c rfl (zle_c rfl (zle_c rfl (zle_c rfl (zle_c rfl zle_n)))))) rfl rfl zle_n) (by omega) (Nat.le_of_ble_eq_true rfl) rfl rfl ?_
      refine zJ_istore_n (ls' := [(2, .int rn1), (0, .ref 54), (1, .int p1)]) dX12_sum_5 rfl rfl rfl ?_
      have hk6 : ∀ (v2_6x : Int32) (m_at_6x : Int32) (m_wrong_6x : Int32), k_X12_sum_r_6  v2_6x m_at_6x m_wrong_6x = some (r, w_m_at, w_m_wrong) → zJ l zW (n + 5) mX12_sum σ ([(3474, (nI 69)), (3475, m_length), (3476, m_top), (3477, m_at_6x), (3478, m_wrong_6x), (3484, m_isAsked), (3485, m_askedHorse), (3486, m_askedFence), (3487, m_askedLetter), (3488, m_askedHeight)], [(56, m_kind), (58, m_feet), (59, m_stride), (60, m_scope), (61, m_care), (69, m_rule)], []) 82 [(2, .int v2_6x)] [] (some (.int r)) ([(3474, (nI 69)), (3475, m_length), (3476, m_top), (3477, w_m_at), (3478, w_m_wrong), (3484, m_isAsked), (3485, m_askedHorse), (3486, m_askedFence), (3487, m_askedLetter), (3488, m_askedHeight)], [(56, m_kind), (58, m_feet), (59, m_stride), (60, m_scope), (61, m_care), (69, m_rule)], []) := by
        intro v2_6x m_at_6x m_wrong_6x h
        unfold k_X12_sum_r_6 at h
        refine zJ_iload_n dX12_sum_82 rfl rfl ?_
        obtain ⟨rfl, rfl, rfl⟩ := so3 h
        exact zJ_iret dX12_sum_83 rfl rfl
      refine zJ_loc (ls' := [(0, .ref 54), (1, .int p1), (2, .int rn1)]) (zll_c rfl (zll_c rfl (zll_c rfl zll_n))) ?_
      refine ml3_J (fun (v2_6 : Int32) (m_at_6 : Int32) (m_wrong_6 : Int32) => zJ l zW (n + 5) mX12_sum σ ([(3474, (nI 69)), (3475, m_length), (3476, m_top), (3477, m_at_6), (3478, m_wrong_6), (3484, m_isAsked), (3485, m_askedHorse), (3486, m_askedFence), (3487, m_askedLetter), (3488, m_askedHeight)], [(56, m_kind), (58, m_feet), (59, m_stride), (60, m_scope), (61, m_care), (69, m_rule)], []) 6 [(0, .ref 54), (1, .int p1), (2, .int v2_6)] [] (some (.int r)) ([(3474, (nI 69)), (3475, m_length), (3476, m_top), (3477, w_m_at), (3478, w_m_wrong), (3484, m_isAsked), (3485, m_askedHorse), (3486, m_askedFence), (3487, m_askedLetter), (3488, m_askedHeight)], [(56, m_kind), (58, m_feet), (59, m_stride), (60, m_scope), (61, m_care), (69, m_rule)], [])) (fun rc6 hrc6 v2_6 m_at_6 m_wrong_6 h => ?_) zN _ _ _ h
      unfold s_X12_sum_r_6 at h
      refine zJ_aload_n dX12_sum_6 rfl rfl ?_
      obtain ⟨rn4, hcl, h⟩ := bd1_some h
      refine zJ_callV2 (σ := σ) (L := ([(3474, (nI 69)), (3475, m_length), (3476, m_top), (3477, m_at_6), (3478, m_wrong_6), (3484, m_isAsked), (3485, m_askedHorse), (3486, m_askedFence), (3487, m_askedLetter), (3488, m_askedHeight)], [(56, m_kind), (58, m_feet), (59, m_stride), (60, m_scope), (61, m_care), (69, m_rule)], [])) (mi := mX12_sum) (yi := mX12_fine) (as := []) (st := []) (L2 := ([(3474, (nI 69)), (3475, m_length), (3476, m_top), (3477, m_at_6), (3478, m_wrong_6), (3484, m_isAsked), (3485, m_askedHorse), (3486, m_askedFence), (3487, m_askedLetter), (3488, m_askedHeight)], [(56, m_kind), (58, m_feet), (59, m_stride), (60, m_scope), (61, m_care), (69, m_rule)], [])) dX12_sum_7 ML_X12_157 Yv_X12_fine rfl zW_54 rfl rfl (t_X12_fine l _ hcl) (zsub_i (zle_c rfl zle_n) zle_n zle_n) (zjok_i rfl rfl (zle_c rfl (zle_c rfl (zle_c rfl (zle_c rfl (zle_c rfl (zle_c rfl (zle_c rfl (zle_c rfl (zle_c rfl (zle_c rfl zle_n)))))))))) rfl rfl (zle_c rfl (zle_c rfl (zle_c rfl (zle_c rfl (zle_c rfl (zle_c rfl zle_n)))))) rfl rfl zle_n) (by omega) (Nat.le_of_ble_eq_true rfl) rfl rfl ?_
      refine zJ_if_eq (tgt := 82) dX12_sum_10 (by decide) rfl (fun hc => ?_) (fun hc => ?_)
      · replace h := it_t hc h
        refine zJ_loc (ls' := [(2, .int v2_6)]) (zll_c rfl zll_n) ?_
        exact hk6 _ _ _ h
      · replace h := it_f hc h
        refine zJ_aload_n dX12_sum_13 rfl rfl ?_
        obtain ⟨rn5, hcl, h⟩ := bd1_some h
        refine zJ_callV2 (σ := σ) (L := ([(3474, (nI 69)), (3475, m_length), (3476, m_top), (3477, m_at_6), (3478, m_wrong_6), (3484, m_isAsked), (3485, m_askedHorse), (3486, m_askedFence), (3487, m_askedLetter), (3488, m_askedHeight)], [(56, m_kind), (58, m_feet), (59, m_stride), (60, m_scope), (61, m_care), (69, m_rule)], [])) (mi := mX12_sum) (yi := mX12_here) (as := []) (st := []) (L2 := ([(3474, (nI 69)), (3475, m_length), (3476, m_top), (3477, m_at_6), (3478, m_wrong_6), (3484, m_isAsked), (3485, m_askedHorse), (3486, m_askedFence), (3487, m_askedLetter), (3488, m_askedHeight)], [(56, m_kind), (58, m_feet), (59, m_stride), (60, m_scope), (61, m_care), (69, m_rule)], [])) dX12_sum_14 ML_X12_161 Yv_X12_here rfl zW_54 rfl rfl (t_X12_here_r l _ hcl) (zsub_i (zle_c rfl (zle_c rfl (zle_c rfl (zle_c rfl zle_n)))) (zle_c rfl zle_n) zle_n) (zjok_i rfl rfl (zle_c rfl (zle_c rfl (zle_c rfl (zle_c rfl (zle_c rfl (zle_c rfl (zle_c rfl (zle_c rfl (zle_c rfl (zle_c rfl zle_n)))))))))) rfl rfl (zle_c rfl (zle_c rfl (zle_c rfl (zle_c rfl (zle_c rfl (zle_c rfl zle_n)))))) rfl rfl zle_n) (by omega) (Nat.le_of_ble_eq_true rfl) rfl rfl ?_
        refine zJ_bipush dX12_sum_17 zb_43 rfl ?_
        have hj_X12_sum_r_31 : ∀ (_u : Unit), j_X12_sum_r_31 q_X12_product_r p1 m_length m_top m_isAsked m_askedHorse m_askedFence m_askedLetter m_askedHeight m_kind m_feet m_stride m_scope m_care m_rule rc6 v2_6 m_at_6 m_wrong_6 _u = some (r, w_m_at, w_m_wrong) → zJ l zW (n + 5) mX12_sum σ ([(3474, (nI 69)), (3475, m_length), (3476, m_top), (3477, m_at_6), (3478, m_wrong_6), (3484, m_isAsked), (3485, m_askedHorse), (3486, m_askedFence), (3487, m_askedLetter), (3488, m_askedHeight)], [(56, m_kind), (58, m_feet), (59, m_stride), (60, m_scope), (61, m_care), (69, m_rule)], []) 31 [(0, .ref 54), (1, .int p1), (2, .int v2_6)] [] (some (.int r)) ([(3474, (nI 69)), (3475, m_length), (3476, m_top), (3477, w_m_at), (3478, w_m_wrong), (3484, m_isAsked), (3485, m_askedHorse), (3486, m_askedFence), (3487, m_askedLetter), (3488, m_askedHeight)], [(56, m_kind), (58, m_feet), (59, m_stride), (60, m_scope), (61, m_care), (69, m_rule)], []) := by
          intro _u h
          unfold j_X12_sum_r_31 at h
          refine zJ_aload_n dX12_sum_31 rfl rfl ?_
          obtain ⟨rn6, hcl, h⟩ := bd1_some h
          refine zJ_callV2 (σ := σ) (L := ([(3474, (nI 69)), (3475, m_length), (3476, m_top), (3477, m_at_6), (3478, m_wrong_6), (3484, m_isAsked), (3485, m_askedHorse), (3486, m_askedFence), (3487, m_askedLetter), (3488, m_askedHeight)], [(56, m_kind), (58, m_feet), (59, m_stride), (60, m_scope), (61, m_care), (69, m_rule)], [])) (mi := mX12_sum) (yi := mX12_here) (as := []) (st := []) (L2 := ([(3474, (nI 69)), (3475, m_length), (3476, m_top), (3477, m_at_6), (3478, m_wrong_6), (3484, m_isAsked), (3485, m_askedHorse), (3486, m_askedFence), (3487, m_askedLetter), (3488, m_askedHeight)], [(56, m_kind), (58, m_feet), (59, m_stride), (60, m_scope), (61, m_care), (69, m_rule)], [])) dX12_sum_32 ML_X12_161 Yv_X12_here rfl zW_54 rfl rfl (t_X12_here_r l _ hcl) (zsub_i (zle_c rfl (zle_c rfl (zle_c rfl (zle_c rfl zle_n)))) (zle_c rfl zle_n) zle_n) (zjok_i rfl rfl (zle_c rfl (zle_c rfl (zle_c rfl (zle_c rfl (zle_c rfl (zle_c rfl (zle_c rfl (zle_c rfl (zle_c rfl (zle_c rfl zle_n)))))))))) rfl rfl (zle_c rfl (zle_c rfl (zle_c rfl (zle_c rfl (zle_c rfl (zle_c rfl zle_n)))))) rfl rfl zle_n) (by omega) (Nat.le_of_ble_eq_true rfl) rfl rfl ?_
          refine zJ_bipush dX12_sum_35 zb_43 rfl ?_
          have hj_X12_sum_r_45 : ∀ (t0_45j : Int32), j_X12_sum_r_45 q_X12_product_r p1 m_length m_top m_isAsked m_askedHorse m_askedFence m_askedLetter m_askedHeight m_kind m_feet m_stride m_scope m_care m_rule rc6 v2_6 m_at_6 m_wrong_6 t0_45j = some (r, w_m_at, w_m_wrong) → zJ l zW (n + 5) mX12_sum σ ([(3474, (nI 69)), (3475, m_length), (3476, m_top), (3477, m_at_6), (3478, m_wrong_6), (3484, m_isAsked), (3485, m_askedHorse), (3486, m_askedFence), (3487, m_askedLetter), (3488, m_askedHeight)], [(56, m_kind), (58, m_feet), (59, m_stride), (60, m_scope), (61, m_care), (69, m_rule)], []) 45 [(0, .ref 54), (1, .int p1), (2, .int v2_6)] [.int t0_45j] (some (.int r)) ([(3474, (nI 69)), (3475, m_length), (3476, m_top), (3477, w_m_at), (3478, w_m_wrong), (3484, m_isAsked), (3485, m_askedHorse), (3486, m_askedFence), (3487, m_askedLetter), (3488, m_askedHeight)], [(56, m_kind), (58, m_feet), (59, m_stride), (60, m_scope), (61, m_care), (69, m_rule)], []) := by
            intro t0_45j h
            unfold j_X12_sum_r_45 at h
            refine zJ_istore_n (ls' := [(3, .int t0_45j), (0, .ref 54), (1, .int p1), (2, .int v2_6)]) dX12_sum_45 rfl rfl rfl ?_
            refine zJ_aload_n dX12_sum_46 rfl rfl ?_
            refine zJ_dup dX12_sum_47 rfl rfl ?_
            refine zJ_geti (mi := mX12_sum) (x := m_at_6) dX12_sum_48 F_X12_151 zW_54 rfl rfl rfl ?_
            refine zJ_iconst dX12_sum_51 zc_1 rfl ?_
            refine zJ_iadd dX12_sum_52 rfl ?_
            refine zK_puti (mi := mX12_sum) (la' := [(3474, (nI 69)), (3475, m_length), (3476, m_top), (3477, (m_at_6 + (1 : Int32))), (3478, m_wrong_6), (3484, m_isAsked), (3485, m_askedHorse), (3486, m_askedFence), (3487, m_askedLetter), (3488, m_askedHeight)]) zW_ok dX12_sum_53 F_X12_151 P_12_21 zW_54 rfl rfl rfl ?_
            refine zJ_aload_n dX12_sum_56 rfl rfl ?_
            refine zJ_iload_n dX12_sum_57 rfl rfl ?_
            obtain ⟨rn7, m_atn8, m_wrongn9, hcl, h⟩ := bd3_some h
            refine zJ_callV2 (σ := σ) (L := ([(3474, (nI 69)), (3475, m_length), (3476, m_top), (3477, (m_at_6 + (1 : Int32))), (3478, m_wrong_6), (3484, m_isAsked), (3485, m_askedHorse), (3486, m_askedFence), (3487, m_askedLetter), (3488, m_askedHeight)], [(56, m_kind), (58, m_feet), (59, m_stride), (60, m_scope), (61, m_care), (69, m_rule)], [])) (mi := mX12_sum) (yi := mX12_product) (as := [.int p1]) (st := []) (L2 := ([(3474, (nI 69)), (3475, m_length), (3476, m_top), (3477, m_atn8), (3478, m_wrongn9), (3484, m_isAsked), (3485, m_askedHorse), (3486, m_askedFence), (3487, m_askedLetter), (3488, m_askedHeight)], [(56, m_kind), (58, m_feet), (59, m_stride), (60, m_scope), (61, m_care), (69, m_rule)], [])) dX12_sum_58 ML_X12_204 Yv_X12_product rfl zW_54 rfl rfl (ih_X12_product_r _ _ _ _ _ _ _ _ _ _ _ _ _ _ _ _ _ _ _ _ hcl) (zsub_i (zle_c rfl (zle_c rfl (zle_c rfl (zle_c rfl (zle_c rfl (zle_c rfl (zle_c rfl (zle_c rfl (zle_c rfl (zle_c rfl zle_n)))))))))) (zle_c rfl (zle_c rfl (zle_c rfl (zle_c rfl (zle_c rfl (zle_c rfl zle_n)))))) zle_n) (zjok_i rfl rfl (zle_c rfl (zle_c rfl (zle_c rfl (zle_c rfl (zle_c rfl (zle_c rfl (zle_c rfl (zle_c rfl (zle_c rfl (zle_c rfl zle_n)))))))))) rfl rfl (zle_c rfl (zle_c rfl (zle_c rfl (zle_c rfl (zle_c rfl (zle_c rfl zle_n)))))) rfl rfl zle_n) (by omega) (Nat.le_of_ble_eq_true rfl) rfl rfl ?_
            refine zJ_istore (ls' := [(4, .int rn7), (3, .int t0_45j), (0, .ref 54), (1, .int p1), (2, .int v2_6)]) dX12_sum_61 rfl rfl rfl ?_
            refine zJ_iload_n dX12_sum_63 rfl rfl ?_
            refine zJ_if_eq (tgt := 74) dX12_sum_64 (by decide) rfl (fun hc => ?_) (fun hc => ?_)
            · replace h := it_t hc h
              refine zJ_iload_n dX12_sum_74 rfl rfl ?_
              refine zJ_iload dX12_sum_75 rfl rfl ?_
              refine zJ_isub dX12_sum_77 rfl ?_
              obtain ⟨v2n10, ev2n10, h⟩ := lt1_some h
              refine zJ_nmi ev2n10 ?_
              refine zJ_istore_n (ls' := [(2, .int v2n10), (4, .int rn7), (3, .int t0_45j), (0, .ref 54), (1, .int p1)]) dX12_sum_78 rfl rfl rfl ?_
              refine zJ_goto (tgt := 6) dX12_sum_79 (by decide) ?_
              refine zJ_loc (ls' := [(0, .ref 54), (1, .int p1), (2, .int v2n10)]) (zll_c rfl (zll_c rfl (zll_c rfl zll_n))) ?_
              exact hrc6 _ _ _ h
            · replace h := it_f hc h
              refine zJ_iload_n dX12_sum_67 rfl rfl ?_
              refine zJ_iload dX12_sum_68 rfl rfl ?_
              refine zJ_iadd dX12_sum_70 rfl ?_
              refine zJ_goto (tgt := 78) dX12_sum_71 (by decide) ?_
              obtain ⟨v2n11, ev2n11, h⟩ := lt1_some h
              refine zJ_nmi ev2n11 ?_
              refine zJ_istore_n (ls' := [(2, .int v2n11), (4, .int rn7), (3, .int t0_45j), (0, .ref 54), (1, .int p1)]) dX12_sum_78 rfl rfl rfl ?_
              refine zJ_goto (tgt := 6) dX12_sum_79 (by decide) ?_
              refine zJ_loc (ls' := [(0, .ref 54), (1, .int p1), (2, .int v2n11)]) (zll_c rfl (zll_c rfl (zll_c rfl zll_n))) ?_
              exact hrc6 _ _ _ h
          refine zJ_icmp_ne (tgt := 44) dX12_sum_37 (by decide) rfl (fun hc => ?_) (fun hc => ?_)
          · replace h := it_f hc h
            refine zJ_iconst dX12_sum_44 zc_0 rfl ?_
            refine zJ_loc (ls' := [(0, .ref 54), (1, .int p1), (2, .int v2_6)]) (zll_c rfl (zll_c rfl (zll_c rfl zll_n))) ?_
            exact hj_X12_sum_r_45 _ h
          · replace h := it_t hc h
            refine zJ_iconst dX12_sum_40 zc_1 rfl ?_
            refine zJ_goto (tgt := 45) dX12_sum_41 (by decide) ?_
            refine zJ_loc (ls' := [(0, .ref 54), (1, .int p1), (2, .int v2_6)]) (zll_c rfl (zll_c rfl (zll_c rfl zll_n))) ?_
            exact hj_X12_sum_r_45 _ h
        refine zJ_icmp_eq (tgt := 31) dX12_sum_19 (by decide) rfl (fun hc => ?_) (fun hc => ?_)
        · replace h := it_t hc h
          refine zJ_loc (ls' := [(0, .ref 54), (1, .int p1), (2, .int v2_6)]) (zll_c rfl (zll_c rfl (zll_c rfl zll_n))) ?_
          exact hj_X12_sum_r_31 _ h
        · replace h := it_f hc h
          refine zJ_aload_n dX12_sum_22 rfl rfl ?_
          obtain ⟨rn12, hcl, h⟩ := bd1_some h
          refine zJ_callV2 (σ := σ) (L := ([(3474, (nI 69)), (3475, m_length), (3476, m_top), (3477, m_at_6), (3478, m_wrong_6), (3484, m_isAsked), (3485, m_askedHorse), (3486, m_askedFence), (3487, m_askedLetter), (3488, m_askedHeight)], [(56, m_kind), (58, m_feet), (59, m_stride), (60, m_scope), (61, m_care), (69, m_rule)], [])) (mi := mX12_sum) (yi := mX12_here) (as := []) (st := []) (L2 := ([(3474, (nI 69)), (3475, m_length), (3476, m_top), (3477, m_at_6), (3478, m_wrong_6), (3484, m_isAsked), (3485, m_askedHorse), (3486, m_askedFence), (3487, m_askedLetter), (3488, m_askedHeight)], [(56, m_kind), (58, m_feet), (59, m_stride), (60, m_scope), (61, m_care), (69, m_rule)], [])) dX12_sum_23 ML_X12_161 Yv_X12_here rfl zW_54 rfl rfl (t_X12_here_r l _ hcl) (zsub_i (zle_c rfl (zle_c rfl (zle_c rfl (zle_c rfl zle_n)))) (zle_c rfl zle_n) zle_n) (zjok_i rfl rfl (zle_c rfl (zle_c rfl (zle_c rfl (zle_c rfl (zle_c rfl (zle_c rfl (zle_c rfl (zle_c rfl (zle_c rfl (zle_c rfl zle_n)))))))))) rfl rfl (zle_c rfl (zle_c rfl (zle_c rfl (zle_c rfl (zle_c rfl (zle_c rfl zle_n)))))) rfl rfl zle_n) (by omega) (Nat.le_of_ble_eq_true rfl) rfl rfl ?_
          refine zJ_bipush dX12_sum_26 zb_45 rfl ?_
          refine zJ_icmp_ne (tgt := 82) dX12_sum_28 (by decide) rfl (fun hc => ?_) (fun hc => ?_)
          · replace h := it_f hc h
            refine zJ_loc (ls' := [(2, .int v2_6)]) (zll_c rfl zll_n) ?_
            exact hk6 _ _ _ h
          · replace h := it_t hc h
            refine zJ_loc (ls' := [(0, .ref 54), (1, .int p1), (2, .int v2_6)]) (zll_c rfl (zll_c rfl (zll_c rfl zll_n))) ?_
            exact hj_X12_sum_r_31 _ h
    · intro σ p1 m_length m_top m_at m_wrong m_isAsked m_askedHorse m_askedFence m_askedLetter m_askedHeight m_kind m_feet m_stride m_scope m_care m_rule r w_m_at w_m_wrong h
      replace h : g_X12_thing_r (G_X12_held_r n).1 (G_X12_held_r n).2.1 (G_X12_held_r n).2.2.1 (G_X12_held_r n).2.2.2 p1 m_length m_top m_at m_wrong m_isAsked m_askedHorse m_askedFence m_askedLetter m_askedHeight m_kind m_feet m_stride m_scope m_care m_rule = some (r, w_m_at, w_m_wrong) := h
      generalize (G_X12_held_r n).1 = q_X12_held_r at h ih_X12_held_r ih_X12_product_r ih_X12_sum_r ih_X12_thing_r
      generalize (G_X12_held_r n).2.1 = q_X12_product_r at h ih_X12_held_r ih_X12_product_r ih_X12_sum_r ih_X12_thing_r
      generalize (G_X12_held_r n).2.2.1 = q_X12_sum_r at h ih_X12_held_r ih_X12_product_r ih_X12_sum_r ih_X12_thing_r
      generalize (G_X12_held_r n).2.2.2 = q_X12_thing_r at h ih_X12_held_r ih_X12_product_r ih_X12_sum_r ih_X12_thing_r
      show zMt l zW (n + 5) mX12_thing σ ([(3474, (nI 69)), (3475, m_length), (3476, m_top), (3477, m_at), (3478, m_wrong), (3484, m_isAsked), (3485, m_askedHorse), (3486, m_askedFence), (3487, m_askedLetter), (3488, m_askedHeight)], [(56, m_kind), (58, m_feet), (59, m_stride), (60, m_scope), (61, m_care), (69, m_rule)], []) [.ref 54, .int p1] (some (.int r)) ([(3474, (nI 69)), (3475, m_length), (3476, m_top), (3477, w_m_at), (3478, w_m_wrong), (3484, m_isAsked), (3485, m_askedHorse), (3486, m_askedFence), (3487, m_askedLetter), (3488, m_askedHeight)], [(56, m_kind), (58, m_feet), (59, m_stride), (60, m_scope), (61, m_care), (69, m_rule)], [])
      refine zMt_of (ls := [(0, .ref 54), (1, .int p1)]) (by decide) rfl (fun _ => Nat.le_of_ble_eq_true rfl) rfl ?_
      unfold g_X12_thing_r at h
      refine zJ_aload_n dX12_thing_0 rfl rfl ?_
      refine zJ_bipush dX12_thing_1 zb_45 rfl ?_
      obtain ⟨rn1, m_atn2, hcl, h⟩ := bd2_some h
      refine zJ_callV2 (σ := σ) (L := ([(3474, (nI 69)), (3475, m_length), (3476, m_top), (3477, m_at), (3478, m_wrong), (3484, m_isAsked), (3485, m_askedHorse), (3486, m_askedFence), (3487, m_askedLetter), (3488, m_askedHeight)], [(56, m_kind), (58, m_feet), (59, m_stride), (60, m_scope), (61, m_care), (69, m_rule)], [])) (mi := mX12_thing) (yi := mX12_passes) (as := [.int (45 : Int32)]) (st := []) (L2 := ([(3474, (nI 69)), (3475, m_length), (3476, m_top), (3477, m_atn2), (3478, m_wrong), (3484, m_isAsked), (3485, m_askedHorse), (3486, m_askedFence), (3487, m_askedLetter), (3488, m_askedHeight)], [(56, m_kind), (58, m_feet), (59, m_stride), (60, m_scope), (61, m_care), (69, m_rule)], [])) dX12_thing_3 ML_X12_165 Yv_X12_passes rfl zW_54 rfl rfl (t_X12_passes_r l _ hcl) (zsub_i (zle_c rfl (zle_c rfl (zle_c rfl (zle_c rfl (zle_c rfl zle_n))))) (zle_c rfl zle_n) zle_n) (zjok_i rfl rfl (zle_c rfl (zle_c rfl (zle_c rfl (zle_c rfl (zle_c rfl (zle_c rfl (zle_c rfl (zle_c rfl (zle_c rfl (zle_c rfl zle_n)))))))))) rfl rfl (zle_c rfl (zle_c rfl (zle_c rfl (zle_c rfl (zle_c rfl (zle_c rfl zle_n)))))) rfl rfl zle_n) (by omega) (Nat.le_of_ble_eq_true rfl) rfl rfl ?_
      refine zJ_if_eq (tgt := 16) dX12_thing_6 (by decide) rfl (fun hc => ?_) (fun hc => ?_)
      · replace h := it_t hc h
        refine zJ_aload_n dX12_thing_16 rfl rfl ?_
        obtain ⟨rn3, hcl, h⟩ := bd1_some h
        refine zJ_callV2 (σ := σ) (L := ([(3474, (nI 69)), (3475, m_length), (3476, m_top), (3477, m_atn2), (3478, m_wrong), (3484, m_isAsked), (3485, m_askedHorse), (3486, m_askedFence), (3487, m_askedLetter), (3488, m_askedHeight)], [(56, m_kind), (58, m_feet), (59, m_stride), (60, m_scope), (61, m_care), (69, m_rule)], [])) (mi := mX12_thing) (yi := mX12_fine) (as := []) (st := []) (L2 := ([(3474, (nI 69)), (3475, m_length), (3476, m_top), (3477, m_atn2), (3478, m_wrong), (3484, m_isAsked), (3485, m_askedHorse), (3486, m_askedFence), (3487, m_askedLetter), (3488, m_askedHeight)], [(56, m_kind), (58, m_feet), (59, m_stride), (60, m_scope), (61, m_care), (69, m_rule)], [])) dX12_thing_17 ML_X12_157 Yv_X12_fine rfl zW_54 rfl rfl (t_X12_fine l _ hcl) (zsub_i (zle_c rfl zle_n) zle_n zle_n) (zjok_i rfl rfl (zle_c rfl (zle_c rfl (zle_c rfl (zle_c rfl (zle_c rfl (zle_c rfl (zle_c rfl (zle_c rfl (zle_c rfl (zle_c rfl zle_n)))))))))) rfl rfl (zle_c rfl (zle_c rfl (zle_c rfl (zle_c rfl (zle_c rfl (zle_c rfl zle_n)))))) rfl rfl zle_n) (by omega) (Nat.le_of_ble_eq_true rfl) rfl rfl ?_
        refine zJ_if_ne (tgt := 25) dX12_thing_20 (by decide) rfl (fun hc => ?_) (fun hc => ?_)
        · replace h := it_f hc h
          refine zJ_aload_n dX12_thing_25 rfl rfl ?_
          obtain ⟨rn4, hcl, h⟩ := bd1_some h
          refine zJ_callV2 (σ := σ) (L := ([(3474, (nI 69)), (3475, m_length), (3476, m_top), (3477, m_atn2), (3478, m_wrong), (3484, m_isAsked), (3485, m_askedHorse), (3486, m_askedFence), (3487, m_askedLetter), (3488, m_askedHeight)], [(56, m_kind), (58, m_feet), (59, m_stride), (60, m_scope), (61, m_care), (69, m_rule)], [])) (mi := mX12_thing) (yi := mX12_here) (as := []) (st := []) (L2 := ([(3474, (nI 69)), (3475, m_length), (3476, m_top), (3477, m_atn2), (3478, m_wrong), (3484, m_isAsked), (3485, m_askedHorse), (3486, m_askedFence), (3487, m_askedLetter), (3488, m_askedHeight)], [(56, m_kind), (58, m_feet), (59, m_stride), (60, m_scope), (61, m_care), (69, m_rule)], [])) dX12_thing_26 ML_X12_161 Yv_X12_here rfl zW_54 rfl rfl (t_X12_here_r l _ hcl) (zsub_i (zle_c rfl (zle_c rfl (zle_c rfl (zle_c rfl zle_n)))) (zle_c rfl zle_n) zle_n) (zjok_i rfl rfl (zle_c rfl (zle_c rfl (zle_c rfl (zle_c rfl (zle_c rfl (zle_c rfl (zle_c rfl (zle_c rfl (zle_c rfl (zle_c rfl zle_n)))))))))) rfl rfl (zle_c rfl (zle_c rfl (zle_c rfl (zle_c rfl (zle_c rfl (zle_c rfl zle_n)))))) rfl rfl zle_n) (by omega) (Nat.le_of_ble_eq_true rfl) rfl rfl ?_
          refine zJ_istore_n (ls' := [(2, .int rn4), (0, .ref 54), (1, .int p1)]) dX12_thing_29 rfl rfl rfl ?_
          refine zJ_iload_n dX12_thing_30 rfl rfl ?_
          refine zJ_bipush dX12_thing_31 zb_40 rfl ?_
          have hj_X12_thing_r_67 : ∀ (m_at_67j : Int32) (m_wrong_67j : Int32), j_X12_thing_r_67 m_length m_top m_isAsked m_askedHorse m_askedFence m_askedLetter m_askedHeight m_kind m_feet m_stride m_scope m_care m_rule rn4 m_at_67j m_wrong_67j = some (r, w_m_at, w_m_wrong) → zJ l zW (n + 5) mX12_thing σ ([(3474, (nI 69)), (3475, m_length), (3476, m_top), (3477, m_at_67j), (3478, m_wrong_67j), (3484, m_isAsked), (3485, m_askedHorse), (3486, m_askedFence), (3487, m_askedLetter), (3488, m_askedHeight)], [(56, m_kind), (58, m_feet), (59, m_stride), (60, m_scope), (61, m_care), (69, m_rule)], []) 67 [(0, .ref 54), (2, .int rn4)] [] (some (.int r)) ([(3474, (nI 69)), (3475, m_length), (3476, m_top), (3477, w_m_at), (3478, w_m_wrong), (3484, m_isAsked), (3485, m_askedHorse), (3486, m_askedFence), (3487, m_askedLetter), (3488, m_askedHeight)], [(56, m_kind), (58, m_feet), (59, m_stride), (60, m_scope), (61, m_care), (69, m_rule)], []) := by
            intro m_at_67j m_wrong_67j h
            unfold j_X12_thing_r_67 at h
            refine zJ_iload_n dX12_thing_67 rfl rfl ?_
            refine zJ_bipush dX12_thing_68 zb_48 rfl ?_
            refine zJ_bipush dX12_thing_70 zb_57 rfl ?_
            obtain ⟨rn5, hcl, h⟩ := bd1_some h
            refine zJ_callS2 (σ := σ) (L := ([(3474, (nI 69)), (3475, m_length), (3476, m_top), (3477, m_at_67j), (3478, m_wrong_67j), (3484, m_isAsked), (3485, m_askedHorse), (3486, m_askedFence), (3487, m_askedLetter), (3488, m_askedHeight)], [(56, m_kind), (58, m_feet), (59, m_stride), (60, m_scope), (61, m_care), (69, m_rule)], [])) (mi := mX12_thing) (yi := mX12_in) (as := [.int rn4, .int (48 : Int32), .int (57 : Int32)]) (st := []) (L2 := ([(3474, (nI 69)), (3475, m_length), (3476, m_top), (3477, m_at_67j), (3478, m_wrong_67j), (3484, m_isAsked), (3485, m_askedHorse), (3486, m_askedFence), (3487, m_askedLetter), (3488, m_askedHeight)], [(56, m_kind), (58, m_feet), (59, m_stride), (60, m_scope), (61, m_care), (69, m_rule)], [])) dX12_thing_72 ML_X12_122 Ys_X12_in rfl (t_X12_in l _ hcl) (zsub_i zle_n zle_n zle_n) (zjok_i rfl rfl (zle_c rfl (zle_c rfl (zle_c rfl (zle_c rfl (zle_c rfl (zle_c rfl (zle_c rfl (zle_c rfl (zle_c rfl (zle_c rfl zle_n)))))))))) rfl rfl (zle_c rfl (zle_c rfl (zle_c rfl (zle_c rfl (zle_c rfl (zle_c rfl zle_n)))))) rfl rfl zle_n) (by omega) (Nat.le_of_ble_eq_true rfl) rfl rfl ?_
            refine zJ_if_eq (tgt := 84) dX12_thing_75 (by decide) rfl (fun hc => ?_) (fun hc => ?_)
            · replace h := it_t hc h
              refine zJ_iload_n dX12_thing_84 rfl rfl ?_
              refine zJ_bipush dX12_thing_85 zb_104 rfl ?_
              have hj_X12_thing_r_142 : ∀ (m_wrong_142j : Int32), j_X12_thing_r_142 m_isAsked m_askedHorse m_askedFence m_askedLetter m_askedHeight m_kind m_feet m_stride m_scope m_care rn4 m_at_67j m_wrong_142j = some (r, w_m_at, w_m_wrong) → zJ l zW (n + 5) mX12_thing σ ([(3474, (nI 69)), (3475, m_length), (3476, m_top), (3477, m_at_67j), (3478, m_wrong_142j), (3484, m_isAsked), (3485, m_askedHorse), (3486, m_askedFence), (3487, m_askedLetter), (3488, m_askedHeight)], [(56, m_kind), (58, m_feet), (59, m_stride), (60, m_scope), (61, m_care), (69, m_rule)], []) 142 [(0, .ref 54), (2, .int rn4)] [] (some (.int r)) ([(3474, (nI 69)), (3475, m_length), (3476, m_top), (3477, w_m_at), (3478, w_m_wrong), (3484, m_isAsked), (3485, m_askedHorse), (3486, m_askedFence), (3487, m_askedLetter), (3488, m_askedHeight)], [(56, m_kind), (58, m_feet), (59, m_stride), (60, m_scope), (61, m_care), (69, m_rule)], []) := by
                intro m_wrong_142j h
                unfold j_X12_thing_r_142 at h
                refine zJ_aload_n dX12_thing_142 rfl rfl ?_
                refine zJ_dup dX12_thing_143 rfl rfl ?_
                refine zJ_geti (mi := mX12_thing) (x := m_at_67j) dX12_thing_144 F_X12_151 zW_54 rfl rfl rfl ?_
                refine zJ_iconst dX12_thing_147 zc_1 rfl ?_
                refine zJ_iadd dX12_thing_148 rfl ?_
                refine zK_puti (mi := mX12_thing) (la' := [(3474, (nI 69)), (3475, m_length), (3476, m_top), (3477, (m_at_67j + (1 : Int32))), (3478, m_wrong_142j), (3484, m_isAsked), (3485, m_askedHorse), (3486, m_askedFence), (3487, m_askedLetter), (3488, m_askedHeight)]) zW_ok dX12_thing_149 F_X12_151 P_12_21 zW_54 rfl rfl rfl ?_
                refine zJ_aload_n dX12_thing_152 rfl rfl ?_
                refine zJ_geti (mi := mX12_thing) (x := m_isAsked) dX12_thing_153 F_X12_213 zW_54 rfl rfl rfl ?_
                refine zJ_if_eq (tgt := 167) dX12_thing_156 (by decide) rfl (fun hc => ?_) (fun hc => ?_)
                · replace h := it_t hc h
                  refine zJ_iconst dX12_thing_167 zc_0 rfl ?_
                  obtain ⟨rfl, rfl, rfl⟩ := so3 h
                  exact zJ_iret dX12_thing_168 rfl rfl
                · replace h := it_f hc h
                  refine zJ_aload_n dX12_thing_159 rfl rfl ?_
                  refine zJ_iload_n dX12_thing_160 rfl rfl ?_
                  obtain ⟨rn6, hcl, h⟩ := bd1_some h
                  refine zJ_callV2 (σ := σ) (L := ([(3474, (nI 69)), (3475, m_length), (3476, m_top), (3477, (m_at_67j + (1 : Int32))), (3478, m_wrong_142j), (3484, m_isAsked), (3485, m_askedHorse), (3486, m_askedFence), (3487, m_askedLetter), (3488, m_askedHeight)], [(56, m_kind), (58, m_feet), (59, m_stride), (60, m_scope), (61, m_care), (69, m_rule)], [])) (mi := mX12_thing) (yi := mX12_valueOf) (as := [.int rn4]) (st := []) (L2 := ([(3474, (nI 69)), (3475, m_length), (3476, m_top), (3477, (m_at_67j + (1 : Int32))), (3478, m_wrong_142j), (3484, m_isAsked), (3485, m_askedHorse), (3486, m_askedFence), (3487, m_askedLetter), (3488, m_askedHeight)], [(56, m_kind), (58, m_feet), (59, m_stride), (60, m_scope), (61, m_care), (69, m_rule)], [])) dX12_thing_161 ML_X12_217 Yv_X12_valueOf rfl zW_54 rfl rfl (t_X12_valueOf l _ hcl) (zsub_i (zle_c rfl (zle_c rfl (zle_c rfl (zle_c rfl zle_n)))) (zle_c rfl (zle_c rfl (zle_c rfl (zle_c rfl (zle_c rfl zle_n))))) zle_n) (zjok_i rfl rfl (zle_c rfl (zle_c rfl (zle_c rfl (zle_c rfl (zle_c rfl (zle_c rfl (zle_c rfl (zle_c rfl (zle_c rfl (zle_c rfl zle_n)))))))))) rfl rfl (zle_c rfl (zle_c rfl (zle_c rfl (zle_c rfl (zle_c rfl (zle_c rfl zle_n)))))) rfl rfl zle_n) (by omega) (Nat.le_of_ble_eq_true rfl) rfl rfl ?_
                  refine zJ_goto (tgt := 168) dX12_thing_164 (by decide) ?_
                  obtain ⟨rfl, rfl, rfl⟩ := so3 h
                  exact zJ_iret dX12_thing_168 rfl rfl
              refine zJ_icmp_eq (tgt := 142) dX12_thing_87 (by decide) rfl (fun hc => ?_) (fun hc => ?_)
              · replace h := it_t hc h
                refine zJ_loc (ls' := [(0, .ref 54), (2, .int rn4)]) (zll_c rfl (zll_c rfl zll_n)) ?_
                exact hj_X12_thing_r_142 _ h
              · replace h := it_f hc h
                refine zJ_iload_n dX12_thing_90 rfl rfl ?_
                refine zJ_bipush dX12_thing_91 zb_115 rfl ?_
                refine zJ_icmp_eq (tgt := 142) dX12_thing_93 (by decide) rfl (fun hc => ?_) (fun hc => ?_)
                · replace h := it_t hc h
                  refine zJ_loc (ls' := [(0, .ref 54), (2, .int rn4)]) (zll_c rfl (zll_c rfl zll_n)) ?_
                  exact hj_X12_thing_r_142 _ h
                · replace h := it_f hc h
                  refine zJ_iload_n dX12_thing_96 rfl rfl ?_
                  refine zJ_bipush dX12_thing_97 zb_99 rfl ?_
                  refine zJ_icmp_eq (tgt := 142) dX12_thing_99 (by decide) rfl (fun hc => ?_) (fun hc => ?_)
                  · replace h := it_t hc h
                    refine zJ_loc (ls' := [(0, .ref 54), (2, .int rn4)]) (zll_c rfl (zll_c rfl zll_n)) ?_
                    exact hj_X12_thing_r_142 _ h
                  · replace h := it_f hc h
                    refine zJ_iload_n dX12_thing_102 rfl rfl ?_
                    refine zJ_bipush dX12_thing_103 zb_112 rfl ?_
                    refine zJ_icmp_eq (tgt := 142) dX12_thing_105 (by decide) rfl (fun hc => ?_) (fun hc => ?_)
                    · replace h := it_t hc h
                      refine zJ_loc (ls' := [(0, .ref 54), (2, .int rn4)]) (zll_c rfl (zll_c rfl zll_n)) ?_
                      exact hj_X12_thing_r_142 _ h
                    · replace h := it_f hc h
                      refine zJ_iload_n dX12_thing_108 rfl rfl ?_
                      refine zJ_bipush dX12_thing_109 zb_120 rfl ?_
                      refine zJ_icmp_eq (tgt := 142) dX12_thing_111 (by decide) rfl (fun hc => ?_) (fun hc => ?_)
                      · replace h := it_t hc h
                        refine zJ_loc (ls' := [(0, .ref 54), (2, .int rn4)]) (zll_c rfl (zll_c rfl zll_n)) ?_
                        exact hj_X12_thing_r_142 _ h
                      · replace h := it_f hc h
                        refine zJ_iload_n dX12_thing_114 rfl rfl ?_
                        refine zJ_bipush dX12_thing_115 zb_102 rfl ?_
                        refine zJ_icmp_eq (tgt := 142) dX12_thing_117 (by decide) rfl (fun hc => ?_) (fun hc => ?_)
                        · replace h := it_t hc h
                          refine zJ_loc (ls' := [(0, .ref 54), (2, .int rn4)]) (zll_c rfl (zll_c rfl zll_n)) ?_
                          exact hj_X12_thing_r_142 _ h
                        · replace h := it_f hc h
                          refine zJ_iload_n dX12_thing_120 rfl rfl ?_
                          refine zJ_bipush dX12_thing_121 zb_107 rfl ?_
                          refine zJ_icmp_eq (tgt := 142) dX12_thing_123 (by decide) rfl (fun hc => ?_) (fun hc => ?_)
                          · replace h := it_t hc h
                            refine zJ_loc (ls' := [(0, .ref 54), (2, .int rn4)]) (zll_c rfl (zll_c rfl zll_n)) ?_
                            exact hj_X12_thing_r_142 _ h
                          · replace h := it_f hc h
                            refine zJ_iload_n dX12_thing_126 rfl rfl ?_
                            refine zJ_bipush dX12_thing_127 zb_121 rfl ?_
                            refine zJ_icmp_eq (tgt := 142) dX12_thing_129 (by decide) rfl (fun hc => ?_) (fun hc => ?_)
                            · replace h := it_t hc h
                              refine zJ_loc (ls' := [(0, .ref 54), (2, .int rn4)]) (zll_c rfl (zll_c rfl zll_n)) ?_
                              exact hj_X12_thing_r_142 _ h
                            · replace h := it_f hc h
                              refine zJ_aload_n dX12_thing_132 rfl rfl ?_
                              refine zJ_aload_n dX12_thing_133 rfl rfl ?_
                              refine zJ_geti (mi := mX12_thing) (x := m_at_67j) dX12_thing_134 F_X12_151 zW_54 rfl rfl rfl ?_
                              obtain ⟨m_wrongn7, hcl, h⟩ := bd1_some h
                              refine zJ_callV2 (σ := σ) (L := ([(3474, (nI 69)), (3475, m_length), (3476, m_top), (3477, m_at_67j), (3478, m_wrong_67j), (3484, m_isAsked), (3485, m_askedHorse), (3486, m_askedFence), (3487, m_askedLetter), (3488, m_askedHeight)], [(56, m_kind), (58, m_feet), (59, m_stride), (60, m_scope), (61, m_care), (69, m_rule)], [])) (mi := mX12_thing) (yi := mX12_fault) (as := [.int m_at_67j]) (st := []) (L2 := ([(3474, (nI 69)), (3475, m_length), (3476, m_top), (3477, m_at_67j), (3478, m_wrongn7), (3484, m_isAsked), (3485, m_askedHorse), (3486, m_askedFence), (3487, m_askedLetter), (3488, m_askedHeight)], [(56, m_kind), (58, m_feet), (59, m_stride), (60, m_scope), (61, m_care), (69, m_rule)], [])) dX12_thing_137 ML_X12_169 Yv_X12_fault rfl zW_54 rfl rfl (t_X12_fault l _ hcl) (zsub_i (zle_c rfl zle_n) zle_n zle_n) (zjok_i rfl rfl (zle_c rfl (zle_c rfl (zle_c rfl (zle_c rfl (zle_c rfl (zle_c rfl (zle_c rfl (zle_c rfl (zle_c rfl (zle_c rfl zle_n)))))))))) rfl rfl (zle_c rfl (zle_c rfl (zle_c rfl (zle_c rfl (zle_c rfl (zle_c rfl zle_n)))))) rfl rfl zle_n) (by omega) (Nat.le_of_ble_eq_true rfl) rfl rfl ?_
                              refine zJ_iconst dX12_thing_140 zc_0 rfl ?_
                              obtain ⟨rfl, rfl, rfl⟩ := so3 h
                              exact zJ_iret dX12_thing_141 rfl rfl
            · replace h := it_f hc h
              refine zJ_aload_n dX12_thing_78 rfl rfl ?_
              refine zJ_iconst dX12_thing_79 zc_3 rfl ?_
              obtain ⟨rn8, m_atn9, m_wrongn10, hcl, h⟩ := bd3_some h
              refine zJ_callV2 (σ := σ) (L := ([(3474, (nI 69)), (3475, m_length), (3476, m_top), (3477, m_at_67j), (3478, m_wrong_67j), (3484, m_isAsked), (3485, m_askedHorse), (3486, m_askedFence), (3487, m_askedLetter), (3488, m_askedHeight)], [(56, m_kind), (58, m_feet), (59, m_stride), (60, m_scope), (61, m_care), (69, m_rule)], [])) (mi := mX12_thing) (yi := mX12_number) (as := [.int (3 : Int32)]) (st := []) (L2 := ([(3474, (nI 69)), (3475, m_length), (3476, m_top), (3477, m_atn9), (3478, m_wrongn10), (3484, m_isAsked), (3485, m_askedHorse), (3486, m_askedFence), (3487, m_askedLetter), (3488, m_askedHeight)], [(56, m_kind), (58, m_feet), (59, m_stride), (60, m_scope), (61, m_care), (69, m_rule)], [])) dX12_thing_80 ML_X12_198 Yv_X12_number rfl zW_54 rfl rfl (t_X12_number_r l _ hcl) (zsub_i (zle_c rfl (zle_c rfl (zle_c rfl (zle_c rfl (zle_c rfl zle_n))))) (zle_c rfl zle_n) zle_n) (zjok_i rfl rfl (zle_c rfl (zle_c rfl (zle_c rfl (zle_c rfl (zle_c rfl (zle_c rfl (zle_c rfl (zle_c rfl (zle_c rfl (zle_c rfl zle_n)))))))))) rfl rfl (zle_c rfl (zle_c rfl (zle_c rfl (zle_c rfl (zle_c rfl (zle_c rfl zle_n)))))) rfl rfl zle_n) (by omega) (Nat.le_of_ble_eq_true rfl) rfl rfl ?_
              obtain ⟨rfl, rfl, rfl⟩ := so3 h
              exact zJ_iret dX12_thing_83 rfl rfl
          refine zJ_icmp_ne (tgt := 67) dX12_thing_33 (by decide) rfl (fun hc => ?_) (fun hc => ?_)
          · replace h := it_f hc h
            refine zJ_loc (ls' := [(0, .ref 54), (2, .int rn4)]) (zll_c rfl (zll_c rfl zll_n)) ?_
            exact hj_X12_thing_r_67 _ _ h
          · replace h := it_t hc h
            refine zJ_iload_n dX12_thing_36 rfl rfl ?_
            refine zJ_iconst dX12_thing_37 zc_4 rfl ?_
            refine zJ_icmp_ge (tgt := 67) dX12_thing_38 (by decide) rfl (fun hc => ?_) (fun hc => ?_)
            · replace h := it_t hc h
              refine zJ_loc (ls' := [(0, .ref 54), (2, .int rn4)]) (zll_c rfl (zll_c rfl zll_n)) ?_
              exact hj_X12_thing_r_67 _ _ h
            · replace h := it_f hc h
              refine zJ_aload_n dX12_thing_41 rfl rfl ?_
              refine zJ_dup dX12_thing_42 rfl rfl ?_
              refine zJ_geti (mi := mX12_thing) (x := m_atn2) dX12_thing_43 F_X12_151 zW_54 rfl rfl rfl ?_
              refine zJ_iconst dX12_thing_46 zc_1 rfl ?_
              refine zJ_iadd dX12_thing_47 rfl ?_
              refine zK_puti (mi := mX12_thing) (la' := [(3474, (nI 69)), (3475, m_length), (3476, m_top), (3477, (m_atn2 + (1 : Int32))), (3478, m_wrong), (3484, m_isAsked), (3485, m_askedHorse), (3486, m_askedFence), (3487, m_askedLetter), (3488, m_askedHeight)]) zW_ok dX12_thing_48 F_X12_151 P_12_21 zW_54 rfl rfl rfl ?_
              refine zJ_aload_n dX12_thing_51 rfl rfl ?_
              refine zJ_iload_n dX12_thing_52 rfl rfl ?_
              refine zJ_iconst dX12_thing_53 zc_1 rfl ?_
              refine zJ_iadd dX12_thing_54 rfl ?_
              obtain ⟨rn11, m_atn12, m_wrongn13, hcl, h⟩ := bd3_some h
              refine zJ_callV2 (σ := σ) (L := ([(3474, (nI 69)), (3475, m_length), (3476, m_top), (3477, (m_atn2 + (1 : Int32))), (3478, m_wrong), (3484, m_isAsked), (3485, m_askedHorse), (3486, m_askedFence), (3487, m_askedLetter), (3488, m_askedHeight)], [(56, m_kind), (58, m_feet), (59, m_stride), (60, m_scope), (61, m_care), (69, m_rule)], [])) (mi := mX12_thing) (yi := mX12_held) (as := [.int (p1 + (1 : Int32))]) (st := []) (L2 := ([(3474, (nI 69)), (3475, m_length), (3476, m_top), (3477, m_atn12), (3478, m_wrongn13), (3484, m_isAsked), (3485, m_askedHorse), (3486, m_askedFence), (3487, m_askedLetter), (3488, m_askedHeight)], [(56, m_kind), (58, m_feet), (59, m_stride), (60, m_scope), (61, m_care), (69, m_rule)], [])) dX12_thing_55 ML_X12_210 Yv_X12_held rfl zW_54 rfl rfl (ih_X12_held_r _ _ _ _ _ _ _ _ _ _ _ _ _ _ _ _ _ _ _ _ hcl) (zsub_i (zle_c rfl (zle_c rfl (zle_c rfl (zle_c rfl (zle_c rfl (zle_c rfl (zle_c rfl (zle_c rfl (zle_c rfl (zle_c rfl zle_n)))))))))) (zle_c rfl (zle_c rfl (zle_c rfl (zle_c rfl (zle_c rfl (zle_c rfl zle_n)))))) zle_n) (zjok_i rfl rfl (zle_c rfl (zle_c rfl (zle_c rfl (zle_c rfl (zle_c rfl (zle_c rfl (zle_c rfl (zle_c rfl (zle_c rfl (zle_c rfl zle_n)))))))))) rfl rfl (zle_c rfl (zle_c rfl (zle_c rfl (zle_c rfl (zle_c rfl (zle_c rfl zle_n)))))) rfl rfl zle_n) (by omega) (Nat.le_of_ble_eq_true rfl) rfl rfl ?_
              refine zJ_istore_n (ls' := [(3, .int rn11), (2, .int rn4), (0, .ref 54), (1, .int p1)]) dX12_thing_58 rfl rfl rfl ?_
              refine zJ_aload_n dX12_thing_59 rfl rfl ?_
              refine zJ_bipush dX12_thing_60 zb_41 rfl ?_
              obtain ⟨m_atn14, m_wrongn15, hcl, h⟩ := bd2_some h
              refine zJ_callV2 (σ := σ) (L := ([(3474, (nI 69)), (3475, m_length), (3476, m_top), (3477, m_atn12), (3478, m_wrongn13), (3484, m_isAsked), (3485, m_askedHorse), (3486, m_askedFence), (3487, m_askedLetter), (3488, m_askedHeight)], [(56, m_kind), (58, m_feet), (59, m_stride), (60, m_scope), (61, m_care), (69, m_rule)], [])) (mi := mX12_thing) (yi := mX12_need) (as := [.int (41 : Int32)]) (st := []) (L2 := ([(3474, (nI 69)), (3475, m_length), (3476, m_top), (3477, m_atn14), (3478, m_wrongn15), (3484, m_isAsked), (3485, m_askedHorse), (3486, m_askedFence), (3487, m_askedLetter), (3488, m_askedHeight)], [(56, m_kind), (58, m_feet), (59, m_stride), (60, m_scope), (61, m_care), (69, m_rule)], [])) dX12_thing_62 ML_X12_181 Yv_X12_need rfl zW_54 rfl rfl (t_X12_need_r l _ hcl) (zsub_i (zle_c rfl (zle_c rfl (zle_c rfl (zle_c rfl (zle_c rfl zle_n))))) (zle_c rfl zle_n) zle_n) (zjok_i rfl rfl (zle_c rfl (zle_c rfl (zle_c rfl (zle_c rfl (zle_c rfl (zle_c rfl (zle_c rfl (zle_c rfl (zle_c rfl (zle_c rfl zle_n)))))))))) rfl rfl (zle_c rfl (zle_c rfl (zle_c rfl (zle_c rfl (zle_c rfl (zle_c rfl zle_n)))))) rfl rfl zle_n) (by omega) (Nat.le_of_ble_eq_true rfl) rfl rfl ?_
              refine zJ_iload_n dX12_thing_65 rfl rfl ?_
              obtain ⟨rfl, rfl, rfl⟩ := so3 h
              exact zJ_iret dX12_thing_66 rfl rfl
        · replace h := it_t hc h
          refine zJ_iconst dX12_thing_23 zc_0 rfl ?_
          obtain ⟨rfl, rfl, rfl⟩ := so3 h
          exact zJ_iret dX12_thing_24 rfl rfl
      · replace h := it_f hc h
        refine zJ_aload_n dX12_thing_9 rfl rfl ?_
        refine zJ_iload_n dX12_thing_10 rfl rfl ?_
        obtain ⟨rn16, m_atn17, m_wrongn18, hcl, h⟩ := bd3_some h
        refine zJ_callV2 (σ := σ) (L := ([(3474, (nI 69)), (3475, m_length), (3476, m_top), (3477, m_atn2), (3478, m_wrong), (3484, m_isAsked), (3485, m_askedHorse), (3486, m_askedFence), (3487, m_askedLetter), (3488, m_askedHeight)], [(56, m_kind), (58, m_feet), (59, m_stride), (60, m_scope), (61, m_care), (69, m_rule)], [])) (mi := mX12_thing) (yi := mX12_thing) (as := [.int p1]) (st := []) (L2 := ([(3474, (nI 69)), (3475, m_length), (3476, m_top), (3477, m_atn17), (3478, m_wrongn18), (3484, m_isAsked), (3485, m_askedHorse), (3486, m_askedFence), (3487, m_askedLetter), (3488, m_askedHeight)], [(56, m_kind), (58, m_feet), (59, m_stride), (60, m_scope), (61, m_care), (69, m_rule)], [])) dX12_thing_11 ML_X12_207 Yv_X12_thing rfl zW_54 rfl rfl (ih_X12_thing_r _ _ _ _ _ _ _ _ _ _ _ _ _ _ _ _ _ _ _ _ hcl) (zsub_i (zle_c rfl (zle_c rfl (zle_c rfl (zle_c rfl (zle_c rfl (zle_c rfl (zle_c rfl (zle_c rfl (zle_c rfl (zle_c rfl zle_n)))))))))) (zle_c rfl (zle_c rfl (zle_c rfl (zle_c rfl (zle_c rfl (zle_c rfl zle_n)))))) zle_n) (zjok_i rfl rfl (zle_c rfl (zle_c rfl (zle_c rfl (zle_c rfl (zle_c rfl (zle_c rfl (zle_c rfl (zle_c rfl (zle_c rfl (zle_c rfl zle_n)))))))))) rfl rfl (zle_c rfl (zle_c rfl (zle_c rfl (zle_c rfl (zle_c rfl (zle_c rfl zle_n)))))) rfl rfl zle_n) (by omega) (Nat.le_of_ble_eq_true rfl) rfl rfl ?_
        refine zJ_ineg dX12_thing_14 rfl ?_
        obtain ⟨rfl, rfl, rfl⟩ := so3 h
        exact zJ_iret dX12_thing_15 rfl rfl

theorem t_X12_held_r (l : Launch) (σ : zS) (n : Nat) {p1 : Int32} {m_length : Int32} {m_top : Int32} {m_at : Int32} {m_wrong : Int32} {m_isAsked : Int32} {m_askedHorse : Int32} {m_askedFence : Int32} {m_askedLetter : Int32} {m_askedHeight : Int32} {m_kind : (Nat → Int32)} {m_feet : (Nat → Int32)} {m_stride : (Nat → Int32)} {m_scope : (Nat → Int32)} {m_care : (Nat → Int32)} {m_rule : (Nat → Int32)} {r : Int32} {w_m_at : Int32} {w_m_wrong : Int32} (h : f_X12_held_r n p1 m_length m_top m_at m_wrong m_isAsked m_askedHorse m_askedFence m_askedLetter m_askedHeight m_kind m_feet m_stride m_scope m_care m_rule = some (r, w_m_at, w_m_wrong)) : zMt l zW (n + 4) mX12_held σ ([(3474, (nI 69)), (3475, m_length), (3476, m_top), (3477, m_at), (3478, m_wrong), (3484, m_isAsked), (3485, m_askedHorse), (3486, m_askedFence), (3487, m_askedLetter), (3488, m_askedHeight)], [(56, m_kind), (58, m_feet), (59, m_stride), (60, m_scope), (61, m_care), (69, m_rule)], []) [.ref 54, .int p1] (some (.int r)) ([(3474, (nI 69)), (3475, m_length), (3476, m_top), (3477, w_m_at), (3478, w_m_wrong), (3484, m_isAsked), (3485, m_askedHorse), (3486, m_askedFence), (3487, m_askedLetter), (3488, m_askedHeight)], [(56, m_kind), (58, m_feet), (59, m_stride), (60, m_scope), (61, m_care), (69, m_rule)], []) := (tg_X12_held_r l n).1 σ _ _ _ _ _ _ _ _ _ _ _ _ _ _ _ _ _ _ _ h
theorem t_X12_product_r (l : Launch) (σ : zS) (n : Nat) {p1 : Int32} {m_length : Int32} {m_top : Int32} {m_at : Int32} {m_wrong : Int32} {m_isAsked : Int32} {m_askedHorse : Int32} {m_askedFence : Int32} {m_askedLetter : Int32} {m_askedHeight : Int32} {m_kind : (Nat → Int32)} {m_feet : (Nat → Int32)} {m_stride : (Nat → Int32)} {m_scope : (Nat → Int32)} {m_care : (Nat → Int32)} {m_rule : (Nat → Int32)} {r : Int32} {w_m_at : Int32} {w_m_wrong : Int32} (h : f_X12_product_r n p1 m_length m_top m_at m_wrong m_isAsked m_askedHorse m_askedFence m_askedLetter m_askedHeight m_kind m_feet m_stride m_scope m_care m_rule = some (r, w_m_at, w_m_wrong)) : zMt l zW (n + 4) mX12_product σ ([(3474, (nI 69)), (3475, m_length), (3476, m_top), (3477, m_at), (3478, m_wrong), (3484, m_isAsked), (3485, m_askedHorse), (3486, m_askedFence), (3487, m_askedLetter), (3488, m_askedHeight)], [(56, m_kind), (58, m_feet), (59, m_stride), (60, m_scope), (61, m_care), (69, m_rule)], []) [.ref 54, .int p1] (some (.int r)) ([(3474, (nI 69)), (3475, m_length), (3476, m_top), (3477, w_m_at), (3478, w_m_wrong), (3484, m_isAsked), (3485, m_askedHorse), (3486, m_askedFence), (3487, m_askedLetter), (3488, m_askedHeight)], [(56, m_kind), (58, m_feet), (59, m_stride), (60, m_scope), (61, m_care), (69, m_rule)], []) := (tg_X12_held_r l n).2.1 σ _ _ _ _ _ _ _ _ _ _ _ _ _ _ _ _ _ _ _ h
theorem t_X12_sum_r (l : Launch) (σ : zS) (n : Nat) {p1 : Int32} {m_length : Int32} {m_top : Int32} {m_at : Int32} {m_wrong : Int32} {m_isAsked : Int32} {m_askedHorse : Int32} {m_askedFence : Int32} {m_askedLetter : Int32} {m_askedHeight : Int32} {m_kind : (Nat → Int32)} {m_feet : (Nat → Int32)} {m_stride : (Nat → Int32)} {m_scope : (Nat → Int32)} {m_care : (Nat → Int32)} {m_rule : (Nat → Int32)} {r : Int32} {w_m_at : Int32} {w_m_wrong : Int32} (h : f_X12_sum_r n p1 m_length m_top m_at m_wrong m_isAsked m_askedHorse m_askedFence m_askedLetter m_askedHeight m_kind m_feet m_stride m_scope m_care m_rule = some (r, w_m_at, w_m_wrong)) : zMt l zW (n + 4) mX12_sum σ ([(3474, (nI 69)), (3475, m_length), (3476, m_top), (3477, m_at), (3478, m_wrong), (3484, m_isAsked), (3485, m_askedHorse), (3486, m_askedFence), (3487, m_askedLetter), (3488, m_askedHeight)], [(56, m_kind), (58, m_feet), (59, m_stride), (60, m_scope), (61, m_care), (69, m_rule)], []) [.ref 54, .int p1] (some (.int r)) ([(3474, (nI 69)), (3475, m_length), (3476, m_top), (3477, w_m_at), (3478, w_m_wrong), (3484, m_isAsked), (3485, m_askedHorse), (3486, m_askedFence), (3487, m_askedLetter), (3488, m_askedHeight)], [(56, m_kind), (58, m_feet), (59, m_stride), (60, m_scope), (61, m_care), (69, m_rule)], []) := (tg_X12_held_r l n).2.2.1 σ _ _ _ _ _ _ _ _ _ _ _ _ _ _ _ _ _ _ _ h
theorem t_X12_thing_r (l : Launch) (σ : zS) (n : Nat) {p1 : Int32} {m_length : Int32} {m_top : Int32} {m_at : Int32} {m_wrong : Int32} {m_isAsked : Int32} {m_askedHorse : Int32} {m_askedFence : Int32} {m_askedLetter : Int32} {m_askedHeight : Int32} {m_kind : (Nat → Int32)} {m_feet : (Nat → Int32)} {m_stride : (Nat → Int32)} {m_scope : (Nat → Int32)} {m_care : (Nat → Int32)} {m_rule : (Nat → Int32)} {r : Int32} {w_m_at : Int32} {w_m_wrong : Int32} (h : f_X12_thing_r n p1 m_length m_top m_at m_wrong m_isAsked m_askedHorse m_askedFence m_askedLetter m_askedHeight m_kind m_feet m_stride m_scope m_care m_rule = some (r, w_m_at, w_m_wrong)) : zMt l zW (n + 4) mX12_thing σ ([(3474, (nI 69)), (3475, m_length), (3476, m_top), (3477, m_at), (3478, m_wrong), (3484, m_isAsked), (3485, m_askedHorse), (3486, m_askedFence), (3487, m_askedLetter), (3488, m_askedHeight)], [(56, m_kind), (58, m_feet), (59, m_stride), (60, m_scope), (61, m_care), (69, m_rule)], []) [.ref 54, .int p1] (some (.int r)) ([(3474, (nI 69)), (3475, m_length), (3476, m_top), (3477, w_m_at), (3478, w_m_wrong), (3484, m_isAsked), (3485, m_askedHorse), (3486, m_askedFence), (3487, m_askedLetter), (3488, m_askedHeight)], [(56, m_kind), (58, m_feet), (59, m_stride), (60, m_scope), (61, m_care), (69, m_rule)], []) := (tg_X12_held_r l n).2.2.2 σ _ _ _ _ _ _ _ _ _ _ _ _ _ _ _ _ _ _ _ h
set_option maxRecDepth 100000 in
set_option maxHeartbeats 4000000 in
theorem t_X12_oddsOf (l : Launch) (σ : zS) {p1 : Int32} {p2 : Int32} {p3 : Int32} {p4 : Int32} {m_read : Int32} {m_length : Int32} {m_top : Int32} {m_at : Int32} {m_wrong : Int32} {m_ruleSize : Int32} {m_isAsked : Int32} {m_askedHorse : Int32} {m_askedFence : Int32} {m_askedLetter : Int32} {m_askedHeight : Int32} {m_kind : (Nat → Int32)} {m_feet : (Nat → Int32)} {m_stride : (Nat → Int32)} {m_scope : (Nat → Int32)} {m_care : (Nat → Int32)} {m_rule : (Nat → Int32)} {r : Int32} {w_m_read : Int32} {w_m_length : Int32} {w_m_top : Int32} {w_m_at : Int32} {w_m_wrong : Int32} {w_m_isAsked : Int32} {w_m_askedHorse : Int32} {w_m_askedFence : Int32} {w_m_askedLetter : Int32} {w_m_askedHeight : Int32} (h : f_X12_oddsOf p1 p2 p3 p4 m_read m_length m_top m_at m_wrong m_ruleSize m_isAsked m_askedHorse m_askedFence m_askedLetter m_askedHeight m_kind m_feet m_stride m_scope m_care m_rule = some (r, w_m_read, w_m_length, w_m_top, w_m_at, w_m_wrong, w_m_isAsked, w_m_askedHorse, w_m_askedFence, w_m_askedLetter, w_m_askedHeight)) : zMt l zW 205 mX12_oddsOf σ ([(3474, m_read), (3475, m_length), (3476, m_top), (3477, m_at), (3478, m_wrong), (3483, m_ruleSize), (3484, m_isAsked), (3485, m_askedHorse), (3486, m_askedFence), (3487, m_askedLetter), (3488, m_askedHeight)], [(56, m_kind), (58, m_feet), (59, m_stride), (60, m_scope), (61, m_care), (69, m_rule)], []) [.ref 54, .int p1, .int p2, .int p3, .int p4] (some (.int r)) ([(3474, w_m_read), (3475, w_m_length), (3476, w_m_top), (3477, w_m_at), (3478, w_m_wrong), (3483, m_ruleSize), (3484, w_m_isAsked), (3485, w_m_askedHorse), (3486, w_m_askedFence), (3487, w_m_askedLetter), (3488, w_m_askedHeight)], [(56, m_kind), (58, m_feet), (59, m_stride), (60, m_scope), (61, m_care), (69, m_rule)], []) := by
  refine zMt_of (ls := [(0, .ref 54), (1, .int p1), (2, .int p2), (3, .int p3), (4, .int p4)]) (by decide) rfl (fun _ => Nat.le_of_ble_eq_true rfl) rfl ?_
  unfold f_X12_oddsOf at h
  refine zJ_aload_n dX12_oddsOf_0 rfl rfl ?_
  refine zJ_geti (mi := mX12_oddsOf) (x := m_ruleSize) dX12_oddsOf_1 F_X12_235 zW_54 rfl rfl rfl ?_
  refine zJ_if_ne (tgt := 74) dX12_oddsOf_4 (by decide) rfl (fun hc => ?_) (fun hc => ?_)
  · replace h := it_f hc h
    refine zJ_aload_n dX12_oddsOf_74 rfl rfl ?_
    refine zJ_aload_n dX12_oddsOf_75 rfl rfl ?_
    refine zJ_getr (mi := mX12_oddsOf) dX12_oddsOf_76 F_X12_58 zW_54 rfl rfl ?_
    refine zJ_aload_n dX12_oddsOf_79 rfl rfl ?_
    refine zJ_geti (mi := mX12_oddsOf) (x := m_ruleSize) dX12_oddsOf_80 F_X12_235 zW_54 rfl rfl rfl ?_
    refine zJ_bipush dX12_oddsOf_83 zb_40 rfl ?_
    obtain ⟨m_lengthn1, m_topn2, m_atn3, m_wrongn4, hcl, h⟩ := bd4_some h
    refine zJ_callV2 (σ := σ) (L := ([(3474, m_read), (3475, m_length), (3476, m_top), (3477, m_at), (3478, m_wrong), (3483, m_ruleSize), (3484, m_isAsked), (3485, m_askedHorse), (3486, m_askedFence), (3487, m_askedLetter), (3488, m_askedHeight)], [(56, m_kind), (58, m_feet), (59, m_stride), (60, m_scope), (61, m_care), (69, m_rule)], [])) (mi := mX12_oddsOf) (yi := mX12_begin) (as := [.ref 69, .int m_ruleSize, .int (40 : Int32)]) (st := []) (L2 := ([(3474, (nI 69)), (3475, m_lengthn1), (3476, m_topn2), (3477, m_atn3), (3478, m_wrongn4), (3483, m_ruleSize), (3484, m_isAsked), (3485, m_askedHorse), (3486, m_askedFence), (3487, m_askedLetter), (3488, m_askedHeight)], [(56, m_kind), (58, m_feet), (59, m_stride), (60, m_scope), (61, m_care), (69, m_rule)], [])) dX12_oddsOf_85 ML_X12_185 Yv_X12_begin rfl zW_54 rfl rfl (t_X12_begin_m_rule l _ hcl) (zsub_i (zle_c rfl (zle_c rfl (zle_c rfl (zle_c rfl (zle_c rfl zle_n))))) zle_n zle_n) (zjok_i rfl rfl (zle_c rfl (zle_c rfl (zle_c rfl (zle_c rfl (zle_c rfl (zle_c rfl (zle_c rfl (zle_c rfl (zle_c rfl (zle_c rfl (zle_c rfl zle_n))))))))))) rfl rfl (zle_c rfl (zle_c rfl (zle_c rfl (zle_c rfl (zle_c rfl (zle_c rfl zle_n)))))) rfl rfl zle_n) (Nat.le_of_ble_eq_true rfl) (Nat.le_of_ble_eq_true rfl) rfl rfl ?_
    refine zJ_aload_n dX12_oddsOf_88 rfl rfl ?_
    refine zJ_iconst dX12_oddsOf_89 zc_1 rfl ?_
    refine zK_putz (mi := mX12_oddsOf) (la' := [(3474, (nI 69)), (3475, m_lengthn1), (3476, m_topn2), (3477, m_atn3), (3478, m_wrongn4), (3483, m_ruleSize), (3484, (1 : Int32)), (3485, m_askedHorse), (3486, m_askedFence), (3487, m_askedLetter), (3488, m_askedHeight)]) zW_ok dX12_oddsOf_90 F_X12_213 P_12_28 zW_54 rfl (by decide) (by decide) rfl rfl ?_
    refine zJ_aload_n dX12_oddsOf_93 rfl rfl ?_
    refine zJ_iload_n dX12_oddsOf_94 rfl rfl ?_
    refine zK_puti (mi := mX12_oddsOf) (la' := [(3474, (nI 69)), (3475, m_lengthn1), (3476, m_topn2), (3477, m_atn3), (3478, m_wrongn4), (3483, m_ruleSize), (3484, (1 : Int32)), (3485, p1), (3486, m_askedFence), (3487, m_askedLetter), (3488, m_askedHeight)]) zW_ok dX12_oddsOf_95 F_X12_223 P_12_29 zW_54 rfl rfl rfl ?_
    refine zJ_aload_n dX12_oddsOf_98 rfl rfl ?_
    refine zJ_iload_n dX12_oddsOf_99 rfl rfl ?_
    refine zK_puti (mi := mX12_oddsOf) (la' := [(3474, (nI 69)), (3475, m_lengthn1), (3476, m_topn2), (3477, m_atn3), (3478, m_wrongn4), (3483, m_ruleSize), (3484, (1 : Int32)), (3485, p1), (3486, p2), (3487, m_askedLetter), (3488, m_askedHeight)]) zW_ok dX12_oddsOf_100 F_X12_226 P_12_30 zW_54 rfl rfl rfl ?_
    refine zJ_aload_n dX12_oddsOf_103 rfl rfl ?_
    refine zJ_iload_n dX12_oddsOf_104 rfl rfl ?_
    refine zK_puti (mi := mX12_oddsOf) (la' := [(3474, (nI 69)), (3475, m_lengthn1), (3476, m_topn2), (3477, m_atn3), (3478, m_wrongn4), (3483, m_ruleSize), (3484, (1 : Int32)), (3485, p1), (3486, p2), (3487, p3), (3488, m_askedHeight)]) zW_ok dX12_oddsOf_105 F_X12_229 P_12_31 zW_54 rfl rfl rfl ?_
    refine zJ_aload_n dX12_oddsOf_108 rfl rfl ?_
    refine zJ_iload dX12_oddsOf_109 rfl rfl ?_
    refine zK_puti (mi := mX12_oddsOf) (la' := [(3474, (nI 69)), (3475, m_lengthn1), (3476, m_topn2), (3477, m_atn3), (3478, m_wrongn4), (3483, m_ruleSize), (3484, (1 : Int32)), (3485, p1), (3486, p2), (3487, p3), (3488, p4)]) zW_ok dX12_oddsOf_111 F_X12_220 P_12_32 zW_54 rfl rfl rfl ?_
    refine zJ_aload_n dX12_oddsOf_114 rfl rfl ?_
    refine zJ_iconst dX12_oddsOf_115 zc_0 rfl ?_
    obtain ⟨rn5, m_atn6, m_wrongn7, hcl, h⟩ := bd3_some h
    refine zJ_callV2 (σ := σ) (L := ([(3474, (nI 69)), (3475, m_lengthn1), (3476, m_topn2), (3477, m_atn3), (3478, m_wrongn4), (3483, m_ruleSize), (3484, (1 : Int32)), (3485, p1), (3486, p2), (3487, p3), (3488, p4)], [(56, m_kind), (58, m_feet), (59, m_stride), (60, m_scope), (61, m_care), (69, m_rule)], [])) (mi := mX12_oddsOf) (yi := mX12_held) (as := [.int (0 : Int32)]) (st := []) (L2 := ([(3474, (nI 69)), (3475, m_lengthn1), (3476, m_topn2), (3477, m_atn6), (3478, m_wrongn7), (3483, m_ruleSize), (3484, (1 : Int32)), (3485, p1), (3486, p2), (3487, p3), (3488, p4)], [(56, m_kind), (58, m_feet), (59, m_stride), (60, m_scope), (61, m_care), (69, m_rule)], [])) dX12_oddsOf_116 ML_X12_210 Yv_X12_held rfl zW_54 rfl rfl (t_X12_held_r l _ 200 hcl) (zsub_i (zle_c rfl (zle_c rfl (zle_c rfl (zle_c rfl (zle_c rfl (zle_c rfl (zle_c rfl (zle_c rfl (zle_c rfl (zle_c rfl zle_n)))))))))) (zle_c rfl (zle_c rfl (zle_c rfl (zle_c rfl (zle_c rfl (zle_c rfl zle_n)))))) zle_n) (zjok_i rfl rfl (zle_c rfl (zle_c rfl (zle_c rfl (zle_c rfl (zle_c rfl (zle_c rfl (zle_c rfl (zle_c rfl (zle_c rfl (zle_c rfl (zle_c rfl zle_n))))))))))) rfl rfl (zle_c rfl (zle_c rfl (zle_c rfl (zle_c rfl (zle_c rfl (zle_c rfl zle_n)))))) rfl rfl zle_n) (Nat.le_of_ble_eq_true rfl) (Nat.le_of_ble_eq_true rfl) rfl rfl ?_
    refine zJ_istore (ls' := [(5, .int rn5), (0, .ref 54), (1, .int p1), (2, .int p2), (3, .int p3), (4, .int p4)]) dX12_oddsOf_119 rfl rfl rfl ?_
    refine zJ_aload_n dX12_oddsOf_121 rfl rfl ?_
    refine zJ_iconst dX12_oddsOf_122 zc_0 rfl ?_
    refine zK_putz (mi := mX12_oddsOf) (la' := [(3474, (nI 69)), (3475, m_lengthn1), (3476, m_topn2), (3477, m_atn6), (3478, m_wrongn7), (3483, m_ruleSize), (3484, (0 : Int32)), (3485, p1), (3486, p2), (3487, p3), (3488, p4)]) zW_ok dX12_oddsOf_123 F_X12_213 P_12_28 zW_54 rfl (by decide) (by decide) rfl rfl ?_
    refine zJ_iconst dX12_oddsOf_126 zc_0 rfl ?_
    refine zJ_bipush dX12_oddsOf_127 zb_100 rfl ?_
    refine zJ_iload dX12_oddsOf_129 rfl rfl ?_
    refine zJ_mmin (mi := mX12_oddsOf) dX12_oddsOf_131 L_X12_238 K_min_s K_math K_min_c (Nat.le_of_ble_eq_true rfl) (Nat.le_of_ble_eq_true rfl) rfl ?_
    refine zJ_mmax (mi := mX12_oddsOf) dX12_oddsOf_134 L_X12_243 K_max_s K_math K_max_c (Nat.le_of_ble_eq_true rfl) (Nat.le_of_ble_eq_true rfl) rfl ?_
    obtain ⟨rfl, rfl, rfl, rfl, rfl, rfl, rfl, rfl, rfl, rfl, rfl⟩ := so11 h
    exact zJ_iret dX12_oddsOf_137 rfl rfl
  · replace h := it_t hc h
    refine zJ_iload_n dX12_oddsOf_7 rfl rfl ?_
    refine zJ_iconst dX12_oddsOf_8 zc_4 rfl ?_
    refine zJ_irem dX12_oddsOf_9 (by decide) rfl ?_
    obtain ⟨v6n8, ev6n8, h⟩ := lt1_some h
    refine zJ_nmi ev6n8 ?_
    refine zJ_istore (ls' := [(6, .int v6n8), (0, .ref 54), (1, .int p1), (2, .int p2), (3, .int p3), (4, .int p4)]) dX12_oddsOf_10 rfl rfl rfl ?_
    refine zJ_iload dX12_oddsOf_12 rfl rfl ?_
    refine zJ_iconst dX12_oddsOf_14 zc_3 rfl ?_
    refine zJ_imul dX12_oddsOf_15 rfl ?_
    refine zJ_aload_n dX12_oddsOf_16 rfl rfl ?_
    refine zJ_getr (mi := mX12_oddsOf) dX12_oddsOf_17 F_X12_29 zW_54 rfl rfl ?_
    refine zJ_iload_n dX12_oddsOf_20 rfl rfl ?_
    obtain ⟨hg, h⟩ := gd_some h
    refine zJ_iald (mi := mX12_oddsOf) (f := m_scope) dX12_oddsOf_21 zW_60 (ix_in hg) rfl rfl ?_
    refine zJ_iconst dX12_oddsOf_22 zc_2 rfl ?_
    refine zJ_imul dX12_oddsOf_23 rfl ?_
    refine zJ_isub dX12_oddsOf_24 rfl ?_
    refine zJ_aload_n dX12_oddsOf_25 rfl rfl ?_
    refine zJ_getr (mi := mX12_oddsOf) dX12_oddsOf_26 F_X12_32 zW_54 rfl rfl ?_
    refine zJ_iconst dX12_oddsOf_29 zc_4 rfl ?_
    refine zJ_iload_n dX12_oddsOf_30 rfl rfl ?_
    refine zJ_imul dX12_oddsOf_31 rfl ?_
    refine zJ_aload_n dX12_oddsOf_32 rfl rfl ?_
    refine zJ_getr (mi := mX12_oddsOf) dX12_oddsOf_33 F_X12_13 zW_54 rfl rfl ?_
    refine zJ_iload_n dX12_oddsOf_36 rfl rfl ?_
    obtain ⟨hg, h⟩ := gd_some h
    refine zJ_iald (mi := mX12_oddsOf) (f := m_kind) dX12_oddsOf_37 zW_56 (ix_in hg) rfl rfl ?_
    refine zJ_iadd dX12_oddsOf_38 rfl ?_
    obtain ⟨hg, h⟩ := gd_some h
    refine zJ_iald (mi := mX12_oddsOf) (f := m_care) dX12_oddsOf_39 zW_61 (ix_in hg) rfl rfl ?_
    refine zJ_isub dX12_oddsOf_40 rfl ?_
    refine zJ_iload dX12_oddsOf_41 rfl rfl ?_
    refine zJ_iload dX12_oddsOf_43 rfl rfl ?_
    refine zJ_imul dX12_oddsOf_45 rfl ?_
    refine zJ_iadd dX12_oddsOf_46 rfl ?_
    refine zJ_iload_n dX12_oddsOf_47 rfl rfl ?_
    refine zJ_iconst dX12_oddsOf_48 zc_4 rfl ?_
    refine zJ_idiv dX12_oddsOf_49 (by decide) rfl ?_
    refine zJ_iconst dX12_oddsOf_50 zc_4 rfl ?_
    refine zJ_imul dX12_oddsOf_51 rfl ?_
    refine zJ_iadd dX12_oddsOf_52 rfl ?_
    refine zJ_aload_n dX12_oddsOf_53 rfl rfl ?_
    refine zJ_iload_n dX12_oddsOf_54 rfl rfl ?_
    refine zJ_aload_n dX12_oddsOf_55 rfl rfl ?_
    refine zJ_getr (mi := mX12_oddsOf) dX12_oddsOf_56 F_X12_19 zW_54 rfl rfl ?_
    refine zJ_iload_n dX12_oddsOf_59 rfl rfl ?_
    obtain ⟨hg, h⟩ := gd_some h
    refine zJ_iald (mi := mX12_oddsOf) (f := m_feet) dX12_oddsOf_60 zW_58 (ix_in hg) rfl rfl ?_
    obtain ⟨rn9, hcl, h⟩ := bd1_some h
    refine zJ_callV2 (σ := σ) (L := ([(3474, m_read), (3475, m_length), (3476, m_top), (3477, m_at), (3478, m_wrong), (3483, m_ruleSize), (3484, m_isAsked), (3485, m_askedHorse), (3486, m_askedFence), (3487, m_askedLetter), (3488, m_askedHeight)], [(56, m_kind), (58, m_feet), (59, m_stride), (60, m_scope), (61, m_care), (69, m_rule)], [])) (mi := mX12_oddsOf) (yi := mX12_leanOf) (as := [.int p1, .int (m_feet p2.toNatClampNeg)]) (st := [.int (((((p4 * (3 : Int32)) - ((m_scope p1.toNatClampNeg) * (2 : Int32))) - (m_care (((4 : Int32) * p1) + (m_kind p2.toNatClampNeg)).toNatClampNeg)) + (v6n8 * v6n8)) + ((p3 / (4 : Int32)) * (4 : Int32)))]) (L2 := ([(3474, m_read), (3475, m_length), (3476, m_top), (3477, m_at), (3478, m_wrong), (3483, m_ruleSize), (3484, m_isAsked), (3485, m_askedHorse), (3486, m_askedFence), (3487, m_askedLetter), (3488, m_askedHeight)], [(56, m_kind), (58, m_feet), (59, m_stride), (60, m_scope), (61, m_care), (69, m_rule)], [])) dX12_oddsOf_61 ML_X12_232 Yv_X12_leanOf rfl zW_54 rfl rfl (t_X12_leanOf l _ hcl) (zsub_i zle_n (zle_c rfl zle_n) zle_n) (zjok_i rfl rfl (zle_c rfl (zle_c rfl (zle_c rfl (zle_c rfl (zle_c rfl (zle_c rfl (zle_c rfl (zle_c rfl (zle_c rfl (zle_c rfl (zle_c rfl zle_n))))))))))) rfl rfl (zle_c rfl (zle_c rfl (zle_c rfl (zle_c rfl (zle_c rfl (zle_c rfl zle_n)))))) rfl rfl zle_n) (Nat.le_of_ble_eq_true rfl) (Nat.le_of_ble_eq_true rfl) rfl rfl ?_
    refine zJ_iconst dX12_oddsOf_64 zc_2 rfl ?_
    refine zJ_imul dX12_oddsOf_65 rfl ?_
    refine zJ_iadd dX12_oddsOf_66 rfl ?_
    refine zJ_iconst dX12_oddsOf_67 zc_5 rfl ?_
    refine zJ_iadd dX12_oddsOf_68 rfl ?_
    obtain ⟨v5n10, ev5n10, h⟩ := lt1_some h
    refine zJ_nmi ev5n10 ?_
    refine zJ_istore (ls' := [(5, .int v5n10), (6, .int v6n8), (0, .ref 54), (1, .int p1), (2, .int p2), (3, .int p3), (4, .int p4)]) dX12_oddsOf_69 rfl rfl rfl ?_
    refine zJ_goto (tgt := 126) dX12_oddsOf_71 (by decide) ?_
    refine zJ_iconst dX12_oddsOf_126 zc_0 rfl ?_
    refine zJ_bipush dX12_oddsOf_127 zb_100 rfl ?_
    refine zJ_iload dX12_oddsOf_129 rfl rfl ?_
    refine zJ_mmin (mi := mX12_oddsOf) dX12_oddsOf_131 L_X12_238 K_min_s K_math K_min_c (Nat.le_of_ble_eq_true rfl) (Nat.le_of_ble_eq_true rfl) rfl ?_
    refine zJ_mmax (mi := mX12_oddsOf) dX12_oddsOf_134 L_X12_243 K_max_s K_math K_max_c (Nat.le_of_ble_eq_true rfl) (Nat.le_of_ble_eq_true rfl) rfl ?_
    obtain ⟨rfl, rfl, rfl, rfl, rfl, rfl, rfl, rfl, rfl, rfl, rfl⟩ := so11 h
    exact zJ_iret dX12_oddsOf_137 rfl rfl
set_option maxRecDepth 100000 in
set_option maxHeartbeats 4000000 in
theorem t_X12_oddsOf_ (l : Launch) (σ : zS) {p1 : Int32} {p2 : Int32} {p3 : Int32} {m_read : Int32} {m_length : Int32} {m_top : Int32} {m_at : Int32} {m_wrong : Int32} {m_ruleSize : Int32} {m_isAsked : Int32} {m_askedHorse : Int32} {m_askedFence : Int32} {m_askedLetter : Int32} {m_askedHeight : Int32} {m_kind : (Nat → Int32)} {m_height : (Nat → Int32)} {m_feet : (Nat → Int32)} {m_stride : (Nat → Int32)} {m_scope : (Nat → Int32)} {m_care : (Nat → Int32)} {m_rule : (Nat → Int32)} {r : Int32} {w_m_read : Int32} {w_m_length : Int32} {w_m_top : Int32} {w_m_at : Int32} {w_m_wrong : Int32} {w_m_isAsked : Int32} {w_m_askedHorse : Int32} {w_m_askedFence : Int32} {w_m_askedLetter : Int32} {w_m_askedHeight : Int32} (h : f_X12_oddsOf_ p1 p2 p3 m_read m_length m_top m_at m_wrong m_ruleSize m_isAsked m_askedHorse m_askedFence m_askedLetter m_askedHeight m_kind m_height m_feet m_stride m_scope m_care m_rule = some (r, w_m_read, w_m_length, w_m_top, w_m_at, w_m_wrong, w_m_isAsked, w_m_askedHorse, w_m_askedFence, w_m_askedLetter, w_m_askedHeight)) : zMt l zW 206 mX12_oddsOf_ σ ([(3474, m_read), (3475, m_length), (3476, m_top), (3477, m_at), (3478, m_wrong), (3483, m_ruleSize), (3484, m_isAsked), (3485, m_askedHorse), (3486, m_askedFence), (3487, m_askedLetter), (3488, m_askedHeight)], [(56, m_kind), (57, m_height), (58, m_feet), (59, m_stride), (60, m_scope), (61, m_care), (69, m_rule)], []) [.ref 54, .int p1, .int p2, .int p3] (some (.int r)) ([(3474, w_m_read), (3475, w_m_length), (3476, w_m_top), (3477, w_m_at), (3478, w_m_wrong), (3483, m_ruleSize), (3484, w_m_isAsked), (3485, w_m_askedHorse), (3486, w_m_askedFence), (3487, w_m_askedLetter), (3488, w_m_askedHeight)], [(56, m_kind), (57, m_height), (58, m_feet), (59, m_stride), (60, m_scope), (61, m_care), (69, m_rule)], []) := by
  refine zMt_of (ls := [(0, .ref 54), (1, .int p1), (2, .int p2), (3, .int p3)]) (by decide) rfl (fun _ => Nat.le_of_ble_eq_true rfl) rfl ?_
  unfold f_X12_oddsOf_ at h
  refine zJ_aload_n dX12_oddsOf__0 rfl rfl ?_
  refine zJ_iload_n dX12_oddsOf__1 rfl rfl ?_
  refine zJ_iload_n dX12_oddsOf__2 rfl rfl ?_
  refine zJ_iload_n dX12_oddsOf__3 rfl rfl ?_
  refine zJ_aload_n dX12_oddsOf__4 rfl rfl ?_
  refine zJ_getr (mi := mX12_oddsOf_) dX12_oddsOf__5 F_X12_16 zW_54 rfl rfl ?_
  refine zJ_iload_n dX12_oddsOf__8 rfl rfl ?_
  obtain ⟨hg, h⟩ := gd_some h
  refine zJ_iald (mi := mX12_oddsOf_) (f := m_height) dX12_oddsOf__9 zW_57 (ix_in hg) rfl rfl ?_
  obtain ⟨rn1, m_readn2, m_lengthn3, m_topn4, m_atn5, m_wrongn6, m_isAskedn7, m_askedHorsen8, m_askedFencen9, m_askedLettern10, m_askedHeightn11, hcl, h⟩ := bd11_some h
  refine zJ_callV2 (σ := σ) (L := ([(3474, m_read), (3475, m_length), (3476, m_top), (3477, m_at), (3478, m_wrong), (3483, m_ruleSize), (3484, m_isAsked), (3485, m_askedHorse), (3486, m_askedFence), (3487, m_askedLetter), (3488, m_askedHeight)], [(56, m_kind), (57, m_height), (58, m_feet), (59, m_stride), (60, m_scope), (61, m_care), (69, m_rule)], [])) (mi := mX12_oddsOf_) (yi := mX12_oddsOf) (as := [.int p1, .int p2, .int p3, .int (m_height p2.toNatClampNeg)]) (st := []) (L2 := ([(3474, m_readn2), (3475, m_lengthn3), (3476, m_topn4), (3477, m_atn5), (3478, m_wrongn6), (3483, m_ruleSize), (3484, m_isAskedn7), (3485, m_askedHorsen8), (3486, m_askedFencen9), (3487, m_askedLettern10), (3488, m_askedHeightn11)], [(56, m_kind), (57, m_height), (58, m_feet), (59, m_stride), (60, m_scope), (61, m_care), (69, m_rule)], [])) dX12_oddsOf__10 ML_X12_246 Yv_X12_oddsOf rfl zW_54 rfl rfl (t_X12_oddsOf l _ hcl) (zsub_i (zle_c rfl (zle_c rfl (zle_c rfl (zle_c rfl (zle_c rfl (zle_c rfl (zle_c rfl (zle_c rfl (zle_c rfl (zle_c rfl (zle_c rfl zle_n))))))))))) (zle_c rfl (zle_c rfl (zle_c rfl (zle_c rfl (zle_c rfl (zle_c rfl zle_n)))))) zle_n) (zjok_i rfl rfl (zle_c rfl (zle_c rfl (zle_c rfl (zle_c rfl (zle_c rfl (zle_c rfl (zle_c rfl (zle_c rfl (zle_c rfl (zle_c rfl (zle_c rfl zle_n))))))))))) rfl rfl (zle_c rfl (zle_c rfl (zle_c rfl (zle_c rfl (zle_c rfl (zle_c rfl (zle_c rfl zle_n))))))) rfl rfl zle_n) (Nat.le_of_ble_eq_true rfl) (Nat.le_of_ble_eq_true rfl) rfl rfl ?_
  obtain ⟨rfl, rfl, rfl, rfl, rfl, rfl, rfl, rfl, rfl, rfl, rfl⟩ := so11 h
  exact zJ_iret dX12_oddsOf__13 rfl rfl
