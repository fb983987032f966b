set_option maxRecDepth 100000 in
set_option maxHeartbeats 4000000 in
theorem tg_X7_readBareThing (l : Launch) : ∀ n : Nat, (∀ (σ : zS) (p2 : Int32) (text_limit : Int32) (text_at : Int32) (course_rule_draftSize : Int32) (text_signs : (Nat → Int32)) (rule_draft : (Nat → Int32)) (r : Int32) (w_text_at : Int32) (w_course_rule_draftSize : Int32) (w_rule_draft : (Nat → Int32)), (G_X7_readBareThing n).1 p2 text_limit text_at course_rule_draftSize text_signs rule_draft = some (r, w_text_at, w_course_rule_draftSize, w_rule_draft) → zMt l zW (n + 9) mX7_readBareThing σ ([(66, text_limit), (67, text_at), (771, course_rule_draftSize)], [(2, text_signs), (14, rule_draft)], []) [.ref 12, .ref 1, .int p2] (some (.int r)) ([(66, text_limit), (67, w_text_at), (771, w_course_rule_draftSize)], [(2, text_signs), (14, w_rule_draft)], [])) ∧ (∀ (σ : zS) (p2 : Int32) (p3 : Int32) (text_limit : Int32) (text_at : Int32) (course_rule_draftSize : Int32) (text_signs : (Nat → Int32)) (rule_draft : (Nat → Int32)) (r : Int32) (w_text_at : Int32) (w_course_rule_draftSize : Int32) (w_rule_draft : (Nat → Int32)), (G_X7_readBareThing n).2.1 p2 p3 text_limit text_at course_rule_draftSize text_signs rule_draft = some (r, w_text_at, w_course_rule_draftSize, w_rule_draft) → zMt l zW (n + 9) mX7_readLevel σ ([(66, text_limit), (67, text_at), (771, course_rule_draftSize)], [(2, text_signs), (14, rule_draft)], []) [.ref 12, .ref 1, .int p2, .int p3] (some (.int r)) ([(66, text_limit), (67, w_text_at), (771, w_course_rule_draftSize)], [(2, text_signs), (14, w_rule_draft)], [])) ∧ (∀ (σ : zS) (p2 : Int32) (text_limit : Int32) (text_at : Int32) (course_rule_draftSize : Int32) (text_signs : (Nat → Int32)) (rule_draft : (Nat → Int32)) (r : Int32) (w_text_at : Int32) (w_course_rule_draftSize : Int32) (w_rule_draft : (Nat → Int32)), (G_X7_readBareThing n).2.2 p2 text_limit text_at course_rule_draftSize text_signs rule_draft = some (r, w_text_at, w_course_rule_draftSize, w_rule_draft) → zMt l zW (n + 9) mX7_readThing σ ([(66, text_limit), (67, text_at), (771, course_rule_draftSize)], [(2, text_signs), (14, rule_draft)], []) [.ref 12, .ref 1, .int p2] (some (.int r)) ([(66, text_limit), (67, w_text_at), (771, w_course_rule_draftSize)], [(2, text_signs), (14, w_rule_draft)], [])) := by
  intro n
  induction n with
  | zero => exact ⟨(fun _ _ _ _ _ _ _ _ _ _ _ h => by cases (show (none : Option _) = some _ from h)), (fun _ _ _ _ _ _ _ _ _ _ _ _ h => by cases (show (none : Option _) = some _ from h)), (fun _ _ _ _ _ _ _ _ _ _ _ h => by cases (show (none : Option _) = some _ from h))⟩
  | succ n ih =>
    obtain ⟨ih_X7_readBareThing, ih_X7_readLevel, ih_X7_readThing⟩ := ih
    refine ⟨?_, ?_, ?_⟩
    · intro σ p2 text_limit text_at course_rule_draftSize text_signs rule_draft r w_text_at w_course_rule_draftSize w_rule_draft h
      replace h : g_X7_readBareThing (G_X7_readBareThing n).1 (G_X7_readBareThing n).2.1 (G_X7_readBareThing n).2.2 p2 text_limit text_at course_rule_draftSize text_signs rule_draft = some (r, w_text_at, w_course_rule_draftSize, w_rule_draft) := h
      generalize (G_X7_readBareThing n).1 = q_X7_readBareThing at h ih_X7_readBareThing ih_X7_readLevel ih_X7_readThing
      generalize (G_X7_readBareThing n).2.1 = q_X7_readLevel at h ih_X7_readBareThing ih_X7_readLevel ih_X7_readThing
      generalize (G_X7_readBareThing n).2.2 = q_X7_readThing at h ih_X7_readBareThing ih_X7_readLevel ih_X7_readThing
      show zMt l zW (n + 10) mX7_readBareThing σ ([(66, text_limit), (67, text_at), (771, course_rule_draftSize)], [(2, text_signs), (14, rule_draft)], []) [.ref 12, .ref 1, .int p2] (some (.int r)) ([(66, text_limit), (67, w_text_at), (771, w_course_rule_draftSize)], [(2, text_signs), (14, w_rule_draft)], [])
      refine zMt_of (ls := [(0, .ref 12), (1, .ref 1), (2, .int p2)]) (by decide) rfl (fun _ => Nat.le_of_ble_eq_true rfl) rfl ?_
      unfold g_X7_readBareThing at h
      refine zJ_aload_n dX7_readBareThing_0 rfl rfl ?_
      refine zJ_iconst dX7_readBareThing_1 zc_3 rfl ?_
      obtain ⟨rn1, text_atn2, hcl, h⟩ := bd2_some h
      refine zJ_callV2 (σ := σ) (L := ([(66, text_limit), (67, text_at), (771, course_rule_draftSize)], [(2, text_signs), (14, rule_draft)], [])) (mi := mX7_readBareThing) (yi := mX9_number) (as := [.int (3 : Int32)]) (st := []) (L2 := ([(66, text_limit), (67, text_atn2), (771, course_rule_draftSize)], [(2, text_signs), (14, rule_draft)], [])) dX7_readBareThing_2 ML_X7_83 Yv_X9_number rfl zW_1 rfl rfl (t_X9_number l _ hcl) (zsub_i (zle_c rfl (zle_c rfl zle_n)) (zle_c rfl zle_n) zle_n) (zjok_i rfl rfl (zle_c rfl (zle_c rfl (zle_c rfl zle_n))) rfl rfl (zle_c rfl (zle_c rfl zle_n)) rfl rfl zle_n) (by omega) (Nat.le_of_ble_eq_true rfl) rfl rfl ?_
      refine zJ_istore_n (ls' := [(3, .int rn1), (0, .ref 12), (1, .ref 1), (2, .int p2)]) dX7_readBareThing_5 rfl rfl rfl ?_
      refine zJ_iload_n dX7_readBareThing_6 rfl rfl ?_
      refine zJ_iconst dX7_readBareThing_7 zc_m1 rfl ?_
      refine zJ_icmp_eq (tgt := 18) dX7_readBareThing_8 (by decide) rfl (fun hc => ?_) (fun hc => ?_)
      · replace h := it_t hc h
        refine zJ_aload_n dX7_readBareThing_18 rfl rfl ?_
        refine zJ_ldcS (i := 2) (q := 90) dX7_readBareThing_19 rfl rfl rfl ?_
        obtain ⟨rn3, text_atn4, hcl, h⟩ := bd2_some h
        refine zJ_callV2 (σ := σ) (L := ([(66, text_limit), (67, text_atn2), (771, course_rule_draftSize)], [(2, text_signs), (14, rule_draft)], [])) (mi := mX7_readBareThing) (yi := mX9_oneOf) (as := [.ref 90]) (st := []) (L2 := ([(66, text_limit), (67, text_atn4), (771, course_rule_draftSize)], [(2, text_signs), (14, rule_draft)], [])) dX7_readBareThing_21 ML_X7_63 Yv_X9_oneOf rfl zW_1 rfl rfl (t_X9_oneOf l _ hcl) (zsub_i (zle_c rfl (zle_c rfl zle_n)) (zle_c rfl zle_n) zle_n) (zjok_i rfl rfl (zle_c rfl (zle_c rfl (zle_c rfl zle_n))) rfl rfl (zle_c rfl (zle_c rfl zle_n)) rfl rfl zle_n) (by omega) (Nat.le_of_ble_eq_true rfl) rfl rfl ?_
        refine zJ_istore (ls' := [(4, .int rn3), (3, .int rn1), (0, .ref 12), (1, .ref 1), (2, .int p2)]) dX7_readBareThing_24 rfl rfl rfl ?_
        refine zJ_iload dX7_readBareThing_26 rfl rfl ?_
        refine zJ_if_lt (tgt := 43) dX7_readBareThing_28 (by decide) rfl (fun hc => ?_) (fun hc => ?_)
        · replace h := it_t hc h
          refine zJ_iload_n dX7_readBareThing_43 rfl rfl ?_
          refine zJ_iconst dX7_readBareThing_44 zc_4 rfl ?_
          refine zJ_icmp_ge (tgt := 57) dX7_readBareThing_45 (by decide) rfl (fun hc => ?_) (fun hc => ?_)
          · replace h := it_t hc h
            refine zJ_iconst dX7_readBareThing_57 zc_0 rfl ?_
            obtain ⟨rfl, rfl, rfl, rfl⟩ := so4 h
            exact zJ_iret dX7_readBareThing_58 rfl (by decide)
          · replace h := it_f hc h
            refine zJ_aload_n dX7_readBareThing_48 rfl rfl ?_
            refine zJ_bipush dX7_readBareThing_49 zb_40 rfl ?_
            obtain ⟨rn5, text_atn6, hcl, h⟩ := bd2_some h
            refine zJ_callV2 (σ := σ) (L := ([(66, text_limit), (67, text_atn4), (771, course_rule_draftSize)], [(2, text_signs), (14, rule_draft)], [])) (mi := mX7_readBareThing) (yi := mX9_take) (as := [.int (40 : Int32)]) (st := []) (L2 := ([(66, text_limit), (67, text_atn6), (771, course_rule_draftSize)], [(2, text_signs), (14, rule_draft)], [])) dX7_readBareThing_51 ML_X7_76 Yv_X9_take rfl zW_1 rfl rfl (t_X9_take l _ hcl) (zsub_i (zle_c rfl (zle_c rfl zle_n)) (zle_c rfl zle_n) zle_n) (zjok_i rfl rfl (zle_c rfl (zle_c rfl (zle_c rfl zle_n))) rfl rfl (zle_c rfl (zle_c rfl zle_n)) rfl rfl zle_n) (by omega) (Nat.le_of_ble_eq_true rfl) rfl rfl ?_
            refine zJ_if_ne (tgt := 59) dX7_readBareThing_54 (by decide) rfl (fun hc => ?_) (fun hc => ?_)
            · replace h := it_f hc h
              refine zJ_aload_n dX7_readBareThing_59 rfl rfl ?_
              refine zJ_aload_n dX7_readBareThing_60 rfl rfl ?_
              refine zJ_iconst dX7_readBareThing_61 zc_0 rfl ?_
              refine zJ_iload_n dX7_readBareThing_62 rfl rfl ?_
              refine zJ_iconst dX7_readBareThing_63 zc_1 rfl ?_
              refine zJ_iadd dX7_readBareThing_64 rfl ?_
              obtain ⟨rn7, text_atn8, course_rule_draftSizen9, rule_draftn10, hcl, h⟩ := bd4_some h
              refine zJ_callV2 (σ := σ) (L := ([(66, text_limit), (67, text_atn6), (771, course_rule_draftSize)], [(2, text_signs), (14, rule_draft)], [])) (mi := mX7_readBareThing) (yi := mX7_readLevel) (as := [.ref 1, .int (0 : Int32), .int (p2 + (1 : Int32))]) (st := []) (L2 := ([(66, text_limit), (67, text_atn8), (771, course_rule_draftSizen9)], [(2, text_signs), (14, rule_draftn10)], [])) dX7_readBareThing_65 ML_X7_38 Yv_X7_readLevel rfl zW_12 rfl rfl (ih_X7_readLevel _ _ _ _ _ _ _ _ _ _ _ _ hcl) (zsub_i (zle_c rfl (zle_c rfl (zle_c rfl zle_n))) (zle_c rfl (zle_c rfl zle_n)) zle_n) (zjok_i rfl rfl (zle_c rfl (zle_c rfl (zle_c rfl zle_n))) rfl rfl (zle_c rfl (zle_c rfl zle_n)) rfl rfl zle_n) (by omega) (Nat.le_of_ble_eq_true rfl) rfl rfl ?_
              refine zJ_if_eq (tgt := 84) dX7_readBareThing_68 (by decide) rfl (fun hc => ?_) (fun hc => ?_)
              · replace h := it_t hc h
                refine zJ_iconst dX7_readBareThing_84 zc_0 rfl ?_
                obtain ⟨rfl, rfl, rfl, rfl⟩ := so4 h
                exact zJ_iret dX7_readBareThing_85 rfl (by decide)
              · replace h := it_f hc h
                refine zJ_aload_n dX7_readBareThing_71 rfl rfl ?_
                refine zJ_bipush dX7_readBareThing_72 zb_41 rfl ?_
                obtain ⟨rn11, text_atn12, hcl, h⟩ := bd2_some h
                refine zJ_callV2 (σ := σ) (L := ([(66, text_limit), (67, text_atn8), (771, course_rule_draftSizen9)], [(2, text_signs), (14, rule_draftn10)], [])) (mi := mX7_readBareThing) (yi := mX9_take) (as := [.int (41 : Int32)]) (st := []) (L2 := ([(66, text_limit), (67, text_atn12), (771, course_rule_draftSizen9)], [(2, text_signs), (14, rule_draftn10)], [])) dX7_readBareThing_74 ML_X7_76 Yv_X9_take rfl zW_1 rfl rfl (t_X9_take l _ hcl) (zsub_i (zle_c rfl (zle_c rfl zle_n)) (zle_c rfl zle_n) zle_n) (zjok_i rfl rfl (zle_c rfl (zle_c rfl (zle_c rfl zle_n))) rfl rfl (zle_c rfl (zle_c rfl zle_n)) rfl rfl zle_n) (by omega) (Nat.le_of_ble_eq_true rfl) rfl rfl ?_
                refine zJ_if_eq (tgt := 84) dX7_readBareThing_77 (by decide) rfl (fun hc => ?_) (fun hc => ?_)
                · replace h := it_t hc h
                  refine zJ_iconst dX7_readBareThing_84 zc_0 rfl ?_
                  obtain ⟨rfl, rfl, rfl, rfl⟩ := so4 h
                  exact zJ_iret dX7_readBareThing_85 rfl (by decide)
                · replace h := it_f hc h
                  refine zJ_iconst dX7_readBareThing_80 zc_1 rfl ?_
                  refine zJ_goto (tgt := 85) dX7_readBareThing_81 (by decide) ?_
                  obtain ⟨rfl, rfl, rfl, rfl⟩ := so4 h
                  exact zJ_iret dX7_readBareThing_85 rfl (by decide)
            · replace h := it_t hc h
              refine zJ_iconst dX7_readBareThing_57 zc_0 rfl ?_
              obtain ⟨rfl, rfl, rfl, rfl⟩ := so4 h
              exact zJ_iret dX7_readBareThing_58 rfl (by decide)
        · replace h := it_f hc h
          refine zJ_aload_n dX7_readBareThing_31 rfl rfl ?_
          refine zJ_sipush dX7_readBareThing_32 zs_1000 rfl ?_
          refine zJ_iload dX7_readBareThing_35 rfl rfl ?_
          refine zJ_iadd dX7_readBareThing_37 rfl ?_
          obtain ⟨course_rule_draftSizen13, rule_draftn14, hcl, h⟩ := bd2_some h
          refine zJ_callV2 (σ := σ) (L := ([(66, text_limit), (67, text_atn4), (771, course_rule_draftSize)], [(2, text_signs), (14, rule_draft)], [])) (mi := mX7_readBareThing) (yi := mX7_emit) (as := [.int ((1000 : Int32) + rn3)]) (st := []) (L2 := ([(66, text_limit), (67, text_atn4), (771, course_rule_draftSizen13)], [(2, text_signs), (14, rule_draftn14)], [])) dX7_readBareThing_38 ML_X7_67 Yv_X7_emit rfl zW_12 rfl rfl (t_X7_emit l _ hcl) (zsub_i (zle_c rfl zle_n) (zle_c rfl zle_n) zle_n) (zjok_i rfl rfl (zle_c rfl (zle_c rfl (zle_c rfl zle_n))) rfl rfl (zle_c rfl (zle_c rfl zle_n)) rfl rfl zle_n) (by omega) (Nat.le_of_ble_eq_true rfl) rfl rfl ?_
          refine zJ_iconst dX7_readBareThing_41 zc_1 rfl ?_
          obtain ⟨rfl, rfl, rfl, rfl⟩ := so4 h
          exact zJ_iret dX7_readBareThing_42 rfl (by decide)
      · replace h := it_f hc h
        refine zJ_aload_n dX7_readBareThing_11 rfl rfl ?_
        refine zJ_iload_n dX7_readBareThing_12 rfl rfl ?_
        obtain ⟨course_rule_draftSizen15, rule_draftn16, hcl, h⟩ := bd2_some h
        refine zJ_callV2 (σ := σ) (L := ([(66, text_limit), (67, text_atn2), (771, course_rule_draftSize)], [(2, text_signs), (14, rule_draft)], [])) (mi := mX7_readBareThing) (yi := mX7_emit) (as := [.int rn1]) (st := []) (L2 := ([(66, text_limit), (67, text_atn2), (771, course_rule_draftSizen15)], [(2, text_signs), (14, rule_draftn16)], [])) dX7_readBareThing_13 ML_X7_67 Yv_X7_emit rfl zW_12 rfl rfl (t_X7_emit l _ hcl) (zsub_i (zle_c rfl zle_n) (zle_c rfl zle_n) zle_n) (zjok_i rfl rfl (zle_c rfl (zle_c rfl (zle_c rfl zle_n))) rfl rfl (zle_c rfl (zle_c rfl zle_n)) rfl rfl zle_n) (by omega) (Nat.le_of_ble_eq_true rfl) rfl rfl ?_
        refine zJ_iconst dX7_readBareThing_16 zc_1 rfl ?_
        obtain ⟨rfl, rfl, rfl, rfl⟩ := so4 h
        exact zJ_iret dX7_readBareThing_17 rfl (by decide)
    · intro σ p2 p3 text_limit text_at course_rule_draftSize text_signs rule_draft r w_text_at w_course_rule_draftSize w_rule_draft h
      replace h : g_X7_readLevel (G_X7_readBareThing n).1 (G_X7_readBareThing n).2.1 (G_X7_readBareThing n).2.2 p2 p3 text_limit text_at course_rule_draftSize text_signs rule_draft = some (r, w_text_at, w_course_rule_draftSize, w_rule_draft) := h
      generalize (G_X7_readBareThing n).1 = q_X7_readBareThing at h ih_X7_readBareThing ih_X7_readLevel ih_X7_readThing
      generalize (G_X7_readBareThing n).2.1 = q_X7_readLevel at h ih_X7_readBareThing ih_X7_readLevel ih_X7_readThing
      generalize (G_X7_readBareThing n).2.2 = q_X7_readThing at h ih_X7_readBareThing ih_X7_readLevel ih_X7_readThing
      show zMt l zW (n + 10) mX7_readLevel σ ([(66, text_limit), (67, text_at), (771, course_rule_draftSize)], [(2, text_signs), (14, rule_draft)], []) [.ref 12, .ref 1, .int p2, .int p3] (some (.int r)) ([(66, text_limit), (67, w_text_at), (771, w_course_rule_draftSize)], [(2, text_signs), (14, w_rule_draft)], [])
      refine zMt_of (ls := [(0, .ref 12), (1, .ref 1), (2, .int p2), (3, .int p3)]) (by decide) rfl (fun _ => Nat.le_of_ble_eq_true rfl) rfl ?_
      unfold g_X7_readLevel at h
      refine zJ_iload_n dX7_readLevel_0 rfl rfl ?_
      refine zJ_iconst dX7_readLevel_1 zc_3 rfl ?_
      refine zJ_icmp_lt (tgt := 12) dX7_readLevel_2 (by decide) rfl (fun hc => ?_) (fun hc => ?_)
      · replace h := it_t hc h
        refine zJ_aload_n dX7_readLevel_12 rfl rfl ?_
        refine zJ_aload_n dX7_readLevel_13 rfl rfl ?_
        refine zJ_iload_n dX7_readLevel_14 rfl rfl ?_
        refine zJ_iconst dX7_readLevel_15 zc_1 rfl ?_
        refine zJ_iadd dX7_readLevel_16 rfl ?_
        refine zJ_iload_n dX7_readLevel_17 rfl rfl ?_
        obtain ⟨rn1, text_atn2, course_rule_draftSizen3, rule_draftn4, hcl, h⟩ := bd4_some h
        refine zJ_callV2 (σ := σ) (L := ([(66, text_limit), (67, text_at), (771, course_rule_draftSize)], [(2, text_signs), (14, rule_draft)], [])) (mi := mX7_readLevel) (yi := mX7_readLevel) (as := [.ref 1, .int (p2 + (1 : Int32)), .int p3]) (st := []) (L2 := ([(66, text_limit), (67, text_atn2), (771, course_rule_draftSizen3)], [(2, text_signs), (14, rule_draftn4)], [])) dX7_readLevel_18 ML_X7_38 Yv_X7_readLevel rfl zW_12 rfl rfl (ih_X7_readLevel _ _ _ _ _ _ _ _ _ _ _ _ hcl) (zsub_i (zle_c rfl (zle_c rfl (zle_c rfl zle_n))) (zle_c rfl (zle_c rfl zle_n)) zle_n) (zjok_i rfl rfl (zle_c rfl (zle_c rfl (zle_c rfl zle_n))) rfl rfl (zle_c rfl (zle_c rfl zle_n)) rfl rfl zle_n) (by omega) (Nat.le_of_ble_eq_true rfl) rfl rfl ?_
        refine zJ_if_ne (tgt := 26) dX7_readLevel_21 (by decide) rfl (fun hc => ?_) (fun hc => ?_)
        · replace h := it_f hc h
          refine zJ_iload_n dX7_readLevel_26 rfl rfl ?_
          have hj_X7_readLevel_36 : ∀ (t0_36j : Int32), j_X7_readLevel_36 q_X7_readLevel p2 p3 text_limit text_signs text_atn2 course_rule_draftSizen3 rule_draftn4 t0_36j = some (r, w_text_at, w_course_rule_draftSize, w_rule_draft) → zJ l zW (n + 10) mX7_readLevel σ ([(66, text_limit), (67, text_atn2), (771, course_rule_draftSizen3)], [(2, text_signs), (14, rule_draftn4)], []) 36 [(0, .ref 12), (1, .ref 1), (2, .int p2), (3, .int p3)] [.int t0_36j] (some (.int r)) ([(66, text_limit), (67, w_text_at), (771, w_course_rule_draftSize)], [(2, text_signs), (14, w_rule_draft)], []) := by
            intro t0_36j h
            unfold j_X7_readLevel_36 at h
            refine zJ_istore (ls' := [(4, .int t0_36j), (0, .ref 12), (1, .ref 1), (2, .int p2), (3, .int p3)]) dX7_readLevel_36 rfl rfl rfl ?_
            refine zJ_iconst dX7_readLevel_38 zc_0 rfl ?_
            refine zJ_istore (ls' := [(5, .int (0 : Int32)), (4, .int t0_36j), (0, .ref 12), (1, .ref 1), (2, .int p2), (3, .int p3)]) dX7_readLevel_39 rfl rfl rfl ?_
            have hk41 : ∀ (text_at_41x : Int32) (course_rule_draftSize_41x : Int32) (rule_draft_41x : (Nat → Int32)), k_X7_readLevel_41  text_at_41x course_rule_draftSize_41x rule_draft_41x = some (r, w_text_at, w_course_rule_draftSize, w_rule_draft) → zJ l zW (n + 10) mX7_readLevel σ ([(66, text_limit), (67, text_at_41x), (771, course_rule_draftSize_41x)], [(2, text_signs), (14, rule_draft_41x)], []) 99 [] [] (some (.int r)) ([(66, text_limit), (67, w_text_at), (771, w_course_rule_draftSize)], [(2, text_signs), (14, w_rule_draft)], []) := by
              intro text_at_41x course_rule_draftSize_41x rule_draft_41x h
              unfold k_X7_readLevel_41 at h
              refine zJ_iconst dX7_readLevel_99 zc_1 rfl ?_
              obtain ⟨rfl, rfl, rfl, rfl⟩ := so4 h
              exact zJ_iret dX7_readLevel_100 rfl (by decide)
            refine zJ_loc (ls' := [(0, .ref 12), (1, .ref 1), (2, .int p2), (3, .int p3), (4, .int t0_36j), (5, .int (0 : Int32))]) (zll_c rfl (zll_c rfl (zll_c rfl (zll_c rfl (zll_c rfl (zll_c rfl zll_n)))))) ?_
            refine ml4_J (fun (v5_41 : Int32) (text_at_41 : Int32) (course_rule_draftSize_41 : Int32) (rule_draft_41 : (Nat → Int32)) => zJ l zW (n + 10) mX7_readLevel σ ([(66, text_limit), (67, text_at_41), (771, course_rule_draftSize_41)], [(2, text_signs), (14, rule_draft_41)], []) 41 [(0, .ref 12), (1, .ref 1), (2, .int p2), (3, .int p3), (4, .int t0_36j), (5, .int v5_41)] [] (some (.int r)) ([(66, text_limit), (67, w_text_at), (771, w_course_rule_draftSize)], [(2, text_signs), (14, w_rule_draft)], [])) (fun rc41 hrc41 v5_41 text_at_41 course_rule_draftSize_41 rule_draft_41 h => ?_) zN _ _ _ _ h
            unfold s_X7_readLevel_41 at h
            refine zJ_iload dX7_readLevel_41 rfl rfl ?_
            refine zJ_iload dX7_readLevel_43 rfl rfl ?_
            refine zJ_icmp_ge (tgt := 99) dX7_readLevel_45 (by decide) rfl (fun hc => ?_) (fun hc => ?_)
            · replace h := it_t hc h
              refine zJ_loc (ls' := []) zll_n ?_
              exact hk41 _ _ _ h
            · replace h := it_f hc h
              refine zJ_aload_n dX7_readLevel_48 rfl rfl ?_
              refine zJ_iload_n dX7_readLevel_49 rfl rfl ?_
              obtain ⟨rn5, hcl, h⟩ := bd1_some h
              refine zJ_callS2 (σ := σ) (L := ([(66, text_limit), (67, text_at_41), (771, course_rule_draftSize_41)], [(2, text_signs), (14, rule_draft_41)], [])) (mi := mX7_readLevel) (yi := mX7_signsOf) (as := [.int p2]) (st := [.ref 1]) (L2 := ([(66, text_limit), (67, text_at_41), (771, course_rule_draftSize_41)], [(2, text_signs), (14, rule_draft_41)], [])) dX7_readLevel_50 ML_X7_59 Ys_X7_signsOf rfl (t_X7_signsOf l _ hcl) (zsub_i zle_n zle_n zle_n) (zjok_i rfl rfl (zle_c rfl (zle_c rfl (zle_c rfl zle_n))) rfl rfl (zle_c rfl (zle_c rfl zle_n)) rfl rfl zle_n) (by omega) (Nat.le_of_ble_eq_true rfl) rfl rfl ?_
              obtain ⟨rn6, text_atn7, hcl, h⟩ := bd2_some h
              refine zJ_callV2 (σ := σ) (L := ([(66, text_limit), (67, text_at_41), (771, course_rule_draftSize_41)], [(2, text_signs), (14, rule_draft_41)], [])) (mi := mX7_readLevel) (yi := mX9_oneOf) (as := [.ref rn5]) (st := []) (L2 := ([(66, text_limit), (67, text_atn7), (771, course_rule_draftSize_41)], [(2, text_signs), (14, rule_draft_41)], [])) dX7_readLevel_53 ML_X7_63 Yv_X9_oneOf rfl zW_1 rfl rfl (t_X9_oneOf l _ hcl) (zsub_i (zle_c rfl (zle_c rfl zle_n)) (zle_c rfl zle_n) zle_n) (zjok_i rfl rfl (zle_c rfl (zle_c rfl (zle_c rfl zle_n))) rfl rfl (zle_c rfl (zle_c rfl zle_n)) rfl rfl zle_n) (by omega) (Nat.le_of_ble_eq_true rfl) rfl rfl ?_
              refine zJ_istore (ls' := [(6, .int rn6), (0, .ref 12), (1, .ref 1), (2, .int p2), (3, .int p3), (4, .int t0_36j), (5, .int v5_41)]) dX7_readLevel_56 rfl rfl rfl ?_
              refine zJ_iload dX7_readLevel_58 rfl rfl ?_
              refine zJ_if_ge (tgt := 65) dX7_readLevel_60 (by decide) rfl (fun hc => ?_) (fun hc => ?_)
              · replace h := it_t hc h
                refine zJ_aload_n dX7_readLevel_65 rfl rfl ?_
                refine zJ_aload_n dX7_readLevel_66 rfl rfl ?_
                refine zJ_iload_n dX7_readLevel_67 rfl rfl ?_
                refine zJ_iconst dX7_readLevel_68 zc_1 rfl ?_
                refine zJ_iadd dX7_readLevel_69 rfl ?_
                refine zJ_iload_n dX7_readLevel_70 rfl rfl ?_
                obtain ⟨rn8, text_atn9, course_rule_draftSizen10, rule_draftn11, hcl, h⟩ := bd4_some h
                refine zJ_callV2 (σ := σ) (L := ([(66, text_limit), (67, text_atn7), (771, course_rule_draftSize_41)], [(2, text_signs), (14, rule_draft_41)], [])) (mi := mX7_readLevel) (yi := mX7_readLevel) (as := [.ref 1, .int (p2 + (1 : Int32)), .int p3]) (st := []) (L2 := ([(66, text_limit), (67, text_atn9), (771, course_rule_draftSizen10)], [(2, text_signs), (14, rule_draftn11)], [])) dX7_readLevel_71 ML_X7_38 Yv_X7_readLevel rfl zW_12 rfl rfl (ih_X7_readLevel _ _ _ _ _ _ _ _ _ _ _ _ hcl) (zsub_i (zle_c rfl (zle_c rfl (zle_c rfl zle_n))) (zle_c rfl (zle_c rfl zle_n)) zle_n) (zjok_i rfl rfl (zle_c rfl (zle_c rfl (zle_c rfl zle_n))) rfl rfl (zle_c rfl (zle_c rfl zle_n)) rfl rfl zle_n) (by omega) (Nat.le_of_ble_eq_true rfl) rfl rfl ?_
                refine zJ_if_ne (tgt := 79) dX7_readLevel_74 (by decide) rfl (fun hc => ?_) (fun hc => ?_)
                · replace h := it_f hc h
                  refine zJ_aload_n dX7_readLevel_79 rfl rfl ?_
                  refine zJ_sipush dX7_readLevel_80 zs_2000 rfl ?_
                  refine zJ_iload_n dX7_readLevel_83 rfl rfl ?_
                  refine zJ_iconst dX7_readLevel_84 zc_3 rfl ?_
                  refine zJ_imul dX7_readLevel_85 rfl ?_
                  refine zJ_iadd dX7_readLevel_86 rfl ?_
                  refine zJ_iload dX7_readLevel_87 rfl rfl ?_
                  refine zJ_iadd dX7_readLevel_89 rfl ?_
                  obtain ⟨course_rule_draftSizen12, rule_draftn13, hcl, h⟩ := bd2_some h
                  refine zJ_callV2 (σ := σ) (L := ([(66, text_limit), (67, text_atn9), (771, course_rule_draftSizen10)], [(2, text_signs), (14, rule_draftn11)], [])) (mi := mX7_readLevel) (yi := mX7_emit) (as := [.int (((2000 : Int32) + (p2 * (3 : Int32))) + rn6)]) (st := []) (L2 := ([(66, text_limit), (67, text_atn9), (771, course_rule_draftSizen12)], [(2, text_signs), (14, rule_draftn13)], [])) dX7_readLevel_90 ML_X7_67 Yv_X7_emit rfl zW_12 rfl rfl (t_X7_emit l _ hcl) (zsub_i (zle_c rfl zle_n) (zle_c rfl zle_n) zle_n) (zjok_i rfl rfl (zle_c rfl (zle_c rfl (zle_c rfl zle_n))) rfl rfl (zle_c rfl (zle_c rfl zle_n)) rfl rfl zle_n) (by omega) (Nat.le_of_ble_eq_true rfl) rfl rfl ?_
                  obtain ⟨v5n14, ev5n14, h⟩ := lt1_some h
                  refine zJ_iincN (ls' := [(5, .int v5n14), (6, .int rn6), (0, .ref 12), (1, .ref 1), (2, .int p2), (3, .int p3), (4, .int t0_36j)]) dX7_readLevel_93 rfl rfl zc_1 ev5n14 rfl rfl ?_
                  refine zJ_goto (tgt := 41) dX7_readLevel_96 (by decide) ?_
                  refine zJ_loc (ls' := [(0, .ref 12), (1, .ref 1), (2, .int p2), (3, .int p3), (4, .int t0_36j), (5, .int v5n14)]) (zll_c rfl (zll_c rfl (zll_c rfl (zll_c rfl (zll_c rfl (zll_c rfl zll_n)))))) ?_
                  exact hrc41 _ _ _ _ h
                · replace h := it_t hc h
                  refine zJ_iconst dX7_readLevel_77 zc_0 rfl ?_
                  obtain ⟨rfl, rfl, rfl, rfl⟩ := so4 h
                  exact zJ_iret dX7_readLevel_78 rfl (by decide)
              · replace h := it_f hc h
                refine zJ_iconst dX7_readLevel_63 zc_1 rfl ?_
                obtain ⟨rfl, rfl, rfl, rfl⟩ := so4 h
                exact zJ_iret dX7_readLevel_64 rfl (by decide)
          refine zJ_if_ne (tgt := 34) dX7_readLevel_27 (by decide) rfl (fun hc => ?_) (fun hc => ?_)
          · replace h := it_f hc h
            refine zJ_bipush dX7_readLevel_34 zb_40 rfl ?_
            refine zJ_loc (ls' := [(0, .ref 12), (1, .ref 1), (2, .int p2), (3, .int p3)]) (zll_c rfl (zll_c rfl (zll_c rfl (zll_c rfl zll_n)))) ?_
            exact hj_X7_readLevel_36 _ h
          · replace h := it_t hc h
            refine zJ_iconst dX7_readLevel_30 zc_1 rfl ?_
            refine zJ_goto (tgt := 36) dX7_readLevel_31 (by decide) ?_
            refine zJ_loc (ls' := [(0, .ref 12), (1, .ref 1), (2, .int p2), (3, .int p3)]) (zll_c rfl (zll_c rfl (zll_c rfl (zll_c rfl zll_n)))) ?_
            exact hj_X7_readLevel_36 _ h
        · replace h := it_t hc h
          refine zJ_iconst dX7_readLevel_24 zc_0 rfl ?_
          obtain ⟨rfl, rfl, rfl, rfl⟩ := so4 h
          exact zJ_iret dX7_readLevel_25 rfl (by decide)
      · replace h := it_f hc h
        refine zJ_aload_n dX7_readLevel_5 rfl rfl ?_
        refine zJ_aload_n dX7_readLevel_6 rfl rfl ?_
        refine zJ_iload_n dX7_readLevel_7 rfl rfl ?_
        obtain ⟨rn15, text_atn16, course_rule_draftSizen17, rule_draftn18, hcl, h⟩ := bd4_some h
        refine zJ_callV2 (σ := σ) (L := ([(66, text_limit), (67, text_at), (771, course_rule_draftSize)], [(2, text_signs), (14, rule_draft)], [])) (mi := mX7_readLevel) (yi := mX7_readThing) (as := [.ref 1, .int p3]) (st := []) (L2 := ([(66, text_limit), (67, text_atn16), (771, course_rule_draftSizen17)], [(2, text_signs), (14, rule_draftn18)], [])) dX7_readLevel_8 ML_X7_55 Yv_X7_readThing rfl zW_12 rfl rfl (ih_X7_readThing _ _ _ _ _ _ _ _ _ _ _ hcl) (zsub_i (zle_c rfl (zle_c rfl (zle_c rfl zle_n))) (zle_c rfl (zle_c rfl zle_n)) zle_n) (zjok_i rfl rfl (zle_c rfl (zle_c rfl (zle_c rfl zle_n))) rfl rfl (zle_c rfl (zle_c rfl zle_n)) rfl rfl zle_n) (by omega) (Nat.le_of_ble_eq_true rfl) rfl rfl ?_
        obtain ⟨hg, h⟩ := gd_some h
        obtain ⟨rfl, rfl, rfl, rfl⟩ := so4 h
        exact zJ_iret dX7_readLevel_11 rfl (bit_n hg)
    · intro σ p2 text_limit text_at course_rule_draftSize text_signs rule_draft r w_text_at w_course_rule_draftSize w_rule_draft h
      replace h : g_X7_readThing (G_X7_readBareThing n).1 (G_X7_readBareThing n).2.1 (G_X7_readBareThing n).2.2 p2 text_limit text_at course_rule_draftSize text_signs rule_draft = some (r, w_text_at, w_course_rule_draftSize, w_rule_draft) := h
      generalize (G_X7_readBareThing n).1 = q_X7_readBareThing at h ih_X7_readBareThing ih_X7_readLevel ih_X7_readThing
      generalize (G_X7_readBareThing n).2.1 = q_X7_readLevel at h ih_X7_readBareThing ih_X7_readLevel ih_X7_readThing
      generalize (G_X7_readBareThing n).2.2 = q_X7_readThing at h ih_X7_readBareThing ih_X7_readLevel ih_X7_readThing
      show zMt l zW (n + 10) mX7_readThing σ ([(66, text_limit), (67, text_at), (771, course_rule_draftSize)], [(2, text_signs), (14, rule_draft)], []) [.ref 12, .ref 1, .int p2] (some (.int r)) ([(66, text_limit), (67, w_text_at), (771, w_course_rule_draftSize)], [(2, text_signs), (14, w_rule_draft)], [])
      refine zMt_of (ls := [(0, .ref 12), (1, .ref 1), (2, .int p2)]) (by decide) rfl (fun _ => Nat.le_of_ble_eq_true rfl) rfl ?_
      unfold g_X7_readThing at h
      refine zJ_iconst dX7_readThing_0 zc_0 rfl ?_
      refine zJ_istore_n (ls' := [(3, .int (0 : Int32)), (0, .ref 12), (1, .ref 1), (2, .int p2)]) dX7_readThing_1 rfl rfl rfl ?_
      refine zJ_iconst dX7_readThing_2 zc_0 rfl ?_
      refine zJ_istore (ls' := [(4, .int (0 : Int32)), (3, .int (0 : Int32)), (0, .ref 12), (1, .ref 1), (2, .int p2)]) dX7_readThing_3 rfl rfl rfl ?_
      have hk5 : ∀ (v3_5x : Int32) (text_at_5x : Int32), k_X7_readThing_5 q_X7_readBareThing p2 text_limit course_rule_draftSize text_signs rule_draft v3_5x text_at_5x = some (r, w_text_at, w_course_rule_draftSize, w_rule_draft) → zJ l zW (n + 10) mX7_readThing σ ([(66, text_limit), (67, text_at_5x), (771, course_rule_draftSize)], [(2, text_signs), (14, rule_draft)], []) 37 [(0, .ref 12), (1, .ref 1), (2, .int p2), (3, .int v3_5x)] [] (some (.int r)) ([(66, text_limit), (67, w_text_at), (771, w_course_rule_draftSize)], [(2, text_signs), (14, w_rule_draft)], []) := by
        intro v3_5x text_at_5x h
        unfold k_X7_readThing_5 at h
        refine zJ_aload_n dX7_readThing_37 rfl rfl ?_
        refine zJ_aload_n dX7_readThing_38 rfl rfl ?_
        refine zJ_iload_n dX7_readThing_39 rfl rfl ?_
        obtain ⟨rn1, text_atn2, course_rule_draftSizen3, rule_draftn4, hcl, h⟩ := bd4_some h
        refine zJ_callV2 (σ := σ) (L := ([(66, text_limit), (67, text_at_5x), (771, course_rule_draftSize)], [(2, text_signs), (14, rule_draft)], [])) (mi := mX7_readThing) (yi := mX7_readBareThing) (as := [.ref 1, .int p2]) (st := []) (L2 := ([(66, text_limit), (67, text_atn2), (771, course_rule_draftSizen3)], [(2, text_signs), (14, rule_draftn4)], [])) dX7_readThing_40 ML_X7_80 Yv_X7_readBareThing rfl zW_12 rfl rfl (ih_X7_readBareThing _ _ _ _ _ _ _ _ _ _ _ hcl) (zsub_i (zle_c rfl (zle_c rfl (zle_c rfl zle_n))) (zle_c rfl (zle_c rfl zle_n)) zle_n) (zjok_i rfl rfl (zle_c rfl (zle_c rfl (zle_c rfl zle_n))) rfl rfl (zle_c rfl (zle_c rfl zle_n)) rfl rfl zle_n) (by omega) (Nat.le_of_ble_eq_true rfl) rfl rfl ?_
        refine zJ_if_ne (tgt := 48) dX7_readThing_43 (by decide) rfl (fun hc => ?_) (fun hc => ?_)
        · replace h := it_f hc h
          refine zJ_iload_n dX7_readThing_48 rfl rfl ?_
          refine zJ_if_eq (tgt := 59) dX7_readThing_49 (by decide) rfl (fun hc => ?_) (fun hc => ?_)
          · replace h := it_t hc h
            refine zJ_iconst dX7_readThing_59 zc_1 rfl ?_
            obtain ⟨rfl, rfl, rfl, rfl⟩ := so4 h
            exact zJ_iret dX7_readThing_60 rfl (by decide)
          · replace h := it_f hc h
            refine zJ_aload_n dX7_readThing_52 rfl rfl ?_
            refine zJ_sipush dX7_readThing_53 zs_3000 rfl ?_
            obtain ⟨course_rule_draftSizen5, rule_draftn6, hcl, h⟩ := bd2_some h
            refine zJ_callV2 (σ := σ) (L := ([(66, text_limit), (67, text_atn2), (771, course_rule_draftSizen3)], [(2, text_signs), (14, rule_draftn4)], [])) (mi := mX7_readThing) (yi := mX7_emit) (as := [.int (3000 : Int32)]) (st := []) (L2 := ([(66, text_limit), (67, text_atn2), (771, course_rule_draftSizen5)], [(2, text_signs), (14, rule_draftn6)], [])) dX7_readThing_56 ML_X7_67 Yv_X7_emit rfl zW_12 rfl rfl (t_X7_emit l _ hcl) (zsub_i (zle_c rfl zle_n) (zle_c rfl zle_n) zle_n) (zjok_i rfl rfl (zle_c rfl (zle_c rfl (zle_c rfl zle_n))) rfl rfl (zle_c rfl (zle_c rfl zle_n)) rfl rfl zle_n) (by omega) (Nat.le_of_ble_eq_true rfl) rfl rfl ?_
            refine zJ_iconst dX7_readThing_59 zc_1 rfl ?_
            obtain ⟨rfl, rfl, rfl, rfl⟩ := so4 h
            exact zJ_iret dX7_readThing_60 rfl (by decide)
        · replace h := it_t hc h
          refine zJ_iconst dX7_readThing_46 zc_0 rfl ?_
          obtain ⟨rfl, rfl, rfl, rfl⟩ := so4 h
          exact zJ_iret dX7_readThing_47 rfl (by decide)
      refine zJ_loc (ls' := [(0, .ref 12), (1, .ref 1), (2, .int p2), (3, .int (0 : Int32)), (4, .int (0 : Int32))]) (zll_c rfl (zll_c rfl (zll_c rfl (zll_c rfl (zll_c rfl zll_n))))) ?_
      refine ml3_J (fun (v3_5 : Int32) (v4_5 : Int32) (text_at_5 : Int32) => zJ l zW (n + 10) mX7_readThing σ ([(66, text_limit), (67, text_at_5), (771, course_rule_draftSize)], [(2, text_signs), (14, rule_draft)], []) 5 [(0, .ref 12), (1, .ref 1), (2, .int p2), (3, .int v3_5), (4, .int v4_5)] [] (some (.int r)) ([(66, text_limit), (67, w_text_at), (771, w_course_rule_draftSize)], [(2, text_signs), (14, w_rule_draft)], [])) (fun rc5 hrc5 v3_5 v4_5 text_at_5 h => ?_) zN _ _ _ h
      unfold s_X7_readThing_5 at h
      refine zJ_iload dX7_readThing_5 rfl rfl ?_
      refine zJ_bipush dX7_readThing_7 zb_40 rfl ?_
      refine zJ_icmp_ge (tgt := 37) dX7_readThing_9 (by decide) rfl (fun hc => ?_) (fun hc => ?_)
      · replace h := it_t hc h
        refine zJ_loc (ls' := [(0, .ref 12), (1, .ref 1), (2, .int p2), (3, .int v3_5)]) (zll_c rfl (zll_c rfl (zll_c rfl (zll_c rfl zll_n)))) ?_
        exact hk5 _ _ h
      · replace h := it_f hc h
        refine zJ_aload_n dX7_readThing_12 rfl rfl ?_
        refine zJ_bipush dX7_readThing_13 zb_45 rfl ?_
        obtain ⟨rn7, text_atn8, hcl, h⟩ := bd2_some h
        refine zJ_callV2 (σ := σ) (L := ([(66, text_limit), (67, text_at_5), (771, course_rule_draftSize)], [(2, text_signs), (14, rule_draft)], [])) (mi := mX7_readThing) (yi := mX9_take) (as := [.int (45 : Int32)]) (st := []) (L2 := ([(66, text_limit), (67, text_atn8), (771, course_rule_draftSize)], [(2, text_signs), (14, rule_draft)], [])) dX7_readThing_15 ML_X7_76 Yv_X9_take rfl zW_1 rfl rfl (t_X9_take l _ hcl) (zsub_i (zle_c rfl (zle_c rfl zle_n)) (zle_c rfl zle_n) zle_n) (zjok_i rfl rfl (zle_c rfl (zle_c rfl (zle_c rfl zle_n))) rfl rfl (zle_c rfl (zle_c rfl zle_n)) rfl rfl zle_n) (by omega) (Nat.le_of_ble_eq_true rfl) rfl rfl ?_
        refine zJ_if_eq (tgt := 37) dX7_readThing_18 (by decide) rfl (fun hc => ?_) (fun hc => ?_)
        · replace h := it_t hc h
          refine zJ_loc (ls' := [(0, .ref 12), (1, .ref 1), (2, .int p2), (3, .int v3_5)]) (zll_c rfl (zll_c rfl (zll_c rfl (zll_c rfl zll_n)))) ?_
          exact hk5 _ _ h
        · replace h := it_f hc h
          refine zJ_iload_n dX7_readThing_21 rfl rfl ?_
          refine zJ_if_ne (tgt := 29) dX7_readThing_22 (by decide) rfl (fun hc => ?_) (fun hc => ?_)
          · replace h := it_f hc h
            refine zJ_iconst dX7_readThing_29 zc_0 rfl ?_
            refine zJ_istore_n (ls' := [(3, .int (0 : Int32)), (0, .ref 12), (1, .ref 1), (2, .int p2), (4, .int v4_5)]) dX7_readThing_30 rfl rfl rfl ?_
            obtain ⟨v4n9, ev4n9, h⟩ := lt1_some h
            refine zJ_iincN (ls' := [(4, .int v4n9), (3, .int (0 : Int32)), (0, .ref 12), (1, .ref 1), (2, .int p2)]) dX7_readThing_31 rfl rfl zc_1 ev4n9 rfl rfl ?_
            refine zJ_goto (tgt := 5) dX7_readThing_34 (by decide) ?_
            refine zJ_loc (ls' := [(0, .ref 12), (1, .ref 1), (2, .int p2), (3, .int (0 : Int32)), (4, .int v4n9)]) (zll_c rfl (zll_c rfl (zll_c rfl (zll_c rfl (zll_c rfl zll_n))))) ?_
            exact hrc5 _ _ _ h
          · replace h := it_t hc h
            refine zJ_iconst dX7_readThing_25 zc_1 rfl ?_
            refine zJ_goto (tgt := 30) dX7_readThing_26 (by decide) ?_
            refine zJ_istore_n (ls' := [(3, .int (1 : Int32)), (0, .ref 12), (1, .ref 1), (2, .int p2), (4, .int v4_5)]) dX7_readThing_30 rfl rfl rfl ?_
            obtain ⟨v4n10, ev4n10, h⟩ := lt1_some h
            refine zJ_iincN (ls' := [(4, .int v4n10), (3, .int (1 : Int32)), (0, .ref 12), (1, .ref 1), (2, .int p2)]) dX7_readThing_31 rfl rfl zc_1 ev4n10 rfl rfl ?_
            refine zJ_goto (tgt := 5) dX7_readThing_34 (by decide) ?_
            refine zJ_loc (ls' := [(0, .ref 12), (1, .ref 1), (2, .int p2), (3, .int (1 : Int32)), (4, .int v4n10)]) (zll_c rfl (zll_c rfl (zll_c rfl (zll_c rfl (zll_c rfl zll_n))))) ?_
            exact hrc5 _ _ _ h

theorem t_X7_readBareThing (l : Launch) (σ : zS) (n : Nat) {p2 : Int32} {text_limit : Int32} {text_at : Int32} {course_rule_draftSize : Int32} {text_signs : (Nat → Int32)} {rule_draft : (Nat → Int32)} {r : Int32} {w_text_at : Int32} {w_course_rule_draftSize : Int32} {w_rule_draft : (Nat → Int32)} (h : f_X7_readBareThing n p2 text_limit text_at course_rule_draftSize text_signs rule_draft = some (r, w_text_at, w_course_rule_draftSize, w_rule_draft)) : zMt l zW (n + 9) mX7_readBareThing σ ([(66, text_limit), (67, text_at), (771, course_rule_draftSize)], [(2, text_signs), (14, rule_draft)], []) [.ref 12, .ref 1, .int p2] (some (.int r)) ([(66, text_limit), (67, w_text_at), (771, w_course_rule_draftSize)], [(2, text_signs), (14, w_rule_draft)], []) := (tg_X7_readBareThing l n).1 σ _ _ _ _ _ _ _ _ _ _ h
theorem t_X7_readLevel (l : Launch) (σ : zS) (n : Nat) {p2 : Int32} {p3 : Int32} {text_limit : Int32} {text_at : Int32} {course_rule_draftSize : Int32} {text_signs : (Nat → Int32)} {rule_draft : (Nat → Int32)} {r : Int32} {w_text_at : Int32} {w_course_rule_draftSize : Int32} {w_rule_draft : (Nat → Int32)} (h : f_X7_readLevel n p2 p3 text_limit text_at course_rule_draftSize text_signs rule_draft = some (r, w_text_at, w_course_rule_draftSize, w_rule_draft)) : zMt l zW (n + 9) mX7_readLevel σ ([(66, text_limit), (67, text_at), (771, course_rule_draftSize)], [(2, text_signs), (14, rule_draft)], []) [.ref 12, .ref 1, .int p2, .int p3] (some (.int r)) ([(66, text_limit), (67, w_text_at), (771, w_course_rule_draftSize)], [(2, text_signs), (14, w_rule_draft)], []) := (tg_X7_readBareThing l n).2.1 σ _ _ _ _ _ _ _ _ _ _ _ h
theorem t_X7_readThing (l : Launch) (σ : zS) (n : Nat) {p2 : Int32} {text_limit : Int32} {text_at : Int32} {course_rule_draftSize : Int32} {text_signs : (Nat → Int32)} {rule_draft : (Nat → Int32)} {r : Int32} {w_text_at : Int32} {w_course_rule_draftSize : Int32} {w_rule_draft : (Nat → Int32)} (h : f_X7_readThing n p2 text_limit text_at course_rule_draftSize text_signs rule_draft = some (r, w_text_at, w_course_rule_draftSize, w_rule_draft)) : zMt l zW (n + 9) mX7_readThing σ ([(66, text_limit), (67, text_at), (771, course_rule_draftSize)], [(2, text_signs), (14, rule_draft)], []) [.ref 12, .ref 1, .int p2] (some (.int r)) ([(66, text_limit), (67, w_text_at), (771, w_course_rule_draftSize)], [(2, text_signs), (14, w_rule_draft)], []) := (tg_X7_readBareThing l n).2.2 σ _ _ _ _ _ _ _ _ _ _ h
set_option maxRecDepth 100000 in
set_option maxHeartbeats 4000000 in
theorem t_X7_readRule (l : Launch) (σ : zS) {text_size : Int32} {text_limit : Int32} {text_at : Int32} {course_rule_size : Int32} {course_rule_draftSize : Int32} {text_signs : (Nat → Int32)} {rule_codes : (Nat → Int32)} {rule_draft : (Nat → Int32)} {r : Int32} {w_text_limit : Int32} {w_text_at : Int32} {w_course_rule_size : Int32} {w_course_rule_draftSize : Int32} {w_rule_codes : (Nat → Int32)} {w_rule_draft : (Nat → Int32)} (h : f_X7_readRule text_size text_limit text_at course_rule_size course_rule_draftSize text_signs rule_codes rule_draft = some (r, w_text_limit, w_text_at, w_course_rule_size, w_course_rule_draftSize, w_rule_codes, w_rule_draft)) : zMt l zW 210 mX7_readRule σ ([(65, text_size), (66, text_limit), (67, text_at), (769, course_rule_size), (771, course_rule_draftSize)], [(2, text_signs), (13, rule_codes), (14, rule_draft)], []) [.ref 12, .ref 1] (some (.int r)) ([(65, text_size), (66, w_text_limit), (67, w_text_at), (769, w_course_rule_size), (771, w_course_rule_draftSize)], [(2, text_signs), (13, w_rule_codes), (14, w_rule_draft)], []) := by
  refine zMt_of (ls := [(0, .ref 12), (1, .ref 1)]) (by decide) rfl (fun _ => Nat.le_of_ble_eq_true rfl) rfl ?_
  unfold f_X7_readRule at h
  refine zJ_aload_n dX7_readRule_0 rfl rfl ?_
  refine zJ_bipush dX7_readRule_1 zb_40 rfl ?_
  obtain ⟨text_limitn1, text_atn2, hcl, h⟩ := bd2_some h
  refine zJ_callV2 (σ := σ) (L := ([(65, text_size), (66, text_limit), (67, text_at), (769, course_rule_size), (771, course_rule_draftSize)], [(2, text_signs), (13, rule_codes), (14, rule_draft)], [])) (mi := mX7_readRule) (yi := mX9_open) (as := [.int (40 : Int32)]) (st := []) (L2 := ([(65, text_size), (66, text_limitn1), (67, text_atn2), (769, course_rule_size), (771, course_rule_draftSize)], [(2, text_signs), (13, rule_codes), (14, rule_draft)], [])) dX7_readRule_3 ML_X7_24 Yv_X9_open rfl zW_1 rfl rfl (t_X9_open l _ hcl) (zsub_i (zle_c rfl (zle_c rfl (zle_c rfl zle_n))) zle_n zle_n) (zjok_i rfl rfl (zle_c rfl (zle_c rfl (zle_c rfl (zle_c rfl (zle_c rfl zle_n))))) rfl rfl (zle_c rfl (zle_c rfl (zle_c rfl zle_n))) rfl rfl zle_n) (Nat.le_of_ble_eq_true rfl) (Nat.le_of_ble_eq_true rfl) rfl rfl ?_
  refine zJ_aload_n dX7_readRule_6 rfl rfl ?_
  refine zJ_iconst dX7_readRule_7 zc_0 rfl ?_
  refine zK_puti (mi := mX7_readRule) (la' := [(65, text_size), (66, text_limitn1), (67, text_atn2), (769, course_rule_size), (771, (0 : Int32))]) zW_ok dX7_readRule_8 F_X7_30 P_7_3 zW_12 rfl rfl rfl ?_
  refine zJ_aload_n dX7_readRule_11 rfl rfl ?_
  obtain ⟨rn3, hcl, h⟩ := bd1_some h
  refine zJ_callV2 (σ := σ) (L := ([(65, text_size), (66, text_limitn1), (67, text_atn2), (769, course_rule_size), (771, (0 : Int32))], [(2, text_signs), (13, rule_codes), (14, rule_draft)], [])) (mi := mX7_readRule) (yi := mX9_isDone) (as := []) (st := []) (L2 := ([(65, text_size), (66, text_limitn1), (67, text_atn2), (769, course_rule_size), (771, (0 : Int32))], [(2, text_signs), (13, rule_codes), (14, rule_draft)], [])) dX7_readRule_12 ML_X7_34 Yv_X9_isDone rfl zW_1 rfl rfl (t_X9_isDone l _ hcl) (zsub_i (zle_c rfl (zle_c rfl zle_n)) zle_n zle_n) (zjok_i rfl rfl (zle_c rfl (zle_c rfl (zle_c rfl (zle_c rfl (zle_c rfl zle_n))))) rfl rfl (zle_c rfl (zle_c rfl (zle_c rfl zle_n))) rfl rfl zle_n) (Nat.le_of_ble_eq_true rfl) (Nat.le_of_ble_eq_true rfl) rfl rfl ?_
  have hj_X7_readRule_40 : ∀ (text_at_40j : Int32) (course_rule_draftSize_40j : Int32) (rule_draft_40j : (Nat → Int32)), j_X7_readRule_40 rule_codes text_limitn1 text_at_40j course_rule_draftSize_40j rule_draft_40j = some (r, w_text_limit, w_text_at, w_course_rule_size, w_course_rule_draftSize, w_rule_codes, w_rule_draft) → zJ l zW 210 mX7_readRule σ ([(65, text_size), (66, text_limitn1), (67, text_at_40j), (769, course_rule_size), (771, course_rule_draftSize_40j)], [(2, text_signs), (13, rule_codes), (14, rule_draft_40j)], []) 40 [(0, .ref 12)] [] (some (.int r)) ([(65, text_size), (66, w_text_limit), (67, w_text_at), (769, w_course_rule_size), (771, w_course_rule_draftSize)], [(2, text_signs), (13, w_rule_codes), (14, w_rule_draft)], []) := by
    intro text_at_40j course_rule_draftSize_40j rule_draft_40j h
    unfold j_X7_readRule_40 at h
    refine zJ_aload_n dX7_readRule_40 rfl rfl ?_
    refine zJ_getr (mi := mX7_readRule) dX7_readRule_41 F_X7_15 zW_12 rfl rfl ?_
    refine zJ_iconst dX7_readRule_44 zc_0 rfl ?_
    refine zJ_aload_n dX7_readRule_45 rfl rfl ?_
    refine zJ_getr (mi := mX7_readRule) dX7_readRule_46 F_X7_11 zW_12 rfl rfl ?_
    refine zJ_iconst dX7_readRule_49 zc_0 rfl ?_
    refine zJ_aload_n dX7_readRule_50 rfl rfl ?_
    refine zJ_geti (mi := mX7_readRule) (x := course_rule_draftSize_40j) dX7_readRule_51 F_X7_30 zW_12 rfl rfl rfl ?_
    obtain ⟨hg, h⟩ := gd_some h
    refine zK_copyi (mi := mX7_readRule) (f := rule_draft_40j) (g := rule_codes) (lb' := [(2, text_signs), (13, (va_cpy rule_draft_40j rule_codes (0 : Int32).toNatClampNeg (0 : Int32).toNatClampNeg course_rule_draftSize_40j.toNatClampNeg)), (14, rule_draft_40j)]) dX7_readRule_54 L_X7_46 K_cpy_n K_cpy_s K_sys zW_14 zW_13 rfl rfl (cpok_s hg) (Nat.le_of_ble_eq_true rfl) (Nat.le_of_ble_eq_true rfl) rfl rfl ?_
    refine zJ_aload_n dX7_readRule_57 rfl rfl ?_
    refine zJ_aload_n dX7_readRule_58 rfl rfl ?_
    refine zJ_geti (mi := mX7_readRule) (x := course_rule_draftSize_40j) dX7_readRule_59 F_X7_30 zW_12 rfl rfl rfl ?_
    refine zK_puti (mi := mX7_readRule) (la' := [(65, text_size), (66, text_limitn1), (67, text_at_40j), (769, course_rule_draftSize_40j), (771, course_rule_draftSize_40j)]) zW_ok dX7_readRule_62 F_X7_52 P_7_1 zW_12 rfl rfl rfl ?_
    refine zJ_iconst dX7_readRule_65 zc_0 rfl ?_
    obtain ⟨rfl, rfl, rfl, rfl, rfl, rfl, rfl⟩ := so7 h
    exact zJ_iret dX7_readRule_66 rfl rfl
  refine zJ_if_ne (tgt := 40) dX7_readRule_15 (by decide) rfl (fun hc => ?_) (fun hc => ?_)
  · replace h := it_f hc h
    refine zJ_loc (ls' := [(0, .ref 12)]) (zll_c rfl zll_n) ?_
    exact hj_X7_readRule_40 _ _ _ h
  · replace h := it_t hc h
    refine zJ_aload_n dX7_readRule_18 rfl rfl ?_
    refine zJ_aload_n dX7_readRule_19 rfl rfl ?_
    refine zJ_iconst dX7_readRule_20 zc_0 rfl ?_
    refine zJ_iconst dX7_readRule_21 zc_0 rfl ?_
    obtain ⟨rn4, text_atn5, course_rule_draftSizen6, rule_draftn7, hcl, h⟩ := bd4_some h
    refine zJ_callV2 (σ := σ) (L := ([(65, text_size), (66, text_limitn1), (67, text_atn2), (769, course_rule_size), (771, (0 : Int32))], [(2, text_signs), (13, rule_codes), (14, rule_draft)], [])) (mi := mX7_readRule) (yi := mX7_readLevel) (as := [.ref 1, .int (0 : Int32), .int (0 : Int32)]) (st := []) (L2 := ([(65, text_size), (66, text_limitn1), (67, text_atn5), (769, course_rule_size), (771, course_rule_draftSizen6)], [(2, text_signs), (13, rule_codes), (14, rule_draftn7)], [])) dX7_readRule_22 ML_X7_38 Yv_X7_readLevel rfl zW_12 rfl rfl (t_X7_readLevel l _ 200 hcl) (zsub_i (zle_c rfl (zle_c rfl (zle_c rfl zle_n))) (zle_c rfl (zle_c rfl zle_n)) zle_n) (zjok_i rfl rfl (zle_c rfl (zle_c rfl (zle_c rfl (zle_c rfl (zle_c rfl zle_n))))) rfl rfl (zle_c rfl (zle_c rfl (zle_c rfl zle_n))) rfl rfl zle_n) (Nat.le_of_ble_eq_true rfl) (Nat.le_of_ble_eq_true rfl) rfl rfl ?_
    refine zJ_if_eq (tgt := 35) dX7_readRule_25 (by decide) rfl (fun hc => ?_) (fun hc => ?_)
    · replace h := it_t hc h
      refine zJ_aload_n dX7_readRule_35 rfl rfl ?_
      obtain ⟨rn8, hcl, h⟩ := bd1_some h
      refine zJ_callV2 (σ := σ) (L := ([(65, text_size), (66, text_limitn1), (67, text_atn5), (769, course_rule_size), (771, course_rule_draftSizen6)], [(2, text_signs), (13, rule_codes), (14, rule_draftn7)], [])) (mi := mX7_readRule) (yi := mX9_fault) (as := []) (st := []) (L2 := ([(65, text_size), (66, text_limitn1), (67, text_atn5), (769, course_rule_size), (771, course_rule_draftSizen6)], [(2, text_signs), (13, rule_codes), (14, rule_draftn7)], [])) dX7_readRule_36 ML_X7_42 Yv_X9_fault rfl zW_1 rfl rfl (t_X9_fault l _ hcl) (zsub_i (zle_c rfl zle_n) zle_n zle_n) (zjok_i rfl rfl (zle_c rfl (zle_c rfl (zle_c rfl (zle_c rfl (zle_c rfl zle_n))))) rfl rfl (zle_c rfl (zle_c rfl (zle_c rfl zle_n))) rfl rfl zle_n) (Nat.le_of_ble_eq_true rfl) (Nat.le_of_ble_eq_true rfl) rfl rfl ?_
      obtain ⟨rfl, rfl, rfl, rfl, rfl, rfl, rfl⟩ := so7 h
      exact zJ_iret dX7_readRule_39 rfl rfl
    · replace h := it_f hc h
      refine zJ_aload_n dX7_readRule_28 rfl rfl ?_
      obtain ⟨rn9, hcl, h⟩ := bd1_some h
      refine zJ_callV2 (σ := σ) (L := ([(65, text_size), (66, text_limitn1), (67, text_atn5), (769, course_rule_size), (771, course_rule_draftSizen6)], [(2, text_signs), (13, rule_codes), (14, rule_draftn7)], [])) (mi := mX7_readRule) (yi := mX9_isDone) (as := []) (st := []) (L2 := ([(65, text_size), (66, text_limitn1), (67, text_atn5), (769, course_rule_size), (771, course_rule_draftSizen6)], [(2, text_signs), (13, rule_codes), (14, rule_draftn7)], [])) dX7_readRule_29 ML_X7_34 Yv_X9_isDone rfl zW_1 rfl rfl (t_X9_isDone l _ hcl) (zsub_i (zle_c rfl (zle_c rfl zle_n)) zle_n zle_n) (zjok_i rfl rfl (zle_c rfl (zle_c rfl (zle_c rfl (zle_c rfl (zle_c rfl zle_n))))) rfl rfl (zle_c rfl (zle_c rfl (zle_c rfl zle_n))) rfl rfl zle_n) (Nat.le_of_ble_eq_true rfl) (Nat.le_of_ble_eq_true rfl) rfl rfl ?_
      refine zJ_if_ne (tgt := 40) dX7_readRule_32 (by decide) rfl (fun hc => ?_) (fun hc => ?_)
      · replace h := it_f hc h
        refine zJ_loc (ls' := [(0, .ref 12)]) (zll_c rfl zll_n) ?_
        exact hj_X7_readRule_40 _ _ _ h
      · replace h := it_t hc h
        refine zJ_aload_n dX7_readRule_35 rfl rfl ?_
        obtain ⟨rn10, hcl, h⟩ := bd1_some h
        refine zJ_callV2 (σ := σ) (L := ([(65, text_size), (66, text_limitn1), (67, text_atn5), (769, course_rule_size), (771, course_rule_draftSizen6)], [(2, text_signs), (13, rule_codes), (14, rule_draftn7)], [])) (mi := mX7_readRule) (yi := mX9_fault) (as := []) (st := []) (L2 := ([(65, text_size), (66, text_limitn1), (67, text_atn5), (769, course_rule_size), (771, course_rule_draftSizen6)], [(2, text_signs), (13, rule_codes), (14, rule_draftn7)], [])) dX7_readRule_36 ML_X7_42 Yv_X9_fault rfl zW_1 rfl rfl (t_X9_fault l _ hcl) (zsub_i (zle_c rfl zle_n) zle_n zle_n) (zjok_i rfl rfl (zle_c rfl (zle_c rfl (zle_c rfl (zle_c rfl (zle_c rfl zle_n))))) rfl rfl (zle_c rfl (zle_c rfl (zle_c rfl zle_n))) rfl rfl zle_n) (Nat.le_of_ble_eq_true rfl) (Nat.le_of_ble_eq_true rfl) rfl rfl ?_
        obtain ⟨rfl, rfl, rfl, rfl, rfl, rfl, rfl⟩ := so7 h
        exact zJ_iret dX7_readRule_39 rfl rfl
set_option maxRecDepth 100000 in
set_option maxHeartbeats 4000000 in
theorem t_X11_rule (l : Launch) (σ : zS) {text_size : Int32} {text_limit : Int32} {text_at : Int32} {course_rule_size : Int32} {course_rule_draftSize : Int32} {text_signs : (Nat → Int32)} {rule_codes : (Nat → Int32)} {rule_draft : (Nat → Int32)} {r : Int32} {w_text_size : Int32} {w_text_limit : Int32} {w_text_at : Int32} {w_course_rule_size : Int32} {w_course_rule_draftSize : Int32} {w_rule_codes : (Nat → Int32)} {w_rule_draft : (Nat → Int32)} (h : f_X11_rule text_size text_limit text_at course_rule_size course_rule_draftSize text_signs rule_codes rule_draft = some (r, w_text_size, w_text_limit, w_text_at, w_course_rule_size, w_course_rule_draftSize, w_rule_codes, w_rule_draft)) : zMt l zW 211 mX11_rule σ ([(65, text_size), (66, text_limit), (67, text_at), (769, course_rule_size), (771, course_rule_draftSize)], [(2, text_signs), (13, rule_codes), (14, rule_draft)], []) [.ref 0] (some (.int r)) ([(65, w_text_size), (66, w_text_limit), (67, w_text_at), (769, w_course_rule_size), (771, w_course_rule_draftSize)], [(2, text_signs), (13, w_rule_codes), (14, w_rule_draft)], []) := by
  refine zMt_of (ls := [(0, .ref 0)]) (by decide) rfl (fun _ => Nat.le_of_ble_eq_true rfl) rfl ?_
  unfold f_X11_rule at h
  refine zJ_aload_n dX11_rule_0 rfl rfl ?_
  refine zJ_getr (mi := mX11_rule) dX11_rule_1 F_X11_26 zW_0 rfl rfl ?_
  refine zJ_getr (mi := mX11_rule) dX11_rule_4 F_X11_120 zW_5 rfl rfl ?_
  refine zJ_aload_n dX11_rule_7 rfl rfl ?_
  refine zJ_getr (mi := mX11_rule) dX11_rule_8 F_X11_10 zW_0 rfl rfl ?_
  obtain ⟨rn1, text_limitn2, text_atn3, course_rule_sizen4, course_rule_draftSizen5, rule_codesn6, rule_draftn7, hcl, h⟩ := bd7_some h
  refine zJ_callV2 (σ := σ) (L := ([(65, text_size), (66, text_limit), (67, text_at), (769, course_rule_size), (771, course_rule_draftSize)], [(2, text_signs), (13, rule_codes), (14, rule_draft)], [])) (mi := mX11_rule) (yi := mX7_readRule) (as := [.ref 1]) (st := []) (L2 := ([(65, text_size), (66, text_limitn2), (67, text_atn3), (769, course_rule_sizen4), (771, course_rule_draftSizen5)], [(2, text_signs), (13, rule_codesn6), (14, rule_draftn7)], [])) dX11_rule_11 ML_X11_124 Yv_X7_readRule rfl zW_12 rfl rfl (t_X7_readRule l _ hcl) (zsub_i (zle_c rfl (zle_c rfl (zle_c rfl (zle_c rfl (zle_c rfl zle_n))))) (zle_c rfl (zle_c rfl (zle_c rfl zle_n))) zle_n) (zjok_i rfl rfl (zle_c rfl (zle_c rfl (zle_c rfl (zle_c rfl (zle_c rfl zle_n))))) rfl rfl (zle_c rfl (zle_c rfl (zle_c rfl zle_n))) rfl rfl zle_n) (Nat.le_of_ble_eq_true rfl) (Nat.le_of_ble_eq_true rfl) rfl rfl ?_
  refine zJ_istore_n (ls' := [(1, .int rn1), (0, .ref 0)]) dX11_rule_14 rfl rfl rfl ?_
  refine zJ_aload_n dX11_rule_15 rfl rfl ?_
  refine zJ_getr (mi := mX11_rule) dX11_rule_16 F_X11_10 zW_0 rfl rfl ?_
  obtain ⟨text_sizen8, hcl, h⟩ := bd1_some h
  refine zJ_callV2 (σ := σ) (L := ([(65, text_size), (66, text_limitn2), (67, text_atn3), (769, course_rule_sizen4), (771, course_rule_draftSizen5)], [(2, text_signs), (13, rule_codesn6), (14, rule_draftn7)], [])) (mi := mX11_rule) (yi := mX9_clear) (as := []) (st := []) (L2 := ([(65, text_sizen8), (66, text_limitn2), (67, text_atn3), (769, course_rule_sizen4), (771, course_rule_draftSizen5)], [(2, text_signs), (13, rule_codesn6), (14, rule_draftn7)], [])) dX11_rule_19 ML_X11_104 Yv_X9_clear rfl zW_1 rfl rfl (t_X9_clear l _ hcl) (zsub_i (zle_c rfl zle_n) zle_n zle_n) (zjok_i rfl rfl (zle_c rfl (zle_c rfl (zle_c rfl (zle_c rfl (zle_c rfl zle_n))))) rfl rfl (zle_c rfl (zle_c rfl (zle_c rfl zle_n))) rfl rfl zle_n) (Nat.le_of_ble_eq_true rfl) (Nat.le_of_ble_eq_true rfl) rfl rfl ?_
  refine zJ_iload_n dX11_rule_22 rfl rfl ?_
  obtain ⟨rfl, rfl, rfl, rfl, rfl, rfl, rfl, rfl⟩ := so8 h
  exact zJ_iret dX11_rule_23 rfl rfl
set_option maxRecDepth 100000 in
set_option maxHeartbeats 4000000 in
theorem t_X11_share (l : Launch) (σ : zS) {p1 : Int32} {text_size : Int32} {text_limit : Int32} {text_at : Int32} {numbers_size : Int32} {course_fences : Int32} {course_horseCount : Int32} {course_planCount : Int32} {course_allowed : Int32} {course_rule_size : Int32} {rounds_size : Int32} {play_players : Int32} {play_plans : Int32} {play_firstPlan : Int32} {text_signs : (Nat → Int32)} {course_kinds : (Nat → Int32)} {course_heights : (Nat → Int32)} {course_feet : (Nat → Int32)} {course_digits : (Nat → Int32)} {course_plans : (Nat → Int32)} {rule_codes : (Nat → Int32)} {rule_stack : (Nat → Int32)} {rule_things : (Nat → Int32)} {rounds_faults : (Nat → Int32)} {rounds_tenths : (Nat → Int32)} {rounds_money : (Nat → Int32)} {play_named : (Nat → Int32)} {play_faults : (Nat → Int32)} {play_tenths : (Nat → Int32)} {play_places : (Nat → Int32)} {play_clears : (Nat → Int32)} {play_ends : (Nat → Int32)} {numbers_told : (Nat → Int64)} {play_worth : (Nat → Int64)} {play_trial : (Nat → Int64)} {r : Int32} {w_text_size : Int32} {w_text_limit : Int32} {w_text_at : Int32} {w_numbers_size : Int32} {w_play_players : Int32} {w_play_plans : Int32} {w_play_firstPlan : Int32} {w_rule_stack : (Nat → Int32)} {w_rule_things : (Nat → Int32)} {w_play_named : (Nat → Int32)} {w_play_faults : (Nat → Int32)} {w_play_tenths : (Nat → Int32)} {w_play_places : (Nat → Int32)} {w_play_clears : (Nat → Int32)} {w_play_ends : (Nat → Int32)} {w_numbers_told : (Nat → Int64)} {w_play_worth : (Nat → Int64)} {w_play_trial : (Nat → Int64)} (h : f_X11_share p1 text_size text_limit text_at numbers_size course_fences course_horseCount course_planCount course_allowed course_rule_size rounds_size play_players play_plans play_firstPlan text_signs course_kinds course_heights course_feet course_digits course_plans rule_codes rule_stack rule_things rounds_faults rounds_tenths rounds_money play_named play_faults play_tenths play_places play_clears play_ends numbers_told play_worth play_trial = some (r, w_text_size, w_text_limit, w_text_at, w_numbers_size, w_play_players, w_play_plans, w_play_firstPlan, w_rule_stack, w_rule_things, w_play_named, w_play_faults, w_play_tenths, w_play_places, w_play_clears, w_play_ends, w_numbers_told, w_play_worth, w_play_trial)) : zMt l zW 204 mX11_share σ ([(65, text_size), (66, text_limit), (67, text_at), (193, numbers_size), (323, course_fences), (326, course_horseCount), (328, course_planCount), (329, course_allowed), (769, course_rule_size), (1284, rounds_size), (2497, play_players), (2498, play_plans), (2499, play_firstPlan)], [(2, text_signs), (6, course_kinds), (7, course_heights), (8, course_feet), (10, course_digits), (11, course_plans), (13, rule_codes), (15, rule_stack), (16, rule_things), (23, rounds_faults), (24, rounds_tenths), (25, rounds_money), (40, play_named), (41, play_faults), (42, play_tenths), (43, play_places), (44, play_clears), (45, play_ends)], [(4, numbers_told), (46, play_worth), (47, play_trial)]) [.ref 0, .int p1] (some (.int r)) ([(65, w_text_size), (66, w_text_limit), (67, w_text_at), (193, w_numbers_size), (323, course_fences), (326, course_horseCount), (328, course_planCount), (329, course_allowed), (769, course_rule_size), (1284, rounds_size), (2497, w_play_players), (2498, w_play_plans), (2499, w_play_firstPlan)], [(2, text_signs), (6, course_kinds), (7, course_heights), (8, course_feet), (10, course_digits), (11, course_plans), (13, rule_codes), (15, w_rule_stack), (16, w_rule_things), (23, rounds_faults), (24, rounds_tenths), (25, rounds_money), (40, w_play_named), (41, w_play_faults), (42, w_play_tenths), (43, w_play_places), (44, w_play_clears), (45, w_play_ends)], [(4, w_numbers_told), (46, w_play_worth), (47, w_play_trial)]) := by
  refine zMt_of (ls := [(0, .ref 0), (1, .int p1)]) (by decide) rfl (fun _ => Nat.le_of_ble_eq_true rfl) rfl ?_
  unfold f_X11_share at h
  refine zJ_aload_n dX11_share_0 rfl rfl ?_
  refine zJ_getr (mi := mX11_share) dX11_share_1 F_X11_26 zW_0 rfl rfl ?_
  refine zJ_geti (mi := mX11_share) (x := course_planCount) dX11_share_4 F_X11_362 zW_5 rfl rfl rfl ?_
  have hj_X11_share_31 : ∀ (text_size_31j : Int32), j_X11_share_31 p1 text_limit text_at numbers_size course_fences course_horseCount course_planCount course_allowed course_rule_size rounds_size play_players play_plans play_firstPlan text_signs course_kinds course_heights course_feet course_digits course_plans rule_codes rule_stack rule_things rounds_faults rounds_tenths rounds_money play_named play_faults play_tenths play_places play_clears play_ends numbers_told play_worth play_trial text_size_31j = some (r, w_text_size, w_text_limit, w_text_at, w_numbers_size, w_play_players, w_play_plans, w_play_firstPlan, w_rule_stack, w_rule_things, w_play_named, w_play_faults, w_play_tenths, w_play_places, w_play_clears, w_play_ends, w_numbers_told, w_play_worth, w_play_trial) → zJ l zW 204 mX11_share σ ([(65, text_size_31j), (66, text_limit), (67, text_at), (193, numbers_size), (323, course_fences), (326, course_horseCount), (328, course_planCount), (329, course_allowed), (769, course_rule_size), (1284, rounds_size), (2497, play_players), (2498, play_plans), (2499, play_firstPlan)], [(2, text_signs), (6, course_kinds), (7, course_heights), (8, course_feet), (10, course_digits), (11, course_plans), (13, rule_codes), (15, rule_stack), (16, rule_things), (23, rounds_faults), (24, rounds_tenths), (25, rounds_money), (40, play_named), (41, play_faults), (42, play_tenths), (43, play_places), (44, play_clears), (45, play_ends)], [(4, numbers_told), (46, play_worth), (47, play_trial)]) 31 [(0, .ref 0), (1, .int p1)] [] (some (.int r)) ([(65, w_text_size), (66, w_text_limit), (67, w_text_at), (193, w_numbers_size), (323, course_fences), (326, course_horseCount), (328, course_planCount), (329, course_allowed), (769, course_rule_size), (1284, rounds_size), (2497, w_play_players), (2498, w_play_plans), (2499, w_play_firstPlan)], [(2, text_signs), (6, course_kinds), (7, course_heights), (8, course_feet), (10, course_digits), (11, course_plans), (13, rule_codes), (15, w_rule_stack), (16, w_rule_things), (23, rounds_faults), (24, rounds_tenths), (25, rounds_money), (40, w_play_named), (41, w_play_faults), (42, w_play_tenths), (43, w_play_places), (44, w_play_clears), (45, w_play_ends)], [(4, w_numbers_told), (46, w_play_worth), (47, w_play_trial)]) := by
    intro text_size_31j h
    unfold j_X11_share_31 at h
    refine zJ_aload_n dX11_share_31 rfl rfl ?_
    refine zJ_iconst dX11_share_32 zc_2 rfl ?_
    refine zJ_iconst dX11_share_33 zc_2 rfl ?_
    obtain ⟨rn1, text_sizen2, text_limitn3, text_atn4, play_playersn5, play_namedn6, hcl, h⟩ := bd6_some h
    refine zJ_callV2 (σ := σ) (L := ([(65, text_size_31j), (66, text_limit), (67, text_at), (193, numbers_size), (323, course_fences), (326, course_horseCount), (328, course_planCount), (329, course_allowed), (769, course_rule_size), (1284, rounds_size), (2497, play_players), (2498, play_plans), (2499, play_firstPlan)], [(2, text_signs), (6, course_kinds), (7, course_heights), (8, course_feet), (10, course_digits), (11, course_plans), (13, rule_codes), (15, rule_stack), (16, rule_things), (23, rounds_faults), (24, rounds_tenths), (25, rounds_money), (40, play_named), (41, play_faults), (42, play_tenths), (43, play_places), (44, play_clears), (45, play_ends)], [(4, numbers_told), (46, play_worth), (47, play_trial)])) (mi := mX11_share) (yi := mX11_readPlayers) (as := [.int (2 : Int32), .int (2 : Int32)]) (st := []) (L2 := ([(65, text_sizen2), (66, text_limitn3), (67, text_atn4), (193, numbers_size), (323, course_fences), (326, course_horseCount), (328, course_planCount), (329, course_allowed), (769, course_rule_size), (1284, rounds_size), (2497, play_playersn5), (2498, play_plans), (2499, play_firstPlan)], [(2, text_signs), (6, course_kinds), (7, course_heights), (8, course_feet), (10, course_digits), (11, course_plans), (13, rule_codes), (15, rule_stack), (16, rule_things), (23, rounds_faults), (24, rounds_tenths), (25, rounds_money), (40, play_namedn6), (41, play_faults), (42, play_tenths), (43, play_places), (44, play_clears), (45, play_ends)], [(4, numbers_told), (46, play_worth), (47, play_trial)])) dX11_share_34 ML_X11_371 Yv_X11_readPlayers rfl zW_0 rfl rfl (t_X11_readPlayers l _ hcl) (zsub_i (zle_c rfl (zle_c rfl (zle_c rfl (zle_c rfl (zle_c rfl (zle_c rfl zle_n)))))) (zle_c rfl (zle_c rfl zle_n)) zle_n) (zjok_i rfl rfl (zle_c rfl (zle_c rfl (zle_c rfl (zle_c rfl (zle_c rfl (zle_c rfl (zle_c rfl (zle_c rfl (zle_c rfl (zle_c rfl (zle_c rfl (zle_c rfl (zle_c rfl zle_n))))))))))))) rfl rfl (zle_c rfl (zle_c rfl (zle_c rfl (zle_c rfl (zle_c rfl (zle_c rfl (zle_c rfl (zle_c rfl (zle_c rfl (zle_c rfl (zle_c rfl (zle_c rfl (zle_c rfl (zle_c rfl (zle_c rfl (zle_c rfl (zle_c rfl (zle_c rfl zle_n)))))))))))))))))) rfl rfl (zle_c rfl (zle_c rfl (zle_c rfl zle_n)))) (Nat.le_of_ble_eq_true rfl) (Nat.le_of_ble_eq_true rfl) rfl rfl ?_
    refine zJ_istore_n (ls' := [(2, .int rn1), (0, .ref 0), (1, .int p1)]) dX11_share_37 rfl rfl rfl ?_
    refine zJ_iload_n dX11_share_38 rfl rfl ?_
    refine zJ_if_ge (tgt := 44) dX11_share_39 (by decide) rfl (fun hc => ?_) (fun hc => ?_)
    · replace h := it_t hc h
      refine zJ_aload_n dX11_share_44 rfl rfl ?_
      refine zJ_getr (mi := mX11_share) dX11_share_45 F_X11_66 zW_0 rfl rfl ?_
      refine zJ_aload_n dX11_share_48 rfl rfl ?_
      refine zJ_getr (mi := mX11_share) dX11_share_49 F_X11_26 zW_0 rfl rfl ?_
      refine zJ_aload_n dX11_share_52 rfl rfl ?_
      refine zJ_getr (mi := mX11_share) dX11_share_53 F_X11_33 zW_0 rfl rfl ?_
      obtain ⟨play_plansn7, play_faultsn8, play_tenthsn9, play_placesn10, hcl, h⟩ := bd4_some h
      refine zJ_callV2 (σ := σ) (L := ([(65, text_sizen2), (66, text_limitn3), (67, text_atn4), (193, numbers_size), (323, course_fences), (326, course_horseCount), (328, course_planCount), (329, course_allowed), (769, course_rule_size), (1284, rounds_size), (2497, play_playersn5), (2498, play_plans), (2499, play_firstPlan)], [(2, text_signs), (6, course_kinds), (7, course_heights), (8, course_feet), (10, course_digits), (11, course_plans), (13, rule_codes), (15, rule_stack), (16, rule_things), (23, rounds_faults), (24, rounds_tenths), (25, rounds_money), (40, play_namedn6), (41, play_faults), (42, play_tenths), (43, play_places), (44, play_clears), (45, play_ends)], [(4, numbers_told), (46, play_worth), (47, play_trial)])) (mi := mX11_share) (yi := mX3_begin) (as := [.ref 5, .ref 20]) (st := []) (L2 := ([(65, text_sizen2), (66, text_limitn3), (67, text_atn4), (193, numbers_size), (323, course_fences), (326, course_horseCount), (328, course_planCount), (329, course_allowed), (769, course_rule_size), (1284, rounds_size), (2497, play_playersn5), (2498, play_plansn7), (2499, play_firstPlan)], [(2, text_signs), (6, course_kinds), (7, course_heights), (8, course_feet), (10, course_digits), (11, course_plans), (13, rule_codes), (15, rule_stack), (16, rule_things), (23, rounds_faults), (24, rounds_tenths), (25, rounds_money), (40, play_namedn6), (41, play_faultsn8), (42, play_tenthsn9), (43, play_placesn10), (44, play_clears), (45, play_ends)], [(4, numbers_told), (46, play_worth), (47, play_trial)])) dX11_share_56 ML_X11_374 Yv_X3_begin rfl zW_39 rfl rfl (t_X3_begin l _ hcl) (zsub_i (zle_c rfl (zle_c rfl (zle_c rfl (zle_c rfl (zle_c rfl zle_n))))) (zle_c rfl (zle_c rfl (zle_c rfl (zle_c rfl (zle_c rfl (zle_c rfl (zle_c rfl (zle_c rfl zle_n)))))))) zle_n) (zjok_i rfl rfl (zle_c rfl (zle_c rfl (zle_c rfl (zle_c rfl (zle_c rfl (zle_c rfl (zle_c rfl (zle_c rfl (zle_c rfl (zle_c rfl (zle_c rfl (zle_c rfl (zle_c rfl zle_n))))))))))))) rfl rfl (zle_c rfl (zle_c rfl (zle_c rfl (zle_c rfl (zle_c rfl (zle_c rfl (zle_c rfl (zle_c rfl (zle_c rfl (zle_c rfl (zle_c rfl (zle_c rfl (zle_c rfl (zle_c rfl (zle_c rfl (zle_c rfl (zle_c rfl (zle_c rfl zle_n)))))))))))))))))) rfl rfl (zle_c rfl (zle_c rfl (zle_c rfl zle_n)))) (Nat.le_of_ble_eq_true rfl) (Nat.le_of_ble_eq_true rfl) rfl rfl ?_
      refine zJ_aload_n dX11_share_59 rfl rfl ?_
      refine zJ_getr (mi := mX11_share) dX11_share_60 F_X11_66 zW_0 rfl rfl ?_
      refine zJ_aload_n dX11_share_63 rfl rfl ?_
      refine zJ_getr (mi := mX11_share) dX11_share_64 F_X11_26 zW_0 rfl rfl ?_
      refine zJ_aload_n dX11_share_67 rfl rfl ?_
      refine zJ_getr (mi := mX11_share) dX11_share_68 F_X11_33 zW_0 rfl rfl ?_
      refine zJ_iconst dX11_share_71 zc_0 rfl ?_
      obtain ⟨play_firstPlann11, rule_stackn12, rule_thingsn13, play_clearsn14, play_endsn15, play_worthn16, play_trialn17, hcl, h⟩ := bd7_some h
      refine zJ_callV2 (σ := σ) (L := ([(65, text_sizen2), (66, text_limitn3), (67, text_atn4), (193, numbers_size), (323, course_fences), (326, course_horseCount), (328, course_planCount), (329, course_allowed), (769, course_rule_size), (1284, rounds_size), (2497, play_playersn5), (2498, play_plansn7), (2499, play_firstPlan)], [(2, text_signs), (6, course_kinds), (7, course_heights), (8, course_feet), (10, course_digits), (11, course_plans), (13, rule_codes), (15, rule_stack), (16, rule_things), (23, rounds_faults), (24, rounds_tenths), (25, rounds_money), (40, play_namedn6), (41, play_faultsn8), (42, play_tenthsn9), (43, play_placesn10), (44, play_clears), (45, play_ends)], [(4, numbers_told), (46, play_worth), (47, play_trial)])) (mi := mX11_share) (yi := mX3_start) (as := [.ref 5, .ref 20, .int (0 : Int32)]) (st := []) (L2 := ([(65, text_sizen2), (66, text_limitn3), (67, text_atn4), (193, numbers_size), (323, course_fences), (326, course_horseCount), (328, course_planCount), (329, course_allowed), (769, course_rule_size), (1284, rounds_size), (2497, play_playersn5), (2498, play_plansn7), (2499, play_firstPlann11)], [(2, text_signs), (6, course_kinds), (7, course_heights), (8, course_feet), (10, course_digits), (11, course_plans), (13, rule_codes), (15, rule_stackn12), (16, rule_thingsn13), (23, rounds_faults), (24, rounds_tenths), (25, rounds_money), (40, play_namedn6), (41, play_faultsn8), (42, play_tenthsn9), (43, play_placesn10), (44, play_clearsn14), (45, play_endsn15)], [(4, numbers_told), (46, play_worthn16), (47, play_trialn17)])) dX11_share_72 ML_X11_378 Yv_X3_start rfl zW_39 rfl rfl (t_X3_start l _ hcl) (zsub_i (zle_c rfl (zle_c rfl (zle_c rfl (zle_c rfl (zle_c rfl zle_n))))) (zle_c rfl (zle_c rfl (zle_c rfl (zle_c rfl (zle_c rfl (zle_c rfl (zle_c rfl (zle_c rfl (zle_c rfl (zle_c rfl (zle_c rfl (zle_c rfl (zle_c rfl (zle_c rfl (zle_c rfl zle_n))))))))))))))) (zle_c rfl (zle_c rfl zle_n))) (zjok_i rfl rfl (zle_c rfl (zle_c rfl (zle_c rfl (zle_c rfl (zle_c rfl (zle_c rfl (zle_c rfl (zle_c rfl (zle_c rfl (zle_c rfl (zle_c rfl (zle_c rfl (zle_c rfl zle_n))))))))))))) rfl rfl (zle_c rfl (zle_c rfl (zle_c rfl (zle_c rfl (zle_c rfl (zle_c rfl (zle_c rfl (zle_c rfl (zle_c rfl (zle_c rfl (zle_c rfl (zle_c rfl (zle_c rfl (zle_c rfl (zle_c rfl (zle_c rfl (zle_c rfl (zle_c rfl zle_n)))))))))))))))))) rfl rfl (zle_c rfl (zle_c rfl (zle_c rfl zle_n)))) (Nat.le_of_ble_eq_true rfl) (Nat.le_of_ble_eq_true rfl) rfl rfl ?_
      refine zJ_aload_n dX11_share_75 rfl rfl ?_
      refine zJ_getr (mi := mX11_share) dX11_share_76 F_X11_33 zW_0 rfl rfl ?_
      refine zJ_iload_n dX11_share_79 rfl rfl ?_
      obtain ⟨rn18, hcl, h⟩ := bd1_some h
      refine zJ_callV2 (σ := σ) (L := ([(65, text_sizen2), (66, text_limitn3), (67, text_atn4), (193, numbers_size), (323, course_fences), (326, course_horseCount), (328, course_planCount), (329, course_allowed), (769, course_rule_size), (1284, rounds_size), (2497, play_playersn5), (2498, play_plansn7), (2499, play_firstPlann11)], [(2, text_signs), (6, course_kinds), (7, course_heights), (8, course_feet), (10, course_digits), (11, course_plans), (13, rule_codes), (15, rule_stackn12), (16, rule_thingsn13), (23, rounds_faults), (24, rounds_tenths), (25, rounds_money), (40, play_namedn6), (41, play_faultsn8), (42, play_tenthsn9), (43, play_placesn10), (44, play_clearsn14), (45, play_endsn15)], [(4, numbers_told), (46, play_worthn16), (47, play_trialn17)])) (mi := mX11_share) (yi := mX10_moneyAt) (as := [.int p1]) (st := []) (L2 := ([(65, text_sizen2), (66, text_limitn3), (67, text_atn4), (193, numbers_size), (323, course_fences), (326, course_horseCount), (328, course_planCount), (329, course_allowed), (769, course_rule_size), (1284, rounds_size), (2497, play_playersn5), (2498, play_plansn7), (2499, play_firstPlann11)], [(2, text_signs), (6, course_kinds), (7, course_heights), (8, course_feet), (10, course_digits), (11, course_plans), (13, rule_codes), (15, rule_stackn12), (16, rule_thingsn13), (23, rounds_faults), (24, rounds_tenths), (25, rounds_money), (40, play_namedn6), (41, play_faultsn8), (42, play_tenthsn9), (43, play_placesn10), (44, play_clearsn14), (45, play_endsn15)], [(4, numbers_told), (46, play_worthn16), (47, play_trialn17)])) dX11_share_80 ML_X11_343 Yv_X10_moneyAt rfl zW_20 rfl rfl (t_X10_moneyAt l _ hcl) (zsub_i zle_n (zle_c rfl zle_n) zle_n) (zjok_i rfl rfl (zle_c rfl (zle_c rfl (zle_c rfl (zle_c rfl (zle_c rfl (zle_c rfl (zle_c rfl (zle_c rfl (zle_c rfl (zle_c rfl (zle_c rfl (zle_c rfl (zle_c rfl zle_n))))))))))))) rfl rfl (zle_c rfl (zle_c rfl (zle_c rfl (zle_c rfl (zle_c rfl (zle_c rfl (zle_c rfl (zle_c rfl (zle_c rfl (zle_c rfl (zle_c rfl (zle_c rfl (zle_c rfl (zle_c rfl (zle_c rfl (zle_c rfl (zle_c rfl (zle_c rfl zle_n)))))))))))))))))) rfl rfl (zle_c rfl (zle_c rfl (zle_c rfl zle_n)))) (Nat.le_of_ble_eq_true rfl) (Nat.le_of_ble_eq_true rfl) rfl rfl ?_
      refine zJ_aload_n dX11_share_83 rfl rfl ?_
      refine zJ_getr (mi := mX11_share) dX11_share_84 F_X11_33 zW_0 rfl rfl ?_
      refine zJ_iload_n dX11_share_87 rfl rfl ?_
      refine zJ_iconst dX11_share_88 zc_1 rfl ?_
      refine zJ_iadd dX11_share_89 rfl ?_
      obtain ⟨rn19, hcl, h⟩ := bd1_some h
      refine zJ_callV2 (σ := σ) (L := ([(65, text_sizen2), (66, text_limitn3), (67, text_atn4), (193, numbers_size), (323, course_fences), (326, course_horseCount), (328, course_planCount), (329, course_allowed), (769, course_rule_size), (1284, rounds_size), (2497, play_playersn5), (2498, play_plansn7), (2499, play_firstPlann11)], [(2, text_signs), (6, course_kinds), (7, course_heights), (8, course_feet), (10, course_digits), (11, course_plans), (13, rule_codes), (15, rule_stackn12), (16, rule_thingsn13), (23, rounds_faults), (24, rounds_tenths), (25, rounds_money), (40, play_namedn6), (41, play_faultsn8), (42, play_tenthsn9), (43, play_placesn10), (44, play_clearsn14), (45, play_endsn15)], [(4, numbers_told), (46, play_worthn16), (47, play_trialn17)])) (mi := mX11_share) (yi := mX10_moneyAt) (as := [.int (p1 + (1 : Int32))]) (st := [.int rn18]) (L2 := ([(65, text_sizen2), (66, text_limitn3), (67, text_atn4), (193, numbers_size), (323, course_fences), (326, course_horseCount), (328, course_planCount), (329, course_allowed), (769, course_rule_size), (1284, rounds_size), (2497, play_playersn5), (2498, play_plansn7), (2499, play_firstPlann11)], [(2, text_signs), (6, course_kinds), (7, course_heights), (8, course_feet), (10, course_digits), (11, course_plans), (13, rule_codes), (15, rule_stackn12), (16, rule_thingsn13), (23, rounds_faults), (24, rounds_tenths), (25, rounds_money), (40, play_namedn6), (41, play_faultsn8), (42, play_tenthsn9), (43, play_placesn10), (44, play_clearsn14), (45, play_endsn15)], [(4, numbers_told), (46, play_worthn16), (47, play_trialn17)])) dX11_share_90 ML_X11_343 Yv_X10_moneyAt rfl zW_20 rfl rfl (t_X10_moneyAt l _ hcl) (zsub_i zle_n (zle_c rfl zle_n) zle_n) (zjok_i rfl rfl (zle_c rfl (zle_c rfl (zle_c rfl (zle_c rfl (zle_c rfl (zle_c rfl (zle_c rfl (zle_c rfl (zle_c rfl (zle_c rfl (zle_c rfl (zle_c rfl (zle_c rfl zle_n))))))))))))) rfl rfl (zle_c rfl (zle_c rfl (zle_c rfl (zle_c rfl (zle_c rfl (zle_c rfl (zle_c rfl (zle_c rfl (zle_c rfl (zle_c rfl (zle_c rfl (zle_c rfl (zle_c rfl (zle_c rfl (zle_c rfl (zle_c rfl (zle_c rfl (zle_c rfl zle_n)))))))))))))))))) rfl rfl (zle_c rfl (zle_c rfl (zle_c rfl zle_n)))) (Nat.le_of_ble_eq_true rfl) (Nat.le_of_ble_eq_true rfl) rfl rfl ?_
      refine zJ_iadd dX11_share_93 rfl ?_
      obtain ⟨v3n20, ev3n20, h⟩ := lt1_some h
      refine zJ_nmi ev3n20 ?_
      refine zJ_istore_n (ls' := [(3, .int v3n20), (2, .int rn1), (0, .ref 0), (1, .int p1)]) dX11_share_94 rfl rfl rfl ?_
      refine zJ_aload_n dX11_share_95 rfl rfl ?_
      refine zJ_getr (mi := mX11_share) dX11_share_96 F_X11_19 zW_0 rfl rfl ?_
      obtain ⟨numbers_sizen21, hcl, h⟩ := bd1_some h
      refine zJ_callV2 (σ := σ) (L := ([(65, text_sizen2), (66, text_limitn3), (67, text_atn4), (193, numbers_size), (323, course_fences), (326, course_horseCount), (328, course_planCount), (329, course_allowed), (769, course_rule_size), (1284, rounds_size), (2497, play_playersn5), (2498, play_plansn7), (2499, play_firstPlann11)], [(2, text_signs), (6, course_kinds), (7, course_heights), (8, course_feet), (10, course_digits), (11, course_plans), (13, rule_codes), (15, rule_stackn12), (16, rule_thingsn13), (23, rounds_faults), (24, rounds_tenths), (25, rounds_money), (40, play_namedn6), (41, play_faultsn8), (42, play_tenthsn9), (43, play_placesn10), (44, play_clearsn14), (45, play_endsn15)], [(4, numbers_told), (46, play_worthn16), (47, play_trialn17)])) (mi := mX11_share) (yi := mX6_start) (as := []) (st := []) (L2 := ([(65, text_sizen2), (66, text_limitn3), (67, text_atn4), (193, numbers_sizen21), (323, course_fences), (326, course_horseCount), (328, course_planCount), (329, course_allowed), (769, course_rule_size), (1284, rounds_size), (2497, play_playersn5), (2498, play_plansn7), (2499, play_firstPlann11)], [(2, text_signs), (6, course_kinds), (7, course_heights), (8, course_feet), (10, course_digits), (11, course_plans), (13, rule_codes), (15, rule_stackn12), (16, rule_thingsn13), (23, rounds_faults), (24, rounds_tenths), (25, rounds_money), (40, play_namedn6), (41, play_faultsn8), (42, play_tenthsn9), (43, play_placesn10), (44, play_clearsn14), (45, play_endsn15)], [(4, numbers_told), (46, play_worthn16), (47, play_trialn17)])) dX11_share_99 ML_X11_171 Yv_X6_start rfl zW_3 rfl rfl (t_X6_start l _ hcl) (zsub_i (zle_c rfl zle_n) zle_n zle_n) (zjok_i rfl rfl (zle_c rfl (zle_c rfl (zle_c rfl (zle_c rfl (zle_c rfl (zle_c rfl (zle_c rfl (zle_c rfl (zle_c rfl (zle_c rfl (zle_c rfl (zle_c rfl (zle_c rfl zle_n))))))))))))) rfl rfl (zle_c rfl (zle_c rfl (zle_c rfl (zle_c rfl (zle_c rfl (zle_c rfl (zle_c rfl (zle_c rfl (zle_c rfl (zle_c rfl (zle_c rfl (zle_c rfl (zle_c rfl (zle_c rfl (zle_c rfl (zle_c rfl (zle_c rfl (zle_c rfl zle_n)))))))))))))))))) rfl rfl (zle_c rfl (zle_c rfl (zle_c rfl zle_n)))) (Nat.le_of_ble_eq_true rfl) (Nat.le_of_ble_eq_true rfl) rfl rfl ?_
      refine zJ_aload_n dX11_share_102 rfl rfl ?_
      refine zJ_getr (mi := mX11_share) dX11_share_103 F_X11_19 zW_0 rfl rfl ?_
      refine zJ_iload_n dX11_share_106 rfl rfl ?_
      refine zJ_i2l dX11_share_107 rfl ?_
      obtain ⟨numbers_sizen22, numbers_toldn23, hcl, h⟩ := bd2_some h
      refine zJ_callV2 (σ := σ) (L := ([(65, text_sizen2), (66, text_limitn3), (67, text_atn4), (193, numbers_sizen21), (323, course_fences), (326, course_horseCount), (328, course_planCount), (329, course_allowed), (769, course_rule_size), (1284, rounds_size), (2497, play_playersn5), (2498, play_plansn7), (2499, play_firstPlann11)], [(2, text_signs), (6, course_kinds), (7, course_heights), (8, course_feet), (10, course_digits), (11, course_plans), (13, rule_codes), (15, rule_stackn12), (16, rule_thingsn13), (23, rounds_faults), (24, rounds_tenths), (25, rounds_money), (40, play_namedn6), (41, play_faultsn8), (42, play_tenthsn9), (43, play_placesn10), (44, play_clearsn14), (45, play_endsn15)], [(4, numbers_told), (46, play_worthn16), (47, play_trialn17)])) (mi := mX11_share) (yi := mX6_put) (as := [.long v3n20.toInt64]) (st := []) (L2 := ([(65, text_sizen2), (66, text_limitn3), (67, text_atn4), (193, numbers_sizen22), (323, course_fences), (326, course_horseCount), (328, course_planCount), (329, course_allowed), (769, course_rule_size), (1284, rounds_size), (2497, play_playersn5), (2498, play_plansn7), (2499, play_firstPlann11)], [(2, text_signs), (6, course_kinds), (7, course_heights), (8, course_feet), (10, course_digits), (11, course_plans), (13, rule_codes), (15, rule_stackn12), (16, rule_thingsn13), (23, rounds_faults), (24, rounds_tenths), (25, rounds_money), (40, play_namedn6), (41, play_faultsn8), (42, play_tenthsn9), (43, play_placesn10), (44, play_clearsn14), (45, play_endsn15)], [(4, numbers_toldn23), (46, play_worthn16), (47, play_trialn17)])) dX11_share_108 ML_X11_177 Yv_X6_put rfl zW_3 rfl rfl (t_X6_put l _ hcl) (zsub_i (zle_c rfl zle_n) zle_n (zle_c rfl zle_n)) (zjok_i rfl rfl (zle_c rfl (zle_c rfl (zle_c rfl (zle_c rfl (zle_c rfl (zle_c rfl (zle_c rfl (zle_c rfl (zle_c rfl (zle_c rfl (zle_c rfl (zle_c rfl (zle_c rfl zle_n))))))))))))) rfl rfl (zle_c rfl (zle_c rfl (zle_c rfl (zle_c rfl (zle_c rfl (zle_c rfl (zle_c rfl (zle_c rfl (zle_c rfl (zle_c rfl (zle_c rfl (zle_c rfl (zle_c rfl (zle_c rfl (zle_c rfl (zle_c rfl (zle_c rfl (zle_c rfl zle_n)))))))))))))))))) rfl rfl (zle_c rfl (zle_c rfl (zle_c rfl zle_n)))) (Nat.le_of_ble_eq_true rfl) (Nat.le_of_ble_eq_true rfl) rfl rfl ?_
      refine zJ_iconst dX11_share_111 zc_1 rfl ?_
      refine zJ_istore (ls' := [(4, .int (1 : Int32)), (3, .int v3n20), (2, .int rn1), (0, .ref 0), (1, .int p1)]) dX11_share_112 rfl rfl rfl ?_
      refine zJ_iconst dX11_share_114 zc_0 rfl ?_
      refine zJ_istore (ls' := [(5, .int (0 : Int32)), (4, .int (1 : Int32)), (3, .int v3n20), (2, .int rn1), (0, .ref 0), (1, .int p1)]) dX11_share_115 rfl rfl rfl ?_
      have hk117 : ∀ (v4_117x : Int32) (numbers_size_117x : Int32) (numbers_told_117x : (Nat → Int64)), k_X11_share_117 text_sizen2 text_limitn3 text_atn4 play_playersn5 play_namedn6 play_plansn7 play_faultsn8 play_tenthsn9 play_placesn10 play_firstPlann11 rule_stackn12 rule_thingsn13 play_clearsn14 play_endsn15 play_worthn16 play_trialn17 v4_117x numbers_size_117x numbers_told_117x = some (r, w_text_size, w_text_limit, w_text_at, w_numbers_size, w_play_players, w_play_plans, w_play_firstPlan, w_rule_stack, w_rule_things, w_play_named, w_play_faults, w_play_tenths, w_play_places, w_play_clears, w_play_ends, w_numbers_told, w_play_worth, w_play_trial) → zJ l zW 204 mX11_share σ ([(65, text_sizen2), (66, text_limitn3), (67, text_atn4), (193, numbers_size_117x), (323, course_fences), (326, course_horseCount), (328, course_planCount), (329, course_allowed), (769, course_rule_size), (1284, rounds_size), (2497, play_playersn5), (2498, play_plansn7), (2499, play_firstPlann11)], [(2, text_signs), (6, course_kinds), (7, course_heights), (8, course_feet), (10, course_digits), (11, course_plans), (13, rule_codes), (15, rule_stackn12), (16, rule_thingsn13), (23, rounds_faults), (24, rounds_tenths), (25, rounds_money), (40, play_namedn6), (41, play_faultsn8), (42, play_tenthsn9), (43, play_placesn10), (44, play_clearsn14), (45, play_endsn15)], [(4, numbers_told_117x), (46, play_worthn16), (47, play_trialn17)]) 197 [(4, .int v4_117x)] [] (some (.int r)) ([(65, w_text_size), (66, w_text_limit), (67, w_text_at), (193, w_numbers_size), (323, course_fences), (326, course_horseCount), (328, course_planCount), (329, course_allowed), (769, course_rule_size), (1284, rounds_size), (2497, w_play_players), (2498, w_play_plans), (2499, w_play_firstPlan)], [(2, text_signs), (6, course_kinds), (7, course_heights), (8, course_feet), (10, course_digits), (11, course_plans), (13, rule_codes), (15, w_rule_stack), (16, w_rule_things), (23, rounds_faults), (24, rounds_tenths), (25, rounds_money), (40, w_play_named), (41, w_play_faults), (42, w_play_tenths), (43, w_play_places), (44, w_play_clears), (45, w_play_ends)], [(4, w_numbers_told), (46, w_play_worth), (47, w_play_trial)]) := by
        intro v4_117x numbers_size_117x numbers_told_117x h
        unfold k_X11_share_117 at h
        refine zJ_iload dX11_share_197 rfl rfl ?_
        refine zJ_if_eq (tgt := 206) dX11_share_199 (by decide) rfl (fun hc => ?_) (fun hc => ?_)
        · replace h := it_t hc h
          refine zJ_iconst dX11_share_206 zc_0 rfl ?_
          obtain ⟨rfl, rfl, rfl, rfl, rfl, rfl, rfl, rfl, rfl, rfl, rfl, rfl, rfl, rfl, rfl, rfl, rfl, rfl, rfl⟩ := so19 h
          exact zJ_iret dX11_share_207 rfl rfl
        · replace h := it_f hc h
          refine zJ_iconst dX11_share_202 zc_1 rfl ?_
          refine zJ_goto (tgt := 207) dX11_share_203 (by decide) ?_
          obtain ⟨rfl, rfl, rfl, rfl, rfl, rfl, rfl, rfl, rfl, rfl, rfl, rfl, rfl, rfl, rfl, rfl, rfl, rfl, rfl⟩ := so19 h
          exact zJ_iret dX11_share_207 rfl rfl
      refine zJ_loc (ls' := [(0, .ref 0), (3, .int v3n20), (4, .int (1 : Int32)), (5, .int (0 : Int32))]) (zll_c rfl (zll_c rfl (zll_c rfl (zll_c rfl zll_n)))) ?_
      refine ml4_J (fun (v4_117 : Int32) (v5_117 : Int32) (numbers_size_117 : Int32) (numbers_told_117 : (Nat → Int64)) => zJ l zW 204 mX11_share σ ([(65, text_sizen2), (66, text_limitn3), (67, text_atn4), (193, numbers_size_117), (323, course_fences), (326, course_horseCount), (328, course_planCount), (329, course_allowed), (769, course_rule_size), (1284, rounds_size), (2497, play_playersn5), (2498, play_plansn7), (2499, play_firstPlann11)], [(2, text_signs), (6, course_kinds), (7, course_heights), (8, course_feet), (10, course_digits), (11, course_plans), (13, rule_codes), (15, rule_stackn12), (16, rule_thingsn13), (23, rounds_faults), (24, rounds_tenths), (25, rounds_money), (40, play_namedn6), (41, play_faultsn8), (42, play_tenthsn9), (43, play_placesn10), (44, play_clearsn14), (45, play_endsn15)], [(4, numbers_told_117), (46, play_worthn16), (47, play_trialn17)]) 117 [(0, .ref 0), (3, .int v3n20), (4, .int v4_117), (5, .int v5_117)] [] (some (.int r)) ([(65, w_text_size), (66, w_text_limit), (67, w_text_at), (193, w_numbers_size), (323, course_fences), (326, course_horseCount), (328, course_planCount), (329, course_allowed), (769, course_rule_size), (1284, rounds_size), (2497, w_play_players), (2498, w_play_plans), (2499, w_play_firstPlan)], [(2, text_signs), (6, course_kinds), (7, course_heights), (8, course_feet), (10, course_digits), (11, course_plans), (13, rule_codes), (15, w_rule_stack), (16, w_rule_things), (23, rounds_faults), (24, rounds_tenths), (25, rounds_money), (40, w_play_named), (41, w_play_faults), (42, w_play_tenths), (43, w_play_places), (44, w_play_clears), (45, w_play_ends)], [(4, w_numbers_told), (46, w_play_worth), (47, w_play_trial)])) (fun rc117 hrc117 v4_117 v5_117 numbers_size_117 numbers_told_117 h => ?_) zN _ _ _ _ h
      unfold s_X11_share_117 at h
      refine zJ_iload dX11_share_117 rfl rfl ?_
      refine zJ_aload_n dX11_share_119 rfl rfl ?_
      refine zJ_getr (mi := mX11_share) dX11_share_120 F_X11_66 zW_0 rfl rfl ?_
      refine zJ_geti (mi := mX11_share) (x := play_playersn5) dX11_share_123 F_X11_381 zW_39 rfl rfl rfl ?_
      refine zJ_icmp_ge (tgt := 197) dX11_share_126 (by decide) rfl (fun hc => ?_) (fun hc => ?_)
      · replace h := it_t hc h
        refine zJ_loc (ls' := [(4, .int v4_117)]) (zll_c rfl zll_n) ?_
        exact hk117 _ _ _ h
      · replace h := it_f hc h
        refine zJ_aload_n dX11_share_129 rfl rfl ?_
        refine zJ_getr (mi := mX11_share) dX11_share_130 F_X11_19 zW_0 rfl rfl ?_
        refine zJ_aload_n dX11_share_133 rfl rfl ?_
        refine zJ_getr (mi := mX11_share) dX11_share_134 F_X11_66 zW_0 rfl rfl ?_
        refine zJ_iload dX11_share_137 rfl rfl ?_
        obtain ⟨rn24, hcl, h⟩ := bd1_some h
        refine zJ_callV2 (σ := σ) (L := ([(65, text_sizen2), (66, text_limitn3), (67, text_atn4), (193, numbers_size_117), (323, course_fences), (326, course_horseCount), (328, course_planCount), (329, course_allowed), (769, course_rule_size), (1284, rounds_size), (2497, play_playersn5), (2498, play_plansn7), (2499, play_firstPlann11)], [(2, text_signs), (6, course_kinds), (7, course_heights), (8, course_feet), (10, course_digits), (11, course_plans), (13, rule_codes), (15, rule_stackn12), (16, rule_thingsn13), (23, rounds_faults), (24, rounds_tenths), (25, rounds_money), (40, play_namedn6), (41, play_faultsn8), (42, play_tenthsn9), (43, play_placesn10), (44, play_clearsn14), (45, play_endsn15)], [(4, numbers_told_117), (46, play_worthn16), (47, play_trialn17)])) (mi := mX11_share) (yi := mX3_won) (as := [.int v5_117]) (st := [.ref 3]) (L2 := ([(65, text_sizen2), (66, text_limitn3), (67, text_atn4), (193, numbers_size_117), (323, course_fences), (326, course_horseCount), (328, course_planCount), (329, course_allowed), (769, course_rule_size), (1284, rounds_size), (2497, play_playersn5), (2498, play_plansn7), (2499, play_firstPlann11)], [(2, text_signs), (6, course_kinds), (7, course_heights), (8, course_feet), (10, course_digits), (11, course_plans), (13, rule_codes), (15, rule_stackn12), (16, rule_thingsn13), (23, rounds_faults), (24, rounds_tenths), (25, rounds_money), (40, play_namedn6), (41, play_faultsn8), (42, play_tenthsn9), (43, play_placesn10), (44, play_clearsn14), (45, play_endsn15)], [(4, numbers_told_117), (46, play_worthn16), (47, play_trialn17)])) dX11_share_139 ML_X11_384 Yv_X3_won rfl zW_39 rfl rfl (t_X3_won l _ hcl) (zsub_i (zle_c rfl zle_n) zle_n (zle_c rfl zle_n)) (zjok_i rfl rfl (zle_c rfl (zle_c rfl (zle_c rfl (zle_c rfl (zle_c rfl (zle_c rfl (zle_c rfl (zle_c rfl (zle_c rfl (zle_c rfl (zle_c rfl (zle_c rfl (zle_c rfl zle_n))))))))))))) rfl rfl (zle_c rfl (zle_c rfl (zle_c rfl (zle_c rfl (zle_c rfl (zle_c rfl (zle_c rfl (zle_c rfl (zle_c rfl (zle_c rfl (zle_c rfl (zle_c rfl (zle_c rfl (zle_c rfl (zle_c rfl (zle_c rfl (zle_c rfl (zle_c rfl zle_n)))))))))))))))))) rfl rfl (zle_c rfl (zle_c rfl (zle_c rfl zle_n)))) (Nat.le_of_ble_eq_true rfl) (Nat.le_of_ble_eq_true rfl) rfl rfl ?_
        refine zJ_aload_n dX11_share_142 rfl rfl ?_
        refine zJ_getr (mi := mX11_share) dX11_share_143 F_X11_66 zW_0 rfl rfl ?_
        obtain ⟨rn25, hcl, h⟩ := bd1_some h
        refine zJ_callV2 (σ := σ) (L := ([(65, text_sizen2), (66, text_limitn3), (67, text_atn4), (193, numbers_size_117), (323, course_fences), (326, course_horseCount), (328, course_planCount), (329, course_allowed), (769, course_rule_size), (1284, rounds_size), (2497, play_playersn5), (2498, play_plansn7), (2499, play_firstPlann11)], [(2, text_signs), (6, course_kinds), (7, course_heights), (8, course_feet), (10, course_digits), (11, course_plans), (13, rule_codes), (15, rule_stackn12), (16, rule_thingsn13), (23, rounds_faults), (24, rounds_tenths), (25, rounds_money), (40, play_namedn6), (41, play_faultsn8), (42, play_tenthsn9), (43, play_placesn10), (44, play_clearsn14), (45, play_endsn15)], [(4, numbers_told_117), (46, play_worthn16), (47, play_trialn17)])) (mi := mX11_share) (yi := mX3_scale) (as := []) (st := [.long rn24, .ref 3]) (L2 := ([(65, text_sizen2), (66, text_limitn3), (67, text_atn4), (193, numbers_size_117), (323, course_fences), (326, course_horseCount), (328, course_planCount), (329, course_allowed), (769, course_rule_size), (1284, rounds_size), (2497, play_playersn5), (2498, play_plansn7), (2499, play_firstPlann11)], [(2, text_signs), (6, course_kinds), (7, course_heights), (8, course_feet), (10, course_digits), (11, course_plans), (13, rule_codes), (15, rule_stackn12), (16, rule_thingsn13), (23, rounds_faults), (24, rounds_tenths), (25, rounds_money), (40, play_namedn6), (41, play_faultsn8), (42, play_tenthsn9), (43, play_placesn10), (44, play_clearsn14), (45, play_endsn15)], [(4, numbers_told_117), (46, play_worthn16), (47, play_trialn17)])) dX11_share_146 ML_X11_388 Yv_X3_scale rfl zW_39 rfl rfl (t_X3_scale l _ hcl) (zsub_i (zle_c rfl zle_n) zle_n zle_n) (zjok_i rfl rfl (zle_c rfl (zle_c rfl (zle_c rfl (zle_c rfl (zle_c rfl (zle_c rfl (zle_c rfl (zle_c rfl (zle_c rfl (zle_c rfl (zle_c rfl (zle_c rfl (zle_c rfl zle_n))))))))))))) rfl rfl (zle_c rfl (zle_c rfl (zle_c rfl (zle_c rfl (zle_c rfl (zle_c rfl (zle_c rfl (zle_c rfl (zle_c rfl (zle_c rfl (zle_c rfl (zle_c rfl (zle_c rfl (zle_c rfl (zle_c rfl (zle_c rfl (zle_c rfl (zle_c rfl zle_n)))))))))))))))))) rfl rfl (zle_c rfl (zle_c rfl (zle_c rfl zle_n)))) (Nat.le_of_ble_eq_true rfl) (Nat.le_of_ble_eq_true rfl) rfl rfl ?_
        obtain ⟨numbers_sizen26, numbers_toldn27, hcl, h⟩ := bd2_some h
        refine zJ_callV2 (σ := σ) (L := ([(65, text_sizen2), (66, text_limitn3), (67, text_atn4), (193, numbers_size_117), (323, course_fences), (326, course_horseCount), (328, course_planCount), (329, course_allowed), (769, course_rule_size), (1284, rounds_size), (2497, play_playersn5), (2498, play_plansn7), (2499, play_firstPlann11)], [(2, text_signs), (6, course_kinds), (7, course_heights), (8, course_feet), (10, course_digits), (11, course_plans), (13, rule_codes), (15, rule_stackn12), (16, rule_thingsn13), (23, rounds_faults), (24, rounds_tenths), (25, rounds_money), (40, play_namedn6), (41, play_faultsn8), (42, play_tenthsn9), (43, play_placesn10), (44, play_clearsn14), (45, play_endsn15)], [(4, numbers_told_117), (46, play_worthn16), (47, play_trialn17)])) (mi := mX11_share) (yi := mX6_putFraction) (as := [.long rn24, .long rn25]) (st := []) (L2 := ([(65, text_sizen2), (66, text_limitn3), (67, text_atn4), (193, numbers_sizen26), (323, course_fences), (326, course_horseCount), (328, course_planCount), (329, course_allowed), (769, course_rule_size), (1284, rounds_size), (2497, play_playersn5), (2498, play_plansn7), (2499, play_firstPlann11)], [(2, text_signs), (6, course_kinds), (7, course_heights), (8, course_feet), (10, course_digits), (11, course_plans), (13, rule_codes), (15, rule_stackn12), (16, rule_thingsn13), (23, rounds_faults), (24, rounds_tenths), (25, rounds_money), (40, play_namedn6), (41, play_faultsn8), (42, play_tenthsn9), (43, play_placesn10), (44, play_clearsn14), (45, play_endsn15)], [(4, numbers_toldn27), (46, play_worthn16), (47, play_trialn17)])) dX11_share_149 ML_X11_392 Yv_X6_putFraction rfl zW_3 rfl rfl (t_X6_putFraction l _ hcl) (zsub_i (zle_c rfl zle_n) zle_n (zle_c rfl zle_n)) (zjok_i rfl rfl (zle_c rfl (zle_c rfl (zle_c rfl (zle_c rfl (zle_c rfl (zle_c rfl (zle_c rfl (zle_c rfl (zle_c rfl (zle_c rfl (zle_c rfl (zle_c rfl (zle_c rfl zle_n))))))))))))) rfl rfl (zle_c rfl (zle_c rfl (zle_c rfl (zle_c rfl (zle_c rfl (zle_c rfl (zle_c rfl (zle_c rfl (zle_c rfl (zle_c rfl (zle_c rfl (zle_c rfl (zle_c rfl (zle_c rfl (zle_c rfl (zle_c rfl (zle_c rfl (zle_c rfl zle_n)))))))))))))))))) rfl rfl (zle_c rfl (zle_c rfl (zle_c rfl zle_n)))) (Nat.le_of_ble_eq_true rfl) (Nat.le_of_ble_eq_true rfl) rfl rfl ?_
        refine zJ_iload dX11_share_152 rfl rfl ?_
        refine zJ_if_eq (tgt := 188) dX11_share_154 (by decide) rfl (fun hc => ?_) (fun hc => ?_)
        · replace h := it_t hc h
          refine zJ_iconst dX11_share_188 zc_0 rfl ?_
          refine zJ_istore (ls' := [(4, .int (0 : Int32)), (0, .ref 0), (3, .int v3n20), (5, .int v5_117)]) dX11_share_189 rfl rfl rfl ?_
          obtain ⟨v5n28, ev5n28, h⟩ := lt1_some h
          refine zJ_iincN (ls' := [(5, .int v5n28), (4, .int (0 : Int32)), (0, .ref 0), (3, .int v3n20)]) dX11_share_191 rfl rfl zc_1 ev5n28 rfl rfl ?_
          refine zJ_goto (tgt := 117) dX11_share_194 (by decide) ?_
          refine zJ_loc (ls' := [(0, .ref 0), (3, .int v3n20), (4, .int (0 : Int32)), (5, .int v5n28)]) (zll_c rfl (zll_c rfl (zll_c rfl (zll_c rfl zll_n)))) ?_
          exact hrc117 _ _ _ _ h
        · replace h := it_f hc h
          refine zJ_iload_n dX11_share_157 rfl rfl ?_
          refine zJ_i2l dX11_share_158 rfl ?_
          refine zJ_aload_n dX11_share_159 rfl rfl ?_
          refine zJ_getr (mi := mX11_share) dX11_share_160 F_X11_66 zW_0 rfl rfl ?_
          obtain ⟨rn29, hcl, h⟩ := bd1_some h
          refine zJ_callV2 (σ := σ) (L := ([(65, text_sizen2), (66, text_limitn3), (67, text_atn4), (193, numbers_sizen26), (323, course_fences), (326, course_horseCount), (328, course_planCount), (329, course_allowed), (769, course_rule_size), (1284, rounds_size), (2497, play_playersn5), (2498, play_plansn7), (2499, play_firstPlann11)], [(2, text_signs), (6, course_kinds), (7, course_heights), (8, course_feet), (10, course_digits), (11, course_plans), (13, rule_codes), (15, rule_stackn12), (16, rule_thingsn13), (23, rounds_faults), (24, rounds_tenths), (25, rounds_money), (40, play_namedn6), (41, play_faultsn8), (42, play_tenthsn9), (43, play_placesn10), (44, play_clearsn14), (45, play_endsn15)], [(4, numbers_toldn27), (46, play_worthn16), (47, play_trialn17)])) (mi := mX11_share) (yi := mX3_scale) (as := []) (st := [.long v3n20.toInt64]) (L2 := ([(65, text_sizen2), (66, text_limitn3), (67, text_atn4), (193, numbers_sizen26), (323, course_fences), (326, course_horseCount), (328, course_planCount), (329, course_allowed), (769, course_rule_size), (1284, rounds_size), (2497, play_playersn5), (2498, play_plansn7), (2499, play_firstPlann11)], [(2, text_signs), (6, course_kinds), (7, course_heights), (8, course_feet), (10, course_digits), (11, course_plans), (13, rule_codes), (15, rule_stackn12), (16, rule_thingsn13), (23, rounds_faults), (24, rounds_tenths), (25, rounds_money), (40, play_namedn6), (41, play_faultsn8), (42, play_tenthsn9), (43, play_placesn10), (44, play_clearsn14), (45, play_endsn15)], [(4, numbers_toldn27), (46, play_worthn16), (47, play_trialn17)])) dX11_share_163 ML_X11_388 Yv_X3_scale rfl zW_39 rfl rfl (t_X3_scale l _ hcl) (zsub_i (zle_c rfl zle_n) zle_n zle_n) (zjok_i rfl rfl (zle_c rfl (zle_c rfl (zle_c rfl (zle_c rfl (zle_c rfl (zle_c rfl (zle_c rfl (zle_c rfl (zle_c rfl (zle_c rfl (zle_c rfl (zle_c rfl (zle_c rfl zle_n))))))))))))) rfl rfl (zle_c rfl (zle_c rfl (zle_c rfl (zle_c rfl (zle_c rfl (zle_c rfl (zle_c rfl (zle_c rfl (zle_c rfl (zle_c rfl (zle_c rfl (zle_c rfl (zle_c rfl (zle_c rfl (zle_c rfl (zle_c rfl (zle_c rfl (zle_c rfl zle_n)))))))))))))))))) rfl rfl (zle_c rfl (zle_c rfl (zle_c rfl zle_n)))) (Nat.le_of_ble_eq_true rfl) (Nat.le_of_ble_eq_true rfl) rfl rfl ?_
          refine zJ_lmul dX11_share_166 rfl ?_
          refine zJ_ldc2_w (v := 2) dX11_share_167 C_X11_401 rfl ?_
          refine zJ_aload_n dX11_share_170 rfl rfl ?_
          refine zJ_getr (mi := mX11_share) dX11_share_171 F_X11_66 zW_0 rfl rfl ?_
          refine zJ_iload dX11_share_174 rfl rfl ?_
          obtain ⟨rn30, hcl, h⟩ := bd1_some h
          refine zJ_callV2 (σ := σ) (L := ([(65, text_sizen2), (66, text_limitn3), (67, text_atn4), (193, numbers_sizen26), (323, course_fences), (326, course_horseCount), (328, course_planCount), (329, course_allowed), (769, course_rule_size), (1284, rounds_size), (2497, play_playersn5), (2498, play_plansn7), (2499, play_firstPlann11)], [(2, text_signs), (6, course_kinds), (7, course_heights), (8, course_feet), (10, course_digits), (11, course_plans), (13, rule_codes), (15, rule_stackn12), (16, rule_thingsn13), (23, rounds_faults), (24, rounds_tenths), (25, rounds_money), (40, play_namedn6), (41, play_faultsn8), (42, play_tenthsn9), (43, play_placesn10), (44, play_clearsn14), (45, play_endsn15)], [(4, numbers_toldn27), (46, play_worthn16), (47, play_trialn17)])) (mi := mX11_share) (yi := mX3_won) (as := [.int v5_117]) (st := [.long (2 : Int64), .long (v3n20.toInt64 * rn29)]) (L2 := ([(65, text_sizen2), (66, text_limitn3), (67, text_atn4), (193, numbers_sizen26), (323, course_fences), (326, course_horseCount), (328, course_planCount), (329, course_allowed), (769, course_rule_size), (1284, rounds_size), (2497, play_playersn5), (2498, play_plansn7), (2499, play_firstPlann11)], [(2, text_signs), (6, course_kinds), (7, course_heights), (8, course_feet), (10, course_digits), (11, course_plans), (13, rule_codes), (15, rule_stackn12), (16, rule_thingsn13), (23, rounds_faults), (24, rounds_tenths), (25, rounds_money), (40, play_namedn6), (41, play_faultsn8), (42, play_tenthsn9), (43, play_placesn10), (44, play_clearsn14), (45, play_endsn15)], [(4, numbers_toldn27), (46, play_worthn16), (47, play_trialn17)])) dX11_share_176 ML_X11_384 Yv_X3_won rfl zW_39 rfl rfl (t_X3_won l _ hcl) (zsub_i (zle_c rfl zle_n) zle_n (zle_c rfl zle_n)) (zjok_i rfl rfl (zle_c rfl (zle_c rfl (zle_c rfl (zle_c rfl (zle_c rfl (zle_c rfl (zle_c rfl (zle_c rfl (zle_c rfl (zle_c rfl (zle_c rfl (zle_c rfl (zle_c rfl zle_n))))))))))))) rfl rfl (zle_c rfl (zle_c rfl (zle_c rfl (zle_c rfl (zle_c rfl (zle_c rfl (zle_c rfl (zle_c rfl (zle_c rfl (zle_c rfl (zle_c rfl (zle_c rfl (zle_c rfl (zle_c rfl (zle_c rfl (zle_c rfl (zle_c rfl (zle_c rfl zle_n)))))))))))))))))) rfl rfl (zle_c rfl (zle_c rfl (zle_c rfl zle_n)))) (Nat.le_of_ble_eq_true rfl) (Nat.le_of_ble_eq_true rfl) rfl rfl ?_
          refine zJ_lmul dX11_share_179 rfl ?_
          refine zJ_lcmp dX11_share_180 rfl ?_
          refine zJ_if_lt (tgt := 188) dX11_share_181 (by decide) rfl (fun hc => ?_) (fun hc => ?_)
          · replace h := it_t hc h
            refine zJ_iconst dX11_share_188 zc_0 rfl ?_
            refine zJ_istore (ls' := [(4, .int (0 : Int32)), (0, .ref 0), (3, .int v3n20), (5, .int v5_117)]) dX11_share_189 rfl rfl rfl ?_
            obtain ⟨v5n31, ev5n31, h⟩ := lt1_some h
            refine zJ_iincN (ls' := [(5, .int v5n31), (4, .int (0 : Int32)), (0, .ref 0), (3, .int v3n20)]) dX11_share_191 rfl rfl zc_1 ev5n31 rfl rfl ?_
            refine zJ_goto (tgt := 117) dX11_share_194 (by decide) ?_
            refine zJ_loc (ls' := [(0, .ref 0), (3, .int v3n20), (4, .int (0 : Int32)), (5, .int v5n31)]) (zll_c rfl (zll_c rfl (zll_c rfl (zll_c rfl zll_n)))) ?_
            exact hrc117 _ _ _ _ h
          · replace h := it_f hc h
            refine zJ_iconst dX11_share_184 zc_1 rfl ?_
            refine zJ_goto (tgt := 189) dX11_share_185 (by decide) ?_
            refine zJ_istore (ls' := [(4, .int (1 : Int32)), (0, .ref 0), (3, .int v3n20), (5, .int v5_117)]) dX11_share_189 rfl rfl rfl ?_
            obtain ⟨v5n32, ev5n32, h⟩ := lt1_some h
            refine zJ_iincN (ls' := [(5, .int v5n32), (4, .int (1 : Int32)), (0, .ref 0), (3, .int v3n20)]) dX11_share_191 rfl rfl zc_1 ev5n32 rfl rfl ?_
            refine zJ_goto (tgt := 117) dX11_share_194 (by decide) ?_
            refine zJ_loc (ls' := [(0, .ref 0), (3, .int v3n20), (4, .int (1 : Int32)), (5, .int v5n32)]) (zll_c rfl (zll_c rfl (zll_c rfl (zll_c rfl zll_n)))) ?_
            exact hrc117 _ _ _ _ h
    · replace h := it_f hc h
      refine zJ_iload_n dX11_share_42 rfl rfl ?_
      obtain ⟨rfl, rfl, rfl, rfl, rfl, rfl, rfl, rfl, rfl, rfl, rfl, rfl, rfl, rfl, rfl, rfl, rfl, rfl, rfl⟩ := so19 h
      exact zJ_iret dX11_share_43 rfl rfl
  refine zJ_if_le (tgt := 31) dX11_share_7 (by decide) rfl (fun hc => ?_) (fun hc => ?_)
  · replace h := it_t hc h
    refine zJ_loc (ls' := [(0, .ref 0), (1, .int p1)]) (zll_c rfl (zll_c rfl zll_n)) ?_
    exact hj_X11_share_31 _ h
  · replace h := it_f hc h
    refine zJ_iload_n dX11_share_10 rfl rfl ?_
    refine zJ_iconst dX11_share_11 zc_1 rfl ?_
    refine zJ_icmp_lt (tgt := 20) dX11_share_12 (by decide) rfl (fun hc => ?_) (fun hc => ?_)
    · replace h := it_t hc h
      refine zJ_aload_n dX11_share_20 rfl rfl ?_
      refine zJ_getr (mi := mX11_share) dX11_share_21 F_X11_10 zW_0 rfl rfl ?_
      obtain ⟨text_sizen33, hcl, h⟩ := bd1_some h
      refine zJ_callV2 (σ := σ) (L := ([(65, text_size), (66, text_limit), (67, text_at), (193, numbers_size), (323, course_fences), (326, course_horseCount), (328, course_planCount), (329, course_allowed), (769, course_rule_size), (1284, rounds_size), (2497, play_players), (2498, play_plans), (2499, play_firstPlan)], [(2, text_signs), (6, course_kinds), (7, course_heights), (8, course_feet), (10, course_digits), (11, course_plans), (13, rule_codes), (15, rule_stack), (16, rule_things), (23, rounds_faults), (24, rounds_tenths), (25, rounds_money), (40, play_named), (41, play_faults), (42, play_tenths), (43, play_places), (44, play_clears), (45, play_ends)], [(4, numbers_told), (46, play_worth), (47, play_trial)])) (mi := mX11_share) (yi := mX9_clear) (as := []) (st := []) (L2 := ([(65, text_sizen33), (66, text_limit), (67, text_at), (193, numbers_size), (323, course_fences), (326, course_horseCount), (328, course_planCount), (329, course_allowed), (769, course_rule_size), (1284, rounds_size), (2497, play_players), (2498, play_plans), (2499, play_firstPlan)], [(2, text_signs), (6, course_kinds), (7, course_heights), (8, course_feet), (10, course_digits), (11, course_plans), (13, rule_codes), (15, rule_stack), (16, rule_things), (23, rounds_faults), (24, rounds_tenths), (25, rounds_money), (40, play_named), (41, play_faults), (42, play_tenths), (43, play_places), (44, play_clears), (45, play_ends)], [(4, numbers_told), (46, play_worth), (47, play_trial)])) dX11_share_24 ML_X11_104 Yv_X9_clear rfl zW_1 rfl rfl (t_X9_clear l _ hcl) (zsub_i (zle_c rfl zle_n) zle_n zle_n) (zjok_i rfl rfl (zle_c rfl (zle_c rfl (zle_c rfl (zle_c rfl (zle_c rfl (zle_c rfl (zle_c rfl (zle_c rfl (zle_c rfl (zle_c rfl (zle_c rfl (zle_c rfl (zle_c rfl zle_n))))))))))))) rfl rfl (zle_c rfl (zle_c rfl (zle_c rfl (zle_c rfl (zle_c rfl (zle_c rfl (zle_c rfl (zle_c rfl (zle_c rfl (zle_c rfl (zle_c rfl (zle_c rfl (zle_c rfl (zle_c rfl (zle_c rfl (zle_c rfl (zle_c rfl (zle_c rfl zle_n)))))))))))))))))) rfl rfl (zle_c rfl (zle_c rfl (zle_c rfl zle_n)))) (Nat.le_of_ble_eq_true rfl) (Nat.le_of_ble_eq_true rfl) rfl rfl ?_
      refine zJ_sipush dX11_share_27 zs_m200 rfl ?_
      obtain ⟨rfl, rfl, rfl, rfl, rfl, rfl, rfl, rfl, rfl, rfl, rfl, rfl, rfl, rfl, rfl, rfl, rfl, rfl, rfl⟩ := so19 h
      exact zJ_iret dX11_share_30 rfl rfl
    · replace h := it_f hc h
      refine zJ_iload_n dX11_share_15 rfl rfl ?_
      refine zJ_iconst dX11_share_16 zc_5 rfl ?_
      refine zJ_icmp_le (tgt := 31) dX11_share_17 (by decide) rfl (fun hc => ?_) (fun hc => ?_)
      · replace h := it_t hc h
        refine zJ_loc (ls' := [(0, .ref 0), (1, .int p1)]) (zll_c rfl (zll_c rfl zll_n)) ?_
        exact hj_X11_share_31 _ h
      · replace h := it_f hc h
        refine zJ_aload_n dX11_share_20 rfl rfl ?_
        refine zJ_getr (mi := mX11_share) dX11_share_21 F_X11_10 zW_0 rfl rfl ?_
        obtain ⟨text_sizen34, hcl, h⟩ := bd1_some h
        refine zJ_callV2 (σ := σ) (L := ([(65, text_size), (66, text_limit), (67, text_at), (193, numbers_size), (323, course_fences), (326, course_horseCount), (328, course_planCount), (329, course_allowed), (769, course_rule_size), (1284, rounds_size), (2497, play_players), (2498, play_plans), (2499, play_firstPlan)], [(2, text_signs), (6, course_kinds), (7, course_heights), (8, course_feet), (10, course_digits), (11, course_plans), (13, rule_codes), (15, rule_stack), (16, rule_things), (23, rounds_faults), (24, rounds_tenths), (25, rounds_money), (40, play_named), (41, play_faults), (42, play_tenths), (43, play_places), (44, play_clears), (45, play_ends)], [(4, numbers_told), (46, play_worth), (47, play_trial)])) (mi := mX11_share) (yi := mX9_clear) (as := []) (st := []) (L2 := ([(65, text_sizen34), (66, text_limit), (67, text_at), (193, numbers_size), (323, course_fences), (326, course_horseCount), (328, course_planCount), (329, course_allowed), (769, course_rule_size), (1284, rounds_size), (2497, play_players), (2498, play_plans), (2499, play_firstPlan)], [(2, text_signs), (6, course_kinds), (7, course_heights), (8, course_feet), (10, course_digits), (11, course_plans), (13, rule_codes), (15, rule_stack), (16, rule_things), (23, rounds_faults), (24, rounds_tenths), (25, rounds_money), (40, play_named), (41, play_faults), (42, play_tenths), (43, play_places), (44, play_clears), (45, play_ends)], [(4, numbers_told), (46, play_worth), (47, play_trial)])) dX11_share_24 ML_X11_104 Yv_X9_clear rfl zW_1 rfl rfl (t_X9_clear l _ hcl) (zsub_i (zle_c rfl zle_n) zle_n zle_n) (zjok_i rfl rfl (zle_c rfl (zle_c rfl (zle_c rfl (zle_c rfl (zle_c rfl (zle_c rfl (zle_c rfl (zle_c rfl (zle_c rfl (zle_c rfl (zle_c rfl (zle_c rfl (zle_c rfl zle_n))))))))))))) rfl rfl (zle_c rfl (zle_c rfl (zle_c rfl (zle_c rfl (zle_c rfl (zle_c rfl (zle_c rfl (zle_c rfl (zle_c rfl (zle_c rfl (zle_c rfl (zle_c rfl (zle_c rfl (zle_c rfl (zle_c rfl (zle_c rfl (zle_c rfl (zle_c rfl zle_n)))))))))))))))))) rfl rfl (zle_c rfl (zle_c rfl (zle_c rfl zle_n)))) (Nat.le_of_ble_eq_true rfl) (Nat.le_of_ble_eq_true rfl) rfl rfl ?_
        refine zJ_sipush dX11_share_27 zs_m200 rfl ?_
        obtain ⟨rfl, rfl, rfl, rfl, rfl, rfl, rfl, rfl, rfl, rfl, rfl, rfl, rfl, rfl, rfl, rfl, rfl, rfl, rfl⟩ := so19 h
        exact zJ_iret dX11_share_30 rfl rfl
set_option maxRecDepth 100000 in
set_option maxHeartbeats 4000000 in
theorem t_X11_sheetEntry (l : Launch) (σ : zS) {p0 : Int32} {p1 : Int32} {r : Int32} (h : f_X11_sheetEntry p0 p1 = some r) : zMt l zW 1 mX11_sheetEntry σ ([], [], []) [.int p0, .int p1] (some (.int r)) ([], [], []) := by
  refine zMt_of (ls := [(0, .int p0), (1, .int p1)]) (by decide) rfl (fun _ => Nat.le_of_ble_eq_true rfl) rfl ?_
  unfold f_X11_sheetEntry at h
  refine zJ_iload_n dX11_sheetEntry_0 rfl rfl ?_
  refine zJ_istore_n (ls' := [(2, .int p1), (0, .int p0), (1, .int p1)]) dX11_sheetEntry_1 rfl rfl rfl ?_
  refine zJ_iload_n dX11_sheetEntry_2 rfl rfl ?_
  refine zJ_if_ne (tgt := 12) dX11_sheetEntry_3 (by decide) rfl (fun hc => ?_) (fun hc => ?_)
  · replace h := it_f hc h
    refine zJ_iload_n dX11_sheetEntry_12 rfl rfl ?_
    refine zJ_iconst dX11_sheetEntry_13 zc_1 rfl ?_
    refine zJ_icmp_ne (tgt := 20) dX11_sheetEntry_14 (by decide) rfl (fun hc => ?_) (fun hc => ?_)
    · replace h := it_f hc h
      refine zJ_iconst dX11_sheetEntry_20 zc_0 rfl ?_
      refine zJ_bipush dX11_sheetEntry_21 zb_9 rfl ?_
      refine zJ_iload_n dX11_sheetEntry_23 rfl rfl ?_
      refine zJ_mmin (mi := mX11_sheetEntry) dX11_sheetEntry_24 L_X11_163 K_min_s K_math K_min_c (Nat.le_of_ble_eq_true rfl) (Nat.le_of_ble_eq_true rfl) rfl ?_
      refine zJ_mmax (mi := mX11_sheetEntry) dX11_sheetEntry_27 L_X11_168 K_max_s K_math K_max_c (Nat.le_of_ble_eq_true rfl) (Nat.le_of_ble_eq_true rfl) rfl ?_
      obtain rfl := so1 h
      exact zJ_iret dX11_sheetEntry_30 rfl rfl
    · replace h := it_t hc h
      refine zJ_iload_n dX11_sheetEntry_17 rfl rfl ?_
      refine zJ_i2s dX11_sheetEntry_18 rfl ?_
      obtain ⟨v2n1, ev2n1, h⟩ := lt1_some h
      refine zJ_nmi ev2n1 ?_
      refine zJ_istore_n (ls' := [(2, .int v2n1), (0, .int p0), (1, .int p1)]) dX11_sheetEntry_19 rfl rfl rfl ?_
      refine zJ_iconst dX11_sheetEntry_20 zc_0 rfl ?_
      refine zJ_bipush dX11_sheetEntry_21 zb_9 rfl ?_
      refine zJ_iload_n dX11_sheetEntry_23 rfl rfl ?_
      refine zJ_mmin (mi := mX11_sheetEntry) dX11_sheetEntry_24 L_X11_163 K_min_s K_math K_min_c (Nat.le_of_ble_eq_true rfl) (Nat.le_of_ble_eq_true rfl) rfl ?_
      refine zJ_mmax (mi := mX11_sheetEntry) dX11_sheetEntry_27 L_X11_168 K_max_s K_math K_max_c (Nat.le_of_ble_eq_true rfl) (Nat.le_of_ble_eq_true rfl) rfl ?_
      obtain rfl := so1 h
      exact zJ_iret dX11_sheetEntry_30 rfl rfl
  · replace h := it_t hc h
    refine zJ_iload_n dX11_sheetEntry_6 rfl rfl ?_
    refine zJ_i2b dX11_sheetEntry_7 rfl ?_
    obtain ⟨v2n2, ev2n2, h⟩ := lt1_some h
    refine zJ_nmi ev2n2 ?_
    refine zJ_istore_n (ls' := [(2, .int v2n2), (0, .int p0), (1, .int p1)]) dX11_sheetEntry_8 rfl rfl rfl ?_
    refine zJ_goto (tgt := 20) dX11_sheetEntry_9 (by decide) ?_
    refine zJ_iconst dX11_sheetEntry_20 zc_0 rfl ?_
    refine zJ_bipush dX11_sheetEntry_21 zb_9 rfl ?_
    refine zJ_iload_n dX11_sheetEntry_23 rfl rfl ?_
    refine zJ_mmin (mi := mX11_sheetEntry) dX11_sheetEntry_24 L_X11_163 K_min_s K_math K_min_c (Nat.le_of_ble_eq_true rfl) (Nat.le_of_ble_eq_true rfl) rfl ?_
    refine zJ_mmax (mi := mX11_sheetEntry) dX11_sheetEntry_27 L_X11_168 K_max_s K_math K_max_c (Nat.le_of_ble_eq_true rfl) (Nat.le_of_ble_eq_true rfl) rfl ?_
    obtain rfl := so1 h
    exact zJ_iret dX11_sheetEntry_30 rfl rfl
