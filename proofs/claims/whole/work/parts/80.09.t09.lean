set_option maxRecDepth 100000 in
set_option maxHeartbeats 4000000 in
theorem t_X1_readHorse (l : Launch) (σ : zS) {p2 : Int32} {text_limit : Int32} {text_at : Int32} {text_signs : (Nat → Int32)} {course_digits : (Nat → Int32)} {r : Int32} {w_text_at : Int32} {w_course_digits : (Nat → Int32)} (h : f_X1_readHorse p2 text_limit text_at text_signs course_digits = some (r, w_text_at, w_course_digits)) : zMt l zW 1 mX1_readHorse σ ([(66, text_limit), (67, text_at)], [(2, text_signs), (10, course_digits)], []) [.ref 5, .ref 1, .int p2] (some (.int r)) ([(66, text_limit), (67, w_text_at)], [(2, text_signs), (10, w_course_digits)], []) := by
  refine zMt_of (ls := [(0, .ref 5), (1, .ref 1), (2, .int p2)]) (by decide) rfl (fun _ => Nat.le_of_ble_eq_true rfl) rfl ?_
  unfold f_X1_readHorse at h
  refine zJ_iconst dX1_readHorse_0 zc_0 rfl ?_
  refine zJ_istore_n (ls' := [(3, .int (0 : Int32)), (0, .ref 5), (1, .ref 1), (2, .int p2)]) dX1_readHorse_1 rfl rfl rfl ?_
  have hk2 : ∀ (text_at_2x : Int32) (course_digits_2x : (Nat → Int32)), k_X1_readHorse_2  text_at_2x course_digits_2x = some (r, w_text_at, w_course_digits) → zJ l zW 1 mX1_readHorse σ ([(66, text_limit), (67, text_at_2x)], [(2, text_signs), (10, course_digits_2x)], []) 52 [] [] (some (.int r)) ([(66, text_limit), (67, w_text_at)], [(2, text_signs), (10, w_course_digits)], []) := by
    intro text_at_2x course_digits_2x h
    unfold k_X1_readHorse_2 at h
    refine zJ_iconst dX1_readHorse_52 zc_1 rfl ?_
    obtain ⟨rfl, rfl, rfl⟩ := so3 h
    exact zJ_iret dX1_readHorse_53 rfl (by decide)
  refine zJ_loc (ls' := [(0, .ref 5), (1, .ref 1), (2, .int p2), (3, .int (0 : Int32))]) (zll_c rfl (zll_c rfl (zll_c rfl (zll_c rfl zll_n)))) ?_
  refine ml3_J (fun (v3_2 : Int32) (text_at_2 : Int32) (course_digits_2 : (Nat → Int32)) => zJ l zW 1 mX1_readHorse σ ([(66, text_limit), (67, text_at_2)], [(2, text_signs), (10, course_digits_2)], []) 2 [(0, .ref 5), (1, .ref 1), (2, .int p2), (3, .int v3_2)] [] (some (.int r)) ([(66, text_limit), (67, w_text_at)], [(2, text_signs), (10, w_course_digits)], [])) (fun rc2 hrc2 v3_2 text_at_2 course_digits_2 h => ?_) zN _ _ _ h
  unfold s_X1_readHorse_2 at h
  refine zJ_iload_n dX1_readHorse_2 rfl rfl ?_
  refine zJ_bipush dX1_readHorse_3 zb_6 rfl ?_
  refine zJ_icmp_ge (tgt := 52) dX1_readHorse_5 (by decide) rfl (fun hc => ?_) (fun hc => ?_)
  · replace h := it_t hc h
    refine zJ_loc (ls' := []) zll_n ?_
    exact hk2 _ _ h
  · replace h := it_f hc h
    refine zJ_aload_n dX1_readHorse_8 rfl rfl ?_
    refine zJ_iload_n dX1_readHorse_9 rfl rfl ?_
    have hj_X1_readHorse_18 : ∀ (t1_18j : Int32), j_X1_readHorse_18 p2 text_limit text_signs rc2 v3_2 text_at_2 course_digits_2 t1_18j = some (r, w_text_at, w_course_digits) → zJ l zW 1 mX1_readHorse σ ([(66, text_limit), (67, text_at_2)], [(2, text_signs), (10, course_digits_2)], []) 18 [(0, .ref 5), (1, .ref 1), (2, .int p2), (3, .int v3_2)] [.int t1_18j, .ref 1] (some (.int r)) ([(66, text_limit), (67, w_text_at)], [(2, text_signs), (10, w_course_digits)], []) := by
      intro t1_18j h
      unfold j_X1_readHorse_18 at h
      refine zJ_bipush dX1_readHorse_18 zb_9 rfl ?_
      obtain ⟨rn1, text_atn2, hcl, h⟩ := bd2_some h
      refine zJ_callV2 (σ := σ) (L := ([(66, text_limit), (67, text_at_2)], [(2, text_signs), (10, course_digits_2)], [])) (mi := mX1_readHorse) (yi := mX9_digit) (as := [.int t1_18j, .int (9 : Int32)]) (st := []) (L2 := ([(66, text_limit), (67, text_atn2)], [(2, text_signs), (10, course_digits_2)], [])) dX1_readHorse_20 ML_X1_90 Yv_X9_digit rfl zW_1 rfl rfl (t_X9_digit l _ hcl) (zsub_i (zle_c rfl (zle_c rfl zle_n)) (zle_c rfl zle_n) zle_n) (zjok_i rfl rfl (zle_c rfl (zle_c rfl zle_n)) rfl rfl (zle_c rfl (zle_c rfl zle_n)) rfl rfl zle_n) (Nat.le_of_ble_eq_true rfl) (Nat.le_of_ble_eq_true rfl) rfl rfl ?_
      refine zJ_istore (ls' := [(4, .int rn1), (0, .ref 5), (1, .ref 1), (2, .int p2), (3, .int v3_2)]) dX1_readHorse_23 rfl rfl rfl ?_
      refine zJ_iload dX1_readHorse_25 rfl rfl ?_
      refine zJ_iconst dX1_readHorse_27 zc_m1 rfl ?_
      refine zJ_icmp_ne (tgt := 33) dX1_readHorse_28 (by decide) rfl (fun hc => ?_) (fun hc => ?_)
      · replace h := it_f hc h
        refine zJ_aload_n dX1_readHorse_33 rfl rfl ?_
        refine zJ_getr (mi := mX1_readHorse) dX1_readHorse_34 F_X1_24 zW_5 rfl rfl ?_
        refine zJ_iload_n dX1_readHorse_37 rfl rfl ?_
        refine zJ_bipush dX1_readHorse_38 zb_6 rfl ?_
        refine zJ_imul dX1_readHorse_40 rfl ?_
        refine zJ_iload_n dX1_readHorse_41 rfl rfl ?_
        refine zJ_iadd dX1_readHorse_42 rfl ?_
        refine zJ_iload dX1_readHorse_43 rfl rfl ?_
        obtain ⟨hg, h⟩ := gd_some h
        refine zK_iast (mi := mX1_readHorse) (f := course_digits_2) (lb' := [(2, text_signs), (10, (upd course_digits_2 ((p2 * (6 : Int32)) + v3_2).toNatClampNeg rn1))]) dX1_readHorse_45 zW_10 (ix_in hg) rfl rfl rfl ?_
        obtain ⟨v3n3, ev3n3, h⟩ := lt1_some h
        refine zJ_iincN (ls' := [(3, .int v3n3), (4, .int rn1), (0, .ref 5), (1, .ref 1), (2, .int p2)]) dX1_readHorse_46 rfl rfl zc_1 ev3n3 rfl rfl ?_
        refine zJ_goto (tgt := 2) dX1_readHorse_49 (by decide) ?_
        refine zJ_loc (ls' := [(0, .ref 5), (1, .ref 1), (2, .int p2), (3, .int v3n3)]) (zll_c rfl (zll_c rfl (zll_c rfl (zll_c rfl zll_n)))) ?_
        exact hrc2 _ _ _ h
      · replace h := it_t hc h
        refine zJ_iconst dX1_readHorse_31 zc_0 rfl ?_
        obtain ⟨rfl, rfl, rfl⟩ := so3 h
        exact zJ_iret dX1_readHorse_32 rfl (by decide)
    refine zJ_if_ne (tgt := 17) dX1_readHorse_10 (by decide) rfl (fun hc => ?_) (fun hc => ?_)
    · replace h := it_f hc h
      refine zJ_iconst dX1_readHorse_17 zc_0 rfl ?_
      refine zJ_loc (ls' := [(0, .ref 5), (1, .ref 1), (2, .int p2), (3, .int v3_2)]) (zll_c rfl (zll_c rfl (zll_c rfl (zll_c rfl zll_n)))) ?_
      exact hj_X1_readHorse_18 _ h
    · replace h := it_t hc h
      refine zJ_iconst dX1_readHorse_13 zc_3 rfl ?_
      refine zJ_goto (tgt := 18) dX1_readHorse_14 (by decide) ?_
      refine zJ_loc (ls' := [(0, .ref 5), (1, .ref 1), (2, .int p2), (3, .int v3_2)]) (zll_c rfl (zll_c rfl (zll_c rfl (zll_c rfl zll_n)))) ?_
      exact hj_X1_readHorse_18 _ h
set_option maxRecDepth 100000 in
set_option maxHeartbeats 4000000 in
theorem t_X1_readHorses (l : Launch) (σ : zS) {text_size : Int32} {text_limit : Int32} {text_at : Int32} {course_horseCount : Int32} {text_signs : (Nat → Int32)} {course_digits : (Nat → Int32)} {r : Int32} {w_text_limit : Int32} {w_text_at : Int32} {w_course_horseCount : Int32} {w_course_digits : (Nat → Int32)} (h : f_X1_readHorses text_size text_limit text_at course_horseCount text_signs course_digits = some (r, w_text_limit, w_text_at, w_course_horseCount, w_course_digits)) : zMt l zW 2 mX1_readHorses σ ([(65, text_size), (66, text_limit), (67, text_at), (326, course_horseCount)], [(2, text_signs), (10, course_digits)], []) [.ref 5, .ref 1] (some (.int r)) ([(65, text_size), (66, w_text_limit), (67, w_text_at), (326, w_course_horseCount)], [(2, text_signs), (10, w_course_digits)], []) := by
  refine zMt_of (ls := [(0, .ref 5), (1, .ref 1)]) (by decide) rfl (fun _ => Nat.le_of_ble_eq_true rfl) rfl ?_
  unfold f_X1_readHorses at h
  refine zJ_aload_n dX1_readHorses_0 rfl rfl ?_
  refine zJ_bipush dX1_readHorses_1 zb_76 rfl ?_
  obtain ⟨text_limitn1, text_atn2, hcl, h⟩ := bd2_some h
  refine zJ_callV2 (σ := σ) (L := ([(65, text_size), (66, text_limit), (67, text_at), (326, course_horseCount)], [(2, text_signs), (10, course_digits)], [])) (mi := mX1_readHorses) (yi := mX9_open) (as := [.int (76 : Int32)]) (st := []) (L2 := ([(65, text_size), (66, text_limitn1), (67, text_atn2), (326, course_horseCount)], [(2, text_signs), (10, course_digits)], [])) dX1_readHorses_3 ML_X1_59 Yv_X9_open rfl zW_1 rfl rfl (t_X9_open l _ hcl) (zsub_i (zle_c rfl (zle_c rfl (zle_c rfl zle_n))) zle_n zle_n) (zjok_i rfl rfl (zle_c rfl (zle_c rfl (zle_c rfl (zle_c rfl zle_n)))) rfl rfl (zle_c rfl (zle_c rfl zle_n)) rfl rfl zle_n) (Nat.le_of_ble_eq_true rfl) (Nat.le_of_ble_eq_true rfl) rfl rfl ?_
  refine zJ_aload_n dX1_readHorses_6 rfl rfl ?_
  obtain ⟨rn3, hcl, h⟩ := bd1_some h
  refine zJ_callV2 (σ := σ) (L := ([(65, text_size), (66, text_limitn1), (67, text_atn2), (326, course_horseCount)], [(2, text_signs), (10, course_digits)], [])) (mi := mX1_readHorses) (yi := mX9_isDone) (as := []) (st := []) (L2 := ([(65, text_size), (66, text_limitn1), (67, text_atn2), (326, course_horseCount)], [(2, text_signs), (10, course_digits)], [])) dX1_readHorses_7 ML_X1_73 Yv_X9_isDone rfl zW_1 rfl rfl (t_X9_isDone l _ hcl) (zsub_i (zle_c rfl (zle_c rfl zle_n)) zle_n zle_n) (zjok_i rfl rfl (zle_c rfl (zle_c rfl (zle_c rfl (zle_c rfl zle_n)))) rfl rfl (zle_c rfl (zle_c rfl zle_n)) rfl rfl zle_n) (Nat.le_of_ble_eq_true rfl) (Nat.le_of_ble_eq_true rfl) rfl rfl ?_
  refine zJ_if_eq (tgt := 15) dX1_readHorses_10 (by decide) rfl (fun hc => ?_) (fun hc => ?_)
  · replace h := it_t hc h
    refine zJ_iconst dX1_readHorses_15 zc_0 rfl ?_
    refine zJ_istore_n (ls' := [(2, .int (0 : Int32)), (0, .ref 5), (1, .ref 1)]) dX1_readHorses_16 rfl rfl rfl ?_
    have hk17 : ∀ (text_at_17x : Int32) (course_digits_17x : (Nat → Int32)), k_X1_readHorses_17 course_horseCount text_limitn1 text_at_17x course_digits_17x = some (r, w_text_limit, w_text_at, w_course_horseCount, w_course_digits) → zJ l zW 2 mX1_readHorses σ ([(65, text_size), (66, text_limitn1), (67, text_at_17x), (326, course_horseCount)], [(2, text_signs), (10, course_digits_17x)], []) 90 [(1, .ref 1)] [] (some (.int r)) ([(65, text_size), (66, w_text_limit), (67, w_text_at), (326, w_course_horseCount)], [(2, text_signs), (10, w_course_digits)], []) := by
      intro text_at_17x course_digits_17x h
      unfold k_X1_readHorses_17 at h
      refine zJ_aload_n dX1_readHorses_90 rfl rfl ?_
      obtain ⟨rn4, hcl, h⟩ := bd1_some h
      refine zJ_callV2 (σ := σ) (L := ([(65, text_size), (66, text_limitn1), (67, text_at_17x), (326, course_horseCount)], [(2, text_signs), (10, course_digits_17x)], [])) (mi := mX1_readHorses) (yi := mX9_fault) (as := []) (st := []) (L2 := ([(65, text_size), (66, text_limitn1), (67, text_at_17x), (326, course_horseCount)], [(2, text_signs), (10, course_digits_17x)], [])) dX1_readHorses_91 ML_X1_69 Yv_X9_fault rfl zW_1 rfl rfl (t_X9_fault l _ hcl) (zsub_i (zle_c rfl zle_n) zle_n zle_n) (zjok_i rfl rfl (zle_c rfl (zle_c rfl (zle_c rfl (zle_c rfl zle_n)))) rfl rfl (zle_c rfl (zle_c rfl zle_n)) rfl rfl zle_n) (Nat.le_of_ble_eq_true rfl) (Nat.le_of_ble_eq_true rfl) rfl rfl ?_
      obtain ⟨rfl, rfl, rfl, rfl, rfl⟩ := so5 h
      exact zJ_iret dX1_readHorses_94 rfl rfl
    refine zJ_loc (ls' := [(0, .ref 5), (1, .ref 1), (2, .int (0 : Int32))]) (zll_c rfl (zll_c rfl (zll_c rfl zll_n))) ?_
    refine ml3_J (fun (v2_17 : Int32) (text_at_17 : Int32) (course_digits_17 : (Nat → Int32)) => zJ l zW 2 mX1_readHorses σ ([(65, text_size), (66, text_limitn1), (67, text_at_17), (326, course_horseCount)], [(2, text_signs), (10, course_digits_17)], []) 17 [(0, .ref 5), (1, .ref 1), (2, .int v2_17)] [] (some (.int r)) ([(65, text_size), (66, w_text_limit), (67, w_text_at), (326, w_course_horseCount)], [(2, text_signs), (10, w_course_digits)], [])) (fun rc17 hrc17 v2_17 text_at_17 course_digits_17 h => ?_) zN _ _ _ h
    unfold s_X1_readHorses_17 at h
    refine zJ_aload_n dX1_readHorses_17 rfl rfl ?_
    refine zJ_geti (mi := mX1_readHorses) (x := course_horseCount) dX1_readHorses_18 F_X1_53 zW_5 rfl rfl rfl ?_
    refine zJ_iload_n dX1_readHorses_21 rfl rfl ?_
    refine zJ_iadd dX1_readHorses_22 rfl ?_
    refine zJ_bipush dX1_readHorses_23 zb_6 rfl ?_
    refine zJ_icmp_ge (tgt := 90) dX1_readHorses_25 (by decide) rfl (fun hc => ?_) (fun hc => ?_)
    · replace h := it_t hc h
      refine zJ_loc (ls' := [(1, .ref 1)]) (zll_c rfl zll_n) ?_
      exact hk17 _ _ h
    · replace h := it_f hc h
      refine zJ_aload_n dX1_readHorses_28 rfl rfl ?_
      refine zJ_aload_n dX1_readHorses_29 rfl rfl ?_
      refine zJ_aload_n dX1_readHorses_30 rfl rfl ?_
      refine zJ_geti (mi := mX1_readHorses) (x := course_horseCount) dX1_readHorses_31 F_X1_53 zW_5 rfl rfl rfl ?_
      refine zJ_iload_n dX1_readHorses_34 rfl rfl ?_
      refine zJ_iadd dX1_readHorses_35 rfl ?_
      obtain ⟨rn5, text_atn6, course_digitsn7, hcl, h⟩ := bd3_some h
      refine zJ_callV2 (σ := σ) (L := ([(65, text_size), (66, text_limitn1), (67, text_at_17), (326, course_horseCount)], [(2, text_signs), (10, course_digits_17)], [])) (mi := mX1_readHorses) (yi := mX1_readHorse) (as := [.ref 1, .int (course_horseCount + v2_17)]) (st := []) (L2 := ([(65, text_size), (66, text_limitn1), (67, text_atn6), (326, course_horseCount)], [(2, text_signs), (10, course_digitsn7)], [])) dX1_readHorses_36 ML_X1_94 Yv_X1_readHorse rfl zW_5 rfl rfl (t_X1_readHorse l _ hcl) (zsub_i (zle_c rfl (zle_c rfl zle_n)) (zle_c rfl (zle_c rfl zle_n)) zle_n) (zjok_i rfl rfl (zle_c rfl (zle_c rfl (zle_c rfl (zle_c rfl zle_n)))) rfl rfl (zle_c rfl (zle_c rfl zle_n)) rfl rfl zle_n) (Nat.le_of_ble_eq_true rfl) (Nat.le_of_ble_eq_true rfl) rfl rfl ?_
      refine zJ_if_ne (tgt := 47) dX1_readHorses_39 (by decide) rfl (fun hc => ?_) (fun hc => ?_)
      · replace h := it_f hc h
        refine zJ_aload_n dX1_readHorses_47 rfl rfl ?_
        obtain ⟨rn8, hcl, h⟩ := bd1_some h
        refine zJ_callV2 (σ := σ) (L := ([(65, text_size), (66, text_limitn1), (67, text_atn6), (326, course_horseCount)], [(2, text_signs), (10, course_digitsn7)], [])) (mi := mX1_readHorses) (yi := mX9_isDone) (as := []) (st := []) (L2 := ([(65, text_size), (66, text_limitn1), (67, text_atn6), (326, course_horseCount)], [(2, text_signs), (10, course_digitsn7)], [])) dX1_readHorses_48 ML_X1_73 Yv_X9_isDone rfl zW_1 rfl rfl (t_X9_isDone l _ hcl) (zsub_i (zle_c rfl (zle_c rfl zle_n)) zle_n zle_n) (zjok_i rfl rfl (zle_c rfl (zle_c rfl (zle_c rfl (zle_c rfl zle_n)))) rfl rfl (zle_c rfl (zle_c rfl zle_n)) rfl rfl zle_n) (Nat.le_of_ble_eq_true rfl) (Nat.le_of_ble_eq_true rfl) rfl rfl ?_
        refine zJ_if_eq (tgt := 70) dX1_readHorses_51 (by decide) rfl (fun hc => ?_) (fun hc => ?_)
        · replace h := it_t hc h
          refine zJ_aload_n dX1_readHorses_70 rfl rfl ?_
          refine zJ_bipush dX1_readHorses_71 zb_59 rfl ?_
          obtain ⟨rn9, text_atn10, hcl, h⟩ := bd2_some h
          refine zJ_callV2 (σ := σ) (L := ([(65, text_size), (66, text_limitn1), (67, text_atn6), (326, course_horseCount)], [(2, text_signs), (10, course_digitsn7)], [])) (mi := mX1_readHorses) (yi := mX9_take) (as := [.int (59 : Int32)]) (st := []) (L2 := ([(65, text_size), (66, text_limitn1), (67, text_atn10), (326, course_horseCount)], [(2, text_signs), (10, course_digitsn7)], [])) dX1_readHorses_73 ML_X1_80 Yv_X9_take rfl zW_1 rfl rfl (t_X9_take l _ hcl) (zsub_i (zle_c rfl (zle_c rfl zle_n)) (zle_c rfl zle_n) zle_n) (zjok_i rfl rfl (zle_c rfl (zle_c rfl (zle_c rfl (zle_c rfl zle_n)))) rfl rfl (zle_c rfl (zle_c rfl zle_n)) rfl rfl zle_n) (Nat.le_of_ble_eq_true rfl) (Nat.le_of_ble_eq_true rfl) rfl rfl ?_
          refine zJ_if_ne (tgt := 84) dX1_readHorses_76 (by decide) rfl (fun hc => ?_) (fun hc => ?_)
          · replace h := it_f hc h
            obtain ⟨v2n11, ev2n11, h⟩ := lt1_some h
            refine zJ_iincN (ls' := [(2, .int v2n11), (0, .ref 5), (1, .ref 1)]) dX1_readHorses_84 rfl rfl zc_1 ev2n11 rfl rfl ?_
            refine zJ_goto (tgt := 17) dX1_readHorses_87 (by decide) ?_
            refine zJ_loc (ls' := [(0, .ref 5), (1, .ref 1), (2, .int v2n11)]) (zll_c rfl (zll_c rfl (zll_c rfl zll_n))) ?_
            exact hrc17 _ _ _ h
          · replace h := it_t hc h
            refine zJ_aload_n dX1_readHorses_79 rfl rfl ?_
            obtain ⟨rn12, hcl, h⟩ := bd1_some h
            refine zJ_callV2 (σ := σ) (L := ([(65, text_size), (66, text_limitn1), (67, text_atn10), (326, course_horseCount)], [(2, text_signs), (10, course_digitsn7)], [])) (mi := mX1_readHorses) (yi := mX9_fault) (as := []) (st := []) (L2 := ([(65, text_size), (66, text_limitn1), (67, text_atn10), (326, course_horseCount)], [(2, text_signs), (10, course_digitsn7)], [])) dX1_readHorses_80 ML_X1_69 Yv_X9_fault rfl zW_1 rfl rfl (t_X9_fault l _ hcl) (zsub_i (zle_c rfl zle_n) zle_n zle_n) (zjok_i rfl rfl (zle_c rfl (zle_c rfl (zle_c rfl (zle_c rfl zle_n)))) rfl rfl (zle_c rfl (zle_c rfl zle_n)) rfl rfl zle_n) (Nat.le_of_ble_eq_true rfl) (Nat.le_of_ble_eq_true rfl) rfl rfl ?_
            obtain ⟨rfl, rfl, rfl, rfl, rfl⟩ := so5 h
            exact zJ_iret dX1_readHorses_83 rfl rfl
        · replace h := it_f hc h
          refine zJ_aload_n dX1_readHorses_54 rfl rfl ?_
          refine zJ_dup dX1_readHorses_55 rfl rfl ?_
          refine zJ_geti (mi := mX1_readHorses) (x := course_horseCount) dX1_readHorses_56 F_X1_53 zW_5 rfl rfl rfl ?_
          refine zJ_iload_n dX1_readHorses_59 rfl rfl ?_
          refine zJ_iconst dX1_readHorses_60 zc_1 rfl ?_
          refine zJ_iadd dX1_readHorses_61 rfl ?_
          refine zJ_iadd dX1_readHorses_62 rfl ?_
          refine zK_puti (mi := mX1_readHorses) (la' := [(65, text_size), (66, text_limitn1), (67, text_atn6), (326, (course_horseCount + (v2_17 + (1 : Int32))))]) zW_ok dX1_readHorses_63 F_X1_53 P_1_6 zW_5 rfl rfl rfl ?_
          refine zJ_iload_n dX1_readHorses_66 rfl rfl ?_
          refine zJ_iconst dX1_readHorses_67 zc_1 rfl ?_
          refine zJ_iadd dX1_readHorses_68 rfl ?_
          obtain ⟨rfl, rfl, rfl, rfl, rfl⟩ := so5 h
          exact zJ_iret dX1_readHorses_69 rfl rfl
      · replace h := it_t hc h
        refine zJ_aload_n dX1_readHorses_42 rfl rfl ?_
        obtain ⟨rn13, hcl, h⟩ := bd1_some h
        refine zJ_callV2 (σ := σ) (L := ([(65, text_size), (66, text_limitn1), (67, text_atn6), (326, course_horseCount)], [(2, text_signs), (10, course_digitsn7)], [])) (mi := mX1_readHorses) (yi := mX9_fault) (as := []) (st := []) (L2 := ([(65, text_size), (66, text_limitn1), (67, text_atn6), (326, course_horseCount)], [(2, text_signs), (10, course_digitsn7)], [])) dX1_readHorses_43 ML_X1_69 Yv_X9_fault rfl zW_1 rfl rfl (t_X9_fault l _ hcl) (zsub_i (zle_c rfl zle_n) zle_n zle_n) (zjok_i rfl rfl (zle_c rfl (zle_c rfl (zle_c rfl (zle_c rfl zle_n)))) rfl rfl (zle_c rfl (zle_c rfl zle_n)) rfl rfl zle_n) (Nat.le_of_ble_eq_true rfl) (Nat.le_of_ble_eq_true rfl) rfl rfl ?_
        obtain ⟨rfl, rfl, rfl, rfl, rfl⟩ := so5 h
        exact zJ_iret dX1_readHorses_46 rfl rfl
  · replace h := it_f hc h
    refine zJ_iconst dX1_readHorses_13 zc_0 rfl ?_
    obtain ⟨rfl, rfl, rfl, rfl, rfl⟩ := so5 h
    exact zJ_iret dX1_readHorses_14 rfl rfl
set_option maxRecDepth 100000 in
set_option maxHeartbeats 4000000 in
theorem t_X11_horses (l : Launch) (σ : zS) {text_size : Int32} {text_limit : Int32} {text_at : Int32} {course_horseCount : Int32} {text_signs : (Nat → Int32)} {course_digits : (Nat → Int32)} {r : Int32} {w_text_size : Int32} {w_text_limit : Int32} {w_text_at : Int32} {w_course_horseCount : Int32} {w_course_digits : (Nat → Int32)} (h : f_X11_horses text_size text_limit text_at course_horseCount text_signs course_digits = some (r, w_text_size, w_text_limit, w_text_at, w_course_horseCount, w_course_digits)) : zMt l zW 3 mX11_horses σ ([(65, text_size), (66, text_limit), (67, text_at), (326, course_horseCount)], [(2, text_signs), (10, course_digits)], []) [.ref 0] (some (.int r)) ([(65, w_text_size), (66, w_text_limit), (67, w_text_at), (326, w_course_horseCount)], [(2, text_signs), (10, w_course_digits)], []) := by
  refine zMt_of (ls := [(0, .ref 0)]) (by decide) rfl (fun _ => Nat.le_of_ble_eq_true rfl) rfl ?_
  unfold f_X11_horses at h
  refine zJ_aload_n dX11_horses_0 rfl rfl ?_
  refine zJ_getr (mi := mX11_horses) dX11_horses_1 F_X11_26 zW_0 rfl rfl ?_
  refine zJ_aload_n dX11_horses_4 rfl rfl ?_
  refine zJ_getr (mi := mX11_horses) dX11_horses_5 F_X11_10 zW_0 rfl rfl ?_
  obtain ⟨rn1, text_limitn2, text_atn3, course_horseCountn4, course_digitsn5, hcl, h⟩ := bd5_some h
  refine zJ_callV2 (σ := σ) (L := ([(65, text_size), (66, text_limit), (67, text_at), (326, course_horseCount)], [(2, text_signs), (10, course_digits)], [])) (mi := mX11_horses) (yi := mX1_readHorses) (as := [.ref 1]) (st := []) (L2 := ([(65, text_size), (66, text_limitn2), (67, text_atn3), (326, course_horseCountn4)], [(2, text_signs), (10, course_digitsn5)], [])) dX11_horses_8 ML_X11_114 Yv_X1_readHorses rfl zW_5 rfl rfl (t_X1_readHorses l _ hcl) (zsub_i (zle_c rfl (zle_c rfl (zle_c rfl (zle_c rfl zle_n)))) (zle_c rfl (zle_c rfl zle_n)) zle_n) (zjok_i rfl rfl (zle_c rfl (zle_c rfl (zle_c rfl (zle_c rfl zle_n)))) rfl rfl (zle_c rfl (zle_c rfl zle_n)) rfl rfl zle_n) (Nat.le_of_ble_eq_true rfl) (Nat.le_of_ble_eq_true rfl) rfl rfl ?_
  refine zJ_istore_n (ls' := [(1, .int rn1), (0, .ref 0)]) dX11_horses_11 rfl rfl rfl ?_
  refine zJ_aload_n dX11_horses_12 rfl rfl ?_
  refine zJ_getr (mi := mX11_horses) dX11_horses_13 F_X11_10 zW_0 rfl rfl ?_
  obtain ⟨text_sizen6, hcl, h⟩ := bd1_some h
  refine zJ_callV2 (σ := σ) (L := ([(65, text_size), (66, text_limitn2), (67, text_atn3), (326, course_horseCountn4)], [(2, text_signs), (10, course_digitsn5)], [])) (mi := mX11_horses) (yi := mX9_clear) (as := []) (st := []) (L2 := ([(65, text_sizen6), (66, text_limitn2), (67, text_atn3), (326, course_horseCountn4)], [(2, text_signs), (10, course_digitsn5)], [])) dX11_horses_16 ML_X11_104 Yv_X9_clear rfl zW_1 rfl rfl (t_X9_clear l _ hcl) (zsub_i (zle_c rfl zle_n) zle_n zle_n) (zjok_i rfl rfl (zle_c rfl (zle_c rfl (zle_c rfl (zle_c rfl zle_n)))) rfl rfl (zle_c rfl (zle_c rfl zle_n)) rfl rfl zle_n) (Nat.le_of_ble_eq_true rfl) (Nat.le_of_ble_eq_true rfl) rfl rfl ?_
  refine zJ_iload_n dX11_horses_19 rfl rfl ?_
  obtain ⟨rfl, rfl, rfl, rfl, rfl, rfl⟩ := so6 h
  exact zJ_iret dX11_horses_20 rfl rfl
set_option maxRecDepth 100000 in
set_option maxHeartbeats 4000000 in
theorem t_X11_jump (l : Launch) (σ : zS) {p1 : Int32} {p2 : Int32} {p3 : Int32} {numbers_size : Int32} {course_fences : Int32} {course_horseCount : Int32} {course_rule_size : Int32} {course_kinds : (Nat → Int32)} {course_heights : (Nat → Int32)} {course_feet : (Nat → Int32)} {course_digits : (Nat → Int32)} {rule_codes : (Nat → Int32)} {rule_stack : (Nat → Int32)} {rule_things : (Nat → Int32)} {numbers_told : (Nat → Int64)} {r : Int32} {w_numbers_size : Int32} {w_rule_stack : (Nat → Int32)} {w_rule_things : (Nat → Int32)} {w_numbers_told : (Nat → Int64)} (h : f_X11_jump p1 p2 p3 numbers_size course_fences course_horseCount course_rule_size course_kinds course_heights course_feet course_digits rule_codes rule_stack rule_things numbers_told = some (r, w_numbers_size, w_rule_stack, w_rule_things, w_numbers_told)) : zMt l zW 4 mX11_jump σ ([(193, numbers_size), (323, course_fences), (326, course_horseCount), (769, course_rule_size)], [(6, course_kinds), (7, course_heights), (8, course_feet), (10, course_digits), (13, rule_codes), (15, rule_stack), (16, rule_things)], [(4, numbers_told)]) [.ref 0, .int p1, .int p2, .int p3] (some (.int r)) ([(193, w_numbers_size), (323, course_fences), (326, course_horseCount), (769, course_rule_size)], [(6, course_kinds), (7, course_heights), (8, course_feet), (10, course_digits), (13, rule_codes), (15, w_rule_stack), (16, w_rule_things)], [(4, w_numbers_told)]) := by
  refine zMt_of (ls := [(0, .ref 0), (1, .int p1), (2, .int p2), (3, .int p3)]) (by decide) rfl (fun _ => Nat.le_of_ble_eq_true rfl) rfl ?_
  unfold f_X11_jump at h
  refine zJ_aload_n dX11_jump_0 rfl rfl ?_
  refine zJ_getr (mi := mX11_jump) dX11_jump_1 F_X11_26 zW_0 rfl rfl ?_
  refine zJ_iload_n dX11_jump_4 rfl rfl ?_
  obtain ⟨rn1, hcl, h⟩ := bd1_some h
  refine zJ_callV2 (σ := σ) (L := ([(193, numbers_size), (323, course_fences), (326, course_horseCount), (769, course_rule_size)], [(6, course_kinds), (7, course_heights), (8, course_feet), (10, course_digits), (13, rule_codes), (15, rule_stack), (16, rule_things)], [(4, numbers_told)])) (mi := mX11_jump) (yi := mX1_hasHorse) (as := [.int p1]) (st := []) (L2 := ([(193, numbers_size), (323, course_fences), (326, course_horseCount), (769, course_rule_size)], [(6, course_kinds), (7, course_heights), (8, course_feet), (10, course_digits), (13, rule_codes), (15, rule_stack), (16, rule_things)], [(4, numbers_told)])) dX11_jump_5 ML_X11_147 Yv_X1_hasHorse rfl zW_5 rfl rfl (t_X1_hasHorse l _ hcl) (zsub_i (zle_c rfl zle_n) zle_n zle_n) (zjok_i rfl rfl (zle_c rfl (zle_c rfl (zle_c rfl (zle_c rfl zle_n)))) rfl rfl (zle_c rfl (zle_c rfl (zle_c rfl (zle_c rfl (zle_c rfl (zle_c rfl (zle_c rfl zle_n))))))) rfl rfl (zle_c rfl zle_n)) (Nat.le_of_ble_eq_true rfl) (Nat.le_of_ble_eq_true rfl) rfl rfl ?_
  refine zJ_if_eq (tgt := 32) dX11_jump_8 (by decide) rfl (fun hc => ?_) (fun hc => ?_)
  · replace h := it_t hc h
    refine zJ_iconst dX11_jump_32 zc_m1 rfl ?_
    obtain ⟨rfl, rfl, rfl, rfl, rfl⟩ := so5 h
    exact zJ_iret dX11_jump_33 rfl rfl
  · replace h := it_f hc h
    refine zJ_aload_n dX11_jump_11 rfl rfl ?_
    refine zJ_getr (mi := mX11_jump) dX11_jump_12 F_X11_26 zW_0 rfl rfl ?_
    refine zJ_iload_n dX11_jump_15 rfl rfl ?_
    obtain ⟨rn2, hcl, h⟩ := bd1_some h
    refine zJ_callV2 (σ := σ) (L := ([(193, numbers_size), (323, course_fences), (326, course_horseCount), (769, course_rule_size)], [(6, course_kinds), (7, course_heights), (8, course_feet), (10, course_digits), (13, rule_codes), (15, rule_stack), (16, rule_things)], [(4, numbers_told)])) (mi := mX11_jump) (yi := mX1_hasFence) (as := [.int p2]) (st := []) (L2 := ([(193, numbers_size), (323, course_fences), (326, course_horseCount), (769, course_rule_size)], [(6, course_kinds), (7, course_heights), (8, course_feet), (10, course_digits), (13, rule_codes), (15, rule_stack), (16, rule_things)], [(4, numbers_told)])) dX11_jump_16 ML_X11_132 Yv_X1_hasFence rfl zW_5 rfl rfl (t_X1_hasFence l _ hcl) (zsub_i (zle_c rfl zle_n) zle_n zle_n) (zjok_i rfl rfl (zle_c rfl (zle_c rfl (zle_c rfl (zle_c rfl zle_n)))) rfl rfl (zle_c rfl (zle_c rfl (zle_c rfl (zle_c rfl (zle_c rfl (zle_c rfl (zle_c rfl zle_n))))))) rfl rfl (zle_c rfl zle_n)) (Nat.le_of_ble_eq_true rfl) (Nat.le_of_ble_eq_true rfl) rfl rfl ?_
    refine zJ_if_eq (tgt := 32) dX11_jump_19 (by decide) rfl (fun hc => ?_) (fun hc => ?_)
    · replace h := it_t hc h
      refine zJ_iconst dX11_jump_32 zc_m1 rfl ?_
      obtain ⟨rfl, rfl, rfl, rfl, rfl⟩ := so5 h
      exact zJ_iret dX11_jump_33 rfl rfl
    · replace h := it_f hc h
      refine zJ_iload_n dX11_jump_22 rfl rfl ?_
      refine zJ_if_lt (tgt := 32) dX11_jump_23 (by decide) rfl (fun hc => ?_) (fun hc => ?_)
      · replace h := it_t hc h
        refine zJ_iconst dX11_jump_32 zc_m1 rfl ?_
        obtain ⟨rfl, rfl, rfl, rfl, rfl⟩ := so5 h
        exact zJ_iret dX11_jump_33 rfl rfl
      · replace h := it_f hc h
        refine zJ_iload_n dX11_jump_26 rfl rfl ?_
        refine zJ_bipush dX11_jump_27 zb_8 rfl ?_
        refine zJ_icmp_lt (tgt := 34) dX11_jump_29 (by decide) rfl (fun hc => ?_) (fun hc => ?_)
        · replace h := it_t hc h
          refine zJ_aload_n dX11_jump_34 rfl rfl ?_
          refine zJ_getr (mi := mX11_jump) dX11_jump_35 F_X11_19 zW_0 rfl rfl ?_
          obtain ⟨numbers_sizen3, hcl, h⟩ := bd1_some h
          refine zJ_callV2 (σ := σ) (L := ([(193, numbers_size), (323, course_fences), (326, course_horseCount), (769, course_rule_size)], [(6, course_kinds), (7, course_heights), (8, course_feet), (10, course_digits), (13, rule_codes), (15, rule_stack), (16, rule_things)], [(4, numbers_told)])) (mi := mX11_jump) (yi := mX6_start) (as := []) (st := []) (L2 := ([(193, numbers_sizen3), (323, course_fences), (326, course_horseCount), (769, course_rule_size)], [(6, course_kinds), (7, course_heights), (8, course_feet), (10, course_digits), (13, rule_codes), (15, rule_stack), (16, rule_things)], [(4, numbers_told)])) dX11_jump_38 ML_X11_171 Yv_X6_start rfl zW_3 rfl rfl (t_X6_start l _ hcl) (zsub_i (zle_c rfl zle_n) zle_n zle_n) (zjok_i rfl rfl (zle_c rfl (zle_c rfl (zle_c rfl (zle_c rfl zle_n)))) rfl rfl (zle_c rfl (zle_c rfl (zle_c rfl (zle_c rfl (zle_c rfl (zle_c rfl (zle_c rfl zle_n))))))) rfl rfl (zle_c rfl zle_n)) (Nat.le_of_ble_eq_true rfl) (Nat.le_of_ble_eq_true rfl) rfl rfl ?_
          refine zJ_aload_n dX11_jump_41 rfl rfl ?_
          refine zJ_getr (mi := mX11_jump) dX11_jump_42 F_X11_19 zW_0 rfl rfl ?_
          refine zJ_aload_n dX11_jump_45 rfl rfl ?_
          refine zJ_getr (mi := mX11_jump) dX11_jump_46 F_X11_26 zW_0 rfl rfl ?_
          refine zJ_iload_n dX11_jump_49 rfl rfl ?_
          refine zJ_iload_n dX11_jump_50 rfl rfl ?_
          obtain ⟨rn4, hcl, h⟩ := bd1_some h
          refine zJ_callV2 (σ := σ) (L := ([(193, numbers_sizen3), (323, course_fences), (326, course_horseCount), (769, course_rule_size)], [(6, course_kinds), (7, course_heights), (8, course_feet), (10, course_digits), (13, rule_codes), (15, rule_stack), (16, rule_things)], [(4, numbers_told)])) (mi := mX11_jump) (yi := mX1_refusalOdds) (as := [.int p1, .int p2]) (st := [.ref 3]) (L2 := ([(193, numbers_sizen3), (323, course_fences), (326, course_horseCount), (769, course_rule_size)], [(6, course_kinds), (7, course_heights), (8, course_feet), (10, course_digits), (13, rule_codes), (15, rule_stack), (16, rule_things)], [(4, numbers_told)])) dX11_jump_51 ML_X11_174 Yv_X1_refusalOdds rfl zW_5 rfl rfl (t_X1_refusalOdds l _ hcl) (zsub_i zle_n (zle_c rfl (zle_c rfl (zle_c rfl zle_n))) zle_n) (zjok_i rfl rfl (zle_c rfl (zle_c rfl (zle_c rfl (zle_c rfl zle_n)))) rfl rfl (zle_c rfl (zle_c rfl (zle_c rfl (zle_c rfl (zle_c rfl (zle_c rfl (zle_c rfl zle_n))))))) rfl rfl (zle_c rfl zle_n)) (Nat.le_of_ble_eq_true rfl) (Nat.le_of_ble_eq_true rfl) rfl rfl ?_
          refine zJ_i2l dX11_jump_54 rfl ?_
          obtain ⟨numbers_sizen5, numbers_toldn6, hcl, h⟩ := bd2_some h
          refine zJ_callV2 (σ := σ) (L := ([(193, numbers_sizen3), (323, course_fences), (326, course_horseCount), (769, course_rule_size)], [(6, course_kinds), (7, course_heights), (8, course_feet), (10, course_digits), (13, rule_codes), (15, rule_stack), (16, rule_things)], [(4, numbers_told)])) (mi := mX11_jump) (yi := mX6_put) (as := [.long rn4.toInt64]) (st := []) (L2 := ([(193, numbers_sizen5), (323, course_fences), (326, course_horseCount), (769, course_rule_size)], [(6, course_kinds), (7, course_heights), (8, course_feet), (10, course_digits), (13, rule_codes), (15, rule_stack), (16, rule_things)], [(4, numbers_toldn6)])) dX11_jump_55 ML_X11_177 Yv_X6_put rfl zW_3 rfl rfl (t_X6_put l _ hcl) (zsub_i (zle_c rfl zle_n) zle_n (zle_c rfl zle_n)) (zjok_i rfl rfl (zle_c rfl (zle_c rfl (zle_c rfl (zle_c rfl zle_n)))) rfl rfl (zle_c rfl (zle_c rfl (zle_c rfl (zle_c rfl (zle_c rfl (zle_c rfl (zle_c rfl zle_n))))))) rfl rfl (zle_c rfl zle_n)) (Nat.le_of_ble_eq_true rfl) (Nat.le_of_ble_eq_true rfl) rfl rfl ?_
          refine zJ_aload_n dX11_jump_58 rfl rfl ?_
          refine zJ_getr (mi := mX11_jump) dX11_jump_59 F_X11_19 zW_0 rfl rfl ?_
          refine zJ_aload_n dX11_jump_62 rfl rfl ?_
          refine zJ_getr (mi := mX11_jump) dX11_jump_63 F_X11_26 zW_0 rfl rfl ?_
          refine zJ_iload_n dX11_jump_66 rfl rfl ?_
          refine zJ_iload_n dX11_jump_67 rfl rfl ?_
          obtain ⟨rn7, hcl, h⟩ := bd1_some h
          refine zJ_callV2 (σ := σ) (L := ([(193, numbers_sizen5), (323, course_fences), (326, course_horseCount), (769, course_rule_size)], [(6, course_kinds), (7, course_heights), (8, course_feet), (10, course_digits), (13, rule_codes), (15, rule_stack), (16, rule_things)], [(4, numbers_toldn6)])) (mi := mX11_jump) (yi := mX1_fenceTenths) (as := [.int p2, .int p3]) (st := [.ref 3]) (L2 := ([(193, numbers_sizen5), (323, course_fences), (326, course_horseCount), (769, course_rule_size)], [(6, course_kinds), (7, course_heights), (8, course_feet), (10, course_digits), (13, rule_codes), (15, rule_stack), (16, rule_things)], [(4, numbers_toldn6)])) dX11_jump_68 ML_X11_181 Yv_X1_fenceTenths rfl zW_5 rfl rfl (t_X1_fenceTenths l _ hcl) (zsub_i zle_n (zle_c rfl (zle_c rfl zle_n)) zle_n) (zjok_i rfl rfl (zle_c rfl (zle_c rfl (zle_c rfl (zle_c rfl zle_n)))) rfl rfl (zle_c rfl (zle_c rfl (zle_c rfl (zle_c rfl (zle_c rfl (zle_c rfl (zle_c rfl zle_n))))))) rfl rfl (zle_c rfl zle_n)) (Nat.le_of_ble_eq_true rfl) (Nat.le_of_ble_eq_true rfl) rfl rfl ?_
          refine zJ_i2l dX11_jump_71 rfl ?_
          obtain ⟨numbers_sizen8, numbers_toldn9, hcl, h⟩ := bd2_some h
          refine zJ_callV2 (σ := σ) (L := ([(193, numbers_sizen5), (323, course_fences), (326, course_horseCount), (769, course_rule_size)], [(6, course_kinds), (7, course_heights), (8, course_feet), (10, course_digits), (13, rule_codes), (15, rule_stack), (16, rule_things)], [(4, numbers_toldn6)])) (mi := mX11_jump) (yi := mX6_put) (as := [.long rn7.toInt64]) (st := []) (L2 := ([(193, numbers_sizen8), (323, course_fences), (326, course_horseCount), (769, course_rule_size)], [(6, course_kinds), (7, course_heights), (8, course_feet), (10, course_digits), (13, rule_codes), (15, rule_stack), (16, rule_things)], [(4, numbers_toldn9)])) dX11_jump_72 ML_X11_177 Yv_X6_put rfl zW_3 rfl rfl (t_X6_put l _ hcl) (zsub_i (zle_c rfl zle_n) zle_n (zle_c rfl zle_n)) (zjok_i rfl rfl (zle_c rfl (zle_c rfl (zle_c rfl (zle_c rfl zle_n)))) rfl rfl (zle_c rfl (zle_c rfl (zle_c rfl (zle_c rfl (zle_c rfl (zle_c rfl (zle_c rfl zle_n))))))) rfl rfl (zle_c rfl zle_n)) (Nat.le_of_ble_eq_true rfl) (Nat.le_of_ble_eq_true rfl) rfl rfl ?_
          refine zJ_aload_n dX11_jump_75 rfl rfl ?_
          refine zJ_getr (mi := mX11_jump) dX11_jump_76 F_X11_19 zW_0 rfl rfl ?_
          refine zJ_aload_n dX11_jump_79 rfl rfl ?_
          refine zJ_getr (mi := mX11_jump) dX11_jump_80 F_X11_26 zW_0 rfl rfl ?_
          refine zJ_iload_n dX11_jump_83 rfl rfl ?_
          refine zJ_iload_n dX11_jump_84 rfl rfl ?_
          obtain ⟨rn10, hcl, h⟩ := bd1_some h
          refine zJ_callV2 (σ := σ) (L := ([(193, numbers_sizen8), (323, course_fences), (326, course_horseCount), (769, course_rule_size)], [(6, course_kinds), (7, course_heights), (8, course_feet), (10, course_digits), (13, rule_codes), (15, rule_stack), (16, rule_things)], [(4, numbers_toldn9)])) (mi := mX11_jump) (yi := mX1_leanAt) (as := [.int p1, .int p2]) (st := [.ref 3]) (L2 := ([(193, numbers_sizen8), (323, course_fences), (326, course_horseCount), (769, course_rule_size)], [(6, course_kinds), (7, course_heights), (8, course_feet), (10, course_digits), (13, rule_codes), (15, rule_stack), (16, rule_things)], [(4, numbers_toldn9)])) dX11_jump_85 ML_X11_184 Yv_X1_leanAt rfl zW_5 rfl rfl (t_X1_leanAt l _ hcl) (zsub_i zle_n (zle_c rfl (zle_c rfl zle_n)) zle_n) (zjok_i rfl rfl (zle_c rfl (zle_c rfl (zle_c rfl (zle_c rfl zle_n)))) rfl rfl (zle_c rfl (zle_c rfl (zle_c rfl (zle_c rfl (zle_c rfl (zle_c rfl (zle_c rfl zle_n))))))) rfl rfl (zle_c rfl zle_n)) (Nat.le_of_ble_eq_true rfl) (Nat.le_of_ble_eq_true rfl) rfl rfl ?_
          refine zJ_i2l dX11_jump_88 rfl ?_
          obtain ⟨numbers_sizen11, numbers_toldn12, hcl, h⟩ := bd2_some h
          refine zJ_callV2 (σ := σ) (L := ([(193, numbers_sizen8), (323, course_fences), (326, course_horseCount), (769, course_rule_size)], [(6, course_kinds), (7, course_heights), (8, course_feet), (10, course_digits), (13, rule_codes), (15, rule_stack), (16, rule_things)], [(4, numbers_toldn9)])) (mi := mX11_jump) (yi := mX6_put) (as := [.long rn10.toInt64]) (st := []) (L2 := ([(193, numbers_sizen11), (323, course_fences), (326, course_horseCount), (769, course_rule_size)], [(6, course_kinds), (7, course_heights), (8, course_feet), (10, course_digits), (13, rule_codes), (15, rule_stack), (16, rule_things)], [(4, numbers_toldn12)])) dX11_jump_89 ML_X11_177 Yv_X6_put rfl zW_3 rfl rfl (t_X6_put l _ hcl) (zsub_i (zle_c rfl zle_n) zle_n (zle_c rfl zle_n)) (zjok_i rfl rfl (zle_c rfl (zle_c rfl (zle_c rfl (zle_c rfl zle_n)))) rfl rfl (zle_c rfl (zle_c rfl (zle_c rfl (zle_c rfl (zle_c rfl (zle_c rfl (zle_c rfl zle_n))))))) rfl rfl (zle_c rfl zle_n)) (Nat.le_of_ble_eq_true rfl) (Nat.le_of_ble_eq_true rfl) rfl rfl ?_
          refine zJ_aload_n dX11_jump_92 rfl rfl ?_
          refine zJ_getr (mi := mX11_jump) dX11_jump_93 F_X11_26 zW_0 rfl rfl ?_
          refine zJ_iload_n dX11_jump_96 rfl rfl ?_
          refine zJ_iload_n dX11_jump_97 rfl rfl ?_
          refine zJ_iload_n dX11_jump_98 rfl rfl ?_
          obtain ⟨rn13, rule_stackn14, rule_thingsn15, hcl, h⟩ := bd3_some h
          refine zJ_callV2 (σ := σ) (L := ([(193, numbers_sizen11), (323, course_fences), (326, course_horseCount), (769, course_rule_size)], [(6, course_kinds), (7, course_heights), (8, course_feet), (10, course_digits), (13, rule_codes), (15, rule_stack), (16, rule_things)], [(4, numbers_toldn12)])) (mi := mX11_jump) (yi := mX1_poleOdds) (as := [.int p1, .int p2, .int p3]) (st := []) (L2 := ([(193, numbers_sizen11), (323, course_fences), (326, course_horseCount), (769, course_rule_size)], [(6, course_kinds), (7, course_heights), (8, course_feet), (10, course_digits), (13, rule_codes), (15, rule_stackn14), (16, rule_thingsn15)], [(4, numbers_toldn12)])) dX11_jump_99 ML_X11_187 Yv_X1_poleOdds rfl zW_5 rfl rfl (t_X1_poleOdds l _ hcl) (zsub_i (zle_c rfl zle_n) (zle_c rfl (zle_c rfl (zle_c rfl (zle_c rfl (zle_c rfl (zle_c rfl (zle_c rfl zle_n))))))) zle_n) (zjok_i rfl rfl (zle_c rfl (zle_c rfl (zle_c rfl (zle_c rfl zle_n)))) rfl rfl (zle_c rfl (zle_c rfl (zle_c rfl (zle_c rfl (zle_c rfl (zle_c rfl (zle_c rfl zle_n))))))) rfl rfl (zle_c rfl zle_n)) (Nat.le_of_ble_eq_true rfl) (Nat.le_of_ble_eq_true rfl) rfl rfl ?_
          obtain ⟨rfl, rfl, rfl, rfl, rfl⟩ := so5 h
          exact zJ_iret dX11_jump_102 rfl rfl
        · replace h := it_f hc h
          refine zJ_iconst dX11_jump_32 zc_m1 rfl ?_
          obtain ⟨rfl, rfl, rfl, rfl, rfl⟩ := so5 h
          exact zJ_iret dX11_jump_33 rfl rfl
set_option maxRecDepth 100000 in
set_option maxHeartbeats 4000000 in
theorem t_X11_justFall (l : Launch) (σ : zS) {p1 : Int32} {p2 : Int32} {p3 : Int32} {p4 : Int32} {course_rule_size : Int32} {course_kinds : (Nat → Int32)} {course_heights : (Nat → Int32)} {course_feet : (Nat → Int32)} {course_digits : (Nat → Int32)} {course_plans : (Nat → Int32)} {rule_codes : (Nat → Int32)} {rule_stack : (Nat → Int32)} {rule_things : (Nat → Int32)} {chances : (Nat → Int64)} {r : Int64} {w_rule_stack : (Nat → Int32)} {w_rule_things : (Nat → Int32)} {w_chances : (Nat → Int64)} (h : f_X11_justFall p1 p2 p3 p4 course_rule_size course_kinds course_heights course_feet course_digits course_plans rule_codes rule_stack rule_things chances = some (r, w_rule_stack, w_rule_things, w_chances)) : zMt l zW 4 mX11_justFall σ ([(769, course_rule_size)], [(6, course_kinds), (7, course_heights), (8, course_feet), (10, course_digits), (11, course_plans), (13, rule_codes), (15, rule_stack), (16, rule_things)], [(52, chances)]) [.ref 0, .int p1, .int p2, .int p3, .int p4] (some (.long r)) ([(769, course_rule_size)], [(6, course_kinds), (7, course_heights), (8, course_feet), (10, course_digits), (11, course_plans), (13, rule_codes), (15, w_rule_stack), (16, w_rule_things)], [(52, w_chances)]) := by
  refine zMt_of (ls := [(0, .ref 0), (1, .int p1), (2, .int p2), (3, .int p3), (4, .int p4)]) (by decide) rfl (fun _ => Nat.le_of_ble_eq_true rfl) rfl ?_
  unfold f_X11_justFall at h
  refine zJ_aload_n dX11_justFall_0 rfl rfl ?_
  refine zJ_getr (mi := mX11_justFall) dX11_justFall_1 F_X11_84 zW_0 rfl rfl ?_
  refine zJ_lconst dX11_justFall_4 zl_0 rfl ?_
  obtain ⟨chancesn1, hcl, h⟩ := bd1_some h
  refine zJ_callS2 (σ := σ) (L := ([(769, course_rule_size)], [(6, course_kinds), (7, course_heights), (8, course_feet), (10, course_digits), (11, course_plans), (13, rule_codes), (15, rule_stack), (16, rule_things)], [(52, chances)])) (mi := mX11_justFall) (yi := mJ7_fill_d0a16) (as := [.ref 52, .long (0 : Int64)]) (st := []) (L2 := ([(769, course_rule_size)], [(6, course_kinds), (7, course_heights), (8, course_feet), (10, course_digits), (11, course_plans), (13, rule_codes), (15, rule_stack), (16, rule_things)], [(52, chancesn1)])) dX11_justFall_5 ML_X11_203 Ys_J7_fill_d0a16 rfl (t_J7_fill_d0a16_chances l _ hcl) (zsub_i zle_n zle_n (zle_c rfl zle_n)) (zjok_i rfl rfl (zle_c rfl zle_n) rfl rfl (zle_c rfl (zle_c rfl (zle_c rfl (zle_c rfl (zle_c rfl (zle_c rfl (zle_c rfl (zle_c rfl zle_n)))))))) rfl rfl (zle_c rfl zle_n)) (Nat.le_of_ble_eq_true rfl) (Nat.le_of_ble_eq_true rfl) rfl rfl ?_
  refine zJ_aload_n dX11_justFall_8 rfl rfl ?_
  refine zJ_getr (mi := mX11_justFall) dX11_justFall_9 F_X11_84 zW_0 rfl rfl ?_
  refine zJ_iconst dX11_justFall_12 zc_0 rfl ?_
  refine zJ_lconst dX11_justFall_13 zl_1 rfl ?_
  obtain ⟨hg, h⟩ := gd_some h
  refine zK_last (mi := mX11_justFall) (f := chancesn1) (lc' := [(52, (vp_updL chancesn1 (0 : Int32).toNatClampNeg (1 : Int64)))]) dX11_justFall_14 zW_52 (ix_in hg) rfl rfl rfl ?_
  refine zJ_iconst dX11_justFall_15 zc_0 rfl ?_
  refine zJ_istore (ls' := [(5, .int (0 : Int32)), (0, .ref 0), (1, .int p1), (2, .int p2), (3, .int p3), (4, .int p4)]) dX11_justFall_16 rfl rfl rfl ?_
  have hk18 : ∀ (rule_stack_18x : (Nat → Int32)) (rule_things_18x : (Nat → Int32)) (chances_18x : (Nat → Int64)), k_X11_justFall_18 p2 rule_stack_18x rule_things_18x chances_18x = some (r, w_rule_stack, w_rule_things, w_chances) → zJ l zW 4 mX11_justFall σ ([(769, course_rule_size)], [(6, course_kinds), (7, course_heights), (8, course_feet), (10, course_digits), (11, course_plans), (13, rule_codes), (15, rule_stack_18x), (16, rule_things_18x)], [(52, chances_18x)]) 128 [(0, .ref 0), (2, .int p2)] [] (some (.long r)) ([(769, course_rule_size)], [(6, course_kinds), (7, course_heights), (8, course_feet), (10, course_digits), (11, course_plans), (13, rule_codes), (15, w_rule_stack), (16, w_rule_things)], [(52, w_chances)]) := by
    intro rule_stack_18x rule_things_18x chances_18x h
    unfold k_X11_justFall_18 at h
    refine zJ_iload_n dX11_justFall_128 rfl rfl ?_
    refine zJ_if_lt (tgt := 147) dX11_justFall_129 (by decide) rfl (fun hc => ?_) (fun hc => ?_)
    · replace h := it_t hc h
      refine zJ_lconst dX11_justFall_147 zl_0 rfl ?_
      obtain ⟨rfl, rfl, rfl, rfl⟩ := so4 h
      exact zJ_lret dX11_justFall_148 rfl
    · replace h := it_f hc h
      refine zJ_iload_n dX11_justFall_132 rfl rfl ?_
      refine zJ_bipush dX11_justFall_133 zb_6 rfl ?_
      refine zJ_icmp_gt (tgt := 147) dX11_justFall_135 (by decide) rfl (fun hc => ?_) (fun hc => ?_)
      · replace h := it_t hc h
        refine zJ_lconst dX11_justFall_147 zl_0 rfl ?_
        obtain ⟨rfl, rfl, rfl, rfl⟩ := so4 h
        exact zJ_lret dX11_justFall_148 rfl
      · replace h := it_f hc h
        refine zJ_aload_n dX11_justFall_138 rfl rfl ?_
        refine zJ_getr (mi := mX11_justFall) dX11_justFall_139 F_X11_84 zW_0 rfl rfl ?_
        refine zJ_iload_n dX11_justFall_142 rfl rfl ?_
        obtain ⟨hg, h⟩ := gd_some h
        refine zJ_lald (mi := mX11_justFall) (f := chances_18x) dX11_justFall_143 zW_52 (ix_in hg) rfl rfl ?_
        refine zJ_goto (tgt := 148) dX11_justFall_144 (by decide) ?_
        obtain ⟨rfl, rfl, rfl, rfl⟩ := so4 h
        exact zJ_lret dX11_justFall_148 rfl
  refine zJ_loc (ls' := [(0, .ref 0), (1, .int p1), (2, .int p2), (3, .int p3), (4, .int p4), (5, .int (0 : Int32))]) (zll_c rfl (zll_c rfl (zll_c rfl (zll_c rfl (zll_c rfl (zll_c rfl zll_n)))))) ?_
  refine ml4_J (fun (v5_18 : Int32) (rule_stack_18 : (Nat → Int32)) (rule_things_18 : (Nat → Int32)) (chances_18 : (Nat → Int64)) => zJ l zW 4 mX11_justFall σ ([(769, course_rule_size)], [(6, course_kinds), (7, course_heights), (8, course_feet), (10, course_digits), (11, course_plans), (13, rule_codes), (15, rule_stack_18), (16, rule_things_18)], [(52, chances_18)]) 18 [(0, .ref 0), (1, .int p1), (2, .int p2), (3, .int p3), (4, .int p4), (5, .int v5_18)] [] (some (.long r)) ([(769, course_rule_size)], [(6, course_kinds), (7, course_heights), (8, course_feet), (10, course_digits), (11, course_plans), (13, rule_codes), (15, w_rule_stack), (16, w_rule_things)], [(52, w_chances)])) (fun rc18 hrc18 v5_18 rule_stack_18 rule_things_18 chances_18 h => ?_) zN _ _ _ _ h
  unfold s_X11_justFall_18 at h
  refine zJ_iload dX11_justFall_18 rfl rfl ?_
  refine zJ_iload_n dX11_justFall_20 rfl rfl ?_
  refine zJ_icmp_ge (tgt := 128) dX11_justFall_21 (by decide) rfl (fun hc => ?_) (fun hc => ?_)
  · replace h := it_t hc h
    refine zJ_loc (ls' := [(0, .ref 0), (2, .int p2)]) (zll_c rfl (zll_c rfl zll_n)) ?_
    exact hk18 _ _ _ h
  · replace h := it_f hc h
    refine zJ_bipush dX11_justFall_24 zb_100 rfl ?_
    refine zJ_aload_n dX11_justFall_26 rfl rfl ?_
    refine zJ_getr (mi := mX11_justFall) dX11_justFall_27 F_X11_26 zW_0 rfl rfl ?_
    refine zJ_iload dX11_justFall_30 rfl rfl ?_
    refine zJ_iload_n dX11_justFall_32 rfl rfl ?_
    refine zJ_aload_n dX11_justFall_33 rfl rfl ?_
    refine zJ_getr (mi := mX11_justFall) dX11_justFall_34 F_X11_26 zW_0 rfl rfl ?_
    refine zJ_iconst dX11_justFall_37 zc_0 rfl ?_
    refine zJ_iload_n dX11_justFall_38 rfl rfl ?_
    obtain ⟨rn2, hcl, h⟩ := bd1_some h
    refine zJ_callV2 (σ := σ) (L := ([(769, course_rule_size)], [(6, course_kinds), (7, course_heights), (8, course_feet), (10, course_digits), (11, course_plans), (13, rule_codes), (15, rule_stack_18), (16, rule_things_18)], [(52, chances_18)])) (mi := mX11_justFall) (yi := mX1_letterAt) (as := [.int (0 : Int32), .int p1]) (st := [.int p1, .int v5_18, .ref 5, .int (100 : Int32)]) (L2 := ([(769, course_rule_size)], [(6, course_kinds), (7, course_heights), (8, course_feet), (10, course_digits), (11, course_plans), (13, rule_codes), (15, rule_stack_18), (16, rule_things_18)], [(52, chances_18)])) dX11_justFall_39 ML_X11_194 Yv_X1_letterAt rfl zW_5 rfl rfl (t_X1_letterAt l _ hcl) (zsub_i zle_n (zle_c rfl zle_n) zle_n) (zjok_i rfl rfl (zle_c rfl zle_n) rfl rfl (zle_c rfl (zle_c rfl (zle_c rfl (zle_c rfl (zle_c rfl (zle_c rfl (zle_c rfl (zle_c rfl zle_n)))))))) rfl rfl (zle_c rfl zle_n)) (Nat.le_of_ble_eq_true rfl) (Nat.le_of_ble_eq_true rfl) rfl rfl ?_
    obtain ⟨rn3, rule_stackn4, rule_thingsn5, hcl, h⟩ := bd3_some h
    refine zJ_callV2 (σ := σ) (L := ([(769, course_rule_size)], [(6, course_kinds), (7, course_heights), (8, course_feet), (10, course_digits), (11, course_plans), (13, rule_codes), (15, rule_stack_18), (16, rule_things_18)], [(52, chances_18)])) (mi := mX11_justFall) (yi := mX1_poleOdds) (as := [.int v5_18, .int p1, .int rn2]) (st := [.int (100 : Int32)]) (L2 := ([(769, course_rule_size)], [(6, course_kinds), (7, course_heights), (8, course_feet), (10, course_digits), (11, course_plans), (13, rule_codes), (15, rule_stackn4), (16, rule_thingsn5)], [(52, chances_18)])) dX11_justFall_42 ML_X11_187 Yv_X1_poleOdds rfl zW_5 rfl rfl (t_X1_poleOdds l _ hcl) (zsub_i (zle_c rfl zle_n) (zle_c rfl (zle_c rfl (zle_c rfl (zle_c rfl (zle_c rfl (zle_c rfl (zle_c rfl zle_n))))))) zle_n) (zjok_i rfl rfl (zle_c rfl zle_n) rfl rfl (zle_c rfl (zle_c rfl (zle_c rfl (zle_c rfl (zle_c rfl (zle_c rfl (zle_c rfl (zle_c rfl zle_n)))))))) rfl rfl (zle_c rfl zle_n)) (Nat.le_of_ble_eq_true rfl) (Nat.le_of_ble_eq_true rfl) rfl rfl ?_
    refine zJ_iload dX11_justFall_45 rfl rfl ?_
    refine zJ_iadd dX11_justFall_47 rfl ?_
    refine zJ_mmin (mi := mX11_justFall) dX11_justFall_48 L_X11_163 K_min_s K_math K_min_c (Nat.le_of_ble_eq_true rfl) (Nat.le_of_ble_eq_true rfl) rfl ?_
    obtain ⟨v6n6, ev6n6, h⟩ := lt1_some h
    refine zJ_nmi ev6n6 ?_
    refine zJ_istore (ls' := [(6, .int v6n6), (0, .ref 0), (1, .int p1), (2, .int p2), (3, .int p3), (4, .int p4), (5, .int v5_18)]) dX11_justFall_51 rfl rfl rfl ?_
    refine zJ_bipush dX11_justFall_53 zb_6 rfl ?_
    refine zJ_istore (ls' := [(7, .int (6 : Int32)), (6, .int v6n6), (0, .ref 0), (1, .int p1), (2, .int p2), (3, .int p3), (4, .int p4), (5, .int v5_18)]) dX11_justFall_55 rfl rfl rfl ?_
    have hk57 : ∀ (chances_57x : (Nat → Int64)), k_X11_justFall_57 rc18 v5_18 rule_stackn4 rule_thingsn5 v6n6 chances_57x = some (r, w_rule_stack, w_rule_things, w_chances) → zJ l zW 4 mX11_justFall σ ([(769, course_rule_size)], [(6, course_kinds), (7, course_heights), (8, course_feet), (10, course_digits), (11, course_plans), (13, rule_codes), (15, rule_stackn4), (16, rule_thingsn5)], [(52, chances_57x)]) 103 [(0, .ref 0), (1, .int p1), (2, .int p2), (3, .int p3), (4, .int p4), (5, .int v5_18), (6, .int v6n6)] [] (some (.long r)) ([(769, course_rule_size)], [(6, course_kinds), (7, course_heights), (8, course_feet), (10, course_digits), (11, course_plans), (13, rule_codes), (15, w_rule_stack), (16, w_rule_things)], [(52, w_chances)]) := by
      intro chances_57x h
      unfold k_X11_justFall_57 at h
      refine zJ_aload_n dX11_justFall_103 rfl rfl ?_
      refine zJ_getr (mi := mX11_justFall) dX11_justFall_104 F_X11_84 zW_0 rfl rfl ?_
      refine zJ_iconst dX11_justFall_107 zc_0 rfl ?_
      refine zJ_aload_n dX11_justFall_108 rfl rfl ?_
      refine zJ_getr (mi := mX11_justFall) dX11_justFall_109 F_X11_84 zW_0 rfl rfl ?_
      refine zJ_iconst dX11_justFall_112 zc_0 rfl ?_
      obtain ⟨hg, h⟩ := gd_some h
      refine zJ_lald (mi := mX11_justFall) (f := chances_57x) dX11_justFall_113 zW_52 (ix_in hg) rfl rfl ?_
      refine zJ_bipush dX11_justFall_114 zb_100 rfl ?_
      refine zJ_iload dX11_justFall_116 rfl rfl ?_
      refine zJ_isub dX11_justFall_118 rfl ?_
      refine zJ_i2l dX11_justFall_119 rfl ?_
      refine zJ_lmul dX11_justFall_120 rfl ?_
      obtain ⟨hg, h⟩ := gd_some h
      refine zK_last (mi := mX11_justFall) (f := chances_57x) (lc' := [(52, (vp_updL chances_57x (0 : Int32).toNatClampNeg ((chances_57x (0 : Int32).toNatClampNeg) * (((100 : Int32) - v6n6)).toInt64)))]) dX11_justFall_121 zW_52 (ix_in hg) rfl rfl rfl ?_
      obtain ⟨v5n7, ev5n7, h⟩ := lt1_some h
      refine zJ_iincN (ls' := [(5, .int v5n7), (0, .ref 0), (1, .int p1), (2, .int p2), (3, .int p3), (4, .int p4), (6, .int v6n6)]) dX11_justFall_122 rfl rfl zc_1 ev5n7 rfl rfl ?_
      refine zJ_goto (tgt := 18) dX11_justFall_125 (by decide) ?_
      refine zJ_loc (ls' := [(0, .ref 0), (1, .int p1), (2, .int p2), (3, .int p3), (4, .int p4), (5, .int v5n7)]) (zll_c rfl (zll_c rfl (zll_c rfl (zll_c rfl (zll_c rfl (zll_c rfl zll_n)))))) ?_
      exact hrc18 _ _ _ _ h
    refine zJ_loc (ls' := [(0, .ref 0), (1, .int p1), (2, .int p2), (3, .int p3), (4, .int p4), (5, .int v5_18), (6, .int v6n6), (7, .int (6 : Int32))]) (zll_c rfl (zll_c rfl (zll_c rfl (zll_c rfl (zll_c rfl (zll_c rfl (zll_c rfl (zll_c rfl zll_n)))))))) ?_
    refine ml2_J (fun (v7_57 : Int32) (chances_57 : (Nat → Int64)) => zJ l zW 4 mX11_justFall σ ([(769, course_rule_size)], [(6, course_kinds), (7, course_heights), (8, course_feet), (10, course_digits), (11, course_plans), (13, rule_codes), (15, rule_stackn4), (16, rule_thingsn5)], [(52, chances_57)]) 57 [(0, .ref 0), (1, .int p1), (2, .int p2), (3, .int p3), (4, .int p4), (5, .int v5_18), (6, .int v6n6), (7, .int v7_57)] [] (some (.long r)) ([(769, course_rule_size)], [(6, course_kinds), (7, course_heights), (8, course_feet), (10, course_digits), (11, course_plans), (13, rule_codes), (15, w_rule_stack), (16, w_rule_things)], [(52, w_chances)])) (fun rc57 hrc57 v7_57 chances_57 h => ?_) zN _ _ h
    unfold s_X11_justFall_57 at h
    refine zJ_iload dX11_justFall_57 rfl rfl ?_
    refine zJ_if_le (tgt := 103) dX11_justFall_59 (by decide) rfl (fun hc => ?_) (fun hc => ?_)
    · replace h := it_t hc h
      refine zJ_loc (ls' := [(0, .ref 0), (1, .int p1), (2, .int p2), (3, .int p3), (4, .int p4), (5, .int v5_18), (6, .int v6n6)]) (zll_c rfl (zll_c rfl (zll_c rfl (zll_c rfl (zll_c rfl (zll_c rfl (zll_c rfl zll_n))))))) ?_
      exact hk57 _ h
    · replace h := it_f hc h
      refine zJ_aload_n dX11_justFall_62 rfl rfl ?_
      refine zJ_getr (mi := mX11_justFall) dX11_justFall_63 F_X11_84 zW_0 rfl rfl ?_
      refine zJ_iload dX11_justFall_66 rfl rfl ?_
      refine zJ_aload_n dX11_justFall_68 rfl rfl ?_
      refine zJ_getr (mi := mX11_justFall) dX11_justFall_69 F_X11_84 zW_0 rfl rfl ?_
      refine zJ_iload dX11_justFall_72 rfl rfl ?_
      obtain ⟨hg, h⟩ := gd_some h
      refine zJ_lald (mi := mX11_justFall) (f := chances_57) dX11_justFall_74 zW_52 (ix_in hg) rfl rfl ?_
      refine zJ_bipush dX11_justFall_75 zb_100 rfl ?_
      refine zJ_iload dX11_justFall_77 rfl rfl ?_
      refine zJ_isub dX11_justFall_79 rfl ?_
      refine zJ_i2l dX11_justFall_80 rfl ?_
      refine zJ_lmul dX11_justFall_81 rfl ?_
      refine zJ_aload_n dX11_justFall_82 rfl rfl ?_
      refine zJ_getr (mi := mX11_justFall) dX11_justFall_83 F_X11_84 zW_0 rfl rfl ?_
      refine zJ_iload dX11_justFall_86 rfl rfl ?_
      refine zJ_iconst dX11_justFall_88 zc_1 rfl ?_
      refine zJ_isub dX11_justFall_89 rfl ?_
      obtain ⟨hg, h⟩ := gd_some h
      refine zJ_lald (mi := mX11_justFall) (f := chances_57) dX11_justFall_90 zW_52 (ix_in hg) rfl rfl ?_
      refine zJ_iload dX11_justFall_91 rfl rfl ?_
      refine zJ_i2l dX11_justFall_93 rfl ?_
      refine zJ_lmul dX11_justFall_94 rfl ?_
      refine zJ_ladd dX11_justFall_95 rfl ?_
      obtain ⟨hg, h⟩ := gd_some h
      refine zK_last (mi := mX11_justFall) (f := chances_57) (lc' := [(52, (vp_updL chances_57 v7_57.toNatClampNeg (((chances_57 v7_57.toNatClampNeg) * (((100 : Int32) - v6n6)).toInt64) + ((chances_57 (v7_57 - (1 : Int32)).toNatClampNeg) * v6n6.toInt64))))]) dX11_justFall_96 zW_52 (ix_in hg) rfl rfl rfl ?_
      obtain ⟨v7n8, ev7n8, h⟩ := lt1_some h
      refine zJ_iincN (ls' := [(7, .int v7n8), (0, .ref 0), (1, .int p1), (2, .int p2), (3, .int p3), (4, .int p4), (5, .int v5_18), (6, .int v6n6)]) dX11_justFall_97 rfl rfl zc_m1 ev7n8 rfl rfl ?_
      refine zJ_goto (tgt := 57) dX11_justFall_100 (by decide) ?_
      refine zJ_loc (ls' := [(0, .ref 0), (1, .int p1), (2, .int p2), (3, .int p3), (4, .int p4), (5, .int v5_18), (6, .int v6n6), (7, .int v7n8)]) (zll_c rfl (zll_c rfl (zll_c rfl (zll_c rfl (zll_c rfl (zll_c rfl (zll_c rfl (zll_c rfl zll_n)))))))) ?_
      exact hrc57 _ _ h
set_option maxRecDepth 100000 in
set_option maxHeartbeats 4000000 in
theorem t_X8_store_kept (l : Launch) (σ : zS) {p1 : Int32} {rounds_size : Int32} {kept_slots : Int32} {rounds_riders : (Nat → Int32)} {rounds_horses : (Nat → Int32)} {rounds_faults : (Nat → Int32)} {rounds_tenths : (Nat → Int32)} {kept_cells : (Nat → Int32)} {kept_sizes : (Nat → Int32)} {r : Int32} {w_kept_cells : (Nat → Int32)} {w_kept_sizes : (Nat → Int32)} (h : f_X8_store_kept p1 rounds_size kept_slots rounds_riders rounds_horses rounds_faults rounds_tenths kept_cells kept_sizes = some (r, w_kept_cells, w_kept_sizes)) : zMt l zW 1 mX8_store σ ([(1284, rounds_size), (1920, kept_slots)], [(21, rounds_riders), (22, rounds_horses), (23, rounds_faults), (24, rounds_tenths), (31, kept_cells), (32, kept_sizes)], []) [.ref 30, .int p1, .ref 20] (some (.int r)) ([(1284, rounds_size), (1920, kept_slots)], [(21, rounds_riders), (22, rounds_horses), (23, rounds_faults), (24, rounds_tenths), (31, w_kept_cells), (32, w_kept_sizes)], []) := by
  refine zMt_of (ls := [(0, .ref 30), (1, .int p1), (2, .ref 20)]) (by decide) rfl (fun _ => Nat.le_of_ble_eq_true rfl) rfl ?_
  unfold f_X8_store_kept at h
  refine zJ_iload_n dX8_store_0 rfl rfl ?_
  refine zJ_if_lt (tgt := 12) dX8_store_1 (by decide) rfl (fun hc => ?_) (fun hc => ?_)
  · replace h := it_t hc h
    refine zJ_iconst dX8_store_12 zc_0 rfl ?_
    obtain ⟨rfl, rfl, rfl⟩ := so3 h
    exact zJ_iret dX8_store_13 rfl (by decide)
  · replace h := it_f hc h
    refine zJ_iload_n dX8_store_4 rfl rfl ?_
    refine zJ_aload_n dX8_store_5 rfl rfl ?_
    refine zJ_geti (mi := mX8_store) (x := kept_slots) dX8_store_6 F_X8_15 zW_30 rfl rfl rfl ?_
    refine zJ_icmp_lt (tgt := 14) dX8_store_9 (by decide) rfl (fun hc => ?_) (fun hc => ?_)
    · replace h := it_t hc h
      refine zJ_iload_n dX8_store_14 rfl rfl ?_
      refine zJ_bipush dX8_store_15 zb_48 rfl ?_
      refine zJ_imul dX8_store_17 rfl ?_
      obtain ⟨v3n1, ev3n1, h⟩ := lt1_some h
      refine zJ_nmi ev3n1 ?_
      refine zJ_istore_n (ls' := [(3, .int v3n1), (0, .ref 30), (1, .int p1), (2, .ref 20)]) dX8_store_18 rfl rfl rfl ?_
      refine zJ_aload_n dX8_store_19 rfl rfl ?_
      refine zJ_getr (mi := mX8_store) dX8_store_20 F_X8_37 zW_20 rfl rfl ?_
      refine zJ_iconst dX8_store_23 zc_0 rfl ?_
      refine zJ_aload_n dX8_store_24 rfl rfl ?_
      refine zJ_getr (mi := mX8_store) dX8_store_25 F_X8_21 zW_30 rfl rfl ?_
      refine zJ_iload_n dX8_store_28 rfl rfl ?_
      refine zJ_bipush dX8_store_29 zb_12 rfl ?_
      obtain ⟨hg, h⟩ := gd_some h
      refine zK_copyi (mi := mX8_store) (f := rounds_riders) (g := kept_cells) (lb' := [(21, rounds_riders), (22, rounds_horses), (23, rounds_faults), (24, rounds_tenths), (31, (va_cpy rounds_riders kept_cells (0 : Int32).toNatClampNeg v3n1.toNatClampNeg (12 : Int32).toNatClampNeg)), (32, kept_sizes)]) dX8_store_31 L_X8_42 K_cpy_n K_cpy_s K_sys zW_21 zW_31 rfl rfl (cpok_s hg) (Nat.le_of_ble_eq_true rfl) (Nat.le_of_ble_eq_true rfl) rfl rfl ?_
      refine zJ_aload_n dX8_store_34 rfl rfl ?_
      refine zJ_getr (mi := mX8_store) dX8_store_35 F_X8_48 zW_20 rfl rfl ?_
      refine zJ_iconst dX8_store_38 zc_0 rfl ?_
      refine zJ_aload_n dX8_store_39 rfl rfl ?_
      refine zJ_getr (mi := mX8_store) dX8_store_40 F_X8_21 zW_30 rfl rfl ?_
      refine zJ_iload_n dX8_store_43 rfl rfl ?_
      refine zJ_bipush dX8_store_44 zb_12 rfl ?_
      refine zJ_iadd dX8_store_46 rfl ?_
      refine zJ_bipush dX8_store_47 zb_12 rfl ?_
      obtain ⟨hg, h⟩ := gd_some h
      refine zK_copyi (mi := mX8_store) (f := rounds_horses) (g := ((va_cpy rounds_riders kept_cells (0 : Int32).toNatClampNeg v3n1.toNatClampNeg (12 : Int32).toNatClampNeg))) (lb' := [(21, rounds_riders), (22, rounds_horses), (23, rounds_faults), (24, rounds_tenths), (31, (va_cpy rounds_horses ((va_cpy rounds_riders kept_cells (0 : Int32).toNatClampNeg v3n1.toNatClampNeg (12 : Int32).toNatClampNeg)) (0 : Int32).toNatClampNeg (v3n1 + (12 : Int32)).toNatClampNeg (12 : Int32).toNatClampNeg)), (32, kept_sizes)]) dX8_store_49 L_X8_42 K_cpy_n K_cpy_s K_sys zW_22 zW_31 rfl rfl (cpok_s hg) (Nat.le_of_ble_eq_true rfl) (Nat.le_of_ble_eq_true rfl) rfl rfl ?_
      refine zJ_aload_n dX8_store_52 rfl rfl ?_
      refine zJ_getr (mi := mX8_store) dX8_store_53 F_X8_51 zW_20 rfl rfl ?_
      refine zJ_iconst dX8_store_56 zc_0 rfl ?_
      refine zJ_aload_n dX8_store_57 rfl rfl ?_
      refine zJ_getr (mi := mX8_store) dX8_store_58 F_X8_21 zW_30 rfl rfl ?_
      refine zJ_iload_n dX8_store_61 rfl rfl ?_
      refine zJ_bipush dX8_store_62 zb_24 rfl ?_
      refine zJ_iadd dX8_store_64 rfl ?_
      refine zJ_bipush dX8_store_65 zb_12 rfl ?_
      obtain ⟨hg, h⟩ := gd_some h
      refine zK_copyi (mi := mX8_store) (f := rounds_faults) (g := ((va_cpy rounds_horses ((va_cpy rounds_riders kept_cells (0 : Int32).toNatClampNeg v3n1.toNatClampNeg (12 : Int32).toNatClampNeg)) (0 : Int32).toNatClampNeg (v3n1 + (12 : Int32)).toNatClampNeg (12 : Int32).toNatClampNeg))) (lb' := [(21, rounds_riders), (22, rounds_horses), (23, rounds_faults), (24, rounds_tenths), (31, (va_cpy rounds_faults ((va_cpy rounds_horses ((va_cpy rounds_riders kept_cells (0 : Int32).toNatClampNeg v3n1.toNatClampNeg (12 : Int32).toNatClampNeg)) (0 : Int32).toNatClampNeg (v3n1 + (12 : Int32)).toNatClampNeg (12 : Int32).toNatClampNeg)) (0 : Int32).toNatClampNeg (v3n1 + (24 : Int32)).toNatClampNeg (12 : Int32).toNatClampNeg)), (32, kept_sizes)]) dX8_store_67 L_X8_42 K_cpy_n K_cpy_s K_sys zW_23 zW_31 rfl rfl (cpok_s hg) (Nat.le_of_ble_eq_true rfl) (Nat.le_of_ble_eq_true rfl) rfl rfl ?_
      refine zJ_aload_n dX8_store_70 rfl rfl ?_
      refine zJ_getr (mi := mX8_store) dX8_store_71 F_X8_54 zW_20 rfl rfl ?_
      refine zJ_iconst dX8_store_74 zc_0 rfl ?_
      refine zJ_aload_n dX8_store_75 rfl rfl ?_
      refine zJ_getr (mi := mX8_store) dX8_store_76 F_X8_21 zW_30 rfl rfl ?_
      refine zJ_iload_n dX8_store_79 rfl rfl ?_
      refine zJ_bipush dX8_store_80 zb_36 rfl ?_
      refine zJ_iadd dX8_store_82 rfl ?_
      refine zJ_bipush dX8_store_83 zb_12 rfl ?_
      obtain ⟨hg, h⟩ := gd_some h
      refine zK_copyi (mi := mX8_store) (f := rounds_tenths) (g := ((va_cpy rounds_faults ((va_cpy rounds_horses ((va_cpy rounds_riders kept_cells (0 : Int32).toNatClampNeg v3n1.toNatClampNeg (12 : Int32).toNatClampNeg)) (0 : Int32).toNatClampNeg (v3n1 + (12 : Int32)).toNatClampNeg (12 : Int32).toNatClampNeg)) (0 : Int32).toNatClampNeg (v3n1 + (24 : Int32)).toNatClampNeg (12 : Int32).toNatClampNeg))) (lb' := [(21, rounds_riders), (22, rounds_horses), (23, rounds_faults), (24, rounds_tenths), (31, (va_cpy rounds_tenths ((va_cpy rounds_faults ((va_cpy rounds_horses ((va_cpy rounds_riders kept_cells (0 : Int32).toNatClampNeg v3n1.toNatClampNeg (12 : Int32).toNatClampNeg)) (0 : Int32).toNatClampNeg (v3n1 + (12 : Int32)).toNatClampNeg (12 : Int32).toNatClampNeg)) (0 : Int32).toNatClampNeg (v3n1 + (24 : Int32)).toNatClampNeg (12 : Int32).toNatClampNeg)) (0 : Int32).toNatClampNeg (v3n1 + (36 : Int32)).toNatClampNeg (12 : Int32).toNatClampNeg)), (32, kept_sizes)]) dX8_store_85 L_X8_42 K_cpy_n K_cpy_s K_sys zW_24 zW_31 rfl rfl (cpok_s hg) (Nat.le_of_ble_eq_true rfl) (Nat.le_of_ble_eq_true rfl) rfl rfl ?_
      refine zJ_aload_n dX8_store_88 rfl rfl ?_
      refine zJ_getr (mi := mX8_store) dX8_store_89 F_X8_25 zW_30 rfl rfl ?_
      refine zJ_iload_n dX8_store_92 rfl rfl ?_
      refine zJ_aload_n dX8_store_93 rfl rfl ?_
      refine zJ_geti (mi := mX8_store) (x := rounds_size) dX8_store_94 F_X8_57 zW_20 rfl rfl rfl ?_
      obtain ⟨hg, h⟩ := gd_some h
      refine zK_iast (mi := mX8_store) (f := kept_sizes) (lb' := [(21, rounds_riders), (22, rounds_horses), (23, rounds_faults), (24, rounds_tenths), (31, (va_cpy rounds_tenths ((va_cpy rounds_faults ((va_cpy rounds_horses ((va_cpy rounds_riders kept_cells (0 : Int32).toNatClampNeg v3n1.toNatClampNeg (12 : Int32).toNatClampNeg)) (0 : Int32).toNatClampNeg (v3n1 + (12 : Int32)).toNatClampNeg (12 : Int32).toNatClampNeg)) (0 : Int32).toNatClampNeg (v3n1 + (24 : Int32)).toNatClampNeg (12 : Int32).toNatClampNeg)) (0 : Int32).toNatClampNeg (v3n1 + (36 : Int32)).toNatClampNeg (12 : Int32).toNatClampNeg)), (32, (upd kept_sizes p1.toNatClampNeg rounds_size))]) dX8_store_97 zW_32 (ix_in hg) rfl rfl rfl ?_
      refine zJ_iconst dX8_store_98 zc_1 rfl ?_
      obtain ⟨rfl, rfl, rfl⟩ := so3 h
      exact zJ_iret dX8_store_99 rfl (by decide)
    · replace h := it_f hc h
      refine zJ_iconst dX8_store_12 zc_0 rfl ?_
      obtain ⟨rfl, rfl, rfl⟩ := so3 h
      exact zJ_iret dX8_store_13 rfl (by decide)
set_option maxRecDepth 100000 in
set_option maxHeartbeats 4000000 in
theorem t_X11_keep (l : Launch) (σ : zS) {p1 : Int32} {rounds_size : Int32} {kept_slots : Int32} {rounds_riders : (Nat → Int32)} {rounds_horses : (Nat → Int32)} {rounds_faults : (Nat → Int32)} {rounds_tenths : (Nat → Int32)} {kept_cells : (Nat → Int32)} {kept_sizes : (Nat → Int32)} {r : Int32} {w_kept_cells : (Nat → Int32)} {w_kept_sizes : (Nat → Int32)} (h : f_X11_keep p1 rounds_size kept_slots rounds_riders rounds_horses rounds_faults rounds_tenths kept_cells kept_sizes = some (r, w_kept_cells, w_kept_sizes)) : zMt l zW 2 mX11_keep σ ([(1284, rounds_size), (1920, kept_slots)], [(21, rounds_riders), (22, rounds_horses), (23, rounds_faults), (24, rounds_tenths), (31, kept_cells), (32, kept_sizes)], []) [.ref 0, .int p1] (some (.int r)) ([(1284, rounds_size), (1920, kept_slots)], [(21, rounds_riders), (22, rounds_horses), (23, rounds_faults), (24, rounds_tenths), (31, w_kept_cells), (32, w_kept_sizes)], []) := by
  refine zMt_of (ls := [(0, .ref 0), (1, .int p1)]) (by decide) rfl (fun _ => Nat.le_of_ble_eq_true rfl) rfl ?_
  unfold f_X11_keep at h
  refine zJ_aload_n dX11_keep_0 rfl rfl ?_
  refine zJ_getr (mi := mX11_keep) dX11_keep_1 F_X11_46 zW_0 rfl rfl ?_
  refine zJ_iload_n dX11_keep_4 rfl rfl ?_
  refine zJ_aload_n dX11_keep_5 rfl rfl ?_
  refine zJ_getr (mi := mX11_keep) dX11_keep_6 F_X11_33 zW_0 rfl rfl ?_
  obtain ⟨rn1, kept_cellsn2, kept_sizesn3, hcl, h⟩ := bd3_some h
  refine zJ_callV2 (σ := σ) (L := ([(1284, rounds_size), (1920, kept_slots)], [(21, rounds_riders), (22, rounds_horses), (23, rounds_faults), (24, rounds_tenths), (31, kept_cells), (32, kept_sizes)], [])) (mi := mX11_keep) (yi := mX8_store) (as := [.int p1, .ref 20]) (st := []) (L2 := ([(1284, rounds_size), (1920, kept_slots)], [(21, rounds_riders), (22, rounds_horses), (23, rounds_faults), (24, rounds_tenths), (31, kept_cellsn2), (32, kept_sizesn3)], [])) dX11_keep_9 ML_X11_441 Yv_X8_store rfl zW_30 rfl rfl (t_X8_store_kept l _ hcl) (zsub_i (zle_c rfl (zle_c rfl zle_n)) (zle_c rfl (zle_c rfl (zle_c rfl (zle_c rfl (zle_c rfl (zle_c rfl zle_n)))))) zle_n) (zjok_i rfl rfl (zle_c rfl (zle_c rfl zle_n)) rfl rfl (zle_c rfl (zle_c rfl (zle_c rfl (zle_c rfl (zle_c rfl (zle_c rfl zle_n)))))) rfl rfl zle_n) (Nat.le_of_ble_eq_true rfl) (Nat.le_of_ble_eq_true rfl) rfl rfl ?_
  obtain ⟨hg, h⟩ := gd_some h
  obtain ⟨rfl, rfl, rfl⟩ := so3 h
  exact zJ_iret dX11_keep_12 rfl (bit_n hg)
set_option maxRecDepth 100000 in
set_option maxHeartbeats 4000000 in
theorem t_X11_last (l : Launch) (σ : zS) {p1 : Int32} {numbers_size : Int32} {course_fences : Int32} {course_horseCount : Int32} {course_planCount : Int32} {course_allowed : Int32} {course_rule_size : Int32} {rounds_size : Int32} {course_kinds : (Nat → Int32)} {course_heights : (Nat → Int32)} {course_feet : (Nat → Int32)} {course_digits : (Nat → Int32)} {course_plans : (Nat → Int32)} {rule_codes : (Nat → Int32)} {rule_stack : (Nat → Int32)} {rule_things : (Nat → Int32)} {rounds_faults : (Nat → Int32)} {rounds_tenths : (Nat → Int32)} {rounds_money : (Nat → Int32)} {numbers_told : (Nat → Int64)} {r : Int32} {w_numbers_size : Int32} {w_rule_stack : (Nat → Int32)} {w_rule_things : (Nat → Int32)} {w_numbers_told : (Nat → Int64)} (h : f_X11_last p1 numbers_size course_fences course_horseCount course_planCount course_allowed course_rule_size rounds_size course_kinds course_heights course_feet course_digits course_plans rule_codes rule_stack rule_things rounds_faults rounds_tenths rounds_money numbers_told = some (r, w_numbers_size, w_rule_stack, w_rule_things, w_numbers_told)) : zMt l zW 7 mX11_last σ ([(193, numbers_size), (323, course_fences), (326, course_horseCount), (328, course_planCount), (329, course_allowed), (769, course_rule_size), (1284, rounds_size)], [(6, course_kinds), (7, course_heights), (8, course_feet), (10, course_digits), (11, course_plans), (13, rule_codes), (15, rule_stack), (16, rule_things), (23, rounds_faults), (24, rounds_tenths), (25, rounds_money)], [(4, numbers_told)]) [.ref 0, .int p1] (some (.int r)) ([(193, w_numbers_size), (323, course_fences), (326, course_horseCount), (328, course_planCount), (329, course_allowed), (769, course_rule_size), (1284, rounds_size)], [(6, course_kinds), (7, course_heights), (8, course_feet), (10, course_digits), (11, course_plans), (13, rule_codes), (15, w_rule_stack), (16, w_rule_things), (23, rounds_faults), (24, rounds_tenths), (25, rounds_money)], [(4, w_numbers_told)]) := by
  refine zMt_of (ls := [(0, .ref 0), (1, .int p1)]) (by decide) rfl (fun _ => Nat.le_of_ble_eq_true rfl) rfl ?_
  unfold f_X11_last at h
  refine zJ_aload_n dX11_last_0 rfl rfl ?_
  refine zJ_getr (mi := mX11_last) dX11_last_1 F_X11_26 zW_0 rfl rfl ?_
  refine zJ_iload_n dX11_last_4 rfl rfl ?_
  obtain ⟨rn1, hcl, h⟩ := bd1_some h
  refine zJ_callV2 (σ := σ) (L := ([(193, numbers_size), (323, course_fences), (326, course_horseCount), (328, course_planCount), (329, course_allowed), (769, course_rule_size), (1284, rounds_size)], [(6, course_kinds), (7, course_heights), (8, course_feet), (10, course_digits), (11, course_plans), (13, rule_codes), (15, rule_stack), (16, rule_things), (23, rounds_faults), (24, rounds_tenths), (25, rounds_money)], [(4, numbers_told)])) (mi := mX11_last) (yi := mX1_hasHorse) (as := [.int p1]) (st := []) (L2 := ([(193, numbers_size), (323, course_fences), (326, course_horseCount), (328, course_planCount), (329, course_allowed), (769, course_rule_size), (1284, rounds_size)], [(6, course_kinds), (7, course_heights), (8, course_feet), (10, course_digits), (11, course_plans), (13, rule_codes), (15, rule_stack), (16, rule_things), (23, rounds_faults), (24, rounds_tenths), (25, rounds_money)], [(4, numbers_told)])) dX11_last_5 ML_X11_147 Yv_X1_hasHorse rfl zW_5 rfl rfl (t_X1_hasHorse l _ hcl) (zsub_i (zle_c rfl zle_n) zle_n zle_n) (zjok_i rfl rfl (zle_c rfl (zle_c rfl (zle_c rfl (zle_c rfl (zle_c rfl (zle_c rfl (zle_c rfl zle_n))))))) rfl rfl (zle_c rfl (zle_c rfl (zle_c rfl (zle_c rfl (zle_c rfl (zle_c rfl (zle_c rfl (zle_c rfl (zle_c rfl (zle_c rfl (zle_c rfl zle_n))))))))))) rfl rfl (zle_c rfl zle_n)) (Nat.le_of_ble_eq_true rfl) (Nat.le_of_ble_eq_true rfl) rfl rfl ?_
  refine zJ_if_ne (tgt := 13) dX11_last_8 (by decide) rfl (fun hc => ?_) (fun hc => ?_)
  · replace h := it_f hc h
    refine zJ_aload_n dX11_last_13 rfl rfl ?_
    refine zJ_getr (mi := mX11_last) dX11_last_14 F_X11_26 zW_0 rfl rfl ?_
    refine zJ_geti (mi := mX11_last) (x := course_planCount) dX11_last_17 F_X11_362 zW_5 rfl rfl rfl ?_
    refine zJ_if_ne (tgt := 26) dX11_last_20 (by decide) rfl (fun hc => ?_) (fun hc => ?_)
    · replace h := it_f hc h
      refine zJ_aload_n dX11_last_26 rfl rfl ?_
      refine zJ_iload_n dX11_last_27 rfl rfl ?_
      obtain ⟨rn2, rule_stackn3, rule_thingsn4, hcl, h⟩ := bd3_some h
      refine zJ_callV2 (σ := σ) (L := ([(193, numbers_size), (323, course_fences), (326, course_horseCount), (328, course_planCount), (329, course_allowed), (769, course_rule_size), (1284, rounds_size)], [(6, course_kinds), (7, course_heights), (8, course_feet), (10, course_digits), (11, course_plans), (13, rule_codes), (15, rule_stack), (16, rule_things), (23, rounds_faults), (24, rounds_tenths), (25, rounds_money)], [(4, numbers_told)])) (mi := mX11_last) (yi := mX11_bestPlan) (as := [.int p1]) (st := []) (L2 := ([(193, numbers_size), (323, course_fences), (326, course_horseCount), (328, course_planCount), (329, course_allowed), (769, course_rule_size), (1284, rounds_size)], [(6, course_kinds), (7, course_heights), (8, course_feet), (10, course_digits), (11, course_plans), (13, rule_codes), (15, rule_stackn3), (16, rule_thingsn4), (23, rounds_faults), (24, rounds_tenths), (25, rounds_money)], [(4, numbers_told)])) dX11_last_28 ML_X11_365 Yv_X11_bestPlan rfl zW_0 rfl rfl (t_X11_bestPlan l _ hcl) (zsub_i (zle_c rfl (zle_c rfl (zle_c rfl (zle_c rfl (zle_c rfl zle_n))))) (zle_c rfl (zle_c rfl (zle_c rfl (zle_c rfl (zle_c rfl (zle_c rfl (zle_c rfl (zle_c rfl (zle_c rfl (zle_c rfl (zle_c rfl zle_n))))))))))) zle_n) (zjok_i rfl rfl (zle_c rfl (zle_c rfl (zle_c rfl (zle_c rfl (zle_c rfl (zle_c rfl (zle_c rfl zle_n))))))) rfl rfl (zle_c rfl (zle_c rfl (zle_c rfl (zle_c rfl (zle_c rfl (zle_c rfl (zle_c rfl (zle_c rfl (zle_c rfl (zle_c rfl (zle_c rfl zle_n))))))))))) rfl rfl (zle_c rfl zle_n)) (Nat.le_of_ble_eq_true rfl) (Nat.le_of_ble_eq_true rfl) rfl rfl ?_
      refine zJ_istore_n (ls' := [(2, .int rn2), (0, .ref 0), (1, .int p1)]) dX11_last_31 rfl rfl rfl ?_
      refine zJ_aload_n dX11_last_32 rfl rfl ?_
      refine zJ_getr (mi := mX11_last) dX11_last_33 F_X11_19 zW_0 rfl rfl ?_
      obtain ⟨numbers_sizen5, hcl, h⟩ := bd1_some h
      refine zJ_callV2 (σ := σ) (L := ([(193, numbers_size), (323, course_fences), (326, course_horseCount), (328, course_planCount), (329, course_allowed), (769, course_rule_size), (1284, rounds_size)], [(6, course_kinds), (7, course_heights), (8, course_feet), (10, course_digits), (11, course_plans), (13, rule_codes), (15, rule_stackn3), (16, rule_thingsn4), (23, rounds_faults), (24, rounds_tenths), (25, rounds_money)], [(4, numbers_told)])) (mi := mX11_last) (yi := mX6_start) (as := []) (st := []) (L2 := ([(193, numbers_sizen5), (323, course_fences), (326, course_horseCount), (328, course_planCount), (329, course_allowed), (769, course_rule_size), (1284, rounds_size)], [(6, course_kinds), (7, course_heights), (8, course_feet), (10, course_digits), (11, course_plans), (13, rule_codes), (15, rule_stackn3), (16, rule_thingsn4), (23, rounds_faults), (24, rounds_tenths), (25, rounds_money)], [(4, numbers_told)])) dX11_last_36 ML_X11_171 Yv_X6_start rfl zW_3 rfl rfl (t_X6_start l _ hcl) (zsub_i (zle_c rfl zle_n) zle_n zle_n) (zjok_i rfl rfl (zle_c rfl (zle_c rfl (zle_c rfl (zle_c rfl (zle_c rfl (zle_c rfl (zle_c rfl zle_n))))))) rfl rfl (zle_c rfl (zle_c rfl (zle_c rfl (zle_c rfl (zle_c rfl (zle_c rfl (zle_c rfl (zle_c rfl (zle_c rfl (zle_c rfl (zle_c rfl zle_n))))))))))) rfl rfl (zle_c rfl zle_n)) (Nat.le_of_ble_eq_true rfl) (Nat.le_of_ble_eq_true rfl) rfl rfl ?_
      refine zJ_aload_n dX11_last_39 rfl rfl ?_
      refine zJ_getr (mi := mX11_last) dX11_last_40 F_X11_19 zW_0 rfl rfl ?_
      refine zJ_aload_n dX11_last_43 rfl rfl ?_
      refine zJ_iload_n dX11_last_44 rfl rfl ?_
      refine zJ_iload_n dX11_last_45 rfl rfl ?_
      obtain ⟨rn6, rule_stackn7, rule_thingsn8, hcl, h⟩ := bd3_some h
      refine zJ_callV2 (σ := σ) (L := ([(193, numbers_sizen5), (323, course_fences), (326, course_horseCount), (328, course_planCount), (329, course_allowed), (769, course_rule_size), (1284, rounds_size)], [(6, course_kinds), (7, course_heights), (8, course_feet), (10, course_digits), (11, course_plans), (13, rule_codes), (15, rule_stackn3), (16, rule_thingsn4), (23, rounds_faults), (24, rounds_tenths), (25, rounds_money)], [(4, numbers_told)])) (mi := mX11_last) (yi := mX11_meanOf) (as := [.int p1, .int rn2]) (st := [.ref 3]) (L2 := ([(193, numbers_sizen5), (323, course_fences), (326, course_horseCount), (328, course_planCount), (329, course_allowed), (769, course_rule_size), (1284, rounds_size)], [(6, course_kinds), (7, course_heights), (8, course_feet), (10, course_digits), (11, course_plans), (13, rule_codes), (15, rule_stackn7), (16, rule_thingsn8), (23, rounds_faults), (24, rounds_tenths), (25, rounds_money)], [(4, numbers_told)])) dX11_last_46 ML_X11_359 Yv_X11_meanOf rfl zW_0 rfl rfl (t_X11_meanOf l _ hcl) (zsub_i (zle_c rfl (zle_c rfl (zle_c rfl (zle_c rfl zle_n)))) (zle_c rfl (zle_c rfl (zle_c rfl (zle_c rfl (zle_c rfl (zle_c rfl (zle_c rfl (zle_c rfl (zle_c rfl (zle_c rfl (zle_c rfl zle_n))))))))))) zle_n) (zjok_i rfl rfl (zle_c rfl (zle_c rfl (zle_c rfl (zle_c rfl (zle_c rfl (zle_c rfl (zle_c rfl zle_n))))))) rfl rfl (zle_c rfl (zle_c rfl (zle_c rfl (zle_c rfl (zle_c rfl (zle_c rfl (zle_c rfl (zle_c rfl (zle_c rfl (zle_c rfl (zle_c rfl zle_n))))))))))) rfl rfl (zle_c rfl zle_n)) (Nat.le_of_ble_eq_true rfl) (Nat.le_of_ble_eq_true rfl) rfl rfl ?_
      refine zJ_i2l dX11_last_49 rfl ?_
      obtain ⟨numbers_sizen9, numbers_toldn10, hcl, h⟩ := bd2_some h
      refine zJ_callV2 (σ := σ) (L := ([(193, numbers_sizen5), (323, course_fences), (326, course_horseCount), (328, course_planCount), (329, course_allowed), (769, course_rule_size), (1284, rounds_size)], [(6, course_kinds), (7, course_heights), (8, course_feet), (10, course_digits), (11, course_plans), (13, rule_codes), (15, rule_stackn7), (16, rule_thingsn8), (23, rounds_faults), (24, rounds_tenths), (25, rounds_money)], [(4, numbers_told)])) (mi := mX11_last) (yi := mX6_put) (as := [.long rn6.toInt64]) (st := []) (L2 := ([(193, numbers_sizen9), (323, course_fences), (326, course_horseCount), (328, course_planCount), (329, course_allowed), (769, course_rule_size), (1284, rounds_size)], [(6, course_kinds), (7, course_heights), (8, course_feet), (10, course_digits), (11, course_plans), (13, rule_codes), (15, rule_stackn7), (16, rule_thingsn8), (23, rounds_faults), (24, rounds_tenths), (25, rounds_money)], [(4, numbers_toldn10)])) dX11_last_50 ML_X11_177 Yv_X6_put rfl zW_3 rfl rfl (t_X6_put l _ hcl) (zsub_i (zle_c rfl zle_n) zle_n (zle_c rfl zle_n)) (zjok_i rfl rfl (zle_c rfl (zle_c rfl (zle_c rfl (zle_c rfl (zle_c rfl (zle_c rfl (zle_c rfl zle_n))))))) rfl rfl (zle_c rfl (zle_c rfl (zle_c rfl (zle_c rfl (zle_c rfl (zle_c rfl (zle_c rfl (zle_c rfl (zle_c rfl (zle_c rfl (zle_c rfl zle_n))))))))))) rfl rfl (zle_c rfl zle_n)) (Nat.le_of_ble_eq_true rfl) (Nat.le_of_ble_eq_true rfl) rfl rfl ?_
      refine zJ_iload_n dX11_last_53 rfl rfl ?_
      obtain ⟨rfl, rfl, rfl, rfl, rfl⟩ := so5 h
      exact zJ_iret dX11_last_54 rfl rfl
    · replace h := it_t hc h
      refine zJ_bipush dX11_last_23 zb_m2 rfl ?_
      obtain ⟨rfl, rfl, rfl, rfl, rfl⟩ := so5 h
      exact zJ_iret dX11_last_25 rfl rfl
  · replace h := it_t hc h
    refine zJ_iconst dX11_last_11 zc_m1 rfl ?_
    obtain ⟨rfl, rfl, rfl, rfl, rfl⟩ := so5 h
    exact zJ_iret dX11_last_12 rfl rfl
set_option maxRecDepth 100000 in
set_option maxHeartbeats 4000000 in
theorem t_X11_law (l : Launch) (σ : zS) {p1 : Int32} {p2 : Int32} {numbers_size : Int32} {course_allowed : Int32} {rounds_size : Int32} {rounds_faults : (Nat → Int32)} {rounds_tenths : (Nat → Int32)} {newFaults : (Nat → Int32)} {numbers_told : (Nat → Int64)} {r : Int32} {w_numbers_size : Int32} {w_newFaults : (Nat → Int32)} {w_numbers_told : (Nat → Int64)} (h : f_X11_law p1 p2 numbers_size course_allowed rounds_size rounds_faults rounds_tenths newFaults numbers_told = some (r, w_numbers_size, w_newFaults, w_numbers_told)) : zMt l zW 2 mX11_law σ ([(193, numbers_size), (329, course_allowed), (1284, rounds_size)], [(23, rounds_faults), (24, rounds_tenths), (53, newFaults)], [(4, numbers_told)]) [.ref 0, .int p1, .int p2] (some (.int r)) ([(193, w_numbers_size), (329, course_allowed), (1284, rounds_size)], [(23, rounds_faults), (24, rounds_tenths), (53, w_newFaults)], [(4, w_numbers_told)]) := by
  refine zMt_of (ls := [(0, .ref 0), (1, .int p1), (2, .int p2)]) (by decide) rfl (fun _ => Nat.le_of_ble_eq_true rfl) rfl ?_
  unfold f_X11_law at h
  refine zJ_iload_n dX11_law_0 rfl rfl ?_
  refine zJ_iconst dX11_law_1 zc_1 rfl ?_
  refine zJ_icmp_lt (tgt := 22) dX11_law_2 (by decide) rfl (fun hc => ?_) (fun hc => ?_)
  · replace h := it_t hc h
    refine zJ_iconst dX11_law_22 zc_m1 rfl ?_
    obtain ⟨rfl, rfl, rfl, rfl⟩ := so4 h
    exact zJ_iret dX11_law_23 rfl rfl
  · replace h := it_f hc h
    refine zJ_iload_n dX11_law_5 rfl rfl ?_
    refine zJ_sipush dX11_law_6 zs_999 rfl ?_
    refine zJ_icmp_gt (tgt := 22) dX11_law_9 (by decide) rfl (fun hc => ?_) (fun hc => ?_)
    · replace h := it_t hc h
      refine zJ_iconst dX11_law_22 zc_m1 rfl ?_
      obtain ⟨rfl, rfl, rfl, rfl⟩ := so4 h
      exact zJ_iret dX11_law_23 rfl rfl
    · replace h := it_f hc h
      refine zJ_iload_n dX11_law_12 rfl rfl ?_
      refine zJ_if_lt (tgt := 22) dX11_law_13 (by decide) rfl (fun hc => ?_) (fun hc => ?_)
      · replace h := it_t hc h
        refine zJ_iconst dX11_law_22 zc_m1 rfl ?_
        obtain ⟨rfl, rfl, rfl, rfl⟩ := so4 h
        exact zJ_iret dX11_law_23 rfl rfl
      · replace h := it_f hc h
        refine zJ_iload_n dX11_law_16 rfl rfl ?_
        refine zJ_bipush dX11_law_17 zb_9 rfl ?_
        refine zJ_icmp_le (tgt := 24) dX11_law_19 (by decide) rfl (fun hc => ?_) (fun hc => ?_)
        · replace h := it_t hc h
          refine zJ_iconst dX11_law_24 zc_0 rfl ?_
          refine zJ_istore_n (ls' := [(3, .int (0 : Int32)), (0, .ref 0), (1, .int p1), (2, .int p2)]) dX11_law_25 rfl rfl rfl ?_
          have hk26 : ∀ (newFaults_26x : (Nat → Int32)), k_X11_law_26 numbers_size rounds_size rounds_faults rounds_tenths numbers_told newFaults_26x = some (r, w_numbers_size, w_newFaults, w_numbers_told) → zJ l zW 2 mX11_law σ ([(193, numbers_size), (329, course_allowed), (1284, rounds_size)], [(23, rounds_faults), (24, rounds_tenths), (53, newFaults_26x)], [(4, numbers_told)]) 115 [(0, .ref 0)] [] (some (.int r)) ([(193, w_numbers_size), (329, course_allowed), (1284, rounds_size)], [(23, rounds_faults), (24, rounds_tenths), (53, w_newFaults)], [(4, w_numbers_told)]) := by
            intro newFaults_26x h
            unfold k_X11_law_26 at h
            refine zJ_iconst dX11_law_115 zc_0 rfl ?_
            refine zJ_istore_n (ls' := [(3, .int (0 : Int32)), (0, .ref 0)]) dX11_law_116 rfl rfl rfl ?_
            refine zJ_iconst dX11_law_117 zc_0 rfl ?_
            refine zJ_istore (ls' := [(4, .int (0 : Int32)), (3, .int (0 : Int32)), (0, .ref 0)]) dX11_law_118 rfl rfl rfl ?_
            have hk120 : ∀ (v3_120x : Int32), k_X11_law_120 numbers_size rounds_size rounds_tenths numbers_told newFaults_26x v3_120x = some (r, w_numbers_size, w_newFaults, w_numbers_told) → zJ l zW 2 mX11_law σ ([(193, numbers_size), (329, course_allowed), (1284, rounds_size)], [(23, rounds_faults), (24, rounds_tenths), (53, newFaults_26x)], [(4, numbers_told)]) 178 [(0, .ref 0), (3, .int v3_120x)] [] (some (.int r)) ([(193, w_numbers_size), (329, course_allowed), (1284, rounds_size)], [(23, rounds_faults), (24, rounds_tenths), (53, w_newFaults)], [(4, w_numbers_told)]) := by
              intro v3_120x h
              unfold k_X11_law_120 at h
              refine zJ_aload_n dX11_law_178 rfl rfl ?_
              refine zJ_getr (mi := mX11_law) dX11_law_179 F_X11_33 zW_0 rfl rfl ?_
              refine zJ_aload_n dX11_law_182 rfl rfl ?_
              refine zJ_getr (mi := mX11_law) dX11_law_183 F_X11_19 zW_0 rfl rfl ?_
              refine zJ_aload_n dX11_law_186 rfl rfl ?_
              refine zJ_getr (mi := mX11_law) dX11_law_187 F_X11_88 zW_0 rfl rfl ?_
              obtain ⟨numbers_sizen1, numbers_toldn2, hcl, h⟩ := bd2_some h
              refine zJ_callV2 (σ := σ) (L := ([(193, numbers_size), (329, course_allowed), (1284, rounds_size)], [(23, rounds_faults), (24, rounds_tenths), (53, newFaults_26x)], [(4, numbers_told)])) (mi := mX11_law) (yi := mX10_tellOrder) (as := [.ref 3, .ref 53]) (st := []) (L2 := ([(193, numbers_sizen1), (329, course_allowed), (1284, rounds_size)], [(23, rounds_faults), (24, rounds_tenths), (53, newFaults_26x)], [(4, numbers_toldn2)])) dX11_law_190 ML_X11_346 Yv_X10_tellOrder rfl zW_20 rfl rfl (t_X10_tellOrder_newFaults l _ hcl) (zsub_i (zle_c rfl (zle_c rfl zle_n)) (zle_c rfl (zle_c rfl zle_n)) (zle_c rfl zle_n)) (zjok_i rfl rfl (zle_c rfl (zle_c rfl (zle_c rfl zle_n))) rfl rfl (zle_c rfl (zle_c rfl (zle_c rfl zle_n))) rfl rfl (zle_c rfl zle_n)) (Nat.le_of_ble_eq_true rfl) (Nat.le_of_ble_eq_true rfl) rfl rfl ?_
              refine zJ_iload_n dX11_law_193 rfl rfl ?_
              obtain ⟨rfl, rfl, rfl, rfl⟩ := so4 h
              exact zJ_iret dX11_law_194 rfl rfl
            refine zJ_loc (ls' := [(0, .ref 0), (3, .int (0 : Int32)), (4, .int (0 : Int32))]) (zll_c rfl (zll_c rfl (zll_c rfl zll_n))) ?_
            refine ml2_J (fun (v3_120 : Int32) (v4_120 : Int32) => zJ l zW 2 mX11_law σ ([(193, numbers_size), (329, course_allowed), (1284, rounds_size)], [(23, rounds_faults), (24, rounds_tenths), (53, newFaults_26x)], [(4, numbers_told)]) 120 [(0, .ref 0), (3, .int v3_120), (4, .int v4_120)] [] (some (.int r)) ([(193, w_numbers_size), (329, course_allowed), (1284, rounds_size)], [(23, rounds_faults), (24, rounds_tenths), (53, w_newFaults)], [(4, w_numbers_told)])) (fun rc120 hrc120 v3_120 v4_120 h => ?_) zN _ _ h
            unfold s_X11_law_120 at h
            refine zJ_iload dX11_law_120 rfl rfl ?_
            refine zJ_aload_n dX11_law_122 rfl rfl ?_
            refine zJ_getr (mi := mX11_law) dX11_law_123 F_X11_33 zW_0 rfl rfl ?_
            refine zJ_geti (mi := mX11_law) (x := rounds_size) dX11_law_126 F_X11_107 zW_20 rfl rfl rfl ?_
            refine zJ_icmp_ge (tgt := 178) dX11_law_129 (by decide) rfl (fun hc => ?_) (fun hc => ?_)
            · replace h := it_t hc h
              refine zJ_loc (ls' := [(0, .ref 0), (3, .int v3_120)]) (zll_c rfl (zll_c rfl zll_n)) ?_
              exact hk120 _ h
            · replace h := it_f hc h
              refine zJ_iload_n dX11_law_132 rfl rfl ?_
              refine zJ_aload_n dX11_law_133 rfl rfl ?_
              refine zJ_getr (mi := mX11_law) dX11_law_134 F_X11_33 zW_0 rfl rfl ?_
              refine zJ_iload dX11_law_137 rfl rfl ?_
              refine zJ_aload_n dX11_law_139 rfl rfl ?_
              refine zJ_getr (mi := mX11_law) dX11_law_140 F_X11_88 zW_0 rfl rfl ?_
              obtain ⟨rn3, hcl, h⟩ := bd1_some h
              refine zJ_callV2 (σ := σ) (L := ([(193, numbers_size), (329, course_allowed), (1284, rounds_size)], [(23, rounds_faults), (24, rounds_tenths), (53, newFaults_26x)], [(4, numbers_told)])) (mi := mX11_law) (yi := mX10_placeOf) (as := [.int v4_120, .ref 53]) (st := [.int v3_120]) (L2 := ([(193, numbers_size), (329, course_allowed), (1284, rounds_size)], [(23, rounds_faults), (24, rounds_tenths), (53, newFaults_26x)], [(4, numbers_told)])) dX11_law_143 ML_X11_339 Yv_X10_placeOf rfl zW_20 rfl rfl (t_X10_placeOf_newFaults l _ hcl) (zsub_i (zle_c rfl zle_n) (zle_c rfl (zle_c rfl zle_n)) zle_n) (zjok_i rfl rfl (zle_c rfl (zle_c rfl (zle_c rfl zle_n))) rfl rfl (zle_c rfl (zle_c rfl (zle_c rfl zle_n))) rfl rfl (zle_c rfl zle_n)) (Nat.le_of_ble_eq_true rfl) (Nat.le_of_ble_eq_true rfl) rfl rfl ?_
              refine zJ_aload_n dX11_law_146 rfl rfl ?_
              refine zJ_getr (mi := mX11_law) dX11_law_147 F_X11_33 zW_0 rfl rfl ?_
              refine zJ_iload dX11_law_150 rfl rfl ?_
              refine zJ_aload_n dX11_law_152 rfl rfl ?_
              refine zJ_getr (mi := mX11_law) dX11_law_153 F_X11_33 zW_0 rfl rfl ?_
              refine zJ_getr (mi := mX11_law) dX11_law_156 F_X11_335 zW_20 rfl rfl ?_
              obtain ⟨rn4, hcl, h⟩ := bd1_some h
              refine zJ_callV2 (σ := σ) (L := ([(193, numbers_size), (329, course_allowed), (1284, rounds_size)], [(23, rounds_faults), (24, rounds_tenths), (53, newFaults_26x)], [(4, numbers_told)])) (mi := mX11_law) (yi := mX10_placeOf) (as := [.int v4_120, .ref 23]) (st := [.int rn3, .int v3_120]) (L2 := ([(193, numbers_size), (329, course_allowed), (1284, rounds_size)], [(23, rounds_faults), (24, rounds_tenths), (53, newFaults_26x)], [(4, numbers_told)])) dX11_law_159 ML_X11_339 Yv_X10_placeOf rfl zW_20 rfl rfl (t_X10_placeOf_rounds_faults l _ hcl) (zsub_i (zle_c rfl zle_n) (zle_c rfl (zle_c rfl zle_n)) zle_n) (zjok_i rfl rfl (zle_c rfl (zle_c rfl (zle_c rfl zle_n))) rfl rfl (zle_c rfl (zle_c rfl (zle_c rfl zle_n))) rfl rfl (zle_c rfl zle_n)) (Nat.le_of_ble_eq_true rfl) (Nat.le_of_ble_eq_true rfl) rfl rfl ?_
              refine zJ_icmp_eq (tgt := 169) dX11_law_162 (by decide) rfl (fun hc => ?_) (fun hc => ?_)
              · replace h := it_t hc h
                refine zJ_iconst dX11_law_169 zc_0 rfl ?_
                refine zJ_iadd dX11_law_170 rfl ?_
                obtain ⟨v3n5, ev3n5, h⟩ := lt1_some h
                refine zJ_nmi ev3n5 ?_
                refine zJ_istore_n (ls' := [(3, .int v3n5), (0, .ref 0), (4, .int v4_120)]) dX11_law_171 rfl rfl rfl ?_
                obtain ⟨v4n6, ev4n6, h⟩ := lt1_some h
                refine zJ_iincN (ls' := [(4, .int v4n6), (3, .int v3n5), (0, .ref 0)]) dX11_law_172 rfl rfl zc_1 ev4n6 rfl rfl ?_
                refine zJ_goto (tgt := 120) dX11_law_175 (by decide) ?_
                refine zJ_loc (ls' := [(0, .ref 0), (3, .int v3n5), (4, .int v4n6)]) (zll_c rfl (zll_c rfl (zll_c rfl zll_n))) ?_
                exact hrc120 _ _ h
              · replace h := it_f hc h
                refine zJ_iconst dX11_law_165 zc_1 rfl ?_
                refine zJ_goto (tgt := 170) dX11_law_166 (by decide) ?_
                refine zJ_iadd dX11_law_170 rfl ?_
                obtain ⟨v3n7, ev3n7, h⟩ := lt1_some h
                refine zJ_nmi ev3n7 ?_
                refine zJ_istore_n (ls' := [(3, .int v3n7), (0, .ref 0), (4, .int v4_120)]) dX11_law_171 rfl rfl rfl ?_
                obtain ⟨v4n8, ev4n8, h⟩ := lt1_some h
                refine zJ_iincN (ls' := [(4, .int v4n8), (3, .int v3n7), (0, .ref 0)]) dX11_law_172 rfl rfl zc_1 ev4n8 rfl rfl ?_
                refine zJ_goto (tgt := 120) dX11_law_175 (by decide) ?_
                refine zJ_loc (ls' := [(0, .ref 0), (3, .int v3n7), (4, .int v4n8)]) (zll_c rfl (zll_c rfl (zll_c rfl zll_n))) ?_
                exact hrc120 _ _ h
          refine zJ_loc (ls' := [(0, .ref 0), (1, .int p1), (2, .int p2), (3, .int (0 : Int32))]) (zll_c rfl (zll_c rfl (zll_c rfl (zll_c rfl zll_n)))) ?_
          refine ml2_J (fun (v3_26 : Int32) (newFaults_26 : (Nat → Int32)) => zJ l zW 2 mX11_law σ ([(193, numbers_size), (329, course_allowed), (1284, rounds_size)], [(23, rounds_faults), (24, rounds_tenths), (53, newFaults_26)], [(4, numbers_told)]) 26 [(0, .ref 0), (1, .int p1), (2, .int p2), (3, .int v3_26)] [] (some (.int r)) ([(193, w_numbers_size), (329, course_allowed), (1284, rounds_size)], [(23, rounds_faults), (24, rounds_tenths), (53, w_newFaults)], [(4, w_numbers_told)])) (fun rc26 hrc26 v3_26 newFaults_26 h => ?_) zN _ _ h
          unfold s_X11_law_26 at h
          refine zJ_iload_n dX11_law_26 rfl rfl ?_
          refine zJ_aload_n dX11_law_27 rfl rfl ?_
          refine zJ_getr (mi := mX11_law) dX11_law_28 F_X11_33 zW_0 rfl rfl ?_
          refine zJ_geti (mi := mX11_law) (x := rounds_size) dX11_law_31 F_X11_107 zW_20 rfl rfl rfl ?_
          refine zJ_icmp_ge (tgt := 115) dX11_law_34 (by decide) rfl (fun hc => ?_) (fun hc => ?_)
          · replace h := it_t hc h
            refine zJ_loc (ls' := [(0, .ref 0)]) (zll_c rfl zll_n) ?_
            exact hk26 _ h
          · replace h := it_f hc h
            refine zJ_aload_n dX11_law_37 rfl rfl ?_
            refine zJ_getr (mi := mX11_law) dX11_law_38 F_X11_33 zW_0 rfl rfl ?_
            refine zJ_getr (mi := mX11_law) dX11_law_41 F_X11_337 zW_20 rfl rfl ?_
            refine zJ_iload_n dX11_law_44 rfl rfl ?_
            obtain ⟨hg, h⟩ := gd_some h
            refine zJ_iald (mi := mX11_law) (f := rounds_tenths) dX11_law_45 zW_24 (ix_in hg) rfl rfl ?_
            refine zJ_aload_n dX11_law_46 rfl rfl ?_
            refine zJ_getr (mi := mX11_law) dX11_law_47 F_X11_26 zW_0 rfl rfl ?_
            refine zJ_geti (mi := mX11_law) (x := course_allowed) dX11_law_50 F_X11_154 zW_5 rfl rfl rfl ?_
            refine zJ_bipush dX11_law_53 zb_40 rfl ?_
            obtain ⟨rn9, hcl, h⟩ := bd1_some h
            refine zJ_callS2 (σ := σ) (L := ([(193, numbers_size), (329, course_allowed), (1284, rounds_size)], [(23, rounds_faults), (24, rounds_tenths), (53, newFaults_26)], [(4, numbers_told)])) (mi := mX11_law) (yi := mX11_begun) (as := [.int (rounds_tenths v3_26.toNatClampNeg), .int course_allowed, .int (40 : Int32)]) (st := []) (L2 := ([(193, numbers_size), (329, course_allowed), (1284, rounds_size)], [(23, rounds_faults), (24, rounds_tenths), (53, newFaults_26)], [(4, numbers_told)])) dX11_law_55 ML_X11_353 Ys_X11_begun rfl (t_X11_begun l _ hcl) (zsub_i zle_n zle_n zle_n) (zjok_i rfl rfl (zle_c rfl (zle_c rfl (zle_c rfl zle_n))) rfl rfl (zle_c rfl (zle_c rfl (zle_c rfl zle_n))) rfl rfl (zle_c rfl zle_n)) (Nat.le_of_ble_eq_true rfl) (Nat.le_of_ble_eq_true rfl) rfl rfl ?_
            refine zJ_istore (ls' := [(4, .int rn9), (0, .ref 0), (1, .int p1), (2, .int p2), (3, .int v3_26)]) dX11_law_58 rfl rfl rfl ?_
            refine zJ_iconst dX11_law_60 zc_0 rfl ?_
            refine zJ_aload_n dX11_law_61 rfl rfl ?_
            refine zJ_getr (mi := mX11_law) dX11_law_62 F_X11_33 zW_0 rfl rfl ?_
            refine zJ_getr (mi := mX11_law) dX11_law_65 F_X11_335 zW_20 rfl rfl ?_
            refine zJ_iload_n dX11_law_68 rfl rfl ?_
            obtain ⟨hg, h⟩ := gd_some h
            refine zJ_iald (mi := mX11_law) (f := rounds_faults) dX11_law_69 zW_23 (ix_in hg) rfl rfl ?_
            refine zJ_iload dX11_law_70 rfl rfl ?_
            refine zJ_isub dX11_law_72 rfl ?_
            refine zJ_mmax (mi := mX11_law) dX11_law_73 L_X11_168 K_max_s K_math K_max_c (Nat.le_of_ble_eq_true rfl) (Nat.le_of_ble_eq_true rfl) rfl ?_
            obtain ⟨v5n10, ev5n10, h⟩ := lt1_some h
            refine zJ_nmi ev5n10 ?_
            refine zJ_istore (ls' := [(5, .int v5n10), (4, .int rn9), (0, .ref 0), (1, .int p1), (2, .int p2), (3, .int v3_26)]) dX11_law_76 rfl rfl rfl ?_
            refine zJ_aload_n dX11_law_78 rfl rfl ?_
            refine zJ_getr (mi := mX11_law) dX11_law_79 F_X11_88 zW_0 rfl rfl ?_
            refine zJ_iload_n dX11_law_82 rfl rfl ?_
            refine zJ_iload dX11_law_83 rfl rfl ?_
            refine zJ_iload_n dX11_law_85 rfl rfl ?_
            refine zJ_aload_n dX11_law_86 rfl rfl ?_
            refine zJ_getr (mi := mX11_law) dX11_law_87 F_X11_33 zW_0 rfl rfl ?_
            refine zJ_getr (mi := mX11_law) dX11_law_90 F_X11_337 zW_20 rfl rfl ?_
            refine zJ_iload_n dX11_law_93 rfl rfl ?_
            obtain ⟨hg, h⟩ := gd_some h
            refine zJ_iald (mi := mX11_law) (f := rounds_tenths) dX11_law_94 zW_24 (ix_in hg) rfl rfl ?_
            refine zJ_aload_n dX11_law_95 rfl rfl ?_
            refine zJ_getr (mi := mX11_law) dX11_law_96 F_X11_26 zW_0 rfl rfl ?_
            refine zJ_geti (mi := mX11_law) (x := course_allowed) dX11_law_99 F_X11_154 zW_5 rfl rfl rfl ?_
            refine zJ_iload_n dX11_law_102 rfl rfl ?_
            obtain ⟨rn11, hcl, h⟩ := bd1_some h
            refine zJ_callS2 (σ := σ) (L := ([(193, numbers_size), (329, course_allowed), (1284, rounds_size)], [(23, rounds_faults), (24, rounds_tenths), (53, newFaults_26)], [(4, numbers_told)])) (mi := mX11_law) (yi := mX11_begun) (as := [.int (rounds_tenths v3_26.toNatClampNeg), .int course_allowed, .int p1]) (st := [.int p2, .int v5n10, .int v3_26, .ref 53]) (L2 := ([(193, numbers_size), (329, course_allowed), (1284, rounds_size)], [(23, rounds_faults), (24, rounds_tenths), (53, newFaults_26)], [(4, numbers_told)])) dX11_law_103 ML_X11_353 Ys_X11_begun rfl (t_X11_begun l _ hcl) (zsub_i zle_n zle_n zle_n) (zjok_i rfl rfl (zle_c rfl (zle_c rfl (zle_c rfl zle_n))) rfl rfl (zle_c rfl (zle_c rfl (zle_c rfl zle_n))) rfl rfl (zle_c rfl zle_n)) (Nat.le_of_ble_eq_true rfl) (Nat.le_of_ble_eq_true rfl) rfl rfl ?_
            refine zJ_imul dX11_law_106 rfl ?_
            refine zJ_iadd dX11_law_107 rfl ?_
            obtain ⟨hg, h⟩ := gd_some h
            refine zK_iast (mi := mX11_law) (f := newFaults_26) (lb' := [(23, rounds_faults), (24, rounds_tenths), (53, (upd newFaults_26 v3_26.toNatClampNeg (v5n10 + (p2 * rn11))))]) dX11_law_108 zW_53 (ix_in hg) rfl rfl rfl ?_
            obtain ⟨v3n12, ev3n12, h⟩ := lt1_some h
            refine zJ_iincN (ls' := [(3, .int v3n12), (5, .int v5n10), (4, .int rn9), (0, .ref 0), (1, .int p1), (2, .int p2)]) dX11_law_109 rfl rfl zc_1 ev3n12 rfl rfl ?_
            refine zJ_goto (tgt := 26) dX11_law_112 (by decide) ?_
            refine zJ_loc (ls' := [(0, .ref 0), (1, .int p1), (2, .int p2), (3, .int v3n12)]) (zll_c rfl (zll_c rfl (zll_c rfl (zll_c rfl zll_n)))) ?_
            exact hrc26 _ _ h
        · replace h := it_f hc h
          refine zJ_iconst dX11_law_22 zc_m1 rfl ?_
          obtain ⟨rfl, rfl, rfl, rfl⟩ := so4 h
          exact zJ_iret dX11_law_23 rfl rfl
set_option maxRecDepth 100000 in
set_option maxHeartbeats 4000000 in
theorem t_X11_tellDrawn (l : Launch) (σ : zS) {numbers_size : Int32} {drawn_state : Int32} {drawn_tenths : Int32} {drawn_refused : Int32} {drawn_fallen : Int32} {numbers_told : (Nat → Int64)} {w_numbers_size : Int32} {w_numbers_told : (Nat → Int64)} (h : f_X11_tellDrawn numbers_size drawn_state drawn_tenths drawn_refused drawn_fallen numbers_told = some (w_numbers_size, w_numbers_told)) : zMt l zW 1 mX11_tellDrawn σ ([(193, numbers_size), (2112, drawn_state), (2114, drawn_tenths), (2115, drawn_refused), (2116, drawn_fallen)], [], [(4, numbers_told)]) [.ref 0] none ([(193, w_numbers_size), (2112, drawn_state), (2114, drawn_tenths), (2115, drawn_refused), (2116, drawn_fallen)], [], [(4, w_numbers_told)]) := by
  refine zMt_of (ls := [(0, .ref 0)]) (by decide) rfl (fun _ => Nat.le_of_ble_eq_true rfl) rfl ?_
  unfold f_X11_tellDrawn at h
  refine zJ_aload_n dX11_tellDrawn_0 rfl rfl ?_
  refine zJ_getr (mi := mX11_tellDrawn) dX11_tellDrawn_1 F_X11_19 zW_0 rfl rfl ?_
  obtain ⟨numbers_sizen1, hcl, h⟩ := bd1_some h
  refine zJ_callV2 (σ := σ) (L := ([(193, numbers_size), (2112, drawn_state), (2114, drawn_tenths), (2115, drawn_refused), (2116, drawn_fallen)], [], [(4, numbers_told)])) (mi := mX11_tellDrawn) (yi := mX6_start) (as := []) (st := []) (L2 := ([(193, numbers_sizen1), (2112, drawn_state), (2114, drawn_tenths), (2115, drawn_refused), (2116, drawn_fallen)], [], [(4, numbers_told)])) dX11_tellDrawn_4 ML_X11_171 Yv_X6_start rfl zW_3 rfl rfl (t_X6_start l _ hcl) (zsub_i (zle_c rfl zle_n) zle_n zle_n) (zjok_i rfl rfl (zle_c rfl (zle_c rfl (zle_c rfl (zle_c rfl (zle_c rfl zle_n))))) rfl rfl zle_n rfl rfl (zle_c rfl zle_n)) (Nat.le_of_ble_eq_true rfl) (Nat.le_of_ble_eq_true rfl) rfl rfl ?_
  refine zJ_aload_n dX11_tellDrawn_7 rfl rfl ?_
  refine zJ_getr (mi := mX11_tellDrawn) dX11_tellDrawn_8 F_X11_19 zW_0 rfl rfl ?_
  refine zJ_aload_n dX11_tellDrawn_11 rfl rfl ?_
  refine zJ_getr (mi := mX11_tellDrawn) dX11_tellDrawn_12 F_X11_52 zW_0 rfl rfl ?_
  refine zJ_geti (mi := mX11_tellDrawn) (x := drawn_tenths) dX11_tellDrawn_15 F_X11_267 zW_33 rfl rfl rfl ?_
  refine zJ_i2l dX11_tellDrawn_18 rfl ?_
  obtain ⟨numbers_sizen2, numbers_toldn3, hcl, h⟩ := bd2_some h
  refine zJ_callV2 (σ := σ) (L := ([(193, numbers_sizen1), (2112, drawn_state), (2114, drawn_tenths), (2115, drawn_refused), (2116, drawn_fallen)], [], [(4, numbers_told)])) (mi := mX11_tellDrawn) (yi := mX6_put) (as := [.long drawn_tenths.toInt64]) (st := []) (L2 := ([(193, numbers_sizen2), (2112, drawn_state), (2114, drawn_tenths), (2115, drawn_refused), (2116, drawn_fallen)], [], [(4, numbers_toldn3)])) dX11_tellDrawn_19 ML_X11_177 Yv_X6_put rfl zW_3 rfl rfl (t_X6_put l _ hcl) (zsub_i (zle_c rfl zle_n) zle_n (zle_c rfl zle_n)) (zjok_i rfl rfl (zle_c rfl (zle_c rfl (zle_c rfl (zle_c rfl (zle_c rfl zle_n))))) rfl rfl zle_n rfl rfl (zle_c rfl zle_n)) (Nat.le_of_ble_eq_true rfl) (Nat.le_of_ble_eq_true rfl) rfl rfl ?_
  refine zJ_aload_n dX11_tellDrawn_22 rfl rfl ?_
  refine zJ_getr (mi := mX11_tellDrawn) dX11_tellDrawn_23 F_X11_19 zW_0 rfl rfl ?_
  refine zJ_aload_n dX11_tellDrawn_26 rfl rfl ?_
  refine zJ_getr (mi := mX11_tellDrawn) dX11_tellDrawn_27 F_X11_52 zW_0 rfl rfl ?_
  refine zJ_geti (mi := mX11_tellDrawn) (x := drawn_refused) dX11_tellDrawn_30 F_X11_277 zW_33 rfl rfl rfl ?_
  refine zJ_i2l dX11_tellDrawn_33 rfl ?_
  obtain ⟨numbers_sizen4, numbers_toldn5, hcl, h⟩ := bd2_some h
  refine zJ_callV2 (σ := σ) (L := ([(193, numbers_sizen2), (2112, drawn_state), (2114, drawn_tenths), (2115, drawn_refused), (2116, drawn_fallen)], [], [(4, numbers_toldn3)])) (mi := mX11_tellDrawn) (yi := mX6_put) (as := [.long drawn_refused.toInt64]) (st := []) (L2 := ([(193, numbers_sizen4), (2112, drawn_state), (2114, drawn_tenths), (2115, drawn_refused), (2116, drawn_fallen)], [], [(4, numbers_toldn5)])) dX11_tellDrawn_34 ML_X11_177 Yv_X6_put rfl zW_3 rfl rfl (t_X6_put l _ hcl) (zsub_i (zle_c rfl zle_n) zle_n (zle_c rfl zle_n)) (zjok_i rfl rfl (zle_c rfl (zle_c rfl (zle_c rfl (zle_c rfl (zle_c rfl zle_n))))) rfl rfl zle_n rfl rfl (zle_c rfl zle_n)) (Nat.le_of_ble_eq_true rfl) (Nat.le_of_ble_eq_true rfl) rfl rfl ?_
  refine zJ_aload_n dX11_tellDrawn_37 rfl rfl ?_
  refine zJ_getr (mi := mX11_tellDrawn) dX11_tellDrawn_38 F_X11_19 zW_0 rfl rfl ?_
  refine zJ_aload_n dX11_tellDrawn_41 rfl rfl ?_
  refine zJ_getr (mi := mX11_tellDrawn) dX11_tellDrawn_42 F_X11_52 zW_0 rfl rfl ?_
  refine zJ_geti (mi := mX11_tellDrawn) (x := drawn_fallen) dX11_tellDrawn_45 F_X11_280 zW_33 rfl rfl rfl ?_
  refine zJ_i2l dX11_tellDrawn_48 rfl ?_
  obtain ⟨numbers_sizen6, numbers_toldn7, hcl, h⟩ := bd2_some h
  refine zJ_callV2 (σ := σ) (L := ([(193, numbers_sizen4), (2112, drawn_state), (2114, drawn_tenths), (2115, drawn_refused), (2116, drawn_fallen)], [], [(4, numbers_toldn5)])) (mi := mX11_tellDrawn) (yi := mX6_put) (as := [.long drawn_fallen.toInt64]) (st := []) (L2 := ([(193, numbers_sizen6), (2112, drawn_state), (2114, drawn_tenths), (2115, drawn_refused), (2116, drawn_fallen)], [], [(4, numbers_toldn7)])) dX11_tellDrawn_49 ML_X11_177 Yv_X6_put rfl zW_3 rfl rfl (t_X6_put l _ hcl) (zsub_i (zle_c rfl zle_n) zle_n (zle_c rfl zle_n)) (zjok_i rfl rfl (zle_c rfl (zle_c rfl (zle_c rfl (zle_c rfl (zle_c rfl zle_n))))) rfl rfl zle_n rfl rfl (zle_c rfl zle_n)) (Nat.le_of_ble_eq_true rfl) (Nat.le_of_ble_eq_true rfl) rfl rfl ?_
  refine zJ_aload_n dX11_tellDrawn_52 rfl rfl ?_
  refine zJ_getr (mi := mX11_tellDrawn) dX11_tellDrawn_53 F_X11_19 zW_0 rfl rfl ?_
  refine zJ_aload_n dX11_tellDrawn_56 rfl rfl ?_
  refine zJ_getr (mi := mX11_tellDrawn) dX11_tellDrawn_57 F_X11_52 zW_0 rfl rfl ?_
  refine zJ_geti (mi := mX11_tellDrawn) (x := drawn_state) dX11_tellDrawn_60 F_X11_283 zW_33 rfl rfl rfl ?_
  refine zJ_i2l dX11_tellDrawn_63 rfl ?_
  obtain ⟨numbers_sizen8, numbers_toldn9, hcl, h⟩ := bd2_some h
  refine zJ_callV2 (σ := σ) (L := ([(193, numbers_sizen6), (2112, drawn_state), (2114, drawn_tenths), (2115, drawn_refused), (2116, drawn_fallen)], [], [(4, numbers_toldn7)])) (mi := mX11_tellDrawn) (yi := mX6_put) (as := [.long drawn_state.toInt64]) (st := []) (L2 := ([(193, numbers_sizen8), (2112, drawn_state), (2114, drawn_tenths), (2115, drawn_refused), (2116, drawn_fallen)], [], [(4, numbers_toldn9)])) dX11_tellDrawn_64 ML_X11_177 Yv_X6_put rfl zW_3 rfl rfl (t_X6_put l _ hcl) (zsub_i (zle_c rfl zle_n) zle_n (zle_c rfl zle_n)) (zjok_i rfl rfl (zle_c rfl (zle_c rfl (zle_c rfl (zle_c rfl (zle_c rfl zle_n))))) rfl rfl zle_n rfl rfl (zle_c rfl zle_n)) (Nat.le_of_ble_eq_true rfl) (Nat.le_of_ble_eq_true rfl) rfl rfl ?_
  obtain ⟨rfl, rfl⟩ := so2 h
  exact zJ_vret dX11_tellDrawn_67 rfl
