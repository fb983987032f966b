set_option maxRecDepth 100000 in
set_option maxHeartbeats 4000000 in
theorem t_X11_fair (l : Launch) (σ : zS) {p1 : Int32} {numbers_size : Int32} {course_fences : Int32} {course_horseCount : Int32} {course_digits : (Nat → Int32)} {numbers_told : (Nat → Int64)} {r : Int32} {w_numbers_size : Int32} {w_numbers_told : (Nat → Int64)} (h : f_X11_fair p1 numbers_size course_fences course_horseCount course_digits numbers_told = some (r, w_numbers_size, w_numbers_told)) : zMt l zW 2 mX11_fair σ ([(193, numbers_size), (323, course_fences), (326, course_horseCount)], [(10, course_digits)], [(4, numbers_told)]) [.ref 0, .int p1] (some (.int r)) ([(193, w_numbers_size), (323, course_fences), (326, course_horseCount)], [(10, course_digits)], [(4, w_numbers_told)]) := by
  refine zMt_of (ls := [(0, .ref 0), (1, .int p1)]) (by decide) rfl (fun _ => Nat.le_of_ble_eq_true rfl) rfl ?_
  unfold f_X11_fair at h
  refine zJ_aload_n dX11_fair_0 rfl rfl ?_
  refine zJ_getr (mi := mX11_fair) dX11_fair_1 F_X11_26 zW_0 rfl rfl ?_
  refine zJ_iload_n dX11_fair_4 rfl rfl ?_
  obtain ⟨rn1, hcl, h⟩ := bd1_some h
  refine zJ_callV2 (σ := σ) (L := ([(193, numbers_size), (323, course_fences), (326, course_horseCount)], [(10, course_digits)], [(4, numbers_told)])) (mi := mX11_fair) (yi := mX1_hasFence) (as := [.int p1]) (st := []) (L2 := ([(193, numbers_size), (323, course_fences), (326, course_horseCount)], [(10, course_digits)], [(4, numbers_told)])) dX11_fair_5 ML_X11_132 Yv_X1_hasFence rfl zW_5 rfl rfl (t_X1_hasFence l _ hcl) (zsub_i (zle_c rfl zle_n) zle_n zle_n) (zjok_i rfl rfl (zle_c rfl (zle_c rfl (zle_c rfl zle_n))) rfl rfl (zle_c rfl zle_n) rfl rfl (zle_c rfl zle_n)) (Nat.le_of_ble_eq_true rfl) (Nat.le_of_ble_eq_true rfl) rfl rfl ?_
  refine zJ_if_ne (tgt := 13) dX11_fair_8 (by decide) rfl (fun hc => ?_) (fun hc => ?_)
  · replace h := it_f hc h
    refine zJ_iconst dX11_fair_13 zc_m1 rfl ?_
    refine zJ_istore_n (ls' := [(2, .int (-1 : Int32)), (0, .ref 0), (1, .int p1)]) dX11_fair_14 rfl rfl rfl ?_
    refine zJ_iconst dX11_fair_15 zc_0 rfl ?_
    refine zJ_istore_n (ls' := [(3, .int (0 : Int32)), (2, .int (-1 : Int32)), (0, .ref 0), (1, .int p1)]) dX11_fair_16 rfl rfl rfl ?_
    refine zJ_iconst dX11_fair_17 zc_0 rfl ?_
    refine zJ_istore (ls' := [(4, .int (0 : Int32)), (3, .int (0 : Int32)), (2, .int (-1 : Int32)), (0, .ref 0), (1, .int p1)]) dX11_fair_18 rfl rfl rfl ?_
    refine zJ_bipush dX11_fair_20 zb_10 rfl ?_
    refine zJ_istore (ls' := [(5, .int (10 : Int32)), (4, .int (0 : Int32)), (3, .int (0 : Int32)), (2, .int (-1 : Int32)), (0, .ref 0), (1, .int p1)]) dX11_fair_22 rfl rfl rfl ?_
    have hk24 : ∀ (v2_24x : Int32) (v3_24x : Int32) (v4_24x : Int32), k_X11_fair_24 numbers_size numbers_told v2_24x v3_24x v4_24x = some (r, w_numbers_size, w_numbers_told) → zJ l zW 2 mX11_fair σ ([(193, numbers_size), (323, course_fences), (326, course_horseCount)], [(10, course_digits)], [(4, numbers_told)]) 118 [(0, .ref 0), (2, .int v2_24x), (3, .int v3_24x), (4, .int v4_24x)] [] (some (.int r)) ([(193, w_numbers_size), (323, course_fences), (326, course_horseCount)], [(10, course_digits)], [(4, w_numbers_told)]) := by
      intro v2_24x v3_24x v4_24x h
      unfold k_X11_fair_24 at h
      refine zJ_aload_n dX11_fair_118 rfl rfl ?_
      refine zJ_getr (mi := mX11_fair) dX11_fair_119 F_X11_19 zW_0 rfl rfl ?_
      obtain ⟨numbers_sizen2, hcl, h⟩ := bd1_some h
      refine zJ_callV2 (σ := σ) (L := ([(193, numbers_size), (323, course_fences), (326, course_horseCount)], [(10, course_digits)], [(4, numbers_told)])) (mi := mX11_fair) (yi := mX6_start) (as := []) (st := []) (L2 := ([(193, numbers_sizen2), (323, course_fences), (326, course_horseCount)], [(10, course_digits)], [(4, numbers_told)])) dX11_fair_122 ML_X11_171 Yv_X6_start rfl zW_3 rfl rfl (t_X6_start l _ hcl) (zsub_i (zle_c rfl zle_n) zle_n zle_n) (zjok_i rfl rfl (zle_c rfl (zle_c rfl (zle_c rfl zle_n))) rfl rfl (zle_c rfl zle_n) rfl rfl (zle_c rfl zle_n)) (Nat.le_of_ble_eq_true rfl) (Nat.le_of_ble_eq_true rfl) rfl rfl ?_
      refine zJ_aload_n dX11_fair_125 rfl rfl ?_
      refine zJ_getr (mi := mX11_fair) dX11_fair_126 F_X11_19 zW_0 rfl rfl ?_
      refine zJ_iload_n dX11_fair_129 rfl rfl ?_
      refine zJ_i2l dX11_fair_130 rfl ?_
      obtain ⟨numbers_sizen3, numbers_toldn4, hcl, h⟩ := bd2_some h
      refine zJ_callV2 (σ := σ) (L := ([(193, numbers_sizen2), (323, course_fences), (326, course_horseCount)], [(10, course_digits)], [(4, numbers_told)])) (mi := mX11_fair) (yi := mX6_put) (as := [.long v3_24x.toInt64]) (st := []) (L2 := ([(193, numbers_sizen3), (323, course_fences), (326, course_horseCount)], [(10, course_digits)], [(4, numbers_toldn4)])) dX11_fair_131 ML_X11_177 Yv_X6_put rfl zW_3 rfl rfl (t_X6_put l _ hcl) (zsub_i (zle_c rfl zle_n) zle_n (zle_c rfl zle_n)) (zjok_i rfl rfl (zle_c rfl (zle_c rfl (zle_c rfl zle_n))) rfl rfl (zle_c rfl zle_n) rfl rfl (zle_c rfl zle_n)) (Nat.le_of_ble_eq_true rfl) (Nat.le_of_ble_eq_true rfl) rfl rfl ?_
      refine zJ_aload_n dX11_fair_134 rfl rfl ?_
      refine zJ_getr (mi := mX11_fair) dX11_fair_135 F_X11_19 zW_0 rfl rfl ?_
      refine zJ_iload dX11_fair_138 rfl rfl ?_
      refine zJ_i2l dX11_fair_140 rfl ?_
      obtain ⟨numbers_sizen5, numbers_toldn6, hcl, h⟩ := bd2_some h
      refine zJ_callV2 (σ := σ) (L := ([(193, numbers_sizen3), (323, course_fences), (326, course_horseCount)], [(10, course_digits)], [(4, numbers_toldn4)])) (mi := mX11_fair) (yi := mX6_put) (as := [.long v4_24x.toInt64]) (st := []) (L2 := ([(193, numbers_sizen5), (323, course_fences), (326, course_horseCount)], [(10, course_digits)], [(4, numbers_toldn6)])) dX11_fair_141 ML_X11_177 Yv_X6_put rfl zW_3 rfl rfl (t_X6_put l _ hcl) (zsub_i (zle_c rfl zle_n) zle_n (zle_c rfl zle_n)) (zjok_i rfl rfl (zle_c rfl (zle_c rfl (zle_c rfl zle_n))) rfl rfl (zle_c rfl zle_n) rfl rfl (zle_c rfl zle_n)) (Nat.le_of_ble_eq_true rfl) (Nat.le_of_ble_eq_true rfl) rfl rfl ?_
      refine zJ_iload_n dX11_fair_144 rfl rfl ?_
      obtain ⟨rfl, rfl, rfl⟩ := so3 h
      exact zJ_iret dX11_fair_145 rfl rfl
    refine zJ_loc (ls' := [(0, .ref 0), (2, .int (-1 : Int32)), (3, .int (0 : Int32)), (4, .int (0 : Int32)), (5, .int (10 : Int32))]) (zll_c rfl (zll_c rfl (zll_c rfl (zll_c rfl (zll_c rfl zll_n))))) ?_
    refine ml4_J (fun (v2_24 : Int32) (v3_24 : Int32) (v4_24 : Int32) (v5_24 : Int32) => zJ l zW 2 mX11_fair σ ([(193, numbers_size), (323, course_fences), (326, course_horseCount)], [(10, course_digits)], [(4, numbers_told)]) 24 [(0, .ref 0), (2, .int v2_24), (3, .int v3_24), (4, .int v4_24), (5, .int v5_24)] [] (some (.int r)) ([(193, w_numbers_size), (323, course_fences), (326, course_horseCount)], [(10, course_digits)], [(4, w_numbers_told)])) (fun rc24 hrc24 v2_24 v3_24 v4_24 v5_24 h => ?_) zN _ _ _ _ h
    unfold s_X11_fair_24 at h
    refine zJ_iload dX11_fair_24 rfl rfl ?_
    refine zJ_bipush dX11_fair_26 zb_99 rfl ?_
    refine zJ_icmp_gt (tgt := 118) dX11_fair_28 (by decide) rfl (fun hc => ?_) (fun hc => ?_)
    · replace h := it_t hc h
      refine zJ_loc (ls' := [(0, .ref 0), (2, .int v2_24), (3, .int v3_24), (4, .int v4_24)]) (zll_c rfl (zll_c rfl (zll_c rfl (zll_c rfl zll_n)))) ?_
      exact hk24 _ _ _ h
    · replace h := it_f hc h
      refine zJ_iconst dX11_fair_31 zc_0 rfl ?_
      refine zJ_istore (ls' := [(6, .int (0 : Int32)), (0, .ref 0), (2, .int v2_24), (3, .int v3_24), (4, .int v4_24), (5, .int v5_24)]) dX11_fair_32 rfl rfl rfl ?_
      refine zJ_iconst dX11_fair_34 zc_0 rfl ?_
      refine zJ_istore (ls' := [(7, .int (0 : Int32)), (6, .int (0 : Int32)), (0, .ref 0), (2, .int v2_24), (3, .int v3_24), (4, .int v4_24), (5, .int v5_24)]) dX11_fair_35 rfl rfl rfl ?_
      refine zJ_iconst dX11_fair_37 zc_0 rfl ?_
      refine zJ_istore (ls' := [(8, .int (0 : Int32)), (7, .int (0 : Int32)), (6, .int (0 : Int32)), (0, .ref 0), (2, .int v2_24), (3, .int v3_24), (4, .int v4_24), (5, .int v5_24)]) dX11_fair_38 rfl rfl rfl ?_
      have hk40 : ∀ (v6_40x : Int32) (v7_40x : Int32), k_X11_fair_40 rc24 v2_24 v3_24 v4_24 v5_24 v6_40x v7_40x = some (r, w_numbers_size, w_numbers_told) → zJ l zW 2 mX11_fair σ ([(193, numbers_size), (323, course_fences), (326, course_horseCount)], [(10, course_digits)], [(4, numbers_told)]) 91 [(0, .ref 0), (2, .int v2_24), (3, .int v3_24), (4, .int v4_24), (5, .int v5_24), (6, .int v6_40x), (7, .int v7_40x)] [] (some (.int r)) ([(193, w_numbers_size), (323, course_fences), (326, course_horseCount)], [(10, course_digits)], [(4, w_numbers_told)]) := by
        intro v6_40x v7_40x h
        unfold k_X11_fair_40 at h
        refine zJ_iload_n dX11_fair_91 rfl rfl ?_
        refine zJ_iconst dX11_fair_92 zc_m1 rfl ?_
        refine zJ_icmp_eq (tgt := 102) dX11_fair_93 (by decide) rfl (fun hc => ?_) (fun hc => ?_)
        · replace h := it_t hc h
          refine zJ_iload dX11_fair_102 rfl rfl ?_
          refine zJ_istore_n (ls' := [(2, .int v5_24), (0, .ref 0), (3, .int v3_24), (4, .int v4_24), (5, .int v5_24), (6, .int v6_40x), (7, .int v7_40x)]) dX11_fair_104 rfl rfl rfl ?_
          refine zJ_iload dX11_fair_105 rfl rfl ?_
          refine zJ_istore_n (ls' := [(3, .int v6_40x), (2, .int v5_24), (0, .ref 0), (4, .int v4_24), (5, .int v5_24), (6, .int v6_40x), (7, .int v7_40x)]) dX11_fair_107 rfl rfl rfl ?_
          refine zJ_iload dX11_fair_108 rfl rfl ?_
          refine zJ_istore (ls' := [(4, .int v7_40x), (3, .int v6_40x), (2, .int v5_24), (0, .ref 0), (5, .int v5_24), (6, .int v6_40x), (7, .int v7_40x)]) dX11_fair_110 rfl rfl rfl ?_
          obtain ⟨v5n7, ev5n7, h⟩ := lt1_some h
          refine zJ_iincN (ls' := [(5, .int v5n7), (4, .int v7_40x), (3, .int v6_40x), (2, .int v5_24), (0, .ref 0), (6, .int v6_40x), (7, .int v7_40x)]) dX11_fair_112 rfl rfl zc_1 ev5n7 rfl rfl ?_
          refine zJ_goto (tgt := 24) dX11_fair_115 (by decide) ?_
          refine zJ_loc (ls' := [(0, .ref 0), (2, .int v5_24), (3, .int v6_40x), (4, .int v7_40x), (5, .int v5n7)]) (zll_c rfl (zll_c rfl (zll_c rfl (zll_c rfl (zll_c rfl zll_n))))) ?_
          exact hrc24 _ _ _ _ h
        · replace h := it_f hc h
          refine zJ_iload dX11_fair_96 rfl rfl ?_
          refine zJ_iload_n dX11_fair_98 rfl rfl ?_
          refine zJ_icmp_ge (tgt := 112) dX11_fair_99 (by decide) rfl (fun hc => ?_) (fun hc => ?_)
          · replace h := it_t hc h
            obtain ⟨v5n8, ev5n8, h⟩ := lt1_some h
            refine zJ_iincN (ls' := [(5, .int v5n8), (0, .ref 0), (2, .int v2_24), (3, .int v3_24), (4, .int v4_24), (6, .int v6_40x), (7, .int v7_40x)]) dX11_fair_112 rfl rfl zc_1 ev5n8 rfl rfl ?_
            refine zJ_goto (tgt := 24) dX11_fair_115 (by decide) ?_
            refine zJ_loc (ls' := [(0, .ref 0), (2, .int v2_24), (3, .int v3_24), (4, .int v4_24), (5, .int v5n8)]) (zll_c rfl (zll_c rfl (zll_c rfl (zll_c rfl (zll_c rfl zll_n))))) ?_
            exact hrc24 _ _ _ _ h
          · replace h := it_f hc h
            refine zJ_iload dX11_fair_102 rfl rfl ?_
            refine zJ_istore_n (ls' := [(2, .int v5_24), (0, .ref 0), (3, .int v3_24), (4, .int v4_24), (5, .int v5_24), (6, .int v6_40x), (7, .int v7_40x)]) dX11_fair_104 rfl rfl rfl ?_
            refine zJ_iload dX11_fair_105 rfl rfl ?_
            refine zJ_istore_n (ls' := [(3, .int v6_40x), (2, .int v5_24), (0, .ref 0), (4, .int v4_24), (5, .int v5_24), (6, .int v6_40x), (7, .int v7_40x)]) dX11_fair_107 rfl rfl rfl ?_
            refine zJ_iload dX11_fair_108 rfl rfl ?_
            refine zJ_istore (ls' := [(4, .int v7_40x), (3, .int v6_40x), (2, .int v5_24), (0, .ref 0), (5, .int v5_24), (6, .int v6_40x), (7, .int v7_40x)]) dX11_fair_110 rfl rfl rfl ?_
            obtain ⟨v5n9, ev5n9, h⟩ := lt1_some h
            refine zJ_iincN (ls' := [(5, .int v5n9), (4, .int v7_40x), (3, .int v6_40x), (2, .int v5_24), (0, .ref 0), (6, .int v6_40x), (7, .int v7_40x)]) dX11_fair_112 rfl rfl zc_1 ev5n9 rfl rfl ?_
            refine zJ_goto (tgt := 24) dX11_fair_115 (by decide) ?_
            refine zJ_loc (ls' := [(0, .ref 0), (2, .int v5_24), (3, .int v6_40x), (4, .int v7_40x), (5, .int v5n9)]) (zll_c rfl (zll_c rfl (zll_c rfl (zll_c rfl (zll_c rfl zll_n))))) ?_
            exact hrc24 _ _ _ _ h
      refine zJ_loc (ls' := [(0, .ref 0), (2, .int v2_24), (3, .int v3_24), (4, .int v4_24), (5, .int v5_24), (6, .int (0 : Int32)), (7, .int (0 : Int32)), (8, .int (0 : Int32))]) (zll_c rfl (zll_c rfl (zll_c rfl (zll_c rfl (zll_c rfl (zll_c rfl (zll_c rfl (zll_c rfl zll_n)))))))) ?_
      refine ml3_J (fun (v6_40 : Int32) (v7_40 : Int32) (v8_40 : Int32) => zJ l zW 2 mX11_fair σ ([(193, numbers_size), (323, course_fences), (326, course_horseCount)], [(10, course_digits)], [(4, numbers_told)]) 40 [(0, .ref 0), (2, .int v2_24), (3, .int v3_24), (4, .int v4_24), (5, .int v5_24), (6, .int v6_40), (7, .int v7_40), (8, .int v8_40)] [] (some (.int r)) ([(193, w_numbers_size), (323, course_fences), (326, course_horseCount)], [(10, course_digits)], [(4, w_numbers_told)])) (fun rc40 hrc40 v6_40 v7_40 v8_40 h => ?_) zN _ _ _ h
      unfold s_X11_fair_40 at h
      refine zJ_iload dX11_fair_40 rfl rfl ?_
      refine zJ_aload_n dX11_fair_42 rfl rfl ?_
      refine zJ_getr (mi := mX11_fair) dX11_fair_43 F_X11_26 zW_0 rfl rfl ?_
      refine zJ_geti (mi := mX11_fair) (x := course_horseCount) dX11_fair_46 F_X11_368 zW_5 rfl rfl rfl ?_
      refine zJ_icmp_ge (tgt := 91) dX11_fair_49 (by decide) rfl (fun hc => ?_) (fun hc => ?_)
      · replace h := it_t hc h
        refine zJ_loc (ls' := [(0, .ref 0), (2, .int v2_24), (3, .int v3_24), (4, .int v4_24), (5, .int v5_24), (6, .int v6_40), (7, .int v7_40)]) (zll_c rfl (zll_c rfl (zll_c rfl (zll_c rfl (zll_c rfl (zll_c rfl (zll_c rfl zll_n))))))) ?_
        exact hk40 _ _ h
      · replace h := it_f hc h
        refine zJ_iload dX11_fair_52 rfl rfl ?_
        refine zJ_aload_n dX11_fair_54 rfl rfl ?_
        refine zJ_getr (mi := mX11_fair) dX11_fair_55 F_X11_26 zW_0 rfl rfl ?_
        refine zJ_iload dX11_fair_58 rfl rfl ?_
        refine zJ_iconst dX11_fair_60 zc_0 rfl ?_
        obtain ⟨rn10, hcl, h⟩ := bd1_some h
        refine zJ_callV2 (σ := σ) (L := ([(193, numbers_size), (323, course_fences), (326, course_horseCount)], [(10, course_digits)], [(4, numbers_told)])) (mi := mX11_fair) (yi := mX1_ofHorse) (as := [.int v8_40, .int (0 : Int32)]) (st := [.int v5_24]) (L2 := ([(193, numbers_size), (323, course_fences), (326, course_horseCount)], [(10, course_digits)], [(4, numbers_told)])) dX11_fair_61 ML_X11_150 Yv_X1_ofHorse rfl zW_5 rfl rfl (t_X1_ofHorse l _ hcl) (zsub_i zle_n (zle_c rfl zle_n) zle_n) (zjok_i rfl rfl (zle_c rfl (zle_c rfl (zle_c rfl zle_n))) rfl rfl (zle_c rfl zle_n) rfl rfl (zle_c rfl zle_n)) (Nat.le_of_ble_eq_true rfl) (Nat.le_of_ble_eq_true rfl) rfl rfl ?_
        obtain ⟨rn11, hcl, h⟩ := bd1_some h
        refine zJ_callS2 (σ := σ) (L := ([(193, numbers_size), (323, course_fences), (326, course_horseCount)], [(10, course_digits)], [(4, numbers_told)])) (mi := mX11_fair) (yi := mX1_lean) (as := [.int v5_24, .int rn10]) (st := []) (L2 := ([(193, numbers_size), (323, course_fences), (326, course_horseCount)], [(10, course_digits)], [(4, numbers_told)])) dX11_fair_64 ML_X11_424 Ys_X1_lean rfl (t_X1_lean l _ hcl) (zsub_i zle_n zle_n zle_n) (zjok_i rfl rfl (zle_c rfl (zle_c rfl (zle_c rfl zle_n))) rfl rfl (zle_c rfl zle_n) rfl rfl (zle_c rfl zle_n)) (Nat.le_of_ble_eq_true rfl) (Nat.le_of_ble_eq_true rfl) rfl rfl ?_
        refine zJ_istore (ls' := [(9, .int rn11), (0, .ref 0), (2, .int v2_24), (3, .int v3_24), (4, .int v4_24), (5, .int v5_24), (6, .int v6_40), (7, .int v7_40), (8, .int v8_40)]) dX11_fair_67 rfl rfl rfl ?_
        refine zJ_iload dX11_fair_69 rfl rfl ?_
        refine zJ_iload dX11_fair_71 rfl rfl ?_
        refine zJ_iadd dX11_fair_73 rfl ?_
        obtain ⟨v6n12, ev6n12, h⟩ := lt1_some h
        refine zJ_nmi ev6n12 ?_
        refine zJ_istore (ls' := [(6, .int v6n12), (9, .int rn11), (0, .ref 0), (2, .int v2_24), (3, .int v3_24), (4, .int v4_24), (5, .int v5_24), (7, .int v7_40), (8, .int v8_40)]) dX11_fair_74 rfl rfl rfl ?_
        refine zJ_iload dX11_fair_76 rfl rfl ?_
        refine zJ_iload dX11_fair_78 rfl rfl ?_
        refine zJ_mmax (mi := mX11_fair) dX11_fair_80 L_X11_168 K_max_s K_math K_max_c (Nat.le_of_ble_eq_true rfl) (Nat.le_of_ble_eq_true rfl) rfl ?_
        obtain ⟨v7n13, ev7n13, h⟩ := lt1_some h
        refine zJ_nmi ev7n13 ?_
        refine zJ_istore (ls' := [(7, .int v7n13), (6, .int v6n12), (9, .int rn11), (0, .ref 0), (2, .int v2_24), (3, .int v3_24), (4, .int v4_24), (5, .int v5_24), (8, .int v8_40)]) dX11_fair_83 rfl rfl rfl ?_
        obtain ⟨v8n14, ev8n14, h⟩ := lt1_some h
        refine zJ_iincN (ls' := [(8, .int v8n14), (7, .int v7n13), (6, .int v6n12), (9, .int rn11), (0, .ref 0), (2, .int v2_24), (3, .int v3_24), (4, .int v4_24), (5, .int v5_24)]) dX11_fair_85 rfl rfl zc_1 ev8n14 rfl rfl ?_
        refine zJ_goto (tgt := 40) dX11_fair_88 (by decide) ?_
        refine zJ_loc (ls' := [(0, .ref 0), (2, .int v2_24), (3, .int v3_24), (4, .int v4_24), (5, .int v5_24), (6, .int v6n12), (7, .int v7n13), (8, .int v8n14)]) (zll_c rfl (zll_c rfl (zll_c rfl (zll_c rfl (zll_c rfl (zll_c rfl (zll_c rfl (zll_c rfl zll_n)))))))) ?_
        exact hrc40 _ _ _ h
  · replace h := it_t hc h
    refine zJ_iconst dX11_fair_11 zc_m1 rfl ?_
    obtain ⟨rfl, rfl, rfl⟩ := so3 h
    exact zJ_iret dX11_fair_12 rfl rfl
set_option maxRecDepth 100000 in
set_option maxHeartbeats 4000000 in
theorem t_X11_falls (l : Launch) (σ : zS) {p1 : Int32} {p2 : Int32} {numbers_size : Int32} {course_fences : Int32} {course_horseCount : Int32} {course_planCount : Int32} {course_rule_size : Int32} {course_kinds : (Nat → Int32)} {course_heights : (Nat → Int32)} {course_feet : (Nat → Int32)} {course_digits : (Nat → Int32)} {course_plans : (Nat → Int32)} {rule_codes : (Nat → Int32)} {rule_stack : (Nat → Int32)} {rule_things : (Nat → Int32)} {numbers_told : (Nat → Int64)} {r : Int32} {w_numbers_size : Int32} {w_rule_stack : (Nat → Int32)} {w_rule_things : (Nat → Int32)} {w_numbers_told : (Nat → Int64)} (h : f_X11_falls p1 p2 numbers_size course_fences course_horseCount course_planCount course_rule_size course_kinds course_heights course_feet course_digits course_plans rule_codes rule_stack rule_things numbers_told = some (r, w_numbers_size, w_rule_stack, w_rule_things, w_numbers_told)) : zMt l zW 4 mX11_falls σ ([(193, numbers_size), (323, course_fences), (326, course_horseCount), (328, course_planCount), (769, course_rule_size)], [(6, course_kinds), (7, course_heights), (8, course_feet), (10, course_digits), (11, course_plans), (13, rule_codes), (15, rule_stack), (16, rule_things)], [(4, numbers_told)]) [.ref 0, .int p1, .int p2] (some (.int r)) ([(193, w_numbers_size), (323, course_fences), (326, course_horseCount), (328, course_planCount), (769, course_rule_size)], [(6, course_kinds), (7, course_heights), (8, course_feet), (10, course_digits), (11, course_plans), (13, rule_codes), (15, w_rule_stack), (16, w_rule_things)], [(4, w_numbers_told)]) := by
  refine zMt_of (ls := [(0, .ref 0), (1, .int p1), (2, .int p2)]) (by decide) rfl (fun _ => Nat.le_of_ble_eq_true rfl) rfl ?_
  unfold f_X11_falls at h
  refine zJ_aload_n dX11_falls_0 rfl rfl ?_
  refine zJ_getr (mi := mX11_falls) dX11_falls_1 F_X11_26 zW_0 rfl rfl ?_
  refine zJ_iload_n dX11_falls_4 rfl rfl ?_
  obtain ⟨rn1, hcl, h⟩ := bd1_some h
  refine zJ_callV2 (σ := σ) (L := ([(193, numbers_size), (323, course_fences), (326, course_horseCount), (328, course_planCount), (769, course_rule_size)], [(6, course_kinds), (7, course_heights), (8, course_feet), (10, course_digits), (11, course_plans), (13, rule_codes), (15, rule_stack), (16, rule_things)], [(4, numbers_told)])) (mi := mX11_falls) (yi := mX1_hasHorse) (as := [.int p1]) (st := []) (L2 := ([(193, numbers_size), (323, course_fences), (326, course_horseCount), (328, course_planCount), (769, course_rule_size)], [(6, course_kinds), (7, course_heights), (8, course_feet), (10, course_digits), (11, course_plans), (13, rule_codes), (15, rule_stack), (16, rule_things)], [(4, numbers_told)])) dX11_falls_5 ML_X11_147 Yv_X1_hasHorse rfl zW_5 rfl rfl (t_X1_hasHorse l _ hcl) (zsub_i (zle_c rfl zle_n) zle_n zle_n) (zjok_i rfl rfl (zle_c rfl (zle_c rfl (zle_c rfl (zle_c rfl (zle_c rfl zle_n))))) rfl rfl (zle_c rfl (zle_c rfl (zle_c rfl (zle_c rfl (zle_c rfl (zle_c rfl (zle_c rfl (zle_c rfl zle_n)))))))) rfl rfl (zle_c rfl zle_n)) (Nat.le_of_ble_eq_true rfl) (Nat.le_of_ble_eq_true rfl) rfl rfl ?_
  refine zJ_if_eq (tgt := 22) dX11_falls_8 (by decide) rfl (fun hc => ?_) (fun hc => ?_)
  · replace h := it_t hc h
    refine zJ_iconst dX11_falls_22 zc_m1 rfl ?_
    obtain ⟨rfl, rfl, rfl, rfl, rfl⟩ := so5 h
    exact zJ_iret dX11_falls_23 rfl rfl
  · replace h := it_f hc h
    refine zJ_aload_n dX11_falls_11 rfl rfl ?_
    refine zJ_getr (mi := mX11_falls) dX11_falls_12 F_X11_26 zW_0 rfl rfl ?_
    refine zJ_iload_n dX11_falls_15 rfl rfl ?_
    obtain ⟨rn2, hcl, h⟩ := bd1_some h
    refine zJ_callV2 (σ := σ) (L := ([(193, numbers_size), (323, course_fences), (326, course_horseCount), (328, course_planCount), (769, course_rule_size)], [(6, course_kinds), (7, course_heights), (8, course_feet), (10, course_digits), (11, course_plans), (13, rule_codes), (15, rule_stack), (16, rule_things)], [(4, numbers_told)])) (mi := mX11_falls) (yi := mX1_hasPlan) (as := [.int p2]) (st := []) (L2 := ([(193, numbers_size), (323, course_fences), (326, course_horseCount), (328, course_planCount), (769, course_rule_size)], [(6, course_kinds), (7, course_heights), (8, course_feet), (10, course_digits), (11, course_plans), (13, rule_codes), (15, rule_stack), (16, rule_things)], [(4, numbers_told)])) dX11_falls_16 ML_X11_191 Yv_X1_hasPlan rfl zW_5 rfl rfl (t_X1_hasPlan l _ hcl) (zsub_i (zle_c rfl zle_n) zle_n zle_n) (zjok_i rfl rfl (zle_c rfl (zle_c rfl (zle_c rfl (zle_c rfl (zle_c rfl zle_n))))) rfl rfl (zle_c rfl (zle_c rfl (zle_c rfl (zle_c rfl (zle_c rfl (zle_c rfl (zle_c rfl (zle_c rfl zle_n)))))))) rfl rfl (zle_c rfl zle_n)) (Nat.le_of_ble_eq_true rfl) (Nat.le_of_ble_eq_true rfl) rfl rfl ?_
    refine zJ_if_ne (tgt := 24) dX11_falls_19 (by decide) rfl (fun hc => ?_) (fun hc => ?_)
    · replace h := it_f hc h
      refine zJ_aload_n dX11_falls_24 rfl rfl ?_
      refine zJ_getr (mi := mX11_falls) dX11_falls_25 F_X11_26 zW_0 rfl rfl ?_
      refine zJ_geti (mi := mX11_falls) (x := course_fences) dX11_falls_28 F_X11_157 zW_5 rfl rfl rfl ?_
      refine zJ_if_ne (tgt := 37) dX11_falls_31 (by decide) rfl (fun hc => ?_) (fun hc => ?_)
      · replace h := it_f hc h
        refine zJ_iconst dX11_falls_37 zc_0 rfl ?_
        refine zJ_istore_n (ls' := [(3, .int (0 : Int32)), (0, .ref 0), (1, .int p1), (2, .int p2)]) dX11_falls_38 rfl rfl rfl ?_
        refine zJ_iconst dX11_falls_39 zc_m1 rfl ?_
        refine zJ_istore (ls' := [(4, .int (-1 : Int32)), (3, .int (0 : Int32)), (0, .ref 0), (1, .int p1), (2, .int p2)]) dX11_falls_40 rfl rfl rfl ?_
        refine zJ_iconst dX11_falls_42 zc_0 rfl ?_
        refine zJ_istore (ls' := [(5, .int (0 : Int32)), (4, .int (-1 : Int32)), (3, .int (0 : Int32)), (0, .ref 0), (1, .int p1), (2, .int p2)]) dX11_falls_43 rfl rfl rfl ?_
        have hk45 : ∀ (v3_45x : Int32) (v4_45x : Int32) (rule_stack_45x : (Nat → Int32)) (rule_things_45x : (Nat → Int32)), k_X11_falls_45 numbers_size numbers_told v3_45x v4_45x rule_stack_45x rule_things_45x = some (r, w_numbers_size, w_rule_stack, w_rule_things, w_numbers_told) → zJ l zW 4 mX11_falls σ ([(193, numbers_size), (323, course_fences), (326, course_horseCount), (328, course_planCount), (769, course_rule_size)], [(6, course_kinds), (7, course_heights), (8, course_feet), (10, course_digits), (11, course_plans), (13, rule_codes), (15, rule_stack_45x), (16, rule_things_45x)], [(4, numbers_told)]) 99 [(0, .ref 0), (3, .int v3_45x), (4, .int v4_45x)] [] (some (.int r)) ([(193, w_numbers_size), (323, course_fences), (326, course_horseCount), (328, course_planCount), (769, course_rule_size)], [(6, course_kinds), (7, course_heights), (8, course_feet), (10, course_digits), (11, course_plans), (13, rule_codes), (15, w_rule_stack), (16, w_rule_things)], [(4, w_numbers_told)]) := by
          intro v3_45x v4_45x rule_stack_45x rule_things_45x h
          unfold k_X11_falls_45 at h
          refine zJ_aload_n dX11_falls_99 rfl rfl ?_
          refine zJ_getr (mi := mX11_falls) dX11_falls_100 F_X11_19 zW_0 rfl rfl ?_
          obtain ⟨numbers_sizen3, hcl, h⟩ := bd1_some h
          refine zJ_callV2 (σ := σ) (L := ([(193, numbers_size), (323, course_fences), (326, course_horseCount), (328, course_planCount), (769, course_rule_size)], [(6, course_kinds), (7, course_heights), (8, course_feet), (10, course_digits), (11, course_plans), (13, rule_codes), (15, rule_stack_45x), (16, rule_things_45x)], [(4, numbers_told)])) (mi := mX11_falls) (yi := mX6_start) (as := []) (st := []) (L2 := ([(193, numbers_sizen3), (323, course_fences), (326, course_horseCount), (328, course_planCount), (769, course_rule_size)], [(6, course_kinds), (7, course_heights), (8, course_feet), (10, course_digits), (11, course_plans), (13, rule_codes), (15, rule_stack_45x), (16, rule_things_45x)], [(4, numbers_told)])) dX11_falls_103 ML_X11_171 Yv_X6_start rfl zW_3 rfl rfl (t_X6_start l _ hcl) (zsub_i (zle_c rfl zle_n) zle_n zle_n) (zjok_i rfl rfl (zle_c rfl (zle_c rfl (zle_c rfl (zle_c rfl (zle_c rfl zle_n))))) rfl rfl (zle_c rfl (zle_c rfl (zle_c rfl (zle_c rfl (zle_c rfl (zle_c rfl (zle_c rfl (zle_c rfl zle_n)))))))) rfl rfl (zle_c rfl zle_n)) (Nat.le_of_ble_eq_true rfl) (Nat.le_of_ble_eq_true rfl) rfl rfl ?_
          refine zJ_aload_n dX11_falls_106 rfl rfl ?_
          refine zJ_getr (mi := mX11_falls) dX11_falls_107 F_X11_19 zW_0 rfl rfl ?_
          refine zJ_iload dX11_falls_110 rfl rfl ?_
          refine zJ_i2l dX11_falls_112 rfl ?_
          obtain ⟨numbers_sizen4, numbers_toldn5, hcl, h⟩ := bd2_some h
          refine zJ_callV2 (σ := σ) (L := ([(193, numbers_sizen3), (323, course_fences), (326, course_horseCount), (328, course_planCount), (769, course_rule_size)], [(6, course_kinds), (7, course_heights), (8, course_feet), (10, course_digits), (11, course_plans), (13, rule_codes), (15, rule_stack_45x), (16, rule_things_45x)], [(4, numbers_told)])) (mi := mX11_falls) (yi := mX6_put) (as := [.long v4_45x.toInt64]) (st := []) (L2 := ([(193, numbers_sizen4), (323, course_fences), (326, course_horseCount), (328, course_planCount), (769, course_rule_size)], [(6, course_kinds), (7, course_heights), (8, course_feet), (10, course_digits), (11, course_plans), (13, rule_codes), (15, rule_stack_45x), (16, rule_things_45x)], [(4, numbers_toldn5)])) dX11_falls_113 ML_X11_177 Yv_X6_put rfl zW_3 rfl rfl (t_X6_put l _ hcl) (zsub_i (zle_c rfl zle_n) zle_n (zle_c rfl zle_n)) (zjok_i rfl rfl (zle_c rfl (zle_c rfl (zle_c rfl (zle_c rfl (zle_c rfl zle_n))))) rfl rfl (zle_c rfl (zle_c rfl (zle_c rfl (zle_c rfl (zle_c rfl (zle_c rfl (zle_c rfl (zle_c rfl zle_n)))))))) rfl rfl (zle_c rfl zle_n)) (Nat.le_of_ble_eq_true rfl) (Nat.le_of_ble_eq_true rfl) rfl rfl ?_
          refine zJ_iload_n dX11_falls_116 rfl rfl ?_
          obtain ⟨rfl, rfl, rfl, rfl, rfl⟩ := so5 h
          exact zJ_iret dX11_falls_117 rfl rfl
        refine zJ_loc (ls' := [(0, .ref 0), (1, .int p1), (2, .int p2), (3, .int (0 : Int32)), (4, .int (-1 : Int32)), (5, .int (0 : Int32))]) (zll_c rfl (zll_c rfl (zll_c rfl (zll_c rfl (zll_c rfl (zll_c rfl zll_n)))))) ?_
        refine ml5_J (fun (v3_45 : Int32) (v4_45 : Int32) (v5_45 : Int32) (rule_stack_45 : (Nat → Int32)) (rule_things_45 : (Nat → Int32)) => zJ l zW 4 mX11_falls σ ([(193, numbers_size), (323, course_fences), (326, course_horseCount), (328, course_planCount), (769, course_rule_size)], [(6, course_kinds), (7, course_heights), (8, course_feet), (10, course_digits), (11, course_plans), (13, rule_codes), (15, rule_stack_45), (16, rule_things_45)], [(4, numbers_told)]) 45 [(0, .ref 0), (1, .int p1), (2, .int p2), (3, .int v3_45), (4, .int v4_45), (5, .int v5_45)] [] (some (.int r)) ([(193, w_numbers_size), (323, course_fences), (326, course_horseCount), (328, course_planCount), (769, course_rule_size)], [(6, course_kinds), (7, course_heights), (8, course_feet), (10, course_digits), (11, course_plans), (13, rule_codes), (15, w_rule_stack), (16, w_rule_things)], [(4, w_numbers_told)])) (fun rc45 hrc45 v3_45 v4_45 v5_45 rule_stack_45 rule_things_45 h => ?_) zN _ _ _ _ _ h
        unfold s_X11_falls_45 at h
        refine zJ_iload dX11_falls_45 rfl rfl ?_
        refine zJ_aload_n dX11_falls_47 rfl rfl ?_
        refine zJ_getr (mi := mX11_falls) dX11_falls_48 F_X11_26 zW_0 rfl rfl ?_
        refine zJ_geti (mi := mX11_falls) (x := course_fences) dX11_falls_51 F_X11_157 zW_5 rfl rfl rfl ?_
        refine zJ_icmp_ge (tgt := 99) dX11_falls_54 (by decide) rfl (fun hc => ?_) (fun hc => ?_)
        · replace h := it_t hc h
          refine zJ_loc (ls' := [(0, .ref 0), (3, .int v3_45), (4, .int v4_45)]) (zll_c rfl (zll_c rfl (zll_c rfl zll_n))) ?_
          exact hk45 _ _ _ _ h
        · replace h := it_f hc h
          refine zJ_aload_n dX11_falls_57 rfl rfl ?_
          refine zJ_getr (mi := mX11_falls) dX11_falls_58 F_X11_26 zW_0 rfl rfl ?_
          refine zJ_iload_n dX11_falls_61 rfl rfl ?_
          refine zJ_iload dX11_falls_62 rfl rfl ?_
          refine zJ_aload_n dX11_falls_64 rfl rfl ?_
          refine zJ_getr (mi := mX11_falls) dX11_falls_65 F_X11_26 zW_0 rfl rfl ?_
          refine zJ_iload_n dX11_falls_68 rfl rfl ?_
          refine zJ_iload dX11_falls_69 rfl rfl ?_
          obtain ⟨rn6, hcl, h⟩ := bd1_some h
          refine zJ_callV2 (σ := σ) (L := ([(193, numbers_size), (323, course_fences), (326, course_horseCount), (328, course_planCount), (769, course_rule_size)], [(6, course_kinds), (7, course_heights), (8, course_feet), (10, course_digits), (11, course_plans), (13, rule_codes), (15, rule_stack_45), (16, rule_things_45)], [(4, numbers_told)])) (mi := mX11_falls) (yi := mX1_letterAt) (as := [.int p2, .int v5_45]) (st := [.int v5_45, .int p1, .ref 5]) (L2 := ([(193, numbers_size), (323, course_fences), (326, course_horseCount), (328, course_planCount), (769, course_rule_size)], [(6, course_kinds), (7, course_heights), (8, course_feet), (10, course_digits), (11, course_plans), (13, rule_codes), (15, rule_stack_45), (16, rule_things_45)], [(4, numbers_told)])) dX11_falls_71 ML_X11_194 Yv_X1_letterAt rfl zW_5 rfl rfl (t_X1_letterAt l _ hcl) (zsub_i zle_n (zle_c rfl zle_n) zle_n) (zjok_i rfl rfl (zle_c rfl (zle_c rfl (zle_c rfl (zle_c rfl (zle_c rfl zle_n))))) rfl rfl (zle_c rfl (zle_c rfl (zle_c rfl (zle_c rfl (zle_c rfl (zle_c rfl (zle_c rfl (zle_c rfl zle_n)))))))) rfl rfl (zle_c rfl zle_n)) (Nat.le_of_ble_eq_true rfl) (Nat.le_of_ble_eq_true rfl) rfl rfl ?_
          obtain ⟨rn7, rule_stackn8, rule_thingsn9, hcl, h⟩ := bd3_some h
          refine zJ_callV2 (σ := σ) (L := ([(193, numbers_size), (323, course_fences), (326, course_horseCount), (328, course_planCount), (769, course_rule_size)], [(6, course_kinds), (7, course_heights), (8, course_feet), (10, course_digits), (11, course_plans), (13, rule_codes), (15, rule_stack_45), (16, rule_things_45)], [(4, numbers_told)])) (mi := mX11_falls) (yi := mX1_poleOdds) (as := [.int p1, .int v5_45, .int rn6]) (st := []) (L2 := ([(193, numbers_size), (323, course_fences), (326, course_horseCount), (328, course_planCount), (769, course_rule_size)], [(6, course_kinds), (7, course_heights), (8, course_feet), (10, course_digits), (11, course_plans), (13, rule_codes), (15, rule_stackn8), (16, rule_thingsn9)], [(4, numbers_told)])) dX11_falls_74 ML_X11_187 Yv_X1_poleOdds rfl zW_5 rfl rfl (t_X1_poleOdds l _ hcl) (zsub_i (zle_c rfl zle_n) (zle_c rfl (zle_c rfl (zle_c rfl (zle_c rfl (zle_c rfl (zle_c rfl (zle_c rfl zle_n))))))) zle_n) (zjok_i rfl rfl (zle_c rfl (zle_c rfl (zle_c rfl (zle_c rfl (zle_c rfl zle_n))))) rfl rfl (zle_c rfl (zle_c rfl (zle_c rfl (zle_c rfl (zle_c rfl (zle_c rfl (zle_c rfl (zle_c rfl zle_n)))))))) rfl rfl (zle_c rfl zle_n)) (Nat.le_of_ble_eq_true rfl) (Nat.le_of_ble_eq_true rfl) rfl rfl ?_
          refine zJ_istore (ls' := [(6, .int rn7), (0, .ref 0), (1, .int p1), (2, .int p2), (3, .int v3_45), (4, .int v4_45), (5, .int v5_45)]) dX11_falls_77 rfl rfl rfl ?_
          refine zJ_iload dX11_falls_79 rfl rfl ?_
          refine zJ_iload dX11_falls_81 rfl rfl ?_
          refine zJ_icmp_le (tgt := 93) dX11_falls_83 (by decide) rfl (fun hc => ?_) (fun hc => ?_)
          · replace h := it_t hc h
            obtain ⟨v5n10, ev5n10, h⟩ := lt1_some h
            refine zJ_iincN (ls' := [(5, .int v5n10), (6, .int rn7), (0, .ref 0), (1, .int p1), (2, .int p2), (3, .int v3_45), (4, .int v4_45)]) dX11_falls_93 rfl rfl zc_1 ev5n10 rfl rfl ?_
            refine zJ_goto (tgt := 45) dX11_falls_96 (by decide) ?_
            refine zJ_loc (ls' := [(0, .ref 0), (1, .int p1), (2, .int p2), (3, .int v3_45), (4, .int v4_45), (5, .int v5n10)]) (zll_c rfl (zll_c rfl (zll_c rfl (zll_c rfl (zll_c rfl (zll_c rfl zll_n)))))) ?_
            exact hrc45 _ _ _ _ _ h
          · replace h := it_f hc h
            refine zJ_iload dX11_falls_86 rfl rfl ?_
            refine zJ_istore_n (ls' := [(3, .int v5_45), (6, .int rn7), (0, .ref 0), (1, .int p1), (2, .int p2), (4, .int v4_45), (5, .int v5_45)]) dX11_falls_88 rfl rfl rfl ?_
            refine zJ_iload dX11_falls_89 rfl rfl ?_
            refine zJ_istore (ls' := [(4, .int rn7), (3, .int v5_45), (6, .int rn7), (0, .ref 0), (1, .int p1), (2, .int p2), (5, .int v5_45)]) dX11_falls_91 rfl rfl rfl ?_
            obtain ⟨v5n11, ev5n11, h⟩ := lt1_some h
            refine zJ_iincN (ls' := [(5, .int v5n11), (4, .int rn7), (3, .int v5_45), (6, .int rn7), (0, .ref 0), (1, .int p1), (2, .int p2)]) dX11_falls_93 rfl rfl zc_1 ev5n11 rfl rfl ?_
            refine zJ_goto (tgt := 45) dX11_falls_96 (by decide) ?_
            refine zJ_loc (ls' := [(0, .ref 0), (1, .int p1), (2, .int p2), (3, .int v5_45), (4, .int rn7), (5, .int v5n11)]) (zll_c rfl (zll_c rfl (zll_c rfl (zll_c rfl (zll_c rfl (zll_c rfl zll_n)))))) ?_
            exact hrc45 _ _ _ _ _ h
      · replace h := it_t hc h
        refine zJ_bipush dX11_falls_34 zb_m2 rfl ?_
        obtain ⟨rfl, rfl, rfl, rfl, rfl⟩ := so5 h
        exact zJ_iret dX11_falls_36 rfl rfl
    · replace h := it_t hc h
      refine zJ_iconst dX11_falls_22 zc_m1 rfl ?_
      obtain ⟨rfl, rfl, rfl, rfl, rfl⟩ := so5 h
      exact zJ_iret dX11_falls_23 rfl rfl
set_option maxRecDepth 100000 in
set_option maxHeartbeats 4000000 in
theorem t_X11_fear (l : Launch) (σ : zS) {p1 : Int32} {p2 : Int32} {numbers_size : Int32} {course_fences : Int32} {course_horseCount : Int32} {course_planCount : Int32} {course_rule_size : Int32} {course_kinds : (Nat → Int32)} {course_heights : (Nat → Int32)} {course_feet : (Nat → Int32)} {course_digits : (Nat → Int32)} {course_plans : (Nat → Int32)} {rule_codes : (Nat → Int32)} {rule_stack : (Nat → Int32)} {rule_things : (Nat → Int32)} {numbers_told : (Nat → Int64)} {r : Int32} {w_numbers_size : Int32} {w_rule_stack : (Nat → Int32)} {w_rule_things : (Nat → Int32)} {w_numbers_told : (Nat → Int64)} (h : f_X11_fear p1 p2 numbers_size course_fences course_horseCount course_planCount course_rule_size course_kinds course_heights course_feet course_digits course_plans rule_codes rule_stack rule_things numbers_told = some (r, w_numbers_size, w_rule_stack, w_rule_things, w_numbers_told)) : zMt l zW 5 mX11_fear σ ([(193, numbers_size), (323, course_fences), (326, course_horseCount), (328, course_planCount), (769, course_rule_size)], [(6, course_kinds), (7, course_heights), (8, course_feet), (10, course_digits), (11, course_plans), (13, rule_codes), (15, rule_stack), (16, rule_things)], [(4, numbers_told)]) [.ref 0, .int p1, .int p2] (some (.int r)) ([(193, w_numbers_size), (323, course_fences), (326, course_horseCount), (328, course_planCount), (769, course_rule_size)], [(6, course_kinds), (7, course_heights), (8, course_feet), (10, course_digits), (11, course_plans), (13, rule_codes), (15, w_rule_stack), (16, w_rule_things)], [(4, w_numbers_told)]) := by
  refine zMt_of (ls := [(0, .ref 0), (1, .int p1), (2, .int p2)]) (by decide) rfl (fun _ => Nat.le_of_ble_eq_true rfl) rfl ?_
  unfold f_X11_fear at h
  refine zJ_aload_n dX11_fear_0 rfl rfl ?_
  refine zJ_getr (mi := mX11_fear) dX11_fear_1 F_X11_26 zW_0 rfl rfl ?_
  refine zJ_iload_n dX11_fear_4 rfl rfl ?_
  obtain ⟨rn1, hcl, h⟩ := bd1_some h
  refine zJ_callV2 (σ := σ) (L := ([(193, numbers_size), (323, course_fences), (326, course_horseCount), (328, course_planCount), (769, course_rule_size)], [(6, course_kinds), (7, course_heights), (8, course_feet), (10, course_digits), (11, course_plans), (13, rule_codes), (15, rule_stack), (16, rule_things)], [(4, numbers_told)])) (mi := mX11_fear) (yi := mX1_hasHorse) (as := [.int p1]) (st := []) (L2 := ([(193, numbers_size), (323, course_fences), (326, course_horseCount), (328, course_planCount), (769, course_rule_size)], [(6, course_kinds), (7, course_heights), (8, course_feet), (10, course_digits), (11, course_plans), (13, rule_codes), (15, rule_stack), (16, rule_things)], [(4, numbers_told)])) dX11_fear_5 ML_X11_147 Yv_X1_hasHorse rfl zW_5 rfl rfl (t_X1_hasHorse l _ hcl) (zsub_i (zle_c rfl zle_n) zle_n zle_n) (zjok_i rfl rfl (zle_c rfl (zle_c rfl (zle_c rfl (zle_c rfl (zle_c rfl zle_n))))) rfl rfl (zle_c rfl (zle_c rfl (zle_c rfl (zle_c rfl (zle_c rfl (zle_c rfl (zle_c rfl (zle_c rfl zle_n)))))))) rfl rfl (zle_c rfl zle_n)) (Nat.le_of_ble_eq_true rfl) (Nat.le_of_ble_eq_true rfl) rfl rfl ?_
  refine zJ_if_eq (tgt := 22) dX11_fear_8 (by decide) rfl (fun hc => ?_) (fun hc => ?_)
  · replace h := it_t hc h
    refine zJ_iconst dX11_fear_22 zc_m1 rfl ?_
    obtain ⟨rfl, rfl, rfl, rfl, rfl⟩ := so5 h
    exact zJ_iret dX11_fear_23 rfl rfl
  · replace h := it_f hc h
    refine zJ_aload_n dX11_fear_11 rfl rfl ?_
    refine zJ_getr (mi := mX11_fear) dX11_fear_12 F_X11_26 zW_0 rfl rfl ?_
    refine zJ_iload_n dX11_fear_15 rfl rfl ?_
    obtain ⟨rn2, hcl, h⟩ := bd1_some h
    refine zJ_callV2 (σ := σ) (L := ([(193, numbers_size), (323, course_fences), (326, course_horseCount), (328, course_planCount), (769, course_rule_size)], [(6, course_kinds), (7, course_heights), (8, course_feet), (10, course_digits), (11, course_plans), (13, rule_codes), (15, rule_stack), (16, rule_things)], [(4, numbers_told)])) (mi := mX11_fear) (yi := mX1_hasPlan) (as := [.int p2]) (st := []) (L2 := ([(193, numbers_size), (323, course_fences), (326, course_horseCount), (328, course_planCount), (769, course_rule_size)], [(6, course_kinds), (7, course_heights), (8, course_feet), (10, course_digits), (11, course_plans), (13, rule_codes), (15, rule_stack), (16, rule_things)], [(4, numbers_told)])) dX11_fear_16 ML_X11_191 Yv_X1_hasPlan rfl zW_5 rfl rfl (t_X1_hasPlan l _ hcl) (zsub_i (zle_c rfl zle_n) zle_n zle_n) (zjok_i rfl rfl (zle_c rfl (zle_c rfl (zle_c rfl (zle_c rfl (zle_c rfl zle_n))))) rfl rfl (zle_c rfl (zle_c rfl (zle_c rfl (zle_c rfl (zle_c rfl (zle_c rfl (zle_c rfl (zle_c rfl zle_n)))))))) rfl rfl (zle_c rfl zle_n)) (Nat.le_of_ble_eq_true rfl) (Nat.le_of_ble_eq_true rfl) rfl rfl ?_
    refine zJ_if_ne (tgt := 24) dX11_fear_19 (by decide) rfl (fun hc => ?_) (fun hc => ?_)
    · replace h := it_f hc h
      refine zJ_iconst dX11_fear_24 zc_0 rfl ?_
      refine zJ_istore_n (ls' := [(3, .int (0 : Int32)), (0, .ref 0), (1, .int p1), (2, .int p2)]) dX11_fear_25 rfl rfl rfl ?_
      refine zJ_iconst dX11_fear_26 zc_0 rfl ?_
      refine zJ_istore (ls' := [(4, .int (0 : Int32)), (3, .int (0 : Int32)), (0, .ref 0), (1, .int p1), (2, .int p2)]) dX11_fear_27 rfl rfl rfl ?_
      have hk29 : ∀ (v3_29x : Int32) (rule_stack_29x : (Nat → Int32)) (rule_things_29x : (Nat → Int32)), k_X11_fear_29 p1 p2 numbers_size course_fences course_rule_size course_kinds course_heights course_feet course_digits course_plans rule_codes numbers_told v3_29x rule_stack_29x rule_things_29x = some (r, w_numbers_size, w_rule_stack, w_rule_things, w_numbers_told) → zJ l zW 5 mX11_fear σ ([(193, numbers_size), (323, course_fences), (326, course_horseCount), (328, course_planCount), (769, course_rule_size)], [(6, course_kinds), (7, course_heights), (8, course_feet), (10, course_digits), (11, course_plans), (13, rule_codes), (15, rule_stack_29x), (16, rule_things_29x)], [(4, numbers_told)]) 81 [(0, .ref 0), (1, .int p1), (2, .int p2), (3, .int v3_29x)] [] (some (.int r)) ([(193, w_numbers_size), (323, course_fences), (326, course_horseCount), (328, course_planCount), (769, course_rule_size)], [(6, course_kinds), (7, course_heights), (8, course_feet), (10, course_digits), (11, course_plans), (13, rule_codes), (15, w_rule_stack), (16, w_rule_things)], [(4, w_numbers_told)]) := by
        intro v3_29x rule_stack_29x rule_things_29x h
        unfold k_X11_fear_29 at h
        refine zJ_aload_n dX11_fear_81 rfl rfl ?_
        refine zJ_getr (mi := mX11_fear) dX11_fear_82 F_X11_19 zW_0 rfl rfl ?_
        obtain ⟨numbers_sizen3, hcl, h⟩ := bd1_some h
        refine zJ_callV2 (σ := σ) (L := ([(193, numbers_size), (323, course_fences), (326, course_horseCount), (328, course_planCount), (769, course_rule_size)], [(6, course_kinds), (7, course_heights), (8, course_feet), (10, course_digits), (11, course_plans), (13, rule_codes), (15, rule_stack_29x), (16, rule_things_29x)], [(4, numbers_told)])) (mi := mX11_fear) (yi := mX6_start) (as := []) (st := []) (L2 := ([(193, numbers_sizen3), (323, course_fences), (326, course_horseCount), (328, course_planCount), (769, course_rule_size)], [(6, course_kinds), (7, course_heights), (8, course_feet), (10, course_digits), (11, course_plans), (13, rule_codes), (15, rule_stack_29x), (16, rule_things_29x)], [(4, numbers_told)])) dX11_fear_85 ML_X11_171 Yv_X6_start rfl zW_3 rfl rfl (t_X6_start l _ hcl) (zsub_i (zle_c rfl zle_n) zle_n zle_n) (zjok_i rfl rfl (zle_c rfl (zle_c rfl (zle_c rfl (zle_c rfl (zle_c rfl zle_n))))) rfl rfl (zle_c rfl (zle_c rfl (zle_c rfl (zle_c rfl (zle_c rfl (zle_c rfl (zle_c rfl (zle_c rfl zle_n)))))))) rfl rfl (zle_c rfl zle_n)) (Nat.le_of_ble_eq_true rfl) (Nat.le_of_ble_eq_true rfl) rfl rfl ?_
        refine zJ_aload_n dX11_fear_88 rfl rfl ?_
        refine zJ_getr (mi := mX11_fear) dX11_fear_89 F_X11_19 zW_0 rfl rfl ?_
        refine zJ_aload_n dX11_fear_92 rfl rfl ?_
        refine zJ_getr (mi := mX11_fear) dX11_fear_93 F_X11_26 zW_0 rfl rfl ?_
        refine zJ_iload_n dX11_fear_96 rfl rfl ?_
        obtain ⟨rn4, hcl, h⟩ := bd1_some h
        refine zJ_callV2 (σ := σ) (L := ([(193, numbers_sizen3), (323, course_fences), (326, course_horseCount), (328, course_planCount), (769, course_rule_size)], [(6, course_kinds), (7, course_heights), (8, course_feet), (10, course_digits), (11, course_plans), (13, rule_codes), (15, rule_stack_29x), (16, rule_things_29x)], [(4, numbers_told)])) (mi := mX11_fear) (yi := mX1_planTenths) (as := [.int p2]) (st := [.ref 3]) (L2 := ([(193, numbers_sizen3), (323, course_fences), (326, course_horseCount), (328, course_planCount), (769, course_rule_size)], [(6, course_kinds), (7, course_heights), (8, course_feet), (10, course_digits), (11, course_plans), (13, rule_codes), (15, rule_stack_29x), (16, rule_things_29x)], [(4, numbers_told)])) dX11_fear_97 ML_X11_197 Yv_X1_planTenths rfl zW_5 rfl rfl (t_X1_planTenths l _ hcl) (zsub_i (zle_c rfl zle_n) (zle_c rfl (zle_c rfl (zle_c rfl zle_n))) zle_n) (zjok_i rfl rfl (zle_c rfl (zle_c rfl (zle_c rfl (zle_c rfl (zle_c rfl zle_n))))) rfl rfl (zle_c rfl (zle_c rfl (zle_c rfl (zle_c rfl (zle_c rfl (zle_c rfl (zle_c rfl (zle_c rfl zle_n)))))))) rfl rfl (zle_c rfl zle_n)) (Nat.le_of_ble_eq_true rfl) (Nat.le_of_ble_eq_true rfl) rfl rfl ?_
        refine zJ_i2l dX11_fear_100 rfl ?_
        obtain ⟨numbers_sizen5, numbers_toldn6, hcl, h⟩ := bd2_some h
        refine zJ_callV2 (σ := σ) (L := ([(193, numbers_sizen3), (323, course_fences), (326, course_horseCount), (328, course_planCount), (769, course_rule_size)], [(6, course_kinds), (7, course_heights), (8, course_feet), (10, course_digits), (11, course_plans), (13, rule_codes), (15, rule_stack_29x), (16, rule_things_29x)], [(4, numbers_told)])) (mi := mX11_fear) (yi := mX6_put) (as := [.long rn4.toInt64]) (st := []) (L2 := ([(193, numbers_sizen5), (323, course_fences), (326, course_horseCount), (328, course_planCount), (769, course_rule_size)], [(6, course_kinds), (7, course_heights), (8, course_feet), (10, course_digits), (11, course_plans), (13, rule_codes), (15, rule_stack_29x), (16, rule_things_29x)], [(4, numbers_toldn6)])) dX11_fear_101 ML_X11_177 Yv_X6_put rfl zW_3 rfl rfl (t_X6_put l _ hcl) (zsub_i (zle_c rfl zle_n) zle_n (zle_c rfl zle_n)) (zjok_i rfl rfl (zle_c rfl (zle_c rfl (zle_c rfl (zle_c rfl (zle_c rfl zle_n))))) rfl rfl (zle_c rfl (zle_c rfl (zle_c rfl (zle_c rfl (zle_c rfl (zle_c rfl (zle_c rfl (zle_c rfl zle_n)))))))) rfl rfl (zle_c rfl zle_n)) (Nat.le_of_ble_eq_true rfl) (Nat.le_of_ble_eq_true rfl) rfl rfl ?_
        refine zJ_aload_n dX11_fear_104 rfl rfl ?_
        refine zJ_getr (mi := mX11_fear) dX11_fear_105 F_X11_19 zW_0 rfl rfl ?_
        refine zJ_aload_n dX11_fear_108 rfl rfl ?_
        refine zJ_getr (mi := mX11_fear) dX11_fear_109 F_X11_26 zW_0 rfl rfl ?_
        refine zJ_iload_n dX11_fear_112 rfl rfl ?_
        refine zJ_iload_n dX11_fear_113 rfl rfl ?_
        obtain ⟨rn7, rule_stackn8, rule_thingsn9, hcl, h⟩ := bd3_some h
        refine zJ_callV2 (σ := σ) (L := ([(193, numbers_sizen5), (323, course_fences), (326, course_horseCount), (328, course_planCount), (769, course_rule_size)], [(6, course_kinds), (7, course_heights), (8, course_feet), (10, course_digits), (11, course_plans), (13, rule_codes), (15, rule_stack_29x), (16, rule_things_29x)], [(4, numbers_toldn6)])) (mi := mX11_fear) (yi := mX1_clearOf) (as := [.int p1, .int p2]) (st := [.ref 3]) (L2 := ([(193, numbers_sizen5), (323, course_fences), (326, course_horseCount), (328, course_planCount), (769, course_rule_size)], [(6, course_kinds), (7, course_heights), (8, course_feet), (10, course_digits), (11, course_plans), (13, rule_codes), (15, rule_stackn8), (16, rule_thingsn9)], [(4, numbers_toldn6)])) dX11_fear_114 ML_X11_200 Yv_X1_clearOf rfl zW_5 rfl rfl (t_X1_clearOf l _ hcl) (zsub_i (zle_c rfl (zle_c rfl zle_n)) (zle_c rfl (zle_c rfl (zle_c rfl (zle_c rfl (zle_c rfl (zle_c rfl (zle_c rfl (zle_c rfl zle_n)))))))) zle_n) (zjok_i rfl rfl (zle_c rfl (zle_c rfl (zle_c rfl (zle_c rfl (zle_c rfl zle_n))))) rfl rfl (zle_c rfl (zle_c rfl (zle_c rfl (zle_c rfl (zle_c rfl (zle_c rfl (zle_c rfl (zle_c rfl zle_n)))))))) rfl rfl (zle_c rfl zle_n)) (Nat.le_of_ble_eq_true rfl) (Nat.le_of_ble_eq_true rfl) rfl rfl ?_
        refine zJ_i2l dX11_fear_117 rfl ?_
        obtain ⟨numbers_sizen10, numbers_toldn11, hcl, h⟩ := bd2_some h
        refine zJ_callV2 (σ := σ) (L := ([(193, numbers_sizen5), (323, course_fences), (326, course_horseCount), (328, course_planCount), (769, course_rule_size)], [(6, course_kinds), (7, course_heights), (8, course_feet), (10, course_digits), (11, course_plans), (13, rule_codes), (15, rule_stackn8), (16, rule_thingsn9)], [(4, numbers_toldn6)])) (mi := mX11_fear) (yi := mX6_put) (as := [.long rn7.toInt64]) (st := []) (L2 := ([(193, numbers_sizen10), (323, course_fences), (326, course_horseCount), (328, course_planCount), (769, course_rule_size)], [(6, course_kinds), (7, course_heights), (8, course_feet), (10, course_digits), (11, course_plans), (13, rule_codes), (15, rule_stackn8), (16, rule_thingsn9)], [(4, numbers_toldn11)])) dX11_fear_118 ML_X11_177 Yv_X6_put rfl zW_3 rfl rfl (t_X6_put l _ hcl) (zsub_i (zle_c rfl zle_n) zle_n (zle_c rfl zle_n)) (zjok_i rfl rfl (zle_c rfl (zle_c rfl (zle_c rfl (zle_c rfl (zle_c rfl zle_n))))) rfl rfl (zle_c rfl (zle_c rfl (zle_c rfl (zle_c rfl (zle_c rfl (zle_c rfl (zle_c rfl (zle_c rfl zle_n)))))))) rfl rfl (zle_c rfl zle_n)) (Nat.le_of_ble_eq_true rfl) (Nat.le_of_ble_eq_true rfl) rfl rfl ?_
        refine zJ_iload_n dX11_fear_121 rfl rfl ?_
        obtain ⟨rfl, rfl, rfl, rfl, rfl⟩ := so5 h
        exact zJ_iret dX11_fear_122 rfl rfl
      refine zJ_loc (ls' := [(0, .ref 0), (1, .int p1), (2, .int p2), (3, .int (0 : Int32)), (4, .int (0 : Int32))]) (zll_c rfl (zll_c rfl (zll_c rfl (zll_c rfl (zll_c rfl zll_n))))) ?_
      refine ml4_J (fun (v3_29 : Int32) (v4_29 : Int32) (rule_stack_29 : (Nat → Int32)) (rule_things_29 : (Nat → Int32)) => zJ l zW 5 mX11_fear σ ([(193, numbers_size), (323, course_fences), (326, course_horseCount), (328, course_planCount), (769, course_rule_size)], [(6, course_kinds), (7, course_heights), (8, course_feet), (10, course_digits), (11, course_plans), (13, rule_codes), (15, rule_stack_29), (16, rule_things_29)], [(4, numbers_told)]) 29 [(0, .ref 0), (1, .int p1), (2, .int p2), (3, .int v3_29), (4, .int v4_29)] [] (some (.int r)) ([(193, w_numbers_size), (323, course_fences), (326, course_horseCount), (328, course_planCount), (769, course_rule_size)], [(6, course_kinds), (7, course_heights), (8, course_feet), (10, course_digits), (11, course_plans), (13, rule_codes), (15, w_rule_stack), (16, w_rule_things)], [(4, w_numbers_told)])) (fun rc29 hrc29 v3_29 v4_29 rule_stack_29 rule_things_29 h => ?_) zN _ _ _ _ h
      unfold s_X11_fear_29 at h
      refine zJ_iload dX11_fear_29 rfl rfl ?_
      refine zJ_aload_n dX11_fear_31 rfl rfl ?_
      refine zJ_getr (mi := mX11_fear) dX11_fear_32 F_X11_26 zW_0 rfl rfl ?_
      refine zJ_geti (mi := mX11_fear) (x := course_fences) dX11_fear_35 F_X11_157 zW_5 rfl rfl rfl ?_
      refine zJ_icmp_ge (tgt := 81) dX11_fear_38 (by decide) rfl (fun hc => ?_) (fun hc => ?_)
      · replace h := it_t hc h
        refine zJ_loc (ls' := [(0, .ref 0), (1, .int p1), (2, .int p2), (3, .int v3_29)]) (zll_c rfl (zll_c rfl (zll_c rfl (zll_c rfl zll_n)))) ?_
        exact hk29 _ _ _ h
      · replace h := it_f hc h
        refine zJ_iload_n dX11_fear_41 rfl rfl ?_
        refine zJ_aload_n dX11_fear_42 rfl rfl ?_
        refine zJ_getr (mi := mX11_fear) dX11_fear_43 F_X11_26 zW_0 rfl rfl ?_
        refine zJ_iload_n dX11_fear_46 rfl rfl ?_
        refine zJ_iload dX11_fear_47 rfl rfl ?_
        refine zJ_aload_n dX11_fear_49 rfl rfl ?_
        refine zJ_getr (mi := mX11_fear) dX11_fear_50 F_X11_26 zW_0 rfl rfl ?_
        refine zJ_iload_n dX11_fear_53 rfl rfl ?_
        refine zJ_iload dX11_fear_54 rfl rfl ?_
        obtain ⟨rn12, hcl, h⟩ := bd1_some h
        refine zJ_callV2 (σ := σ) (L := ([(193, numbers_size), (323, course_fences), (326, course_horseCount), (328, course_planCount), (769, course_rule_size)], [(6, course_kinds), (7, course_heights), (8, course_feet), (10, course_digits), (11, course_plans), (13, rule_codes), (15, rule_stack_29), (16, rule_things_29)], [(4, numbers_told)])) (mi := mX11_fear) (yi := mX1_letterAt) (as := [.int p2, .int v4_29]) (st := [.int v4_29, .int p1, .ref 5, .int v3_29]) (L2 := ([(193, numbers_size), (323, course_fences), (326, course_horseCount), (328, course_planCount), (769, course_rule_size)], [(6, course_kinds), (7, course_heights), (8, course_feet), (10, course_digits), (11, course_plans), (13, rule_codes), (15, rule_stack_29), (16, rule_things_29)], [(4, numbers_told)])) dX11_fear_56 ML_X11_194 Yv_X1_letterAt rfl zW_5 rfl rfl (t_X1_letterAt l _ hcl) (zsub_i zle_n (zle_c rfl zle_n) zle_n) (zjok_i rfl rfl (zle_c rfl (zle_c rfl (zle_c rfl (zle_c rfl (zle_c rfl zle_n))))) rfl rfl (zle_c rfl (zle_c rfl (zle_c rfl (zle_c rfl (zle_c rfl (zle_c rfl (zle_c rfl (zle_c rfl zle_n)))))))) rfl rfl (zle_c rfl zle_n)) (Nat.le_of_ble_eq_true rfl) (Nat.le_of_ble_eq_true rfl) rfl rfl ?_
        obtain ⟨rn13, rule_stackn14, rule_thingsn15, hcl, h⟩ := bd3_some h
        refine zJ_callV2 (σ := σ) (L := ([(193, numbers_size), (323, course_fences), (326, course_horseCount), (328, course_planCount), (769, course_rule_size)], [(6, course_kinds), (7, course_heights), (8, course_feet), (10, course_digits), (11, course_plans), (13, rule_codes), (15, rule_stack_29), (16, rule_things_29)], [(4, numbers_told)])) (mi := mX11_fear) (yi := mX1_poleOdds) (as := [.int p1, .int v4_29, .int rn12]) (st := [.int v3_29]) (L2 := ([(193, numbers_size), (323, course_fences), (326, course_horseCount), (328, course_planCount), (769, course_rule_size)], [(6, course_kinds), (7, course_heights), (8, course_feet), (10, course_digits), (11, course_plans), (13, rule_codes), (15, rule_stackn14), (16, rule_thingsn15)], [(4, numbers_told)])) dX11_fear_59 ML_X11_187 Yv_X1_poleOdds rfl zW_5 rfl rfl (t_X1_poleOdds l _ hcl) (zsub_i (zle_c rfl zle_n) (zle_c rfl (zle_c rfl (zle_c rfl (zle_c rfl (zle_c rfl (zle_c rfl (zle_c rfl zle_n))))))) zle_n) (zjok_i rfl rfl (zle_c rfl (zle_c rfl (zle_c rfl (zle_c rfl (zle_c rfl zle_n))))) rfl rfl (zle_c rfl (zle_c rfl (zle_c rfl (zle_c rfl (zle_c rfl (zle_c rfl (zle_c rfl (zle_c rfl zle_n)))))))) rfl rfl (zle_c rfl zle_n)) (Nat.le_of_ble_eq_true rfl) (Nat.le_of_ble_eq_true rfl) rfl rfl ?_
        refine zJ_aload_n dX11_fear_62 rfl rfl ?_
        refine zJ_getr (mi := mX11_fear) dX11_fear_63 F_X11_26 zW_0 rfl rfl ?_
        refine zJ_iload_n dX11_fear_66 rfl rfl ?_
        refine zJ_iload dX11_fear_67 rfl rfl ?_
        obtain ⟨rn16, hcl, h⟩ := bd1_some h
        refine zJ_callV2 (σ := σ) (L := ([(193, numbers_size), (323, course_fences), (326, course_horseCount), (328, course_planCount), (769, course_rule_size)], [(6, course_kinds), (7, course_heights), (8, course_feet), (10, course_digits), (11, course_plans), (13, rule_codes), (15, rule_stackn14), (16, rule_thingsn15)], [(4, numbers_told)])) (mi := mX11_fear) (yi := mX1_refusalOdds) (as := [.int p1, .int v4_29]) (st := [.int rn13, .int v3_29]) (L2 := ([(193, numbers_size), (323, course_fences), (326, course_horseCount), (328, course_planCount), (769, course_rule_size)], [(6, course_kinds), (7, course_heights), (8, course_feet), (10, course_digits), (11, course_plans), (13, rule_codes), (15, rule_stackn14), (16, rule_thingsn15)], [(4, numbers_told)])) dX11_fear_69 ML_X11_174 Yv_X1_refusalOdds rfl zW_5 rfl rfl (t_X1_refusalOdds l _ hcl) (zsub_i zle_n (zle_c rfl (zle_c rfl (zle_c rfl zle_n))) zle_n) (zjok_i rfl rfl (zle_c rfl (zle_c rfl (zle_c rfl (zle_c rfl (zle_c rfl zle_n))))) rfl rfl (zle_c rfl (zle_c rfl (zle_c rfl (zle_c rfl (zle_c rfl (zle_c rfl (zle_c rfl (zle_c rfl zle_n)))))))) rfl rfl (zle_c rfl zle_n)) (Nat.le_of_ble_eq_true rfl) (Nat.le_of_ble_eq_true rfl) rfl rfl ?_
        refine zJ_iadd dX11_fear_72 rfl ?_
        refine zJ_iadd dX11_fear_73 rfl ?_
        obtain ⟨v3n17, ev3n17, h⟩ := lt1_some h
        refine zJ_nmi ev3n17 ?_
        refine zJ_istore_n (ls' := [(3, .int v3n17), (0, .ref 0), (1, .int p1), (2, .int p2), (4, .int v4_29)]) dX11_fear_74 rfl rfl rfl ?_
        obtain ⟨v4n18, ev4n18, h⟩ := lt1_some h
        refine zJ_iincN (ls' := [(4, .int v4n18), (3, .int v3n17), (0, .ref 0), (1, .int p1), (2, .int p2)]) dX11_fear_75 rfl rfl zc_1 ev4n18 rfl rfl ?_
        refine zJ_goto (tgt := 29) dX11_fear_78 (by decide) ?_
        refine zJ_loc (ls' := [(0, .ref 0), (1, .int p1), (2, .int p2), (3, .int v3n17), (4, .int v4n18)]) (zll_c rfl (zll_c rfl (zll_c rfl (zll_c rfl (zll_c rfl zll_n))))) ?_
        exact hrc29 _ _ _ _ h
    · replace h := it_t hc h
      refine zJ_iconst dX11_fear_22 zc_m1 rfl ?_
      obtain ⟨rfl, rfl, rfl, rfl, rfl⟩ := so5 h
      exact zJ_iret dX11_fear_23 rfl rfl
set_option maxRecDepth 100000 in
set_option maxHeartbeats 4000000 in
theorem t_X3_readPlayers (l : Launch) (σ : zS) {p2 : Int32} {p3 : Int32} {p4 : Int32} {text_size : Int32} {text_limit : Int32} {text_at : Int32} {play_players : Int32} {text_signs : (Nat → Int32)} {play_named : (Nat → Int32)} {r : Int32} {w_text_limit : Int32} {w_text_at : Int32} {w_play_players : Int32} {w_play_named : (Nat → Int32)} (h : f_X3_readPlayers p2 p3 p4 text_size text_limit text_at play_players text_signs play_named = some (r, w_text_limit, w_text_at, w_play_players, w_play_named)) : zMt l zW 2 mX3_readPlayers σ ([(65, text_size), (66, text_limit), (67, text_at), (2497, play_players)], [(2, text_signs), (40, play_named)], []) [.ref 39, .ref 1, .int p2, .int p3, .int p4] (some (.int r)) ([(65, text_size), (66, w_text_limit), (67, w_text_at), (2497, w_play_players)], [(2, text_signs), (40, w_play_named)], []) := by
  refine zMt_of (ls := [(0, .ref 39), (1, .ref 1), (2, .int p2), (3, .int p3), (4, .int p4)]) (by decide) rfl (fun _ => Nat.le_of_ble_eq_true rfl) rfl ?_
  unfold f_X3_readPlayers at h
  refine zJ_aload_n dX3_readPlayers_0 rfl rfl ?_
  refine zJ_bipush dX3_readPlayers_1 zb_80 rfl ?_
  obtain ⟨text_limitn1, text_atn2, hcl, h⟩ := bd2_some h
  refine zJ_callV2 (σ := σ) (L := ([(65, text_size), (66, text_limit), (67, text_at), (2497, play_players)], [(2, text_signs), (40, play_named)], [])) (mi := mX3_readPlayers) (yi := mX9_open) (as := [.int (80 : Int32)]) (st := []) (L2 := ([(65, text_size), (66, text_limitn1), (67, text_atn2), (2497, play_players)], [(2, text_signs), (40, play_named)], [])) dX3_readPlayers_3 ML_X3_37 Yv_X9_open rfl zW_1 rfl rfl (t_X9_open l _ hcl) (zsub_i (zle_c rfl (zle_c rfl (zle_c rfl zle_n))) zle_n zle_n) (zjok_i rfl rfl (zle_c rfl (zle_c rfl (zle_c rfl (zle_c rfl zle_n)))) rfl rfl (zle_c rfl (zle_c rfl zle_n)) rfl rfl zle_n) (Nat.le_of_ble_eq_true rfl) (Nat.le_of_ble_eq_true rfl) rfl rfl ?_
  refine zJ_aload_n dX3_readPlayers_6 rfl rfl ?_
  refine zJ_iconst dX3_readPlayers_7 zc_0 rfl ?_
  refine zK_puti (mi := mX3_readPlayers) (la' := [(65, text_size), (66, text_limitn1), (67, text_atn2), (2497, (0 : Int32))]) zW_ok dX3_readPlayers_8 F_X3_43 P_3_1 zW_39 rfl rfl rfl ?_
  refine zJ_iconst dX3_readPlayers_11 zc_0 rfl ?_
  refine zJ_istore (ls' := [(5, .int (0 : Int32)), (0, .ref 39), (1, .ref 1), (2, .int p2), (3, .int p3), (4, .int p4)]) dX3_readPlayers_12 rfl rfl rfl ?_
  have hk14 : ∀ (text_at_14x : Int32) (play_players_14x : Int32) (play_named_14x : (Nat → Int32)), k_X3_readPlayers_14 p3 text_size text_limitn1 text_at_14x play_players_14x play_named_14x = some (r, w_text_limit, w_text_at, w_play_players, w_play_named) → zJ l zW 2 mX3_readPlayers σ ([(65, text_size), (66, text_limitn1), (67, text_at_14x), (2497, play_players_14x)], [(2, text_signs), (40, play_named_14x)], []) 74 [(0, .ref 39), (1, .ref 1), (3, .int p3)] [] (some (.int r)) ([(65, text_size), (66, w_text_limit), (67, w_text_at), (2497, w_play_players)], [(2, text_signs), (40, w_play_named)], []) := by
    intro text_at_14x play_players_14x play_named_14x h
    unfold k_X3_readPlayers_14 at h
    refine zJ_aload_n dX3_readPlayers_74 rfl rfl ?_
    refine zJ_geti (mi := mX3_readPlayers) (x := play_players_14x) dX3_readPlayers_75 F_X3_43 zW_39 rfl rfl rfl ?_
    refine zJ_iload_n dX3_readPlayers_78 rfl rfl ?_
    refine zJ_icmp_lt (tgt := 89) dX3_readPlayers_79 (by decide) rfl (fun hc => ?_) (fun hc => ?_)
    · replace h := it_t hc h
      refine zJ_aload_n dX3_readPlayers_89 rfl rfl ?_
      obtain ⟨rn3, hcl, h⟩ := bd1_some h
      refine zJ_callV2 (σ := σ) (L := ([(65, text_size), (66, text_limitn1), (67, text_at_14x), (2497, play_players_14x)], [(2, text_signs), (40, play_named_14x)], [])) (mi := mX3_readPlayers) (yi := mX9_fault) (as := []) (st := []) (L2 := ([(65, text_size), (66, text_limitn1), (67, text_at_14x), (2497, play_players_14x)], [(2, text_signs), (40, play_named_14x)], [])) dX3_readPlayers_90 ML_X3_55 Yv_X9_fault rfl zW_1 rfl rfl (t_X9_fault l _ hcl) (zsub_i (zle_c rfl zle_n) zle_n zle_n) (zjok_i rfl rfl (zle_c rfl (zle_c rfl (zle_c rfl (zle_c rfl zle_n)))) rfl rfl (zle_c rfl (zle_c rfl zle_n)) rfl rfl zle_n) (Nat.le_of_ble_eq_true rfl) (Nat.le_of_ble_eq_true rfl) rfl rfl ?_
      refine zJ_goto (tgt := 97) dX3_readPlayers_93 (by decide) ?_
      obtain ⟨rfl, rfl, rfl, rfl, rfl⟩ := so5 h
      exact zJ_iret dX3_readPlayers_97 rfl rfl
    · replace h := it_f hc h
      refine zJ_aload_n dX3_readPlayers_82 rfl rfl ?_
      obtain ⟨rn4, hcl, h⟩ := bd1_some h
      refine zJ_callV2 (σ := σ) (L := ([(65, text_size), (66, text_limitn1), (67, text_at_14x), (2497, play_players_14x)], [(2, text_signs), (40, play_named_14x)], [])) (mi := mX3_readPlayers) (yi := mX9_isDone) (as := []) (st := []) (L2 := ([(65, text_size), (66, text_limitn1), (67, text_at_14x), (2497, play_players_14x)], [(2, text_signs), (40, play_named_14x)], [])) dX3_readPlayers_83 ML_X3_47 Yv_X9_isDone rfl zW_1 rfl rfl (t_X9_isDone l _ hcl) (zsub_i (zle_c rfl (zle_c rfl zle_n)) zle_n zle_n) (zjok_i rfl rfl (zle_c rfl (zle_c rfl (zle_c rfl (zle_c rfl zle_n)))) rfl rfl (zle_c rfl (zle_c rfl zle_n)) rfl rfl zle_n) (Nat.le_of_ble_eq_true rfl) (Nat.le_of_ble_eq_true rfl) rfl rfl ?_
      refine zJ_if_ne (tgt := 96) dX3_readPlayers_86 (by decide) rfl (fun hc => ?_) (fun hc => ?_)
      · replace h := it_f hc h
        refine zJ_iconst dX3_readPlayers_96 zc_0 rfl ?_
        obtain ⟨rfl, rfl, rfl, rfl, rfl⟩ := so5 h
        exact zJ_iret dX3_readPlayers_97 rfl rfl
      · replace h := it_t hc h
        refine zJ_aload_n dX3_readPlayers_89 rfl rfl ?_
        obtain ⟨rn5, hcl, h⟩ := bd1_some h
        refine zJ_callV2 (σ := σ) (L := ([(65, text_size), (66, text_limitn1), (67, text_at_14x), (2497, play_players_14x)], [(2, text_signs), (40, play_named_14x)], [])) (mi := mX3_readPlayers) (yi := mX9_fault) (as := []) (st := []) (L2 := ([(65, text_size), (66, text_limitn1), (67, text_at_14x), (2497, play_players_14x)], [(2, text_signs), (40, play_named_14x)], [])) dX3_readPlayers_90 ML_X3_55 Yv_X9_fault rfl zW_1 rfl rfl (t_X9_fault l _ hcl) (zsub_i (zle_c rfl zle_n) zle_n zle_n) (zjok_i rfl rfl (zle_c rfl (zle_c rfl (zle_c rfl (zle_c rfl zle_n)))) rfl rfl (zle_c rfl (zle_c rfl zle_n)) rfl rfl zle_n) (Nat.le_of_ble_eq_true rfl) (Nat.le_of_ble_eq_true rfl) rfl rfl ?_
        refine zJ_goto (tgt := 97) dX3_readPlayers_93 (by decide) ?_
        obtain ⟨rfl, rfl, rfl, rfl, rfl⟩ := so5 h
        exact zJ_iret dX3_readPlayers_97 rfl rfl
  refine zJ_loc (ls' := [(0, .ref 39), (1, .ref 1), (2, .int p2), (3, .int p3), (4, .int p4), (5, .int (0 : Int32))]) (zll_c rfl (zll_c rfl (zll_c rfl (zll_c rfl (zll_c rfl (zll_c rfl zll_n)))))) ?_
  refine ml4_J (fun (v5_14 : Int32) (text_at_14 : Int32) (play_players_14 : Int32) (play_named_14 : (Nat → Int32)) => zJ l zW 2 mX3_readPlayers σ ([(65, text_size), (66, text_limitn1), (67, text_at_14), (2497, play_players_14)], [(2, text_signs), (40, play_named_14)], []) 14 [(0, .ref 39), (1, .ref 1), (2, .int p2), (3, .int p3), (4, .int p4), (5, .int v5_14)] [] (some (.int r)) ([(65, text_size), (66, w_text_limit), (67, w_text_at), (2497, w_play_players)], [(2, text_signs), (40, w_play_named)], [])) (fun rc14 hrc14 v5_14 text_at_14 play_players_14 play_named_14 h => ?_) zN _ _ _ _ h
  unfold s_X3_readPlayers_14 at h
  refine zJ_iload dX3_readPlayers_14 rfl rfl ?_
  refine zJ_iload dX3_readPlayers_16 rfl rfl ?_
  refine zJ_icmp_ge (tgt := 74) dX3_readPlayers_18 (by decide) rfl (fun hc => ?_) (fun hc => ?_)
  · replace h := it_t hc h
    refine zJ_loc (ls' := [(0, .ref 39), (1, .ref 1), (3, .int p3)]) (zll_c rfl (zll_c rfl (zll_c rfl zll_n))) ?_
    exact hk14 _ _ _ h
  · replace h := it_f hc h
    refine zJ_aload_n dX3_readPlayers_21 rfl rfl ?_
    obtain ⟨rn6, hcl, h⟩ := bd1_some h
    refine zJ_callV2 (σ := σ) (L := ([(65, text_size), (66, text_limitn1), (67, text_at_14), (2497, play_players_14)], [(2, text_signs), (40, play_named_14)], [])) (mi := mX3_readPlayers) (yi := mX9_isDone) (as := []) (st := []) (L2 := ([(65, text_size), (66, text_limitn1), (67, text_at_14), (2497, play_players_14)], [(2, text_signs), (40, play_named_14)], [])) dX3_readPlayers_22 ML_X3_47 Yv_X9_isDone rfl zW_1 rfl rfl (t_X9_isDone l _ hcl) (zsub_i (zle_c rfl (zle_c rfl zle_n)) zle_n zle_n) (zjok_i rfl rfl (zle_c rfl (zle_c rfl (zle_c rfl (zle_c rfl zle_n)))) rfl rfl (zle_c rfl (zle_c rfl zle_n)) rfl rfl zle_n) (Nat.le_of_ble_eq_true rfl) (Nat.le_of_ble_eq_true rfl) rfl rfl ?_
    refine zJ_if_ne (tgt := 74) dX3_readPlayers_25 (by decide) rfl (fun hc => ?_) (fun hc => ?_)
    · replace h := it_f hc h
      refine zJ_loc (ls' := [(0, .ref 39), (1, .ref 1), (3, .int p3)]) (zll_c rfl (zll_c rfl (zll_c rfl zll_n))) ?_
      exact hk14 _ _ _ h
    · replace h := it_t hc h
      refine zJ_aload_n dX3_readPlayers_28 rfl rfl ?_
      refine zJ_iconst dX3_readPlayers_29 zc_0 rfl ?_
      refine zJ_iload_n dX3_readPlayers_30 rfl rfl ?_
      refine zJ_iconst dX3_readPlayers_31 zc_1 rfl ?_
      refine zJ_isub dX3_readPlayers_32 rfl ?_
      obtain ⟨rn7, text_atn8, hcl, h⟩ := bd2_some h
      refine zJ_callV2 (σ := σ) (L := ([(65, text_size), (66, text_limitn1), (67, text_at_14), (2497, play_players_14)], [(2, text_signs), (40, play_named_14)], [])) (mi := mX3_readPlayers) (yi := mX9_digit) (as := [.int (0 : Int32), .int (p2 - (1 : Int32))]) (st := []) (L2 := ([(65, text_size), (66, text_limitn1), (67, text_atn8), (2497, play_players_14)], [(2, text_signs), (40, play_named_14)], [])) dX3_readPlayers_33 ML_X3_51 Yv_X9_digit rfl zW_1 rfl rfl (t_X9_digit l _ hcl) (zsub_i (zle_c rfl (zle_c rfl zle_n)) (zle_c rfl zle_n) zle_n) (zjok_i rfl rfl (zle_c rfl (zle_c rfl (zle_c rfl (zle_c rfl zle_n)))) rfl rfl (zle_c rfl (zle_c rfl zle_n)) rfl rfl zle_n) (Nat.le_of_ble_eq_true rfl) (Nat.le_of_ble_eq_true rfl) rfl rfl ?_
      refine zJ_istore (ls' := [(6, .int rn7), (0, .ref 39), (1, .ref 1), (2, .int p2), (3, .int p3), (4, .int p4), (5, .int v5_14)]) dX3_readPlayers_36 rfl rfl rfl ?_
      refine zJ_iload dX3_readPlayers_38 rfl rfl ?_
      refine zJ_iconst dX3_readPlayers_40 zc_m1 rfl ?_
      refine zJ_icmp_ne (tgt := 49) dX3_readPlayers_41 (by decide) rfl (fun hc => ?_) (fun hc => ?_)
      · replace h := it_f hc h
        refine zJ_aload_n dX3_readPlayers_49 rfl rfl ?_
        refine zJ_getr (mi := mX3_readPlayers) dX3_readPlayers_50 F_X3_11 zW_39 rfl rfl ?_
        refine zJ_iload dX3_readPlayers_53 rfl rfl ?_
        refine zJ_iload dX3_readPlayers_55 rfl rfl ?_
        obtain ⟨hg, h⟩ := gd_some h
        refine zK_iast (mi := mX3_readPlayers) (f := play_named_14) (lb' := [(2, text_signs), (40, (upd play_named_14 v5_14.toNatClampNeg rn7))]) dX3_readPlayers_57 zW_40 (ix_in hg) rfl rfl rfl ?_
        refine zJ_aload_n dX3_readPlayers_58 rfl rfl ?_
        refine zJ_dup dX3_readPlayers_59 rfl rfl ?_
        refine zJ_geti (mi := mX3_readPlayers) (x := play_players_14) dX3_readPlayers_60 F_X3_43 zW_39 rfl rfl rfl ?_
        refine zJ_iconst dX3_readPlayers_63 zc_1 rfl ?_
        refine zJ_iadd dX3_readPlayers_64 rfl ?_
        refine zK_puti (mi := mX3_readPlayers) (la' := [(65, text_size), (66, text_limitn1), (67, text_atn8), (2497, (play_players_14 + (1 : Int32)))]) zW_ok dX3_readPlayers_65 F_X3_43 P_3_1 zW_39 rfl rfl rfl ?_
        obtain ⟨v5n9, ev5n9, h⟩ := lt1_some h
        refine zJ_iincN (ls' := [(5, .int v5n9), (6, .int rn7), (0, .ref 39), (1, .ref 1), (2, .int p2), (3, .int p3), (4, .int p4)]) dX3_readPlayers_68 rfl rfl zc_1 ev5n9 rfl rfl ?_
        refine zJ_goto (tgt := 14) dX3_readPlayers_71 (by decide) ?_
        refine zJ_loc (ls' := [(0, .ref 39), (1, .ref 1), (2, .int p2), (3, .int p3), (4, .int p4), (5, .int v5n9)]) (zll_c rfl (zll_c rfl (zll_c rfl (zll_c rfl (zll_c rfl (zll_c rfl zll_n)))))) ?_
        exact hrc14 _ _ _ _ h
      · replace h := it_t hc h
        refine zJ_aload_n dX3_readPlayers_44 rfl rfl ?_
        obtain ⟨rn10, hcl, h⟩ := bd1_some h
        refine zJ_callV2 (σ := σ) (L := ([(65, text_size), (66, text_limitn1), (67, text_atn8), (2497, play_players_14)], [(2, text_signs), (40, play_named_14)], [])) (mi := mX3_readPlayers) (yi := mX9_fault) (as := []) (st := []) (L2 := ([(65, text_size), (66, text_limitn1), (67, text_atn8), (2497, play_players_14)], [(2, text_signs), (40, play_named_14)], [])) dX3_readPlayers_45 ML_X3_55 Yv_X9_fault rfl zW_1 rfl rfl (t_X9_fault l _ hcl) (zsub_i (zle_c rfl zle_n) zle_n zle_n) (zjok_i rfl rfl (zle_c rfl (zle_c rfl (zle_c rfl (zle_c rfl zle_n)))) rfl rfl (zle_c rfl (zle_c rfl zle_n)) rfl rfl zle_n) (Nat.le_of_ble_eq_true rfl) (Nat.le_of_ble_eq_true rfl) rfl rfl ?_
        obtain ⟨rfl, rfl, rfl, rfl, rfl⟩ := so5 h
        exact zJ_iret dX3_readPlayers_48 rfl rfl
set_option maxRecDepth 100000 in
set_option maxHeartbeats 4000000 in
theorem t_X9_clear (l : Launch) (σ : zS) {text_size : Int32} {w_text_size : Int32} (h : f_X9_clear text_size = some w_text_size) : zMt l zW 0 mX9_clear σ ([(65, text_size)], [], []) [.ref 1] none ([(65, w_text_size)], [], []) := by
  refine zMt_of (ls := [(0, .ref 1)]) (by decide) rfl (fun _ => Nat.le_of_ble_eq_true rfl) rfl ?_
  unfold f_X9_clear at h
  refine zJ_aload_n dX9_clear_0 rfl rfl ?_
  refine zJ_iconst dX9_clear_1 zc_0 rfl ?_
  refine zK_puti (mi := mX9_clear) (la' := [(65, (0 : Int32))]) zW_ok dX9_clear_2 F_X9_15 P_9_1 zW_1 rfl rfl rfl ?_
  obtain rfl := so1 h
  exact zJ_vret dX9_clear_5 rfl
set_option maxRecDepth 100000 in
set_option maxHeartbeats 4000000 in
theorem t_X11_readPlayers (l : Launch) (σ : zS) {p1 : Int32} {p2 : Int32} {text_size : Int32} {text_limit : Int32} {text_at : Int32} {course_horseCount : Int32} {course_planCount : Int32} {play_players : Int32} {text_signs : (Nat → Int32)} {play_named : (Nat → Int32)} {r : Int32} {w_text_size : Int32} {w_text_limit : Int32} {w_text_at : Int32} {w_play_players : Int32} {w_play_named : (Nat → Int32)} (h : f_X11_readPlayers p1 p2 text_size text_limit text_at course_horseCount course_planCount play_players text_signs play_named = some (r, w_text_size, w_text_limit, w_text_at, w_play_players, w_play_named)) : zMt l zW 3 mX11_readPlayers σ ([(65, text_size), (66, text_limit), (67, text_at), (326, course_horseCount), (328, course_planCount), (2497, play_players)], [(2, text_signs), (40, play_named)], []) [.ref 0, .int p1, .int p2] (some (.int r)) ([(65, w_text_size), (66, w_text_limit), (67, w_text_at), (326, course_horseCount), (328, course_planCount), (2497, w_play_players)], [(2, text_signs), (40, w_play_named)], []) := by
  refine zMt_of (ls := [(0, .ref 0), (1, .int p1), (2, .int p2)]) (by decide) rfl (fun _ => Nat.le_of_ble_eq_true rfl) rfl ?_
  unfold f_X11_readPlayers at h
  refine zJ_aload_n dX11_readPlayers_0 rfl rfl ?_
  refine zJ_getr (mi := mX11_readPlayers) dX11_readPlayers_1 F_X11_26 zW_0 rfl rfl ?_
  refine zJ_geti (mi := mX11_readPlayers) (x := course_planCount) dX11_readPlayers_4 F_X11_362 zW_5 rfl rfl rfl ?_
  refine zJ_if_ne (tgt := 15) dX11_readPlayers_7 (by decide) rfl (fun hc => ?_) (fun hc => ?_)
  · replace h := it_f hc h
    refine zJ_aload_n dX11_readPlayers_15 rfl rfl ?_
    refine zJ_getr (mi := mX11_readPlayers) dX11_readPlayers_16 F_X11_66 zW_0 rfl rfl ?_
    refine zJ_aload_n dX11_readPlayers_19 rfl rfl ?_
    refine zJ_getr (mi := mX11_readPlayers) dX11_readPlayers_20 F_X11_10 zW_0 rfl rfl ?_
    refine zJ_aload_n dX11_readPlayers_23 rfl rfl ?_
    refine zJ_getr (mi := mX11_readPlayers) dX11_readPlayers_24 F_X11_26 zW_0 rfl rfl ?_
    refine zJ_geti (mi := mX11_readPlayers) (x := course_horseCount) dX11_readPlayers_27 F_X11_368 zW_5 rfl rfl rfl ?_
    refine zJ_iload_n dX11_readPlayers_30 rfl rfl ?_
    refine zJ_iload_n dX11_readPlayers_31 rfl rfl ?_
    obtain ⟨rn1, text_limitn2, text_atn3, play_playersn4, play_namedn5, hcl, h⟩ := bd5_some h
    refine zJ_callV2 (σ := σ) (L := ([(65, text_size), (66, text_limit), (67, text_at), (326, course_horseCount), (328, course_planCount), (2497, play_players)], [(2, text_signs), (40, play_named)], [])) (mi := mX11_readPlayers) (yi := mX3_readPlayers) (as := [.ref 1, .int course_horseCount, .int p1, .int p2]) (st := []) (L2 := ([(65, text_size), (66, text_limitn2), (67, text_atn3), (326, course_horseCount), (328, course_planCount), (2497, play_playersn4)], [(2, text_signs), (40, play_namedn5)], [])) dX11_readPlayers_32 ML_X11_403 Yv_X3_readPlayers rfl zW_39 rfl rfl (t_X3_readPlayers l _ hcl) (zsub_i (zle_c rfl (zle_c rfl (zle_c rfl (zle_c rfl zle_n)))) (zle_c rfl (zle_c rfl zle_n)) zle_n) (zjok_i rfl rfl (zle_c rfl (zle_c rfl (zle_c rfl (zle_c rfl (zle_c rfl (zle_c rfl zle_n)))))) rfl rfl (zle_c rfl (zle_c rfl zle_n)) rfl rfl zle_n) (Nat.le_of_ble_eq_true rfl) (Nat.le_of_ble_eq_true rfl) rfl rfl ?_
    refine zJ_istore_n (ls' := [(3, .int rn1), (0, .ref 0), (1, .int p1), (2, .int p2)]) dX11_readPlayers_35 rfl rfl rfl ?_
    refine zJ_aload_n dX11_readPlayers_36 rfl rfl ?_
    refine zJ_getr (mi := mX11_readPlayers) dX11_readPlayers_37 F_X11_10 zW_0 rfl rfl ?_
    obtain ⟨text_sizen6, hcl, h⟩ := bd1_some h
    refine zJ_callV2 (σ := σ) (L := ([(65, text_size), (66, text_limitn2), (67, text_atn3), (326, course_horseCount), (328, course_planCount), (2497, play_playersn4)], [(2, text_signs), (40, play_namedn5)], [])) (mi := mX11_readPlayers) (yi := mX9_clear) (as := []) (st := []) (L2 := ([(65, text_sizen6), (66, text_limitn2), (67, text_atn3), (326, course_horseCount), (328, course_planCount), (2497, play_playersn4)], [(2, text_signs), (40, play_namedn5)], [])) dX11_readPlayers_40 ML_X11_104 Yv_X9_clear rfl zW_1 rfl rfl (t_X9_clear l _ hcl) (zsub_i (zle_c rfl zle_n) zle_n zle_n) (zjok_i rfl rfl (zle_c rfl (zle_c rfl (zle_c rfl (zle_c rfl (zle_c rfl (zle_c rfl zle_n)))))) rfl rfl (zle_c rfl (zle_c rfl zle_n)) rfl rfl zle_n) (Nat.le_of_ble_eq_true rfl) (Nat.le_of_ble_eq_true rfl) rfl rfl ?_
    refine zJ_iload_n dX11_readPlayers_43 rfl rfl ?_
    obtain ⟨rfl, rfl, rfl, rfl, rfl, rfl⟩ := so6 h
    exact zJ_iret dX11_readPlayers_44 rfl rfl
  · replace h := it_t hc h
    refine zJ_bipush dX11_readPlayers_10 zb_m100 rfl ?_
    refine zJ_goto (tgt := 35) dX11_readPlayers_12 (by decide) ?_
    refine zJ_istore_n (ls' := [(3, .int (-100 : Int32)), (0, .ref 0), (1, .int p1), (2, .int p2)]) dX11_readPlayers_35 rfl rfl rfl ?_
    refine zJ_aload_n dX11_readPlayers_36 rfl rfl ?_
    refine zJ_getr (mi := mX11_readPlayers) dX11_readPlayers_37 F_X11_10 zW_0 rfl rfl ?_
    obtain ⟨text_sizen7, hcl, h⟩ := bd1_some h
    refine zJ_callV2 (σ := σ) (L := ([(65, text_size), (66, text_limit), (67, text_at), (326, course_horseCount), (328, course_planCount), (2497, play_players)], [(2, text_signs), (40, play_named)], [])) (mi := mX11_readPlayers) (yi := mX9_clear) (as := []) (st := []) (L2 := ([(65, text_sizen7), (66, text_limit), (67, text_at), (326, course_horseCount), (328, course_planCount), (2497, play_players)], [(2, text_signs), (40, play_named)], [])) dX11_readPlayers_40 ML_X11_104 Yv_X9_clear rfl zW_1 rfl rfl (t_X9_clear l _ hcl) (zsub_i (zle_c rfl zle_n) zle_n zle_n) (zjok_i rfl rfl (zle_c rfl (zle_c rfl (zle_c rfl (zle_c rfl (zle_c rfl (zle_c rfl zle_n)))))) rfl rfl (zle_c rfl (zle_c rfl zle_n)) rfl rfl zle_n) (Nat.le_of_ble_eq_true rfl) (Nat.le_of_ble_eq_true rfl) rfl rfl ?_
    refine zJ_iload_n dX11_readPlayers_43 rfl rfl ?_
    obtain ⟨rfl, rfl, rfl, rfl, rfl, rfl⟩ := so6 h
    exact zJ_iret dX11_readPlayers_44 rfl rfl
set_option maxRecDepth 100000 in
set_option maxHeartbeats 4000000 in
theorem t_X3_begin (l : Launch) (σ : zS) {course_fences : Int32} {course_planCount : Int32} {course_allowed : Int32} {rounds_size : Int32} {play_plans : Int32} {course_kinds : (Nat → Int32)} {course_feet : (Nat → Int32)} {course_plans : (Nat → Int32)} {rounds_faults : (Nat → Int32)} {rounds_tenths : (Nat → Int32)} {play_faults : (Nat → Int32)} {play_tenths : (Nat → Int32)} {play_places : (Nat → Int32)} {w_play_plans : Int32} {w_play_faults : (Nat → Int32)} {w_play_tenths : (Nat → Int32)} {w_play_places : (Nat → Int32)} (h : f_X3_begin course_fences course_planCount course_allowed rounds_size play_plans course_kinds course_feet course_plans rounds_faults rounds_tenths play_faults play_tenths play_places = some (w_play_plans, w_play_faults, w_play_tenths, w_play_places)) : zMt l zW 3 mX3_begin σ ([(323, course_fences), (328, course_planCount), (329, course_allowed), (1284, rounds_size), (2498, play_plans)], [(6, course_kinds), (8, course_feet), (11, course_plans), (23, rounds_faults), (24, rounds_tenths), (41, play_faults), (42, play_tenths), (43, play_places)], []) [.ref 39, .ref 5, .ref 20] none ([(323, course_fences), (328, course_planCount), (329, course_allowed), (1284, rounds_size), (2498, w_play_plans)], [(6, course_kinds), (8, course_feet), (11, course_plans), (23, rounds_faults), (24, rounds_tenths), (41, w_play_faults), (42, w_play_tenths), (43, w_play_places)], []) := by
  refine zMt_of (ls := [(0, .ref 39), (1, .ref 5), (2, .ref 20)]) (by decide) rfl (fun _ => Nat.le_of_ble_eq_true rfl) rfl ?_
  unfold f_X3_begin at h
  refine zJ_aload_n dX3_begin_0 rfl rfl ?_
  refine zJ_aload_n dX3_begin_1 rfl rfl ?_
  refine zJ_geti (mi := mX3_begin) (x := course_planCount) dX3_begin_2 F_X3_59 zW_5 rfl rfl rfl ?_
  refine zK_puti (mi := mX3_begin) (la' := [(323, course_fences), (328, course_planCount), (329, course_allowed), (1284, rounds_size), (2498, course_planCount)]) zW_ok dX3_begin_5 F_X3_64 P_3_2 zW_39 rfl rfl rfl ?_
  refine zJ_iconst dX3_begin_8 zc_0 rfl ?_
  refine zJ_istore_n (ls' := [(3, .int (0 : Int32)), (0, .ref 39), (1, .ref 5), (2, .ref 20)]) dX3_begin_9 rfl rfl rfl ?_
  have hk10 : ∀ (play_faults_10x : (Nat → Int32)) (play_tenths_10x : (Nat → Int32)) (play_places_10x : (Nat → Int32)), k_X3_begin_10 course_planCount play_faults_10x play_tenths_10x play_places_10x = some (w_play_plans, w_play_faults, w_play_tenths, w_play_places) → zJ l zW 3 mX3_begin σ ([(323, course_fences), (328, course_planCount), (329, course_allowed), (1284, rounds_size), (2498, course_planCount)], [(6, course_kinds), (8, course_feet), (11, course_plans), (23, rounds_faults), (24, rounds_tenths), (41, play_faults_10x), (42, play_tenths_10x), (43, play_places_10x)], []) 114 [] [] none ([(323, course_fences), (328, course_planCount), (329, course_allowed), (1284, rounds_size), (2498, w_play_plans)], [(6, course_kinds), (8, course_feet), (11, course_plans), (23, rounds_faults), (24, rounds_tenths), (41, w_play_faults), (42, w_play_tenths), (43, w_play_places)], []) := by
    intro play_faults_10x play_tenths_10x play_places_10x h
    unfold k_X3_begin_10 at h
    obtain ⟨rfl, rfl, rfl, rfl⟩ := so4 h
    exact zJ_vret dX3_begin_114 rfl
  refine zJ_loc (ls' := [(0, .ref 39), (1, .ref 5), (2, .ref 20), (3, .int (0 : Int32))]) (zll_c rfl (zll_c rfl (zll_c rfl (zll_c rfl zll_n)))) ?_
  refine ml4_J (fun (v3_10 : Int32) (play_faults_10 : (Nat → Int32)) (play_tenths_10 : (Nat → Int32)) (play_places_10 : (Nat → Int32)) => zJ l zW 3 mX3_begin σ ([(323, course_fences), (328, course_planCount), (329, course_allowed), (1284, rounds_size), (2498, course_planCount)], [(6, course_kinds), (8, course_feet), (11, course_plans), (23, rounds_faults), (24, rounds_tenths), (41, play_faults_10), (42, play_tenths_10), (43, play_places_10)], []) 10 [(0, .ref 39), (1, .ref 5), (2, .ref 20), (3, .int v3_10)] [] none ([(323, course_fences), (328, course_planCount), (329, course_allowed), (1284, rounds_size), (2498, w_play_plans)], [(6, course_kinds), (8, course_feet), (11, course_plans), (23, rounds_faults), (24, rounds_tenths), (41, w_play_faults), (42, w_play_tenths), (43, w_play_places)], [])) (fun rc10 hrc10 v3_10 play_faults_10 play_tenths_10 play_places_10 h => ?_) zN _ _ _ _ h
  unfold s_X3_begin_10 at h
  refine zJ_iload_n dX3_begin_10 rfl rfl ?_
  refine zJ_aload_n dX3_begin_11 rfl rfl ?_
  refine zJ_geti (mi := mX3_begin) (x := course_planCount) dX3_begin_12 F_X3_64 zW_39 rfl rfl rfl ?_
  refine zJ_icmp_ge (tgt := 114) dX3_begin_15 (by decide) rfl (fun hc => ?_) (fun hc => ?_)
  · replace h := it_t hc h
    refine zJ_loc (ls' := []) zll_n ?_
    exact hk10 _ _ _ h
  · replace h := it_f hc h
    refine zJ_aload_n dX3_begin_18 rfl rfl ?_
    refine zJ_iload_n dX3_begin_19 rfl rfl ?_
    obtain ⟨rn1, hcl, h⟩ := bd1_some h
    refine zJ_callV2 (σ := σ) (L := ([(323, course_fences), (328, course_planCount), (329, course_allowed), (1284, rounds_size), (2498, course_planCount)], [(6, course_kinds), (8, course_feet), (11, course_plans), (23, rounds_faults), (24, rounds_tenths), (41, play_faults_10), (42, play_tenths_10), (43, play_places_10)], [])) (mi := mX3_begin) (yi := mX1_planTenths) (as := [.int v3_10]) (st := []) (L2 := ([(323, course_fences), (328, course_planCount), (329, course_allowed), (1284, rounds_size), (2498, course_planCount)], [(6, course_kinds), (8, course_feet), (11, course_plans), (23, rounds_faults), (24, rounds_tenths), (41, play_faults_10), (42, play_tenths_10), (43, play_places_10)], [])) dX3_begin_20 ML_X3_67 Yv_X1_planTenths rfl zW_5 rfl rfl (t_X1_planTenths l _ hcl) (zsub_i (zle_c rfl zle_n) (zle_c rfl (zle_c rfl (zle_c rfl zle_n))) zle_n) (zjok_i rfl rfl (zle_c rfl (zle_c rfl (zle_c rfl (zle_c rfl (zle_c rfl zle_n))))) rfl rfl (zle_c rfl (zle_c rfl (zle_c rfl (zle_c rfl (zle_c rfl (zle_c rfl (zle_c rfl (zle_c rfl zle_n)))))))) rfl rfl zle_n) (Nat.le_of_ble_eq_true rfl) (Nat.le_of_ble_eq_true rfl) rfl rfl ?_
    refine zJ_istore (ls' := [(4, .int rn1), (0, .ref 39), (1, .ref 5), (2, .ref 20), (3, .int v3_10)]) dX3_begin_23 rfl rfl rfl ?_
    refine zJ_iload dX3_begin_25 rfl rfl ?_
    refine zJ_aload_n dX3_begin_27 rfl rfl ?_
    refine zJ_geti (mi := mX3_begin) (x := course_allowed) dX3_begin_28 F_X3_71 zW_5 rfl rfl rfl ?_
    refine zJ_bipush dX3_begin_31 zb_40 rfl ?_
    obtain ⟨rn2, hcl, h⟩ := bd1_some h
    refine zJ_callS2 (σ := σ) (L := ([(323, course_fences), (328, course_planCount), (329, course_allowed), (1284, rounds_size), (2498, course_planCount)], [(6, course_kinds), (8, course_feet), (11, course_plans), (23, rounds_faults), (24, rounds_tenths), (41, play_faults_10), (42, play_tenths_10), (43, play_places_10)], [])) (mi := mX3_begin) (yi := mX11_begun) (as := [.int rn1, .int course_allowed, .int (40 : Int32)]) (st := []) (L2 := ([(323, course_fences), (328, course_planCount), (329, course_allowed), (1284, rounds_size), (2498, course_planCount)], [(6, course_kinds), (8, course_feet), (11, course_plans), (23, rounds_faults), (24, rounds_tenths), (41, play_faults_10), (42, play_tenths_10), (43, play_places_10)], [])) dX3_begin_33 ML_X3_74 Ys_X11_begun rfl (t_X11_begun l _ hcl) (zsub_i zle_n zle_n zle_n) (zjok_i rfl rfl (zle_c rfl (zle_c rfl (zle_c rfl (zle_c rfl (zle_c rfl zle_n))))) rfl rfl (zle_c rfl (zle_c rfl (zle_c rfl (zle_c rfl (zle_c rfl (zle_c rfl (zle_c rfl (zle_c rfl zle_n)))))))) rfl rfl zle_n) (Nat.le_of_ble_eq_true rfl) (Nat.le_of_ble_eq_true rfl) rfl rfl ?_
    refine zJ_istore (ls' := [(5, .int rn2), (4, .int rn1), (0, .ref 39), (1, .ref 5), (2, .ref 20), (3, .int v3_10)]) dX3_begin_36 rfl rfl rfl ?_
    refine zJ_iconst dX3_begin_38 zc_0 rfl ?_
    refine zJ_istore (ls' := [(6, .int (0 : Int32)), (5, .int rn2), (4, .int rn1), (0, .ref 39), (1, .ref 5), (2, .ref 20), (3, .int v3_10)]) dX3_begin_39 rfl rfl rfl ?_
    have hk41 : ∀ (play_faults_41x : (Nat → Int32)) (play_tenths_41x : (Nat → Int32)) (play_places_41x : (Nat → Int32)), k_X3_begin_41 rc10 v3_10 play_faults_41x play_tenths_41x play_places_41x = some (w_play_plans, w_play_faults, w_play_tenths, w_play_places) → zJ l zW 3 mX3_begin σ ([(323, course_fences), (328, course_planCount), (329, course_allowed), (1284, rounds_size), (2498, course_planCount)], [(6, course_kinds), (8, course_feet), (11, course_plans), (23, rounds_faults), (24, rounds_tenths), (41, play_faults_41x), (42, play_tenths_41x), (43, play_places_41x)], []) 108 [(0, .ref 39), (1, .ref 5), (2, .ref 20), (3, .int v3_10)] [] none ([(323, course_fences), (328, course_planCount), (329, course_allowed), (1284, rounds_size), (2498, w_play_plans)], [(6, course_kinds), (8, course_feet), (11, course_plans), (23, rounds_faults), (24, rounds_tenths), (41, w_play_faults), (42, w_play_tenths), (43, w_play_places)], []) := by
      intro play_faults_41x play_tenths_41x play_places_41x h
      unfold k_X3_begin_41 at h
      obtain ⟨v3n3, ev3n3, h⟩ := lt1_some h
      refine zJ_iincN (ls' := [(3, .int v3n3), (0, .ref 39), (1, .ref 5), (2, .ref 20)]) dX3_begin_108 rfl rfl zc_1 ev3n3 rfl rfl ?_
      refine zJ_goto (tgt := 10) dX3_begin_111 (by decide) ?_
      refine zJ_loc (ls' := [(0, .ref 39), (1, .ref 5), (2, .ref 20), (3, .int v3n3)]) (zll_c rfl (zll_c rfl (zll_c rfl (zll_c rfl zll_n)))) ?_
      exact hrc10 _ _ _ _ h
    refine zJ_loc (ls' := [(0, .ref 39), (1, .ref 5), (2, .ref 20), (3, .int v3_10), (4, .int rn1), (5, .int rn2), (6, .int (0 : Int32))]) (zll_c rfl (zll_c rfl (zll_c rfl (zll_c rfl (zll_c rfl (zll_c rfl (zll_c rfl zll_n))))))) ?_
    refine ml4_J (fun (v6_41 : Int32) (play_faults_41 : (Nat → Int32)) (play_tenths_41 : (Nat → Int32)) (play_places_41 : (Nat → Int32)) => zJ l zW 3 mX3_begin σ ([(323, course_fences), (328, course_planCount), (329, course_allowed), (1284, rounds_size), (2498, course_planCount)], [(6, course_kinds), (8, course_feet), (11, course_plans), (23, rounds_faults), (24, rounds_tenths), (41, play_faults_41), (42, play_tenths_41), (43, play_places_41)], []) 41 [(0, .ref 39), (1, .ref 5), (2, .ref 20), (3, .int v3_10), (4, .int rn1), (5, .int rn2), (6, .int v6_41)] [] none ([(323, course_fences), (328, course_planCount), (329, course_allowed), (1284, rounds_size), (2498, w_play_plans)], [(6, course_kinds), (8, course_feet), (11, course_plans), (23, rounds_faults), (24, rounds_tenths), (41, w_play_faults), (42, w_play_tenths), (43, w_play_places)], [])) (fun rc41 hrc41 v6_41 play_faults_41 play_tenths_41 play_places_41 h => ?_) zN _ _ _ _ h
    unfold s_X3_begin_41 at h
    refine zJ_iload dX3_begin_41 rfl rfl ?_
    refine zJ_iconst dX3_begin_43 zc_2 rfl ?_
    refine zJ_icmp_ge (tgt := 108) dX3_begin_44 (by decide) rfl (fun hc => ?_) (fun hc => ?_)
    · replace h := it_t hc h
      refine zJ_loc (ls' := [(0, .ref 39), (1, .ref 5), (2, .ref 20), (3, .int v3_10)]) (zll_c rfl (zll_c rfl (zll_c rfl (zll_c rfl zll_n)))) ?_
      exact hk41 _ _ _ h
    · replace h := it_f hc h
      refine zJ_aload_n dX3_begin_47 rfl rfl ?_
      refine zJ_getr (mi := mX3_begin) dX3_begin_48 F_X3_15 zW_39 rfl rfl ?_
      refine zJ_iconst dX3_begin_51 zc_2 rfl ?_
      refine zJ_iload_n dX3_begin_52 rfl rfl ?_
      refine zJ_imul dX3_begin_53 rfl ?_
      refine zJ_iload dX3_begin_54 rfl rfl ?_
      refine zJ_iadd dX3_begin_56 rfl ?_
      refine zJ_iload dX3_begin_57 rfl rfl ?_
      refine zJ_iload dX3_begin_59 rfl rfl ?_
      refine zJ_iconst dX3_begin_61 zc_4 rfl ?_
      refine zJ_imul dX3_begin_62 rfl ?_
      refine zJ_iadd dX3_begin_63 rfl ?_
      obtain ⟨hg, h⟩ := gd_some h
      refine zK_iast (mi := mX3_begin) (f := play_faults_41) (lb' := [(6, course_kinds), (8, course_feet), (11, course_plans), (23, rounds_faults), (24, rounds_tenths), (41, (upd play_faults_41 (((2 : Int32) * v3_10) + v6_41).toNatClampNeg (rn2 + (v6_41 * (4 : Int32))))), (42, play_tenths_41), (43, play_places_41)]) dX3_begin_64 zW_41 (ix_in hg) rfl rfl rfl ?_
      refine zJ_aload_n dX3_begin_65 rfl rfl ?_
      refine zJ_getr (mi := mX3_begin) dX3_begin_66 F_X3_18 zW_39 rfl rfl ?_
      refine zJ_iconst dX3_begin_69 zc_2 rfl ?_
      refine zJ_iload_n dX3_begin_70 rfl rfl ?_
      refine zJ_imul dX3_begin_71 rfl ?_
      refine zJ_iload dX3_begin_72 rfl rfl ?_
      refine zJ_iadd dX3_begin_74 rfl ?_
      refine zJ_iload dX3_begin_75 rfl rfl ?_
      obtain ⟨hg, h⟩ := gd_some h
      refine zK_iast (mi := mX3_begin) (f := play_tenths_41) (lb' := [(6, course_kinds), (8, course_feet), (11, course_plans), (23, rounds_faults), (24, rounds_tenths), (41, (upd play_faults_41 (((2 : Int32) * v3_10) + v6_41).toNatClampNeg (rn2 + (v6_41 * (4 : Int32))))), (42, (upd play_tenths_41 (((2 : Int32) * v3_10) + v6_41).toNatClampNeg rn1)), (43, play_places_41)]) dX3_begin_77 zW_42 (ix_in hg) rfl rfl rfl ?_
      refine zJ_aload_n dX3_begin_78 rfl rfl ?_
      refine zJ_getr (mi := mX3_begin) dX3_begin_79 F_X3_21 zW_39 rfl rfl ?_
      refine zJ_iconst dX3_begin_82 zc_2 rfl ?_
      refine zJ_iload_n dX3_begin_83 rfl rfl ?_
      refine zJ_imul dX3_begin_84 rfl ?_
      refine zJ_iload dX3_begin_85 rfl rfl ?_
      refine zJ_iadd dX3_begin_87 rfl ?_
      refine zJ_aload_n dX3_begin_88 rfl rfl ?_
      refine zJ_iload dX3_begin_89 rfl rfl ?_
      refine zJ_iload dX3_begin_91 rfl rfl ?_
      refine zJ_iconst dX3_begin_93 zc_4 rfl ?_
      refine zJ_imul dX3_begin_94 rfl ?_
      refine zJ_iadd dX3_begin_95 rfl ?_
      refine zJ_iload dX3_begin_96 rfl rfl ?_
      obtain ⟨rn4, hcl, h⟩ := bd1_some h
      refine zJ_callV2 (σ := σ) (L := ([(323, course_fences), (328, course_planCount), (329, course_allowed), (1284, rounds_size), (2498, course_planCount)], [(6, course_kinds), (8, course_feet), (11, course_plans), (23, rounds_faults), (24, rounds_tenths), (41, (upd play_faults_41 (((2 : Int32) * v3_10) + v6_41).toNatClampNeg (rn2 + (v6_41 * (4 : Int32))))), (42, (upd play_tenths_41 (((2 : Int32) * v3_10) + v6_41).toNatClampNeg rn1)), (43, play_places_41)], [])) (mi := mX3_begin) (yi := mX10_placeFor) (as := [.int (rn2 + (v6_41 * (4 : Int32))), .int rn1]) (st := [.int (((2 : Int32) * v3_10) + v6_41), .ref 43]) (L2 := ([(323, course_fences), (328, course_planCount), (329, course_allowed), (1284, rounds_size), (2498, course_planCount)], [(6, course_kinds), (8, course_feet), (11, course_plans), (23, rounds_faults), (24, rounds_tenths), (41, (upd play_faults_41 (((2 : Int32) * v3_10) + v6_41).toNatClampNeg (rn2 + (v6_41 * (4 : Int32))))), (42, (upd play_tenths_41 (((2 : Int32) * v3_10) + v6_41).toNatClampNeg rn1)), (43, play_places_41)], [])) dX3_begin_98 ML_X3_78 Yv_X10_placeFor rfl zW_20 rfl rfl (t_X10_placeFor l _ hcl) (zsub_i (zle_c rfl zle_n) (zle_c rfl (zle_c rfl zle_n)) zle_n) (zjok_i rfl rfl (zle_c rfl (zle_c rfl (zle_c rfl (zle_c rfl (zle_c rfl zle_n))))) rfl rfl (zle_c rfl (zle_c rfl (zle_c rfl (zle_c rfl (zle_c rfl (zle_c rfl (zle_c rfl (zle_c rfl zle_n)))))))) rfl rfl zle_n) (Nat.le_of_ble_eq_true rfl) (Nat.le_of_ble_eq_true rfl) rfl rfl ?_
      obtain ⟨hg, h⟩ := gd_some h
      refine zK_iast (mi := mX3_begin) (f := play_places_41) (lb' := [(6, course_kinds), (8, course_feet), (11, course_plans), (23, rounds_faults), (24, rounds_tenths), (41, (upd play_faults_41 (((2 : Int32) * v3_10) + v6_41).toNatClampNeg (rn2 + (v6_41 * (4 : Int32))))), (42, (upd play_tenths_41 (((2 : Int32) * v3_10) + v6_41).toNatClampNeg rn1)), (43, (upd play_places_41 (((2 : Int32) * v3_10) + v6_41).toNatClampNeg rn4))]) dX3_begin_101 zW_43 (ix_in hg) rfl rfl rfl ?_
      obtain ⟨v6n5, ev6n5, h⟩ := lt1_some h
      refine zJ_iincN (ls' := [(6, .int v6n5), (0, .ref 39), (1, .ref 5), (2, .ref 20), (3, .int v3_10), (4, .int rn1), (5, .int rn2)]) dX3_begin_102 rfl rfl zc_1 ev6n5 rfl rfl ?_
      refine zJ_goto (tgt := 41) dX3_begin_105 (by decide) ?_
      refine zJ_loc (ls' := [(0, .ref 39), (1, .ref 5), (2, .ref 20), (3, .int v3_10), (4, .int rn1), (5, .int rn2), (6, .int v6n5)]) (zll_c rfl (zll_c rfl (zll_c rfl (zll_c rfl (zll_c rfl (zll_c rfl (zll_c rfl zll_n))))))) ?_
      exact hrc41 _ _ _ _ h
set_option maxRecDepth 100000 in
set_option maxHeartbeats 4000000 in
theorem t_X3_scale (l : Launch) (σ : zS) {play_players : Int32} {r : Int64} (h : f_X3_scale play_players = some r) : zMt l zW 0 mX3_scale σ ([(2497, play_players)], [], []) [.ref 39] (some (.long r)) ([(2497, play_players)], [], []) := by
  refine zMt_of (ls := [(0, .ref 39)]) (by decide) rfl (fun _ => Nat.le_of_ble_eq_true rfl) rfl ?_
  unfold f_X3_scale at h
  refine zJ_lconst dX3_scale_0 zl_1 rfl ?_
  refine zJ_lstore_n (ls' := [(1, .long (1 : Int64)), (0, .ref 39)]) dX3_scale_1 rfl rfl rfl ?_
  refine zJ_iconst dX3_scale_2 zc_0 rfl ?_
  refine zJ_istore_n (ls' := [(3, .int (0 : Int32)), (1, .long (1 : Int64)), (0, .ref 39)]) dX3_scale_3 rfl rfl rfl ?_
  have hk4 : ∀ (v1_4x : Int64), k_X3_scale_4  v1_4x = some r → zJ l zW 0 mX3_scale σ ([(2497, play_players)], [], []) 24 [(1, .long v1_4x)] [] (some (.long r)) ([(2497, play_players)], [], []) := by
    intro v1_4x h
    unfold k_X3_scale_4 at h
    refine zJ_lload_n dX3_scale_24 rfl rfl ?_
    obtain rfl := so1 h
    exact zJ_lret dX3_scale_25 rfl
  refine zJ_loc (ls' := [(0, .ref 39), (1, .long (1 : Int64)), (3, .int (0 : Int32))]) (zll_c rfl (zll_c rfl (zll_c rfl zll_n))) ?_
  refine ml2_J (fun (v1_4 : Int64) (v3_4 : Int32) => zJ l zW 0 mX3_scale σ ([(2497, play_players)], [], []) 4 [(0, .ref 39), (1, .long v1_4), (3, .int v3_4)] [] (some (.long r)) ([(2497, play_players)], [], [])) (fun rc4 hrc4 v1_4 v3_4 h => ?_) zN _ _ h
  unfold s_X3_scale_4 at h
  refine zJ_iload_n dX3_scale_4 rfl rfl ?_
  refine zJ_aload_n dX3_scale_5 rfl rfl ?_
  refine zJ_geti (mi := mX3_scale) (x := play_players) dX3_scale_6 F_X3_43 zW_39 rfl rfl rfl ?_
  refine zJ_icmp_ge (tgt := 24) dX3_scale_9 (by decide) rfl (fun hc => ?_) (fun hc => ?_)
  · replace h := it_t hc h
    refine zJ_loc (ls' := [(1, .long v1_4)]) (zll_c rfl zll_n) ?_
    exact hk4 _ h
  · replace h := it_f hc h
    refine zJ_lload_n dX3_scale_12 rfl rfl ?_
    refine zJ_ldc2_w (v := 10000) dX3_scale_13 C_X3_90 rfl ?_
    refine zJ_lmul dX3_scale_16 rfl ?_
    obtain ⟨v1n1, ev1n1, h⟩ := lt1_some h
    refine zJ_nml ev1n1 ?_
    refine zJ_lstore_n (ls' := [(1, .long v1n1), (0, .ref 39), (3, .int v3_4)]) dX3_scale_17 rfl rfl rfl ?_
    obtain ⟨v3n2, ev3n2, h⟩ := lt1_some h
    refine zJ_iincN (ls' := [(3, .int v3n2), (1, .long v1n1), (0, .ref 39)]) dX3_scale_18 rfl rfl zc_1 ev3n2 rfl rfl ?_
    refine zJ_goto (tgt := 4) dX3_scale_21 (by decide) ?_
    refine zJ_loc (ls' := [(0, .ref 39), (1, .long v1n1), (3, .int v3n2)]) (zll_c rfl (zll_c rfl (zll_c rfl zll_n))) ?_
    exact hrc4 _ _ h
set_option maxRecDepth 100000 in
set_option maxHeartbeats 4000000 in
theorem t_X3_isAhead (l : Launch) (σ : zS) {p1 : Int32} {p2 : Int32} {play_faults : (Nat → Int32)} {play_tenths : (Nat → Int32)} {play_ends : (Nat → Int32)} {r : Int32} (h : f_X3_isAhead p1 p2 play_faults play_tenths play_ends = some r) : zMt l zW 0 mX3_isAhead σ ([], [(41, play_faults), (42, play_tenths), (45, play_ends)], []) [.ref 39, .int p1, .int p2] (some (.int r)) ([], [(41, play_faults), (42, play_tenths), (45, play_ends)], []) := by
  refine zMt_of (ls := [(0, .ref 39), (1, .int p1), (2, .int p2)]) (by decide) rfl (fun _ => Nat.le_of_ble_eq_true rfl) rfl ?_
  unfold f_X3_isAhead at h
  refine zJ_aload_n dX3_isAhead_0 rfl rfl ?_
  refine zJ_getr (mi := mX3_isAhead) dX3_isAhead_1 F_X3_27 zW_39 rfl rfl ?_
  refine zJ_iload_n dX3_isAhead_4 rfl rfl ?_
  obtain ⟨hg, h⟩ := gd_some h
  refine zJ_iald (mi := mX3_isAhead) (f := play_ends) dX3_isAhead_5 zW_45 (ix_in hg) rfl rfl ?_
  obtain ⟨v3n1, ev3n1, h⟩ := lt1_some h
  refine zJ_nmi ev3n1 ?_
  refine zJ_istore_n (ls' := [(3, .int v3n1), (0, .ref 39), (1, .int p1), (2, .int p2)]) dX3_isAhead_6 rfl rfl rfl ?_
  refine zJ_aload_n dX3_isAhead_7 rfl rfl ?_
  refine zJ_getr (mi := mX3_isAhead) dX3_isAhead_8 F_X3_27 zW_39 rfl rfl ?_
  refine zJ_iload_n dX3_isAhead_11 rfl rfl ?_
  obtain ⟨hg, h⟩ := gd_some h
  refine zJ_iald (mi := mX3_isAhead) (f := play_ends) dX3_isAhead_12 zW_45 (ix_in hg) rfl rfl ?_
  obtain ⟨v4n2, ev4n2, h⟩ := lt1_some h
  refine zJ_nmi ev4n2 ?_
  refine zJ_istore (ls' := [(4, .int v4n2), (3, .int v3n1), (0, .ref 39), (1, .int p1), (2, .int p2)]) dX3_isAhead_13 rfl rfl rfl ?_
  refine zJ_aload_n dX3_isAhead_15 rfl rfl ?_
  refine zJ_getr (mi := mX3_isAhead) dX3_isAhead_16 F_X3_15 zW_39 rfl rfl ?_
  refine zJ_iload_n dX3_isAhead_19 rfl rfl ?_
  obtain ⟨hg, h⟩ := gd_some h
  refine zJ_iald (mi := mX3_isAhead) (f := play_faults) dX3_isAhead_20 zW_41 (ix_in hg) rfl rfl ?_
  refine zJ_aload_n dX3_isAhead_21 rfl rfl ?_
  refine zJ_getr (mi := mX3_isAhead) dX3_isAhead_22 F_X3_15 zW_39 rfl rfl ?_
  refine zJ_iload dX3_isAhead_25 rfl rfl ?_
  obtain ⟨hg, h⟩ := gd_some h
  refine zJ_iald (mi := mX3_isAhead) (f := play_faults) dX3_isAhead_27 zW_41 (ix_in hg) rfl rfl ?_
  refine zJ_icmp_eq (tgt := 53) dX3_isAhead_28 (by decide) rfl (fun hc => ?_) (fun hc => ?_)
  · replace h := it_t hc h
    refine zJ_aload_n dX3_isAhead_53 rfl rfl ?_
    refine zJ_getr (mi := mX3_isAhead) dX3_isAhead_54 F_X3_18 zW_39 rfl rfl ?_
    refine zJ_iload_n dX3_isAhead_57 rfl rfl ?_
    obtain ⟨hg, h⟩ := gd_some h
    refine zJ_iald (mi := mX3_isAhead) (f := play_tenths) dX3_isAhead_58 zW_42 (ix_in hg) rfl rfl ?_
    refine zJ_aload_n dX3_isAhead_59 rfl rfl ?_
    refine zJ_getr (mi := mX3_isAhead) dX3_isAhead_60 F_X3_18 zW_39 rfl rfl ?_
    refine zJ_iload dX3_isAhead_63 rfl rfl ?_
    obtain ⟨hg, h⟩ := gd_some h
    refine zJ_iald (mi := mX3_isAhead) (f := play_tenths) dX3_isAhead_65 zW_42 (ix_in hg) rfl rfl ?_
    refine zJ_icmp_lt (tgt := 90) dX3_isAhead_66 (by decide) rfl (fun hc => ?_) (fun hc => ?_)
    · replace h := it_t hc h
      refine zJ_iconst dX3_isAhead_90 zc_1 rfl ?_
      refine zJ_goto (tgt := 95) dX3_isAhead_91 (by decide) ?_
      obtain rfl := so1 h
      exact zJ_iret dX3_isAhead_95 rfl (by decide)
    · replace h := it_f hc h
      refine zJ_aload_n dX3_isAhead_69 rfl rfl ?_
      refine zJ_getr (mi := mX3_isAhead) dX3_isAhead_70 F_X3_18 zW_39 rfl rfl ?_
      refine zJ_iload_n dX3_isAhead_73 rfl rfl ?_
      obtain ⟨hg, h⟩ := gd_some h
      refine zJ_iald (mi := mX3_isAhead) (f := play_tenths) dX3_isAhead_74 zW_42 (ix_in hg) rfl rfl ?_
      refine zJ_aload_n dX3_isAhead_75 rfl rfl ?_
      refine zJ_getr (mi := mX3_isAhead) dX3_isAhead_76 F_X3_18 zW_39 rfl rfl ?_
      refine zJ_iload dX3_isAhead_79 rfl rfl ?_
      obtain ⟨hg, h⟩ := gd_some h
      refine zJ_iald (mi := mX3_isAhead) (f := play_tenths) dX3_isAhead_81 zW_42 (ix_in hg) rfl rfl ?_
      refine zJ_icmp_ne (tgt := 94) dX3_isAhead_82 (by decide) rfl (fun hc => ?_) (fun hc => ?_)
      · replace h := it_f hc h
        refine zJ_iconst dX3_isAhead_94 zc_0 rfl ?_
        obtain rfl := so1 h
        exact zJ_iret dX3_isAhead_95 rfl (by decide)
      · replace h := it_t hc h
        refine zJ_iload_n dX3_isAhead_85 rfl rfl ?_
        refine zJ_iload_n dX3_isAhead_86 rfl rfl ?_
        refine zJ_icmp_ge (tgt := 94) dX3_isAhead_87 (by decide) rfl (fun hc => ?_) (fun hc => ?_)
        · replace h := it_t hc h
          refine zJ_iconst dX3_isAhead_94 zc_0 rfl ?_
          obtain rfl := so1 h
          exact zJ_iret dX3_isAhead_95 rfl (by decide)
        · replace h := it_f hc h
          refine zJ_iconst dX3_isAhead_90 zc_1 rfl ?_
          refine zJ_goto (tgt := 95) dX3_isAhead_91 (by decide) ?_
          obtain rfl := so1 h
          exact zJ_iret dX3_isAhead_95 rfl (by decide)
  · replace h := it_f hc h
    refine zJ_aload_n dX3_isAhead_31 rfl rfl ?_
    refine zJ_getr (mi := mX3_isAhead) dX3_isAhead_32 F_X3_15 zW_39 rfl rfl ?_
    refine zJ_iload_n dX3_isAhead_35 rfl rfl ?_
    obtain ⟨hg, h⟩ := gd_some h
    refine zJ_iald (mi := mX3_isAhead) (f := play_faults) dX3_isAhead_36 zW_41 (ix_in hg) rfl rfl ?_
    refine zJ_aload_n dX3_isAhead_37 rfl rfl ?_
    refine zJ_getr (mi := mX3_isAhead) dX3_isAhead_38 F_X3_15 zW_39 rfl rfl ?_
    refine zJ_iload dX3_isAhead_41 rfl rfl ?_
    obtain ⟨hg, h⟩ := gd_some h
    refine zJ_iald (mi := mX3_isAhead) (f := play_faults) dX3_isAhead_43 zW_41 (ix_in hg) rfl rfl ?_
    refine zJ_icmp_ge (tgt := 51) dX3_isAhead_44 (by decide) rfl (fun hc => ?_) (fun hc => ?_)
    · replace h := it_t hc h
      refine zJ_iconst dX3_isAhead_51 zc_0 rfl ?_
      obtain rfl := so1 h
      exact zJ_iret dX3_isAhead_52 rfl (by decide)
    · replace h := it_f hc h
      refine zJ_iconst dX3_isAhead_47 zc_1 rfl ?_
      refine zJ_goto (tgt := 52) dX3_isAhead_48 (by decide) ?_
      obtain rfl := so1 h
      exact zJ_iret dX3_isAhead_52 rfl (by decide)
