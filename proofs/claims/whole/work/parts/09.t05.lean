set_option maxRecDepth 100000 in
set_option maxHeartbeats 4000000 in
theorem t_X4_fearWith (l : Launch) (σ : zS) {p1 : Int32} {letters_fences : Int32} {letters_least : (Nat → Int32)} {letters_spans : (Nat → Int32)} {r : Int32} (h : f_X4_fearWith p1 letters_fences letters_least letters_spans = some r) : zMt l zW 1 mX4_fearWith σ ([(2180, letters_fences)], [(37, letters_least), (38, letters_spans)], []) [.ref 34, .int p1] (some (.int r)) ([(2180, letters_fences)], [(37, letters_least), (38, letters_spans)], []) := by
  refine zMt_of (ls := [(0, .ref 34), (1, .int p1)]) (by decide) rfl (fun _ => Nat.le_of_ble_eq_true rfl) rfl ?_
  unfold f_X4_fearWith at h
  refine zJ_iload_n dX4_fearWith_0 rfl rfl ?_
  refine zJ_if_lt (tgt := 34) dX4_fearWith_1 (by decide) rfl (fun hc => ?_) (fun hc => ?_)
  · replace h := it_t hc h
    refine zJ_iconst dX4_fearWith_34 zc_m1 rfl ?_
    obtain rfl := so1 h
    exact zJ_iret dX4_fearWith_35 rfl rfl
  · replace h := it_f hc h
    refine zJ_iload_n dX4_fearWith_4 rfl rfl ?_
    refine zJ_aload_n dX4_fearWith_5 rfl rfl ?_
    refine zJ_getr (mi := mX4_fearWith) dX4_fearWith_6 F_X4_21 zW_34 rfl rfl ?_
    refine zJ_aload_n dX4_fearWith_9 rfl rfl ?_
    refine zJ_geti (mi := mX4_fearWith) (x := letters_fences) dX4_fearWith_10 F_X4_30 zW_34 rfl rfl rfl ?_
    obtain ⟨hg, h⟩ := gd_some h
    refine zJ_iald (mi := mX4_fearWith) (f := letters_spans) dX4_fearWith_13 zW_38 (ix_in hg) rfl rfl ?_
    refine zJ_icmp_gt (tgt := 34) dX4_fearWith_14 (by decide) rfl (fun hc => ?_) (fun hc => ?_)
    · replace h := it_t hc h
      refine zJ_iconst dX4_fearWith_34 zc_m1 rfl ?_
      obtain rfl := so1 h
      exact zJ_iret dX4_fearWith_35 rfl rfl
    · replace h := it_f hc h
      refine zJ_aload_n dX4_fearWith_17 rfl rfl ?_
      refine zJ_getr (mi := mX4_fearWith) dX4_fearWith_18 F_X4_18 zW_34 rfl rfl ?_
      refine zJ_aload_n dX4_fearWith_21 rfl rfl ?_
      refine zJ_geti (mi := mX4_fearWith) (x := letters_fences) dX4_fearWith_22 F_X4_30 zW_34 rfl rfl rfl ?_
      obtain ⟨rn1, hcl, h⟩ := bd1_some h
      refine zJ_callS (mi := mX4_fearWith) (yi := mX4_from) (as := [.int letters_fences]) (st := [.ref 37]) (L2 := ([(2180, letters_fences)], [(37, letters_least), (38, letters_spans)], [])) dX4_fearWith_25 ML_X4_42 Ys_X4_from rfl (t_X4_from l _ hcl) (zsub_i zle_n zle_n zle_n) rfl (Nat.le_of_ble_eq_true rfl) (Nat.le_of_ble_eq_true rfl) rfl rfl ?_
      refine zJ_iload_n dX4_fearWith_28 rfl rfl ?_
      refine zJ_iadd dX4_fearWith_29 rfl ?_
      obtain ⟨hg, h⟩ := gd_some h
      refine zJ_iald (mi := mX4_fearWith) (f := letters_least) dX4_fearWith_30 zW_37 (ix_in hg) rfl rfl ?_
      refine zJ_goto (tgt := 35) dX4_fearWith_31 (by decide) ?_
      obtain rfl := so1 h
      exact zJ_iret dX4_fearWith_35 rfl rfl
set_option maxRecDepth 100000 in
set_option maxHeartbeats 4000000 in
theorem t_X4_calmestTenths (l : Launch) (σ : zS) {p1 : Int32} {letters_fences : Int32} {letters_least : (Nat → Int32)} {letters_spans : (Nat → Int32)} {r : Int32} (h : f_X4_calmestTenths p1 letters_fences letters_least letters_spans = some r) : zMt l zW 2 mX4_calmestTenths σ ([(2180, letters_fences)], [(37, letters_least), (38, letters_spans)], []) [.ref 34, .int p1] (some (.int r)) ([(2180, letters_fences)], [(37, letters_least), (38, letters_spans)], []) := by
  refine zMt_of (ls := [(0, .ref 34), (1, .int p1)]) (by decide) rfl (fun _ => Nat.le_of_ble_eq_true rfl) rfl ?_
  unfold f_X4_calmestTenths at h
  refine zJ_iconst dX4_calmestTenths_0 zc_m1 rfl ?_
  refine zJ_istore_n (ls' := [(2, .int (-1 : Int32)), (0, .ref 34), (1, .int p1)]) dX4_calmestTenths_1 rfl rfl rfl ?_
  refine zJ_iconst dX4_calmestTenths_2 zc_0 rfl ?_
  refine zJ_istore_n (ls' := [(3, .int (0 : Int32)), (2, .int (-1 : Int32)), (0, .ref 34), (1, .int p1)]) dX4_calmestTenths_3 rfl rfl rfl ?_
  have hk4 : ∀ (v2_4x : Int32), k_X4_calmestTenths_4  v2_4x = some r → zJ l zW 2 mX4_calmestTenths σ ([(2180, letters_fences)], [(37, letters_least), (38, letters_spans)], []) 56 [(2, .int v2_4x)] [] (some (.int r)) ([(2180, letters_fences)], [(37, letters_least), (38, letters_spans)], []) := by
    intro v2_4x h
    unfold k_X4_calmestTenths_4 at h
    refine zJ_iload_n dX4_calmestTenths_56 rfl rfl ?_
    obtain rfl := so1 h
    exact zJ_iret dX4_calmestTenths_57 rfl rfl
  refine zJ_loc (ls' := [(0, .ref 34), (1, .int p1), (2, .int (-1 : Int32)), (3, .int (0 : Int32))]) (zll_c rfl (zll_c rfl (zll_c rfl (zll_c rfl zll_n)))) ?_
  refine ml2_J (fun (v2_4 : Int32) (v3_4 : Int32) => zJ l zW 2 mX4_calmestTenths σ ([(2180, letters_fences)], [(37, letters_least), (38, letters_spans)], []) 4 [(0, .ref 34), (1, .int p1), (2, .int v2_4), (3, .int v3_4)] [] (some (.int r)) ([(2180, letters_fences)], [(37, letters_least), (38, letters_spans)], [])) (fun rc4 hrc4 v2_4 v3_4 h => ?_) zN _ _ h
  unfold s_X4_calmestTenths_4 at h
  refine zJ_iload_n dX4_calmestTenths_4 rfl rfl ?_
  refine zJ_iload_n dX4_calmestTenths_5 rfl rfl ?_
  refine zJ_aload_n dX4_calmestTenths_6 rfl rfl ?_
  refine zJ_getr (mi := mX4_calmestTenths) dX4_calmestTenths_7 F_X4_21 zW_34 rfl rfl ?_
  refine zJ_aload_n dX4_calmestTenths_10 rfl rfl ?_
  refine zJ_geti (mi := mX4_calmestTenths) (x := letters_fences) dX4_calmestTenths_11 F_X4_30 zW_34 rfl rfl rfl ?_
  obtain ⟨hg, h⟩ := gd_some h
  refine zJ_iald (mi := mX4_calmestTenths) (f := letters_spans) dX4_calmestTenths_14 zW_38 (ix_in hg) rfl rfl ?_
  refine zJ_mmin (mi := mX4_calmestTenths) dX4_calmestTenths_15 L_X4_55 K_min_s K_math K_min_c (Nat.le_of_ble_eq_true rfl) (Nat.le_of_ble_eq_true rfl) rfl ?_
  refine zJ_icmp_gt (tgt := 56) dX4_calmestTenths_18 (by decide) rfl (fun hc => ?_) (fun hc => ?_)
  · replace h := it_t hc h
    refine zJ_loc (ls' := [(2, .int v2_4)]) (zll_c rfl zll_n) ?_
    exact hk4 _ h
  · replace h := it_f hc h
    refine zJ_aload_n dX4_calmestTenths_21 rfl rfl ?_
    refine zJ_iload_n dX4_calmestTenths_22 rfl rfl ?_
    obtain ⟨rn1, hcl, h⟩ := bd1_some h
    refine zJ_callV (mi := mX4_calmestTenths) (yi := mX4_fearWith) (as := [.int v3_4]) (st := []) (L2 := ([(2180, letters_fences)], [(37, letters_least), (38, letters_spans)], [])) dX4_calmestTenths_23 ML_X4_58 Yv_X4_fearWith rfl zW_34 rfl rfl (t_X4_fearWith l _ hcl) (zsub_i (zle_c rfl zle_n) (zle_c rfl (zle_c rfl zle_n)) zle_n) rfl (Nat.le_of_ble_eq_true rfl) (Nat.le_of_ble_eq_true rfl) rfl rfl ?_
    refine zJ_iconst dX4_calmestTenths_26 zc_m1 rfl ?_
    refine zJ_icmp_eq (tgt := 50) dX4_calmestTenths_27 (by decide) rfl (fun hc => ?_) (fun hc => ?_)
    · replace h := it_t hc h
      obtain ⟨v3n2, ev3n2, h⟩ := lt1_some h
      refine zJ_iincN (ls' := [(3, .int v3n2), (0, .ref 34), (1, .int p1), (2, .int v2_4)]) dX4_calmestTenths_50 rfl rfl zc_1 ev3n2 rfl rfl ?_
      refine zJ_goto (tgt := 4) dX4_calmestTenths_53 (by decide) ?_
      refine zJ_loc (ls' := [(0, .ref 34), (1, .int p1), (2, .int v2_4), (3, .int v3n2)]) (zll_c rfl (zll_c rfl (zll_c rfl (zll_c rfl zll_n)))) ?_
      exact hrc4 _ _ h
    · replace h := it_f hc h
      refine zJ_iload_n dX4_calmestTenths_30 rfl rfl ?_
      refine zJ_iconst dX4_calmestTenths_31 zc_m1 rfl ?_
      refine zJ_icmp_eq (tgt := 48) dX4_calmestTenths_32 (by decide) rfl (fun hc => ?_) (fun hc => ?_)
      · replace h := it_t hc h
        refine zJ_iload_n dX4_calmestTenths_48 rfl rfl ?_
        refine zJ_istore_n (ls' := [(2, .int v3_4), (0, .ref 34), (1, .int p1), (3, .int v3_4)]) dX4_calmestTenths_49 rfl rfl rfl ?_
        obtain ⟨v3n3, ev3n3, h⟩ := lt1_some h
        refine zJ_iincN (ls' := [(3, .int v3n3), (2, .int v3_4), (0, .ref 34), (1, .int p1)]) dX4_calmestTenths_50 rfl rfl zc_1 ev3n3 rfl rfl ?_
        refine zJ_goto (tgt := 4) dX4_calmestTenths_53 (by decide) ?_
        refine zJ_loc (ls' := [(0, .ref 34), (1, .int p1), (2, .int v3_4), (3, .int v3n3)]) (zll_c rfl (zll_c rfl (zll_c rfl (zll_c rfl zll_n)))) ?_
        exact hrc4 _ _ h
      · replace h := it_f hc h
        refine zJ_aload_n dX4_calmestTenths_35 rfl rfl ?_
        refine zJ_iload_n dX4_calmestTenths_36 rfl rfl ?_
        obtain ⟨rn4, hcl, h⟩ := bd1_some h
        refine zJ_callV (mi := mX4_calmestTenths) (yi := mX4_fearWith) (as := [.int v3_4]) (st := []) (L2 := ([(2180, letters_fences)], [(37, letters_least), (38, letters_spans)], [])) dX4_calmestTenths_37 ML_X4_58 Yv_X4_fearWith rfl zW_34 rfl rfl (t_X4_fearWith l _ hcl) (zsub_i (zle_c rfl zle_n) (zle_c rfl (zle_c rfl zle_n)) zle_n) rfl (Nat.le_of_ble_eq_true rfl) (Nat.le_of_ble_eq_true rfl) rfl rfl ?_
        refine zJ_aload_n dX4_calmestTenths_40 rfl rfl ?_
        refine zJ_iload_n dX4_calmestTenths_41 rfl rfl ?_
        obtain ⟨rn5, hcl, h⟩ := bd1_some h
        refine zJ_callV (mi := mX4_calmestTenths) (yi := mX4_fearWith) (as := [.int v2_4]) (st := [.int rn4]) (L2 := ([(2180, letters_fences)], [(37, letters_least), (38, letters_spans)], [])) dX4_calmestTenths_42 ML_X4_58 Yv_X4_fearWith rfl zW_34 rfl rfl (t_X4_fearWith l _ hcl) (zsub_i (zle_c rfl zle_n) (zle_c rfl (zle_c rfl zle_n)) zle_n) rfl (Nat.le_of_ble_eq_true rfl) (Nat.le_of_ble_eq_true rfl) rfl rfl ?_
        refine zJ_icmp_ge (tgt := 50) dX4_calmestTenths_45 (by decide) rfl (fun hc => ?_) (fun hc => ?_)
        · replace h := it_t hc h
          obtain ⟨v3n6, ev3n6, h⟩ := lt1_some h
          refine zJ_iincN (ls' := [(3, .int v3n6), (0, .ref 34), (1, .int p1), (2, .int v2_4)]) dX4_calmestTenths_50 rfl rfl zc_1 ev3n6 rfl rfl ?_
          refine zJ_goto (tgt := 4) dX4_calmestTenths_53 (by decide) ?_
          refine zJ_loc (ls' := [(0, .ref 34), (1, .int p1), (2, .int v2_4), (3, .int v3n6)]) (zll_c rfl (zll_c rfl (zll_c rfl (zll_c rfl zll_n)))) ?_
          exact hrc4 _ _ h
        · replace h := it_f hc h
          refine zJ_iload_n dX4_calmestTenths_48 rfl rfl ?_
          refine zJ_istore_n (ls' := [(2, .int v3_4), (0, .ref 34), (1, .int p1), (3, .int v3_4)]) dX4_calmestTenths_49 rfl rfl rfl ?_
          obtain ⟨v3n7, ev3n7, h⟩ := lt1_some h
          refine zJ_iincN (ls' := [(3, .int v3n7), (2, .int v3_4), (0, .ref 34), (1, .int p1)]) dX4_calmestTenths_50 rfl rfl zc_1 ev3n7 rfl rfl ?_
          refine zJ_goto (tgt := 4) dX4_calmestTenths_53 (by decide) ?_
          refine zJ_loc (ls' := [(0, .ref 34), (1, .int p1), (2, .int v3_4), (3, .int v3n7)]) (zll_c rfl (zll_c rfl (zll_c rfl (zll_c rfl zll_n)))) ?_
          exact hrc4 _ _ h
set_option maxRecDepth 100000 in
set_option maxHeartbeats 4000000 in
theorem t_X4_layBehind (l : Launch) (σ : zS) {p1 : Int32} {letters_fences : Int32} {letters_fears : (Nat → Int32)} {letters_tenths : (Nat → Int32)} {letters_least : (Nat → Int32)} {letters_spans : (Nat → Int32)} {w_letters_least : (Nat → Int32)} {w_letters_spans : (Nat → Int32)} (h : f_X4_layBehind p1 letters_fences letters_fears letters_tenths letters_least letters_spans = some (w_letters_least, w_letters_spans)) : zMt l zW 1 mX4_layBehind σ ([(2180, letters_fences)], [(35, letters_fears), (36, letters_tenths), (37, letters_least), (38, letters_spans)], []) [.ref 34, .int p1] none ([(2180, letters_fences)], [(35, letters_fears), (36, letters_tenths), (37, w_letters_least), (38, w_letters_spans)], []) := by
  refine zMt_of (ls := [(0, .ref 34), (1, .int p1)]) (by decide) rfl (fun _ => Nat.le_of_ble_eq_true rfl) rfl ?_
  unfold f_X4_layBehind at h
  refine zJ_aload_n dX4_layBehind_0 rfl rfl ?_
  refine zJ_geti (mi := mX4_layBehind) (x := letters_fences) dX4_layBehind_1 F_X4_30 zW_34 rfl rfl rfl ?_
  refine zJ_iload_n dX4_layBehind_4 rfl rfl ?_
  refine zJ_isub dX4_layBehind_5 rfl ?_
  refine zJ_bipush dX4_layBehind_6 zb_8 rfl ?_
  refine zJ_imul dX4_layBehind_8 rfl ?_
  obtain ⟨v2n1, ev2n1, h⟩ := lt1_some h
  refine zJ_nmi ev2n1 ?_
  refine zJ_istore_n (ls' := [(2, .int v2n1), (0, .ref 34), (1, .int p1)]) dX4_layBehind_9 rfl rfl rfl ?_
  refine zJ_iconst dX4_layBehind_10 zc_0 rfl ?_
  refine zJ_istore_n (ls' := [(3, .int (0 : Int32)), (2, .int v2n1), (0, .ref 34), (1, .int p1)]) dX4_layBehind_11 rfl rfl rfl ?_
  refine zJ_iconst dX4_layBehind_12 zc_0 rfl ?_
  refine zJ_istore (ls' := [(4, .int (0 : Int32)), (3, .int (0 : Int32)), (2, .int v2n1), (0, .ref 34), (1, .int p1)]) dX4_layBehind_13 rfl rfl rfl ?_
  have hk15 : ∀ (v3_15x : Int32), k_X4_layBehind_15 p1 letters_fears letters_tenths letters_least letters_spans v2n1 v3_15x = some (w_letters_least, w_letters_spans) → zJ l zW 1 mX4_layBehind σ ([(2180, letters_fences)], [(35, letters_fears), (36, letters_tenths), (37, letters_least), (38, letters_spans)], []) 42 [(0, .ref 34), (1, .int p1), (2, .int v2n1), (3, .int v3_15x)] [] none ([(2180, letters_fences)], [(35, letters_fears), (36, letters_tenths), (37, w_letters_least), (38, w_letters_spans)], []) := by
    intro v3_15x h
    unfold k_X4_layBehind_15 at h
    refine zJ_aload_n dX4_layBehind_42 rfl rfl ?_
    refine zJ_getr (mi := mX4_layBehind) dX4_layBehind_43 F_X4_21 zW_34 rfl rfl ?_
    refine zJ_iload_n dX4_layBehind_46 rfl rfl ?_
    refine zJ_aload_n dX4_layBehind_47 rfl rfl ?_
    refine zJ_getr (mi := mX4_layBehind) dX4_layBehind_48 F_X4_21 zW_34 rfl rfl ?_
    refine zJ_iload_n dX4_layBehind_51 rfl rfl ?_
    refine zJ_iconst dX4_layBehind_52 zc_1 rfl ?_
    refine zJ_isub dX4_layBehind_53 rfl ?_
    obtain ⟨hg, h⟩ := gd_some h
    refine zJ_iald (mi := mX4_layBehind) (f := letters_spans) dX4_layBehind_54 zW_38 (ix_in hg) rfl rfl ?_
    refine zJ_iload_n dX4_layBehind_55 rfl rfl ?_
    refine zJ_iadd dX4_layBehind_56 rfl ?_
    obtain ⟨hg, h⟩ := gd_some h
    refine zK_iast (mi := mX4_layBehind) (f := letters_spans) (lb' := [(35, letters_fears), (36, letters_tenths), (37, letters_least), (38, (upd letters_spans p1.toNatClampNeg ((letters_spans (p1 - (1 : Int32)).toNatClampNeg) + v3_15x)))]) dX4_layBehind_57 zW_38 (ix_in hg) rfl rfl rfl ?_
    refine zJ_iload_n dX4_layBehind_58 rfl rfl ?_
    obtain ⟨rn2, hcl, h⟩ := bd1_some h
    refine zJ_callS (mi := mX4_layBehind) (yi := mX4_from) (as := [.int p1]) (st := []) (L2 := ([(2180, letters_fences)], [(35, letters_fears), (36, letters_tenths), (37, letters_least), (38, (upd letters_spans p1.toNatClampNeg ((letters_spans (p1 - (1 : Int32)).toNatClampNeg) + v3_15x)))], [])) dX4_layBehind_59 ML_X4_42 Ys_X4_from rfl (t_X4_from l _ hcl) (zsub_i zle_n zle_n zle_n) rfl (Nat.le_of_ble_eq_true rfl) (Nat.le_of_ble_eq_true rfl) rfl rfl ?_
    refine zJ_istore (ls' := [(4, .int rn2), (0, .ref 34), (1, .int p1), (2, .int v2n1), (3, .int v3_15x)]) dX4_layBehind_62 rfl rfl rfl ?_
    refine zJ_iconst dX4_layBehind_64 zc_0 rfl ?_
    refine zJ_istore (ls' := [(5, .int (0 : Int32)), (4, .int rn2), (0, .ref 34), (1, .int p1), (2, .int v2n1), (3, .int v3_15x)]) dX4_layBehind_65 rfl rfl rfl ?_
    have hk67 : ∀ (letters_least_67x : (Nat → Int32)), k_X4_layBehind_67 p1 letters_fears letters_tenths letters_spans v2n1 v3_15x rn2 letters_least_67x = some (w_letters_least, w_letters_spans) → zJ l zW 1 mX4_layBehind σ ([(2180, letters_fences)], [(35, letters_fears), (36, letters_tenths), (37, letters_least_67x), (38, (upd letters_spans p1.toNatClampNeg ((letters_spans (p1 - (1 : Int32)).toNatClampNeg) + v3_15x)))], []) 95 [(0, .ref 34), (1, .int p1), (2, .int v2n1), (4, .int rn2)] [] none ([(2180, letters_fences)], [(35, letters_fears), (36, letters_tenths), (37, w_letters_least), (38, w_letters_spans)], []) := by
      intro letters_least_67x h
      unfold k_X4_layBehind_67 at h
      refine zJ_iconst dX4_layBehind_95 zc_0 rfl ?_
      refine zJ_istore (ls' := [(5, .int (0 : Int32)), (0, .ref 34), (1, .int p1), (2, .int v2n1), (4, .int rn2)]) dX4_layBehind_96 rfl rfl rfl ?_
      have hk98 : ∀ (letters_least_98x : (Nat → Int32)), k_X4_layBehind_98 p1 letters_spans v3_15x letters_least_98x = some (w_letters_least, w_letters_spans) → zJ l zW 1 mX4_layBehind σ ([(2180, letters_fences)], [(35, letters_fears), (36, letters_tenths), (37, letters_least_98x), (38, (upd letters_spans p1.toNatClampNeg ((letters_spans (p1 - (1 : Int32)).toNatClampNeg) + v3_15x)))], []) 218 [] [] none ([(2180, letters_fences)], [(35, letters_fears), (36, letters_tenths), (37, w_letters_least), (38, w_letters_spans)], []) := by
        intro letters_least_98x h
        unfold k_X4_layBehind_98 at h
        obtain ⟨rfl, rfl⟩ := so2 h
        exact zJ_vret dX4_layBehind_218 rfl
      refine zJ_loc (ls' := [(0, .ref 34), (1, .int p1), (2, .int v2n1), (4, .int rn2), (5, .int (0 : Int32))]) (zll_c rfl (zll_c rfl (zll_c rfl (zll_c rfl (zll_c rfl zll_n))))) ?_
      refine ml2_J (fun (v5_98 : Int32) (letters_least_98 : (Nat → Int32)) => zJ l zW 1 mX4_layBehind σ ([(2180, letters_fences)], [(35, letters_fears), (36, letters_tenths), (37, letters_least_98), (38, (upd letters_spans p1.toNatClampNeg ((letters_spans (p1 - (1 : Int32)).toNatClampNeg) + v3_15x)))], []) 98 [(0, .ref 34), (1, .int p1), (2, .int v2n1), (4, .int rn2), (5, .int v5_98)] [] none ([(2180, letters_fences)], [(35, letters_fears), (36, letters_tenths), (37, w_letters_least), (38, w_letters_spans)], [])) (fun rc98 hrc98 v5_98 letters_least_98 h => ?_) zN _ _ h
      unfold s_X4_layBehind_98 at h
      refine zJ_iload dX4_layBehind_98 rfl rfl ?_
      refine zJ_aload_n dX4_layBehind_100 rfl rfl ?_
      refine zJ_getr (mi := mX4_layBehind) dX4_layBehind_101 F_X4_21 zW_34 rfl rfl ?_
      refine zJ_iload_n dX4_layBehind_104 rfl rfl ?_
      refine zJ_iconst dX4_layBehind_105 zc_1 rfl ?_
      refine zJ_isub dX4_layBehind_106 rfl ?_
      obtain ⟨hg, h⟩ := gd_some h
      refine zJ_iald (mi := mX4_layBehind) (f := (upd letters_spans p1.toNatClampNeg ((letters_spans (p1 - (1 : Int32)).toNatClampNeg) + v3_15x))) dX4_layBehind_107 zW_38 (ix_in hg) rfl rfl ?_
      refine zJ_icmp_gt (tgt := 218) dX4_layBehind_108 (by decide) rfl (fun hc => ?_) (fun hc => ?_)
      · replace h := it_t hc h
        refine zJ_loc (ls' := []) zll_n ?_
        exact hk98 _ h
      · replace h := it_f hc h
        refine zJ_aload_n dX4_layBehind_111 rfl rfl ?_
        refine zJ_getr (mi := mX4_layBehind) dX4_layBehind_112 F_X4_18 zW_34 rfl rfl ?_
        refine zJ_iload_n dX4_layBehind_115 rfl rfl ?_
        refine zJ_iconst dX4_layBehind_116 zc_1 rfl ?_
        refine zJ_isub dX4_layBehind_117 rfl ?_
        obtain ⟨rn3, hcl, h⟩ := bd1_some h
        refine zJ_callS (mi := mX4_layBehind) (yi := mX4_from) (as := [.int (p1 - (1 : Int32))]) (st := [.ref 37]) (L2 := ([(2180, letters_fences)], [(35, letters_fears), (36, letters_tenths), (37, letters_least_98), (38, (upd letters_spans p1.toNatClampNeg ((letters_spans (p1 - (1 : Int32)).toNatClampNeg) + v3_15x)))], [])) dX4_layBehind_118 ML_X4_42 Ys_X4_from rfl (t_X4_from l _ hcl) (zsub_i zle_n zle_n zle_n) rfl (Nat.le_of_ble_eq_true rfl) (Nat.le_of_ble_eq_true rfl) rfl rfl ?_
        refine zJ_iload dX4_layBehind_121 rfl rfl ?_
        refine zJ_iadd dX4_layBehind_123 rfl ?_
        obtain ⟨hg, h⟩ := gd_some h
        refine zJ_iald (mi := mX4_layBehind) (f := letters_least_98) dX4_layBehind_124 zW_37 (ix_in hg) rfl rfl ?_
        obtain ⟨v6n4, ev6n4, h⟩ := lt1_some h
        refine zJ_nmi ev6n4 ?_
        refine zJ_istore (ls' := [(6, .int v6n4), (0, .ref 34), (1, .int p1), (2, .int v2n1), (4, .int rn2), (5, .int v5_98)]) dX4_layBehind_125 rfl rfl rfl ?_
        refine zJ_iconst dX4_layBehind_127 zc_0 rfl ?_
        refine zJ_istore (ls' := [(7, .int (0 : Int32)), (6, .int v6n4), (0, .ref 34), (1, .int p1), (2, .int v2n1), (4, .int rn2), (5, .int v5_98)]) dX4_layBehind_128 rfl rfl rfl ?_
        have hk130 : ∀ (letters_least_130x : (Nat → Int32)), k_X4_layBehind_130 rc98 v5_98 letters_least_130x = some (w_letters_least, w_letters_spans) → zJ l zW 1 mX4_layBehind σ ([(2180, letters_fences)], [(35, letters_fears), (36, letters_tenths), (37, letters_least_130x), (38, (upd letters_spans p1.toNatClampNeg ((letters_spans (p1 - (1 : Int32)).toNatClampNeg) + v3_15x)))], []) 212 [(0, .ref 34), (1, .int p1), (2, .int v2n1), (4, .int rn2), (5, .int v5_98)] [] none ([(2180, letters_fences)], [(35, letters_fears), (36, letters_tenths), (37, w_letters_least), (38, w_letters_spans)], []) := by
          intro letters_least_130x h
          unfold k_X4_layBehind_130 at h
          obtain ⟨v5n5, ev5n5, h⟩ := lt1_some h
          refine zJ_iincN (ls' := [(5, .int v5n5), (0, .ref 34), (1, .int p1), (2, .int v2n1), (4, .int rn2)]) dX4_layBehind_212 rfl rfl zc_1 ev5n5 rfl rfl ?_
          refine zJ_goto (tgt := 98) dX4_layBehind_215 (by decide) ?_
          refine zJ_loc (ls' := [(0, .ref 34), (1, .int p1), (2, .int v2n1), (4, .int rn2), (5, .int v5n5)]) (zll_c rfl (zll_c rfl (zll_c rfl (zll_c rfl (zll_c rfl zll_n))))) ?_
          exact hrc98 _ _ h
        refine zJ_loc (ls' := [(0, .ref 34), (1, .int p1), (2, .int v2n1), (4, .int rn2), (5, .int v5_98), (6, .int v6n4), (7, .int (0 : Int32))]) (zll_c rfl (zll_c rfl (zll_c rfl (zll_c rfl (zll_c rfl (zll_c rfl (zll_c rfl zll_n))))))) ?_
        refine ml2_J (fun (v7_130 : Int32) (letters_least_130 : (Nat → Int32)) => zJ l zW 1 mX4_layBehind σ ([(2180, letters_fences)], [(35, letters_fears), (36, letters_tenths), (37, letters_least_130), (38, (upd letters_spans p1.toNatClampNeg ((letters_spans (p1 - (1 : Int32)).toNatClampNeg) + v3_15x)))], []) 130 [(0, .ref 34), (1, .int p1), (2, .int v2n1), (4, .int rn2), (5, .int v5_98), (6, .int v6n4), (7, .int v7_130)] [] none ([(2180, letters_fences)], [(35, letters_fears), (36, letters_tenths), (37, w_letters_least), (38, w_letters_spans)], [])) (fun rc130 hrc130 v7_130 letters_least_130 h => ?_) zN _ _ h
        unfold s_X4_layBehind_130 at h
        refine zJ_iload dX4_layBehind_130 rfl rfl ?_
        refine zJ_bipush dX4_layBehind_132 zb_8 rfl ?_
        refine zJ_icmp_ge (tgt := 212) dX4_layBehind_134 (by decide) rfl (fun hc => ?_) (fun hc => ?_)
        · replace h := it_t hc h
          refine zJ_loc (ls' := [(0, .ref 34), (1, .int p1), (2, .int v2n1), (4, .int rn2), (5, .int v5_98)]) (zll_c rfl (zll_c rfl (zll_c rfl (zll_c rfl (zll_c rfl zll_n))))) ?_
          exact hk130 _ h
        · replace h := it_f hc h
          refine zJ_iload dX4_layBehind_137 rfl rfl ?_
          refine zJ_iconst dX4_layBehind_139 zc_m1 rfl ?_
          refine zJ_icmp_eq (tgt := 212) dX4_layBehind_140 (by decide) rfl (fun hc => ?_) (fun hc => ?_)
          · replace h := it_t hc h
            refine zJ_loc (ls' := [(0, .ref 34), (1, .int p1), (2, .int v2n1), (4, .int rn2), (5, .int v5_98)]) (zll_c rfl (zll_c rfl (zll_c rfl (zll_c rfl (zll_c rfl zll_n))))) ?_
            exact hk130 _ h
          · replace h := it_f hc h
            refine zJ_iload dX4_layBehind_143 rfl rfl ?_
            refine zJ_iload dX4_layBehind_145 rfl rfl ?_
            refine zJ_iadd dX4_layBehind_147 rfl ?_
            refine zJ_aload_n dX4_layBehind_148 rfl rfl ?_
            refine zJ_getr (mi := mX4_layBehind) dX4_layBehind_149 F_X4_15 zW_34 rfl rfl ?_
            refine zJ_iload_n dX4_layBehind_152 rfl rfl ?_
            refine zJ_iload dX4_layBehind_153 rfl rfl ?_
            refine zJ_iadd dX4_layBehind_155 rfl ?_
            obtain ⟨hg, h⟩ := gd_some h
            refine zJ_iald (mi := mX4_layBehind) (f := letters_tenths) dX4_layBehind_156 zW_36 (ix_in hg) rfl rfl ?_
            refine zJ_iadd dX4_layBehind_157 rfl ?_
            obtain ⟨v8n6, ev8n6, h⟩ := lt1_some h
            refine zJ_nmi ev8n6 ?_
            refine zJ_istore (ls' := [(8, .int v8n6), (0, .ref 34), (1, .int p1), (2, .int v2n1), (4, .int rn2), (5, .int v5_98), (6, .int v6n4), (7, .int v7_130)]) dX4_layBehind_158 rfl rfl rfl ?_
            refine zJ_iload dX4_layBehind_160 rfl rfl ?_
            refine zJ_aload_n dX4_layBehind_162 rfl rfl ?_
            refine zJ_getr (mi := mX4_layBehind) dX4_layBehind_163 F_X4_11 zW_34 rfl rfl ?_
            refine zJ_iload_n dX4_layBehind_166 rfl rfl ?_
            refine zJ_iload dX4_layBehind_167 rfl rfl ?_
            refine zJ_iadd dX4_layBehind_169 rfl ?_
            obtain ⟨hg, h⟩ := gd_some h
            refine zJ_iald (mi := mX4_layBehind) (f := letters_fears) dX4_layBehind_170 zW_35 (ix_in hg) rfl rfl ?_
            refine zJ_iadd dX4_layBehind_171 rfl ?_
            obtain ⟨v9n7, ev9n7, h⟩ := lt1_some h
            refine zJ_nmi ev9n7 ?_
            refine zJ_istore (ls' := [(9, .int v9n7), (8, .int v8n6), (0, .ref 34), (1, .int p1), (2, .int v2n1), (4, .int rn2), (5, .int v5_98), (6, .int v6n4), (7, .int v7_130)]) dX4_layBehind_172 rfl rfl rfl ?_
            refine zJ_aload_n dX4_layBehind_174 rfl rfl ?_
            refine zJ_getr (mi := mX4_layBehind) dX4_layBehind_175 F_X4_18 zW_34 rfl rfl ?_
            refine zJ_iload dX4_layBehind_178 rfl rfl ?_
            obtain ⟨hg, h⟩ := gd_some h
            refine zJ_iald (mi := mX4_layBehind) (f := letters_least_130) dX4_layBehind_180 zW_37 (ix_in hg) rfl rfl ?_
            refine zJ_iconst dX4_layBehind_181 zc_m1 rfl ?_
            refine zJ_icmp_eq (tgt := 197) dX4_layBehind_182 (by decide) rfl (fun hc => ?_) (fun hc => ?_)
            · replace h := it_t hc h
              refine zJ_aload_n dX4_layBehind_197 rfl rfl ?_
              refine zJ_getr (mi := mX4_layBehind) dX4_layBehind_198 F_X4_18 zW_34 rfl rfl ?_
              refine zJ_iload dX4_layBehind_201 rfl rfl ?_
              refine zJ_iload dX4_layBehind_203 rfl rfl ?_
              obtain ⟨hg, h⟩ := gd_some h
              refine zK_iast (mi := mX4_layBehind) (f := letters_least_130) (lb' := [(35, letters_fears), (36, letters_tenths), (37, (upd letters_least_130 v8n6.toNatClampNeg v9n7)), (38, (upd letters_spans p1.toNatClampNeg ((letters_spans (p1 - (1 : Int32)).toNatClampNeg) + v3_15x)))]) dX4_layBehind_205 zW_37 (ix_in hg) rfl rfl rfl ?_
              obtain ⟨v7n8, ev7n8, h⟩ := lt1_some h
              refine zJ_iincN (ls' := [(7, .int v7n8), (9, .int v9n7), (8, .int v8n6), (0, .ref 34), (1, .int p1), (2, .int v2n1), (4, .int rn2), (5, .int v5_98), (6, .int v6n4)]) dX4_layBehind_206 rfl rfl zc_1 ev7n8 rfl rfl ?_
              refine zJ_goto (tgt := 130) dX4_layBehind_209 (by decide) ?_
              refine zJ_loc (ls' := [(0, .ref 34), (1, .int p1), (2, .int v2n1), (4, .int rn2), (5, .int v5_98), (6, .int v6n4), (7, .int v7n8)]) (zll_c rfl (zll_c rfl (zll_c rfl (zll_c rfl (zll_c rfl (zll_c rfl (zll_c rfl zll_n))))))) ?_
              exact hrc130 _ _ h
            · replace h := it_f hc h
              refine zJ_iload dX4_layBehind_185 rfl rfl ?_
              refine zJ_aload_n dX4_layBehind_187 rfl rfl ?_
              refine zJ_getr (mi := mX4_layBehind) dX4_layBehind_188 F_X4_18 zW_34 rfl rfl ?_
              refine zJ_iload dX4_layBehind_191 rfl rfl ?_
              obtain ⟨hg, h⟩ := gd_some h
              refine zJ_iald (mi := mX4_layBehind) (f := letters_least_130) dX4_layBehind_193 zW_37 (ix_in hg) rfl rfl ?_
              refine zJ_icmp_ge (tgt := 206) dX4_layBehind_194 (by decide) rfl (fun hc => ?_) (fun hc => ?_)
              · replace h := it_t hc h
                obtain ⟨v7n9, ev7n9, h⟩ := lt1_some h
                refine zJ_iincN (ls' := [(7, .int v7n9), (9, .int v9n7), (8, .int v8n6), (0, .ref 34), (1, .int p1), (2, .int v2n1), (4, .int rn2), (5, .int v5_98), (6, .int v6n4)]) dX4_layBehind_206 rfl rfl zc_1 ev7n9 rfl rfl ?_
                refine zJ_goto (tgt := 130) dX4_layBehind_209 (by decide) ?_
                refine zJ_loc (ls' := [(0, .ref 34), (1, .int p1), (2, .int v2n1), (4, .int rn2), (5, .int v5_98), (6, .int v6n4), (7, .int v7n9)]) (zll_c rfl (zll_c rfl (zll_c rfl (zll_c rfl (zll_c rfl (zll_c rfl (zll_c rfl zll_n))))))) ?_
                exact hrc130 _ _ h
              · replace h := it_f hc h
                refine zJ_aload_n dX4_layBehind_197 rfl rfl ?_
                refine zJ_getr (mi := mX4_layBehind) dX4_layBehind_198 F_X4_18 zW_34 rfl rfl ?_
                refine zJ_iload dX4_layBehind_201 rfl rfl ?_
                refine zJ_iload dX4_layBehind_203 rfl rfl ?_
                obtain ⟨hg, h⟩ := gd_some h
                refine zK_iast (mi := mX4_layBehind) (f := letters_least_130) (lb' := [(35, letters_fears), (36, letters_tenths), (37, (upd letters_least_130 v8n6.toNatClampNeg v9n7)), (38, (upd letters_spans p1.toNatClampNeg ((letters_spans (p1 - (1 : Int32)).toNatClampNeg) + v3_15x)))]) dX4_layBehind_205 zW_37 (ix_in hg) rfl rfl rfl ?_
                obtain ⟨v7n10, ev7n10, h⟩ := lt1_some h
                refine zJ_iincN (ls' := [(7, .int v7n10), (9, .int v9n7), (8, .int v8n6), (0, .ref 34), (1, .int p1), (2, .int v2n1), (4, .int rn2), (5, .int v5_98), (6, .int v6n4)]) dX4_layBehind_206 rfl rfl zc_1 ev7n10 rfl rfl ?_
                refine zJ_goto (tgt := 130) dX4_layBehind_209 (by decide) ?_
                refine zJ_loc (ls' := [(0, .ref 34), (1, .int p1), (2, .int v2n1), (4, .int rn2), (5, .int v5_98), (6, .int v6n4), (7, .int v7n10)]) (zll_c rfl (zll_c rfl (zll_c rfl (zll_c rfl (zll_c rfl (zll_c rfl (zll_c rfl zll_n))))))) ?_
                exact hrc130 _ _ h
    refine zJ_loc (ls' := [(0, .ref 34), (1, .int p1), (2, .int v2n1), (4, .int rn2), (5, .int (0 : Int32))]) (zll_c rfl (zll_c rfl (zll_c rfl (zll_c rfl (zll_c rfl zll_n))))) ?_
    refine ml2_J (fun (v5_67 : Int32) (letters_least_67 : (Nat → Int32)) => zJ l zW 1 mX4_layBehind σ ([(2180, letters_fences)], [(35, letters_fears), (36, letters_tenths), (37, letters_least_67), (38, (upd letters_spans p1.toNatClampNeg ((letters_spans (p1 - (1 : Int32)).toNatClampNeg) + v3_15x)))], []) 67 [(0, .ref 34), (1, .int p1), (2, .int v2n1), (4, .int rn2), (5, .int v5_67)] [] none ([(2180, letters_fences)], [(35, letters_fears), (36, letters_tenths), (37, w_letters_least), (38, w_letters_spans)], [])) (fun rc67 hrc67 v5_67 letters_least_67 h => ?_) zN _ _ h
    unfold s_X4_layBehind_67 at h
    refine zJ_iload dX4_layBehind_67 rfl rfl ?_
    refine zJ_aload_n dX4_layBehind_69 rfl rfl ?_
    refine zJ_getr (mi := mX4_layBehind) dX4_layBehind_70 F_X4_21 zW_34 rfl rfl ?_
    refine zJ_iload_n dX4_layBehind_73 rfl rfl ?_
    obtain ⟨hg, h⟩ := gd_some h
    refine zJ_iald (mi := mX4_layBehind) (f := (upd letters_spans p1.toNatClampNeg ((letters_spans (p1 - (1 : Int32)).toNatClampNeg) + v3_15x))) dX4_layBehind_74 zW_38 (ix_in hg) rfl rfl ?_
    refine zJ_icmp_gt (tgt := 95) dX4_layBehind_75 (by decide) rfl (fun hc => ?_) (fun hc => ?_)
    · replace h := it_t hc h
      refine zJ_loc (ls' := [(0, .ref 34), (1, .int p1), (2, .int v2n1), (4, .int rn2)]) (zll_c rfl (zll_c rfl (zll_c rfl (zll_c rfl zll_n)))) ?_
      exact hk67 _ h
    · replace h := it_f hc h
      refine zJ_aload_n dX4_layBehind_78 rfl rfl ?_
      refine zJ_getr (mi := mX4_layBehind) dX4_layBehind_79 F_X4_18 zW_34 rfl rfl ?_
      refine zJ_iload dX4_layBehind_82 rfl rfl ?_
      refine zJ_iload dX4_layBehind_84 rfl rfl ?_
      refine zJ_iadd dX4_layBehind_86 rfl ?_
      refine zJ_iconst dX4_layBehind_87 zc_m1 rfl ?_
      obtain ⟨hg, h⟩ := gd_some h
      refine zK_iast (mi := mX4_layBehind) (f := letters_least_67) (lb' := [(35, letters_fears), (36, letters_tenths), (37, (upd letters_least_67 (rn2 + v5_67).toNatClampNeg (-1 : Int32))), (38, (upd letters_spans p1.toNatClampNeg ((letters_spans (p1 - (1 : Int32)).toNatClampNeg) + v3_15x)))]) dX4_layBehind_88 zW_37 (ix_in hg) rfl rfl rfl ?_
      obtain ⟨v5n11, ev5n11, h⟩ := lt1_some h
      refine zJ_iincN (ls' := [(5, .int v5n11), (0, .ref 34), (1, .int p1), (2, .int v2n1), (4, .int rn2)]) dX4_layBehind_89 rfl rfl zc_1 ev5n11 rfl rfl ?_
      refine zJ_goto (tgt := 67) dX4_layBehind_92 (by decide) ?_
      refine zJ_loc (ls' := [(0, .ref 34), (1, .int p1), (2, .int v2n1), (4, .int rn2), (5, .int v5n11)]) (zll_c rfl (zll_c rfl (zll_c rfl (zll_c rfl (zll_c rfl zll_n))))) ?_
      exact hrc67 _ _ h
  refine zJ_loc (ls' := [(0, .ref 34), (1, .int p1), (2, .int v2n1), (3, .int (0 : Int32)), (4, .int (0 : Int32))]) (zll_c rfl (zll_c rfl (zll_c rfl (zll_c rfl (zll_c rfl zll_n))))) ?_
  refine ml2_J (fun (v3_15 : Int32) (v4_15 : Int32) => zJ l zW 1 mX4_layBehind σ ([(2180, letters_fences)], [(35, letters_fears), (36, letters_tenths), (37, letters_least), (38, letters_spans)], []) 15 [(0, .ref 34), (1, .int p1), (2, .int v2n1), (3, .int v3_15), (4, .int v4_15)] [] none ([(2180, letters_fences)], [(35, letters_fears), (36, letters_tenths), (37, w_letters_least), (38, w_letters_spans)], [])) (fun rc15 hrc15 v3_15 v4_15 h => ?_) zN _ _ h
  unfold s_X4_layBehind_15 at h
  refine zJ_iload dX4_layBehind_15 rfl rfl ?_
  refine zJ_bipush dX4_layBehind_17 zb_8 rfl ?_
  refine zJ_icmp_ge (tgt := 42) dX4_layBehind_19 (by decide) rfl (fun hc => ?_) (fun hc => ?_)
  · replace h := it_t hc h
    refine zJ_loc (ls' := [(0, .ref 34), (1, .int p1), (2, .int v2n1), (3, .int v3_15)]) (zll_c rfl (zll_c rfl (zll_c rfl (zll_c rfl zll_n)))) ?_
    exact hk15 _ h
  · replace h := it_f hc h
    refine zJ_iload_n dX4_layBehind_22 rfl rfl ?_
    refine zJ_aload_n dX4_layBehind_23 rfl rfl ?_
    refine zJ_getr (mi := mX4_layBehind) dX4_layBehind_24 F_X4_15 zW_34 rfl rfl ?_
    refine zJ_iload_n dX4_layBehind_27 rfl rfl ?_
    refine zJ_iload dX4_layBehind_28 rfl rfl ?_
    refine zJ_iadd dX4_layBehind_30 rfl ?_
    obtain ⟨hg, h⟩ := gd_some h
    refine zJ_iald (mi := mX4_layBehind) (f := letters_tenths) dX4_layBehind_31 zW_36 (ix_in hg) rfl rfl ?_
    refine zJ_mmax (mi := mX4_layBehind) dX4_layBehind_32 L_X4_50 K_max_s K_math K_max_c (Nat.le_of_ble_eq_true rfl) (Nat.le_of_ble_eq_true rfl) rfl ?_
    obtain ⟨v3n12, ev3n12, h⟩ := lt1_some h
    refine zJ_nmi ev3n12 ?_
    refine zJ_istore_n (ls' := [(3, .int v3n12), (0, .ref 34), (1, .int p1), (2, .int v2n1), (4, .int v4_15)]) dX4_layBehind_35 rfl rfl rfl ?_
    obtain ⟨v4n13, ev4n13, h⟩ := lt1_some h
    refine zJ_iincN (ls' := [(4, .int v4n13), (3, .int v3n12), (0, .ref 34), (1, .int p1), (2, .int v2n1)]) dX4_layBehind_36 rfl rfl zc_1 ev4n13 rfl rfl ?_
    refine zJ_goto (tgt := 15) dX4_layBehind_39 (by decide) ?_
    refine zJ_loc (ls' := [(0, .ref 34), (1, .int p1), (2, .int v2n1), (3, .int v3n12), (4, .int v4n13)]) (zll_c rfl (zll_c rfl (zll_c rfl (zll_c rfl (zll_c rfl zll_n))))) ?_
    exact hrc15 _ _ h
set_option maxRecDepth 100000 in
set_option maxHeartbeats 4000000 in
theorem t_X4_lay (l : Launch) (σ : zS) {p2 : Int32} {course_fences : Int32} {course_rule_size : Int32} {letters_fences : Int32} {course_kinds : (Nat → Int32)} {course_heights : (Nat → Int32)} {course_feet : (Nat → Int32)} {course_digits : (Nat → Int32)} {rule_codes : (Nat → Int32)} {rule_stack : (Nat → Int32)} {rule_things : (Nat → Int32)} {letters_fears : (Nat → Int32)} {letters_tenths : (Nat → Int32)} {letters_least : (Nat → Int32)} {letters_spans : (Nat → Int32)} {w_letters_fences : Int32} {w_rule_stack : (Nat → Int32)} {w_rule_things : (Nat → Int32)} {w_letters_fears : (Nat → Int32)} {w_letters_tenths : (Nat → Int32)} {w_letters_least : (Nat → Int32)} {w_letters_spans : (Nat → Int32)} (h : f_X4_lay p2 course_fences course_rule_size letters_fences course_kinds course_heights course_feet course_digits rule_codes rule_stack rule_things letters_fears letters_tenths letters_least letters_spans = some (w_letters_fences, w_rule_stack, w_rule_things, w_letters_fears, w_letters_tenths, w_letters_least, w_letters_spans)) : zMt l zW 4 mX4_lay σ ([(323, course_fences), (769, course_rule_size), (2180, letters_fences)], [(6, course_kinds), (7, course_heights), (8, course_feet), (10, course_digits), (13, rule_codes), (15, rule_stack), (16, rule_things), (35, letters_fears), (36, letters_tenths), (37, letters_least), (38, letters_spans)], []) [.ref 34, .ref 5, .int p2] none ([(323, course_fences), (769, course_rule_size), (2180, w_letters_fences)], [(6, course_kinds), (7, course_heights), (8, course_feet), (10, course_digits), (13, rule_codes), (15, w_rule_stack), (16, w_rule_things), (35, w_letters_fears), (36, w_letters_tenths), (37, w_letters_least), (38, w_letters_spans)], []) := by
  refine zMt_of (ls := [(0, .ref 34), (1, .ref 5), (2, .int p2)]) (by decide) rfl (fun _ => Nat.le_of_ble_eq_true rfl) rfl ?_
  unfold f_X4_lay at h
  refine zJ_aload_n dX4_lay_0 rfl rfl ?_
  refine zJ_aload_n dX4_lay_1 rfl rfl ?_
  refine zJ_geti (mi := mX4_lay) (x := course_fences) dX4_lay_2 F_X4_24 zW_5 rfl rfl rfl ?_
  refine zK_puti (mi := mX4_lay) (la' := [(323, course_fences), (769, course_rule_size), (2180, course_fences)]) zW_ok dX4_lay_5 F_X4_30 P_4_4 zW_34 rfl rfl rfl ?_
  refine zJ_iconst dX4_lay_8 zc_0 rfl ?_
  refine zJ_istore_n (ls' := [(3, .int (0 : Int32)), (0, .ref 34), (1, .ref 5), (2, .int p2)]) dX4_lay_9 rfl rfl rfl ?_
  have hk10 : ∀ (rule_stack_10x : (Nat → Int32)) (rule_things_10x : (Nat → Int32)) (letters_fears_10x : (Nat → Int32)) (letters_tenths_10x : (Nat → Int32)), k_X4_lay_10 course_fences letters_least letters_spans rule_stack_10x rule_things_10x letters_fears_10x letters_tenths_10x = some (w_letters_fences, w_rule_stack, w_rule_things, w_letters_fears, w_letters_tenths, w_letters_least, w_letters_spans) → zJ l zW 4 mX4_lay σ ([(323, course_fences), (769, course_rule_size), (2180, course_fences)], [(6, course_kinds), (7, course_heights), (8, course_feet), (10, course_digits), (13, rule_codes), (15, rule_stack_10x), (16, rule_things_10x), (35, letters_fears_10x), (36, letters_tenths_10x), (37, letters_least), (38, letters_spans)], []) 90 [(0, .ref 34)] [] none ([(323, course_fences), (769, course_rule_size), (2180, w_letters_fences)], [(6, course_kinds), (7, course_heights), (8, course_feet), (10, course_digits), (13, rule_codes), (15, w_rule_stack), (16, w_rule_things), (35, w_letters_fears), (36, w_letters_tenths), (37, w_letters_least), (38, w_letters_spans)], []) := by
    intro rule_stack_10x rule_things_10x letters_fears_10x letters_tenths_10x h
    unfold k_X4_lay_10 at h
    refine zJ_aload_n dX4_lay_90 rfl rfl ?_
    refine zJ_getr (mi := mX4_lay) dX4_lay_91 F_X4_21 zW_34 rfl rfl ?_
    refine zJ_iconst dX4_lay_94 zc_0 rfl ?_
    refine zJ_iconst dX4_lay_95 zc_0 rfl ?_
    obtain ⟨hg, h⟩ := gd_some h
    refine zK_iast (mi := mX4_lay) (f := letters_spans) (lb' := [(6, course_kinds), (7, course_heights), (8, course_feet), (10, course_digits), (13, rule_codes), (15, rule_stack_10x), (16, rule_things_10x), (35, letters_fears_10x), (36, letters_tenths_10x), (37, letters_least), (38, (upd letters_spans (0 : Int32).toNatClampNeg (0 : Int32)))]) dX4_lay_96 zW_38 (ix_in hg) rfl rfl rfl ?_
    refine zJ_aload_n dX4_lay_97 rfl rfl ?_
    refine zJ_getr (mi := mX4_lay) dX4_lay_98 F_X4_18 zW_34 rfl rfl ?_
    refine zJ_iconst dX4_lay_101 zc_0 rfl ?_
    obtain ⟨rn1, hcl, h⟩ := bd1_some h
    refine zJ_callS (mi := mX4_lay) (yi := mX4_from) (as := [.int (0 : Int32)]) (st := [.ref 37]) (L2 := ([(323, course_fences), (769, course_rule_size), (2180, course_fences)], [(6, course_kinds), (7, course_heights), (8, course_feet), (10, course_digits), (13, rule_codes), (15, rule_stack_10x), (16, rule_things_10x), (35, letters_fears_10x), (36, letters_tenths_10x), (37, letters_least), (38, (upd letters_spans (0 : Int32).toNatClampNeg (0 : Int32)))], [])) dX4_lay_102 ML_X4_42 Ys_X4_from rfl (t_X4_from l _ hcl) (zsub_i zle_n zle_n zle_n) rfl (Nat.le_of_ble_eq_true rfl) (Nat.le_of_ble_eq_true rfl) rfl rfl ?_
    refine zJ_iconst dX4_lay_105 zc_0 rfl ?_
    obtain ⟨hg, h⟩ := gd_some h
    refine zK_iast (mi := mX4_lay) (f := letters_least) (lb' := [(6, course_kinds), (7, course_heights), (8, course_feet), (10, course_digits), (13, rule_codes), (15, rule_stack_10x), (16, rule_things_10x), (35, letters_fears_10x), (36, letters_tenths_10x), (37, (upd letters_least rn1.toNatClampNeg (0 : Int32))), (38, (upd letters_spans (0 : Int32).toNatClampNeg (0 : Int32)))]) dX4_lay_106 zW_37 (ix_in hg) rfl rfl rfl ?_
    refine zJ_iconst dX4_lay_107 zc_1 rfl ?_
    refine zJ_istore_n (ls' := [(3, .int (1 : Int32)), (0, .ref 34)]) dX4_lay_108 rfl rfl rfl ?_
    have hk109 : ∀ (letters_least_109x : (Nat → Int32)) (letters_spans_109x : (Nat → Int32)), k_X4_lay_109 course_fences rule_stack_10x rule_things_10x letters_fears_10x letters_tenths_10x letters_least_109x letters_spans_109x = some (w_letters_fences, w_rule_stack, w_rule_things, w_letters_fears, w_letters_tenths, w_letters_least, w_letters_spans) → zJ l zW 4 mX4_lay σ ([(323, course_fences), (769, course_rule_size), (2180, course_fences)], [(6, course_kinds), (7, course_heights), (8, course_feet), (10, course_digits), (13, rule_codes), (15, rule_stack_10x), (16, rule_things_10x), (35, letters_fears_10x), (36, letters_tenths_10x), (37, letters_least_109x), (38, letters_spans_109x)], []) 128 [] [] none ([(323, course_fences), (769, course_rule_size), (2180, w_letters_fences)], [(6, course_kinds), (7, course_heights), (8, course_feet), (10, course_digits), (13, rule_codes), (15, w_rule_stack), (16, w_rule_things), (35, w_letters_fears), (36, w_letters_tenths), (37, w_letters_least), (38, w_letters_spans)], []) := by
      intro letters_least_109x letters_spans_109x h
      unfold k_X4_lay_109 at h
      obtain ⟨rfl, rfl, rfl, rfl, rfl, rfl, rfl⟩ := so7 h
      exact zJ_vret dX4_lay_128 rfl
    refine zJ_loc (ls' := [(0, .ref 34), (3, .int (1 : Int32))]) (zll_c rfl (zll_c rfl zll_n)) ?_
    refine ml3_J (fun (v3_109 : Int32) (letters_least_109 : (Nat → Int32)) (letters_spans_109 : (Nat → Int32)) => zJ l zW 4 mX4_lay σ ([(323, course_fences), (769, course_rule_size), (2180, course_fences)], [(6, course_kinds), (7, course_heights), (8, course_feet), (10, course_digits), (13, rule_codes), (15, rule_stack_10x), (16, rule_things_10x), (35, letters_fears_10x), (36, letters_tenths_10x), (37, letters_least_109), (38, letters_spans_109)], []) 109 [(0, .ref 34), (3, .int v3_109)] [] none ([(323, course_fences), (769, course_rule_size), (2180, w_letters_fences)], [(6, course_kinds), (7, course_heights), (8, course_feet), (10, course_digits), (13, rule_codes), (15, w_rule_stack), (16, w_rule_things), (35, w_letters_fears), (36, w_letters_tenths), (37, w_letters_least), (38, w_letters_spans)], [])) (fun rc109 hrc109 v3_109 letters_least_109 letters_spans_109 h => ?_) zN _ _ _ h
    unfold s_X4_lay_109 at h
    refine zJ_iload_n dX4_lay_109 rfl rfl ?_
    refine zJ_aload_n dX4_lay_110 rfl rfl ?_
    refine zJ_geti (mi := mX4_lay) (x := course_fences) dX4_lay_111 F_X4_30 zW_34 rfl rfl rfl ?_
    refine zJ_icmp_gt (tgt := 128) dX4_lay_114 (by decide) rfl (fun hc => ?_) (fun hc => ?_)
    · replace h := it_t hc h
      refine zJ_loc (ls' := []) zll_n ?_
      exact hk109 _ _ h
    · replace h := it_f hc h
      refine zJ_aload_n dX4_lay_117 rfl rfl ?_
      refine zJ_iload_n dX4_lay_118 rfl rfl ?_
      obtain ⟨letters_leastn2, letters_spansn3, hcl, h⟩ := bd2_some h
      refine zJ_callV (mi := mX4_lay) (yi := mX4_layBehind) (as := [.int v3_109]) (st := []) (L2 := ([(323, course_fences), (769, course_rule_size), (2180, course_fences)], [(6, course_kinds), (7, course_heights), (8, course_feet), (10, course_digits), (13, rule_codes), (15, rule_stack_10x), (16, rule_things_10x), (35, letters_fears_10x), (36, letters_tenths_10x), (37, letters_leastn2), (38, letters_spansn3)], [])) dX4_lay_119 ML_X4_46 Yv_X4_layBehind rfl zW_34 rfl rfl (t_X4_layBehind l _ hcl) (zsub_i (zle_c rfl zle_n) (zle_c rfl (zle_c rfl (zle_c rfl (zle_c rfl zle_n)))) zle_n) rfl (Nat.le_of_ble_eq_true rfl) (Nat.le_of_ble_eq_true rfl) rfl rfl ?_
      obtain ⟨v3n4, ev3n4, h⟩ := lt1_some h
      refine zJ_iincN (ls' := [(3, .int v3n4), (0, .ref 34)]) dX4_lay_122 rfl rfl zc_1 ev3n4 rfl rfl ?_
      refine zJ_goto (tgt := 109) dX4_lay_125 (by decide) ?_
      refine zJ_loc (ls' := [(0, .ref 34), (3, .int v3n4)]) (zll_c rfl (zll_c rfl zll_n)) ?_
      exact hrc109 _ _ _ h
  refine zJ_loc (ls' := [(0, .ref 34), (1, .ref 5), (2, .int p2), (3, .int (0 : Int32))]) (zll_c rfl (zll_c rfl (zll_c rfl (zll_c rfl zll_n)))) ?_
  refine ml5_J (fun (v3_10 : Int32) (rule_stack_10 : (Nat → Int32)) (rule_things_10 : (Nat → Int32)) (letters_fears_10 : (Nat → Int32)) (letters_tenths_10 : (Nat → Int32)) => zJ l zW 4 mX4_lay σ ([(323, course_fences), (769, course_rule_size), (2180, course_fences)], [(6, course_kinds), (7, course_heights), (8, course_feet), (10, course_digits), (13, rule_codes), (15, rule_stack_10), (16, rule_things_10), (35, letters_fears_10), (36, letters_tenths_10), (37, letters_least), (38, letters_spans)], []) 10 [(0, .ref 34), (1, .ref 5), (2, .int p2), (3, .int v3_10)] [] none ([(323, course_fences), (769, course_rule_size), (2180, w_letters_fences)], [(6, course_kinds), (7, course_heights), (8, course_feet), (10, course_digits), (13, rule_codes), (15, w_rule_stack), (16, w_rule_things), (35, w_letters_fears), (36, w_letters_tenths), (37, w_letters_least), (38, w_letters_spans)], [])) (fun rc10 hrc10 v3_10 rule_stack_10 rule_things_10 letters_fears_10 letters_tenths_10 h => ?_) zN _ _ _ _ _ h
  unfold s_X4_lay_10 at h
  refine zJ_iload_n dX4_lay_10 rfl rfl ?_
  refine zJ_aload_n dX4_lay_11 rfl rfl ?_
  refine zJ_geti (mi := mX4_lay) (x := course_fences) dX4_lay_12 F_X4_30 zW_34 rfl rfl rfl ?_
  refine zJ_icmp_ge (tgt := 90) dX4_lay_15 (by decide) rfl (fun hc => ?_) (fun hc => ?_)
  · replace h := it_t hc h
    refine zJ_loc (ls' := [(0, .ref 34)]) (zll_c rfl zll_n) ?_
    exact hk10 _ _ _ _ h
  · replace h := it_f hc h
    refine zJ_aload_n dX4_lay_18 rfl rfl ?_
    refine zJ_iload_n dX4_lay_19 rfl rfl ?_
    refine zJ_iload_n dX4_lay_20 rfl rfl ?_
    obtain ⟨rn5, hcl, h⟩ := bd1_some h
    refine zJ_callV (mi := mX4_lay) (yi := mX1_refusalOdds) (as := [.int p2, .int v3_10]) (st := []) (L2 := ([(323, course_fences), (769, course_rule_size), (2180, course_fences)], [(6, course_kinds), (7, course_heights), (8, course_feet), (10, course_digits), (13, rule_codes), (15, rule_stack_10), (16, rule_things_10), (35, letters_fears_10), (36, letters_tenths_10), (37, letters_least), (38, letters_spans)], [])) dX4_lay_21 ML_X4_31 Yv_X1_refusalOdds rfl zW_5 rfl rfl (t_X1_refusalOdds l _ hcl) (zsub_i zle_n (zle_c rfl (zle_c rfl (zle_c rfl zle_n))) zle_n) rfl (Nat.le_of_ble_eq_true rfl) (Nat.le_of_ble_eq_true rfl) rfl rfl ?_
    refine zJ_istore (ls' := [(4, .int rn5), (0, .ref 34), (1, .ref 5), (2, .int p2), (3, .int v3_10)]) dX4_lay_24 rfl rfl rfl ?_
    refine zJ_iconst dX4_lay_26 zc_0 rfl ?_
    refine zJ_istore (ls' := [(5, .int (0 : Int32)), (4, .int rn5), (0, .ref 34), (1, .ref 5), (2, .int p2), (3, .int v3_10)]) dX4_lay_27 rfl rfl rfl ?_
    have hk29 : ∀ (rule_stack_29x : (Nat → Int32)) (rule_things_29x : (Nat → Int32)) (letters_fears_29x : (Nat → Int32)) (letters_tenths_29x : (Nat → Int32)), k_X4_lay_29 rc10 v3_10 rule_stack_29x rule_things_29x letters_fears_29x letters_tenths_29x = some (w_letters_fences, w_rule_stack, w_rule_things, w_letters_fears, w_letters_tenths, w_letters_least, w_letters_spans) → zJ l zW 4 mX4_lay σ ([(323, course_fences), (769, course_rule_size), (2180, course_fences)], [(6, course_kinds), (7, course_heights), (8, course_feet), (10, course_digits), (13, rule_codes), (15, rule_stack_29x), (16, rule_things_29x), (35, letters_fears_29x), (36, letters_tenths_29x), (37, letters_least), (38, letters_spans)], []) 84 [(0, .ref 34), (1, .ref 5), (2, .int p2), (3, .int v3_10)] [] none ([(323, course_fences), (769, course_rule_size), (2180, w_letters_fences)], [(6, course_kinds), (7, course_heights), (8, course_feet), (10, course_digits), (13, rule_codes), (15, w_rule_stack), (16, w_rule_things), (35, w_letters_fears), (36, w_letters_tenths), (37, w_letters_least), (38, w_letters_spans)], []) := by
      intro rule_stack_29x rule_things_29x letters_fears_29x letters_tenths_29x h
      unfold k_X4_lay_29 at h
      obtain ⟨v3n6, ev3n6, h⟩ := lt1_some h
      refine zJ_iincN (ls' := [(3, .int v3n6), (0, .ref 34), (1, .ref 5), (2, .int p2)]) dX4_lay_84 rfl rfl zc_1 ev3n6 rfl rfl ?_
      refine zJ_goto (tgt := 10) dX4_lay_87 (by decide) ?_
      refine zJ_loc (ls' := [(0, .ref 34), (1, .ref 5), (2, .int p2), (3, .int v3n6)]) (zll_c rfl (zll_c rfl (zll_c rfl (zll_c rfl zll_n)))) ?_
      exact hrc10 _ _ _ _ _ h
    refine zJ_loc (ls' := [(0, .ref 34), (1, .ref 5), (2, .int p2), (3, .int v3_10), (4, .int rn5), (5, .int (0 : Int32))]) (zll_c rfl (zll_c rfl (zll_c rfl (zll_c rfl (zll_c rfl (zll_c rfl zll_n)))))) ?_
    refine ml5_J (fun (v5_29 : Int32) (rule_stack_29 : (Nat → Int32)) (rule_things_29 : (Nat → Int32)) (letters_fears_29 : (Nat → Int32)) (letters_tenths_29 : (Nat → Int32)) => zJ l zW 4 mX4_lay σ ([(323, course_fences), (769, course_rule_size), (2180, course_fences)], [(6, course_kinds), (7, course_heights), (8, course_feet), (10, course_digits), (13, rule_codes), (15, rule_stack_29), (16, rule_things_29), (35, letters_fears_29), (36, letters_tenths_29), (37, letters_least), (38, letters_spans)], []) 29 [(0, .ref 34), (1, .ref 5), (2, .int p2), (3, .int v3_10), (4, .int rn5), (5, .int v5_29)] [] none ([(323, course_fences), (769, course_rule_size), (2180, w_letters_fences)], [(6, course_kinds), (7, course_heights), (8, course_feet), (10, course_digits), (13, rule_codes), (15, w_rule_stack), (16, w_rule_things), (35, w_letters_fears), (36, w_letters_tenths), (37, w_letters_least), (38, w_letters_spans)], [])) (fun rc29 hrc29 v5_29 rule_stack_29 rule_things_29 letters_fears_29 letters_tenths_29 h => ?_) zN _ _ _ _ _ h
    unfold s_X4_lay_29 at h
    refine zJ_iload dX4_lay_29 rfl rfl ?_
    refine zJ_bipush dX4_lay_31 zb_8 rfl ?_
    refine zJ_icmp_ge (tgt := 84) dX4_lay_33 (by decide) rfl (fun hc => ?_) (fun hc => ?_)
    · replace h := it_t hc h
      refine zJ_loc (ls' := [(0, .ref 34), (1, .ref 5), (2, .int p2), (3, .int v3_10)]) (zll_c rfl (zll_c rfl (zll_c rfl (zll_c rfl zll_n)))) ?_
      exact hk29 _ _ _ _ h
    · replace h := it_f hc h
      refine zJ_aload_n dX4_lay_36 rfl rfl ?_
      refine zJ_getr (mi := mX4_lay) dX4_lay_37 F_X4_11 zW_34 rfl rfl ?_
      refine zJ_iload_n dX4_lay_40 rfl rfl ?_
      refine zJ_bipush dX4_lay_41 zb_8 rfl ?_
      refine zJ_imul dX4_lay_43 rfl ?_
      refine zJ_iload dX4_lay_44 rfl rfl ?_
      refine zJ_iadd dX4_lay_46 rfl ?_
      refine zJ_aload_n dX4_lay_47 rfl rfl ?_
      refine zJ_iload_n dX4_lay_48 rfl rfl ?_
      refine zJ_iload_n dX4_lay_49 rfl rfl ?_
      refine zJ_iload dX4_lay_50 rfl rfl ?_
      obtain ⟨rn7, rule_stackn8, rule_thingsn9, hcl, h⟩ := bd3_some h
      refine zJ_callV (mi := mX4_lay) (yi := mX1_poleOdds) (as := [.int p2, .int v3_10, .int v5_29]) (st := [.int ((v3_10 * (8 : Int32)) + v5_29), .ref 35]) (L2 := ([(323, course_fences), (769, course_rule_size), (2180, course_fences)], [(6, course_kinds), (7, course_heights), (8, course_feet), (10, course_digits), (13, rule_codes), (15, rule_stackn8), (16, rule_thingsn9), (35, letters_fears_29), (36, letters_tenths_29), (37, letters_least), (38, letters_spans)], [])) dX4_lay_52 ML_X4_35 Yv_X1_poleOdds rfl zW_5 rfl rfl (t_X1_poleOdds l _ hcl) (zsub_i (zle_c rfl zle_n) (zle_c rfl (zle_c rfl (zle_c rfl (zle_c rfl (zle_c rfl (zle_c rfl (zle_c rfl zle_n))))))) zle_n) rfl (Nat.le_of_ble_eq_true rfl) (Nat.le_of_ble_eq_true rfl) rfl rfl ?_
      refine zJ_iload dX4_lay_55 rfl rfl ?_
      refine zJ_iadd dX4_lay_57 rfl ?_
      obtain ⟨hg, h⟩ := gd_some h
      refine zK_iast (mi := mX4_lay) (f := letters_fears_29) (lb' := [(6, course_kinds), (7, course_heights), (8, course_feet), (10, course_digits), (13, rule_codes), (15, rule_stackn8), (16, rule_thingsn9), (35, (upd letters_fears_29 ((v3_10 * (8 : Int32)) + v5_29).toNatClampNeg (rn7 + rn5))), (36, letters_tenths_29), (37, letters_least), (38, letters_spans)]) dX4_lay_58 zW_35 (ix_in hg) rfl rfl rfl ?_
      refine zJ_aload_n dX4_lay_59 rfl rfl ?_
      refine zJ_getr (mi := mX4_lay) dX4_lay_60 F_X4_15 zW_34 rfl rfl ?_
      refine zJ_iload_n dX4_lay_63 rfl rfl ?_
      refine zJ_bipush dX4_lay_64 zb_8 rfl ?_
      refine zJ_imul dX4_lay_66 rfl ?_
      refine zJ_iload dX4_lay_67 rfl rfl ?_
      refine zJ_iadd dX4_lay_69 rfl ?_
      refine zJ_aload_n dX4_lay_70 rfl rfl ?_
      refine zJ_iload_n dX4_lay_71 rfl rfl ?_
      refine zJ_iload dX4_lay_72 rfl rfl ?_
      obtain ⟨rn10, hcl, h⟩ := bd1_some h
      refine zJ_callV (mi := mX4_lay) (yi := mX1_fenceTenths) (as := [.int v3_10, .int v5_29]) (st := [.int ((v3_10 * (8 : Int32)) + v5_29), .ref 36]) (L2 := ([(323, course_fences), (769, course_rule_size), (2180, course_fences)], [(6, course_kinds), (7, course_heights), (8, course_feet), (10, course_digits), (13, rule_codes), (15, rule_stackn8), (16, rule_thingsn9), (35, (upd letters_fears_29 ((v3_10 * (8 : Int32)) + v5_29).toNatClampNeg (rn7 + rn5))), (36, letters_tenths_29), (37, letters_least), (38, letters_spans)], [])) dX4_lay_74 ML_X4_39 Yv_X1_fenceTenths rfl zW_5 rfl rfl (t_X1_fenceTenths l _ hcl) (zsub_i zle_n (zle_c rfl (zle_c rfl zle_n)) zle_n) rfl (Nat.le_of_ble_eq_true rfl) (Nat.le_of_ble_eq_true rfl) rfl rfl ?_
      obtain ⟨hg, h⟩ := gd_some h
      refine zK_iast (mi := mX4_lay) (f := letters_tenths_29) (lb' := [(6, course_kinds), (7, course_heights), (8, course_feet), (10, course_digits), (13, rule_codes), (15, rule_stackn8), (16, rule_thingsn9), (35, (upd letters_fears_29 ((v3_10 * (8 : Int32)) + v5_29).toNatClampNeg (rn7 + rn5))), (36, (upd letters_tenths_29 ((v3_10 * (8 : Int32)) + v5_29).toNatClampNeg rn10)), (37, letters_least), (38, letters_spans)]) dX4_lay_77 zW_36 (ix_in hg) rfl rfl rfl ?_
      obtain ⟨v5n11, ev5n11, h⟩ := lt1_some h
      refine zJ_iincN (ls' := [(5, .int v5n11), (0, .ref 34), (1, .ref 5), (2, .int p2), (3, .int v3_10), (4, .int rn5)]) dX4_lay_78 rfl rfl zc_1 ev5n11 rfl rfl ?_
      refine zJ_goto (tgt := 29) dX4_lay_81 (by decide) ?_
      refine zJ_loc (ls' := [(0, .ref 34), (1, .ref 5), (2, .int p2), (3, .int v3_10), (4, .int rn5), (5, .int v5n11)]) (zll_c rfl (zll_c rfl (zll_c rfl (zll_c rfl (zll_c rfl (zll_c rfl zll_n)))))) ?_
      exact hrc29 _ _ _ _ _ h
set_option maxRecDepth 100000 in
set_option maxHeartbeats 4000000 in
theorem t_X4_firstLetter (l : Launch) (σ : zS) {p1 : Int32} {p2 : Int32} {p3 : Int32} {letters_fences : Int32} {letters_fears : (Nat → Int32)} {letters_tenths : (Nat → Int32)} {letters_least : (Nat → Int32)} {letters_spans : (Nat → Int32)} {r : Int32} (h : f_X4_firstLetter p1 p2 p3 letters_fences letters_fears letters_tenths letters_least letters_spans = some r) : zMt l zW 1 mX4_firstLetter σ ([(2180, letters_fences)], [(35, letters_fears), (36, letters_tenths), (37, letters_least), (38, letters_spans)], []) [.ref 34, .int p1, .int p2, .int p3] (some (.int r)) ([(2180, letters_fences)], [(35, letters_fears), (36, letters_tenths), (37, letters_least), (38, letters_spans)], []) := by
  refine zMt_of (ls := [(0, .ref 34), (1, .int p1), (2, .int p2), (3, .int p3)]) (by decide) rfl (fun _ => Nat.le_of_ble_eq_true rfl) rfl ?_
  unfold f_X4_firstLetter at h
  refine zJ_aload_n dX4_firstLetter_0 rfl rfl ?_
  refine zJ_geti (mi := mX4_firstLetter) (x := letters_fences) dX4_firstLetter_1 F_X4_30 zW_34 rfl rfl rfl ?_
  refine zJ_iload_n dX4_firstLetter_4 rfl rfl ?_
  refine zJ_isub dX4_firstLetter_5 rfl ?_
  refine zJ_iconst dX4_firstLetter_6 zc_1 rfl ?_
  refine zJ_isub dX4_firstLetter_7 rfl ?_
  obtain ⟨v4n1, ev4n1, h⟩ := lt1_some h
  refine zJ_nmi ev4n1 ?_
  refine zJ_istore (ls' := [(4, .int v4n1), (0, .ref 34), (1, .int p1), (2, .int p2), (3, .int p3)]) dX4_firstLetter_8 rfl rfl rfl ?_
  refine zJ_iconst dX4_firstLetter_10 zc_0 rfl ?_
  refine zJ_istore (ls' := [(5, .int (0 : Int32)), (4, .int v4n1), (0, .ref 34), (1, .int p1), (2, .int p2), (3, .int p3)]) dX4_firstLetter_11 rfl rfl rfl ?_
  have hk13 : ∀ (_u : Unit), k_X4_firstLetter_13  _u = some r → zJ l zW 1 mX4_firstLetter σ ([(2180, letters_fences)], [(35, letters_fears), (36, letters_tenths), (37, letters_least), (38, letters_spans)], []) 121 [] [] (some (.int r)) ([(2180, letters_fences)], [(35, letters_fears), (36, letters_tenths), (37, letters_least), (38, letters_spans)], []) := by
    intro _u h
    unfold k_X4_firstLetter_13 at h
    refine zJ_iconst dX4_firstLetter_121 zc_0 rfl ?_
    obtain rfl := so1 h
    exact zJ_iret dX4_firstLetter_122 rfl rfl
  refine zJ_loc (ls' := [(0, .ref 34), (1, .int p1), (2, .int p2), (3, .int p3), (4, .int v4n1), (5, .int (0 : Int32))]) (zll_c rfl (zll_c rfl (zll_c rfl (zll_c rfl (zll_c rfl (zll_c rfl zll_n)))))) ?_
  refine ml1_J (fun (v5_13 : Int32) => zJ l zW 1 mX4_firstLetter σ ([(2180, letters_fences)], [(35, letters_fears), (36, letters_tenths), (37, letters_least), (38, letters_spans)], []) 13 [(0, .ref 34), (1, .int p1), (2, .int p2), (3, .int p3), (4, .int v4n1), (5, .int v5_13)] [] (some (.int r)) ([(2180, letters_fences)], [(35, letters_fears), (36, letters_tenths), (37, letters_least), (38, letters_spans)], [])) (fun rc13 hrc13 v5_13 h => ?_) zN _ h
  unfold s_X4_firstLetter_13 at h
  refine zJ_iload dX4_firstLetter_13 rfl rfl ?_
  refine zJ_bipush dX4_firstLetter_15 zb_8 rfl ?_
  refine zJ_icmp_ge (tgt := 121) dX4_firstLetter_17 (by decide) rfl (fun hc => ?_) (fun hc => ?_)
  · replace h := it_t hc h
    refine zJ_loc (ls' := []) zll_n ?_
    exact hk13 _ h
  · replace h := it_f hc h
    refine zJ_iload_n dX4_firstLetter_20 rfl rfl ?_
    refine zJ_aload_n dX4_firstLetter_21 rfl rfl ?_
    refine zJ_getr (mi := mX4_firstLetter) dX4_firstLetter_22 F_X4_15 zW_34 rfl rfl ?_
    refine zJ_iload_n dX4_firstLetter_25 rfl rfl ?_
    refine zJ_bipush dX4_firstLetter_26 zb_8 rfl ?_
    refine zJ_imul dX4_firstLetter_28 rfl ?_
    refine zJ_iload dX4_firstLetter_29 rfl rfl ?_
    refine zJ_iadd dX4_firstLetter_31 rfl ?_
    obtain ⟨hg, h⟩ := gd_some h
    refine zJ_iald (mi := mX4_firstLetter) (f := letters_tenths) dX4_firstLetter_32 zW_36 (ix_in hg) rfl rfl ?_
    refine zJ_isub dX4_firstLetter_33 rfl ?_
    obtain ⟨v6n2, ev6n2, h⟩ := lt1_some h
    refine zJ_nmi ev6n2 ?_
    refine zJ_istore (ls' := [(6, .int v6n2), (0, .ref 34), (1, .int p1), (2, .int p2), (3, .int p3), (4, .int v4n1), (5, .int v5_13)]) dX4_firstLetter_34 rfl rfl rfl ?_
    refine zJ_iload dX4_firstLetter_36 rfl rfl ?_
    have hj_X4_firstLetter_75 : ∀ (t0_75j : Int32), j_X4_firstLetter_75 p1 p3 letters_fears letters_least v4n1 rc13 v5_13 v6n2 t0_75j = some r → zJ l zW 1 mX4_firstLetter σ ([(2180, letters_fences)], [(35, letters_fears), (36, letters_tenths), (37, letters_least), (38, letters_spans)], []) 75 [(0, .ref 34), (1, .int p1), (2, .int p2), (3, .int p3), (4, .int v4n1), (5, .int v5_13), (6, .int v6n2)] [.int t0_75j] (some (.int r)) ([(2180, letters_fences)], [(35, letters_fears), (36, letters_tenths), (37, letters_least), (38, letters_spans)], []) := by
      intro t0_75j h
      unfold j_X4_firstLetter_75 at h
      refine zJ_istore (ls' := [(7, .int t0_75j), (0, .ref 34), (1, .int p1), (2, .int p2), (3, .int p3), (4, .int v4n1), (5, .int v5_13), (6, .int v6n2)]) dX4_firstLetter_75 rfl rfl rfl ?_
      refine zJ_iload dX4_firstLetter_77 rfl rfl ?_
      refine zJ_if_eq (tgt := 115) dX4_firstLetter_79 (by decide) rfl (fun hc => ?_) (fun hc => ?_)
      · replace h := it_t hc h
        obtain ⟨v5n3, ev5n3, h⟩ := lt1_some h
        refine zJ_iincN (ls' := [(5, .int v5n3), (7, .int t0_75j), (0, .ref 34), (1, .int p1), (2, .int p2), (3, .int p3), (4, .int v4n1), (6, .int v6n2)]) dX4_firstLetter_115 rfl rfl zc_1 ev5n3 rfl rfl ?_
        refine zJ_goto (tgt := 13) dX4_firstLetter_118 (by decide) ?_
        refine zJ_loc (ls' := [(0, .ref 34), (1, .int p1), (2, .int p2), (3, .int p3), (4, .int v4n1), (5, .int v5n3)]) (zll_c rfl (zll_c rfl (zll_c rfl (zll_c rfl (zll_c rfl (zll_c rfl zll_n)))))) ?_
        exact hrc13 _ h
      · replace h := it_f hc h
        refine zJ_aload_n dX4_firstLetter_82 rfl rfl ?_
        refine zJ_getr (mi := mX4_firstLetter) dX4_firstLetter_83 F_X4_18 zW_34 rfl rfl ?_
        refine zJ_iload dX4_firstLetter_86 rfl rfl ?_
        obtain ⟨rn4, hcl, h⟩ := bd1_some h
        refine zJ_callS (mi := mX4_firstLetter) (yi := mX4_from) (as := [.int v4n1]) (st := [.ref 37]) (L2 := ([(2180, letters_fences)], [(35, letters_fears), (36, letters_tenths), (37, letters_least), (38, letters_spans)], [])) dX4_firstLetter_88 ML_X4_42 Ys_X4_from rfl (t_X4_from l _ hcl) (zsub_i zle_n zle_n zle_n) rfl (Nat.le_of_ble_eq_true rfl) (Nat.le_of_ble_eq_true rfl) rfl rfl ?_
        refine zJ_iload dX4_firstLetter_91 rfl rfl ?_
        refine zJ_iadd dX4_firstLetter_93 rfl ?_
        obtain ⟨hg, h⟩ := gd_some h
        refine zJ_iald (mi := mX4_firstLetter) (f := letters_least) dX4_firstLetter_94 zW_37 (ix_in hg) rfl rfl ?_
        refine zJ_aload_n dX4_firstLetter_95 rfl rfl ?_
        refine zJ_getr (mi := mX4_firstLetter) dX4_firstLetter_96 F_X4_11 zW_34 rfl rfl ?_
        refine zJ_iload_n dX4_firstLetter_99 rfl rfl ?_
        refine zJ_bipush dX4_firstLetter_100 zb_8 rfl ?_
        refine zJ_imul dX4_firstLetter_102 rfl ?_
        refine zJ_iload dX4_firstLetter_103 rfl rfl ?_
        refine zJ_iadd dX4_firstLetter_105 rfl ?_
        obtain ⟨hg, h⟩ := gd_some h
        refine zJ_iald (mi := mX4_firstLetter) (f := letters_fears) dX4_firstLetter_106 zW_35 (ix_in hg) rfl rfl ?_
        refine zJ_iadd dX4_firstLetter_107 rfl ?_
        refine zJ_iload_n dX4_firstLetter_108 rfl rfl ?_
        refine zJ_icmp_ne (tgt := 115) dX4_firstLetter_109 (by decide) rfl (fun hc => ?_) (fun hc => ?_)
        · replace h := it_f hc h
          obtain ⟨v5n5, ev5n5, h⟩ := lt1_some h
          refine zJ_iincN (ls' := [(5, .int v5n5), (7, .int t0_75j), (0, .ref 34), (1, .int p1), (2, .int p2), (3, .int p3), (4, .int v4n1), (6, .int v6n2)]) dX4_firstLetter_115 rfl rfl zc_1 ev5n5 rfl rfl ?_
          refine zJ_goto (tgt := 13) dX4_firstLetter_118 (by decide) ?_
          refine zJ_loc (ls' := [(0, .ref 34), (1, .int p1), (2, .int p2), (3, .int p3), (4, .int v4n1), (5, .int v5n5)]) (zll_c rfl (zll_c rfl (zll_c rfl (zll_c rfl (zll_c rfl (zll_c rfl zll_n)))))) ?_
          exact hrc13 _ h
        · replace h := it_t hc h
          refine zJ_iload dX4_firstLetter_112 rfl rfl ?_
          obtain rfl := so1 h
          exact zJ_iret dX4_firstLetter_114 rfl rfl
    refine zJ_if_lt (tgt := 74) dX4_firstLetter_38 (by decide) rfl (fun hc => ?_) (fun hc => ?_)
    · replace h := it_t hc h
      refine zJ_iconst dX4_firstLetter_74 zc_0 rfl ?_
      refine zJ_loc (ls' := [(0, .ref 34), (1, .int p1), (2, .int p2), (3, .int p3), (4, .int v4n1), (5, .int v5_13), (6, .int v6n2)]) (zll_c rfl (zll_c rfl (zll_c rfl (zll_c rfl (zll_c rfl (zll_c rfl (zll_c rfl zll_n))))))) ?_
      exact hj_X4_firstLetter_75 _ h
    · replace h := it_f hc h
      refine zJ_iload dX4_firstLetter_41 rfl rfl ?_
      refine zJ_aload_n dX4_firstLetter_43 rfl rfl ?_
      refine zJ_getr (mi := mX4_firstLetter) dX4_firstLetter_44 F_X4_21 zW_34 rfl rfl ?_
      refine zJ_iload dX4_firstLetter_47 rfl rfl ?_
      obtain ⟨hg, h⟩ := gd_some h
      refine zJ_iald (mi := mX4_firstLetter) (f := letters_spans) dX4_firstLetter_49 zW_38 (ix_in hg) rfl rfl ?_
      refine zJ_icmp_gt (tgt := 74) dX4_firstLetter_50 (by decide) rfl (fun hc => ?_) (fun hc => ?_)
      · replace h := it_t hc h
        refine zJ_iconst dX4_firstLetter_74 zc_0 rfl ?_
        refine zJ_loc (ls' := [(0, .ref 34), (1, .int p1), (2, .int p2), (3, .int p3), (4, .int v4n1), (5, .int v5_13), (6, .int v6n2)]) (zll_c rfl (zll_c rfl (zll_c rfl (zll_c rfl (zll_c rfl (zll_c rfl (zll_c rfl zll_n))))))) ?_
        exact hj_X4_firstLetter_75 _ h
      · replace h := it_f hc h
        refine zJ_aload_n dX4_firstLetter_53 rfl rfl ?_
        refine zJ_getr (mi := mX4_firstLetter) dX4_firstLetter_54 F_X4_18 zW_34 rfl rfl ?_
        refine zJ_iload dX4_firstLetter_57 rfl rfl ?_
        obtain ⟨rn6, hcl, h⟩ := bd1_some h
        refine zJ_callS (mi := mX4_firstLetter) (yi := mX4_from) (as := [.int v4n1]) (st := [.ref 37]) (L2 := ([(2180, letters_fences)], [(35, letters_fears), (36, letters_tenths), (37, letters_least), (38, letters_spans)], [])) dX4_firstLetter_59 ML_X4_42 Ys_X4_from rfl (t_X4_from l _ hcl) (zsub_i zle_n zle_n zle_n) rfl (Nat.le_of_ble_eq_true rfl) (Nat.le_of_ble_eq_true rfl) rfl rfl ?_
        refine zJ_iload dX4_firstLetter_62 rfl rfl ?_
        refine zJ_iadd dX4_firstLetter_64 rfl ?_
        obtain ⟨hg, h⟩ := gd_some h
        refine zJ_iald (mi := mX4_firstLetter) (f := letters_least) dX4_firstLetter_65 zW_37 (ix_in hg) rfl rfl ?_
        refine zJ_iconst dX4_firstLetter_66 zc_m1 rfl ?_
        refine zJ_icmp_eq (tgt := 74) dX4_firstLetter_67 (by decide) rfl (fun hc => ?_) (fun hc => ?_)
        · replace h := it_t hc h
          refine zJ_iconst dX4_firstLetter_74 zc_0 rfl ?_
          refine zJ_loc (ls' := [(0, .ref 34), (1, .int p1), (2, .int p2), (3, .int p3), (4, .int v4n1), (5, .int v5_13), (6, .int v6n2)]) (zll_c rfl (zll_c rfl (zll_c rfl (zll_c rfl (zll_c rfl (zll_c rfl (zll_c rfl zll_n))))))) ?_
          exact hj_X4_firstLetter_75 _ h
        · replace h := it_f hc h
          refine zJ_iconst dX4_firstLetter_70 zc_1 rfl ?_
          refine zJ_goto (tgt := 75) dX4_firstLetter_71 (by decide) ?_
          refine zJ_loc (ls' := [(0, .ref 34), (1, .int p1), (2, .int p2), (3, .int p3), (4, .int v4n1), (5, .int v5_13), (6, .int v6n2)]) (zll_c rfl (zll_c rfl (zll_c rfl (zll_c rfl (zll_c rfl (zll_c rfl (zll_c rfl zll_n))))))) ?_
          exact hj_X4_firstLetter_75 _ h
set_option maxRecDepth 100000 in
set_option maxHeartbeats 4000000 in
theorem t_X4_tell (l : Launch) (σ : zS) {p2 : Int32} {numbers_size : Int32} {letters_fences : Int32} {letters_fears : (Nat → Int32)} {letters_tenths : (Nat → Int32)} {letters_least : (Nat → Int32)} {letters_spans : (Nat → Int32)} {numbers_told : (Nat → Int64)} {w_numbers_size : Int32} {w_numbers_told : (Nat → Int64)} (h : f_X4_tell p2 numbers_size letters_fences letters_fears letters_tenths letters_least letters_spans numbers_told = some (w_numbers_size, w_numbers_told)) : zMt l zW 2 mX4_tell σ ([(193, numbers_size), (2180, letters_fences)], [(35, letters_fears), (36, letters_tenths), (37, letters_least), (38, letters_spans)], [(4, numbers_told)]) [.ref 34, .ref 3, .int p2] none ([(193, w_numbers_size), (2180, letters_fences)], [(35, letters_fears), (36, letters_tenths), (37, letters_least), (38, letters_spans)], [(4, w_numbers_told)]) := by
  refine zMt_of (ls := [(0, .ref 34), (1, .ref 3), (2, .int p2)]) (by decide) rfl (fun _ => Nat.le_of_ble_eq_true rfl) rfl ?_
  unfold f_X4_tell at h
  refine zJ_iload_n dX4_tell_0 rfl rfl ?_
  refine zJ_istore_n (ls' := [(3, .int p2), (0, .ref 34), (1, .ref 3), (2, .int p2)]) dX4_tell_1 rfl rfl rfl ?_
  refine zJ_aload_n dX4_tell_2 rfl rfl ?_
  refine zJ_iload_n dX4_tell_3 rfl rfl ?_
  obtain ⟨rn1, hcl, h⟩ := bd1_some h
  refine zJ_callV (mi := mX4_tell) (yi := mX4_fearWith) (as := [.int p2]) (st := []) (L2 := ([(193, numbers_size), (2180, letters_fences)], [(35, letters_fears), (36, letters_tenths), (37, letters_least), (38, letters_spans)], [(4, numbers_told)])) dX4_tell_4 ML_X4_58 Yv_X4_fearWith rfl zW_34 rfl rfl (t_X4_fearWith l _ hcl) (zsub_i (zle_c rfl zle_n) (zle_c rfl (zle_c rfl zle_n)) zle_n) rfl (Nat.le_of_ble_eq_true rfl) (Nat.le_of_ble_eq_true rfl) rfl rfl ?_
  refine zJ_istore (ls' := [(4, .int rn1), (3, .int p2), (0, .ref 34), (1, .ref 3), (2, .int p2)]) dX4_tell_7 rfl rfl rfl ?_
  refine zJ_iconst dX4_tell_9 zc_0 rfl ?_
  refine zJ_istore (ls' := [(5, .int (0 : Int32)), (4, .int rn1), (3, .int p2), (0, .ref 34), (1, .ref 3), (2, .int p2)]) dX4_tell_10 rfl rfl rfl ?_
  have hk12 : ∀ (numbers_size_12x : Int32) (numbers_told_12x : (Nat → Int64)), k_X4_tell_12  numbers_size_12x numbers_told_12x = some (w_numbers_size, w_numbers_told) → zJ l zW 2 mX4_tell σ ([(193, numbers_size_12x), (2180, letters_fences)], [(35, letters_fears), (36, letters_tenths), (37, letters_least), (38, letters_spans)], [(4, numbers_told_12x)]) 79 [] [] none ([(193, w_numbers_size), (2180, letters_fences)], [(35, letters_fears), (36, letters_tenths), (37, letters_least), (38, letters_spans)], [(4, w_numbers_told)]) := by
    intro numbers_size_12x numbers_told_12x h
    unfold k_X4_tell_12 at h
    obtain ⟨rfl, rfl⟩ := so2 h
    exact zJ_vret dX4_tell_79 rfl
  refine zJ_loc (ls' := [(0, .ref 34), (1, .ref 3), (3, .int p2), (4, .int rn1), (5, .int (0 : Int32))]) (zll_c rfl (zll_c rfl (zll_c rfl (zll_c rfl (zll_c rfl zll_n))))) ?_
  refine ml5_J (fun (v3_12 : Int32) (v4_12 : Int32) (v5_12 : Int32) (numbers_size_12 : Int32) (numbers_told_12 : (Nat → Int64)) => zJ l zW 2 mX4_tell σ ([(193, numbers_size_12), (2180, letters_fences)], [(35, letters_fears), (36, letters_tenths), (37, letters_least), (38, letters_spans)], [(4, numbers_told_12)]) 12 [(0, .ref 34), (1, .ref 3), (3, .int v3_12), (4, .int v4_12), (5, .int v5_12)] [] none ([(193, w_numbers_size), (2180, letters_fences)], [(35, letters_fears), (36, letters_tenths), (37, letters_least), (38, letters_spans)], [(4, w_numbers_told)])) (fun rc12 hrc12 v3_12 v4_12 v5_12 numbers_size_12 numbers_told_12 h => ?_) zN _ _ _ _ _ h
  unfold s_X4_tell_12 at h
  refine zJ_iload dX4_tell_12 rfl rfl ?_
  refine zJ_aload_n dX4_tell_14 rfl rfl ?_
  refine zJ_geti (mi := mX4_tell) (x := letters_fences) dX4_tell_15 F_X4_30 zW_34 rfl rfl rfl ?_
  refine zJ_icmp_ge (tgt := 79) dX4_tell_18 (by decide) rfl (fun hc => ?_) (fun hc => ?_)
  · replace h := it_t hc h
    refine zJ_loc (ls' := []) zll_n ?_
    exact hk12 _ _ h
  · replace h := it_f hc h
    refine zJ_aload_n dX4_tell_21 rfl rfl ?_
    refine zJ_iload dX4_tell_22 rfl rfl ?_
    refine zJ_iload_n dX4_tell_24 rfl rfl ?_
    refine zJ_iload dX4_tell_25 rfl rfl ?_
    obtain ⟨rn2, hcl, h⟩ := bd1_some h
    refine zJ_callV (mi := mX4_tell) (yi := mX4_firstLetter) (as := [.int v5_12, .int v3_12, .int v4_12]) (st := []) (L2 := ([(193, numbers_size_12), (2180, letters_fences)], [(35, letters_fears), (36, letters_tenths), (37, letters_least), (38, letters_spans)], [(4, numbers_told_12)])) dX4_tell_27 ML_X4_61 Yv_X4_firstLetter rfl zW_34 rfl rfl (t_X4_firstLetter l _ hcl) (zsub_i (zle_c rfl zle_n) (zle_c rfl (zle_c rfl (zle_c rfl (zle_c rfl zle_n)))) zle_n) rfl (Nat.le_of_ble_eq_true rfl) (Nat.le_of_ble_eq_true rfl) rfl rfl ?_
    refine zJ_istore (ls' := [(6, .int rn2), (0, .ref 34), (1, .ref 3), (3, .int v3_12), (4, .int v4_12), (5, .int v5_12)]) dX4_tell_30 rfl rfl rfl ?_
    refine zJ_aload_n dX4_tell_32 rfl rfl ?_
    refine zJ_iload dX4_tell_33 rfl rfl ?_
    refine zJ_i2l dX4_tell_35 rfl ?_
    obtain ⟨numbers_sizen3, numbers_toldn4, hcl, h⟩ := bd2_some h
    refine zJ_callV (mi := mX4_tell) (yi := mX6_put) (as := [.long rn2.toInt64]) (st := []) (L2 := ([(193, numbers_sizen3), (2180, letters_fences)], [(35, letters_fears), (36, letters_tenths), (37, letters_least), (38, letters_spans)], [(4, numbers_toldn4)])) dX4_tell_36 ML_X4_64 Yv_X6_put rfl zW_3 rfl rfl (t_X6_put l _ hcl) (zsub_i (zle_c rfl zle_n) zle_n (zle_c rfl zle_n)) rfl (Nat.le_of_ble_eq_true rfl) (Nat.le_of_ble_eq_true rfl) rfl rfl ?_
    refine zJ_iload_n dX4_tell_39 rfl rfl ?_
    refine zJ_aload_n dX4_tell_40 rfl rfl ?_
    refine zJ_getr (mi := mX4_tell) dX4_tell_41 F_X4_15 zW_34 rfl rfl ?_
    refine zJ_iload dX4_tell_44 rfl rfl ?_
    refine zJ_bipush dX4_tell_46 zb_8 rfl ?_
    refine zJ_imul dX4_tell_48 rfl ?_
    refine zJ_iload dX4_tell_49 rfl rfl ?_
    refine zJ_iadd dX4_tell_51 rfl ?_
    obtain ⟨hg, h⟩ := gd_some h
    refine zJ_iald (mi := mX4_tell) (f := letters_tenths) dX4_tell_52 zW_36 (ix_in hg) rfl rfl ?_
    refine zJ_isub dX4_tell_53 rfl ?_
    obtain ⟨v3n5, ev3n5, h⟩ := lt1_some h
    refine zJ_nmi ev3n5 ?_
    refine zJ_istore_n (ls' := [(3, .int v3n5), (6, .int rn2), (0, .ref 34), (1, .ref 3), (4, .int v4_12), (5, .int v5_12)]) dX4_tell_54 rfl rfl rfl ?_
    refine zJ_iload dX4_tell_55 rfl rfl ?_
    refine zJ_aload_n dX4_tell_57 rfl rfl ?_
    refine zJ_getr (mi := mX4_tell) dX4_tell_58 F_X4_11 zW_34 rfl rfl ?_
    refine zJ_iload dX4_tell_61 rfl rfl ?_
    refine zJ_bipush dX4_tell_63 zb_8 rfl ?_
    refine zJ_imul dX4_tell_65 rfl ?_
    refine zJ_iload dX4_tell_66 rfl rfl ?_
    refine zJ_iadd dX4_tell_68 rfl ?_
    obtain ⟨hg, h⟩ := gd_some h
    refine zJ_iald (mi := mX4_tell) (f := letters_fears) dX4_tell_69 zW_35 (ix_in hg) rfl rfl ?_
    refine zJ_isub dX4_tell_70 rfl ?_
    obtain ⟨v4n6, ev4n6, h⟩ := lt1_some h
    refine zJ_nmi ev4n6 ?_
    refine zJ_istore (ls' := [(4, .int v4n6), (3, .int v3n5), (6, .int rn2), (0, .ref 34), (1, .ref 3), (5, .int v5_12)]) dX4_tell_71 rfl rfl rfl ?_
    obtain ⟨v5n7, ev5n7, h⟩ := lt1_some h
    refine zJ_iincN (ls' := [(5, .int v5n7), (4, .int v4n6), (3, .int v3n5), (6, .int rn2), (0, .ref 34), (1, .ref 3)]) dX4_tell_73 rfl rfl zc_1 ev5n7 rfl rfl ?_
    refine zJ_goto (tgt := 12) dX4_tell_76 (by decide) ?_
    refine zJ_loc (ls' := [(0, .ref 34), (1, .ref 3), (3, .int v3n5), (4, .int v4n6), (5, .int v5n7)]) (zll_c rfl (zll_c rfl (zll_c rfl (zll_c rfl (zll_c rfl zll_n))))) ?_
    exact hrc12 _ _ _ _ _ h
set_option maxRecDepth 100000 in
set_option maxHeartbeats 4000000 in
theorem t_X11_leastFear (l : Launch) (σ : zS) {p1 : Int32} {p2 : Int32} {numbers_size : Int32} {course_fences : Int32} {course_rule_size : Int32} {letters_fences : Int32} {course_kinds : (Nat → Int32)} {course_heights : (Nat → Int32)} {course_feet : (Nat → Int32)} {course_digits : (Nat → Int32)} {rule_codes : (Nat → Int32)} {rule_stack : (Nat → Int32)} {rule_things : (Nat → Int32)} {letters_fears : (Nat → Int32)} {letters_tenths : (Nat → Int32)} {letters_least : (Nat → Int32)} {letters_spans : (Nat → Int32)} {numbers_told : (Nat → Int64)} {r : Int32} {w_numbers_size : Int32} {w_letters_fences : Int32} {w_rule_stack : (Nat → Int32)} {w_rule_things : (Nat → Int32)} {w_letters_fears : (Nat → Int32)} {w_letters_tenths : (Nat → Int32)} {w_letters_least : (Nat → Int32)} {w_letters_spans : (Nat → Int32)} {w_numbers_told : (Nat → Int64)} (h : f_X11_leastFear p1 p2 numbers_size course_fences course_rule_size letters_fences course_kinds course_heights course_feet course_digits rule_codes rule_stack rule_things letters_fears letters_tenths letters_least letters_spans numbers_told = some (r, w_numbers_size, w_letters_fences, w_rule_stack, w_rule_things, w_letters_fears, w_letters_tenths, w_letters_least, w_letters_spans, w_numbers_told)) : zMt l zW 5 mX11_leastFear σ ([(193, numbers_size), (323, course_fences), (769, course_rule_size), (2180, letters_fences)], [(6, course_kinds), (7, course_heights), (8, course_feet), (10, course_digits), (13, rule_codes), (15, rule_stack), (16, rule_things), (35, letters_fears), (36, letters_tenths), (37, letters_least), (38, letters_spans)], [(4, numbers_told)]) [.ref 0, .int p1, .int p2] (some (.int r)) ([(193, w_numbers_size), (323, course_fences), (769, course_rule_size), (2180, w_letters_fences)], [(6, course_kinds), (7, course_heights), (8, course_feet), (10, course_digits), (13, rule_codes), (15, w_rule_stack), (16, w_rule_things), (35, w_letters_fears), (36, w_letters_tenths), (37, w_letters_least), (38, w_letters_spans)], [(4, w_numbers_told)]) := by
  refine zMt_of (ls := [(0, .ref 0), (1, .int p1), (2, .int p2)]) (by decide) rfl (fun _ => Nat.le_of_ble_eq_true rfl) rfl ?_
  unfold f_X11_leastFear at h
  refine zJ_aload_n dX11_leastFear_0 rfl rfl ?_
  refine zJ_getr (mi := mX11_leastFear) dX11_leastFear_1 F_X11_59 zW_0 rfl rfl ?_
  refine zJ_aload_n dX11_leastFear_4 rfl rfl ?_
  refine zJ_getr (mi := mX11_leastFear) dX11_leastFear_5 F_X11_26 zW_0 rfl rfl ?_
  refine zJ_iload_n dX11_leastFear_8 rfl rfl ?_
  obtain ⟨letters_fencesn1, rule_stackn2, rule_thingsn3, letters_fearsn4, letters_tenthsn5, letters_leastn6, letters_spansn7, hcl, h⟩ := bd7_some h
  refine zJ_callV (mi := mX11_leastFear) (yi := mX4_lay) (as := [.ref 5, .int p1]) (st := []) (L2 := ([(193, numbers_size), (323, course_fences), (769, course_rule_size), (2180, letters_fencesn1)], [(6, course_kinds), (7, course_heights), (8, course_feet), (10, course_digits), (13, rule_codes), (15, rule_stackn2), (16, rule_thingsn3), (35, letters_fearsn4), (36, letters_tenthsn5), (37, letters_leastn6), (38, letters_spansn7)], [(4, numbers_told)])) dX11_leastFear_9 ML_X11_219 Yv_X4_lay rfl zW_34 rfl rfl (t_X4_lay l _ hcl) (zsub_i (zle_c rfl (zle_c rfl (zle_c rfl zle_n))) (zle_c rfl (zle_c rfl (zle_c rfl (zle_c rfl (zle_c rfl (zle_c rfl (zle_c rfl (zle_c rfl (zle_c rfl (zle_c rfl (zle_c rfl zle_n))))))))))) zle_n) rfl (Nat.le_of_ble_eq_true rfl) (Nat.le_of_ble_eq_true rfl) rfl rfl ?_
  refine zJ_aload_n dX11_leastFear_12 rfl rfl ?_
  refine zJ_getr (mi := mX11_leastFear) dX11_leastFear_13 F_X11_59 zW_0 rfl rfl ?_
  refine zJ_iload_n dX11_leastFear_16 rfl rfl ?_
  obtain ⟨rn8, hcl, h⟩ := bd1_some h
  refine zJ_callV (mi := mX11_leastFear) (yi := mX4_calmestTenths) (as := [.int p2]) (st := []) (L2 := ([(193, numbers_size), (323, course_fences), (769, course_rule_size), (2180, letters_fencesn1)], [(6, course_kinds), (7, course_heights), (8, course_feet), (10, course_digits), (13, rule_codes), (15, rule_stackn2), (16, rule_thingsn3), (35, letters_fearsn4), (36, letters_tenthsn5), (37, letters_leastn6), (38, letters_spansn7)], [(4, numbers_told)])) dX11_leastFear_17 ML_X11_233 Yv_X4_calmestTenths rfl zW_34 rfl rfl (t_X4_calmestTenths l _ hcl) (zsub_i (zle_c rfl zle_n) (zle_c rfl (zle_c rfl zle_n)) zle_n) rfl (Nat.le_of_ble_eq_true rfl) (Nat.le_of_ble_eq_true rfl) rfl rfl ?_
  refine zJ_istore_n (ls' := [(3, .int rn8), (0, .ref 0), (1, .int p1), (2, .int p2)]) dX11_leastFear_20 rfl rfl rfl ?_
  refine zJ_iload_n dX11_leastFear_21 rfl rfl ?_
  refine zJ_iconst dX11_leastFear_22 zc_m1 rfl ?_
  refine zJ_icmp_ne (tgt := 29) dX11_leastFear_23 (by decide) rfl (fun hc => ?_) (fun hc => ?_)
  · replace h := it_f hc h
    refine zJ_aload_n dX11_leastFear_29 rfl rfl ?_
    refine zJ_getr (mi := mX11_leastFear) dX11_leastFear_30 F_X11_19 zW_0 rfl rfl ?_
    obtain ⟨numbers_sizen9, hcl, h⟩ := bd1_some h
    refine zJ_callV (mi := mX11_leastFear) (yi := mX6_start) (as := []) (st := []) (L2 := ([(193, numbers_sizen9), (323, course_fences), (769, course_rule_size), (2180, letters_fencesn1)], [(6, course_kinds), (7, course_heights), (8, course_feet), (10, course_digits), (13, rule_codes), (15, rule_stackn2), (16, rule_thingsn3), (35, letters_fearsn4), (36, letters_tenthsn5), (37, letters_leastn6), (38, letters_spansn7)], [(4, numbers_told)])) dX11_leastFear_33 ML_X11_171 Yv_X6_start rfl zW_3 rfl rfl (t_X6_start l _ hcl) (zsub_i (zle_c rfl zle_n) zle_n zle_n) rfl (Nat.le_of_ble_eq_true rfl) (Nat.le_of_ble_eq_true rfl) rfl rfl ?_
    refine zJ_aload_n dX11_leastFear_36 rfl rfl ?_
    refine zJ_getr (mi := mX11_leastFear) dX11_leastFear_37 F_X11_19 zW_0 rfl rfl ?_
    refine zJ_iload_n dX11_leastFear_40 rfl rfl ?_
    refine zJ_i2l dX11_leastFear_41 rfl ?_
    obtain ⟨numbers_sizen10, numbers_toldn11, hcl, h⟩ := bd2_some h
    refine zJ_callV (mi := mX11_leastFear) (yi := mX6_put) (as := [.long rn8.toInt64]) (st := []) (L2 := ([(193, numbers_sizen10), (323, course_fences), (769, course_rule_size), (2180, letters_fencesn1)], [(6, course_kinds), (7, course_heights), (8, course_feet), (10, course_digits), (13, rule_codes), (15, rule_stackn2), (16, rule_thingsn3), (35, letters_fearsn4), (36, letters_tenthsn5), (37, letters_leastn6), (38, letters_spansn7)], [(4, numbers_toldn11)])) dX11_leastFear_42 ML_X11_177 Yv_X6_put rfl zW_3 rfl rfl (t_X6_put l _ hcl) (zsub_i (zle_c rfl zle_n) zle_n (zle_c rfl zle_n)) rfl (Nat.le_of_ble_eq_true rfl) (Nat.le_of_ble_eq_true rfl) rfl rfl ?_
    refine zJ_aload_n dX11_leastFear_45 rfl rfl ?_
    refine zJ_getr (mi := mX11_leastFear) dX11_leastFear_46 F_X11_59 zW_0 rfl rfl ?_
    refine zJ_aload_n dX11_leastFear_49 rfl rfl ?_
    refine zJ_getr (mi := mX11_leastFear) dX11_leastFear_50 F_X11_19 zW_0 rfl rfl ?_
    refine zJ_iload_n dX11_leastFear_53 rfl rfl ?_
    obtain ⟨numbers_sizen12, numbers_toldn13, hcl, h⟩ := bd2_some h
    refine zJ_callV (mi := mX11_leastFear) (yi := mX4_tell) (as := [.ref 3, .int rn8]) (st := []) (L2 := ([(193, numbers_sizen12), (323, course_fences), (769, course_rule_size), (2180, letters_fencesn1)], [(6, course_kinds), (7, course_heights), (8, course_feet), (10, course_digits), (13, rule_codes), (15, rule_stackn2), (16, rule_thingsn3), (35, letters_fearsn4), (36, letters_tenthsn5), (37, letters_leastn6), (38, letters_spansn7)], [(4, numbers_toldn13)])) dX11_leastFear_54 ML_X11_229 Yv_X4_tell rfl zW_34 rfl rfl (t_X4_tell l _ hcl) (zsub_i (zle_c rfl (zle_c rfl zle_n)) (zle_c rfl (zle_c rfl (zle_c rfl (zle_c rfl zle_n)))) (zle_c rfl zle_n)) rfl (Nat.le_of_ble_eq_true rfl) (Nat.le_of_ble_eq_true rfl) rfl rfl ?_
    refine zJ_aload_n dX11_leastFear_57 rfl rfl ?_
    refine zJ_getr (mi := mX11_leastFear) dX11_leastFear_58 F_X11_59 zW_0 rfl rfl ?_
    refine zJ_iload_n dX11_leastFear_61 rfl rfl ?_
    obtain ⟨rn14, hcl, h⟩ := bd1_some h
    refine zJ_callV (mi := mX11_leastFear) (yi := mX4_fearWith) (as := [.int rn8]) (st := []) (L2 := ([(193, numbers_sizen12), (323, course_fences), (769, course_rule_size), (2180, letters_fencesn1)], [(6, course_kinds), (7, course_heights), (8, course_feet), (10, course_digits), (13, rule_codes), (15, rule_stackn2), (16, rule_thingsn3), (35, letters_fearsn4), (36, letters_tenthsn5), (37, letters_leastn6), (38, letters_spansn7)], [(4, numbers_toldn13)])) dX11_leastFear_62 ML_X11_226 Yv_X4_fearWith rfl zW_34 rfl rfl (t_X4_fearWith l _ hcl) (zsub_i (zle_c rfl zle_n) (zle_c rfl (zle_c rfl zle_n)) zle_n) rfl (Nat.le_of_ble_eq_true rfl) (Nat.le_of_ble_eq_true rfl) rfl rfl ?_
    obtain ⟨rfl, rfl, rfl, rfl, rfl, rfl, rfl, rfl, rfl, rfl⟩ := so10 h
    exact zJ_iret dX11_leastFear_65 rfl rfl
  · replace h := it_t hc h
    refine zJ_bipush dX11_leastFear_26 zb_m2 rfl ?_
    obtain ⟨rfl, rfl, rfl, rfl, rfl, rfl, rfl, rfl, rfl, rfl⟩ := so10 h
    exact zJ_iret dX11_leastFear_28 rfl rfl
set_option maxRecDepth 100000 in
set_option maxHeartbeats 4000000 in
theorem t_X11_curve (l : Launch) (σ : zS) {p1 : Int32} {p2 : Int32} {numbers_size : Int32} {course_fences : Int32} {course_horseCount : Int32} {course_rule_size : Int32} {letters_fences : Int32} {course_kinds : (Nat → Int32)} {course_heights : (Nat → Int32)} {course_feet : (Nat → Int32)} {course_digits : (Nat → Int32)} {rule_codes : (Nat → Int32)} {rule_stack : (Nat → Int32)} {rule_things : (Nat → Int32)} {letters_fears : (Nat → Int32)} {letters_tenths : (Nat → Int32)} {letters_least : (Nat → Int32)} {letters_spans : (Nat → Int32)} {numbers_told : (Nat → Int64)} {r : Int32} {w_numbers_size : Int32} {w_letters_fences : Int32} {w_rule_stack : (Nat → Int32)} {w_rule_things : (Nat → Int32)} {w_letters_fears : (Nat → Int32)} {w_letters_tenths : (Nat → Int32)} {w_letters_least : (Nat → Int32)} {w_letters_spans : (Nat → Int32)} {w_numbers_told : (Nat → Int64)} (h : f_X11_curve p1 p2 numbers_size course_fences course_horseCount course_rule_size letters_fences course_kinds course_heights course_feet course_digits rule_codes rule_stack rule_things letters_fears letters_tenths letters_least letters_spans numbers_told = some (r, w_numbers_size, w_letters_fences, w_rule_stack, w_rule_things, w_letters_fears, w_letters_tenths, w_letters_least, w_letters_spans, w_numbers_told)) : zMt l zW 6 mX11_curve σ ([(193, numbers_size), (323, course_fences), (326, course_horseCount), (769, course_rule_size), (2180, letters_fences)], [(6, course_kinds), (7, course_heights), (8, course_feet), (10, course_digits), (13, rule_codes), (15, rule_stack), (16, rule_things), (35, letters_fears), (36, letters_tenths), (37, letters_least), (38, letters_spans)], [(4, numbers_told)]) [.ref 0, .int p1, .int p2] (some (.int r)) ([(193, w_numbers_size), (323, course_fences), (326, course_horseCount), (769, course_rule_size), (2180, w_letters_fences)], [(6, course_kinds), (7, course_heights), (8, course_feet), (10, course_digits), (13, rule_codes), (15, w_rule_stack), (16, w_rule_things), (35, w_letters_fears), (36, w_letters_tenths), (37, w_letters_least), (38, w_letters_spans)], [(4, w_numbers_told)]) := by
  refine zMt_of (ls := [(0, .ref 0), (1, .int p1), (2, .int p2)]) (by decide) rfl (fun _ => Nat.le_of_ble_eq_true rfl) rfl ?_
  unfold f_X11_curve at h
  refine zJ_aload_n dX11_curve_0 rfl rfl ?_
  refine zJ_getr (mi := mX11_curve) dX11_curve_1 F_X11_26 zW_0 rfl rfl ?_
  refine zJ_iload_n dX11_curve_4 rfl rfl ?_
  obtain ⟨rn1, hcl, h⟩ := bd1_some h
  refine zJ_callV (mi := mX11_curve) (yi := mX1_hasHorse) (as := [.int p1]) (st := []) (L2 := ([(193, numbers_size), (323, course_fences), (326, course_horseCount), (769, course_rule_size), (2180, letters_fences)], [(6, course_kinds), (7, course_heights), (8, course_feet), (10, course_digits), (13, rule_codes), (15, rule_stack), (16, rule_things), (35, letters_fears), (36, letters_tenths), (37, letters_least), (38, letters_spans)], [(4, numbers_told)])) dX11_curve_5 ML_X11_147 Yv_X1_hasHorse rfl zW_5 rfl rfl (t_X1_hasHorse l _ hcl) (zsub_i (zle_c rfl zle_n) zle_n zle_n) rfl (Nat.le_of_ble_eq_true rfl) (Nat.le_of_ble_eq_true rfl) rfl rfl ?_
  refine zJ_if_eq (tgt := 22) dX11_curve_8 (by decide) rfl (fun hc => ?_) (fun hc => ?_)
  · replace h := it_t hc h
    refine zJ_iconst dX11_curve_22 zc_m1 rfl ?_
    obtain ⟨rfl, rfl, rfl, rfl, rfl, rfl, rfl, rfl, rfl, rfl⟩ := so10 h
    exact zJ_iret dX11_curve_23 rfl rfl
  · replace h := it_f hc h
    refine zJ_iload_n dX11_curve_11 rfl rfl ?_
    refine zJ_if_lt (tgt := 22) dX11_curve_12 (by decide) rfl (fun hc => ?_) (fun hc => ?_)
    · replace h := it_t hc h
      refine zJ_iconst dX11_curve_22 zc_m1 rfl ?_
      obtain ⟨rfl, rfl, rfl, rfl, rfl, rfl, rfl, rfl, rfl, rfl⟩ := so10 h
      exact zJ_iret dX11_curve_23 rfl rfl
    · replace h := it_f hc h
      refine zJ_iload_n dX11_curve_15 rfl rfl ?_
      refine zJ_sipush dX11_curve_16 zs_9999 rfl ?_
      refine zJ_icmp_le (tgt := 24) dX11_curve_19 (by decide) rfl (fun hc => ?_) (fun hc => ?_)
      · replace h := it_t hc h
        refine zJ_aload_n dX11_curve_24 rfl rfl ?_
        refine zJ_iload_n dX11_curve_25 rfl rfl ?_
        refine zJ_iload_n dX11_curve_26 rfl rfl ?_
        obtain ⟨rn2, numbers_sizen3, letters_fencesn4, rule_stackn5, rule_thingsn6, letters_fearsn7, letters_tenthsn8, letters_leastn9, letters_spansn10, numbers_toldn11, hcl, h⟩ := bd10_some h
        refine zJ_callV (mi := mX11_curve) (yi := mX11_leastFear) (as := [.int p1, .int p2]) (st := []) (L2 := ([(193, numbers_sizen3), (323, course_fences), (326, course_horseCount), (769, course_rule_size), (2180, letters_fencesn4)], [(6, course_kinds), (7, course_heights), (8, course_feet), (10, course_digits), (13, rule_codes), (15, rule_stackn5), (16, rule_thingsn6), (35, letters_fearsn7), (36, letters_tenthsn8), (37, letters_leastn9), (38, letters_spansn10)], [(4, numbers_toldn11)])) dX11_curve_27 ML_X11_216 Yv_X11_leastFear rfl zW_0 rfl rfl (t_X11_leastFear l _ hcl) (zsub_i (zle_c rfl (zle_c rfl (zle_c rfl (zle_c rfl zle_n)))) (zle_c rfl (zle_c rfl (zle_c rfl (zle_c rfl (zle_c rfl (zle_c rfl (zle_c rfl (zle_c rfl (zle_c rfl (zle_c rfl (zle_c rfl zle_n))))))))))) (zle_c rfl zle_n)) rfl (Nat.le_of_ble_eq_true rfl) (Nat.le_of_ble_eq_true rfl) rfl rfl ?_
        obtain ⟨rfl, rfl, rfl, rfl, rfl, rfl, rfl, rfl, rfl, rfl⟩ := so10 h
        exact zJ_iret dX11_curve_30 rfl rfl
      · replace h := it_f hc h
        refine zJ_iconst dX11_curve_22 zc_m1 rfl ?_
        obtain ⟨rfl, rfl, rfl, rfl, rfl, rfl, rfl, rfl, rfl, rfl⟩ := so10 h
        exact zJ_iret dX11_curve_23 rfl rfl
