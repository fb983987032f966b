/-! THE ABSTRACT MACHINE: String.indexOf on the constants -/
section
variable {l : Launch} {V : List zSh} {d : Nat} {mi : zM} {σ : zS} {L M : zL} {pc pc' tgt : Nat} {off : Int} {ls : List (Nat × Value)} {st : List Value} {r : Option Value}
theorem zJ_callK {idx d' n b i : Nat} {yi : zM} {as : List Value} {rv : Option Value} {lc m L2 : zL}
    (hd : decode mi.2.2.1 pc = .ok (.invokevirtual idx, 3)) (hl : zml mi.1 idx yi.2.1) (hy : zyV yi n) (hn : as.length = n) (hi : i < 6) (hbi : 88 + i = b) (hC9 : yi.2.1.cls = "java/lang/String")
    (hM : zMt l V d' yi (zap σ L) lc (.ref b :: as) rv m) (hsub : zsub σ L lc) (hj : zjoin m L = L2) (hdd : d' + 1 ≤ d) (hst : (st.map fun v => v.category).sum ≤ 8) {st0 : List Value} (hst0 : st0 = as.reverse ++ .ref b :: st) (hp : pc + 3 = pc')
    (kk : zJ l V d mi σ L2 pc' ls (rv.toList ++ st) r M) : zJ l V d mi σ L pc ls st0 r M := by
  subst hp; subst hj; subst hst0
  intro p e R s m0 args below meth cc D cy ad A H locs la hC hP hS hla
  obtain ⟨y1, y2, y3, y4, y5, y6⟩ := hy
  have hts := hC.2.2.2.2.2.1
  have hR := hC.2.2.2.2.2.2.2.1
  have hK := hC.2.2.2.2.2.2.2.2.1
  have hA := hC.2.2.2.2.2.2.2.2.2.1
  have hAd := hC.2.2.2.2.2.2.2.2.2.2.1
  have hXx := hC.2.2.2.2.2.2.2.2.2.2.2
  have hMM := hM D cy ad H.size
  rw [zap_sub hsub, zap_join] at hMM
  have hstk : ((as.reverse ++ .ref b :: st).map (zcv ad)) = (as.map (zcv ad)).reverse ++ .ref (ad b) :: st.map (zcv ad) := by
    rw [List.map_append, List.map_reverse]; rfl
  have hroom : 2 * (F0 m0 pc la ((as.reverse ++ .ref b :: st).map (zcv ad))).monitorRoom + ((st.map (zcv ad)).map fun v => v.category).sum ≤ 8 := by
    refine lv_room ?_
    rw [List.map_map]
    refine Nat.le_trans (Nat.le_of_eq ?_) hst
    congr 1
    apply List.map_congr_left
    intro v _
    exact zcv_cat ad v
  have hfr : d' + 1 ≤ R.frames := Nat.le_trans hdd hR.1
  have hlo : 8 + (yi.2.2.2.1 + 11) + d' * 64 ≤ R.locals := by
    have := hR.2
    have h64 : (d' + 1) * 64 ≤ d * 64 := Nat.mul_le_mul_right 64 hdd
    omega
  have hrec : ∃ cell : Cell, H[ad b]? = some cell ∧ cell.vm.isStatics = false ∧ s.vm.findClass yi.2.1.cls = some cell.cls := by
    rw [← hbi, hC9]
    exact vk_recv (adK := fun i => ad (88 + i)) hXx.1 hi hS
  have hsig : ∀ sig, parseMethodDescriptor yi.2.1.desc = some sig → n = sig.parameters.length := fun sig h => by
    have h2 := y5.2.2
    rw [h] at h2
    exact (Option.some.inj h2).symm
  have hfin : ∀ q, zA V.length ad H.size q → A q := by
    intro q h
    rcases h with ⟨k, hk, rfl⟩ | h
    · exact hAd.2 k hk
    · exact hA q (Nat.le_trans hS.1 h)
  have hpre : PreV s H yi.2.1.cls (ad b) (va_Pc ((Value.ref b :: as).map (zcv ad)) (fun U => U.heap.size = H.size ∧ va_P D zcl (zwd V cy ad (zap σ L)) U.heap ∧ va_K D zcl (ztys cy) U ∧ zAd V.length (fun _ => True) ad ∧ zKx ad (zA V.length ad H.size) U U.heap)) (as.map (zcv ad)) :=
    ⟨zblind, hrec, fun U hU hW => ⟨rfl, by rw [hU], by rw [hU]; exact hP, va_K.moved hW.alike hK, ⟨hAd.1, fun _ _ => trivial⟩, by rw [hU]; exact hXx.to hW hS.2.1 hfin⟩⟩
  have hgood := zTB_good hts y4
  have go : ∀ (hrun : va_Run p l e R s m0 args below meth cc H locs 0 0 0 0 (F0 m0 pc la ((as.reverse ++ .ref b :: st).map (zcv ad))) (st.map (zcv ad)) (zQ V D cy ad (zA V.length ad H.size) rv (zap σ (zjoin m L)) (Value.ref (ad b) :: as.map (zcv ad)).toArray) (zA V.length ad H.size)),
      W p l e R s m0 args below meth cc H locs 0 0 (MQ below (zQ V D cy ad A r (zap σ M)) args s 0 0 A) (F0 m0 pc la ((as.reverse ++ .ref b :: st).map (zcv ad))) := by
    intro hrun
    refine zcall hrun hS hfin (fun H1 locs1 q1 q3 => ?_)
    have := kk p e R s m0 args below meth cc D cy ad A H1 locs1 la hC q1 q3 hla
    rw [List.map_append] at this
    cases rv <;> exact this
  rcases hl with hl | ⟨host, hl⟩
  · refine go (va_runV (C := yi.2.1.cls) (Ts := zTB) (own := mi.1) ⟨hC.1, hC.2.1, hC.2.2.1, hC.2.2.2.2.1, hts⟩ hMM
      ⟨⟨rfl, rfl, hfr, hlo, hgood, List.mem_cons_self, hts _ y4, hts _ y3, ⟨y5.1, y5.2.1⟩, hsig, hts _ hl⟩, hts _ y1, hts _ y2⟩ hpre rfl (by rw [List.length_map]; exact hn) hla.1 hstk hroom hd ⟨Nat.zero_le _, Nat.zero_le _⟩)
  · refine go (va_runVN (C := yi.2.1.cls) (Ts := zTB) (own := mi.1) ⟨hC.1, hC.2.1, hC.2.2.1, hC.2.2.2.2.1, hts⟩ hMM
      ⟨⟨⟨rfl, rfl, hfr, hlo, hgood, List.mem_cons_self⟩, hts _ y4, hts _ y3, ⟨y5.1, y5.2.1⟩, hsig, va_Nw.use rfl (hXx.2.2.2 _ hl)⟩, hts _ y1, hts _ y2⟩ hpre rfl (by rw [List.length_map]; exact hn) hla.1 hstk hroom hd ⟨Nat.zero_le _, Nat.zero_le _⟩)
theorem zJ_kval {i idx q q' : Nat} (hd : decode mi.2.2.1 pc = .ok (.getfield idx, 3)) (hw : Cond.fieldLink mi.1 idx "java/lang/String" "value" "[B" ∈ zTB) (hi : i < 6) (hq : q = 88 + i) (hq' : q' = 94 + i) (hp : pc + 3 = pc') (kk : zJ l V d mi σ L pc' ls (.ref q' :: st) r M) : zJ l V d mi σ L pc ls (.ref q :: st) r M := by
  subst hp; subst hq; subst hq'
  intro p e R s m args below meth c D cy ad A H locs la hC hP hS hl
  exact vk_getf hC.1 hC.2.1 (hC.2.2.2.2.2.2.2.2.2.2.2.1.1 i hi).2.2.1 hS hC.2.2.2.2.1 (hC.2.2.2.2.2.1 _ hw) (fun x h => h) hd (kk p e R s m args below meth c D cy ad A H locs la hC hP hS hl)
theorem zJ_kcod {i idx q : Nat} (hd : decode mi.2.2.1 pc = .ok (.getfield idx, 3)) (hw : Cond.fieldLink mi.1 idx "java/lang/String" "coder" "B" ∈ zTB) (hi : i < 6) (hq : q = 88 + i) (hp : pc + 3 = pc') (kk : zJ l V d mi σ L pc' ls (.int 0 :: st) r M) : zJ l V d mi σ L pc ls (.ref q :: st) r M := by
  subst hp; subst hq
  intro p e R s m args below meth c D cy ad A H locs la hC hP hS hl
  exact vk_getf hC.1 hC.2.1 (hC.2.2.2.2.2.2.2.2.2.2.2.1.1 i hi).2.1 hS hC.2.2.2.2.1 (hC.2.2.2.2.2.1 _ hw) (fun x h => h) hd (kk p e R s m args below meth c D cy ad A H locs la hC hP hS hl)
theorem zJ_kst {idx : Nat} (hd : decode mi.2.2.1 pc = .ok (.getstatic idx, 3)) (hw : Cond.fieldLink mi.1 idx "java/lang/String" "COMPACT_STRINGS" "Z" ∈ zTB) (hp : pc + 3 = pc') (kk : zJ l V d mi σ L pc' ls (.int 1 :: st) r M) : zJ l V d mi σ L pc ls st r M := by
  subst hp
  intro p e R s m args below meth c D cy ad A H locs la hC hP hS hl
  exact va_gets hC.1 hC.2.1 hC.2.2.2.2.2.2.2.2.2.2.2.2.2.1 hS hC.2.2.2.2.1 (hC.2.2.2.2.2.1 _ hw) (fun x h => h) hd (kk p e R s m args below meth c D cy ad A H locs la hC hP hS hl)
theorem zJ_klen {i q : Nat} (hd : decode mi.2.2.1 pc = .ok (.arraylength, 1)) (hi : i < 6) (hq : q = 94 + i) (hp : pc + 1 = pc') (kk : zJ l V d mi σ L pc' ls (.int (nI (zkl.getD i 0)) :: st) r M) : zJ l V d mi σ L pc ls (.ref q :: st) r M := by
  subst hp; subst hq
  intro p e R s m args below meth c D cy ad A H locs la hC hP hS hl
  exact va_tlen hC.1 hC.2.1 (hC.2.2.2.2.2.2.2.2.2.2.2.1.1 i hi).2.2.2 hS rfl hd (kk p e R s m args below meth c D cy ad A H locs la hC hP hS hl)
theorem zJ_kbl {i q : Nat} {j : Int32} (hd : decode mi.2.2.1 pc = .ok (.baload, 1)) (hi : i < 6) (hq : q = 94 + i) (hj : vp_in j (zkl.getD i 0)) (hp : pc + 1 = pc') (kk : zJ l V d mi σ L pc' ls (.int ((zkb.getD i []).getD j.toNatClampNeg 0) :: st) r M) : zJ l V d mi σ L pc ls (.int j :: .ref q :: st) r M := by
  subst hp; subst hq
  intro p e R s m args below meth c D cy ad A H locs la hC hP hS hl
  exact va_tb hC.1 hC.2.1 (hC.2.2.2.2.2.2.2.2.2.2.2.1.1 i hi).2.2.2 hS hj rfl hd (kk p e R s m args below meth c D cy ad A H locs la hC hP hS hl)
end
def mJ0_indexOf_0f7a4 : zM := (RJ0, yJ0_indexOf_0f7a4, cJ0_indexOf_0f7a4, 2, some .int)
theorem Yv_J0_indexOf_0f7a4 : zyV mJ0_indexOf_0f7a4 1 := ⟨(zTB_2 (i := 202) (by decide +kernel) rfl), (zTB_2 (i := 203) (by decide +kernel) rfl), (zTB_1 (i := 16) (by decide +kernel) rfl), (zTB_2 (i := 204) (by decide +kernel) rfl), ⟨by decide, by decide, by decide⟩, by decide⟩
def mJ0_indexOf_7cf53 : zM := (RJ0, yJ0_indexOf_7cf53, cJ0_indexOf_7cf53, 3, some .int)
theorem Yv_J0_indexOf_7cf53 : zyV mJ0_indexOf_7cf53 2 := ⟨(zTB_2 (i := 206) (by decide +kernel) rfl), (zTB_2 (i := 207) (by decide +kernel) rfl), (zTB_1 (i := 16) (by decide +kernel) rfl), (zTB_2 (i := 208) (by decide +kernel) rfl), ⟨by decide, by decide, by decide⟩, by decide⟩
def mJ0_isLatin1_aae02 : zM := (RJ0, yJ0_isLatin1_aae02, cJ0_isLatin1_aae02, 1, some .boolean)
theorem Yv_J0_isLatin1_aae02 : zyV mJ0_isLatin1_aae02 0 := ⟨(zTB_2 (i := 210) (by decide +kernel) rfl), (zTB_2 (i := 211) (by decide +kernel) rfl), (zTB_1 (i := 16) (by decide +kernel) rfl), (zTB_2 (i := 212) (by decide +kernel) rfl), ⟨by decide, by decide, by decide⟩, by decide⟩
def mJ0_length_8abf5 : zM := (RJ0, yJ0_length_8abf5, cJ0_length_8abf5, 1, some .int)
theorem Yv_J0_length_8abf5 : zyV mJ0_length_8abf5 0 := ⟨(zTB_2 (i := 216) (by decide +kernel) rfl), (zTB_2 (i := 217) (by decide +kernel) rfl), (zTB_1 (i := 16) (by decide +kernel) rfl), (zTB_2 (i := 218) (by decide +kernel) rfl), ⟨by decide, by decide, by decide⟩, by decide⟩
def mJ0_coder_7d493 : zM := (RJ0, yJ0_coder_7d493, cJ0_coder_7d493, 1, some .byte)
theorem Yv_J0_coder_7d493 : zyV mJ0_coder_7d493 0 := ⟨(zTB_2 (i := 220) (by decide +kernel) rfl), (zTB_2 (i := 221) (by decide +kernel) rfl), (zTB_1 (i := 16) (by decide +kernel) rfl), (zTB_2 (i := 222) (by decide +kernel) rfl), ⟨by decide, by decide, by decide⟩, by decide⟩
def mJ1_indexOf_4cfef : zM := (RJ1, yJ1_indexOf_4cfef, cJ1_indexOf_4cfef, 4, some .int)
theorem Ys_J1_indexOf_4cfef : zyS mJ1_indexOf_4cfef 4 := ⟨(zTB_2 (i := 224) (by decide +kernel) rfl), (zTB_1 (i := 17) (by decide +kernel) rfl), (zTB_2 (i := 225) (by decide +kernel) rfl), ⟨by decide, by decide, by decide⟩, by decide⟩
def mJ1_canEncode_9a6ad : zM := (RJ1, yJ1_canEncode_9a6ad, cJ1_canEncode_9a6ad, 1, some .boolean)
theorem Ys_J1_canEncode_9a6ad : zyS mJ1_canEncode_9a6ad 1 := ⟨(zTB_2 (i := 227) (by decide +kernel) rfl), (zTB_1 (i := 17) (by decide +kernel) rfl), (zTB_2 (i := 228) (by decide +kernel) rfl), ⟨by decide, by decide, by decide⟩, by decide⟩
def mJ1_indexOfChar_4cfef : zM := (RJ1, yJ1_indexOfChar_4cfef, cJ1_indexOfChar_4cfef, 6, some .int)
theorem Ys_J1_indexOfChar_4cfef : zyS mJ1_indexOfChar_4cfef 4 := ⟨(zTB_2 (i := 232) (by decide +kernel) rfl), (zTB_1 (i := 17) (by decide +kernel) rfl), (zTB_2 (i := 233) (by decide +kernel) rfl), ⟨by decide, by decide, by decide⟩, by decide⟩
theorem ML_J0_633 : zml RJ0 633 yJ0_indexOf_7cf53 := Or.inl (zTB_2 (i := 205) (by decide +kernel) rfl)
theorem ML_J0_492 : zml RJ0 492 yJ0_isLatin1_aae02 := Or.inl (zTB_2 (i := 209) (by decide +kernel) rfl)
theorem ML_J0_505 : zml RJ0 505 yJ0_length_8abf5 := Or.inl (zTB_2 (i := 215) (by decide +kernel) rfl)
theorem ML_J0_335 : zml RJ0 335 yJ0_coder_7d493 := Or.inl (zTB_2 (i := 219) (by decide +kernel) rfl)
theorem ML_J0_637 : zml RJ0 637 yJ1_indexOf_4cfef := Or.inl (zTB_2 (i := 223) (by decide +kernel) rfl)
theorem ML_J1_88 : zml RJ1 88 yJ1_canEncode_9a6ad := Or.inl (zTB_2 (i := 226) (by decide +kernel) rfl)
theorem ML_J1_95 : zml RJ1 95 yJ1_indexOfChar_4cfef := Or.inl (zTB_2 (i := 231) (by decide +kernel) rfl)
theorem L_J1_92 : Cond.methodLink RJ1 92 Lib.Math.max.name ∈ zTB := (zTB_2 (i := 229) (by decide +kernel) rfl)
theorem L_J1_38 : Cond.methodLink RJ1 38 Lib.Math.min.name ∈ zTB := (zTB_2 (i := 230) (by decide +kernel) rfl)
theorem FK_v : Cond.fieldLink RJ0 9 "java/lang/String" "value" "[B" ∈ zTB := (zTB_9 (i := 13) (by decide +kernel) rfl)
theorem FK_c : Cond.fieldLink RJ0 15 "java/lang/String" "coder" "B" ∈ zTB := (zTB_9 (i := 12) (by decide +kernel) rfl)
theorem FK_s : Cond.fieldLink RJ0 38 "java/lang/String" "COMPACT_STRINGS" "Z" ∈ zTB := (zTB_2 (i := 213) (by decide +kernel) rfl)
def zE : zL := ([], [], [])
theorem zE_sub {σ : zS} {L : zL} : zsub σ L zE := zsub_i zle_n zle_n zle_n
theorem zE_join (L : zL) : zjoin zE L = L := rfl
theorem t_isLatin1 (l : Launch) (V : List zSh) (σ : zS) {i q : Nat} (hi : i < 6) (hq : q = 88 + i) : zMt l V 0 mJ0_isLatin1_aae02 σ zE [.ref q] (some (.int 1)) zE := by
  refine zMt_of (ls := [(0, .ref q)]) (by decide) rfl (fun _ => Nat.le_of_ble_eq_true rfl) rfl ?_
  refine zJ_kst dJ0_isLatin1_aae02_0 FK_s rfl ?_
  refine zJ_if_eq (tgt := 17) dJ0_isLatin1_aae02_3 (by decide) rfl (fun hc => absurd hc (by decide)) (fun hc => ?_)
  refine zJ_aload_n dJ0_isLatin1_aae02_6 rfl rfl ?_
  refine zJ_kcod dJ0_isLatin1_aae02_7 FK_c hi hq rfl ?_
  refine zJ_if_ne (tgt := 17) dJ0_isLatin1_aae02_10 (by decide) rfl (fun hc => absurd rfl hc) (fun hc => ?_)
  refine zJ_iconst dJ0_isLatin1_aae02_13 zc_1 rfl ?_
  refine zJ_goto (tgt := 18) dJ0_isLatin1_aae02_14 (by decide) ?_
  exact zJ_iret dJ0_isLatin1_aae02_18 rfl (by decide)
theorem t_coder (l : Launch) (V : List zSh) (σ : zS) {i q : Nat} (hi : i < 6) (hq : q = 88 + i) : zMt l V 0 mJ0_coder_7d493 σ zE [.ref q] (some (.int 0)) zE := by
  refine zMt_of (ls := [(0, .ref q)]) (by decide) rfl (fun _ => Nat.le_of_ble_eq_true rfl) rfl ?_
  refine zJ_kst dJ0_coder_7d493_0 FK_s rfl ?_
  refine zJ_if_eq (tgt := 13) dJ0_coder_7d493_3 (by decide) rfl (fun hc => absurd hc (by decide)) (fun hc => ?_)
  refine zJ_aload_n dJ0_coder_7d493_6 rfl rfl ?_
  refine zJ_kcod dJ0_coder_7d493_7 FK_c hi hq rfl ?_
  refine zJ_goto (tgt := 14) dJ0_coder_7d493_10 (by decide) ?_
  exact zJ_iret dJ0_coder_7d493_14 rfl (by decide)
theorem t_length (l : Launch) (V : List zSh) (σ : zS) {i q : Nat} (hi : i < 6) (hq : q = 88 + i) : zMt l V 1 mJ0_length_8abf5 σ zE [.ref q] (some (.int (nI (zkl.getD i 0) >>> ((0 : Int32) &&& 31)))) zE := by
  refine zMt_of (ls := [(0, .ref q)]) (by decide) rfl (fun _ => Nat.le_of_ble_eq_true rfl) rfl ?_
  refine zJ_aload_n dJ0_length_8abf5_0 rfl rfl ?_
  refine zJ_kval (q' := 94 + i) dJ0_length_8abf5_1 FK_v hi hq rfl rfl ?_
  refine zJ_klen dJ0_length_8abf5_4 hi rfl rfl ?_
  refine zJ_aload_n dJ0_length_8abf5_5 rfl rfl ?_
  refine zJ_callK (yi := mJ0_coder_7d493) (as := []) (st := [.int (nI (zkl.getD i 0))]) (L2 := zE) dJ0_length_8abf5_6 ML_J0_335 Yv_J0_coder_7d493 rfl hi hq.symm rfl (t_coder l V _ hi hq) zE_sub rfl (Nat.le_of_ble_eq_true rfl) (Nat.le_of_ble_eq_true rfl) rfl rfl ?_
  refine zJ_ishr dJ0_length_8abf5_9 rfl ?_
  exact zJ_iret dJ0_length_8abf5_10 rfl rfl
theorem t_canEncode (l : Launch) (V : List zSh) (σ : zS) (c : Int32) : zMt l V 0 mJ1_canEncode_9a6ad σ zE [.int c] (some (.int (cenc c))) zE := by
  refine zMt_of (ls := [(0, .int c)]) (by decide) rfl (fun _ => Nat.le_of_ble_eq_true rfl) rfl ?_
  refine zJ_iload_n dJ1_canEncode_9a6ad_0 rfl rfl ?_
  refine zJ_if_lt (tgt := 15) dJ1_canEncode_9a6ad_1 (by decide) rfl (fun hc => ?_) (fun hc => ?_)
  · rw [show cenc c = 0 from if_pos hc]
    refine zJ_iconst dJ1_canEncode_9a6ad_15 zc_0 rfl ?_
    exact zJ_iret dJ1_canEncode_9a6ad_16 rfl (by decide)
  · refine zJ_iload_n dJ1_canEncode_9a6ad_4 rfl rfl ?_
    refine zJ_sipush (v := 255) dJ1_canEncode_9a6ad_5 (by decide) rfl ?_
    refine zJ_icmp_gt (tgt := 15) dJ1_canEncode_9a6ad_8 (by decide) rfl (fun hc2 => ?_) (fun hc2 => ?_)
    · rw [show cenc c = 0 from (if_neg hc).trans (if_pos hc2)]
      refine zJ_iconst dJ1_canEncode_9a6ad_15 zc_0 rfl ?_
      exact zJ_iret dJ1_canEncode_9a6ad_16 rfl (by decide)
    · rw [show cenc c = 1 from (if_neg hc).trans (if_neg hc2)]
      refine zJ_iconst dJ1_canEncode_9a6ad_11 zc_1 rfl ?_
      refine zJ_goto (tgt := 16) dJ1_canEncode_9a6ad_12 (by decide) ?_
      exact zJ_iret dJ1_canEncode_9a6ad_16 rfl (by decide)
theorem t_indexOfChar (l : Launch) (V : List zSh) (σ : zS) {i q : Nat} (hi : i < 6) (hq : q = 94 + i) (c : Int32) : zMt l V 0 mJ1_indexOfChar_4cfef σ zE [.ref q, .int c, .int 0, .int (nI (zkl.getD i 0))] (some (.int (sfrom (zkb.getD i []) c.toInt8.toInt32 (zkl.getD i 0) 0))) zE := by
  have hlen : zkl.getD i 0 ≤ 8 := by
    have : ∀ j, j < 6 → zkl.getD j 0 ≤ 8 := by decide
    exact this i hi
  refine zMt_of (ls := [(0, .ref q), (1, .int c), (2, .int 0), (3, .int (nI (zkl.getD i 0)))]) (by decide) rfl (fun _ => Nat.le_of_ble_eq_true rfl) rfl ?_
  refine zJ_iload_n dJ1_indexOfChar_4cfef_0 rfl rfl ?_
  refine zJ_i2b dJ1_indexOfChar_4cfef_1 rfl ?_
  refine zJ_istore (ls' := [(4, .int c.toInt8.toInt32), (0, .ref q), (1, .int c), (2, .int 0), (3, .int (nI (zkl.getD i 0)))]) dJ1_indexOfChar_4cfef_2 rfl rfl rfl ?_
  refine zJ_iload_n dJ1_indexOfChar_4cfef_4 rfl rfl ?_
  refine zJ_istore (ls' := [(5, .int 0), (4, .int c.toInt8.toInt32), (0, .ref q), (1, .int c), (2, .int 0), (3, .int (nI (zkl.getD i 0)))]) dJ1_indexOfChar_4cfef_5 rfl rfl rfl ?_
  refine zJ_loc (ls' := [(0, .ref q), (3, .int (nI (zkl.getD i 0))), (4, .int c.toInt8.toInt32), (5, .int (nI 0))]) (zll_c rfl (zll_c rfl (zll_c rfl (zll_c rfl zll_n)))) ?_
  have key : ∀ (n k : Nat), k + n = zkl.getD i 0 → zJ l V 0 mJ1_indexOfChar_4cfef σ zE 7 [(0, .ref q), (3, .int (nI (zkl.getD i 0))), (4, .int c.toInt8.toInt32), (5, .int (nI k))] [] (some (.int (sfrom (zkb.getD i []) c.toInt8.toInt32 n k))) zE := by
    intro n
    induction n with
    | zero =>
      intro k hk
      refine zJ_iload dJ1_indexOfChar_4cfef_7 rfl rfl ?_
      refine zJ_iload_n dJ1_indexOfChar_4cfef_9 rfl rfl ?_
      refine zJ_icmp_ge (tgt := 31) dJ1_indexOfChar_4cfef_10 (by decide) rfl (fun hc => ?_) (fun hc => ?_)
      · refine zJ_iconst dJ1_indexOfChar_4cfef_31 zc_m1 rfl ?_
        exact zJ_iret dJ1_indexOfChar_4cfef_32 rfl rfl
      · exact absurd (nI_le (by omega) (by omega)) hc
    | succ n ih =>
      intro k hk
      refine zJ_iload dJ1_indexOfChar_4cfef_7 rfl rfl ?_
      refine zJ_iload_n dJ1_indexOfChar_4cfef_9 rfl rfl ?_
      refine zJ_icmp_ge (tgt := 31) dJ1_indexOfChar_4cfef_10 (by decide) rfl (fun hc => absurd hc (nI_ge (by omega) (by omega))) (fun hc => ?_)
      refine zJ_aload_n dJ1_indexOfChar_4cfef_13 rfl rfl ?_
      refine zJ_iload dJ1_indexOfChar_4cfef_14 rfl rfl ?_
      refine zJ_kbl dJ1_indexOfChar_4cfef_16 hi hq (vp_in_nI (by omega) (by omega)) rfl ?_
      refine zJ_iload dJ1_indexOfChar_4cfef_17 rfl rfl ?_
      have hcl : (nI k).toNatClampNeg = k := nI_clamp (by omega)
      rw [hcl]
      refine zJ_icmp_ne (tgt := 25) dJ1_indexOfChar_4cfef_19 (by decide) rfl (fun hc2 => ?_) (fun hc2 => ?_)
      · rw [show sfrom (zkb.getD i []) c.toInt8.toInt32 (n + 1) k = sfrom (zkb.getD i []) c.toInt8.toInt32 n (k + 1) from if_neg hc2]
        refine zJ_iincN (w := nI (k + 1)) (ls' := [(5, .int (nI (k + 1))), (0, .ref q), (3, .int (nI (zkl.getD i 0))), (4, .int c.toInt8.toInt32)]) dJ1_indexOfChar_4cfef_25 rfl rfl zc_1 (nI_1 k).symm rfl rfl ?_
        refine zJ_goto (tgt := 7) dJ1_indexOfChar_4cfef_28 (by decide) ?_
        refine zJ_loc (ls' := [(0, .ref q), (3, .int (nI (zkl.getD i 0))), (4, .int c.toInt8.toInt32), (5, .int (nI (k + 1)))]) (zll_c rfl (zll_c rfl (zll_c rfl (zll_c rfl zll_n)))) ?_
        exact ih (k + 1) (by omega)
      · rw [show sfrom (zkb.getD i []) c.toInt8.toInt32 (n + 1) k = nI k from if_pos hc2]
        refine zJ_iload dJ1_indexOfChar_4cfef_22 rfl rfl ?_
        exact zJ_iret dJ1_indexOfChar_4cfef_24 rfl rfl
  exact key _ 0 (Nat.zero_add _)
theorem t_L1indexOf (l : Launch) (V : List zSh) (σ : zS) {i q : Nat} (hi : i < 6) (hq : q = 94 + i) (c : Int32) : zMt l V 1 mJ1_indexOf_4cfef σ zE [.ref q, .int c, .int 0, .int (nI (zkl.getD i 0))] (some (.int (sL1 i c))) zE := by
  have hlen : 0 < zkl.getD i 0 ∧ zkl.getD i 0 ≤ 8 := by
    have : ∀ j, j < 6 → 0 < zkl.getD j 0 ∧ zkl.getD j 0 ≤ 8 := by decide
    exact this i hi
  refine zMt_of (ls := [(0, .ref q), (1, .int c), (2, .int 0), (3, .int (nI (zkl.getD i 0)))]) (by decide) rfl (fun _ => Nat.le_of_ble_eq_true rfl) rfl ?_
  refine zJ_iload_n dJ1_indexOf_4cfef_0 rfl rfl ?_
  refine zJ_callS (yi := mJ1_canEncode_9a6ad) (as := [.int c]) (st := []) (L2 := zE) dJ1_indexOf_4cfef_1 ML_J1_88 Ys_J1_canEncode_9a6ad rfl (t_canEncode l V _ c) zE_sub rfl (Nat.le_of_ble_eq_true rfl) (Nat.le_of_ble_eq_true rfl) rfl rfl ?_
  refine zJ_if_ne (tgt := 9) dJ1_indexOf_4cfef_4 (by decide) rfl (fun hc => ?_) (fun hc => ?_)
  · rw [show sL1 i c = sfrom (zkb.getD i []) c.toInt8.toInt32 (zkl.getD i 0) 0 from if_neg hc]
    refine zJ_iload_n dJ1_indexOf_4cfef_9 rfl rfl ?_
    refine zJ_iconst dJ1_indexOf_4cfef_10 zc_0 rfl ?_
    refine zJ_mmax dJ1_indexOf_4cfef_11 L_J1_92 K_max_s K_math K_max_c (Nat.le_of_ble_eq_true rfl) (Nat.le_of_ble_eq_true rfl) rfl ?_
    rw [show (if (0 : Int32) < 0 then (0 : Int32) else 0) = 0 from by decide]
    refine zJ_istore_n (ls' := [(2, .int 0), (0, .ref q), (1, .int c), (3, .int (nI (zkl.getD i 0)))]) dJ1_indexOf_4cfef_14 rfl rfl rfl ?_
    refine zJ_iload_n dJ1_indexOf_4cfef_15 rfl rfl ?_
    refine zJ_aload_n dJ1_indexOf_4cfef_16 rfl rfl ?_
    refine zJ_klen dJ1_indexOf_4cfef_17 hi hq rfl ?_
    refine zJ_mmin dJ1_indexOf_4cfef_18 L_J1_38 K_min_s K_math K_min_c (Nat.le_of_ble_eq_true rfl) (Nat.le_of_ble_eq_true rfl) rfl ?_
    rw [ite_self]
    refine zJ_istore_n (ls' := [(3, .int (nI (zkl.getD i 0))), (2, .int 0), (0, .ref q), (1, .int c)]) dJ1_indexOf_4cfef_21 rfl rfl rfl ?_
    refine zJ_iload_n dJ1_indexOf_4cfef_22 rfl rfl ?_
    refine zJ_iload_n dJ1_indexOf_4cfef_23 rfl rfl ?_
    refine zJ_icmp_lt (tgt := 29) dJ1_indexOf_4cfef_24 (by decide) rfl (fun hc2 => ?_) (fun hc2 => absurd (nI_lt hlen.1 (by omega)) hc2)
    refine zJ_aload_n dJ1_indexOf_4cfef_29 rfl rfl ?_
    refine zJ_iload_n dJ1_indexOf_4cfef_30 rfl rfl ?_
    refine zJ_iload_n dJ1_indexOf_4cfef_31 rfl rfl ?_
    refine zJ_iload_n dJ1_indexOf_4cfef_32 rfl rfl ?_
    refine zJ_callS (yi := mJ1_indexOfChar_4cfef) (as := [.ref q, .int c, .int 0, .int (nI (zkl.getD i 0))]) (st := []) (L2 := zE) dJ1_indexOf_4cfef_33 ML_J1_95 Ys_J1_indexOfChar_4cfef rfl (t_indexOfChar l V _ hi hq c) zE_sub rfl (Nat.le_of_ble_eq_true rfl) (Nat.le_of_ble_eq_true rfl) rfl rfl ?_
    exact zJ_iret dJ1_indexOf_4cfef_36 rfl rfl
  · rw [show sL1 i c = -1 from if_pos hc]
    refine zJ_iconst dJ1_indexOf_4cfef_7 zc_m1 rfl ?_
    exact zJ_iret dJ1_indexOf_4cfef_8 rfl rfl
theorem t_indexOf2 (l : Launch) (V : List zSh) (σ : zS) {i q : Nat} (hi : i < 6) (hq : q = 88 + i) (c : Int32) : zMt l V 2 mJ0_indexOf_7cf53 σ zE [.ref q, .int c, .int 0] (some (.int (sL1 i c))) zE := by
  have hsh : nI (zkl.getD i 0) >>> ((0 : Int32) &&& 31) = nI (zkl.getD i 0) := by
    have : ∀ j, j < 6 → nI (zkl.getD j 0) >>> ((0 : Int32) &&& 31) = nI (zkl.getD j 0) := by decide
    exact this i hi
  refine zMt_of (ls := [(0, .ref q), (1, .int c), (2, .int 0)]) (by decide) rfl (fun _ => Nat.le_of_ble_eq_true rfl) rfl ?_
  refine zJ_aload_n dJ0_indexOf_7cf53_0 rfl rfl ?_
  refine zJ_callK (yi := mJ0_isLatin1_aae02) (as := []) (st := []) (L2 := zE) dJ0_indexOf_7cf53_1 ML_J0_492 Yv_J0_isLatin1_aae02 rfl hi hq.symm rfl (t_isLatin1 l V _ hi hq) zE_sub rfl (Nat.le_of_ble_eq_true rfl) (Nat.le_of_ble_eq_true rfl) rfl rfl ?_
  refine zJ_if_eq (tgt := 23) dJ0_indexOf_7cf53_4 (by decide) rfl (fun hc => absurd hc (by decide)) (fun hc => ?_)
  refine zJ_aload_n dJ0_indexOf_7cf53_7 rfl rfl ?_
  refine zJ_kval (q' := 94 + i) dJ0_indexOf_7cf53_8 FK_v hi hq rfl rfl ?_
  refine zJ_iload_n dJ0_indexOf_7cf53_11 rfl rfl ?_
  refine zJ_iload_n dJ0_indexOf_7cf53_12 rfl rfl ?_
  refine zJ_aload_n dJ0_indexOf_7cf53_13 rfl rfl ?_
  refine zJ_callK (yi := mJ0_length_8abf5) (as := []) (st := [.int 0, .int c, .ref (94 + i)]) (L2 := zE) dJ0_indexOf_7cf53_14 ML_J0_505 Yv_J0_length_8abf5 rfl hi hq.symm rfl (t_length l V _ hi hq) zE_sub rfl (Nat.le_of_ble_eq_true rfl) (Nat.le_of_ble_eq_true rfl) rfl rfl ?_
  rw [hsh]
  refine zJ_callS (yi := mJ1_indexOf_4cfef) (as := [.ref (94 + i), .int c, .int 0, .int (nI (zkl.getD i 0))]) (st := []) (L2 := zE) dJ0_indexOf_7cf53_17 ML_J0_637 Ys_J1_indexOf_4cfef rfl (t_L1indexOf l V _ hi rfl c) zE_sub rfl (Nat.le_of_ble_eq_true rfl) (Nat.le_of_ble_eq_true rfl) rfl rfl ?_
  refine zJ_goto (tgt := 36) dJ0_indexOf_7cf53_20 (by decide) ?_
  exact zJ_iret dJ0_indexOf_7cf53_36 rfl rfl
theorem t_indexOf1 (l : Launch) (V : List zSh) (σ : zS) {i q : Nat} (hi : i < 6) (hq : q = 88 + i) (c : Int32) : zMt l V 3 mJ0_indexOf_0f7a4 σ zE [.ref q, .int c] (some (.int (sL1 i c))) zE := by
  refine zMt_of (ls := [(0, .ref q), (1, .int c)]) (by decide) rfl (fun _ => Nat.le_of_ble_eq_true rfl) rfl ?_
  refine zJ_aload_n dJ0_indexOf_0f7a4_0 rfl rfl ?_
  refine zJ_iload_n dJ0_indexOf_0f7a4_1 rfl rfl ?_
  refine zJ_iconst dJ0_indexOf_0f7a4_2 zc_0 rfl ?_
  refine zJ_callK (yi := mJ0_indexOf_7cf53) (as := [.int c, .int 0]) (st := []) (L2 := zE) dJ0_indexOf_0f7a4_3 ML_J0_633 Yv_J0_indexOf_7cf53 rfl hi hq.symm rfl (t_indexOf2 l V _ hi hq c) zE_sub rfl (Nat.le_of_ble_eq_true rfl) (Nat.le_of_ble_eq_true rfl) rfl rfl ?_
  exact zJ_iret dJ0_indexOf_0f7a4_6 rfl rfl
theorem sok_s {s : Nat} (h : sok s = true) : 88 ≤ s ∧ s < 94 := of_decide_eq_true h
section
variable {l : Launch} {V : List zSh} {d : Nat} {mi : zM} {σ : zS} {L M : zL} {pc pc' tgt : Nat} {off : Int} {ls : List (Nat × Value)} {st : List Value} {r : Option Value}
theorem zJ_sidx {idx s : Nat} {c : Int32} (hd : decode mi.2.2.1 pc = .ok (.invokevirtual idx, 3)) (hw : Cond.methodLink mi.1 idx yJ0_indexOf_0f7a4 ∈ zTB) (hs : 88 ≤ s ∧ s < 94) (hdd : 8 ≤ d) (hst : (st.map fun v => v.category).sum ≤ 8) (hp : pc + 3 = pc') (kk : zJ l V d mi σ L pc' ls (.int (sidx s c) :: st) r M) : zJ l V d mi σ L pc ls (.int c :: .ref s :: st) r M := by
  have hi : s - 88 < 6 := by omega
  have hq : s = 88 + (s - 88) := by omega
  exact zJ_callK (yi := mJ0_indexOf_0f7a4) (as := [.int c]) (st := st) (L2 := L) hd (Or.inl hw) Yv_J0_indexOf_0f7a4 rfl hi hq.symm rfl (t_indexOf1 l V _ hi hq c) zE_sub (zE_join L) (by omega) hst rfl hp kk
end
