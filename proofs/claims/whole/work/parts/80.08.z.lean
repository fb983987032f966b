/-! calls whose new overrides are checked by looking up, not by joining lists -/
def zkeys {α : Type} : List (Nat × α) → List Nat
  | [] => []
  | q :: l => q.1 :: zkeys l
def zhas (k : Nat) : List Nat → Bool
  | [] => false
  | a :: l => cond (Nat.beq k a) true (zhas k l)
def zall_in : List Nat → List Nat → Bool
  | [], _ => true
  | a :: l, m => cond (zhas a m) (zall_in l m) false
theorem zov_out {α : Type} {f : Nat → α} {l : List (Nat × α)} {j : Nat} (h : zhas j (zkeys l) = false) : zov f l j = f j := by
  induction l with
  | nil => rfl
  | cons q l ih =>
    have h : cond (Nat.beq j q.1) true (zhas j (zkeys l)) = false := h
    show cond (Nat.beq j q.1) q.2 (zov f l j) = f j
    cases hb : Nat.beq j q.1 with
    | true => rw [hb] at h; cases h
    | false => rw [hb] at h; exact ih h
theorem zov_in {α : Type} {f g : Nat → α} {l : List (Nat × α)} {j : Nat} (h : zhas j (zkeys l) = true) (hl : zle g l) : zov f l j = g j := by
  induction l with
  | nil => cases h
  | cons q l ih =>
    have h : cond (Nat.beq j q.1) true (zhas j (zkeys l)) = true := h
    show cond (Nat.beq j q.1) q.2 (zov f l j) = g j
    cases hb : Nat.beq j q.1 with
    | true => rw [Nat.eq_of_beq_eq_true hb]; exact hl.1.symm
    | false => rw [hb] at h; exact ih h hl.2
theorem zhas_mono {l m : List Nat} (h : zall_in l m = true) {j : Nat} (hj : zhas j l = true) : zhas j m = true := by
  induction l with
  | nil => cases hj
  | cons a l ih =>
    have h : cond (zhas a m) (zall_in l m) false = true := h
    have hj : cond (Nat.beq j a) true (zhas j l) = true := hj
    cases ha : zhas a m with
    | false => rw [ha] at h; cases h
    | true =>
      rw [ha] at h
      cases hb : Nat.beq j a with
      | true => rw [Nat.eq_of_beq_eq_true hb]; exact ha
      | false => rw [hb] at hj; exact ih h hj
theorem zov_same {α : Type} {f : Nat → α} {L m L2 : List (Nat × α)} (hk : zkeys L2 = zkeys L) (hm : zall_in (zkeys m) (zkeys L) = true) (h : zle (zov (zov f L) m) L2) : zov (zov f L) m = zov f L2 := by
  funext j
  cases hj : zhas j (zkeys L) with
  | true => exact (zov_in (by rw [hk]; exact hj) h).symm
  | false =>
    rw [zov_out (l := L2) (by rw [hk]; exact hj), zov_out (l := m) ?_, zov_out hj]
    cases hm' : zhas j (zkeys m) with
    | false => rfl
    | true => rw [zhas_mono hm hm'] at hj; cases hj
/-- what a call leaves: three lists at once -/
def zjok (σ : zS) (L m L2 : zL) : Prop := zap (zap σ L) m = zap σ L2
theorem zjok_i {σ : zS} {La Lb Lc ma mb mc L2a L2b L2c : _} (a1 : zkeys L2a = zkeys La) (a2 : zall_in (zkeys ma) (zkeys La) = true) (a3 : zle (zov (zov σ.1 La) ma) L2a)
    (b1 : zkeys L2b = zkeys Lb) (b2 : zall_in (zkeys mb) (zkeys Lb) = true) (b3 : zle (zov (zov σ.2.1 Lb) mb) L2b)
    (c1 : zkeys L2c = zkeys Lc) (c2 : zall_in (zkeys mc) (zkeys Lc) = true) (c3 : zle (zov (zov σ.2.2 Lc) mc) L2c) : zjok σ (La, Lb, Lc) (ma, mb, mc) (L2a, L2b, L2c) := by
  show (zov (zov σ.1 La) ma, zov (zov σ.2.1 Lb) mb, zov (zov σ.2.2 Lc) mc) = (zov σ.1 L2a, zov σ.2.1 L2b, zov σ.2.2 L2c)
  rw [zov_same a1 a2 a3, zov_same b1 b2 b3, zov_same c1 c2 c3]
section
variable {l : Launch} {V : List zSh} {d : Nat} {mi : zM} {σ : zS} {L M : zL} {pc pc' tgt : Nat} {off : Int} {ls : List (Nat × Value)} {st : List Value} {r : Option Value}
theorem zJ_callV2 {idx d' n b ci : Nat} {yi : zM} {fs : List zF} {C : String} {T : u_T} {N : Nat} {as : List Value} {rv : Option Value} {lc m L2 : zL}
    (hd : decode mi.2.2.1 pc = .ok (.invokevirtual idx, 3)) (hl : zml mi.1 idx yi.2.1) (hy : zyV yi n) (hn : as.length = n) (hV : V[b]? = some (.inl (ci, fs))) (hci : zcl[ci]? = some (C, T, N)) (hC9 : yi.2.1.cls = C)
    (hM : zMt l V d' yi (zap σ L) lc (.ref b :: as) rv m) (hsub : zsub σ L lc) (hj : zjok σ L m L2) (hdd : d' + 1 ≤ d) (hst : (st.map fun v => v.category).sum ≤ 8) {st0 : List Value} (hst0 : st0 = as.reverse ++ .ref b :: st) (hp : pc + 3 = pc')
    (kk : zJ l V d mi σ L2 pc' ls (rv.toList ++ st) r M) : zJ l V d mi σ L pc ls st0 r M := by
  subst hp; subst hst0; subst hC9
  intro p e R s m0 args below meth cc D cy ad A H locs la hC hP hS hla
  obtain ⟨y1, y2, y3, y4, y5, y6⟩ := hy
  have hts := hC.2.2.2.2.2.1
  have hR := hC.2.2.2.2.2.2.2.1
  have hK := hC.2.2.2.2.2.2.2.2.1
  have hA := hC.2.2.2.2.2.2.2.2.2.1
  have hAd := hC.2.2.2.2.2.2.2.2.2.2.1
  have hXx := hC.2.2.2.2.2.2.2.2.2.2.2
  have hMM := hM D cy ad H.size
  rw [zap_sub hsub, show zap (zap σ L) m = zap σ L2 from hj] at hMM
  have hstk : ((as.reverse ++ .ref b :: st).map (zcv ad)) = (as.map (zcv ad)).reverse ++ .ref (ad b) :: st.map (zcv ad) := by
    rw [List.map_append, List.map_reverse]; rfl
  have hroom : 2 * (F0 m0 pc la ((as.reverse ++ .ref b :: st).map (zcv ad))).monitorRoom + ((st.map (zcv ad)).map fun v => v.category).sum ≤ 8 := by
    refine lv_room ?_
    rw [List.map_map]
    refine Nat.le_trans (Nat.le_of_eq ?_) hst
    congr 1
    apply List.map_congr_left
    intro v _
    exact zcv_cat ad v
  have hfr : d' + 1 ≤ R.frames := Nat.le_trans hdd hR.1
  have hlo : 8 + (yi.2.2.2.1 + 11) + d' * 64 ≤ R.locals := by
    have := hR.2
    have h64 : (d' + 1) * 64 ≤ d * 64 := Nat.mul_le_mul_right 64 hdd
    omega
  have hrec := va_recv hK hP hci (zwd_at hV)
  have hsig : ∀ sig, parseMethodDescriptor yi.2.1.desc = some sig → n = sig.parameters.length := fun sig h => by
    have h2 := y5.2.2
    rw [h] at h2
    exact (Option.some.inj h2).symm
  have hfin : ∀ q, zA V.length ad H.size q → A q := by
    intro q h
    rcases h with ⟨k, hk, rfl⟩ | h
    · exact hAd.2 k hk
    · exact hA q (Nat.le_trans hS.1 h)
  have hpre : PreV s H yi.2.1.cls (ad b) (va_Pc ((Value.ref b :: as).map (zcv ad)) (fun U => U.heap.size = H.size ∧ va_P D zcl (zwd V cy ad (zap σ L)) U.heap ∧ va_K D zcl (ztys cy) U ∧ zAd V.length (fun _ => True) ad ∧ zKx ad (zA V.length ad H.size) U U.heap)) (as.map (zcv ad)) :=
    ⟨zblind, hrec, fun U hU hW => ⟨rfl, by rw [hU], by rw [hU]; exact hP, va_K.moved hW.alike hK, ⟨hAd.1, fun _ _ => trivial⟩, by rw [hU]; exact hXx.to hW hS.2.1 hfin⟩⟩
  have hgood := zTB_good hts y4
  have go : ∀ (hrun : va_Run p l e R s m0 args below meth cc H locs 0 0 0 0 (F0 m0 pc la ((as.reverse ++ .ref b :: st).map (zcv ad))) (st.map (zcv ad)) (zQ V D cy ad (zA V.length ad H.size) rv (zap σ L2) (Value.ref (ad b) :: as.map (zcv ad)).toArray) (zA V.length ad H.size)),
      W p l e R s m0 args below meth cc H locs 0 0 (MQ below (zQ V D cy ad A r (zap σ M)) args s 0 0 A) (F0 m0 pc la ((as.reverse ++ .ref b :: st).map (zcv ad))) := by
    intro hrun
    refine zcall hrun hS hfin (fun H1 locs1 q1 q3 => ?_)
    have := kk p e R s m0 args below meth cc D cy ad A H1 locs1 la hC q1 q3 hla
    rw [List.map_append] at this
    cases rv <;> exact this
  rcases hl with hl | ⟨host, hl⟩
  · refine go (va_runV (C := yi.2.1.cls) (Ts := zTB) (own := mi.1) ⟨hC.1, hC.2.1, hC.2.2.1, hC.2.2.2.2.1, hts⟩ hMM
      ⟨⟨rfl, rfl, hfr, hlo, hgood, List.mem_cons_self, hts _ y4, hts _ y3, ⟨y5.1, y5.2.1⟩, hsig, hts _ hl⟩, hts _ y1, hts _ y2⟩ hpre rfl (by rw [List.length_map]; exact hn) hla.1 hstk hroom hd ⟨Nat.zero_le _, Nat.zero_le _⟩)
  · refine go (va_runVN (C := yi.2.1.cls) (Ts := zTB) (own := mi.1) ⟨hC.1, hC.2.1, hC.2.2.1, hC.2.2.2.2.1, hts⟩ hMM
      ⟨⟨⟨rfl, rfl, hfr, hlo, hgood, List.mem_cons_self⟩, hts _ y4, hts _ y3, ⟨y5.1, y5.2.1⟩, hsig, va_Nw.use rfl (hXx.2.2.2 _ hl)⟩, hts _ y1, hts _ y2⟩ hpre rfl (by rw [List.length_map]; exact hn) hla.1 hstk hroom hd ⟨Nat.zero_le _, Nat.zero_le _⟩)
theorem zJ_callS2 {idx d' n : Nat} {yi : zM} {as : List Value} {rv : Option Value} {lc m L2 : zL}
    (hd : decode mi.2.2.1 pc = .ok (.invokestatic idx, 3)) (hl : zml mi.1 idx yi.2.1) (hy : zyS yi n) (hn : as.length = n)
    (hM : zMt l V d' yi (zap σ L) lc as rv m) (hsub : zsub σ L lc) (hj : zjok σ L m L2) (hdd : d' + 1 ≤ d) (hst : (st.map fun v => v.category).sum ≤ 8) {st0 : List Value} (hst0 : st0 = as.reverse ++ st) (hp : pc + 3 = pc')
    (kk : zJ l V d mi σ L2 pc' ls (rv.toList ++ st) r M) : zJ l V d mi σ L pc ls st0 r M := by
  subst hp; subst hst0
  intro p e R s m0 args below meth cc D cy ad A H locs la hC hP hS hla
  obtain ⟨y2, y3, y4, y5, y6⟩ := hy
  have hts := hC.2.2.2.2.2.1
  have hR := hC.2.2.2.2.2.2.2.1
  have hK := hC.2.2.2.2.2.2.2.2.1
  have hA := hC.2.2.2.2.2.2.2.2.2.1
  have hAd := hC.2.2.2.2.2.2.2.2.2.2.1
  have hXx := hC.2.2.2.2.2.2.2.2.2.2.2
  have hMM := hM D cy ad H.size
  rw [zap_sub hsub, show zap (zap σ L) m = zap σ L2 from hj] at hMM
  have hstk : ((as.reverse ++ st).map (zcv ad)) = (as.map (zcv ad)).reverse ++ st.map (zcv ad) := by
    rw [List.map_append, List.map_reverse]
  have hroom : 2 * (F0 m0 pc la ((as.reverse ++ st).map (zcv ad))).monitorRoom + ((st.map (zcv ad)).map fun v => v.category).sum ≤ 8 := by
    refine lv_room ?_
    rw [List.map_map]
    refine Nat.le_trans (Nat.le_of_eq ?_) hst
    congr 1
    apply List.map_congr_left
    intro v _
    exact zcv_cat ad v
  have hfr : d' + 1 ≤ R.frames := Nat.le_trans hdd hR.1
  have hlo : 8 + (yi.2.2.2.1 + 11) + d' * 64 ≤ R.locals := by
    have := hR.2
    have h64 : (d' + 1) * 64 ≤ d * 64 := Nat.mul_le_mul_right 64 hdd
    omega
  have hsig : ∀ sig, parseMethodDescriptor yi.2.1.desc = some sig → n = sig.parameters.length := fun sig h => by
    have h2 := y5.2.2
    rw [h] at h2
    exact (Option.some.inj h2).symm
  have hfin : ∀ q, zA V.length ad H.size q → A q := by
    intro q h
    rcases h with ⟨k, hk, rfl⟩ | h
    · exact hAd.2 k hk
    · exact hA q (Nat.le_trans hS.1 h)
  have hpre : PreS s H (va_Pc (as.map (zcv ad)) (fun U => U.heap.size = H.size ∧ va_P D zcl (zwd V cy ad (zap σ L)) U.heap ∧ va_K D zcl (ztys cy) U ∧ zAd V.length (fun _ => True) ad ∧ zKx ad (zA V.length ad H.size) U U.heap)) (as.map (zcv ad)) :=
    ⟨zblind, fun U hU hW => ⟨rfl, by rw [hU], by rw [hU]; exact hP, va_K.moved hW.alike hK, ⟨hAd.1, fun _ _ => trivial⟩, by rw [hU]; exact hXx.to hW hS.2.1 hfin⟩⟩
  have hgood := zTB_good hts y4
  have go : ∀ (hrun : va_Run p l e R s m0 args below meth cc H locs 0 0 0 0 (F0 m0 pc la ((as.reverse ++ st).map (zcv ad))) (st.map (zcv ad)) (zQ V D cy ad (zA V.length ad H.size) rv (zap σ L2) (as.map (zcv ad)).toArray) (zA V.length ad H.size)),
      W p l e R s m0 args below meth cc H locs 0 0 (MQ below (zQ V D cy ad A r (zap σ M)) args s 0 0 A) (F0 m0 pc la ((as.reverse ++ st).map (zcv ad))) := by
    intro hrun
    refine zcall hrun hS hfin (fun H1 locs1 q1 q3 => ?_)
    have := kk p e R s m0 args below meth cc D cy ad A H1 locs1 la hC q1 q3 hla
    rw [List.map_append] at this
    cases rv <;> exact this
  rcases hl with hl | ⟨host, hl⟩
  · refine go (va_runS (Ts := zTB) (own := mi.1) ⟨hC.1, hC.2.1, hC.2.2.1, hC.2.2.2.2.1, hts⟩ hMM
      ⟨⟨rfl, rfl, hfr, hlo, hgood, List.mem_cons_self, hts _ y4, hts _ y3, ⟨y5.1, y5.2.1⟩, hsig, hts _ hl⟩, hts _ y2⟩ hpre rfl (by rw [List.length_map]; exact hn) hla.1 hstk hroom hd ⟨Nat.zero_le _, Nat.zero_le _⟩)
  · refine go (va_runSN (Ts := zTB) (own := mi.1) ⟨hC.1, hC.2.1, hC.2.2.1, hC.2.2.2.2.1, hts⟩ hMM
      ⟨⟨⟨rfl, rfl, hfr, hlo, hgood, List.mem_cons_self⟩, hts _ y4, hts _ y3, ⟨y5.1, y5.2.1⟩, hsig, va_Nw.use rfl (hXx.2.2.2 _ hl)⟩, hts _ y2, trivial⟩ hpre rfl (by rw [List.length_map]; exact hn) hla.1 hstk hroom hd ⟨Nat.zero_le _, Nat.zero_le _⟩)
end
