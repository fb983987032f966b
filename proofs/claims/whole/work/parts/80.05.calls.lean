/-! THE ABSTRACT MACHINE: calls -/
theorem zargs (ad : Nat → Nat) (av : List Value) : ∀ i, lv_args i (av.map (zcv ad)) = (lv_args i av).map (fun q => (q.1, zcv ad q.2)) := by
  induction av with
  | nil => intro i; rfl
  | cons v vs ih =>
    intro i
    show (i, zcv ad v) :: lv_args (if (zcv ad v).category = 2 then i + 2 else i + 1) (vs.map (zcv ad)) = (i, zcv ad v) :: (lv_args (if v.category = 2 then i + 2 else i + 1) vs).map _
    rw [zcv_cat, ih]
section
variable {l : Launch} {V : List zSh} {d : Nat} {mi : zM} {σ : zS} {L M : zL} {pc pc' tgt : Nat} {off : Int} {ls : List (Nat × Value)} {st : List Value} {r : Option Value}
theorem zMt_of {av : List Value} (hn : plainName mi.2.1.cls = true) (hown : mi.1 = mi.2.1.cls) (hlen : ∀ ad, (lg_sl (av.map (zcv ad))).length ≤ mi.2.2.2.1) (hls : lv_args 0 av = ls) (h : zJ l V d mi σ L 0 ls [] r M) : zMt l V d mi σ L av r M := by
  subst hls
  intro D cy ad sz
  refine Met.ofW (cc := mi.2.2.1) (maxL := mi.2.2.2.1) (ret := mi.2.2.2.2) hn rfl ?_
  intro p e s m args below meth c s₁ B hml hv
  obtain ⟨rfl, hsz, hP, hK, hAd, hX⟩ := hv
  have hts := atoms_spec (ws := Cond.code mi.2.1 mi.2.2.1 mi.2.2.2.1 mi.2.2.2.2 :: zTB) B.pre
  have hfc : s.vm.findClass mi.1 = some m.cls := by rw [hown]; exact findClass_of_methodNamed B.named
  have hl := lv_entry (av.map (zcv ad)) (n := mi.2.2.2.1) (hlen ad)
  rw [zargs] at hl
  rw [lg_entry_eq]
  exact h p e _ s m _ below meth c D cy ad (zA V.length ad sz) s.heap [] _
    ⟨B.exec, B.bytes, hml, B.returns, hfc, fun w hw => hts w (List.mem_cons_of_mem _ hw), B.notSynchronized, ⟨Nat.le_refl _, Nat.le_refl _⟩, hK, fun q hq => Or.inr (by rw [← hsz]; exact hq), ⟨hAd.1, fun k hk => Or.inl ⟨k, hk, rfl⟩⟩, hX⟩ hP va_S.rf hl
/-- behind a call -/
theorem zcall {p : Program} {e : Env} {R : Room} {s : State} {m : MethodId} {args : Array Value} {below : List Frame} {meth : Method} {c : Code} {H : Heap} {locs : List Loc} {D : va_G} {cy : Nat → ClassId} {ad : Nat → Nat} {A A1 : Nat → Prop} {S : zS} {a : Array Value} {la : Array Slot} {st0 rest : List Value} {Q : State → Prop}
    (hr : va_Run p l e R s m args below meth c H locs 0 0 0 0 (F0 m pc la st0) rest (zQ V D cy ad A1 r S a) A1) (hS : va_S A s.heap H locs) (hA : ∀ q, A1 q → A q)
    (kk : ∀ (H1 : Heap) (locs1 : List Loc), va_P D zcl (zwd V cy ad S) H1 → va_S A s.heap H1 locs1 → W p l e R s m args below meth c H1 locs1 0 0 Q (F0 m (pc + 3) la ((r.map (zcv ad)).toList ++ rest))) : W p l e R s m args below meth c H locs 0 0 Q (F0 m pc la st0) := by
  intro T hT X
  obtain ⟨v, st₀, t, T', L', h0, X', hL, e1, e2, ⟨hv, hb, hz, hk⟩, stp⟩ := hr T hT X
  cases hv
  rw [h0] at hz hk
  obtain ⟨t2, a1, b1⟩ := kk T'.heap (locs ++ L') (by rw [e1]; exact hb)
    ⟨Nat.le_trans hS.1 (by rw [e1]; exact hz), fun q h1 h2 => by rw [e1, hk q (Nat.lt_of_lt_of_le h1 hS.1) (fun z => h2 (hA q z))]; exact hS.2.1 q h1 h2, fun q hq => by
      rcases List.mem_append.mp hq with h | h
      · exact hS.2.2 q h
      · exact hA _ (hL q h)⟩ T' rfl X'
  exact ⟨t2, stp t2 a1, b1⟩
/-- a method that is called on a cell -/
def zyV (yi : zM) (n : Nat) : Prop := Cond.instanceMethod yi.2.1 ∈ zTB ∧ Cond.selects yi.2.1.cls yi.2.1 yi.2.1 ∈ zTB ∧ Cond.initialized yi.2.1.cls ∈ zTB ∧ Cond.code yi.2.1 yi.2.2.1 yi.2.2.2.1 yi.2.2.2.2 ∈ zTB ∧
  (yi.2.1.cls ≠ "java/lang/invoke/MethodHandle" ∧ yi.2.1.cls ≠ "java/lang/invoke/VarHandle" ∧ (parseMethodDescriptor yi.2.1.desc).map (fun d => d.parameters.length) = some n) ∧ yi.2.2.2.1 ≤ 45
def zyS (yi : zM) (n : Nat) : Prop := Cond.static yi.2.1 ∈ zTB ∧ Cond.initialized yi.2.1.cls ∈ zTB ∧ Cond.code yi.2.1 yi.2.2.1 yi.2.2.2.1 yi.2.2.2.2 ∈ zTB ∧
  (yi.2.1.cls ≠ "java/lang/invoke/MethodHandle" ∧ yi.2.1.cls ≠ "java/lang/invoke/VarHandle" ∧ (parseMethodDescriptor yi.2.1.desc).map (fun d => d.parameters.length) = some n) ∧ yi.2.2.2.1 ≤ 45
def zml (own : String) (idx : Nat) (y : MethodName) : Prop := Cond.methodLink own idx y ∈ zTB ∨ ∃ h, Cond.methodLinkNest own idx y h ∈ zNB
theorem zTB_good {args : Array Value} {s : State} (hts : ∀ w ∈ zTB, w.before args s = true) {w0 : Cond} (h0 : w0 ∈ zTB) : ∀ w ∈ (w0 :: zTB), ∀ (a' : Array Value) (U : State), s.WarmedH U.vm → w.before a' U = true := by
  intro w hw a' U hW
  have hm : w ∈ zTB := by
    rcases List.mem_cons.mp hw with rfl | h
    · exact h0
    · exact h
  exact word_at hW (good_of_word (List.mem_filter.mp hm).2) (hts w hm)
theorem zblind {D : va_G} {cy : Nat → ClassId} {ad : Nat → Nat} {av : List Value} {sz : Nat} {S : zS} : FrameBlind (va_Pc av (fun U => U.heap.size = sz ∧ va_P D zcl (zwd V cy ad S) U.heap ∧ va_K D zcl (ztys cy) U ∧ zAd V.length (fun _ => True) ad ∧ zKx ad (zA V.length ad sz) U U.heap)) := by
  intro a U g mk q
  obtain ⟨q0, q1, qP, qK, qD, qX⟩ := q
  exact ⟨q0, q1, qP, va_K.moved (u := U) (U := U.calling g mk a) (Vm.Alike.refl U.vm) qK, qD, qX.same rfl⟩
theorem zJ_callV {idx d' n b ci : Nat} {yi : zM} {fs : List zF} {C : String} {T : u_T} {N : Nat} {as : List Value} {rv : Option Value} {lc m L2 : zL}
    (hd : decode mi.2.2.1 pc = .ok (.invokevirtual idx, 3)) (hl : zml mi.1 idx yi.2.1) (hy : zyV yi n) (hn : as.length = n) (hV : V[b]? = some (.inl (ci, fs))) (hci : zcl[ci]? = some (C, T, N)) (hC9 : yi.2.1.cls = C)
    (hM : zMt l V d' yi (zap σ L) lc (.ref b :: as) rv m) (hsub : zsub σ L lc) (hj : zjoin m L = L2) (hdd : d' + 1 ≤ d) (hst : (st.map fun v => v.category).sum ≤ 8) {st0 : List Value} (hst0 : st0 = as.reverse ++ .ref b :: st) (hp : pc + 3 = pc')
    (kk : zJ l V d mi σ L2 pc' ls (rv.toList ++ st) r M) : zJ l V d mi σ L pc ls st0 r M := by
  subst hp; subst hj; subst hst0; subst hC9
  intro p e R s m0 args below meth cc D cy ad A H locs la hC hP hS hla
  obtain ⟨y1, y2, y3, y4, y5, y6⟩ := hy
  have hts := hC.2.2.2.2.2.1
  have hR := hC.2.2.2.2.2.2.2.1
  have hK := hC.2.2.2.2.2.2.2.2.1
  have hA := hC.2.2.2.2.2.2.2.2.2.1
  have hAd := hC.2.2.2.2.2.2.2.2.2.2.1
  have hXx := hC.2.2.2.2.2.2.2.2.2.2.2
  have hMM := hM D cy ad H.size
  rw [zap_sub hsub, zap_join] at hMM
  have hstk : ((as.reverse ++ .ref b :: st).map (zcv ad)) = (as.map (zcv ad)).reverse ++ .ref (ad b) :: st.map (zcv ad) := by
    rw [List.map_append, List.map_reverse]; rfl
  have hroom : 2 * (F0 m0 pc la ((as.reverse ++ .ref b :: st).map (zcv ad))).monitorRoom + ((st.map (zcv ad)).map fun v => v.category).sum ≤ 8 := by
    refine lv_room ?_
    rw [List.map_map]
    refine Nat.le_trans (Nat.le_of_eq ?_) hst
    congr 1
    apply List.map_congr_left
    intro v _
    exact zcv_cat ad v
  have hfr : d' + 1 ≤ R.frames := Nat.le_trans hdd hR.1
  have hlo : 8 + (yi.2.2.2.1 + 11) + d' * 64 ≤ R.locals := by
    have := hR.2
    have h64 : (d' + 1) * 64 ≤ d * 64 := Nat.mul_le_mul_right 64 hdd
    omega
  have hrec := va_recv hK hP hci (zwd_at hV)
  have hsig : ∀ sig, parseMethodDescriptor yi.2.1.desc = some sig → n = sig.parameters.length := fun sig h => by
    have h2 := y5.2.2
    rw [h] at h2
    exact (Option.some.inj h2).symm
  have hfin : ∀ q, zA V.length ad H.size q → A q := by
    intro q h
    rcases h with ⟨k, hk, rfl⟩ | h
    · exact hAd.2 k hk
    · exact hA q (Nat.le_trans hS.1 h)
  have hpre : PreV s H yi.2.1.cls (ad b) (va_Pc ((Value.ref b :: as).map (zcv ad)) (fun U => U.heap.size = H.size ∧ va_P D zcl (zwd V cy ad (zap σ L)) U.heap ∧ va_K D zcl (ztys cy) U ∧ zAd V.length (fun _ => True) ad ∧ zKx ad (zA V.length ad H.size) U U.heap)) (as.map (zcv ad)) :=
    ⟨zblind, hrec, fun U hU hW => ⟨rfl, by rw [hU], by rw [hU]; exact hP, va_K.moved hW.alike hK, ⟨hAd.1, fun _ _ => trivial⟩, by rw [hU]; exact hXx.to hW hS.2.1 hfin⟩⟩
  have hgood := zTB_good hts y4
  have go : ∀ (hrun : va_Run p l e R s m0 args below meth cc H locs 0 0 0 0 (F0 m0 pc la ((as.reverse ++ .ref b :: st).map (zcv ad))) (st.map (zcv ad)) (zQ V D cy ad (zA V.length ad H.size) rv (zap σ (zjoin m L)) (Value.ref (ad b) :: as.map (zcv ad)).toArray) (zA V.length ad H.size)),
      W p l e R s m0 args below meth cc H locs 0 0 (MQ below (zQ V D cy ad A r (zap σ M)) args s 0 0 A) (F0 m0 pc la ((as.reverse ++ .ref b :: st).map (zcv ad))) := by
    intro hrun
    refine zcall hrun hS hfin (fun H1 locs1 q1 q3 => ?_)
    have := kk p e R s m0 args below meth cc D cy ad A H1 locs1 la hC q1 q3 hla
    rw [List.map_append] at this
    cases rv <;> exact this
  rcases hl with hl | ⟨host, hl⟩
  · refine go (va_runV (C := yi.2.1.cls) (Ts := zTB) (own := mi.1) ⟨hC.1, hC.2.1, hC.2.2.1, hC.2.2.2.2.1, hts⟩ hMM
      ⟨⟨rfl, rfl, hfr, hlo, hgood, List.mem_cons_self, hts _ y4, hts _ y3, ⟨y5.1, y5.2.1⟩, hsig, hts _ hl⟩, hts _ y1, hts _ y2⟩ hpre rfl (by rw [List.length_map]; exact hn) hla.1 hstk hroom hd ⟨Nat.zero_le _, Nat.zero_le _⟩)
  · refine go (va_runVN (C := yi.2.1.cls) (Ts := zTB) (own := mi.1) ⟨hC.1, hC.2.1, hC.2.2.1, hC.2.2.2.2.1, hts⟩ hMM
      ⟨⟨⟨rfl, rfl, hfr, hlo, hgood, List.mem_cons_self⟩, hts _ y4, hts _ y3, ⟨y5.1, y5.2.1⟩, hsig, va_Nw.use rfl (hXx.2.2.2 _ hl)⟩, hts _ y1, hts _ y2⟩ hpre rfl (by rw [List.length_map]; exact hn) hla.1 hstk hroom hd ⟨Nat.zero_le _, Nat.zero_le _⟩)
theorem zJ_callS {idx d' n : Nat} {yi : zM} {as : List Value} {rv : Option Value} {lc m L2 : zL}
    (hd : decode mi.2.2.1 pc = .ok (.invokestatic idx, 3)) (hl : zml mi.1 idx yi.2.1) (hy : zyS yi n) (hn : as.length = n)
    (hM : zMt l V d' yi (zap σ L) lc as rv m) (hsub : zsub σ L lc) (hj : zjoin m L = L2) (hdd : d' + 1 ≤ d) (hst : (st.map fun v => v.category).sum ≤ 8) {st0 : List Value} (hst0 : st0 = as.reverse ++ st) (hp : pc + 3 = pc')
    (kk : zJ l V d mi σ L2 pc' ls (rv.toList ++ st) r M) : zJ l V d mi σ L pc ls st0 r M := by
  subst hp; subst hj; subst hst0
  intro p e R s m0 args below meth cc D cy ad A H locs la hC hP hS hla
  obtain ⟨y2, y3, y4, y5, y6⟩ := hy
  have hts := hC.2.2.2.2.2.1
  have hR := hC.2.2.2.2.2.2.2.1
  have hK := hC.2.2.2.2.2.2.2.2.1
  have hA := hC.2.2.2.2.2.2.2.2.2.1
  have hAd := hC.2.2.2.2.2.2.2.2.2.2.1
  have hXx := hC.2.2.2.2.2.2.2.2.2.2.2
  have hMM := hM D cy ad H.size
  rw [zap_sub hsub, zap_join] at hMM
  have hstk : ((as.reverse ++ st).map (zcv ad)) = (as.map (zcv ad)).reverse ++ st.map (zcv ad) := by
    rw [List.map_append, List.map_reverse]
  have hroom : 2 * (F0 m0 pc la ((as.reverse ++ st).map (zcv ad))).monitorRoom + ((st.map (zcv ad)).map fun v => v.category).sum ≤ 8 := by
    refine lv_room ?_
    rw [List.map_map]
    refine Nat.le_trans (Nat.le_of_eq ?_) hst
    congr 1
    apply List.map_congr_left
    intro v _
    exact zcv_cat ad v
  have hfr : d' + 1 ≤ R.frames := Nat.le_trans hdd hR.1
  have hlo : 8 + (yi.2.2.2.1 + 11) + d' * 64 ≤ R.locals := by
    have := hR.2
    have h64 : (d' + 1) * 64 ≤ d * 64 := Nat.mul_le_mul_right 64 hdd
    omega
  have hsig : ∀ sig, parseMethodDescriptor yi.2.1.desc = some sig → n = sig.parameters.length := fun sig h => by
    have h2 := y5.2.2
    rw [h] at h2
    exact (Option.some.inj h2).symm
  have hfin : ∀ q, zA V.length ad H.size q → A q := by
    intro q h
    rcases h with ⟨k, hk, rfl⟩ | h
    · exact hAd.2 k hk
    · exact hA q (Nat.le_trans hS.1 h)
  have hpre : PreS s H (va_Pc (as.map (zcv ad)) (fun U => U.heap.size = H.size ∧ va_P D zcl (zwd V cy ad (zap σ L)) U.heap ∧ va_K D zcl (ztys cy) U ∧ zAd V.length (fun _ => True) ad ∧ zKx ad (zA V.length ad H.size) U U.heap)) (as.map (zcv ad)) :=
    ⟨zblind, fun U hU hW => ⟨rfl, by rw [hU], by rw [hU]; exact hP, va_K.moved hW.alike hK, ⟨hAd.1, fun _ _ => trivial⟩, by rw [hU]; exact hXx.to hW hS.2.1 hfin⟩⟩
  have hgood := zTB_good hts y4
  have go : ∀ (hrun : va_Run p l e R s m0 args below meth cc H locs 0 0 0 0 (F0 m0 pc la ((as.reverse ++ st).map (zcv ad))) (st.map (zcv ad)) (zQ V D cy ad (zA V.length ad H.size) rv (zap σ (zjoin m L)) (as.map (zcv ad)).toArray) (zA V.length ad H.size)),
      W p l e R s m0 args below meth cc H locs 0 0 (MQ below (zQ V D cy ad A r (zap σ M)) args s 0 0 A) (F0 m0 pc la ((as.reverse ++ st).map (zcv ad))) := by
    intro hrun
    refine zcall hrun hS hfin (fun H1 locs1 q1 q3 => ?_)
    have := kk p e R s m0 args below meth cc D cy ad A H1 locs1 la hC q1 q3 hla
    rw [List.map_append] at this
    cases rv <;> exact this
  rcases hl with hl | ⟨host, hl⟩
  · refine go (va_runS (Ts := zTB) (own := mi.1) ⟨hC.1, hC.2.1, hC.2.2.1, hC.2.2.2.2.1, hts⟩ hMM
      ⟨⟨rfl, rfl, hfr, hlo, hgood, List.mem_cons_self, hts _ y4, hts _ y3, ⟨y5.1, y5.2.1⟩, hsig, hts _ hl⟩, hts _ y2⟩ hpre rfl (by rw [List.length_map]; exact hn) hla.1 hstk hroom hd ⟨Nat.zero_le _, Nat.zero_le _⟩)
  · refine go (va_runSN (Ts := zTB) (own := mi.1) ⟨hC.1, hC.2.1, hC.2.2.1, hC.2.2.2.2.1, hts⟩ hMM
      ⟨⟨⟨rfl, rfl, hfr, hlo, hgood, List.mem_cons_self⟩, hts _ y4, hts _ y3, ⟨y5.1, y5.2.1⟩, hsig, va_Nw.use rfl (hXx.2.2.2 _ hl)⟩, hts _ y2, trivial⟩ hpre rfl (by rw [List.length_map]; exact hn) hla.1 hstk hroom hd ⟨Nat.zero_le _, Nat.zero_le _⟩)
end
