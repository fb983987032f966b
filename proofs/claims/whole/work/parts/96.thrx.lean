/-! THROWS: the class's four methods where they throw, the law's wrappers where they catch -/
theorem zap_id {S : zS} {M : zL} (h1 : zle S.1 M.1) (h2 : zle S.2.1 M.2.1) (h3 : zle S.2.2 M.2.2) : zap S M = S := by
  have e : zap (zap S ([], [], [])) M = zap S ([], [], []) := zap_sub ⟨h1, h2, h3⟩
  exact e
abbrev XQ (D : va_G) (cy : Nat → ClassId) (ad : Nat → Nat) (S : zS) (A : Nat → Prop) : String → State → State → Prop := vx_X (fun _ : Unit => True) (fun E _ t => E = RN ∧ va_P D zcl (zwd zW cy ad S) t.heap) A
theorem zMx_of {l : Launch} {d : Nat} {mi : zM} {S : zS} {av : List Value} {Qc : (Nat → Prop) → Array Value → State → Outcome → State → Prop} (hn : plainName mi.2.1.cls = true) (hown : mi.1 = mi.2.1.cls) (hlen : ∀ ad, (lg_sl (av.map (zcv ad))).length ≤ mi.2.2.2.1)
    (body : ∀ (p : Program) (e : Env) (R : Room) (s : State) (m : MethodId) (args : Array Value) (below : List Frame) (meth : Method) (c : Code) (D : va_G) (cy : Nat → ClassId) (ad : Nat → Nat) (A : Nat → Prop) (la : Array Slot), R.cells = 1 → R.slots = 6 → zC zW d mi p R s m args meth c D cy ad A → zTx A s s.heap → (∀ x ∈ c.exceptionTable.toList, False) → va_P D zcl (zwd zW cy ad S) s.heap → lv_has la mi.2.2.2.1 ((lv_args 0 av).map (fun q => (q.1, zcv ad q.2))) →
      W p l e R s m args below meth c s.heap [] 0 0 (vx_MQ below (Qc A) (XQ D cy ad S A) args s 1 6 A) (F0 m 0 la [])) : zMx l d mi S av Qc := by
  intro D cy ad sz
  refine vx_ofW (cc := mi.2.2.1) (maxL := mi.2.2.2.1) (ret := mi.2.2.2.2) hn rfl ?_
  intro p e s m args below meth c s₁ B hml htab hv
  obtain ⟨rfl, hsz, hP, hK, hAd, hX, hT⟩ := hv
  have hts := atoms_spec (ws := Cond.code mi.2.1 mi.2.2.1 mi.2.2.2.1 mi.2.2.2.2 :: zTB) B.pre
  have hfc : s.vm.findClass mi.1 = some m.cls := by rw [hown]; exact findClass_of_methodNamed B.named
  have hl := lv_entry (av.map (zcv ad)) (n := mi.2.2.2.1) (hlen ad)
  rw [zargs] at hl
  rw [lg_entry_eq]
  exact body p e _ s m _ below meth c D cy ad (zA zW.length ad sz) _ rfl rfl
    ⟨B.exec, B.bytes, hml, B.returns, hfc, fun w hw => hts w (List.mem_cons_of_mem _ hw), B.notSynchronized, ⟨Nat.le_refl _, Nat.le_refl _⟩, hK, fun q hq => Or.inr (by rw [← hsz]; exact hq), ⟨hAd.1, fun k hk => Or.inl ⟨k, hk, rfl⟩⟩, hX⟩ hT htab hP hl
theorem zMw_of {l : Launch} {d : Nat} {mi : zM} {S S1 : zS} {av : List Value} {hh : List (Nat × Nat × Nat × Nat)} {rv : Option Value} (hn : plainName mi.2.1.cls = true) (hown : mi.1 = mi.2.1.cls) (hlen : ∀ ad, (lg_sl (av.map (zcv ad))).length ≤ mi.2.2.2.1)
    (body : ∀ (p : Program) (e : Env) (R : Room) (s : State) (m : MethodId) (args : Array Value) (below : List Frame) (meth : Method) (c : Code) (D : va_G) (cy : Nat → ClassId) (ad : Nat → Nat) (A : Nat → Prop) (la : Array Slot), R.cells = 1 → R.slots = 6 → zC zW d mi p R s m args meth c D cy ad A → zTx A s s.heap → c.exceptionTable.toList = tableOf hh → va_P D zcl (zwd zW cy ad S) s.heap → lv_has la mi.2.2.2.1 ((lv_args 0 av).map (fun q => (q.1, zcv ad q.2))) →
      W p l e R s m args below meth c s.heap [] 0 0 (MQ below (zQ zW D cy ad A rv S1) args s 1 6 A) (F0 m 0 la [])) : zMw hh l d mi S av rv S1 := by
  intro D cy ad sz
  refine va_MetW (hh := hh) (cc := mi.2.2.1) (maxL := mi.2.2.2.1) (ret := mi.2.2.2.2) hn rfl ?_
  intro p e s m args below meth c s₁ B hml hv
  obtain ⟨rfl, hsz, hP, hK, hAd, hX, hT⟩ := hv
  have hts := atoms_spec (ws := Cond.codeWith mi.2.1 mi.2.2.1 mi.2.2.2.1 mi.2.2.2.2 hh :: zTB) B.pre
  have htab := vx_table (x := mi.2.1) B (hts _ List.mem_cons_self)
  have hfc : s.vm.findClass mi.1 = some m.cls := by rw [hown]; exact findClass_of_methodNamed B.named
  have hl := lv_entry (av.map (zcv ad)) (n := mi.2.2.2.1) (hlen ad)
  rw [zargs] at hl
  rw [lg_entry_eq]
  exact body p e _ s m _ below meth c D cy ad (zA zW.length ad sz) _ rfl rfl
    ⟨B.exec, B.bytes, hml, B.returns, hfc, fun w hw => hts w (List.mem_cons_of_mem _ hw), B.notSynchronized, ⟨Nat.le_refl _, Nat.le_refl _⟩, hK, fun q hq => Or.inr (by rw [← hsz]; exact hq), ⟨hAd.1, fun k hk => Or.inl ⟨k, hk, rfl⟩⟩, hX⟩ hT htab hP hl
theorem x0_in : ∀ w ∈ (vx_at0 RX11 137 "java/util/NoSuchElementException" ["java/lang/RuntimeException", "java/lang/Exception"]).filter goodWord, w ∈ lw_tbl := by decide +kernel
theorem x0_no : ∀ w ∈ (vx_at0 RX11 137 "java/util/NoSuchElementException" ["java/lang/RuntimeException", "java/lang/Exception"]).filter (fun w => !goodWord w), w ∈ zDc := by decide +kernel
theorem x0_ot : ∀ w ∈ Cond.classLink RX11 135 "java/util/NoSuchElementException" :: Cond.initialized "java/util/NoSuchElementException" :: vx_at0 RX11 137 "java/util/NoSuchElementException" ["java/lang/RuntimeException", "java/lang/Exception"], vx_ot w = true := by decide +kernel
section
variable {l : Launch} {d : Nat} {mi : zM} {p : Program} {e : Env} {R : Room} {s : State} {m0 : MethodId} {args : Array Value} {below : List Frame} {meth : Method} {cc : Code} {D : va_G} {cy : Nat → ClassId} {ad : Nat → Nat} {A : Nat → Prop} {H : Heap} {locs : List Loc} {cells slots : Nat} {Q : State → Prop} {S : zS} {pc pc' : Nat} {la : Array Slot} {st0 rest : List Value}
theorem lthrow {p3 p4 p7 : Nat} {Qc : Array Value → State → Outcome → State → Prop} (hC : zC zW d mi p R s m0 args meth cc D cy ad A) (hfl : l.stackTraces = false) (hT : zTx A s s.heap) (htab : ∀ x ∈ cc.exceptionTable.toList, False) (hmi : mi.1 = RX11) (hd6 : 6 ≤ d) (hc1 : R.cells = 1) (hs1 : R.slots = 6) (hP : va_P D zcl (zwd zW cy ad S) H) (hS : va_S A s.heap H locs) (hla : la.size = mi.2.2.2.1)
    (d0 : decode mi.2.2.1 pc = .ok (.new 135, 3)) (d3 : decode mi.2.2.1 p3 = .ok (.dup, 1)) (d4 : decode mi.2.2.1 p4 = .ok (.invokespecial 137, 3)) (d7 : decode mi.2.2.1 p7 = .ok (.athrow, 1)) (e3 : pc + 3 = p3) (e4 : pc + 4 = p4) (e7 : pc + 7 = p7) :
    W p l e R s m0 args below meth cc H locs 0 0 (vx_MQ below Qc (XQ D cy ad S A) args s 1 6 A) (F0 m0 pc la []) := by
  subst e3; subst e4; subst e7
  have hts := hC.2.2.2.2.2.1
  have hR := hC.2.2.2.2.2.2.2.1
  have hlocks : meth.locks = false := hC.2.2.2.2.2.2.1
  have hown : s.vm.findClass RX11 = some m0.cls := by rw [← hmi]; exact hC.2.2.2.2.1
  refine vx_throw0 (own := RX11) (cls := "java/util/NoSuchElementException") (names := ["java/lang/RuntimeException", "java/lang/Exception"]) (ik := 135) (ic := 137) (A := A) hC.1 hC.2.1 hfl hown (by decide +kernel) (by decide +kernel) (hts _ C_new) (hts _ C_ini)
    (vx_hat (fun w hw => hts w (List.mem_filter.mpr ⟨x0_in w hw, (List.mem_filter.mp hw).2⟩)) x0_no (fun w hw => va_Nw.use (zDc_on w hw) (hT.2.2 w hw))) x0_ot hT.1 hT.2.1 hS (hla.trans hC.2.2.1.symm) d0 d3 d4 d7 (fun x hx => absurd (htab x hx) (fun z => z)) ?_ ?_ (by omega) (by omega) hlocks ?_ hS.2.2 (by omega) (by omega)
  · show 2 + 3 < R.frames
    omega
  · show 0 + (13 * (2 + 1) + 42) ≤ R.locals
    omega
  · intro t _ h2 h3
    exact ⟨(), trivial, ⟨rfl, hP.kept (fun k q hq => h3 _ ((hP k q hq).lt))⟩, Nat.le_trans hS.1 h2, fun q hq hA => (h3 q (Nat.lt_of_lt_of_le hq hS.1)).trans (hS.2.1 q hq hA)⟩
end
set_option maxRecDepth 100000 in
set_option maxHeartbeats 4000000 in
theorem x_fence (l : Launch) (hfl : l.stackTraces = false) {S : zS} {p1 p2 rn : Int32} (hcl : f_X1_hasFence p1 (S.1 323) = some rn) (hw : rn = 0 ∨ p2 < 0 ∨ 2 < p2) : zMx l 10 mX11_fence S [.ref 0, .int p1, .int p2] QnI := by
  refine zMx_of (by decide) rfl (fun _ => Nat.le_of_ble_eq_true rfl) ?_
  intro p e R s m args below meth c D cy ad A la hc1 hs1 hC hT htab hP hl
  have hl : lv_has la 3 [(0, .ref (ad 0)), (1, .int p1), (2, .int p2)] := hl
  have hS : va_S A s.heap s.heap [] := va_S.rf
  have hx := hC.1
  have hb := hC.2.1
  have hth : ∀ (H : Heap) (locs : List Loc), va_P D zcl (zwd zW cy ad S) H → va_S A s.heap H locs → W p l e R s m args below meth c H locs 0 0 (vx_MQ below (QnI A) (XQ D cy ad S A) args s 1 6 A) (F0 m 20 la []) := fun H locs hP hS =>
    lthrow hC hfl hT htab rfl (by decide) hc1 hs1 hP hS hl.1 dX11_fence_20 dX11_fence_23 dX11_fence_24 dX11_fence_27 rfl rfl rfl
  refine lv_aload_n hx hb dX11_fence_0 rfl (lv_at hl 0 rfl) ?_
  refine lgetf (v := .ref (ad 5)) hC hP dX11_fence_1 F_X11_26 zW_0 rfl rfl rfl ?_
  refine lv_iload_n hx hb dX11_fence_4 rfl (lv_at hl 1 rfl) ?_
  refine lcallV (yi := mX1_hasFence) (as := [.int p1]) (rest := []) hC hP hS hl.1 dX11_fence_5 ML_X11_132 Yv_X1_hasFence rfl zW_5 rfl rfl (zMt_at (t_X1_hasFence l S hcl) (zle_c rfl zle_n) zle_n zle_n) (by decide) (by decide) rfl ⟨Nat.zero_le _, Nat.zero_le _⟩ rfl (fun H locs hP hS => ?_)
  rw [zap_id (S := S) (M := ([(323, S.1 323)], [], [])) (zle_c rfl zle_n) zle_n zle_n] at hP
  refine lv_if_eq (tgt := 20) hx hb dX11_fence_8 (by decide) (fun _ => hth H locs hP hS) (fun h0 => ?_)
  refine lv_iload_n hx hb dX11_fence_11 rfl (lv_at hl 2 rfl) ?_
  refine lv_if_lt (tgt := 20) hx hb dX11_fence_12 (by decide) (fun _ => hth H locs hP hS) (fun h1 => ?_)
  refine lv_iload_n hx hb dX11_fence_15 rfl (lv_at hl 2 rfl) ?_
  refine lv_iconst (v := 2) hx hb dX11_fence_16 (by decide) ?_
  refine lv_icmp_le (tgt := 28) hx hb dX11_fence_17 (by decide) (fun h2 => ?_) (fun _ => hth H locs hP hS)
  rcases hw with z | z | z
  · exact absurd z h0
  · exact absurd z h1
  · exact absurd z (Int32.not_lt.mpr h2)

set_option maxRecDepth 100000 in
set_option maxHeartbeats 4000000 in
theorem x_horse (l : Launch) (hfl : l.stackTraces = false) {S : zS} {p1 p2 rn : Int32} (hcl : f_X1_hasHorse p1 (S.1 326) = some rn) (hw : rn = 0 ∨ p2 < 0 ∨ 5 < p2) : zMx l 10 mX11_horse S [.ref 0, .int p1, .int p2] QnI := by
  refine zMx_of (by decide) rfl (fun _ => Nat.le_of_ble_eq_true rfl) ?_
  intro p e R s m args below meth c D cy ad A la hc1 hs1 hC hT htab hP hl
  have hl : lv_has la 3 [(0, .ref (ad 0)), (1, .int p1), (2, .int p2)] := hl
  have hS : va_S A s.heap s.heap [] := va_S.rf
  have hx := hC.1
  have hb := hC.2.1
  have hth : ∀ (H : Heap) (locs : List Loc), va_P D zcl (zwd zW cy ad S) H → va_S A s.heap H locs → W p l e R s m args below meth c H locs 0 0 (vx_MQ below (QnI A) (XQ D cy ad S A) args s 1 6 A) (F0 m 21 la []) := fun H locs hP hS =>
    lthrow hC hfl hT htab rfl (by decide) hc1 hs1 hP hS hl.1 dX11_horse_21 dX11_horse_24 dX11_horse_25 dX11_horse_28 rfl rfl rfl
  refine lv_aload_n hx hb dX11_horse_0 rfl (lv_at hl 0 rfl) ?_
  refine lgetf (v := .ref (ad 5)) hC hP dX11_horse_1 F_X11_26 zW_0 rfl rfl rfl ?_
  refine lv_iload_n hx hb dX11_horse_4 rfl (lv_at hl 1 rfl) ?_
  refine lcallV (yi := mX1_hasHorse) (as := [.int p1]) (rest := []) hC hP hS hl.1 dX11_horse_5 ML_X11_147 Yv_X1_hasHorse rfl zW_5 rfl rfl (zMt_at (t_X1_hasHorse l S hcl) (zle_c rfl zle_n) zle_n zle_n) (by decide) (by decide) rfl ⟨Nat.zero_le _, Nat.zero_le _⟩ rfl (fun H locs hP hS => ?_)
  rw [zap_id (S := S) (M := ([(326, S.1 326)], [], [])) (zle_c rfl zle_n) zle_n zle_n] at hP
  refine lv_if_eq (tgt := 21) hx hb dX11_horse_8 (by decide) (fun _ => hth H locs hP hS) (fun h0 => ?_)
  refine lv_iload_n hx hb dX11_horse_11 rfl (lv_at hl 2 rfl) ?_
  refine lv_if_lt (tgt := 21) hx hb dX11_horse_12 (by decide) (fun _ => hth H locs hP hS) (fun h1 => ?_)
  refine lv_iload_n hx hb dX11_horse_15 rfl (lv_at hl 2 rfl) ?_
  refine lv_bipush (v := 6) hx hb dX11_horse_16 (by decide) ?_
  refine lv_icmp_lt (tgt := 29) hx hb dX11_horse_18 (by decide) (fun h2 => ?_) (fun _ => hth H locs hP hS)
  rcases hw with z | z | z
  · exact absurd z h0
  · exact absurd z h1
  · exfalso
    have h3 := Int32.lt_iff_toInt_lt.mp h2
    have h4 := Int32.lt_iff_toInt_lt.mp z
    have e5 : (5 : Int32).toInt = 5 := by decide
    have e6 : (6 : Int32).toInt = 6 := by decide
    omega

set_option maxRecDepth 100000 in
set_option maxHeartbeats 4000000 in
theorem x_round (l : Launch) (hfl : l.stackTraces = false) {S : zS} {p1 p2 : Int32} (hw : p1 < 0 ∨ S.1 1284 ≤ p1 ∨ p2 < 0 ∨ 5 < p2) : zMx l 10 mX11_round S [.ref 0, .int p1, .int p2] QnI := by
  refine zMx_of (by decide) rfl (fun _ => Nat.le_of_ble_eq_true rfl) ?_
  intro p e R s m args below meth c D cy ad A la hc1 hs1 hC hT htab hP hl
  have hl : lv_has la 3 [(0, .ref (ad 0)), (1, .int p1), (2, .int p2)] := hl
  have hS : va_S A s.heap s.heap [] := va_S.rf
  have hx := hC.1
  have hb := hC.2.1
  have hth : ∀ (H : Heap) (locs : List Loc), va_P D zcl (zwd zW cy ad S) H → va_S A s.heap H locs → W p l e R s m args below meth c H locs 0 0 (vx_MQ below (QnI A) (XQ D cy ad S A) args s 1 6 A) (F0 m 24 la []) := fun H locs hP hS =>
    lthrow hC hfl hT htab rfl (by decide) hc1 hs1 hP hS hl.1 dX11_round_24 dX11_round_27 dX11_round_28 dX11_round_31 rfl rfl rfl
  refine lv_iload_n hx hb dX11_round_0 rfl (lv_at hl 1 rfl) ?_
  refine lv_if_lt (tgt := 24) hx hb dX11_round_1 (by decide) (fun _ => hth _ _ hP hS) (fun h0 => ?_)
  refine lv_iload_n hx hb dX11_round_4 rfl (lv_at hl 1 rfl) ?_
  refine lv_aload_n hx hb dX11_round_5 rfl (lv_at hl 0 rfl) ?_
  refine lgetf (v := .ref (ad 20)) hC hP dX11_round_6 F_X11_33 zW_0 rfl rfl rfl ?_
  refine lgetf (v := .int (S.1 1284)) hC hP dX11_round_9 F_X11_107 zW_20 rfl rfl rfl ?_
  refine lv_icmp_ge (tgt := 24) hx hb dX11_round_12 (by decide) (fun _ => hth _ _ hP hS) (fun h1 => ?_)
  refine lv_iload_n hx hb dX11_round_15 rfl (lv_at hl 2 rfl) ?_
  refine lv_if_lt (tgt := 24) hx hb dX11_round_16 (by decide) (fun _ => hth _ _ hP hS) (fun h2 => ?_)
  refine lv_iload_n hx hb dX11_round_19 rfl (lv_at hl 2 rfl) ?_
  refine lv_iconst (v := 5) hx hb dX11_round_20 (by decide) ?_
  refine lv_icmp_le (tgt := 32) hx hb dX11_round_21 (by decide) (fun h3 => ?_) (fun _ => hth _ _ hP hS)
  rcases hw with z | z | z | z
  · exact absurd z h0
  · exact absurd z h1
  · exact absurd z h2
  · exact absurd z (Int32.not_lt.mpr h3)

set_option maxRecDepth 100000 in
set_option maxHeartbeats 4000000 in
theorem x_row (l : Launch) (hfl : l.stackTraces = false) {S : zS} {p1 : Int32} (hw : p1 < 0 ∨ S.1 193 ≤ p1) : zMx l 10 mX11_row S [.ref 0, .int p1] QnL := by
  refine zMx_of (by decide) rfl (fun _ => Nat.le_of_ble_eq_true rfl) ?_
  intro p e R s m args below meth c D cy ad A la hc1 hs1 hC hT htab hP hl
  have hl : lv_has la 2 [(0, .ref (ad 0)), (1, .int p1)] := hl
  have hS : va_S A s.heap s.heap [] := va_S.rf
  have hx := hC.1
  have hb := hC.2.1
  have hth : ∀ (H : Heap) (locs : List Loc), va_P D zcl (zwd zW cy ad S) H → va_S A s.heap H locs → W p l e R s m args below meth c H locs 0 0 (vx_MQ below (QnL A) (XQ D cy ad S A) args s 1 6 A) (F0 m 15 la []) := fun H locs hP hS =>
    lthrow hC hfl hT htab rfl (by decide) hc1 hs1 hP hS hl.1 dX11_row_15 dX11_row_18 dX11_row_19 dX11_row_22 rfl rfl rfl
  refine lv_iload_n hx hb dX11_row_0 rfl (lv_at hl 1 rfl) ?_
  refine lv_if_lt (tgt := 15) hx hb dX11_row_1 (by decide) (fun _ => hth _ _ hP hS) (fun h0 => ?_)
  refine lv_iload_n hx hb dX11_row_4 rfl (lv_at hl 1 rfl) ?_
  refine lv_aload_n hx hb dX11_row_5 rfl (lv_at hl 0 rfl) ?_
  refine lgetf (v := .ref (ad 3)) hC hP dX11_row_6 F_X11_19 zW_0 rfl rfl rfl ?_
  refine lgetf (v := .int (S.1 193)) hC hP dX11_row_9 F_X11_451 zW_3 rfl rfl rfl ?_
  refine lv_icmp_lt (tgt := 23) hx hb dX11_row_12 (by decide) (fun h1 => ?_) (fun _ => hth _ _ hP hS)
  rcases hw with z | z
  · exact absurd z h0
  · exact absurd z (Int32.not_le.mpr h1)

section
variable {l : Launch} {d : Nat} {mi : zM} {p : Program} {e : Env} {R : Room} {s : State} {m0 : MethodId} {args : Array Value} {below : List Frame} {meth : Method} {cc : Code} {D : va_G} {cy : Nat → ClassId} {ad : Nat → Nat} {A : Nat → Prop} {H : Heap} {locs : List Loc} {cells slots : Nat} {Q : State → Prop} {S : zS} {pc pc' : Nat} {la : Array Slot} {st0 rest : List Value}
theorem lcallXI {idx d' n b ci : Nat} {yi : zM} {fs : List zF} {C : String} {T : u_T} {N : Nat} {as : List Value} (hC : zC zW d mi p R s m0 args meth cc D cy ad A) (hT : zTx A s s.heap) (hP : va_P D zcl (zwd zW cy ad S) H) (hS : va_S A s.heap H locs) (hla : la.size = mi.2.2.2.1)
    (hd : decode mi.2.2.1 pc = .ok (.invokevirtual idx, 3)) (hl : Cond.methodLink mi.1 idx yi.2.1 ∈ zTB) (hy : zyV yi n) (hn : as.length = n) (hV : zW[b]? = some (.inl (ci, fs))) (hci : zcl[ci]? = some (C, T, N)) (hC9 : yi.2.1.cls = C)
    (hM : zMx l d' yi S (.ref b :: as) QnI) (hdd : d' + 1 ≤ d) (hst : (rest.map fun v => v.category).sum ≤ 8) (hst0 : st0 = (as.map (zcv ad)).reverse ++ .ref (ad b) :: rest) (hcs : cells + 1 ≤ R.cells ∧ slots + 6 ≤ R.slots)
    (kx : ∀ (ce : Cell) (q9 : Addr) (H1 : Heap) (locs1 : List Loc), va_P D zcl (zwd zW cy ad S) H1 → va_S A s.heap H1 locs1 → H1[q9]? = some ce → ce.vm = .none → s.vm.findClass RN = some ce.cls → vx_W p l e R s m0 args below meth cc H1 locs1 (cells + 1) (slots + 6) Q (F0 m0 pc la rest) q9) : W p l e R s m0 args below meth cc H locs cells slots Q (F0 m0 pc la st0) := by
  subst hst0; subst hC9
  obtain ⟨y1, y2, y3, y4, y5, y6⟩ := hy
  have hts := hC.2.2.2.2.2.1
  have hR := hC.2.2.2.2.2.2.2.1
  have hK := hC.2.2.2.2.2.2.2.2.1
  have hAd := hC.2.2.2.2.2.2.2.2.2.2.1
  have hXx := hC.2.2.2.2.2.2.2.2.2.2.2
  have hMM := hM D cy ad H.size
  have hfr : d' + 1 ≤ R.frames := Nat.le_trans hdd hR.1
  have hlo : 8 + (yi.2.2.2.1 + 11) + d' * 64 ≤ R.locals := by
    have := hR.2
    have h64 : (d' + 1) * 64 ≤ d * 64 := Nat.mul_le_mul_right 64 hdd
    omega
  have hrec := va_recv hK hP hci (zwd_at hV)
  have hsig : ∀ sig, parseMethodDescriptor yi.2.1.desc = some sig → n = sig.parameters.length := fun sig h => by
    have h2 := y5.2.2
    rw [h] at h2
    exact (Option.some.inj h2).symm
  have hfin := lfin hC hS
  have hgood := zTB_good hts y4
  have hpre : PreV s H yi.2.1.cls (ad b) (va_Pc ((Value.ref b :: as).map (zcv ad)) (fun U => U.heap.size = H.size ∧ va_P D zcl (zwd zW cy ad S) U.heap ∧ va_K D zcl (ztys cy) U ∧ zAd zW.length (fun _ => True) ad ∧ zKx ad (zA zW.length ad H.size) U U.heap ∧ zTx (zA zW.length ad H.size) U U.heap)) (as.map (zcv ad)) :=
    ⟨zblindT, hrec, fun U hU hW => ⟨rfl, by rw [hU], by rw [hU]; exact hP, va_K.moved hW.alike hK, ⟨hAd.1, fun _ _ => trivial⟩, by rw [hU]; exact hXx.to hW hS.2.1 hfin, by rw [hU]; exact hT.to hW hS.2.1 hfin⟩⟩
  refine vx_calli (vx_runV (C := yi.2.1.cls) (Ts := zTB) (own := mi.1) ⟨hC.1, hC.2.1, hC.2.2.1, hC.2.2.2.2.1, hts⟩ hMM
      ⟨⟨rfl, rfl, hfr, hlo, hgood, List.mem_cons_self, hts _ y4, hts _ y3, ⟨y5.1, y5.2.1⟩, hsig, hts _ hl⟩, hts _ y1, hts _ y2⟩ hpre rfl (by rw [List.length_map]; exact hn) hla rfl (lv_room hst) hd hcs) hS (fun q _ h => hfin q h) hfin (fun q _ h => hfin q h) ?_ (fun r u t H1 locs1 _ _ h => absurd h (fun z => z))
  intro E ce q9 u t H1 locs1 ht _ _ hB _ _ hS1 hc1 hc2 hc3
  obtain ⟨rfl, hP1⟩ := hB
  rw [ht] at hP1
  exact kx ce q9 H1 locs1 hP1 hS1 hc1 hc2 hc3
end
section
variable {l : Launch} {d : Nat} {mi : zM} {p : Program} {e : Env} {R : Room} {s : State} {m0 : MethodId} {args : Array Value} {below : List Frame} {meth : Method} {cc : Code} {D : va_G} {cy : Nat → ClassId} {ad : Nat → Nat} {A : Nat → Prop} {H : Heap} {locs : List Loc} {cells slots : Nat} {Q : State → Prop} {S : zS} {pc pc' : Nat} {la : Array Slot} {st0 rest : List Value}
theorem lcallXL {idx d' n b ci : Nat} {yi : zM} {fs : List zF} {C : String} {T : u_T} {N : Nat} {as : List Value} (hC : zC zW d mi p R s m0 args meth cc D cy ad A) (hT : zTx A s s.heap) (hP : va_P D zcl (zwd zW cy ad S) H) (hS : va_S A s.heap H locs) (hla : la.size = mi.2.2.2.1)
    (hd : decode mi.2.2.1 pc = .ok (.invokevirtual idx, 3)) (hl : Cond.methodLink mi.1 idx yi.2.1 ∈ zTB) (hy : zyV yi n) (hn : as.length = n) (hV : zW[b]? = some (.inl (ci, fs))) (hci : zcl[ci]? = some (C, T, N)) (hC9 : yi.2.1.cls = C)
    (hM : zMx l d' yi S (.ref b :: as) QnL) (hdd : d' + 1 ≤ d) (hst : (rest.map fun v => v.category).sum ≤ 8) (hst0 : st0 = (as.map (zcv ad)).reverse ++ .ref (ad b) :: rest) (hcs : cells + 1 ≤ R.cells ∧ slots + 6 ≤ R.slots)
    (kx : ∀ (ce : Cell) (q9 : Addr) (H1 : Heap) (locs1 : List Loc), va_P D zcl (zwd zW cy ad S) H1 → va_S A s.heap H1 locs1 → H1[q9]? = some ce → ce.vm = .none → s.vm.findClass RN = some ce.cls → vx_W p l e R s m0 args below meth cc H1 locs1 (cells + 1) (slots + 6) Q (F0 m0 pc la rest) q9) : W p l e R s m0 args below meth cc H locs cells slots Q (F0 m0 pc la st0) := by
  subst hst0; subst hC9
  obtain ⟨y1, y2, y3, y4, y5, y6⟩ := hy
  have hts := hC.2.2.2.2.2.1
  have hR := hC.2.2.2.2.2.2.2.1
  have hK := hC.2.2.2.2.2.2.2.2.1
  have hAd := hC.2.2.2.2.2.2.2.2.2.2.1
  have hXx := hC.2.2.2.2.2.2.2.2.2.2.2
  have hMM := hM D cy ad H.size
  have hfr : d' + 1 ≤ R.frames := Nat.le_trans hdd hR.1
  have hlo : 8 + (yi.2.2.2.1 + 11) + d' * 64 ≤ R.locals := by
    have := hR.2
    have h64 : (d' + 1) * 64 ≤ d * 64 := Nat.mul_le_mul_right 64 hdd
    omega
  have hrec := va_recv hK hP hci (zwd_at hV)
  have hsig : ∀ sig, parseMethodDescriptor yi.2.1.desc = some sig → n = sig.parameters.length := fun sig h => by
    have h2 := y5.2.2
    rw [h] at h2
    exact (Option.some.inj h2).symm
  have hfin := lfin hC hS
  have hgood := zTB_good hts y4
  have hpre : PreV s H yi.2.1.cls (ad b) (va_Pc ((Value.ref b :: as).map (zcv ad)) (fun U => U.heap.size = H.size ∧ va_P D zcl (zwd zW cy ad S) U.heap ∧ va_K D zcl (ztys cy) U ∧ zAd zW.length (fun _ => True) ad ∧ zKx ad (zA zW.length ad H.size) U U.heap ∧ zTx (zA zW.length ad H.size) U U.heap)) (as.map (zcv ad)) :=
    ⟨zblindT, hrec, fun U hU hW => ⟨rfl, by rw [hU], by rw [hU]; exact hP, va_K.moved hW.alike hK, ⟨hAd.1, fun _ _ => trivial⟩, by rw [hU]; exact hXx.to hW hS.2.1 hfin, by rw [hU]; exact hT.to hW hS.2.1 hfin⟩⟩
  refine vx_calll (vx_runV (C := yi.2.1.cls) (Ts := zTB) (own := mi.1) ⟨hC.1, hC.2.1, hC.2.2.1, hC.2.2.2.2.1, hts⟩ hMM
      ⟨⟨rfl, rfl, hfr, hlo, hgood, List.mem_cons_self, hts _ y4, hts _ y3, ⟨y5.1, y5.2.1⟩, hsig, hts _ hl⟩, hts _ y1, hts _ y2⟩ hpre rfl (by rw [List.length_map]; exact hn) hla rfl (lv_room hst) hd hcs) hS (fun q _ h => hfin q h) hfin (fun q _ h => hfin q h) ?_ (fun r u t H1 locs1 _ _ h => absurd h (fun z => z))
  intro E ce q9 u t H1 locs1 ht _ _ hB _ _ hS1 hc1 hc2 hc3
  obtain ⟨rfl, hP1⟩ := hB
  rw [ht] at hP1
  exact kx ce q9 H1 locs1 hP1 hS1 hc1 hc2 hc3
end
theorem CM_fence : Cond.methodLink RL 7 yX11_fence ∈ zTB := (zTB_5 (i := 216) (by decide +kernel) rfl)
theorem CM_horse : Cond.methodLink RL 15 yX11_horse ∈ zTB := (zTB_6 (i := 44) (by decide +kernel) rfl)
theorem CM_round : Cond.methodLink RL 18 yX11_round ∈ zTB := (zTB_6 (i := 51) (by decide +kernel) rfl)
theorem CM_row : Cond.methodLink RL 21 yX11_row ∈ zTB := (zTB_6 (i := 58) (by decide +kernel) rfl)
set_option maxRecDepth 100000 in
set_option maxHeartbeats 4000000 in
theorem wT_fence (l : Launch) {S : zS} {p1 p2 : Int32} {v : Int32} (h : f_X11_fence p1 p2 (S.1 323) (S.2.1 6) (S.2.1 7) (S.2.1 8) = some v) : zMw [(0, 10, 13, 13)] l 12 mL_fence S [.ref 0, .int p1, .int p2, .ref 87] (some (.int 0)) (zap S ([], [], [(87, vp_updL (S.2.2 87) 0 v.toInt64)])) := by
  refine zMw_of (by decide) rfl (fun _ => Nat.le_of_ble_eq_true rfl) ?_
  intro p e R s m args below meth c D cy ad A la hc1 hs1 hC hT htab hP hl
  have hl : lv_has la 5 [(0, .ref (ad 0)), (1, .int p1), (2, .int p2), (3, .ref (ad 87))] := hl
  have hS : va_S A s.heap s.heap [] := va_S.rf
  have hx := hC.1
  have hb := hC.2.1
  have hlocks : meth.locks = false := hC.2.2.2.2.2.2.1
  refine lv_aload_n hx hb dL_fence_0 rfl (lv_at hl 3 rfl) ?_
  refine lv_iconst (v := 0) hx hb dL_fence_1 (by decide) ?_
  refine lv_aload_n hx hb dL_fence_2 rfl (lv_at hl 0 rfl) ?_
  refine lv_iload_n hx hb dL_fence_3 rfl (lv_at hl 1 rfl) ?_
  refine lv_iload_n hx hb dL_fence_4 rfl (lv_at hl 2 rfl) ?_
  refine lcallV (yi := mX11_fence) (as := [.int p1, .int p2]) (rest := [.int 0, .ref (ad 87)]) hC hP hS hl.1 dL_fence_5 ML_L_7 Yv_X11_fence rfl zW_0 rfl rfl (zMt_at (t_X11_fence l S h) (zle_c rfl zle_n) (zle_c rfl (zle_c rfl (zle_c rfl zle_n))) zle_n) (by decide) (Nat.le_of_ble_eq_true rfl) rfl ⟨Nat.zero_le _, Nat.zero_le _⟩ rfl (fun H locs hP hS => ?_)
  rw [zap_id (S := S) (M := ([(323, S.1 323)], [(6, S.2.1 6), (7, S.2.1 7), (8, S.2.1 8)], [])) (zle_c rfl zle_n) (zle_c rfl (zle_c rfl (zle_c rfl zle_n))) zle_n] at hP
  refine lv_i2l (v := v.toInt64) hx hb dL_fence_8 rfl ?_
  refine va_last hx hb hC.2.2.2.2.2.2.2.2.1 hP (hC.2.2.2.2.2.2.2.2.2.2.1.D cy _) hS 87 1 (zwd_at zW_87) rfl (ix_in (i := 0) (n := 1) (by decide)) dL_fence_9 (fun H1 locs1 q1 _ hS => ?_)
  have e : (zwd zW cy ad S).set 87 (ad 87, .inl (cy 1, 1, .inr (.inl (vp_updL (S.2.2 87) 0 v.toInt64)))) = zwd zW cy ad (zap S ([], [], [(87, vp_updL (S.2.2 87) 0 v.toInt64)])) := zwd_setl (σ := S) (L := ([], [], [])) zW_87 _
  have hP : va_P D zcl (zwd zW cy ad (zap S ([], [], [(87, vp_updL (S.2.2 87) 0 v.toInt64)]))) H1 := by
    rw [← e]
    exact q1
  refine lv_goto (tgt := 17) hx hb dL_fence_10 (by decide) ?_
  refine lv_iconst (v := 0) hx hb dL_fence_17 (by decide) ?_
  refine W.widen (k := 1) (n := 6) (by omega) (by omega) ?_
  exact W.zret (ty := .int) hx hb hC.2.2.2.1 rfl (fun t ht _ => ⟨rfl, by rw [ht]; exact hP, hS.F ht⟩) hS.2.2 dL_fence_18 hlocks
set_option maxRecDepth 100000 in
set_option maxHeartbeats 4000000 in
theorem wX_fence (l : Launch) (hfl : l.stackTraces = false) {S : zS} {p1 p2 rn : Int32} (hcl : f_X1_hasFence p1 (S.1 323) = some rn) (hw : rn = 0 ∨ p2 < 0 ∨ 2 < p2) : zMw [(0, 10, 13, 13)] l 12 mL_fence S [.ref 0, .int p1, .int p2, .ref 87] (some (.int 1)) S := by
  refine zMw_of (by decide) rfl (fun _ => Nat.le_of_ble_eq_true rfl) ?_
  intro p e R s m args below meth c D cy ad A la hc1 hs1 hC hT htab hP hl
  have hl : lv_has la 5 [(0, .ref (ad 0)), (1, .int p1), (2, .int p2), (3, .ref (ad 87))] := hl
  have hS : va_S A s.heap s.heap [] := va_S.rf
  have hx := hC.1
  have hb := hC.2.1
  have hlocks : meth.locks = false := hC.2.2.2.2.2.2.1
  refine lv_aload_n hx hb dL_fence_0 rfl (lv_at hl 3 rfl) ?_
  refine lv_iconst (v := 0) hx hb dL_fence_1 (by decide) ?_
  refine lv_aload_n hx hb dL_fence_2 rfl (lv_at hl 0 rfl) ?_
  refine lv_iload_n hx hb dL_fence_3 rfl (lv_at hl 1 rfl) ?_
  refine lv_iload_n hx hb dL_fence_4 rfl (lv_at hl 2 rfl) ?_
  refine lcallXI (yi := mX11_fence) (as := [.int p1, .int p2]) (rest := [.int 0, .ref (ad 87)]) hC hT hP hS hl.1 dL_fence_5 CM_fence Yv_X11_fence rfl zW_0 rfl rfl (x_fence l hfl hcl hw) (by decide) (Nat.le_of_ble_eq_true rfl) rfl ⟨by omega, by omega⟩ (fun ce q9 H locs hP hS k1 k2 k3 => ?_)
  refine vx_catch (own := RL) (name := RN) (E := RN) hC.2.2.2.2.1 [] ⟨0, 10, 13, 13⟩ [] htab (fun z hz => nomatch hz) (by decide) (by decide) (hC.2.2.2.2.2.1 _ C_cat) (va_Nw.use rfl (hT.2.2 _ List.mem_cons_self)) k1 k2 k3 ?_
  refine lv_astore (lv' := [(4, .ref q9), (0, .ref (ad 0)), (1, .int p1), (2, .int p2), (3, .ref (ad 87))]) hx hb dL_fence_13 hl (by decide) rfl (fun la hl => ?_)
  refine lv_iconst (v := 1) hx hb dL_fence_15 (by decide) ?_
  refine W.widen (k := 1) (n := 6) (by omega) (by omega) ?_
  exact W.zret (ty := .int) hx hb hC.2.2.2.1 rfl (fun t ht _ => ⟨rfl, by rw [ht]; exact hP, hS.F ht⟩) hS.2.2 dL_fence_16 hlocks
set_option maxRecDepth 100000 in
set_option maxHeartbeats 4000000 in
theorem wT_horse (l : Launch) {S : zS} {p1 p2 : Int32} {v : Int32} (h : f_X11_horse p1 p2 (S.1 326) (S.2.1 10) = some v) : zMw [(0, 10, 13, 13)] l 12 mL_horse S [.ref 0, .int p1, .int p2, .ref 87] (some (.int 0)) (zap S ([], [], [(87, vp_updL (S.2.2 87) 0 v.toInt64)])) := by
  refine zMw_of (by decide) rfl (fun _ => Nat.le_of_ble_eq_true rfl) ?_
  intro p e R s m args below meth c D cy ad A la hc1 hs1 hC hT htab hP hl
  have hl : lv_has la 5 [(0, .ref (ad 0)), (1, .int p1), (2, .int p2), (3, .ref (ad 87))] := hl
  have hS : va_S A s.heap s.heap [] := va_S.rf
  have hx := hC.1
  have hb := hC.2.1
  have hlocks : meth.locks = false := hC.2.2.2.2.2.2.1
  refine lv_aload_n hx hb dL_horse_0 rfl (lv_at hl 3 rfl) ?_
  refine lv_iconst (v := 0) hx hb dL_horse_1 (by decide) ?_
  refine lv_aload_n hx hb dL_horse_2 rfl (lv_at hl 0 rfl) ?_
  refine lv_iload_n hx hb dL_horse_3 rfl (lv_at hl 1 rfl) ?_
  refine lv_iload_n hx hb dL_horse_4 rfl (lv_at hl 2 rfl) ?_
  refine lcallV (yi := mX11_horse) (as := [.int p1, .int p2]) (rest := [.int 0, .ref (ad 87)]) hC hP hS hl.1 dL_horse_5 ML_L_15 Yv_X11_horse rfl zW_0 rfl rfl (zMt_at (t_X11_horse l S h) (zle_c rfl zle_n) (zle_c rfl zle_n) zle_n) (by decide) (Nat.le_of_ble_eq_true rfl) rfl ⟨Nat.zero_le _, Nat.zero_le _⟩ rfl (fun H locs hP hS => ?_)
  rw [zap_id (S := S) (M := ([(326, S.1 326)], [(10, S.2.1 10)], [])) (zle_c rfl zle_n) (zle_c rfl zle_n) zle_n] at hP
  refine lv_i2l (v := v.toInt64) hx hb dL_horse_8 rfl ?_
  refine va_last hx hb hC.2.2.2.2.2.2.2.2.1 hP (hC.2.2.2.2.2.2.2.2.2.2.1.D cy _) hS 87 1 (zwd_at zW_87) rfl (ix_in (i := 0) (n := 1) (by decide)) dL_horse_9 (fun H1 locs1 q1 _ hS => ?_)
  have e : (zwd zW cy ad S).set 87 (ad 87, .inl (cy 1, 1, .inr (.inl (vp_updL (S.2.2 87) 0 v.toInt64)))) = zwd zW cy ad (zap S ([], [], [(87, vp_updL (S.2.2 87) 0 v.toInt64)])) := zwd_setl (σ := S) (L := ([], [], [])) zW_87 _
  have hP : va_P D zcl (zwd zW cy ad (zap S ([], [], [(87, vp_updL (S.2.2 87) 0 v.toInt64)]))) H1 := by
    rw [← e]
    exact q1
  refine lv_goto (tgt := 17) hx hb dL_horse_10 (by decide) ?_
  refine lv_iconst (v := 0) hx hb dL_horse_17 (by decide) ?_
  refine W.widen (k := 1) (n := 6) (by omega) (by omega) ?_
  exact W.zret (ty := .int) hx hb hC.2.2.2.1 rfl (fun t ht _ => ⟨rfl, by rw [ht]; exact hP, hS.F ht⟩) hS.2.2 dL_horse_18 hlocks
set_option maxRecDepth 100000 in
set_option maxHeartbeats 4000000 in
theorem wX_horse (l : Launch) (hfl : l.stackTraces = false) {S : zS} {p1 p2 rn : Int32} (hcl : f_X1_hasHorse p1 (S.1 326) = some rn) (hw : rn = 0 ∨ p2 < 0 ∨ 5 < p2) : zMw [(0, 10, 13, 13)] l 12 mL_horse S [.ref 0, .int p1, .int p2, .ref 87] (some (.int 1)) S := by
  refine zMw_of (by decide) rfl (fun _ => Nat.le_of_ble_eq_true rfl) ?_
  intro p e R s m args below meth c D cy ad A la hc1 hs1 hC hT htab hP hl
  have hl : lv_has la 5 [(0, .ref (ad 0)), (1, .int p1), (2, .int p2), (3, .ref (ad 87))] := hl
  have hS : va_S A s.heap s.heap [] := va_S.rf
  have hx := hC.1
  have hb := hC.2.1
  have hlocks : meth.locks = false := hC.2.2.2.2.2.2.1
  refine lv_aload_n hx hb dL_horse_0 rfl (lv_at hl 3 rfl) ?_
  refine lv_iconst (v := 0) hx hb dL_horse_1 (by decide) ?_
  refine lv_aload_n hx hb dL_horse_2 rfl (lv_at hl 0 rfl) ?_
  refine lv_iload_n hx hb dL_horse_3 rfl (lv_at hl 1 rfl) ?_
  refine lv_iload_n hx hb dL_horse_4 rfl (lv_at hl 2 rfl) ?_
  refine lcallXI (yi := mX11_horse) (as := [.int p1, .int p2]) (rest := [.int 0, .ref (ad 87)]) hC hT hP hS hl.1 dL_horse_5 CM_horse Yv_X11_horse rfl zW_0 rfl rfl (x_horse l hfl hcl hw) (by decide) (Nat.le_of_ble_eq_true rfl) rfl ⟨by omega, by omega⟩ (fun ce q9 H locs hP hS k1 k2 k3 => ?_)
  refine vx_catch (own := RL) (name := RN) (E := RN) hC.2.2.2.2.1 [] ⟨0, 10, 13, 13⟩ [] htab (fun z hz => nomatch hz) (by decide) (by decide) (hC.2.2.2.2.2.1 _ C_cat) (va_Nw.use rfl (hT.2.2 _ List.mem_cons_self)) k1 k2 k3 ?_
  refine lv_astore (lv' := [(4, .ref q9), (0, .ref (ad 0)), (1, .int p1), (2, .int p2), (3, .ref (ad 87))]) hx hb dL_horse_13 hl (by decide) rfl (fun la hl => ?_)
  refine lv_iconst (v := 1) hx hb dL_horse_15 (by decide) ?_
  refine W.widen (k := 1) (n := 6) (by omega) (by omega) ?_
  exact W.zret (ty := .int) hx hb hC.2.2.2.1 rfl (fun t ht _ => ⟨rfl, by rw [ht]; exact hP, hS.F ht⟩) hS.2.2 dL_horse_16 hlocks
set_option maxRecDepth 100000 in
set_option maxHeartbeats 4000000 in
theorem wT_round (l : Launch) {S : zS} {p1 p2 : Int32} {v : Int32} (h : f_X11_round p1 p2 (S.1 1284) (S.2.1 21) (S.2.1 22) (S.2.1 23) (S.2.1 24) (S.2.1 25) = some v) : zMw [(0, 10, 13, 13)] l 12 mL_round S [.ref 0, .int p1, .int p2, .ref 87] (some (.int 0)) (zap S ([], [], [(87, vp_updL (S.2.2 87) 0 v.toInt64)])) := by
  refine zMw_of (by decide) rfl (fun _ => Nat.le_of_ble_eq_true rfl) ?_
  intro p e R s m args below meth c D cy ad A la hc1 hs1 hC hT htab hP hl
  have hl : lv_has la 5 [(0, .ref (ad 0)), (1, .int p1), (2, .int p2), (3, .ref (ad 87))] := hl
  have hS : va_S A s.heap s.heap [] := va_S.rf
  have hx := hC.1
  have hb := hC.2.1
  have hlocks : meth.locks = false := hC.2.2.2.2.2.2.1
  refine lv_aload_n hx hb dL_round_0 rfl (lv_at hl 3 rfl) ?_
  refine lv_iconst (v := 0) hx hb dL_round_1 (by decide) ?_
  refine lv_aload_n hx hb dL_round_2 rfl (lv_at hl 0 rfl) ?_
  refine lv_iload_n hx hb dL_round_3 rfl (lv_at hl 1 rfl) ?_
  refine lv_iload_n hx hb dL_round_4 rfl (lv_at hl 2 rfl) ?_
  refine lcallV (yi := mX11_round) (as := [.int p1, .int p2]) (rest := [.int 0, .ref (ad 87)]) hC hP hS hl.1 dL_round_5 ML_L_18 Yv_X11_round rfl zW_0 rfl rfl (zMt_at (t_X11_round l S h) (zle_c rfl zle_n) (zle_c rfl (zle_c rfl (zle_c rfl (zle_c rfl (zle_c rfl zle_n))))) zle_n) (by decide) (Nat.le_of_ble_eq_true rfl) rfl ⟨Nat.zero_le _, Nat.zero_le _⟩ rfl (fun H locs hP hS => ?_)
  rw [zap_id (S := S) (M := ([(1284, S.1 1284)], [(21, S.2.1 21), (22, S.2.1 22), (23, S.2.1 23), (24, S.2.1 24), (25, S.2.1 25)], [])) (zle_c rfl zle_n) (zle_c rfl (zle_c rfl (zle_c rfl (zle_c rfl (zle_c rfl zle_n))))) zle_n] at hP
  refine lv_i2l (v := v.toInt64) hx hb dL_round_8 rfl ?_
  refine va_last hx hb hC.2.2.2.2.2.2.2.2.1 hP (hC.2.2.2.2.2.2.2.2.2.2.1.D cy _) hS 87 1 (zwd_at zW_87) rfl (ix_in (i := 0) (n := 1) (by decide)) dL_round_9 (fun H1 locs1 q1 _ hS => ?_)
  have e : (zwd zW cy ad S).set 87 (ad 87, .inl (cy 1, 1, .inr (.inl (vp_updL (S.2.2 87) 0 v.toInt64)))) = zwd zW cy ad (zap S ([], [], [(87, vp_updL (S.2.2 87) 0 v.toInt64)])) := zwd_setl (σ := S) (L := ([], [], [])) zW_87 _
  have hP : va_P D zcl (zwd zW cy ad (zap S ([], [], [(87, vp_updL (S.2.2 87) 0 v.toInt64)]))) H1 := by
    rw [← e]
    exact q1
  refine lv_goto (tgt := 17) hx hb dL_round_10 (by decide) ?_
  refine lv_iconst (v := 0) hx hb dL_round_17 (by decide) ?_
  refine W.widen (k := 1) (n := 6) (by omega) (by omega) ?_
  exact W.zret (ty := .int) hx hb hC.2.2.2.1 rfl (fun t ht _ => ⟨rfl, by rw [ht]; exact hP, hS.F ht⟩) hS.2.2 dL_round_18 hlocks
set_option maxRecDepth 100000 in
set_option maxHeartbeats 4000000 in
theorem wX_round (l : Launch) (hfl : l.stackTraces = false) {S : zS} {p1 p2 : Int32} (hw : p1 < 0 ∨ S.1 1284 ≤ p1 ∨ p2 < 0 ∨ 5 < p2) : zMw [(0, 10, 13, 13)] l 12 mL_round S [.ref 0, .int p1, .int p2, .ref 87] (some (.int 1)) S := by
  refine zMw_of (by decide) rfl (fun _ => Nat.le_of_ble_eq_true rfl) ?_
  intro p e R s m args below meth c D cy ad A la hc1 hs1 hC hT htab hP hl
  have hl : lv_has la 5 [(0, .ref (ad 0)), (1, .int p1), (2, .int p2), (3, .ref (ad 87))] := hl
  have hS : va_S A s.heap s.heap [] := va_S.rf
  have hx := hC.1
  have hb := hC.2.1
  have hlocks : meth.locks = false := hC.2.2.2.2.2.2.1
  refine lv_aload_n hx hb dL_round_0 rfl (lv_at hl 3 rfl) ?_
  refine lv_iconst (v := 0) hx hb dL_round_1 (by decide) ?_
  refine lv_aload_n hx hb dL_round_2 rfl (lv_at hl 0 rfl) ?_
  refine lv_iload_n hx hb dL_round_3 rfl (lv_at hl 1 rfl) ?_
  refine lv_iload_n hx hb dL_round_4 rfl (lv_at hl 2 rfl) ?_
  refine lcallXI (yi := mX11_round) (as := [.int p1, .int p2]) (rest := [.int 0, .ref (ad 87)]) hC hT hP hS hl.1 dL_round_5 CM_round Yv_X11_round rfl zW_0 rfl rfl (x_round l hfl hw) (by decide) (Nat.le_of_ble_eq_true rfl) rfl ⟨by omega, by omega⟩ (fun ce q9 H locs hP hS k1 k2 k3 => ?_)
  refine vx_catch (own := RL) (name := RN) (E := RN) hC.2.2.2.2.1 [] ⟨0, 10, 13, 13⟩ [] htab (fun z hz => nomatch hz) (by decide) (by decide) (hC.2.2.2.2.2.1 _ C_cat) (va_Nw.use rfl (hT.2.2 _ List.mem_cons_self)) k1 k2 k3 ?_
  refine lv_astore (lv' := [(4, .ref q9), (0, .ref (ad 0)), (1, .int p1), (2, .int p2), (3, .ref (ad 87))]) hx hb dL_round_13 hl (by decide) rfl (fun la hl => ?_)
  refine lv_iconst (v := 1) hx hb dL_round_15 (by decide) ?_
  refine W.widen (k := 1) (n := 6) (by omega) (by omega) ?_
  exact W.zret (ty := .int) hx hb hC.2.2.2.1 rfl (fun t ht _ => ⟨rfl, by rw [ht]; exact hP, hS.F ht⟩) hS.2.2 dL_round_16 hlocks
set_option maxRecDepth 100000 in
set_option maxHeartbeats 4000000 in
theorem wT_row (l : Launch) {S : zS} {p1 : Int32} {v : Int64} (h : f_X11_row p1 (S.1 193) (S.2.2 4) = some v) : zMw [(0, 8, 11, 13)] l 12 mL_row S [.ref 0, .int p1, .ref 87] (some (.int 0)) (zap S ([], [], [(87, vp_updL (S.2.2 87) 0 v)])) := by
  refine zMw_of (by decide) rfl (fun _ => Nat.le_of_ble_eq_true rfl) ?_
  intro p e R s m args below meth c D cy ad A la hc1 hs1 hC hT htab hP hl
  have hl : lv_has la 4 [(0, .ref (ad 0)), (1, .int p1), (2, .ref (ad 87))] := hl
  have hS : va_S A s.heap s.heap [] := va_S.rf
  have hx := hC.1
  have hb := hC.2.1
  have hlocks : meth.locks = false := hC.2.2.2.2.2.2.1
  refine lv_aload_n hx hb dL_row_0 rfl (lv_at hl 2 rfl) ?_
  refine lv_iconst (v := 0) hx hb dL_row_1 (by decide) ?_
  refine lv_aload_n hx hb dL_row_2 rfl (lv_at hl 0 rfl) ?_
  refine lv_iload_n hx hb dL_row_3 rfl (lv_at hl 1 rfl) ?_
  refine lcallV (yi := mX11_row) (as := [.int p1]) (rest := [.int 0, .ref (ad 87)]) hC hP hS hl.1 dL_row_4 ML_L_21 Yv_X11_row rfl zW_0 rfl rfl (zMt_at (t_X11_row l S h) (zle_c rfl zle_n) zle_n (zle_c rfl zle_n)) (by decide) (Nat.le_of_ble_eq_true rfl) rfl ⟨Nat.zero_le _, Nat.zero_le _⟩ rfl (fun H locs hP hS => ?_)
  rw [zap_id (S := S) (M := ([(193, S.1 193)], [], [(4, S.2.2 4)])) (zle_c rfl zle_n) zle_n (zle_c rfl zle_n)] at hP
  refine va_last hx hb hC.2.2.2.2.2.2.2.2.1 hP (hC.2.2.2.2.2.2.2.2.2.2.1.D cy _) hS 87 1 (zwd_at zW_87) rfl (ix_in (i := 0) (n := 1) (by decide)) dL_row_7 (fun H1 locs1 q1 _ hS => ?_)
  have e : (zwd zW cy ad S).set 87 (ad 87, .inl (cy 1, 1, .inr (.inl (vp_updL (S.2.2 87) 0 v)))) = zwd zW cy ad (zap S ([], [], [(87, vp_updL (S.2.2 87) 0 v)])) := zwd_setl (σ := S) (L := ([], [], [])) zW_87 _
  have hP : va_P D zcl (zwd zW cy ad (zap S ([], [], [(87, vp_updL (S.2.2 87) 0 v)]))) H1 := by
    rw [← e]
    exact q1
  refine lv_goto (tgt := 14) hx hb dL_row_8 (by decide) ?_
  refine lv_iconst (v := 0) hx hb dL_row_14 (by decide) ?_
  refine W.widen (k := 1) (n := 6) (by omega) (by omega) ?_
  exact W.zret (ty := .int) hx hb hC.2.2.2.1 rfl (fun t ht _ => ⟨rfl, by rw [ht]; exact hP, hS.F ht⟩) hS.2.2 dL_row_15 hlocks
set_option maxRecDepth 100000 in
set_option maxHeartbeats 4000000 in
theorem wX_row (l : Launch) (hfl : l.stackTraces = false) {S : zS} {p1 : Int32} (hw : p1 < 0 ∨ S.1 193 ≤ p1) : zMw [(0, 8, 11, 13)] l 12 mL_row S [.ref 0, .int p1, .ref 87] (some (.int 1)) S := by
  refine zMw_of (by decide) rfl (fun _ => Nat.le_of_ble_eq_true rfl) ?_
  intro p e R s m args below meth c D cy ad A la hc1 hs1 hC hT htab hP hl
  have hl : lv_has la 4 [(0, .ref (ad 0)), (1, .int p1), (2, .ref (ad 87))] := hl
  have hS : va_S A s.heap s.heap [] := va_S.rf
  have hx := hC.1
  have hb := hC.2.1
  have hlocks : meth.locks = false := hC.2.2.2.2.2.2.1
  refine lv_aload_n hx hb dL_row_0 rfl (lv_at hl 2 rfl) ?_
  refine lv_iconst (v := 0) hx hb dL_row_1 (by decide) ?_
  refine lv_aload_n hx hb dL_row_2 rfl (lv_at hl 0 rfl) ?_
  refine lv_iload_n hx hb dL_row_3 rfl (lv_at hl 1 rfl) ?_
  refine lcallXL (yi := mX11_row) (as := [.int p1]) (rest := [.int 0, .ref (ad 87)]) hC hT hP hS hl.1 dL_row_4 CM_row Yv_X11_row rfl zW_0 rfl rfl (x_row l hfl hw) (by decide) (Nat.le_of_ble_eq_true rfl) rfl ⟨by omega, by omega⟩ (fun ce q9 H locs hP hS k1 k2 k3 => ?_)
  refine vx_catch (own := RL) (name := RN) (E := RN) hC.2.2.2.2.1 [] ⟨0, 8, 11, 13⟩ [] htab (fun z hz => nomatch hz) (by decide) (by decide) (hC.2.2.2.2.2.1 _ C_cat) (va_Nw.use rfl (hT.2.2 _ List.mem_cons_self)) k1 k2 k3 ?_
  refine lv_astore_n (lv' := [(3, .ref q9), (0, .ref (ad 0)), (1, .int p1), (2, .ref (ad 87))]) hx hb dL_row_11 rfl hl (by decide) rfl (fun la hl => ?_)
  refine lv_iconst (v := 1) hx hb dL_row_12 (by decide) ?_
  refine W.widen (k := 1) (n := 6) (by omega) (by omega) ?_
  exact W.zret (ty := .int) hx hb hC.2.2.2.1 rfl (fun t ht _ => ⟨rfl, by rw [ht]; exact hP, hS.F ht⟩) hS.2.2 dL_row_13 hlocks
