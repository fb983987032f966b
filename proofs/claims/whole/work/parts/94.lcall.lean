/-! CALLS at the machine's own level: over the fixed world, with any count of cells and any goal behind -/
def RN : String := "java/util/NoSuchElementException"
def zDc : List Cond := [Cond.castable RN RN, Cond.declares ⟨"java/lang/RuntimeException", "<init>", "()V"⟩, Cond.declares ⟨"java/lang/Exception", "<init>", "()V"⟩, Cond.declares ⟨"java/lang/Throwable", "<init>", "()V"⟩]
theorem zDc_on : ∀ w ∈ zDc, w.onTables = true := by decide +kernel
theorem zDc_warm {w : Cond} (hw : w ∈ zDc) {s U : State} (hW : s.WarmedH U.vm) (h : va_Nw w s) : va_Nw w U := by
  simp only [zDc, List.mem_cons, List.not_mem_nil, or_false] at hw
  rcases hw with rfl | rfl | rfl | rfl
  · exact va_Nw.warmC hW h
  all_goals exact va_tabs rfl (rfl : (s.setVm U.vm).vm = U.vm) (by rw [Cond.declares_setVm hW.alike]; exact h)
/-- what a throw asks for -/
def zTx (A : Nat → Prop) (U : State) (H : Heap) : Prop := vx_Zq Bundle.tN "UNASSIGNED_STACK" Bundle.steD A U H ∧ vx_Zq Bundle.tN "SUPPRESSED_SENTINEL" Bundle.listD A U H ∧ ∀ w ∈ zDc, va_Nw w U
theorem zTx.to {A B : Nat → Prop} {s U : State} {H H1 : Heap} (h : zTx A s H) (hW : s.WarmedH U.vm) (hq : ∀ a : Nat, a < H.size → ¬ A a → H1[a]? = H[a]?) (hAB : ∀ q, B q → A q) : zTx B U H1 := by
  obtain ⟨h1, h2, h3⟩ := h
  exact ⟨((vx_Zq.moved hW.alike h1).kept hq).narrow hAB, ((vx_Zq.moved hW.alike h2).kept hq).narrow hAB, fun w hw => zDc_warm hw hW (h3 w hw)⟩
theorem zTx.same {A : Nat → Prop} {s U : State} {H : Heap} (h : zTx A s H) (hv : U.vm = s.vm) : zTx A U H := by
  obtain ⟨h1, h2, h3⟩ := h
  have ha : s.vm.Alike U.vm := by rw [hv]; exact Vm.Alike.refl s.vm
  exact ⟨vx_Zq.moved ha h1, vx_Zq.moved ha h2, fun w hw => va_Nw.same (zDc_on w hw) hv.symm (h3 w hw)⟩
section
variable {l : Launch} {V : List zSh} {d : Nat} {mi : zM} {p : Program} {e : Env} {R : Room} {s : State} {m0 : MethodId} {args : Array Value} {below : List Frame} {meth : Method} {cc : Code} {D : va_G} {cy : Nat → ClassId} {ad : Nat → Nat} {A : Nat → Prop} {H : Heap} {locs : List Loc} {cells slots : Nat} {Q : State → Prop} {S : zS} {pc pc' : Nat} {la : Array Slot} {st0 rest : List Value}
theorem lcall {r : Option Value} {A1 : Nat → Prop} {S1 : zS} {a : Array Value} {mc ms : Nat}
    (hr : va_Run p l e R s m0 args below meth cc H locs cells slots mc ms (F0 m0 pc la st0) rest (zQ V D cy ad A1 r S1 a) A1) (hS : va_S A s.heap H locs) (hA : ∀ q, A1 q → A q)
    (kk : ∀ (H1 : Heap) (locs1 : List Loc), va_P D zcl (zwd V cy ad S1) H1 → va_S A s.heap H1 locs1 → W p l e R s m0 args below meth cc H1 locs1 (cells + mc) (slots + ms) Q (F0 m0 (pc + 3) la ((r.map (zcv ad)).toList ++ rest))) : W p l e R s m0 args below meth cc H locs cells slots Q (F0 m0 pc la st0) := by
  intro T hT X
  obtain ⟨v, st₀, t, T', L', h0, X', hL, e1, e2, ⟨hv, hb, hz, hk⟩, stp⟩ := hr T hT X
  cases hv
  rw [h0] at hz hk
  obtain ⟨t2, a1, b1⟩ := kk T'.heap (locs ++ L') (by rw [e1]; exact hb)
    ⟨Nat.le_trans hS.1 (by rw [e1]; exact hz), fun q h1 h2 => by rw [e1, hk q (Nat.lt_of_lt_of_le h1 hS.1) (fun z => h2 (hA q z))]; exact hS.2.1 q h1 h2, fun q hq => by
      rcases List.mem_append.mp hq with h | h
      · exact hS.2.2 q h
      · exact hA _ (hL q h)⟩ T' rfl X'
  exact ⟨t2, stp t2 a1, b1⟩
theorem lfin (hC : zC V d mi p R s m0 args meth cc D cy ad A) (hS : va_S A s.heap H locs) : ∀ q, zA V.length ad H.size q → A q := by
  intro q h
  rcases h with ⟨k, hk, rfl⟩ | h
  · exact hC.2.2.2.2.2.2.2.2.2.2.1.2 k hk
  · exact hC.2.2.2.2.2.2.2.2.2.1 q (Nat.le_trans hS.1 h)
theorem lcallV {idx d' n b ci : Nat} {yi : zM} {fs : List zF} {C : String} {T : u_T} {N : Nat} {as : List Value} {rv : Option Value} {M : zL} (hC : zC V d mi p R s m0 args meth cc D cy ad A) (hP : va_P D zcl (zwd V cy ad S) H) (hS : va_S A s.heap H locs) (hla : la.size = mi.2.2.2.1)
    (hd : decode mi.2.2.1 pc = .ok (.invokevirtual idx, 3)) (hl : zml mi.1 idx yi.2.1) (hy : zyV yi n) (hn : as.length = n) (hV : V[b]? = some (.inl (ci, fs))) (hci : zcl[ci]? = some (C, T, N)) (hC9 : yi.2.1.cls = C)
    (hM : zMt l V d' yi S ([], [], []) (.ref b :: as) rv M) (hdd : d' + 1 ≤ d) (hst : (rest.map fun v => v.category).sum ≤ 8) (hst0 : st0 = (as.map (zcv ad)).reverse ++ .ref (ad b) :: rest) (hcs : cells ≤ R.cells ∧ slots ≤ R.slots) (hp : pc + 3 = pc')
    (kk : ∀ (H1 : Heap) (locs1 : List Loc), va_P D zcl (zwd V cy ad (zap S M)) H1 → va_S A s.heap H1 locs1 → W p l e R s m0 args below meth cc H1 locs1 cells slots Q (F0 m0 pc' la ((rv.map (zcv ad)).toList ++ rest))) : W p l e R s m0 args below meth cc H locs cells slots Q (F0 m0 pc la st0) := by
  subst hp; subst hst0; subst hC9
  obtain ⟨y1, y2, y3, y4, y5, y6⟩ := hy
  have hts := hC.2.2.2.2.2.1
  have hR := hC.2.2.2.2.2.2.2.1
  have hK := hC.2.2.2.2.2.2.2.2.1
  have hAd := hC.2.2.2.2.2.2.2.2.2.2.1
  have hXx := hC.2.2.2.2.2.2.2.2.2.2.2
  have hMM := hM D cy ad H.size
  have hfr : d' + 1 ≤ R.frames := Nat.le_trans hdd hR.1
  have hlo : 8 + (yi.2.2.2.1 + 11) + d' * 64 ≤ R.locals := by
    have := hR.2
    have h64 : (d' + 1) * 64 ≤ d * 64 := Nat.mul_le_mul_right 64 hdd
    omega
  have hrec := va_recv hK hP hci (zwd_at hV)
  have hsig : ∀ sig, parseMethodDescriptor yi.2.1.desc = some sig → n = sig.parameters.length := fun sig h => by
    have h2 := y5.2.2
    rw [h] at h2
    exact (Option.some.inj h2).symm
  have hfin := lfin hC hS
  have hpre : PreV s H yi.2.1.cls (ad b) (va_Pc ((Value.ref b :: as).map (zcv ad)) (fun U => U.heap.size = H.size ∧ va_P D zcl (zwd V cy ad (zap S ([], [], []))) U.heap ∧ va_K D zcl (ztys cy) U ∧ zAd V.length (fun _ => True) ad ∧ zKx ad (zA V.length ad H.size) U U.heap)) (as.map (zcv ad)) :=
    ⟨zblind, hrec, fun U hU hW => ⟨rfl, by rw [hU], by rw [hU]; exact hP, va_K.moved hW.alike hK, ⟨hAd.1, fun _ _ => trivial⟩, by rw [hU]; exact hXx.to hW hS.2.1 hfin⟩⟩
  have hgood := zTB_good hts y4
  rcases hl with hl | ⟨host, hl⟩
  · exact lcall (va_runV (C := yi.2.1.cls) (Ts := zTB) (own := mi.1) ⟨hC.1, hC.2.1, hC.2.2.1, hC.2.2.2.2.1, hts⟩ hMM
      ⟨⟨rfl, rfl, hfr, hlo, hgood, List.mem_cons_self, hts _ y4, hts _ y3, ⟨y5.1, y5.2.1⟩, hsig, hts _ hl⟩, hts _ y1, hts _ y2⟩ hpre rfl (by rw [List.length_map]; exact hn) hla rfl (lv_room hst) hd hcs) hS hfin kk
  · exact lcall (va_runVN (C := yi.2.1.cls) (Ts := zTB) (own := mi.1) ⟨hC.1, hC.2.1, hC.2.2.1, hC.2.2.2.2.1, hts⟩ hMM
      ⟨⟨⟨rfl, rfl, hfr, hlo, hgood, List.mem_cons_self⟩, hts _ y4, hts _ y3, ⟨y5.1, y5.2.1⟩, hsig, va_Nw.use rfl (hXx.2.2.2 _ hl)⟩, hts _ y1, hts _ y2⟩ hpre rfl (by rw [List.length_map]; exact hn) hla rfl (lv_room hst) hd hcs) hS hfin kk
/-- a field, read -/
theorem lgetf {idx c ci k : Nat} {fs : List zF} {fk : zF} {v : Value} (hC : zC V d mi p R s m0 args meth cc D cy ad A) (hP : va_P D zcl (zwd V cy ad S) H) (hd : decode mi.2.2.1 pc = .ok (.getfield idx, 3)) (hf : zfl mi.1 idx ci k) (hV : V[c]? = some (.inl (ci, fs))) (hk : fs[k]? = some fk) (hv : zfv ad S.1 c k fk = v) (hp : pc + 3 = pc')
    (kk : W p l e R s m0 args below meth cc H locs cells slots Q (F0 m0 pc' la (v :: rest))) : W p l e R s m0 args below meth cc H locs cells slots Q (F0 m0 pc la (.ref (ad c) :: rest)) := by
  subst hp
  obtain ⟨C, T, N, h1, h2, h3, h4, h5⟩ := hf
  have he := zwd_at (cy := cy) (ad := ad) (S := S) hV
  have hvv : (fs.mapIdx (zfv ad S.1 c))[k]? = some v := by
    rw [List.getElem?_mapIdx, hk, ← hv]
    rfl
  rcases h5 with h5 | ⟨host, h5⟩
  · exact va_get (ref := C) hC.1 hC.2.1 hC.2.2.2.2.2.1 h4 hC.2.2.2.2.1 hC.2.2.2.2.2.2.2.2.1 hP c he h1 k h2 (hC.2.2.2.2.2.1 _ h5) (fun x hx => by rw [h3] at hx; exact hx) hvv hd kk
  · exact va_getN (ref := C) hC.1 hC.2.1 hC.2.2.2.2.2.1 h4 hC.2.2.2.2.1 hC.2.2.2.2.2.2.2.2.1 hP c he h1 k h2 (va_Nw.use rfl (hC.2.2.2.2.2.2.2.2.2.2.2.2.2.2 _ h5)) (fun x hx => by rw [h3] at hx; exact hx) hvv hd kk
end
/-- the contract of a method that throws, always -/
def zMx (l : Launch) (d : Nat) (mi : zM) (S : zS) (av : List Value) (Qc : (Nat → Prop) → Array Value → State → Outcome → State → Prop) : Prop :=
  ∀ (D : va_G) (cy : Nat → ClassId) (ad : Nat → Nat) (sz : Nat),
    vx_Met l mi.2.1 (Cond.code mi.2.1 mi.2.2.1 mi.2.2.2.1 mi.2.2.2.2 :: zTB) { frames := d, cells := 1, slots := 6, locals := d * 64 }
      (va_Pc (av.map (zcv ad)) (fun U => U.heap.size = sz ∧ va_P D zcl (zwd zW cy ad S) U.heap ∧ va_K D zcl (ztys cy) U ∧ zAd zW.length (fun _ => True) ad ∧ zKx ad (zA zW.length ad sz) U U.heap ∧ zTx (zA zW.length ad sz) U U.heap))
      (Qc (zA zW.length ad sz)) (vx_X (fun _ : Unit => True) (fun E _ t => E = RN ∧ va_P D zcl (zwd zW cy ad S) t.heap) (zA zW.length ad sz)) 1 6 (zA zW.length ad sz)
def QnI (A : Nat → Prop) : Array Value → State → Outcome → State → Prop := va_Qi (fun (_ : Int32) (_ : Unit) => False) (fun _ _ => True) A
def QnL (A : Nat → Prop) : Array Value → State → Outcome → State → Prop := va_Ql (fun (_ : Int64) (_ : Unit) => False) (fun _ _ => True) A
/-- the contract of a method with handlers, which returns -/
def zMw (hh : List (Nat × Nat × Nat × Nat)) (l : Launch) (d : Nat) (mi : zM) (S : zS) (av : List Value) (rv : Option Value) (S1 : zS) : Prop :=
  ∀ (D : va_G) (cy : Nat → ClassId) (ad : Nat → Nat) (sz : Nat),
    Met l mi.2.1 (Cond.codeWith mi.2.1 mi.2.2.1 mi.2.2.2.1 mi.2.2.2.2 hh :: zTB) { frames := d, cells := 1, slots := 6, locals := d * 64 }
      (va_Pc (av.map (zcv ad)) (fun U => U.heap.size = sz ∧ va_P D zcl (zwd zW cy ad S) U.heap ∧ va_K D zcl (ztys cy) U ∧ zAd zW.length (fun _ => True) ad ∧ zKx ad (zA zW.length ad sz) U U.heap ∧ zTx (zA zW.length ad sz) U U.heap))
      (zQ zW D cy ad (zA zW.length ad sz) rv S1) 1 6 (zA zW.length ad sz)
theorem zblindT {D : va_G} {cy : Nat → ClassId} {ad : Nat → Nat} {av : List Value} {sz : Nat} {S : zS} : FrameBlind (va_Pc av (fun U => U.heap.size = sz ∧ va_P D zcl (zwd zW cy ad S) U.heap ∧ va_K D zcl (ztys cy) U ∧ zAd zW.length (fun _ => True) ad ∧ zKx ad (zA zW.length ad sz) U U.heap ∧ zTx (zA zW.length ad sz) U U.heap)) := by
  intro a U g mk q
  obtain ⟨q0, q1, qP, qK, qD, qX, qT⟩ := q
  exact ⟨q0, q1, qP, va_K.moved (u := U) (U := U.calling g mk a) (Vm.Alike.refl U.vm) qK, qD, qX.same rfl, qT.same rfl⟩
section
variable {l : Launch} {d : Nat} {mi : zM} {p : Program} {e : Env} {R : Room} {s : State} {m0 : MethodId} {args : Array Value} {below : List Frame} {meth : Method} {cc : Code} {D : va_G} {cy : Nat → ClassId} {ad : Nat → Nat} {A : Nat → Prop} {H : Heap} {locs : List Loc} {cells slots : Nat} {Q : State → Prop} {S : zS} {pc pc' : Nat} {la : Array Slot} {st0 rest : List Value}
/-- a call of a method with handlers -/
theorem lcallW {idx d' n : Nat} {hh : List (Nat × Nat × Nat × Nat)} {yi : zM} {as : List Value} {rv : Option Value} {S1 : zS} (hC : zC zW d mi p R s m0 args meth cc D cy ad A) (hT : zTx A s s.heap) (hP : va_P D zcl (zwd zW cy ad S) H) (hS : va_S A s.heap H locs) (hla : la.size = mi.2.2.2.1)
    (hd : decode mi.2.2.1 pc = .ok (.invokestatic idx, 3)) (hl : Cond.methodLink mi.1 idx yi.2.1 ∈ zTB) (y1 : Cond.static yi.2.1 ∈ zTB) (y3 : Cond.initialized yi.2.1.cls ∈ zTB) (y4 : Cond.codeWith yi.2.1 yi.2.2.1 yi.2.2.2.1 yi.2.2.2.2 hh ∈ zTB) (y5 : yi.2.1.cls ≠ "java/lang/invoke/MethodHandle" ∧ yi.2.1.cls ≠ "java/lang/invoke/VarHandle" ∧ (parseMethodDescriptor yi.2.1.desc).map (fun d => d.parameters.length) = some n) (y6 : yi.2.2.2.1 ≤ 45) (hn : as.length = n)
    (hM : zMw hh l d' yi S as rv S1) (hdd : d' + 1 ≤ d) (hst : (rest.map fun v => v.category).sum ≤ 8) (hst0 : st0 = (as.map (zcv ad)).reverse ++ rest) (hcs : cells + 1 ≤ R.cells ∧ slots + 6 ≤ R.slots) (hp : pc + 3 = pc')
    (kk : ∀ (H1 : Heap) (locs1 : List Loc), va_P D zcl (zwd zW cy ad S1) H1 → va_S A s.heap H1 locs1 → W p l e R s m0 args below meth cc H1 locs1 (cells + 1) (slots + 6) Q (F0 m0 pc' la ((rv.map (zcv ad)).toList ++ rest))) : W p l e R s m0 args below meth cc H locs cells slots Q (F0 m0 pc la st0) := by
  subst hp; subst hst0
  have hts := hC.2.2.2.2.2.1
  have hR := hC.2.2.2.2.2.2.2.1
  have hK := hC.2.2.2.2.2.2.2.2.1
  have hAd := hC.2.2.2.2.2.2.2.2.2.2.1
  have hXx := hC.2.2.2.2.2.2.2.2.2.2.2
  have hMM := hM D cy ad H.size
  have hfr : d' + 1 ≤ R.frames := Nat.le_trans hdd hR.1
  have hlo : 8 + (yi.2.2.2.1 + 11) + d' * 64 ≤ R.locals := by
    have := hR.2
    have h64 : (d' + 1) * 64 ≤ d * 64 := Nat.mul_le_mul_right 64 hdd
    omega
  have hsig : ∀ sig, parseMethodDescriptor yi.2.1.desc = some sig → n = sig.parameters.length := fun sig h => by
    have h2 := y5.2.2
    rw [h] at h2
    exact (Option.some.inj h2).symm
  have hfin := lfin hC hS
  have hgood := zTB_good hts y4
  exact lcall (vx_runSW (Ts := zTB) (own := mi.1) ⟨hC.1, hC.2.1, hC.2.2.1, hC.2.2.2.2.1, hts⟩ hMM ⟨⟨rfl, rfl, hfr, hlo, hgood, List.mem_cons_self⟩, hts _ y4, hts _ y3, ⟨y5.1, y5.2.1⟩, hsig, hts _ hl, hts _ y1⟩
    ⟨zblindT, fun U hU hW => ⟨rfl, by rw [hU], by rw [hU]; exact hP, va_K.moved hW.alike hK, ⟨hAd.1, fun _ _ => trivial⟩, by rw [hU]; exact hXx.to hW hS.2.1 hfin, by rw [hU]; exact hT.to hW hS.2.1 hfin⟩⟩ rfl (by rw [List.length_map]; exact hn) hla rfl (lv_room hst) hd hcs) hS hfin kk
end
