/-! BUILDING the world: the constructors' rules -/
def bCx (bytes : ByteArray) (maxL : Nat) (own : String) (d : Nat) (p : Program) (R : Room) (s : State) (m : MethodId) (args : Array Value) (c : Code) (D : va_G) (cy : Nat → ClassId) (A : Nat → Prop) : Prop :=
  p.tables.exec = Jvm.exec ∧ c.code = bytes ∧ c.maxLocals = maxL ∧ s.vm.findClass own = some m.cls ∧ (∀ w ∈ zTB, w.before args s = true) ∧ (d ≤ R.frames ∧ d * 64 ≤ R.locals) ∧ va_K D zcl (ztys cy) s ∧ (∀ q : Nat, s.heap.size ≤ q → A q) ∧ (∀ w ∈ zNB, va_Nw w s)
def bQ (D : va_G) (Y : (Nat → Nat) → va_W) (A : Nat → Prop) : Array Value → State → Outcome → State → Prop := fun _ st o t => o = .returned none ∧ (∃ g : Nat → Nat, va_P D zcl (Y g) t.heap ∧ va_D A (Y g)) ∧ va_F A st t
def bMt (l : Launch) (d mc ms : Nat) (mi : zM) (av : List Value) (pre : va_W) (Y : (Nat → Nat) → va_W) (D : va_G) (cy : Nat → ClassId) : Prop := ∀ sz : Nat,
  Met l mi.2.1 (Cond.code mi.2.1 mi.2.2.1 mi.2.2.2.1 mi.2.2.2.2 :: zTB) { frames := d, cells := mc, slots := ms, locals := d * 64 }
    (va_Pc av (fun U => U.heap.size = sz ∧ va_P D zcl pre U.heap ∧ va_K D zcl (ztys cy) U ∧ va_D (fun _ => True) pre ∧ ∀ w ∈ zNB, va_Nw w U)) (bQ D Y (va_A pre sz)) mc ms (va_A pre sz)
theorem gapp {α : Type} {xs ys : List α} {k : Nat} : (xs ++ ys)[xs.length + k]? = ys[k]? := by
  rw [List.getElem?_append_right (by omega)]
  congr 1
  omega
theorem sapp {α : Type} {xs ys : List α} {k : Nat} {x : α} : (xs ++ ys).set (xs.length + k) x = xs ++ ys.set k x := by
  rw [List.set_append_right _ _ (by omega)]
  congr 2
  omega
theorem bblind {D : va_G} {cy : Nat → ClassId} {av : List Value} {sz : Nat} {pre : va_W} : FrameBlind (va_Pc av (fun U => U.heap.size = sz ∧ va_P D zcl pre U.heap ∧ va_K D zcl (ztys cy) U ∧ va_D (fun _ => True) pre ∧ ∀ w ∈ zNB, va_Nw w U)) := by
  intro a U g mk q
  obtain ⟨q0, q1, qP, qK, qD, qN⟩ := q
  exact ⟨q0, q1, qP, va_K.moved (u := U) (U := U.calling g mk a) (Vm.Alike.refl U.vm) qK, qD, fun w hw => zNB_same (s := U) hw rfl (qN w hw)⟩
theorem bMt_of {l : Launch} {d mc ms : Nat} {mi : zM} {av : List Value} {pre : va_W} {Y : (Nat → Nat) → va_W} {D : va_G} {cy : Nat → ClassId} (hn : plainName mi.2.1.cls = true) (hown : mi.1 = mi.2.1.cls) (hret : mi.2.2.2.2 = none) (hlen : (lg_sl av).length ≤ mi.2.2.2.1)
    (body : ∀ (p : Program) (e : Env) (R : Room) (s : State) (m : MethodId) (args : Array Value) (below : List Frame) (meth : Method) (c : Code) (A : Nat → Prop) (ls : Array Slot), R.cells = mc → R.slots = ms → bCx mi.2.2.1 mi.2.2.2.1 mi.1 d p R s m args c D cy A → meth.locks = false → meth.name = mi.2.1.name → meth.sig.returnType = none → va_P D zcl pre s.heap → va_D A pre → lv_has ls mi.2.2.2.1 (lv_args 0 av) →
      W p l e R s m args below meth c s.heap [] 0 0 (MQ below (bQ D Y A) args s mc ms A) (F0 m 0 ls [])) : bMt l d mc ms mi av pre Y D cy := by
  intro sz
  refine Met.ofW (cc := mi.2.2.1) (maxL := mi.2.2.2.1) (ret := mi.2.2.2.2) hn rfl ?_
  intro p e s m args below meth c s₁ B hml hv
  obtain ⟨rfl, hsz, hP, hK, hD, hN⟩ := hv
  have hts := atoms_spec (ws := Cond.code mi.2.1 mi.2.2.1 mi.2.2.2.1 mi.2.2.2.2 :: zTB) B.pre
  have hfc : s.vm.findClass mi.1 = some m.cls := by rw [hown]; exact findClass_of_methodNamed B.named
  have hl := lv_entry av (n := mi.2.2.2.1) hlen
  rw [lg_entry_eq]
  exact body p e _ s m _ below meth c (va_A pre sz) _ rfl rfl ⟨B.exec, B.bytes, hml, hfc, fun w hw => hts w (List.mem_cons_of_mem _ hw), ⟨Nat.le_refl _, Nat.le_refl _⟩, hK, fun q hq => Or.inr (by rw [← hsz]; exact hq), hN⟩ B.notSynchronized (name_of_methodNamed B.named B.method).1 (B.returns.trans hret) hP hD.self hl
section
variable {l : Launch} {bytes : ByteArray} {maxL d : Nat} {own : String} {p : Program} {e : Env} {R : Room} {s : State} {m : MethodId} {args : Array Value} {below : List Frame} {meth : Method} {c : Code} {D : va_G} {cy : Nat → ClassId} {A : Nat → Prop} {H : Heap} {locs : List Loc} {cells slots cells' slots' : Nat} {Q : State → Prop} {pc pc' : Nat} {ls : Array Slot} {rest st0 : List Value} {ws ws0 ys ys' : va_W}
theorem bobj {idx a : Nat} (hB : bCx bytes maxL own d p R s m args c D cy A) (hla : ls.size = maxL) (hd1 : 1 ≤ d) (h1 : Cond.methodLink own idx Lib.objectInit ∈ zTB) (h2 : Cond.instanceMethod Lib.objectInit ∈ zTB) (h3 : Cond.code Lib.objectInit ⟨#[0xb1]⟩ 1 none ∈ zTB) (hdg : decode bytes pc = .ok (.invokespecial idx, 3)) (hp : pc + 3 = pc')
    (kk : W p l e R s m args below meth c H locs cells slots Q (F0 m pc' ls [])) : W p l e R s m args below meth c H locs cells slots Q (F0 m pc ls [.ref a]) := by
  subst hp
  have hts := hB.2.2.2.2.1
  have hR := hB.2.2.2.2.2.1
  refine W.objInit hB.1 hB.2.1 hB.2.2.2.1 (hts _ h1) (hts _ h2) (hts _ h3) rfl (hla.trans hB.2.2.1.symm) rfl hdg (by omega) ?_ ?_
  · show 2 * 0 + 0 + 12 ≤ R.locals
    omega
  · exact W.eq (g2 := F0 m (pc + 3) ls []) rfl kk
theorem bnew {C : String} {T : u_T} {N ci index : Nat} {fs : List Value} {ws1 : Nat → va_W} (hB : bCx bytes maxL own d p R s m args c D cy A) (hP : va_P D zcl ws H) (hD : va_D A ws) (hS : va_S A s.heap H locs) (hci : zcl[ci]? = some (C, T, N)) (hin : ∀ w ∈ u_ws C T N, w ∈ zTB) (ty : Nat → FieldType) (hty : ∀ k, k < N → parseFieldDescriptor (T k).2.2.1 = some (ty k)) (hcl : Cond.classLink own index C ∈ zTB) (hinst : Cond.instantiable C N ∈ zTB) (hini : Cond.initialized C ∈ zTB)
    (hfs : ∀ j, j < N → defaultValue (ty j) = vp_V fs j) (hdg : decode bytes pc = .ok (.new index, 3)) (hc : cells + 1 = cells') (hs : slots + N = slots') (hr : cells' ≤ R.cells ∧ slots' ≤ R.slots) (hp : pc + 3 = pc') (hw : ∀ q, ws ++ [(q, .inr (ci, fs))] = ws1 q)
    (kk : ∀ (q : Nat) (H1 : Heap), va_P D zcl (ws1 q) H1 → va_D A (ws1 q) → va_S A s.heap H1 locs → W p l e R s m args below meth c H1 locs cells' slots' Q (F0 m pc' ls (.ref q :: rest))) : W p l e R s m args below meth c H locs cells slots Q (F0 m pc ls rest) := by
  subst hc; subst hs; subst hp
  have hts := hB.2.2.2.2.1
  refine va_new (Ts := zTB) hB.1 hB.2.1 hts hin ty hty hB.2.2.2.1 (hts _ hcl) (hts _ hinst) (hts _ hini) hB.2.2.2.2.2.2.1 hP hD hS hB.2.2.2.2.2.2.2.1 hci hfs hr.1 hr.2 hdg (fun q H1 hP hD hS => ?_)
  rw [hw] at hP hD
  exact kk q H1 hP hD hS
theorem bnewa {atype : ArrayType} {ty : FieldType} {t N : Nat} {n : Int32} {a0 : vp_A} {ws1 : Nat → va_W} (hB : bCx bytes maxL own d p R s m args c D cy A) (hP : va_P D zcl ws H) (hD : va_D A ws) (hS : va_S A s.heap H locs) (hty : newarray.typeOf atype = ty) (harr : Cond.arrayClass ty ∈ zTB) (ht : (ztys cy)[t]? = some (cy t, ty)) (hra : ∀ (U : State) (a b : ClassId), va_RA U a ty → va_RA U b ty → a = b)
    (ha : ∀ cA : ClassId, vp_cell cA a0 = arrV cA N (fun _ => defaultValue ty)) (hn : ¬ n < 0) (hN : n.toNatClampNeg = N) (hbytes : N * componentBytes ty ≤ 536870912) (hdg : decode bytes pc = .ok (.newarray atype, 2)) (hc : cells + 1 = cells') (hs : slots + N = slots') (hr : cells' ≤ R.cells ∧ slots' ≤ R.slots) (hp : pc + 2 = pc') (hw : ∀ q, ws ++ [(q, .inl (cy t, a0))] = ws1 q)
    (kk : ∀ (q : Nat) (H1 : Heap), va_P D zcl (ws1 q) H1 → va_D A (ws1 q) → va_S A s.heap H1 locs → W p l e R s m args below meth c H1 locs cells' slots' Q (F0 m pc' ls (.ref q :: rest))) : W p l e R s m args below meth c H locs cells slots Q (F0 m pc ls (.int n :: rest)) := by
  subst hc; subst hs; subst hp; subst hty
  have hts := hB.2.2.2.2.1
  have hK := hB.2.2.2.2.2.2.1
  refine va_newa (atype := atype) hB.1 hB.2.1 (hts _ harr) rfl hK hP hD hS hB.2.2.2.2.2.2.2.1 ha hn hN hbytes hr.1 hr.2 hdg (fun q cA H1 hK1 hP hD hS => ?_)
  have e : cA = cy t := hra s cA (cy t) (hK1.2 5 (cA, newarray.typeOf atype) rfl).2 (hK.2 t _ ht).2
  subst e
  rw [hw] at hP hD
  exact kk q H1 hP hD hS
theorem bput {C : String} {T : u_T} {N ci index k0 k a : Nat} {fs : List Value} {ty : FieldType} {v : Value} (hB : bCx bytes maxL own d p R s m args c D cy A) (hin0 : meth.name = "<init>") (hP : va_P D zcl (ws0 ++ ys) H) (hD : va_D A (ws0 ++ ys)) (hS : va_S A s.heap H locs) (hk0 : ys[k0]? = some (a, .inr (ci, fs))) (hci : zcl[ci]? = some (C, T, N)) (hin : ∀ w ∈ u_ws C T N, w ∈ zTB) (t0 : Nat → FieldType) (hty : ∀ k, k < N → parseFieldDescriptor (T k).2.2.1 = some (t0 k)) (hnm : ∀ a, a < N → ∀ b, b < N → a ≠ b → (T a).2.1 ≠ (T b).2.1)
    (hk : k < N) (hT1 : (T k).1 = C) (hlink : Cond.fieldLink own index C (T k).2.1 (T k).2.2.1 ∈ zTB) (hfin : (T k).2.2.2 = false ∨ ((T k).2.2.2 = true ∧ (T k).1 = own)) (hd : parseFieldDescriptor (T k).2.2.1 = some ty) (hn : narrow ty v = v) (hfit : fits ty v = true) (hl : k < fs.length) (hdg : decode bytes pc = .ok (.putfield index, 3)) (hys : ys.set k0 (a, .inr (ci, fs.set k v)) = ys') (hp : pc + 3 = pc')
    (kk : ∀ (H1 : Heap) (locs1 : List Loc), va_P D zcl (ws0 ++ ys') H1 → va_D A (ws0 ++ ys') → va_S A s.heap H1 locs1 → W p l e R s m args below meth c H1 locs1 cells slots Q (F0 m pc' ls rest)) : W p l e R s m args below meth c H locs cells slots Q (F0 m pc ls (v :: .ref a :: rest)) := by
  subst hys; subst hp
  have hts := hB.2.2.2.2.1
  have fin : ∀ (H1 : Heap) (locs1 : List Loc), va_P D zcl ((ws0 ++ ys).set (ws0.length + k0) (a, .inr (ci, fs.set k v))) H1 → va_D A ((ws0 ++ ys).set (ws0.length + k0) (a, .inr (ci, fs.set k v))) → va_S A s.heap H1 locs1 → W p l e R s m args below meth c H1 locs1 cells slots Q (F0 m (pc + 3) ls rest) := by
    intro H1 locs1 q1 q2 q3
    rw [sapp] at q1 q2
    exact kk H1 locs1 q1 q2 q3
  have hsame : ∀ x, s.fieldFound? (T k).1 (T k).2.1 (T k).2.2.1 = some x → s.fieldFound? C (T k).2.1 (T k).2.2.1 = some x := fun y hy => by rw [hT1] at hy; exact hy
  rcases hfin with hfin | ⟨hfin, hdecl⟩
  · exact va_put (ref := C) (v := v) hB.1 hB.2.1 hts hin t0 hty hnm hB.2.2.2.1 hB.2.2.2.2.2.2.1 hP hD hS (ws0.length + k0) (gapp.trans hk0) hci k hk (hts _ hlink) hsame hfin hd hn hfit hl hdg fin
  · exact va_putF (ref := C) (v := v) hB.1 hB.2.1 hts hin t0 hty hnm hB.2.2.2.1 hB.2.2.2.2.2.2.1 hP hD hS (ws0.length + k0) (gapp.trans hk0) hci k hk (hts _ hlink) hsame hfin hin0 hdecl hd hn hfit hl hdg fin
theorem bgetf {C : String} {T : u_T} {N ci index k0 k a : Nat} {fs : List Value} {v : Value} (hB : bCx bytes maxL own d p R s m args c D cy A) (hP : va_P D zcl (ws0 ++ ys) H) (hk0 : ys[k0]? = some (a, .inr (ci, fs))) (hci : zcl[ci]? = some (C, T, N)) (hin : ∀ w ∈ u_ws C T N, w ∈ zTB)
    (hk : k < N) (hT1 : (T k).1 = C) (hlink : Cond.fieldLink own index C (T k).2.1 (T k).2.2.1 ∈ zTB) (hv : fs[k]? = some v) (hdg : decode bytes pc = .ok (.getfield index, 3)) (hp : pc + 3 = pc')
    (kk : W p l e R s m args below meth c H locs cells slots Q (F0 m pc' ls (v :: rest))) : W p l e R s m args below meth c H locs cells slots Q (F0 m pc ls (.ref a :: rest)) := by
  subst hp
  have hts := hB.2.2.2.2.1
  exact va_get (ref := C) hB.1 hB.2.1 hts hin hB.2.2.2.1 hB.2.2.2.2.2.2.1 hP (ws0.length + k0) (gapp.trans hk0) hci k hk (hts _ hlink) (fun y hy => by rw [hT1] at hy; exact hy) hv hdg kk
theorem biast {k0 a n : Nat} {i x : Int32} {f : Nat → Int32} (hB : bCx bytes maxL own d p R s m args c D cy A) (hP : va_P D zcl (ws0 ++ ys) H) (hD : va_D A (ws0 ++ ys)) (hS : va_S A s.heap H locs) (hk0 : ys[k0]? = some (a, .inl (cy 0, n, .inl f))) (hi : vp_in i n) (hdg : decode bytes pc = .ok (.iastore, 1)) (hys : ys.set k0 (a, .inl (cy 0, n, .inl (upd f i.toNatClampNeg x))) = ys') (hp : pc + 1 = pc')
    (kk : ∀ (H1 : Heap) (locs1 : List Loc), va_P D zcl (ws0 ++ ys') H1 → va_D A (ws0 ++ ys') → va_S A s.heap H1 locs1 → W p l e R s m args below meth c H1 locs1 cells slots Q (F0 m pc' ls rest)) : W p l e R s m args below meth c H locs cells slots Q (F0 m pc ls (.int x :: .int i :: .ref a :: rest)) := by
  subst hys; subst hp
  refine va_iast hB.1 hB.2.1 hB.2.2.2.2.2.2.1 hP hD hS (ws0.length + k0) 0 (gapp.trans hk0) rfl hi hdg (fun H1 locs1 q1 q2 q3 => ?_)
  rw [sapp] at q1 q2
  exact kk H1 locs1 q1 q2 q3
theorem bcall {mc ms : Nat} {A1 : Nat → Prop} {Y : (Nat → Nat) → va_W} {a : Array Value} (hr : va_Run p l e R s m args below meth c H locs cells slots mc ms (F0 m pc ls st0) rest (bQ D Y A1 a) A1) (hS : va_S A s.heap H locs) (hA : ∀ q, A1 q → A q)
    (kk : ∀ (g : Nat → Nat) (H1 : Heap) (locs1 : List Loc), va_P D zcl (Y g) H1 → va_D A (Y g) → va_S A s.heap H1 locs1 → W p l e R s m args below meth c H1 locs1 (cells + mc) (slots + ms) Q (F0 m (pc + 3) ls rest)) : W p l e R s m args below meth c H locs cells slots Q (F0 m pc ls st0) := by
  intro T hT X
  obtain ⟨v, st₀, t, T', L', h0, X', hL, e1, e2, ⟨hv, ⟨g, hb, hd⟩, hz, hk⟩, stp⟩ := hr T hT X
  cases hv
  rw [h0] at hz hk
  obtain ⟨t2, a1, b1⟩ := kk g T'.heap (locs ++ L') (by rw [e1]; exact hb) (hd.weaken (fun _ _ _ h => hA _ h))
    ⟨Nat.le_trans hS.1 (by rw [e1]; exact hz), fun q h1 h2 => by rw [e1, hk q (Nat.lt_of_lt_of_le h1 hS.1) (fun z => h2 (hA q z))]; exact hS.2.1 q h1 h2, fun q hq => by
      rcases List.mem_append.mp hq with h | h
      · exact hS.2.2 q h
      · exact hA _ (hL q h)⟩ T' rfl X'
  exact ⟨t2, stp t2 a1, b1⟩
theorem bfin (hB : bCx bytes maxL own d p R s m args c D cy A) (hD : va_D A ws) (hS : va_S A s.heap H locs) : ∀ q, va_A ws H.size q → A q := by
  intro q h
  rcases h with ⟨k, x, hk⟩ | h
  · exact hD.2 k _ hk
  · exact hB.2.2.2.2.2.2.2.1 q (Nat.le_trans hS.1 h)
theorem bcallI {idx d' n mc ms b : Nat} {yi : zM} {as : List Value} {Y : (Nat → Nat) → va_W} (hB : bCx bytes maxL own d p R s m args c D cy A) (hP : va_P D zcl ws H) (hD : va_D A ws) (hS : va_S A s.heap H locs) (hla : ls.size = maxL) (hM : bMt l d' mc ms yi (.ref b :: as) ws Y D cy)
    (hdg : decode bytes pc = .ok (.invokespecial idx, 3)) (hl : zml own idx yi.2.1) (y1 : Cond.instanceMethod yi.2.1 ∈ zTB) (y3 : Cond.initialized yi.2.1.cls ∈ zTB) (y4 : Cond.code yi.2.1 yi.2.2.1 yi.2.2.2.1 none ∈ zTB) (y5 : yi.2.1.cls ≠ "java/lang/invoke/MethodHandle" ∧ yi.2.1.cls ≠ "java/lang/invoke/VarHandle" ∧ (parseMethodDescriptor yi.2.1.desc).map (fun d => d.parameters.length) = some n) (y6 : yi.2.2.2.1 ≤ 45) (hret : yi.2.2.2.2 = none) (hname : yi.2.1.name = "<init>") (hn : as.length = n)
    (hdd : d' + 1 ≤ d) (hst : (rest.map fun v => v.category).sum ≤ 8) (hst0 : st0 = as.reverse ++ .ref b :: rest) (hc : cells + mc = cells') (hs : slots + ms = slots') (hr : cells' ≤ R.cells ∧ slots' ≤ R.slots) (hp : pc + 3 = pc')
    (kk : ∀ (g : Nat → Nat) (H1 : Heap) (locs1 : List Loc), va_P D zcl (Y g) H1 → va_D A (Y g) → va_S A s.heap H1 locs1 → W p l e R s m args below meth c H1 locs1 cells' slots' Q (F0 m pc' ls rest)) : W p l e R s m args below meth c H locs cells slots Q (F0 m pc ls st0) := by
  subst hc; subst hs; subst hp; subst hst0
  have hts := hB.2.2.2.2.1
  have hR := hB.2.2.2.2.2.1
  have hK := hB.2.2.2.2.2.2.1
  have hNB := hB.2.2.2.2.2.2.2.2
  have hMM := hM H.size
  rw [hret] at hMM
  have hfr : d' + 1 ≤ R.frames := Nat.le_trans hdd hR.1
  have hlo : 8 + (yi.2.2.2.1 + 11) + d' * 64 ≤ R.locals := by
    have := hR.2
    have h64 : (d' + 1) * 64 ≤ d * 64 := Nat.mul_le_mul_right 64 hdd
    omega
  have hsig : ∀ sig, parseMethodDescriptor yi.2.1.desc = some sig → n = sig.parameters.length := fun sig h => by
    have h2 := y5.2.2
    rw [h] at h2
    exact (Option.some.inj h2).symm
  have hfin := bfin hB hD hS
  have hgood := zTB_good hts y4
  have hpre : PreS s H (va_Pc (.ref b :: as) (fun U => U.heap.size = H.size ∧ va_P D zcl ws U.heap ∧ va_K D zcl (ztys cy) U ∧ va_D (fun _ => True) ws ∧ ∀ w ∈ zNB, va_Nw w U)) (.ref b :: as) :=
    ⟨bblind, fun U hU hW => ⟨rfl, by rw [hU], by rw [hU]; exact hP, va_K.moved hW.alike hK, hD.weaken (fun _ _ _ _ => trivial), fun w hw => zNB_warm hw hW (hNB w hw)⟩⟩
  rcases hl with hl | ⟨host, hl⟩
  · exact bcall (va_runI (Ts := zTB) (own := own) ⟨hB.1, hB.2.1, hB.2.2.1, hB.2.2.2.1, hts⟩ hMM ⟨⟨rfl, rfl, hfr, hlo, hgood, List.mem_cons_self, hts _ y4, hts _ y3, ⟨y5.1, y5.2.1⟩, hsig, hts _ hl⟩, hname, hts _ y1⟩ hpre rfl hn hla rfl (lv_room hst) hdg hr) hS hfin kk
  · exact bcall (va_runIN (Ts := zTB) (own := own) ⟨hB.1, hB.2.1, hB.2.2.1, hB.2.2.2.1, hts⟩ hMM ⟨⟨⟨rfl, rfl, hfr, hlo, hgood, List.mem_cons_self⟩, hts _ y4, hts _ y3, ⟨y5.1, y5.2.1⟩, hsig, va_Nw.use rfl (hNB _ hl)⟩, hname, hts _ y1⟩ hpre rfl hn hla rfl (lv_room hst) hdg hr) hS hfin kk
theorem bcallS {idx d' n mc ms : Nat} {yi : zM} {as : List Value} {Y : (Nat → Nat) → va_W} (hB : bCx bytes maxL own d p R s m args c D cy A) (hP : va_P D zcl ws H) (hD : va_D A ws) (hS : va_S A s.heap H locs) (hla : ls.size = maxL) (hM : bMt l d' mc ms yi as ws Y D cy)
    (hdg : decode bytes pc = .ok (.invokestatic idx, 3)) (hl : Cond.methodLink own idx yi.2.1 ∈ zTB) (hy : zyS yi n) (hret : yi.2.2.2.2 = none) (hn : as.length = n)
    (hdd : d' + 1 ≤ d) (hst : (rest.map fun v => v.category).sum ≤ 8) (hst0 : st0 = as.reverse ++ rest) (hc : cells + mc = cells') (hs : slots + ms = slots') (hr : cells' ≤ R.cells ∧ slots' ≤ R.slots) (hp : pc + 3 = pc')
    (kk : ∀ (g : Nat → Nat) (H1 : Heap) (locs1 : List Loc), va_P D zcl (Y g) H1 → va_D A (Y g) → va_S A s.heap H1 locs1 → W p l e R s m args below meth c H1 locs1 cells' slots' Q (F0 m pc' ls rest)) : W p l e R s m args below meth c H locs cells slots Q (F0 m pc ls st0) := by
  subst hc; subst hs; subst hp; subst hst0
  obtain ⟨y2, y3, y4, y5, y6⟩ := hy
  have hts := hB.2.2.2.2.1
  have hR := hB.2.2.2.2.2.1
  have hK := hB.2.2.2.2.2.2.1
  have hNB := hB.2.2.2.2.2.2.2.2
  have hMM := hM H.size
  have hfr : d' + 1 ≤ R.frames := Nat.le_trans hdd hR.1
  have hlo : 8 + (yi.2.2.2.1 + 11) + d' * 64 ≤ R.locals := by
    have := hR.2
    have h64 : (d' + 1) * 64 ≤ d * 64 := Nat.mul_le_mul_right 64 hdd
    omega
  have hsig : ∀ sig, parseMethodDescriptor yi.2.1.desc = some sig → n = sig.parameters.length := fun sig h => by
    have h2 := y5.2.2
    rw [h] at h2
    exact (Option.some.inj h2).symm
  have hfin := bfin hB hD hS
  have hgood := zTB_good hts y4
  have hpre : PreS s H (va_Pc as (fun U => U.heap.size = H.size ∧ va_P D zcl ws U.heap ∧ va_K D zcl (ztys cy) U ∧ va_D (fun _ => True) ws ∧ ∀ w ∈ zNB, va_Nw w U)) as :=
    ⟨bblind, fun U hU hW => ⟨rfl, by rw [hU], by rw [hU]; exact hP, va_K.moved hW.alike hK, hD.weaken (fun _ _ _ _ => trivial), fun w hw => zNB_warm hw hW (hNB w hw)⟩⟩
  exact bcall (va_runS (Ts := zTB) (own := own) ⟨hB.1, hB.2.1, hB.2.2.1, hB.2.2.2.1, hts⟩ hMM ⟨⟨rfl, rfl, hfr, hlo, hgood, List.mem_cons_self, hts _ y4, hts _ y3, ⟨y5.1, y5.2.1⟩, hsig, hts _ hl⟩, hts _ y2⟩ hpre rfl hn hla rfl (lv_room hst) hdg hr) hS hfin kk
end
/-- a row, filled up to a place -/
def flN (v : Int32) (f : Nat → Int32) : Nat → (Nat → Int32)
  | 0 => f
  | k + 1 => upd (flN v f k) k v
set_option maxRecDepth 100000 in
set_option maxHeartbeats 4000000 in
theorem b_fill (l : Launch) (D : va_G) (cy : Nat → ClassId) (ws0 ys : va_W) (k0 a n : Nat) (f : Nat → Int32) (v : Int32) (hn : n < 1000) (hk0 : ys[k0]? = some (a, .inl (cy 0, n, .inl f))) : bMt l 1 0 0 mJ7_fill_53178 [.ref a, .int v] (ws0 ++ ys) (fun _ => ws0 ++ ys.set k0 (a, .inl (cy 0, n, .inl (flN v f n)))) D cy := by
  refine bMt_of (by decide) rfl rfl (Nat.le_of_ble_eq_true rfl) ?_
  intro p e R s m args below meth c A ls hR1 hR2 hB hlocks _ hr hP hD hl
  have hl : lv_has ls 4 [(0, .ref a), (1, .int v)] := hl
  have hx := hB.1
  have hb := hB.2.1
  have hk1 : k0 < ys.length := (List.getElem?_eq_some_iff.mp hk0).1
  have loop : ∀ (j i : Nat) (H : Heap) (locs : List Loc) (ls : Array Slot), i + j = n → va_P D zcl (ws0 ++ ys.set k0 (a, .inl (cy 0, n, .inl (flN v f i)))) H → va_D A (ws0 ++ ys.set k0 (a, .inl (cy 0, n, .inl (flN v f i)))) → va_S A s.heap H locs → lv_has ls 4 [(0, .ref a), (1, .int v), (2, .int (nI i)), (3, .int (nI n))] →
      W p l e R s m args below meth c H locs 0 0 (MQ below (bQ D (fun _ => ws0 ++ ys.set k0 (a, .inl (cy 0, n, .inl (flN v f n)))) A) args s 0 0 A) (F0 m 5 ls []) := by
    intro j
    induction j with
    | zero =>
      intro i H locs ls hij hP hD hS hl
      obtain rfl : i = n := by omega
      refine lv_iload_n hx hb dJ7_fill_53178_5 rfl (lv_at hl 2 rfl) ?_
      refine lv_iload_n hx hb dJ7_fill_53178_6 rfl (lv_at hl 3 rfl) ?_
      refine lv_icmp_ge (tgt := 20) hx hb dJ7_fill_53178_7 (by decide) (fun _ => ?_) (fun z => absurd (Int32.le_refl _) z)
      exact W.vret hx hb hr (fun t ht _ => ⟨rfl, ⟨fun _ => 0, by rw [ht]; exact hP, hD⟩, hS.F ht⟩) hS.2.2 dJ7_fill_53178_20 hlocks
    | succ j ih =>
      intro i H locs ls hij hP hD hS hl
      refine lv_iload_n hx hb dJ7_fill_53178_5 rfl (lv_at hl 2 rfl) ?_
      refine lv_iload_n hx hb dJ7_fill_53178_6 rfl (lv_at hl 3 rfl) ?_
      refine lv_icmp_ge (tgt := 20) hx hb dJ7_fill_53178_7 (by decide) (fun z => absurd z (nI_ge (by omega) (by omega))) (fun _ => ?_)
      refine lv_aload_n hx hb dJ7_fill_53178_10 rfl (lv_at hl 0 rfl) ?_
      refine lv_iload_n hx hb dJ7_fill_53178_11 rfl (lv_at hl 2 rfl) ?_
      refine lv_iload_n hx hb dJ7_fill_53178_12 rfl (lv_at hl 1 rfl) ?_
      refine biast (k0 := k0) (f := flN v f i) (ys' := ys.set k0 (a, .inl (cy 0, n, .inl (flN v f (i + 1))))) hB hP hD hS (by rw [List.getElem?_set_self hk1]) (vp_in_nI (by omega) (by omega)) dJ7_fill_53178_13 (by rw [List.set_set, nI_clamp (by omega)]; rfl) rfl (fun H locs hP hD hS => ?_)
      refine lv_iinc (v := nI (i + 1)) (lv' := [(2, .int (nI (i + 1))), (0, .ref a), (1, .int v), (3, .int (nI n))]) (k := 2) hx hb dJ7_fill_53178_14 hl rfl (by rw [show Int32.ofInt 1 = nI 1 from by decide, nI_add]) (by decide) rfl (fun ls hl => ?_)
      refine lv_goto (tgt := 5) hx hb dJ7_fill_53178_17 (by decide) ?_
      exact ih (i + 1) H locs ls (by omega) hP hD hS (lv_sub hl [1, 2, 0, 3] rfl)
  refine lv_iconst (v := 0) hx hb dJ7_fill_53178_0 (by decide) ?_
  refine lv_istore_n (lv' := [(2, .int 0), (0, .ref a), (1, .int v)]) hx hb dJ7_fill_53178_1 rfl hl (by decide) rfl (fun ls hl => ?_)
  refine lv_aload_n hx hb dJ7_fill_53178_2 rfl (lv_at hl 1 rfl) ?_
  refine va_alen hx hb hB.2.2.2.2.2.2.1 hP (ws0.length + k0) 0 (gapp.trans hk0) (ty := .int) rfl (v := nI n) rfl dJ7_fill_53178_3 ?_
  refine lv_istore_n (lv' := [(3, .int (nI n)), (2, .int 0), (0, .ref a), (1, .int v)]) hx hb dJ7_fill_53178_4 rfl hl (by decide) rfl (fun ls hl => ?_)
  have e0 : ys.set k0 (a, .inl (cy 0, n, .inl (flN v f 0))) = ys := by
    apply List.ext_getElem?
    intro i
    by_cases hi : i = k0
    · subst hi
      rw [List.getElem?_set_self hk1, hk0]
      rfl
    · rw [List.getElem?_set_ne (fun q => hi q.symm)]
  exact loop n 0 s.heap [] ls (by omega) (by rw [e0]; exact hP) (by rw [e0]; exact hD) va_S.rf (lv_sub hl [2, 3, 1, 0] rfl)
