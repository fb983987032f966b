/-! THE FIXED WORLD AND THE ABSTRACT MACHINE: a state is three tables (whole-number fields by key, rows of ints, rows of longs by place); overrides lie in sorted lists -/
abbrev zF : Type := Option (Option Nat)
abbrev zSh : Type := (Nat × List zF) ⊕ (Nat × Nat)
abbrev zS : Type := (Nat → Int32) × (Nat → Nat → Int32) × (Nat → Nat → Int64)
abbrev zL : Type := List (Nat × Int32) × List (Nat × (Nat → Int32)) × List (Nat × (Nat → Int64))
def zov {α : Type} (f : Nat → α) : List (Nat × α) → Nat → α
  | [] => f
  | q :: l => fun j => cond (Nat.beq j q.1) q.2 (zov f l j)
def zin {α : Type} (k : Nat) (v : α) : List (Nat × α) → List (Nat × α)
  | [] => [(k, v)]
  | q :: l => cond (Nat.beq k q.1) ((k, v) :: l) (cond (Nat.ble k q.1) ((k, v) :: q :: l) (q :: zin k v l))
def zall {α : Type} : List (Nat × α) → List (Nat × α) → List (Nat × α)
  | [], l => l
  | q :: m, l => zin q.1 q.2 (zall m l)
def zle {α : Type} (g : Nat → α) : List (Nat × α) → Prop
  | [] => True
  | q :: l => g q.1 = q.2 ∧ zle g l
theorem zov_zin {α : Type} (f : Nat → α) (k : Nat) (v : α) (l : List (Nat × α)) (j : Nat) : zov f (zin k v l) j = cond (Nat.beq j k) v (zov f l j) := by
  induction l with
  | nil => rfl
  | cons q l ih =>
    show zov f (cond (Nat.beq k q.1) ((k, v) :: l) (cond (Nat.ble k q.1) ((k, v) :: q :: l) (q :: zin k v l))) j = cond (Nat.beq j k) v (cond (Nat.beq j q.1) q.2 (zov f l j))
    cases h2 : Nat.beq k q.1 with
    | true =>
      have e : k = q.1 := Nat.eq_of_beq_eq_true h2
      show cond (Nat.beq j k) v (zov f l j) = _
      rw [← e]
      cases Nat.beq j k <;> rfl
    | false =>
      cases h1 : Nat.ble k q.1 with
      | true => rfl
      | false =>
        show cond (Nat.beq j q.1) q.2 (zov f (zin k v l) j) = _
        rw [ih]
        cases h3 : Nat.beq j k with
        | false => rfl
        | true =>
          have e : j = k := Nat.eq_of_beq_eq_true h3
          rw [e, h2]
          rfl
theorem zov_zall {α : Type} (f : Nat → α) (m l : List (Nat × α)) (j : Nat) : zov f (zall m l) j = zov (zov f l) m j := by
  induction m with
  | nil => rfl
  | cons q m ih =>
    show zov f (zin q.1 q.2 (zall m l)) j = cond (Nat.beq j q.1) q.2 (zov (zov f l) m j)
    rw [zov_zin, ih]
theorem zov_zle {α : Type} {g : Nat → α} {l : List (Nat × α)} (h : zle g l) (j : Nat) : zov g l j = g j := by
  induction l with
  | nil => rfl
  | cons q l ih =>
    show cond (Nat.beq j q.1) q.2 (zov g l j) = g j
    rw [ih h.2]
    cases h3 : Nat.beq j q.1 with
    | false => rfl
    | true => rw [Nat.eq_of_beq_eq_true h3]; exact h.1.symm
def zap (σ : zS) (L : zL) : zS := (zov σ.1 L.1, zov σ.2.1 L.2.1, zov σ.2.2 L.2.2)
def zsub (σ : zS) (L l : zL) : Prop := zle (zov σ.1 L.1) l.1 ∧ zle (zov σ.2.1 L.2.1) l.2.1 ∧ zle (zov σ.2.2 L.2.2) l.2.2
def zjoin (M L : zL) : zL := (zall M.1 L.1, zall M.2.1 L.2.1, zall M.2.2 L.2.2)
theorem zap_sub {σ : zS} {L l : zL} (h : zsub σ L l) : zap (zap σ L) l = zap σ L := by
  show (zov (zov σ.1 L.1) l.1, zov (zov σ.2.1 L.2.1) l.2.1, zov (zov σ.2.2 L.2.2) l.2.2) = (zov σ.1 L.1, zov σ.2.1 L.2.1, zov σ.2.2 L.2.2)
  rw [funext (zov_zle h.1), funext (zov_zle h.2.1), funext (zov_zle h.2.2)]
theorem zap_join (σ : zS) (L M : zL) : zap (zap σ L) M = zap σ (zjoin M L) := by
  show (zov (zov σ.1 L.1) M.1, zov (zov σ.2.1 L.2.1) M.2.1, zov (zov σ.2.2 L.2.2) M.2.2) = (zov σ.1 (zall M.1 L.1), zov σ.2.1 (zall M.2.1 L.2.1), zov σ.2.2 (zall M.2.2 L.2.2))
  rw [funext (zov_zall σ.1 M.1 L.1), funext (zov_zall σ.2.1 M.2.1 L.2.1), funext (zov_zall σ.2.2 M.2.2 L.2.2)]
def zkey (c k : Nat) : Nat := c * 64 + k
/-- an address in the place of a place -/
def zcv (ad : Nat → Nat) : Value → Value
  | .ref k => .ref (ad k)
  | v => v
theorem zcv_cat (ad : Nat → Nat) (v : Value) : (zcv ad v).category = v.category := by cases v <;> rfl
def zrf (ad : Nat → Nat) (x : Int32) : Value := cond (x == -1) .null (.ref (ad x.toNatClampNeg))
def zfv (ad : Nat → Nat) (f : Nat → Int32) (c k : Nat) : zF → Value
  | none => .int (f (zkey c k))
  | some none => zrf ad (f (zkey c k))
  | some (some p) => .ref (ad p)
def zcell (cy : Nat → ClassId) (ad : Nat → Nat) (S : zS) (c : Nat) : zSh → va_E
  | .inl o => .inr (o.1, o.2.mapIdx (zfv ad S.1 c))
  | .inr (1, n) => .inl (cy 1, n, .inr (.inl (S.2.2 c)))
  | .inr (t, n) => .inl (cy t, n, .inl (S.2.1 c))
def zwd (W : List zSh) (cy : Nat → ClassId) (ad : Nat → Nat) (S : zS) : va_W := W.mapIdx (fun c h => (ad c, zcell cy ad S c h))
def ztys (cy : Nat → ClassId) : List (ClassId × FieldType) := [(cy 0, .int), (cy 1, .long), (cy 2, .byte), (cy 3, .boolean), (cy 4, .char)]
theorem zwd_at {W : List zSh} {cy : Nat → ClassId} {ad : Nat → Nat} {S : zS} {c : Nat} {h : zSh} (hc : W[c]? = some h) : (zwd W cy ad S)[c]? = some (ad c, zcell cy ad S c h) := by
  unfold zwd
  rw [List.getElem?_mapIdx, hc]
  rfl
theorem zwd_len (W : List zSh) (cy : Nat → ClassId) (ad : Nat → Nat) (S : zS) : (zwd W cy ad S).length = W.length := by
  unfold zwd
  rw [List.length_mapIdx]
/-- where cells lie: apart, and of a kind -/
def zAd (n : Nat) (A : Nat → Prop) (ad : Nat → Nat) : Prop := (∀ i j, i < n → j < n → ad i = ad j → i = j) ∧ ∀ k, k < n → A (ad k)
theorem zAd.D {W : List zSh} {A : Nat → Prop} {ad : Nat → Nat} (h : zAd W.length A ad) (cy : Nat → ClassId) (S : zS) : va_D A (zwd W cy ad S) := by
  have key : ∀ (i : Nat) (p : Nat × va_E), (zwd W cy ad S)[i]? = some p → i < W.length ∧ p.1 = ad i := by
    intro i p hp
    have hl : i < (zwd W cy ad S).length := (List.getElem?_eq_some_iff.mp hp).1
    rw [zwd_len] at hl
    have h2 : W[i]? = some W[i] := List.getElem?_eq_getElem hl
    rw [zwd_at h2] at hp
    exact ⟨hl, by rw [← Option.some.inj hp]⟩
  refine ⟨fun i j p q hp hq e => ?_, fun k q hq => ?_⟩
  · obtain ⟨a1, a2⟩ := key i p hp
    obtain ⟨b1, b2⟩ := key j q hq
    exact h.1 i j a1 b1 (by rw [← a2, ← b2, e])
  · obtain ⟨a1, a2⟩ := key k q hq
    rw [a2]
    exact h.2 k a1
/-- which cells a method may write -/
def zA (n : Nat) (ad : Nat → Nat) (sz : Nat) : Nat → Prop := fun q => (∃ k, k < n ∧ q = ad k) ∨ sz ≤ q
theorem zwd_set {W : List zSh} {cy : Nat → ClassId} {ad : Nat → Nat} {S S' : zS} {c : Nat} {h : zSh} (hc : W[c]? = some h) {x : va_E} (hx : zcell cy ad S' c h = x) (ho : ∀ c' h', c' ≠ c → W[c']? = some h' → zcell cy ad S' c' h' = zcell cy ad S c' h') : (zwd W cy ad S).set c (ad c, x) = zwd W cy ad S' := by
  apply List.ext_getElem?
  intro i
  by_cases hi : i = c
  · subst hi
    have hl : i < W.length := (List.getElem?_eq_some_iff.mp hc).1
    rw [List.getElem?_set_self (by rw [zwd_len]; exact hl), zwd_at hc, hx]
  · rw [List.getElem?_set_ne (fun e => hi e.symm)]
    unfold zwd
    rw [List.getElem?_mapIdx, List.getElem?_mapIdx]
    cases hw : W[i]? with
    | none => rfl
    | some h' =>
      show some (ad i, zcell cy ad S i h') = some (ad i, zcell cy ad S' i h')
      rw [ho i h' hi hw]
def zok (W : List zSh) : Prop := ∀ (c : Nat) (o : Nat × List zF), W[c]? = some (.inl o) → o.2.length ≤ 64
theorem zcell_row {cy : Nat → ClassId} {ad : Nat → Nat} {S S' : zS} {c : Nat} (h1 : S'.1 = S.1) (h2 : S'.2.1 c = S.2.1 c) (h3 : S'.2.2 c = S.2.2 c) (h : zSh) : zcell cy ad S' c h = zcell cy ad S c h := by
  rcases h with o | ⟨t, n⟩
  · show Sum.inr (o.1, o.2.mapIdx (zfv ad S'.1 c)) = Sum.inr (o.1, o.2.mapIdx (zfv ad S.1 c))
    rw [h1]
  · unfold zcell
    split
    · rename_i e; cases e
    · rw [h3]
    · rw [h2]
/-- the row of ints at a place becomes g -/
theorem zwd_seti {W : List zSh} {cy : Nat → ClassId} {ad : Nat → Nat} {σ : zS} {L : zL} {c t n : Nat} (hc : W[c]? = some (.inr (t, n))) (ht : t ≠ 1) (g : Nat → Int32) :
    (zwd W cy ad (zap σ L)).set c (ad c, .inl (cy t, n, .inl g)) = zwd W cy ad (zap σ (L.1, zin c g L.2.1, L.2.2)) := by
  have e : ∀ j, (zap σ (L.1, zin c g L.2.1, L.2.2)).2.1 j = cond (Nat.beq j c) g ((zap σ L).2.1 j) := fun j => zov_zin σ.2.1 c g L.2.1 j
  refine zwd_set hc ?_ (fun c' h' hne _ => zcell_row (S := zap σ L) (S' := zap σ (L.1, zin c g L.2.1, L.2.2)) rfl ?_ rfl h')
  · unfold zcell
    split
    · rename_i h; cases h
    · rename_i h; cases h; exact absurd rfl ht
    · rename_i h; cases h
      rw [e, Nat.beq_refl]
      rfl
  · rw [e]
    have : Nat.beq c' c = false := by
      cases h : Nat.beq c' c with
      | false => rfl
      | true => exact absurd (Nat.eq_of_beq_eq_true h) hne
    rw [this]
    rfl
theorem zwd_setl {W : List zSh} {cy : Nat → ClassId} {ad : Nat → Nat} {σ : zS} {L : zL} {c n : Nat} (hc : W[c]? = some (.inr (1, n))) (g : Nat → Int64) :
    (zwd W cy ad (zap σ L)).set c (ad c, .inl (cy 1, n, .inr (.inl g))) = zwd W cy ad (zap σ (L.1, L.2.1, zin c g L.2.2)) := by
  have e : ∀ j, (zap σ (L.1, L.2.1, zin c g L.2.2)).2.2 j = cond (Nat.beq j c) g ((zap σ L).2.2 j) := fun j => zov_zin σ.2.2 c g L.2.2 j
  refine zwd_set hc ?_ (fun c' h' hne _ => zcell_row (S := zap σ L) (S' := zap σ (L.1, L.2.1, zin c g L.2.2)) rfl rfl ?_ h')
  · show Sum.inl (cy 1, n, Sum.inr (Sum.inl _)) = _
    rw [e, Nat.beq_refl]
    rfl
  · rw [e]
    have : Nat.beq c' c = false := by
      cases h : Nat.beq c' c with
      | false => rfl
      | true => exact absurd (Nat.eq_of_beq_eq_true h) hne
    rw [this]
    rfl
theorem zkey_ne {c c' k k' : Nat} (hk : k < 64) (hk' : k' < 64) (h : c' ≠ c ∨ k' ≠ k) : Nat.beq (zkey c' k') (zkey c k) = false := by
  cases e : Nat.beq (zkey c' k') (zkey c k) with
  | false => rfl
  | true =>
    have := Nat.eq_of_beq_eq_true e
    unfold zkey at this
    omega
/-- a field of a whole number becomes v -/
theorem zwd_setf {W : List zSh} (hW : zok W) {cy : Nat → ClassId} {ad : Nat → Nat} {σ : zS} {L : zL} {c ci k : Nat} {fs : List zF} {fk : zF} (hc : W[c]? = some (.inl (ci, fs))) (hk : fs[k]? = some fk) (v : Int32) {x : Value}
    (hx : ∀ f : Nat → Int32, f (zkey c k) = v → zfv ad f c k fk = x) :
    (zwd W cy ad (zap σ L)).set c (ad c, .inr (ci, (fs.mapIdx (zfv ad (zap σ L).1 c)).set k x)) = zwd W cy ad (zap σ (zin (zkey c k) v L.1, L.2)) := by
  have e : ∀ j, (zap σ (zin (zkey c k) v L.1, L.2)).1 j = cond (Nat.beq j (zkey c k)) v ((zap σ L).1 j) := fun j => zov_zin σ.1 (zkey c k) v L.1 j
  have hfl : fs.length ≤ 64 := hW c _ hc
  have hkl : k < fs.length := (List.getElem?_eq_some_iff.mp hk).1
  have hoth : ∀ c' k' f, k' < 64 → (c' ≠ c ∨ k' ≠ k) → zfv ad (zap σ (zin (zkey c k) v L.1, L.2)).1 c' k' f = zfv ad (zap σ L).1 c' k' f := by
    intro c' k' f hk' hne
    have e2 : (zap σ (zin (zkey c k) v L.1, L.2)).1 (zkey c' k') = (zap σ L).1 (zkey c' k') := by
      rw [e, zkey_ne (by omega) hk' hne]
      rfl
    rcases f with _ | _ | p
    · show Value.int _ = Value.int _
      rw [e2]
    · show zrf ad _ = zrf ad _
      rw [e2]
    · rfl
  refine zwd_set hc ?_ (fun c' h' hne hw => ?_)
  · show Sum.inr (ci, fs.mapIdx _) = Sum.inr (ci, _)
    congr 2
    apply List.ext_getElem?
    intro i
    rw [List.getElem?_mapIdx]
    by_cases hi : i = k
    · subst hi
      rw [List.getElem?_set_self (by rw [List.length_mapIdx]; exact hkl), hk]
      show some _ = some _
      rw [hx _ (by rw [e, Nat.beq_refl]; rfl)]
    · rw [List.getElem?_set_ne (fun q => hi q.symm), List.getElem?_mapIdx]
      cases hf : fs[i]? with
      | none => rfl
      | some f =>
        have hil : i < fs.length := (List.getElem?_eq_some_iff.mp hf).1
        show some _ = some _
        rw [hoth c i f (by omega) (Or.inr hi)]
  · rcases h' with o | ⟨t, n⟩
    · have hol : o.2.length ≤ 64 := hW c' _ hw
      show Sum.inr (o.1, o.2.mapIdx _) = Sum.inr (o.1, o.2.mapIdx _)
      congr 2
      apply List.ext_getElem?
      intro i
      rw [List.getElem?_mapIdx, List.getElem?_mapIdx]
      cases hf : o.2[i]? with
      | none => rfl
      | some f =>
        have hil : i < o.2.length := (List.getElem?_eq_some_iff.mp hf).1
        show some _ = some _
        rw [hoth c' i f (by omega) (Or.inl hne)]
    · unfold zcell
      split
      · rename_i h; cases h
      · rfl
      · rfl
/-- words of the tables that stay -/
def zTB : List Cond := lw_tbl.filter goodWord
theorem zTB_of {w : Cond} {i : Nat} (h : lw_tbl[i]? = some w) (hg : goodWord w = true) : w ∈ zTB := List.mem_filter.mpr ⟨List.mem_of_getElem? h, hg⟩
/-- words on private members that nest mates share -/
def zisN : Cond → Bool
  | .fieldLinkNest .. => true
  | .methodLinkNest .. => true
  | _ => false
def zNB : List Cond := lw_tbl.filter zisN
theorem zNB_of {w : Cond} {i : Nat} (h : lw_tbl[i]? = some w) (hg : zisN w = true) : w ∈ zNB := List.mem_filter.mpr ⟨List.mem_of_getElem? h, hg⟩
theorem zNB_warm {w : Cond} (hw : w ∈ zNB) {s U : State} (hW : s.WarmedH U.vm) (h : va_Nw w s) : va_Nw w U := by
  have hq := (List.mem_filter.mp hw).2
  cases w <;> first | exact va_Nw.warmF hW h | exact va_Nw.warmM hW h | (cases hq)
theorem zNB_same {w : Cond} (hw : w ∈ zNB) {s U : State} (hv : s.vm = U.vm) (h : va_Nw w s) : va_Nw w U := by
  have hq := (List.mem_filter.mp hw).2
  cases w <;> first | exact va_Nw.same rfl hv h | (cases hq)
abbrev zcl : List vw_C := [(RX0, TX0, 5), (RX1, TX1, 14), (RX2, TX2, 5), (RX3, TX3, 11), (RX4, TX4, 5), (RX5, TX5, 2), (RX6, TX6, 2), (RX7, TX7, 6), (RX8, TX8, 4), (RX9, TX9, 4), (RX10, TX10, 7), (RX11, TX11, 13), (RX12, TX12, 58)]
/-- a method: its class, its name, its bytes, how many locals, what it returns -/
abbrev zM : Type := String × MethodName × ByteArray × Nat × Option FieldType
/-- the six String constants (places 88 .. 93) and the one static that their reading asks for -/
def zkn : List (String × Nat × String) := [(RX1, 84, "uwdl"), (RX1, 97, "abcdefgh"), (RX7, 87, "hscpxfky"), (RX7, 70, "<>="), (RX7, 72, "+-"), (RX7, 74, "*/")]
def zKx (ad : Nat → Nat) (A : Nat → Prop) (U : State) (H : Heap) : Prop := vk_S 6 zkl zkb (fun i => ad (88 + i)) (fun i => ad (94 + i)) A U H ∧ (∀ (i : Nat) (q : String × Nat × String), zkn[i]? = some q → vk_R q.1 q.2.1 q.2.2 (ad (88 + i)) U) ∧ va_Z "java/lang/String" "COMPACT_STRINGS" "Z" (.int 1) A U H ∧ ∀ w ∈ zNB, va_Nw w U
theorem zKx.to {ad : Nat → Nat} {A B : Nat → Prop} {s U : State} {H H1 : Heap} (h : zKx ad A s H) (hW : s.WarmedH U.vm) (hq : ∀ a : Nat, a < H.size → ¬ A a → H1[a]? = H[a]?) (hAB : ∀ q, B q → A q) : zKx ad B U H1 := by
  obtain ⟨h1, h2, h3, h4⟩ := h
  exact ⟨((vk_S.moved hW.alike h1).kept hq).narrow hAB, fun i q hi => vk_R.warm hW (h2 i q hi), ((va_Z.moved hW.alike h3).kept hq).narrow hAB, fun w hw => zNB_warm hw hW (h4 w hw)⟩
theorem zKx.same {ad : Nat → Nat} {A : Nat → Prop} {s U : State} {H : Heap} (h : zKx ad A s H) (hv : U.vm = s.vm) : zKx ad A U H := by
  obtain ⟨h1, h2, h3, h4⟩ := h
  have ha : s.vm.Alike U.vm := by rw [hv]; exact Vm.Alike.refl s.vm
  exact ⟨vk_S.moved ha h1, fun i q hi => vk_R.same hv (h2 i q hi), va_Z.moved ha h3, fun w hw => zNB_same hw hv.symm (h4 w hw)⟩
def zC (V : List zSh) (d : Nat) (mi : zM) (p : Program) (R : Room) (s : State) (m : MethodId) (args : Array Value) (meth : Method) (c : Code) (D : va_G) (cy : Nat → ClassId) (ad : Nat → Nat) (A : Nat → Prop) : Prop :=
  p.tables.exec = Jvm.exec ∧ c.code = mi.2.2.1 ∧ c.maxLocals = mi.2.2.2.1 ∧ meth.sig.returnType = mi.2.2.2.2 ∧ s.vm.findClass mi.1 = some m.cls ∧ (∀ w ∈ zTB, w.before args s = true) ∧ meth.locks = false ∧ (d ≤ R.frames ∧ d * 64 ≤ R.locals) ∧ va_K D zcl (ztys cy) s ∧ (∀ q : Nat, s.heap.size ≤ q → A q) ∧ zAd V.length A ad ∧ zKx ad A s s.heap
/-- what stands behind a method -/
def zQ (V : List zSh) (D : va_G) (cy : Nat → ClassId) (ad : Nat → Nat) (A : Nat → Prop) (r : Option Value) (S : zS) : Array Value → State → Outcome → State → Prop := fun _ st o t =>
  o = .returned (r.map (zcv ad)) ∧ va_P D zcl (zwd V cy ad S) t.heap ∧ va_F A st t
/-- from here the method comes to its end, answers r, and leaves the state with the overrides M -/
def zJ (l : Launch) (V : List zSh) (d : Nat) (mi : zM) (σ : zS) (L : zL) (pc : Nat) (ls : List (Nat × Value)) (st : List Value) (r : Option Value) (M : zL) : Prop :=
  ∀ (p : Program) (e : Env) (R : Room) (s : State) (m : MethodId) (args : Array Value) (below : List Frame) (meth : Method) (c : Code) (D : va_G) (cy : Nat → ClassId) (ad : Nat → Nat) (A : Nat → Prop) (H : Heap) (locs : List Loc) (la : Array Slot),
    zC V d mi p R s m args meth c D cy ad A → va_P D zcl (zwd V cy ad (zap σ L)) H → va_S A s.heap H locs → lv_has la mi.2.2.2.1 (ls.map (fun q => (q.1, zcv ad q.2))) →
    W p l e R s m args below meth c H locs 0 0 (MQ below (zQ V D cy ad A r (zap σ M)) args s 0 0 A) (F0 m pc la (st.map (zcv ad)))
def zMt (l : Launch) (V : List zSh) (d : Nat) (mi : zM) (σ : zS) (L : zL) (av : List Value) (r : Option Value) (M : zL) : Prop :=
  ∀ (D : va_G) (cy : Nat → ClassId) (ad : Nat → Nat) (sz : Nat),
    Met l mi.2.1 (Cond.code mi.2.1 mi.2.2.1 mi.2.2.2.1 mi.2.2.2.2 :: zTB) { frames := d, cells := 0, slots := 0, locals := d * 64 }
      (va_Pc (av.map (zcv ad)) (fun U => U.heap.size = sz ∧ va_P D zcl (zwd V cy ad (zap σ L)) U.heap ∧ va_K D zcl (ztys cy) U ∧ zAd V.length (fun _ => True) ad ∧ zKx ad (zA V.length ad sz) U U.heap))
      (zQ V D cy ad (zA V.length ad sz) r (zap σ M)) 0 0 (zA V.length ad sz)
/-! locals -/
def zlk : List (Nat × Value) → Nat → Option Value
  | [], _ => none
  | q :: l, i => cond (Nat.beq q.1 i) (some q.2) (zlk l i)
theorem zlk_mem {ls : List (Nat × Value)} {i : Nat} {v : Value} (h : zlk ls i = some v) : (i, v) ∈ ls := by
  induction ls with
  | nil => cases h
  | cons q l ih =>
    have h : cond (Nat.beq q.1 i) (some q.2) (zlk l i) = some v := h
    cases hb : Nat.beq q.1 i with
    | true =>
      rw [hb] at h
      have e1 : q.1 = i := Nat.eq_of_beq_eq_true hb
      have e2 : q.2 = v := Option.some.inj h
      rw [← e1, ← e2]
      exact List.mem_cons_self
    | false =>
      rw [hb] at h
      exact List.mem_cons_of_mem _ (ih h)
theorem zlk_at {la : Array Slot} {nL : Nat} {ls : List (Nat × Value)} {ad : Nat → Nat} {i : Nat} {v : Value} (hl : lv_has la nL (ls.map (fun q => (q.1, zcv ad q.2)))) (h : zlk ls i = some v) : la[i]? = some (.val (zcv ad v)) :=
  hl.2.2 (i, zcv ad v) (List.mem_map.mpr ⟨(i, v), zlk_mem h, rfl⟩)
theorem zlk_pos (ad : Nat → Nat) {ls : List (Nat × Value)} {i : Nat} {v : Value} (h : zlk ls i = some v) : ∃ j : Nat, (ls.map (fun q => (q.1, zcv ad q.2)))[j]? = some (i, zcv ad v) :=
  List.getElem?_of_mem (List.mem_map.mpr ⟨(i, v), zlk_mem h, rfl⟩)
def zst1 (i : Nat) (v : Value) (ls : List (Nat × Value)) : List (Nat × Value) := (i, v) :: ls.filter (fun q => !(q.1 == i) && !(q.1 + 1 == i && q.2.category == 2))
def zst2 (i : Nat) (v : Value) (ls : List (Nat × Value)) : List (Nat × Value) := (i, v) :: ls.filter (fun q => !(q.1 == i) && (!(q.1 == i + 1) && !(q.1 + 1 == i && q.2.category == 2)))
theorem zst1_map (ad : Nat → Nat) (i : Nat) (v : Value) (ls : List (Nat × Value)) : (zst1 i v ls).map (fun q => (q.1, zcv ad q.2)) = (i, zcv ad v) :: (ls.map (fun q => (q.1, zcv ad q.2))).filter (fun q => !(q.1 == i) && !(q.1 + 1 == i && q.2.category == 2)) := by
  show (i, zcv ad v) :: (ls.filter _).map _ = _
  congr 1
  rw [List.filter_map]
  congr 1
  apply List.filter_congr
  intro q _
  show _ = (!(q.1 == i) && !(q.1 + 1 == i && (zcv ad q.2).category == 2))
  rw [zcv_cat]
theorem zst2_map (ad : Nat → Nat) (i : Nat) (v : Value) (ls : List (Nat × Value)) : (zst2 i v ls).map (fun q => (q.1, zcv ad q.2)) = (i, zcv ad v) :: (ls.map (fun q => (q.1, zcv ad q.2))).filter (fun q => !(q.1 == i) && (!(q.1 == i + 1) && !(q.1 + 1 == i && q.2.category == 2))) := by
  show (i, zcv ad v) :: (ls.filter _).map _ = _
  congr 1
  rw [List.filter_map]
  congr 1
  apply List.filter_congr
  intro q _
  show _ = (!(q.1 == i) && (!(q.1 == i + 1) && !(q.1 + 1 == i && (zcv ad q.2).category == 2)))
  rw [zcv_cat]
def zlle (ls : List (Nat × Value)) : List (Nat × Value) → Prop
  | [] => True
  | q :: l => zlk ls q.1 = some q.2 ∧ zlle ls l
theorem zlle_mem {ls l : List (Nat × Value)} (h : zlle ls l) : ∀ q ∈ l, q ∈ ls := by
  induction l with
  | nil => intro q hq; cases hq
  | cons a l ih =>
    intro q hq
    rcases List.mem_cons.mp hq with rfl | hq
    · exact zlk_mem h.1
    · exact ih h.2 q hq
section
variable {l : Launch} {V : List zSh} {d : Nat} {mi : zM} {σ : zS} {L M : zL} {pc pc' tgt : Nat} {off : Int} {ls : List (Nat × Value)} {st : List Value} {r : Option Value}
theorem zJ_iadd {x y : Int32} (hd : decode mi.2.2.1 pc = .ok (.iadd, 1)) (hp : pc + 1 = pc') (k : zJ l V d mi σ L pc' ls (.int (x + y) :: st) r M) : zJ l V d mi σ L pc ls (.int y :: .int x :: st) r M := by
  subst hp
  intro p e R s m args below meth c D cy ad A H locs la hC hP hS hl
  exact lv_iadd hC.1 hC.2.1 hd (k p e R s m args below meth c D cy ad A H locs la hC hP hS hl)
theorem zJ_isub {x y : Int32} (hd : decode mi.2.2.1 pc = .ok (.isub, 1)) (hp : pc + 1 = pc') (k : zJ l V d mi σ L pc' ls (.int (x - y) :: st) r M) : zJ l V d mi σ L pc ls (.int y :: .int x :: st) r M := by
  subst hp
  intro p e R s m args below meth c D cy ad A H locs la hC hP hS hl
  exact lv_isub hC.1 hC.2.1 hd (k p e R s m args below meth c D cy ad A H locs la hC hP hS hl)
theorem zJ_imul {x y : Int32} (hd : decode mi.2.2.1 pc = .ok (.imul, 1)) (hp : pc + 1 = pc') (k : zJ l V d mi σ L pc' ls (.int (x * y) :: st) r M) : zJ l V d mi σ L pc ls (.int y :: .int x :: st) r M := by
  subst hp
  intro p e R s m args below meth c D cy ad A H locs la hC hP hS hl
  exact lv_imul hC.1 hC.2.1 hd (k p e R s m args below meth c D cy ad A H locs la hC hP hS hl)
theorem zJ_iand {x y : Int32} (hd : decode mi.2.2.1 pc = .ok (.iand, 1)) (hp : pc + 1 = pc') (k : zJ l V d mi σ L pc' ls (.int (x &&& y) :: st) r M) : zJ l V d mi σ L pc ls (.int y :: .int x :: st) r M := by
  subst hp
  intro p e R s m args below meth c D cy ad A H locs la hC hP hS hl
  exact lv_iand hC.1 hC.2.1 hd (k p e R s m args below meth c D cy ad A H locs la hC hP hS hl)
theorem zJ_ior {x y : Int32} (hd : decode mi.2.2.1 pc = .ok (.ior, 1)) (hp : pc + 1 = pc') (k : zJ l V d mi σ L pc' ls (.int (x ||| y) :: st) r M) : zJ l V d mi σ L pc ls (.int y :: .int x :: st) r M := by
  subst hp
  intro p e R s m args below meth c D cy ad A H locs la hC hP hS hl
  exact lv_ior hC.1 hC.2.1 hd (k p e R s m args below meth c D cy ad A H locs la hC hP hS hl)
theorem zJ_ishl {x y : Int32} (hd : decode mi.2.2.1 pc = .ok (.ishl, 1)) (hp : pc + 1 = pc') (k : zJ l V d mi σ L pc' ls (.int (x <<< (y &&& 31)) :: st) r M) : zJ l V d mi σ L pc ls (.int y :: .int x :: st) r M := by
  subst hp
  intro p e R s m args below meth c D cy ad A H locs la hC hP hS hl
  exact lv_ishl hC.1 hC.2.1 hd (k p e R s m args below meth c D cy ad A H locs la hC hP hS hl)
theorem zJ_ishr {x y : Int32} (hd : decode mi.2.2.1 pc = .ok (.ishr, 1)) (hp : pc + 1 = pc') (k : zJ l V d mi σ L pc' ls (.int (x >>> (y &&& 31)) :: st) r M) : zJ l V d mi σ L pc ls (.int y :: .int x :: st) r M := by
  subst hp
  intro p e R s m args below meth c D cy ad A H locs la hC hP hS hl
  exact lv_ishr hC.1 hC.2.1 hd (k p e R s m args below meth c D cy ad A H locs la hC hP hS hl)
theorem zJ_iushr {x y : Int32} (hd : decode mi.2.2.1 pc = .ok (.iushr, 1)) (hp : pc + 1 = pc') (k : zJ l V d mi σ L pc' ls (.int ((x.toUInt32 >>> (y.toUInt32 &&& Int32.toUInt32 31)).toInt32) :: st) r M) : zJ l V d mi σ L pc ls (.int y :: .int x :: st) r M := by
  subst hp
  intro p e R s m args below meth c D cy ad A H locs la hC hP hS hl
  exact lv_iushr hC.1 hC.2.1 hd rfl (k p e R s m args below meth c D cy ad A H locs la hC hP hS hl)
theorem zJ_idiv {x y : Int32} (hd : decode mi.2.2.1 pc = .ok (.idiv, 1)) (hne : ¬ y = 0) (hp : pc + 1 = pc') (k : zJ l V d mi σ L pc' ls (.int (x / y) :: st) r M) : zJ l V d mi σ L pc ls (.int y :: .int x :: st) r M := by
  subst hp
  intro p e R s m args below meth c D cy ad A H locs la hC hP hS hl
  exact lv_idiv hC.1 hC.2.1 hd hne (k p e R s m args below meth c D cy ad A H locs la hC hP hS hl)
theorem zJ_irem {x y : Int32} (hd : decode mi.2.2.1 pc = .ok (.irem, 1)) (hne : ¬ y = 0) (hp : pc + 1 = pc') (k : zJ l V d mi σ L pc' ls (.int (x - x / y * y) :: st) r M) : zJ l V d mi σ L pc ls (.int y :: .int x :: st) r M := by
  subst hp
  intro p e R s m args below meth c D cy ad A H locs la hC hP hS hl
  exact lv_irem hC.1 hC.2.1 hd hne (k p e R s m args below meth c D cy ad A H locs la hC hP hS hl)
theorem zJ_ldiv {x y : Int64} (hd : decode mi.2.2.1 pc = .ok (.ldiv, 1)) (hne : ¬ y = 0) (hp : pc + 1 = pc') (k : zJ l V d mi σ L pc' ls (.long (x / y) :: st) r M) : zJ l V d mi σ L pc ls (.long y :: .long x :: st) r M := by
  subst hp
  intro p e R s m args below meth c D cy ad A H locs la hC hP hS hl
  exact lv_ldiv hC.1 hC.2.1 hd hne (k p e R s m args below meth c D cy ad A H locs la hC hP hS hl)
theorem zJ_lrem {x y : Int64} (hd : decode mi.2.2.1 pc = .ok (.lrem, 1)) (hne : ¬ y = 0) (hp : pc + 1 = pc') (k : zJ l V d mi σ L pc' ls (.long (x - x / y * y) :: st) r M) : zJ l V d mi σ L pc ls (.long y :: .long x :: st) r M := by
  subst hp
  intro p e R s m args below meth c D cy ad A H locs la hC hP hS hl
  exact lv_lrem hC.1 hC.2.1 hd hne (k p e R s m args below meth c D cy ad A H locs la hC hP hS hl)
theorem zJ_ladd {x y : Int64} (hd : decode mi.2.2.1 pc = .ok (.ladd, 1)) (hp : pc + 1 = pc') (k : zJ l V d mi σ L pc' ls (.long (x + y) :: st) r M) : zJ l V d mi σ L pc ls (.long y :: .long x :: st) r M := by
  subst hp
  intro p e R s m args below meth c D cy ad A H locs la hC hP hS hl
  exact lv_ladd hC.1 hC.2.1 hd (k p e R s m args below meth c D cy ad A H locs la hC hP hS hl)
theorem zJ_lsub {x y : Int64} (hd : decode mi.2.2.1 pc = .ok (.lsub, 1)) (hp : pc + 1 = pc') (k : zJ l V d mi σ L pc' ls (.long (x - y) :: st) r M) : zJ l V d mi σ L pc ls (.long y :: .long x :: st) r M := by
  subst hp
  intro p e R s m args below meth c D cy ad A H locs la hC hP hS hl
  exact lv_lsub hC.1 hC.2.1 hd (k p e R s m args below meth c D cy ad A H locs la hC hP hS hl)
theorem zJ_lmul {x y : Int64} (hd : decode mi.2.2.1 pc = .ok (.lmul, 1)) (hp : pc + 1 = pc') (k : zJ l V d mi σ L pc' ls (.long (x * y) :: st) r M) : zJ l V d mi σ L pc ls (.long y :: .long x :: st) r M := by
  subst hp
  intro p e R s m args below meth c D cy ad A H locs la hC hP hS hl
  exact lv_lmul hC.1 hC.2.1 hd (k p e R s m args below meth c D cy ad A H locs la hC hP hS hl)
theorem zJ_ineg {x : Int32} (hd : decode mi.2.2.1 pc = .ok (.ineg, 1)) (hp : pc + 1 = pc') (k : zJ l V d mi σ L pc' ls (.int (-x) :: st) r M) : zJ l V d mi σ L pc ls (.int x :: st) r M := by
  subst hp
  intro p e R s m args below meth c D cy ad A H locs la hC hP hS hl
  exact lv_ineg hC.1 hC.2.1 hd (k p e R s m args below meth c D cy ad A H locs la hC hP hS hl)
theorem zJ_lcmp {x y : Int64} (hd : decode mi.2.2.1 pc = .ok (.lcmp, 1)) (hp : pc + 1 = pc') (k : zJ l V d mi σ L pc' ls (.int (lg_cmp x y) :: st) r M) : zJ l V d mi σ L pc ls (.long y :: .long x :: st) r M := by
  subst hp
  intro p e R s m args below meth c D cy ad A H locs la hC hP hS hl
  exact W.lcmp hC.1 hC.2.1 hd (k p e R s m args below meth c D cy ad A H locs la hC hP hS hl)
theorem zJ_i2l {x : Int32} (hd : decode mi.2.2.1 pc = .ok (.i2l, 1)) (hp : pc + 1 = pc') (k : zJ l V d mi σ L pc' ls (.long x.toInt64 :: st) r M) : zJ l V d mi σ L pc ls (.int x :: st) r M := by
  subst hp
  intro p e R s m args below meth c D cy ad A H locs la hC hP hS hl
  exact lv_i2l hC.1 hC.2.1 hd rfl (k p e R s m args below meth c D cy ad A H locs la hC hP hS hl)
theorem zJ_l2i {x : Int64} (hd : decode mi.2.2.1 pc = .ok (.l2i, 1)) (hp : pc + 1 = pc') (k : zJ l V d mi σ L pc' ls (.int x.toInt32 :: st) r M) : zJ l V d mi σ L pc ls (.long x :: st) r M := by
  subst hp
  intro p e R s m args below meth c D cy ad A H locs la hC hP hS hl
  exact lv_l2i hC.1 hC.2.1 hd rfl (k p e R s m args below meth c D cy ad A H locs la hC hP hS hl)
theorem zJ_i2b {x : Int32} (hd : decode mi.2.2.1 pc = .ok (.i2b, 1)) (hp : pc + 1 = pc') (k : zJ l V d mi σ L pc' ls (.int x.toInt8.toInt32 :: st) r M) : zJ l V d mi σ L pc ls (.int x :: st) r M := by
  subst hp
  intro p e R s m args below meth c D cy ad A H locs la hC hP hS hl
  exact lv_i2b hC.1 hC.2.1 hd rfl (k p e R s m args below meth c D cy ad A H locs la hC hP hS hl)
theorem zJ_i2s {x : Int32} (hd : decode mi.2.2.1 pc = .ok (.i2s, 1)) (hp : pc + 1 = pc') (k : zJ l V d mi σ L pc' ls (.int x.toInt16.toInt32 :: st) r M) : zJ l V d mi σ L pc ls (.int x :: st) r M := by
  subst hp
  intro p e R s m args below meth c D cy ad A H locs la hC hP hS hl
  exact lv_i2s hC.1 hC.2.1 hd rfl (k p e R s m args below meth c D cy ad A H locs la hC hP hS hl)
theorem zJ_i2c {x : Int32} (hd : decode mi.2.2.1 pc = .ok (.i2c, 1)) (hp : pc + 1 = pc') (k : zJ l V d mi σ L pc' ls (.int (x.toUInt32 % 65536).toInt32 :: st) r M) : zJ l V d mi σ L pc ls (.int x :: st) r M := by
  subst hp
  intro p e R s m args below meth c D cy ad A H locs la hC hP hS hl
  exact lv_i2c hC.1 hC.2.1 hd rfl (k p e R s m args below meth c D cy ad A H locs la hC hP hS hl)
theorem zJ_iconst {n : Int} {v : Int32} (hd : decode mi.2.2.1 pc = .ok (.iconst n, 1)) (hv : Int32.ofInt n = v) (hp : pc + 1 = pc') (k : zJ l V d mi σ L pc' ls (.int v :: st) r M) : zJ l V d mi σ L pc ls (st) r M := by
  subst hp
  intro p e R s m args below meth c D cy ad A H locs la hC hP hS hl
  exact lv_iconst hC.1 hC.2.1 hd hv (k p e R s m args below meth c D cy ad A H locs la hC hP hS hl)
theorem zJ_bipush {n : Int} {v : Int32} (hd : decode mi.2.2.1 pc = .ok (.bipush n, 2)) (hv : (Int8.ofInt n).toInt32 = v) (hp : pc + 2 = pc') (k : zJ l V d mi σ L pc' ls (.int v :: st) r M) : zJ l V d mi σ L pc ls (st) r M := by
  subst hp
  intro p e R s m args below meth c D cy ad A H locs la hC hP hS hl
  exact lv_bipush hC.1 hC.2.1 hd hv (k p e R s m args below meth c D cy ad A H locs la hC hP hS hl)
theorem zJ_sipush {n : Int} {v : Int32} (hd : decode mi.2.2.1 pc = .ok (.sipush n, 3)) (hv : (Int16.ofInt n).toInt32 = v) (hp : pc + 3 = pc') (k : zJ l V d mi σ L pc' ls (.int v :: st) r M) : zJ l V d mi σ L pc ls (st) r M := by
  subst hp
  intro p e R s m args below meth c D cy ad A H locs la hC hP hS hl
  exact lv_sipush hC.1 hC.2.1 hd hv (k p e R s m args below meth c D cy ad A H locs la hC hP hS hl)
theorem zJ_lconst {n : Fin 2} {v : Int64} (hd : decode mi.2.2.1 pc = .ok (.lconst n, 1)) (hv : Int64.ofNat (n : Nat) = v) (hp : pc + 1 = pc') (k : zJ l V d mi σ L pc' ls (.long v :: st) r M) : zJ l V d mi σ L pc ls (st) r M := by
  subst hp
  intro p e R s m args below meth c D cy ad A H locs la hC hP hS hl
  exact lv_lconst hC.1 hC.2.1 hd hv (k p e R s m args below meth c D cy ad A H locs la hC hP hS hl)
theorem zJ_ldc {n : Nat} {v : Int32} (hd : decode mi.2.2.1 pc = .ok (.ldc n, 2)) (hw : Cond.constant mi.1 n v ∈ zTB) (hp : pc + 2 = pc') (k : zJ l V d mi σ L pc' ls (.int v :: st) r M) : zJ l V d mi σ L pc ls (st) r M := by
  subst hp
  intro p e R s m args below meth c D cy ad A H locs la hC hP hS hl
  exact (fun hx hb hd k => lv_ldc hx hb hC.2.2.2.2.1 (hC.2.2.2.2.2.1 _ hw) hd k) hC.1 hC.2.1 hd (k p e R s m args below meth c D cy ad A H locs la hC hP hS hl)
theorem zJ_ldc_w {n : Nat} {v : Int32} (hd : decode mi.2.2.1 pc = .ok (.ldc_w n, 3)) (hw : Cond.constant mi.1 n v ∈ zTB) (hp : pc + 3 = pc') (k : zJ l V d mi σ L pc' ls (.int v :: st) r M) : zJ l V d mi σ L pc ls (st) r M := by
  subst hp
  intro p e R s m args below meth c D cy ad A H locs la hC hP hS hl
  exact (fun hx hb hd k => lv_ldcw hx hb hC.2.2.2.2.1 (hC.2.2.2.2.2.1 _ hw) hd k) hC.1 hC.2.1 hd (k p e R s m args below meth c D cy ad A H locs la hC hP hS hl)
theorem zJ_ldc2_w {n : Nat} {v : Int64} (hd : decode mi.2.2.1 pc = .ok (.ldc2_w n, 3)) (hw : Cond.constantLong mi.1 n v ∈ zTB) (hp : pc + 3 = pc') (k : zJ l V d mi σ L pc' ls (.long v :: st) r M) : zJ l V d mi σ L pc ls (st) r M := by
  subst hp
  intro p e R s m args below meth c D cy ad A H locs la hC hP hS hl
  exact (fun hx hb hd k => lv_ldc2 hx hb hC.2.2.2.2.1 (hC.2.2.2.2.2.1 _ hw) hd k) hC.1 hC.2.1 hd (k p e R s m args below meth c D cy ad A H locs la hC hP hS hl)
theorem zJ_iload_n {x : Int32} {k4 : Fin 4} (hd : decode mi.2.2.1 pc = .ok (.iload_n k4, 1)) (hv : zlk ls (k4 : Nat) = some (.int x)) (hp : pc + 1 = pc') (k : zJ l V d mi σ L pc' ls (.int x :: st) r M) : zJ l V d mi σ L pc ls (st) r M := by
  subst hp
  intro p e R s m args below meth c D cy ad A H locs la hC hP hS hl
  exact lv_iload_n hC.1 hC.2.1 hd rfl (zlk_at hl hv) (k p e R s m args below meth c D cy ad A H locs la hC hP hS hl)
theorem zJ_iload {x : Int32} {i : Nat} (hd : decode mi.2.2.1 pc = .ok (.iload i, 2)) (hv : zlk ls i = some (.int x)) (hp : pc + 2 = pc') (k : zJ l V d mi σ L pc' ls (.int x :: st) r M) : zJ l V d mi σ L pc ls (st) r M := by
  subst hp
  intro p e R s m args below meth c D cy ad A H locs la hC hP hS hl
  exact lv_iload hC.1 hC.2.1 hd (zlk_at hl hv) (k p e R s m args below meth c D cy ad A H locs la hC hP hS hl)
theorem zJ_lload_n {x : Int64} {k4 : Fin 4} (hd : decode mi.2.2.1 pc = .ok (.lload_n k4, 1)) (hv : zlk ls (k4 : Nat) = some (.long x)) (hp : pc + 1 = pc') (k : zJ l V d mi σ L pc' ls (.long x :: st) r M) : zJ l V d mi σ L pc ls (st) r M := by
  subst hp
  intro p e R s m args below meth c D cy ad A H locs la hC hP hS hl
  exact lv_lload_n hC.1 hC.2.1 hd rfl (zlk_at hl hv) (k p e R s m args below meth c D cy ad A H locs la hC hP hS hl)
theorem zJ_lload {x : Int64} {i : Nat} (hd : decode mi.2.2.1 pc = .ok (.lload i, 2)) (hv : zlk ls i = some (.long x)) (hp : pc + 2 = pc') (k : zJ l V d mi σ L pc' ls (.long x :: st) r M) : zJ l V d mi σ L pc ls (st) r M := by
  subst hp
  intro p e R s m args below meth c D cy ad A H locs la hC hP hS hl
  exact lv_lload hC.1 hC.2.1 hd (zlk_at hl hv) (k p e R s m args below meth c D cy ad A H locs la hC hP hS hl)
theorem zJ_aload_n {x : Nat} {k4 : Fin 4} (hd : decode mi.2.2.1 pc = .ok (.aload_n k4, 1)) (hv : zlk ls (k4 : Nat) = some (.ref x)) (hp : pc + 1 = pc') (k : zJ l V d mi σ L pc' ls (.ref x :: st) r M) : zJ l V d mi σ L pc ls (st) r M := by
  subst hp
  intro p e R s m args below meth c D cy ad A H locs la hC hP hS hl
  exact lv_aload_n hC.1 hC.2.1 hd rfl (zlk_at hl hv) (k p e R s m args below meth c D cy ad A H locs la hC hP hS hl)
theorem zJ_aload {x : Nat} {i : Nat} (hd : decode mi.2.2.1 pc = .ok (.aload i, 2)) (hv : zlk ls i = some (.ref x)) (hp : pc + 2 = pc') (k : zJ l V d mi σ L pc' ls (.ref x :: st) r M) : zJ l V d mi σ L pc ls (st) r M := by
  subst hp
  intro p e R s m args below meth c D cy ad A H locs la hC hP hS hl
  exact lv_aload hC.1 hC.2.1 hd (zlk_at hl hv) (k p e R s m args below meth c D cy ad A H locs la hC hP hS hl)
theorem zJ_dup {v : Value} (hd : decode mi.2.2.1 pc = .ok (.dup, 1)) (hc : v.category = 1) (hp : pc + 1 = pc') (k : zJ l V d mi σ L pc' ls (v :: v :: st) r M) : zJ l V d mi σ L pc ls (v :: st) r M := by
  subst hp
  intro p e R s m args below meth c D cy ad A H locs la hC hP hS hl
  exact lv_dup hC.1 hC.2.1 hd (by rw [zcv_cat]; exact hc) (k p e R s m args below meth c D cy ad A H locs la hC hP hS hl)
theorem zJ_pop {v : Value} (hd : decode mi.2.2.1 pc = .ok (.pop, 1)) (hc : v.category = 1) (hp : pc + 1 = pc') (k : zJ l V d mi σ L pc' ls (st) r M) : zJ l V d mi σ L pc ls (v :: st) r M := by
  subst hp
  intro p e R s m args below meth c D cy ad A H locs la hC hP hS hl
  exact lv_pop hC.1 hC.2.1 hd (by rw [zcv_cat]; exact hc) (k p e R s m args below meth c D cy ad A H locs la hC hP hS hl)
theorem zJ_dup2 {v w : Value} (hd : decode mi.2.2.1 pc = .ok (.dup2, 1)) (hc : v.category = 1) (hw : w.category = 1) (hp : pc + 1 = pc') (k : zJ l V d mi σ L pc' ls (v :: w :: v :: w :: st) r M) : zJ l V d mi σ L pc ls (v :: w :: st) r M := by
  subst hp
  intro p e R s m args below meth c D cy ad A H locs la hC hP hS hl
  exact lv_dup2_11 hC.1 hC.2.1 hd (by rw [zcv_cat]; exact hc) (by rw [zcv_cat]; exact hw) (k p e R s m args below meth c D cy ad A H locs la hC hP hS hl)
theorem zJ_dup_x1 {v w : Value} (hd : decode mi.2.2.1 pc = .ok (.dup_x1, 1)) (hc : v.category = 1) (hw : w.category = 1) (hp : pc + 1 = pc') (k : zJ l V d mi σ L pc' ls (v :: w :: v :: st) r M) : zJ l V d mi σ L pc ls (v :: w :: st) r M := by
  subst hp
  intro p e R s m args below meth c D cy ad A H locs la hC hP hS hl
  exact lv_dup_x1 hC.1 hC.2.1 hd (by rw [zcv_cat]; exact hc) (by rw [zcv_cat]; exact hw) (k p e R s m args below meth c D cy ad A H locs la hC hP hS hl)
theorem zJ_if_eq {x : Int32} (hd : decode mi.2.2.1 pc = .ok (.ifCond .eq off, 3)) (ht : (pc : Int) + off = (tgt : Int)) (hp : pc + 3 = pc') (kt : x = 0 → zJ l V d mi σ L tgt ls st r M) (kf : ¬ x = 0 → zJ l V d mi σ L pc' ls st r M) : zJ l V d mi σ L pc ls (.int x :: st) r M := by
  subst hp
  intro p e R s m args below meth c D cy ad A H locs la hC hP hS hl
  exact lv_if_eq hC.1 hC.2.1 hd ht (fun h => kt h p e R s m args below meth c D cy ad A H locs la hC hP hS hl) (fun h => kf h p e R s m args below meth c D cy ad A H locs la hC hP hS hl)
theorem zJ_icmp_eq {x y : Int32} (hd : decode mi.2.2.1 pc = .ok (.if_icmp .eq off, 3)) (ht : (pc : Int) + off = (tgt : Int)) (hp : pc + 3 = pc') (kt : x = y → zJ l V d mi σ L tgt ls st r M) (kf : ¬ x = y → zJ l V d mi σ L pc' ls st r M) : zJ l V d mi σ L pc ls (.int y :: .int x :: st) r M := by
  subst hp
  intro p e R s m args below meth c D cy ad A H locs la hC hP hS hl
  exact lv_icmp_eq hC.1 hC.2.1 hd ht (fun h => kt h p e R s m args below meth c D cy ad A H locs la hC hP hS hl) (fun h => kf h p e R s m args below meth c D cy ad A H locs la hC hP hS hl)
theorem zJ_if_ne {x : Int32} (hd : decode mi.2.2.1 pc = .ok (.ifCond .ne off, 3)) (ht : (pc : Int) + off = (tgt : Int)) (hp : pc + 3 = pc') (kt : ¬ x = 0 → zJ l V d mi σ L tgt ls st r M) (kf : x = 0 → zJ l V d mi σ L pc' ls st r M) : zJ l V d mi σ L pc ls (.int x :: st) r M := by
  subst hp
  intro p e R s m args below meth c D cy ad A H locs la hC hP hS hl
  exact lv_if_ne hC.1 hC.2.1 hd ht (fun h => kt h p e R s m args below meth c D cy ad A H locs la hC hP hS hl) (fun h => kf h p e R s m args below meth c D cy ad A H locs la hC hP hS hl)
theorem zJ_icmp_ne {x y : Int32} (hd : decode mi.2.2.1 pc = .ok (.if_icmp .ne off, 3)) (ht : (pc : Int) + off = (tgt : Int)) (hp : pc + 3 = pc') (kt : ¬ x = y → zJ l V d mi σ L tgt ls st r M) (kf : x = y → zJ l V d mi σ L pc' ls st r M) : zJ l V d mi σ L pc ls (.int y :: .int x :: st) r M := by
  subst hp
  intro p e R s m args below meth c D cy ad A H locs la hC hP hS hl
  exact lv_icmp_ne hC.1 hC.2.1 hd ht (fun h => kt h p e R s m args below meth c D cy ad A H locs la hC hP hS hl) (fun h => kf h p e R s m args below meth c D cy ad A H locs la hC hP hS hl)
theorem zJ_if_lt {x : Int32} (hd : decode mi.2.2.1 pc = .ok (.ifCond .lt off, 3)) (ht : (pc : Int) + off = (tgt : Int)) (hp : pc + 3 = pc') (kt : x < 0 → zJ l V d mi σ L tgt ls st r M) (kf : ¬ x < 0 → zJ l V d mi σ L pc' ls st r M) : zJ l V d mi σ L pc ls (.int x :: st) r M := by
  subst hp
  intro p e R s m args below meth c D cy ad A H locs la hC hP hS hl
  exact lv_if_lt hC.1 hC.2.1 hd ht (fun h => kt h p e R s m args below meth c D cy ad A H locs la hC hP hS hl) (fun h => kf h p e R s m args below meth c D cy ad A H locs la hC hP hS hl)
theorem zJ_icmp_lt {x y : Int32} (hd : decode mi.2.2.1 pc = .ok (.if_icmp .lt off, 3)) (ht : (pc : Int) + off = (tgt : Int)) (hp : pc + 3 = pc') (kt : x < y → zJ l V d mi σ L tgt ls st r M) (kf : ¬ x < y → zJ l V d mi σ L pc' ls st r M) : zJ l V d mi σ L pc ls (.int y :: .int x :: st) r M := by
  subst hp
  intro p e R s m args below meth c D cy ad A H locs la hC hP hS hl
  exact lv_icmp_lt hC.1 hC.2.1 hd ht (fun h => kt h p e R s m args below meth c D cy ad A H locs la hC hP hS hl) (fun h => kf h p e R s m args below meth c D cy ad A H locs la hC hP hS hl)
theorem zJ_if_ge {x : Int32} (hd : decode mi.2.2.1 pc = .ok (.ifCond .ge off, 3)) (ht : (pc : Int) + off = (tgt : Int)) (hp : pc + 3 = pc') (kt : 0 ≤ x → zJ l V d mi σ L tgt ls st r M) (kf : ¬ 0 ≤ x → zJ l V d mi σ L pc' ls st r M) : zJ l V d mi σ L pc ls (.int x :: st) r M := by
  subst hp
  intro p e R s m args below meth c D cy ad A H locs la hC hP hS hl
  exact lv_if_ge hC.1 hC.2.1 hd ht (fun h => kt h p e R s m args below meth c D cy ad A H locs la hC hP hS hl) (fun h => kf h p e R s m args below meth c D cy ad A H locs la hC hP hS hl)
theorem zJ_icmp_ge {x y : Int32} (hd : decode mi.2.2.1 pc = .ok (.if_icmp .ge off, 3)) (ht : (pc : Int) + off = (tgt : Int)) (hp : pc + 3 = pc') (kt : y ≤ x → zJ l V d mi σ L tgt ls st r M) (kf : ¬ y ≤ x → zJ l V d mi σ L pc' ls st r M) : zJ l V d mi σ L pc ls (.int y :: .int x :: st) r M := by
  subst hp
  intro p e R s m args below meth c D cy ad A H locs la hC hP hS hl
  exact lv_icmp_ge hC.1 hC.2.1 hd ht (fun h => kt h p e R s m args below meth c D cy ad A H locs la hC hP hS hl) (fun h => kf h p e R s m args below meth c D cy ad A H locs la hC hP hS hl)
theorem zJ_if_gt {x : Int32} (hd : decode mi.2.2.1 pc = .ok (.ifCond .gt off, 3)) (ht : (pc : Int) + off = (tgt : Int)) (hp : pc + 3 = pc') (kt : 0 < x → zJ l V d mi σ L tgt ls st r M) (kf : ¬ 0 < x → zJ l V d mi σ L pc' ls st r M) : zJ l V d mi σ L pc ls (.int x :: st) r M := by
  subst hp
  intro p e R s m args below meth c D cy ad A H locs la hC hP hS hl
  exact lv_if_gt hC.1 hC.2.1 hd ht (fun h => kt h p e R s m args below meth c D cy ad A H locs la hC hP hS hl) (fun h => kf h p e R s m args below meth c D cy ad A H locs la hC hP hS hl)
theorem zJ_icmp_gt {x y : Int32} (hd : decode mi.2.2.1 pc = .ok (.if_icmp .gt off, 3)) (ht : (pc : Int) + off = (tgt : Int)) (hp : pc + 3 = pc') (kt : y < x → zJ l V d mi σ L tgt ls st r M) (kf : ¬ y < x → zJ l V d mi σ L pc' ls st r M) : zJ l V d mi σ L pc ls (.int y :: .int x :: st) r M := by
  subst hp
  intro p e R s m args below meth c D cy ad A H locs la hC hP hS hl
  exact lv_icmp_gt hC.1 hC.2.1 hd ht (fun h => kt h p e R s m args below meth c D cy ad A H locs la hC hP hS hl) (fun h => kf h p e R s m args below meth c D cy ad A H locs la hC hP hS hl)
theorem zJ_if_le {x : Int32} (hd : decode mi.2.2.1 pc = .ok (.ifCond .le off, 3)) (ht : (pc : Int) + off = (tgt : Int)) (hp : pc + 3 = pc') (kt : x ≤ 0 → zJ l V d mi σ L tgt ls st r M) (kf : ¬ x ≤ 0 → zJ l V d mi σ L pc' ls st r M) : zJ l V d mi σ L pc ls (.int x :: st) r M := by
  subst hp
  intro p e R s m args below meth c D cy ad A H locs la hC hP hS hl
  exact lv_if_le hC.1 hC.2.1 hd ht (fun h => kt h p e R s m args below meth c D cy ad A H locs la hC hP hS hl) (fun h => kf h p e R s m args below meth c D cy ad A H locs la hC hP hS hl)
theorem zJ_icmp_le {x y : Int32} (hd : decode mi.2.2.1 pc = .ok (.if_icmp .le off, 3)) (ht : (pc : Int) + off = (tgt : Int)) (hp : pc + 3 = pc') (kt : x ≤ y → zJ l V d mi σ L tgt ls st r M) (kf : ¬ x ≤ y → zJ l V d mi σ L pc' ls st r M) : zJ l V d mi σ L pc ls (.int y :: .int x :: st) r M := by
  subst hp
  intro p e R s m args below meth c D cy ad A H locs la hC hP hS hl
  exact lv_icmp_le hC.1 hC.2.1 hd ht (fun h => kt h p e R s m args below meth c D cy ad A H locs la hC hP hS hl) (fun h => kf h p e R s m args below meth c D cy ad A H locs la hC hP hS hl)
theorem zJ_goto (hd : decode mi.2.2.1 pc = .ok (.goto off, 3)) (ht : (pc : Int) + off = (tgt : Int)) (k : zJ l V d mi σ L tgt ls st r M) : zJ l V d mi σ L pc ls st r M := by
  intro p e R s m args below meth c D cy ad A H locs la hC hP hS hl
  exact lv_goto hC.1 hC.2.1 hd ht (k p e R s m args below meth c D cy ad A H locs la hC hP hS hl)
theorem zJ_istore_n {x : Int32} {k4 : Fin 4} (hd : decode mi.2.2.1 pc = .ok (.istore_n k4, 1)) (hn : Nat.blt (k4 : Nat) mi.2.2.2.1 = true) {ls' : List (Nat × Value)} (hl' : zst1 (k4 : Nat) (.int x) ls = ls') (hp : pc + 1 = pc') (k : zJ l V d mi σ L pc' ls' st r M) : zJ l V d mi σ L pc ls (.int x :: st) r M := by
  subst hp; subst hl'
  intro p e R s m args below meth c D cy ad A H locs la hC hP hS hl
  exact lv_istore_n hC.1 hC.2.1 hd rfl hl (Nat.le_of_ble_eq_true hn) (zst1_map ad (k4 : Nat) (.int x) ls).symm (fun la hl => k p e R s m args below meth c D cy ad A H locs la hC hP hS hl)
theorem zJ_istore {x : Int32} {i : Nat} (hd : decode mi.2.2.1 pc = .ok (.istore i, 2)) (hn : Nat.blt i mi.2.2.2.1 = true) {ls' : List (Nat × Value)} (hl' : zst1 i (.int x) ls = ls') (hp : pc + 2 = pc') (k : zJ l V d mi σ L pc' ls' st r M) : zJ l V d mi σ L pc ls (.int x :: st) r M := by
  subst hp; subst hl'
  intro p e R s m args below meth c D cy ad A H locs la hC hP hS hl
  exact lv_istore hC.1 hC.2.1 hd hl (Nat.le_of_ble_eq_true hn) (zst1_map ad i (.int x) ls).symm (fun la hl => k p e R s m args below meth c D cy ad A H locs la hC hP hS hl)
theorem zJ_astore_n {x : Nat} {k4 : Fin 4} (hd : decode mi.2.2.1 pc = .ok (.astore_n k4, 1)) (hn : Nat.blt (k4 : Nat) mi.2.2.2.1 = true) {ls' : List (Nat × Value)} (hl' : zst1 (k4 : Nat) (.ref x) ls = ls') (hp : pc + 1 = pc') (k : zJ l V d mi σ L pc' ls' st r M) : zJ l V d mi σ L pc ls (.ref x :: st) r M := by
  subst hp; subst hl'
  intro p e R s m args below meth c D cy ad A H locs la hC hP hS hl
  exact lv_astore_n hC.1 hC.2.1 hd rfl hl (Nat.le_of_ble_eq_true hn) (zst1_map ad (k4 : Nat) (.ref x) ls).symm (fun la hl => k p e R s m args below meth c D cy ad A H locs la hC hP hS hl)
theorem zJ_astore {x : Nat} {i : Nat} (hd : decode mi.2.2.1 pc = .ok (.astore i, 2)) (hn : Nat.blt i mi.2.2.2.1 = true) {ls' : List (Nat × Value)} (hl' : zst1 i (.ref x) ls = ls') (hp : pc + 2 = pc') (k : zJ l V d mi σ L pc' ls' st r M) : zJ l V d mi σ L pc ls (.ref x :: st) r M := by
  subst hp; subst hl'
  intro p e R s m args below meth c D cy ad A H locs la hC hP hS hl
  exact lv_astore hC.1 hC.2.1 hd hl (Nat.le_of_ble_eq_true hn) (zst1_map ad i (.ref x) ls).symm (fun la hl => k p e R s m args below meth c D cy ad A H locs la hC hP hS hl)
theorem zJ_lstore_n {x : Int64} {k4 : Fin 4} (hd : decode mi.2.2.1 pc = .ok (.lstore_n k4, 1)) (hn : Nat.blt ((k4 : Nat) + 1) mi.2.2.2.1 = true) {ls' : List (Nat × Value)} (hl' : zst2 (k4 : Nat) (.long x) ls = ls') (hp : pc + 1 = pc') (k : zJ l V d mi σ L pc' ls' st r M) : zJ l V d mi σ L pc ls (.long x :: st) r M := by
  subst hp; subst hl'
  intro p e R s m args below meth c D cy ad A H locs la hC hP hS hl
  exact lv_lstore_n hC.1 hC.2.1 hd rfl hl (Nat.le_of_ble_eq_true hn) (zst2_map ad (k4 : Nat) (.long x) ls).symm (fun la hl => k p e R s m args below meth c D cy ad A H locs la hC hP hS hl)
theorem zJ_lstore {x : Int64} {i : Nat} (hd : decode mi.2.2.1 pc = .ok (.lstore i, 2)) (hn : Nat.blt (i + 1) mi.2.2.2.1 = true) {ls' : List (Nat × Value)} (hl' : zst2 i (.long x) ls = ls') (hp : pc + 2 = pc') (k : zJ l V d mi σ L pc' ls' st r M) : zJ l V d mi σ L pc ls (.long x :: st) r M := by
  subst hp; subst hl'
  intro p e R s m args below meth c D cy ad A H locs la hC hP hS hl
  exact lv_lstore hC.1 hC.2.1 hd hl (Nat.le_of_ble_eq_true hn) (zst2_map ad i (.long x) ls).symm (fun la hl => k p e R s m args below meth c D cy ad A H locs la hC hP hS hl)
theorem zJ_iinc {x : Int32} {i : Nat} {n : Int} {v : Int32} (hd : decode mi.2.2.1 pc = .ok (.iinc i n, 3)) (hn : Nat.blt i mi.2.2.2.1 = true) (hx : zlk ls i = some (.int x)) (hv : Int32.ofInt n = v) {ls' : List (Nat × Value)} (hl' : zst1 i (.int (x + v)) ls = ls') (hp : pc + 3 = pc') (k : zJ l V d mi σ L pc' ls' st r M) : zJ l V d mi σ L pc ls st r M := by
  subst hp; subst hl'; subst hv
  intro p e R s m args below meth c D cy ad A H locs la hC hP hS hl
  obtain ⟨j, hj⟩ := zlk_pos ad hx
  exact lv_iinc (k := j) hC.1 hC.2.1 hd hl hj rfl (Nat.le_of_ble_eq_true hn) (zst1_map ad i (.int (x + Int32.ofInt n)) ls).symm (fun la hl => k p e R s m args below meth c D cy ad A H locs la hC hP hS hl)
/-! fields -/
/-- a field that a class's code names by an entry of its pool: class number and slot -/
def zfl (own : String) (idx ci k : Nat) : Prop := ∃ (C : String) (T : u_T) (N : Nat), zcl[ci]? = some (C, T, N) ∧ k < N ∧ (T k).1 = C ∧ (∀ w ∈ u_ws C T N, w ∈ zTB) ∧
  (Cond.fieldLink own idx C (T k).2.1 (T k).2.2.1 ∈ zTB ∨ ∃ h, Cond.fieldLinkNest own idx C (T k).2.1 (T k).2.2.1 h ∈ zNB)
/-- besides: not final, of this type, the class's fields have names of their own -/
def zfp (ci k : Nat) (ty : FieldType) : Prop := ∃ (C : String) (T : u_T) (N : Nat), zcl[ci]? = some (C, T, N) ∧ (T k).2.2.2 = false ∧ parseFieldDescriptor (T k).2.2.1 = some ty ∧
  (∃ t0 : Nat → FieldType, ∀ k, k < N → parseFieldDescriptor (T k).2.2.1 = some (t0 k)) ∧ (∀ a, a < N → ∀ b, b < N → a ≠ b → (T a).2.1 ≠ (T b).2.1)
theorem zJ_getf {idx c ci k : Nat} {fs : List zF} {fk : zF} {v : Value} (hd : decode mi.2.2.1 pc = .ok (.getfield idx, 3)) (hf : zfl mi.1 idx ci k) (hV : V[c]? = some (.inl (ci, fs))) (hk : fs[k]? = some fk) (hv : ∀ ad, zfv ad (zov σ.1 L.1) c k fk = zcv ad v) (hp : pc + 3 = pc') (kk : zJ l V d mi σ L pc' ls (v :: st) r M) : zJ l V d mi σ L pc ls (.ref c :: st) r M := by
  subst hp
  intro p e R s m args below meth cc D cy ad A H locs la hC hP hS hl
  obtain ⟨C, T, N, h1, h2, h3, h4, h5⟩ := hf
  have he := zwd_at (cy := cy) (ad := ad) (S := zap σ L) hV
  have hvv : (fs.mapIdx (zfv ad (zap σ L).1 c))[k]? = some (zcv ad v) := by
    rw [List.getElem?_mapIdx, hk, ← hv ad]
    rfl
  have kw := kk p e R s m args below meth cc D cy ad A H locs la hC hP hS hl
  rcases h5 with h5 | ⟨host, h5⟩
  · exact va_get (ref := C) hC.1 hC.2.1 hC.2.2.2.2.2.1 h4 hC.2.2.2.2.1 hC.2.2.2.2.2.2.2.2.1 hP c he h1 k h2 (hC.2.2.2.2.2.1 _ h5) (fun x hx => by rw [h3] at hx; exact hx) hvv hd kw
  · exact va_getN (ref := C) hC.1 hC.2.1 hC.2.2.2.2.2.1 h4 hC.2.2.2.2.1 hC.2.2.2.2.2.2.2.2.1 hP c he h1 k h2 (va_Nw.use rfl (hC.2.2.2.2.2.2.2.2.2.2.2.2.2.2 _ h5)) (fun x hx => by rw [h3] at hx; exact hx) hvv hd kw
/-- a field of a whole number -/
theorem zJ_geti {idx c ci k : Nat} {fs : List zF} {x : Int32} (hd : decode mi.2.2.1 pc = .ok (.getfield idx, 3)) (hf : zfl mi.1 idx ci k) (hV : V[c]? = some (.inl (ci, fs))) (hk : fs[k]? = some none) (hx : zov σ.1 L.1 (zkey c k) = x) (hp : pc + 3 = pc') (kk : zJ l V d mi σ L pc' ls (.int x :: st) r M) : zJ l V d mi σ L pc ls (.ref c :: st) r M :=
  zJ_getf hd hf hV hk (fun ad => by show Value.int (zov σ.1 L.1 (zkey c k)) = Value.int x; rw [hx]) hp kk
/-- a field that holds the same cell for good -/
theorem zJ_getr {idx c ci k q : Nat} {fs : List zF} (hd : decode mi.2.2.1 pc = .ok (.getfield idx, 3)) (hf : zfl mi.1 idx ci k) (hV : V[c]? = some (.inl (ci, fs))) (hk : fs[k]? = some (some (some q))) (hp : pc + 3 = pc') (kk : zJ l V d mi σ L pc' ls (.ref q :: st) r M) : zJ l V d mi σ L pc ls (.ref c :: st) r M :=
  zJ_getf hd hf hV hk (fun ad => rfl) hp kk
/-- the field that holds one of two rows -/
theorem zJ_getq {idx c ci k q : Nat} {fs : List zF} (hd : decode mi.2.2.1 pc = .ok (.getfield idx, 3)) (hf : zfl mi.1 idx ci k) (hV : V[c]? = some (.inl (ci, fs))) (hk : fs[k]? = some (some none)) (hx : zov σ.1 L.1 (zkey c k) = nI q) (hq : q < 2 ^ 31) (hp : pc + 3 = pc') (kk : zJ l V d mi σ L pc' ls (.ref q :: st) r M) : zJ l V d mi σ L pc ls (.ref c :: st) r M :=
  zJ_getf hd hf hV hk (fun ad => by
    show zrf ad (zov σ.1 L.1 (zkey c k)) = Value.ref (ad q)
    rw [hx]
    unfold zrf
    have h1 : (nI q == -1) = false := by
      apply beq_false_of_ne
      intro h
      have h2 := congrArg Int32.toInt h
      rw [nI_toInt hq] at h2
      have h3 : (-1 : Int32).toInt = -1 := by decide
      rw [h3] at h2
      omega
    rw [h1, nI_clamp hq]
    rfl) hp kk
theorem zJ_put0 (hW : zok V) {idx c ci k : Nat} {fs : List zF} {fk : zF} {ty : FieldType} {v : Int32} {x : Value} (hd : decode mi.2.2.1 pc = .ok (.putfield idx, 3)) (hf : zfl mi.1 idx ci k) (hg : zfp ci k ty) (hV : V[c]? = some (.inl (ci, fs))) (hk : fs[k]? = some fk)
    (hn : ∀ ad, narrow ty (zcv ad x) = zcv ad x) (hfit : ∀ ad, fits ty (zcv ad x) = true) (hx : ∀ (ad : Nat → Nat) (f : Nat → Int32), f (zkey c k) = v → zfv ad f c k fk = zcv ad x) {L1 : List (Nat × Int32)} (hL : zin (zkey c k) v L.1 = L1) (hp : pc + 3 = pc')
    (kk : zJ l V d mi σ (L1, L.2) pc' ls st r M) : zJ l V d mi σ L pc ls (x :: .ref c :: st) r M := by
  subst hp; subst hL
  intro p e R s m args below meth cc D cy ad A H locs la hC hP hS hl
  obtain ⟨C, T, N, h1, h2, h3, h4, h5⟩ := hf
  obtain ⟨C', T', N', g1, g2, g3, ⟨t0, g4⟩, g5⟩ := hg
  have e := Option.some.inj (h1.symm.trans g1)
  cases e
  have he := zwd_at (cy := cy) (ad := ad) (S := zap σ L) hV
  have hD := hC.2.2.2.2.2.2.2.2.2.2.1.D cy (zap σ L)
  have hlen : k < (fs.mapIdx (zfv ad (zap σ L).1 c)).length := by rw [List.length_mapIdx]; exact (List.getElem?_eq_some_iff.mp hk).1
  have hset := zwd_setf hW (cy := cy) (ad := ad) (σ := σ) (L := L) hV hk v (hx ad)
  have fin : ∀ (H1 : Heap) (locs1 : List Loc), va_P D zcl ((zwd V cy ad (zap σ L)).set c (ad c, .inr (ci, (fs.mapIdx (zfv ad (zap σ L).1 c)).set k (zcv ad x)))) H1 → va_D A ((zwd V cy ad (zap σ L)).set c (ad c, .inr (ci, (fs.mapIdx (zfv ad (zap σ L).1 c)).set k (zcv ad x)))) → va_S A s.heap H1 locs1 →
      W p l e R s m args below meth cc H1 locs1 0 0 (MQ below (zQ V D cy ad A r (zap σ M)) args s 0 0 A) (F0 m (pc + 3) la (st.map (zcv ad))) := by
    intro H1 locs1 q1 _ q3
    rw [hset] at q1
    exact kk p e R s m args below meth cc D cy ad A H1 locs1 la hC q1 q3 hl
  rcases h5 with h5 | ⟨host, h5⟩
  · exact va_put (ref := C) (v := zcv ad x) hC.1 hC.2.1 hC.2.2.2.2.2.1 h4 t0 g4 g5 hC.2.2.2.2.1 hC.2.2.2.2.2.2.2.2.1 hP hD hS c he h1 k h2 (hC.2.2.2.2.2.1 _ h5) (fun y hy => by rw [h3] at hy; exact hy) g2 g3 (hn ad) (hfit ad) hlen hd fin
  · exact va_putN (ref := C) (v := zcv ad x) hC.1 hC.2.1 hC.2.2.2.2.2.1 h4 t0 g4 g5 hC.2.2.2.2.1 hC.2.2.2.2.2.2.2.2.1 hP hD hS c he h1 k h2 (va_Nw.use rfl (hC.2.2.2.2.2.2.2.2.2.2.2.2.2.2 _ h5)) (fun y hy => by rw [h3] at hy; exact hy) g2 g3 (hn ad) (hfit ad) hlen hd fin
theorem zJ_puti (hW : zok V) {idx c ci k : Nat} {fs : List zF} {x : Int32} (hd : decode mi.2.2.1 pc = .ok (.putfield idx, 3)) (hf : zfl mi.1 idx ci k) (hg : zfp ci k .int) (hV : V[c]? = some (.inl (ci, fs))) (hk : fs[k]? = some none)
    {L1 : List (Nat × Int32)} (hL : zin (zkey c k) x L.1 = L1) (hp : pc + 3 = pc') (kk : zJ l V d mi σ (L1, L.2) pc' ls st r M) : zJ l V d mi σ L pc ls (.int x :: .ref c :: st) r M :=
  zJ_put0 hW hd hf hg hV hk (fun _ => rfl) (fun _ => rfl) (fun ad f h => by show Value.int (f (zkey c k)) = Value.int x; rw [h]) hL hp kk
/-- a field of a small type -/
theorem zJ_putz (hW : zok V) {idx c ci k : Nat} {fs : List zF} {ty : FieldType} {x : Int32} (hd : decode mi.2.2.1 pc = .ok (.putfield idx, 3)) (hf : zfl mi.1 idx ci k) (hg : zfp ci k ty) (hV : V[c]? = some (.inl (ci, fs))) (hk : fs[k]? = some none)
    (hn : narrow ty (.int x) = .int x) (hfit : fits ty (.int x) = true) {L1 : List (Nat × Int32)} (hL : zin (zkey c k) x L.1 = L1) (hp : pc + 3 = pc') (kk : zJ l V d mi σ (L1, L.2) pc' ls st r M) : zJ l V d mi σ L pc ls (.int x :: .ref c :: st) r M :=
  zJ_put0 hW hd hf hg hV hk (fun _ => hn) (fun _ => hfit) (fun ad f h => by show Value.int (f (zkey c k)) = Value.int x; rw [h]) hL hp kk
/-- the field that holds one of two rows -/
theorem zJ_putq (hW : zok V) {idx c ci k q : Nat} {fs : List zF} {ty : FieldType} (hd : decode mi.2.2.1 pc = .ok (.putfield idx, 3)) (hf : zfl mi.1 idx ci k) (hg : zfp ci k ty) (hV : V[c]? = some (.inl (ci, fs))) (hk : fs[k]? = some (some none))
    (hn : ∀ a, narrow ty (.ref a) = .ref a) (hfit : ∀ a, fits ty (.ref a) = true) (hq : q < 2 ^ 31) {L1 : List (Nat × Int32)} (hL : zin (zkey c k) (nI q) L.1 = L1) (hp : pc + 3 = pc') (kk : zJ l V d mi σ (L1, L.2) pc' ls st r M) : zJ l V d mi σ L pc ls (.ref q :: .ref c :: st) r M :=
  zJ_put0 hW hd hf hg hV hk (fun ad => hn (ad q)) (fun ad => hfit (ad q)) (fun ad f h => by
    show zrf ad (f (zkey c k)) = Value.ref (ad q)
    rw [h]
    unfold zrf
    have h1 : (nI q == -1) = false := by
      apply beq_false_of_ne
      intro h
      have h2 := congrArg Int32.toInt h
      rw [nI_toInt hq] at h2
      have h3 : (-1 : Int32).toInt = -1 := by decide
      rw [h3] at h2
      omega
    rw [h1, nI_clamp hq]
    rfl) hL hp kk
/-! rows -/
theorem zJ_iald {c n : Nat} {i : Int32} {f : Nat → Int32} (hd : decode mi.2.2.1 pc = .ok (.iaload, 1)) (hV : V[c]? = some (.inr (0, n))) (hi : vp_in i n) (hf : zov σ.2.1 L.2.1 c = f) (hp : pc + 1 = pc') (kk : zJ l V d mi σ L pc' ls (.int (f i.toNatClampNeg) :: st) r M) : zJ l V d mi σ L pc ls (.int i :: .ref c :: st) r M := by
  subst hp; subst hf
  intro p e R s m args below meth cc D cy ad A H locs la hC hP hS hl
  exact va_iald hC.1 hC.2.1 hC.2.2.2.2.2.2.2.2.1 hP c 0 (zwd_at hV) rfl hi hd (kk p e R s m args below meth cc D cy ad A H locs la hC hP hS hl)
theorem zJ_bald {c n : Nat} {i : Int32} {f : Nat → Int32} (hd : decode mi.2.2.1 pc = .ok (.baload, 1)) (hV : V[c]? = some (.inr (2, n))) (hi : vp_in i n) (hf : zov σ.2.1 L.2.1 c = f) (hp : pc + 1 = pc') (kk : zJ l V d mi σ L pc' ls (.int (f i.toNatClampNeg) :: st) r M) : zJ l V d mi σ L pc ls (.int i :: .ref c :: st) r M := by
  subst hp; subst hf
  intro p e R s m args below meth cc D cy ad A H locs la hC hP hS hl
  exact va_bald hC.1 hC.2.1 hC.2.2.2.2.2.2.2.2.1 hP c 2 (zwd_at hV) rfl hi hd (kk p e R s m args below meth cc D cy ad A H locs la hC hP hS hl)
theorem zJ_zald {c n : Nat} {i : Int32} {f : Nat → Int32} (hd : decode mi.2.2.1 pc = .ok (.baload, 1)) (hV : V[c]? = some (.inr (3, n))) (hi : vp_in i n) (hf : zov σ.2.1 L.2.1 c = f) (hp : pc + 1 = pc') (kk : zJ l V d mi σ L pc' ls (.int (f i.toNatClampNeg) :: st) r M) : zJ l V d mi σ L pc ls (.int i :: .ref c :: st) r M := by
  subst hp; subst hf
  intro p e R s m args below meth cc D cy ad A H locs la hC hP hS hl
  exact va_zald hC.1 hC.2.1 hC.2.2.2.2.2.2.2.2.1 hP c 3 (zwd_at hV) rfl hi hd (kk p e R s m args below meth cc D cy ad A H locs la hC hP hS hl)
theorem zJ_cald {c n : Nat} {i : Int32} {f : Nat → Int32} (hd : decode mi.2.2.1 pc = .ok (.caload, 1)) (hV : V[c]? = some (.inr (4, n))) (hi : vp_in i n) (hf : zov σ.2.1 L.2.1 c = f) (hp : pc + 1 = pc') (kk : zJ l V d mi σ L pc' ls (.int (f i.toNatClampNeg) :: st) r M) : zJ l V d mi σ L pc ls (.int i :: .ref c :: st) r M := by
  subst hp; subst hf
  intro p e R s m args below meth cc D cy ad A H locs la hC hP hS hl
  exact va_cald hC.1 hC.2.1 hC.2.2.2.2.2.2.2.2.1 hP c 4 (zwd_at hV) rfl hi hd (kk p e R s m args below meth cc D cy ad A H locs la hC hP hS hl)
theorem zJ_lald {c n : Nat} {i : Int32} {f : Nat → Int64} (hd : decode mi.2.2.1 pc = .ok (.laload, 1)) (hV : V[c]? = some (.inr (1, n))) (hi : vp_in i n) (hf : zov σ.2.2 L.2.2 c = f) (hp : pc + 1 = pc') (kk : zJ l V d mi σ L pc' ls (.long (f i.toNatClampNeg) :: st) r M) : zJ l V d mi σ L pc ls (.int i :: .ref c :: st) r M := by
  subst hp; subst hf
  intro p e R s m args below meth cc D cy ad A H locs la hC hP hS hl
  exact va_lald hC.1 hC.2.1 hC.2.2.2.2.2.2.2.2.1 hP c 1 (zwd_at hV) rfl hi hd (kk p e R s m args below meth cc D cy ad A H locs la hC hP hS hl)
theorem zJ_alen {c t n : Nat} {v : Int32} (hd : decode mi.2.2.1 pc = .ok (.arraylength, 1)) (hV : V[c]? = some (.inr (t, n))) (ht : t < 5) (hv : Int32.ofNat n = v) (hp : pc + 1 = pc') (kk : zJ l V d mi σ L pc' ls (.int v :: st) r M) : zJ l V d mi σ L pc ls (.ref c :: st) r M := by
  subst hp
  intro p e R s m args below meth cc D cy ad A H locs la hC hP hS hl
  have kw := kk p e R s m args below meth cc D cy ad A H locs la hC hP hS hl
  have hw := zwd_at (cy := cy) (ad := ad) (S := zap σ L) hV
  match t, ht, hw with
  | 0, _, hw => exact va_alen hC.1 hC.2.1 hC.2.2.2.2.2.2.2.2.1 hP c 0 hw (ty := .int) rfl hv hd kw
  | 1, _, hw => exact va_alen hC.1 hC.2.1 hC.2.2.2.2.2.2.2.2.1 hP c 1 hw (ty := .long) rfl hv hd kw
  | 2, _, hw => exact va_alen hC.1 hC.2.1 hC.2.2.2.2.2.2.2.2.1 hP c 2 hw (ty := .byte) rfl hv hd kw
  | 3, _, hw => exact va_alen hC.1 hC.2.1 hC.2.2.2.2.2.2.2.2.1 hP c 3 hw (ty := .boolean) rfl hv hd kw
  | 4, _, hw => exact va_alen hC.1 hC.2.1 hC.2.2.2.2.2.2.2.2.1 hP c 4 hw (ty := .char) rfl hv hd kw
theorem zJ_iast {c n : Nat} {i x : Int32} {f : Nat → Int32} (hd : decode mi.2.2.1 pc = .ok (.iastore, 1)) (hV : V[c]? = some (.inr (0, n))) (hi : vp_in i n) (hf : zov σ.2.1 L.2.1 c = f) {L2 : List (Nat × (Nat → Int32))} (hL : zin c (upd f i.toNatClampNeg x) L.2.1 = L2) (hp : pc + 1 = pc') (kk : zJ l V d mi σ (L.1, L2, L.2.2) pc' ls st r M) : zJ l V d mi σ L pc ls (.int x :: .int i :: .ref c :: st) r M := by
  subst hp; subst hf; subst hL
  intro p e R s m args below meth cc D cy ad A H locs la hC hP hS hl
  refine va_iast hC.1 hC.2.1 hC.2.2.2.2.2.2.2.2.1 hP (hC.2.2.2.2.2.2.2.2.2.2.1.D cy _) hS c 0 (zwd_at hV) rfl hi hd (fun H1 locs1 q1 _ q3 => ?_)
  exact kk p e R s m args below meth cc D cy ad A H1 locs1 la hC (by rw [← zwd_seti hV (by decide)]; exact q1) q3 hl
theorem zJ_bast {c n : Nat} {i x : Int32} {f : Nat → Int32} (hd : decode mi.2.2.1 pc = .ok (.bastore, 1)) (hV : V[c]? = some (.inr (2, n))) (hi : vp_in i n) (hf : zov σ.2.1 L.2.1 c = f) {L2 : List (Nat × (Nat → Int32))} (hL : zin c (upd f i.toNatClampNeg (vp_nar .byte x)) L.2.1 = L2) (hp : pc + 1 = pc') (kk : zJ l V d mi σ (L.1, L2, L.2.2) pc' ls st r M) : zJ l V d mi σ L pc ls (.int x :: .int i :: .ref c :: st) r M := by
  subst hp; subst hf; subst hL
  intro p e R s m args below meth cc D cy ad A H locs la hC hP hS hl
  refine va_bast hC.1 hC.2.1 hC.2.2.2.2.2.2.2.2.1 hP (hC.2.2.2.2.2.2.2.2.2.2.1.D cy _) hS c 2 (zwd_at hV) rfl hi hd (fun H1 locs1 q1 _ q3 => ?_)
  exact kk p e R s m args below meth cc D cy ad A H1 locs1 la hC (by rw [← zwd_seti hV (by decide)]; exact q1) q3 hl
theorem zJ_zast {c n : Nat} {i x : Int32} {f : Nat → Int32} (hd : decode mi.2.2.1 pc = .ok (.bastore, 1)) (hV : V[c]? = some (.inr (3, n))) (hi : vp_in i n) (hf : zov σ.2.1 L.2.1 c = f) {L2 : List (Nat × (Nat → Int32))} (hL : zin c (upd f i.toNatClampNeg (vp_nar .boolean x)) L.2.1 = L2) (hp : pc + 1 = pc') (kk : zJ l V d mi σ (L.1, L2, L.2.2) pc' ls st r M) : zJ l V d mi σ L pc ls (.int x :: .int i :: .ref c :: st) r M := by
  subst hp; subst hf; subst hL
  intro p e R s m args below meth cc D cy ad A H locs la hC hP hS hl
  refine va_zast hC.1 hC.2.1 hC.2.2.2.2.2.2.2.2.1 hP (hC.2.2.2.2.2.2.2.2.2.2.1.D cy _) hS c 3 (zwd_at hV) rfl hi hd (fun H1 locs1 q1 _ q3 => ?_)
  exact kk p e R s m args below meth cc D cy ad A H1 locs1 la hC (by rw [← zwd_seti hV (by decide)]; exact q1) q3 hl
theorem zJ_cast {c n : Nat} {i x : Int32} {f : Nat → Int32} (hd : decode mi.2.2.1 pc = .ok (.castore, 1)) (hV : V[c]? = some (.inr (4, n))) (hi : vp_in i n) (hf : zov σ.2.1 L.2.1 c = f) {L2 : List (Nat × (Nat → Int32))} (hL : zin c (upd f i.toNatClampNeg (vp_nar .char x)) L.2.1 = L2) (hp : pc + 1 = pc') (kk : zJ l V d mi σ (L.1, L2, L.2.2) pc' ls st r M) : zJ l V d mi σ L pc ls (.int x :: .int i :: .ref c :: st) r M := by
  subst hp; subst hf; subst hL
  intro p e R s m args below meth cc D cy ad A H locs la hC hP hS hl
  refine va_cast hC.1 hC.2.1 hC.2.2.2.2.2.2.2.2.1 hP (hC.2.2.2.2.2.2.2.2.2.2.1.D cy _) hS c 4 (zwd_at hV) rfl hi hd (fun H1 locs1 q1 _ q3 => ?_)
  exact kk p e R s m args below meth cc D cy ad A H1 locs1 la hC (by rw [← zwd_seti hV (by decide)]; exact q1) q3 hl
theorem zJ_last {c n : Nat} {i : Int32} {x : Int64} {f : Nat → Int64} (hd : decode mi.2.2.1 pc = .ok (.lastore, 1)) (hV : V[c]? = some (.inr (1, n))) (hi : vp_in i n) (hf : zov σ.2.2 L.2.2 c = f) {L2 : List (Nat × (Nat → Int64))} (hL : zin c (vp_updL f i.toNatClampNeg x) L.2.2 = L2) (hp : pc + 1 = pc') (kk : zJ l V d mi σ (L.1, L.2.1, L2) pc' ls st r M) : zJ l V d mi σ L pc ls (.long x :: .int i :: .ref c :: st) r M := by
  subst hp; subst hf; subst hL
  intro p e R s m args below meth cc D cy ad A H locs la hC hP hS hl
  refine va_last hC.1 hC.2.1 hC.2.2.2.2.2.2.2.2.1 hP (hC.2.2.2.2.2.2.2.2.2.2.1.D cy _) hS c 1 (zwd_at hV) rfl hi hd (fun H1 locs1 q1 _ q3 => ?_)
  exact kk p e R s m args below meth cc D cy ad A H1 locs1 la hC (by rw [← zwd_setl hV]; exact q1) q3 hl
/-! ends -/
theorem zJ_iret {v : Int32} {ty : FieldType} (hd : decode mi.2.2.1 pc = .ok (.ireturn, 1)) (hr : mi.2.2.2.2 = some ty) (hn : narrow ty (.int v) = .int v) : zJ l V d mi σ L pc ls [.int v] (some (.int v)) L := by
  intro p e R s m args below meth c D cy ad A H locs la hC hP hS hl
  have hlocks : meth.locks = false := hC.2.2.2.2.2.2.1
  exact W.zret hC.1 hC.2.1 (hC.2.2.2.1.trans hr) hn (fun t ht _ => ⟨rfl, by rw [ht]; exact hP, hS.F ht⟩) hS.2.2 hd hlocks
theorem zJ_lret {v : Int64} (hd : decode mi.2.2.1 pc = .ok (.lreturn, 1)) (hr : mi.2.2.2.2 = some .long) : zJ l V d mi σ L pc ls [.long v] (some (.long v)) L := by
  intro p e R s m args below meth c D cy ad A H locs la hC hP hS hl
  have hlocks : meth.locks = false := hC.2.2.2.2.2.2.1
  exact W.lret hC.1 hC.2.1 (hC.2.2.2.1.trans hr) (fun t ht _ => ⟨rfl, by rw [ht]; exact hP, hS.F ht⟩) hS.2.2 hd hlocks
theorem zJ_vret (hd : decode mi.2.2.1 pc = .ok (.return_, 1)) (hr : mi.2.2.2.2 = none) : zJ l V d mi σ L pc ls [] none L := by
  intro p e R s m args below meth c D cy ad A H locs la hC hP hS hl
  have hlocks : meth.locks = false := hC.2.2.2.2.2.2.1
  exact W.vret hC.1 hC.2.1 (hC.2.2.2.1.trans hr) (fun t ht _ => ⟨rfl, by rw [ht]; exact hP, hS.F ht⟩) hS.2.2 hd hlocks
theorem zJ_aret {q : Nat} {rt : FieldType} (hd : decode mi.2.2.1 pc = .ok (.areturn, 1)) (hr : mi.2.2.2.2 = some rt) (hrt : (∃ n, rt = .object n) ∨ ∃ t, rt = .array t) : zJ l V d mi σ L pc ls [.ref q] (some (.ref q)) L := by
  intro p e R s m args below meth c D cy ad A H locs la hC hP hS hl
  have hlocks : meth.locks = false := hC.2.2.2.2.2.2.1
  exact W.aret hC.1 hC.2.1 (hC.2.2.2.1.trans hr) hrt (Or.inr ⟨ad q, rfl⟩) (fun t ht _ => ⟨rfl, by rw [ht]; exact hP, hS.F ht⟩) hS.2.2 hd hlocks
/-- fewer locals -/
theorem zJ_loc {ls' : List (Nat × Value)} (h : zlle ls ls') (k : zJ l V d mi σ L pc ls' st r M) : zJ l V d mi σ L pc ls st r M := by
  intro p e R s m args below meth c D cy ad A H locs la hC hP hS hl
  refine k p e R s m args below meth c D cy ad A H locs la hC hP hS ⟨hl.1, hl.2.1, fun q hq => ?_⟩
  obtain ⟨a, ha, rfl⟩ := List.mem_map.mp hq
  exact hl.2.2 _ (List.mem_map.mpr ⟨a, zlle_mem h a ha, rfl⟩)
/-! the same, with the overrides taken apart -/
section
variable {la la' : List (Nat × Int32)} {lb lb' : List (Nat × (Nat → Int32))} {lc lc' : List (Nat × (Nat → Int64))}
theorem zK_puti (hW : zok V) {idx c ci k : Nat} {fs : List zF} {x : Int32} (hd : decode mi.2.2.1 pc = .ok (.putfield idx, 3)) (hf : zfl mi.1 idx ci k) (hg : zfp ci k .int) (hV : V[c]? = some (.inl (ci, fs))) (hk : fs[k]? = some none)
    (hL : zin (zkey c k) x la = la') (hp : pc + 3 = pc') (kk : zJ l V d mi σ (la', lb, lc) pc' ls st r M) : zJ l V d mi σ (la, lb, lc) pc ls (.int x :: .ref c :: st) r M := zJ_puti (L := (la, lb, lc)) hW hd hf hg hV hk hL hp kk
theorem zK_putz (hW : zok V) {idx c ci k : Nat} {fs : List zF} {ty : FieldType} {x : Int32} (hd : decode mi.2.2.1 pc = .ok (.putfield idx, 3)) (hf : zfl mi.1 idx ci k) (hg : zfp ci k ty) (hV : V[c]? = some (.inl (ci, fs))) (hk : fs[k]? = some none)
    (hn : narrow ty (.int x) = .int x) (hfit : fits ty (.int x) = true) (hL : zin (zkey c k) x la = la') (hp : pc + 3 = pc') (kk : zJ l V d mi σ (la', lb, lc) pc' ls st r M) : zJ l V d mi σ (la, lb, lc) pc ls (.int x :: .ref c :: st) r M := zJ_putz (L := (la, lb, lc)) hW hd hf hg hV hk hn hfit hL hp kk
theorem zK_putq (hW : zok V) {idx c ci k q : Nat} {fs : List zF} {ty : FieldType} (hd : decode mi.2.2.1 pc = .ok (.putfield idx, 3)) (hf : zfl mi.1 idx ci k) (hg : zfp ci k ty) (hV : V[c]? = some (.inl (ci, fs))) (hk : fs[k]? = some (some none))
    (hn : ∀ a, narrow ty (.ref a) = .ref a) (hfit : ∀ a, fits ty (.ref a) = true) (hq : q < 2 ^ 31) (hL : zin (zkey c k) (nI q) la = la') (hp : pc + 3 = pc') (kk : zJ l V d mi σ (la', lb, lc) pc' ls st r M) : zJ l V d mi σ (la, lb, lc) pc ls (.ref q :: .ref c :: st) r M := zJ_putq (L := (la, lb, lc)) hW hd hf hg hV hk hn hfit hq hL hp kk
theorem zK_iast {c n : Nat} {i x : Int32} {f : Nat → Int32} (hd : decode mi.2.2.1 pc = .ok (.iastore, 1)) (hV : V[c]? = some (.inr (0, n))) (hi : vp_in i n) (hf : zov σ.2.1 lb c = f) (hL : zin c (upd f i.toNatClampNeg x) lb = lb') (hp : pc + 1 = pc') (kk : zJ l V d mi σ (la, lb', lc) pc' ls st r M) : zJ l V d mi σ (la, lb, lc) pc ls (.int x :: .int i :: .ref c :: st) r M := zJ_iast (L := (la, lb, lc)) hd hV hi hf hL hp kk
theorem zK_bast {c n : Nat} {i x : Int32} {f : Nat → Int32} (hd : decode mi.2.2.1 pc = .ok (.bastore, 1)) (hV : V[c]? = some (.inr (2, n))) (hi : vp_in i n) (hf : zov σ.2.1 lb c = f) (hL : zin c (upd f i.toNatClampNeg (vp_nar .byte x)) lb = lb') (hp : pc + 1 = pc') (kk : zJ l V d mi σ (la, lb', lc) pc' ls st r M) : zJ l V d mi σ (la, lb, lc) pc ls (.int x :: .int i :: .ref c :: st) r M := zJ_bast (L := (la, lb, lc)) hd hV hi hf hL hp kk
theorem zK_zast {c n : Nat} {i x : Int32} {f : Nat → Int32} (hd : decode mi.2.2.1 pc = .ok (.bastore, 1)) (hV : V[c]? = some (.inr (3, n))) (hi : vp_in i n) (hf : zov σ.2.1 lb c = f) (hL : zin c (upd f i.toNatClampNeg (vp_nar .boolean x)) lb = lb') (hp : pc + 1 = pc') (kk : zJ l V d mi σ (la, lb', lc) pc' ls st r M) : zJ l V d mi σ (la, lb, lc) pc ls (.int x :: .int i :: .ref c :: st) r M := zJ_zast (L := (la, lb, lc)) hd hV hi hf hL hp kk
theorem zK_cast {c n : Nat} {i x : Int32} {f : Nat → Int32} (hd : decode mi.2.2.1 pc = .ok (.castore, 1)) (hV : V[c]? = some (.inr (4, n))) (hi : vp_in i n) (hf : zov σ.2.1 lb c = f) (hL : zin c (upd f i.toNatClampNeg (vp_nar .char x)) lb = lb') (hp : pc + 1 = pc') (kk : zJ l V d mi σ (la, lb', lc) pc' ls st r M) : zJ l V d mi σ (la, lb, lc) pc ls (.int x :: .int i :: .ref c :: st) r M := zJ_cast (L := (la, lb, lc)) hd hV hi hf hL hp kk
theorem zK_last {c n : Nat} {i : Int32} {x : Int64} {f : Nat → Int64} (hd : decode mi.2.2.1 pc = .ok (.lastore, 1)) (hV : V[c]? = some (.inr (1, n))) (hi : vp_in i n) (hf : zov σ.2.2 lc c = f) (hL : zin c (vp_updL f i.toNatClampNeg x) lc = lc') (hp : pc + 1 = pc') (kk : zJ l V d mi σ (la, lb, lc') pc' ls st r M) : zJ l V d mi σ (la, lb, lc) pc ls (.long x :: .int i :: .ref c :: st) r M := zJ_last (L := (la, lb, lc)) hd hV hi hf hL hp kk
end
end
