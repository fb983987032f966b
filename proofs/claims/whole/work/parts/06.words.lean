/-! THE ABSTRACT MACHINE: Math, arraycopy, switches; words for what a method computes -/
section
variable {l : Launch} {V : List zSh} {d : Nat} {mi : zM} {σ : zS} {L M : zL} {pc pc' tgt : Nat} {off : Int} {ls : List (Nat × Value)} {st : List Value} {r : Option Value}
theorem zsum {ad : Nat → Nat} {st : List Value} (hst : (st.map fun v => v.category).sum ≤ 8) : ((st.map (zcv ad)).map fun v => v.category).sum ≤ 8 := by
  rw [List.map_map]
  refine Nat.le_trans (Nat.le_of_eq ?_) hst
  congr 1
  apply List.map_congr_left
  intro v _
  exact zcv_cat ad v
theorem zJ_mmax {idx : Nat} {x y : Int32} (hd : decode mi.2.2.1 pc = .ok (.invokestatic idx, 3)) (h1 : Cond.methodLink mi.1 idx Lib.Math.max.name ∈ zTB) (h2 : Cond.static Lib.Math.max.name ∈ zTB) (h3 : Cond.initialized "java/lang/Math" ∈ zTB) (h4 : Cond.code Lib.Math.max.name Lib.Math.max.code 2 (some .int) ∈ zTB) (hdd : 1 ≤ d) (hst : (st.map fun v => v.category).sum ≤ 8) (hp : pc + 3 = pc')
    (kk : zJ l V d mi σ L pc' ls (.int (if x < y then y else x) :: st) r M) : zJ l V d mi σ L pc ls (.int y :: .int x :: st) r M := by
  subst hp
  intro p e R s m args below meth c D cy ad A H locs la hC hP hS hl
  have hts := hC.2.2.2.2.2.1
  have hR := hC.2.2.2.2.2.2.2.1
  have hs8 := zsum (ad := ad) hst
  exact va_mmax hC.1 hC.2.1 (hC.2.2.1.trans hl.1.symm) hC.2.2.2.2.1 (hts _ h1) (hts _ h2) (hts _ h3) (hts _ h4) (by omega) (by omega) (Nat.zero_le _) (Nat.zero_le _) hd (kk p e R s m args below meth c D cy ad A H locs la hC hP hS hl)
theorem zJ_mmin {idx : Nat} {x y : Int32} (hd : decode mi.2.2.1 pc = .ok (.invokestatic idx, 3)) (h1 : Cond.methodLink mi.1 idx Lib.Math.min.name ∈ zTB) (h2 : Cond.static Lib.Math.min.name ∈ zTB) (h3 : Cond.initialized "java/lang/Math" ∈ zTB) (h4 : Cond.code Lib.Math.min.name Lib.Math.min.code 2 (some .int) ∈ zTB) (hdd : 1 ≤ d) (hst : (st.map fun v => v.category).sum ≤ 8) (hp : pc + 3 = pc')
    (kk : zJ l V d mi σ L pc' ls (.int (if y < x then y else x) :: st) r M) : zJ l V d mi σ L pc ls (.int y :: .int x :: st) r M := by
  subst hp
  intro p e R s m args below meth c D cy ad A H locs la hC hP hS hl
  have hts := hC.2.2.2.2.2.1
  have hR := hC.2.2.2.2.2.2.2.1
  have hs8 := zsum (ad := ad) hst
  exact va_mmin hC.1 hC.2.1 (hC.2.2.1.trans hl.1.symm) hC.2.2.2.2.1 (hts _ h1) (hts _ h2) (hts _ h3) (hts _ h4) (by omega) (by omega) (Nat.zero_le _) (Nat.zero_le _) hd (kk p e R s m args below meth c D cy ad A H locs la hC hP hS hl)
theorem zJ_mabs {idx : Nat} {x : Int32} (hd : decode mi.2.2.1 pc = .ok (.invokestatic idx, 3)) (h1 : Cond.methodLink mi.1 idx Lib.Math.abs.name ∈ zTB) (h2 : Cond.static Lib.Math.abs.name ∈ zTB) (h3 : Cond.initialized "java/lang/Math" ∈ zTB) (h4 : Cond.code Lib.Math.abs.name Lib.Math.abs.code 1 (some .int) ∈ zTB) (hdd : 1 ≤ d) (hst : (st.map fun v => v.category).sum ≤ 8) (hp : pc + 3 = pc')
    (kk : zJ l V d mi σ L pc' ls (.int (if 0 ≤ x then x else 0 - x) :: st) r M) : zJ l V d mi σ L pc ls (.int x :: st) r M := by
  subst hp
  intro p e R s m args below meth c D cy ad A H locs la hC hP hS hl
  have hts := hC.2.2.2.2.2.1
  have hR := hC.2.2.2.2.2.2.2.1
  have hs8 := zsum (ad := ad) hst
  exact va_mabs hC.1 hC.2.1 (hC.2.2.1.trans hl.1.symm) hC.2.2.2.2.1 (hts _ h1) (hts _ h2) (hts _ h3) (hts _ h4) (by omega) (by omega) (Nat.zero_le _) (Nat.zero_le _) hd (kk p e R s m args below meth c D cy ad A H locs la hC hP hS hl)
theorem zJ_copyi {idx c0 c1 n0 n1 : Nat} {sp dp n : Int32} {f g : Nat → Int32} (hd : decode mi.2.2.1 pc = .ok (.invokestatic idx, 3)) (h1 : Cond.methodLink mi.1 idx arraycopyName ∈ zTB) (h2 : Cond.native arraycopyName ∈ zTB) (h3 : Cond.static arraycopyName ∈ zTB) (h4 : Cond.initialized "java/lang/System" ∈ zTB)
    (hV0 : V[c0]? = some (.inr (0, n0))) (hV1 : V[c1]? = some (.inr (0, n1))) (hf : zov σ.2.1 L.2.1 c0 = f) (hg : zov σ.2.1 L.2.1 c1 = g) (q1 : ¬ sp < 0) (q2 : ¬ dp < 0) (q3 : ¬ n < 0) (q4 : sp.toNatClampNeg + n.toNatClampNeg ≤ n0) (q5 : dp.toNatClampNeg + n.toNatClampNeg ≤ n1)
    (hdd : 1 ≤ d) (hst : (st.map fun v => v.category).sum ≤ 8) {L2 : List (Nat × (Nat → Int32))} (hL : zin c1 (va_cpy f g sp.toNatClampNeg dp.toNatClampNeg n.toNatClampNeg) L.2.1 = L2) (hp : pc + 3 = pc')
    (kk : zJ l V d mi σ (L.1, L2, L.2.2) pc' ls st r M) : zJ l V d mi σ L pc ls (.int n :: .int dp :: .ref c1 :: .int sp :: .ref c0 :: st) r M := by
  subst hp; subst hf; subst hg; subst hL
  intro p e R s m args below meth c D cy ad A H locs la hC hP hS hl
  have hts := hC.2.2.2.2.2.1
  have hR := hC.2.2.2.2.2.2.2.1
  have hs8 := zsum (ad := ad) hst
  have hnf : nativeFrameWords "java/lang/System" "arraycopy" 5 ≤ 40 := by decide
  refine va_copyi (ty := .int) hC.1 hC.2.1 (hC.2.2.1.trans hl.1.symm) hC.2.2.2.2.1 (hts _ h1) (hts _ h2) (hts _ h3) (hts _ h4) hC.2.2.2.2.2.2.2.2.1 hP (hC.2.2.2.2.2.2.2.2.2.2.1.D cy _) hS c0 c1 0 0 (zwd_at hV0) (zwd_at hV1) rfl rfl rfl q1 q2 q3 q4 q5 (fun _ _ => rfl) (by omega) (by omega) hd (fun H1 locs1 w1 _ w3 => ?_)
  exact kk p e R s m args below meth c D cy ad A H1 locs1 la hC (by rw [← zwd_seti hV1 (by decide)]; exact w1) w3 hl
theorem zJ_copyl {idx c0 c1 n0 n1 : Nat} {sp dp n : Int32} {f g : Nat → Int64} (hd : decode mi.2.2.1 pc = .ok (.invokestatic idx, 3)) (h1 : Cond.methodLink mi.1 idx arraycopyName ∈ zTB) (h2 : Cond.native arraycopyName ∈ zTB) (h3 : Cond.static arraycopyName ∈ zTB) (h4 : Cond.initialized "java/lang/System" ∈ zTB)
    (hV0 : V[c0]? = some (.inr (1, n0))) (hV1 : V[c1]? = some (.inr (1, n1))) (hf : zov σ.2.2 L.2.2 c0 = f) (hg : zov σ.2.2 L.2.2 c1 = g) (q1 : ¬ sp < 0) (q2 : ¬ dp < 0) (q3 : ¬ n < 0) (q4 : sp.toNatClampNeg + n.toNatClampNeg ≤ n0) (q5 : dp.toNatClampNeg + n.toNatClampNeg ≤ n1)
    (hdd : 1 ≤ d) (hst : (st.map fun v => v.category).sum ≤ 8) {L2 : List (Nat × (Nat → Int64))} (hL : zin c1 (va_cpy f g sp.toNatClampNeg dp.toNatClampNeg n.toNatClampNeg) L.2.2 = L2) (hp : pc + 3 = pc')
    (kk : zJ l V d mi σ (L.1, L.2.1, L2) pc' ls st r M) : zJ l V d mi σ L pc ls (.int n :: .int dp :: .ref c1 :: .int sp :: .ref c0 :: st) r M := by
  subst hp; subst hf; subst hg; subst hL
  intro p e R s m args below meth c D cy ad A H locs la hC hP hS hl
  have hts := hC.2.2.2.2.2.1
  have hR := hC.2.2.2.2.2.2.2.1
  have hs8 := zsum (ad := ad) hst
  have hnf : nativeFrameWords "java/lang/System" "arraycopy" 5 ≤ 40 := by decide
  refine va_copyl (ty := .long) hC.1 hC.2.1 (hC.2.2.1.trans hl.1.symm) hC.2.2.2.2.1 (hts _ h1) (hts _ h2) (hts _ h3) (hts _ h4) hC.2.2.2.2.2.2.2.2.1 hP (hC.2.2.2.2.2.2.2.2.2.2.1.D cy _) hS c0 c1 1 1 (zwd_at hV0) (zwd_at hV1) rfl rfl rfl q1 q2 q3 q4 q5 (fun _ _ => rfl) (by omega) (by omega) hd (fun H1 locs1 w1 _ w3 => ?_)
  exact kk p e R s m args below meth c D cy ad A H1 locs1 la hC (by rw [← zwd_setl hV1]; exact w1) w3 hl
theorem zJ_tswI {dflt lo hi : Int} {offs : Array Int} {len : Nat} {x : Int32} (hd : decode mi.2.2.1 pc = .ok (.tableswitch dflt lo hi offs, len)) (n : Int) (hx : x.toInt = n) (h1 : ¬ n < lo) (h2 : ¬ hi < n) (ho : offs[(n - lo).toNat]? = some off) (ht : (pc : Int) + off = (tgt : Int)) (k : zJ l V d mi σ L tgt ls st r M) : zJ l V d mi σ L pc ls (.int x :: st) r M := by
  subst hx
  intro p e R s m args below meth c D cy ad A H locs la hC hP hS hl
  exact lv_tableIn hC.1 hC.2.1 hd h1 h2 ho ht (k p e R s m args below meth c D cy ad A H locs la hC hP hS hl)
theorem zJ_tswO {dflt lo hi : Int} {offs : Array Int} {len : Nat} {x : Int32} (hd : decode mi.2.2.1 pc = .ok (.tableswitch dflt lo hi offs, len)) (hx : x.toInt < lo ∨ hi < x.toInt) (ht : (pc : Int) + dflt = (tgt : Int)) (k : zJ l V d mi σ L tgt ls st r M) : zJ l V d mi σ L pc ls (.int x :: st) r M := by
  intro p e R s m args below meth c D cy ad A H locs la hC hP hS hl
  exact lv_tableOut hC.1 hC.2.1 hd hx ht (k p e R s m args below meth c D cy ad A H locs la hC hP hS hl)
theorem zJ_lsw {dflt : Int} {ps : Array (Int × Int)} {len : Nat} {x : Int32} (hd : decode mi.2.2.1 pc = .ok (.lookupswitch dflt ps, len)) (hp : (ps.toList.zip (ps.toList.drop 1)).all (fun (a, next) => a.1 < next.1) = true) (ho : Op.lookupswitch.offset ps.toList dflt x.toInt = off) (ht : (pc : Int) + off = (tgt : Int)) (k : zJ l V d mi σ L tgt ls st r M) : zJ l V d mi σ L pc ls (.int x :: st) r M := by
  intro p e R s m args below meth c D cy ad A H locs la hC hP hS hl
  exact lv_lookup hC.1 hC.2.1 hd hp ho ht (k p e R s m args below meth c D cy ad A H locs la hC hP hS hl)
/-- a computed number gets a name -/
theorem zJ_nmi {x y : Int32} (he : x = y) (k : zJ l V d mi σ L pc ls (.int x :: st) r M) : zJ l V d mi σ L pc ls (.int y :: st) r M := by
  subst he; exact k
theorem zJ_nml {x y : Int64} (he : x = y) (k : zJ l V d mi σ L pc ls (.long x :: st) r M) : zJ l V d mi σ L pc ls (.long y :: st) r M := by
  subst he; exact k
end
theorem zle_n {α : Type} {g : Nat → α} : zle g [] := trivial
theorem zle_c {α : Type} {g : Nat → α} {k : Nat} {v : α} {l : List (Nat × α)} (h : g k = v) (t : zle g l) : zle g ((k, v) :: l) := ⟨h, t⟩
theorem zll_n {ls : List (Nat × Value)} : zlle ls [] := trivial
theorem zll_c {ls : List (Nat × Value)} {k : Nat} {v : Value} {l : List (Nat × Value)} (h : zlk ls k = some v) (t : zlle ls l) : zlle ls ((k, v) :: l) := ⟨h, t⟩
theorem zsub_i {σ : zS} {L : zL} {a : List (Nat × Int32)} {b : List (Nat × (Nat → Int32))} {c : List (Nat × (Nat → Int64))} (h1 : zle (zov σ.1 L.1) a) (h2 : zle (zov σ.2.1 L.2.1) b) (h3 : zle (zov σ.2.2 L.2.2) c) : zsub σ L (a, b, c) := ⟨h1, h2, h3⟩
/-! what a method computes: words -/
def gd {R : Type} (b : Bool) (k : Option R) : Option R := cond b k none
theorem gd_some {R : Type} {b : Bool} {k : Option R} {r : R} (h : gd b k = some r) : b = true ∧ k = some r := by
  cases b with
  | true => exact ⟨rfl, h⟩
  | false => cases h
theorem gd_t {R : Type} {b : Bool} {k : Option R} (h : b = true) : gd b k = k := by subst h; rfl
def lt1 {A R : Type} (a : A) (k : A → Option R) : Option R := k a
theorem lt1_some {A R : Type} {a : A} {k : A → Option R} {r : R} (h : lt1 a k = some r) : ∃ x, x = a ∧ k x = some r := ⟨a, rfl, h⟩
def ix (i : Int32) (n : Nat) : Bool := decide (0 ≤ i.toInt) && decide (i.toInt < (n : Int))
theorem ix_in {i : Int32} {n : Nat} (h : ix i n = true) : vp_in i n := by
  unfold ix at h
  rw [Bool.and_eq_true, decide_eq_true_eq, decide_eq_true_eq] at h
  exact vp_in_iff.mpr h
theorem ix_t {i : Int32} {n : Nat} (h1 : 0 ≤ i.toInt) (h2 : i.toInt < (n : Int)) : ix i n = true := by
  unfold ix
  rw [Bool.and_eq_true, decide_eq_true_eq, decide_eq_true_eq]
  exact ⟨h1, h2⟩
def nz (y : Int32) : Bool := decide (¬ y = 0)
theorem nz_ne {y : Int32} (h : nz y = true) : ¬ y = 0 := of_decide_eq_true h
def nzl (y : Int64) : Bool := decide (¬ y = 0)
theorem nzl_ne {y : Int64} (h : nzl y = true) : ¬ y = 0 := of_decide_eq_true h
def bit (v : Int32) : Bool := decide (v = 0 ∨ v = 1)
theorem bit_n {v : Int32} (h : bit v = true) : narrow .boolean (.int v) = .int v := by
  rcases of_decide_eq_true h with rfl | rfl <;> rfl
def cpok (sp dp n : Int32) (n0 n1 : Nat) : Bool := decide (¬ sp < 0 ∧ ¬ dp < 0 ∧ ¬ n < 0 ∧ sp.toNatClampNeg + n.toNatClampNeg ≤ n0 ∧ dp.toNatClampNeg + n.toNatClampNeg ≤ n1)
theorem cpok_s {sp dp n : Int32} {n0 n1 : Nat} (h : cpok sp dp n n0 n1 = true) : ¬ sp < 0 ∧ ¬ dp < 0 ∧ ¬ n < 0 ∧ sp.toNatClampNeg + n.toNatClampNeg ≤ n0 ∧ dp.toNatClampNeg + n.toNatClampNeg ≤ n1 := of_decide_eq_true h
theorem it_t {R : Type} {c : Prop} [Decidable c] {a b : Option R} {r : R} (hc : c) (h : (if c then a else b) = some r) : a = some r := by rw [if_pos hc] at h; exact h
theorem it_f {R : Type} {c : Prop} [Decidable c] {a b : Option R} {r : R} (hc : ¬ c) (h : (if c then a else b) = some r) : b = some r := by rw [if_neg hc] at h; exact h
theorem z_ne {x v : Int32} {n : Int} (h : ¬ x = v) (hv : v.toInt = n) : x.toInt ≠ n := fun q => h (Int32.toInt_inj.mp (q.trans hv.symm))
def zN : Nat := 100000
