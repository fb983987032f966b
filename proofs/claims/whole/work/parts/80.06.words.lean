/-! THE ABSTRACT MACHINE: Math, arraycopy, switches; words for what a method computes -/
section
variable {l : Launch} {V : List zSh} {d : Nat} {mi : zM} {σ : zS} {L M : zL} {pc pc' tgt : Nat} {off : Int} {ls : List (Nat × Value)} {st : List Value} {r : Option Value}
theorem zsum {ad : Nat → Nat} {st : List Value} (hst : (st.map fun v => v.category).sum ≤ 8) : ((st.map (zcv ad)).map fun v => v.category).sum ≤ 8 := by
  rw [List.map_map]
  refine Nat.le_trans (Nat.le_of_eq ?_) hst
  congr 1
  apply List.map_congr_left
  intro v _
  exact zcv_cat ad v
theorem zJ_mmax {idx : Nat} {x y : Int32} (hd : decode mi.2.2.1 pc = .ok (.invokestatic idx, 3)) (h1 : Cond.methodLink mi.1 idx Lib.Math.max.name ∈ zTB) (h2 : Cond.static Lib.Math.max.name ∈ zTB) (h3 : Cond.initialized "java/lang/Math" ∈ zTB) (h4 : Cond.code Lib.Math.max.name Lib.Math.max.code 2 (some .int) ∈ zTB) (hdd : 1 ≤ d) (hst : (st.map fun v => v.category).sum ≤ 8) (hp : pc + 3 = pc')
    (kk : zJ l V d mi σ L pc' ls (.int (if x < y then y else x) :: st) r M) : zJ l V d mi σ L pc ls (.int y :: .int x :: st) r M := by
  subst hp
  intro p e R s m args below meth c D cy ad A H locs la hC hP hS hl
  have hts := hC.2.2.2.2.2.1
  have hR := hC.2.2.2.2.2.2.2.1
  have hs8 := zsum (ad := ad) hst
  exact va_mmax hC.1 hC.2.1 (hC.2.2.1.trans hl.1.symm) hC.2.2.2.2.1 (hts _ h1) (hts _ h2) (hts _ h3) (hts _ h4) (by omega) (by omega) (Nat.zero_le _) (Nat.zero_le _) hd (kk p e R s m args below meth c D cy ad A H locs la hC hP hS hl)
theorem zJ_mmin {idx : Nat} {x y : Int32} (hd : decode mi.2.2.1 pc = .ok (.invokestatic idx, 3)) (h1 : Cond.methodLink mi.1 idx Lib.Math.min.name ∈ zTB) (h2 : Cond.static Lib.Math.min.name ∈ zTB) (h3 : Cond.initialized "java/lang/Math" ∈ zTB) (h4 : Cond.code Lib.Math.min.name Lib.Math.min.code 2 (some .int) ∈ zTB) (hdd : 1 ≤ d) (hst : (st.map fun v => v.category).sum ≤ 8) (hp : pc + 3 = pc')
    (kk : zJ l V d mi σ L pc' ls (.int (if y < x then y else x) :: st) r M) : zJ l V d mi σ L pc ls (.int y :: .int x :: st) r M := by
  subst hp
  intro p e R s m args below meth c D cy ad A H locs la hC hP hS hl
  have hts := hC.2.2.2.2.2.1
  have hR := hC.2.2.2.2.2.2.2.1
  have hs8 := zsum (ad := ad) hst
  exact va_mmin hC.1 hC.2.1 (hC.2.2.1.trans hl.1.symm) hC.2.2.2.2.1 (hts _ h1) (hts _ h2) (hts _ h3) (hts _ h4) (by omega) (by omega) (Nat.zero_le _) (Nat.zero_le _) hd (kk p e R s m args below meth c D cy ad A H locs la hC hP hS hl)
theorem zJ_mabs {idx : Nat} {x : Int32} (hd : decode mi.2.2.1 pc = .ok (.invokestatic idx, 3)) (h1 : Cond.methodLink mi.1 idx Lib.Math.abs.name ∈ zTB) (h2 : Cond.static Lib.Math.abs.name ∈ zTB) (h3 : Cond.initialized "java/lang/Math" ∈ zTB) (h4 : Cond.code Lib.Math.abs.name Lib.Math.abs.code 1 (some .int) ∈ zTB) (hdd : 1 ≤ d) (hst : (st.map fun v => v.category).sum ≤ 8) (hp : pc + 3 = pc')
    (kk : zJ l V d mi σ L pc' ls (.int (if 0 ≤ x then x else 0 - x) :: st) r M) : zJ l V d mi σ L pc ls (.int x :: st) r M := by
  subst hp
  intro p e R s m args below meth c D cy ad A H locs la hC hP hS hl
  have hts := hC.2.2.2.2.2.1
  have hR := hC.2.2.2.2.2.2.2.1
  have hs8 := zsum (ad := ad) hst
  exact va_mabs hC.1 hC.2.1 (hC.2.2.1.trans hl.1.symm) hC.2.2.2.2.1 (hts _ h1) (hts _ h2) (hts _ h3) (hts _ h4) (by omega) (by omega) (Nat.zero_le _) (Nat.zero_le _) hd (kk p e R s m args below meth c D cy ad A H locs la hC hP hS hl)
theorem zJ_copyi {idx c0 c1 n0 n1 : Nat} {sp dp n : Int32} {f g : Nat → Int32} (hd : decode mi.2.2.1 pc = .ok (.invokestatic idx, 3)) (h1 : Cond.methodLink mi.1 idx arraycopyName ∈ zTB) (h2 : Cond.native arraycopyName ∈ zTB) (h3 : Cond.static arraycopyName ∈ zTB) (h4 : Cond.initialized "java/lang/System" ∈ zTB)
    (hV0 : V[c0]? = some (.inr (0, n0))) (hV1 : V[c1]? = some (.inr (0, n1))) (hf : zov σ.2.1 L.2.1 c0 = f) (hg : zov σ.2.1 L.2.1 c1 = g) (q1 : ¬ sp < 0) (q2 : ¬ dp < 0) (q3 : ¬ n < 0) (q4 : sp.toNatClampNeg + n.toNatClampNeg ≤ n0) (q5 : dp.toNatClampNeg + n.toNatClampNeg ≤ n1)
    (hdd : 1 ≤ d) (hst : (st.map fun v => v.category).sum ≤ 8) {L2 : List (Nat × (Nat → Int32))} (hL : zin c1 (va_cpy f g sp.toNatClampNeg dp.toNatClampNeg n.toNatClampNeg) L.2.1 = L2) (hp : pc + 3 = pc')
    (kk : zJ l V d mi σ (L.1, L2, L.2.2) pc' ls st r M) : zJ l V d mi σ L pc ls (.int n :: .int dp :: .ref c1 :: .int sp :: .ref c0 :: st) r M := by
  subst hp; subst hf; subst hg; subst hL
  intro p e R s m args below meth c D cy ad A H locs la hC hP hS hl
  have hts := hC.2.2.2.2.2.1
  have hR := hC.2.2.2.2.2.2.2.1
  have hs8 := zsum (ad := ad) hst
  have hnf : nativeFrameWords "java/lang/System" "arraycopy" 5 ≤ 40 := by decide
  refine va_copyi (ty := .int) hC.1 hC.2.1 (hC.2.2.1.trans hl.1.symm) hC.2.2.2.2.1 (hts _ h1) (hts _ h2) (hts _ h3) (hts _ h4) hC.2.2.2.2.2.2.2.2.1 hP (hC.2.2.2.2.2.2.2.2.2.2.1.D cy _) hS c0 c1 0 0 (zwd_at hV0) (zwd_at hV1) rfl rfl rfl q1 q2 q3 q4 q5 (fun _ _ => rfl) (by omega) (by omega) hd (fun H1 locs1 w1 _ w3 => ?_)
  exact kk p e R s m args below meth c D cy ad A H1 locs1 la hC (by rw [← zwd_seti hV1 (by decide)]; exact w1) w3 hl
theorem zJ_copyl {idx c0 c1 n0 n1 : Nat} {sp dp n : Int32} {f g : Nat → Int64} (hd : decode mi.2.2.1 pc = .ok (.invokestatic idx, 3)) (h1 : Cond.methodLink mi.1 idx arraycopyName ∈ zTB) (h2 : Cond.native arraycopyName ∈ zTB) (h3 : Cond.static arraycopyName ∈ zTB) (h4 : Cond.initialized "java/lang/System" ∈ zTB)
    (hV0 : V[c0]? = some (.inr (1, n0))) (hV1 : V[c1]? = some (.inr (1, n1))) (hf : zov σ.2.2 L.2.2 c0 = f) (hg : zov σ.2.2 L.2.2 c1 = g) (q1 : ¬ sp < 0) (q2 : ¬ dp < 0) (q3 : ¬ n < 0) (q4 : sp.toNatClampNeg + n.toNatClampNeg ≤ n0) (q5 : dp.toNatClampNeg + n.toNatClampNeg ≤ n1)
    (hdd : 1 ≤ d) (hst : (st.map fun v => v.category).sum ≤ 8) {L2 : List (Nat × (Nat → Int64))} (hL : zin c1 (va_cpy f g sp.toNatClampNeg dp.toNatClampNeg n.toNatClampNeg) L.2.2 = L2) (hp : pc + 3 = pc')
    (kk : zJ l V d mi σ (L.1, L.2.1, L2) pc' ls st r M) : zJ l V d mi σ L pc ls (.int n :: .int dp :: .ref c1 :: .int sp :: .ref c0 :: st) r M := by
  subst hp; subst hf; subst hg; subst hL
  intro p e R s m args below meth c D cy ad A H locs la hC hP hS hl
  have hts := hC.2.2.2.2.2.1
  have hR := hC.2.2.2.2.2.2.2.1
  have hs8 := zsum (ad := ad) hst
  have hnf : nativeFrameWords "java/lang/System" "arraycopy" 5 ≤ 40 := by decide
  refine va_copyl (ty := .long) hC.1 hC.2.1 (hC.2.2.1.trans hl.1.symm) hC.2.2.2.2.1 (hts _ h1) (hts _ h2) (hts _ h3) (hts _ h4) hC.2.2.2.2.2.2.2.2.1 hP (hC.2.2.2.2.2.2.2.2.2.2.1.D cy _) hS c0 c1 1 1 (zwd_at hV0) (zwd_at hV1) rfl rfl rfl q1 q2 q3 q4 q5 (fun _ _ => rfl) (by omega) (by omega) hd (fun H1 locs1 w1 _ w3 => ?_)
  exact kk p e R s m args below meth c D cy ad A H1 locs1 la hC (by rw [← zwd_setl hV1]; exact w1) w3 hl
theorem zJ_tswI {dflt lo hi : Int} {offs : Array Int} {len : Nat} {x : Int32} (hd : decode mi.2.2.1 pc = .ok (.tableswitch dflt lo hi offs, len)) (n : Int) (hx : x.toInt = n) (h1 : ¬ n < lo) (h2 : ¬ hi < n) (ho : offs[(n - lo).toNat]? = some off) (ht : (pc : Int) + off = (tgt : Int)) (k : zJ l V d mi σ L tgt ls st r M) : zJ l V d mi σ L pc ls (.int x :: st) r M := by
  subst hx
  intro p e R s m args below meth c D cy ad A H locs la hC hP hS hl
  exact lv_tableIn hC.1 hC.2.1 hd h1 h2 ho ht (k p e R s m args below meth c D cy ad A H locs la hC hP hS hl)
theorem zJ_tswO {dflt lo hi : Int} {offs : Array Int} {len : Nat} {x : Int32} (hd : decode mi.2.2.1 pc = .ok (.tableswitch dflt lo hi offs, len)) (hx : x.toInt < lo ∨ hi < x.toInt) (ht : (pc : Int) + dflt = (tgt : Int)) (k : zJ l V d mi σ L tgt ls st r M) : zJ l V d mi σ L pc ls (.int x :: st) r M := by
  intro p e R s m args below meth c D cy ad A H locs la hC hP hS hl
  exact lv_tableOut hC.1 hC.2.1 hd hx ht (k p e R s m args below meth c D cy ad A H locs la hC hP hS hl)
theorem zJ_lsw {dflt : Int} {ps : Array (Int × Int)} {len : Nat} {x : Int32} (hd : decode mi.2.2.1 pc = .ok (.lookupswitch dflt ps, len)) (hp : (ps.toList.zip (ps.toList.drop 1)).all (fun (a, next) => a.1 < next.1) = true) (ho : Op.lookupswitch.offset ps.toList dflt x.toInt = off) (ht : (pc : Int) + off = (tgt : Int)) (k : zJ l V d mi σ L tgt ls st r M) : zJ l V d mi σ L pc ls (.int x :: st) r M := by
  intro p e R s m args below meth c D cy ad A H locs la hC hP hS hl
  exact lv_lookup hC.1 hC.2.1 hd hp ho ht (k p e R s m args below meth c D cy ad A H locs la hC hP hS hl)
theorem zK_copyi {la : List (Nat × Int32)} {lb lb' : List (Nat × (Nat → Int32))} {lc : List (Nat × (Nat → Int64))} {idx c0 c1 n0 n1 : Nat} {sp dp n : Int32} {f g : Nat → Int32} (hd : decode mi.2.2.1 pc = .ok (.invokestatic idx, 3)) (h1 : Cond.methodLink mi.1 idx arraycopyName ∈ zTB) (h2 : Cond.native arraycopyName ∈ zTB) (h3 : Cond.static arraycopyName ∈ zTB) (h4 : Cond.initialized "java/lang/System" ∈ zTB)
    (hV0 : V[c0]? = some (.inr (0, n0))) (hV1 : V[c1]? = some (.inr (0, n1))) (hf : zov σ.2.1 lb c0 = f) (hg : zov σ.2.1 lb c1 = g) (q : ¬ sp < 0 ∧ ¬ dp < 0 ∧ ¬ n < 0 ∧ sp.toNatClampNeg + n.toNatClampNeg ≤ n0 ∧ dp.toNatClampNeg + n.toNatClampNeg ≤ n1)
    (hdd : 1 ≤ d) (hst : (st.map fun v => v.category).sum ≤ 8) (hL : zin c1 (va_cpy f g sp.toNatClampNeg dp.toNatClampNeg n.toNatClampNeg) lb = lb') (hp : pc + 3 = pc')
    (kk : zJ l V d mi σ (la, lb', lc) pc' ls st r M) : zJ l V d mi σ (la, lb, lc) pc ls (.int n :: .int dp :: .ref c1 :: .int sp :: .ref c0 :: st) r M := zJ_copyi (L := (la, lb, lc)) hd h1 h2 h3 h4 hV0 hV1 hf hg q.1 q.2.1 q.2.2.1 q.2.2.2.1 q.2.2.2.2 hdd hst hL hp kk
theorem zK_copyl {la : List (Nat × Int32)} {lb : List (Nat × (Nat → Int32))} {lc lc' : List (Nat × (Nat → Int64))} {idx c0 c1 n0 n1 : Nat} {sp dp n : Int32} {f g : Nat → Int64} (hd : decode mi.2.2.1 pc = .ok (.invokestatic idx, 3)) (h1 : Cond.methodLink mi.1 idx arraycopyName ∈ zTB) (h2 : Cond.native arraycopyName ∈ zTB) (h3 : Cond.static arraycopyName ∈ zTB) (h4 : Cond.initialized "java/lang/System" ∈ zTB)
    (hV0 : V[c0]? = some (.inr (1, n0))) (hV1 : V[c1]? = some (.inr (1, n1))) (hf : zov σ.2.2 lc c0 = f) (hg : zov σ.2.2 lc c1 = g) (q : ¬ sp < 0 ∧ ¬ dp < 0 ∧ ¬ n < 0 ∧ sp.toNatClampNeg + n.toNatClampNeg ≤ n0 ∧ dp.toNatClampNeg + n.toNatClampNeg ≤ n1)
    (hdd : 1 ≤ d) (hst : (st.map fun v => v.category).sum ≤ 8) (hL : zin c1 (va_cpy f g sp.toNatClampNeg dp.toNatClampNeg n.toNatClampNeg) lc = lc') (hp : pc + 3 = pc')
    (kk : zJ l V d mi σ (la, lb, lc') pc' ls st r M) : zJ l V d mi σ (la, lb, lc) pc ls (.int n :: .int dp :: .ref c1 :: .int sp :: .ref c0 :: st) r M := zJ_copyl (L := (la, lb, lc)) hd h1 h2 h3 h4 hV0 hV1 hf hg q.1 q.2.1 q.2.2.1 q.2.2.2.1 q.2.2.2.2 hdd hst hL hp kk
/-- a computed number gets a name -/
theorem zJ_nmi {x y : Int32} (he : x = y) (k : zJ l V d mi σ L pc ls (.int x :: st) r M) : zJ l V d mi σ L pc ls (.int y :: st) r M := by
  subst he; exact k
theorem zJ_nml {x y : Int64} (he : x = y) (k : zJ l V d mi σ L pc ls (.long x :: st) r M) : zJ l V d mi σ L pc ls (.long y :: st) r M := by
  subst he; exact k
end
theorem zle_n {α : Type} {g : Nat → α} : zle g [] := trivial
theorem zle_c {α : Type} {g : Nat → α} {k : Nat} {v : α} {l : List (Nat × α)} (h : g k = v) (t : zle g l) : zle g ((k, v) :: l) := ⟨h, t⟩
theorem zll_n {ls : List (Nat × Value)} : zlle ls [] := trivial
theorem zll_c {ls : List (Nat × Value)} {k : Nat} {v : Value} {l : List (Nat × Value)} (h : zlk ls k = some v) (t : zlle ls l) : zlle ls ((k, v) :: l) := ⟨h, t⟩
theorem zsub_i {σ : zS} {L : zL} {a : List (Nat × Int32)} {b : List (Nat × (Nat → Int32))} {c : List (Nat × (Nat → Int64))} (h1 : zle (zov σ.1 L.1) a) (h2 : zle (zov σ.2.1 L.2.1) b) (h3 : zle (zov σ.2.2 L.2.2) c) : zsub σ L (a, b, c) := ⟨h1, h2, h3⟩
