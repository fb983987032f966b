/-! BUILDERS: through, built, fair -/
theorem dB_congr {p q : Nat → Bool} : ∀ n, (∀ k, k < n → p k = q k) → dB p n = dB q n
  | 0, _ => rfl
  | n + 1, h => by rw [dB, dB, dB_congr n (fun k hk => h k (by omega)), h n (by omega)]
theorem bc_all : ∀ H, H < 7 → ∀ b0 b1 b2 b3 b4 b5 : Bool, f_J6_bitCount_0f7a4 (dB (fun k => [b0, b1, b2, b3, b4, b5].getD k false) H) = some (nI (ct (fun k => [b0, b1, b2, b3, b4, b5].getD k false) H)) := by decide +kernel
theorem bc_6 {p : Nat → Bool} {H : Nat} (h : H ≤ 6) : f_J6_bitCount_0f7a4 (dB p H) = some (nI (ct p H)) := by
  have e : ∀ k, k < H → p k = [p 0, p 1, p 2, p 3, p 4, p 5].getD k false := by
    intro k hk
    have : k = 0 ∨ k = 1 ∨ k = 2 ∨ k = 3 ∨ k = 4 ∨ k = 5 := by omega
    rcases this with rfl | rfl | rfl | rfl | rfl | rfl <;> rfl
  rw [dB_congr H e, ct_congr H e]
  exact bc_all H (by omega) _ _ _ _ _ _
/-- whether a horse comes through, the fence j being hi high -/
def bW (V : Nat → Nat → Nat → Nat → Nat → Nat → Nat → Nat → Nat) (F : Nat) (kd ht ft st sc ca pl : Nat → Nat) (p v j hi h : Nat) : Bool := decide (¬ cl (rr kd ft st ca h) (fun f => od V kd ft st sc ca h f (pl (8 * p + f)) (if f = j then hi else ht f)) F < v)
def ds (a b : Nat) : Nat := (a - b) + (b - a)
theorem nI_abs {a b : Nat} (ha : a < 1048576) (hb : b < 1048576) : (if 0 ≤ nI a - nI b then nI a - nI b else 0 - (nI a - nI b)) = nI (ds a b) := by
  unfold ds
  by_cases h : a < b
  · rw [if_neg (fun q => absurd (pk_sneg (by omega) h) (Int32.not_lt.mpr q)), Int32.zero_sub, Int32.neg_sub, pk_sub (by omega)]
    exact congrArg nI (by omega)
  · rw [pk_sub (by omega), if_pos (show (0 : Int32) ≤ nI (a - b) from nI_le (a := 0) (by omega) (by omega))]
    exact congrArg nI (by omega)
/-- the best of those tried: its place and 1 (0: none), its count -/
def bsl (cnt : Nat → Nat) (n m0 : Nat) : Nat → Nat × Nat
  | 0 => (0, m0)
  | i + 1 => if ds (cnt i) n < ds (bsl cnt n m0 i).2 n then (i + 1, cnt i) else bsl cnt n m0 i
theorem bsl_t {cnt : Nat → Nat} {n m0 i : Nat} (h : ds (cnt i) n < ds (bsl cnt n m0 i).2 n) : bsl cnt n m0 (i + 1) = (i + 1, cnt i) := by rw [bsl, if_pos h]
theorem bsl_f {cnt : Nat → Nat} {n m0 i : Nat} (h : ¬ ds (cnt i) n < ds (bsl cnt n m0 i).2 n) : bsl cnt n m0 (i + 1) = bsl cnt n m0 i := by rw [bsl, if_neg h]
theorem bsl_le {cnt : Nat → Nat} {n m0 b : Nat} (h0 : m0 ≤ b) (hc : ∀ i, cnt i ≤ b) : ∀ i, (bsl cnt n m0 i).1 ≤ i ∧ (bsl cnt n m0 i).2 ≤ b
  | 0 => ⟨Nat.le_refl _, h0⟩
  | i + 1 => by
    have ih := bsl_le (n := n) h0 hc i
    by_cases h : ds (cnt i) n < ds (bsl cnt n m0 i).2 n
    · rw [bsl_t h]; exact ⟨Nat.le_refl _, hc i⟩
    · rw [bsl_f h]; exact ⟨by omega, ih.2⟩
theorem bsl_congr {cnt cnt' : Nat → Nat} {n m0 : Nat} : ∀ i, (∀ k, k < i → cnt k = cnt' k) → bsl cnt n m0 i = bsl cnt' n m0 i
  | 0, _ => rfl
  | i + 1, h => by rw [bsl, bsl, bsl_congr i (fun k hk => h k (by omega)), h i (by omega)]
/-- the least, the first of them -/
def fB (g : Nat → Nat) : Nat → Nat
  | 0 => 0
  | k + 1 => if k = 0 ∨ g k < g (fB g k) then k else fB g k
theorem fB_t {g : Nat → Nat} {k : Nat} (h : k = 0 ∨ g k < g (fB g k)) : fB g (k + 1) = k := by rw [fB, if_pos h]
theorem fB_f {g : Nat → Nat} {k : Nat} (h : ¬ (k = 0 ∨ g k < g (fB g k))) : fB g (k + 1) = fB g k := by rw [fB, if_neg h]
def mxl (g : Nat → Nat) : Nat → Nat
  | 0 => 0
  | k + 1 => max (mxl g k) (g k)
theorem mxl_le {g : Nat → Nat} {b : Nat} : ∀ n, (∀ k, k < n → g k ≤ b) → mxl g n ≤ b
  | 0, _ => Nat.zero_le _
  | n + 1, h => by
    have := mxl_le n (fun k hk => h k (by omega))
    have := h n (by omega)
    rw [mxl]; omega
/-- how much horses lean at 10 + y feet: in all, the most -/
def fsy (H : Nat) (st : Nat → Nat) (y : Nat) : Nat := sm (fun h => ln (10 + y) (st h)) H
def fmy (H : Nat) (st : Nat → Nat) (y : Nat) : Nat := mxl (fun h => ln (10 + y) (st h)) H
section
variable {F H P : Nat} {kd ht ft st sc ca pl : Nat → Nat} {V : Nat → Nat → Nat → Nat → Nat → Nat → Nat → Nat → Nat} {ck ch cf cd cp rk mk mh mf ms mc ma mp ml : Nat → Int32} {rz mz : Int32} {n r al h p v : Nat} {nt mt : Nat → Int64}
theorem x_passing {a b c : Nat} (ha : a ≤ 10000) (hb : b ≤ 100) (hc : c ≤ 100) : f_X1_passing (nI a) (nI b) (nI c) = some (nI (a * (100 - b) / 100 * (100 - c) / 100)) := by
  have h1 : a * (100 - b) ≤ 10000 * 100 := Nat.mul_le_mul ha (by omega)
  have h2 : a * (100 - b) / 100 ≤ a := cut_le
  have h3 : a * (100 - b) / 100 * (100 - c) ≤ 10000 * 100 := Nat.mul_le_mul (by omega) (by omega)
  unfold f_X1_passing
  simp (disch := omega) only [c_100, pk_sub, pk_mul, pk_div]
theorem bW_none : (bW V F kd ht ft st sc ca pl p v) 100 0 h = decide (¬ cl (rr kd ft st ca h) (oo V kd ht ft st sc ca pl h p) F < v) ∨ 100 < F := by
  by_cases hF : 100 < F
  · exact .inr hF
  · left
    unfold bW
    rw [cl_congr (r' := (rr kd ft st ca h)) (o' := (oo V kd ht ft st sc ca pl h p)) F (fun k hk => ⟨rfl, by rw [if_neg (by omega)]; rfl⟩)]
theorem x_bits (hX : okX F H P kd ht ft st sc ca pl V ck ch cf cd cp rz rk) (hp : p < P) (hv : v ≤ 10000) (sk th : Nat → Int32) : Rt (f_X11_bitsThrough (nI p) (nI v) (nI F) (nI H) rz ck ch cf cd cp rk sk th) (fun a => a.1 = dB ((bW V F kd ht ft st sc ca pl p v) 100 0) H) := by
  have hF := hX.1.1
  have hH := hX.2.2.1.1.1
  unfold f_X11_bitsThrough
  refine rl4 6 (fun k v3 v4 _ _ => v3 = dB ((bW V F kd ht ft st sc ca pl p v) 100 0) k ∧ v4 = nI k ∧ k ≤ H) (by omega) ⟨rfl, rfl, by omega⟩ ?_
  rintro rc k v3 v4 s1 t1 ⟨rfl, rfl, hk⟩ ih
  unfold s_X11_bitsThrough_5
  by_cases hkH : H ≤ k
  · obtain rfl : H = k := by omega
    exact rt_t (nI_le (Nat.le_refl _) (by omega)) (rt_some rfl)
  · obtain ⟨s2, t2, e⟩ := x_clearOf hX (show k < H by omega) hp s1 t1
    have hc := cl_le (r := rr kd ft st ca k) (o := oo V kd ht ft st sc ca pl k p) F
    have hW : (bW V F kd ht ft st sc ca pl p v) 100 0 k = decide (¬ cl (rr kd ft st ca k) (oo V kd ht ft st sc ca pl k p) F < v) := by
      rcases bW_none (V := V) (F := F) (kd := kd) (ht := ht) (ft := ft) (st := st) (sc := sc) (ca := ca) (pl := pl) (p := p) (v := v) (h := k) with h | h
      · exact h
      · omega
    refine rt_f (nI_ge (by omega) (by omega)) (re3 e (rt_if (fun q => ?_) (fun q => ?_)))
    · rw [nI_ltI (by omega) (by omega)] at q
      refine rt_lt (ih (by omega) _ _ _ _ ⟨?_, nI_1 _, by omega⟩)
      rw [dB_f]
      rw [hW, decide_eq_true_eq]; omega
    · rw [nI_ltI (by omega) (by omega)] at q
      refine rt_lt (rt_lt (ih (by omega) _ _ _ _ ⟨?_, nI_1 _, by omega⟩))
      rw [dB_t]
      rw [hW, decide_eq_true_eq]; exact q
theorem m_bits (hM : okM F H P kd ht ft st sc ca pl V mk mh mf ms mc ma mp mz ml) (hp : p < P) (hv : v ≤ 10000) {j hi : Nat} {v3 : Int32} (hj : ∀ f, f < F → (nI f = v3) = (f = j)) (q1 q2 q3 q4 q5 q6 q7 q8 q9 q10 : Int32) : Rt (f_X12_throughBy (nI p) (nI v) v3 (nI hi) (nI F) (nI H) q1 q2 q3 q4 q5 mz q6 q7 q8 q9 q10 mk mh mf ms mc ma mp ml) (fun a => a.1 = dB ((bW V F kd ht ft st sc ca pl p v) j hi) H) := by
  have hH := hM.2.2.1.1.1
  unfold f_X12_throughBy
  refine rl12 6 (fun k v5 v6 _ _ _ _ _ _ _ _ _ _ => v5 = dB ((bW V F kd ht ft st sc ca pl p v) j hi) k ∧ v6 = nI k ∧ k ≤ H) (by omega) ⟨rfl, rfl, by omega⟩ ?_
  rintro rc k v5 v6 u1 u2 u3 u4 u5 u6 u7 u8 u9 u10 ⟨rfl, rfl, hk⟩ ih
  unfold s_X12_throughBy_6
  by_cases hkH : H ≤ k
  · obtain rfl : H = k := by omega
    exact rt_t (nI_le (Nat.le_refl _) (by omega)) (rt_some rfl)
  · obtain ⟨⟨w1, w2, w3, w4, w5, w6, w7, w8, w9, w10⟩, e⟩ := m_clearBy (hi := hi) hM (show k < H by omega) hp hj u1 u2 u3 u4 u5 u6 u7 u8 u9 u10
    have hc := cl_le (r := rr kd ft st ca k) (o := fun f => od V kd ft st sc ca k f (pl (8 * p + f)) (if f = j then hi else ht f)) F
    refine rt_f (nI_ge (by omega) (by omega)) (re11 e (rt_if (fun q => ?_) (fun q => ?_)))
    · rw [nI_ltI (by omega) (by omega)] at q
      refine rt_lt (rt_lt (ih (by omega) _ _ _ _ _ _ _ _ _ _ _ _ ⟨?_, nI_1 _, by omega⟩))
      rw [dB_f, Int32.or_zero]
      unfold bW
      rw [decide_eq_true_eq]; omega
    · rw [nI_ltI (by omega) (by omega)] at q
      refine rt_lt (rt_lt (ih (by omega) _ _ _ _ _ _ _ _ _ _ _ _ ⟨?_, nI_1 _, by omega⟩))
      rw [dB_t]
      unfold bW
      rw [decide_eq_true_eq]; exact q
theorem no_j (hF : F ≤ 8) : ∀ f, f < F → (nI f = -1) = (f = 100) := fun f hf => by
  rw [m1_nef (by omega)]
  exact (eq_false (by omega)).symm
theorem pr_through (hX : okX F H P kd ht ft st sc ca pl V ck ch cf cd cp rz rk) (hM : okM F H P kd ht ft st sc ca pl V mk mh mf ms mc ma mp mz ml) (hR : rowE r nt mt) (p1 p2 : Int32) (sk th : Nat → Int32) (q1 q2 q3 q4 q5 q6 q7 q8 q9 q10 tw : Int32) : Rt (f_X11_through p1 p2 (nI r) (nI F) (nI H) (nI P) rz ck ch cf cd cp rk sk th nt) (fun a => Rt (f_X12_through p1 p2 (nI F) (nI H) (nI P) (nI r) tw q1 q2 q3 q4 q5 mz q6 q7 q8 q9 q10 mk mh mf ms mc ma mp ml mt) (fun b => a.1 = b.1 ∧ b.2.2.1 = 0 ∧ ∃ r, a.2.1 = nI r ∧ b.2.1 = nI r ∧ rowE r a.2.2.2.2 b.2.2.2.2.2.2.2.2.2.2.2.2.2)) := by
  have hF := hX.1.1
  have hH := hX.2.2.1.1.1
  have hP := hX.2.2.2.1.1
  rcases bel p1 P (by omega) with ⟨p, hp, rfl⟩ | ho
  · rcases bel p2 10001 (by omega) with ⟨v, hv, rfl⟩ | ho
    · unfold f_X11_through
      refine re1 (x_hasPT hp (by omega)) (rt_f i10n (rt_f (nI_pos (by omega)) (rt_t (nI_le (b := 10000) (by omega) (by omega)) (rb3 (x_bits hX hp (by omega) sk th) ?_))))
      rintro a1 s2 t2 rfl
      refine re1 (x_start _) (re1 (bc_6 hH) (re2 (x_put0 _ _) (rt_some ?_)))
      unfold f_X12_through
      refine re1 (m_isPT hp (by omega)) (rt_f i10n (re1 (m_inT (n := 10000) (by omega) (by omega)) (rt_f i10n (rb11 (m_bits (v := v) (hi := 0) hM hp (by omega) (no_j hF) _ _ _ _ _ _ _ _ _ _) ?_))))
      rintro a1 w1 w2 w3 w4 w5 w6 w7 w8 w9 w10 rfl
      exact re1 (bc_6 hH) (re2 (m_tell0 _ _) (rt_some ⟨rfl, rfl, 1, rfl, rfl, rowE_r1⟩))
    · refine rt_and (P := fun a => a = (-1, nI r, sk, th, nt)) (Q := fun b => b.1 = -1 ∧ b.2.2.1 = 0 ∧ b.2.1 = nI r ∧ b.2.2.2.2.2.2.2.2.2.2.2.2.2 = mt) ?_ ?_ ?_
      · unfold f_X11_through
        exact re1 (x_hasPT hp (by omega)) (rt_f i10n (rt_if (fun _ => rt_some rfl) (fun h0 => rt_f (out_le (n := 10000) ho h0 (by omega)) (rt_some rfl))))
      · unfold f_X12_through
        exact re1 (m_isPT hp (by omega)) (rt_f i10n (re1 (m_inF (n := 10000) ho (by omega)) (rt_t rfl (rt_some ⟨rfl, rfl, rfl, rfl⟩))))
      · rintro a b rfl ⟨e1, e2, e3, e4⟩
        exact ⟨e1.symm, e2, r, rfl, e3, by rw [e4]; exact hR⟩
  · unfold f_X11_through
    refine re1 (x_hasPF ho) (rt_t rfl (rt_some ?_))
    unfold f_X12_through
    exact re1 (m_isPF ho (by omega)) (rt_t rfl (rt_some ⟨rfl, rfl, r, rfl, rfl, hR⟩))
theorem rr_le (hG : okG H st sc ca) (hh : h < H) (f : Nat) : rr kd ft st ca h f ≤ 100 := by
  have := rf_le (y := ft f) (k := kd f) (c := ca (4 * h + 3)) (hG.2 h hh).1
  unfold rr; omega
theorem x_cAH (hX : okX F H P kd ht ft st sc ca pl V ck ch cf cd cp rz rk) (hh : h < H) (hp : p < P) (hv : v ≤ 10000) {j : Nat} (hj : j < F) (sk th cc po ro : Nat → Int32) (c : Nat → Nat) (hcc : ∀ i, i < 80 → cc i = nI (c i)) (hpo : ∀ f, f < F → po f = nI ((oo V kd ht ft st sc ca pl h p) f)) (hro : ∀ f, f < F → ro f = nI ((rr kd ft st ca h) f)) : Rt (f_X1_countAtHeights (nI h) (nI j) (nI (pl (8 * p + j))) (nI v) (nI F) rz ck ch cf cd rk sk th cc po ro) (fun a => a.1 = ch ∧ ∀ i, i < 80 → a.2.2.2 i = nI (if i / 10 = j ∧ (bW V F kd ht ft st sc ca pl p v) j (i % 10) h = true then c i + 1 else c i)) := by
  have hF := hX.1.1
  have hl := (hX.2.2.2.1.2 p hp j hj).1
  unfold f_X1_countAtHeights
  refine rt_gx (by omega) (by omega) (rt_lt ?_)
  rw [nI_clamp (by omega)]
  refine rl5 10 (fun k v6 ch' _ _ cc => v6 = nI k ∧ k ≤ 10 ∧ (∀ f, f ≠ j → ch' f = ch f) ∧ ∀ i, i < 80 → cc i = nI (if i / 10 = j ∧ i % 10 < k ∧ (bW V F kd ht ft st sc ca pl p v) j (i % 10) h = true then c i + 1 else c i)) (by omega) ⟨rfl, by omega, fun _ _ => rfl, fun i hi => by rw [if_neg (by omega)]; exact hcc i hi⟩ ?_
  rintro rc k v6 ch' s1 t1 cc ⟨rfl, hk, hch, hI⟩ ih
  unfold s_X1_countAtHeights_11
  by_cases hk10 : 10 ≤ k
  · obtain rfl : k = 10 := by omega
    refine rt_t (by decide) ?_
    unfold k_X1_countAtHeights_11
    refine rt_gx (by omega) (by omega) (rt_some ⟨?_, fun i hi => ?_⟩)
    · funext f
      show upd ch' (nI j).toNatClampNeg (ch j) f = ch f
      rw [nI_clamp (by omega)]
      by_cases e : f = j
      · subst e; rw [upd_s]
      · rw [upd_n e]; exact hch f e
    · refine (hI i hi).trans ?_
      have : i % 10 < 10 := Nat.mod_lt _ (by omega)
      by_cases hq : i / 10 = j ∧ (bW V F kd ht ft st sc ca pl p v) j (i % 10) h = true
      · rw [if_pos ⟨hq.1, this, hq.2⟩, if_pos hq]
      · rw [if_neg (fun z => hq ⟨z.1, z.2.2⟩), if_neg hq]
  · refine rt_f (nI_ge (b := 10) (by omega) (by omega)) (rt_gx (by omega) (by omega) ?_)
    rw [nI_clamp (by omega)]
    have hX' : okX F H P kd (fun f => if f = j then k else ht f) ft st sc ca pl V ck (upd ch' j (nI k)) cf cd cp rz rk := by
      refine ⟨hX.1, fun f hf => ?_, hX.2.2⟩
      by_cases e : f = j
      · subst e; rw [upd_s]; simp only [if_true]; exact ⟨by omega, trivial⟩
      · rw [upd_n e, hch f e]; simp only [if_neg e]; exact hX.2.1 f hf
    refine rb3 (x_poleR hX' hh hj (show pl (8 * p + j) < 8 by omega) s1 t1) ?_
    rintro a1 s2 t2 rfl
    have hV := hX.2.2.2.2.1
    have ho : ∀ f, (fun f => od V kd ft st sc ca h f (pl (8 * p + f)) (if f = j then k else ht f)) f ≤ 100 := fun f => od_le hV
    refine rl2 8 (fun m v8 v9 => v8 = nI (cl (rr kd ft st ca h) (fun f => od V kd ft st sc ca h f (pl (8 * p + f)) (if f = j then k else ht f)) m) ∧ v9 = nI m ∧ m ≤ F) (by omega) ⟨rfl, rfl, by omega⟩ ?_
    rintro rc2 m v8 v9 ⟨rfl, rfl, hm⟩ ih2
    unfold s_X1_countAtHeights_43
    by_cases hmF : F ≤ m
    · obtain rfl : F = m := by omega
      refine rt_t (nI_le (Nat.le_refl _) (by omega)) ?_
      unfold k_X1_countAtHeights_43
      have hc := cl_le (r := (rr kd ft st ca h)) (o := (fun f => od V kd ft st sc ca h f (pl (8 * p + f)) (if f = j then k else ht f))) F
      have e1 := hI (10 * j + k) (by omega)
      rw [if_neg (by omega)] at e1
      have hg : ∀ x : Nat, (nI j * 10 + nI k) = nI (10 * j + k) := fun _ => by rw [c_10, pk_mul, nI_add, Nat.mul_comm]
      rw [hg 0]
      refine rt_gx (by omega) (by omega) (rt_if (fun q => rt_gx (by omega) (by omega) (rt_lt ?_)) (fun q => rt_gx (by omega) (by omega) (rt_lt ?_)))
      · rw [nI_ltI (by omega) (by omega)] at q
        refine ih (by omega) _ _ _ _ _ ⟨nI_1 _, by omega, fun f hf => ?_, fun i hi => ?_⟩
        · rw [nI_clamp (by omega), upd_n hf]; exact hch f hf
        · rw [nI_clamp (by omega), e1, c_0, nI_add, Nat.add_zero]
          have hw : ¬ (bW V F kd ht ft st sc ca pl p v) j k h = true := by
            unfold bW; rw [decide_eq_true_eq]; exact fun z => z q
          by_cases e : i = 10 * j + k
          · subst e
            rw [upd_s, if_neg]
            rintro ⟨z1, z2, z3⟩
            exact hw (by rw [show (10 * j + k) % 10 = k by omega] at z3; exact z3)
          · rw [upd_n e, hI i hi]
            by_cases hq : i / 10 = j ∧ i % 10 < k ∧ (bW V F kd ht ft st sc ca pl p v) j (i % 10) h = true
            · rw [if_pos hq, if_pos ⟨hq.1, by omega, hq.2.2⟩]
            · rw [if_neg hq, if_neg]
              rintro ⟨z1, z2, z3⟩
              exact hq ⟨z1, by omega, z3⟩
      · rw [nI_ltI (by omega) (by omega)] at q
        refine ih (by omega) _ _ _ _ _ ⟨nI_1 _, by omega, fun f hf => ?_, fun i hi => ?_⟩
        · rw [nI_clamp (by omega), upd_n hf]; exact hch f hf
        · rw [nI_clamp (by omega), e1, c_1, nI_add]
          have hw : (bW V F kd ht ft st sc ca pl p v) j k h = true := by
            unfold bW; rw [decide_eq_true_eq]; exact q
          by_cases e : i = 10 * j + k
          · subst e
            rw [upd_s, if_pos]
            exact ⟨by omega, by omega, by rw [show (10 * j + k) % 10 = k by omega]; exact hw⟩
          · rw [upd_n e, hI i hi]
            by_cases hq : i / 10 = j ∧ i % 10 < k ∧ (bW V F kd ht ft st sc ca pl p v) j (i % 10) h = true
            · rw [if_pos hq, if_pos ⟨hq.1, by omega, hq.2.2⟩]
            · rw [if_neg hq, if_neg]
              rintro ⟨z1, z2, z3⟩
              exact hq ⟨z1, by omega, z3⟩
    · have hc := cl_le (r := (rr kd ft st ca h)) (o := (fun f => od V kd ft st sc ca h f (pl (8 * p + f)) (if f = j then k else ht f))) m
      have b1 := rr_le (kd := kd) (ft := ft) hX.2.2.1.1 hh m
      have b2 : (oo V kd ht ft st sc ca pl h p) m ≤ 100 := od_le hV
      refine rt_f (nI_ge (by omega) (by omega)) (rt_gx (by omega) (by omega) ?_)
      rw [nI_clamp (by omega), hro m (by omega), hpo m (by omega)]
      refine rt_if (fun q => ?_) (fun q => rt_gx (by omega) (by omega) ?_)
      · have q' := (nI_eq (by omega) (by omega)).mp q
        subst q'
        refine re1 (x_passing hc b1 (od_le hV)) (rt_lt (ih2 (by omega) _ _ ⟨?_, nI_1 _, by omega⟩))
        rfl
      · have q' : m ≠ j := fun z => q (congrArg nI z)
        refine re1 (x_passing hc b1 b2) (rt_lt (ih2 (by omega) _ _ ⟨?_, nI_1 _, by omega⟩))
        rw [cl]
        simp only [if_neg q']
        rfl
theorem fill_cc (v : Int32) (z : Nat → Int32) : Rt (f_J7_fill_53178_course_counts v z) (fun g => ∀ j, j < 80 → g j = v) := by
  unfold f_J7_fill_53178_course_counts
  refine rl2 80 (fun k v2 g => v2 = nI k ∧ k ≤ 80 ∧ ∀ j, j < k → g j = v) (by omega) ⟨rfl, by omega, by omega⟩ ?_
  rintro rc k v2 g ⟨rfl, hk, hI⟩ ih
  unfold s_J7_fill_53178_course_counts_5
  by_cases hkn : 80 ≤ k
  · obtain rfl : k = 80 := by omega
    exact rt_t (by decide) (rt_some hI)
  · refine rt_f (nI_ge (b := 80) (by omega) (by omega)) ?_
    simp (disch := omega) only [gx, lt1_e, nI_1, nI_clamp]
    refine ih (by omega) _ _ ⟨rfl, by omega, fun i hi => ?_⟩
    by_cases e : i = k
    · subst e; rw [upd_s]
    · rw [upd_n (by omega)]; exact hI i (by omega)
/-- how many come through with a fence at a height, of the first h -/
def bC (V : Nat → Nat → Nat → Nat → Nat → Nat → Nat → Nat → Nat) (F : Nat) (kd ht ft st sc ca pl : Nat → Nat) (p v h i : Nat) : Nat := ct (bW V F kd ht ft st sc ca pl p v (i / 10) (i % 10)) h
theorem x_cT (hX : okX F H P kd ht ft st sc ca pl V ck ch cf cd cp rz rk) (hp : p < P) (hv : v ≤ 10000) (sk th cc po ro : Nat → Int32) : Rt (f_X1_countThrough (nI p) (nI v) (nI F) (nI H) rz ck ch cf cd cp rk sk th cc po ro) (fun a => a.1 = ch ∧ ∀ i, i < 10 * F → a.2.2.2.1 i = nI (bC V F kd ht ft st sc ca pl p v H i)) := by
  have hF := hX.1.1
  have hH := hX.2.2.1.1.1
  unfold f_X1_countThrough
  refine rb1 (fill_cc _ _) ?_
  intro c0 hc0
  refine rl7 6 (fun h v3 ch' _ _ cc _ _ => v3 = nI h ∧ h ≤ H ∧ ch' = ch ∧ ∃ c : Nat → Nat, (∀ i, i < 80 → cc i = nI (c i)) ∧ ∀ i, i < 10 * F → c i = bC V F kd ht ft st sc ca pl p v h i) (by omega) ⟨rfl, by omega, rfl, fun _ => 0, fun i hi => hc0 i hi, fun i hi => rfl⟩ ?_
  rintro rc h v3 ch' s1 t1 cc po ro ⟨rfl, hhH, rfl, c, hc1, hc2⟩ ih
  unfold s_X1_countThrough_10
  by_cases hh' : H ≤ h
  · obtain rfl : H = h := by omega
    refine rt_t (nI_le (Nat.le_refl _) (by omega)) (rt_some ⟨rfl, fun i hi => ?_⟩)
    refine (hc1 i (by omega)).trans ?_
    rw [hc2 i hi]
  · have hh : h < H := by omega
    refine rt_f (nI_ge (by omega) (by omega)) ?_
    refine rl5 8 (fun f v4 _ _ po ro => v4 = nI f ∧ f ≤ F ∧ ∀ g, g < f → po g = nI ((oo V kd ht ft st sc ca pl h p) g) ∧ ro g = nI ((rr kd ft st ca h) g)) (by omega) ⟨rfl, by omega, by omega⟩ ?_
    rintro rc2 f v4 s2 t2 po ro ⟨rfl, hf, hI⟩ ih2
    unfold s_X1_countThrough_21
    by_cases hfF : F ≤ f
    · obtain rfl : F = f := by omega
      refine rt_t (nI_le (Nat.le_refl _) (by omega)) ?_
      unfold k_X1_countThrough_21
      refine rl5 8 (fun g v4 ch'' _ _ cc => v4 = nI g ∧ g ≤ F ∧ ch'' = ch' ∧ ∃ c : Nat → Nat, (∀ i, i < 80 → cc i = nI (c i)) ∧ ∀ i, i < 10 * F → c i = if i / 10 < g then bC V F kd ht ft st sc ca pl p v (h + 1) i else bC V F kd ht ft st sc ca pl p v h i) (by omega) ⟨rfl, by omega, rfl, c, hc1, fun i hi => by rw [if_neg (by omega)]; exact hc2 i hi⟩ ?_
      rintro rc3 g v4 ch'' s3 t3 cc ⟨rfl, hg, rfl, c, hc1, hc2⟩ ih3
      unfold s_X1_countThrough_74
      by_cases hgF : F ≤ g
      · obtain rfl : F = g := by omega
        refine rt_t (nI_le (Nat.le_refl _) (by omega)) ?_
        unfold k_X1_countThrough_74
        refine rt_lt (ih (by omega) _ _ _ _ _ _ _ ⟨nI_1 _, by omega, rfl, c, hc1, fun i hi => ?_⟩)
        rw [hc2 i hi, if_pos (by omega)]
      · have hgf : g < F := by omega
        refine rt_f (nI_ge (by omega) (by omega)) (re1 (x_letter hX.2.2.2.1 hp hgf hF) (rb4 (x_cAH (v := v) hX hh hp hv hgf s3 t3 cc po ro c hc1 (fun f' hf' => (hI f' hf').1) (fun f' hf' => (hI f' hf').2)) ?_))
        rintro a1 s4 t4 a4 ⟨rfl, hI4⟩
        refine rt_lt (ih3 (by omega) _ _ _ _ _ ⟨nI_1 _, by omega, rfl, _, hI4, fun i hi => ?_⟩)
        have hcn : bC V F kd ht ft st sc ca pl p v (h + 1) i = bC V F kd ht ft st sc ca pl p v h i + (if bW V F kd ht ft st sc ca pl p v (i / 10) (i % 10) h = true then 1 else 0) := rfl
        have q1 := hc2 i hi
        by_cases e : i / 10 = g
        · rw [if_neg (by omega)] at q1
          subst e
          rw [if_pos (show i / 10 < i / 10 + 1 by omega), q1]
          by_cases hw : bW V F kd ht ft st sc ca pl p v (i / 10) (i % 10) h = true
          · rw [if_pos ⟨rfl, hw⟩]
            show bC V F kd ht ft st sc ca pl p v h i + 1 = ct _ (h + 1)
            rw [ct_t hw]; rfl
          · rw [if_neg (fun z => hw z.2)]
            show bC V F kd ht ft st sc ca pl p v h i = ct _ (h + 1)
            rw [ct_f hw]; rfl
        · rw [if_neg (fun z => e z.1), q1]
          by_cases e2 : i / 10 < g
          · rw [if_pos e2, if_pos (by omega)]
          · rw [if_neg e2, if_neg (by omega)]
    · have hfF' : f < F := by omega
      have hl := (hX.2.2.2.1.2 p hp f hfF').1
      refine rt_f (nI_ge (by omega) (by omega)) (re1 (x_letter hX.2.2.2.1 hp hfF' hF) (rb3 (x_poleR hX hh hfF' (show pl (8 * p + f) < 8 by omega) s2 t2) ?_))
      rintro a1 s3 t3 rfl
      refine rt_gx (by omega) (by omega) (re1 (x_refusal hX.1 hX.2.2.1 hh hfF') (rt_gx (by omega) (by omega) (rt_lt (ih2 (by omega) _ _ _ _ _ ⟨nI_1 _, by omega, fun g hg => ?_⟩))))
      rw [nI_clamp (by omega)]
      by_cases e : g = f
      · subst e; rw [upd_s, upd_s]; exact ⟨rfl, rfl⟩
      · rw [upd_n e, upd_n e]; exact hI g (by omega)
theorem x_built (hX : okX F H P kd ht ft st sc ca pl V ck ch cf cd cp rz rk) (hp : p < P) (hv : v ≤ 10000) {q : Nat} (hq : q ≤ 6) (sk th cc po ro : Nat → Int32) : Rt (f_X11_built (nI p) (nI v) (nI q) (nI r) (nI F) (nI H) (nI P) rz ck ch cf cd cp rk sk th cc po ro nt) (fun a => a.2.2.1 = ch ∧ a.2.1 = nI 2 ∧ a.1 = (if (bsl (bC V F kd ht ft st sc ca pl p v H) q (ct ((bW V F kd ht ft st sc ca pl p v) 100 0) H) (10 * F)).1 = 0 then -1 else nI (((bsl (bC V F kd ht ft st sc ca pl p v H) q (ct ((bW V F kd ht ft st sc ca pl p v) 100 0) H) (10 * F)).1 - 1) / 10)) ∧ a.2.2.2.2.2.2.2.2 = r2 nt (if (bsl (bC V F kd ht ft st sc ca pl p v H) q (ct ((bW V F kd ht ft st sc ca pl p v) 100 0) H) (10 * F)).1 = 0 then -1 else (nI (((bsl (bC V F kd ht ft st sc ca pl p v H) q (ct ((bW V F kd ht ft st sc ca pl p v) 100 0) H) (10 * F)).1 - 1) % 10)).toInt64) (nI (bsl (bC V F kd ht ft st sc ca pl p v H) q (ct ((bW V F kd ht ft st sc ca pl p v) 100 0) H) (10 * F)).2).toInt64) := by
  have hF := hX.1.1
  have hH := hX.2.2.1.1.1
  have hP := hX.2.2.2.1.1
  unfold f_X11_built
  refine re1 (x_hasPT hp (by omega)) (rt_f i10n (rt_f (nI_pos (by omega)) (rt_f (nI_nlt (a := 10000) (by omega) (by omega)) (rt_f (nI_pos (by omega)) (rt_t (nI_le (b := 6) (by omega) (by omega)) (rb6 (x_cT hX hp hv sk th cc po ro) ?_))))))
  rintro a1 s2 t2 c2 p2 ro2 ⟨rfl, hc2⟩
  refine rb3 (x_bits (v := v) hX hp hv s2 t2) ?_
  rintro a2 s3 t3 rfl
  refine re1 (bc_6 hH) ?_
  have hcl : ∀ i, bC V F kd ht ft st sc ca pl p v H i ≤ 6 := fun i => Nat.le_trans (ct_le _) hH
  have hm0 : ct ((bW V F kd ht ft st sc ca pl p v) 100 0) H ≤ 6 := Nat.le_trans (ct_le _) hH
  refine rl3 80 (fun i v4 v5 v6 => v4 = nI (bsl (bC V F kd ht ft st sc ca pl p v H) q (ct ((bW V F kd ht ft st sc ca pl p v) 100 0) H) i).1 - 1 ∧ v5 = nI (bsl (bC V F kd ht ft st sc ca pl p v H) q (ct ((bW V F kd ht ft st sc ca pl p v) 100 0) H) i).2 ∧ v6 = nI i ∧ i ≤ 10 * F) (by omega) ⟨rfl, rfl, rfl, by omega⟩ ?_
  rintro rc i v4 v5 v6 ⟨rfl, rfl, rfl, hi⟩ ih
  have hbl := bsl_le (n := q) hm0 hcl i
  unfold s_X11_built_61
  rw [c_10, pk_mul, Nat.mul_comm F 10]
  by_cases hiF : 10 * F ≤ i
  · obtain rfl : i = 10 * F := by omega
    refine rt_t (nI_le (Nat.le_refl _) (by omega)) ?_
    unfold k_X11_built_61
    refine re1 (x_start _) ?_
    unfold j_X11_built_152
    generalize bsl (bC V F kd ht ft st sc ca pl p v H) q (ct ((bW V F kd ht ft st sc ca pl p v) 100 0) H) (10 * F) = B at *
    by_cases b0 : B.1 = 0
    · rw [b0, if_pos rfl, if_pos rfl]
      refine rt_t (by decide) (re2 (x_put0 _ _) (re2 (x_putk (by omega) _ _) (rt_t (by decide) (rt_some ⟨rfl, rfl, rfl, rfl⟩))))
    · rw [if_neg b0, if_neg b0, m1_s (by omega)]
      refine rt_f (m1_ne (by omega)) (re2 (x_put0 _ _) (re2 (x_putk (by omega) _ _) (rt_f (m1_ne (by omega)) (rt_some ⟨rfl, rfl, ?_, ?_⟩))))
      · show nI (B.1 - 1) / 10 = _
        rw [c_10, pk_div (by omega) (by omega) (by omega)]
      · show r2 nt ((nI (B.1 - 1) - nI (B.1 - 1) / 10 * 10).toInt64) _ = _
        rw [c_10, pk_rem (by omega) (by omega) (by omega)]
  · have e1 : c2 i = nI (bC V F kd ht ft st sc ca pl p v H i) := hc2 i (by omega)
    have l1 := hcl i
    have l2 : ds (bC V F kd ht ft st sc ca pl p v H i) q < 2 ^ 31 := by unfold ds; omega
    have l3 : ds (bsl (bC V F kd ht ft st sc ca pl p v H) q (ct ((bW V F kd ht ft st sc ca pl p v) 100 0) H) i).2 q < 2 ^ 31 := by unfold ds; omega
    refine rt_f (nI_ge (by omega) (by omega)) (rt_gx (by omega) (by omega) ?_)
    rw [nI_clamp (by omega), e1, nI_abs (by omega) (by omega), nI_abs (by omega) (by omega)]
    refine rt_if (fun z => ?_) (fun z => rt_gx (by omega) (by omega) ?_)
    · rw [nI_leI l3 l2] at z
      refine rt_lt (ih (by omega) _ _ _ ⟨?_, ?_, nI_1 _, by omega⟩)
      · rw [bsl_f (by omega)]
      · rw [bsl_f (by omega)]
    · rw [nI_leI l3 l2] at z
      refine rt_lt (rt_lt (ih (by omega) _ _ _ ⟨?_, ?_, nI_1 _, by omega⟩))
      · rw [bsl_t (by omega)]; exact (nI_pred i).symm
      · rw [bsl_t (by omega)]
theorem m_built (hM : okM F H P kd ht ft st sc ca pl V mk mh mf ms mc ma mp mz ml) (hp : p < P) (hv : v ≤ 10000) {q : Nat} (hq : q ≤ 6) (q1 q2 q3 q4 q5 q6 q7 q8 q9 q10 tw : Int32) : Rt (f_X12_built (nI p) (nI v) (nI q) (nI F) (nI H) (nI P) (nI r) tw q1 q2 q3 q4 q5 mz q6 q7 q8 q9 q10 mk mh mf ms mc ma mp ml mt) (fun a => a.2.2.1 = 0 ∧ a.2.1 = nI 2 ∧ a.1 = (if (bsl (bC V F kd ht ft st sc ca pl p v H) q (ct ((bW V F kd ht ft st sc ca pl p v) 100 0) H) (10 * F)).1 = 0 then -1 else nI (((bsl (bC V F kd ht ft st sc ca pl p v H) q (ct ((bW V F kd ht ft st sc ca pl p v) 100 0) H) (10 * F)).1 - 1) / 10)) ∧ a.2.2.2.2.2.2.2.2.2.2.2.2.2 = r2 mt (if (bsl (bC V F kd ht ft st sc ca pl p v H) q (ct ((bW V F kd ht ft st sc ca pl p v) 100 0) H) (10 * F)).1 = 0 then -1 else (nI (((bsl (bC V F kd ht ft st sc ca pl p v H) q (ct ((bW V F kd ht ft st sc ca pl p v) 100 0) H) (10 * F)).1 - 1) % 10)).toInt64) (nI (bsl (bC V F kd ht ft st sc ca pl p v H) q (ct ((bW V F kd ht ft st sc ca pl p v) 100 0) H) (10 * F)).2).toInt64) := by
  have hF := hM.1.1
  have hH := hM.2.2.1.1.1
  have hP := hM.2.2.2.1.1
  have hcl : ∀ i, bC V F kd ht ft st sc ca pl p v H i ≤ 6 := fun i => Nat.le_trans (ct_le _) hH
  have hm0 : ct ((bW V F kd ht ft st sc ca pl p v) 100 0) H ≤ 6 := Nat.le_trans (ct_le _) hH
  unfold f_X12_built
  refine re1 (m_isPT hp (by omega)) (rt_f i10n (re1 (m_inT (n := 10000) (by omega) (by omega)) (rt_f i10n (re1 (m_inT (n := 6) (by omega) (by omega)) (rt_f i10n (rb11 (m_bits (v := v) (hi := 0) hM hp (by omega) (no_j hF) _ _ _ _ _ _ _ _ _ _) ?_))))))
  rintro a1 w1 w2 w3 w4 w5 w6 w7 w8 w9 w10 rfl
  refine re1 (bc_6 hH) ?_
  refine rl14 8 (fun f v4 v5 v6 v7 _ _ _ _ _ _ _ _ _ _ => v4 = (if (bsl (bC V F kd ht ft st sc ca pl p v H) q (ct ((bW V F kd ht ft st sc ca pl p v) 100 0) H) (10 * f)).1 = 0 then -1 else nI (((bsl (bC V F kd ht ft st sc ca pl p v H) q (ct ((bW V F kd ht ft st sc ca pl p v) 100 0) H) (10 * f)).1 - 1) / 10)) ∧ v5 = (if (bsl (bC V F kd ht ft st sc ca pl p v H) q (ct ((bW V F kd ht ft st sc ca pl p v) 100 0) H) (10 * f)).1 = 0 then -1 else nI (((bsl (bC V F kd ht ft st sc ca pl p v H) q (ct ((bW V F kd ht ft st sc ca pl p v) 100 0) H) (10 * f)).1 - 1) % 10)) ∧ v6 = nI (bsl (bC V F kd ht ft st sc ca pl p v H) q (ct ((bW V F kd ht ft st sc ca pl p v) 100 0) H) (10 * f)).2 ∧ v7 = nI f ∧ f ≤ F) (by omega) ⟨rfl, rfl, rfl, rfl, by omega⟩ ?_
  rintro rc f v4 v5 v6 v7 u1 u2 u3 u4 u5 u6 u7 u8 u9 u10 ⟨rfl, rfl, rfl, rfl, hf⟩ ih
  unfold s_X12_built_59
  by_cases hfF : F ≤ f
  · obtain rfl : F = f := by omega
    refine rt_t (nI_le (Nat.le_refl _) (by omega)) ?_
    unfold k_X12_built_59
    refine re2 (m_tell0 _ _) (re2 (m_tellk (by omega) _ _) (rt_some ⟨rfl, rfl, rfl, ?_⟩))
    show r2 mt (Int32.toInt64 (if _ then -1 else nI _)) _ = _
    congr 1
    split
    · decide
    · rfl
  · refine rt_f (nI_ge (by omega) (by omega)) ?_
    refine rl14 10 (fun k v4 v5 v6 v8 _ _ _ _ _ _ _ _ _ _ => v4 = (if (bsl (bC V F kd ht ft st sc ca pl p v H) q (ct ((bW V F kd ht ft st sc ca pl p v) 100 0) H) (10 * f + k)).1 = 0 then -1 else nI (((bsl (bC V F kd ht ft st sc ca pl p v H) q (ct ((bW V F kd ht ft st sc ca pl p v) 100 0) H) (10 * f + k)).1 - 1) / 10)) ∧ v5 = (if (bsl (bC V F kd ht ft st sc ca pl p v H) q (ct ((bW V F kd ht ft st sc ca pl p v) 100 0) H) (10 * f + k)).1 = 0 then -1 else nI (((bsl (bC V F kd ht ft st sc ca pl p v H) q (ct ((bW V F kd ht ft st sc ca pl p v) 100 0) H) (10 * f + k)).1 - 1) % 10)) ∧ v6 = nI (bsl (bC V F kd ht ft st sc ca pl p v H) q (ct ((bW V F kd ht ft st sc ca pl p v) 100 0) H) (10 * f + k)).2 ∧ v8 = nI k ∧ k ≤ 10) (by omega) ⟨rfl, rfl, rfl, rfl, by omega⟩ ?_
    rintro rc2 k v4 v5 v6 v8 q1 q2 q3 q4 q5 q6 q7 q8 q9 q10 ⟨rfl, rfl, rfl, rfl, hk⟩ ih2
    unfold s_X12_built_71
    have hbl := bsl_le (n := q) hm0 hcl (10 * f + k)
    by_cases hk10 : 10 ≤ k
    · obtain rfl : k = 10 := by omega
      refine rt_t (by decide) ?_
      unfold k_X12_built_71
      exact rt_lt (ih (by omega) _ _ _ _ _ _ _ _ _ _ _ _ _ _ ⟨rfl, rfl, rfl, nI_1 _, by omega⟩)
    · have hjf : ∀ g, g < F → (nI g = nI f) = (g = f) := fun g hg => propext (nI_eq (by omega) (by omega))
      refine rt_f (nI_nlt (a := 9) (by omega) (by omega)) (rb11 (m_bits (v := v) (hi := k) hM hp hv hjf _ _ _ _ _ _ _ _ _ _) ?_)
      rintro a1 w1 w2 w3 w4 w5 w6 w7 w8 w9 w10 rfl
      have ecn : ct ((bW V F kd ht ft st sc ca pl p v) f k) H = bC V F kd ht ft st sc ca pl p v H (10 * f + k) := by
        unfold bC
        rw [show (10 * f + k) / 10 = f by omega, show (10 * f + k) % 10 = k by omega]
      have l1 := hcl (10 * f + k)
      have l2 : ds (bC V F kd ht ft st sc ca pl p v H (10 * f + k)) q < 2 ^ 31 := by unfold ds; omega
      have l3 : ds (bsl (bC V F kd ht ft st sc ca pl p v H) q (ct ((bW V F kd ht ft st sc ca pl p v) 100 0) H) (10 * f + k)).2 q < 2 ^ 31 := by unfold ds; omega
      refine re1 (bc_6 hH) ?_
      rw [ecn, nI_abs (by omega) (by omega), nI_abs (by omega) (by omega)]
      refine rt_if (fun z => ?_) (fun z => ?_)
      · rw [nI_ltI l2 l3] at z
        refine rt_lt (ih2 (by omega) _ _ _ _ _ _ _ _ _ _ _ _ _ _ ⟨?_, ?_, ?_, nI_1 _, by omega⟩)
        all_goals rw [show 10 * f + (k + 1) = 10 * f + k + 1 by omega, bsl_t z]
        · rw [if_neg (by omega)]; exact congrArg nI (by omega)
        · rw [if_neg (by omega)]; exact congrArg nI (by omega)
      · rw [nI_ltI l2 l3] at z
        refine rt_lt (ih2 (by omega) _ _ _ _ _ _ _ _ _ _ _ _ _ _ ⟨?_, ?_, ?_, nI_1 _, by omega⟩)
        all_goals rw [show 10 * f + (k + 1) = 10 * f + k + 1 by omega, bsl_f z]
theorem pr_built (hX : okX F H P kd ht ft st sc ca pl V ck ch cf cd cp rz rk) (hM : okM F H P kd ht ft st sc ca pl V mk mh mf ms mc ma mp mz ml) (hR : rowE r nt mt) (p1 p2 p3 : Int32) (sk th cc po ro : Nat → Int32) (q1 q2 q3 q4 q5 q6 q7 q8 q9 q10 tw : Int32) : Rt (f_X11_built p1 p2 p3 (nI r) (nI F) (nI H) (nI P) rz ck ch cf cd cp rk sk th cc po ro nt) (fun a => Rt (f_X12_built p1 p2 p3 (nI F) (nI H) (nI P) (nI r) tw q1 q2 q3 q4 q5 mz q6 q7 q8 q9 q10 mk mh mf ms mc ma mp ml mt) (fun b => a.2.2.1 = ch ∧ a.1 = b.1 ∧ b.2.2.1 = 0 ∧ ∃ r, a.2.1 = nI r ∧ b.2.1 = nI r ∧ rowE r a.2.2.2.2.2.2.2.2 b.2.2.2.2.2.2.2.2.2.2.2.2.2)) := by
  have hF := hX.1.1
  have hH := hX.2.2.1.1.1
  have hP := hX.2.2.2.1.1
  rcases bel p1 P (by omega) with ⟨p, hp, rfl⟩ | ho
  · rcases bel p2 10001 (by omega) with ⟨v, hv, rfl⟩ | ho
    · rcases bel p3 7 (by omega) with ⟨q, hq, rfl⟩ | ho
      · refine rt_and (x_built (r := r) (nt := nt) (v := v) hX hp (by omega) (show q ≤ 6 by omega) sk th cc po ro) (m_built (r := r) (mt := mt) (v := v) hM hp (by omega) (show q ≤ 6 by omega) q1 q2 q3 q4 q5 q6 q7 q8 q9 q10 tw) ?_
        rintro a b ⟨a1, a2, a3, a4⟩ ⟨b1, b2, b3, b4⟩
        refine ⟨a1, a3.trans b3.symm, b1, 2, a2, b2, ?_⟩
        rw [a4, b4]; exact rowE_r2
      · refine rt_and (P := fun a => a = (-2, nI r, ch, sk, th, cc, po, ro, nt)) (Q := fun b => b.1 = -2 ∧ b.2.2.1 = 0 ∧ b.2.1 = nI r ∧ b.2.2.2.2.2.2.2.2.2.2.2.2.2 = mt) ?_ ?_ ?_
        · unfold f_X11_built
          exact re1 (x_hasPT hp (by omega)) (rt_f i10n (rt_f (nI_pos (by omega)) (rt_f (nI_nlt (a := 10000) (by omega) (by omega)) (rt_if (fun _ => rt_some rfl) (fun h0 => rt_f (out_le (n := 6) ho h0 (by omega)) (rt_some rfl))))))
        · unfold f_X12_built
          exact re1 (m_isPT hp (by omega)) (rt_f i10n (re1 (m_inT (n := 10000) (by omega) (by omega)) (rt_f i10n (re1 (m_inF (n := 6) ho (by omega)) (rt_t rfl (rt_some ⟨rfl, rfl, rfl, rfl⟩))))))
        · rintro a b rfl ⟨e1, e2, e3, e4⟩
          exact ⟨rfl, e1.symm, e2, r, rfl, e3, by rw [e4]; exact hR⟩
    · refine rt_and (P := fun a => a = (-2, nI r, ch, sk, th, cc, po, ro, nt)) (Q := fun b => b.1 = -2 ∧ b.2.2.1 = 0 ∧ b.2.1 = nI r ∧ b.2.2.2.2.2.2.2.2.2.2.2.2.2 = mt) ?_ ?_ ?_
      · unfold f_X11_built
        exact re1 (x_hasPT hp (by omega)) (rt_f i10n (rt_if (fun _ => rt_some rfl) (fun h0 => rt_t (out_lt2 (n := 10000) ho h0 (by omega)) (rt_some rfl))))
      · unfold f_X12_built
        exact re1 (m_isPT hp (by omega)) (rt_f i10n (re1 (m_inF (n := 10000) ho (by omega)) (rt_t rfl (rt_some ⟨rfl, rfl, rfl, rfl⟩))))
      · rintro a b rfl ⟨e1, e2, e3, e4⟩
        exact ⟨rfl, e1.symm, e2, r, rfl, e3, by rw [e4]; exact hR⟩
  · unfold f_X11_built
    refine re1 (x_hasPF ho) (rt_t rfl (rt_some ?_))
    unfold f_X12_built
    exact re1 (m_isPF ho (by omega)) (rt_t rfl (rt_some ⟨rfl, rfl, rfl, r, rfl, rfl, hR⟩))
theorem fs_le (hG : okG H st sc ca) (y : Nat) : (fsy H st) y ≤ 100 ∧ (fmy H st) y ≤ 100 := by
  have hH := hG.1
  have h1 : ∀ k, k < H → ln (10 + y) (st k) ≤ 9 := fun k hk => by
    have := hG.2 k hk
    have := ln_le (y := 10 + y) (s := st k) (by omega)
    omega
  have h2 := sm_le (g := fun h => ln (10 + y) (st h)) H h1
  have h3 := mxl_le (g := fun h => ln (10 + y) (st h)) H h1
  constructor
  · show sm _ H ≤ 100; omega
  · show mxl _ H ≤ 100; omega
theorem x_fair (hX : okX F H P kd ht ft st sc ca pl V ck ch cf cd cp rz rk) {f : Nat} (hf : f < F) : f_X11_fair (nI f) (nI r) (nI F) (nI H) cd nt = some (nI (10 + fB (fsy H st) 90), nI 2, r2 nt (nI ((fsy H st) (fB (fsy H st) 90))).toInt64 (nI ((fmy H st) (fB (fsy H st) 90))).toInt64) := by
  have hF := hX.1.1
  have hD := hX.2.2.1
  have hG := hD.1
  have hH := hG.1
  refine rt_get ?_
  unfold f_X11_fair
  refine re1 (x_hasT hf (by omega)) (rt_f i10n ?_)
  refine rl4 90 (fun y v2 v3 v4 v5 => v5 = nI (10 + y) ∧ y ≤ 90 ∧ ((y = 0 ∧ v2 = -1 ∧ v3 = 0 ∧ v4 = 0) ∨ (0 < y ∧ v2 = nI (10 + fB (fsy H st) y) ∧ v3 = nI ((fsy H st) (fB (fsy H st) y)) ∧ v4 = nI ((fmy H st) (fB (fsy H st) y))))) (by omega) ⟨rfl, by omega, .inl ⟨rfl, rfl, rfl, rfl⟩⟩ ?_
  rintro rc y v2 v3 v4 v5 ⟨rfl, hy, hI⟩ ih
  unfold s_X11_fair_24
  by_cases hy90 : 90 ≤ y
  · obtain rfl : y = 90 := by omega
    rcases hI with ⟨h0, _⟩ | ⟨_, rfl, rfl, rfl⟩
    · omega
    · refine rt_t (by decide) ?_
      unfold k_X11_fair_24
      exact re1 (x_start _) (re2 (x_put0 _ _) (re2 (x_putk (by omega) _ _) (rt_some rfl)))
  · refine rt_f (nI_nlt (a := 99) (by omega) (by omega)) ?_
    refine rl3 6 (fun k v6 v7 v8 => v6 = nI (fsy k st y) ∧ v7 = nI (fmy k st y) ∧ v8 = nI k ∧ k ≤ H) (by omega) ⟨rfl, rfl, rfl, by omega⟩ ?_
    rintro rc2 k v6 v7 v8 ⟨rfl, rfl, rfl, hk⟩ ih2
    unfold s_X11_fair_40
    by_cases hkH : H ≤ k
    · obtain rfl : H = k := by omega
      refine rt_t (nI_le (Nat.le_refl _) (by omega)) ?_
      unfold k_X11_fair_40
      have q1 := fs_le hG y
      have q2 := fs_le hG (fB (fsy H st) y)
      rcases hI with ⟨rfl, rfl, rfl, rfl⟩ | ⟨h0, rfl, rfl, rfl⟩
      · exact rt_t rfl (rt_lt (ih (by omega) _ _ _ _ ⟨rfl, by omega, .inr ⟨by omega, by rw [fB_t (.inl rfl)], by rw [fB_t (.inl rfl)], by rw [fB_t (.inl rfl)]⟩⟩))
      · refine rt_f (m1_ne ?_) (rt_if (fun z => ?_) (fun z => ?_))
        · have : ∀ g : Nat → Nat, ∀ k, fB g k ≤ k := by
            intro g k
            induction k with
            | zero => exact Nat.le_refl _
            | succ k ih => rw [fB]; split <;> omega
          have := this (fsy H st) y
          omega
        · rw [nI_leI (by have := q2.1; omega) (by have := q1.1; omega)] at z
          have e := fB_f (g := (fsy H st)) (k := y) (by omega)
          exact rt_lt (ih (by omega) _ _ _ _ ⟨nI_1 _, by omega, .inr ⟨by omega, by rw [e], by rw [e], by rw [e]⟩⟩)
        · rw [nI_leI (by have := q2.1; omega) (by have := q1.1; omega)] at z
          have e := fB_t (g := (fsy H st)) (k := y) (by omega)
          exact rt_lt (ih (by omega) _ _ _ _ ⟨nI_1 _, by omega, .inr ⟨by omega, by rw [e], by rw [e], by rw [e]⟩⟩)
    · have b1 := hG.2 k (by omega)
      have b2 := ln_le (y := 10 + y) (s := st k) (by omega)
      have b3 : fmy k st y ≤ 9 := mxl_le (g := fun h => ln (10 + y) (st h)) (b := 9) k (fun j hj => by
        have := hG.2 j (by omega)
        have := ln_le (y := 10 + y) (s := st j) (by omega)
        omega)
      refine rt_f (nI_ge (by omega) (by omega)) (re1 (x_ofHorse (w := 0) (by omega) (by omega)) ?_)
      rw [Nat.add_zero, (hD.2 k (by omega)).1]
      refine re1 (x_leanV (by omega) (by omega) (by omega)) (rt_lt (rt_lt (rt_lt (ih2 (by omega) _ _ _ ⟨?_, ?_, nI_1 _, by omega⟩))))
      · rw [nI_add]; rfl
      · rw [nI_mx (by omega) (by omega)]; rfl
theorem m_fair (hM : okM F H P kd ht ft st sc ca pl V mk mh mf ms mc ma mp mz ml) {f : Nat} (hf : f < F) (tw : Int32) : f_X12_fair (nI f) (nI F) (nI H) (nI r) tw ms mt = some (nI (10 + fB (fsy H st) 90), nI 2, 0, r2 mt (nI ((fsy H st) (fB (fsy H st) 90))).toInt64 (nI ((fmy H st) (fB (fsy H st) 90))).toInt64) := by
  have hF := hM.1.1
  have hS := hM.2.2.1
  have hG := hS.1
  have hH := hG.1
  refine rt_get ?_
  unfold f_X12_fair
  refine re1 (m_isT hf (by omega)) (rt_f i10n ?_)
  refine rl4 90 (fun y v2 v3 v4 v5 => v5 = nI (10 + y) ∧ y ≤ 90 ∧ ((y = 0 ∧ v2 = 0 ∧ v3 = nI 100000000 ∧ v4 = 0) ∨ (0 < y ∧ v2 = nI (10 + fB (fsy H st) y) ∧ v3 = nI ((fsy H st) (fB (fsy H st) y)) ∧ v4 = nI ((fmy H st) (fB (fsy H st) y))))) (by omega) ⟨rfl, by omega, .inl ⟨rfl, rfl, rfl, rfl⟩⟩ ?_
  rintro rc y v2 v3 v4 v5 ⟨rfl, hy, hI⟩ ih
  unfold s_X12_fair_28
  by_cases hy90 : 90 ≤ y
  · obtain rfl : y = 90 := by omega
    rcases hI with ⟨h0, _⟩ | ⟨_, rfl, rfl, rfl⟩
    · omega
    · refine rt_t (by decide) ?_
      unfold k_X12_fair_28
      exact re2 (m_tell0 _ _) (re2 (m_tellk (by omega) _ _) (rt_some rfl))
  · refine rt_f (nI_nlt (a := 99) (by omega) (by omega)) ?_
    refine rl3 6 (fun k v6 v7 v8 => v6 = nI (fsy k st y) ∧ v7 = nI (fmy k st y) ∧ v8 = nI k ∧ k ≤ H) (by omega) ⟨rfl, rfl, rfl, by omega⟩ ?_
    rintro rc2 k v6 v7 v8 ⟨rfl, rfl, rfl, hk⟩ ih2
    unfold s_X12_fair_44
    by_cases hkH : H ≤ k
    · obtain rfl : H = k := by omega
      refine rt_t (nI_le (Nat.le_refl _) (by omega)) ?_
      unfold k_X12_fair_44
      have q1 := fs_le hG y
      have q2 := fs_le hG (fB (fsy H st) y)
      rcases hI with ⟨rfl, rfl, rfl, rfl⟩ | ⟨h0, rfl, rfl, rfl⟩
      · exact rt_t (nI_lt (by have := q1.1; omega) (by omega)) (rt_lt (ih (by omega) _ _ _ _ ⟨rfl, by omega, .inr ⟨by omega, by rw [fB_t (.inl rfl)], by rw [fB_t (.inl rfl)], by rw [fB_t (.inl rfl)]⟩⟩))
      · refine rt_if (fun z => ?_) (fun z => ?_)
        · rw [nI_ltI (by have := q1.1; omega) (by have := q2.1; omega)] at z
          have e := fB_t (g := (fsy H st)) (k := y) (by omega)
          exact rt_lt (ih (by omega) _ _ _ _ ⟨nI_1 _, by omega, .inr ⟨by omega, by rw [e], by rw [e], by rw [e]⟩⟩)
        · rw [nI_ltI (by have := q1.1; omega) (by have := q2.1; omega)] at z
          have e := fB_f (g := (fsy H st)) (k := y) (by omega)
          exact rt_lt (ih (by omega) _ _ _ _ ⟨nI_1 _, by omega, .inr ⟨by omega, by rw [e], by rw [e], by rw [e]⟩⟩)
    · have b1 := hG.2 k (by omega)
      have b2 := ln_le (y := 10 + y) (s := st k) (by omega)
      have b3 : fmy k st y ≤ 9 := mxl_le (g := fun h => ln (10 + y) (st h)) (b := 9) k (fun j hj => by
        have := hG.2 j (by omega)
        have := ln_le (y := 10 + y) (s := st j) (by omega)
        omega)
      have el := m_leanOf (y := 10 + y) hS (show k < H by omega) (by omega)
      refine rt_f (nI_ge (by omega) (by omega)) (re1 el (rt_lt (re1 el (rt_lt (rt_lt (ih2 (by omega) _ _ _ ⟨?_, ?_, nI_1 _, by omega⟩))))))
      · rw [nI_add]; rfl
      · rw [nI_mx (by omega) (by omega)]; rfl
theorem pr_fair (hX : okX F H P kd ht ft st sc ca pl V ck ch cf cd cp rz rk) (hM : okM F H P kd ht ft st sc ca pl V mk mh mf ms mc ma mp mz ml) (hR : rowE r nt mt) (p1 tw : Int32) : Rt (f_X11_fair p1 (nI r) (nI F) (nI H) cd nt) (fun a => Rt (f_X12_fair p1 (nI F) (nI H) (nI r) tw ms mt) (fun b => a.1 = b.1 ∧ b.2.2.1 = 0 ∧ ∃ r, a.2.1 = nI r ∧ b.2.1 = nI r ∧ rowE r a.2.2 b.2.2.2)) := by
  have hF := hX.1.1
  rcases bel p1 F (by omega) with ⟨f, hf, rfl⟩ | ho
  · exact rt_e (x_fair hX hf) (rt_e (m_fair hM hf tw) ⟨rfl, rfl, 2, rfl, rfl, rowE_r2⟩)
  · unfold f_X11_fair
    refine re1 (x_hasF ho) (rt_t rfl (rt_some ?_))
    unfold f_X12_fair
    exact re1 (m_isF ho (by omega)) (rt_t rfl (rt_some ⟨rfl, rfl, r, rfl, rfl, hR⟩))
end
