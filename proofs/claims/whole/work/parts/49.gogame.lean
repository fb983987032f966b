/-! THE GAME: the reference's side -/
/-- how likely the k-th is clear by the plan p -/
def gc (V : Nat → Nat → Nat → Nat → Nat → Nat → Nat → Nat → Nat) (F : Nat) (kd ht ft st sc ca pl nm : Nat → Nat) (k p : Nat) : Nat := cl (rr kd ft st ca (nm k)) (oo V kd ht ft st sc ca pl (nm k) p) F
section
variable {F H P : Nat} {kd ht ft st sc ca pl : Nat → Nat} {V : Nat → Nat → Nat → Nat → Nat → Nat → Nat → Nat → Nat} {ck ch cf cd cp rk mk mh mf ms mc ma mp ml : Nat → Int32} {rz mz : Int32} {N n r al : Nat} {fa te mo nm : Nat → Nat} {mm mn co : Nat → Int32} {nt mt : Nat → Int64}
theorem gc_le (k p : Nat) : (gc V F kd ht ft st sc ca pl nm) k p ≤ 10000 := cl_le F
theorem m_layThought (hM : okM F H P kd ht ft st sc ca pl V mk mh mf ms mc ma mp mz ml) (ha : al ≤ 9999) {k p e : Nat} (hk : k < 3) (hp : p < P) {v : Int32} (hv : (e = 0 ∧ v = 1) ∨ (e = 1 ∧ v = 0)) (ex : Nat → Int32) : f_X12_layThought (nI k) (nI p) v (nI F) (nI al) mk mf mp ex = some (upd (upd ex (4 * k) (nI (FEn F al kd ft pl (2 * p + e)))) (4 * k + 1) (nI (FTn F kd ft pl (2 * p + e)))) := by
  have h1 := pt_le (pl := pl) (p := p) hM.1
  have he : e < 2 := by omega
  have eE : FEn F al kd ft pl (2 * p + e) = bg (pt F kd ft pl p) al 40 + e * 4 := by
    unfold FEn; rw [show (2 * p + e) / 2 = p by omega, show (2 * p + e) % 2 = e by omega]
  have eT : FTn F kd ft pl (2 * p + e) = pt F kd ft pl p := by
    unfold FTn; rw [show (2 * p + e) / 2 = p by omega]
  unfold f_X12_layThought
  rw [bd1_t (m_planTenths hM hp), c_40, c_1, bd1_t (m_timeFaults (by omega) (by omega) (by omega) (by omega)), eE, eT, Nat.mul_one]
  rcases hv with ⟨rfl, rfl⟩ | ⟨rfl, rfl⟩
  · rw [if_neg i10n, c_4, pk_mul, gx (by omega) (by omega), nI_add, gx (by omega) (by omega), nI_clamp (by omega), nI_clamp (by omega), c_0, nI_add]
  · rw [if_pos rfl, c_4, pk_mul, gx (by omega) (by omega), nI_add, gx (by omega) (by omega), nI_clamp (by omega), nI_clamp (by omega), nI_add]
theorem m_placeThought (hM : okM F H P kd ht ft st sc ca pl V mk mh mf ms mc ma mp mz ml) (hT : tN n fa te mn) (hN : N ≤ 3) {en : Nat → Nat} {ex : Nat → Int32} (hex : ∀ j, j < N → ex (4 * j) = nI (FEn F al kd ft pl (en j)) ∧ ex (4 * j + 1) = nI (FTn F kd ft pl (en j))) {i : Nat} (hi : i < N) : f_X12_placeThought (nI i) (nI N) mn ex = some (nI (plF n fa te (FEn F al kd ft pl (en i)) (FTn F kd ft pl (en i)) + ct (po (fun k => FEn F al kd ft pl (en k)) (fun k => FTn F kd ft pl (en k)) i) N)) := by
  obtain ⟨x1, x2⟩ := hex i hi
  have l1 := FE_lt (al := al) (pl := pl) hM.1 (en i)
  refine rt_get ?_
  unfold f_X12_placeThought
  rw [c_4, pk_mul, gx (by omega) (by omega), nI_clamp (by omega), x1]
  refine rt_lt ?_
  rw [nI_1, gx (by omega) (by omega), nI_clamp (by omega), x2]
  refine rt_lt (re1 (m_placeFor hT l1.1 l1.2) ?_)
  refine rl2 3 (fun j v4 v5 => v4 = nI (plF n fa te (FEn F al kd ft pl (en i)) (FTn F kd ft pl (en i)) + ct (po (fun k => FEn F al kd ft pl (en k)) (fun k => FTn F kd ft pl (en k)) i) j) ∧ v5 = nI j ∧ j ≤ N) (by omega) ⟨rfl, rfl, by omega⟩ ?_
  rintro rc j v4 v5 ⟨rfl, rfl, hj⟩ ih
  unfold s_X12_placeThought_34
  by_cases hjN : N ≤ j
  · obtain rfl : N = j := by omega
    exact rt_t (nI_le (Nat.le_refl _) (by omega)) (rt_some rfl)
  · refine rt_f (nI_ge (by omega) (by omega)) ?_
    by_cases e : j = i
    · subst e
      refine rt_t rfl (rt_lt (ih (by omega) _ _ ⟨?_, nI_1 _, by omega⟩))
      rw [ct_f (by rw [po_self]; decide)]
    · obtain ⟨y1, y2⟩ := hex j (by omega)
      have l2 := FE_lt (al := al) (pl := pl) hM.1 (en j)
      refine rt_f (fun q => e ((nI_eq (by omega) (by omega)).mp q)) ?_
      have hc : ct (po (fun k => FEn F al kd ft pl (en k)) (fun k => FTn F kd ft pl (en k)) i) (j + 1) = ct (po (fun k => FEn F al kd ft pl (en k)) (fun k => FTn F kd ft pl (en k)) i) j + (if po (fun k => FEn F al kd ft pl (en k)) (fun k => FTn F kd ft pl (en k)) i j = true then 1 else 0) := rfl
      have hpo : (po (fun k => FEn F al kd ft pl (en k)) (fun k => FTn F kd ft pl (en k)) i j = true) ↔ (FEn F al kd ft pl (en j) < FEn F al kd ft pl (en i) ∨ (FEn F al kd ft pl (en j) = FEn F al kd ft pl (en i) ∧ (FTn F kd ft pl (en j) < FTn F kd ft pl (en i) ∨ (FTn F kd ft pl (en j) = FTn F kd ft pl (en i) ∧ j < i)))) := by
        unfold po; rw [decide_eq_true_eq]
      simp (disch := omega) only [c_4, pk_mul, gx, nI_clamp, y1, lt1_e, nI_1, y2, nI_dn, nI_de, nI_leI]
      by_cases hp : po (fun k => FEn F al kd ft pl (en k)) (fun k => FTn F kd ft pl (en k)) i j = true
      · rw [if_pos hp] at hc
        have hq := hpo.mp hp
        repeat' (refine rt_if (fun _ => ?_) (fun _ => ?_))
        all_goals
          refine ih (by omega) _ _ ⟨congrArg nI ?_, rfl, by omega⟩
          omega
      · rw [if_neg hp] at hc
        have hq := mt hpo.mpr hp
        repeat' (refine rt_if (fun _ => ?_) (fun _ => ?_))
        all_goals
          refine ih (by omega) _ _ ⟨congrArg nI ?_, rfl, by omega⟩
          omega
def t3 (a b c : Int64) (i : Nat) : Int64 := if i = 0 then a else if i = 1 then b else c
theorem m_goGame (hM : okM F H P kd ht ft st sc ca pl V mk mh mf ms mc ma mp mz ml) (hT : tN n fa te mn) (hY : okY mo mm) (ha : al ≤ 9999) (hP0 : 0 < P) (hN : N ≤ 3) (hco : ∀ k, k < N → nm k < H ∧ co k = nI (nm k)) : ∀ m fu k, k + m = N → m + 1 ≤ fu → ∀ (en : Nat → Nat) (q1 q2 q3 q4 q5 q6 q7 q8 q9 q10 : Int32) (pn ex : Nat → Int32) (wi : Nat → Int64), (∀ j, j < k → ex (4 * j) = nI (FEn F al kd ft pl (en j)) ∧ ex (4 * j + 1) = nI (FTn F kd ft pl (en j))) → Rt (f_X12_goGame fu (nI k) (nI F) (nI al) (nI P) q1 q2 q3 q4 q5 mz q6 q7 q8 q9 q10 (nI N) mn mk mh mf ms mc ma mp mm ml co pn ex wi) (fun r => (∀ j, j < 4 * k → r.2.2.2.2.2.2.2.2.2.2.2.1 j = ex j) ∧ (∀ i, i < N → r.2.2.2.2.2.2.2.2.2.2.2.2 (3 * k + i) = lN (gv N P (gc V F kd ht ft st sc ca pl nm) (pyG N n F al kd ft pl fa te mo) m en i)) ∧ (∀ j, j < 3 * k → r.2.2.2.2.2.2.2.2.2.2.2.2 j = wi j) ∧ (k = 0 → 0 < m → r.2.2.2.2.2.2.2.2.2.2.1 0 = nI (fM (fun p => gt (gc V F kd ht ft st sc ca pl nm) (N - 1 - (m - 1)) (gv N P (gc V F kd ht ft st sc ca pl nm) (pyG N n F al kd ft pl fa te mo) (m - 1)) en p (N - 1 - (m - 1))) P))) := by
  have hP := hM.2.2.2.1.1
  have hn := hT.1
  intro m
  induction m with
  | zero =>
    intro fu k hk hfu en q1 q2 q3 q4 q5 q6 q7 q8 q9 q10 pn ex wi hex
    obtain ⟨fu, rfl⟩ : ∃ q, fu = q + 1 := ⟨fu - 1, by omega⟩
    obtain rfl : N = k := by omega
    show Rt (g_X12_goGame (G_X12_goGame fu) (nI N) (nI F) (nI al) (nI P) q1 q2 q3 q4 q5 mz q6 q7 q8 q9 q10 (nI N) mn mk mh mf ms mc ma mp mm ml co pn ex wi) _
    unfold g_X12_goGame
    refine rt_t rfl ?_
    refine rl2 3 (fun i v2 g => v2 = nI i ∧ i ≤ N ∧ (∀ j, j < i → g (3 * N + j) = lN ((pyG N n F al kd ft pl fa te mo) en j)) ∧ ∀ j, j < 3 * N → g j = wi j) (by omega) ⟨rfl, by omega, by omega, fun _ _ => rfl⟩ ?_
    rintro rc i v2 g ⟨rfl, hi, h1, h2⟩ ih
    unfold s_X12_goGame_10
    by_cases hiN : N ≤ i
    · obtain rfl : N = i := by omega
      exact rt_t (nI_le (Nat.le_refl _) (by omega)) (rt_some ⟨fun _ _ => rfl, h1, h2, fun _ q => absurd q (by omega)⟩)
    · have hpl := plF_lt (fa := fa) (te := te) (a := FEn F al kd ft pl (en i)) (b := FTn F kd ft pl (en i)) hn
      have hpl2 : plF n fa te (FEn F al kd ft pl (en i)) (FTn F kd ft pl (en i)) ≤ 13 := by
        have := ct_le (p := pf fa te (FEn F al kd ft pl (en i)) (FTn F kd ft pl (en i))) n
        unfold plF; omega
      have hct := ct_le (p := po (fun k => FEn F al kd ft pl (en k)) (fun k => FTn F kd ft pl (en k)) i) N
      have hm : (pyG N n F al kd ft pl fa te mo) en i ≤ 99 := pyG_le hY
      refine rt_f (nI_ge (by omega) (by omega)) (re1 (m_placeThought hM hT hN hex (by omega)) (re1 (m_moneyOf hY (by omega) (by omega)) ?_))
      rw [c_3, pk_mul, nI_add, gx (by omega) (by omega), nI_clamp (by omega)]
      refine rt_lt (ih (by omega) _ _ ⟨nI_1 _, by omega, fun j hj => ?_, fun j hj => ?_⟩)
      · by_cases e : j = i
        · subst e; rw [updL_s]; exact nI_l (by show (pyG N n F al kd ft pl fa te mo) en j < _; omega)
        · rw [updL_n (by omega)]; exact h1 j (by omega)
      · rw [updL_n (by omega)]; exact h2 j hj
  | succ m ihm =>
    intro fu k hk hfu en q1 q2 q3 q4 q5 q6 q7 q8 q9 q10 pn ex wi hex
    obtain ⟨fu, rfl⟩ : ∃ q, fu = q + 1 := ⟨fu - 1, by omega⟩
    have hc : ∀ k p, (gc V F kd ht ft st sc ca pl nm) k p ≤ 10000 := gc_le
    have hgb : ∀ m' en i, m' ≤ 2 → gv N P (gc V F kd ht ft st sc ca pl nm) (pyG N n F al kd ft pl fa te mo) m' en i ≤ 9900000000 := fun m' en i hm' => by
      have h1 := gv_le (N := N) (P := P) (c := (gc V F kd ht ft st sc ca pl nm)) (py := (pyG N n F al kd ft pl fa te mo)) hc (fun en i => pyG_le hY) m' en i
      have h2 : 10000 ^ m' ≤ 10000 ^ 2 := Nat.pow_le_pow_right (by omega) hm'
      omega
    have hk1 : N - 1 - m = k := by omega
    have hgtb : ∀ en p i, gt (gc V F kd ht ft st sc ca pl nm) k (gv N P (gc V F kd ht ft st sc ca pl nm) (pyG N n F al kd ft pl fa te mo) m) en p i ≤ 99000000000000 := fun en p i => by
      have := gt_le (k := k) (p := p) (en := en) (i := i) (hc k p) (fun en => hgb m en i (by omega))
      omega
    obtain ⟨hnm, hcok⟩ := hco k (by omega)
    show Rt (g_X12_goGame (f_X12_goGame fu) (nI k) (nI F) (nI al) (nI P) q1 q2 q3 q4 q5 mz q6 q7 q8 q9 q10 (nI N) mn mk mh mf ms mc ma mp mm ml co pn ex wi) _
    unfold g_X12_goGame
    refine rt_f (fun q => by have := (nI_eq (by omega) (by omega)).mp q; omega) ?_
    refine rl19 6 (fun p v2 v4 v6 v8 v10 v11 _ _ _ _ _ _ _ _ _ _ pn ex2 wi2 => v11 = nI p ∧ p ≤ P ∧ (∀ j, j < 4 * k → ex2 j = ex j) ∧ (∀ j, j < 3 * k → wi2 j = wi j) ∧ ((p = 0 ∧ v2 = -1) ∨ (0 < p ∧ v2 = lN (gt (gc V F kd ht ft st sc ca pl nm) k (gv N P (gc V F kd ht ft st sc ca pl nm) (pyG N n F al kd ft pl fa te mo) m) en (fM (fun p => gt (gc V F kd ht ft st sc ca pl nm) k (gv N P (gc V F kd ht ft st sc ca pl nm) (pyG N n F al kd ft pl fa te mo) m) en p k) p) k) ∧ v10 = nI (fM (fun p => gt (gc V F kd ht ft st sc ca pl nm) k (gv N P (gc V F kd ht ft st sc ca pl nm) (pyG N n F al kd ft pl fa te mo) m) en p k) p) ∧ ∀ i, i < N → t3 v4 v6 v8 i = lN (gt (gc V F kd ht ft st sc ca pl nm) k (gv N P (gc V F kd ht ft st sc ca pl nm) (pyG N n F al kd ft pl fa te mo) m) en (fM (fun p => gt (gc V F kd ht ft st sc ca pl nm) k (gv N P (gc V F kd ht ft st sc ca pl nm) (pyG N n F al kd ft pl fa te mo) m) en p k) p) i)))) (by omega) ⟨rfl, by omega, fun _ _ => rfl, fun _ _ => rfl, .inl ⟨rfl, rfl⟩⟩ ?_
    rintro rc p v2 v4 v6 v8 v10 v11 u1 u2 u3 u4 u5 u6 u7 u8 u9 u10 pn ex2 wi2 ⟨rfl, hp, h1, h2, h3⟩ ih
    unfold s_X12_goGame_64
    by_cases hpP : P ≤ p
    · obtain rfl : P = p := by omega
      refine rt_t (nI_le (Nat.le_refl _) (by omega)) ?_
      rcases h3 with ⟨q, _⟩ | ⟨_, _, rfl, h6⟩
      · omega
      · unfold k_X12_goGame_64
        rw [c_3, pk_mul, gx (by omega) (by omega), nI_1, gx (by omega) (by omega), c_2, nI_add, gx (by omega) (by omega), gx (by omega) (by omega), nI_clamp (by omega), nI_clamp (by omega), nI_clamp (by omega), nI_clamp (by omega)]
        refine rt_some ⟨h1, fun i hi => ?_, fun j hj => ?_, fun k0 _ => ?_⟩
        · show vp_updL (vp_updL (vp_updL wi2 (3 * k) v4) (3 * k + 1) v6) (3 * k + 2) v8 (3 * k + i) = _
          have hv := h6 i hi
          show _ = lN (gt (gc V F kd ht ft st sc ca pl nm) (N - 1 - m) (gv N P (gc V F kd ht ft st sc ca pl nm) (pyG N n F al kd ft pl fa te mo) m) en (fM (fun p => gt (gc V F kd ht ft st sc ca pl nm) (N - 1 - m) (gv N P (gc V F kd ht ft st sc ca pl nm) (pyG N n F al kd ft pl fa te mo) m) en p (N - 1 - m)) P) i)
          rw [hk1, ← hv]
          have : i = 0 ∨ i = 1 ∨ i = 2 := by omega
          rcases this with rfl | rfl | rfl
          · rw [updL_n (by omega), updL_n (by omega), Nat.add_zero, updL_s]; rfl
          · rw [updL_n (by omega), updL_s]; rfl
          · rw [updL_s]; rfl
        · show vp_updL (vp_updL (vp_updL wi2 (3 * k) v4) (3 * k + 1) v6) (3 * k + 2) v8 j = _
          rw [updL_n (by omega), updL_n (by omega), updL_n (by omega)]; exact h2 j hj
        · show upd pn k _ 0 = _
          subst k0
          rw [upd_s]
          show _ = nI (fM (fun p => gt (gc V F kd ht ft st sc ca pl nm) (N - 1 - m) (gv N P (gc V F kd ht ft st sc ca pl nm) (pyG N n F al kd ft pl fa te mo) m) en p (N - 1 - m)) P)
          rw [hk1]
    · refine rt_f (nI_ge (by omega) (by omega)) (rt_gx (by omega) (by omega) ?_)
      rw [nI_clamp (by omega), hcok]
      obtain ⟨⟨w1, w2, w3, w4, w5, w6, w7, w8, w9, w10⟩, e⟩ := m_clearOf hM hnm (show p < P by omega) u1 u2 u3 u4 u5 u6 u7 u8 u9 u10
      refine re11 e (re1 (m_layThought (e := 0) hM ha (by omega) (by omega) (.inl ⟨rfl, rfl⟩) ex2) ?_)
      have hcb : (gc V F kd ht ft st sc ca pl nm) k p ≤ 10000 := hc k p
      have hen : ∀ x, ∀ (ex3 : Nat → Int32), (∀ j, j < 4 * k → ex3 j = ex j) → ∀ j, j < k + 1 → upd (upd ex3 (4 * k) (nI (FEn F al kd ft pl x))) (4 * k + 1) (nI (FTn F kd ft pl x)) (4 * j) = nI (FEn F al kd ft pl (uN en k x j)) ∧ upd (upd ex3 (4 * k) (nI (FEn F al kd ft pl x))) (4 * k + 1) (nI (FTn F kd ft pl x)) (4 * j + 1) = nI (FTn F kd ft pl (uN en k x j)) := fun x ex3 hex3 j hj => by
        by_cases q : j = k
        · subst q; rw [uN_s, upd_n (by omega), upd_s, upd_s]; exact ⟨rfl, rfl⟩
        · rw [uN_n q, upd_n (by omega), upd_n (by omega), upd_n (by omega), upd_n (by omega), hex3 _ (by omega), hex3 _ (by omega)]
          exact hex j (by omega)
      rw [nI_1]
      refine rb13 (ihm fu (k + 1) (by omega) (by omega) (uN en k (2 * p)) _ _ _ _ _ _ _ _ _ _ pn _ wi2 (hen (2 * p) ex2 h1)) ?_
      rintro w1 w2 w3 w4 w5 w6 w7 w8 w9 w10 pn3 ex3 wi3 ⟨y1, y2, y3, _⟩
      have hex3 : ∀ j, j < 4 * k → ex3 j = ex j := fun j hj => by
        refine (y1 j (by omega)).trans ?_
        rw [upd_n (by omega), upd_n (by omega)]; exact h1 j hj
      rw [c_3, pk_mul, gx (by omega) (by omega), nI_clamp (by omega)]
      refine rt_lt ?_
      rw [nI_1, gx (by omega) (by omega), nI_clamp (by omega)]
      refine rt_lt ?_
      rw [c_2, nI_add, gx (by omega) (by omega), nI_clamp (by omega)]
      refine rt_lt (re1 (m_layThought (e := 1) hM ha (by omega) (by omega) (.inr ⟨rfl, rfl⟩) ex3) ?_)
      refine rb13 (ihm fu (k + 1) (by omega) (by omega) (uN en k (2 * p + 1)) _ _ _ _ _ _ _ _ _ _ pn3 _ wi3 (hen (2 * p + 1) ex3 hex3)) ?_
      rintro q1 q2 q3 q4 q5 q6 q7 q8 q9 q10 pn4 ex4 wi4 ⟨p1, p2, p3, _⟩
      have hex4 : ∀ j, j < 4 * k → ex4 j = ex j := fun j hj => by
        refine (p1 j (by omega)).trans ?_
        rw [upd_n (by omega), upd_n (by omega)]; exact hex3 j hj
      have hwi4 : ∀ j, j < 3 * k → wi4 j = wi j := fun j hj => (p3 j (by omega)).trans ((y3 j (by omega)).trans (h2 j hj))
      refine rt_gx (by omega) (by omega) (rt_lt ?_)
      refine rt_gx (by omega) (by omega) (rt_lt ?_)
      refine rt_gx (by omega) (by omega) (rt_lt ?_)
      have ecl : nI (cl (rr kd ft st ca (nm k)) (oo V kd ht ft st sc ca pl (nm k) p) F) = nI ((gc V F kd ht ft st sc ca pl nm) k p) := rfl
      rw [ecl, nI_l (by omega), c_10000, pk_sub (by omega), nI_l (by omega)]
      have hval : ∀ i, i < N → t3 (lN ((gc V F kd ht ft st sc ca pl nm) k p) * wi3 (3 * (k + 1)) + lN (10000 - (gc V F kd ht ft st sc ca pl nm) k p) * wi4 (3 * (k + 1))) (lN ((gc V F kd ht ft st sc ca pl nm) k p) * wi3 (3 * (k + 1) + 1) + lN (10000 - (gc V F kd ht ft st sc ca pl nm) k p) * wi4 (3 * (k + 1) + 1)) (lN ((gc V F kd ht ft st sc ca pl nm) k p) * wi3 (3 * (k + 1) + 2) + lN (10000 - (gc V F kd ht ft st sc ca pl nm) k p) * wi4 (3 * (k + 1) + 2)) i = lN (gt (gc V F kd ht ft st sc ca pl nm) k (gv N P (gc V F kd ht ft st sc ca pl nm) (pyG N n F al kd ft pl fa te mo) m) en p i) := fun i hi => by
        have a1 := y2 i hi
        have a2 := p2 i hi
        have hval0 : t3 (lN ((gc V F kd ht ft st sc ca pl nm) k p) * wi3 (3 * (k + 1)) + lN (10000 - (gc V F kd ht ft st sc ca pl nm) k p) * wi4 (3 * (k + 1))) (lN ((gc V F kd ht ft st sc ca pl nm) k p) * wi3 (3 * (k + 1) + 1) + lN (10000 - (gc V F kd ht ft st sc ca pl nm) k p) * wi4 (3 * (k + 1) + 1)) (lN ((gc V F kd ht ft st sc ca pl nm) k p) * wi3 (3 * (k + 1) + 2) + lN (10000 - (gc V F kd ht ft st sc ca pl nm) k p) * wi4 (3 * (k + 1) + 2)) i = lN ((gc V F kd ht ft st sc ca pl nm) k p) * wi3 (3 * (k + 1) + i) + lN (10000 - (gc V F kd ht ft st sc ca pl nm) k p) * wi4 (3 * (k + 1) + i) := by
          have : i = 0 ∨ i = 1 ∨ i = 2 := by omega
          rcases this with rfl | rfl | rfl <;> rfl
        rw [hval0, show wi3 (3 * (k + 1) + i) = _ from a1, show wi4 (3 * (k + 1) + i) = _ from a2, lN_mul, lN_mul, lN_add]
        rfl
      have hown := hval k (by omega)
      generalize lN ((gc V F kd ht ft st sc ca pl nm) k p) * wi3 (3 * (k + 1)) + lN (10000 - (gc V F kd ht ft st sc ca pl nm) k p) * wi4 (3 * (k + 1)) = A at *
      generalize lN ((gc V F kd ht ft st sc ca pl nm) k p) * wi3 (3 * (k + 1) + 1) + lN (10000 - (gc V F kd ht ft st sc ca pl nm) k p) * wi4 (3 * (k + 1) + 1) = B at *
      generalize lN ((gc V F kd ht ft st sc ca pl nm) k p) * wi3 (3 * (k + 1) + 2) + lN (10000 - (gc V F kd ht ft st sc ca pl nm) k p) * wi4 (3 * (k + 1) + 2) = C at *
      have l1 := hgtb en p k
      have l2 := hgtb en (fM (fun p => gt (gc V F kd ht ft st sc ca pl nm) k (gv N P (gc V F kd ht ft st sc ca pl nm) (pyG N n F al kd ft pl fa te mo) m) en p k) p) k
      have hfin : Rt (j_X12_goGame_263 rc v2 v4 v6 v8 v10 (nI p) q1 q2 q3 q4 q5 q6 q7 q8 q9 q10 pn4 ex4 wi4 A B C (lN (gt (gc V F kd ht ft st sc ca pl nm) k (gv N P (gc V F kd ht ft st sc ca pl nm) (pyG N n F al kd ft pl fa te mo) m) en p k))) (fun r => (∀ j, j < 4 * k → r.2.2.2.2.2.2.2.2.2.2.2.1 j = ex j) ∧ (∀ i, i < N → r.2.2.2.2.2.2.2.2.2.2.2.2 (3 * k + i) = lN (gv N P (gc V F kd ht ft st sc ca pl nm) (pyG N n F al kd ft pl fa te mo) (m + 1) en i)) ∧ (∀ j, j < 3 * k → r.2.2.2.2.2.2.2.2.2.2.2.2 j = wi j) ∧ (k = 0 → 0 < m + 1 → r.2.2.2.2.2.2.2.2.2.2.1 0 = nI (fM (fun p => gt (gc V F kd ht ft st sc ca pl nm) (N - 1 - m) (gv N P (gc V F kd ht ft st sc ca pl nm) (pyG N n F al kd ft pl fa te mo) m) en p (N - 1 - m)) P))) := by
        unfold j_X12_goGame_263
        rcases h3 with ⟨rfl, rfl⟩ | ⟨p0, rfl, rfl, h6⟩
        · have hf : fM (fun p => gt (gc V F kd ht ft st sc ca pl nm) k (gv N P (gc V F kd ht ft st sc ca pl nm) (pyG N n F al kd ft pl fa te mo) m) en p k) (0 + 1) = 0 := fM_t (.inl rfl)
          refine rt_t ?_ (rt_lt (ih (by omega) _ _ _ _ _ _ _ _ _ _ _ _ _ _ _ _ _ _ _ ⟨nI_1 _, by omega, hex4, hwi4, .inr ⟨by omega, ?_, ?_, ?_⟩⟩))
          · unfold lg_cmp
            rw [if_pos]
            · decide
            · show (-1 : Int64) < lN _
              rw [Int64.lt_iff_toInt_lt, pk_lT (by omega), show (-1 : Int64).toInt = -1 by decide]; omega
          · rw [hf]
          · rw [hf]
          · rw [hf]; exact hval
        · refine rt_if (fun z => ?_) (fun z => ?_)
          · have z' : gt (gc V F kd ht ft st sc ca pl nm) k (gv N P (gc V F kd ht ft st sc ca pl nm) (pyG N n F al kd ft pl fa te mo) m) en (fM (fun p => gt (gc V F kd ht ft st sc ca pl nm) k (gv N P (gc V F kd ht ft st sc ca pl nm) (pyG N n F al kd ft pl fa te mo) m) en p k) p) k < gt (gc V F kd ht ft st sc ca pl nm) k (gv N P (gc V F kd ht ft st sc ca pl nm) (pyG N n F al kd ft pl fa te mo) m) en p k := Nat.lt_of_not_le (fun q => absurd ((lg_le (by omega) (by omega)).mpr q) (Int32.not_le.mpr z))
            have hf : fM (fun p => gt (gc V F kd ht ft st sc ca pl nm) k (gv N P (gc V F kd ht ft st sc ca pl nm) (pyG N n F al kd ft pl fa te mo) m) en p k) (p + 1) = p := fM_t (.inr z')
            refine rt_lt (ih (by omega) _ _ _ _ _ _ _ _ _ _ _ _ _ _ _ _ _ _ _ ⟨nI_1 _, by omega, hex4, hwi4, .inr ⟨by omega, ?_, ?_, ?_⟩⟩)
            · rw [hf]
            · rw [hf]
            · rw [hf]; exact hval
          · have z' : ¬ gt (gc V F kd ht ft st sc ca pl nm) k (gv N P (gc V F kd ht ft st sc ca pl nm) (pyG N n F al kd ft pl fa te mo) m) en (fM (fun p => gt (gc V F kd ht ft st sc ca pl nm) k (gv N P (gc V F kd ht ft st sc ca pl nm) (pyG N n F al kd ft pl fa te mo) m) en p k) p) k < gt (gc V F kd ht ft st sc ca pl nm) k (gv N P (gc V F kd ht ft st sc ca pl nm) (pyG N n F al kd ft pl fa te mo) m) en p k := fun q => z (Int32.not_le.mp (fun y => by
              have := (lg_le (by omega) (by omega)).mp y; omega))
            have hf : fM (fun p => gt (gc V F kd ht ft st sc ca pl nm) k (gv N P (gc V F kd ht ft st sc ca pl nm) (pyG N n F al kd ft pl fa te mo) m) en p k) (p + 1) = fM (fun p => gt (gc V F kd ht ft st sc ca pl nm) k (gv N P (gc V F kd ht ft st sc ca pl nm) (pyG N n F al kd ft pl fa te mo) m) en p k) p := fM_f (fun q => q.elim (fun q => by omega) z')
            refine rt_lt (ih (by omega) _ _ _ _ _ _ _ _ _ _ _ _ _ _ _ _ _ _ _ ⟨nI_1 _, by omega, hex4, hwi4, .inr ⟨by omega, ?_, ?_, ?_⟩⟩)
            · rw [hf]
            · rw [hf]
            · rw [hf]; exact h6
      have hk3 : k = 0 ∨ k = 1 ∨ k = 2 := by omega
      rcases hk3 with rfl | rfl | rfl
      · refine rt_t rfl ?_
        rw [show A = _ from hown]
        rw [show A = _ from hown] at hfin
        exact hfin
      · refine rt_f (by decide) (rt_t rfl ?_)
        rw [show B = _ from hown]
        rw [show B = _ from hown] at hfin
        exact hfin
      · refine rt_f (by decide) (rt_f (by decide) ?_)
        rw [show C = _ from hown]
        rw [show C = _ from hown] at hfin
        exact hfin
end
