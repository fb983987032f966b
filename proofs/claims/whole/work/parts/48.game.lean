/-! THE GAME: what each wins, both sides -/
def uN (g : Nat → Nat) (k x : Nat) : Nat → Nat := fun j => if j = k then x else g j
theorem uN_s {g : Nat → Nat} {k x : Nat} : uN g k x k = x := if_pos rfl
theorem uN_n {g : Nat → Nat} {k x j : Nat} (h : j ≠ k) : uN g k x j = g j := if_neg h
/-- if the k-th takes the plan p -/
def gt (c : Nat → Nat → Nat) (k : Nat) (g : (Nat → Nat) → Nat → Nat) (en : Nat → Nat) (p i : Nat) : Nat := c k p * g (uN en k (2 * p)) i + (10000 - c k p) * g (uN en k (2 * p + 1)) i
/-- what the i-th wins, m being still to come -/
def gv (N P : Nat) (c : Nat → Nat → Nat) (py : (Nat → Nat) → Nat → Nat) : Nat → (Nat → Nat) → Nat → Nat
  | 0 => py
  | m + 1 => fun en i => gt c (N - 1 - m) (gv N P c py m) en (fM (fun p => gt c (N - 1 - m) (gv N P c py m) en p (N - 1 - m)) P) i
theorem gt_cg {c : Nat → Nat → Nat} {k : Nat} {g : (Nat → Nat) → Nat → Nat} {en en' : Nat → Nat} {p i : Nat} (h : ∀ x, g (uN en k x) i = g (uN en' k x) i) : gt c k g en p i = gt c k g en' p i := by
  unfold gt; rw [h, h]
theorem fM_cg {o o' : Nat → Nat} : ∀ n, (∀ k, k < n → o k = o' k) → fM o n = fM o' n
  | 0, _ => rfl
  | n + 1, h => by
    have ih := fM_cg n (fun k hk => h k (by omega))
    rw [fM, fM, ih]
    by_cases n0 : n = 0
    · rw [if_pos (.inl n0), if_pos (.inl n0)]
    · have := fM_lt (o := o') (show 0 < n by omega)
      rw [h n (by omega), h _ (show fM o' n < n + 1 by omega)]
theorem gv_cg {N P : Nat} {c : Nat → Nat → Nat} {py : (Nat → Nat) → Nat → Nat} (hpy : ∀ en en' i, i < N → (∀ j, j < N → en j = en' j) → py en i = py en' i) : ∀ m, m ≤ N → ∀ en en' i, i < N → (∀ j, j < N - m → en j = en' j) → gv N P c py m en i = gv N P c py m en' i
  | 0, _, en, en', i, hi, h => hpy en en' i hi h
  | m + 1, hm, en, en', i, hi, h => by
    have ih := gv_cg (P := P) (c := c) hpy m (by omega)
    have e1 : ∀ p j, j < N → gt c (N - 1 - m) (gv N P c py m) en p j = gt c (N - 1 - m) (gv N P c py m) en' p j := fun p j hj => gt_cg (fun x => ih _ _ j hj (fun q hq => by
      by_cases e : q = N - 1 - m
      · rw [e, uN_s, uN_s]
      · rw [uN_n e, uN_n e]; exact h q (by omega)))
    show gt c (N - 1 - m) (gv N P c py m) en (fM (fun p => gt c (N - 1 - m) (gv N P c py m) en p (N - 1 - m)) P) i = gt c (N - 1 - m) (gv N P c py m) en' (fM (fun p => gt c (N - 1 - m) (gv N P c py m) en' p (N - 1 - m)) P) i
    rw [fM_cg P (fun p _ => e1 p (N - 1 - m) (by omega)), e1 _ i hi]
theorem gt_le {c : Nat → Nat → Nat} {k B : Nat} {g : (Nat → Nat) → Nat → Nat} {en : Nat → Nat} {p i : Nat} (hc : c k p ≤ 10000) (hg : ∀ en, g en i ≤ B) : gt c k g en p i ≤ 10000 * B := by
  have h1 : c k p * g (uN en k (2 * p)) i ≤ c k p * B := Nat.mul_le_mul_left _ (hg _)
  have h2 : (10000 - c k p) * g (uN en k (2 * p + 1)) i ≤ (10000 - c k p) * B := Nat.mul_le_mul_left _ (hg _)
  have h3 : c k p * B + (10000 - c k p) * B = 10000 * B := by
    rw [← Nat.add_mul, show c k p + (10000 - c k p) = 10000 by omega]
  unfold gt; omega
theorem gv_le {N P : Nat} {c : Nat → Nat → Nat} {py : (Nat → Nat) → Nat → Nat} (hc : ∀ k p, c k p ≤ 10000) (hpy : ∀ en i, py en i ≤ 99) : ∀ m en i, gv N P c py m en i ≤ 99 * 10000 ^ m
  | 0, en, i => by
    show py en i ≤ _
    have := hpy en i; omega
  | m + 1, en, i => by
    have ih := gv_le (N := N) (P := P) hc hpy m
    have h1 := gt_le (k := N - 1 - m) (p := fM (fun p => gt c (N - 1 - m) (gv N P c py m) en p (N - 1 - m)) P) (en := en) (i := i) (hc _ _) (fun en => ih en i)
    rw [Nat.pow_succ]
    show gt _ _ _ _ _ _ ≤ _
    omega
def FEn (F al : Nat) (kd ft pl : Nat → Nat) (e : Nat) : Nat := bg (pt F kd ft pl (e / 2)) al 40 + e % 2 * 4
def FTn (F : Nat) (kd ft pl : Nat → Nat) (e : Nat) : Nat := pt F kd ft pl (e / 2)
/-- what the i-th is paid, all having ridden -/
def pyG (N n F al : Nat) (kd ft pl fa te mo : Nat → Nat) (en : Nat → Nat) (i : Nat) : Nat := mny mo (plF n fa te (FEn F al kd ft pl (en i)) (FTn F kd ft pl (en i)) + ct (po (fun k => FEn F al kd ft pl (en k)) (fun k => FTn F kd ft pl (en k)) i) N)
theorem pyG_cg {N n F al : Nat} {kd ft pl fa te mo : Nat → Nat} {en en' : Nat → Nat} {i : Nat} (hi : i < N) (h : ∀ j, j < N → en j = en' j) : pyG N n F al kd ft pl fa te mo en i = pyG N n F al kd ft pl fa te mo en' i := by
  unfold pyG
  rw [h i hi, ct_congr (q := po (fun k => FEn F al kd ft pl (en' k)) (fun k => FTn F kd ft pl (en' k)) i) N (fun k hk => by unfold po; simp only [h k hk, h i hi])]
theorem pyG_le {N n F al : Nat} {kd ft pl fa te mo : Nat → Nat} {tm : Nat → Int32} (hY : okY mo tm) {en : Nat → Nat} {i : Nat} : pyG N n F al kd ft pl fa te mo en i ≤ 99 := by
  unfold pyG
  refine mny_le hY ?_
  unfold plF; omega
section
variable {F H P : Nat} {kd ht ft st sc ca pl : Nat → Nat} {V : Nat → Nat → Nat → Nat → Nat → Nat → Nat → Nat → Nat} {ck ch cf cd cp rk mk mh mf ms mc ma mp ml : Nat → Int32} {rz mz : Int32} {N n r al : Nat} {fa te mo : Nat → Nat} {tf tx tm mm mn pf' pt' pp' pc' co : Nat → Int32} {nt mt : Nat → Int64} {c : Nat → Nat → Nat}
theorem FE_lt (hC : okC F kd ft ck cf) (e : Nat) : FEn F al kd ft pl e < 1048576 ∧ FTn F kd ft pl e < 1048576 := by
  have h1 := pt_le (pl := pl) (p := e / 2) hC
  have h2 := bg_le (t := pt F kd ft pl (e / 2)) (a := al) (s := 40) (by omega)
  unfold FEn FTn; omega
/-- the class's arrays for a game -/
def okGa (P F n al : Nat) (kd ft pl fa te : Nat → Nat) (pf' pt' pp' : Nat → Int32) : Prop := ∀ e, e < 2 * P → pf' e = nI (FEn F al kd ft pl e) ∧ pt' e = nI (FTn F kd ft pl e) ∧ pp' e = nI (plF n fa te (FEn F al kd ft pl e) (FTn F kd ft pl e))
theorem x_begin (hX : okX F H P kd ht ft st sc ca pl V ck ch cf cd cp rz rk) (hT : tC n fa te tf tx) (ha : al ≤ 9999) (pz : Int32) (a1 a2 a3 : Nat → Int32) : Rt (f_X3_begin (nI F) (nI P) (nI al) (nI n) pz ck cf cp tf tx a1 a2 a3) (fun r => r.1 = nI P ∧ okGa P F n al kd ft pl fa te r.2.1 r.2.2.1 r.2.2.2) := by
  have hP := hX.2.2.2.1.1
  unfold f_X3_begin
  refine rl4 6 (fun p v3 a1 a2 a3 => v3 = nI p ∧ p ≤ P ∧ ∀ e, e < 2 * p → a1 e = nI (FEn F al kd ft pl e) ∧ a2 e = nI (FTn F kd ft pl e) ∧ a3 e = nI (plF n fa te (FEn F al kd ft pl e) (FTn F kd ft pl e))) (by omega) ⟨rfl, by omega, by omega⟩ ?_
  rintro rc p v3 a1 a2 a3 ⟨rfl, hp, hI⟩ ih
  unfold s_X3_begin_10
  by_cases hpP : P ≤ p
  · obtain rfl : P = p := by omega
    exact rt_t (nI_le (Nat.le_refl _) (by omega)) (rt_some ⟨rfl, hI⟩)
  · have h1 := pt_le (pl := pl) (p := p) hX.1
    have h2 := bg_le (t := pt F kd ft pl p) (a := al) (s := 40) (by omega)
    refine rt_f (nI_ge (by omega) (by omega)) (re1 (x_planTenths hX (by omega)) (re1 (x_begun (s := 40) (by omega) (by omega) (by omega) (by omega)) ?_))
    refine rl4 2 (fun j v6 a1 a2 a3 => v6 = nI j ∧ j ≤ 2 ∧ ∀ e, e < 2 * p + j → a1 e = nI (FEn F al kd ft pl e) ∧ a2 e = nI (FTn F kd ft pl e) ∧ a3 e = nI (plF n fa te (FEn F al kd ft pl e) (FTn F kd ft pl e))) (by omega) ⟨rfl, by omega, hI⟩ ?_
    rintro rc2 j v6 a1 a2 a3 ⟨rfl, hj, hI⟩ ih2
    unfold s_X3_begin_41
    by_cases hj2 : 2 ≤ j
    · obtain rfl : j = 2 := by omega
      refine rt_t (by decide) ?_
      unfold k_X3_begin_41
      exact rt_lt (ih (by omega) _ _ _ _ ⟨nI_1 _, by omega, fun e he => hI e (by omega)⟩)
    · have eE : FEn F al kd ft pl (2 * p + j) = bg (pt F kd ft pl p) al 40 + j * 4 := by
        unfold FEn; rw [show (2 * p + j) / 2 = p by omega, show (2 * p + j) % 2 = j by omega]
      have eT : FTn F kd ft pl (2 * p + j) = pt F kd ft pl p := by
        unfold FTn; rw [show (2 * p + j) / 2 = p by omega]
      refine rt_f (nI_ge (b := 2) (by omega) (by omega)) ?_
      rw [c_2, c_4, pk_mul, pk_mul, nI_add, nI_add, nI_clamp (by omega)]
      refine rt_gx (by omega) (by omega) (rt_gx (by omega) (by omega) (re1 (x_placeFor hT (by omega) (by omega)) (rt_gx (by omega) (by omega) (rt_lt (ih2 (by omega) _ _ _ _ ⟨nI_1 _, by omega, fun e he => ?_⟩)))))
      by_cases q : e = 2 * p + j
      · subst q
        rw [upd_s, upd_s, upd_s, eE, eT]; exact ⟨rfl, rfl, rfl⟩
      · rw [upd_n q, upd_n q, upd_n q]; exact hI e (by omega)
theorem x_isAheadG (hC : okC F kd ft ck cf) (hG : okGa P F n al kd ft pl fa te pf' pt' pp') (hP : P ≤ 6) (hN : N ≤ 3) {en : Nat → Nat} {ce : Nat → Int32} (he : ∀ j, j < N → en j < 2 * P ∧ ce j = nI (en j)) {a b : Nat} (ha : a < N) (hb : b < N) : f_X3_isAhead (nI a) (nI b) pf' pt' ce = some (if po (fun k => FEn F al kd ft pl (en k)) (fun k => FTn F kd ft pl (en k)) b a = true then 1 else 0) := by
  obtain ⟨a1, a2⟩ := he a ha
  obtain ⟨b1, b2⟩ := he b hb
  obtain ⟨c1, c2, _⟩ := hG _ a1
  obtain ⟨d1, d2, _⟩ := hG _ b1
  have l1 := FE_lt (al := al) (pl := pl) hC (en a)
  have l2 := FE_lt (al := al) (pl := pl) hC (en b)
  unfold f_X3_isAhead po
  simp (disch := omega) only [gx, nI_clamp, a2, b2, lt1_e, c1, c2, d1, d2, nI_eq, nI_ltI, nI_leI, decide_eq_true_eq]
  repeat' split
  all_goals first | rfl | omega
theorem x_pay (hC : okC F kd ft ck cf) (hG : okGa P F n al kd ft pl fa te pf' pt' pp') (hY : okY mo tm) (hn : n ≤ 12) (hP : P ≤ 6) (hN : N ≤ 3) {en : Nat → Nat} {ce : Nat → Int32} (he : ∀ j, j < N → en j < 2 * P ∧ ce j = nI (en j)) (w : Nat → Int64) : Rt (f_X3_pay (nI N) tm pf' pt' pp' ce w) (fun g => (∀ i, i < N → g (3 * N + i) = lN ((pyG N n F al kd ft pl fa te mo) en i)) ∧ ∀ j, j < 3 * N → g j = w j) := by
  unfold f_X3_pay
  refine rl2 3 (fun k v2 g => v2 = nI k ∧ k ≤ N ∧ (∀ i, i < k → g (3 * N + i) = lN ((pyG N n F al kd ft pl fa te mo) en i)) ∧ ∀ j, j < 3 * N → g j = w j) (by omega) ⟨rfl, by omega, by omega, fun _ _ => rfl⟩ ?_
  rintro rc k v2 g ⟨rfl, hk, h1, h2⟩ ih
  unfold s_X3_pay_2
  by_cases hkN : N ≤ k
  · obtain rfl : N = k := by omega
    exact rt_t (nI_le (Nat.le_refl _) (by omega)) (rt_some ⟨h1, h2⟩)
  · obtain ⟨a1, a2⟩ := he k (by omega)
    obtain ⟨_, _, c3⟩ := hG _ a1
    have hpl := plF_lt (fa := fa) (te := te) (a := FEn F al kd ft pl (en k)) (b := FTn F kd ft pl (en k)) hn
    have hpl2 : plF n fa te (FEn F al kd ft pl (en k)) (FTn F kd ft pl (en k)) ≤ 13 := by
      have := ct_le (p := pf fa te (FEn F al kd ft pl (en k)) (FTn F kd ft pl (en k))) n
      unfold plF; omega
    refine rt_f (nI_ge (by omega) (by omega)) (rt_gx (by omega) (by omega) ?_)
    rw [nI_clamp (by omega), a2, gx (by omega) (by omega), nI_clamp (by omega), c3]
    refine rt_lt ?_
    refine rl2 3 (fun j v3 v4 => v3 = nI (plF n fa te (FEn F al kd ft pl (en k)) (FTn F kd ft pl (en k)) + ct (po (fun k => FEn F al kd ft pl (en k)) (fun k => FTn F kd ft pl (en k)) k) j) ∧ v4 = nI j ∧ j ≤ N) (by omega) ⟨rfl, rfl, by omega⟩ ?_
    rintro rc2 j v3 v4 ⟨rfl, rfl, hj⟩ ih2
    unfold s_X3_pay_25
    by_cases hjN : N ≤ j
    · obtain rfl : N = j := by omega
      refine rt_t (nI_le (Nat.le_refl _) (by omega)) ?_
      unfold k_X3_pay_25
      have hct := ct_le (p := po (fun k => FEn F al kd ft pl (en k)) (fun k => FTn F kd ft pl (en k)) k) N
      have hm : (pyG N n F al kd ft pl fa te mo) en k ≤ 99 := pyG_le hY
      refine re1 (x_moneyAt hY (by omega) (by omega)) ?_
      rw [c_3, pk_mul, nI_add, Nat.mul_comm N 3, gx (by omega) (by omega), nI_clamp (by omega)]
      refine rt_lt (ih (by omega) _ _ ⟨nI_1 _, by omega, fun i hi => ?_, fun j hj => ?_⟩)
      · by_cases e : i = k
        · subst e; rw [updL_s]; exact nI_l (by show (pyG N n F al kd ft pl fa te mo) en i < _; omega)
        · rw [updL_n (by omega)]; exact h1 i (by omega)
      · rw [updL_n (by omega)]; exact h2 j hj
    · refine rt_f (nI_ge (by omega) (by omega)) ?_
      by_cases e : j = k
      · subst e
        refine rt_t rfl (rt_lt (rt_lt (ih2 (by omega) _ _ ⟨?_, nI_1 _, by omega⟩)))
        rw [c_0, nI_add, ct_f (by rw [po_self]; decide)]; rfl
      · refine rt_f (fun q => e ((nI_eq (by omega) (by omega)).mp q)) (re1 (x_isAheadG hC hG hP hN he (by omega) (by omega)) ?_)
        by_cases hp : po (fun k => FEn F al kd ft pl (en k)) (fun k => FTn F kd ft pl (en k)) k j = true
        · rw [if_pos hp]
          refine rt_f i10n (rt_lt (rt_lt (ih2 (by omega) _ _ ⟨?_, nI_1 _, by omega⟩)))
          rw [nI_1, ct_t hp]; rfl
        · rw [if_neg hp]
          refine rt_t rfl (rt_lt (rt_lt (ih2 (by omega) _ _ ⟨?_, nI_1 _, by omega⟩)))
          rw [c_0, nI_add, ct_f hp]; rfl
theorem x_settle (hC : okC F kd ft ck cf) (hG : okGa P F n al kd ft pl fa te pf' pt' pp') (hY : okY mo tm) (hn : n ≤ 12) (hP0 : 0 < P) (hP : P ≤ 6) (hN : N ≤ 3) (hc : ∀ k p, c k p ≤ 10000) (hpc : ∀ k, k < N → ∀ p, p < P → pc' (6 * k + p) = nI (c k p)) : ∀ m fu k, k + m = N → 2 * m + 1 ≤ fu → ∀ (en : Nat → Nat) (fp : Int32) (ce : Nat → Int32) (w t : Nat → Int64), (∀ j, j < k → en j < 2 * P ∧ ce j = nI (en j)) → Rt (f_X3_settle fu (nI k) (nI N) (nI P) fp tm pf' pt' pp' pc' ce w t) (fun r => (∀ j, j < k → r.2.1 j = ce j) ∧ (∀ i, i < N → r.2.2.1 (3 * k + i) = lN (gv N P c (pyG N n F al kd ft pl fa te mo) m en i)) ∧ (∀ j, j < 3 * k → r.2.2.1 j = w j) ∧ (∀ j, j < 3 * k → r.2.2.2 j = t j) ∧ (0 < k → r.1 = fp) ∧ (k = 0 → 0 < m → r.1 = nI (fM (fun p => gt c (N - 1 - (m - 1)) (gv N P c (pyG N n F al kd ft pl fa te mo) (m - 1)) en p (N - 1 - (m - 1))) P))) := by
  intro m
  induction m with
  | zero =>
    intro fu k hk hfu en fp ce w t he
    obtain ⟨fu, rfl⟩ : ∃ q, fu = q + 1 := ⟨fu - 1, by omega⟩
    obtain rfl : N = k := by omega
    show Rt (g_X3_settle (G_X3_settle fu).1 (G_X3_settle fu).2 _ _ _ _ _ _ _ _ _ _ _ _) _
    unfold g_X3_settle
    refine rt_f (nI_nlt (Nat.le_refl _) (by omega)) (rb1 (x_pay hC hG hY hn hP hN he w) ?_)
    rintro g ⟨h1, h2⟩
    exact rt_some ⟨fun _ _ => rfl, h1, h2, fun _ _ => rfl, fun _ => rfl, fun _ q => absurd q (by omega)⟩
  | succ m ihm =>
    intro fu k hk hfu en fp ce w t he
    obtain ⟨fu, rfl⟩ : ∃ q, fu = q + 2 := ⟨fu - 2, by omega⟩
    have hgb : ∀ m' en i, m' ≤ 2 → gv N P c (pyG N n F al kd ft pl fa te mo) m' en i ≤ 9900000000 := fun m' en i hm' => by
      have h1 := gv_le (N := N) (P := P) (c := c) (py := (pyG N n F al kd ft pl fa te mo)) hc (fun en i => pyG_le hY) m' en i
      have h2 : 10000 ^ m' ≤ 10000 ^ 2 := Nat.pow_le_pow_right (by omega) hm'
      omega
    have hpy : ∀ en en' i, i < N → (∀ j, j < N → en j = en' j) → (pyG N n F al kd ft pl fa te mo) en i = (pyG N n F al kd ft pl fa te mo) en' i := fun en en' i hi h => pyG_cg hi h
    have hk1 : N - 1 - m = k := by omega
    have hgtb : ∀ en p i, gt c k (gv N P c (pyG N n F al kd ft pl fa te mo) m) en p i ≤ 99000000000000 := fun en p i => by
      have := gt_le (k := k) (p := p) (en := en) (i := i) (hc k p) (fun en => hgb m en i (by omega))
      omega
    -- how a plan is weighed
    have hW : ∀ p, p < P → ∀ (fp : Int32) (ce2 : Nat → Int32) (w2 t2 : Nat → Int64), (∀ j, j < k → ce2 j = ce j) → Rt (f_X3_weigh (fu + 1) (nI k) (nI p) (nI N) (nI P) fp tm pf' pt' pp' pc' ce2 w2 t2) (fun r => r.1 = fp ∧ (∀ j, j < k → r.2.1 j = ce j) ∧ (∀ j, j < 3 * k + 3 → r.2.2.1 j = w2 j) ∧ (∀ j, j < 3 * k → r.2.2.2 j = t2 j) ∧ ∀ i, i < N → r.2.2.2 (3 * k + i) = lN (gt c k (gv N P c (pyG N n F al kd ft pl fa te mo) m) en p i)) := by
      intro p hp fp ce2 w2 t2 hce
      show Rt (g_X3_weigh (f_X3_settle fu) (f_X3_weigh fu) _ _ _ _ _ _ _ _ _ _ _ _ _) _
      unfold g_X3_weigh
      have epc := hpc k (by omega) p hp
      have hcb := hc k p
      refine rt_lt ?_
      rw [c_6, pk_mul, nI_add, Nat.mul_comm k 6, gx (by omega) (by omega), nI_clamp (by omega), epc, nI_l (by omega)]
      refine rt_lt (rt_gx (by omega) (by omega) ?_)
      rw [nI_clamp (by omega), nI_1, c_2, pk_mul]
      have hen : ∀ x, x < 2 * P → ∀ (ce3 : Nat → Int32), (∀ j, j < k → ce3 j = ce j) → ∀ j, j < k + 1 → uN en k x j < 2 * P ∧ upd ce3 k (nI x) j = nI (uN en k x j) := fun x hx ce3 hce3 j hj => by
        by_cases e : j = k
        · subst e; rw [uN_s, upd_s]; exact ⟨hx, rfl⟩
        · rw [uN_n e, upd_n e, hce3 j (by omega)]; exact he j (by omega)
      have s1 := ihm fu (k + 1) (by omega) (by omega) (uN en k (2 * p)) fp (upd ce2 k (nI (2 * p))) w2 t2 (hen _ (by omega) ce2 hce)
      refine rb4 s1 ?_
      rintro r1 r2 r3 r4 ⟨q1, q2, q3, q4, q5, _⟩
      have ef : r1 = fp := q5 (by omega)
      subst ef
      rw [c_3, pk_mul, Nat.mul_comm k 3]
      refine rl2 3 (fun i v7 t => v7 = nI i ∧ i ≤ N ∧ (∀ j, j < 3 * k → t j = t2 j) ∧ ∀ j, j < i → t (3 * k + j) = lN (c k p * gv N P c (pyG N n F al kd ft pl fa te mo) m (uN en k (2 * p)) j)) (by omega) ⟨rfl, by omega, fun j hj => q4 j (by omega), by omega⟩ ?_
      rintro rc i v7 t3 ⟨rfl, hi, h1, h2⟩ ih
      unfold s_X3_weigh_39
      by_cases hiN : N ≤ i
      · obtain rfl : N = i := by omega
        refine rt_t (nI_le (Nat.le_refl _) (by omega)) ?_
        clear ih rc
        unfold k_X3_weigh_39
        refine rt_gx (by omega) (by omega) ?_
        rw [nI_clamp (by omega), nI_1, c_2, pk_mul, nI_1]
        have hce4 : ∀ j, j < k → r2 j = ce j := fun j hj => by
          rw [show r2 j = _ from q1 j (by omega), upd_n (by omega)]; exact hce j hj
        have s2 := ihm fu (k + 1) (by omega) (by omega) (uN en k (2 * p + 1)) r1 (upd r2 k (nI (2 * p + 1))) r3 t3 (hen _ (by omega) r2 hce4)
        refine rb4 s2 ?_
        rintro u1 u2 u3 u4 ⟨p1, p2, p3, p4, p5, _⟩
        have ef : u1 = r1 := p5 (by omega)
        subst ef
        refine rl2 3 (fun i v7 t => v7 = nI i ∧ i ≤ N ∧ (∀ j, j < 3 * k → t j = t2 j) ∧ (∀ j, j < i → t (3 * k + j) = lN (gt c k (gv N P c (pyG N n F al kd ft pl fa te mo) m) en p j)) ∧ ∀ j, i ≤ j → j < N → t (3 * k + j) = lN (c k p * gv N P c (pyG N n F al kd ft pl fa te mo) m (uN en k (2 * p)) j)) (by omega) ⟨rfl, by omega, fun j hj => (p4 j (by omega)).trans (h1 j hj), by omega, fun j hj hjN => (p4 _ (by omega)).trans (h2 j hjN)⟩ ?_
        rintro rc i v7 t4 ⟨rfl, hi2, g1, g2, g3⟩ ih
        unfold s_X3_weigh_101
        by_cases hiN2 : N ≤ i
        · obtain rfl : N = i := by omega
          refine rt_t (nI_le (Nat.le_refl _) (by omega)) (rt_some ⟨rfl, fun j hj => ?_, fun j hj => ?_, g1, g2⟩)
          · refine (p1 j (by omega)).trans ?_
            rw [upd_n (by omega)]; exact hce4 j hj
          · exact (p3 j (by omega)).trans (q3 j (by omega))
        · have b1 := hgb m (uN en k (2 * p)) i (by omega)
          have b2 := hgb m (uN en k (2 * p + 1)) i (by omega)
          have e3 := g3 i (Nat.le_refl _) (by omega)
          have e4 : u3 (3 * k + 3 + i) = lN (gv N P c (pyG N n F al kd ft pl fa te mo) m (uN en k (2 * p + 1)) i) := by
            rw [show 3 * k + 3 + i = 3 * (k + 1) + i by omega]; exact p2 i (by omega)
          refine rt_f (nI_ge (by omega) (by omega)) ?_
          rw [c_3, nI_add, nI_add, nI_add, gx (by omega) (by omega), gx (by omega) (by omega), gx (by omega) (by omega), nI_clamp (by omega), nI_clamp (by omega), e3, e4, l_10000, lN_sub (by omega), lN_mul, lN_add]
          refine rt_lt (ih (by omega) _ _ ⟨nI_1 _, by omega, fun j hj => ?_, fun j hj => ?_, fun j hj hjN => ?_⟩)
          · rw [updL_n (by omega)]; exact g1 j hj
          · by_cases e : j = i
            · subst e; rw [updL_s]; rfl
            · rw [updL_n (by omega)]; exact g2 j (by omega)
          · rw [updL_n (by omega)]; exact g3 j (by omega) hjN
      · have e4 : r3 (3 * k + 3 + i) = lN (gv N P c (pyG N n F al kd ft pl fa te mo) m (uN en k (2 * p)) i) := by
          rw [show 3 * k + 3 + i = 3 * (k + 1) + i by omega]; exact q2 i (by omega)
        refine rt_f (nI_ge (by omega) (by omega)) ?_
        rw [c_3, nI_add, nI_add, nI_add, gx (by omega) (by omega), gx (by omega) (by omega), nI_clamp (by omega), nI_clamp (by omega), e4, lN_mul]
        refine rt_lt (ih (by omega) _ _ ⟨nI_1 _, by omega, fun j hj => ?_, fun j hj => ?_⟩)
        · rw [updL_n (by omega)]; exact h1 j hj
        · by_cases e : j = i
          · subst e; rw [updL_s]
          · rw [updL_n (by omega)]; exact h2 j (by omega)
    show Rt (g_X3_settle (f_X3_settle (fu + 1)) (f_X3_weigh (fu + 1)) _ _ _ _ _ _ _ _ _ _ _ _) _
    unfold g_X3_settle
    refine rt_t (nI_lt (by omega) (by omega)) (rt_lt ?_)
    rw [c_3, pk_mul, Nat.mul_comm k 3]
    refine rl5 6 (fun p v4 f2 ce2 w2 t2 => v4 = nI p ∧ p ≤ P ∧ (∀ j, j < k → ce2 j = ce j) ∧ (∀ j, j < 3 * k → w2 j = w j) ∧ (∀ j, j < 3 * k → t2 j = t j) ∧ (0 < k → f2 = fp) ∧ (k = 0 → 0 < p → f2 = nI (fM (fun p => gt c k (gv N P c (pyG N n F al kd ft pl fa te mo) m) en p k) p)) ∧ (0 < p → ∀ i, i < N → w2 (3 * k + i) = lN (gt c k (gv N P c (pyG N n F al kd ft pl fa te mo) m) en (fM (fun p => gt c k (gv N P c (pyG N n F al kd ft pl fa te mo) m) en p k) p) i))) (by omega) ⟨rfl, by omega, fun _ _ => rfl, fun _ _ => rfl, fun _ _ => rfl, fun _ => rfl, fun _ q => absurd q (by omega), fun q => absurd q (by omega)⟩ ?_
    rintro rc p v4 f2 ce2 w2 t2 ⟨rfl, hp, h1, h2, h3, h4, h5, h6⟩ ih
    unfold s_X3_settle_21
    by_cases hpP : P ≤ p
    · obtain rfl : P = p := by omega
      refine rt_t (nI_le (Nat.le_refl _) (by omega)) (rt_some ⟨h1, fun i hi => ?_, h2, h3, h4, fun q1 q2 => ?_⟩)
      · refine (h6 hP0 i hi).trans ?_
        show _ = lN (gt c (N - 1 - m) (gv N P c (pyG N n F al kd ft pl fa te mo) m) en (fM (fun p => gt c (N - 1 - m) (gv N P c (pyG N n F al kd ft pl fa te mo) m) en p (N - 1 - m)) P) i)
        rw [hk1]
      · refine (h5 q1 hP0).trans ?_
        show _ = nI (fM (fun p => gt c (N - 1 - m) (gv N P c (pyG N n F al kd ft pl fa te mo) m) en p (N - 1 - m)) P)
        rw [hk1]
    · refine rt_f (nI_ge (by omega) (by omega)) (rb4 (hW p (by omega) f2 ce2 w2 t2 h1) ?_)
      rintro f3 ce3 w3 t3 ⟨rfl, q1, q2, q3, q4⟩
      have hcopy : (p = 0 ∨ gt c k (gv N P c (pyG N n F al kd ft pl fa te mo) m) en (fM (fun p => gt c k (gv N P c (pyG N n F al kd ft pl fa te mo) m) en p k) p) k < gt c k (gv N P c (pyG N n F al kd ft pl fa te mo) m) en p k) → Rt (j_X3_settle_63 (nI k) (nI (3 * k)) rc f3 ce3 w3 t3 (nI p)) (fun r => (∀ j, j < k → r.2.1 j = ce j) ∧ (∀ i, i < N → r.2.2.1 (3 * k + i) = lN (gv N P c (pyG N n F al kd ft pl fa te mo) (m + 1) en i)) ∧ (∀ j, j < 3 * k → r.2.2.1 j = w j) ∧ (∀ j, j < 3 * k → r.2.2.2 j = t j) ∧ (0 < k → r.1 = fp) ∧ (k = 0 → 0 < m + 1 → r.1 = nI (fM (fun p => gt c (N - 1 - m) (gv N P c (pyG N n F al kd ft pl fa te mo) m) en p (N - 1 - m)) P))) := by
        intro hb
        have hf : fM (fun p => gt c k (gv N P c (pyG N n F al kd ft pl fa te mo) m) en p k) (p + 1) = p := fM_t hb
        unfold j_X3_settle_63
        rw [c_3, gcp (by omega) (by omega) (by omega) (by omega), nI_clamp (by omega), nI_clamp (by omega)]
        have hw : (∀ j, j < 3 * k → va_cpy t3 w3 (3 * k) (3 * k) 3 j = w j) ∧ ∀ i, i < N → va_cpy t3 w3 (3 * k) (3 * k) 3 (3 * k + i) = lN (gt c k (gv N P c (pyG N n F al kd ft pl fa te mo) m) en (fM (fun p => gt c k (gv N P c (pyG N n F al kd ft pl fa te mo) m) en p k) (p + 1)) i) := by
          refine ⟨fun j hj => ?_, fun i hi => ?_⟩
          · unfold va_cpy
            rw [if_neg (by omega)]
            exact (q2 j (by omega)).trans (h2 j hj)
          · unfold va_cpy
            rw [if_pos (by omega), hf, show 3 * k + (3 * k + i - 3 * k) = 3 * k + i by omega]
            exact q4 i hi
        have ht3 : ∀ j, j < 3 * k → t3 j = t j := fun j hj => (q3 j hj).trans (h3 j hj)
        by_cases k0 : k = 0
        · subst k0
          refine rt_t rfl (rt_lt (ih (by omega) _ _ _ _ _ ⟨nI_1 _, by omega, q1, hw.1, ht3, fun q => absurd q (by omega), fun _ _ => ?_, fun _ => hw.2⟩))
          rw [hf]
        · refine rt_f (nI_ne0 (by omega) (by omega)) (rt_lt (ih (by omega) _ _ _ _ _ ⟨nI_1 _, by omega, q1, hw.1, ht3, h4, fun q => absurd q k0, fun _ => hw.2⟩))
      by_cases p0 : p = 0
      · subst p0
        exact rt_t rfl (hcopy (.inl rfl))
      · have l1 := hgtb en p k
        have l2 := hgtb en (fM (fun p => gt c k (gv N P c (pyG N n F al kd ft pl fa te mo) m) en p k) p) k
        refine rt_f (nI_ne0 (by omega) (by omega)) ?_
        rw [nI_add, gx (by omega) (by omega), gx (by omega) (by omega), nI_clamp (by omega), show t3 (3 * k + k) = _ from q4 k (by omega), show w3 (3 * k + k) = _ from (q2 _ (by omega)).trans (h6 (by omega) k (by omega))]
        refine rt_if (fun z => ?_) (fun z => hcopy (.inr ?_))
        · have z' := (lg_le (by omega) (by omega)).mp z
          have hf : fM (fun p => gt c k (gv N P c (pyG N n F al kd ft pl fa te mo) m) en p k) (p + 1) = fM (fun p => gt c k (gv N P c (pyG N n F al kd ft pl fa te mo) m) en p k) p := fM_f (by
            show ¬ (p = 0 ∨ gt c k (gv N P c (pyG N n F al kd ft pl fa te mo) m) en (fM (fun p => gt c k (gv N P c (pyG N n F al kd ft pl fa te mo) m) en p k) p) k < gt c k (gv N P c (pyG N n F al kd ft pl fa te mo) m) en p k)
            omega)
          refine rt_lt (ih (by omega) _ _ _ _ _ ⟨nI_1 _, by omega, q1, fun j hj => (q2 j (by omega)).trans (h2 j hj), fun j hj => (q3 j hj).trans (h3 j hj), h4, fun q _ => ?_, fun _ i hi => ?_⟩)
          · rw [hf]; exact h5 q (by omega)
          · rw [hf]; exact (q2 _ (by omega)).trans (h6 (by omega) i hi)
        · exact Nat.lt_of_not_le (fun q => z ((lg_le (by omega) (by omega)).mpr q))
end
