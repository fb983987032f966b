/-! THE ORDER: table, place, beat, law -/
theorem ct_mono {p : Nat → Bool} {i : Nat} : ∀ {n}, i ≤ n → ct p i ≤ ct p n
  | 0, h => by rw [show i = 0 by omega]; exact Nat.le_refl _
  | n + 1, h => by
    by_cases e : i = n + 1
    · rw [e]; exact Nat.le_refl _
    · have := ct_mono (p := p) (show i ≤ n by omega)
      rw [ct]; omega
def oi (pl : Nat → Nat) (p : Nat) : Nat → Nat × (Nat → Int64) → Nat × (Nat → Int64)
  | 0, s => s
  | i + 1, s => if pl i = p then ((oi pl p i s).1 + 1, vp_updL (oi pl p i s).2 (oi pl p i s).1 (nI i).toInt64) else oi pl p i s
def og (pl : Nat → Nat) (n : Nat) : Nat → Nat × (Nat → Int64) → Nat × (Nat → Int64)
  | 0, s => s
  | p + 1, s => oi pl (p + 1) n (og pl n p s)
theorem oi_t {pl : Nat → Nat} {p i : Nat} {s : Nat × (Nat → Int64)} (h : pl i = p) : oi pl p (i + 1) s = ((oi pl p i s).1 + 1, vp_updL (oi pl p i s).2 (oi pl p i s).1 (nI i).toInt64) := by rw [oi, if_pos h]
theorem oi_f {pl : Nat → Nat} {p i : Nat} {s : Nat × (Nat → Int64)} (h : ¬ pl i = p) : oi pl p (i + 1) s = oi pl p i s := by rw [oi, if_neg h]
theorem oi_sz {pl : Nat → Nat} {p : Nat} {s : Nat × (Nat → Int64)} : ∀ i, (oi pl p i s).1 = s.1 + ct (fun j => decide (pl j = p)) i
  | 0 => rfl
  | i + 1 => by
    rw [ct]
    by_cases h : pl i = p
    · rw [oi_t h, if_pos (decide_eq_true h)]
      show (oi pl p i s).1 + 1 = _
      rw [oi_sz i]; omega
    · rw [oi_f h, if_neg (by simp [h])]
      rw [oi_sz i]; omega
theorem og_sz {pl : Nat → Nat} {n : Nat} {t : Nat → Int64} : ∀ p, (og pl n p (0, t)).1 = ct (fun j => decide (1 ≤ pl j ∧ pl j ≤ p)) n
  | 0 => by
    show 0 = _
    have : ∀ m, ct (fun j => decide (1 ≤ pl j ∧ pl j ≤ 0)) m = 0 := by
      intro m
      induction m with
      | zero => rfl
      | succ m ih =>
        rw [ct, ih, if_neg (by simp only [decide_eq_true_eq]; omega)]
    rw [this]
  | p + 1 => by
    rw [og, oi_sz, og_sz p]
    refine ct_add n (fun k _ => ?_)
    simp only [decide_eq_true_eq]
    repeat' split
    all_goals omega
theorem og_lt {pl : Nat → Nat} {n k i : Nat} {t : Nat → Int64} (hi : i < n) (h : pl i = k + 1) : (oi pl (k + 1) i (og pl n k (0, t))).1 < n := by
  have h1 := og_sz (pl := pl) (n := n) (t := t) (k + 1)
  rw [og, oi_sz] at h1
  have h2 := ct_mono (p := fun j => decide (pl j = k + 1)) (show i + 1 ≤ n by omega)
  rw [ct, if_pos (by simp [h])] at h2
  have h3 := ct_le (p := fun j => decide (1 ≤ pl j ∧ pl j ≤ k + 1)) n
  rw [oi_sz]
  omega
def rwR (s u : Nat × (Nat → Int64)) : Prop := s.1 = u.1 ∧ ∀ k, k < s.1 → s.2 k = u.2 k
theorem oi_R {pl : Nat → Nat} {p : Nat} {s u : Nat × (Nat → Int64)} (h : rwR s u) : ∀ i, rwR (oi pl p i s) (oi pl p i u)
  | 0 => h
  | i + 1 => by
    have ih := oi_R (pl := pl) (p := p) h i
    by_cases hp : pl i = p
    · rw [oi_t hp, oi_t hp]
      refine ⟨by show _ + 1 = _ + 1; rw [ih.1], fun k hk => ?_⟩
      show vp_updL _ _ _ k = vp_updL _ _ _ k
      rw [← ih.1]
      by_cases e : k = (oi pl p i s).1
      · rw [e, updL_s, updL_s]
      · rw [updL_n e, updL_n e]
        exact ih.2 k (by change k < _ + 1 at hk; omega)
    · rw [oi_f hp, oi_f hp]; exact ih
theorem og_R {pl : Nat → Nat} {n : Nat} {s u : Nat × (Nat → Int64)} (h : rwR s u) : ∀ p, rwR (og pl n p s) (og pl n p u)
  | 0 => h
  | p + 1 => oi_R (og_R h p) n
theorem rowE_og {pl : Nat → Nat} {n p : Nat} {nt mt : Nat → Int64} (hn : n ≤ 12) : (og pl n p (0, nt)).1 = (og pl n p (0, mt)).1 ∧ rowE (og pl n p (0, nt)).1 (og pl n p (0, nt)).2 (og pl n p (0, mt)).2 := by
  have h := og_R (pl := pl) (n := n) (s := (0, nt)) (u := (0, mt)) ⟨rfl, fun k hk => absurd hk (by omega)⟩ p
  refine ⟨h.1, ?_, h.2⟩
  rw [og_sz]
  have := ct_le (p := fun j => decide (1 ≤ pl j ∧ pl j ≤ p)) n
  omega
theorem plO_lt {n : Nat} {fa te : Nat → Nat} {k : Nat} (hn : n ≤ 12) : plO n fa te k < 1000 := by
  have := ct_le (p := po fa te k) n
  unfold plO; omega
theorem plF_lt {n : Nat} {fa te : Nat → Nat} {a b : Nat} (hn : n ≤ 12) : plF n fa te a b < 1000 ∧ 1 ≤ plF n fa te a b := by
  have := ct_le (p := pf fa te a b) n
  unfold plF; omega
section
variable {n r : Nat} {fa te mo : Nat → Nat} {cf cx cm mm mn : Nat → Int32} {nt mt : Nat → Int64}
theorem x_tellOrder (h : tC n fa te cf cx) (sz : Int32) : f_X10_tellOrder_rounds_faults sz (nI n) cf cx nt = some (nI (og (plO n fa te) n n (0, nt)).1, (og (plO n fa te) n n (0, nt)).2) := by
  refine rt_get ?_
  have hn := h.1
  unfold f_X10_tellOrder_rounds_faults
  refine re1 (x_start _) ?_
  refine rl3 12 (fun k v3 v1 v2 => v3 = nI (k + 1) ∧ v1 = nI (og (plO n fa te) n k (0, nt)).1 ∧ v2 = (og (plO n fa te) n k (0, nt)).2 ∧ k ≤ n) (by omega) ⟨rfl, rfl, rfl, by omega⟩ ?_
  rintro rc k v3 v1 v2 ⟨rfl, rfl, rfl, hk⟩ ih
  unfold s_X10_tellOrder_rounds_faults_6
  by_cases hkn : n ≤ k
  · obtain rfl : k = n := by omega
    exact rt_t (nI_lt (by omega) (by omega)) (rt_some rfl)
  · refine rt_f (nI_nlt (by omega) (by omega)) ?_
    refine rl3 12 (fun i v4 v1 v2 => v4 = nI i ∧ v1 = nI (oi (plO n fa te) (k + 1) i (og (plO n fa te) n k (0, nt))).1 ∧ v2 = (oi (plO n fa te) (k + 1) i (og (plO n fa te) n k (0, nt))).2 ∧ i ≤ n) (by omega) ⟨rfl, rfl, rfl, by omega⟩ ?_
    rintro rc2 i v4 v1 v2 ⟨rfl, rfl, rfl, hi⟩ ih2
    unfold s_X10_tellOrder_rounds_faults_17
    by_cases hin : n ≤ i
    · obtain rfl : i = n := by omega
      refine rt_t (nI_le (Nat.le_refl _) (by omega)) ?_
      unfold k_X10_tellOrder_rounds_faults_17
      exact rt_lt (ih (by omega) _ _ _ ⟨nI_1 _, rfl, rfl, by omega⟩)
    · refine rt_f (nI_ge (by omega) (by omega)) (re1 (x_placeOf h (by omega)) ?_)
      have := plO_lt (fa := fa) (te := te) (k := i) hn
      by_cases hp : plO n fa te i = k + 1
      · have := og_lt (t := nt) (show i < n by omega) hp
        refine rt_t (congrArg nI hp) (re2 (x_putk (by omega) _ _) (rt_lt (ih2 (by omega) _ _ _ ⟨nI_1 _, ?_, ?_, by omega⟩)))
        · rw [oi_t hp]
        · rw [oi_t hp]
      · refine rt_f (fun q => hp ((nI_eq (by omega) (by omega)).mp q)) (rt_lt (ih2 (by omega) _ _ _ ⟨nI_1 _, ?_, ?_, by omega⟩))
        · rw [oi_f hp]
        · rw [oi_f hp]
theorem x_tellOrderN (h : tC n fa te cf cx) (sz : Int32) : f_X10_tellOrder_newFaults sz (nI n) cx cf nt = some (nI (og (plO n fa te) n n (0, nt)).1, (og (plO n fa te) n n (0, nt)).2) := by
  refine rt_get ?_
  have hn := h.1
  unfold f_X10_tellOrder_newFaults
  refine re1 (x_start _) ?_
  refine rl3 12 (fun k v3 v1 v2 => v3 = nI (k + 1) ∧ v1 = nI (og (plO n fa te) n k (0, nt)).1 ∧ v2 = (og (plO n fa te) n k (0, nt)).2 ∧ k ≤ n) (by omega) ⟨rfl, rfl, rfl, by omega⟩ ?_
  rintro rc k v3 v1 v2 ⟨rfl, rfl, rfl, hk⟩ ih
  unfold s_X10_tellOrder_newFaults_6
  by_cases hkn : n ≤ k
  · obtain rfl : k = n := by omega
    exact rt_t (nI_lt (by omega) (by omega)) (rt_some rfl)
  · refine rt_f (nI_nlt (by omega) (by omega)) ?_
    refine rl3 12 (fun i v4 v1 v2 => v4 = nI i ∧ v1 = nI (oi (plO n fa te) (k + 1) i (og (plO n fa te) n k (0, nt))).1 ∧ v2 = (oi (plO n fa te) (k + 1) i (og (plO n fa te) n k (0, nt))).2 ∧ i ≤ n) (by omega) ⟨rfl, rfl, rfl, by omega⟩ ?_
    rintro rc2 i v4 v1 v2 ⟨rfl, rfl, rfl, hi⟩ ih2
    unfold s_X10_tellOrder_newFaults_17
    by_cases hin : n ≤ i
    · obtain rfl : i = n := by omega
      refine rt_t (nI_le (Nat.le_refl _) (by omega)) ?_
      unfold k_X10_tellOrder_newFaults_17
      exact rt_lt (ih (by omega) _ _ _ ⟨nI_1 _, rfl, rfl, by omega⟩)
    · refine rt_f (nI_ge (by omega) (by omega)) (re1 (x_placeOfN h (by omega)) ?_)
      have := plO_lt (fa := fa) (te := te) (k := i) hn
      by_cases hp : plO n fa te i = k + 1
      · have := og_lt (t := nt) (show i < n by omega) hp
        refine rt_t (congrArg nI hp) (re2 (x_putk (by omega) _ _) (rt_lt (ih2 (by omega) _ _ _ ⟨nI_1 _, ?_, ?_, by omega⟩)))
        · rw [oi_t hp]
        · rw [oi_t hp]
      · refine rt_f (fun q => hp ((nI_eq (by omega) (by omega)).mp q)) (rt_lt (ih2 (by omega) _ _ _ ⟨nI_1 _, ?_, ?_, by omega⟩))
        · rw [oi_f hp]
        · rw [oi_f hp]
theorem m_tellPlaces (h : tN n fa te mn) : f_X12_tellPlaces_m_now 0 mn mt = some (nI (og (plO n fa te) n n (0, mt)).1, (og (plO n fa te) n n (0, mt)).2) := by
  refine rt_get ?_
  have hn := h.1
  unfold f_X12_tellPlaces_m_now
  refine rl3 12 (fun k v3 v1 v2 => v3 = nI (k + 1) ∧ v1 = nI (og (plO n fa te) n k (0, mt)).1 ∧ v2 = (og (plO n fa te) n k (0, mt)).2 ∧ k ≤ n) (by omega) ⟨rfl, rfl, rfl, by omega⟩ ?_
  rintro rc k v3 v1 v2 ⟨rfl, rfl, rfl, hk⟩ ih
  unfold s_X12_tellPlaces_m_now_2
  simp (disch := omega) only [c_48, gx, nI_clamp, h.2.1]
  by_cases hkn : n ≤ k
  · obtain rfl : k = n := by omega
    exact rt_t (nI_lt (by omega) (by omega)) (rt_some rfl)
  · refine rt_f (nI_nlt (by omega) (by omega)) ?_
    refine rl3 12 (fun i v4 v1 v2 => v4 = nI i ∧ v1 = nI (oi (plO n fa te) (k + 1) i (og (plO n fa te) n k (0, mt))).1 ∧ v2 = (oi (plO n fa te) (k + 1) i (og (plO n fa te) n k (0, mt))).2 ∧ i ≤ n) (by omega) ⟨rfl, rfl, rfl, by omega⟩ ?_
    rintro rc2 i v4 v1 v2 ⟨rfl, rfl, rfl, hi⟩ ih2
    unfold s_X12_tellPlaces_m_now_12
    simp (disch := omega) only [c_48, gx, nI_clamp, h.2.1]
    by_cases hin : n ≤ i
    · obtain rfl : i = n := by omega
      refine rt_t (nI_le (Nat.le_refl _) (by omega)) ?_
      unfold k_X12_tellPlaces_m_now_12
      exact rt_lt (ih (by omega) _ _ _ ⟨nI_1 _, rfl, rfl, by omega⟩)
    · refine rt_f (nI_ge (by omega) (by omega)) (re1 (m_placeOf h (by omega)) ?_)
      have := plO_lt (fa := fa) (te := te) (k := i) hn
      by_cases hp : plO n fa te i = k + 1
      · have := og_lt (t := mt) (show i < n by omega) hp
        refine rt_t (congrArg nI hp) (re2 (m_tellk (by omega) _ _) (rt_lt (ih2 (by omega) _ _ _ ⟨nI_1 _, ?_, ?_, by omega⟩)))
        · rw [oi_t hp]
        · rw [oi_t hp]
      · refine rt_f (fun q => hp ((nI_eq (by omega) (by omega)).mp q)) (rt_lt (ih2 (by omega) _ _ _ ⟨nI_1 _, ?_, ?_, by omega⟩))
        · rw [oi_f hp]
        · rw [oi_f hp]
theorem m_tellPlacesN (h : tN n fa te mn) : f_X12_tellPlaces_m_then 0 mn mt = some (nI (og (plO n fa te) n n (0, mt)).1, (og (plO n fa te) n n (0, mt)).2) := by
  refine rt_get ?_
  have hn := h.1
  unfold f_X12_tellPlaces_m_then
  refine rl3 12 (fun k v3 v1 v2 => v3 = nI (k + 1) ∧ v1 = nI (og (plO n fa te) n k (0, mt)).1 ∧ v2 = (og (plO n fa te) n k (0, mt)).2 ∧ k ≤ n) (by omega) ⟨rfl, rfl, rfl, by omega⟩ ?_
  rintro rc k v3 v1 v2 ⟨rfl, rfl, rfl, hk⟩ ih
  unfold s_X12_tellPlaces_m_then_2
  simp (disch := omega) only [c_48, gx, nI_clamp, h.2.1]
  by_cases hkn : n ≤ k
  · obtain rfl : k = n := by omega
    exact rt_t (nI_lt (by omega) (by omega)) (rt_some rfl)
  · refine rt_f (nI_nlt (by omega) (by omega)) ?_
    refine rl3 12 (fun i v4 v1 v2 => v4 = nI i ∧ v1 = nI (oi (plO n fa te) (k + 1) i (og (plO n fa te) n k (0, mt))).1 ∧ v2 = (oi (plO n fa te) (k + 1) i (og (plO n fa te) n k (0, mt))).2 ∧ i ≤ n) (by omega) ⟨rfl, rfl, rfl, by omega⟩ ?_
    rintro rc2 i v4 v1 v2 ⟨rfl, rfl, rfl, hi⟩ ih2
    unfold s_X12_tellPlaces_m_then_12
    simp (disch := omega) only [c_48, gx, nI_clamp, h.2.1]
    by_cases hin : n ≤ i
    · obtain rfl : i = n := by omega
      refine rt_t (nI_le (Nat.le_refl _) (by omega)) ?_
      unfold k_X12_tellPlaces_m_then_12
      exact rt_lt (ih (by omega) _ _ _ ⟨nI_1 _, rfl, rfl, by omega⟩)
    · refine rt_f (nI_ge (by omega) (by omega)) (re1 (m_placeOfN h (by omega)) ?_)
      have := plO_lt (fa := fa) (te := te) (k := i) hn
      by_cases hp : plO n fa te i = k + 1
      · have := og_lt (t := mt) (show i < n by omega) hp
        refine rt_t (congrArg nI hp) (re2 (m_tellk (by omega) _ _) (rt_lt (ih2 (by omega) _ _ _ ⟨nI_1 _, ?_, ?_, by omega⟩)))
        · rw [oi_t hp]
        · rw [oi_t hp]
      · refine rt_f (fun q => hp ((nI_eq (by omega) (by omega)).mp q)) (rt_lt (ih2 (by omega) _ _ _ ⟨nI_1 _, ?_, ?_, by omega⟩))
        · rw [oi_f hp]
        · rw [oi_f hp]
theorem x_table (h : tC n fa te cf cx) (sz : Int32) : f_X11_table sz (nI n) cf cx nt = some (nI (ct (fun i => decide (fa i = 0)) n), nI (og (plO n fa te) n n (0, nt)).1, (og (plO n fa te) n n (0, nt)).2) := by
  refine rt_get ?_
  have hn := h.1
  unfold f_X11_table
  refine re2 (x_tellOrder h sz) ?_
  refine rl2 12 (fun k v1 v2 => v1 = nI (ct (fun i => decide (fa i = 0)) k) ∧ v2 = nI k ∧ k ≤ n) (by omega) ⟨rfl, rfl, by omega⟩ ?_
  rintro rc k v1 v2 ⟨rfl, rfl, hk⟩ ih
  unfold s_X11_table_22
  by_cases hkn : n ≤ k
  · obtain rfl : k = n := by omega
    exact rt_t (nI_le (Nat.le_refl _) (by omega)) (rt_some rfl)
  · obtain ⟨⟨b1, b2⟩, e1, e2⟩ := h.2 k (by omega)
    simp (disch := omega) only [nI_leI, gx, nI_clamp, e1, lt1_e, nI_add, c_1, c_0, nI_eq]
    refine rt_f hkn ?_
    repeat' (refine rt_if (fun _ => ?_) (fun _ => ?_))
    all_goals
      refine ih (by omega) _ _ ⟨congrArg nI ?_, rfl, by omega⟩
      rw [ct]
      simp only [decide_eq_true_eq]
      split <;> omega
theorem m_table (h : tN n fa te mn) (sz tw : Int32) : f_X12_table sz tw mn mt = some (nI (ct (fun i => decide (fa i = 0)) n), nI (og (plO n fa te) n n (0, mt)).1, 0, (og (plO n fa te) n n (0, mt)).2) := by
  refine rt_get ?_
  have hn := h.1
  unfold f_X12_table
  refine rl2 12 (fun k v1 v2 => v1 = nI (ct (fun i => decide (fa i = 0)) k) ∧ v2 = nI k ∧ k ≤ n) (by omega) ⟨rfl, rfl, by omega⟩ ?_
  rintro rc k v1 v2 ⟨rfl, rfl, hk⟩ ih
  unfold s_X12_table_9
  simp (disch := omega) only [c_48, gx, nI_clamp, h.2.1]
  by_cases hkn : n ≤ k
  · obtain rfl : k = n := by omega
    refine rt_t (nI_le (Nat.le_refl _) (by omega)) ?_
    unfold k_X12_table_9
    exact re2 (m_tellPlaces h) (rt_some rfl)
  · obtain ⟨⟨b1, b2⟩, e1, e2⟩ := h.2.2 k (by omega)
    simp (disch := omega) only [nI_leI, c_4, c_2, pk_mul, gx, nI_clamp, e1, lt1_e, nI_add, c_1, c_0, nI_eq]
    refine rt_f hkn ?_
    repeat' (refine rt_if (fun _ => ?_) (fun _ => ?_))
    all_goals
      refine ih (by omega) _ _ ⟨congrArg nI ?_, rfl, by omega⟩
      rw [ct]
      simp only [decide_eq_true_eq]
      split <;> omega
theorem pr_table (h : tC n fa te cf cx) (h2 : tN n fa te mn) (sz mz tw : Int32) : Rt (f_X11_table sz (nI n) cf cx nt) (fun a => Rt (f_X12_table mz tw mn mt) (fun b => a.1 = b.1 ∧ b.2.2.1 = 0 ∧ ∃ r, a.2.1 = nI r ∧ b.2.1 = nI r ∧ rowE r a.2.2 b.2.2.2)) := by
  refine rt_e (x_table h sz) (rt_e (m_table h2 mz tw) ⟨rfl, rfl, _, rfl, ?_, ?_⟩)
  · exact congrArg nI (rowE_og h.1).1.symm
  · exact (rowE_og h.1).2
theorem x_isResultT {a b : Nat} (ha : a < 100) (hb : b < 10000) : f_X11_isResult (nI a) (nI b) = some 1 := by
  unfold f_X11_isResult
  simp (disch := omega) only [z_lt, if_false, c_99, c_9999, nI_ltI]
  rw [if_neg (by omega), if_neg (by omega)]
theorem out_lt2 {v : Int32} {n : Nat} (h : out v (n + 1)) (h0 : ¬ v < 0) (hn : n + 1 < 2 ^ 31) : nI n < v := Int32.not_le.mp (out_le h h0 hn)
theorem x_isResultF1 {v w : Int32} (h : out v 100) : f_X11_isResult v w = some 0 := by
  unfold f_X11_isResult
  by_cases h0 : v < 0
  · rw [if_pos h0]
  · rw [if_neg h0, c_99, if_pos (out_lt2 h h0 (by omega))]
theorem x_isResultF2 {a : Nat} {w : Int32} (ha : a < 100) (h : out w 10000) : f_X11_isResult (nI a) w = some 0 := by
  unfold f_X11_isResult
  rw [if_neg (nI_pos (by omega)), c_99, if_neg (nI_nlt (by omega) (by omega))]
  by_cases h0 : w < 0
  · rw [if_pos h0]
  · rw [if_neg h0, c_9999, if_pos (out_lt2 h h0 (by omega))]
theorem m_isMostT {b : Nat} (hb : b < 10000) : f_X12_isMost (nI b) = some 1 := by
  unfold f_X12_isMost
  rw [c_9999, bd1_t (m_inT (n := 9999) (by omega) (by omega))]; rfl
theorem m_isMostF {w : Int32} (h : out w 10000) : f_X12_isMost w = some 0 := by
  unfold f_X12_isMost
  rw [c_9999, bd1_t (m_inF (n := 9999) h (by omega))]; rfl
theorem pr_place (h : tC n fa te cf cx) (h2 : tN n fa te mn) (hc : okY mo cm) (hm : okY mo mm) (hR : rowE r nt mt) (p1 p2 tw : Int32) : Rt (f_X11_place p1 p2 (nI r) (nI n) cf cx cm nt) (fun a => Rt (f_X12_place p1 p2 (nI r) tw mn mm mt) (fun b => a.1 = b.1 ∧ b.2.2.1 = 0 ∧ ∃ r, a.2.1 = nI r ∧ b.2.1 = nI r ∧ rowE r a.2.2 b.2.2.2)) := by
  rcases bel p1 100 (by omega) with ⟨a, ha, rfl⟩ | ho
  · rcases bel p2 10000 (by omega) with ⟨b, hb, rfl⟩ | ho
    · have hp := plF_lt (fa := fa) (te := te) (a := a) (b := b) h.1
      unfold f_X11_place
      refine re1 (x_isResultT ha hb) (rt_f i10n (re1 (x_placeFor h (by omega) (by omega)) (re1 (x_start _) (re1 (x_moneyAt hc hp.2 hp.1) (re2 (x_put0 _ _) (rt_some ?_))))))
      unfold f_X12_place
      exact re1 (m_inT (n := 99) (by omega) (by omega)) (rt_f i10n (re1 (m_isMostT hb) (rt_f i10n (re1 (m_placeFor h2 (by omega) (by omega)) (re1 (m_moneyOf hm hp.2 hp.1) (re2 (m_tell0 _ _) (rt_some ⟨rfl, rfl, 1, rfl, rfl, rowE_r1⟩)))))))
    · unfold f_X11_place
      refine re1 (x_isResultF2 ha ho) (rt_t rfl (rt_some ?_))
      unfold f_X12_place
      exact re1 (m_inT (n := 99) (by omega) (by omega)) (rt_f i10n (re1 (m_isMostF ho) (rt_t rfl (rt_some ⟨rfl, rfl, r, rfl, rfl, hR⟩))))
  · unfold f_X11_place
    refine re1 (x_isResultF1 ho) (rt_t rfl (rt_some ?_))
    unfold f_X12_place
    exact re1 (m_inF (n := 99) ho (by omega)) (rt_t rfl (rt_some ⟨rfl, rfl, r, rfl, rfl, hR⟩))
end
