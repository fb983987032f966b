/-! READING: the signs, one by one, both sides -/
def sn (tc : Nat → Nat) (l a : Nat) : Nat := if a < l then tc a else 1000
/-- what the readers have: l signs to be read of y -/
def okRd (y T l : Nat) (tc : Nat → Nat) (sg mx : Nat → Int32) : Prop := y ≤ 80 ∧ T ≤ 80 ∧ l = min y T ∧ ∀ k, k < y → tc k < 256 ∧ sg k = nI (tc k) ∧ mx k = byt (tc k)
theorem okTx_R {y T : Nat} {tc : Nat → Nat} {ts mt : Int32} {sg mx : Nat → Int32} (h : okTx y tc ts sg mt mx) (hT : T ≤ 80) : okRd y T (min y T) tc sg mx := ⟨h.1, hT, rfl, h.2.2.2⟩
theorem ix88 : ∀ q, q < 256 → sidx 88 (nI q) = if q = 117 then 0 else if q = 119 then 1 else if q = 100 then 2 else if q = 108 then 3 else -1 := by decide +kernel
theorem ix89 : ∀ q, q < 256 → sidx 89 (nI q) = if 97 ≤ q ∧ q ≤ 104 then nI (q - 97) else -1 := by decide +kernel
section
variable {y T l a : Nat} {tc : Nat → Nat} {sg mx : Nat → Int32}
theorem rd_s (h : okRd y T l tc sg mx) : ∀ k, k < l → tc k < 256 ∧ sg k = nI (tc k) := fun k hk => by
  have := h.2.2.1
  exact ⟨(h.2.2.2 k (by omega)).1, (h.2.2.2 k (by omega)).2.1⟩
theorem rd_l (h : okRd y T l tc sg mx) : l ≤ 80 ∧ l ≤ y ∧ l ≤ T := by
  have h1 := h.1
  have h2 := h.2.2.1
  omega
theorem sn_lt (h : okRd y T l tc sg mx) {c : Nat} (hc : c < 256) (e : sn tc l a = c) : a < l ∧ tc a = c := by
  unfold sn at e
  by_cases q : a < l
  · rw [if_pos q] at e; exact ⟨q, e⟩
  · rw [if_neg q] at e; omega
theorem x_takeT (h : okRd y T l tc sg mx) {c : Nat} (hc : c < 256) (e : sn tc l a = c) : f_X9_take (nI c) (nI l) (nI a) sg = some (1, nI (a + 1)) := by
  obtain ⟨q1, q2⟩ := sn_lt h hc e
  have hl := rd_l h
  unfold f_X9_take
  rw [if_neg (nI_ge q1 (by omega)), gx (by omega) (by omega), nI_clamp (by omega), (rd_s h a q1).2, q2, if_pos rfl, nI_1]
theorem x_takeF (h : okRd y T l tc sg mx) {c : Nat} (hc : c < 256) (ha : a ≤ 80) (e : ¬ sn tc l a = c) : f_X9_take (nI c) (nI l) (nI a) sg = some (0, nI a) := by
  have hl := rd_l h
  unfold f_X9_take
  by_cases q : a < l
  · have hs := rd_s h a q
    have : ¬ tc a = c := by
      unfold sn at e; rw [if_pos q] at e; exact e
    rw [if_neg (nI_ge q (by omega)), gx (by omega) (by omega), nI_clamp (by omega), hs.2, if_neg (fun z => this ((nI_eq (by omega) (by omega)).mp z))]
  · rw [if_pos (nI_le (by omega) (by omega))]
/-- a digit from lo to below h1 -/
def isDg (tc : Nat → Nat) (l a lo h1 : Nat) : Prop := a < l ∧ 48 + lo ≤ tc a ∧ tc a < 48 + h1
theorem x_dT (h : okRd y T l tc sg mx) {lo : Nat} (hlo : lo ≤ 9) (d : isDg tc l a lo 10) : f_X9_digit (nI lo) 9 (nI l) (nI a) sg = some (nI (tc a - 48), nI (a + 1)) := by
  have hl := rd_l h
  have := d.1
  exact x_digT (h1 := 10) (rd_s h) hl.1 (by omega) hlo (by omega) d
theorem x_dF (h : okRd y T l tc sg mx) {lo : Nat} (hlo : lo ≤ 9) (ha : a ≤ 80) (d : ¬ isDg tc l a lo 10) : f_X9_digit (nI lo) 9 (nI l) (nI a) sg = some (-1, nI a) := by
  have hl := rd_l h
  exact x_digF (h1 := 10) (rd_s h) hl.1 ha hlo (by omega) d
theorem x_oneF (h : okRd y T l tc sg mx) (ha : a ≤ 80) {s : Nat} (hs : sok s = true) (e : a < l → sidx s (nI (tc a)) < 0) : ∃ v, v < 0 ∧ f_X9_oneOf s (nI l) (nI a) sg = some (v, nI a) := by
  have hl := rd_l h
  unfold f_X9_oneOf
  by_cases q : a < l
  · refine ⟨_, e q, ?_⟩
    rw [if_neg (nI_ge q (by omega)), gx (by omega) (by omega), gd_t hs, nI_clamp (by omega), (rd_s h a q).2, lt1_e, if_pos (e q)]
  · exact ⟨-1, by decide, by rw [if_pos (nI_le (by omega) (by omega))]⟩
theorem x_oneT (h : okRd y T l tc sg mx) {s : Nat} (hs : sok s = true) (q : a < l) {v : Nat} (hv : v < 1000) (e : sidx s (nI (tc a)) = nI v) : f_X9_oneOf s (nI l) (nI a) sg = some (nI v, nI (a + 1)) := by
  have hl := rd_l h
  unfold f_X9_oneOf
  rw [if_neg (nI_ge q (by omega)), gx (by omega) (by omega), gd_t hs, nI_clamp (by omega), (rd_s h a q).2, lt1_e, e, if_neg (nI_pos (by omega)), nI_1]
/-! the reference, nothing wrong yet -/
theorem byt_255 {q : Nat} (hq : q < 256) : byt q &&& 255 = nI q := (byt_rt q hq).2.symm
theorem m_hereN (h : okRd y T l tc sg mx) (ha : a < 1000) : f_X12_here_t (nI y) (nI T) (nI a) mx = some (if a < l then nI (tc a) else -1) := by
  have h1 := h.1
  have h2 := h.2.1
  have h3 := h.2.2.1
  unfold f_X12_here_t
  by_cases c1 : y ≤ a
  · rw [if_pos (nI_le c1 (by omega)), if_neg (by omega)]
  · rw [if_neg (nI_ge (by omega) (by omega))]
    by_cases c2 : T ≤ a
    · rw [if_pos (nI_le c2 (by omega)), if_neg (by omega)]
    · obtain ⟨b1, b2, b3⟩ := h.2.2.2 a (by omega)
      rw [if_neg (nI_ge (by omega) (by omega)), gx (by omega) (by omega), nI_clamp (by omega), if_pos (by omega), b3, byt_255 b1]
theorem m_passT (h : okRd y T l tc sg mx) {c : Nat} (hc : c < 256) (e : sn tc l a = c) : f_X12_passes_t (nI c) (nI y) (nI T) (nI a) (-1) mx = some (1, nI (a + 1)) := by
  obtain ⟨q1, q2⟩ := sn_lt h hc e
  have hl := rd_l h
  unfold f_X12_passes_t
  rw [bd1_t m_fine_t, if_neg i10n, bd1_t (m_hereN h (by omega)), if_pos q1, q2, if_pos rfl, nI_1]
theorem m_passF (h : okRd y T l tc sg mx) {c : Nat} (hc : c < 256) (ha : a < 1000) (e : ¬ sn tc l a = c) : f_X12_passes_t (nI c) (nI y) (nI T) (nI a) (-1) mx = some (0, nI a) := by
  unfold f_X12_passes_t
  rw [bd1_t m_fine_t, if_neg i10n, bd1_t (m_hereN h ha)]
  unfold sn at e
  by_cases q : a < l
  · have := (rd_s h a q).1
    rw [if_pos q] at e ⊢
    rw [if_neg (fun z => e ((nI_eq (by omega) (by omega)).mp z))]
  · rw [if_neg q, if_neg (fun z => m1_ne (k := c) (by omega) z.symm)]
theorem m_dT (h : okRd y T l tc sg mx) {lo : Nat} (hlo : lo ≤ 9) (d : isDg tc l a lo 10) : f_X12_digit_t (nI lo) 9 (nI y) (nI T) (nI a) (-1) mx = some (nI (tc a - 48), nI (a + 1), -1) := by
  obtain ⟨q, d1, d2⟩ := d
  have hl := rd_l h
  obtain ⟨b1, b2, b3⟩ := h.2.2.2 a (by omega)
  unfold f_X12_digit_t
  rw [bd1_t m_fine_t, if_neg i10n, bd1_t (m_hereN h (by omega)), if_pos q, c_48, c_9, nI_add, nI_add]
  have e : f_X12_in (nI (tc a)) (nI (48 + lo)) (nI (48 + 9)) = some 1 := by
    unfold f_X12_in
    rw [if_neg (nI_nlt (by omega) (by omega)), if_neg (nI_nlt (by omega) (by omega))]
  rw [bd1_t e, if_neg i10n, nI_1, nI_pred, gx (by omega) (by omega), nI_clamp (by omega), b3, byt_lo _ (by omega), pk_sub (by omega)]
theorem m_dF (h : okRd y T l tc sg mx) {lo : Nat} (hlo : lo ≤ 9) (ha : a < 1000) (d : ¬ isDg tc l a lo 10) : f_X12_digit_t (nI lo) 9 (nI y) (nI T) (nI a) (-1) mx = some (0, nI a, nI a) := by
  unfold f_X12_digit_t
  rw [bd1_t m_fine_t, if_neg i10n, bd1_t (m_hereN h ha), c_48, c_9, nI_add, nI_add]
  have e : f_X12_in (if a < l then nI (tc a) else -1) (nI (48 + lo)) (nI (48 + 9)) = some 0 := by
    unfold f_X12_in
    by_cases q : a < l
    · have hs := (rd_s h a q).1
      rw [if_pos q]
      by_cases c1 : tc a < 48 + lo
      · rw [if_pos (nI_lt c1 (by omega))]
      · rw [if_neg (nI_nlt (by omega) (by omega)), if_pos (nI_lt (by
          refine Nat.lt_of_not_le (fun z => d ⟨q, by omega, by omega⟩)) (by omega))]
    · rw [if_neg q, if_pos]
      rw [Int32.lt_iff_toInt_lt, nI_toInt (by omega), show (-1 : Int32).toInt = -1 by decide]; omega
  rw [bd1_t e, if_pos rfl, bd1_t (m_fault_t _)]
theorem m_dW {w : Int32} (hw : w ≠ -1) (p q L M A : Int32) : f_X12_digit_t p q L M A w mx = some (0, A, w) := by
  unfold f_X12_digit_t
  rw [bd1_t (m_fine_f hw), if_pos rfl]
theorem m_needT (h : okRd y T l tc sg mx) {c : Nat} (hc : c < 256) (e : sn tc l a = c) : f_X12_need_t (nI c) (nI y) (nI T) (nI a) (-1) mx = some (nI (a + 1), -1) := by
  unfold f_X12_need_t
  rw [bd2_t (m_passT h hc e), if_neg i10n]
theorem m_needF (h : okRd y T l tc sg mx) {c : Nat} (hc : c < 256) (ha : a < 1000) (e : ¬ sn tc l a = c) : f_X12_need_t (nI c) (nI y) (nI T) (nI a) (-1) mx = some (nI a, nI a) := by
  unfold f_X12_need_t
  rw [bd2_t (m_passF h hc ha e), if_pos rfl, bd1_t (m_fault_t _)]
theorem m_needW {w : Int32} (hw : w ≠ -1) (c L M A : Int32) : f_X12_need_t c L M A w mx = some (A, w) := by
  unfold f_X12_need_t
  rw [bd2_t (m_passes_f hw c L M A mx), if_pos rfl, bd1_t (m_fault_f _ hw)]
/-! NUMBERS of up to k digits -/
/-- how many digits of at most k stand at a -/
def nd (tc : Nat → Nat) (l : Nat) : Nat → Nat → Nat
  | 0, _ => 0
  | k + 1, a => if a < l ∧ 48 ≤ tc a ∧ tc a < 58 then 1 + nd tc l k (a + 1) else 0
/-- the number that j digits at a are -/
def nv (tc : Nat → Nat) (a : Nat) : Nat → Nat
  | 0 => 0
  | j + 1 => 10 * nv tc a j + (tc (a + j) - 48)
theorem nd_le : ∀ k a, nd tc l k a ≤ k
  | 0, _ => Nat.le_refl _
  | k + 1, a => by
    have := nd_le k (a + 1)
    rw [nd]; split <;> omega
theorem nd_dg : ∀ k a j, j < nd tc l k a → isDg tc l (a + j) 0 10
  | 0, _, j, h => absurd h (by rw [nd]; omega)
  | k + 1, a, j, h => by
    rw [nd] at h
    split at h
    · rename_i q
      by_cases e : j = 0
      · subst e; exact (⟨q.1, by omega, q.2.2⟩ : isDg tc l a 0 10)
      · have := nd_dg k (a + 1) (j - 1) (by omega)
        rw [show a + 1 + (j - 1) = a + j by omega] at this
        exact this
    · omega
theorem nd_end : ∀ k a, nd tc l k a < k → ¬ isDg tc l (a + nd tc l k a) 0 10
  | 0, _, h => absurd h (by omega)
  | k + 1, a, h => by
    rw [nd] at h ⊢
    by_cases q : a < l ∧ 48 ≤ tc a ∧ tc a < 58
    · rw [if_pos q] at h ⊢
      have := nd_end k (a + 1) (by omega)
      rw [show a + 1 + nd tc l k (a + 1) = a + (1 + nd tc l k (a + 1)) by omega] at this
      exact this
    · rw [if_neg q]
      rintro ⟨z1, z2, z3⟩
      exact q ⟨z1, by omega, by omega⟩
theorem nv_lt (hd : ∀ j, j < 5 → j < nd tc l 4 a → tc (a + j) < 58) : ∀ j, j ≤ nd tc l 4 a → nv tc a j < 10 ^ j
  | 0, _ => by rw [nv]; omega
  | j + 1, h => by
    have h4 := nd_le (tc := tc) (l := l) 4 a
    have := nv_lt hd j (by omega)
    have := hd j (by omega) (by omega)
    rw [nv, Nat.pow_succ]; omega
theorem nv_b {k : Nat} (hk : k ≤ 4) : ∀ j, j ≤ nd tc l k a → nv tc a j < 10 ^ j
  | 0, _ => by rw [nv]; omega
  | j + 1, h => by
    have i1 := nv_b hk j (by omega)
    have i2 := (nd_dg (tc := tc) (l := l) k a j (by omega)).2.2
    rw [nv, Nat.pow_succ]; omega
theorem x_num (h : okRd y T l tc sg mx) (ha : a ≤ 80) {k : Nat} (hk1 : 1 ≤ k) (hk : k ≤ 4) : f_X9_number (nI k) (nI l) (nI a) sg = some (if nd tc l k a = 0 then (-1, nI a) else (nI (nv tc a (nd tc l k a)), nI (a + nd tc l k a))) := by
  have hl := rd_l h
  refine rt_get ?_
  unfold f_X9_number
  by_cases d0 : isDg tc l a 0 10
  · have hn0 : ¬ nd tc l k a = 0 := fun z => by
      have hlt : nd tc l k a < k := by omega
      have := nd_end k a hlt
      rw [z] at this; exact this d0
    have hle := nd_le (tc := tc) (l := l) k a
    rw [if_neg hn0]
    refine re2 (x_dT (lo := 0) h (by omega) d0) ?_
    refine rl3 4 (fun j v2 v3 at' => v2 = nI (nv tc a (j + 1)) ∧ v3 = nI (j + 1) ∧ at' = nI (a + (j + 1)) ∧ j + 1 ≤ nd tc l k a) (by omega) ⟨?_, rfl, rfl, by omega⟩ ?_
    · show nI _ = nI (10 * 0 + (tc (a + 0) - 48))
      exact congrArg nI (by rw [Nat.add_zero]; omega)
    rintro rc j v2 v3 at' ⟨rfl, rfl, rfl, hj⟩ ih
    have hv := nv_b (a := a) hk (j + 1) hj
    have hp : 10 ^ (j + 1) ≤ 10 ^ 4 := Nat.pow_le_pow_right (by omega) (by omega)
    unfold s_X9_number_10
    by_cases c1 : k ≤ j + 1
    · have e : nd tc l k a = j + 1 := by omega
      rw [e]
      exact rt_t (nI_le c1 (by omega)) (rt_some rfl)
    · refine rt_f (nI_ge (by omega) (by omega)) (rt_f (m1_ne (by omega)) ?_)
      have haj : a + (j + 1) ≤ 80 := by
        have := (nd_dg (tc := tc) (l := l) k a j (by omega)).1
        omega
      by_cases c2 : j + 1 < nd tc l k a
      · have dj := nd_dg k a (j + 1) c2
        refine re2 (x_dT (lo := 0) h (by omega) dj) (rt_f (m1_ne (by have := (rd_s h _ dj.1).1; omega)) (rt_lt (rt_lt (ih (by omega) _ _ _ ⟨?_, nI_1 _, rfl, by omega⟩))))
        rw [c_10, pk_mul, nI_add, Nat.mul_comm]; rfl
      · have e : nd tc l k a = j + 1 := by omega
        have dj := nd_end (tc := tc) (l := l) k a (by omega)
        rw [e] at dj ⊢
        exact re2 (x_dF (lo := 0) h (by omega) haj dj) (rt_t rfl (rt_some rfl))
  · have hn0 : nd tc l k a = 0 := Classical.byContradiction (fun z => d0 (by
      have := nd_dg (tc := tc) (l := l) k a 0 (by omega)
      exact this))
    rw [if_pos hn0]
    refine re2 (x_dF (lo := 0) h (by omega) ha d0) ?_
    refine rl3 1 (fun j v2 v3 at' => v2 = -1 ∧ at' = nI a) (by omega) ⟨rfl, rfl⟩ ?_
    rintro rc j v2 v3 at' ⟨rfl, rfl⟩ ih
    unfold s_X9_number_10
    exact rt_if (fun _ => rt_some rfl) (fun _ => rt_t rfl (rt_some rfl))
theorem m_numW {w : Int32} (hw : w ≠ -1) (k L M A : Int32) : f_X12_number_t k L M A w mx = some (0, A, w) := by
  refine rt_get ?_
  unfold f_X12_number_t
  refine re3 (m_dW hw _ _ _ _ _) ?_
  refine rl4 1 (fun j v2 v3 at' w' => v2 = 0 ∧ at' = A ∧ w' = w) (by omega) ⟨rfl, rfl, rfl⟩ ?_
  rintro rc j v2 v3 at' w' ⟨rfl, rfl, rfl⟩ ih
  unfold s_X12_number_t_10
  exact rt_if (fun _ => rt_some rfl) (fun _ => re1 (m_fine_f hw) (rt_t rfl (rt_some rfl)))
theorem m_inD {q : Nat} (hq : q < 256) : f_X12_in (nI q) 48 57 = some (if 48 ≤ q ∧ q < 58 then 1 else 0) := by
  unfold f_X12_in
  rw [c_48, c_57]
  by_cases c1 : q < 48
  · rw [if_pos (nI_lt c1 (by omega)), if_neg (by omega)]
  · rw [if_neg (nI_nlt (by omega) (by omega))]
    by_cases c2 : 57 < q
    · rw [if_pos (nI_lt c2 (by omega)), if_neg (by omega)]
    · rw [if_neg (nI_nlt (by omega) (by omega)), if_pos (by omega)]
theorem m_num (h : okRd y T l tc sg mx) (ha : a < 900) {k : Nat} (hk1 : 1 ≤ k) (hk : k ≤ 4) : f_X12_number_t (nI k) (nI y) (nI T) (nI a) (-1) mx = some (if nd tc l k a = 0 then (0, nI a, nI a) else (nI (nv tc a (nd tc l k a)), nI (a + nd tc l k a), -1)) := by
  have hl := rd_l h
  refine rt_get ?_
  unfold f_X12_number_t
  by_cases d0 : isDg tc l a 0 10
  · have hn0 : ¬ nd tc l k a = 0 := fun z => by
      have hlt : nd tc l k a < k := by omega
      have := nd_end k a hlt
      rw [z] at this; exact this d0
    have hle := nd_le (tc := tc) (l := l) k a
    rw [if_neg hn0]
    refine re3 (m_dT (lo := 0) h (by omega) d0) ?_
    refine rl4 4 (fun j v2 v3 at' w => v2 = nI (nv tc a (j + 1)) ∧ v3 = nI (j + 1) ∧ at' = nI (a + (j + 1)) ∧ w = -1 ∧ j + 1 ≤ nd tc l k a) (by omega) ⟨?_, rfl, rfl, rfl, by omega⟩ ?_
    · show nI _ = nI (10 * 0 + (tc (a + 0) - 48))
      exact congrArg nI (by rw [Nat.add_zero]; omega)
    rintro rc j v2 v3 at' w ⟨rfl, rfl, rfl, rfl, hj⟩ ih
    unfold s_X12_number_t_10
    by_cases c1 : k ≤ j + 1
    · have e : nd tc l k a = j + 1 := by omega
      rw [e]
      exact rt_t (nI_le c1 (by omega)) (rt_some rfl)
    · refine rt_f (nI_ge (by omega) (by omega)) (re1 m_fine_t (rt_f i10n (re1 (m_hereN h (by omega)) ?_)))
      by_cases c2 : j + 1 < nd tc l k a
      · have dj := nd_dg k a (j + 1) c2
        have hs := (rd_s h _ dj.1).1
        rw [if_pos dj.1]
        refine re1 (m_inD hs) ?_
        rw [if_pos (show 48 ≤ tc (a + (j + 1)) ∧ tc (a + (j + 1)) < 58 from ⟨by have := dj.2.1; omega, by have := dj.2.2; omega⟩)]
        refine rt_f i10n (re3 (m_dT (lo := 0) h (by omega) dj) (rt_lt (rt_lt (ih (by omega) _ _ _ _ ⟨?_, nI_1 _, rfl, rfl, by omega⟩))))
        rw [c_10, pk_mul, nI_add]; rfl
      · have e : nd tc l k a = j + 1 := by omega
        have dj := nd_end (tc := tc) (l := l) k a (by omega)
        rw [e] at dj ⊢
        by_cases q : a + (j + 1) < l
        · have hs := (rd_s h _ q).1
          rw [if_pos q]
          refine re1 (m_inD hs) ?_
          rw [if_neg (show ¬ (48 ≤ tc (a + (j + 1)) ∧ tc (a + (j + 1)) < 58) from fun z => dj ⟨q, by omega, by omega⟩)]
          exact rt_t rfl (rt_some rfl)
        · rw [if_neg q]
          exact re1 (show f_X12_in (-1) 48 57 = some 0 by decide) (rt_t rfl (rt_some rfl))
  · have hn0 : nd tc l k a = 0 := Classical.byContradiction (fun z => d0 (by
      have := nd_dg (tc := tc) (l := l) k a 0 (by omega)
      exact this))
    rw [if_pos hn0]
    have hw : nI a ≠ -1 := m1_ne (by omega)
    refine re3 (m_dF (lo := 0) h (by omega) (by omega) d0) ?_
    refine rl4 1 (fun j v2 v3 at' w => v2 = 0 ∧ at' = nI a ∧ w = nI a) (by omega) ⟨rfl, rfl, rfl⟩ ?_
    rintro rc j v2 v3 at' w ⟨rfl, rfl, rfl⟩ ih
    unfold s_X12_number_t_10
    exact rt_if (fun _ => rt_some rfl) (fun _ => re1 (m_fine_f hw) (rt_t rfl (rt_some rfl)))
end
