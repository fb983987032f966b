/-! beat, law -/
theorem m1_t {a : Nat} (h : a < 2 ^ 31) : (nI a - 1).toInt = (a : Int) - 1 := by
  cases a with
  | zero => decide
  | succ a => rw [nI_pred, nI_toInt (by omega)]; omega
theorem m1_le {a b : Nat} (ha : a < 2 ^ 31) (hb : b < 2 ^ 31) : (nI a - 1 ≤ nI b - 1) ↔ a ≤ b := by
  rw [Int32.le_iff_toInt_le, m1_t ha, m1_t hb]; omega
theorem m1_eq {a b : Nat} (ha : a < 2 ^ 31) (hb : b < 2 ^ 31) : (nI a - 1 = nI b - 1) ↔ a = b := by
  rw [← Int32.toInt_inj, m1_t ha, m1_t hb]; omega
theorem m1_neg {a : Nat} (ha : a < 2 ^ 31) : (nI a - 1 < 0) ↔ a = 0 := by
  rw [Int32.lt_iff_toInt_lt, m1_t ha, show (0 : Int32).toInt = 0 from rfl]; omega
theorem m1_0le {a : Nat} (ha : a < 2 ^ 31) : (0 ≤ nI a - 1) ↔ 0 < a := by
  rw [Int32.le_iff_toInt_le, m1_t ha, show (0 : Int32).toInt = 0 from rfl]; omega
theorem m1_s {a : Nat} (ha : 0 < a) : nI a - 1 = nI (a - 1) := by rw [c_1, pk_sub (by omega)]
theorem nI_mx0 {a b : Nat} (ha : a < 1048576) (hb : b < 1048576) : (if 0 < nI a - nI b then nI a - nI b else 0) = nI (a - b) := by
  by_cases h : a < b
  · rw [if_neg (fun q => i_asy q (pk_sneg (by omega) h)), show a - b = 0 by omega]; rfl
  · rw [pk_sub (by omega)]
    by_cases e : a - b = 0
    · rw [e]; rfl
    · rw [if_pos (show (0 : Int32) < nI (a - b) from nI_lt (a := 0) (by omega) (by omega))]
theorem plF_step {n : Nat} {fa te : Nat → Nat} {u : Nat} (h : plF n fa te 0 u < plF n fa te 0 (u + 1)) : ∃ j, j < n ∧ fa j = 0 ∧ te j = u + 1 := by
  refine Classical.byContradiction (fun hc => ?_)
  have : ct (pf fa te 0 u) n = ct (pf fa te 0 (u + 1)) n := by
    refine ct_congr n (fun k hk => ?_)
    unfold pf
    have : ¬ (fa k = 0 ∧ te k = u + 1) := fun q => hc ⟨k, hk, q⟩
    rw [decide_eq_decide]
    omega
  unfold plF at h
  omega
/-- b - 1 is the slowest that takes the place p, or b = 0 -/
def btS (n : Nat) (fa te : Nat → Nat) (p b : Nat) : Prop := b ≤ 10000 ∧ (0 < b → plF n fa te 0 (b - 1) ≤ p) ∧ ∀ u, b ≤ u → u ≤ 9999 → p < plF n fa te 0 u
theorem btS_u {n : Nat} {fa te : Nat → Nat} {p b c : Nat} (h1 : btS n fa te p b) (h2 : btS n fa te p c) : b = c := by
  obtain ⟨a1, a2, a3⟩ := h1
  obtain ⟨b1, b2, b3⟩ := h2
  rcases Nat.lt_trichotomy b c with h | h | h
  · have := a3 (c - 1) (by omega) (by omega)
    have := b2 (by omega)
    omega
  · exact h
  · have := b3 (b - 1) (by omega) (by omega)
    have := a2 (by omega)
    omega
theorem bt_all {n : Nat} {fa te : Nat → Nat} {p b : Nat} (h9 : p < plF n fa te 0 9999) (hj : ∀ j, j < n → fa j = 0 → 0 < te j → plF n fa te 0 (te j - 1) ≤ p → te j ≤ b) : ∀ d u, u + d = 9999 → b ≤ u → p < plF n fa te 0 u := by
  intro d
  induction d with
  | zero => intro u hu hb; rw [show u = 9999 by omega]; exact h9
  | succ d ih =>
    intro u hu hb
    have h1 := ih (u + 1) (by omega) (by omega)
    refine Classical.byContradiction (fun hc => ?_)
    obtain ⟨j, hjn, f0, e⟩ := plF_step (show plF n fa te 0 u < plF n fa te 0 (u + 1) by omega)
    have := hj j hjn f0 (by omega) (by rw [e]; show plF n fa te 0 u ≤ p; omega)
    omega
def bg (t a s : Nat) : Nat := if t ≤ a then 0 else (t - a + s - 1) / s
theorem bg_le {t a s : Nat} (hs : 0 < s) : bg t a s ≤ t := by
  unfold bg
  split
  · omega
  · rcases Nat.eq_or_lt_of_le hs with h | h
    · rw [← h, Nat.div_one]; omega
    · apply Nat.div_le_of_le_mul
      have : t ≤ 1 * t := by omega
      have h2 : t - a + s - 1 ≤ (t - a) + (s - 1) := by omega
      obtain ⟨s, rfl⟩ : ∃ q, s = q + 2 := ⟨s - 2, by omega⟩
      have h3 : s + 1 ≤ (s + 1) * t := Nat.le_mul_of_pos_right _ (by omega)
      have : (s + 2) * t = (s + 1) * t + t := by rw [← Nat.succ_mul]
      omega
theorem x_begun {t a s : Nat} (ht : t < 1048576) (ha : a < 1048576) (hs : 0 < s) (hs2 : s < 1048576) : f_X11_begun (nI t) (nI a) (nI s) = some (nI (bg t a s)) := by
  unfold f_X11_begun bg
  by_cases h : t ≤ a
  · rw [if_pos (nI_le h (by omega)), if_pos h]; rfl
  · rw [if_neg (nI_ge (by omega) (by omega)), if_neg h, if_pos (show (0 : Int32) < nI s from nI_lt (a := 0) hs (by omega))]
    simp (disch := omega) only [gz, c_1, pk_sub, nI_add, pk_div]
theorem m_timeFaults {t a s m : Nat} (ht : t < 1048576) (ha : a < 1048576) (hs : 0 < s) (hs2 : s < 1048576) : f_X12_timeFaults (nI t) (nI s) (nI m) (nI a) = some (nI (bg t a s * m)) := by
  unfold f_X12_timeFaults bg
  by_cases h : t ≤ a
  · rw [if_neg (nI_nlt h (by omega)), if_pos h, Nat.zero_mul]; rfl
  · rw [if_pos (nI_lt (by omega) (by omega)), if_neg h]
    simp (disch := omega) only [gz, c_1, pk_sub, nI_add, pk_div, pk_mul]
section
variable {n r al : Nat} {fa te mo : Nat → Nat} {tf tx tm mm mn : Nat → Int32} {nt mt : Nat → Int64}
theorem x_beatK (h : tC n fa te tf tx) (hc : okY mo tm) {p b : Nat} (hb : btS n fa te p b) : Rt (k_X11_beat_36 (nI r) (nI n) tf tx tm nt (nI b - 1)) (fun a => ∃ b, btS n fa te p b ∧ ((b = 0 ∧ a = (-2, nI r, nt)) ∨ (0 < b ∧ a = (nI (b - 1), nI 1, r1 nt (nI (mny mo (plF n fa te 0 (b - 1)))).toInt64)))) := by
  have hp := plF_lt (fa := fa) (te := te) (a := 0) (b := b - 1) h.1
  have hb1 := hb.1
  unfold k_X11_beat_36
  by_cases b0 : b = 0
  · subst b0
    exact rt_t rfl (rt_some ⟨0, hb, .inl ⟨rfl, rfl⟩⟩)
  · rw [m1_s (by omega)]
    exact rt_f (m1_ne (by omega)) (re1 (x_start _) (re1 (x_placeFor (a := 0) h (by omega) (by omega)) (re1 (x_moneyAt hc hp.2 hp.1) (re2 (x_put0 _ _) (rt_some ⟨b, hb, .inr ⟨by omega, rfl⟩⟩)))))
theorem x_beat (h : tC n fa te tf tx) (hc : okY mo tm) (hB : ∀ i, i < n → te i ≤ 9999) {p : Nat} (h1 : 1 ≤ p) (h12 : p ≤ 12) : Rt (f_X11_beat (nI p) (nI r) (nI n) tf tx tm nt) (fun a => ∃ b, btS n fa te p b ∧ ((b = 0 ∧ a = (-2, nI r, nt)) ∨ (0 < b ∧ a = (nI (b - 1), nI 1, r1 nt (nI (mny mo (plF n fa te 0 (b - 1)))).toInt64)))) := by
  have hn := h.1
  have hp9 := plF_lt (fa := fa) (te := te) (a := 0) (b := 9999) h.1
  unfold f_X11_beat
  refine rt_f (nI_nlt (a := p) (b := 1) (by omega) (by omega)) (rt_t (nI_le (b := 12) (by omega) (by omega)) (re1 (x_placeFor (a := 0) (b := 9999) h (by omega) (by omega)) ?_))
  unfold j_X11_beat_34
  by_cases h9 : p < plF n fa te 0 9999
  · refine rt_t (nI_lt h9 (by omega)) ?_
    refine rl2 12 (fun k v2 v3 => ∃ b, v2 = nI b - 1 ∧ v3 = nI k ∧ k ≤ n ∧ b ≤ 9999 ∧ (0 < b → plF n fa te 0 (b - 1) ≤ p) ∧ ∀ j, j < k → fa j = 0 → 0 < te j → plF n fa te 0 (te j - 1) ≤ p → te j ≤ b) (by omega) ⟨0, rfl, rfl, by omega, by omega, by omega, by omega⟩ ?_
    rintro rc k v2 v3 ⟨b, rfl, rfl, hk, hb9, hb0, hj⟩ ih
    unfold s_X11_beat_36
    by_cases hkn : n ≤ k
    · obtain rfl : k = n := by omega
      refine rt_t (nI_le (Nat.le_refl _) (by omega)) (x_beatK h hc ⟨by omega, hb0, fun u hu h9' => bt_all h9 hj (9999 - u) u (by omega) hu⟩)
    · obtain ⟨⟨b1, b2⟩, e1, e2⟩ := h.2 k (by omega)
      have hB' := hB k (by omega)
      have hpk := plF_lt (fa := fa) (te := te) (a := 0) (b := te k - 1) h.1
      refine rt_f (nI_ge (by omega) (by omega)) (rt_f (fun q => ?_) ?_)
      · have := (m1_eq (b := 10000) (by omega) (by omega)).mp q
        omega
      · simp (disch := omega) only [gx, nI_clamp, e1, e2, lt1_e, c_0, nI_eq, m1_le, nI_1]
        refine rt_if (fun f0 => rt_if (fun hle => ?_) (fun hgt => ?_)) (fun f0 => ?_)
        · refine ih (by omega) _ _ ⟨b, rfl, rfl, by omega, hb9, hb0, fun j hjk hf ht hpl => ?_⟩
          by_cases e : j = k
          · subst e; exact hle
          · exact hj j (by omega) hf ht hpl
        · rw [m1_s (show 0 < te k by omega)]
          refine re1 (x_placeFor (a := 0) h (by omega) (by omega)) (rt_if (fun hlt => ?_) (fun hge => ?_))
          · rw [nI_ltI (by omega) (by omega)] at hlt
            refine ih (by omega) _ _ ⟨b, rfl, rfl, by omega, hb9, hb0, fun j hjk hf ht hpl => ?_⟩
            by_cases e : j = k
            · subst e; omega
            · exact hj j (by omega) hf ht hpl
          · rw [nI_ltI (by omega) (by omega)] at hge
            refine ih (by omega) _ _ ⟨te k, (m1_s (by omega)).symm, rfl, by omega, by omega, by omega, fun j hjk hf ht hpl => ?_⟩
            by_cases e : j = k
            · subst e; omega
            · have := hj j (by omega) hf ht hpl
              omega
        · refine ih (by omega) _ _ ⟨b, rfl, rfl, by omega, hb9, hb0, fun j hjk hf ht hpl => ?_⟩
          by_cases e : j = k
          · subst e; omega
          · exact hj j (by omega) hf ht hpl
  · refine rt_f (nI_nlt (by omega) (by omega)) ?_
    have hk := x_beatK (r := r) (nt := nt) h hc (p := p) (b := 10000) ⟨by omega, fun _ => by show plF n fa te 0 9999 ≤ p; omega, fun u hu hu2 => by omega⟩
    refine rl2 12 (fun k v2 v3 => v2 = 9999) (by omega) rfl ?_
    rintro rc k v2 v3 rfl ih
    unfold s_X11_beat_36
    exact rt_if (fun _ => hk) (fun _ => rt_t rfl hk)
theorem m_beat (h : tN n fa te mn) (hc : okY mo mm) {p : Nat} (h1 : 1 ≤ p) (h12 : p ≤ 12) (tw : Int32) : Rt (f_X12_beat (nI p) (nI r) tw mn mm mt) (fun a => ∃ b, btS n fa te p b ∧ ((b = 0 ∧ a = (-2, nI r, 0, mt)) ∨ (0 < b ∧ a = (nI (b - 1), nI 1, 0, r1 mt (nI (mny mo (plF n fa te 0 (b - 1)))).toInt64)))) := by
  have hn := h.1
  have e1 : f_X12_in (nI p) 1 12 = some 1 := by
    unfold f_X12_in
    rw [c_1, c_12, if_neg (nI_nlt (a := p) (b := 1) (by omega) (by omega)), if_neg (nI_nlt (a := 12) (by omega) (by omega))]
  unfold f_X12_beat
  refine re1 e1 (rt_f i10n ?_)
  refine rl1 10000 (fun k v2 => ∃ b, v2 = nI b - 1 ∧ b + k = 10000 ∧ ∀ u, b ≤ u → u ≤ 9999 → p < plF n fa te 0 u) (by omega) ⟨10000, rfl, rfl, by omega⟩ ?_
  rintro rc k v2 ⟨b, rfl, hk, hu⟩ ih
  have hK : btS n fa te p b → Rt (k_X12_beat_21 (nI r) mn mm mt (nI b - 1)) (fun a => ∃ b, btS n fa te p b ∧ ((b = 0 ∧ a = (-2, nI r, 0, mt)) ∨ (0 < b ∧ a = (nI (b - 1), nI 1, 0, r1 mt (nI (mny mo (plF n fa te 0 (b - 1)))).toInt64)))) := by
    intro hb
    have hp := plF_lt (fa := fa) (te := te) (a := 0) (b := b - 1) h.1
    unfold k_X12_beat_21
    by_cases b0 : b = 0
    · subst b0
      exact rt_f (by decide) (rt_some ⟨0, hb, .inl ⟨rfl, rfl⟩⟩)
    · rw [m1_s (by omega)]
      exact rt_t (nI_le (a := 0) (by omega) (by omega)) (re1 (m_placeFor (a := 0) h (by omega) (by omega)) (re1 (m_moneyOf hc hp.2 hp.1) (re2 (m_tell0 _ _) (rt_some ⟨b, hb, .inr ⟨by omega, rfl⟩⟩))))
  unfold s_X12_beat_21
  by_cases b0 : b = 0
  · exact rt_t ((m1_neg (by omega)).mpr b0) (hK ⟨by omega, by omega, hu⟩)
  · refine rt_f (fun q => b0 ((m1_neg (by omega)).mp q)) ?_
    have hp := plF_lt (fa := fa) (te := te) (a := 0) (b := b - 1) h.1
    have e2 : f_X12_placeFor_m_now 0 (nI b - 1) mn = some (nI (plF n fa te 0 (b - 1))) := by
      rw [m1_s (by omega)]; exact m_placeFor (a := 0) h (by omega) (by omega)
    refine re1 e2 (rt_if (fun hle => ?_) (fun hgt => ?_))
    · rw [nI_leI (by omega) (by omega)] at hle
      exact hK ⟨by omega, fun _ => hle, hu⟩
    · rw [nI_leI (by omega) (by omega)] at hgt
      refine rt_lt (ih (by omega) _ ⟨b - 1, ?_, by omega, fun u hu1 hu2 => ?_⟩)
      · rw [m1_s (by omega), nI_bd]
      · by_cases e : u = b - 1
        · subst e; omega
        · exact hu u (by omega) hu2
theorem pr_beat (h : tC n fa te tf tx) (h2 : tN n fa te mn) (hc : okY mo tm) (hm : okY mo mm) (hB : ∀ i, i < n → te i ≤ 9999) (hR : rowE r nt mt) (p1 tw : Int32) : Rt (f_X11_beat p1 (nI r) (nI n) tf tx tm nt) (fun a => Rt (f_X12_beat p1 (nI r) tw mn mm mt) (fun b => a.1 = b.1 ∧ b.2.2.1 = 0 ∧ ∃ r, a.2.1 = nI r ∧ b.2.1 = nI r ∧ rowE r a.2.2 b.2.2.2)) := by
  have hF : (p1 < 1 ∨ ¬ p1 ≤ 12) → Rt (f_X11_beat p1 (nI r) (nI n) tf tx tm nt) (fun a => Rt (f_X12_beat p1 (nI r) tw mn mm mt) (fun b => a.1 = b.1 ∧ b.2.2.1 = 0 ∧ ∃ r, a.2.1 = nI r ∧ b.2.1 = nI r ∧ rowE r a.2.2 b.2.2.2)) := by
    intro ho
    have e1 : f_X12_in p1 1 12 = some 0 := by
      unfold f_X12_in
      by_cases q : p1 < 1
      · rw [if_pos q]
      · rcases ho with ho | ho
        · exact absurd ho q
        · rw [if_neg q, if_pos (Int32.not_le.mp ho)]
    have e2 : f_X11_beat p1 (nI r) (nI n) tf tx tm nt = some (-1, nI r, nt) := by
      unfold f_X11_beat
      by_cases q : p1 < 1
      · rw [if_pos q]
      · rcases ho with ho | ho
        · exact absurd ho q
        · rw [if_neg q, if_neg ho]
    refine rt_e e2 ?_
    unfold f_X12_beat
    exact re1 e1 (rt_t rfl (rt_some ⟨rfl, rfl, r, rfl, rfl, hR⟩))
  rcases bel p1 13 (by omega) with ⟨p, hp, rfl⟩ | ho
  · by_cases h0 : p = 0
    · subst h0; exact hF (.inl (by decide))
    · refine rt_and (x_beat (r := r) (nt := nt) h hc hB (show 1 ≤ p by omega) (by omega)) (m_beat (r := r) (mt := mt) h2 hm (show 1 ≤ p by omega) (by omega) tw) ?_
      rintro a b ⟨b1, hb1, ha⟩ ⟨b2, hb2, hb⟩
      obtain rfl := btS_u hb1 hb2
      rcases ha with ⟨z1, rfl⟩ | ⟨z1, rfl⟩
      · rcases hb with ⟨z2, rfl⟩ | ⟨z2, rfl⟩
        · exact ⟨rfl, rfl, r, rfl, rfl, hR⟩
        · omega
      · rcases hb with ⟨z2, rfl⟩ | ⟨z2, rfl⟩
        · omega
        · exact ⟨rfl, rfl, 1, rfl, rfl, rowE_r1⟩
  · refine hF ?_
    rcases ho with ho | ho
    · refine .inl ?_
      rw [Int32.lt_iff_toInt_lt] at ho ⊢
      rw [show (0 : Int32).toInt = 0 from rfl] at ho
      rw [show (1 : Int32).toInt = 1 from rfl]; omega
    · refine .inr (fun q => ?_)
      rw [Int32.le_iff_toInt_le] at ho q
      rw [nI_toInt (by omega)] at ho
      rw [show (12 : Int32).toInt = 12 from rfl] at q
      omega
/-- faults by another law -/
def nw (al s m : Nat) (fa te : Nat → Nat) (i : Nat) : Nat := fa i - bg (te i) al 40 + m * bg (te i) al s
theorem x_law (h : tC n fa te tf tx) (hB : ∀ i, i < n → fa i ≤ 2000 ∧ te i ≤ 9999) (ha : al ≤ 9999) {s m : Nat} (h1 : 1 ≤ s) (h999 : s ≤ 999) (hm : m ≤ 9) (nf : Nat → Int32) : Rt (f_X11_law (nI s) (nI m) (nI r) (nI al) (nI n) tf tx nf nt) (fun a => a.1 = nI (ct (fun i => decide (¬ plO n (nw al s m fa te) te i = plO n fa te i)) n) ∧ a.2.1 = nI (og (plO n (nw al s m fa te) te) n n (0, nt)).1 ∧ a.2.2.2 = (og (plO n (nw al s m fa te) te) n n (0, nt)).2) := by
  have hn := h.1
  unfold f_X11_law
  refine rt_f (nI_nlt (a := s) (b := 1) (by omega) (by omega)) (rt_f (nI_nlt (a := 999) (by omega) (by omega)) (rt_f (nI_pos (by omega)) (rt_t (nI_le (b := 9) (by omega) (by omega)) ?_)))
  refine rl2 12 (fun k v3 nf => v3 = nI k ∧ k ≤ n ∧ ∀ i, i < k → nf i = nI (nw al s m fa te i)) (by omega) ⟨rfl, by omega, by omega⟩ ?_
  rintro rc k v3 nf ⟨rfl, hk, hI⟩ ih
  unfold s_X11_law_26
  by_cases hkn : n ≤ k
  · obtain rfl : k = n := by omega
    refine rt_t (nI_le (Nat.le_refl _) (by omega)) ?_
    unfold k_X11_law_26
    have hw : tC k (nw al s m fa te) te nf tx := by
      refine ⟨hn, fun i hi => ⟨⟨?_, (h.2 i hi).1.2⟩, hI i hi, (h.2 i hi).2.2⟩⟩
      have := hB i hi
      have b1 := bg_le (t := te i) (a := al) (s := s) (by omega)
      have b2 : m * bg (te i) al s ≤ 9 * 9999 := Nat.mul_le_mul hm (by omega)
      unfold nw; omega
    refine rl2 12 (fun j v3 v4 => v3 = nI (ct (fun i => decide (¬ plO k (nw al s m fa te) te i = plO k fa te i)) j) ∧ v4 = nI j ∧ j ≤ k) (by omega) ⟨rfl, rfl, by omega⟩ ?_
    rintro rc2 j v3 v4 ⟨rfl, rfl, hj⟩ ih2
    unfold s_X11_law_120
    by_cases hjk : k ≤ j
    · obtain rfl : j = k := by omega
      refine rt_t (nI_le (Nat.le_refl _) (by omega)) ?_
      unfold k_X11_law_120
      exact re2 (x_tellOrderN hw _) (rt_some ⟨rfl, rfl, rfl⟩)
    · have p1 := plO_lt (fa := nw al s m fa te) (te := te) (k := j) hn
      have p2 := plO_lt (fa := fa) (te := te) (k := j) hn
      refine rt_f (nI_ge (by omega) (by omega)) (re1 (x_placeOfN hw (by omega)) (re1 (x_placeOf h (by omega)) ?_))
      simp (disch := omega) only [nI_eq, lt1_e, nI_add, c_1, c_0]
      refine rt_if (fun q => ?_) (fun q => ?_)
      all_goals
        refine ih2 (by omega) _ _ ⟨congrArg nI ?_, rfl, by omega⟩
        rw [ct]
        simp only [decide_eq_true_eq]
        split <;> omega
  · obtain ⟨⟨b1, b2⟩, e1, e2⟩ := h.2 k (by omega)
    have hB' := hB k (by omega)
    have g1 := bg_le (t := te k) (a := al) (s := s) (by omega)
    have g2 := bg_le (t := te k) (a := al) (s := 40) (by omega)
    refine rt_f (nI_ge (by omega) (by omega)) ?_
    simp (disch := omega) only [gx, nI_clamp, e1, e2, c_40, x_begun, bd1_e, lt1_e, nI_mx0, pk_mul, nI_add, nI_1]
    refine ih (by omega) _ _ ⟨rfl, by omega, fun i hi => ?_⟩
    by_cases e : i = k
    · subst e; rw [upd_s]; rfl
    · rw [upd_n e]; exact hI i (by omega)
theorem lay_then (mn t0 : Nat → Int32) : Rt (f_X12_lay_m_now_m_then 0 mn t0) (fun g => ∀ i, i < 49 → g i = mn i) := by
  unfold f_X12_lay_m_now_m_then
  refine rl2 49 (fun k v3 g => v3 = nI k ∧ k ≤ 49 ∧ ∀ i, i < k → g i = mn i) (by omega) ⟨rfl, by omega, by omega⟩ ?_
  rintro rc k v3 g ⟨rfl, hk, hI⟩ ih
  unfold s_X12_lay_m_now_m_then_2
  by_cases hkn : 49 ≤ k
  · obtain rfl : k = 49 := by omega
    exact rt_t (by decide) (rt_some hI)
  · refine rt_f (nI_ge (b := 49) (by omega) (by omega)) ?_
    simp (disch := omega) only [gx, c_0, nI_add, Nat.zero_add, lt1_e, nI_1, nI_clamp]
    refine ih (by omega) _ _ ⟨rfl, by omega, fun i hi => ?_⟩
    by_cases e : i = k
    · subst e; rw [upd_s]
    · rw [upd_n e]; exact hI i (by omega)
theorem m_law (h : tN n fa te mn) (hB : ∀ i, i < n → fa i ≤ 2000 ∧ te i ≤ 9999) (ha : al ≤ 9999) {s m : Nat} (h1 : 1 ≤ s) (h999 : s ≤ 999) (hm : m ≤ 9) (tw : Int32) (t0 : Nat → Int32) : Rt (f_X12_law (nI s) (nI m) (nI al) (nI r) tw mn t0 mt) (fun a => a.1 = nI (ct (fun i => decide (¬ plO n (nw al s m fa te) te i = plO n fa te i)) n) ∧ a.2.1 = nI (og (plO n (nw al s m fa te) te) n n (0, mt)).1 ∧ a.2.2.1 = 0 ∧ a.2.2.2.2 = (og (plO n (nw al s m fa te) te) n n (0, mt)).2) := by
  have hn := h.1
  have e1 : f_X12_in (nI s) 1 999 = some 1 := by
    unfold f_X12_in
    rw [c_1, c_999, if_neg (nI_nlt (a := s) (b := 1) (by omega) (by omega)), if_neg (nI_nlt (a := 999) (by omega) (by omega))]
  unfold f_X12_law
  refine re1 e1 (rt_f i10n (re1 (m_inT (n := 9) (by omega) (by omega)) (rt_f i10n (rb1 (lay_then mn t0) ?_))))
  intro g hg
  refine rl2 12 (fun k v3 g => v3 = nI k ∧ k ≤ n ∧ g 48 = nI n ∧ ∀ i, i < n → g (4 * i + 3) = nI (te i) ∧ g (4 * i + 2) = nI (if i < k then nw al s m fa te i else fa i)) (by omega) ⟨rfl, by omega, by rw [hg 48 (by omega)]; exact h.2.1, fun i hi => ?_⟩ ?_
  · rw [hg _ (by omega), hg _ (by omega), if_neg (by omega)]
    exact ⟨(h.2.2 i hi).2.2, (h.2.2 i hi).2.1⟩
  rintro rc k v3 g ⟨rfl, hk, h48, hI⟩ ih
  unfold s_X12_law_42
  simp (disch := omega) only [c_48, gx, nI_clamp, h48]
  by_cases hkn : n ≤ k
  · obtain rfl : k = n := by omega
    refine rt_t (nI_le (Nat.le_refl _) (by omega)) ?_
    unfold k_X12_law_42
    have hw : tN k (nw al s m fa te) te g := by
      refine ⟨hn, h48, fun i hi => ⟨⟨?_, (h.2.2 i hi).1.2⟩, ?_, (hI i hi).1⟩⟩
      · have := hB i hi
        have b1 := bg_le (t := te i) (a := al) (s := s) (by omega)
        have b2 : m * bg (te i) al s ≤ 9 * 9999 := Nat.mul_le_mul hm (by omega)
        unfold nw; omega
      · rw [(hI i hi).2, if_pos hi]
    refine rl2 12 (fun j v3 v4 => v3 = nI (ct (fun i => decide (¬ plO k (nw al s m fa te) te i = plO k fa te i)) j) ∧ v4 = nI j ∧ j ≤ k) (by omega) ⟨rfl, rfl, by omega⟩ ?_
    rintro rc2 j v3 v4 ⟨rfl, rfl, hj⟩ ih2
    unfold s_X12_law_119
    simp (disch := omega) only [c_48, gx, nI_clamp, h48]
    by_cases hjk : k ≤ j
    · obtain rfl : j = k := by omega
      refine rt_t (nI_le (Nat.le_refl _) (by omega)) ?_
      unfold k_X12_law_119
      exact re2 (m_tellPlacesN hw) (rt_some ⟨rfl, rfl, rfl, rfl⟩)
    · have p1 := plO_lt (fa := nw al s m fa te) (te := te) (k := j) hn
      have p2 := plO_lt (fa := fa) (te := te) (k := j) hn
      refine rt_f (nI_ge (by omega) (by omega)) (re1 (m_placeOfN hw (by omega)) (re1 (m_placeOf h (by omega)) ?_))
      simp (disch := omega) only [nI_eq, lt1_e, nI_add, c_1, c_0]
      refine rt_if (fun q => ?_) (fun q => ?_)
      all_goals
        refine ih2 (by omega) _ _ ⟨congrArg nI ?_, rfl, by omega⟩
        rw [ct]
        simp only [decide_eq_true_eq]
        split <;> omega
  · obtain ⟨⟨b1, b2⟩, e1, e2⟩ := h.2.2 k (by omega)
    obtain ⟨e3, e4⟩ := hI k (by omega)
    rw [if_neg (by omega)] at e4
    have hB' := hB k (by omega)
    have g1 := bg_le (t := te k) (a := al) (s := s) (by omega)
    have g2 := bg_le (t := te k) (a := al) (s := 40) (by omega)
    refine rt_f (nI_ge (by omega) (by omega)) ?_
    simp (disch := omega) only [c_4, c_3, c_2, c_1, pk_mul, nI_add, gx, nI_clamp, e3, e4, c_40, m_timeFaults, bd1_e, lt1_e, Nat.mul_one, nI_mx0]
    refine ih (by omega) _ _ ⟨rfl, by omega, ?_, fun i hi => ?_⟩
    · rw [upd_n (by omega)]; exact h48
    · rw [upd_n (by omega)]
      refine ⟨(hI i hi).1, ?_⟩
      by_cases e : i = k
      · subst e
        rw [upd_s, if_pos (by omega), nw, Nat.mul_comm m]
      · rw [upd_n (by omega), (hI i hi).2]
        congr 1
        split <;> split <;> first | rfl | omega
theorem pr_law (h : tC n fa te tf tx) (h2 : tN n fa te mn) (hB : ∀ i, i < n → fa i ≤ 2000 ∧ te i ≤ 9999) (ha : al ≤ 9999) (hR : rowE r nt mt) (p1 p2 tw : Int32) (nf t0 : Nat → Int32) : Rt (f_X11_law p1 p2 (nI r) (nI al) (nI n) tf tx nf nt) (fun a => Rt (f_X12_law p1 p2 (nI al) (nI r) tw mn t0 mt) (fun b => a.1 = b.1 ∧ b.2.2.1 = 0 ∧ ∃ r, a.2.1 = nI r ∧ b.2.1 = nI r ∧ rowE r a.2.2.2 b.2.2.2.2)) := by
  by_cases q1 : p1 < 1
  · unfold f_X11_law
    refine rt_t q1 (rt_some ?_)
    unfold f_X12_law
    exact re1 (show f_X12_in p1 1 999 = some 0 by unfold f_X12_in; rw [if_pos q1]) (rt_t rfl (rt_some ⟨rfl, rfl, r, rfl, rfl, hR⟩))
  · by_cases q2 : 999 < p1
    · unfold f_X11_law
      refine rt_f q1 (rt_t q2 (rt_some ?_))
      unfold f_X12_law
      exact re1 (show f_X12_in p1 1 999 = some 0 by unfold f_X12_in; rw [if_neg q1, if_pos q2]) (rt_t rfl (rt_some ⟨rfl, rfl, r, rfl, rfl, hR⟩))
    · have ein : f_X12_in p1 1 999 = some 1 := by unfold f_X12_in; rw [if_neg q1, if_neg q2]
      rcases bel p2 10 (by omega) with ⟨m, hm, rfl⟩ | ho
      · obtain ⟨s, hs, rfl⟩ : ∃ s, s < 2 ^ 31 ∧ p1 = nI s := nI_of (fun q => q1 (by
          rw [Int32.lt_iff_toInt_lt] at q ⊢
          rw [show (0 : Int32).toInt = 0 from rfl] at q
          rw [show (1 : Int32).toInt = 1 from rfl]; omega))
        rw [c_1, nI_ltI (by omega) (by omega)] at q1
        rw [c_999, nI_ltI (by omega) (by omega)] at q2
        refine rt_and (x_law (r := r) (nt := nt) h hB ha (show 1 ≤ s by omega) (by omega) (show m ≤ 9 by omega) nf) (m_law (r := r) (mt := mt) h2 hB ha (show 1 ≤ s by omega) (by omega) (show m ≤ 9 by omega) tw t0) ?_
        rintro a b ⟨a1, a2, a3⟩ ⟨b1, b2, b3, b4⟩
        have hr := rowE_og (pl := plO n (nw al s m fa te) te) (n := n) (p := n) (nt := nt) (mt := mt) h.1
        refine ⟨a1.trans b1.symm, b3, _, a2, b2.trans (congrArg nI hr.1.symm), ?_⟩
        rw [a3, b4]; exact hr.2
      · refine rt_and (P := fun a => a = (-1, nI r, nf, nt)) (Q := fun b => b = (-1, nI r, 0, t0, mt)) ?_ ?_ ?_
        · unfold f_X11_law
          exact rt_f q1 (rt_f q2 (rt_if (fun _ => rt_some rfl) (fun q3 => rt_f (out_le (n := 9) ho q3 (by omega)) (rt_some rfl))))
        · unfold f_X12_law
          exact re1 ein (rt_f i10n (re1 (m_inF (n := 9) ho (by omega)) (rt_t rfl (rt_some rfl))))
        · rintro a b rfl rfl
          exact ⟨rfl, rfl, r, rfl, rfl, hR⟩
end
