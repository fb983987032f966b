/-! TABLES AS THEY WERE: undo, keep, again -/
def tE (n : Nat) (rd hs fa te : Nat → Nat) (cz : Int32) (cr co cf cx mg : Nat → Int32) : Prop := n ≤ 12 ∧ cz = nI n ∧ mg 48 = nI n ∧ ∀ i, i < n → (rd i < 6 ∧ hs i < 6 ∧ fa i ≤ 2000 ∧ te i ≤ 9999) ∧ (cr i = nI (rd i) ∧ co i = nI (hs i) ∧ cf i = nI (fa i) ∧ cx i = nI (te i)) ∧ (mg (4 * i) = nI (rd i) ∧ mg (4 * i + 1) = nI (hs i) ∧ mg (4 * i + 2) = nI (fa i) ∧ mg (4 * i + 3) = nI (te i))
/-- one table, both sides -/
def tX (cz : Int32) (cr co cf cx mg : Nat → Int32) : Prop := ∃ n rd hs fa te, tE n rd hs fa te cz cr co cf cx mg
theorem tE_C {n : Nat} {rd hs fa te : Nat → Nat} {cz : Int32} {cr co cf cx mg : Nat → Int32} (h : tE n rd hs fa te cz cr co cf cx mg) : tC n fa te cf cx := by
  refine ⟨h.1, fun i hi => ?_⟩
  obtain ⟨⟨_, _, a, b⟩, ⟨_, _, c, d⟩, _⟩ := h.2.2.2 i hi
  exact ⟨⟨by omega, by omega⟩, c, d⟩
theorem tE_N {n : Nat} {rd hs fa te : Nat → Nat} {cz : Int32} {cr co cf cx mg : Nat → Int32} (h : tE n rd hs fa te cz cr co cf cx mg) : tN n fa te mg := by
  refine ⟨h.1, h.2.2.1, fun i hi => ?_⟩
  obtain ⟨⟨_, _, a, b⟩, _, ⟨_, _, c, d⟩⟩ := h.2.2.2 i hi
  exact ⟨⟨by omega, by omega⟩, c, d⟩
theorem tE_B {n : Nat} {rd hs fa te : Nat → Nat} {cz : Int32} {cr co cf cx mg : Nat → Int32} (h : tE n rd hs fa te cz cr co cf cx mg) : ∀ i, i < n → fa i ≤ 2000 ∧ te i ≤ 9999 := by
  intro i hi
  obtain ⟨⟨_, _, a, b⟩, _⟩ := h.2.2.2 i hi
  exact ⟨a, b⟩
theorem tX_congr {cz cz' : Int32} {cr co cf cx mg cr' co' cf' cx' mg' : Nat → Int32} (h : tX cz cr co cf cx mg) (hz : cz' = cz) (h1 : ∀ i, i < 12 → cr' i = cr i) (h2 : ∀ i, i < 12 → co' i = co i) (h3 : ∀ i, i < 12 → cf' i = cf i) (h4 : ∀ i, i < 12 → cx' i = cx i) (hm : ∀ i, i < 49 → mg' i = mg i) : tX cz' cr' co' cf' cx' mg' := by
  obtain ⟨n, rd, hs, fa, te, a1, a2, a3, a4⟩ := h
  refine ⟨n, rd, hs, fa, te, a1, by rw [hz, a2], by rw [hm 48 (by omega), a3], fun i hi => ?_⟩
  rw [h1 i (by omega), h2 i (by omega), h3 i (by omega), h4 i (by omega), hm _ (by omega), hm _ (by omega), hm _ (by omega), hm _ (by omega)]
  exact a4 i hi
def sl (hz hc un : Nat → Int32) (s : Nat) : Prop := tX (hz s) (fun i => hc (48 * s + i)) (fun i => hc (48 * s + 12 + i)) (fun i => hc (48 * s + 24 + i)) (fun i => hc (48 * s + 36 + i)) (fun i => un (49 * s + i))
def okHi (c : Nat) (hc hz un : Nat → Int32) : Prop := c ≤ 12 ∧ ∀ s, s < c → sl hz hc un s
def okKe (kc kz mk ik : Nat → Int32) : Prop := ∀ s, s < 2 → (kz s = -1 ∧ ik s = 0) ∨ (ik s = 1 ∧ sl kz kc mk s)
def st4 (tr to tf tx hc : Nat → Int32) (s : Nat) : Nat → Int32 := va_cpy tx (va_cpy tf (va_cpy to (va_cpy tr hc 0 (48 * s) 12) 0 (48 * s + 12) 12) 0 (48 * s + 24) 12) 0 (48 * s + 36) 12
theorem cpy_i {f g : Nat → Int32} {a b n k i : Nat} (h : k = b + i) (hi : i < n) : va_cpy f g a b n k = f (a + i) := by
  subst h
  unfold va_cpy
  rw [if_pos (by omega), show b + i - b = i by omega]
theorem cpy_o {f g : Nat → Int32} {a b n k : Nat} (h : ¬ (b ≤ k ∧ k < b + n)) : va_cpy f g a b n k = g k := by
  unfold va_cpy
  rw [if_neg h]
section
variable {tr to tf tx hc : Nat → Int32} {s i : Nat}
theorem st4_0 (hi : i < 12) : st4 tr to tf tx hc s (48 * s + i) = tr i := by
  unfold st4
  rw [cpy_o (by omega), cpy_o (by omega), cpy_o (by omega), cpy_i rfl hi, Nat.zero_add]
theorem st4_1 (hi : i < 12) : st4 tr to tf tx hc s (48 * s + 12 + i) = to i := by
  unfold st4
  rw [cpy_o (by omega), cpy_o (by omega), cpy_i rfl hi, Nat.zero_add]
theorem st4_2 (hi : i < 12) : st4 tr to tf tx hc s (48 * s + 24 + i) = tf i := by
  unfold st4
  rw [cpy_o (by omega), cpy_i rfl hi, Nat.zero_add]
theorem st4_3 (hi : i < 12) : st4 tr to tf tx hc s (48 * s + 36 + i) = tx i := by
  unfold st4
  rw [cpy_i rfl hi, Nat.zero_add]
theorem st4_o {j : Nat} (h : j < 48 * s ∨ 48 * s + 48 ≤ j) : st4 tr to tf tx hc s j = hc j := by
  unfold st4
  rw [cpy_o (by omega), cpy_o (by omega), cpy_o (by omega), cpy_o (by omega)]
end
theorem gcp {R : Type} {K : Option R} {a b c n0 n1 : Nat} (h0 : a + c ≤ n0) (h1 : b + c ≤ n1) (hn0 : n0 < 2 ^ 30) (hn1 : n1 < 2 ^ 30) : gd (cpok (nI a) (nI b) (nI c) n0 n1) K = K := by
  refine gd_t ?_
  unfold cpok
  rw [decide_eq_true_eq, nI_clamp (by omega), nI_clamp (by omega), nI_clamp (by omega)]
  exact ⟨nI_pos (by omega), nI_pos (by omega), nI_pos (by omega), h0, h1⟩
section
variable {c n : Nat} {cz tw : Int32} {tr to tf tx hc hz un mn kc kz mk ik : Nat → Int32}
theorem x_mark (h : c ≤ 12) : f_X8_mark_history cz 13 (nI c) tr to tf tx hc hz = some (st4 tr to tf tx hc c, upd hz c cz) := by
  refine rt_get ?_
  unfold f_X8_mark_history
  have e : f_X8_store_history (nI c) cz 13 tr to tf tx hc hz = some (1, st4 tr to tf tx hc c, upd hz c cz) := by
    unfold f_X8_store_history
    rw [if_neg (nI_pos (by omega)), c_13, if_pos (nI_lt (by omega) (by omega))]
    simp (disch := omega) only [show (48 : Int32) = nI 48 from rfl, c_12, c_24, c_36, c_0, pk_mul, nI_add, lt1_e, gcp, gx, nI_clamp, Nat.mul_comm c 48]
    rfl
  exact re3 e (rt_some rfl)
theorem sl_mark {s : Nat} (h : s ≠ c) (hs : sl hz hc un s) : sl (upd hz c cz) (st4 tr to tf tx hc c) un s := by
  refine tX_congr hs (upd_n h) ?_ ?_ ?_ ?_ (fun _ _ => rfl)
  all_goals
    intro i hi
    exact st4_o (by omega)
theorem okHi_mark (h : okHi c hc hz un) : okHi c (st4 tr to tf tx hc c) (upd hz c cz) un := ⟨h.1, fun s hs => sl_mark (by omega) (h.2 s hs)⟩
theorem x_commit (h : c ≤ 12) : f_X8_commit_history 13 (nI c) hc hz = some (if c < 12 then (nI (c + 1), hc, hz) else (nI 12, va_cpy hc hc 48 0 576, va_cpy hz hz 1 0 12)) := by
  unfold f_X8_commit_history
  rw [show (13 : Int32) - 1 = nI 12 from by decide]
  by_cases hc : c < 12
  · rw [if_neg (nI_ge hc (by omega)), if_pos hc, nI_1]
  · obtain rfl : c = 12 := by omega
    rw [if_pos (nI_le (Nat.le_refl _) (by omega)), if_neg hc]
    simp (disch := omega) only [show (48 : Int32) = nI 48 from rfl, c_1, c_0, pk_mul, gcp, nI_clamp]
def puU (c : Nat) (un mn un' : Nat → Int32) (c' : Nat) : Prop := (c < 12 ∧ c' = c + 1 ∧ (∀ j, j < 49 * c → un' j = un j) ∧ ∀ i, i < 49 → un' (49 * c + i) = mn i) ∨ (c = 12 ∧ c' = 12 ∧ (∀ j, j < 539 → un' j = un (j + 49)) ∧ ∀ i, i < 49 → un' (539 + i) = mn i)
theorem lay_und {c : Nat} (hc : c < 12) (mn un : Nat → Int32) : Rt (f_X12_lay_m_now_m_undos (nI (49 * c)) mn un) (fun g => (∀ j, j < 49 * c → g j = un j) ∧ ∀ i, i < 49 → g (49 * c + i) = mn i) := by
  unfold f_X12_lay_m_now_m_undos
  refine rl2 49 (fun k v3 g => v3 = nI k ∧ k ≤ 49 ∧ (∀ j, j < 49 * c → g j = un j) ∧ ∀ i, i < k → g (49 * c + i) = mn i) (by omega) ⟨rfl, by omega, fun _ _ => rfl, by omega⟩ ?_
  rintro rc k v3 g ⟨rfl, hk, h0, hI⟩ ih
  unfold s_X12_lay_m_now_m_undos_2
  by_cases hkn : 49 ≤ k
  · obtain rfl : k = 49 := by omega
    exact rt_t (by decide) (rt_some ⟨h0, hI⟩)
  · refine rt_f (nI_ge (b := 49) (by omega) (by omega)) ?_
    simp (disch := omega) only [gx, nI_add, lt1_e, nI_1, nI_clamp]
    refine ih (by omega) _ _ ⟨rfl, by omega, fun j hj => ?_, fun i hi => ?_⟩
    · rw [upd_n (by omega)]; exact h0 j hj
    · by_cases e : i = k
      · subst e; rw [upd_s]
      · rw [upd_n (by omega)]; exact hI i (by omega)
theorem m_remember (h : c ≤ 12) : Rt (f_X12_remember_m_now (nI c) mn un) (fun b => ∃ c', b.1 = nI c' ∧ puU c un mn b.2 c') := by
  unfold f_X12_remember_m_now
  by_cases hc : c = 12
  · subst hc
    refine rt_t rfl ?_
    refine rl2 539 (fun k v2 g => v2 = nI k ∧ k ≤ 539 ∧ (∀ j, j < k → g j = un (j + 49)) ∧ ∀ j, k ≤ j → g j = un j) (by omega) ⟨rfl, by omega, by omega, fun _ _ => rfl⟩ ?_
    rintro rc k v2 g ⟨rfl, hk, h0, hI⟩ ih
    unfold s_X12_remember_m_now_11
    by_cases hkn : 539 ≤ k
    · obtain rfl : k = 539 := by omega
      refine rt_t (by decide) ?_
      unfold k_X12_remember_m_now_11 j_X12_remember_m_now_49
      rw [show nI 12 - 1 = nI 11 from by decide, show (49 : Int32) * nI 11 = nI (49 * 11) from by decide]
      refine rb1 (lay_und (c := 11) (by omega) _ _) ?_
      rintro g2 ⟨g3, g4⟩
      exact rt_some ⟨12, rfl, .inr ⟨rfl, rfl, fun j hj => (g3 j hj).trans (h0 j hj), g4⟩⟩
    · refine rt_f (nI_ge (b := 539) (by omega) (by omega)) ?_
      simp (disch := omega) only [show (49 : Int32) = nI 49 from rfl, gx, nI_add, lt1_e, nI_1, nI_clamp]
      refine ih (by omega) _ _ ⟨rfl, by omega, fun j hj => ?_, fun j hj => ?_⟩
      · by_cases e : j = k
        · subst e; rw [upd_s]; exact hI _ (by omega)
        · rw [upd_n (by omega)]; exact h0 j (by omega)
      · rw [upd_n (by omega)]; exact hI j (by omega)
  · refine rt_f (fun q => hc ((nI_eq (b := 12) (by omega) (by omega)).mp q)) ?_
    unfold j_X12_remember_m_now_49
    rw [show (49 : Int32) = nI 49 from rfl, pk_mul]
    refine rb1 (lay_und (c := c) (by omega) _ _) ?_
    rintro g2 ⟨g3, g4⟩
    exact rt_some ⟨c + 1, nI_1 _, .inl ⟨by omega, rfl, g3, g4⟩⟩
theorem lay_und2 {c : Nat} (hc : c < 12) (mn un : Nat → Int32) : Rt (f_X12_lay_m_aside_m_undos (nI (49 * c)) un mn) (fun g => (∀ j, j < 49 * c → g j = un j) ∧ ∀ i, i < 49 → g (49 * c + i) = mn i) := by
  unfold f_X12_lay_m_aside_m_undos
  refine rl2 49 (fun k v3 g => v3 = nI k ∧ k ≤ 49 ∧ (∀ j, j < 49 * c → g j = un j) ∧ ∀ i, i < k → g (49 * c + i) = mn i) (by omega) ⟨rfl, by omega, fun _ _ => rfl, by omega⟩ ?_
  rintro rc k v3 g ⟨rfl, hk, h0, hI⟩ ih
  unfold s_X12_lay_m_aside_m_undos_2
  by_cases hkn : 49 ≤ k
  · obtain rfl : k = 49 := by omega
    exact rt_t (by decide) (rt_some ⟨h0, hI⟩)
  · refine rt_f (nI_ge (b := 49) (by omega) (by omega)) ?_
    simp (disch := omega) only [gx, nI_add, lt1_e, nI_1, nI_clamp]
    refine ih (by omega) _ _ ⟨rfl, by omega, fun j hj => ?_, fun i hi => ?_⟩
    · rw [upd_n (by omega)]; exact h0 j hj
    · by_cases e : i = k
      · subst e; rw [upd_s]
      · rw [upd_n (by omega)]; exact hI i (by omega)
theorem m_remember2 (h : c ≤ 12) : Rt (f_X12_remember_m_aside (nI c) un mn) (fun b => ∃ c', b.1 = nI c' ∧ puU c un mn b.2 c') := by
  unfold f_X12_remember_m_aside
  by_cases hc : c = 12
  · subst hc
    refine rt_t rfl ?_
    refine rl2 539 (fun k v2 g => v2 = nI k ∧ k ≤ 539 ∧ (∀ j, j < k → g j = un (j + 49)) ∧ ∀ j, k ≤ j → g j = un j) (by omega) ⟨rfl, by omega, by omega, fun _ _ => rfl⟩ ?_
    rintro rc k v2 g ⟨rfl, hk, h0, hI⟩ ih
    unfold s_X12_remember_m_aside_11
    by_cases hkn : 539 ≤ k
    · obtain rfl : k = 539 := by omega
      refine rt_t (by decide) ?_
      unfold k_X12_remember_m_aside_11 j_X12_remember_m_aside_49
      rw [show nI 12 - 1 = nI 11 from by decide, show (49 : Int32) * nI 11 = nI (49 * 11) from by decide]
      refine rb1 (lay_und2 (c := 11) (by omega) _ _) ?_
      rintro g2 ⟨g3, g4⟩
      exact rt_some ⟨12, rfl, .inr ⟨rfl, rfl, fun j hj => (g3 j hj).trans (h0 j hj), g4⟩⟩
    · refine rt_f (nI_ge (b := 539) (by omega) (by omega)) ?_
      simp (disch := omega) only [show (49 : Int32) = nI 49 from rfl, gx, nI_add, lt1_e, nI_1, nI_clamp]
      refine ih (by omega) _ _ ⟨rfl, by omega, fun j hj => ?_, fun j hj => ?_⟩
      · by_cases e : j = k
        · subst e; rw [upd_s]; exact hI _ (by omega)
        · rw [upd_n (by omega)]; exact h0 j (by omega)
      · rw [upd_n (by omega)]; exact hI j (by omega)
  · refine rt_f (fun q => hc ((nI_eq (b := 12) (by omega) (by omega)).mp q)) ?_
    unfold j_X12_remember_m_aside_49
    rw [show (49 : Int32) = nI 49 from rfl, pk_mul]
    refine rb1 (lay_und2 (c := c) (by omega) _ _) ?_
    rintro g2 ⟨g3, g4⟩
    exact rt_some ⟨c + 1, nI_1 _, .inl ⟨by omega, rfl, g3, g4⟩⟩
/-- what was marked counts, on both sides -/
theorem hi_push (hH : okHi c hc hz un) (hT : tX cz tr to tf tx mn) {un' : Nat → Int32} {c' : Nat} (hu : puU c un mn un' c') : Rt (f_X8_commit_history 13 (nI c) (st4 tr to tf tx hc c) (upd hz c cz)) (fun a => a.1 = nI c' ∧ okHi c' a.2.1 a.2.2 un') := by
  have h12 := hH.1
  refine rt_e (x_commit h12) ?_
  have hc0 : tX (upd hz c cz c) (fun i => st4 tr to tf tx hc c (48 * c + i)) (fun i => st4 tr to tf tx hc c (48 * c + 12 + i)) (fun i => st4 tr to tf tx hc c (48 * c + 24 + i)) (fun i => st4 tr to tf tx hc c (48 * c + 36 + i)) mn := by
    refine tX_congr hT upd_s ?_ ?_ ?_ ?_ (fun _ _ => rfl)
    · intro i hi; exact st4_0 hi
    · intro i hi; exact st4_1 hi
    · intro i hi; exact st4_2 hi
    · intro i hi; exact st4_3 hi
  rcases hu with ⟨q, rfl, u1, u2⟩ | ⟨rfl, rfl, u1, u2⟩
  · rw [if_pos q]
    refine ⟨rfl, by omega, fun s hs => ?_⟩
    by_cases e : s = c
    · subst e
      exact tX_congr hc0 rfl (fun _ _ => rfl) (fun _ _ => rfl) (fun _ _ => rfl) (fun _ _ => rfl) (fun i hi => u2 i hi)
    · exact tX_congr (sl_mark (cz := cz) (tr := tr) (to := to) (tf := tf) (tx := tx) e (hH.2 s (by omega))) rfl (fun _ _ => rfl) (fun _ _ => rfl) (fun _ _ => rfl) (fun _ _ => rfl) (fun i hi => u1 _ (by omega))
  · rw [if_neg (by omega)]
    refine ⟨rfl, by omega, fun s hs => ?_⟩
    have hz1 : va_cpy (upd hz 12 cz) (upd hz 12 cz) 1 0 12 s = upd hz 12 cz (s + 1) := by
      rw [cpy_i (i := s) (by omega) (by omega), Nat.add_comm]
    have hcc : ∀ j, j < 576 → va_cpy (st4 tr to tf tx hc 12) (st4 tr to tf tx hc 12) 48 0 576 j = st4 tr to tf tx hc 12 (j + 48) := by
      intro j hj
      rw [cpy_i (i := j) (by omega) (by omega), Nat.add_comm]
    have hb : tX (upd hz 12 cz (s + 1)) (fun i => st4 tr to tf tx hc 12 (48 * (s + 1) + i)) (fun i => st4 tr to tf tx hc 12 (48 * (s + 1) + 12 + i)) (fun i => st4 tr to tf tx hc 12 (48 * (s + 1) + 24 + i)) (fun i => st4 tr to tf tx hc 12 (48 * (s + 1) + 36 + i)) (fun i => un' (49 * s + i)) := by
      by_cases e : s = 11
      · subst e
        exact tX_congr hc0 rfl (fun _ _ => rfl) (fun _ _ => rfl) (fun _ _ => rfl) (fun _ _ => rfl) (fun i hi => u2 i hi)
      · refine tX_congr (sl_mark (cz := cz) (tr := tr) (to := to) (tf := tf) (tx := tx) (show s + 1 ≠ 12 by omega) (hH.2 (s + 1) (by omega))) rfl (fun _ _ => rfl) (fun _ _ => rfl) (fun _ _ => rfl) (fun _ _ => rfl) (fun i hi => ?_)
        rw [u1 _ (by omega)]
        exact congrArg un (by omega)
    refine tX_congr hb hz1 ?_ ?_ ?_ ?_ (fun _ _ => rfl)
    all_goals
      intro i hi
      refine (hcc _ (by omega)).trans ?_
      exact congrArg (st4 tr to tf tx hc 12) (by omega)
theorem tX_z (h : tX cz tr to tf tx mn) : ∃ n, n ≤ 12 ∧ cz = nI n := by
  obtain ⟨n, rd, hs, fa, te, a1, a2, _⟩ := h
  exact ⟨n, a1, a2⟩
theorem pr_undo (hH : okHi c hc hz un) (hT : tX cz tr to tf tx mn) : Rt (f_X11_undo cz 13 (nI c) tr to tf tx hc hz) (fun a => Rt (f_X12_undo tw (nI c) mn un) (fun b => a.1 = b.1 ∧ b.2.1 = 0 ∧ (∃ c', a.2.2.1 = nI c' ∧ b.2.2.1 = nI c' ∧ okHi c' hc hz un) ∧ tX a.2.1 a.2.2.2.1 a.2.2.2.2.1 a.2.2.2.2.2.1 a.2.2.2.2.2.2 b.2.2.2)) := by
  have h12 := hH.1
  by_cases h0 : c = 0
  · subst h0
    unfold f_X11_undo f_X8_back_history
    refine re7 (if_pos rfl) (rt_some ?_)
    unfold f_X12_undo
    exact rt_t rfl (rt_some ⟨rfl, rfl, ⟨0, rfl, rfl, hH⟩, hT⟩)
  · obtain ⟨c, rfl⟩ : ∃ q, c = q + 1 := ⟨c - 1, by omega⟩
    have hS := hH.2 c (by omega)
    obtain ⟨n, hn, ez⟩ := tX_z hS
    have e : f_X8_load_history (nI c) cz 13 tr to tf tx hc hz = some (1, hz c, va_cpy hc tr (48 * c) 0 12, va_cpy hc to (48 * c + 12) 0 12, va_cpy hc tf (48 * c + 24) 0 12, va_cpy hc tx (48 * c + 36) 0 12) := by
      unfold f_X8_load_history
      rw [if_neg (nI_pos (by omega)), c_13, if_neg (nI_ge (by omega) (by omega)), gx (by omega) (by omega), nI_clamp (by omega), if_neg (by rw [ez]; exact m1_ne (by omega))]
      simp (disch := omega) only [show (48 : Int32) = nI 48 from rfl, c_12, c_24, c_36, c_0, pk_mul, nI_add, lt1_e, gcp, gx, nI_clamp, Nat.mul_comm c 48]
    unfold f_X11_undo f_X8_back_history
    rw [nI_pred]
    refine rb7 (P := fun a => a = (nI c, hz c, nI c, va_cpy hc tr (48 * c) 0 12, va_cpy hc to (48 * c + 12) 0 12, va_cpy hc tf (48 * c + 24) 0 12, va_cpy hc tx (48 * c + 36) 0 12)) (rt_f (nI_ne0 (by omega) (by omega)) (re6 e (rt_f i10n (rt_some rfl)))) ?_
    intro a1 a2 a3 a4 a5 a6 a7 ea
    injection ea with e1 ea
    injection ea with e2 ea
    injection ea with e3 ea
    injection ea with e4 ea
    injection ea with e5 ea
    injection ea with e6 e7
    subst e1 e2 e3 e4 e5 e6 e7
    refine rt_some ?_
    unfold f_X12_undo
    refine rt_f (nI_ne0 (by omega) (by omega)) ?_
    refine rl2 49 (fun k v1 g => v1 = nI k ∧ k ≤ 49 ∧ ∀ i, i < k → g i = un (49 * c + i)) (by omega) ⟨rfl, by omega, by omega⟩ ?_
    rintro rc k v1 g ⟨rfl, hk, hI⟩ ih
    unfold s_X12_undo_26
    rw [nI_pred]
    by_cases hkn : 49 ≤ k
    · obtain rfl : k = 49 := by omega
      refine rt_t (by decide) ?_
      unfold k_X12_undo_26
      rw [nI_pred]
      refine rt_some ⟨rfl, rfl, ⟨c, rfl, rfl, by omega, fun s hs => hH.2 s (by omega)⟩, ?_⟩
      refine tX_congr hS rfl ?_ ?_ ?_ ?_ (fun i hi => hI i hi)
      all_goals
        intro i hi
        exact cpy_i (i := i) (by omega) hi
    · refine rt_f (nI_ge (b := 49) (by omega) (by omega)) ?_
      simp (disch := omega) only [show (49 : Int32) = nI 49 from rfl, pk_mul, gx, nI_add, lt1_e, nI_1, nI_clamp]
      refine ih (by omega) _ _ ⟨rfl, by omega, fun i hi => ?_⟩
      by_cases e : i = k
      · subst e; rw [upd_s]
      · rw [upd_n (by omega)]; exact hI i (by omega)
theorem lay_kept {s : Nat} (hs : s < 2) (mn mk : Nat → Int32) : Rt (f_X12_lay_m_now_m_kept (nI (49 * s)) mn mk) (fun g => (∀ j, (j < 49 * s ∨ 49 * s + 49 ≤ j) → g j = mk j) ∧ ∀ i, i < 49 → g (49 * s + i) = mn i) := by
  unfold f_X12_lay_m_now_m_kept
  refine rl2 49 (fun k v3 g => v3 = nI k ∧ k ≤ 49 ∧ (∀ j, (j < 49 * s ∨ 49 * s + 49 ≤ j) → g j = mk j) ∧ ∀ i, i < k → g (49 * s + i) = mn i) (by omega) ⟨rfl, by omega, fun _ _ => rfl, by omega⟩ ?_
  rintro rc k v3 g ⟨rfl, hk, h0, hI⟩ ih
  unfold s_X12_lay_m_now_m_kept_2
  by_cases hkn : 49 ≤ k
  · obtain rfl : k = 49 := by omega
    exact rt_t (by decide) (rt_some ⟨h0, hI⟩)
  · refine rt_f (nI_ge (b := 49) (by omega) (by omega)) ?_
    simp (disch := omega) only [gx, nI_add, lt1_e, nI_1, nI_clamp]
    refine ih (by omega) _ _ ⟨rfl, by omega, fun j hj => ?_, fun i hi => ?_⟩
    · rw [upd_n (by omega)]; exact h0 j hj
    · by_cases e : i = k
      · subst e; rw [upd_s]
      · rw [upd_n (by omega)]; exact hI i (by omega)
theorem pr_keep (hK : okKe kc kz mk ik) (hT : tX cz tr to tf tx mn) (p1 : Int32) : Rt (f_X11_keep p1 cz 2 tr to tf tx kc kz) (fun a => Rt (f_X12_keep p1 tw mn mk ik) (fun b => a.1 = b.1 ∧ b.2.1 = 0 ∧ okKe a.2.1 a.2.2 b.2.2.1 b.2.2.2)) := by
  rcases bel p1 2 (by omega) with ⟨s, hs, rfl⟩ | ho
  · have e : f_X8_store_kept (nI s) cz 2 tr to tf tx kc kz = some (1, st4 tr to tf tx kc s, upd kz s cz) := by
      unfold f_X8_store_kept
      rw [if_neg (nI_pos (by omega)), c_2, if_pos (nI_lt (by omega) (by omega))]
      simp (disch := omega) only [show (48 : Int32) = nI 48 from rfl, c_12, c_24, c_36, c_0, pk_mul, nI_add, lt1_e, gcp, gx, nI_clamp, Nat.mul_comm s 48]
      rfl
    unfold f_X11_keep
    refine re3 e (rt_gd (by decide) (rt_some ?_))
    unfold f_X12_keep
    refine re1 (m_inT (n := 1) (by omega) (by omega)) (rt_f i10n (rt_gx hs (by omega) ?_))
    rw [show (49 : Int32) = nI 49 from rfl, pk_mul]
    refine rb1 (lay_kept hs mn mk) ?_
    rintro g ⟨g1, g2⟩
    refine rt_some ⟨rfl, rfl, fun q hq => ?_⟩
    rw [nI_clamp (by omega)]
    show (upd kz s cz q = -1 ∧ upd ik s _ q = 0) ∨ (upd ik s _ q = 1 ∧ sl (upd kz s cz) (st4 tr to tf tx kc s) g q)
    by_cases e : q = s
    · subst e
      refine .inr ⟨?_, ?_⟩
      · rw [upd_s]; rfl
      · refine tX_congr hT upd_s ?_ ?_ ?_ ?_ (fun i hi => g2 i hi)
        · intro i hi; exact st4_0 hi
        · intro i hi; exact st4_1 hi
        · intro i hi; exact st4_2 hi
        · intro i hi; exact st4_3 hi
    · rw [upd_n e, upd_n e]
      rcases hK q hq with h | ⟨h1, h2⟩
      · exact .inl h
      · refine .inr ⟨h1, ?_⟩
        refine tX_congr (sl_mark (cz := cz) (tr := tr) (to := to) (tf := tf) (tx := tx) e h2) rfl (fun _ _ => rfl) (fun _ _ => rfl) (fun _ _ => rfl) (fun _ _ => rfl) (fun i hi => g1 _ (by omega))
  · have e : f_X8_store_kept p1 cz 2 tr to tf tx kc kz = some (0, kc, kz) := by
      unfold f_X8_store_kept
      by_cases h0 : p1 < 0
      · rw [if_pos h0]
      · rw [if_neg h0, c_2, if_neg (fun q => (out_lt ho h0).mp q)]
    unfold f_X11_keep
    refine re3 e (rt_gd (by decide) (rt_some ?_))
    unfold f_X12_keep
    exact re1 (m_inF (n := 1) ho (by omega)) (rt_t rfl (rt_some ⟨rfl, rfl, hK⟩))
theorem fill_hz (v : Int32) (z : Nat → Int32) : Rt (f_J7_fill_53178_history_sizes v z) (fun g => ∀ j, j < 13 → g j = v) := by
  unfold f_J7_fill_53178_history_sizes
  refine rl2 13 (fun k v2 g => v2 = nI k ∧ k ≤ 13 ∧ ∀ j, j < k → g j = v) (by omega) ⟨rfl, by omega, by omega⟩ ?_
  rintro rc k v2 g ⟨rfl, hk, hI⟩ ih
  unfold s_J7_fill_53178_history_sizes_5
  by_cases hkn : 13 ≤ k
  · obtain rfl : k = 13 := by omega
    exact rt_t (by decide) (rt_some hI)
  · refine rt_f (nI_ge (b := 13) (by omega) (by omega)) ?_
    simp (disch := omega) only [gx, lt1_e, nI_1, nI_clamp]
    refine ih (by omega) _ _ ⟨rfl, by omega, fun i hi => ?_⟩
    by_cases e : i = k
    · subst e; rw [upd_s]
    · rw [upd_n (by omega)]; exact hI i (by omega)
theorem fill_kz (v : Int32) (z : Nat → Int32) : Rt (f_J7_fill_53178_kept_sizes v z) (fun g => ∀ j, j < 2 → g j = v) := by
  unfold f_J7_fill_53178_kept_sizes
  refine rl2 2 (fun k v2 g => v2 = nI k ∧ k ≤ 2 ∧ ∀ j, j < k → g j = v) (by omega) ⟨rfl, by omega, by omega⟩ ?_
  rintro rc k v2 g ⟨rfl, hk, hI⟩ ih
  unfold s_J7_fill_53178_kept_sizes_5
  by_cases hkn : 2 ≤ k
  · obtain rfl : k = 2 := by omega
    exact rt_t (by decide) (rt_some hI)
  · refine rt_f (nI_ge (b := 2) (by omega) (by omega)) ?_
    simp (disch := omega) only [gx, lt1_e, nI_1, nI_clamp]
    refine ih (by omega) _ _ ⟨rfl, by omega, fun i hi => ?_⟩
    by_cases e : i = k
    · subst e; rw [upd_s]
    · rw [upd_n (by omega)]; exact hI i (by omega)
theorem x_forgetH (a : Int32) (z : Nat → Int32) : Rt (f_X8_forget_history a z) (fun r => r.1 = 0) := by
  unfold f_X8_forget_history
  exact rb1 (fill_hz _ _) (fun g _ => rt_some rfl)
theorem x_forgetK (a : Int32) (z : Nat → Int32) : Rt (f_X8_forget_kept a z) (fun r => r.1 = 0 ∧ ∀ j, j < 2 → r.2 j = -1) := by
  unfold f_X8_forget_kept
  exact rb1 (fill_kz _ _) (fun g hg => rt_some ⟨rfl, hg⟩)
theorem pr_again (hH : okHi c hc hz un) (hK : okKe kc kz mk ik) (hT : tX cz tr to tf tx mn) (p1 : Int32) : Rt (f_X11_again p1 cz (nI c) 2 tr to tf tx hz kc kz) (fun a => Rt (f_X12_again p1 tw (nI c) mn mk ik) (fun b => a.1 = b.1 ∧ b.2.1 = 0 ∧ (∃ c', a.2.2.1 = nI c' ∧ b.2.2.1 = nI c' ∧ okHi c' hc a.2.2.2.2.2.2.2 un) ∧ tX a.2.1 a.2.2.2.1 a.2.2.2.2.1 a.2.2.2.2.2.1 a.2.2.2.2.2.2.1 b.2.2.2)) := by
  rcases bel p1 2 (by omega) with ⟨s, hs, rfl⟩ | ho
  · rcases hK s hs with ⟨k1, k2⟩ | ⟨k1, k2⟩
    · have e : f_X8_load_kept (nI s) cz 2 tr to tf tx kc kz = some (0, cz, tr, to, tf, tx) := by
        unfold f_X8_load_kept
        rw [if_neg (nI_pos (by omega)), c_2, if_neg (nI_ge (by omega) (by omega)), gx (by omega) (by omega), nI_clamp (by omega), if_pos k1]
      unfold f_X11_again
      refine re6 e (rt_t rfl (rt_some ?_))
      unfold f_X12_again
      refine re1 (m_inT (n := 1) (by omega) (by omega)) (rt_f i10n (rt_gx hs (by omega) ?_))
      rw [nI_clamp (by omega)]
      exact rt_t k2 (rt_some ⟨rfl, rfl, ⟨c, rfl, rfl, hH⟩, hT⟩)
    · obtain ⟨n, hn, ez⟩ := tX_z k2
      have e : f_X8_load_kept (nI s) cz 2 tr to tf tx kc kz = some (1, kz s, va_cpy kc tr (48 * s) 0 12, va_cpy kc to (48 * s + 12) 0 12, va_cpy kc tf (48 * s + 24) 0 12, va_cpy kc tx (48 * s + 36) 0 12) := by
        unfold f_X8_load_kept
        rw [if_neg (nI_pos (by omega)), c_2, if_neg (nI_ge (by omega) (by omega)), gx (by omega) (by omega), nI_clamp (by omega), if_neg (by rw [ez]; exact m1_ne (by omega))]
        simp (disch := omega) only [show (48 : Int32) = nI 48 from rfl, c_12, c_24, c_36, c_0, pk_mul, nI_add, lt1_e, gcp, gx, nI_clamp, Nat.mul_comm s 48]
      unfold f_X11_again
      refine re6 e (rt_f i10n (rb2 (x_forgetH _ _) ?_))
      rintro a1 z1 rfl
      refine rt_some ?_
      unfold f_X12_again
      refine re1 (m_inT (n := 1) (by omega) (by omega)) (rt_f i10n (rt_gx hs (by omega) ?_))
      rw [nI_clamp (by omega), k1]
      refine rt_f i10n ?_
      refine rl2 49 (fun k v1 g => v1 = nI k ∧ k ≤ 49 ∧ ∀ i, i < k → g i = mk (49 * s + i)) (by omega) ⟨rfl, by omega, by omega⟩ ?_
      rintro rc k v1 g ⟨rfl, hk, hI⟩ ih
      unfold s_X12_again_27
      by_cases hkn : 49 ≤ k
      · obtain rfl : k = 49 := by omega
        refine rt_t (by decide) ?_
        unfold k_X12_again_27
        refine rt_some ⟨rfl, rfl, ⟨0, rfl, rfl, by omega, by omega⟩, ?_⟩
        refine tX_congr k2 rfl ?_ ?_ ?_ ?_ (fun i hi => hI i hi)
        all_goals
          intro i hi
          exact cpy_i (i := i) (by omega) hi
      · refine rt_f (nI_ge (b := 49) (by omega) (by omega)) ?_
        simp (disch := omega) only [show (49 : Int32) = nI 49 from rfl, pk_mul, gx, nI_add, lt1_e, nI_1, nI_clamp]
        refine ih (by omega) _ _ ⟨rfl, by omega, fun i hi => ?_⟩
        by_cases e : i = k
        · subst e; rw [upd_s]
        · rw [upd_n (by omega)]; exact hI i (by omega)
  · have e : f_X8_load_kept p1 cz 2 tr to tf tx kc kz = some (0, cz, tr, to, tf, tx) := by
      unfold f_X8_load_kept
      by_cases h0 : p1 < 0
      · rw [if_pos h0]
      · rcases ho with ho | ho
        · exact absurd ho h0
        · rw [if_neg h0, c_2, if_pos ho]
    unfold f_X11_again
    refine re6 e (rt_t rfl (rt_some ?_))
    unfold f_X12_again
    exact re1 (m_inF (n := 1) ho (by omega)) (rt_t rfl (rt_some ⟨rfl, rfl, ⟨c, rfl, rfl, hH⟩, hT⟩))
end
