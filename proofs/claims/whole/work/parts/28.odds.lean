/-! ODDS of a pole: both sides by one function V of what THE RULE may ask -/
def okV (V : Nat → Nat → Nat → Nat → Nat → Nat → Nat → Nat → Nat) : Prop := ∀ a b c d e f g h, V a b c d e f g h ≤ 100
def okRx (V : Nat → Nat → Nat → Nat → Nat → Nat → Nat → Nat → Nat) (rz : Int32) (rk : Nat → Int32) : Prop := ∀ (t : Nat → Int32) (a0 a1 a2 a3 a4 a5 a6 a7 : Nat), t 0 = nI a0 → t 1 = nI a1 → t 2 = nI a2 → t 3 = nI a3 → t 4 = nI a4 → t 5 = nI a5 → t 6 = nI a6 → t 7 = nI a7 → ∀ sk, ∃ sk', f_X7_odds rz rk sk t = some (nI (V a0 a1 a2 a3 a4 a5 a6 a7), sk')
def od (V : Nat → Nat → Nat → Nat → Nat → Nat → Nat → Nat → Nat) (kd ft st sc ca : Nat → Nat) (h f l hi : Nat) : Nat := V hi (sc h) (ca (4 * h + kd f)) (l % 4) (l / 4) (ln (ft f) (st h)) f (ft f)
def okRm (V : Nat → Nat → Nat → Nat → Nat → Nat → Nat → Nat → Nat) (mz : Int32) (ml : Nat → Int32) : Prop := ∀ (F H : Nat) (kd ft st sc ca : Nat → Nat) (mk mf ms mc ma : Nat → Int32), okC F kd ft mk mf → okS H st sc ca ms mc ma → ∀ h f l hi, h < H → f < F → l < 8 → ∀ q1 q2 q3 q4 q5 q6 q7 q8 q9 q10, ∃ r, f_X12_oddsOf (nI h) (nI f) (nI l) (nI hi) q1 q2 q3 q4 q5 mz q6 q7 q8 q9 q10 mk mf ms mc ma ml = some (nI (od V kd ft st sc ca h f l hi), r)
/-- the course, as the class has it -/
def okX (F H P : Nat) (kd ht ft st sc ca pl : Nat → Nat) (V : Nat → Nat → Nat → Nat → Nat → Nat → Nat → Nat → Nat) (ck ch cf cd cp : Nat → Int32) (rz : Int32) (rk : Nat → Int32) : Prop := okC F kd ft ck cf ∧ okT F ht ch ∧ okD H st sc ca cd ∧ okP P F pl cp ∧ okV V ∧ okRx V rz rk
/-- the course, as the reference has it -/
def okM (F H P : Nat) (kd ht ft st sc ca pl : Nat → Nat) (V : Nat → Nat → Nat → Nat → Nat → Nat → Nat → Nat → Nat) (mk mh mf ms mc ma mp : Nat → Int32) (mz : Int32) (ml : Nat → Int32) : Prop := okC F kd ft mk mf ∧ okT F ht mh ∧ okS H st sc ca ms mc ma ∧ okP P F pl mp ∧ okV V ∧ okRm V mz ml
/-! tests -/
def out (v : Int32) (n : Nat) : Prop := v < 0 ∨ nI n ≤ v
theorem bel (v : Int32) (n : Nat) (hn : n < 2 ^ 31) : (∃ k, k < n ∧ v = nI k) ∨ out v n := below v n hn
theorem x_hasT {k n : Nat} (h : k < n) (hn : n < 2 ^ 31) : f_X1_hasFence (nI k) (nI n) = some 1 := by
  unfold f_X1_hasFence
  rw [if_neg (nI_pos (by omega)), if_neg (nI_ge h hn)]
theorem x_hasF {v : Int32} {n : Nat} (h : out v n) : f_X1_hasFence v (nI n) = some 0 := by
  unfold f_X1_hasFence
  rcases h with h | h
  · rw [if_pos h]
  · by_cases h0 : v < 0
    · rw [if_pos h0]
    · rw [if_neg h0, if_pos h]
theorem x_hasHT {k n : Nat} (h : k < n) (hn : n < 2 ^ 31) : f_X1_hasHorse (nI k) (nI n) = some 1 := x_hasT h hn
theorem x_hasHF {v : Int32} {n : Nat} (h : out v n) : f_X1_hasHorse v (nI n) = some 0 := x_hasF h
theorem x_hasPT {k n : Nat} (h : k < n) (hn : n < 2 ^ 31) : f_X1_hasPlan (nI k) (nI n) = some 1 := x_hasT h hn
theorem x_hasPF {v : Int32} {n : Nat} (h : out v n) : f_X1_hasPlan v (nI n) = some 0 := x_hasF h
theorem m_inT {k n : Nat} (h : k ≤ n) (hn : n < 2 ^ 31) : f_X12_in (nI k) 0 (nI n) = some 1 := by
  unfold f_X12_in
  rw [if_neg (nI_pos (by omega)), if_neg (nI_nlt h hn)]
theorem m_inF {v : Int32} {n : Nat} (h : out v (n + 1)) (hn : n + 1 < 2 ^ 31) : f_X12_in v 0 (nI n) = some 0 := by
  unfold f_X12_in
  by_cases h0 : v < 0
  · rw [if_pos h0]
  · rw [if_neg h0]
    obtain ⟨j, hj, rfl⟩ := nI_of h0
    have : n + 1 ≤ j := by
      rcases h with h | h
      · exact absurd h h0
      · rwa [nI_leI (by omega) (by omega)] at h
    rw [if_pos (nI_lt (by omega) hj)]
theorem m_isT {k n : Nat} (h : k < n) (hn : n < 2 ^ 31) : f_X12_isFence (nI k) (nI n) = some 1 := by
  unfold f_X12_isFence
  obtain ⟨m, rfl⟩ : ∃ m, n = m + 1 := ⟨n - 1, by omega⟩
  rw [nI_pred, bd1_t (m_inT (by omega) (by omega))]
  rfl
theorem m_isF {v : Int32} {n : Nat} (h : out v n) (hn : n < 2 ^ 31) : f_X12_isFence v (nI n) = some 0 := by
  unfold f_X12_isFence
  rcases Nat.eq_zero_or_pos n with rfl | h0
  · have : f_X12_in v 0 (nI 0 - 1) = some 0 := by
      unfold f_X12_in
      by_cases h0 : v < 0
      · rw [if_pos h0]
      · rw [if_neg h0]
        obtain ⟨j, hj, rfl⟩ := nI_of h0
        rw [if_pos]
        rw [Int32.lt_iff_toInt_lt, nI_toInt hj, show (nI 0 - 1 : Int32).toInt = -1 from by decide]
        omega
    rw [bd1_t this]
    rfl
  · obtain ⟨m, rfl⟩ : ∃ m, n = m + 1 := ⟨n - 1, by omega⟩
    rw [nI_pred, bd1_t (m_inF h (by omega))]
    rfl
theorem m_isHT {k n : Nat} (h : k < n) (hn : n < 2 ^ 31) : f_X12_isHorse (nI k) (nI n) = some 1 := m_isT h hn
theorem m_isHF {v : Int32} {n : Nat} (h : out v n) (hn : n < 2 ^ 31) : f_X12_isHorse v (nI n) = some 0 := m_isF h hn
theorem m_isPT {k n : Nat} (h : k < n) (hn : n < 2 ^ 31) : f_X12_isPlan (nI k) (nI n) = some 1 := m_isT h hn
theorem m_isPF {v : Int32} {n : Nat} (h : out v n) (hn : n < 2 ^ 31) : f_X12_isPlan v (nI n) = some 0 := m_isF h hn
theorem m_bothT {a b n m : Nat} (h : a < n) (hn : n < 2 ^ 31) (h2 : b < m) (hm : m < 2 ^ 31) : f_X12_areBoth (nI a) (nI b) (nI n) (nI m) = some 1 := by
  unfold f_X12_areBoth
  rw [bd1_t (m_isHT h hn), if_neg (by decide), bd1_t (m_isPT h2 hm), if_neg (by decide)]
theorem m_bothF1 {v b : Int32} {n m : Nat} (h : out v n) (hn : n < 2 ^ 31) : f_X12_areBoth v b (nI n) (nI m) = some 0 := by
  unfold f_X12_areBoth
  rw [bd1_t (m_isHF h hn), if_pos rfl]
theorem m_bothF2 {a n m : Nat} {v : Int32} (h : a < n) (hn : n < 2 ^ 31) (h2 : out v m) (hm : m < 2 ^ 31) : f_X12_areBoth (nI a) v (nI n) (nI m) = some 0 := by
  unfold f_X12_areBoth
  rw [bd1_t (m_isHT h hn), if_neg (by decide), bd1_t (m_isPF h2 hm), if_pos rfl]
/-! the row -/
def rowE (n : Nat) (nt mt : Nat → Int64) : Prop := n ≤ 12 ∧ ∀ k, k < n → nt k = mt k
theorem rowE_0 {nt mt : Nat → Int64} : rowE 0 nt mt := ⟨by omega, fun k h => absurd h (by omega)⟩
theorem rowE_s {n : Nat} {nt mt : Nat → Int64} (v : Int64) (h : rowE n nt mt) (hn : n < 12) : rowE (n + 1) (vp_updL nt n v) (vp_updL mt n v) := by
  refine ⟨by omega, fun k hk => ?_⟩
  by_cases e : k = n
  · subst e; rw [updL_s, updL_s]
  · rw [updL_n e, updL_n e]; exact h.2 k (by omega)
theorem x_putk {n : Nat} (h : n < 12) (v : Int64) (nt : Nat → Int64) : f_X6_put v (nI n) nt = some (nI (n + 1), vp_updL nt n v) := by
  rw [iI_nI, iI_nI]; exact x_put h v nt
theorem m_tellk {n : Nat} (h : n < 12) (v : Int64) (mt : Nat → Int64) : f_X12_tell v (nI n) mt = some (nI (n + 1), vp_updL mt n v) := by
  rw [iI_nI, iI_nI]; exact m_tell h v mt
theorem x_put0 (v : Int64) (nt : Nat → Int64) : f_X6_put v 0 nt = some (nI 1, vp_updL nt 0 v) := x_putk (n := 0) (by omega) v nt
theorem m_tell0 (v : Int64) (mt : Nat → Int64) : f_X12_tell v 0 mt = some (nI 1, vp_updL mt 0 v) := m_tellk (n := 0) (by omega) v mt
theorem x_start (n : Int32) : f_X6_start n = some 0 := rfl
section
variable {F H P : Nat} {kd ht ft st sc ca pl : Nat → Nat} {V : Nat → Nat → Nat → Nat → Nat → Nat → Nat → Nat → Nat} {ck ch cf cd cp rk mk mh mf ms mc ma mp ml : Nat → Int32} {rz mz : Int32} {h f l p : Nat}
theorem x_pole (hX : okX F H P kd ht ft st sc ca pl V ck ch cf cd cp rz rk) (hh : h < H) (hf : f < F) (hl : l < 8) (sk th : Nat → Int32) : ∃ sk' th', f_X1_poleOdds (nI h) (nI f) (nI l) rz ck ch cf cd rk sk th = some (nI (od V kd ft st sc ca h f l (ht f)), sk', th') := by
  obtain ⟨hC, hT, hD, hP, hV, hR⟩ := hX
  have e := x_leanAt hC hD hh hf
  have a1 := hC.2 f hf
  have a2 := hT f hf
  have a3 := hC.1
  have a4 := hD.1.1
  obtain ⟨d1, d2, d3⟩ := hD.2 h hh
  have a5 := d3 (kd f) (by omega)
  unfold f_X1_poleOdds j_X1_poleOdds_68 f_X1_isCut
  simp (disch := omega) only [gx, nI_clamp, a1.2.1, a1.2.2, a2.2, c_0, c_1, c_2, c_3, c_4, c_5, c_6, c_7, nI_add, pk_sub, pk_mul, pk_div, md, x_ofHorse, d2, a5, bd1_e, e, nI_ltI]
  by_cases h4 : l < 4
  · simp (disch := omega) only [h4, if_true, bd1_e, nI_eq]
    obtain ⟨sk', es⟩ := hR (upd (upd (upd (upd (upd (upd (upd (upd th 0 (nI (ht f))) 1 (nI (sc h))) 2 (nI (ca (4 * h + kd f)))) 3 (nI (l % 4))) 4 (nI 0)) 5 (nI (ln (ft f) (st h)))) 6 (nI f)) 7 (nI (ft f))) (ht f) (sc h) (ca (4 * h + kd f)) (l % 4) 0 (ln (ft f) (st h)) f (ft f) (by simp [upd]) (by simp [upd]) (by simp [upd]) (by simp [upd]) (by simp [upd]) (by simp [upd]) (by simp [upd]) (by simp [upd]) sk
    rw [es, bd2_e, od, show l / 4 = 0 by omega]
    exact ⟨_, _, rfl⟩
  · simp (disch := omega) only [h4, if_false, bd1_e, nI_eq]
    obtain ⟨sk', es⟩ := hR (upd (upd (upd (upd (upd (upd (upd (upd th 0 (nI (ht f))) 1 (nI (sc h))) 2 (nI (ca (4 * h + kd f)))) 3 (nI (l % 4))) 4 (nI 1)) 5 (nI (ln (ft f) (st h)))) 6 (nI f)) 7 (nI (ft f))) (ht f) (sc h) (ca (4 * h + kd f)) (l % 4) 1 (ln (ft f) (st h)) f (ft f) (by simp [upd]) (by simp [upd]) (by simp [upd]) (by simp [upd]) (by simp [upd]) (by simp [upd]) (by simp [upd]) (by simp [upd]) sk
    rw [es, bd2_e, od, show l / 4 = 1 by omega]
    exact ⟨_, _, rfl⟩
theorem m_odds4 (hM : okM F H P kd ht ft st sc ca pl V mk mh mf ms mc ma mp mz ml) (hh : h < H) (hf : f < F) (hl : l < 8) (hi : Nat) (q1 q2 q3 q4 q5 q6 q7 q8 q9 q10 : Int32) : ∃ r, f_X12_oddsOf (nI h) (nI f) (nI l) (nI hi) q1 q2 q3 q4 q5 mz q6 q7 q8 q9 q10 mk mf ms mc ma ml = some (nI (od V kd ft st sc ca h f l hi), r) := by
  obtain ⟨hC, hT, hS, hP, hV, hR⟩ := hM
  exact hR F H kd ft st sc ca mk mf ms mc ma hC hS h f l hi hh hf hl q1 q2 q3 q4 q5 q6 q7 q8 q9 q10
theorem m_odds (hM : okM F H P kd ht ft st sc ca pl V mk mh mf ms mc ma mp mz ml) (hh : h < H) (hf : f < F) (hl : l < 8) (q1 q2 q3 q4 q5 q6 q7 q8 q9 q10 : Int32) : ∃ r, f_X12_oddsOf_ (nI h) (nI f) (nI l) q1 q2 q3 q4 q5 mz q6 q7 q8 q9 q10 mk mh mf ms mc ma ml = some (nI (od V kd ft st sc ca h f l (ht f)), r) := by
  obtain ⟨⟨w1, w2, w3, w4, w5, w6, w7, w8, w9, w10⟩, e⟩ := m_odds4 hM hh hf hl (ht f) q1 q2 q3 q4 q5 q6 q7 q8 q9 q10
  obtain ⟨hC, hT, hS, hP, hV, hR⟩ := hM
  have a2 := hT f hf
  have a3 := hC.1
  unfold f_X12_oddsOf_
  rw [gx (by omega) (by omega), nI_clamp (by omega), a2.2, e]
  exact ⟨_, rfl⟩
theorem od_le (hV : okV V) {hi : Nat} : od V kd ft st sc ca h f l hi ≤ 100 := hV _ _ _ _ _ _ _ _
theorem rf_le {y s k c : Nat} (h : 3 ≤ s ∧ s ≤ 9) : rf y s k c ≤ 61 := by
  have := ln_le (y := y) (s := s) (by omega)
  unfold rf
  split <;> omega
end
