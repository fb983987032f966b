/-! THE TABLE: places, money, the order -/
theorem rt_get {R : Type} {x : Option R} {v : R} (h : Rt x (fun r => r = v)) : x = some v := by
  obtain ⟨r, e, rfl⟩ := h; exact e
theorem rt_of {R : Type} {x : Option R} {v : R} (h : x = some v) : Rt x (fun r => r = v) := ⟨v, h, rfl⟩
/-- how many below k -/
def ct (p : Nat → Bool) : Nat → Nat
  | 0 => 0
  | k + 1 => ct p k + (if p k = true then 1 else 0)
theorem ct_le {p : Nat → Bool} : ∀ n, ct p n ≤ n
  | 0 => Nat.le_refl _
  | n + 1 => by have := ct_le (p := p) n; rw [ct]; split <;> omega
theorem ct_congr {p q : Nat → Bool} : ∀ n, (∀ k, k < n → p k = q k) → ct p n = ct q n
  | 0, _ => rfl
  | n + 1, h => by rw [ct, ct, ct_congr n (fun k hk => h k (by omega)), h n (by omega)]
theorem ct_add {p q r : Nat → Bool} : ∀ n, (∀ k, k < n → (if p k = true then 1 else 0) + (if q k = true then 1 else 0) = (if r k = true then 1 else 0)) → ct p n + ct q n = ct r n
  | 0, _ => rfl
  | n + 1, h => by
    have h1 := ct_add n (fun k hk => h k (by omega))
    have h2 := h n (by omega)
    rw [ct, ct, ct]; omega
/-- the class's: n rounds, of faults fa and tenths te -/
def tC (n : Nat) (fa te : Nat → Nat) (cf cx : Nat → Int32) : Prop := n ≤ 12 ∧ ∀ i, i < n → (fa i < 1048576 ∧ te i < 1048576) ∧ cf i = nI (fa i) ∧ cx i = nI (te i)
/-- the reference's -/
def tN (n : Nat) (fa te : Nat → Nat) (mn : Nat → Int32) : Prop := n ≤ 12 ∧ mn 48 = nI n ∧ ∀ i, i < n → (fa i < 1048576 ∧ te i < 1048576) ∧ mn (4 * i + 2) = nI (fa i) ∧ mn (4 * i + 3) = nI (te i)
def pf (fa te : Nat → Nat) (a b i : Nat) : Bool := decide (fa i < a ∨ (fa i = a ∧ te i ≤ b))
def po (fa te : Nat → Nat) (k j : Nat) : Bool := decide (fa j < fa k ∨ (fa j = fa k ∧ (te j < te k ∨ (te j = te k ∧ j < k))))
/-- the place for, the place of -/
def plF (n : Nat) (fa te : Nat → Nat) (a b : Nat) : Nat := 1 + ct (pf fa te a b) n
def plO (n : Nat) (fa te : Nat → Nat) (k : Nat) : Nat := 1 + ct (po fa te k) n
def okY (mo : Nat → Nat) (cm : Nat → Int32) : Prop := ∀ j, j < 6 → mo j ≤ 99 ∧ cm j = nI (mo j)
def mny (mo : Nat → Nat) (p : Nat) : Nat := if p ≤ 6 then mo (p - 1) else 0
section
variable {n : Nat} {fa te mo : Nat → Nat} {cf cx cm mn : Nat → Int32}
theorem mny_le (h : okY mo cm) {p : Nat} (hp : 1 ≤ p) : mny mo p ≤ 99 := by
  unfold mny; split
  · exact (h _ (by omega)).1
  · omega
theorem x_moneyAt (h : okY mo cm) {p : Nat} (hp : 1 ≤ p) (hq : p < 1000) : f_X10_moneyAt (nI p) cm = some (nI (mny mo p)) := by
  unfold f_X10_moneyAt mny
  by_cases h6 : p ≤ 6
  · simp (disch := omega) only [c_1, c_6, nI_ltI, pk_sub, gx, nI_clamp, (h (p - 1) (by omega)).2]
    rw [if_neg (by omega), if_neg (by omega), if_pos h6]
  · simp (disch := omega) only [c_1, c_6, nI_ltI, pk_sub, gx, nI_clamp]
    rw [if_neg (by omega), if_pos (by omega), if_neg h6]; rfl
theorem m_moneyOf (h : okY mo cm) {p : Nat} (hp : 1 ≤ p) (hq : p < 1000) : f_X12_moneyOf (nI p) cm = some (nI (mny mo p)) := by
  unfold f_X12_moneyOf mny
  by_cases h6 : p ≤ 6
  · simp (disch := omega) only [c_1, c_6, nI_ltI, pk_sub, gx, nI_clamp, (h (p - 1) (by omega)).2]
    rw [if_neg (by omega), if_pos h6]
  · simp (disch := omega) only [c_1, c_6, nI_ltI, pk_sub, gx, nI_clamp]
    rw [if_pos (by omega), if_neg h6]; rfl
theorem x_placeFor (h : tC n fa te cf cx) {a b : Nat} (ha : a < 1048576) (hb : b < 1048576) : f_X10_placeFor (nI a) (nI b) (nI n) cf cx = some (nI (plF n fa te a b)) := by
  refine rt_get ?_
  have hn := h.1
  unfold f_X10_placeFor
  refine rl2 12 (fun k v3 v4 => v3 = nI (1 + ct (pf fa te a b) k) ∧ v4 = nI k ∧ k ≤ n) (by omega) ⟨rfl, rfl, by omega⟩ ?_
  rintro rc k v3 v4 ⟨rfl, rfl, hk⟩ ih
  unfold s_X10_placeFor_5
  by_cases hkn : n ≤ k
  · obtain rfl : k = n := by omega
    exact rt_t (nI_le (Nat.le_refl _) (by omega)) (rt_some rfl)
  · obtain ⟨⟨b1, b2⟩, e1, e2⟩ := h.2 k (by omega)
    have hc : ct (pf fa te a b) (k + 1) = ct (pf fa te a b) k + (if pf fa te a b k = true then 1 else 0) := rfl
    unfold pf at hc
    simp only [decide_eq_true_eq] at hc
    simp (disch := omega) only [nI_leI, gx, nI_clamp, e1, e2, lt1_e, nI_add, c_1, c_0, nI_ltI, nI_eq]
    refine rt_f hkn ?_
    repeat' (refine rt_if (fun _ => ?_) (fun _ => ?_))
    all_goals
      refine ih (by omega) _ _ ⟨congrArg nI ?_, rfl, by omega⟩
      unfold pf
      rw [hc]
      split <;> omega
theorem m_placeFor (h : tN n fa te mn) {a b : Nat} (ha : a < 1048576) (hb : b < 1048576) : f_X12_placeFor_m_now (nI a) (nI b) mn = some (nI (plF n fa te a b)) := by
  refine rt_get ?_
  have hn := h.1
  unfold f_X12_placeFor_m_now
  refine rl2 12 (fun k v3 v4 => v3 = nI (1 + ct (pf fa te a b) k) ∧ v4 = nI k ∧ k ≤ n) (by omega) ⟨rfl, rfl, by omega⟩ ?_
  rintro rc k v3 v4 ⟨rfl, rfl, hk⟩ ih
  unfold s_X12_placeFor_m_now_5
  simp (disch := omega) only [c_48, gx, nI_clamp, h.2.1]
  by_cases hkn : n ≤ k
  · obtain rfl : k = n := by omega
    exact rt_t (nI_le (Nat.le_refl _) (by omega)) (rt_some rfl)
  · obtain ⟨⟨b1, b2⟩, e1, e2⟩ := h.2.2 k (by omega)
    have hc : ct (pf fa te a b) (k + 1) = ct (pf fa te a b) k + (if pf fa te a b k = true then 1 else 0) := rfl
    unfold pf at hc
    simp only [decide_eq_true_eq] at hc
    simp (disch := omega) only [nI_leI, c_4, c_2, c_3, pk_mul, nI_add, gx, nI_clamp, e1, e2, lt1_e, c_1, c_0, nI_ltI, nI_eq]
    refine rt_f hkn ?_
    repeat' (refine rt_if (fun _ => ?_) (fun _ => ?_))
    all_goals
      refine ih (by omega) _ _ ⟨congrArg nI ?_, rfl, by omega⟩
      unfold pf
      rw [hc]
      split <;> omega
theorem x_placeOf (h : tC n fa te cf cx) {a : Nat} (ha : a < n) : f_X10_placeOf_rounds_faults (nI a) (nI n) cf cx = some (nI (plO n fa te a)) := by
  refine rt_get ?_
  have hn := h.1
  obtain ⟨⟨d1, d2⟩, g1, g2⟩ := h.2 a ha
  unfold f_X10_placeOf_rounds_faults
  refine rl2 12 (fun k v3 v4 => v3 = nI (1 + ct (po fa te a) k) ∧ v4 = nI k ∧ k ≤ n) (by omega) ⟨rfl, rfl, by omega⟩ ?_
  rintro rc k v3 v4 ⟨rfl, rfl, hk⟩ ih
  unfold s_X10_placeOf_rounds_faults_5
  by_cases hkn : n ≤ k
  · obtain rfl : k = n := by omega
    exact rt_t (nI_le (Nat.le_refl _) (by omega)) (rt_some rfl)
  · obtain ⟨⟨b1, b2⟩, e1, e2⟩ := h.2 k (by omega)
    have hc : ct (po fa te a) (k + 1) = ct (po fa te a) k + (if po fa te a k = true then 1 else 0) := rfl
    unfold po at hc
    simp only [decide_eq_true_eq] at hc
    simp (disch := omega) only [nI_leI, gx, nI_clamp, e1, e2, g1, g2, lt1_e, nI_add, c_1, c_0, nI_ltI, nI_eq]
    refine rt_f hkn ?_
    repeat' (refine rt_if (fun _ => ?_) (fun _ => ?_))
    all_goals
      refine ih (by omega) _ _ ⟨congrArg nI ?_, rfl, by omega⟩
      unfold po
      rw [hc]
      split <;> omega
theorem x_placeOfN (h : tC n fa te cf cx) {a : Nat} (ha : a < n) : f_X10_placeOf_newFaults (nI a) (nI n) cx cf = some (nI (plO n fa te a)) := by
  refine rt_get ?_
  have hn := h.1
  obtain ⟨⟨d1, d2⟩, g1, g2⟩ := h.2 a ha
  unfold f_X10_placeOf_newFaults
  refine rl2 12 (fun k v3 v4 => v3 = nI (1 + ct (po fa te a) k) ∧ v4 = nI k ∧ k ≤ n) (by omega) ⟨rfl, rfl, by omega⟩ ?_
  rintro rc k v3 v4 ⟨rfl, rfl, hk⟩ ih
  unfold s_X10_placeOf_newFaults_5
  by_cases hkn : n ≤ k
  · obtain rfl : k = n := by omega
    exact rt_t (nI_le (Nat.le_refl _) (by omega)) (rt_some rfl)
  · obtain ⟨⟨b1, b2⟩, e1, e2⟩ := h.2 k (by omega)
    have hc : ct (po fa te a) (k + 1) = ct (po fa te a) k + (if po fa te a k = true then 1 else 0) := rfl
    unfold po at hc
    simp only [decide_eq_true_eq] at hc
    simp (disch := omega) only [nI_leI, gx, nI_clamp, e1, e2, g1, g2, lt1_e, nI_add, c_1, c_0, nI_ltI, nI_eq]
    refine rt_f hkn ?_
    repeat' (refine rt_if (fun _ => ?_) (fun _ => ?_))
    all_goals
      refine ih (by omega) _ _ ⟨congrArg nI ?_, rfl, by omega⟩
      unfold po
      rw [hc]
      split <;> omega
theorem nI_dn {a b : Nat} (ha : a < 1048576) (hb : b < 1048576) : (nI a - nI b < 0) = (a < b) := by
  by_cases h : a < b
  · exact (eq_true (pk_sneg (by omega) h)).trans (eq_true h).symm
  · rw [pk_sub (by omega)]
    exact (eq_false (nI_pos (by omega))).trans (eq_false h).symm
theorem nI_de {a b : Nat} (ha : a < 1048576) (hb : b < 1048576) : (nI a - nI b = 0) = (a = b) := by
  by_cases h : a < b
  · exact (eq_false (i_ne (pk_sneg (by omega) h))).trans (eq_false (by omega)).symm
  · rw [pk_sub (by omega), c_0, nI_eq (by omega) (by omega)]
    exact propext (by omega)
theorem m_isAhead (h : tN n fa te mn) {a b : Nat} (ha : a < n) (hb : b < n) : f_X12_isAhead_m_now (nI a) (nI b) mn = some (if po fa te b a = true then 1 else 0) := by
  have hn := h.1
  obtain ⟨⟨d1, d2⟩, g1, g2⟩ := h.2.2 a ha
  obtain ⟨⟨b1, b2⟩, e1, e2⟩ := h.2.2 b hb
  unfold f_X12_isAhead_m_now po
  simp (disch := omega) only [c_4, c_2, c_3, pk_mul, nI_add, gx, nI_clamp, e1, e2, g1, g2, lt1_e, nI_dn, nI_de, nI_leI, decide_eq_true_eq]
  repeat' split
  all_goals first | rfl | omega
theorem m_isAheadN (h : tN n fa te mn) {a b : Nat} (ha : a < n) (hb : b < n) : f_X12_isAhead_m_then (nI a) (nI b) mn = some (if po fa te b a = true then 1 else 0) := by
  have hn := h.1
  obtain ⟨⟨d1, d2⟩, g1, g2⟩ := h.2.2 a ha
  obtain ⟨⟨b1, b2⟩, e1, e2⟩ := h.2.2 b hb
  unfold f_X12_isAhead_m_then po
  simp (disch := omega) only [c_4, c_2, c_3, pk_mul, nI_add, gx, nI_clamp, e1, e2, g1, g2, lt1_e, nI_dn, nI_de, nI_leI, decide_eq_true_eq]
  repeat' split
  all_goals first | rfl | omega
theorem po_self {a : Nat} : po fa te a a = false := by
  unfold po
  rw [decide_eq_false_iff_not]; omega
theorem i10n : ¬ (1 : Int32) = 0 := by decide
theorem m_placeOf (h : tN n fa te mn) {a : Nat} (ha : a < n) : f_X12_placeOf_m_now (nI a) mn = some (nI (plO n fa te a)) := by
  refine rt_get ?_
  have hn := h.1
  unfold f_X12_placeOf_m_now
  refine rl2 12 (fun k v3 v4 => v3 = nI (1 + ct (po fa te a) k) ∧ v4 = nI k ∧ k ≤ n) (by omega) ⟨rfl, rfl, by omega⟩ ?_
  rintro rc k v3 v4 ⟨rfl, rfl, hk⟩ ih
  unfold s_X12_placeOf_m_now_4
  simp (disch := omega) only [c_48, gx, nI_clamp, h.2.1]
  by_cases hkn : n ≤ k
  · obtain rfl : k = n := by omega
    exact rt_t (nI_le (Nat.le_refl _) (by omega)) (rt_some rfl)
  · have hc : ct (po fa te a) (k + 1) = ct (po fa te a) k + (if po fa te a k = true then 1 else 0) := rfl
    refine rt_f (nI_ge (by omega) (by omega)) ?_
    by_cases hka : k = a
    · subst hka
      refine rt_t rfl (rt_lt (ih (by omega) _ _ ⟨congrArg nI ?_, nI_1 _, by omega⟩))
      rw [hc, po_self]; rfl
    · refine rt_f (fun q => hka ((nI_eq (by omega) (by omega)).mp q)) (re1 (m_isAhead h (by omega) ha) ?_)
      by_cases hp : po fa te a k = true
      · rw [if_pos hp] at hc ⊢
        refine rt_f i10n (rt_lt (rt_lt (ih (by omega) _ _ ⟨?_, nI_1 _, by omega⟩)))
        rw [nI_1, hc]; rfl
      · rw [if_neg hp] at hc ⊢
        exact rt_t rfl (rt_lt (ih (by omega) _ _ ⟨congrArg nI (by omega), nI_1 _, by omega⟩))
theorem m_placeOfN (h : tN n fa te mn) {a : Nat} (ha : a < n) : f_X12_placeOf_m_then (nI a) mn = some (nI (plO n fa te a)) := by
  refine rt_get ?_
  have hn := h.1
  unfold f_X12_placeOf_m_then
  refine rl2 12 (fun k v3 v4 => v3 = nI (1 + ct (po fa te a) k) ∧ v4 = nI k ∧ k ≤ n) (by omega) ⟨rfl, rfl, by omega⟩ ?_
  rintro rc k v3 v4 ⟨rfl, rfl, hk⟩ ih
  unfold s_X12_placeOf_m_then_4
  simp (disch := omega) only [c_48, gx, nI_clamp, h.2.1]
  by_cases hkn : n ≤ k
  · obtain rfl : k = n := by omega
    exact rt_t (nI_le (Nat.le_refl _) (by omega)) (rt_some rfl)
  · have hc : ct (po fa te a) (k + 1) = ct (po fa te a) k + (if po fa te a k = true then 1 else 0) := rfl
    refine rt_f (nI_ge (by omega) (by omega)) ?_
    by_cases hka : k = a
    · subst hka
      refine rt_t rfl (rt_lt (ih (by omega) _ _ ⟨congrArg nI ?_, nI_1 _, by omega⟩))
      rw [hc, po_self]; rfl
    · refine rt_f (fun q => hka ((nI_eq (by omega) (by omega)).mp q)) (re1 (m_isAheadN h (by omega) ha) ?_)
      by_cases hp : po fa te a k = true
      · rw [if_pos hp] at hc ⊢
        refine rt_f i10n (rt_lt (rt_lt (ih (by omega) _ _ ⟨?_, nI_1 _, by omega⟩)))
        rw [nI_1, hc]; rfl
      · rw [if_neg hp] at hc ⊢
        exact rt_t rfl (rt_lt (ih (by omega) _ _ ⟨congrArg nI (by omega), nI_1 _, by omega⟩))
end
