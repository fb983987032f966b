/-! PLANS: tenths, clear, fear -/
def sm (g : Nat → Nat) : Nat → Nat
  | 0 => 0
  | k + 1 => sm g k + g k
theorem sm_le {g : Nat → Nat} {b : Nat} : ∀ n, (∀ k, k < n → g k ≤ b) → sm g n ≤ b * n
  | 0, _ => Nat.zero_le _
  | n + 1, h => by
    have := sm_le n (fun k hk => h k (by omega))
    have h2 := h n (by omega)
    rw [sm, Nat.mul_succ]; omega
theorem sm_congr {g g' : Nat → Nat} : ∀ n, (∀ k, k < n → g k = g' k) → sm g n = sm g' n
  | 0, _ => rfl
  | n + 1, h => by rw [sm, sm, sm_congr n (fun k hk => h k (by omega)), h n (by omega)]
def cl (r o : Nat → Nat) : Nat → Nat
  | 0 => 10000
  | k + 1 => cl r o k * (100 - r k) / 100 * (100 - o k) / 100
theorem cut_le {a b : Nat} : a * (100 - b) / 100 ≤ a := by
  apply Nat.div_le_of_le_mul
  rw [Nat.mul_comm 100 a]
  exact Nat.mul_le_mul_left a (by omega)
theorem cl_le {r o : Nat → Nat} : ∀ n, cl r o n ≤ 10000
  | 0 => Nat.le_refl _
  | n + 1 => Nat.le_trans (Nat.le_trans cut_le cut_le) (cl_le n)
theorem cl_congr {r o r' o' : Nat → Nat} : ∀ n, (∀ k, k < n → r k = r' k ∧ o k = o' k) → cl r o n = cl r' o' n
  | 0, _ => rfl
  | n + 1, h => by rw [cl, cl, cl_congr n (fun k hk => h k (by omega)), (h n (by omega)).1, (h n (by omega)).2]
theorem tn_lt {y k l : Nat} (h : y ≤ 99) : tn y k l ≤ 150 := by
  have : y * (6 - l % 4) ≤ 99 * 6 := Nat.mul_le_mul (by omega) (by omega)
  unfold tn
  generalize y * (6 - l % 4) = q at *
  split <;> split <;> omega
theorem i_tri (a b : Int32) : a < b ∨ a = b ∨ b < a := by
  rw [Int32.lt_iff_toInt_lt, Int32.lt_iff_toInt_lt, ← Int32.toInt_inj]; omega
theorem i_asy {a b : Int32} (h : a < b) : ¬ b < a := by
  rw [Int32.lt_iff_toInt_lt] at *; omega
theorem i_ne {a b : Int32} (h : a < b) : ¬ a = b := by
  rw [Int32.lt_iff_toInt_lt] at h; rw [← Int32.toInt_inj]; omega
theorem i_ne' {a b : Int32} (h : a < b) : ¬ b = a := by
  rw [Int32.lt_iff_toInt_lt] at h; rw [← Int32.toInt_inj]; omega
theorem i_irr (a : Int32) : ¬ a < a := by rw [Int32.lt_iff_toInt_lt]; omega
theorem nI_bd {n : Nat} : nI n + -1 = nI n - 1 := by
  rw [Int32.sub_eq_add_neg]
theorem out_le {v : Int32} {n : Nat} (h : out v (n + 1)) (h0 : ¬ v < 0) (hn : n + 1 < 2 ^ 31) : ¬ v ≤ nI n := by
  obtain ⟨j, hj, rfl⟩ := nI_of h0
  rcases h with h | h
  · exact absurd h h0
  · rw [nI_leI (by omega) hj] at h
    rw [nI_leI hj (by omega)]; omega
/-- tenths of a plan -/
def pt (F : Nat) (kd ft pl : Nat → Nat) (p : Nat) : Nat := sm (fun f => tn (ft f) (kd f) (pl (8 * p + f))) F
/-- odds of refusals, of poles by a plan -/
def rr (kd ft st ca : Nat → Nat) (h : Nat) : Nat → Nat := fun f => rf (ft f) (st h) (kd f) (ca (4 * h + 3))
def oo (V : Nat → Nat → Nat → Nat → Nat → Nat → Nat → Nat → Nat) (kd ht ft st sc ca pl : Nat → Nat) (h p : Nat) : Nat → Nat := fun f => od V kd ft st sc ca h f (pl (8 * p + f)) (ht f)
/-- where a pole falls the most likely, of the first k fences -/
def fM (o : Nat → Nat) : Nat → Nat
  | 0 => 0
  | k + 1 => if k = 0 ∨ o (fM o k) < o k then k else fM o k
/-- the turn that is best cut -/
def cuB (m s : Nat → Int32) (c : Nat → Nat) : Nat → Option Nat
  | 0 => none
  | k + 1 => if c k < 4 then (match cuB m s c k with
    | none => some k
    | some b => if m k < m b ∨ (m k = m b ∧ s b < s k) then some k else some b) else cuB m s c k
theorem cuB_n {m s : Nat → Int32} {c : Nat → Nat} {k : Nat} (h : ¬ c k < 4) : cuB m s c (k + 1) = cuB m s c k := by rw [cuB, if_neg h]
theorem cuB_0 {m s : Nat → Int32} {c : Nat → Nat} {k : Nat} (h : c k < 4) (h2 : cuB m s c k = none) : cuB m s c (k + 1) = some k := by rw [cuB, if_pos h, h2]
theorem cuB_t {m s : Nat → Int32} {c : Nat → Nat} {k b : Nat} (h : c k < 4) (h2 : cuB m s c k = some b) (h3 : m k < m b ∨ (m k = m b ∧ s b < s k)) : cuB m s c (k + 1) = some k := by
  rw [cuB, if_pos h, h2]; exact if_pos h3
theorem cuB_f {m s : Nat → Int32} {c : Nat → Nat} {k b : Nat} (h : c k < 4) (h2 : cuB m s c k = some b) (h3 : ¬ (m k < m b ∨ (m k = m b ∧ s b < s k))) : cuB m s c (k + 1) = some b := by
  rw [cuB, if_pos h, h2]; exact if_neg h3
section
variable {F H P : Nat} {kd ht ft st sc ca pl : Nat → Nat} {V : Nat → Nat → Nat → Nat → Nat → Nat → Nat → Nat → Nat} {ck ch cf cd cp rk mk mh mf ms mc ma mp ml : Nat → Int32} {rz mz : Int32} {n h p : Nat} {nt mt : Nat → Int64}
theorem x_planTenths (hX : okX F H P kd ht ft st sc ca pl V ck ch cf cd cp rz rk) (hp : p < P) : f_X1_planTenths (nI p) (nI F) ck cf cp = some (nI (pt F kd ft pl p)) := by
  have hF := hX.1.1
  have hP := hX.2.2.2.1.1
  unfold f_X1_planTenths
  obtain ⟨k, v2, v3, rc, ⟨rfl, rfl, hk⟩, hE, e⟩ := le2 (s := s_X1_planTenths_4 (nI p) (nI F) ck cf cp k_X1_planTenths_4) (a1 := 0) (a2 := 0)
    (fun k v2 v3 => v2 = nI (sm (fun f => tn (ft f) (kd f) (pl (8 * p + f))) k) ∧ v3 = nI k ∧ k ≤ F) (fun k _ _ => k = F) 8 (by omega) ⟨rfl, rfl, by omega⟩ (by
      rintro rc k v2 v3 ⟨rfl, rfl, hk⟩
      by_cases hkF : k = F
      · exact .inl hkF
      · refine .inr ⟨by omega, ?_⟩
        have hl := (hX.2.2.2.1.2 p hp k (by omega)).1
        unfold s_X1_planTenths_4
        rw [if_neg (nI_ge (by omega) (by omega))]
        simp (disch := omega) only [x_letter hX.2.2.2.1 hp (show k < F by omega), bd1_e, x_tenths hX.1 (show k < F by omega) (show pl (8 * p + k) < 8 by omega), lt1_e, nI_add, c_1]
        exact ⟨_, _, ⟨rfl, rfl, by omega⟩, rfl⟩)
  subst hE
  rw [e]
  unfold s_X1_planTenths_4
  rw [if_pos (nI_le (Nat.le_refl _) (by omega))]
  rfl
theorem m_planTenths (hM : okM F H P kd ht ft st sc ca pl V mk mh mf ms mc ma mp mz ml) (hp : p < P) : f_X12_tenthsOfPlan (nI p) (nI F) mk mf mp = some (nI (pt F kd ft pl p)) := by
  have hF := hM.1.1
  have hP := hM.2.2.2.1.1
  unfold f_X12_tenthsOfPlan
  obtain ⟨k, v2, v3, rc, ⟨rfl, rfl, hk⟩, hE, e⟩ := le2 (s := s_X12_tenthsOfPlan_4 (nI p) (nI F) mk mf mp k_X12_tenthsOfPlan_4) (a1 := 0) (a2 := 0)
    (fun k v2 v3 => v2 = nI (sm (fun f => tn (ft f) (kd f) (pl (8 * p + f))) k) ∧ v3 = nI k ∧ k ≤ F) (fun k _ _ => k = F) 8 (by omega) ⟨rfl, rfl, by omega⟩ (by
      rintro rc k v2 v3 ⟨rfl, rfl, hk⟩
      by_cases hkF : k = F
      · exact .inl hkF
      · refine .inr ⟨by omega, ?_⟩
        have hl := (hM.2.2.2.1.2 p hp k (by omega)).1
        unfold s_X12_tenthsOfPlan_4
        rw [if_neg (nI_ge (by omega) (by omega))]
        simp (disch := omega) only [m_letter hM.2.2.2.1 hp (show k < F by omega), bd1_e, m_tenths hM.1 (show k < F by omega) (show pl (8 * p + k) < 8 by omega), lt1_e, nI_add, c_1]
        exact ⟨_, _, ⟨rfl, rfl, by omega⟩, rfl⟩)
  subst hE
  rw [e]
  unfold s_X12_tenthsOfPlan_4
  rw [if_pos (nI_le (Nat.le_refl _) (by omega))]
  rfl
theorem pt_le (hC : okC F kd ft ck cf) : pt F kd ft pl p ≤ 1200 := by
  have hF := hC.1
  have := sm_le (g := fun f => tn (ft f) (kd f) (pl (8 * p + f))) (b := 150) F (fun k hk => tn_lt (hC.2 k hk).1.2.2)
  unfold pt
  omega
theorem x_clearOf (hX : okX F H P kd ht ft st sc ca pl V ck ch cf cd cp rz rk) (hh : h < H) (hp : p < P) (sk th : Nat → Int32) : ∃ sk' th', f_X1_clearOf (nI h) (nI p) (nI F) rz ck ch cf cd cp rk sk th = some (nI (cl (rr kd ft st ca h) (oo V kd ht ft st sc ca pl h p) F), sk', th') := by
  have hF := hX.1.1
  have hV := hX.2.2.2.2.1
  unfold f_X1_clearOf
  obtain ⟨k, v2, v3, sk', th', rc, ⟨rfl, rfl, hk⟩, hE, e⟩ := le4 (s := s_X1_clearOf_7 (nI h) (nI p) (nI F) rz ck ch cf cd cp rk k_X1_clearOf_7) (a1 := 10000) (a2 := 0) (a3 := sk) (a4 := th)
    (fun k v2 v3 _ _ => v2 = nI (cl (rr kd ft st ca h) (oo V kd ht ft st sc ca pl h p) k) ∧ v3 = nI k ∧ k ≤ F) (fun k _ _ _ _ => k = F) 8 (by omega) ⟨rfl, rfl, by omega⟩ (by
      rintro rc k v2 v3 s1 t1 ⟨rfl, rfl, hk⟩
      by_cases hkF : k = F
      · exact .inl hkF
      · refine .inr ⟨by omega, ?_⟩
        have hkF' : k < F := by omega
        have hl := (hX.2.2.2.1.2 p hp k hkF').1
        obtain ⟨s2, t2, ep⟩ := x_pole hX hh hkF' (show pl (8 * p + k) < 8 by omega) s1 t1
        have b1 := cl_le (r := rr kd ft st ca h) (o := oo V kd ht ft st sc ca pl h p) k
        have b2 : rr kd ft st ca h k ≤ 61 := rf_le (hX.2.2.1.1.2 h hh).1
        have b3 : oo V kd ht ft st sc ca pl h p k ≤ 100 := od_le hV
        have e1 : rf (ft k) (st h) (kd k) (ca (4 * h + 3)) = rr kd ft st ca h k := rfl
        have e2 : od V kd ft st sc ca h k (pl (8 * p + k)) (ht k) = oo V kd ht ft st sc ca pl h p k := rfl
        have e3 : cl (rr kd ft st ca h) (oo V kd ht ft st sc ca pl h p) (k + 1) = cl (rr kd ft st ca h) (oo V kd ht ft st sc ca pl h p) k * (100 - rr kd ft st ca h k) / 100 * (100 - oo V kd ht ft st sc ca pl h p k) / 100 := rfl
        unfold s_X1_clearOf_7 f_X1_passing
        rw [if_neg (nI_ge (by omega) (by omega))]
        simp only [x_letter hX.2.2.2.1 hp hkF' hF, bd1_e, ep, bd3_e, x_refusal hX.1 hX.2.2.1 hh hkF', lt1_e, e1, e2, e3]
        generalize rr kd ft st ca h k = a at *
        generalize oo V kd ht ft st sc ca pl h p k = b at *
        generalize cl (rr kd ft st ca h) (oo V kd ht ft st sc ca pl h p) k = c at *
        have b4 : c * (100 - a) ≤ 10000 * 100 := Nat.mul_le_mul (by omega) (by omega)
        have b5 : c * (100 - a) / 100 * (100 - b) ≤ 10000 * 100 := Nat.mul_le_mul (by omega) (by omega)
        simp (disch := omega) only [nI_add, c_1, c_100, pk_sub, pk_mul, pk_div]
        exact ⟨_, _, _, _, ⟨rfl, rfl, by omega⟩, rfl⟩)
  subst hE
  rw [e]
  unfold s_X1_clearOf_7
  rw [if_pos (nI_le (Nat.le_refl _) (by omega))]
  exact ⟨_, _, rfl⟩
/-- clear, fence j being hi high -/
theorem m_clearBy (hM : okM F H P kd ht ft st sc ca pl V mk mh mf ms mc ma mp mz ml) (hh : h < H) (hp : p < P) {j hi : Nat} {v3 : Int32} (hv : ∀ f, f < F → (nI f = v3) = (f = j)) (q1 q2 q3 q4 q5 q6 q7 q8 q9 q10 : Int32) : ∃ r, f_X12_clearBy (nI h) (nI p) v3 (nI hi) (nI F) q1 q2 q3 q4 q5 mz q6 q7 q8 q9 q10 mk mh mf ms mc ma mp ml = some (nI (cl (rr kd ft st ca h) (fun f => od V kd ft st sc ca h f (pl (8 * p + f)) (if f = j then hi else ht f)) F), r) := by
  have hF := hM.1.1
  have hV := hM.2.2.2.2.1
  unfold f_X12_clearBy
  obtain ⟨k, v2, v6, w1, w2, w3, w4, w5, w6, w7, w8, w9, w10, rc, ⟨rfl, rfl, hk⟩, hE, e⟩ := le12 (s := s_X12_clearBy_8 (nI h) (nI p) v3 (nI hi) (nI F) mz mk mh mf ms mc ma mp ml k_X12_clearBy_8) (a1 := 10000) (a2 := 0) (a3 := q1) (a4 := q2) (a5 := q3) (a6 := q4) (a7 := q5) (a8 := q6) (a9 := q7) (a10 := q8) (a11 := q9) (a12 := q10)
    (fun k v2 v6 _ _ _ _ _ _ _ _ _ _ => v2 = nI (cl (rr kd ft st ca h) (fun f => od V kd ft st sc ca h f (pl (8 * p + f)) (if f = j then hi else ht f)) k) ∧ v6 = nI k ∧ k ≤ F) (fun k _ _ _ _ _ _ _ _ _ _ _ _ => k = F) 8 (by omega) ⟨rfl, rfl, by omega⟩ (by
      rintro rc k v2 v6 u1 u2 u3 u4 u5 u6 u7 u8 u9 u10 ⟨rfl, rfl, hk⟩
      by_cases hkF : k = F
      · exact .inl hkF
      · refine .inr ⟨by omega, ?_⟩
        have hkF' : k < F := by omega
        have hl := (hM.2.2.2.1.2 p hp k hkF').1
        have b1 := cl_le (r := rr kd ft st ca h) (o := (fun f => od V kd ft st sc ca h f (pl (8 * p + f)) (if f = j then hi else ht f))) k
        have b2 : rr kd ft st ca h k ≤ 61 := rf_le (hM.2.2.1.1.2 h hh).1
        have e1 : rf (ft k) (st h) (kd k) (ca (4 * h + 3)) = rr kd ft st ca h k := rfl
        have e3 : cl (rr kd ft st ca h) (fun f => od V kd ft st sc ca h f (pl (8 * p + f)) (if f = j then hi else ht f)) (k + 1) = cl (rr kd ft st ca h) (fun f => od V kd ft st sc ca h f (pl (8 * p + f)) (if f = j then hi else ht f)) k * (100 - rr kd ft st ca h k) / 100 * (100 - od V kd ft st sc ca h k (pl (8 * p + k)) (if k = j then hi else ht k)) / 100 := rfl
        unfold s_X12_clearBy_8
        rw [if_neg (nI_ge (by omega) (by omega))]
        simp only [m_refusal hM.1 hM.2.2.1 hh hkF', bd1_e, lt1_e, m_letter hM.2.2.2.1 hp hkF' hF, hv k hkF', e1, e3]
        generalize cl (rr kd ft st ca h) (fun f => od V kd ft st sc ca h f (pl (8 * p + f)) (if f = j then hi else ht f)) k = c at *
        by_cases hj : k = j
        · obtain ⟨⟨w1, w2, w3, w4, w5, w6, w7, w8, w9, w10⟩, ep⟩ := m_odds4 hM hh hkF' (show pl (8 * p + k) < 8 by omega) hi u1 u2 u3 u4 u5 u6 u7 u8 u9 u10
          have b3 : od V kd ft st sc ca h k (pl (8 * p + k)) hi ≤ 100 := od_le hV
          simp only [hj, if_true, ep, bd11_e]
          simp only [hj] at ep
          rw [ep, bd11_e]
          simp only [hj] at b2 b3
          generalize rr kd ft st ca h j = a at *
          generalize od V kd ft st sc ca h j (pl (8 * p + j)) hi = b at *
          have b4 : c * (100 - a) ≤ 10000 * 100 := Nat.mul_le_mul (by omega) (by omega)
          have b5 : c * (100 - a) / 100 * (100 - b) ≤ 10000 * 100 := Nat.mul_le_mul (by omega) (by omega)
          simp (disch := omega) only [nI_add, c_1, c_100, pk_sub, pk_mul, pk_div]
          exact ⟨_, _, _, _, _, _, _, _, _, _, _, _, ⟨rfl, rfl, by omega⟩, rfl⟩
        · obtain ⟨⟨w1, w2, w3, w4, w5, w6, w7, w8, w9, w10⟩, ep⟩ := m_odds4 hM hh hkF' (show pl (8 * p + k) < 8 by omega) (ht k) u1 u2 u3 u4 u5 u6 u7 u8 u9 u10
          have b3 : od V kd ft st sc ca h k (pl (8 * p + k)) (ht k) ≤ 100 := od_le hV
          simp (disch := omega) only [hj, if_false, gx, nI_clamp, (hM.2.1 k hkF').2, ep, bd11_e]
          generalize rr kd ft st ca h k = a at *
          generalize od V kd ft st sc ca h k (pl (8 * p + k)) (ht k) = b at *
          have b4 : c * (100 - a) ≤ 10000 * 100 := Nat.mul_le_mul (by omega) (by omega)
          have b5 : c * (100 - a) / 100 * (100 - b) ≤ 10000 * 100 := Nat.mul_le_mul (by omega) (by omega)
          simp (disch := omega) only [nI_add, c_1, c_100, pk_sub, pk_mul, pk_div]
          exact ⟨_, _, _, _, _, _, _, _, _, _, _, _, ⟨rfl, rfl, by omega⟩, rfl⟩)
  subst hE
  rw [e]
  unfold s_X12_clearBy_8
  rw [if_pos (nI_le (Nat.le_refl _) (by omega))]
  exact ⟨_, rfl⟩
theorem m_clearOf (hM : okM F H P kd ht ft st sc ca pl V mk mh mf ms mc ma mp mz ml) (hh : h < H) (hp : p < P) (q1 q2 q3 q4 q5 q6 q7 q8 q9 q10 : Int32) : ∃ r, f_X12_clearOf (nI h) (nI p) (nI F) q1 q2 q3 q4 q5 mz q6 q7 q8 q9 q10 mk mh mf ms mc ma mp ml = some (nI (cl (rr kd ft st ca h) (oo V kd ht ft st sc ca pl h p) F), r) := by
  have hF := hM.1.1
  obtain ⟨⟨w1, w2, w3, w4, w5, w6, w7, w8, w9, w10⟩, e⟩ := m_clearBy hM hh hp (j := F) (hi := 0) (v3 := -1) (fun f hf => by
    rw [eq_false (m1_ne (k := f) (by omega)), eq_false (show ¬ f = F by omega)]) q1 q2 q3 q4 q5 q6 q7 q8 q9 q10
  unfold f_X12_clearOf
  have e0 : (0 : Int32) = nI 0 := rfl
  rw [e0, e, bd11_e]
  rw [cl_congr (r' := rr kd ft st ca h) (o' := oo V kd ht ft st sc ca pl h p) F (fun k hk => ⟨rfl, by rw [if_neg (by omega)]; rfl⟩)]
  exact ⟨_, rfl⟩
end
