/-! poles -/
/-- how likely so many poles fall, behind k fences -/
def ps (o : Nat → Nat) : Nat → Nat → Nat
  | 0, j => if j = 0 then 10000 else 0
  | k + 1, j => ps o k j * (100 - o k) / 100 + (if j = 0 then 0 else ps o k (j - 1) * o k / 100)
theorem ps_le {o : Nat → Nat} (ho : ∀ k, o k ≤ 100) : ∀ k j, ps o k j ≤ 10000 * 2 ^ k
  | 0, j => by rw [ps]; split <;> omega
  | k + 1, j => by
    have h1 := ps_le ho k j
    have h2 := ps_le ho k (j - 1)
    have h3 : ps o k j * (100 - o k) / 100 ≤ ps o k j := cut_le
    have h4 : ps o k (j - 1) * o k / 100 ≤ ps o k (j - 1) := by
      apply Nat.div_le_of_le_mul
      rw [Nat.mul_comm 100]
      exact Nat.mul_le_mul_left _ (ho k)
    rw [ps, Nat.pow_succ]
    split <;> omega
theorem ps_le8 {o : Nat → Nat} (ho : ∀ k, o k ≤ 100) {k : Nat} (hk : k ≤ 8) (j : Nat) : ps o k j ≤ 2560000 := by
  have := ps_le ho k j
  have h2 : 2 ^ k ≤ 2 ^ 8 := Nat.pow_le_pow_right (by omega) hk
  omega
theorem fill_ch (v : Int64) (c : Nat → Int64) : ∃ g, f_J7_fill_d0a16_chances v c = some g ∧ ∀ j, j < 9 → g j = v := by
  unfold f_J7_fill_d0a16_chances
  obtain ⟨k, v2, g, rc, ⟨rfl, hk, hI⟩, hE, e⟩ := le2 (s := s_J7_fill_d0a16_chances_6 v k_J7_fill_d0a16_chances_6) (a1 := 0) (a2 := c)
    (fun k v2 g => v2 = nI k ∧ k ≤ 9 ∧ ∀ j, j < k → g j = v) (fun k _ _ => k = 9) 9 (by omega) ⟨rfl, by omega, fun j hj => absurd hj (by omega)⟩ (by
      rintro rc k v2 g ⟨rfl, hk, hI⟩
      by_cases h9 : k = 9
      · exact .inl h9
      · refine .inr ⟨by omega, ?_⟩
        unfold s_J7_fill_d0a16_chances_6
        rw [if_neg (show ¬ (9 : Int32) ≤ nI k from nI_ge (a := k) (b := 9) (by omega) (by omega)), gx (by omega) (by omega), lt1_e, nI_1, nI_clamp (by omega)]
        refine ⟨_, _, ⟨rfl, by omega, fun j hj => ?_⟩, rfl⟩
        by_cases e : j = k
        · subst e; rw [updL_s]
        · rw [updL_n e]; exact hI j (by omega))
  subst hE
  rw [e]
  unfold s_J7_fill_d0a16_chances_6
  rw [if_pos (by decide)]
  exact ⟨g, rfl, hI⟩
section
variable {F H P : Nat} {kd ht ft st sc ca pl : Nat → Nat} {V : Nat → Nat → Nat → Nat → Nat → Nat → Nat → Nat → Nat} {ck ch cf cd cp rk mk mh mf ms mc ma mp ml : Nat → Int32} {rz mz : Int32} {n h p : Nat}
theorem x_poles (hX : okX F H P kd ht ft st sc ca pl V ck ch cf cd cp rz rk) (hh : h < H) (hp : p < P) {q : Nat} (hq : q < 9) (sk th : Nat → Int32) (cn : Nat → Int64) : ∃ sk' th' cn', f_X11_poles (nI h) (nI p) (nI q) (nI F) (nI H) (nI P) rz ck ch cf cd cp rk sk th cn = some (nI (ps (oo V kd ht ft st sc ca pl h p) F q), sk', th', cn') := by
  have hF := hX.1.1
  have hH := hX.2.2.1.1.1
  have hP := hX.2.2.2.1.1
  have hV := hX.2.2.2.2.1
  have ho : ∀ f, oo V kd ht ft st sc ca pl h p f ≤ 100 := fun f => od_le hV
  have eo : ∀ f, od V kd ft st sc ca h f (pl (8 * p + f)) (ht f) = oo V kd ht ft st sc ca pl h p f := fun f => rfl
  unfold f_X11_poles
  simp (disch := omega) only [x_hasHT hh, x_hasPT hp, bd1_e, i10, if_false]
  rw [if_neg (nI_pos (by omega)), if_pos (show nI q ≤ 8 from nI_le (b := 8) (by omega) (by omega))]
  obtain ⟨g, eg, hg⟩ := fill_ch 0 cn
  rw [eg, bd1_e, gd_t (by decide)]
  generalize oo V kd ht ft st sc ca pl h p = o at *
  obtain ⟨k, v4, sk', th', c', rc, ⟨rfl, hk, hI⟩, hE, e⟩ := le4 (s := s_X11_poles_54 (nI h) (nI p) (nI F) rz ck ch cf cd cp rk (k_X11_poles_54 (nI q))) (a1 := 0) (a2 := sk) (a3 := th) (a4 := vp_updL g (0 : Int32).toNatClampNeg 10000)
    (fun k v4 _ _ c => v4 = nI k ∧ k ≤ F ∧ ∀ j, j < 9 → c j = lN (ps o k j)) (fun k _ _ _ _ => k = F) 8 (by omega) ⟨rfl, by omega, fun j hj => by
      rw [show (0 : Int32).toNatClampNeg = 0 from rfl]
      by_cases e : j = 0
      · subst e; rw [updL_s]; rfl
      · rw [updL_n e, hg j hj, ps, if_neg e]; rfl⟩ (by
      rintro rc k v4 s1 t1 c ⟨rfl, hk, hI⟩
      by_cases hkF : k = F
      · exact .inl hkF
      · refine .inr ⟨by omega, ?_⟩
        have hkF' : k < F := by omega
        have hl := (hX.2.2.2.1.2 p hp k hkF').1
        obtain ⟨s2, t2, ep⟩ := x_pole hX hh hkF' (show pl (8 * p + k) < 8 by omega) s1 t1
        have b1 := ho k
        unfold s_X11_poles_54
        rw [if_neg (nI_ge (by omega) (by omega))]
        simp only [x_letter hX.2.2.2.1 hp hkF' hF, bd1_e, ep, bd3_e, eo]
        obtain ⟨t, v6, c2, rc2, ⟨m, hm, rfl, hI2⟩, hE2, e2⟩ := le2 (s := s_X11_poles_92 (nI (o k)) (k_X11_poles_92 rc (nI k) (nI (o k)) s2 t2)) (a1 := 8) (a2 := c)
          (fun t v6 c => ∃ m, t + m = 8 ∧ v6 = nI m ∧ ∀ j, j < 9 → c j = lN (if m < j then ps o (k + 1) j else ps o k j)) (fun t _ _ => t = 8) 8 (by omega) ⟨8, by omega, rfl, fun j hj => by rw [if_neg (by omega)]; exact hI j hj⟩ (by
            rintro rc2 t v6 c2 ⟨m, hm, rfl, hI2⟩
            by_cases h8 : t = 8
            · exact .inl h8
            · refine .inr ⟨by omega, ?_⟩
              obtain ⟨m, rfl⟩ : ∃ m', m = m' + 1 := ⟨m - 1, by omega⟩
              have c1 := hI2 (m + 1) (by omega)
              have c3 := hI2 m (by omega)
              rw [if_neg (by omega)] at c1 c3
              have d1 := ps_le8 ho (show k ≤ 8 by omega) (m + 1)
              have d2 := ps_le8 ho (show k ≤ 8 by omega) m
              have d3 : ps o k (m + 1) * (100 - o k) ≤ 2560000 * 100 := Nat.mul_le_mul d1 (by omega)
              have d4 : ps o k m * o k ≤ 2560000 * 100 := Nat.mul_le_mul d2 (by omega)
              unfold s_X11_poles_92
              rw [if_neg (nI_nle (by omega) (by omega))]
              simp (disch := omega) only [gx, nI_pred, lt1_e, pk_m1, nI_clamp, c1, c3, c_100, pk_sub, nI_l, l_100, lN_mul, gzl, pk_lDiv, lN_add]
              refine ⟨_, _, ⟨m, by omega, rfl, fun j hj => ?_⟩, rfl⟩
              by_cases e : j = m + 1
              · subst e
                rw [updL_s, if_pos (by omega), ps, if_neg (by omega)]
                rfl
              · rw [updL_n e, hI2 j hj]
                by_cases e2 : m + 1 < j
                · rw [if_pos e2, if_pos (by omega)]
                · rw [if_neg e2, if_neg (by omega)])
        subst hE2
        have : m = 0 := by omega
        subst this
        rw [e2]
        have c1 := hI2 0 (by omega)
        rw [if_neg (by omega)] at c1
        have d1 := ps_le8 ho (show k ≤ 8 by omega) 0
        have d3 : ps o k 0 * (100 - o k) ≤ 2560000 * 100 := Nat.mul_le_mul d1 (by omega)
        unfold s_X11_poles_92 k_X11_poles_92
        rw [if_pos (by decide)]
        simp (disch := omega) only [gx, lt1_e, nI_1, c_0, nI_clamp, c1, c_100, pk_sub, nI_l, l_100, lN_mul, gzl, pk_lDiv, lN_add]
        refine ⟨_, _, _, _, ⟨rfl, by omega, fun j hj => ?_⟩, rfl⟩
        by_cases e : j = 0
        · subst e
          rw [updL_s, ps, if_pos rfl]
          rfl
        · rw [updL_n e, hI2 j hj, if_pos (by omega)])
  subst hE
  rw [e]
  unfold s_X11_poles_54 k_X11_poles_54
  rw [if_pos (nI_le (Nat.le_refl _) (by omega)), gx hq (by omega), nI_clamp (by omega), hI q hq, lN_i]
  exact ⟨_, _, _, rfl⟩
theorem m_polesF (o : Nat → Nat) (fl : Nat → Int32) (kk : (Nat → Int32) → Option (Int32 × Int32 × Int32 × Int32 × Int32 × Int32 × Int32 × Int32 × Int32 × Int32 × Int32 × Int32 × (Nat → Int32))) : ∃ g, (∀ j, j < 9 → g j = nI (ps o 0 j)) ∧ ml2 (s_X12_poles_29 kk) zN 0 fl = kk g := by
  obtain ⟨k, v2, g, rc, ⟨rfl, hk, hI⟩, hE, e⟩ := le2 (s := s_X12_poles_29 kk) (a1 := 0) (a2 := fl)
    (fun k v2 g => v2 = nI k ∧ k ≤ 9 ∧ ∀ j, j < k → g j = nI (ps o 0 j)) (fun k _ _ => k = 9) 9 (by omega) ⟨rfl, by omega, fun j hj => absurd hj (by omega)⟩ (by
      rintro rc k v2 g ⟨rfl, hk, hI⟩
      by_cases h9 : k = 9
      · exact .inl h9
      · refine .inr ⟨by omega, ?_⟩
        unfold s_X12_poles_29
        rw [if_neg (show ¬ (8 : Int32) < nI k from nI_nlt (a := 8) (b := k) (by omega) (by omega))]
        by_cases k0 : k = 0
        · subst k0
          rw [if_pos nI_0, gx (by omega) (by omega), lt1_e, nI_1, nI_clamp (by omega)]
          refine ⟨_, _, ⟨rfl, by omega, fun j hj => ?_⟩, rfl⟩
          have : j = 0 := by omega
          subst this
          rw [upd_s]; rfl
        · rw [if_neg (nI_ne0 (by omega) (by omega)), gx (by omega) (by omega), lt1_e, nI_1, nI_clamp (by omega)]
          refine ⟨_, _, ⟨rfl, by omega, fun j hj => ?_⟩, rfl⟩
          by_cases e : j = k
          · subst e; rw [upd_s, ps, if_neg k0]; rfl
          · rw [upd_n e]; exact hI j (by omega))
  subst hE
  rw [e]
  unfold s_X12_poles_29
  rw [if_pos (by decide)]
  exact ⟨g, hI, rfl⟩
theorem m_polesI (o : Nat → Nat) (ho : ∀ k, o k ≤ 100) {k : Nat} (hk : k ≤ 8) (c : Nat → Int32) (hI : ∀ j, j < 9 → c j = nI (ps o k j)) (kk : (Nat → Int32) → Option (Int32 × Int32 × Int32 × Int32 × Int32 × Int32 × Int32 × Int32 × Int32 × Int32 × Int32 × Int32 × (Nat → Int32))) : ∃ c', (∀ j, j < 9 → c' j = nI (ps o (k + 1) j)) ∧ ml2 (s_X12_poles_93 (nI (o k)) kk) zN 8 c = kk c' := by
  have b1 := ho k
  obtain ⟨t, v6, c2, rc2, ⟨m, hm, hv, hI2⟩, hE2, e2⟩ := le2 (s := s_X12_poles_93 (nI (o k)) kk) (a1 := 8) (a2 := c)
    (fun t v6 c => ∃ m, t + m = 9 ∧ (v6 = nI m - 1) ∧ ∀ j, j < 9 → c j = nI (if m ≤ j then ps o (k + 1) j else ps o k j)) (fun t _ _ => t = 9) 9 (by omega) ⟨9, by omega, by decide, fun j hj => by rw [if_neg (by omega)]; exact hI j hj⟩ (by
      rintro rc2 t v6 c2 ⟨m, hm, rfl, hI2⟩
      by_cases h8 : t = 9
      · exact .inl h8
      · refine .inr ⟨by omega, ?_⟩
        obtain ⟨m, rfl⟩ : ∃ m', m = m' + 1 := ⟨m - 1, by omega⟩
        have c1 := hI2 m (by omega)
        rw [if_neg (by omega)] at c1
        have d1 := ps_le8 ho (show k ≤ 8 by omega) m
        have d3 : ps o k m * (100 - o k) ≤ 2560000 * 100 := Nat.mul_le_mul d1 (by omega)
        unfold s_X12_poles_93
        rw [nI_pred, if_neg (nI_pos (by omega)), gx (by omega) (by omega)]
        by_cases m0 : m = 0
        · subst m0
          rw [if_pos nI_0]
          simp (disch := omega) only [gx, lt1_e, nI_clamp, c1, c_100, pk_sub, pk_mul, pk_div, c_0, nI_add]
          refine ⟨_, _, ⟨0, by omega, by decide, fun j hj => ?_⟩, rfl⟩
          by_cases e : j = 0
          · subst e
            rw [upd_s, if_pos (by omega), ps, if_pos rfl]
          · rw [upd_n e, hI2 j hj, if_pos (by omega), if_pos (by omega)]
        · have c3 := hI2 (m - 1) (by omega)
          rw [if_neg (by omega)] at c3
          have d2 := ps_le8 ho (show k ≤ 8 by omega) (m - 1)
          have d4 : ps o k (m - 1) * o k ≤ 2560000 * 100 := Nat.mul_le_mul d2 (by omega)
          have hm1 : nI m - 1 = nI (m - 1) := by rw [c_1, pk_sub (by omega)]
          rw [if_neg (nI_ne0 (by omega) (by omega)), hm1]
          simp (disch := omega) only [gx, lt1_e, nI_clamp, c1, c3, c_100, pk_sub, pk_mul, pk_div, nI_add, nI_bd]
          refine ⟨_, _, ⟨m, by omega, rfl, fun j hj => ?_⟩, rfl⟩
          by_cases e : j = m
          · subst e
            rw [upd_s, if_pos (by omega), ps, if_neg m0]
          · rw [upd_n e, hI2 j hj]
            by_cases e2 : m + 1 ≤ j
            · rw [if_pos e2, if_pos (by omega)]
            · rw [if_neg e2, if_neg (by omega)])
  subst hE2
  have : m = 0 := by omega
  subst this
  subst hv
  rw [e2]
  unfold s_X12_poles_93
  rw [if_pos (by decide)]
  exact ⟨c2, fun j hj => by rw [hI2 j hj, if_pos (by omega)], rfl⟩
theorem m_oddsR (hM : okM F H P kd ht ft st sc ca pl V mk mh mf ms mc ma mp mz ml) {f l : Nat} (hh : h < H) (hf : f < F) (hl : l < 8) (q1 q2 q3 q4 q5 q6 q7 q8 q9 q10 : Int32) : Rt (f_X12_oddsOf_ (nI h) (nI f) (nI l) q1 q2 q3 q4 q5 mz q6 q7 q8 q9 q10 mk mh mf ms mc ma ml) (fun r => r.1 = nI (od V kd ft st sc ca h f l (ht f))) := by
  obtain ⟨r, e⟩ := m_odds hM hh hf hl q1 q2 q3 q4 q5 q6 q7 q8 q9 q10
  exact rt_e e rfl
theorem m_oddsR4 (hM : okM F H P kd ht ft st sc ca pl V mk mh mf ms mc ma mp mz ml) {f l : Nat} (hh : h < H) (hf : f < F) (hl : l < 8) (hi : Nat) (q1 q2 q3 q4 q5 q6 q7 q8 q9 q10 : Int32) : Rt (f_X12_oddsOf (nI h) (nI f) (nI l) (nI hi) q1 q2 q3 q4 q5 mz q6 q7 q8 q9 q10 mk mf ms mc ma ml) (fun r => r.1 = nI (od V kd ft st sc ca h f l hi)) := by
  obtain ⟨r, e⟩ := m_odds4 hM hh hf hl hi q1 q2 q3 q4 q5 q6 q7 q8 q9 q10
  exact rt_e e rfl
theorem x_poleR (hX : okX F H P kd ht ft st sc ca pl V ck ch cf cd cp rz rk) {f l : Nat} (hh : h < H) (hf : f < F) (hl : l < 8) (sk th : Nat → Int32) : Rt (f_X1_poleOdds (nI h) (nI f) (nI l) rz ck ch cf cd rk sk th) (fun r => r.1 = nI (od V kd ft st sc ca h f l (ht f))) := by
  obtain ⟨a, b, e⟩ := x_pole hX hh hf hl sk th
  exact rt_e e rfl
theorem m_poles (hM : okM F H P kd ht ft st sc ca pl V mk mh mf ms mc ma mp mz ml) (hh : h < H) (hp : p < P) {q : Nat} (hq : q < 9) (q1 q2 q3 q4 q5 q6 q7 q8 q9 q10 tw : Int32) (fl : Nat → Int32) : Rt (f_X12_poles (nI h) (nI p) (nI q) (nI F) (nI H) (nI P) tw q1 q2 q3 q4 q5 mz q6 q7 q8 q9 q10 mk mh mf ms mc ma mp ml fl) (fun r => r.1 = nI (ps (oo V kd ht ft st sc ca pl h p) F q) ∧ r.2.1 = 0) := by
  have hF := hM.1.1
  have hH := hM.2.2.1.1.1
  have hP := hM.2.2.2.1.1
  have hV := hM.2.2.2.2.1
  have ho : ∀ f, oo V kd ht ft st sc ca pl h p f ≤ 100 := fun f => od_le hV
  unfold f_X12_poles
  refine re1 (m_bothT hh (by omega) hp (by omega)) (rt_f (by decide) (re1 (m_inT (n := 8) (by omega) (by omega)) (rt_f (by decide) ?_)))
  obtain ⟨g, hI, e⟩ := m_polesF (oo V kd ht ft st sc ca pl h p) fl (k_X12_poles_29 (nI h) (nI p) (nI q) (nI F) q1 q2 q3 q4 q5 mz q6 q7 q8 q9 q10 mk mh mf ms mc ma mp ml)
  refine rt_eq e ?_
  unfold k_X12_poles_29
  refine rl12 8 (fun k v4 _ _ _ _ _ _ _ _ _ _ c => v4 = nI k ∧ k ≤ F ∧ ∀ j, j < 9 → c j = nI (ps (oo V kd ht ft st sc ca pl h p) k j)) (by omega) ⟨rfl, by omega, hI⟩ ?_
  rintro rc k v4 u1 u2 u3 u4 u5 u6 u7 u8 u9 u10 c ⟨rfl, hk, hI⟩ ih
  unfold s_X12_poles_64
  by_cases hkF : F ≤ k
  · obtain rfl : k = F := by omega
    refine rt_t (nI_le (Nat.le_refl _) (by omega)) ?_
    unfold k_X12_poles_64
    refine rt_gx hq (by omega) (rt_some ⟨?_, rfl⟩)
    show c (nI q).toNatClampNeg = _
    rw [nI_clamp (by omega)]
    exact hI q hq
  · have hkF' : k < F := by omega
    have hl := (hM.2.2.2.1.2 p hp k hkF').1
    refine rt_f (nI_ge (by omega) (by omega)) (re1 (m_letter hM.2.2.2.1 hp hkF' hF) (rb11 (m_oddsR hM hh hkF' (by omega) _ _ _ _ _ _ _ _ _ _) ?_))
    rintro a1 w1 w2 w3 w4 w5 w6 w7 w8 w9 w10 rfl
    obtain ⟨c', hI', e⟩ := m_polesI (oo V kd ht ft st sc ca pl h p) ho (show k ≤ 8 by omega) c hI (k_X12_poles_93 rc (nI k) w1 w2 w3 w4 w5 w6 w7 w8 w9 w10)
    refine rt_eq e ?_
    unfold k_X12_poles_93
    exact rt_lt (ih (by omega) _ _ _ _ _ _ _ _ _ _ _ _ ⟨nI_1 _, by omega, hI'⟩)
theorem pr_poles (hX : okX F H P kd ht ft st sc ca pl V ck ch cf cd cp rz rk) (hM : okM F H P kd ht ft st sc ca pl V mk mh mf ms mc ma mp mz ml) (p1 p2 p3 : Int32) (sk th : Nat → Int32) (cn : Nat → Int64) (q1 q2 q3 q4 q5 q6 q7 q8 q9 q10 tw : Int32) (fl : Nat → Int32) :
    Rt (f_X11_poles p1 p2 p3 (nI F) (nI H) (nI P) rz ck ch cf cd cp rk sk th cn) (fun a => Rt (f_X12_poles p1 p2 p3 (nI F) (nI H) (nI P) tw q1 q2 q3 q4 q5 mz q6 q7 q8 q9 q10 mk mh mf ms mc ma mp ml fl) (fun b => a.1 = b.1 ∧ b.2.1 = 0)) := by
  have hF := hX.1.1
  have hH := hX.2.2.1.1.1
  have hP := hX.2.2.2.1.1
  rcases bel p1 H (by omega) with ⟨h, hh, rfl⟩ | ho
  · rcases bel p2 P (by omega) with ⟨p, hp, rfl⟩ | ho
    · rcases bel p3 9 (by omega) with ⟨q, hq, rfl⟩ | ho
      · obtain ⟨s', t', c', e⟩ := x_poles hX hh hp hq sk th cn
        exact rt_and (rt_e (Q := fun a => a.1 = nI (ps (oo V kd ht ft st sc ca pl h p) F q)) e rfl) (m_poles hM hh hp hq q1 q2 q3 q4 q5 q6 q7 q8 q9 q10 tw fl) (fun r s h1 h2 => ⟨h1.trans h2.1.symm, h2.2⟩)
      · refine rt_and (P := fun a => a.1 = -1) (Q := fun b => b.1 = -1 ∧ b.2.1 = 0) ?_ ?_ (fun r s h1 h2 => ⟨h1.trans h2.1.symm, h2.2⟩)
        · unfold f_X11_poles
          refine re1 (x_hasHT hh (by omega)) (rt_f (by decide) (re1 (x_hasPT hp (by omega)) (rt_f (by decide) (rt_if (fun _ => rt_some rfl) (fun h0 => rt_f (out_le (n := 8) ho h0 (by omega)) (rt_some rfl))))))
        · unfold f_X12_poles
          exact re1 (m_bothT hh (by omega) hp (by omega)) (rt_f (by decide) (re1 (m_inF (n := 8) ho (by omega)) (rt_t rfl (rt_some ⟨rfl, rfl⟩))))
    · refine rt_and (P := fun a => a.1 = -1) (Q := fun b => b.1 = -1 ∧ b.2.1 = 0) ?_ ?_ (fun r s h1 h2 => ⟨h1.trans h2.1.symm, h2.2⟩)
      · unfold f_X11_poles
        exact re1 (x_hasHT hh (by omega)) (rt_f (by decide) (re1 (x_hasPF ho) (rt_t rfl (rt_some rfl))))
      · unfold f_X12_poles
        exact re1 (m_bothF2 hh (by omega) ho (by omega)) (rt_t rfl (rt_some ⟨rfl, rfl⟩))
  · refine rt_and (P := fun a => a.1 = -1) (Q := fun b => b.1 = -1 ∧ b.2.1 = 0) ?_ ?_ (fun r s h1 h2 => ⟨h1.trans h2.1.symm, h2.2⟩)
    · unfold f_X11_poles
      exact re1 (x_hasHF ho) (rt_t rfl (rt_some rfl))
    · unfold f_X12_poles
      exact re1 (m_bothF1 ho (by omega)) (rt_t rfl (rt_some ⟨rfl, rfl⟩))
end
