/-! cuts, poles -/
section
variable {F H P : Nat} {kd ht ft st sc ca pl : Nat → Nat} {V : Nat → Nat → Nat → Nat → Nat → Nat → Nat → Nat → Nat} {ck ch cf cd cp rk mk mh mf ms mc ma mp ml : Nat → Int32} {rz mz : Int32} {n h p : Nat} {nt mt : Nat → Int64}
/-- how much fear more, how many tenths saved by cutting -/
def cm (V : Nat → Nat → Nat → Nat → Nat → Nat → Nat → Nat → Nat) (kd ht ft st sc ca pl : Nat → Nat) (h p : Nat) : Nat → Int32 := fun k => nI (od V kd ft st sc ca h k (pl (8 * p + k) + 4) (ht k)) - nI (od V kd ft st sc ca h k (pl (8 * p + k)) (ht k))
def cs (kd ft pl : Nat → Nat) (p : Nat) : Nat → Int32 := fun k => nI (tn (ft k) (kd k) (pl (8 * p + k))) - nI (tn (ft k) (kd k) (pl (8 * p + k) + 4))
theorem x_cuts (hX : okX F H P kd ht ft st sc ca pl V ck ch cf cd cp rz rk) (hh : h < H) (hp : p < P) (sk th : Nat → Int32) : ∃ sk' th', (cuB (cm V kd ht ft st sc ca pl h p) (cs kd ft pl p) (fun k => pl (8 * p + k)) F = none ∧ f_X11_cuts (nI h) (nI p) (nI n) (nI F) (nI H) (nI P) rz ck ch cf cd cp rk sk th nt = some (-2, nI n, sk', th', nt)) ∨ ∃ b, cuB (cm V kd ht ft st sc ca pl h p) (cs kd ft pl p) (fun k => pl (8 * p + k)) F = some b ∧ f_X11_cuts (nI h) (nI p) (nI n) (nI F) (nI H) (nI P) rz ck ch cf cd cp rk sk th nt = some (nI b, nI 2, sk', th', r2 nt (cm V kd ht ft st sc ca pl h p b).toInt64 (cs kd ft pl p b).toInt64) := by
  have hF := hX.1.1
  have hH := hX.2.2.1.1.1
  have hP := hX.2.2.2.1.1
  unfold f_X11_cuts
  simp (disch := omega) only [x_hasHT hh, x_hasPT hp, bd1_e, i10, if_false]
  have em : ∀ k, nI (od V kd ft st sc ca h k (pl (8 * p + k) + 4) (ht k)) - nI (od V kd ft st sc ca h k (pl (8 * p + k)) (ht k)) = cm V kd ht ft st sc ca pl h p k := fun k => rfl
  have es : ∀ k, nI (tn (ft k) (kd k) (pl (8 * p + k))) - nI (tn (ft k) (kd k) (pl (8 * p + k) + 4)) = cs kd ft pl p k := fun k => rfl
  generalize cm V kd ht ft st sc ca pl h p = m at *
  generalize cs kd ft pl p = s at *
  obtain ⟨k, v3, v4, v5, v6, sk', th', rc, ⟨rfl, hk, hI⟩, hE, e⟩ := le6 (s := s_X11_cuts_35 (nI h) (nI p) (nI F) rz ck ch cf cd cp rk (k_X11_cuts_35 (nI n) nt)) (a1 := -1) (a2 := 0) (a3 := 0) (a4 := 0) (a5 := sk) (a6 := th)
    (fun k v3 v4 v5 v6 _ _ => v6 = nI k ∧ k ≤ F ∧ ((cuB m s (fun k => pl (8 * p + k)) k = none ∧ v3 = -1 ∧ v4 = 0 ∧ v5 = 0) ∨ ∃ b, cuB m s (fun k => pl (8 * p + k)) k = some b ∧ b < k ∧ v3 = nI b ∧ v4 = m b ∧ v5 = s b)) (fun k _ _ _ _ _ _ => k = F) 8 (by omega) ⟨rfl, by omega, .inl ⟨rfl, rfl, rfl, rfl⟩⟩ (by
      rintro rc k v3 v4 v5 v6 s1 t1 ⟨rfl, hk, hI⟩
      by_cases hkF : k = F
      · exact .inl hkF
      · refine .inr ⟨by omega, ?_⟩
        have hkF' : k < F := by omega
        have hl := (hX.2.2.2.1.2 p hp k hkF').1
        unfold s_X11_cuts_35 f_X1_isCut
        rw [if_neg (nI_ge (by omega) (by omega))]
        simp only [x_letter hX.2.2.2.1 hp hkF' hF, bd1_e, lt1_e, nI_1, show nI (pl (8 * p + k)) + 4 = nI (pl (8 * p + k) + 4) from nI_add _ 4]
        by_cases h4 : pl (8 * p + k) < 4
        · rw [if_pos (show nI (pl (8 * p + k)) < 4 from nI_lt (b := 4) h4 (by omega)), bd1_e, if_pos rfl]
          obtain ⟨s2, t2, ep⟩ := x_pole hX hh hkF' (show pl (8 * p + k) + 4 < 8 by omega) s1 t1
          obtain ⟨s3, t3, ep2⟩ := x_pole hX hh hkF' (show pl (8 * p + k) < 8 by omega) s2 t2
          simp only [ep, bd3_e, ep2, x_tenths hX.1 hkF' (show pl (8 * p + k) < 8 by omega), x_tenths hX.1 hkF' (show pl (8 * p + k) + 4 < 8 by omega), bd1_e, em, es]
          rcases hI with ⟨h1, rfl, rfl, rfl⟩ | ⟨b, h1, hb, rfl, rfl, rfl⟩
          · rw [if_pos rfl]
            exact ⟨_, _, _, _, _, _, ⟨rfl, by omega, .inr ⟨k, cuB_0 h4 h1, by omega, rfl, rfl, rfl⟩⟩, rfl⟩
          · rw [if_neg (m1_ne (by omega))]
            by_cases c1 : m k < m b
            · rw [if_pos c1]
              exact ⟨_, _, _, _, _, _, ⟨rfl, by omega, .inr ⟨k, cuB_t h4 h1 (.inl c1), by omega, rfl, rfl, rfl⟩⟩, rfl⟩
            · rw [if_neg c1]
              by_cases c2 : m k = m b
              · rw [if_pos c2]
                by_cases c3 : s b < s k
                · rw [if_neg (nle_of_lt c3)]
                  exact ⟨_, _, _, _, _, _, ⟨rfl, by omega, .inr ⟨k, cuB_t h4 h1 (.inr ⟨c2, c3⟩), by omega, rfl, rfl, rfl⟩⟩, rfl⟩
                · rw [if_pos (Int32.not_lt.mp c3)]
                  exact ⟨_, _, _, _, _, _, ⟨rfl, by omega, .inr ⟨b, cuB_f h4 h1 (fun q => q.elim c1 (fun q => c3 q.2)), by omega, rfl, rfl, rfl⟩⟩, rfl⟩
              · rw [if_neg c2]
                exact ⟨_, _, _, _, _, _, ⟨rfl, by omega, .inr ⟨b, cuB_f h4 h1 (fun q => q.elim c1 (fun q => c2 q.1)), by omega, rfl, rfl, rfl⟩⟩, rfl⟩
        · rw [if_neg (show ¬ nI (pl (8 * p + k)) < 4 from nI_nlt (b := 4) (by omega) (by omega)), bd1_e, if_neg (by decide)]
          refine ⟨_, _, _, _, _, _, ⟨rfl, by omega, ?_⟩, rfl⟩
          rw [cuB_n (c := fun k => pl (8 * p + k)) (k := k) h4]
          rcases hI with hI | ⟨b, h1, hb, h2⟩
          · exact .inl hI
          · exact .inr ⟨b, h1, by omega, h2⟩)
  subst hE
  refine ⟨sk', th', ?_⟩
  rw [e]
  unfold s_X11_cuts_35 k_X11_cuts_35
  rw [if_pos (nI_le (Nat.le_refl _) (by omega))]
  rcases hI with ⟨h1, rfl, rfl, rfl⟩ | ⟨b, h1, hb, rfl, rfl, rfl⟩
  · left
    rw [if_pos rfl]
    exact ⟨h1, rfl⟩
  · right
    rw [if_neg (m1_ne (by omega))]
    simp (disch := omega) only [x_start, bd1_e, x_put0, bd2_e, x_putk]
    exact ⟨b, h1, rfl⟩
theorem m_cuts (hM : okM F H P kd ht ft st sc ca pl V mk mh mf ms mc ma mp mz ml) (hh : h < H) (hp : p < P) (q1 q2 q3 q4 q5 q6 q7 q8 q9 q10 tw : Int32) : ∃ w1 w2 w3 w4 w5 w6 w7 w8 w9 w10, (cuB (cm V kd ht ft st sc ca pl h p) (cs kd ft pl p) (fun k => pl (8 * p + k)) F = none ∧ f_X12_cuts (nI h) (nI p) (nI F) (nI H) (nI P) (nI n) tw q1 q2 q3 q4 q5 mz q6 q7 q8 q9 q10 mk mh mf ms mc ma mp ml mt = some (-2, nI n, 0, w1, w2, w3, w4, w5, w6, w7, w8, w9, w10, mt)) ∨ ∃ b, cuB (cm V kd ht ft st sc ca pl h p) (cs kd ft pl p) (fun k => pl (8 * p + k)) F = some b ∧ f_X12_cuts (nI h) (nI p) (nI F) (nI H) (nI P) (nI n) tw q1 q2 q3 q4 q5 mz q6 q7 q8 q9 q10 mk mh mf ms mc ma mp ml mt = some (nI b, nI 2, 0, w1, w2, w3, w4, w5, w6, w7, w8, w9, w10, r2 mt (cm V kd ht ft st sc ca pl h p b).toInt64 (cs kd ft pl p b).toInt64) := by
  have hF := hM.1.1
  have hH := hM.2.2.1.1.1
  have hP := hM.2.2.2.1.1
  unfold f_X12_cuts
  simp (disch := omega) only [m_bothT hh _ hp, bd1_e, i10, if_false]
  have em : ∀ k, nI (od V kd ft st sc ca h k (pl (8 * p + k) + 4) (ht k)) - nI (od V kd ft st sc ca h k (pl (8 * p + k)) (ht k)) = cm V kd ht ft st sc ca pl h p k := fun k => rfl
  have es : ∀ k, nI (tn (ft k) (kd k) (pl (8 * p + k))) - nI (tn (ft k) (kd k) (pl (8 * p + k) + 4)) = cs kd ft pl p k := fun k => rfl
  generalize cm V kd ht ft st sc ca pl h p = m at *
  generalize cs kd ft pl p = s at *
  obtain ⟨k, v3, v4, v5, v6, w1, w2, w3, w4, w5, w6, w7, w8, w9, w10, rc, ⟨rfl, hk, hI⟩, hE, e⟩ := le14 (s := s_X12_cuts_28 (nI h) (nI p) (nI F) mz mk mh mf ms mc ma mp ml (k_X12_cuts_28 (nI n) mt)) (a1 := -2) (a2 := 0) (a3 := 0) (a4 := 0) (a5 := q1) (a6 := q2) (a7 := q3) (a8 := q4) (a9 := q5) (a10 := q6) (a11 := q7) (a12 := q8) (a13 := q9) (a14 := q10)
    (fun k v3 v4 v5 v6 _ _ _ _ _ _ _ _ _ _ => v6 = nI k ∧ k ≤ F ∧ ((cuB m s (fun k => pl (8 * p + k)) k = none ∧ v3 = -2 ∧ v4 = 0 ∧ v5 = 0) ∨ ∃ b, cuB m s (fun k => pl (8 * p + k)) k = some b ∧ b < k ∧ v3 = nI b ∧ v4 = m b ∧ v5 = s b)) (fun k _ _ _ _ _ _ _ _ _ _ _ _ _ _ => k = F) 8 (by omega) ⟨rfl, by omega, .inl ⟨rfl, rfl, rfl, rfl⟩⟩ (by
      rintro rc k v3 v4 v5 v6 u1 u2 u3 u4 u5 u6 u7 u8 u9 u10 ⟨rfl, hk, hI⟩
      by_cases hkF : k = F
      · exact .inl hkF
      · refine .inr ⟨by omega, ?_⟩
        have hkF' : k < F := by omega
        have hl := (hM.2.2.2.1.2 p hp k hkF').1
        unfold s_X12_cuts_28
        rw [if_neg (nI_ge (by omega) (by omega))]
        simp only [m_letter hM.2.2.2.1 hp hkF' hF, bd1_e, lt1_e, nI_1, show nI (pl (8 * p + k)) + 4 = nI (pl (8 * p + k) + 4) from nI_add _ 4]
        by_cases h4 : pl (8 * p + k) < 4
        · rw [if_pos (show nI (pl (8 * p + k)) < 4 from nI_lt (b := 4) h4 (by omega))]
          obtain ⟨⟨w1, w2, w3, w4, w5, w6, w7, w8, w9, w10⟩, ep⟩ := m_odds hM hh hkF' (show pl (8 * p + k) + 4 < 8 by omega) u1 u2 u3 u4 u5 u6 u7 u8 u9 u10
          obtain ⟨⟨q1, q2, q3, q4, q5, q6, q7, q8, q9, q10⟩, ep2⟩ := m_odds hM hh hkF' (show pl (8 * p + k) < 8 by omega) w1 w2 w3 w4 w5 w6 w7 w8 w9 w10
          simp only [ep, bd11_e, ep2, m_tenths hM.1 hkF' (show pl (8 * p + k) < 8 by omega), m_tenths hM.1 hkF' (show pl (8 * p + k) + 4 < 8 by omega), bd1_e, em, es]
          rcases hI with ⟨h1, rfl, rfl, rfl⟩ | ⟨b, h1, hb, rfl, rfl, rfl⟩
          · rw [if_pos (by decide)]
            exact ⟨_, _, _, _, _, _, _, _, _, _, _, _, _, _, ⟨rfl, by omega, .inr ⟨k, cuB_0 h4 h1, by omega, rfl, rfl, rfl⟩⟩, rfl⟩
          · rw [if_neg (nI_pos (by omega))]
            by_cases c1 : m b < m k
            · rw [if_pos c1]
              exact ⟨_, _, _, _, _, _, _, _, _, _, _, _, _, _, ⟨rfl, by omega, .inr ⟨b, cuB_f h4 h1 (fun q => q.elim (fun q => i_asy c1 q) (fun q => i_ne' c1 q.1)), by omega, rfl, rfl, rfl⟩⟩, rfl⟩
            · rw [if_neg c1]
              by_cases c2 : m k = m b
              · rw [if_pos c2]
                by_cases c3 : s b < s k
                · rw [if_pos c3]
                  exact ⟨_, _, _, _, _, _, _, _, _, _, _, _, _, _, ⟨rfl, by omega, .inr ⟨k, cuB_t h4 h1 (.inr ⟨c2, c3⟩), by omega, rfl, rfl, rfl⟩⟩, rfl⟩
                · rw [if_neg c3]
                  exact ⟨_, _, _, _, _, _, _, _, _, _, _, _, _, _, ⟨rfl, by omega, .inr ⟨b, cuB_f h4 h1 (fun q => q.elim (fun q => by rw [c2] at q; exact i_irr _ q) (fun q => c3 q.2)), by omega, rfl, rfl, rfl⟩⟩, rfl⟩
              · rw [if_neg c2]
                have c4 : m k < m b := by
                  rcases i_tri (m k) (m b) with q | q | q
                  · exact q
                  · exact absurd q c2
                  · exact absurd q c1
                exact ⟨_, _, _, _, _, _, _, _, _, _, _, _, _, _, ⟨rfl, by omega, .inr ⟨k, cuB_t h4 h1 (.inl c4), by omega, rfl, rfl, rfl⟩⟩, rfl⟩
        · rw [if_neg (show ¬ nI (pl (8 * p + k)) < 4 from nI_nlt (b := 4) (by omega) (by omega))]
          refine ⟨_, _, _, _, _, _, _, _, _, _, _, _, _, _, ⟨rfl, by omega, ?_⟩, rfl⟩
          rw [cuB_n (c := fun k => pl (8 * p + k)) (k := k) h4]
          rcases hI with hI | ⟨b, h1, hb, h2⟩
          · exact .inl hI
          · exact .inr ⟨b, h1, by omega, h2⟩)
  subst hE
  refine ⟨w1, w2, w3, w4, w5, w6, w7, w8, w9, w10, ?_⟩
  rw [e]
  unfold s_X12_cuts_28 k_X12_cuts_28
  rw [if_pos (nI_le (Nat.le_refl _) (by omega))]
  rcases hI with ⟨h1, rfl, rfl, rfl⟩ | ⟨b, h1, hb, rfl, rfl, rfl⟩
  · left
    rw [if_neg (by decide)]
    exact ⟨h1, rfl⟩
  · right
    rw [if_pos (nI_pos' (by omega))]
    simp (disch := omega) only [m_tell0, bd2_e, m_tellk]
    exact ⟨b, h1, rfl⟩
theorem pr_cuts (hX : okX F H P kd ht ft st sc ca pl V ck ch cf cd cp rz rk) (hM : okM F H P kd ht ft st sc ca pl V mk mh mf ms mc ma mp mz ml) (hR : rowE n nt mt) (p1 p2 : Int32) (sk th : Nat → Int32) (q1 q2 q3 q4 q5 q6 q7 q8 q9 q10 tw : Int32) :
    ∃ r n' nt' mt' sk' th' w1 w2 w3 w4 w5 w6 w7 w8 w9 w10, f_X11_cuts p1 p2 (nI n) (nI F) (nI H) (nI P) rz ck ch cf cd cp rk sk th nt = some (r, nI n', sk', th', nt') ∧ f_X12_cuts p1 p2 (nI F) (nI H) (nI P) (nI n) tw q1 q2 q3 q4 q5 mz q6 q7 q8 q9 q10 mk mh mf ms mc ma mp ml mt = some (r, nI n', 0, w1, w2, w3, w4, w5, w6, w7, w8, w9, w10, mt') ∧ rowE n' nt' mt' := by
  have hF := hX.1.1
  have hH := hX.2.2.1.1.1
  have hP := hX.2.2.2.1.1
  rcases bel p1 H (by omega) with ⟨h, hh, rfl⟩ | ho
  · rcases bel p2 P (by omega) with ⟨p, hp, rfl⟩ | ho
    · obtain ⟨sk', th', e1⟩ := x_cuts (n := n) (nt := nt) hX hh hp sk th
      obtain ⟨w1, w2, w3, w4, w5, w6, w7, w8, w9, w10, e2⟩ := m_cuts (n := n) (mt := mt) hM hh hp q1 q2 q3 q4 q5 q6 q7 q8 q9 q10 tw
      rcases e1 with ⟨h1, e1⟩ | ⟨b, h1, e1⟩
      · rcases e2 with ⟨h2, e2⟩ | ⟨b, h2, e2⟩
        · exact ⟨_, n, _, _, sk', th', w1, w2, w3, w4, w5, w6, w7, w8, w9, w10, e1, e2, hR⟩
        · rw [h1] at h2; cases h2
      · rcases e2 with ⟨h2, e2⟩ | ⟨b', h2, e2⟩
        · rw [h1] at h2; cases h2
        · rw [h1] at h2
          cases h2
          exact ⟨_, 2, _, _, sk', th', w1, w2, w3, w4, w5, w6, w7, w8, w9, w10, e1, e2, rowE_r2⟩
    · refine ⟨-1, n, nt, mt, sk, th, q1, q2, q3, q4, q5, q6, q7, q8, q9, q10, ?_, ?_, hR⟩
      · unfold f_X11_cuts
        simp (disch := omega) only [x_hasHT hh, x_hasPF ho, bd1_e, i10, if_false, i00, if_true]
      · unfold f_X12_cuts
        simp (disch := omega) only [m_bothF2 hh _ ho, bd1_e, i00, if_true]
  · refine ⟨-1, n, nt, mt, sk, th, q1, q2, q3, q4, q5, q6, q7, q8, q9, q10, ?_, ?_, hR⟩
    · unfold f_X11_cuts
      simp (disch := omega) only [x_hasHF ho, bd1_e, i00, if_true]
    · unfold f_X12_cuts
      simp (disch := omega) only [m_bothF1 ho, bd1_e, i00, if_true]
end
