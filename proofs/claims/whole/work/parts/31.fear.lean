/-! fear, falls, cuts -/
section
variable {F H P : Nat} {kd ht ft st sc ca pl : Nat → Nat} {V : Nat → Nat → Nat → Nat → Nat → Nat → Nat → Nat → Nat} {ck ch cf cd cp rk mk mh mf ms mc ma mp ml : Nat → Int32} {rz mz : Int32} {n h p : Nat} {nt mt : Nat → Int64}
/-- fear of a plan -/
def fe (V : Nat → Nat → Nat → Nat → Nat → Nat → Nat → Nat → Nat) (F : Nat) (kd ht ft st sc ca pl : Nat → Nat) (h p : Nat) : Nat := sm (fun f => oo V kd ht ft st sc ca pl h p f + rr kd ft st ca h f) F
theorem x_fear (hX : okX F H P kd ht ft st sc ca pl V ck ch cf cd cp rz rk) (hh : h < H) (hp : p < P) (sk th : Nat → Int32) : ∃ sk' th', f_X11_fear (nI h) (nI p) (nI n) (nI F) (nI H) (nI P) rz ck ch cf cd cp rk sk th nt = some (nI (fe V F kd ht ft st sc ca pl h p), nI 2, sk', th', r2 nt (nI (pt F kd ft pl p)).toInt64 (nI (cl (rr kd ft st ca h) (oo V kd ht ft st sc ca pl h p) F)).toInt64) := by
  have hF := hX.1.1
  have hH := hX.2.2.1.1.1
  have hP := hX.2.2.2.1.1
  unfold f_X11_fear
  simp (disch := omega) only [x_hasHT hh, x_hasPT hp, bd1_e, i10, if_false]
  obtain ⟨k, v2, v3, sk', th', rc, ⟨rfl, rfl, hk⟩, hE, e⟩ := le4 (s := s_X11_fear_29 (nI h) (nI p) (nI F) rz ck ch cf cd cp rk (k_X11_fear_29 (nI h) (nI p) (nI n) (nI F) rz ck ch cf cd cp rk nt)) (a1 := 0) (a2 := 0) (a3 := sk) (a4 := th)
    (fun k v2 v3 _ _ => v2 = nI (sm (fun f => oo V kd ht ft st sc ca pl h p f + rr kd ft st ca h f) k) ∧ v3 = nI k ∧ k ≤ F) (fun k _ _ _ _ => k = F) 8 (by omega) ⟨rfl, rfl, by omega⟩ (by
      rintro rc k v2 v3 s1 t1 ⟨rfl, rfl, hk⟩
      by_cases hkF : k = F
      · exact .inl hkF
      · refine .inr ⟨by omega, ?_⟩
        have hkF' : k < F := by omega
        have hl := (hX.2.2.2.1.2 p hp k hkF').1
        obtain ⟨s2, t2, ep⟩ := x_pole hX hh hkF' (show pl (8 * p + k) < 8 by omega) s1 t1
        unfold s_X11_fear_29
        rw [if_neg (nI_ge (by omega) (by omega))]
        simp only [x_letter hX.2.2.2.1 hp hkF' hF, bd1_e, ep, bd3_e, x_refusal hX.1 hX.2.2.1 hh hkF', lt1_e, nI_add, c_1]
        exact ⟨_, _, _, _, ⟨rfl, rfl, by omega⟩, rfl⟩)
  subst hE
  rw [e]
  unfold s_X11_fear_29 k_X11_fear_29
  rw [if_pos (nI_le (Nat.le_refl _) (by omega))]
  obtain ⟨s2, t2, e2⟩ := x_clearOf hX hh hp sk' th'
  simp (disch := omega) only [x_start, bd1_e, x_planTenths hX hp, x_put0, bd2_e, e2, bd3_e, x_putk]
  exact ⟨_, _, rfl⟩
theorem m_fear (hM : okM F H P kd ht ft st sc ca pl V mk mh mf ms mc ma mp mz ml) (hh : h < H) (hp : p < P) (q1 q2 q3 q4 q5 q6 q7 q8 q9 q10 tw : Int32) : ∃ w1 w2 w3 w4 w5 w6 w7 w8 w9 w10, f_X12_fear (nI h) (nI p) (nI F) (nI H) (nI P) (nI n) tw q1 q2 q3 q4 q5 mz q6 q7 q8 q9 q10 mk mh mf ms mc ma mp ml mt = some (nI (fe V F kd ht ft st sc ca pl h p), nI 2, 0, w1, w2, w3, w4, w5, w6, w7, w8, w9, w10, r2 mt (nI (pt F kd ft pl p)).toInt64 (nI (cl (rr kd ft st ca h) (oo V kd ht ft st sc ca pl h p) F)).toInt64) := by
  have hF := hM.1.1
  have hH := hM.2.2.1.1.1
  have hP := hM.2.2.2.1.1
  obtain ⟨⟨w1, w2, w3, w4, w5, w6, w7, w8, w9, w10⟩, e2⟩ := m_clearOf hM hh hp q1 q2 q3 q4 q5 q6 q7 q8 q9 q10
  have e3 : ∃ r, f_X12_fearOf (nI h) (nI p) (nI F) w1 w2 w3 w4 w5 mz w6 w7 w8 w9 w10 mk mh mf ms mc ma mp ml = some (nI (fe V F kd ht ft st sc ca pl h p), r) := by
    unfold f_X12_fearOf
    obtain ⟨k, v2, v3, u1, u2, u3, u4, u5, u6, u7, u8, u9, u10, rc, ⟨rfl, rfl, hk⟩, hE, e⟩ := le12 (s := s_X12_fearOf_5 (nI h) (nI p) (nI F) mz mk mh mf ms mc ma mp ml k_X12_fearOf_5) (a1 := 0) (a2 := 0) (a3 := w1) (a4 := w2) (a5 := w3) (a6 := w4) (a7 := w5) (a8 := w6) (a9 := w7) (a10 := w8) (a11 := w9) (a12 := w10)
      (fun k v2 v3 _ _ _ _ _ _ _ _ _ _ => v2 = nI (sm (fun f => oo V kd ht ft st sc ca pl h p f + rr kd ft st ca h f) k) ∧ v3 = nI k ∧ k ≤ F) (fun k _ _ _ _ _ _ _ _ _ _ _ _ => k = F) 8 (by omega) ⟨rfl, rfl, by omega⟩ (by
        rintro rc k v2 v3 u1 u2 u3 u4 u5 u6 u7 u8 u9 u10 ⟨rfl, rfl, hk⟩
        by_cases hkF : k = F
        · exact .inl hkF
        · refine .inr ⟨by omega, ?_⟩
          have hkF' : k < F := by omega
          have hl := (hM.2.2.2.1.2 p hp k hkF').1
          obtain ⟨⟨w1, w2, w3, w4, w5, w6, w7, w8, w9, w10⟩, ep⟩ := m_odds hM hh hkF' (show pl (8 * p + k) < 8 by omega) u1 u2 u3 u4 u5 u6 u7 u8 u9 u10
          unfold s_X12_fearOf_5
          rw [if_neg (nI_ge (by omega) (by omega))]
          simp only [m_letter hM.2.2.2.1 hp hkF' hF, bd1_e, ep, bd11_e, m_refusal hM.1 hM.2.2.1 hh hkF', lt1_e, nI_add, c_1]
          exact ⟨_, _, _, _, _, _, _, _, _, _, _, _, ⟨rfl, rfl, by omega⟩, rfl⟩)
    subst hE
    rw [e]
    unfold s_X12_fearOf_5
    rw [if_pos (nI_le (Nat.le_refl _) (by omega))]
    exact ⟨_, rfl⟩
  obtain ⟨⟨u1, u2, u3, u4, u5, u6, u7, u8, u9, u10⟩, e3⟩ := e3
  unfold f_X12_fear
  simp (disch := omega) only [m_bothT hh _ hp, bd1_e, i10, if_false, m_planTenths hM hp, m_tell0, bd2_e, e2, bd11_e, m_tellk, e3]
  exact ⟨_, _, _, _, _, _, _, _, _, _, rfl⟩
theorem pr_fear (hX : okX F H P kd ht ft st sc ca pl V ck ch cf cd cp rz rk) (hM : okM F H P kd ht ft st sc ca pl V mk mh mf ms mc ma mp mz ml) (hR : rowE n nt mt) (p1 p2 : Int32) (sk th : Nat → Int32) (q1 q2 q3 q4 q5 q6 q7 q8 q9 q10 tw : Int32) :
    ∃ r n' nt' mt' sk' th' w1 w2 w3 w4 w5 w6 w7 w8 w9 w10, f_X11_fear p1 p2 (nI n) (nI F) (nI H) (nI P) rz ck ch cf cd cp rk sk th nt = some (r, nI n', sk', th', nt') ∧ f_X12_fear p1 p2 (nI F) (nI H) (nI P) (nI n) tw q1 q2 q3 q4 q5 mz q6 q7 q8 q9 q10 mk mh mf ms mc ma mp ml mt = some (r, nI n', 0, w1, w2, w3, w4, w5, w6, w7, w8, w9, w10, mt') ∧ rowE n' nt' mt' := by
  have hF := hX.1.1
  have hH := hX.2.2.1.1.1
  have hP := hX.2.2.2.1.1
  rcases bel p1 H (by omega) with ⟨h, hh, rfl⟩ | ho
  · rcases bel p2 P (by omega) with ⟨p, hp, rfl⟩ | ho
    · obtain ⟨sk', th', e1⟩ := x_fear (n := n) (nt := nt) hX hh hp sk th
      obtain ⟨w1, w2, w3, w4, w5, w6, w7, w8, w9, w10, e2⟩ := m_fear (n := n) (mt := mt) hM hh hp q1 q2 q3 q4 q5 q6 q7 q8 q9 q10 tw
      exact ⟨_, 2, _, _, sk', th', w1, w2, w3, w4, w5, w6, w7, w8, w9, w10, e1, e2, rowE_r2⟩
    · refine ⟨-1, n, nt, mt, sk, th, q1, q2, q3, q4, q5, q6, q7, q8, q9, q10, ?_, ?_, hR⟩
      · unfold f_X11_fear
        simp (disch := omega) only [x_hasHT hh, x_hasPF ho, bd1_e, i10, if_false, i00, if_true]
      · unfold f_X12_fear
        simp (disch := omega) only [m_bothF2 hh _ ho, bd1_e, i00, if_true]
  · refine ⟨-1, n, nt, mt, sk, th, q1, q2, q3, q4, q5, q6, q7, q8, q9, q10, ?_, ?_, hR⟩
    · unfold f_X11_fear
      simp (disch := omega) only [x_hasHF ho, bd1_e, i00, if_true]
    · unfold f_X12_fear
      simp (disch := omega) only [m_bothF1 ho, bd1_e, i00, if_true]
theorem x_falls (hX : okX F H P kd ht ft st sc ca pl V ck ch cf cd cp rz rk) (hh : h < H) (hp : p < P) (h0 : 0 < F) (sk th : Nat → Int32) : ∃ sk' th', f_X11_falls (nI h) (nI p) (nI n) (nI F) (nI H) (nI P) rz ck ch cf cd cp rk sk th nt = some (nI (fM (oo V kd ht ft st sc ca pl h p) F), nI 1, sk', th', r1 nt (nI (oo V kd ht ft st sc ca pl h p (fM (oo V kd ht ft st sc ca pl h p) F))).toInt64) := by
  have hF := hX.1.1
  have hH := hX.2.2.1.1.1
  have hP := hX.2.2.2.1.1
  have hV := hX.2.2.2.2.1
  unfold f_X11_falls
  simp (disch := omega) only [x_hasHT hh, x_hasPT hp, bd1_e, i10, if_false]
  rw [if_neg (nI_ne0 h0 (by omega))]
  have hb : ∀ f, oo V kd ht ft st sc ca pl h p f ≤ 100 := fun f => od_le hV
  have eo : ∀ f, od V kd ft st sc ca h f (pl (8 * p + f)) (ht f) = oo V kd ht ft st sc ca pl h p f := fun f => rfl
  generalize oo V kd ht ft st sc ca pl h p = o at *
  obtain ⟨k, v3, v4, v5, sk', th', rc, ⟨rfl, hk, hI⟩, hE, e⟩ := le5 (s := s_X11_falls_45 (nI h) (nI p) (nI F) rz ck ch cf cd cp rk (k_X11_falls_45 (nI n) nt)) (a1 := 0) (a2 := -1) (a3 := 0) (a4 := sk) (a5 := th)
    (fun k v3 v4 v5 _ _ => v5 = nI k ∧ k ≤ F ∧ ((k = 0 ∧ v3 = 0 ∧ v4 = -1) ∨ (0 < k ∧ v3 = nI (fM o k) ∧ v4 = nI (o (fM o k))))) (fun k _ _ _ _ _ => k = F) 8 (by omega) ⟨rfl, by omega, .inl ⟨rfl, rfl, rfl⟩⟩ (by
      rintro rc k v3 v4 v5 s1 t1 ⟨rfl, hk, hI⟩
      by_cases hkF : k = F
      · exact .inl hkF
      · refine .inr ⟨by omega, ?_⟩
        have hkF' : k < F := by omega
        have hl := (hX.2.2.2.1.2 p hp k hkF').1
        obtain ⟨s2, t2, ep⟩ := x_pole hX hh hkF' (show pl (8 * p + k) < 8 by omega) s1 t1
        have b1 := hb k
        unfold s_X11_falls_45
        rw [if_neg (nI_ge (by omega) (by omega))]
        simp only [x_letter hX.2.2.2.1 hp hkF' hF, bd1_e, ep, bd3_e, lt1_e, nI_add, c_1, eo]
        have eB : fM o (k + 1) = if k = 0 ∨ o (fM o k) < o k then k else fM o k := rfl
        rcases hI with ⟨rfl, rfl, rfl⟩ | ⟨k0, rfl, rfl⟩
        · rw [if_neg (show ¬ nI (o 0) ≤ -1 from by
            rw [Int32.le_iff_toInt_le, nI_toInt (by omega), show (-1 : Int32).toInt = -1 from by decide]; omega)]
          exact ⟨_, _, _, _, _, ⟨rfl, by omega, .inr ⟨by omega, rfl, rfl⟩⟩, rfl⟩
        · have b2 := hb (fM o k)
          by_cases c : o k ≤ o (fM o k)
          · rw [if_pos (nI_le c (by omega))]
            rw [if_neg (by omega)] at eB
            exact ⟨_, _, _, _, _, ⟨rfl, by omega, .inr ⟨by omega, by rw [eB], by rw [eB]⟩⟩, rfl⟩
          · rw [if_neg (nI_ge (by omega) (by omega))]
            rw [if_pos (by omega)] at eB
            exact ⟨_, _, _, _, _, ⟨rfl, by omega, .inr ⟨by omega, by rw [eB], by rw [eB]⟩⟩, rfl⟩)
  subst hE
  rcases hI with ⟨h1, _⟩ | ⟨_, rfl, rfl⟩
  · omega
  rw [e]
  unfold s_X11_falls_45 k_X11_falls_45
  rw [if_pos (nI_le (Nat.le_refl _) (by omega))]
  simp (disch := omega) only [x_start, bd1_e, x_put0, bd2_e]
  exact ⟨_, _, rfl⟩
theorem m_falls (hM : okM F H P kd ht ft st sc ca pl V mk mh mf ms mc ma mp mz ml) (hh : h < H) (hp : p < P) (h0 : 0 < F) (q1 q2 q3 q4 q5 q6 q7 q8 q9 q10 tw : Int32) : ∃ w1 w2 w3 w4 w5 w6 w7 w8 w9 w10, f_X12_falls (nI h) (nI p) (nI F) (nI H) (nI P) (nI n) tw q1 q2 q3 q4 q5 mz q6 q7 q8 q9 q10 mk mh mf ms mc ma mp ml mt = some (nI (fM (oo V kd ht ft st sc ca pl h p) F), nI 1, 0, w1, w2, w3, w4, w5, w6, w7, w8, w9, w10, r1 mt (nI (oo V kd ht ft st sc ca pl h p (fM (oo V kd ht ft st sc ca pl h p) F))).toInt64) := by
  have hF := hM.1.1
  have hH := hM.2.2.1.1.1
  have hP := hM.2.2.2.1.1
  have hV := hM.2.2.2.2.1
  unfold f_X12_falls
  simp (disch := omega) only [m_bothT hh _ hp, bd1_e, i10, if_false]
  have hb : ∀ f, oo V kd ht ft st sc ca pl h p f ≤ 100 := fun f => od_le hV
  have eo : ∀ f, od V kd ft st sc ca h f (pl (8 * p + f)) (ht f) = oo V kd ht ft st sc ca pl h p f := fun f => rfl
  generalize oo V kd ht ft st sc ca pl h p = o at *
  obtain ⟨k, v3, v4, v5, w1, w2, w3, w4, w5, w6, w7, w8, w9, w10, rc, ⟨rfl, hk, hI⟩, hE, e⟩ := le13 (s := s_X12_falls_25 (nI h) (nI p) (nI F) mz mk mh mf ms mc ma mp ml (k_X12_falls_25 (nI n) mt)) (a1 := -2) (a2 := -1) (a3 := 0) (a4 := q1) (a5 := q2) (a6 := q3) (a7 := q4) (a8 := q5) (a9 := q6) (a10 := q7) (a11 := q8) (a12 := q9) (a13 := q10)
    (fun k v3 v4 v5 _ _ _ _ _ _ _ _ _ _ => v5 = nI k ∧ k ≤ F ∧ ((k = 0 ∧ v3 = -2 ∧ v4 = -1) ∨ (0 < k ∧ v3 = nI (fM o k) ∧ v4 = nI (o (fM o k)) ∧ fM o k < k))) (fun k _ _ _ _ _ _ _ _ _ _ _ _ _ => k = F) 8 (by omega) ⟨rfl, by omega, .inl ⟨rfl, rfl, rfl⟩⟩ (by
      rintro rc k v3 v4 v5 u1 u2 u3 u4 u5 u6 u7 u8 u9 u10 ⟨rfl, hk, hI⟩
      by_cases hkF : k = F
      · exact .inl hkF
      · refine .inr ⟨by omega, ?_⟩
        have hkF' : k < F := by omega
        have hl := (hM.2.2.2.1.2 p hp k hkF').1
        obtain ⟨⟨w1, w2, w3, w4, w5, w6, w7, w8, w9, w10⟩, ep⟩ := m_odds hM hh hkF' (show pl (8 * p + k) < 8 by omega) u1 u2 u3 u4 u5 u6 u7 u8 u9 u10
        have b1 := hb k
        unfold s_X12_falls_25
        rw [if_neg (nI_ge (by omega) (by omega))]
        simp only [m_letter hM.2.2.2.1 hp hkF' hF, bd1_e, ep, bd11_e, lt1_e, nI_add, c_1, eo]
        have eB : fM o (k + 1) = if k = 0 ∨ o (fM o k) < o k then k else fM o k := rfl
        rcases hI with ⟨rfl, rfl, rfl⟩ | ⟨k0, rfl, rfl, k1⟩
        · rw [if_pos (show (-1 : Int32) < nI (o 0) from by
            rw [Int32.lt_iff_toInt_lt, nI_toInt (by omega), show (-1 : Int32).toInt = -1 from by decide]; omega)]
          exact ⟨_, _, _, _, _, _, _, _, _, _, _, _, _, ⟨rfl, by omega, .inr ⟨by omega, rfl, rfl, Nat.zero_lt_one⟩⟩, rfl⟩
        · have b2 := hb (fM o k)
          by_cases c : o k ≤ o (fM o k)
          · rw [if_neg (nI_nlt c (by omega))]
            rw [if_neg (by omega)] at eB
            exact ⟨_, _, _, _, _, _, _, _, _, _, _, _, _, ⟨rfl, by omega, .inr ⟨by omega, by rw [eB], by rw [eB], by omega⟩⟩, rfl⟩
          · rw [if_pos (nI_lt (by omega) (by omega))]
            rw [if_pos (by omega)] at eB
            exact ⟨_, _, _, _, _, _, _, _, _, _, _, _, _, ⟨rfl, by omega, .inr ⟨by omega, by rw [eB], by rw [eB], by omega⟩⟩, rfl⟩)
  subst hE
  rcases hI with ⟨h1, _⟩ | ⟨_, rfl, rfl, h2⟩
  · omega
  rw [e]
  unfold s_X12_falls_25 k_X12_falls_25
  rw [if_pos (nI_le (Nat.le_refl _) (by omega)), if_pos (nI_pos' (by omega))]
  simp (disch := omega) only [m_tell0, bd2_e]
  exact ⟨_, _, _, _, _, _, _, _, _, _, rfl⟩
theorem pr_falls (hX : okX F H P kd ht ft st sc ca pl V ck ch cf cd cp rz rk) (hM : okM F H P kd ht ft st sc ca pl V mk mh mf ms mc ma mp mz ml) (hR : rowE n nt mt) (p1 p2 : Int32) (sk th : Nat → Int32) (q1 q2 q3 q4 q5 q6 q7 q8 q9 q10 tw : Int32) :
    ∃ r n' nt' mt' sk' th' w1 w2 w3 w4 w5 w6 w7 w8 w9 w10, f_X11_falls p1 p2 (nI n) (nI F) (nI H) (nI P) rz ck ch cf cd cp rk sk th nt = some (r, nI n', sk', th', nt') ∧ f_X12_falls p1 p2 (nI F) (nI H) (nI P) (nI n) tw q1 q2 q3 q4 q5 mz q6 q7 q8 q9 q10 mk mh mf ms mc ma mp ml mt = some (r, nI n', 0, w1, w2, w3, w4, w5, w6, w7, w8, w9, w10, mt') ∧ rowE n' nt' mt' := by
  have hF := hX.1.1
  have hH := hX.2.2.1.1.1
  have hP := hX.2.2.2.1.1
  rcases bel p1 H (by omega) with ⟨h, hh, rfl⟩ | ho
  · rcases bel p2 P (by omega) with ⟨p, hp, rfl⟩ | ho
    · by_cases h0 : 0 < F
      · obtain ⟨sk', th', e1⟩ := x_falls (n := n) (nt := nt) hX hh hp h0 sk th
        obtain ⟨w1, w2, w3, w4, w5, w6, w7, w8, w9, w10, e2⟩ := m_falls (n := n) (mt := mt) hM hh hp h0 q1 q2 q3 q4 q5 q6 q7 q8 q9 q10 tw
        exact ⟨_, 1, _, _, sk', th', w1, w2, w3, w4, w5, w6, w7, w8, w9, w10, e1, e2, rowE_r1⟩
      · have : F = 0 := by omega
        subst this
        refine ⟨-2, n, nt, mt, sk, th, q1, q2, q3, q4, q5, q6, q7, q8, q9, q10, ?_, ?_, hR⟩
        · unfold f_X11_falls
          simp (disch := omega) only [x_hasHT hh, x_hasPT hp, bd1_e, i10, if_false]
          rw [if_pos nI_0]
        · unfold f_X12_falls
          simp (disch := omega) only [m_bothT hh _ hp, bd1_e, i10, if_false]
          rfl
    · refine ⟨-1, n, nt, mt, sk, th, q1, q2, q3, q4, q5, q6, q7, q8, q9, q10, ?_, ?_, hR⟩
      · unfold f_X11_falls
        simp (disch := omega) only [x_hasHT hh, x_hasPF ho, bd1_e, i10, if_false, i00, if_true]
      · unfold f_X12_falls
        simp (disch := omega) only [m_bothF2 hh _ ho, bd1_e, i00, if_true]
  · refine ⟨-1, n, nt, mt, sk, th, q1, q2, q3, q4, q5, q6, q7, q8, q9, q10, ?_, ?_, hR⟩
    · unfold f_X11_falls
      simp (disch := omega) only [x_hasHF ho, bd1_e, i00, if_true]
    · unfold f_X12_falls
      simp (disch := omega) only [m_bothF1 ho, bd1_e, i00, if_true]
end
