/-! ROUNDS: ride, told -/
section
variable {F H P : Nat} {kd ht ft st sc ca pl : Nat → Nat} {V : Nat → Nat → Nat → Nat → Nat → Nat → Nat → Nat → Nat} {ck ch cf cd cp rk mk mh mf ms mc ma mp ml : Nat → Int32} {rz mz : Int32} {n r al c : Nat} {rd hs fa te : Nat → Nat} {cz tw : Int32} {tr to tf tx hc hz un mn : Nat → Int32} {nt mt : Nat → Int64}
theorem x_isFullF (h : n < 12) : f_X10_isFull (nI n) = some 0 := by
  unfold f_X10_isFull
  rw [c_12, if_pos (nI_lt h (by omega))]
theorem x_isFullT : f_X10_isFull (nI 12) = some 1 := by
  unfold f_X10_isFull
  rw [if_neg (by decide)]
theorem x_addT (h : n < 12) (a b c d : Int32) : f_X10_add a b c d (nI n) tr to tf tx = some (nI (n + 1), upd tr n a, upd to n b, upd tf n c, upd tx n d) := by
  unfold f_X10_add
  rw [bd1_t (x_isFullF h), if_pos rfl]
  simp (disch := omega) only [gx, nI_1, nI_clamp]
theorem m_add (h : n < 12) (e : mn 48 = nI n) (a b c d : Int32) : f_X12_add_m_now a b c d mn = some (upd (upd (upd (upd (upd mn (4 * n) a) (4 * n + 1) b) (4 * n + 2) c) (4 * n + 3) d) 48 (nI (n + 1))) := by
  unfold f_X12_add_m_now
  simp (disch := omega) only [c_48, gx, nI_clamp, e, c_4, c_3, c_2, c_1, pk_mul, lt1_e, nI_add, upd_n]
theorem tE_add (hT : tE n rd hs fa te cz tr to tf tx mn) (h : n < 12) {a b c d : Nat} (ha : a < 6) (hb : b < 6) (hc : c ≤ 2000) (hd : d ≤ 9999) : tX (nI (n + 1)) (upd tr n (nI a)) (upd to n (nI b)) (upd tf n (nI c)) (upd tx n (nI d)) (upd (upd (upd (upd (upd mn (4 * n) (nI a)) (4 * n + 1) (nI b)) (4 * n + 2) (nI c)) (4 * n + 3) (nI d)) 48 (nI (n + 1))) := by
  obtain ⟨a1, a2, a3, a4⟩ := hT
  refine ⟨n + 1, fun i => if i = n then a else rd i, fun i => if i = n then b else hs i, fun i => if i = n then c else fa i, fun i => if i = n then d else te i, by omega, rfl, upd_s, fun i hi => ?_⟩
  by_cases e : i = n
  · subst e
    simp only [if_true]
    refine ⟨⟨ha, hb, hc, hd⟩, ⟨upd_s, upd_s, upd_s, upd_s⟩, ?_⟩
    rw [upd_n (by omega), upd_n (by omega), upd_n (by omega), upd_n (by omega), upd_s]
    rw [upd_n (by omega), upd_n (by omega), upd_n (by omega), upd_s]
    rw [upd_n (by omega), upd_n (by omega), upd_s]
    rw [upd_n (by omega), upd_s]
    exact ⟨rfl, rfl, rfl, rfl⟩
  · simp only [if_neg e]
    obtain ⟨b1, ⟨b2, b3, b4, b5⟩, b6, b7, b8, b9⟩ := a4 i (by omega)
    refine ⟨b1, ⟨?_, ?_, ?_, ?_⟩, ?_, ?_, ?_, ?_⟩
    · rw [upd_n e]; exact b2
    · rw [upd_n e]; exact b3
    · rw [upd_n e]; exact b4
    · rw [upd_n e]; exact b5
    all_goals rw [upd_n (by omega), upd_n (by omega), upd_n (by omega), upd_n (by omega), upd_n (by omega)]
    · exact b6
    · exact b7
    · exact b8
    · exact b9
theorem x_isRiderT {a : Nat} (h : a < 6) : f_X11_isRider (nI a) = some 1 := by
  unfold f_X11_isRider
  rw [if_neg (nI_pos (by omega)), c_6, if_neg (nI_ge h (by omega))]
theorem x_isRiderF {v : Int32} (h : out v 6) : f_X11_isRider v = some 0 := by
  unfold f_X11_isRider
  by_cases h0 : v < 0
  · rw [if_pos h0]
  · rcases h with h | h
    · exact absurd h h0
    · rw [if_neg h0, c_6, if_pos h]
theorem neg1 : (-1 : Int32) < 0 := by decide
theorem neg2 : (-2 : Int32) < 0 := by decide
theorem ad_ride (hX : okX F H P kd ht ft st sc ca pl V ck ch cf cd cp rz rk) (hT : tX cz tr to tf tx mn) (ha : al ≤ 9999) (p1 p2 p3 p4 d1 d2 d3 d4 d5 : Int32) (sk th : Nat → Int32) : (∃ v, v < 0 ∧ f_X12_refusesRide p1 p2 p3 (nI H) (nI P) mn = some v ∧ f_X11_addRide p1 p2 p3 p4 (nI F) (nI H) (nI P) (nI al) rz cz d1 d2 d3 d4 d5 ck ch cf cd cp rk sk th tr to tf tx = some (v, cz, d1, d2, d3, d4, d5, sk, th, tr, to, tf, tx)) ∨ (∃ h p, h < H ∧ p < P ∧ p2 = nI h ∧ p3 = nI p ∧ f_X12_refusesRide p1 p2 p3 (nI H) (nI P) mn = some 0 ∧ Rt (f_X11_addRide p1 p2 p3 p4 (nI F) (nI H) (nI P) (nI al) rz cz d1 d2 d3 d4 d5 ck ch cf cd cp rk sk th tr to tf tx) (fun a => a.1 = (nI (dX p4 (rr kd ft st ca h) (oo V kd ht ft st sc ca pl h p) (pt F kd ft pl p) al F)) ∧ a.2.2.1 = dS p4 F ∧ a.2.2.2.2.1 = (nI (dT p4 (rr kd ft st ca h) (pt F kd ft pl p) F)) ∧ a.2.2.2.2.2.1 = dB (dR p4 (rr kd ft st ca h)) F ∧ a.2.2.2.2.2.2.1 = dB (dF p4 (oo V kd ht ft st sc ca pl h p)) F ∧ Rt (f_X12_add_m_now p1 p2 (nI (dX p4 (rr kd ft st ca h) (oo V kd ht ft st sc ca pl h p) (pt F kd ft pl p) al F)) (nI (dT p4 (rr kd ft st ca h) (pt F kd ft pl p) F)) mn) (fun g => tX a.2.1 a.2.2.2.2.2.2.2.2.2.1 a.2.2.2.2.2.2.2.2.2.2.1 a.2.2.2.2.2.2.2.2.2.2.2.1 a.2.2.2.2.2.2.2.2.2.2.2.2 g))) := by
  have hF := hX.1.1
  have hH := hX.2.2.1.1.1
  have hP := hX.2.2.2.1.1
  obtain ⟨n, rd, hs, fa, te, hE⟩ := hT
  obtain ⟨z1, rfl, z3, z4⟩ := id hE
  rcases bel p1 6 (by omega) with ⟨a, ha6, rfl⟩ | ho
  · rcases bel p2 H (by omega) with ⟨h, hh, rfl⟩ | ho
    · rcases bel p3 P (by omega) with ⟨p, hp, rfl⟩ | ho
      · by_cases h12 : n = 12
        · subst h12
          refine .inl ⟨-2, neg2, ?_, ?_⟩
          · refine rt_get ?_
            unfold f_X12_refusesRide
            refine re1 (m_inT (n := 5) (by omega) (by omega)) (rt_f i10n (re1 (m_bothT hh (by omega) hp (by omega)) (rt_f i10n (rt_gd (by decide) (rt_t ?_ (rt_some rfl))))))
            rw [c_48, nI_clamp (by omega), z3]; rfl
          · refine rt_get ?_
            unfold f_X11_addRide
            exact re1 (x_isRiderT ha6) (rt_f i10n (re1 (x_hasHT hh (by omega)) (rt_f i10n (re1 (x_hasPT hp (by omega)) (rt_f i10n (re1 x_isFullT (rt_f i10n (rt_some rfl))))))))
        · refine .inr ⟨h, p, hh, hp, rfl, rfl, ?_, ?_⟩
          · refine rt_get ?_
            unfold f_X12_refusesRide
            refine re1 (m_inT (n := 5) (by omega) (by omega)) (rt_f i10n (re1 (m_bothT hh (by omega) hp (by omega)) (rt_f i10n (rt_gd (by decide) (rt_f ?_ (rt_some rfl))))))
            rw [c_48, nI_clamp (by omega), z3, c_12, nI_eq (by omega) (by omega)]; exact h12
          · unfold f_X11_addRide
            refine re1 (x_isRiderT ha6) (rt_f i10n (re1 (x_hasHT hh (by omega)) (rt_f i10n (re1 (x_hasPT hp (by omega)) (rt_f i10n (re1 (x_isFullF (by omega)) (rt_t rfl (rb7 (x_draw hX ha hh hp p4 d1 d2 d3 d4 d5 sk th) ?_))))))))
            rintro a1 a2 a3 a4 a5 s2 t2 ⟨rfl, rfl, rfl, rfl, rfl⟩
            have h1 := pt_le (pl := pl) (p := p) hX.1
            have h2 := dT_le (sd := p4) (r := (rr kd ft st ca h)) h1 hF
            have h3 := dX_le (sd := p4) (r := (rr kd ft st ca h)) (o := (oo V kd ht ft st sc ca pl h p)) (al := al) h1 hF
            exact re5 (x_addT (by omega) _ _ _ _) (rt_some ⟨rfl, rfl, rfl, rfl, rfl, rt_e (m_add (by omega) z3 _ _ _ _) (tE_add hE (by omega) ha6 (by omega) h3 (by omega))⟩)
      · refine .inl ⟨-1, neg1, ?_, ?_⟩
        · refine rt_get ?_
          unfold f_X12_refusesRide
          exact re1 (m_inT (n := 5) (by omega) (by omega)) (rt_f i10n (re1 (m_bothF2 hh (by omega) ho (by omega)) (rt_t rfl (rt_some rfl))))
        · refine rt_get ?_
          unfold f_X11_addRide
          exact re1 (x_isRiderT ha6) (rt_f i10n (re1 (x_hasHT hh (by omega)) (rt_f i10n (re1 (x_hasPF ho) (rt_t rfl (rt_some rfl))))))
    · refine .inl ⟨-1, neg1, ?_, ?_⟩
      · refine rt_get ?_
        unfold f_X12_refusesRide
        exact re1 (m_inT (n := 5) (by omega) (by omega)) (rt_f i10n (re1 (m_bothF1 ho (by omega)) (rt_t rfl (rt_some rfl))))
      · refine rt_get ?_
        unfold f_X11_addRide
        exact re1 (x_isRiderT ha6) (rt_f i10n (re1 (x_hasHF ho) (rt_t rfl (rt_some rfl))))
  · refine .inl ⟨-1, neg1, ?_, ?_⟩
    · refine rt_get ?_
      unfold f_X12_refusesRide
      exact re1 (m_inF (n := 5) ho (by omega)) (rt_t rfl (rt_some rfl))
    · refine rt_get ?_
      unfold f_X11_addRide
      exact re1 (x_isRiderF ho) (rt_t rfl (rt_some rfl))
theorem ad_told (hH : H ≤ 6) (hT : tX cz tr to tf tx mn) (p1 p2 p3 p4 : Int32) : (∃ v, v < 0 ∧ f_X12_refusesTold p1 p2 p3 p4 (nI H) mn = some v ∧ f_X11_addTold p1 p2 p3 p4 (nI H) cz tr to tf tx = some (v, cz, tr, to, tf, tx)) ∨ (f_X12_refusesTold p1 p2 p3 p4 (nI H) mn = some 0 ∧ Rt (f_X11_addTold p1 p2 p3 p4 (nI H) cz tr to tf tx) (fun a => (∃ k, k ≤ 12 ∧ a.1 = nI k) ∧ Rt (f_X12_add_m_now p1 p2 p3 p4 mn) (fun g => g 48 = a.1 ∧ tX a.2.1 a.2.2.1 a.2.2.2.1 a.2.2.2.2.1 a.2.2.2.2.2 g))) := by
  obtain ⟨n, rd, hs, fa, te, hE⟩ := hT
  obtain ⟨z1, rfl, z3, z4⟩ := id hE
  rcases bel p1 6 (by omega) with ⟨a, ha6, rfl⟩ | ho
  · rcases bel p2 H (by omega) with ⟨h, hh, rfl⟩ | ho
    · rcases bel p3 100 (by omega) with ⟨x, hx, rfl⟩ | ho
      · rcases bel p4 10000 (by omega) with ⟨y, hy, rfl⟩ | ho
        · by_cases h12 : n = 12
          · subst h12
            refine .inl ⟨-2, neg2, ?_, ?_⟩
            · refine rt_get ?_
              unfold f_X12_refusesTold
              refine re1 (m_inT (n := 5) (by omega) (by omega)) (rt_f i10n (re1 (m_isHT hh (by omega)) (rt_f i10n (re1 (m_inT (n := 99) (by omega) (by omega)) (rt_f i10n (re1 (m_isMostT hy) (rt_f i10n (rt_gd (by decide) (rt_t ?_ (rt_some rfl))))))))))
              rw [c_48, nI_clamp (by omega), z3]; rfl
            · refine rt_get ?_
              unfold f_X11_addTold
              exact re1 (x_isRiderT ha6) (rt_f i10n (re1 (x_hasHT hh (by omega)) (rt_f i10n (re1 (x_isResultT hx hy) (rt_f i10n (re1 x_isFullT (rt_f i10n (rt_some rfl))))))))
          · refine .inr ⟨?_, ?_⟩
            · refine rt_get ?_
              unfold f_X12_refusesTold
              refine re1 (m_inT (n := 5) (by omega) (by omega)) (rt_f i10n (re1 (m_isHT hh (by omega)) (rt_f i10n (re1 (m_inT (n := 99) (by omega) (by omega)) (rt_f i10n (re1 (m_isMostT hy) (rt_f i10n (rt_gd (by decide) (rt_f ?_ (rt_some rfl))))))))))
              rw [c_48, nI_clamp (by omega), z3, c_12, nI_eq (by omega) (by omega)]; exact h12
            · unfold f_X11_addTold
              exact re1 (x_isRiderT ha6) (rt_f i10n (re1 (x_hasHT hh (by omega)) (rt_f i10n (re1 (x_isResultT hx hy) (rt_f i10n (re1 (x_isFullF (by omega)) (rt_t rfl (re5 (x_addT (by omega) _ _ _ _) (rt_some ⟨⟨n + 1, by omega, rfl⟩, rt_e (m_add (by omega) z3 _ _ _ _) ⟨upd_s, tE_add hE (by omega) ha6 (by omega) (by omega) (by omega)⟩⟩)))))))))
        · refine .inl ⟨-1, neg1, ?_, ?_⟩
          · refine rt_get ?_
            unfold f_X12_refusesTold
            exact re1 (m_inT (n := 5) (by omega) (by omega)) (rt_f i10n (re1 (m_isHT hh (by omega)) (rt_f i10n (re1 (m_inT (n := 99) (by omega) (by omega)) (rt_f i10n (re1 (m_isMostF ho) (rt_t rfl (rt_some rfl))))))))
          · refine rt_get ?_
            unfold f_X11_addTold
            exact re1 (x_isRiderT ha6) (rt_f i10n (re1 (x_hasHT hh (by omega)) (rt_f i10n (re1 (x_isResultF2 hx ho) (rt_t rfl (rt_some rfl))))))
      · refine .inl ⟨-1, neg1, ?_, ?_⟩
        · refine rt_get ?_
          unfold f_X12_refusesTold
          exact re1 (m_inT (n := 5) (by omega) (by omega)) (rt_f i10n (re1 (m_isHT hh (by omega)) (rt_f i10n (re1 (m_inF (n := 99) ho (by omega)) (rt_t rfl (rt_some rfl))))))
        · refine rt_get ?_
          unfold f_X11_addTold
          exact re1 (x_isRiderT ha6) (rt_f i10n (re1 (x_hasHT hh (by omega)) (rt_f i10n (re1 (x_isResultF1 ho) (rt_t rfl (rt_some rfl))))))
    · refine .inl ⟨-1, neg1, ?_, ?_⟩
      · refine rt_get ?_
        unfold f_X12_refusesTold
        exact re1 (m_inT (n := 5) (by omega) (by omega)) (rt_f i10n (re1 (m_isHF ho (by omega)) (rt_t rfl (rt_some rfl))))
      · refine rt_get ?_
        unfold f_X11_addTold
        exact re1 (x_isRiderT ha6) (rt_f i10n (re1 (x_hasHF ho) (rt_t rfl (rt_some rfl))))
  · refine .inl ⟨-1, neg1, ?_, ?_⟩
    · refine rt_get ?_
      unfold f_X12_refusesTold
      exact re1 (m_inF (n := 5) ho (by omega)) (rt_t rfl (rt_some rfl))
    · refine rt_get ?_
      unfold f_X11_addTold
      exact re1 (x_isRiderF ho) (rt_t rfl (rt_some rfl))
theorem pr_ride (hX : okX F H P kd ht ft st sc ca pl V ck ch cf cd cp rz rk) (hM : okM F H P kd ht ft st sc ca pl V mk mh mf ms mc ma mp mz ml) (hT : tX cz tr to tf tx mn) (hHi : okHi c hc hz un) (ha : al ≤ 9999) (hR : rowE r nt mt) (p1 p2 p3 p4 d1 d2 d3 d4 d5 : Int32) (sk th : Nat → Int32) (q1 q2 q3 q4 q5 q6 q7 q8 q9 q10 e1 e2 e3 e4 : Int32) : Rt (f_X11_ride p1 p2 p3 p4 (nI r) (nI F) (nI H) (nI P) (nI al) rz cz 13 (nI c) d1 d2 d3 d4 d5 ck ch cf cd cp rk sk th tr to tf tx hc hz nt) (fun a => Rt (f_X12_ride p1 p2 p3 p4 (nI F) (nI al) (nI H) (nI P) (nI r) tw q1 q2 q3 q4 q5 mz q6 q7 q8 q9 q10 (nI c) e1 e2 e3 e4 mn mk mh mf ms mc ma mp ml un mt) (fun b => (a.1 = b.1 ∧ b.2.2.1 = 0 ∧ (∃ r, a.2.1 = nI r ∧ b.2.1 = nI r ∧ rowE r a.2.2.2.2.2.2.2.2.2.2.2.2.2.2.2.2.2 b.2.2.2.2.2.2.2.2.2.2.2.2.2.2.2.2.2.2.2.2) ∧ (∃ c, a.2.2.2.1 = nI c ∧ b.2.2.2.2.2.2.2.2.2.2.2.2.2.1 = nI c ∧ okHi c a.2.2.2.2.2.2.2.2.2.2.2.2.2.2.2.1 a.2.2.2.2.2.2.2.2.2.2.2.2.2.2.2.2.1 b.2.2.2.2.2.2.2.2.2.2.2.2.2.2.2.2.2.2.2.1) ∧ tX a.2.2.1 a.2.2.2.2.2.2.2.2.2.2.2.1 a.2.2.2.2.2.2.2.2.2.2.2.2.1 a.2.2.2.2.2.2.2.2.2.2.2.2.2.1 a.2.2.2.2.2.2.2.2.2.2.2.2.2.2.1 b.2.2.2.2.2.2.2.2.2.2.2.2.2.2.2.2.2.2.1))) := by
  have h12 := hHi.1
  rcases ad_ride hX hT ha p1 p2 p3 p4 d1 d2 d3 d4 d5 sk th with ⟨v, hv, g1, g2⟩ | ⟨h, p, hh, hp, rfl, rfl, g1, g2⟩
  · unfold f_X11_ride
    refine re2 (x_mark h12) (re13 g2 (rt_t hv (rt_some ?_)))
    unfold f_X12_ride
    exact re1 g1 (rt_f (Int32.not_le.mpr hv) (rt_some ⟨rfl, rfl, ⟨r, rfl, rfl, hR⟩, ⟨c, rfl, rfl, okHi_mark hHi⟩, hT⟩))
  · have b1 := pt_le (pl := pl) (p := p) hX.1
    have b3 := dX_le (sd := p4) (r := (rr kd ft st ca h)) (o := (oo V kd ht ft st sc ca pl h p)) (al := al) b1 hX.1.1
    obtain ⟨⟨u1, u2⟩, eu, c', rfl, hu⟩ := m_remember (mn := mn) (un := un) h12
    unfold f_X11_ride
    refine re2 (x_mark h12) (rb13 g2 ?_)
    rintro a1 a2 a3 a4 a5 a6 a7 a8 a9 a10 a11 a12 a13 ⟨rfl, rfl, rfl, rfl, rfl, hg⟩
    refine rt_f (nI_pos (by omega)) (rb3 (hi_push hHi hT hu) ?_)
    rintro c1 c2 c3 ⟨rfl, hh2⟩
    refine re2 (x_tellDrawn _ _ _ _ _) (rt_some ?_)
    unfold f_X12_ride
    refine re1 g1 (rt_t (by decide) (re2 eu (rb15 (m_goRound hM ha hh hp p4 e1 e2 e3 e4 q1 q2 q3 q4 q5 q6 q7 q8 q9 q10) ?_)))
    rintro a1 w1 w2 w3 w4 w5 w6 w7 w8 w9 w10 x2 x3 x4 x5 ⟨rfl, rfl, rfl, rfl, rfl⟩
    refine rb1 hg ?_
    intro g hg
    exact re2 (m_tellRound _ _ _ _ _) (rt_some ⟨rfl, rfl, ⟨4, rfl, rfl, rowE_r4⟩, ⟨c', rfl, rfl, hh2⟩, hg⟩)
theorem pr_told (hH : H ≤ 6) (hT : tX cz tr to tf tx mn) (hHi : okHi c hc hz un) (p1 p2 p3 p4 : Int32) : Rt (f_X11_told p1 p2 p3 p4 (nI H) cz 13 (nI c) tr to tf tx hc hz) (fun a => Rt (f_X12_told p1 p2 p3 p4 (nI H) tw (nI c) mn un) (fun b => (a.1 = b.1 ∧ b.2.1 = 0 ∧ (∃ c, a.2.2.1 = nI c ∧ b.2.2.1 = nI c ∧ okHi c a.2.2.2.2.2.2.2.1 a.2.2.2.2.2.2.2.2 b.2.2.2.2) ∧ tX a.2.1 a.2.2.2.1 a.2.2.2.2.1 a.2.2.2.2.2.1 a.2.2.2.2.2.2.1 b.2.2.2.1))) := by
  have h12 := hHi.1
  rcases ad_told hH hT p1 p2 p3 p4 with ⟨v, hv, g1, g2⟩ | ⟨g1, g2⟩
  · unfold f_X11_told
    refine re2 (x_mark h12) (re6 g2 (rt_t hv (rt_some ?_)))
    unfold f_X12_told
    exact re1 g1 (rt_f (Int32.not_le.mpr hv) (rt_some ⟨rfl, rfl, ⟨c, rfl, rfl, okHi_mark hHi⟩, hT⟩))
  · obtain ⟨⟨u1, u2⟩, eu, c', rfl, hu⟩ := m_remember (mn := mn) (un := un) h12
    unfold f_X11_told
    refine re2 (x_mark h12) (rb6 g2 ?_)
    rintro a1 a2 a3 a4 a5 a6 ⟨⟨k, hk, rfl⟩, hg⟩
    refine rt_f (nI_pos (by omega)) (rb3 (hi_push hHi hT hu) ?_)
    rintro c1 c2 c3 ⟨rfl, hh2⟩
    refine rt_some ?_
    unfold f_X12_told
    refine re1 g1 (rt_t (by decide) (re2 eu (rb1 hg ?_)))
    rintro g ⟨hg1, hg2⟩
    refine rt_gd (by decide) (rt_some ⟨?_, rfl, ⟨c', rfl, rfl, hh2⟩, hg2⟩)
    exact hg1.symm
end
