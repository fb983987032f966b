/-! MONEY: mean, last, buy -/
theorem fM_lt {o : Nat → Nat} : ∀ {k}, 0 < k → fM o k < k
  | 0, h => absurd h (by omega)
  | k + 1, _ => by
    rw [fM]
    split
    · omega
    · rename_i q
      have := fM_lt (o := o) (show 0 < k by omega)
      omega
theorem fM_t {o : Nat → Nat} {k : Nat} (h : k = 0 ∨ o (fM o k) < o k) : fM o (k + 1) = k := by rw [fM, if_pos h]
theorem fM_f {o : Nat → Nat} {k : Nat} (h : ¬ (k = 0 ∨ o (fM o k) < o k)) : fM o (k + 1) = fM o k := by rw [fM, if_neg h]
def ty (F n al : Nat) (kd ft pl fa te mo : Nat → Nat) (p q : Nat) : Nat := mny mo (plF n fa te (q + bg (pt F kd ft pl p) al 40) (pt F kd ft pl p))
def mv (V : Nat → Nat → Nat → Nat → Nat → Nat → Nat → Nat → Nat) (F n al : Nat) (kd ht ft st sc ca pl fa te mo : Nat → Nat) (h p : Nat) : Nat := cl (rr kd ft st ca h) (oo V kd ht ft st sc ca pl h p) F * ty F n al kd ft pl fa te mo p 0 + (10000 - cl (rr kd ft st ca h) (oo V kd ht ft st sc ca pl h p) F) * ty F n al kd ft pl fa te mo p 4
/-- the best of all, its money, the second's -/
def bu (w : Nat → Nat) : Nat → Int32 × Int32 × Int32
  | 0 => (-1, -1, -1)
  | k + 1 => if nI (w k) ≤ (bu w k).2.1 then ((bu w k).1, (bu w k).2.1, if nI (w k) ≤ (bu w k).2.2 then (bu w k).2.2 else nI (w k)) else (nI k, nI (w k), (bu w k).2.1)
theorem bu_b {w : Nat → Nat} (hw : ∀ k, w k < 2 ^ 31) : ∀ k, 0 < k → ∃ b, b < k ∧ (bu w k).1 = nI b
  | 0, h => absurd h (by omega)
  | k + 1, _ => by
    rw [bu]
    split
    · rename_i q
      by_cases k0 : k = 0
      · subst k0
        have q2 : nI (w 0) ≤ -1 := q
        rw [Int32.le_iff_toInt_le, nI_toInt (hw 0), show (-1 : Int32).toInt = -1 by decide] at q2
        omega
      · obtain ⟨b, hb, e⟩ := bu_b hw k (by omega)
        exact ⟨b, by omega, e⟩
    · exact ⟨k, by omega, rfl⟩
section
variable {F H P : Nat} {kd ht ft st sc ca pl : Nat → Nat} {V : Nat → Nat → Nat → Nat → Nat → Nat → Nat → Nat → Nat} {ck ch cf cd cp rk mk mh mf ms mc ma mp ml : Nat → Int32} {rz mz : Int32} {n r al h p : Nat} {fa te mo : Nat → Nat} {tf tx tm mm mn : Nat → Int32} {nt mt : Nat → Int64}
theorem ty_le (hC : okC F kd ft ck cf) (hY : okY mo tm) (hT : n ≤ 12) {q : Nat} : ty F n al kd ft pl fa te mo p q ≤ 99 := mny_le hY (plF_lt hT).2
theorem mv_lt (hC : okC F kd ft ck cf) (hY : okY mo tm) (hT : n ≤ 12) : mv V F n al kd ht ft st sc ca pl fa te mo h p ≤ 990000 := by
  have h0 := ty_le (al := al) (p := p) (q := 0) (fa := fa) (te := te) (pl := pl) hC hY hT
  have h4 := ty_le (al := al) (p := p) (q := 4) (fa := fa) (te := te) (pl := pl) hC hY hT
  have hc := cl_le (r := rr kd ft st ca h) (o := oo V kd ht ft st sc ca pl h p) F
  unfold mv
  generalize cl (rr kd ft st ca h) (oo V kd ht ft st sc ca pl h p) F = c at *
  have a1 : c * ty F n al kd ft pl fa te mo p 0 ≤ c * 99 := Nat.mul_le_mul_left _ h0
  have a2 : (10000 - c) * ty F n al kd ft pl fa te mo p 4 ≤ (10000 - c) * 99 := Nat.mul_le_mul_left _ h4
  omega
theorem x_thought (hX : okX F H P kd ht ft st sc ca pl V ck ch cf cd cp rz rk) (hT : tC n fa te tf tx) (hY : okY mo tm) (ha : al ≤ 9999) (hp : p < P) {q : Nat} (hq : q ≤ 4) : f_X11_thoughtMoney (nI p) (nI q) (nI F) (nI al) (nI n) ck cf cp tf tx tm = some (nI (ty F n al kd ft pl fa te mo p q)) := by
  have h1 := pt_le (pl := pl) (p := p) hX.1
  have h2 := bg_le (t := pt F kd ft pl p) (a := al) (s := 40) (by omega)
  have h3 := plF_lt (fa := fa) (te := te) (a := q + bg (pt F kd ft pl p) al 40) (b := pt F kd ft pl p) hT.1
  unfold f_X11_thoughtMoney
  rw [x_planTenths hX hp]
  simp (disch := omega) only [bd1_e, c_40, x_begun, nI_add, x_placeFor hT, x_moneyAt hY h3.2 h3.1]
  rfl
theorem m_moneyFor (hM : okM F H P kd ht ft st sc ca pl V mk mh mf ms mc ma mp mz ml) (hT : tN n fa te mn) (hY : okY mo mm) (ha : al ≤ 9999) (hp : p < P) {q : Nat} {v : Int32} (hq : (q = 0 ∧ v = 1) ∨ (q = 4 ∧ v = 0)) : f_X12_moneyFor_m_now (nI p) v (nI F) (nI al) mn mk mf mp mm = some (nI (ty F n al kd ft pl fa te mo p q)) := by
  have h1 := pt_le (pl := pl) (p := p) hM.1
  have h2 := bg_le (t := pt F kd ft pl p) (a := al) (s := 40) (by omega)
  have h3 := plF_lt (fa := fa) (te := te) (a := q + bg (pt F kd ft pl p) al 40) (b := pt F kd ft pl p) hT.1
  unfold f_X12_moneyFor_m_now
  rw [m_planTenths hM hp]
  rcases hq with ⟨rfl, rfl⟩ | ⟨rfl, rfl⟩
  · rw [bd1_e, c_40, c_1, bd1_t (m_timeFaults (by omega) (by omega) (by omega) (by omega)), if_neg (show ¬ nI 1 = 0 by decide)]
    simp (disch := omega) only [bd1_e, nI_add, c_0, Nat.mul_one, Nat.add_comm _ 0, m_placeFor hT, m_moneyOf hY h3.2 h3.1]
    rfl
  · rw [bd1_e, c_40, c_1, bd1_t (m_timeFaults (by omega) (by omega) (by omega) (by omega)), if_pos rfl]
    simp (disch := omega) only [bd1_e, nI_add, c_4, Nat.mul_one, Nat.add_comm _ 4, m_placeFor hT, m_moneyOf hY h3.2 h3.1]
    rfl
theorem x_meanOf (hX : okX F H P kd ht ft st sc ca pl V ck ch cf cd cp rz rk) (hT : tC n fa te tf tx) (hY : okY mo tm) (ha : al ≤ 9999) (hh : h < H) (hp : p < P) (sk th : Nat → Int32) : Rt (f_X11_meanOf (nI h) (nI p) (nI F) (nI al) rz (nI n) ck ch cf cd cp rk sk th tf tx tm) (fun r => r.1 = nI (mv V F n al kd ht ft st sc ca pl fa te mo h p)) := by
  have hc := cl_le (r := rr kd ft st ca h) (o := oo V kd ht ft st sc ca pl h p) F
  obtain ⟨s', t', e⟩ := x_clearOf hX hh hp sk th
  unfold f_X11_meanOf
  refine re3 e (re1 (x_thought (q := 0) hX hT hY ha hp (by omega)) (re1 (x_thought (q := 4) hX hT hY ha hp (by omega)) (rt_some ?_)))
  show _ * _ + (10000 - _) * _ = _
  rw [c_10000, pk_sub (by omega), pk_mul, pk_mul, nI_add]
  rfl
theorem m_meanOf (hM : okM F H P kd ht ft st sc ca pl V mk mh mf ms mc ma mp mz ml) (hT : tN n fa te mn) (hY : okY mo mm) (ha : al ≤ 9999) (hh : h < H) (hp : p < P) (q1 q2 q3 q4 q5 q6 q7 q8 q9 q10 : Int32) : Rt (f_X12_meanOf (nI h) (nI p) (nI F) (nI al) q1 q2 q3 q4 q5 mz q6 q7 q8 q9 q10 mn mk mh mf ms mc ma mp mm ml) (fun r => r.1 = nI (mv V F n al kd ht ft st sc ca pl fa te mo h p)) := by
  have hc := cl_le (r := rr kd ft st ca h) (o := oo V kd ht ft st sc ca pl h p) F
  obtain ⟨r, e⟩ := m_clearOf hM hh hp q1 q2 q3 q4 q5 q6 q7 q8 q9 q10
  unfold f_X12_meanOf
  refine rb11 (rt_e (Q := fun r => r.1 = nI (cl (rr kd ft st ca h) (oo V kd ht ft st sc ca pl h p) F)) e rfl) ?_
  rintro a1 w1 w2 w3 w4 w5 w6 w7 w8 w9 w10 rfl
  refine re1 (m_moneyFor (q := 0) hM hT hY ha hp (.inl ⟨rfl, rfl⟩)) (re1 (m_moneyFor (q := 4) hM hT hY ha hp (.inr ⟨rfl, rfl⟩)) (rt_some ?_))
  show _ * _ + (10000 - _) * _ = _
  rw [c_10000, pk_sub (by omega), pk_mul, pk_mul, nI_add]
  rfl
theorem x_bestPlan (hX : okX F H P kd ht ft st sc ca pl V ck ch cf cd cp rz rk) (hT : tC n fa te tf tx) (hY : okY mo tm) (ha : al ≤ 9999) (hh : h < H) (hP0 : 0 < P) (sk th : Nat → Int32) : Rt (f_X11_bestPlan (nI h) (nI F) (nI P) (nI al) rz (nI n) ck ch cf cd cp rk sk th tf tx tm) (fun r => r.1 = nI (fM (mv V F n al kd ht ft st sc ca pl fa te mo h) P)) := by
  have hP := hX.2.2.2.1.1
  unfold f_X11_bestPlan
  refine rl5 6 (fun k v2 v3 v4 _ _ => v2 = nI (fM (mv V F n al kd ht ft st sc ca pl fa te mo h) k) ∧ ((k = 0 ∧ v3 = -1) ∨ (0 < k ∧ v3 = nI (mv V F n al kd ht ft st sc ca pl fa te mo h (fM (mv V F n al kd ht ft st sc ca pl fa te mo h) k)))) ∧ v4 = nI k ∧ k ≤ P) (by omega) ⟨rfl, .inl ⟨rfl, rfl⟩, rfl, by omega⟩ ?_
  rintro rc k v2 v3 v4 s1 t1 ⟨rfl, h3, rfl, hk⟩ ih
  unfold s_X11_bestPlan_7
  by_cases hkP : P ≤ k
  · obtain rfl : k = P := by omega
    exact rt_t (nI_le (Nat.le_refl _) (by omega)) (rt_some rfl)
  · refine rt_f (nI_ge (by omega) (by omega)) (rb3 (x_meanOf hX hT hY ha hh (by omega) s1 t1) ?_)
    rintro a1 s2 t2 rfl
    have m1 := mv_lt (V := V) (al := al) (h := h) (p := k) (ht := ht) (st := st) (sc := sc) (ca := ca) (fa := fa) (te := te) (pl := pl) hX.1 hY hT.1
    have m2 := mv_lt (V := V) (al := al) (h := h) (p := fM (mv V F n al kd ht ft st sc ca pl fa te mo h) k) (ht := ht) (st := st) (sc := sc) (ca := ca) (fa := fa) (te := te) (pl := pl) hX.1 hY hT.1
    rcases h3 with ⟨rfl, rfl⟩ | ⟨k0, rfl⟩
    · refine rt_f ?_ (rt_lt (ih (by omega) _ _ _ _ _ ⟨?_, .inr ⟨by omega, ?_⟩, nI_1 _, by omega⟩))
      · rw [Int32.le_iff_toInt_le, nI_toInt (by omega), show (-1 : Int32).toInt = -1 by decide]; omega
      · rw [fM_t (.inl rfl)]
      · rw [fM_t (.inl rfl)]
    · refine rt_if (fun hle => ?_) (fun hgt => ?_)
      · rw [nI_leI (by omega) (by omega)] at hle
        refine rt_lt (ih (by omega) _ _ _ _ _ ⟨?_, .inr ⟨by omega, ?_⟩, nI_1 _, by omega⟩)
        · rw [fM_f (by omega)]
        · rw [fM_f (by omega)]
      · rw [nI_leI (by omega) (by omega)] at hgt
        refine rt_lt (ih (by omega) _ _ _ _ _ ⟨?_, .inr ⟨by omega, ?_⟩, nI_1 _, by omega⟩)
        · rw [fM_t (by omega)]
        · rw [fM_t (by omega)]
theorem m_bestPlan (hM : okM F H P kd ht ft st sc ca pl V mk mh mf ms mc ma mp mz ml) (hT : tN n fa te mn) (hY : okY mo mm) (ha : al ≤ 9999) (hh : h < H) (hP0 : 0 < P) (q1 q2 q3 q4 q5 q6 q7 q8 q9 q10 : Int32) : Rt (f_X12_bestPlan (nI h) (nI F) (nI al) (nI P) q1 q2 q3 q4 q5 mz q6 q7 q8 q9 q10 mn mk mh mf ms mc ma mp mm ml) (fun r => r.1 = nI (fM (mv V F n al kd ht ft st sc ca pl fa te mo h) P)) := by
  have hP := hM.2.2.2.1.1
  unfold f_X12_bestPlan
  refine rl12 6 (fun k v2 v3 _ _ _ _ _ _ _ _ _ _ => v2 = nI (fM (mv V F n al kd ht ft st sc ca pl fa te mo h) (k + 1)) ∧ v3 = nI (k + 1) ∧ k + 1 ≤ P) (by omega) ⟨rfl, rfl, by omega⟩ ?_
  rintro rc k v2 v3 u1 u2 u3 u4 u5 u6 u7 u8 u9 u10 ⟨rfl, rfl, hk⟩ ih
  unfold s_X12_bestPlan_4
  by_cases hkP : P ≤ k + 1
  · obtain rfl : P = k + 1 := by omega
    exact rt_t (nI_le (Nat.le_refl _) (by omega)) (rt_some rfl)
  · have hb := fM_lt (o := mv V F n al kd ht ft st sc ca pl fa te mo h) (show 0 < k + 1 by omega)
    refine rt_f (nI_ge (by omega) (by omega)) (rb11 (m_meanOf hM hT hY ha hh (by omega) _ _ _ _ _ _ _ _ _ _) ?_)
    rintro a1 w1 w2 w3 w4 w5 w6 w7 w8 w9 w10 rfl
    refine rb11 (m_meanOf hM hT hY ha hh (by omega) _ _ _ _ _ _ _ _ _ _) ?_
    rintro a1 q1 q2 q3 q4 q5 q6 q7 q8 q9 q10 rfl
    have m1 := mv_lt (V := V) (al := al) (h := h) (p := k + 1) (ht := ht) (st := st) (sc := sc) (ca := ca) (fa := fa) (te := te) (pl := pl) hM.1 hY hT.1
    have m2 := mv_lt (V := V) (al := al) (h := h) (p := fM (mv V F n al kd ht ft st sc ca pl fa te mo h) (k + 1)) (ht := ht) (st := st) (sc := sc) (ca := ca) (fa := fa) (te := te) (pl := pl) hM.1 hY hT.1
    refine rt_if (fun hle => ?_) (fun hgt => ?_)
    · rw [nI_leI (by omega) (by omega)] at hle
      refine rt_lt (ih (by omega) _ _ _ _ _ _ _ _ _ _ _ _ ⟨?_, nI_1 _, by omega⟩)
      rw [fM_f (k := k + 1) (by omega)]
    · rw [nI_leI (by omega) (by omega)] at hgt
      refine rt_lt (ih (by omega) _ _ _ _ _ _ _ _ _ _ _ _ ⟨?_, nI_1 _, by omega⟩)
      rw [fM_t (k := k + 1) (by omega)]
theorem pr_mean (hX : okX F H P kd ht ft st sc ca pl V ck ch cf cd cp rz rk) (hM : okM F H P kd ht ft st sc ca pl V mk mh mf ms mc ma mp mz ml) (hT : tC n fa te tf tx) (hN : tN n fa te mn) (hY : okY mo tm) (hZ : okY mo mm) (ha : al ≤ 9999) (hR : rowE r nt mt) (p1 p2 : Int32) (sk th : Nat → Int32) (q1 q2 q3 q4 q5 q6 q7 q8 q9 q10 tw : Int32) : Rt (f_X11_mean p1 p2 (nI r) (nI F) (nI H) (nI P) (nI al) rz (nI n) ck ch cf cd cp rk sk th tf tx tm nt) (fun a => Rt (f_X12_mean p1 p2 (nI F) (nI al) (nI H) (nI P) (nI r) tw q1 q2 q3 q4 q5 mz q6 q7 q8 q9 q10 mn mk mh mf ms mc ma mp mm ml mt) (fun b => a.1 = b.1 ∧ b.2.2.1 = 0 ∧ ∃ r, a.2.1 = nI r ∧ b.2.1 = nI r ∧ rowE r a.2.2.2.2 b.2.2.2.2.2.2.2.2.2.2.2.2.2)) := by
  have hF := hX.1.1
  have hH := hX.2.2.1.1.1
  have hP := hX.2.2.2.1.1
  rcases bel p1 H (by omega) with ⟨h, hh, rfl⟩ | ho
  · rcases bel p2 P (by omega) with ⟨p, hp, rfl⟩ | ho
    · unfold f_X11_mean
      refine re1 (x_hasHT hh (by omega)) (rt_f i10n (re1 (x_hasPT hp (by omega)) (rt_f i10n (re1 (x_start _) (re1 (x_thought (q := 0) hX hT hY ha hp (by omega)) (re2 (x_put0 _ _) (re1 (x_thought (q := 4) hX hT hY ha hp (by omega)) (re2 (x_putk (by omega) _ _) (rb3 (x_meanOf hX hT hY ha hh hp sk th) ?_)))))))))
      rintro a1 s2 t2 rfl
      refine rt_some ?_
      unfold f_X12_mean
      refine re1 (m_bothT hh (by omega) hp (by omega)) (rt_f i10n (re1 (m_moneyFor (q := 0) hM hN hZ ha hp (.inl ⟨rfl, rfl⟩)) (re2 (m_tell0 _ _) (re1 (m_moneyFor (q := 4) hM hN hZ ha hp (.inr ⟨rfl, rfl⟩)) (re2 (m_tellk (by omega) _ _) (rb11 (m_meanOf hM hN hZ ha hh hp _ _ _ _ _ _ _ _ _ _) ?_))))))
      rintro a1 w1 w2 w3 w4 w5 w6 w7 w8 w9 w10 rfl
      exact rt_some ⟨rfl, rfl, 2, rfl, rfl, rowE_r2⟩
    · unfold f_X11_mean
      refine re1 (x_hasHT hh (by omega)) (rt_f i10n (re1 (x_hasPF ho) (rt_t rfl (rt_some ?_))))
      unfold f_X12_mean
      exact re1 (m_bothF2 hh (by omega) ho (by omega)) (rt_t rfl (rt_some ⟨rfl, rfl, r, rfl, rfl, hR⟩))
  · unfold f_X11_mean
    refine re1 (x_hasHF ho) (rt_t rfl (rt_some ?_))
    unfold f_X12_mean
    exact re1 (m_bothF1 ho (by omega)) (rt_t rfl (rt_some ⟨rfl, rfl, r, rfl, rfl, hR⟩))
theorem pr_last (hX : okX F H P kd ht ft st sc ca pl V ck ch cf cd cp rz rk) (hM : okM F H P kd ht ft st sc ca pl V mk mh mf ms mc ma mp mz ml) (hT : tC n fa te tf tx) (hN : tN n fa te mn) (hY : okY mo tm) (hZ : okY mo mm) (ha : al ≤ 9999) (hR : rowE r nt mt) (p1 : Int32) (sk th : Nat → Int32) (q1 q2 q3 q4 q5 q6 q7 q8 q9 q10 tw : Int32) : Rt (f_X11_last p1 (nI r) (nI F) (nI H) (nI P) (nI al) rz (nI n) ck ch cf cd cp rk sk th tf tx tm nt) (fun a => Rt (f_X12_last p1 (nI F) (nI al) (nI H) (nI P) (nI r) tw q1 q2 q3 q4 q5 mz q6 q7 q8 q9 q10 mn mk mh mf ms mc ma mp mm ml mt) (fun b => a.1 = b.1 ∧ b.2.2.1 = 0 ∧ ∃ r, a.2.1 = nI r ∧ b.2.1 = nI r ∧ rowE r a.2.2.2.2 b.2.2.2.2.2.2.2.2.2.2.2.2.2)) := by
  have hF := hX.1.1
  have hH := hX.2.2.1.1.1
  have hP := hX.2.2.2.1.1
  rcases bel p1 H (by omega) with ⟨h, hh, rfl⟩ | ho
  · by_cases hP0 : P = 0
    · subst hP0
      unfold f_X11_last
      refine re1 (x_hasHT hh (by omega)) (rt_f i10n (rt_t rfl (rt_some ?_)))
      unfold f_X12_last
      exact re1 (m_isHT hh (by omega)) (rt_f i10n (rt_t rfl (rt_some ⟨rfl, rfl, r, rfl, rfl, hR⟩)))
    · have hb := fM_lt (o := mv V F n al kd ht ft st sc ca pl fa te mo h) (show 0 < P by omega)
      unfold f_X11_last
      refine re1 (x_hasHT hh (by omega)) (rt_f i10n (rt_f (nI_ne0 (by omega) (by omega)) (rb3 (x_bestPlan hX hT hY ha hh (by omega) sk th) ?_)))
      rintro a1 s2 t2 rfl
      refine re1 (x_start _) (rb3 (x_meanOf hX hT hY ha hh hb s2 t2) ?_)
      rintro a1 s2 t2 rfl
      refine re2 (x_put0 _ _) (rt_some ?_)
      unfold f_X12_last
      refine re1 (m_isHT hh (by omega)) (rt_f i10n (rt_f (nI_ne0 (by omega) (by omega)) (rb11 (m_bestPlan hM hN hZ ha hh (by omega) _ _ _ _ _ _ _ _ _ _) ?_)))
      rintro a1 w1 w2 w3 w4 w5 w6 w7 w8 w9 w10 rfl
      refine rb11 (m_meanOf hM hN hZ ha hh hb _ _ _ _ _ _ _ _ _ _) ?_
      rintro a1 u1 u2 u3 u4 u5 u6 u7 u8 u9 u10 rfl
      exact re2 (m_tell0 _ _) (rt_some ⟨rfl, rfl, 1, rfl, rfl, rowE_r1⟩)
  · unfold f_X11_last
    refine re1 (x_hasHF ho) (rt_t rfl (rt_some ?_))
    unfold f_X12_last
    exact re1 (m_isHF ho (by omega)) (rt_t rfl (rt_some ⟨rfl, rfl, r, rfl, rfl, hR⟩))
theorem x_buy (hX : okX F H P kd ht ft st sc ca pl V ck ch cf cd cp rz rk) (hT : tC n fa te tf tx) (hY : okY mo tm) (ha : al ≤ 9999) (hH0 : 0 < H) (hP0 : 0 < P) (sk th : Nat → Int32) : Rt (f_X11_buy (nI r) (nI F) (nI H) (nI P) (nI al) rz (nI n) ck ch cf cd cp rk sk th tf tx tm nt) (fun a => ∃ b, (bu (fun h => mv V F n al kd ht ft st sc ca pl fa te mo h (fM (mv V F n al kd ht ft st sc ca pl fa te mo h) P)) H).1 = nI b ∧ b < H ∧ a.1 = nI b ∧ a.2.1 = nI 3 ∧ a.2.2.2.2 = r3 nt (bu (fun h => mv V F n al kd ht ft st sc ca pl fa te mo h (fM (mv V F n al kd ht ft st sc ca pl fa te mo h) P)) H).2.1.toInt64 (nI (fM (mv V F n al kd ht ft st sc ca pl fa te mo b) P)).toInt64 (bu (fun h => mv V F n al kd ht ft st sc ca pl fa te mo h (fM (mv V F n al kd ht ft st sc ca pl fa te mo h) P)) H).2.2.toInt64) := by
  have hH := hX.2.2.1.1.1
  have hP := hX.2.2.2.1.1
  have hw : ∀ k, (fun h => mv V F n al kd ht ft st sc ca pl fa te mo h (fM (mv V F n al kd ht ft st sc ca pl fa te mo h) P)) k < 2 ^ 31 := fun k => by
    have := mv_lt (V := V) (al := al) (h := k) (p := fM (mv V F n al kd ht ft st sc ca pl fa te mo k) P) (ht := ht) (st := st) (sc := sc) (ca := ca) (fa := fa) (te := te) (pl := pl) hX.1 hY hT.1
    show mv V F n al kd ht ft st sc ca pl fa te mo k (fM (mv V F n al kd ht ft st sc ca pl fa te mo k) P) < 2 ^ 31
    omega
  unfold f_X11_buy
  refine rt_f (nI_ne0 hH0 (by omega)) (rt_f (nI_ne0 hP0 (by omega)) ?_)
  refine rl6 6 (fun k v1 v2 v3 v4 _ _ => (v1, v2, v3) = bu (fun h => mv V F n al kd ht ft st sc ca pl fa te mo h (fM (mv V F n al kd ht ft st sc ca pl fa te mo h) P)) k ∧ v4 = nI k ∧ k ≤ H) (by omega) ⟨rfl, rfl, by omega⟩ ?_
  rintro rc k v1 v2 v3 v4 s1 t1 ⟨hb, rfl, hk⟩ ih
  have e1 : v1 = (bu (fun h => mv V F n al kd ht ft st sc ca pl fa te mo h (fM (mv V F n al kd ht ft st sc ca pl fa te mo h) P)) k).1 := congrArg (fun z => z.1) hb
  have e2 : v2 = (bu (fun h => mv V F n al kd ht ft st sc ca pl fa te mo h (fM (mv V F n al kd ht ft st sc ca pl fa te mo h) P)) k).2.1 := congrArg (fun z => z.2.1) hb
  have e3 : v3 = (bu (fun h => mv V F n al kd ht ft st sc ca pl fa te mo h (fM (mv V F n al kd ht ft st sc ca pl fa te mo h) P)) k).2.2 := congrArg (fun z => z.2.2) hb
  unfold s_X11_buy_32
  by_cases hkH : H ≤ k
  · obtain rfl : k = H := by omega
    obtain ⟨b, hbk, eb⟩ := bu_b hw k hH0
    subst e1 e2 e3
    refine rt_t (nI_le (Nat.le_refl _) (by omega)) ?_
    unfold k_X11_buy_32
    rw [eb]
    refine re1 (x_start _) (re2 (x_put0 _ _) (rb3 (x_bestPlan hX hT hY ha hbk hP0 s1 t1) ?_))
    rintro a1 s2 t2 rfl
    exact re2 (x_putk (by omega) _ _) (re2 (x_putk (by omega) _ _) (rt_some ⟨b, rfl, hbk, rfl, rfl, rfl⟩))
  · have hkH' : k < H := by omega
    refine rt_f (nI_ge (by omega) (by omega)) (rb3 (x_bestPlan hX hT hY ha hkH' hP0 s1 t1) ?_)
    rintro a1 s2 t2 rfl
    refine rb3 (x_meanOf hX hT hY ha hkH' (fM_lt hP0) s2 t2) ?_
    rintro a1 s3 t3 rfl
    subst e1 e2 e3
    refine rt_if (fun q1 => rt_if (fun q2 => ?_) (fun q2 => ?_)) (fun q1 => ?_)
    · refine rt_lt (ih (by omega) _ _ _ _ _ _ ⟨?_, nI_1 _, by omega⟩)
      rw [bu, if_pos q1, if_pos q2]
    · refine rt_lt (ih (by omega) _ _ _ _ _ _ ⟨?_, nI_1 _, by omega⟩)
      rw [bu, if_pos q1, if_neg q2]
    · refine rt_lt (ih (by omega) _ _ _ _ _ _ ⟨?_, nI_1 _, by omega⟩)
      rw [bu, if_neg q1]
theorem m_buy (hM : okM F H P kd ht ft st sc ca pl V mk mh mf ms mc ma mp mz ml) (hT : tN n fa te mn) (hY : okY mo mm) (ha : al ≤ 9999) (hH0 : 0 < H) (hP0 : 0 < P) (q1 q2 q3 q4 q5 q6 q7 q8 q9 q10 tw : Int32) : Rt (f_X12_buy (nI F) (nI al) (nI H) (nI P) (nI r) tw q1 q2 q3 q4 q5 mz q6 q7 q8 q9 q10 mn mk mh mf ms mc ma mp mm ml mt) (fun a => ∃ b, (bu (fun h => mv V F n al kd ht ft st sc ca pl fa te mo h (fM (mv V F n al kd ht ft st sc ca pl fa te mo h) P)) H).1 = nI b ∧ b < H ∧ a.1 = nI b ∧ a.2.1 = nI 3 ∧ a.2.2.1 = 0 ∧ a.2.2.2.2.2.2.2.2.2.2.2.2.2 = r3 mt (bu (fun h => mv V F n al kd ht ft st sc ca pl fa te mo h (fM (mv V F n al kd ht ft st sc ca pl fa te mo h) P)) H).2.1.toInt64 (nI (fM (mv V F n al kd ht ft st sc ca pl fa te mo b) P)).toInt64 (bu (fun h => mv V F n al kd ht ft st sc ca pl fa te mo h (fM (mv V F n al kd ht ft st sc ca pl fa te mo h) P)) H).2.2.toInt64) := by
  have hH := hM.2.2.1.1.1
  have hP := hM.2.2.2.1.1
  have hw : ∀ k, (fun h => mv V F n al kd ht ft st sc ca pl fa te mo h (fM (mv V F n al kd ht ft st sc ca pl fa te mo h) P)) k < 2 ^ 31 := fun k => by
    have := mv_lt (V := V) (al := al) (h := k) (p := fM (mv V F n al kd ht ft st sc ca pl fa te mo k) P) (ht := ht) (st := st) (sc := sc) (ca := ca) (fa := fa) (te := te) (pl := pl) hM.1 hY hT.1
    show mv V F n al kd ht ft st sc ca pl fa te mo k (fM (mv V F n al kd ht ft st sc ca pl fa te mo k) P) < 2 ^ 31
    omega
  unfold f_X12_buy
  refine rt_f (nI_ne0 hH0 (by omega)) (rt_f (nI_ne0 hP0 (by omega)) ?_)
  refine rl14 6 (fun k v1 v2 v3 v4 _ _ _ _ _ _ _ _ _ _ => (v1, v2, v3) = bu (fun h => mv V F n al kd ht ft st sc ca pl fa te mo h (fM (mv V F n al kd ht ft st sc ca pl fa te mo h) P)) k ∧ v4 = nI k ∧ k ≤ H) (by omega) ⟨rfl, rfl, by omega⟩ ?_
  rintro rc k v1 v2 v3 v4 u1 u2 u3 u4 u5 u6 u7 u8 u9 u10 ⟨hb, rfl, hk⟩ ih
  have e1 : v1 = (bu (fun h => mv V F n al kd ht ft st sc ca pl fa te mo h (fM (mv V F n al kd ht ft st sc ca pl fa te mo h) P)) k).1 := congrArg (fun z => z.1) hb
  have e2 : v2 = (bu (fun h => mv V F n al kd ht ft st sc ca pl fa te mo h (fM (mv V F n al kd ht ft st sc ca pl fa te mo h) P)) k).2.1 := congrArg (fun z => z.2.1) hb
  have e3 : v3 = (bu (fun h => mv V F n al kd ht ft st sc ca pl fa te mo h (fM (mv V F n al kd ht ft st sc ca pl fa te mo h) P)) k).2.2 := congrArg (fun z => z.2.2) hb
  unfold s_X12_buy_31
  by_cases hkH : H ≤ k
  · obtain rfl : k = H := by omega
    obtain ⟨b, hbk, eb⟩ := bu_b hw k hH0
    subst e1 e2 e3
    refine rt_t (nI_le (Nat.le_refl _) (by omega)) ?_
    unfold k_X12_buy_31
    rw [eb]
    refine re2 (m_tell0 _ _) (rb11 (m_bestPlan hM hT hY ha hbk hP0 _ _ _ _ _ _ _ _ _ _) ?_)
    rintro a1 w1 w2 w3 w4 w5 w6 w7 w8 w9 w10 rfl
    exact re2 (m_tellk (by omega) _ _) (re2 (m_tellk (by omega) _ _) (rt_some ⟨b, rfl, hbk, rfl, rfl, rfl, rfl⟩))
  · have hkH' : k < H := by omega
    refine rt_f (nI_ge (by omega) (by omega)) (rb11 (m_bestPlan hM hT hY ha hkH' hP0 _ _ _ _ _ _ _ _ _ _) ?_)
    rintro a1 w1 w2 w3 w4 w5 w6 w7 w8 w9 w10 rfl
    refine rb11 (m_meanOf hM hT hY ha hkH' (fM_lt hP0) _ _ _ _ _ _ _ _ _ _) ?_
    rintro a1 q1 q2 q3 q4 q5 q6 q7 q8 q9 q10 rfl
    subst e1 e2 e3
    refine rt_if (fun q1 => ?_) (fun q1 => ?_)
    · refine rt_lt (rt_lt (ih (by omega) _ _ _ _ _ _ _ _ _ _ _ _ _ _ ⟨?_, nI_1 _, by omega⟩))
      rw [bu, if_pos q1]
      congr 2
      by_cases q2 : nI (mv V F n al kd ht ft st sc ca pl fa te mo k (fM (mv V F n al kd ht ft st sc ca pl fa te mo k) P)) ≤ (bu (fun h => mv V F n al kd ht ft st sc ca pl fa te mo h (fM (mv V F n al kd ht ft st sc ca pl fa te mo h) P)) k).2.2
      · rw [if_pos q2, if_neg (Int32.not_lt.mpr q2)]
      · rw [if_neg q2, if_pos (Int32.not_le.mp q2)]
    · refine rt_lt (ih (by omega) _ _ _ _ _ _ _ _ _ _ _ _ _ _ ⟨?_, nI_1 _, by omega⟩)
      rw [bu, if_neg q1]
theorem pr_buy (hX : okX F H P kd ht ft st sc ca pl V ck ch cf cd cp rz rk) (hM : okM F H P kd ht ft st sc ca pl V mk mh mf ms mc ma mp mz ml) (hT : tC n fa te tf tx) (hN : tN n fa te mn) (hY : okY mo tm) (hZ : okY mo mm) (ha : al ≤ 9999) (hR : rowE r nt mt) (sk th : Nat → Int32) (q1 q2 q3 q4 q5 q6 q7 q8 q9 q10 tw : Int32) : Rt (f_X11_buy (nI r) (nI F) (nI H) (nI P) (nI al) rz (nI n) ck ch cf cd cp rk sk th tf tx tm nt) (fun a => Rt (f_X12_buy (nI F) (nI al) (nI H) (nI P) (nI r) tw q1 q2 q3 q4 q5 mz q6 q7 q8 q9 q10 mn mk mh mf ms mc ma mp mm ml mt) (fun b => a.1 = b.1 ∧ b.2.2.1 = 0 ∧ ∃ r, a.2.1 = nI r ∧ b.2.1 = nI r ∧ rowE r a.2.2.2.2 b.2.2.2.2.2.2.2.2.2.2.2.2.2)) := by
  have hH := hX.2.2.1.1.1
  have hP := hX.2.2.2.1.1
  by_cases hH0 : H = 0
  · subst hH0
    unfold f_X11_buy
    refine rt_t rfl (rt_some ?_)
    unfold f_X12_buy
    exact rt_t rfl (rt_some ⟨rfl, rfl, r, rfl, rfl, hR⟩)
  · by_cases hP0 : P = 0
    · subst hP0
      unfold f_X11_buy
      refine rt_f (nI_ne0 (by omega) (by omega)) (rt_t rfl (rt_some ?_))
      unfold f_X12_buy
      exact rt_f (nI_ne0 (by omega) (by omega)) (rt_t rfl (rt_some ⟨rfl, rfl, r, rfl, rfl, hR⟩))
    · refine rt_and (x_buy (r := r) (nt := nt) hX hT hY ha (by omega) (by omega) sk th) (m_buy (r := r) (mt := mt) hM hN hZ ha (by omega) (by omega) q1 q2 q3 q4 q5 q6 q7 q8 q9 q10 tw) ?_
      rintro a b ⟨b1, g1, g2, g3, g4, g5⟩ ⟨b2, k1, k2, k3, k4, k5, k6⟩
      have : b1 = b2 := (nI_eq (by omega) (by omega)).mp (g1.symm.trans k1)
      subst this
      refine ⟨g3.trans k3.symm, k5, 3, g4, k4, ?_⟩
      rw [g5, k6]
      exact rowE_r3
end
