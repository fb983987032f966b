/-! ROUNDS DRAWN: look -/
def nx (s : Int32) : Int32 := s * 1103515245 + 12345
def vl (s : Int32) : Int32 := ((nx s).toUInt32 >>> ((16 : Int32).toUInt32 &&& Int32.toUInt32 31)).toInt32 - ((nx s).toUInt32 >>> ((16 : Int32).toUInt32 &&& Int32.toUInt32 31)).toInt32 / 100 * 100
theorem x_next (s : Int32) : f_X2_next 100 s = some (vl s, nx s) := by
  unfold f_X2_next
  rw [if_neg (by decide), gd_t (by decide)]
  rfl
theorem m_draw (s : Int32) : f_X12_draw 100 s = some (vl s, nx s) := by
  unfold f_X12_draw
  rw [gd_t (by decide)]
  rfl
def dS (sd : Int32) : Nat → Int32
  | 0 => sd
  | k + 1 => nx (nx (dS sd k))
def dR (sd : Int32) (r : Nat → Nat) (k : Nat) : Bool := decide (¬ nI (r k) ≤ vl (dS sd k))
def dF (sd : Int32) (o : Nat → Nat) (k : Nat) : Bool := decide (¬ nI (o k) ≤ vl (nx (dS sd k)))
def dB (p : Nat → Bool) : Nat → Int32
  | 0 => 0
  | k + 1 => if p k = true then dB p k ||| (1 <<< (nI k &&& 31)) else dB p k
/-- tenths, faults of a round -/
def dT (sd : Int32) (r : Nat → Nat) (t F : Nat) : Nat := t + 60 * ct (dR sd r) F
def dX (sd : Int32) (r o : Nat → Nat) (t al F : Nat) : Nat := 4 * ct (dR sd r) F + 4 * ct (dF sd o) F + bg (dT sd r t F) al 40
theorem dT_le {sd : Int32} {r : Nat → Nat} {t F : Nat} (ht : t ≤ 1200) (hF : F ≤ 8) : dT sd r t F ≤ 1680 := by
  have := ct_le (p := dR sd r) F
  unfold dT; omega
theorem dX_le {sd : Int32} {r o : Nat → Nat} {t al F : Nat} (ht : t ≤ 1200) (hF : F ≤ 8) : dX sd r o t al F ≤ 2000 := by
  have h1 := ct_le (p := dR sd r) F
  have h2 := ct_le (p := dF sd o) F
  have h3 := dT_le (sd := sd) (r := r) ht hF
  have h4 := bg_le (t := dT sd r t F) (a := al) (s := 40) (by omega)
  unfold dX; omega
theorem ct_t {p : Nat → Bool} {k : Nat} (h : p k = true) : ct p (k + 1) = ct p k + 1 := by rw [ct, if_pos h]
theorem ct_f {p : Nat → Bool} {k : Nat} (h : ¬ p k = true) : ct p (k + 1) = ct p k := by rw [ct, if_neg h]; rfl
theorem dB_t {p : Nat → Bool} {k : Nat} (h : p k = true) : dB p (k + 1) = dB p k ||| (1 <<< (nI k &&& 31)) := by rw [dB, if_pos h]
theorem dB_f {p : Nat → Bool} {k : Nat} (h : ¬ p k = true) : dB p (k + 1) = dB p k := by rw [dB, if_neg h]
section
variable {F H P : Nat} {kd ht ft st sc ca pl : Nat → Nat} {V : Nat → Nat → Nat → Nat → Nat → Nat → Nat → Nat → Nat} {ck ch cf cd cp rk mk mh mf ms mc ma mp ml : Nat → Int32} {rz mz : Int32} {n r al h p : Nat} {nt mt : Nat → Int64}
theorem x_drawJ (hX : okX F H P kd ht ft st sc ca pl V ck ch cf cd cp rz rk) (hh : h < H) (hp : p < P) {sd : Int32} {k : Nat} (hk : k < F) {rc : Int32 → Int32 → Int32 → Int32 → Int32 → Int32 → (Nat → Int32) → (Nat → Int32) → Option (Int32 × Int32 × Int32 × Int32 × Int32 × (Nat → Int32) × (Nat → Int32))} {Q : _ → Prop} {s1 t1 : Nat → Int32} {c d : Nat} {te rf : Int32}
    (ih : ∀ s2 t2, Rt (rc (nI (k + 1)) (dS sd (k + 1)) (nI (4 * c + 4 * ct (dF sd (oo V kd ht ft st sc ca pl h p)) (k + 1))) te rf (dB (dF sd (oo V kd ht ft st sc ca pl h p)) (k + 1)) s2 t2) Q) (hd : d = ct (dF sd (oo V kd ht ft st sc ca pl h p)) k) : Rt (j_X2_draw_92 (nI h) (nI p) rz ck ch cf cd cp rk rc (nI k) (dB (dF sd (oo V kd ht ft st sc ca pl h p)) k) s1 t1 (nx (dS sd k)) (nI (4 * c + 4 * d)) te rf) Q := by
  have hF := hX.1.1
  have hl := (hX.2.2.2.1.2 p hp k hk).1
  subst hd
  unfold j_X2_draw_92
  refine re2 (x_next _) (re1 (x_letter hX.2.2.2.1 hp hk hF) (rb3 (x_poleR hX hh hk (show pl (8 * p + k) < 8 by omega) s1 t1) ?_))
  rintro a1 s2 t2 rfl
  refine rt_if (fun q => ?_) (fun q => ?_)
  · have hn : ¬ dF sd (oo V kd ht ft st sc ca pl h p) k = true := by
      unfold dF; rw [decide_eq_true_eq]; exact fun z => z q
    refine rt_lt ?_
    have := ih s2 t2
    rw [ct_f hn, dB_f hn] at this
    rw [nI_1]; exact this
  · have hn : dF sd (oo V kd ht ft st sc ca pl h p) k = true := by
      unfold dF; rw [decide_eq_true_eq]; exact q
    refine rt_lt ?_
    have := ih s2 t2
    rw [ct_t hn, dB_t hn] at this
    rw [nI_1, c_4, nI_add]; exact this
theorem x_draw (hX : okX F H P kd ht ft st sc ca pl V ck ch cf cd cp rz rk) (ha : al ≤ 9999) (hh : h < H) (hp : p < P) (sd d1 d2 d3 d4 d5 : Int32) (sk th : Nat → Int32) : Rt (f_X2_draw (nI h) (nI p) sd (nI F) (nI al) rz d1 d2 d3 d4 d5 ck ch cf cd cp rk sk th) (fun r => r.1 = dS sd F ∧ r.2.1 = nI (dX sd (rr kd ft st ca h) (oo V kd ht ft st sc ca pl h p) (pt F kd ft pl p) al F) ∧ r.2.2.1 = nI (dT sd (rr kd ft st ca h) (pt F kd ft pl p) F) ∧ r.2.2.2.1 = dB (dR sd (rr kd ft st ca h)) F ∧ r.2.2.2.2.1 = dB (dF sd (oo V kd ht ft st sc ca pl h p)) F) := by
  have hF := hX.1.1
  have h1 := pt_le (pl := pl) (p := p) hX.1
  unfold f_X2_draw
  refine re1 (x_planTenths hX hp) ?_
  refine rl8 8 (fun k v5 s f t rf fl _ _ => v5 = nI k ∧ s = dS sd k ∧ f = nI (4 * ct (dR sd (rr kd ft st ca h)) k + 4 * ct (dF sd (oo V kd ht ft st sc ca pl h p)) k) ∧ t = nI ((pt F kd ft pl p) + 60 * ct (dR sd (rr kd ft st ca h)) k) ∧ rf = dB (dR sd (rr kd ft st ca h)) k ∧ fl = dB (dF sd (oo V kd ht ft st sc ca pl h p)) k ∧ k ≤ F) (by omega) ⟨rfl, rfl, rfl, rfl, rfl, rfl, by omega⟩ ?_
  rintro rc k v5 s f t rf fl s1 t1 ⟨rfl, rfl, rfl, rfl, rfl, rfl, hk⟩ ih
  unfold s_X2_draw_33
  by_cases hkF : F ≤ k
  · obtain rfl : k = F := by omega
    refine rt_t (nI_le (Nat.le_refl _) (by omega)) ?_
    unfold k_X2_draw_33
    have h2 := dT_le (sd := sd) (r := (rr kd ft st ca h)) h1 hF
    unfold dT at h2
    refine re1 (x_begun (s := 40) (by omega) (by omega) (by omega) (by omega)) (rt_some ⟨rfl, ?_, rfl, rfl, rfl⟩)
    exact nI_add _ _
  · have hk' : k < F := by omega
    refine rt_f (nI_ge (by omega) (by omega)) (re2 (x_next _) (re1 (x_refusal hX.1 hX.2.2.1 hh hk') (rt_if (fun q => ?_) (fun q => ?_))))
    · have hn : ¬ dR sd (rr kd ft st ca h) k = true := by
        unfold dR; rw [decide_eq_true_eq]; exact fun z => z q
      refine x_drawJ hX hh hp hk' (fun s2 t2 => ih (by omega) _ _ _ _ _ _ _ _ ⟨rfl, rfl, ?_, ?_, ?_, rfl, by omega⟩) rfl
      · rw [ct_f hn]
      · rw [ct_f hn]
      · rw [dB_f hn]
    · have hn : dR sd (rr kd ft st ca h) k = true := by
        unfold dR; rw [decide_eq_true_eq]; exact q
      have e1 : nI (4 * ct (dR sd (rr kd ft st ca h)) k + 4 * ct (dF sd (oo V kd ht ft st sc ca pl h p)) k) + 4 = nI (4 * (ct (dR sd (rr kd ft st ca h)) k + 1) + 4 * ct (dF sd (oo V kd ht ft st sc ca pl h p)) k) := by
        rw [c_4, nI_add]; exact congrArg nI (by omega)
      rw [e1]
      refine x_drawJ hX hh hp hk' (fun s2 t2 => ih (by omega) _ _ _ _ _ _ _ _ ⟨rfl, rfl, ?_, ?_, ?_, rfl, by omega⟩) rfl
      · rw [ct_t hn]
      · rw [ct_t hn, c_60, nI_add]; exact congrArg nI (by omega)
      · rw [dB_t hn]
theorem m_drawJ (hM : okM F H P kd ht ft st sc ca pl V mk mh mf ms mc ma mp mz ml) (hh : h < H) (hp : p < P) {sd : Int32} {k : Nat} (hk : k < F) {rc : Int32 → Int32 → Int32 → Int32 → Int32 → Int32 → Int32 → Int32 → Int32 → Int32 → Int32 → Int32 → Int32 → Int32 → Int32 → Int32 → Option (Int32 × Int32 × Int32 × Int32 × Int32 × Int32 × Int32 × Int32 × Int32 × Int32 × Int32 × Int32 × Int32 × Int32 × Int32)} {Q : _ → Prop} {q1 q2 q3 q4 q5 q6 q7 q8 q9 q10 : Int32} {c d : Nat} {te rf : Int32}
    (ih : ∀ w1 w2 w3 w4 w5 w6 w7 w8 w9 w10, Rt (rc (nI (4 * c + 4 * ct (dF sd (oo V kd ht ft st sc ca pl h p)) (k + 1))) (nI (k + 1)) w1 w2 w3 w4 w5 w6 w7 w8 w9 w10 te rf (dB (dF sd (oo V kd ht ft st sc ca pl h p)) (k + 1)) (dS sd (k + 1))) Q) (hd : d = ct (dF sd (oo V kd ht ft st sc ca pl h p)) k) : Rt (j_X12_goRound_100 (nI h) (nI p) mz mk mh mf ms mc ma mp ml rc (nI k) q1 q2 q3 q4 q5 q6 q7 q8 q9 q10 (dB (dF sd (oo V kd ht ft st sc ca pl h p)) k) (nx (dS sd k)) (nI (4 * c + 4 * d)) te rf) Q := by
  have hF := hM.1.1
  have hl := (hM.2.2.2.1.2 p hp k hk).1
  subst hd
  unfold j_X12_goRound_100
  refine re2 (m_draw _) (re1 (m_letter hM.2.2.2.1 hp hk hF) (rb11 (m_oddsR hM hh hk (show pl (8 * p + k) < 8 by omega) _ _ _ _ _ _ _ _ _ _) ?_))
  rintro a1 w1 w2 w3 w4 w5 w6 w7 w8 w9 w10 rfl
  refine rt_if (fun q => ?_) (fun q => ?_)
  · have hn : ¬ dF sd (oo V kd ht ft st sc ca pl h p) k = true := by
      unfold dF; rw [decide_eq_true_eq]; exact fun z => z q
    refine rt_lt ?_
    have := ih w1 w2 w3 w4 w5 w6 w7 w8 w9 w10
    rw [ct_f hn, dB_f hn] at this
    rw [nI_1]; exact this
  · have hn : dF sd (oo V kd ht ft st sc ca pl h p) k = true := by
      unfold dF; rw [decide_eq_true_eq]; exact q
    refine rt_lt (rt_lt ?_)
    have := ih w1 w2 w3 w4 w5 w6 w7 w8 w9 w10
    rw [ct_t hn, dB_t hn] at this
    rw [nI_1, c_4, nI_add]; exact this
theorem m_goRound (hM : okM F H P kd ht ft st sc ca pl V mk mh mf ms mc ma mp mz ml) (ha : al ≤ 9999) (hh : h < H) (hp : p < P) (sd d1 d2 d3 d4 : Int32) (q1 q2 q3 q4 q5 q6 q7 q8 q9 q10 : Int32) : Rt (f_X12_goRound (nI h) (nI p) sd (nI F) (nI al) q1 q2 q3 q4 q5 mz q6 q7 q8 q9 q10 d1 d2 d3 d4 mk mh mf ms mc ma mp ml) (fun r => r.2.2.2.2.2.2.2.2.2.2.2.2.2.2 = dS sd F ∧ r.1 = nI (dX sd (rr kd ft st ca h) (oo V kd ht ft st sc ca pl h p) (pt F kd ft pl p) al F) ∧ r.2.2.2.2.2.2.2.2.2.2.2.1 = nI (dT sd (rr kd ft st ca h) (pt F kd ft pl p) F) ∧ r.2.2.2.2.2.2.2.2.2.2.2.2.1 = dB (dR sd (rr kd ft st ca h)) F ∧ r.2.2.2.2.2.2.2.2.2.2.2.2.2.1 = dB (dF sd (oo V kd ht ft st sc ca pl h p)) F) := by
  have hF := hM.1.1
  have h1 := pt_le (pl := pl) (p := p) hM.1
  unfold f_X12_goRound
  refine rl16 8 (fun k f v5 _ _ _ _ _ _ _ _ _ _ t rf fl s => v5 = nI k ∧ s = dS sd k ∧ f = nI (4 * ct (dR sd (rr kd ft st ca h)) k + 4 * ct (dF sd (oo V kd ht ft st sc ca pl h p)) k) ∧ t = nI (sm (fun f => tn (ft f) (kd f) (pl (8 * p + f))) k + 60 * ct (dR sd (rr kd ft st ca h)) k) ∧ rf = dB (dR sd (rr kd ft st ca h)) k ∧ fl = dB (dF sd (oo V kd ht ft st sc ca pl h p)) k ∧ k ≤ F) (by omega) ⟨rfl, rfl, rfl, rfl, rfl, rfl, by omega⟩ ?_
  rintro rc k f v5 u1 u2 u3 u4 u5 u6 u7 u8 u9 u10 t rf fl s ⟨rfl, rfl, rfl, rfl, rfl, rfl, hk⟩ ih
  unfold s_X12_goRound_26
  by_cases hkF : F ≤ k
  · obtain rfl : k = F := by omega
    refine rt_t (nI_le (Nat.le_refl _) (by omega)) ?_
    unfold k_X12_goRound_26
    have h2 := dT_le (sd := sd) (r := (rr kd ft st ca h)) h1 hF
    unfold dT pt at h2
    refine re1 (m_timeFaults (s := 40) (m := 1) (by omega) (by omega) (by omega) (by omega)) (rt_some ⟨rfl, ?_, rfl, rfl, rfl⟩)
    rw [Nat.mul_one]
    exact nI_add _ _
  · have hk' : k < F := by omega
    have hl := (hM.2.2.2.1.2 p hp k hk').1
    refine rt_f (nI_ge (by omega) (by omega)) (re1 (m_letter hM.2.2.2.1 hp hk' hF) (re1 (m_tenths hM.1 hk' (show pl (8 * p + k) < 8 by omega)) (re2 (m_draw _) (re1 (m_refusal hM.1 hM.2.2.1 hh hk') (rt_if (fun q => ?_) (fun q => ?_))))))
    · have hn : ¬ dR sd (rr kd ft st ca h) k = true := by
        unfold dR; rw [decide_eq_true_eq]; exact fun z => z q
      refine m_drawJ hM hh hp hk' (fun w1 w2 w3 w4 w5 w6 w7 w8 w9 w10 => ih (by omega) _ _ _ _ _ _ _ _ _ _ _ _ _ _ _ _ ⟨rfl, rfl, ?_, ?_, ?_, rfl, by omega⟩) rfl
      · rw [ct_f hn]
      · rw [ct_f hn, nI_add, sm]; exact congrArg nI (by omega)
      · rw [dB_f hn]
    · have hn : dR sd (rr kd ft st ca h) k = true := by
        unfold dR; rw [decide_eq_true_eq]; exact q
      have e1 : nI (4 * ct (dR sd (rr kd ft st ca h)) k + 4 * ct (dF sd (oo V kd ht ft st sc ca pl h p)) k) + 4 = nI (4 * (ct (dR sd (rr kd ft st ca h)) k + 1) + 4 * ct (dF sd (oo V kd ht ft st sc ca pl h p)) k) := by
        rw [c_4, nI_add]; exact congrArg nI (by omega)
      rw [e1]
      refine rt_lt (m_drawJ hM hh hp hk' (fun w1 w2 w3 w4 w5 w6 w7 w8 w9 w10 => ih (by omega) _ _ _ _ _ _ _ _ _ _ _ _ _ _ _ _ ⟨rfl, rfl, ?_, ?_, ?_, rfl, by omega⟩) rfl)
      · rw [ct_t hn]
      · rw [ct_t hn, c_60, nI_add, nI_add, sm]; exact congrArg nI (by omega)
      · rw [dB_t hn]
theorem x_tellDrawn (sz a b c d : Int32) : f_X11_tellDrawn sz a b c d nt = some (nI 4, r4 nt b.toInt64 c.toInt64 d.toInt64 a.toInt64) := by
  refine rt_get ?_
  unfold f_X11_tellDrawn
  exact re1 (x_start _) (re2 (x_put0 _ _) (re2 (x_putk (by omega) _ _) (re2 (x_putk (by omega) _ _) (re2 (x_putk (by omega) _ _) (rt_some rfl)))))
theorem m_tellRound (sz a b c d : Int32) : f_X12_tellRound sz a b c d mt = some (nI 4, r4 mt a.toInt64 b.toInt64 c.toInt64 d.toInt64) := by
  refine rt_get ?_
  unfold f_X12_tellRound
  exact re2 (m_tell0 _ _) (re2 (m_tellk (by omega) _ _) (re2 (m_tellk (by omega) _ _) (re2 (m_tellk (by omega) _ _) (rt_some rfl))))
theorem pr_look (hX : okX F H P kd ht ft st sc ca pl V ck ch cf cd cp rz rk) (hM : okM F H P kd ht ft st sc ca pl V mk mh mf ms mc ma mp mz ml) (ha : al ≤ 9999) (hR : rowE r nt mt) (p1 p2 p3 d1 d2 d3 d4 d5 : Int32) (sk th : Nat → Int32) (q1 q2 q3 q4 q5 q6 q7 q8 q9 q10 tw e1 e2 e3 e4 : Int32) : Rt (f_X11_look p1 p2 p3 (nI r) (nI F) (nI H) (nI P) (nI al) rz d1 d2 d3 d4 d5 ck ch cf cd cp rk sk th nt) (fun a => Rt (f_X12_look p1 p2 p3 (nI F) (nI al) (nI H) (nI P) (nI r) tw q1 q2 q3 q4 q5 mz q6 q7 q8 q9 q10 e1 e2 e3 e4 mk mh mf ms mc ma mp ml mt) (fun b => a.1 = b.1 ∧ b.2.2.1 = 0 ∧ ∃ r, a.2.1 = nI r ∧ b.2.1 = nI r ∧ rowE r a.2.2.2.2.2.2.2.2.2 b.2.2.2.2.2.2.2.2.2.2.2.2.2.2.2.2.2)) := by
  have hF := hX.1.1
  have hH := hX.2.2.1.1.1
  have hP := hX.2.2.2.1.1
  rcases bel p1 H (by omega) with ⟨h, hh, rfl⟩ | ho
  · rcases bel p2 P (by omega) with ⟨p, hp, rfl⟩ | ho
    · unfold f_X11_look
      refine re1 (x_hasHT hh (by omega)) (rt_f i10n (re1 (x_hasPT hp (by omega)) (rt_f i10n (rb7 (x_draw hX ha hh hp p3 d1 d2 d3 d4 d5 sk th) ?_))))
      rintro a1 a2 a3 a4 a5 s2 t2 ⟨rfl, rfl, rfl, rfl, rfl⟩
      refine re2 (x_tellDrawn _ _ _ _ _) (rt_some ?_)
      unfold f_X12_look
      refine re1 (m_bothT hh (by omega) hp (by omega)) (rt_f i10n (rb15 (m_goRound hM ha hh hp p3 e1 e2 e3 e4 q1 q2 q3 q4 q5 q6 q7 q8 q9 q10) ?_))
      rintro a1 w1 w2 w3 w4 w5 w6 w7 w8 w9 w10 a2 a3 a4 a5 ⟨rfl, rfl, rfl, rfl, rfl⟩
      exact re2 (m_tellRound _ _ _ _ _) (rt_some ⟨rfl, rfl, 4, rfl, rfl, rowE_r4⟩)
    · unfold f_X11_look
      refine re1 (x_hasHT hh (by omega)) (rt_f i10n (re1 (x_hasPF ho) (rt_t rfl (rt_some ?_))))
      unfold f_X12_look
      exact re1 (m_bothF2 hh (by omega) ho (by omega)) (rt_t rfl (rt_some ⟨rfl, rfl, r, rfl, rfl, hR⟩))
  · unfold f_X11_look
    refine re1 (x_hasHF ho) (rt_t rfl (rt_some ?_))
    unfold f_X12_look
    exact re1 (m_bothF1 ho (by omega)) (rt_t rfl (rt_some ⟨rfl, rfl, r, rfl, rfl, hR⟩))
end
