/-! AT A FENCE: jump, strides, calm -/
def r1 (nt : Nat → Int64) (a : Int64) : Nat → Int64 := vp_updL nt 0 a
def r2 (nt : Nat → Int64) (a b : Int64) : Nat → Int64 := vp_updL (vp_updL nt 0 a) 1 b
def r3 (nt : Nat → Int64) (a b c : Int64) : Nat → Int64 := vp_updL (vp_updL (vp_updL nt 0 a) 1 b) 2 c
def r4 (nt : Nat → Int64) (a b c d : Int64) : Nat → Int64 := vp_updL (vp_updL (vp_updL (vp_updL nt 0 a) 1 b) 2 c) 3 d
theorem rowE_r1 {nt mt : Nat → Int64} {a : Int64} : rowE 1 (r1 nt a) (r1 mt a) := rowE_s a rowE_0 (by omega)
theorem rowE_r2 {nt mt : Nat → Int64} {a b : Int64} : rowE 2 (r2 nt a b) (r2 mt a b) := rowE_s b rowE_r1 (by omega)
theorem rowE_r3 {nt mt : Nat → Int64} {a b c : Int64} : rowE 3 (r3 nt a b c) (r3 mt a b c) := rowE_s c rowE_r2 (by omega)
theorem rowE_r4 {nt mt : Nat → Int64} {a b c d : Int64} : rowE 4 (r4 nt a b c d) (r4 mt a b c d) := rowE_s d rowE_r3 (by omega)
theorem i10 : ((1 : Int32) = 0) = False := eq_false (by decide)
theorem i00 : ((0 : Int32) = 0) = True := eq_true rfl
theorem out_lt {v : Int32} {n : Nat} (h : out v n) (h0 : ¬ v < 0) : (v < nI n) = False := by
  rcases h with h | h
  · exact absurd h h0
  · exact eq_false (nlt_of_le h)
section
variable {F H P : Nat} {kd ht ft st sc ca pl : Nat → Nat} {V : Nat → Nat → Nat → Nat → Nat → Nat → Nat → Nat → Nat} {ck ch cf cd cp rk mk mh mf ms mc ma mp ml : Nat → Int32} {rz mz : Int32} {n : Nat} {nt mt : Nat → Int64}
theorem pr_jump (hX : okX F H P kd ht ft st sc ca pl V ck ch cf cd cp rz rk) (hM : okM F H P kd ht ft st sc ca pl V mk mh mf ms mc ma mp mz ml) (hR : rowE n nt mt) (p1 p2 p3 : Int32) (sk th : Nat → Int32) (q1 q2 q3 q4 q5 q6 q7 q8 q9 q10 tw : Int32) :
    ∃ r n' nt' mt' sk' th' w1 w2 w3 w4 w5 w6 w7 w8 w9 w10, f_X11_jump p1 p2 p3 (nI n) (nI F) (nI H) rz ck ch cf cd rk sk th nt = some (r, nI n', sk', th', nt') ∧ f_X12_jump p1 p2 p3 (nI F) (nI H) (nI n) tw q1 q2 q3 q4 q5 mz q6 q7 q8 q9 q10 mk mh mf ms mc ma ml mt = some (r, nI n', 0, w1, w2, w3, w4, w5, w6, w7, w8, w9, w10, mt') ∧ rowE n' nt' mt' := by
  have hF := hX.1.1
  have hH := hX.2.2.1.1.1
  rcases bel p1 H (by omega) with ⟨h, hh, rfl⟩ | ho
  · rcases bel p2 F (by omega) with ⟨f, hf, rfl⟩ | ho
    · rcases bel p3 8 (by omega) with ⟨l, hl, rfl⟩ | ho
      · obtain ⟨sk', th', e1⟩ := x_pole hX hh hf hl sk th
        obtain ⟨⟨w1, w2, w3, w4, w5, w6, w7, w8, w9, w10⟩, e2⟩ := m_odds hM hh hf hl q1 q2 q3 q4 q5 q6 q7 q8 q9 q10
        have a1 := hM.1.2 f hf
        refine ⟨nI (od V kd ft st sc ca h f l (ht f)), 3, r3 nt (nI (rf (ft f) (st h) (kd f) (ca (4 * h + 3)))).toInt64 (nI (tn (ft f) (kd f) l)).toInt64 (nI (ln (ft f) (st h))).toInt64, r3 mt (nI (rf (ft f) (st h) (kd f) (ca (4 * h + 3)))).toInt64 (nI (tn (ft f) (kd f) l)).toInt64 (nI (ln (ft f) (st h))).toInt64, sk', th', w1, w2, w3, w4, w5, w6, w7, w8, w9, w10, ?_, ?_, rowE_r3⟩
        · unfold f_X11_jump
          simp (disch := omega) only [x_hasHT hh, x_hasT hf, bd1_e, i10, if_false, z_lt, c_8, nI_ltI, hl, if_true, x_start, x_refusal hX.1 hX.2.2.1 hh hf, x_put0, bd2_e, x_tenths hX.1 hf hl, x_putk, x_leanAt hX.1 hX.2.2.1 hh hf, e1, bd3_e]
          rfl
        · unfold f_X12_jump
          simp (disch := omega) only [m_isHT hh, m_isT hf, bd1_e, i10, if_false, c_7, m_inT, e2, bd11_e, m_refusal hM.1 hM.2.2.1 hh hf, m_tell0, bd2_e, m_tenths hM.1 hf hl, m_tellk, gx, nI_clamp, a1.2.2, m_leanOf hM.2.2.1 hh]
          rfl
      · refine ⟨-1, n, nt, mt, sk, th, q1, q2, q3, q4, q5, q6, q7, q8, q9, q10, ?_, ?_, hR⟩
        · unfold f_X11_jump
          simp (disch := omega) only [x_hasHT hh, x_hasT hf, bd1_e, i10, if_false]
          by_cases h0 : p3 < 0
          · rw [if_pos h0]
          · rw [if_neg h0, c_8, if_neg (fun q => (out_lt ho h0).mp q)]
        · unfold f_X12_jump
          simp (disch := omega) only [m_isHT hh, m_isT hf, bd1_e, i10, if_false, c_7, m_inF ho, i00, if_true]
    · refine ⟨-1, n, nt, mt, sk, th, q1, q2, q3, q4, q5, q6, q7, q8, q9, q10, ?_, ?_, hR⟩
      · unfold f_X11_jump
        simp (disch := omega) only [x_hasHT hh, x_hasF ho, bd1_e, i10, if_false, i00, if_true]
      · unfold f_X12_jump
        simp (disch := omega) only [m_isHT hh, m_isF ho, bd1_e, i10, if_false, i00, if_true]
  · refine ⟨-1, n, nt, mt, sk, th, q1, q2, q3, q4, q5, q6, q7, q8, q9, q10, ?_, ?_, hR⟩
    · unfold f_X11_jump
      simp (disch := omega) only [x_hasHF ho, bd1_e, i00, if_true]
    · unfold f_X12_jump
      simp (disch := omega) only [m_isHF ho, bd1_e, i00, if_true]
theorem pr_strides (hX : okX F H P kd ht ft st sc ca pl V ck ch cf cd cp rz rk) (hM : okM F H P kd ht ft st sc ca pl V mk mh mf ms mc ma mp mz ml) (hR : rowE n nt mt) (p1 p2 : Int32) (tw : Int32) :
    ∃ r n' nt' mt', f_X11_strides p1 p2 (nI n) (nI F) (nI H) cf cd nt = some (r, nI n', nt') ∧ f_X12_strides p1 p2 (nI F) (nI H) (nI n) tw mf ms mt = some (r, nI n', 0, mt') ∧ rowE n' nt' mt' := by
  have hF := hX.1.1
  have hH := hX.2.2.1.1.1
  rcases bel p1 H (by omega) with ⟨h, hh, rfl⟩ | ho
  · rcases bel p2 F (by omega) with ⟨f, hf, rfl⟩ | ho
    · have a1 := hM.1.2 f hf
      have a2 := hX.1.2 f hf
      have a3 := (hM.2.2.1.2 h hh).1
      have a4 := (hX.2.2.1.2 h hh).1
      have a5 := hM.2.2.1.1.2 h hh
      have hm := Nat.mod_lt (ft f) (show 0 < st h by omega)
      have hd := Nat.div_add_mod (ft f) (st h)
      have hq : ft f / st h * st h ≤ ft f := Nat.div_mul_le_self _ _
      have eln : ln (ft f) (st h) = min (ft f % st h) (st h - ft f % st h) := rfl
      have hdv : ft f / st h < 2 ^ 31 := Nat.lt_of_le_of_lt (Nat.div_le_self _ _) (by omega)
      by_cases hc : ft f % st h ≤ ln (ft f) (st h)
      · refine ⟨nI (ft f / st h) + nI 0, 2, r2 nt (nI (ln (ft f) (st h))).toInt64 (nI 0).toInt64, r2 mt (nI (ln (ft f) (st h))).toInt64 (nI 0).toInt64, ?_, ?_, rowE_r2⟩
        · unfold f_X11_strides j_X11_strides_57 j_X11_strides_91
          simp (disch := omega) only [x_hasHT hh, x_hasT hf, bd1_e, i10, if_false, x_ofHorse, c_0, Nat.add_zero, a4, gx, nI_clamp, a2.2.2, lt1_e, gz, pk_div, pk_mul, pk_sub, md, x_leanAt hX.1 hX.2.2.1 hh hf, nI_leI, x_start, c_1, bd2_e]
          rw [if_neg (show ¬ st h ≤ 0 by omega), if_pos hc]
          simp (disch := omega) only [x_putk, bd2_e]
          rfl
        · unfold f_X12_strides j_X12_strides_54
          simp (disch := omega) only [m_isHT hh, m_isT hf, bd1_e, i10, if_false, c_0, c_1, gx, nI_clamp, a1.2.2, a3, gz, pk_div, pk_mul, pk_sub, md, lt1_e, nI_leI, m_leanOf hM.2.2.1 hh, m_tellk, bd2_e]
          rw [if_pos (show ft f % st h ≤ st h - ft f % st h by omega)]
          rfl
      · refine ⟨nI (ft f / st h) + nI 1, 2, r2 nt (nI (ln (ft f) (st h))).toInt64 (nI 1).toInt64, r2 mt (nI (ln (ft f) (st h))).toInt64 (nI 1).toInt64, ?_, ?_, rowE_r2⟩
        · unfold f_X11_strides j_X11_strides_57 j_X11_strides_91
          simp (disch := omega) only [x_hasHT hh, x_hasT hf, bd1_e, i10, if_false, x_ofHorse, c_0, Nat.add_zero, a4, gx, nI_clamp, a2.2.2, lt1_e, gz, pk_div, pk_mul, pk_sub, md, x_leanAt hX.1 hX.2.2.1 hh hf, nI_leI, x_start, c_1, bd2_e]
          rw [if_neg (show ¬ st h ≤ 0 by omega), if_neg hc]
          simp (disch := omega) only [x_putk, bd2_e]
          rfl
        · unfold f_X12_strides j_X12_strides_54
          simp (disch := omega) only [m_isHT hh, m_isT hf, bd1_e, i10, if_false, c_0, c_1, gx, nI_clamp, a1.2.2, a3, gz, pk_div, pk_mul, pk_sub, md, lt1_e, nI_leI, m_leanOf hM.2.2.1 hh, m_tellk, bd2_e]
          rw [if_neg (show ¬ ft f % st h ≤ st h - ft f % st h by omega)]
          rfl
    · refine ⟨-1, n, nt, mt, ?_, ?_, hR⟩
      · unfold f_X11_strides
        simp (disch := omega) only [x_hasHT hh, x_hasF ho, bd1_e, i10, if_false, i00, if_true]
      · unfold f_X12_strides
        simp (disch := omega) only [m_isHT hh, m_isF ho, bd1_e, i10, if_false, i00, if_true]
  · refine ⟨-1, n, nt, mt, ?_, ?_, hR⟩
    · unfold f_X11_strides
      simp (disch := omega) only [x_hasHF ho, bd1_e, i00, if_true]
    · unfold f_X12_strides
      simp (disch := omega) only [m_isHF ho, bd1_e, i00, if_true]
end
/-- the calmest letter of those below k -/
def cB (g t : Nat → Nat) : Nat → Nat
  | 0 => 0
  | k + 1 => if k = 0 ∨ g k < g (cB g t k) ∨ (g k = g (cB g t k) ∧ t k < t (cB g t k)) then k else cB g t k
theorem cB_lt {g t : Nat → Nat} : ∀ k, cB g t k < k + 1
  | 0 => by simp [cB]
  | k + 1 => by
    have := cB_lt (g := g) (t := t) k
    rw [cB]; split <;> omega
section
variable {F H P : Nat} {kd ht ft st sc ca pl : Nat → Nat} {V : Nat → Nat → Nat → Nat → Nat → Nat → Nat → Nat → Nat} {ck ch cf cd cp rk mk mh mf ms mc ma mp ml : Nat → Int32} {rz mz : Int32} {n : Nat} {nt mt : Nat → Int64}
theorem x_calm (hX : okX F H P kd ht ft st sc ca pl V ck ch cf cd cp rz rk) {h f : Nat} (hh : h < H) (hf : f < F) (sk th : Nat → Int32) :
    ∃ sk' th', f_X11_calm (nI h) (nI f) (nI n) (nI F) (nI H) rz ck ch cf cd rk sk th nt = some (nI (cB (fun l => od V kd ft st sc ca h f l (ht f)) (tn (ft f) (kd f)) 8), nI 2, sk', th', r2 nt (nI (od V kd ft st sc ca h f (cB (fun l => od V kd ft st sc ca h f l (ht f)) (tn (ft f) (kd f)) 8) (ht f) + rf (ft f) (st h) (kd f) (ca (4 * h + 3)))).toInt64 (nI (tn (ft f) (kd f) (cB (fun l => od V kd ft st sc ca h f l (ht f)) (tn (ft f) (kd f)) 8))).toInt64) := by
  have hF := hX.1.1
  have hH := hX.2.2.1.1.1
  have hV := hX.2.2.2.2.1
  have hrf := rf_le (y := ft f) (s := st h) (k := kd f) (c := ca (4 * h + 3)) (hX.2.2.1.1.2 h hh).1
  have htn : ∀ l, tn (ft f) (kd f) l < 1000 := by
    intro l
    have a := hX.1.2 f hf
    have : ft f * (6 - l % 4) ≤ 99 * 6 := Nat.mul_le_mul (by omega) (by omega)
    unfold tn
    generalize ft f * (6 - l % 4) = q at *
    split <;> split <;> omega
  unfold f_X11_calm
  simp (disch := omega) only [x_hasHT hh, x_hasT hf, bd1_e, i10, if_false, x_refusal hX.1 hX.2.2.1 hh hf]
  generalize hg : (fun l => od V kd ft st sc ca h f l (ht f)) = g
  have hg100 : ∀ l, g l ≤ 100 := by intro l; subst hg; exact od_le hV
  obtain ⟨k, v4, v5, v6, v7, sk', th', rc, ⟨e7, hk8, hI⟩, hE, e⟩ := le6 (s := s_X11_calm_46 (nI h) (nI f) rz ck ch cf cd rk (nI (rf (ft f) (st h) (kd f) (ca (4 * h + 3)))) (k_X11_calm_46 (nI n) nt)) (a1 := 0) (a2 := 0) (a3 := 0) (a4 := 0) (a5 := sk) (a6 := th)
    (fun k v4 v5 v6 v7 _ _ => v7 = nI k ∧ k ≤ 8 ∧ (0 < k → v4 = nI (cB g (tn (ft f) (kd f)) k) ∧ v5 = nI (g (cB g (tn (ft f) (kd f)) k) + rf (ft f) (st h) (kd f) (ca (4 * h + 3))) ∧ v6 = nI (tn (ft f) (kd f) (cB g (tn (ft f) (kd f)) k))))
    (fun k _ _ _ _ _ _ => k = 8) 8 (by omega) ⟨rfl, by omega, fun q => absurd q (by omega)⟩ (by
      rintro rc k v4 v5 v6 v7 s1 t1 ⟨rfl, hk, hI⟩
      by_cases h8 : k = 8
      · exact .inl h8
      · right
        refine ⟨by omega, ?_⟩
        obtain ⟨s2, t2, ep⟩ := x_pole hX hh hf (show k < 8 by omega) s1 t1
        have ego : od V kd ft st sc ca h f k (ht f) = g k := by subst hg; rfl
        have b1 := hg100 k
        have b2 := htn k
        unfold s_X11_calm_46
        rw [if_neg (show ¬ (8 : Int32) ≤ nI k from nI_ge (a := k) (b := 8) (by omega) (by omega))]
        simp (disch := omega) only [ep, bd3_e, lt1_e, x_tenths hX.1 hf (show k < 8 by omega), bd1_e, ego, nI_add, c_1, c_0, nI_eq]
        by_cases k0 : k = 0
        · subst k0
          rw [if_pos rfl]
          exact ⟨_, _, _, _, _, _, ⟨rfl, by omega, fun _ => ⟨rfl, rfl, rfl⟩⟩, rfl⟩
        · rw [if_neg k0]
          obtain ⟨rfl, rfl, rfl⟩ := hI (by omega)
          have b3 := hg100 (cB g (tn (ft f) (kd f)) k)
          have b4 := htn (cB g (tn (ft f) (kd f)) k)
          simp (disch := omega) only [nI_ltI, nI_eq, nI_leI]
          have eB : cB g (tn (ft f) (kd f)) (k + 1) = if k = 0 ∨ g k < g (cB g (tn (ft f) (kd f)) k) ∨ (g k = g (cB g (tn (ft f) (kd f)) k) ∧ tn (ft f) (kd f) k < tn (ft f) (kd f) (cB g (tn (ft f) (kd f)) k)) then k else cB g (tn (ft f) (kd f)) k := rfl
          by_cases c1 : g k < g (cB g (tn (ft f) (kd f)) k)
          · rw [if_pos (by omega)]
            rw [if_pos (by omega)] at eB
            exact ⟨_, _, _, _, _, _, ⟨rfl, by omega, fun _ => by rw [eB]; exact ⟨rfl, rfl, rfl⟩⟩, rfl⟩
          · rw [if_neg (by omega)]
            by_cases c2 : g k = g (cB g (tn (ft f) (kd f)) k)
            · rw [if_pos (by omega)]
              by_cases c3 : tn (ft f) (kd f) (cB g (tn (ft f) (kd f)) k) ≤ tn (ft f) (kd f) k
              · rw [if_pos c3]
                rw [if_neg (by omega)] at eB
                exact ⟨_, _, _, _, _, _, ⟨rfl, by omega, fun _ => by rw [eB]; exact ⟨rfl, rfl, rfl⟩⟩, rfl⟩
              · rw [if_neg c3]
                rw [if_pos (by omega)] at eB
                exact ⟨_, _, _, _, _, _, ⟨rfl, by omega, fun _ => by rw [eB]; exact ⟨rfl, rfl, rfl⟩⟩, rfl⟩
            · rw [if_neg (by omega)]
              rw [if_neg (by omega)] at eB
              exact ⟨_, _, _, _, _, _, ⟨rfl, by omega, fun _ => by rw [eB]; exact ⟨rfl, rfl, rfl⟩⟩, rfl⟩)
  subst hE
  obtain ⟨rfl, rfl, rfl⟩ := hI (by omega)
  subst e7
  refine ⟨sk', th', ?_⟩
  rw [e]
  unfold s_X11_calm_46 k_X11_calm_46
  rw [if_pos (show (8 : Int32) ≤ nI 8 from by decide)]
  simp (disch := omega) only [x_start, bd1_e, x_put0, bd2_e, x_putk]
  subst hg
  rfl
theorem m_calm (hM : okM F H P kd ht ft st sc ca pl V mk mh mf ms mc ma mp mz ml) {h f : Nat} (hh : h < H) (hf : f < F) (q1 q2 q3 q4 q5 q6 q7 q8 q9 q10 tw : Int32) :
    ∃ w1 w2 w3 w4 w5 w6 w7 w8 w9 w10, f_X12_calm (nI h) (nI f) (nI F) (nI H) (nI n) tw q1 q2 q3 q4 q5 mz q6 q7 q8 q9 q10 mk mh mf ms mc ma ml mt = some (nI (cB (fun l => od V kd ft st sc ca h f l (ht f)) (tn (ft f) (kd f)) 8), nI 2, 0, w1, w2, w3, w4, w5, w6, w7, w8, w9, w10, r2 mt (nI (od V kd ft st sc ca h f (cB (fun l => od V kd ft st sc ca h f l (ht f)) (tn (ft f) (kd f)) 8) (ht f) + rf (ft f) (st h) (kd f) (ca (4 * h + 3)))).toInt64 (nI (tn (ft f) (kd f) (cB (fun l => od V kd ft st sc ca h f l (ht f)) (tn (ft f) (kd f)) 8))).toInt64) := by
  have hF := hM.1.1
  have hH := hM.2.2.1.1.1
  have hV := hM.2.2.2.2.1
  have hrf := rf_le (y := ft f) (s := st h) (k := kd f) (c := ca (4 * h + 3)) (hM.2.2.1.1.2 h hh).1
  have htn : ∀ l, tn (ft f) (kd f) l < 1000 := by
    intro l
    have a := hM.1.2 f hf
    have : ft f * (6 - l % 4) ≤ 99 * 6 := Nat.mul_le_mul (by omega) (by omega)
    unfold tn
    generalize ft f * (6 - l % 4) = q at *
    split <;> split <;> omega
  unfold f_X12_calm
  simp (disch := omega) only [m_isHT hh, m_isT hf, bd1_e, i10, if_false]
  generalize hg : (fun l => od V kd ft st sc ca h f l (ht f)) = g
  have hg100 : ∀ l, g l ≤ 100 := by intro l; subst hg; exact od_le hV
  obtain ⟨lo, hl0, hls, hlb⟩ : ∃ lo : Nat → Nat, lo 0 = 100000000 ∧ (∀ k, 0 < k → lo k = g (cB g (tn (ft f) (kd f)) k)) ∧ ∀ k, lo k ≤ 100000000 := by
    refine ⟨fun k => if k = 0 then 100000000 else g (cB g (tn (ft f) (kd f)) k), rfl, fun k hk => if_neg (by omega), fun k => ?_⟩
    have := hg100 (cB g (tn (ft f) (kd f)) k)
    show (if k = 0 then 100000000 else g (cB g (tn (ft f) (kd f)) k)) ≤ _
    split <;> omega
  obtain ⟨k, v4, v5, v7, w1, w2, w3, w4, w5, w6, w7, w8, w9, w10, rc, ⟨e7, hk8, hI⟩, hE, e⟩ := le13 (s := s_X12_calm_33 (nI h) (nI f) mz mk mh mf ms mc ma ml (k_X12_calm_33 (nI h) (nI f) mk mf ms ma mt)) (a1 := 0) (a2 := 100000000) (a3 := 0) (a4 := q1) (a5 := q2) (a6 := q3) (a7 := q4) (a8 := q5) (a9 := q6) (a10 := q7) (a11 := q8) (a12 := q9) (a13 := q10)
    (fun k v4 v5 v7 _ _ _ _ _ _ _ _ _ _ => v7 = nI k ∧ k ≤ 8 ∧ v4 = nI (cB g (tn (ft f) (kd f)) k) ∧ v5 = nI (lo k))
    (fun k _ _ _ _ _ _ _ _ _ _ _ _ _ => k = 8) 8 (by omega) ⟨rfl, by omega, rfl, by rw [hl0]; rfl⟩ (by
      rintro rc k v4 v5 v7 u1 u2 u3 u4 u5 u6 u7 u8 u9 u10 ⟨rfl, hk, rfl, rfl⟩
      by_cases h8 : k = 8
      · exact .inl h8
      · right
        refine ⟨by omega, ?_⟩
        obtain ⟨⟨w1, w2, w3, w4, w5, w6, w7, w8, w9, w10⟩, ep⟩ := m_odds hM hh hf (show k < 8 by omega) u1 u2 u3 u4 u5 u6 u7 u8 u9 u10
        have ego : od V kd ft st sc ca h f k (ht f) = g k := by subst hg; rfl
        have b1 := hg100 k
        have b2 := htn k
        have b3 := hg100 (cB g (tn (ft f) (kd f)) k)
        have b4 := htn (cB g (tn (ft f) (kd f)) k)
        have b5 := cB_lt (g := g) (t := tn (ft f) (kd f)) k
        unfold s_X12_calm_33
        rw [if_neg (show ¬ (8 : Int32) ≤ nI k from nI_ge (a := k) (b := 8) (by omega) (by omega))]
        have b6 := hlb k
        have b7 := hls (k + 1) (by omega)
        simp (disch := omega) only [ep, bd11_e, lt1_e, ego, nI_eq, m_tenths hM.1 hf (show k < 8 by omega), m_tenths hM.1 hf (show cB g (tn (ft f) (kd f)) k < 8 by omega), bd1_e, nI_add, c_1, nI_ltI]
        have eB : cB g (tn (ft f) (kd f)) (k + 1) = if k = 0 ∨ g k < g (cB g (tn (ft f) (kd f)) k) ∨ (g k = g (cB g (tn (ft f) (kd f)) k) ∧ tn (ft f) (kd f) k < tn (ft f) (kd f) (cB g (tn (ft f) (kd f)) k)) then k else cB g (tn (ft f) (kd f)) k := rfl
        by_cases k0 : k = 0
        · rw [if_neg (by subst k0; omega), if_neg (by subst k0; omega)]
          rw [if_pos (.inl k0)] at eB
          exact ⟨_, _, _, _, _, _, _, _, _, _, _, _, _, ⟨rfl, by omega, by rw [eB], by rw [b7, eB]⟩, rfl⟩
        · have b8 := hls k (by omega)
          rw [b8]
          by_cases c1 : g (cB g (tn (ft f) (kd f)) k) < g k
          · rw [if_pos c1]
            rw [if_neg (by omega)] at eB
            exact ⟨_, _, _, _, _, _, _, _, _, _, _, _, _, ⟨rfl, by omega, by rw [eB], by rw [b7, eB]⟩, rfl⟩
          · rw [if_neg c1]
            by_cases c2 : g k = g (cB g (tn (ft f) (kd f)) k)
            · rw [if_pos c2]
              by_cases c3 : tn (ft f) (kd f) k < tn (ft f) (kd f) (cB g (tn (ft f) (kd f)) k)
              · rw [if_pos c3]
                rw [if_pos (by omega)] at eB
                exact ⟨_, _, _, _, _, _, _, _, _, _, _, _, _, ⟨rfl, by omega, by rw [eB], by rw [b7, eB]⟩, rfl⟩
              · rw [if_neg c3]
                rw [if_neg (by omega)] at eB
                exact ⟨_, _, _, _, _, _, _, _, _, _, _, _, _, ⟨rfl, by omega, by rw [eB], by rw [b7, eB]⟩, rfl⟩
            · rw [if_neg c2]
              rw [if_pos (by omega)] at eB
              exact ⟨_, _, _, _, _, _, _, _, _, _, _, _, _, ⟨rfl, by omega, by rw [eB], by rw [b7, eB]⟩, rfl⟩)
  subst hE
  obtain ⟨rfl, rfl⟩ := hI
  subst e7
  refine ⟨w1, w2, w3, w4, w5, w6, w7, w8, w9, w10, ?_⟩
  rw [e]
  unfold s_X12_calm_33 k_X12_calm_33
  rw [if_pos (show (8 : Int32) ≤ nI 8 from by decide), hls 8 (by omega)]
  have b5 : cB g (tn (ft f) (kd f)) 8 < 8 := by
    have := cB_lt (g := g) (t := tn (ft f) (kd f)) 7
    rw [cB]; split <;> omega
  have b9 := hg100 (cB g (tn (ft f) (kd f)) 8)
  simp (disch := omega) only [m_refusal hM.1 hM.2.2.1 hh hf, bd1_e, nI_add, m_tell0, bd2_e, m_tenths hM.1 hf b5, m_tellk]
  subst hg
  rfl
theorem pr_calm (hX : okX F H P kd ht ft st sc ca pl V ck ch cf cd cp rz rk) (hM : okM F H P kd ht ft st sc ca pl V mk mh mf ms mc ma mp mz ml) (hR : rowE n nt mt) (p1 p2 : Int32) (sk th : Nat → Int32) (q1 q2 q3 q4 q5 q6 q7 q8 q9 q10 tw : Int32) :
    ∃ r n' nt' mt' sk' th' w1 w2 w3 w4 w5 w6 w7 w8 w9 w10, f_X11_calm p1 p2 (nI n) (nI F) (nI H) rz ck ch cf cd rk sk th nt = some (r, nI n', sk', th', nt') ∧ f_X12_calm p1 p2 (nI F) (nI H) (nI n) tw q1 q2 q3 q4 q5 mz q6 q7 q8 q9 q10 mk mh mf ms mc ma ml mt = some (r, nI n', 0, w1, w2, w3, w4, w5, w6, w7, w8, w9, w10, mt') ∧ rowE n' nt' mt' := by
  have hF := hX.1.1
  have hH := hX.2.2.1.1.1
  rcases bel p1 H (by omega) with ⟨h, hh, rfl⟩ | ho
  · rcases bel p2 F (by omega) with ⟨f, hf, rfl⟩ | ho
    · obtain ⟨sk', th', e1⟩ := x_calm (n := n) (nt := nt) hX hh hf sk th
      obtain ⟨w1, w2, w3, w4, w5, w6, w7, w8, w9, w10, e2⟩ := m_calm (n := n) (mt := mt) hM hh hf q1 q2 q3 q4 q5 q6 q7 q8 q9 q10 tw
      exact ⟨_, 2, _, _, sk', th', w1, w2, w3, w4, w5, w6, w7, w8, w9, w10, e1, e2, rowE_r2⟩
    · refine ⟨-1, n, nt, mt, sk, th, q1, q2, q3, q4, q5, q6, q7, q8, q9, q10, ?_, ?_, hR⟩
      · unfold f_X11_calm
        simp (disch := omega) only [x_hasHT hh, x_hasF ho, bd1_e, i10, if_false, i00, if_true]
      · unfold f_X12_calm
        simp (disch := omega) only [m_isHT hh, m_isF ho, bd1_e, i10, if_false, i00, if_true]
  · refine ⟨-1, n, nt, mt, sk, th, q1, q2, q3, q4, q5, q6, q7, q8, q9, q10, ?_, ?_, hR⟩
    · unfold f_X11_calm
      simp (disch := omega) only [x_hasHF ho, bd1_e, i00, if_true]
    · unfold f_X12_calm
      simp (disch := omega) only [m_isHF ho, bd1_e, i00, if_true]
end
