/-! game, lot, share -/
/-- who rides i-th, the first named coming at a -/
def nmO (nm : Nat → Nat) (a i : Nat) : Nat := nm (if i = a then 0 else if i < a then i + 1 else i)
/-- fractions told from o on -/
def rwF (o : Nat) (z : Nat → Nat) (d : Nat) : Nat → (Nat → Int64) → Nat → Int64
  | 0, t => t
  | k + 1, t => vp_updL (vp_updL (rwF o z d k t) (o + 2 * k) (fz (z k) d)) (o + 2 * k + 1) (fd (z k) d)
theorem rowE_F {o d : Nat} {z : Nat → Nat} {nt mt : Nat → Int64} (h : rowE o nt mt) : ∀ k, o + 2 * k ≤ 12 → rowE (o + 2 * k) (rwF o z d k nt) (rwF o z d k mt)
  | 0, _ => h
  | k + 1, hk => by
    rw [rwF, rwF]
    exact rowE_f (rowE_F h k (by omega)) (by omega)
section
variable {F H P : Nat} {kd ht ft st sc ca pl : Nat → Nat} {V : Nat → Nat → Nat → Nat → Nat → Nat → Nat → Nat → Nat} {ck ch cf cd cp rk mk mh mf ms mc ma mp ml : Nat → Int32} {rz mz : Int32} {N n r al a y : Nat} {fa te mo nm tc : Nat → Nat} {tf tx tm mm mn pf' pt' pp' sg mx : Nat → Int32} {ts mt' : Int32} {nt mt : Nat → Int64}
theorem x_start' (hX : okX F H P kd ht ft st sc ca pl V ck ch cf cd cp rz rk) (hG : okGa P F n al kd ft pl fa te pf' pt' pp') (hY : okY mo tm) (hn : n ≤ 12) (hP0 : 0 < P) (hN0 : 0 < N) (hN : N ≤ 3) (haN : a < N) {nd : Nat → Int32} (hnd : ∀ i, i < N → nm i < H ∧ nd i = nI (nm i)) (fp : Int32) (sk th pc pe : Nat → Int32) (pw ptr : Nat → Int64) : Rt (f_X3_start (nI a) (nI F) rz (nI N) (nI P) fp ck ch cf cd cp rk sk th tm nd pf' pt' pp' pc pe pw ptr) (fun r => r.1 = nI (fM (fun p => gt (gc V F kd ht ft st sc ca pl (nmO nm a)) 0 (gv N P (gc V F kd ht ft st sc ca pl (nmO nm a)) (pyG N n F al kd ft pl fa te mo) (N - 1)) (fun _ => 0) p 0) P) ∧ ∀ i, i < N → r.2.2.2.2.2.1 i = lN (gv N P (gc V F kd ht ft st sc ca pl (nmO nm a)) (pyG N n F al kd ft pl fa te mo) N (fun _ => 0) i)) := by
  have hP := hX.2.2.2.1.1
  unfold f_X3_start
  refine rl4 3 (fun k v4 _ _ pc => v4 = nI k ∧ k ≤ N ∧ ∀ j, j < k → ∀ p, p < P → pc (6 * j + p) = nI ((gc V F kd ht ft st sc ca pl (nmO nm a)) j p)) (by omega) ⟨rfl, by omega, by omega⟩ ?_
  rintro rc k v4 s1 t1 pc ⟨rfl, hk, hI⟩ ih
  unfold s_X3_start_3
  by_cases hkN : N ≤ k
  · obtain rfl : N = k := by omega
    refine rt_t (nI_le (Nat.le_refl _) (by omega)) ?_
    unfold k_X3_start_3
    refine rb4 (x_settle (c := (gc V F kd ht ft st sc ca pl (nmO nm a))) hX.1 hG hY hn hP0 hP hN gc_le hI N 200 0 (by omega) (by omega) (fun _ => 0) fp pe pw ptr (fun j hj => absurd hj (by omega))) ?_
    rintro u1 u2 u3 u4 ⟨_, q2, _, _, _, q6⟩
    refine rt_some ⟨?_, fun i hi => ?_⟩
    · refine (q6 rfl hN0).trans ?_
      rw [show N - 1 - (N - 1) = 0 by omega]
    · refine Eq.trans ?_ (q2 i hi)
      show u3 i = u3 (3 * 0 + i)
      rw [show 3 * 0 + i = i by omega]
  · have hfin : ∀ x, x < N → nm x = nmO nm a k → Rt (j_X3_start_38 (nI F) rz (nI N) (nI P) ck ch cf cd cp rk nd rc (nI k) s1 t1 pc (nI x)) (fun r => r.1 = nI (fM (fun p => gt (gc V F kd ht ft st sc ca pl (nmO nm a)) 0 (gv N P (gc V F kd ht ft st sc ca pl (nmO nm a)) (pyG N n F al kd ft pl fa te mo) (N - 1)) (fun _ => 0) p 0) P) ∧ ∀ i, i < N → r.2.2.2.2.2.1 i = lN (gv N P (gc V F kd ht ft st sc ca pl (nmO nm a)) (pyG N n F al kd ft pl fa te mo) N (fun _ => 0) i)) := by
      intro x hx hnx
      obtain ⟨b1, b2⟩ := hnd x hx
      unfold j_X3_start_38
      refine rl4 6 (fun p v6 _ _ pc => v6 = nI p ∧ p ≤ P ∧ (∀ j, j < k → ∀ p, p < P → pc (6 * j + p) = nI ((gc V F kd ht ft st sc ca pl (nmO nm a)) j p)) ∧ ∀ q, q < p → pc (6 * k + q) = nI ((gc V F kd ht ft st sc ca pl (nmO nm a)) k q)) (by omega) ⟨rfl, by omega, hI, by omega⟩ ?_
      rintro rc2 p v6 s2 t2 pc2 ⟨rfl, hp, hI0, hI1⟩ ih2
      unfold s_X3_start_41
      by_cases hpP : P ≤ p
      · obtain rfl : P = p := by omega
        refine rt_t (nI_le (Nat.le_refl _) (by omega)) ?_
        unfold k_X3_start_41
        refine rt_lt (ih (by omega) _ _ _ _ ⟨nI_1 _, by omega, fun j hj q hq => ?_⟩)
        by_cases e : j = k
        · subst e; exact hI1 q hq
        · exact hI0 j (by omega) q hq
      · refine rt_f (nI_ge (by omega) (by omega)) (rt_f (nI_ge hx (by omega)) (rt_gx (by omega) (by omega) ?_))
        rw [nI_clamp (by omega), b2]
        obtain ⟨s3, t3, e⟩ := x_clearOf hX b1 (show p < P by omega) s2 t2
        refine re3 e ?_
        rw [c_6, pk_mul, nI_add, Nat.mul_comm k 6, gx (by omega) (by omega), nI_clamp (by omega)]
        refine rt_lt (ih2 (by omega) _ _ _ _ ⟨nI_1 _, by omega, fun j hj q hq => ?_, fun q hq => ?_⟩)
        · rw [upd_n (by omega)]; exact hI0 j hj q hq
        · by_cases e : q = p
          · subst e; rw [upd_s]; unfold gc; rw [hnx]
          · rw [upd_n (by omega)]; exact hI1 q (by omega)
    refine rt_f (nI_ge (by omega) (by omega)) ?_
    unfold j_X3_start_24
    by_cases e : k = a
    · subst e
      refine rt_t rfl (rt_t (nI_le (Nat.le_refl _) (by omega)) (hfin 0 hN0 ?_))
      unfold nmO; rw [if_pos rfl]
    · refine rt_f (fun q => e ((nI_eq (by omega) (by omega)).mp q)) ?_
      by_cases e2 : a ≤ k
      · refine rt_t (nI_le e2 (by omega)) (hfin k (by omega) ?_)
        unfold nmO; rw [if_neg e, if_neg (by omega)]
      · refine rt_f (nI_ge (by omega) (by omega)) (rt_lt ?_)
        rw [nI_1]
        refine hfin (k + 1) (by omega) ?_
        unfold nmO; rw [if_neg e, if_pos (by omega)]
theorem gvN_le (hY : okY mo tm) (hN : N ≤ 3) {i : Nat} : gv N P (gc V F kd ht ft st sc ca pl (nmO nm a)) (pyG N n F al kd ft pl fa te mo) N (fun _ => 0) i ≤ 99000000000000 := by
  have h1 := gv_le (N := N) (P := P) (c := (gc V F kd ht ft st sc ca pl (nmO nm a))) (py := (pyG N n F al kd ft pl fa te mo)) gc_le (fun en i => pyG_le hY) N (fun _ => 0) i
  have h2 : 10000 ^ N ≤ 10000 ^ 3 := Nat.pow_le_pow_right (by omega) hN
  omega
theorem x_scale (hN : N ≤ 3) : f_X3_scale (nI N) = some (lN (10000 ^ N)) := by
  refine rt_get ?_
  unfold f_X3_scale
  refine rl2 3 (fun k v1 v3 => v1 = lN (10000 ^ k) ∧ v3 = nI k ∧ k ≤ N) (by omega) ⟨rfl, rfl, by omega⟩ ?_
  rintro rc k v1 v3 ⟨rfl, rfl, hk⟩ ih
  unfold s_X3_scale_4
  by_cases hkN : N ≤ k
  · obtain rfl : N = k := by omega
    exact rt_t (nI_le (Nat.le_refl _) (by omega)) (rt_some rfl)
  · refine rt_f (nI_ge (by omega) (by omega)) (rt_lt (rt_lt (ih (by omega) _ _ ⟨?_, nI_1 _, by omega⟩)))
    rw [l_10000, lN_mul, Nat.pow_succ]
theorem x_won {i : Nat} (hi : i < N) (hN : N ≤ 3) {w : Nat → Int64} : f_X3_won (nI i) (nI N) w = some (w i) := by
  unfold f_X3_won
  rw [if_neg (nI_pos (by omega)), if_neg (nI_ge hi (by omega)), gx (by omega) (by omega), nI_clamp (by omega)]
theorem sc_b (hN : N ≤ 3) : 0 < 10000 ^ N ∧ 10000 ^ N ≤ 1000000000000 := by
  have h2 : 10000 ^ N ≤ 10000 ^ 3 := Nat.pow_le_pow_right (by omega) hN
  exact ⟨Nat.pow_pos (by omega), by omega⟩
theorem nmO_lt {i : Nat} (hnm : ∀ i, i < N → nm i < H) (hi : i < N) (ha : a < N) : nmO nm a i < H := by
  unfold nmO
  refine hnm _ ?_
  split
  · omega
  · split <;> omega
theorem m_go0 (hM : okM F H P kd ht ft st sc ca pl V mk mh mf ms mc ma mp mz ml) (hT : tN n fa te mn) (hY : okY mo mm) (ha : al ≤ 9999) (hP0 : 0 < P) (hN0 : 0 < N) (hN : N ≤ 3) (haN : a < N) {co : Nat → Int32} (hnm : ∀ i, i < N → nm i < H) (hco : ∀ k, k < N → co k = nI (nmO nm a k)) (q1 q2 q3 q4 q5 q6 q7 q8 q9 q10 : Int32) (pn ex : Nat → Int32) (wi : Nat → Int64) : Rt (f_X12_goGame 200 0 (nI F) (nI al) (nI P) q1 q2 q3 q4 q5 mz q6 q7 q8 q9 q10 (nI N) mn mk mh mf ms mc ma mp mm ml co pn ex wi) (fun r => r.2.2.2.2.2.2.2.2.2.2.1 0 = nI (fM (fun p => gt (gc V F kd ht ft st sc ca pl (nmO nm a)) 0 (gv N P (gc V F kd ht ft st sc ca pl (nmO nm a)) (pyG N n F al kd ft pl fa te mo) (N - 1)) (fun _ => 0) p 0) P) ∧ ∀ i, i < N → r.2.2.2.2.2.2.2.2.2.2.2.2 i = lN (gv N P (gc V F kd ht ft st sc ca pl (nmO nm a)) (pyG N n F al kd ft pl fa te mo) N (fun _ => 0) i)) := by
  have h := m_goGame (nm := nmO nm a) hM hT hY ha hP0 hN (fun k hk => ⟨nmO_lt hnm hk haN, hco k hk⟩) N 200 0 (by omega) (by omega) (fun _ => 0) q1 q2 q3 q4 q5 q6 q7 q8 q9 q10 pn ex wi (fun j hj => absurd hj (by omega))
  refine rt_mono h ?_
  rintro u ⟨_, q2, _, q6⟩
  refine ⟨?_, fun i hi => ?_⟩
  · refine (q6 rfl hN0).trans ?_
    rw [show N - 1 - (N - 1) = 0 by omega]
  · refine Eq.trans ?_ (q2 i hi)
    exact congrArg _ (by omega)
theorem pr_game (hX : okX F H P kd ht ft st sc ca pl V ck ch cf cd cp rz rk) (hM : okM F H P kd ht ft st sc ca pl V mk mh mf ms mc ma mp mz ml) (hT : tC n fa te tf tx) (hN : tN n fa te mn) (hY : okY mo tm) (hZ : okY mo mm) (ha : al ≤ 9999) (hR : rowE r nt mt) (hTx : okTx y tc ts sg mt' mx) (tl ta pp pz fp : Int32) (sk th nd a1 a2 a3 a4 a5 : Nat → Int32) (pw ptr : Nat → Int64) (q1 q2 q3 q4 q5 q6 q7 q8 q9 q10 tw cm : Int32) (co pn ex : Nat → Int32) (wi : Nat → Int64) : Rt (f_X11_game ts tl ta (nI r) (nI F) (nI H) (nI P) (nI al) rz (nI n) pp pz fp sg ck ch cf cd cp rk sk th tf tx tm nd a1 a2 a3 a4 a5 nt pw ptr) (fun a => Rt (f_X12_game (nI F) (nI al) (nI H) (nI P) mt' (nI r) tw q1 q2 q3 q4 q5 mz q6 q7 q8 q9 q10 cm mn mk mh mf ms mc ma mp mm mx ml co pn ex mt wi) (fun b => (a.1 = b.1 ∧ b.2.2.2.1 = 0 ∧ (a.2.1 = 0 ∧ b.2.1 = 0) ∧ ∃ r, a.2.2.2.2.1 = nI r ∧ b.2.2.1 = nI r ∧ rowE r a.2.2.2.2.2.2.2.2.2.2.2.2.2.2.2.2.1 b.2.2.2.2.2.2.2.2.2.2.2.2.2.2.2.2.2.2.1))) := by
  have hP := hX.2.2.2.1.1
  have hH := hX.2.2.1.1.1
  by_cases hP0 : P = 0
  · subst hP0
    unfold f_X11_game
    refine re6 (show f_X11_readPlayers 1 3 ts tl ta (nI H) (nI 0) pp sg nd = some (-100, 0, tl, ta, pp, nd) from rfl) (rt_f (by decide) (rt_some ?_))
    unfold f_X12_game
    exact re4 (show f_X12_readComing 1 3 (nI H) (nI 0) mt' cm mx co = some (-100, 0, cm, co) from rfl) (rt_f (by decide) (rt_some ⟨rfl, rfl, ⟨rfl, rfl⟩, r, rfl, rfl, hR⟩))
  · rcases rd_players hTx hH (show 0 < P by omega) hP (show 1 ≤ 1 by omega) (show 1 ≤ 3 by omega) (Nat.le_refl 3) tl ta pp cm nd co with ⟨v, hv, g1, g2⟩ | ⟨nm, h1, h2, h3, g1, g2⟩
    · unfold f_X11_game
      refine rb6 g1 ?_
      rintro x1 x2 x3 x4 x5 x6 ⟨rfl, rfl⟩
      refine rt_f (Int32.not_le.mpr hv) (rt_some ?_)
      unfold f_X12_game
      refine rb4 g2 ?_
      rintro y1 y2 y3 y4 ⟨rfl, rfl⟩
      exact rt_f (Int32.not_le.mpr hv) (rt_some ⟨rfl, rfl, ⟨rfl, rfl⟩, r, rfl, rfl, hR⟩)
    · have hs := sc_b h2
      have hbd : ∀ i, gv y P (gc V F kd ht ft st sc ca pl (nmO nm 0)) (pyG y n F al kd ft pl fa te mo) y (fun _ => 0) i ≤ 99000000000000 := fun i => gvN_le (a := 0) (nm := nm) hY h2
      unfold f_X11_game
      refine rb6 g1 ?_
      rintro x1 x2 x3 x4 x5 x6 ⟨rfl, rfl, rfl, hx6⟩
      refine rt_t (by decide) (rb4 (x_begin hX hT ha pz a1 a2 a3) ?_)
      rintro z1 z2 z3 z4 ⟨rfl, hG⟩
      refine rb7 (x_start' (N := y) (a := 0) (nm := nm) hX hG hY hT.1 (by omega) (by omega) h2 (by omega) (fun i hi => ⟨h3 i hi, hx6 i hi⟩) fp sk th a4 a5 pw ptr) ?_
      rintro w1 w2 w3 w4 w5 w6 w7 ⟨rfl, hw⟩
      refine re1 (x_start _) ?_
      refine rl3 3 (fun k v2 v1 v3 => v2 = nI k ∧ k ≤ y ∧ v1 = nI (0 + 2 * k) ∧ v3 = rwF 0 (gv y P (gc V F kd ht ft st sc ca pl (nmO nm 0)) (pyG y n F al kd ft pl fa te mo) y (fun _ => 0)) (10000 ^ y) k nt) (by omega) ⟨rfl, by omega, rfl, rfl⟩ ?_
      rintro rc k v2 v1 v3 ⟨rfl, hk, rfl, rfl⟩ ih
      unfold s_X11_game_53
      by_cases hky : y ≤ k
      · obtain rfl : y = k := by omega
        refine rt_t (nI_le (Nat.le_refl _) (by omega)) (rt_some ?_)
        clear ih rc
        unfold f_X12_game
        refine rb4 g2 ?_
        rintro y1 y2 y3 y4 ⟨rfl, rfl, rfl, hy4⟩
        have hco : ∀ k, k < y → y4 k = nI (nmO nm 0 k) := fun k hk => by
          rw [show y4 k = _ from hy4 k hk]
          unfold nmO
          by_cases e : k = 0
          · rw [if_pos e, e]
          · rw [if_neg e, if_neg (by omega)]
        refine rt_t (by decide) (rb13 (m_go0 (a := 0) hM hN hZ ha (by omega) (by omega) h2 (by omega) h3 hco _ _ _ _ _ _ _ _ _ _ pn ex wi) ?_)
        rintro w1 w2 w3 w4 w5 w6 w7 w8 w9 w10 pn2 ex2 wi2 ⟨hp2, hw2⟩
        refine rl3 3 (fun k v2 v1 v3 => v2 = nI k ∧ k ≤ y ∧ v1 = nI (0 + 2 * k) ∧ v3 = rwF 0 (gv y P (gc V F kd ht ft st sc ca pl (nmO nm 0)) (pyG y n F al kd ft pl fa te mo) y (fun _ => 0)) (10000 ^ y) k mt) (by omega) ⟨rfl, by omega, rfl, rfl⟩ ?_
        rintro rc k v2 v1 v3 ⟨rfl, hk, rfl, rfl⟩ ih
        unfold s_X12_game_30
        by_cases hky : y ≤ k
        · obtain rfl : y = k := by omega
          refine rt_t (nI_le (Nat.le_refl _) (by omega)) (rt_gd (by decide) (rt_some ⟨?_, rfl, ⟨rfl, rfl⟩, _, rfl, rfl, rowE_F rowE_0 y (by omega)⟩))
          exact hp2.symm
        · refine rt_f (nI_ge (by omega) (by omega)) (rt_gx (by omega) (by omega) (re1 (m_power (v := 10000) (by omega)) ?_))
          have hb := hbd k
          rw [nI_clamp (by omega), show wi2 k = _ from hw2 k (by omega)]
          exact re2 (m_partN (by omega) hs.1 (by omega) (by omega)) (rt_lt (ih (by omega) _ _ _ ⟨nI_1 _, by omega, rfl, rfl⟩))
      · have hb := hbd k
        refine rt_f (nI_ge (by omega) (by omega)) (re1 (x_won (by omega) h2) (re1 (x_scale h2) ?_))
        rw [show w6 k = _ from hw k (by omega)]
        exact re2 (x_fracN (by omega) hs.1 (by omega) (by omega)) (rt_lt (ih (by omega) _ _ _ ⟨nI_1 _, by omega, rfl, rfl⟩))
end
