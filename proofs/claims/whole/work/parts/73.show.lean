/-! show -/
theorem lay_aside (mn t0 : Nat → Int32) : Rt (f_X12_lay_m_now_m_aside 0 mn t0) (fun g => ∀ i, i < 49 → g i = mn i) := by
  unfold f_X12_lay_m_now_m_aside
  refine rl2 49 (fun k v3 g => v3 = nI k ∧ k ≤ 49 ∧ ∀ i, i < k → g i = mn i) (by omega) ⟨rfl, by omega, by omega⟩ ?_
  rintro rc k v3 g ⟨rfl, hk, hI⟩ ih
  unfold s_X12_lay_m_now_m_aside_2
  by_cases hkn : 49 ≤ k
  · obtain rfl : k = 49 := by omega
    exact rt_t (by decide) (rt_some hI)
  · refine rt_f (nI_ge (b := 49) (by omega) (by omega)) ?_
    simp (disch := omega) only [c_0, gx, nI_add, lt1_e, nI_1, nI_clamp, Nat.zero_add]
    refine ih (by omega) _ _ ⟨rfl, by omega, fun i hi => ?_⟩
    by_cases e : i = k
    · subst e; rw [upd_s]
    · rw [upd_n (by omega)]; exact hI i (by omega)
theorem puU_congr {c c' : Nat} {un mn mn' un' : Nat → Int32} (h : puU c un mn un' c') (e : ∀ i, i < 49 → mn i = mn' i) : puU c un mn' un' c' := by
  rcases h with ⟨a, b, g1, g2⟩ | ⟨a, b, g1, g2⟩
  · exact .inl ⟨a, b, g1, fun i hi => (g2 i hi).trans (e i hi)⟩
  · exact .inr ⟨a, b, g1, fun i hi => (g2 i hi).trans (e i hi)⟩
theorem runs_len {y l : Nat} {tc : Nat → Nat} {sg : Nat → Int32} : ∀ (L : List (Nat × Nat × Nat × Nat × Nat)) (a : Nat), runs y l tc sg a L → (∀ b, sn tc l b = 59 → b < l) → a + 2 * L.length ≤ l + 1
  | [], _, h, _ => absurd h (fun z => z)
  | x :: [], a, h, _ => by
    have h1 := h.2.2.1
    have h2 := h.2.2.2.1
    simp only [List.length_cons, List.length_nil]
    omega
  | x :: z :: r, a, h, hs => by
    obtain ⟨h1, a', h2, h3, h4⟩ := h
    have h5 := runs_len (z :: r) (a' + 1) h4 hs
    have h6 := h2.2.2.1
    have h7 := hs a' h3
    simp only [List.length_cons] at h5 ⊢
    omega
section
variable {F H P : Nat} {kd ht ft st sc ca pl : Nat → Nat} {V : Nat → Nat → Nat → Nat → Nat → Nat → Nat → Nat → Nat} {ck ch cf cd cp rk mk mh mf ms mc ma mp ml : Nat → Int32} {rz mz : Int32} {y l n d c al : Nat} {tc : Nat → Nat} {sg mx : Nat → Int32} {cz0 : Int32} {tr0 to0 tf0 tx0 mn0 hc hz un as' ac : Nat → Int32} {nt mt : Nat → Int64}
theorem swj {c' : Nat} {hc' hz' un' : Nat → Int32} (hH : okHi c' hc' hz' un') (nz lt at' : Int32) {v3 cz : Int32} (d1 d2 d3 d4 d5 k0 r0 h0 t0 f0 : Int32) (sk th : Nat → Int32) {tr to tf tx : Nat → Int32} (q1 q2 q3 q4 q5 q6 q7 q8 q9 q10 e1 e2 e3 e4 : Int32) {mn : Nat → Int32} (hd : (v3 = 0 ∧ d = n) ∨ (v3 = 1 ∧ d < n)) (hn : n ≤ 60) (hT : tX cz tr to tf tx mn) : Rt (j_X11_show_144 nz nt lt (nI d) v3 at' cz d1 d2 d3 d4 d5 k0 r0 h0 t0 f0 sk th tr to tf tx 0 (nI c') hc' hz') (fun a => Rt (j_X12_show_150 mt (nI n) ac as' (nI d) q1 q2 q3 q4 q5 q6 q7 q8 q9 q10 e1 e2 e3 e4 mn (nI c') un') (fun b => (a.1 = b.1 ∧ b.2.2.2.1 = 0 ∧ (a.2.1 = 0 ∧ b.2.1 = 0) ∧ (∃ r, a.2.2.2.2.1 = nI r ∧ b.2.2.1 = nI r ∧ rowE r a.2.2.2.2.2.2.2.2.2.2.2.2.2.2.2.2.2.2.2.2.2.2.2.2.2 b.2.2.2.2.2.2.2.2.2.2.2.2.2.2.2.2.2.2.2.2.2.2.2) ∧ (∃ c, a.2.2.2.2.2.2.1 = nI c ∧ b.2.2.2.2.2.2.2.2.2.2.2.2.2.2.1 = nI c ∧ okHi c a.2.2.2.2.2.2.2.2.2.2.2.2.2.2.2.2.2.2.2.2.2.2.2.1 a.2.2.2.2.2.2.2.2.2.2.2.2.2.2.2.2.2.2.2.2.2.2.2.2.1 b.2.2.2.2.2.2.2.2.2.2.2.2.2.2.2.2.2.2.2.2.1) ∧ tX a.2.2.2.2.2.1 a.2.2.2.2.2.2.2.2.2.2.2.2.2.2.2.2.2.2.2.1 a.2.2.2.2.2.2.2.2.2.2.2.2.2.2.2.2.2.2.2.2.1 a.2.2.2.2.2.2.2.2.2.2.2.2.2.2.2.2.2.2.2.2.2.1 a.2.2.2.2.2.2.2.2.2.2.2.2.2.2.2.2.2.2.2.2.2.2.1 b.2.2.2.2.2.2.2.2.2.2.2.2.2.2.2.2.2.2.2.1))) := by
  have h48 : mn 48 = cz := by
    obtain ⟨m, rd, hs, fa, te, a1, a2, a3, _⟩ := hT
    rw [a3, a2]
  unfold j_X11_show_144
  refine re1 (x_start _) ?_
  rcases hd with ⟨rfl, rfl⟩ | ⟨rfl, hd⟩
  · refine rt_t rfl (re2 (x_put0 _ _) (re2 (x_putk (by omega) _ _) (rt_some ?_)))
    unfold j_X12_show_150
    refine rt_t (nI_le (Nat.le_refl _) (by omega)) (re2 (m_tell0 _ _) (rt_gd (by decide) (re2 (m_tellk (by omega) _ _) (rt_some ⟨rfl, rfl, ⟨rfl, rfl⟩, ⟨2, rfl, rfl, ?_⟩, ⟨c', rfl, rfl, hH⟩, hT⟩))))
    rw [c_48, nI_clamp (by omega), h48]
    exact rowE_s _ (rowE_s _ rowE_0 (by omega)) (by omega)
  · refine rt_f i10n (re2 (x_put0 _ _) (re2 (x_putk (by omega) _ _) (rt_some ?_)))
    unfold j_X12_show_150
    refine rt_f (nI_ge hd (by omega)) (re2 (m_tell0 _ _) (rt_gd (by decide) (re2 (m_tellk (by omega) _ _) (rt_some ⟨rfl, rfl, ⟨rfl, rfl⟩, ⟨2, rfl, rfl, ?_⟩, ⟨c', rfl, rfl, hH⟩, hT⟩))))
    rw [c_48, nI_clamp (by omega), h48]
    exact rowE_s _ (rowE_s _ rowE_0 (by omega)) (by omega)
theorem swend (hH : okHi c hc hz un) (hT0 : tX cz0 tr0 to0 tf0 tx0 mn0) (has : ∀ i, i < 49 → as' i = mn0 i) (nz at' : Int32) {v3 cz : Int32} (d1 d2 d3 d4 d5 k0 r0 h0 t0 f0 : Int32) (sk th : Nat → Int32) {tr to tf tx : Nat → Int32} (q1 q2 q3 q4 q5 q6 q7 q8 q9 q10 e1 e2 e3 e4 : Int32) {mn : Nat → Int32} (hd : (v3 = 0 ∧ d = n) ∨ (v3 = 1 ∧ d < n)) (hn : n ≤ 60) (hT : tX cz tr to tf tx mn) : Rt (k_X11_show_52 (nI y) nz 13 (nI c) nt (st4 tr0 to0 tf0 tx0 hc c) (upd hz c cz0) (nI l) (nI d) v3 at' cz d1 d2 d3 d4 d5 k0 r0 h0 t0 f0 sk th tr to tf tx) (fun a => Rt (k_X12_show_117 (nI c) un mt (nI n) ac as' (nI d) q1 q2 q3 q4 q5 q6 q7 q8 q9 q10 e1 e2 e3 e4 mn) (fun b => (a.1 = b.1 ∧ b.2.2.2.1 = 0 ∧ (a.2.1 = 0 ∧ b.2.1 = 0) ∧ (∃ r, a.2.2.2.2.1 = nI r ∧ b.2.2.1 = nI r ∧ rowE r a.2.2.2.2.2.2.2.2.2.2.2.2.2.2.2.2.2.2.2.2.2.2.2.2.2 b.2.2.2.2.2.2.2.2.2.2.2.2.2.2.2.2.2.2.2.2.2.2.2) ∧ (∃ c, a.2.2.2.2.2.2.1 = nI c ∧ b.2.2.2.2.2.2.2.2.2.2.2.2.2.2.1 = nI c ∧ okHi c a.2.2.2.2.2.2.2.2.2.2.2.2.2.2.2.2.2.2.2.2.2.2.2.1 a.2.2.2.2.2.2.2.2.2.2.2.2.2.2.2.2.2.2.2.2.2.2.2.2.1 b.2.2.2.2.2.2.2.2.2.2.2.2.2.2.2.2.2.2.2.2.1) ∧ tX a.2.2.2.2.2.1 a.2.2.2.2.2.2.2.2.2.2.2.2.2.2.2.2.2.2.2.1 a.2.2.2.2.2.2.2.2.2.2.2.2.2.2.2.2.2.2.2.2.1 a.2.2.2.2.2.2.2.2.2.2.2.2.2.2.2.2.2.2.2.2.2.1 a.2.2.2.2.2.2.2.2.2.2.2.2.2.2.2.2.2.2.2.2.2.2.1 b.2.2.2.2.2.2.2.2.2.2.2.2.2.2.2.2.2.2.2.1))) := by
  unfold k_X11_show_52 k_X12_show_117
  refine re1 (show f_X9_clear (nI y) = some 0 from rfl) ?_
  by_cases z : d = 0
  · have hz0 : nI d ≤ 0 := by rw [z]; decide
    refine rt_t hz0 ?_
    rw [if_pos hz0]
    exact swj (okHi_mark hH) _ _ _ _ _ _ _ _ _ _ _ _ _ _ _ _ _ _ _ _ _ _ _ _ _ _ _ _ _ hd hn hT
  · have hz0 : ¬ nI d ≤ 0 := nI_ge (a := 0) (by omega) (by omega)
    obtain ⟨⟨u1, u2⟩, eu, c', e1', hu⟩ := m_remember2 (mn := as') (un := un) hH.1
    have e1'' : u1 = nI c' := e1'
    subst e1''
    refine rt_f hz0 (rb3 (hi_push hH hT0 (puU_congr hu has)) ?_)
    rintro c1 c2 c3 ⟨z1, hh2⟩
    have z1' : c1 = nI c' := z1
    subst z1'
    rw [if_neg hz0, bd2_t eu]
    exact swj hh2 _ _ _ _ _ _ _ _ _ _ _ _ _ _ _ _ _ _ _ _ _ _ _ _ _ _ _ _ _ hd hn hT
theorem swdo (h : okRd y 60 l tc sg mx) (hX : okX F H P kd ht ft st sc ca pl V ck ch cf cd cp rz rk) (hM : okM F H P kd ht ft st sc ca pl V mk mh mf ms mc ma mp mz ml) (ha : al ≤ 9999) (hH : okHi c hc hz un) (hT0 : tX cz0 tr0 to0 tf0 tx0 mn0) (has : ∀ i, i < 49 → as' i = mn0 i) (nz : Int32) (hn : n ≤ 59) : ∀ (L : List (Nat × Nat × Nat × Nat × Nat)) (i a f g : Nat) (cz d1 d2 d3 d4 d5 k0 r0 h0 t0 f0 : Int32) (sk th tr to tf tx : Nat → Int32) (q1 q2 q3 q4 q5 q6 q7 q8 q9 q10 e1 e2 e3 e4 : Int32) (mn : Nat → Int32), ((L = [] ∧ a = y) ∨ runs y l tc sg a L) → acL ac i L → i + L.length = n → L.length + 2 ≤ f → L.length + 1 ≤ g → tX cz tr to tf tx mn → Rt (ml21 (s_X11_show_52 (nI y) (nI F) (nI H) (nI P) (nI al) rz sg ck ch cf cd cp rk (nI l) (k_X11_show_52 (nI y) nz 13 (nI c) nt (st4 tr0 to0 tf0 tx0 hc c) (upd hz c cz0) (nI l))) f (nI i) 0 (nI i) (nI a) cz d1 d2 d3 d4 d5 k0 r0 h0 t0 f0 sk th tr to tf tx) (fun a => Rt (ml16 (s_X12_show_117 (nI F) (nI al) (nI H) (nI P) mz mk mh mf ms mc ma mp ml (nI n) ac (k_X12_show_117 (nI c) un mt (nI n) ac as')) g (nI i) q1 q2 q3 q4 q5 q6 q7 q8 q9 q10 e1 e2 e3 e4 mn) (fun b => (a.1 = b.1 ∧ b.2.2.2.1 = 0 ∧ (a.2.1 = 0 ∧ b.2.1 = 0) ∧ (∃ r, a.2.2.2.2.1 = nI r ∧ b.2.2.1 = nI r ∧ rowE r a.2.2.2.2.2.2.2.2.2.2.2.2.2.2.2.2.2.2.2.2.2.2.2.2.2 b.2.2.2.2.2.2.2.2.2.2.2.2.2.2.2.2.2.2.2.2.2.2.2) ∧ (∃ c, a.2.2.2.2.2.2.1 = nI c ∧ b.2.2.2.2.2.2.2.2.2.2.2.2.2.2.1 = nI c ∧ okHi c a.2.2.2.2.2.2.2.2.2.2.2.2.2.2.2.2.2.2.2.2.2.2.2.1 a.2.2.2.2.2.2.2.2.2.2.2.2.2.2.2.2.2.2.2.2.2.2.2.2.1 b.2.2.2.2.2.2.2.2.2.2.2.2.2.2.2.2.2.2.2.2.1) ∧ tX a.2.2.2.2.2.1 a.2.2.2.2.2.2.2.2.2.2.2.2.2.2.2.2.2.2.2.1 a.2.2.2.2.2.2.2.2.2.2.2.2.2.2.2.2.2.2.2.2.1 a.2.2.2.2.2.2.2.2.2.2.2.2.2.2.2.2.2.2.2.2.2.1 a.2.2.2.2.2.2.2.2.2.2.2.2.2.2.2.2.2.2.2.2.2.2.1 b.2.2.2.2.2.2.2.2.2.2.2.2.2.2.2.2.2.2.2.1))) := by
  have hl := rd_l h
  have hy := h.1
  intro L
  induction L with
  | nil =>
    intro i a f g cz d1 d2 d3 d4 d5 k0 r0 h0 t0 f0 sk th tr to tf tx q1 q2 q3 q4 q5 q6 q7 q8 q9 q10 e1 e2 e3 e4 mn hL hac hi hf hg hT
    obtain rfl : y = a := by
      rcases hL with ⟨_, z⟩ | z
      · exact z.symm
      · exact absurd z (fun w => w)
    have h60 : ¬ (60 : Int32) ≤ nI i := nI_ge (b := 60) (by simp only [List.length_nil] at hi; omega) (by omega)
    have hi' : i = n := hi
    obtain ⟨f, rfl⟩ : ∃ x, f = x + 1 := ⟨f - 1, by omega⟩
    obtain ⟨g, rfl⟩ : ∃ x, g = x + 1 := ⟨g - 1, by omega⟩
    refine rt_eq (y := k_X11_show_52 (nI y) nz 13 (nI c) nt (st4 tr0 to0 tf0 tx0 hc c) (upd hz c cz0) (nI l) (nI i) 0 (nI y) cz d1 d2 d3 d4 d5 k0 r0 h0 t0 f0 sk th tr to tf tx) ?_ ?_
    · show s_X11_show_52 _ _ _ _ _ _ _ _ _ _ _ _ _ _ _ _ _ _ _ _ _ _ _ _ _ _ _ _ _ _ _ _ _ _ _ _ _ = _
      unfold s_X11_show_52
      rw [if_neg h60, if_pos rfl, bd1_t (x_done h.1 (by omega)), if_pos rfl, if_neg i10n]
    · refine rt_mono (swend hH hT0 has nz (nI y) d1 d2 d3 d4 d5 k0 r0 h0 t0 f0 sk th q1 q2 q3 q4 q5 q6 q7 q8 q9 q10 e1 e2 e3 e4 (n := n) (ac := ac) (mt := mt) (.inl ⟨rfl, hi'⟩) (by omega) hT) (fun x hx => rt_eq ?_ hx)
      show s_X12_show_117 _ _ _ _ _ _ _ _ _ _ _ _ _ _ _ _ _ _ _ _ _ _ _ _ _ _ _ _ _ _ _ _ _ = _
      unfold s_X12_show_117
      rw [if_pos (nI_le (by omega) (by omega))]
  | cons x L ih =>
    intro i a f g cz d1 d2 d3 d4 d5 k0 r0 h0 t0 f0 sk th tr to tf tx q1 q2 q3 q4 q5 q6 q7 q8 q9 q10 e1 e2 e3 e4 mn hL hac hi hf hg hT
    simp only [List.length_cons] at hi hf hg
    obtain ⟨f, rfl⟩ : ∃ x, f = x + 1 + 1 := ⟨f - 2, by omega⟩
    obtain ⟨g, rfl⟩ : ∃ x, g = x + 1 := ⟨g - 1, by omega⟩
    have h60 : ¬ (60 : Int32) ≤ nI i := nI_ge (b := 60) (by omega) (by omega)
    have h61 : ¬ (60 : Int32) ≤ nI (i + 1) := nI_ge (b := 60) (by omega) (by omega)
    have hrun : a < y ∧ ∃ a' b r0, rdA y l a sg a' x.1 x.2.1 x.2.2.1 x.2.2.2.1 x.2.2.2.2 ∧ f_X9_take 59 (nI l) (nI a') sg = some (r0, nI b) ∧ ((L = [] ∧ b = y) ∨ runs y l tc sg b L) := by
      rcases hL with ⟨z, _⟩ | hL
      · exact absurd z (by simp)
      · match L, hL with
        | [], hL => exact ⟨hL.1, y, y, 0, hL.2, x_takeF (c := 59) h (by omega) (by omega) (by unfold sn; rw [if_neg (by omega)]; omega), .inl ⟨rfl, rfl⟩⟩
        | z :: r, hL =>
          obtain ⟨h1, a', h2, h3, h4⟩ := hL
          exact ⟨h1, a', a' + 1, 1, h2, x_takeT (c := 59) h (by omega) h3, .inr h4⟩
    obtain ⟨hay, a', b, r1, ⟨hB, h2, h3, h4⟩, htk, hnext⟩ := hrun
    obtain ⟨⟨s1, s2, s3, s4, s5, s6, s7⟩, es, es1, es2, hA⟩ := h4 k0 r0 h0 t0 f0
    have es1' : s1 = 1 := es1
    have es2' : s2 = nI a' := es2
    subst es1' es2'
    obtain ⟨⟨w1, w2, w3, w4, w5, w6, w7, w8, w9, w10, w11, w12, w13⟩, ew, ⟨v1, v2, v3, v4, v5, v6, v7, v8, v9, v10, v11, v12, v13, v14, v15, v16⟩, ev, hwv, h01, hT'⟩ := pf_act hX hM hT ha (i := i) (by omega) hB hA hac.1 d1 d2 d3 d4 d5 sk th q1 q2 q3 q4 q5 q6 q7 q8 q9 q10 e1 e2 e3 e4
    have hwv' : w1 = v1 := hwv
    subst hwv'
    have hm : ∀ Q : _ → Prop, Rt (if w1 = 0 then k_X12_show_117 (nI c) un mt (nI n) ac as' (nI i) v2 v3 v4 v5 v6 v7 v8 v9 v10 v11 v12 v13 v14 v15 v16 else ml16 (s_X12_show_117 (nI F) (nI al) (nI H) (nI P) mz mk mh mf ms mc ma mp ml (nI n) ac (k_X12_show_117 (nI c) un mt (nI n) ac as')) g (nI (i + 1)) v2 v3 v4 v5 v6 v7 v8 v9 v10 v11 v12 v13 v14 v15 v16) Q → Rt (ml16 (s_X12_show_117 (nI F) (nI al) (nI H) (nI P) mz mk mh mf ms mc ma mp ml (nI n) ac (k_X12_show_117 (nI c) un mt (nI n) ac as')) (g + 1) (nI i) q1 q2 q3 q4 q5 q6 q7 q8 q9 q10 e1 e2 e3 e4 mn) Q := by
      intro Q hQ
      refine rt_eq ?_ hQ
      show s_X12_show_117 _ _ _ _ _ _ _ _ _ _ _ _ _ _ _ _ _ _ _ _ _ _ _ _ _ _ _ _ _ _ _ _ _ = _
      unfold s_X12_show_117
      rw [if_neg (nI_ge (by omega) (by omega)), c_5, pk_mul, bd16_t ev, nI_1]
      rfl
    have hx : ∀ (KK : _), s_X11_show_52 (nI y) (nI F) (nI H) (nI P) (nI al) rz sg ck ch cf cd cp rk (nI l) (k_X11_show_52 (nI y) nz 13 (nI c) nt (st4 tr0 to0 tf0 tx0 hc c) (upd hz c cz0) (nI l)) KK (nI i) 0 (nI i) (nI a) cz d1 d2 d3 d4 d5 k0 r0 h0 t0 f0 sk th tr to tf tx = if w1 = 0 then KK (nI i + 0) 1 (nI (i + 1)) (nI b) w2 w3 w4 w5 w6 w7 s3 s4 s5 s6 s7 w8 w9 w10 w11 w12 w13 else KK (nI (i + 1)) 0 (nI (i + 1)) (nI b) w2 w3 w4 w5 w6 w7 s3 s4 s5 s6 s7 w8 w9 w10 w11 w12 w13 := by
      intro KK
      unfold s_X11_show_52
      rw [if_neg h60, if_pos rfl, bd1_t (x_done h.1 (by omega)), if_neg (show ¬ a = y by omega), if_pos rfl, bd7_t es, bd2_t htk, bd13_t ew, nI_1]
      rfl
    refine rt_eq (hx _) ?_
    rcases h01 with z | z
    · have z' : w1 = 0 := z
      subst z'
      refine rt_t rfl ?_
      refine rt_eq (y := k_X11_show_52 (nI y) nz 13 (nI c) nt (st4 tr0 to0 tf0 tx0 hc c) (upd hz c cz0) (nI l) (nI i) 1 (nI b) w2 w3 w4 w5 w6 w7 s3 s4 s5 s6 s7 w8 w9 w10 w11 w12 w13) ?_ ?_
      · rw [c_0, nI_add]
        show s_X11_show_52 _ _ _ _ _ _ _ _ _ _ _ _ _ _ _ _ _ _ _ _ _ _ _ _ _ _ _ _ _ _ _ _ _ _ _ _ _ = _
        unfold s_X11_show_52
        rw [if_neg h61, if_neg i10n, Nat.add_zero]
      · refine rt_mono (swend hH hT0 has nz (nI b) w3 w4 w5 w6 w7 s3 s4 s5 s6 s7 w8 w9 v2 v3 v4 v5 v6 v7 v8 v9 v10 v11 v12 v13 v14 v15 (n := n) (ac := ac) (mt := mt) (.inr ⟨rfl, by omega⟩) (by omega) hT') (fun x hx => hm _ (rt_t rfl hx))
    · have z' : w1 = 1 := z
      subst z'
      refine rt_f i10n (rt_mono (ih (i + 1) b (f + 1) g w2 w3 w4 w5 w6 w7 s3 s4 s5 s6 s7 w8 w9 w10 w11 w12 w13 v2 v3 v4 v5 v6 v7 v8 v9 v10 v11 v12 v13 v14 v15 v16 hnext hac.2 (by omega) (by omega) (by omega) hT') (fun x hx => hm _ (rt_f i10n hx)))
end
