/-! show, the pair -/
section
variable {F H P : Nat} {kd ht ft st sc ca pl : Nat → Nat} {V : Nat → Nat → Nat → Nat → Nat → Nat → Nat → Nat → Nat} {ck ch cf cd cp rk mk mh mf ms mc ma mp ml : Nat → Int32} {rz mz : Int32} {y l c al r : Nat} {tc : Nat → Nat} {sg mx : Nat → Int32} {cz tw : Int32} {tr to tf tx mn hc hz un : Nat → Int32} {nt mt : Nat → Int64}
theorem swall (h : okRd y 60 l tc sg mx) (hX : okX F H P kd ht ft st sc ca pl V ck ch cf cd cp rz rk) (hM : okM F H P kd ht ft st sc ca pl V mk mh mf ms mc ma mp mz ml) (ha : al ≤ 9999) (hH : okHi c hc hz un) (hT : tX cz tr to tf tx mn) (nz nm : Int32) {L : List (Nat × Nat × Nat × Nat × Nat)} (hL : (L = [] ∧ 0 = y) ∨ runs y l tc sg 0 L) {ac' : Nat → Int32} (hac : acL ac' 0 L) (hlen : L.length ≤ 59) (as' : Nat → Int32) (d1 d2 d3 d4 d5 k0 r0 h0 t0 f0 : Int32) (sk th : Nat → Int32) (q1 q2 q3 q4 q5 q6 q7 q8 q9 q10 e1 e2 e3 e4 : Int32) : Rt (ml21 (s_X11_show_52 (nI y) (nI F) (nI H) (nI P) (nI al) rz sg ck ch cf cd cp rk (nI l) (k_X11_show_52 (nI y) nz 13 (nI c) nt (st4 tr to tf tx hc c) (upd hz c cz) (nI l))) zN 0 0 0 0 cz d1 d2 d3 d4 d5 k0 r0 h0 t0 f0 sk th tr to tf tx) (fun a => Rt (k_X12_show_39 (nI F) (nI al) (nI H) (nI P) nm mz q6 q7 q8 q9 q10 (nI c) e1 e2 e3 e4 mn mk mh mf ms mc ma mp ml un as' mt (nI y) 60 (nI (0 + L.length)) (nI y) (-1) ac') (fun b => (a.1 = b.1 ∧ b.2.2.2.1 = 0 ∧ (a.2.1 = 0 ∧ b.2.1 = 0) ∧ (∃ r, a.2.2.2.2.1 = nI r ∧ b.2.2.1 = nI r ∧ rowE r a.2.2.2.2.2.2.2.2.2.2.2.2.2.2.2.2.2.2.2.2.2.2.2.2.2 b.2.2.2.2.2.2.2.2.2.2.2.2.2.2.2.2.2.2.2.2.2.2.2) ∧ (∃ c, a.2.2.2.2.2.2.1 = nI c ∧ b.2.2.2.2.2.2.2.2.2.2.2.2.2.2.1 = nI c ∧ okHi c a.2.2.2.2.2.2.2.2.2.2.2.2.2.2.2.2.2.2.2.2.2.2.2.1 a.2.2.2.2.2.2.2.2.2.2.2.2.2.2.2.2.2.2.2.2.2.2.2.2.1 b.2.2.2.2.2.2.2.2.2.2.2.2.2.2.2.2.2.2.2.2.1) ∧ tX a.2.2.2.2.2.1 a.2.2.2.2.2.2.2.2.2.2.2.2.2.2.2.2.2.2.2.1 a.2.2.2.2.2.2.2.2.2.2.2.2.2.2.2.2.2.2.2.2.1 a.2.2.2.2.2.2.2.2.2.2.2.2.2.2.2.2.2.2.2.2.2.1 a.2.2.2.2.2.2.2.2.2.2.2.2.2.2.2.2.2.2.2.2.2.2.1 b.2.2.2.2.2.2.2.2.2.2.2.2.2.2.2.2.2.2.2.1))) := by
  obtain ⟨as2, eas, has⟩ := lay_aside mn as'
  refine rt_mono (swdo h hX hM ha hH hT has nz hlen L 0 0 zN zN cz d1 d2 d3 d4 d5 k0 r0 h0 t0 f0 sk th tr to tf tx (nI 64) (nI y) 60 (nI y) (-1) q6 q7 q8 q9 q10 e1 e2 e3 e4 mn (mt := mt) (ac := ac') hL hac (by omega) (by show L.length + 2 ≤ 100000; omega) (by show L.length + 1 ≤ 100000; omega) hT) (fun x hx => ?_)
  unfold k_X12_show_39
  refine rt_t (nI_le (Nat.le_refl _) (by have := h.1; omega)) ?_
  unfold j_X12_show_89
  refine re1 m_fine_t (rt_f i10n (re1 eas ?_))
  rw [Nat.zero_add]
  exact hx
theorem m_showF (hy : y ≤ 80) {q : Nat} (hq : q ≤ 80) (nm : Int32) (as' ac' : Nat → Int32) (n' : Int32) {at' w : Int32} (hw : w = nI q ∨ (w = -1 ∧ at' = nI q ∧ q < y)) (q1 q2 q3 q4 q5 q6 q7 q8 q9 q10 e1 e2 e3 e4 : Int32) : Rt (k_X12_show_39 (nI F) (nI al) (nI H) (nI P) nm mz q6 q7 q8 q9 q10 (nI c) e1 e2 e3 e4 mn mk mh mf ms mc ma mp ml un as' mt (nI y) 60 n' at' w ac') (fun b => b.1 = -1 - nI q ∧ b.2.2.2.1 = 0 ∧ b.2.1 = 0 ∧ b.2.2.1 = nm ∧ b.2.2.2.2.2.2.2.2.2.2.2.2.2.2.2.2.2.2.2.2.2.2.2 = mt ∧ b.2.2.2.2.2.2.2.2.2.2.2.2.2.2.1 = nI c ∧ b.2.2.2.2.2.2.2.2.2.2.2.2.2.2.2.2.2.2.2.2.1 = un ∧ b.2.2.2.2.2.2.2.2.2.2.2.2.2.2.2.2.2.2.2.1 = mn) := by
  unfold k_X12_show_39
  have hj : ∀ w', w' = nI q → Rt (j_X12_show_89 (nI F) (nI al) (nI H) (nI P) nm mz q6 q7 q8 q9 q10 (nI c) e1 e2 e3 e4 mn mk mh mf ms mc ma mp ml un as' mt (nI y) 60 n' at' ac' w') (fun b => b.1 = -1 - nI q ∧ b.2.2.2.1 = 0 ∧ b.2.1 = 0 ∧ b.2.2.1 = nm ∧ b.2.2.2.2.2.2.2.2.2.2.2.2.2.2.2.2.2.2.2.2.2.2.2 = mt ∧ b.2.2.2.2.2.2.2.2.2.2.2.2.2.2.1 = nI c ∧ b.2.2.2.2.2.2.2.2.2.2.2.2.2.2.2.2.2.2.2.2.1 = un ∧ b.2.2.2.2.2.2.2.2.2.2.2.2.2.2.2.2.2.2.2.1 = mn) := by
    rintro w' rfl
    unfold j_X12_show_89
    exact re1 (m_fine_f (m1_ne (by omega))) (rt_t rfl (rt_some ⟨rfl, rfl, rfl, rfl, rfl, rfl, rfl, rfl⟩))
  rcases hw with rfl | ⟨rfl, rfl, hqy⟩
  · refine rt_if (fun _ => hj _ rfl) (fun _ => re1 (m_fault_f _ (m1_ne (by omega))) (hj _ rfl))
  · exact rt_f (nI_ge hqy (by omega)) (re1 (m_fault_t _) (hj _ rfl))
theorem pr_show {ts mty : Int32} (hTx : okTx y tc ts sg mty mx) (hX : okX F H P kd ht ft st sc ca pl V ck ch cf cd cp rz rk) (hM : okM F H P kd ht ft st sc ca pl V mk mh mf ms mc ma mp mz ml) (ha : al ≤ 9999) (hH : okHi c hc hz un) (hT : tX cz tr to tf tx mn) (hR : rowE r nt mt) (tl ta : Int32) (d1 d2 d3 d4 d5 k0 r0 h0 t0 f0 : Int32) (sk th : Nat → Int32) (q1 q2 q3 q4 q5 q6 q7 q8 q9 q10 e1 e2 e3 e4 : Int32) (as' ac : Nat → Int32) : Rt (f_X11_show ts tl ta (nI r) (nI F) (nI H) (nI P) (nI al) rz cz 13 (nI c) d1 d2 d3 d4 d5 k0 r0 h0 t0 f0 sg ck ch cf cd cp rk sk th tr to tf tx hc hz nt) (fun a => Rt (f_X12_show (nI F) (nI al) (nI H) (nI P) mty (nI r) tw q1 q2 q3 q4 q5 mz q6 q7 q8 q9 q10 (nI c) e1 e2 e3 e4 mn mk mh mf ms mc ma mp mx ml un as' ac mt) (fun b => (a.1 = b.1 ∧ b.2.2.2.1 = 0 ∧ (a.2.1 = 0 ∧ b.2.1 = 0) ∧ (∃ r, a.2.2.2.2.1 = nI r ∧ b.2.2.1 = nI r ∧ rowE r a.2.2.2.2.2.2.2.2.2.2.2.2.2.2.2.2.2.2.2.2.2.2.2.2.2 b.2.2.2.2.2.2.2.2.2.2.2.2.2.2.2.2.2.2.2.2.2.2.2) ∧ (∃ c, a.2.2.2.2.2.2.1 = nI c ∧ b.2.2.2.2.2.2.2.2.2.2.2.2.2.2.1 = nI c ∧ okHi c a.2.2.2.2.2.2.2.2.2.2.2.2.2.2.2.2.2.2.2.2.2.2.2.1 a.2.2.2.2.2.2.2.2.2.2.2.2.2.2.2.2.2.2.2.2.2.2.2.2.1 b.2.2.2.2.2.2.2.2.2.2.2.2.2.2.2.2.2.2.2.2.1) ∧ tX a.2.2.2.2.2.1 a.2.2.2.2.2.2.2.2.2.2.2.2.2.2.2.2.2.2.2.1 a.2.2.2.2.2.2.2.2.2.2.2.2.2.2.2.2.2.2.2.2.1 a.2.2.2.2.2.2.2.2.2.2.2.2.2.2.2.2.2.2.2.2.2.1 a.2.2.2.2.2.2.2.2.2.2.2.2.2.2.2.2.2.2.2.2.2.2.1 b.2.2.2.2.2.2.2.2.2.2.2.2.2.2.2.2.2.2.2.1))) := by
  have h := okTx_R (T := 60) hTx (by omega)
  obtain ⟨hy, rfl, rfl, hk⟩ := hTx
  have hl := rd_l h
  have hop : f_X9_open 60 (nI y) tl ta = some (nI (min y 60), 0) := x_open (k := 60) (by omega) hy tl ta
  have hgo : ∀ (tl ta : Int32) (d1 d2 d3 d4 d5 k0 r0 h0 t0 f0 : Int32) (sk th : Nat → Int32) (L : List (Nat × Nat × Nat × Nat × Nat)) (ac' : Nat → Int32), (L = [] ∧ 0 = y) ∨ runs y (min y 60) tc sg 0 L → acL ac' 0 L → Rt (bd2 (f_X8_mark_history cz 13 (nI c) tr to tf tx hc hz) (fun hc1 hz1 => bd2 (f_X9_open 60 (nI y) tl ta) (fun tl2 ta2 => ml21 (s_X11_show_52 (nI y) (nI F) (nI H) (nI P) (nI al) rz sg ck ch cf cd cp rk tl2 (k_X11_show_52 (nI y) (nI r) 13 (nI c) nt hc1 hz1 tl2)) zN 0 0 0 ta2 cz d1 d2 d3 d4 d5 k0 r0 h0 t0 f0 sk th tr to tf tx))) (fun a => Rt (k_X12_show_39 (nI F) (nI al) (nI H) (nI P) (nI r) mz q6 q7 q8 q9 q10 (nI c) e1 e2 e3 e4 mn mk mh mf ms mc ma mp ml un as' mt (nI y) 60 (nI (0 + L.length)) (nI y) (-1) ac') (fun b => (a.1 = b.1 ∧ b.2.2.2.1 = 0 ∧ (a.2.1 = 0 ∧ b.2.1 = 0) ∧ (∃ r, a.2.2.2.2.1 = nI r ∧ b.2.2.1 = nI r ∧ rowE r a.2.2.2.2.2.2.2.2.2.2.2.2.2.2.2.2.2.2.2.2.2.2.2.2.2 b.2.2.2.2.2.2.2.2.2.2.2.2.2.2.2.2.2.2.2.2.2.2.2) ∧ (∃ c, a.2.2.2.2.2.2.1 = nI c ∧ b.2.2.2.2.2.2.2.2.2.2.2.2.2.2.1 = nI c ∧ okHi c a.2.2.2.2.2.2.2.2.2.2.2.2.2.2.2.2.2.2.2.2.2.2.2.1 a.2.2.2.2.2.2.2.2.2.2.2.2.2.2.2.2.2.2.2.2.2.2.2.2.1 b.2.2.2.2.2.2.2.2.2.2.2.2.2.2.2.2.2.2.2.2.1) ∧ tX a.2.2.2.2.2.1 a.2.2.2.2.2.2.2.2.2.2.2.2.2.2.2.2.2.2.2.1 a.2.2.2.2.2.2.2.2.2.2.2.2.2.2.2.2.2.2.2.2.1 a.2.2.2.2.2.2.2.2.2.2.2.2.2.2.2.2.2.2.2.2.2.1 a.2.2.2.2.2.2.2.2.2.2.2.2.2.2.2.2.2.2.2.2.2.2.1 b.2.2.2.2.2.2.2.2.2.2.2.2.2.2.2.2.2.2.2.1))) := by
    intro tl ta d1 d2 d3 d4 d5 k0 r0 h0 t0 f0 sk th L ac' hL hac
    have hlen : L.length ≤ 59 := by
      rcases hL with ⟨z, _⟩ | z
      · rw [z]; decide
      · have := runs_len L 0 z (fun b hb => (sn_lt h (by omega) hb).1)
        omega
    refine re2 (x_mark hH.1) (re2 (x_open (k := 60) (by omega) hy tl ta) ?_)
    exact swall h hX hM ha hH hT (nI r) (nI r) hL hac hlen as' d1 d2 d3 d4 d5 k0 r0 h0 t0 f0 sk th q1 q2 q3 q4 q5 q6 q7 q8 q9 q10 e1 e2 e3 e4
  unfold f_X11_show
  by_cases y0 : y = 0
  · have ec : f_X0_check (nI y) tl ta k0 r0 h0 t0 f0 sg = some (0, nI (min y 60), 0, k0, r0, h0, t0, f0) := by
      unfold f_X0_check
      rw [bd2_t hop, y0]
      rfl
    refine re8 ec (rt_t (by decide) ?_)
    refine rt_mono (hgo _ _ d1 d2 d3 d4 d5 k0 r0 h0 t0 f0 sk th [] ac (.inl ⟨rfl, y0.symm⟩) trivial) (fun x hx => ?_)
    unfold f_X12_show
    refine re4 (show f_X12_begin_m_text (nI y) 60 q1 q2 q3 q4 q5 = some (nI y, 60, 0, -1) from rfl) (rt_t (by rw [y0]; decide) ?_)
    unfold j_X12_show_38
    refine rl5 0 (fun k x1 x2 x3 x4 x5 => x1 = 0 ∧ x2 = 0 ∧ x3 = 0 ∧ x4 = -1 ∧ x5 = ac) (by omega) ⟨rfl, rfl, rfl, rfl, rfl⟩ ?_
    rintro rc k x1 x2 x3 x4 x5 ⟨rfl, rfl, rfl, rfl, rfl⟩ _
    unfold s_X12_show_39
    refine rt_t rfl ?_
    rw [y0] at hx ⊢
    exact hx
  · have ndone : f_X9_isDone (nI y) 0 = some 0 := (x_done (a := 0) hy (by omega)).trans (by rw [if_neg (fun z => y0 z.symm)])
    have ec : f_X0_check (nI y) tl ta k0 r0 h0 t0 f0 sg = ml7 (s_X0_check_17 (nI y) sg (nI (min y 60)) (k_X0_check_17 (nI (min y 60)))) zN (nI 0) (nI 0) k0 r0 h0 t0 f0 := by
      unfold f_X0_check
      rw [bd2_t hop, bd1_t ndone, if_pos rfl]
      rfl
    have em : ∀ Q : _ → Prop, Rt (ml5 (s_X12_show_39 mx (nI y) 60 (k_X12_show_39 (nI F) (nI al) (nI H) (nI P) (nI r) mz q6 q7 q8 q9 q10 (nI c) e1 e2 e3 e4 mn mk mh mf ms mc ma mp ml un as' mt (nI y) 60)) zN (nI 0) 1 (nI 0) (-1) ac) Q → Rt (f_X12_show (nI F) (nI al) (nI H) (nI P) (nI y) (nI r) tw q1 q2 q3 q4 q5 mz q6 q7 q8 q9 q10 (nI c) e1 e2 e3 e4 mn mk mh mf ms mc ma mp mx ml un as' ac mt) Q := by
      intro Q hQ
      unfold f_X12_show
      refine re4 (show f_X12_begin_m_text (nI y) 60 q1 q2 q3 q4 q5 = some (nI y, 60, 0, -1) from rfl) (rt_f (nI_ge (a := 0) (by omega) (by omega)) ?_)
      unfold j_X12_show_38
      exact hQ
    rcases prs h (k_X12_show_39 (nI F) (nI al) (nI H) (nI P) (nI r) mz q6 q7 q8 q9 q10 (nI c) e1 e2 e3 e4 mn mk mh mf ms mc ma mp ml un as' mt (nI y) 60) 60 0 0 (by omega) (by omega) (by omega) with ⟨q, hq, g1, g2⟩ | ⟨L, hL, g1, g2⟩
    · rw [ec]
      refine rb8 (g1 zN k0 r0 h0 t0 f0 (by show 62 ≤ 100000; omega)) ?_
      intro s1 s2 s3 s4 s5 s6 s7 s8 e1'
      have e1'' : s1 = -1 - nI q := e1'
      subst e1''
      refine rt_f (Int32.not_le.mpr (mf_neg (by omega))) (re1 (show f_X9_clear (nI y) = some 0 from rfl) (rt_some (em _ ?_)))
      obtain ⟨n', at', w, ac', j1, j2⟩ := g2 zN ac (by show 63 ≤ 100000; omega)
      rw [j1]
      refine rt_mono (m_showF hy hq (nI r) as' ac' n' j2 q1 q2 q3 q4 q5 q6 q7 q8 q9 q10 e1 e2 e3 e4) ?_
      rintro b ⟨b1, b2, b3, b4, b5, b6, b7, b8⟩
      refine ⟨b1.symm, b2, ⟨rfl, b3⟩, ⟨r, rfl, b4, ?_⟩, ⟨c, rfl, b6, ?_⟩, ?_⟩
      · rw [b5]; exact hR
      · rw [b7]; exact hH
      · rw [b8]; exact hT
    · rw [ec]
      refine rb8 (g1 zN k0 r0 h0 t0 f0 (by show 62 ≤ 100000; omega)) ?_
      intro s1 s2 s3 s4 s5 s6 s7 s8 e1'
      have e1'' : s1 = 0 := e1'
      subst e1''
      obtain ⟨ac', j1, _, j3⟩ := g2 zN ac (by show 63 ≤ 100000; omega)
      refine rt_t (by decide) (rt_mono (hgo s2 s3 d1 d2 d3 d4 d5 s4 s5 s6 s7 s8 sk th L ac' (.inr hL) j3) (fun x hx => em _ ?_))
      rw [j1]
      exact hx
end
