/-! one act, both sides -/
def acC (i : Nat) (ac g : Nat → Int32) (k r h t f : Nat) : Prop := (∀ j, j < 5 * i → g j = ac j) ∧ okAct k r h t f (g (5 * i)) (g (5 * i + 1)) (g (5 * i + 2)) (g (5 * i + 3)) (g (5 * i + 4))
theorem acC_5 {i k r h t f : Nat} {ac : Nat → Int32} : acC i ac (upd (upd (upd (upd (upd ac (5 * i) (nI k)) (5 * i + 1) (nI r)) (5 * i + 2) (nI h)) (5 * i + 3) (nI t)) (5 * i + 4) (nI f)) k r h t f := by
  refine ⟨fun j hj => ?_, ?_, fun _ => ⟨?_, ?_, ?_, ?_⟩⟩
  · rw [upd_n (by omega), upd_n (by omega), upd_n (by omega), upd_n (by omega), upd_n (by omega)]
  · rw [upd_n (by omega), upd_n (by omega), upd_n (by omega), upd_n (by omega), upd_s]
  · rw [upd_n (by omega), upd_n (by omega), upd_n (by omega), upd_s]
  · rw [upd_n (by omega), upd_n (by omega), upd_s]
  · rw [upd_n (by omega), upd_s]
  · rw [upd_s]
section
variable {y l a : Nat} {tc : Nat → Nat} {sg mx : Nat → Int32}
theorem m_numT (h : okRd y 60 l tc sg mx) (ha : a < 900) {k : Nat} (hk1 : 1 ≤ k) (hk : k ≤ 4) (d : ¬ nd tc l k a = 0) : f_X12_number_t (nI k) (nI y) 60 (nI a) (-1) mx = some (nI (nv tc a (nd tc l k a)), nI (a + nd tc l k a), -1) := by
  have := m_num (T := 60) h ha hk1 hk
  rw [if_neg d] at this
  exact this
theorem m_numF (h : okRd y 60 l tc sg mx) (ha : a < 900) {k : Nat} (hk1 : 1 ≤ k) (hk : k ≤ 4) (d : nd tc l k a = 0) : f_X12_number_t (nI k) (nI y) 60 (nI a) (-1) mx = some (0, nI a, nI a) := by
  have := m_num (T := 60) h ha hk1 hk
  rw [if_pos d] at this
  exact this
theorem rd_act (h : okRd y 60 l tc sg mx) (ha : a ≤ l) : (∃ q, q ≤ 80 ∧ (∀ k0 r0 h0 t0 f0, Rt (f_X0_read (nI l) (nI a) k0 r0 h0 t0 f0 sg) (fun s => s.1 = 0 ∧ s.2.1 = nI q)) ∧ ∀ i ac, i < 60 → Rt (f_X12_readAct_t (nI (5 * i)) (nI y) 60 (nI a) (-1) mx ac) (fun s => s.2.1 = nI q)) ∨ (∃ a' k r t0' t f, a + 1 ≤ a' ∧ a' ≤ l ∧ acB k r t0' t f ∧ (∀ k0 r0 h0 t0 f0, Rt (f_X0_read (nI l) (nI a) k0 r0 h0 t0 f0 sg) (fun s => s.1 = 1 ∧ s.2.1 = nI a' ∧ okAct k r t0' t f s.2.2.1 s.2.2.2.1 s.2.2.2.2.1 s.2.2.2.2.2.1 s.2.2.2.2.2.2)) ∧ ∀ i ac, i < 60 → Rt (f_X12_readAct_t (nI (5 * i)) (nI y) 60 (nI a) (-1) mx ac) (fun s => s.1 = nI a' ∧ s.2.1 = -1 ∧ acC i ac s.2.2 k r t0' t f)) := by
  have hl := rd_l h
  by_cases cx : sn tc l a = 120
  · have l0 := (sn_lt h (by omega) cx).1
    refine .inr ⟨a + 1, 120, 0, 0, 0, 0, by omega, by omega, .inl rfl, fun k0 r0 h0 t0 f0 => ?_, fun i ac hi => ?_⟩
    · unfold f_X0_read
      exact re2 (x_takeT (c := 120) h (by omega) cx) (rt_f i10n (rt_some ⟨rfl, rfl, rfl, fun z => absurd rfl z⟩))
    · rw [m_actX h hi cx]
      refine rt_some ⟨rfl, rfl, fun j hj => upd_n (show j ≠ 5 * i by omega), upd_s, fun z => absurd rfl z⟩
  by_cases cr : sn tc l a = 114
  · have l0 := (sn_lt h (by omega) cr).1
    have hx : ∀ (q : Nat) (k0 r0 h0 t0 f0 : Int32), ((q = a + 1 ∧ ¬ isDg tc l (a + 1) 0 10) ∨ (q = a + 2 ∧ isDg tc l (a + 1) 0 10 ∧ ¬ isDg tc l (a + 2) 0 10)) → Rt (f_X0_read (nI l) (nI a) k0 r0 h0 t0 f0 sg) (fun s => s.1 = 0 ∧ s.2.1 = nI q) := by
      intro q k0 r0 h0 t0 f0 hq
      unfold f_X0_read
      refine re2 (x_takeF (c := 120) h (by omega) (by omega) cx) (rt_t rfl (re2 (x_takeT (c := 114) h (by omega) cr) (rt_f i10n (rb4 (x_pairF (a := a + 1) (q := q) h (by rcases hq with ⟨z, d⟩ | ⟨z, d1, d2⟩; exact .inl ⟨z, by omega, d⟩; exact .inr ⟨z, d1, d2⟩) r0 h0) ?_))))
      rintro s1 s2 s3 s4 ⟨rfl, rfl⟩
      exact rt_t rfl (rt_some ⟨rfl, rfl⟩)
    by_cases d1 : isDg tc l (a + 1) 0 10
    · have l1 := d1.1
      by_cases d2 : isDg tc l (a + 2) 0 10
      · have l2 := d2.1
        have hxr : ∀ (q : Nat) (k0 r0 h0 t0 f0 : Int32), ((q = a + 3 ∧ a + 3 ≤ l ∧ ¬ isDg tc l (a + 3) 0 10) ∨ (q = a + 3 + 1 ∧ isDg tc l (a + 3) 0 10 ∧ ¬ sn tc l (a + 3 + 1) = 42) ∨ (q = a + 3 + 2 ∧ isDg tc l (a + 3) 0 10 ∧ sn tc l (a + 3 + 1) = 42 ∧ ¬ isDg tc l (a + 3 + 2) 0 10)) → Rt (f_X0_read (nI l) (nI a) k0 r0 h0 t0 f0 sg) (fun s => s.1 = 0 ∧ s.2.1 = nI q) := by
          intro q k0 r0 h0 t0 f0 hq
          unfold f_X0_read
          refine re2 (x_takeF (c := 120) h (by omega) (by omega) cx) (rt_t rfl (re2 (x_takeT (c := 114) h (by omega) cr) (rt_f i10n (re4 (x_pairT (a := a + 1) h d1 d2 r0 h0) (rt_f i10n (rb4 (x_rideF (a := a + 3) h hq t0 f0) ?_))))))
          rintro s1 s2 s3 s4 ⟨rfl, rfl⟩
          exact rt_t rfl (rt_some ⟨rfl, rfl⟩)
        by_cases d3 : isDg tc l (a + 3) 0 10
        · have l3 := d3.1
          by_cases c4 : sn tc l (a + 4) = 42
          · have l4 := (sn_lt h (by omega) c4).1
            by_cases d5 : isDg tc l (a + 5) 0 10
            · have l5 := d5.1
              have b1 := d1.2
              have b2 := d2.2
              have b3 := d3.2
              have b5 := d5.2
              refine .inr ⟨a + 6, 114, tc (a + 1) - 48, tc (a + 2) - 48, tc (a + 3) - 48, tc (a + 5) - 48, by omega, by omega, .inr ⟨.inl rfl, by omega, by omega, by omega, by omega⟩, fun k0 r0 h0 t0 f0 => ?_, fun i ac hi => ?_⟩
              · unfold f_X0_read
                exact re2 (x_takeF (c := 120) h (by omega) (by omega) cx) (rt_t rfl (re2 (x_takeT (c := 114) h (by omega) cr) (rt_f i10n (re4 (x_pairT (a := a + 1) h d1 d2 r0 h0) (rt_f i10n (re4 (x_rideT (a := a + 3) h d3 c4 d5 t0 f0) (rt_f i10n (rt_some ⟨rfl, rfl, rfl, fun _ => ⟨rfl, rfl, rfl, rfl⟩⟩))))))))
              · refine m_actH h hi (.inl rfl) cr d1 d2 (fun g hg => ?_)
                subst hg
                refine rt_t rfl (re3 (m_dT (lo := 0) (T := 60) h (by omega) d3) (rt_gx (by omega) (by omega) (re2 (m_needT (c := 42) (T := 60) h (by omega) c4) (re3 (m_dT (lo := 0) (T := 60) h (by omega) d5) (rt_gx (by omega) (by omega) (rt_some ⟨rfl, rfl, ?_⟩))))))
                rw [nI_clamp (by omega), nI_clamp (by omega)]
                exact acC_5
            · refine .inl ⟨a + 5, by omega, fun k0 r0 h0 t0 f0 => hxr _ k0 r0 h0 t0 f0 (.inr (.inr ⟨rfl, d3, c4, d5⟩)), fun i ac hi => ?_⟩
              refine m_actH h hi (.inl rfl) cr d1 d2 (fun g hg => ?_)
              refine rt_t rfl (re3 (m_dT (lo := 0) (T := 60) h (by omega) d3) (rt_gx (by omega) (by omega) (re2 (m_needT (c := 42) (T := 60) h (by omega) c4) (re3 (m_dF (lo := 0) (T := 60) h (by omega) (by omega) d5) (rt_gx (by omega) (by omega) (rt_some rfl))))))
          · refine .inl ⟨a + 4, by omega, fun k0 r0 h0 t0 f0 => hxr _ k0 r0 h0 t0 f0 (.inr (.inl ⟨rfl, d3, c4⟩)), fun i ac hi => ?_⟩
            have hw : nI (a + 4) ≠ -1 := m1_ne (by omega)
            refine m_actH h hi (.inl rfl) cr d1 d2 (fun g hg => ?_)
            refine rt_t rfl (re3 (m_dT (lo := 0) (T := 60) h (by omega) d3) (rt_gx (by omega) (by omega) (re2 (m_needF (c := 42) (T := 60) h (by omega) (by omega) c4) ?_)))
            repeat (first | refine re3 (m_dW hw _ _ _ _ _) ?_ | refine re2 (m_needW hw _ _ _ _) ?_ | refine re3 (m_numW hw _ _ _ _) ?_ | refine rt_gx (by omega) (by omega) ?_)
            exact rt_some rfl
        · refine .inl ⟨a + 3, by omega, fun k0 r0 h0 t0 f0 => hxr _ k0 r0 h0 t0 f0 (.inl ⟨rfl, by omega, d3⟩), fun i ac hi => ?_⟩
          have hw : nI (a + 3) ≠ -1 := m1_ne (by omega)
          refine m_actH h hi (.inl rfl) cr d1 d2 (fun g hg => ?_)
          refine rt_t rfl (re3 (m_dF (lo := 0) (T := 60) h (by omega) (by omega) d3) ?_)
          repeat (first | refine re3 (m_dW hw _ _ _ _ _) ?_ | refine re2 (m_needW hw _ _ _ _) ?_ | refine re3 (m_numW hw _ _ _ _) ?_ | refine rt_gx (by omega) (by omega) ?_)
          exact rt_some rfl
      · exact .inl ⟨a + 2, by omega, fun k0 r0 h0 t0 f0 => hx _ k0 r0 h0 t0 f0 (.inr ⟨rfl, d1, d2⟩), fun i ac hi => m_pairF h hi (.inl rfl) cr (.inr ⟨rfl, d1, d2⟩)⟩
    · exact .inl ⟨a + 1, by omega, fun k0 r0 h0 t0 f0 => hx _ k0 r0 h0 t0 f0 (.inl ⟨rfl, d1⟩), fun i ac hi => m_pairF h hi (.inl rfl) cr (.inl ⟨rfl, d1⟩)⟩
  by_cases ct : sn tc l a = 116
  · have l0 := (sn_lt h (by omega) ct).1
    have hx : ∀ (q : Nat) (k0 r0 h0 t0 f0 : Int32), ((q = a + 1 ∧ ¬ isDg tc l (a + 1) 0 10) ∨ (q = a + 2 ∧ isDg tc l (a + 1) 0 10 ∧ ¬ isDg tc l (a + 2) 0 10)) → Rt (f_X0_read (nI l) (nI a) k0 r0 h0 t0 f0 sg) (fun s => s.1 = 0 ∧ s.2.1 = nI q) := by
      intro q k0 r0 h0 t0 f0 hq
      unfold f_X0_read
      refine re2 (x_takeF (c := 120) h (by omega) (by omega) cx) (rt_t rfl (re2 (x_takeF (c := 114) h (by omega) (by omega) cr) (rt_t rfl (re2 (x_takeT (c := 116) h (by omega) ct) (rt_f i10n (rb4 (x_pairF (a := a + 1) (q := q) h (by rcases hq with ⟨z, d⟩ | ⟨z, d1, d2⟩; exact .inl ⟨z, by omega, d⟩; exact .inr ⟨z, d1, d2⟩) r0 h0) ?_))))))
      rintro s1 s2 s3 s4 ⟨rfl, rfl⟩
      exact rt_t rfl (rt_some ⟨rfl, rfl⟩)
    by_cases d1 : isDg tc l (a + 1) 0 10
    · have l1 := d1.1
      by_cases d2 : isDg tc l (a + 2) 0 10
      · have l2 := d2.1
        have hxr : ∀ (q : Nat) (k0 r0 h0 t0 f0 : Int32), ((q = a + 3 ∧ a + 3 ≤ l ∧ ¬ sn tc l (a + 3) = 58) ∨ (q = a + 3 + 1 ∧ sn tc l (a + 3) = 58 ∧ nd tc l 2 (a + 3 + 1) = 0) ∨ (q = a + 3 + 1 + nd tc l 2 (a + 3 + 1) ∧ sn tc l (a + 3) = 58 ∧ ¬ nd tc l 2 (a + 3 + 1) = 0 ∧ ¬ sn tc l (a + 3 + 1 + nd tc l 2 (a + 3 + 1)) = 43) ∨ (q = a + 3 + 1 + nd tc l 2 (a + 3 + 1) + 1 ∧ sn tc l (a + 3) = 58 ∧ ¬ nd tc l 2 (a + 3 + 1) = 0 ∧ sn tc l (a + 3 + 1 + nd tc l 2 (a + 3 + 1)) = 43 ∧ nd tc l 4 (a + 3 + 1 + nd tc l 2 (a + 3 + 1) + 1) = 0)) → Rt (f_X0_read (nI l) (nI a) k0 r0 h0 t0 f0 sg) (fun s => s.1 = 0 ∧ s.2.1 = nI q) := by
          intro q k0 r0 h0 t0 f0 hq
          unfold f_X0_read
          refine re2 (x_takeF (c := 120) h (by omega) (by omega) cx) (rt_t rfl (re2 (x_takeF (c := 114) h (by omega) (by omega) cr) (rt_t rfl (re2 (x_takeT (c := 116) h (by omega) ct) (rt_f i10n (re4 (x_pairT (a := a + 1) h d1 d2 r0 h0) (rt_f i10n (rb4 (x_toldF (a := a + 3) h hq t0 f0) ?_))))))))
          rintro s1 s2 s3 s4 ⟨rfl, rfl⟩
          exact rt_t rfl (rt_some ⟨rfl, rfl⟩)
        by_cases c3 : sn tc l (a + 3) = 58
        · have l3 := (sn_lt h (by omega) c3).1
          by_cases n4 : nd tc l 2 (a + 3 + 1) = 0
          · refine .inl ⟨a + 3 + 1, by omega, fun k0 r0 h0 t0 f0 => hxr _ k0 r0 h0 t0 f0 (.inr (.inl ⟨rfl, c3, n4⟩)), fun i ac hi => ?_⟩
            have hw : nI (a + 3 + 1) ≠ -1 := m1_ne (by omega)
            refine m_actH h hi (.inr rfl) ct d1 d2 (fun g hg => ?_)
            refine rt_f (by decide) (re2 (m_needT (c := 58) (T := 60) h (by omega) c3) (re3 (m_numF (k := 2) h (by omega) (by omega) (by omega) n4) ?_))
            repeat (first | refine re3 (m_dW hw _ _ _ _ _) ?_ | refine re2 (m_needW hw _ _ _ _) ?_ | refine re3 (m_numW hw _ _ _ _) ?_ | refine rt_gx (by omega) (by omega) ?_)
            exact rt_some rfl
          · have l4 := nd_in n4
            have v4 := nv_lt4 (tc := tc) (l := l) (a := a + 3 + 1) (k := 2) (by omega)
            by_cases c5 : sn tc l (a + 3 + 1 + nd tc l 2 (a + 3 + 1)) = 43
            · have l5 := (sn_lt h (by omega) c5).1
              by_cases n6 : nd tc l 4 (a + 3 + 1 + nd tc l 2 (a + 3 + 1) + 1) = 0
              · refine .inl ⟨a + 3 + 1 + nd tc l 2 (a + 3 + 1) + 1, by omega, fun k0 r0 h0 t0 f0 => hxr _ k0 r0 h0 t0 f0 (.inr (.inr (.inr ⟨rfl, c3, n4, c5, n6⟩))), fun i ac hi => ?_⟩
                refine m_actH h hi (.inr rfl) ct d1 d2 (fun g hg => ?_)
                exact rt_f (by decide) (re2 (m_needT (c := 58) (T := 60) h (by omega) c3) (re3 (m_numT (k := 2) h (by omega) (by omega) (by omega) n4) (rt_gx (by omega) (by omega) (re2 (m_needT (c := 43) (T := 60) h (by omega) c5) (re3 (m_numF (k := 4) h (by omega) (by omega) (by omega) n6) (rt_gx (by omega) (by omega) (rt_some rfl)))))))
              · have l6 := nd_in n6
                have v6 := nv_lt4 (tc := tc) (l := l) (a := a + 3 + 1 + nd tc l 2 (a + 3 + 1) + 1) (k := 4) (by omega)
                have b1 := d1.2
                have b2 := d2.2
                refine .inr ⟨a + 3 + 1 + nd tc l 2 (a + 3 + 1) + 1 + nd tc l 4 (a + 3 + 1 + nd tc l 2 (a + 3 + 1) + 1), 116, tc (a + 1) - 48, tc (a + 2) - 48, nv tc (a + 3 + 1) (nd tc l 2 (a + 3 + 1)), nv tc (a + 3 + 1 + nd tc l 2 (a + 3 + 1) + 1) (nd tc l 4 (a + 3 + 1 + nd tc l 2 (a + 3 + 1) + 1)), by omega, by omega, .inr ⟨.inr rfl, by omega, by omega, by omega, by omega⟩, fun k0 r0 h0 t0 f0 => ?_, fun i ac hi => ?_⟩
                · unfold f_X0_read
                  exact re2 (x_takeF (c := 120) h (by omega) (by omega) cx) (rt_t rfl (re2 (x_takeF (c := 114) h (by omega) (by omega) cr) (rt_t rfl (re2 (x_takeT (c := 116) h (by omega) ct) (rt_f i10n (re4 (x_pairT (a := a + 1) h d1 d2 r0 h0) (rt_f i10n (re4 (x_toldT (a := a + 3) h c3 n4 c5 n6 t0 f0) (rt_f i10n (rt_some ⟨rfl, rfl, rfl, fun _ => ⟨rfl, rfl, rfl, rfl⟩⟩))))))))))
                · refine m_actH h hi (.inr rfl) ct d1 d2 (fun g hg => ?_)
                  subst hg
                  refine rt_f (by decide) (re2 (m_needT (c := 58) (T := 60) h (by omega) c3) (re3 (m_numT (k := 2) h (by omega) (by omega) (by omega) n4) (rt_gx (by omega) (by omega) (re2 (m_needT (c := 43) (T := 60) h (by omega) c5) (re3 (m_numT (k := 4) h (by omega) (by omega) (by omega) n6) (rt_gx (by omega) (by omega) (rt_some ⟨rfl, rfl, ?_⟩)))))))
                  rw [nI_clamp (by omega), nI_clamp (by omega)]
                  exact acC_5
            · refine .inl ⟨a + 3 + 1 + nd tc l 2 (a + 3 + 1), by omega, fun k0 r0 h0 t0 f0 => hxr _ k0 r0 h0 t0 f0 (.inr (.inr (.inl ⟨rfl, c3, n4, c5⟩))), fun i ac hi => ?_⟩
              have hw : nI (a + 3 + 1 + nd tc l 2 (a + 3 + 1)) ≠ -1 := m1_ne (by omega)
              refine m_actH h hi (.inr rfl) ct d1 d2 (fun g hg => ?_)
              refine rt_f (by decide) (re2 (m_needT (c := 58) (T := 60) h (by omega) c3) (re3 (m_numT (k := 2) h (by omega) (by omega) (by omega) n4) (rt_gx (by omega) (by omega) (re2 (m_needF (c := 43) (T := 60) h (by omega) (by omega) c5) ?_))))
              repeat (first | refine re3 (m_dW hw _ _ _ _ _) ?_ | refine re2 (m_needW hw _ _ _ _) ?_ | refine re3 (m_numW hw _ _ _ _) ?_ | refine rt_gx (by omega) (by omega) ?_)
              exact rt_some rfl
        · refine .inl ⟨a + 3, by omega, fun k0 r0 h0 t0 f0 => hxr _ k0 r0 h0 t0 f0 (.inl ⟨rfl, by omega, c3⟩), fun i ac hi => ?_⟩
          have hw : nI (a + 3) ≠ -1 := m1_ne (by omega)
          refine m_actH h hi (.inr rfl) ct d1 d2 (fun g hg => ?_)
          refine rt_f (by decide) (re2 (m_needF (c := 58) (T := 60) h (by omega) (by omega) c3) ?_)
          repeat (first | refine re3 (m_dW hw _ _ _ _ _) ?_ | refine re2 (m_needW hw _ _ _ _) ?_ | refine re3 (m_numW hw _ _ _ _) ?_ | refine rt_gx (by omega) (by omega) ?_)
          exact rt_some rfl
      · exact .inl ⟨a + 2, by omega, fun k0 r0 h0 t0 f0 => hx _ k0 r0 h0 t0 f0 (.inr ⟨rfl, d1, d2⟩), fun i ac hi => m_pairF h hi (.inr rfl) ct (.inr ⟨rfl, d1, d2⟩)⟩
    · exact .inl ⟨a + 1, by omega, fun k0 r0 h0 t0 f0 => hx _ k0 r0 h0 t0 f0 (.inl ⟨rfl, d1⟩), fun i ac hi => m_pairF h hi (.inr rfl) ct (.inl ⟨rfl, d1⟩)⟩
  · refine .inl ⟨a, by omega, fun k0 r0 h0 t0 f0 => ?_, fun i ac hi => m_actN h ha hi cr ct cx⟩
    unfold f_X0_read
    exact re2 (x_takeF (c := 120) h (by omega) (by omega) cx) (rt_t rfl (re2 (x_takeF (c := 114) h (by omega) (by omega) cr) (rt_t rfl (re2 (x_takeF (c := 116) h (by omega) (by omega) ct) (rt_t rfl (rt_some ⟨rfl, rfl⟩))))))
end
