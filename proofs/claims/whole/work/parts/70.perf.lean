/-! an act done, both sides -/
section
variable {F H P : Nat} {kd ht ft st sc ca pl : Nat → Nat} {V : Nat → Nat → Nat → Nat → Nat → Nat → Nat → Nat → Nat} {ck ch cf cd cp rk mk mh mf ms mc ma mp ml : Nat → Int32} {rz mz : Int32} {al : Nat} {cz : Int32} {tr to tf tx mn ac : Nat → Int32}
theorem pf_act (hX : okX F H P kd ht ft st sc ca pl V ck ch cf cd cp rz rk) (hM : okM F H P kd ht ft st sc ca pl V mk mh mf ms mc ma mp mz ml) (hT : tX cz tr to tf tx mn) (ha : al ≤ 9999) {k r h t f i : Nat} (hi : i < 60) (hB : acB k r h t f) {v1 v2 v3 v4 v5 : Int32} (hA : okAct k r h t f v1 v2 v3 v4 v5) (hC : okAct k r h t f (ac (5 * i)) (ac (5 * i + 1)) (ac (5 * i + 2)) (ac (5 * i + 3)) (ac (5 * i + 4))) (d1 d2 d3 d4 d5 : Int32) (sk th : Nat → Int32) (q1 q2 q3 q4 q5 q6 q7 q8 q9 q10 e1 e2 e3 e4 : Int32) : Rt (f_X11_perform (nI F) (nI H) (nI P) (nI al) rz cz d1 d2 d3 d4 d5 v1 v2 v3 v4 v5 ck ch cf cd cp rk sk th tr to tf tx) (fun a => Rt (f_X12_act (nI (5 * i)) (nI F) (nI al) (nI H) (nI P) q1 q2 q3 q4 q5 mz q6 q7 q8 q9 q10 e1 e2 e3 e4 mn mk mh mf ms mc ma mp ml ac) (fun b => (a.1 = b.1 ∧ (a.1 = 0 ∨ a.1 = 1) ∧ tX a.2.1 a.2.2.2.2.2.2.2.2.2.1 a.2.2.2.2.2.2.2.2.2.2.1 a.2.2.2.2.2.2.2.2.2.2.2.1 a.2.2.2.2.2.2.2.2.2.2.2.2 b.2.2.2.2.2.2.2.2.2.2.2.2.2.2.2))) := by
  have hF := hX.1.1
  have hH := hX.2.2.1.1.1
  obtain ⟨rfl, hA'⟩ := hA
  obtain ⟨c0, hC'⟩ := hC
  by_cases k1 : k = 114
  · subst k1
    obtain ⟨rfl, rfl, rfl, rfl⟩ := hA' (by omega)
    obtain ⟨c1, c2, c3, c4⟩ := hC' (by omega)
    rcases ad_ride hX hT ha (nI r) (nI h) (nI t) (nI f) d1 d2 d3 d4 d5 sk th with ⟨v, hv, g1, g2⟩ | ⟨h', p', hh, hp, eh, ep, g1, g2⟩
    · unfold f_X11_perform
      refine rt_t rfl (re13 g2 (rt_t hv (rt_some ?_)))
      unfold f_X12_act; rw [nI_1, c_2, c_3, c_4, nI_add, nI_add, nI_add]; refine rt_gx (by omega) (by omega) (rt_lt (rt_gx (by omega) (by omega) (rt_lt (rt_gx (by omega) (by omega) (rt_lt (rt_gx (by omega) (by omega) (rt_lt (rt_gx (by omega) (by omega) ?_)))))))); rw [nI_clamp (by omega), nI_clamp (by omega), nI_clamp (by omega), nI_clamp (by omega), nI_clamp (by omega), c0, c1, c2, c3, c4]
      exact rt_t rfl (re1 g1 (rt_f (Int32.not_le.mpr hv) (rt_some ⟨rfl, .inl rfl, hT⟩)))
    · have b1 := pt_le (pl := pl) (p := p') hX.1
      have b3 := dX_le (sd := nI f) (r := rr kd ft st ca h') (o := oo V kd ht ft st sc ca pl h' p') (al := al) b1 hX.1.1
      unfold f_X11_perform
      refine rt_t rfl (rb13 g2 ?_)
      rintro a1 a2 a3 a4 a5 a6 a7 a8 a9 a10 a11 a12 a13 ⟨x1, x2, x3, x4, x5, g, eg, hg⟩
      have x1' : a1 = nI (dX (nI f) (rr kd ft st ca h') (oo V kd ht ft st sc ca pl h' p') (pt F kd ft pl p') al F) := x1
      refine rt_f (by rw [x1']; exact nI_pos (by omega)) (rt_some ?_)
      have hgo := m_goRound hM ha hh hp (nI f) e1 e2 e3 e4 q1 q2 q3 q4 q5 q6 q7 q8 q9 q10
      rw [← eh, ← ep] at hgo
      unfold f_X12_act; rw [nI_1, c_2, c_3, c_4, nI_add, nI_add, nI_add]; refine rt_gx (by omega) (by omega) (rt_lt (rt_gx (by omega) (by omega) (rt_lt (rt_gx (by omega) (by omega) (rt_lt (rt_gx (by omega) (by omega) (rt_lt (rt_gx (by omega) (by omega) ?_)))))))); rw [nI_clamp (by omega), nI_clamp (by omega), nI_clamp (by omega), nI_clamp (by omega), nI_clamp (by omega), c0, c1, c2, c3, c4]
      refine rt_t rfl (re1 g1 (rt_t (by decide) (rb15 hgo ?_)))
      rintro y1 y2 y3 y4 y5 y6 y7 y8 y9 y10 y11 y12 y13 y14 y15 ⟨z1, z2, z3, z4, z5⟩
      have z2' : y1 = nI (dX (nI f) (rr kd ft st ca h') (oo V kd ht ft st sc ca pl h' p') (pt F kd ft pl p') al F) := z2
      have z3' : y12 = nI (dT (nI f) (rr kd ft st ca h') (pt F kd ft pl p') F) := z3
      rw [z2', z3']
      exact re1 eg (rt_some ⟨rfl, .inr rfl, hg⟩)
  by_cases k2 : k = 116
  · subst k2
    obtain ⟨rfl, rfl, rfl, rfl⟩ := hA' (by omega)
    obtain ⟨c1, c2, c3, c4⟩ := hC' (by omega)
    rcases ad_told hH hT (nI r) (nI h) (nI t) (nI f) with ⟨v, hv, g1, g2⟩ | ⟨g1, g2⟩
    · unfold f_X11_perform
      refine rt_f (by decide) (rt_t rfl (re6 g2 (rt_t hv (rt_some ?_))))
      unfold f_X12_act; rw [nI_1, c_2, c_3, c_4, nI_add, nI_add, nI_add]; refine rt_gx (by omega) (by omega) (rt_lt (rt_gx (by omega) (by omega) (rt_lt (rt_gx (by omega) (by omega) (rt_lt (rt_gx (by omega) (by omega) (rt_lt (rt_gx (by omega) (by omega) ?_)))))))); rw [nI_clamp (by omega), nI_clamp (by omega), nI_clamp (by omega), nI_clamp (by omega), nI_clamp (by omega), c0, c1, c2, c3, c4]
      exact rt_f (by decide) (rt_t rfl (re1 g1 (rt_f (Int32.not_le.mpr hv) (rt_some ⟨rfl, .inl rfl, hT⟩))))
    · unfold f_X11_perform
      refine rt_f (by decide) (rt_t rfl (rb6 g2 ?_))
      rintro a1 a2 a3 a4 a5 a6 ⟨⟨k, hk, x1⟩, g, eg, hg1, hg2⟩
      have x1' : a1 = nI k := x1
      refine rt_f (by rw [x1']; exact nI_pos (by omega)) (rt_some ?_)
      unfold f_X12_act; rw [nI_1, c_2, c_3, c_4, nI_add, nI_add, nI_add]; refine rt_gx (by omega) (by omega) (rt_lt (rt_gx (by omega) (by omega) (rt_lt (rt_gx (by omega) (by omega) (rt_lt (rt_gx (by omega) (by omega) (rt_lt (rt_gx (by omega) (by omega) ?_)))))))); rw [nI_clamp (by omega), nI_clamp (by omega), nI_clamp (by omega), nI_clamp (by omega), nI_clamp (by omega), c0, c1, c2, c3, c4]
      exact rt_f (by decide) (rt_t rfl (re1 g1 (rt_t (by decide) (re1 eg (rt_some ⟨rfl, .inr rfl, hg2⟩)))))
  · obtain rfl : k = 120 := by rcases hB with z | ⟨z | z, _⟩ <;> omega
    obtain ⟨n, rd, hs, fa, te, hE⟩ := hT
    obtain ⟨n12, e0, e48, hrow⟩ := id hE
    unfold f_X11_perform f_X10_strike
    refine rt_f (by decide) (rt_f (by decide) ?_)
    have hact : ∀ Q : _ → Prop, Rt (if nI n = 0 then some (0, q1, q2, q3, q4, q5, q6, q7, q8, q9, q10, e1, e2, e3, e4, mn) else some (1, q1, q2, q3, q4, q5, q6, q7, q8, q9, q10, e1, e2, e3, e4, upd mn 48 (nI n - 1))) Q → Rt (f_X12_act (nI (5 * i)) (nI F) (nI al) (nI H) (nI P) q1 q2 q3 q4 q5 mz q6 q7 q8 q9 q10 e1 e2 e3 e4 mn mk mh mf ms mc ma mp ml ac) Q := by
      intro Q hQ
      unfold f_X12_act
      rw [nI_1, c_2, c_3, c_4, nI_add, nI_add, nI_add]
      refine rt_gx (by omega) (by omega) (rt_lt (rt_gx (by omega) (by omega) (rt_lt (rt_gx (by omega) (by omega) (rt_lt (rt_gx (by omega) (by omega) (rt_lt (rt_gx (by omega) (by omega) ?_))))))))
      rw [nI_clamp (n := 5 * i) (by omega), c0]
      refine rt_f (by decide) (rt_f (by decide) (rt_gd (by decide) ?_))
      rw [c_48, nI_clamp (by omega), e48, gx (by omega) (by omega), gx (by omega) (by omega)]
      exact hQ
    by_cases z : n = 0
    · subst z
      rw [e0]
      refine rb2 (P := fun q => q = (0, nI 0)) (rt_t rfl (rt_some rfl)) ?_
      rintro q1' q2' hq
      obtain ⟨rfl, rfl⟩ := Prod.mk.inj hq
      refine rt_gd (by decide) (rt_some (hact _ (rt_t rfl (rt_some ⟨rfl, .inl rfl, 0, rd, hs, fa, te, ?_⟩))))
      rw [e0] at hE
      exact hE
    · have zn : ¬ nI n = 0 := fun w => z ((nI_eq (b := 0) (by omega) (by omega)).mp w)
      rw [e0]
      refine rb2 (P := fun q => q = (1, nI (n - 1))) (rt_f zn (rt_some (by rw [c_1, pk_sub (by omega)]))) ?_
      rintro q1' q2' hq
      obtain ⟨rfl, rfl⟩ := Prod.mk.inj hq
      refine rt_gd (by decide) (rt_some (hact _ (rt_f zn (rt_some ⟨rfl, .inr rfl, n - 1, rd, hs, fa, te, by omega, rfl, ?_, fun j hj => ?_⟩))))
      · show upd mn 48 (nI n - 1) 48 = _
        rw [upd_s, c_1, pk_sub (by omega)]
      · show _ ∧ _ ∧ (upd mn 48 (nI n - 1) (4 * j) = _ ∧ upd mn 48 (nI n - 1) (4 * j + 1) = _ ∧ upd mn 48 (nI n - 1) (4 * j + 2) = _ ∧ upd mn 48 (nI n - 1) (4 * j + 3) = _)
        rw [upd_n (by omega), upd_n (by omega), upd_n (by omega), upd_n (by omega)]
        exact hrow j (by omega)
end
