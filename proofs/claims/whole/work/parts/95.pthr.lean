/-! fence, horse, round, row: where they throw, and what they answer else -/
theorem m_lowT {k n : Nat} (h : k < n) (hn : n < 2 ^ 31) : f_X12_in (nI k) 0 (nI n - 1) = some 1 := by
  obtain ⟨q, rfl⟩ : ∃ q, n = q + 1 := ⟨n - 1, by omega⟩
  rw [nI_pred]
  exact m_inT (n := q) (by omega) (by omega)
theorem m_lowF {v : Int32} {n : Nat} (h : out v n) (hn : n < 2 ^ 31) : f_X12_in v 0 (nI n - 1) = some 0 := by
  by_cases z : n = 0
  · subst z
    rw [m_in]
    by_cases h0 : v < 0
    · rw [if_pos h0]
    · rw [if_neg h0, if_pos]
      have : (0 : Int32) ≤ v := Int32.not_lt.mp h0
      exact Int32.lt_of_lt_of_le (by decide) this
  · obtain ⟨q, rfl⟩ : ∃ q, n = q + 1 := ⟨n - 1, by omega⟩
    rw [nI_pred]
    exact m_inF (n := q) h (by omega)
theorem out_3 {v : Int32} (h : out v 3) : v < 0 ∨ 2 < v := by
  by_cases h0 : v < 0
  · exact .inl h0
  · exact .inr (out_lt2 (n := 2) h h0 (by omega))
theorem out_6 {v : Int32} (h : out v 6) : v < 0 ∨ 5 < v := by
  by_cases h0 : v < 0
  · exact .inl h0
  · exact .inr (out_lt2 (n := 5) h h0 (by omega))
section
variable {F H P : Nat} {kd ht ft st sc ca pl : Nat → Nat} {V : Nat → Nat → Nat → Nat → Nat → Nat → Nat → Nat → Nat} {ck ch cf cd cp rk mk mh mf ms mc ma mp ml : Nat → Int32} {rz mz tw : Int32}
theorem pr_fence (hX : okX F H P kd ht ft st sc ca pl V ck ch cf cd cp rz rk) (hM : okM F H P kd ht ft st sc ca pl V mk mh mf ms mc ma mp mz ml) (p1 p2 : Int32) : (∃ v, f_X11_fence p1 p2 (nI F) ck ch cf = some v ∧ f_X12_fence p1 p2 (nI F) tw mk mh mf = some (v, 0)) ∨ (∃ rn, f_X1_hasFence p1 (nI F) = some rn ∧ (rn = 0 ∨ p2 < 0 ∨ 2 < p2) ∧ f_X12_fence p1 p2 (nI F) tw mk mh mf = some (0, 1)) := by
  have hF := hX.1.1
  rcases bel p1 F (by omega) with ⟨a, ha, rfl⟩ | ho
  · rcases bel p2 3 (by omega) with ⟨w, hw, rfl⟩ | ho
    · obtain ⟨_, k1, k2⟩ := hX.1.2 a ha
      obtain ⟨_, k3, k4⟩ := hM.1.2 a ha
      obtain ⟨_, t1⟩ := hX.2.1 a ha
      obtain ⟨_, t2⟩ := hM.2.1 a ha
      rcases (show w = 0 ∨ w = 1 ∨ w = 2 by omega) with rfl | rfl | rfl
      · refine .inl ⟨nI (kd a), rt_get ?_, rt_get ?_⟩
        · unfold f_X11_fence
          refine re1 (x_hasT ha (by omega)) (rt_f i10n (rt_f (by decide) (rt_t (by decide) (rt_t rfl (rt_gx (by omega) (by omega) (rt_some ?_))))))
          rw [nI_clamp (by omega), k1]
        · unfold f_X12_fence
          refine re1 (m_isT ha (by omega)) (rt_f i10n (re1 (m_inT (n := 2) (by omega) (by omega)) (rt_f i10n (rt_t rfl (rt_gx (by omega) (by omega) (rt_some ?_))))))
          rw [nI_clamp (by omega), k3]
      · refine .inl ⟨nI (ht a), rt_get ?_, rt_get ?_⟩
        · unfold f_X11_fence
          refine re1 (x_hasT ha (by omega)) (rt_f i10n (rt_f (by decide) (rt_t (by decide) (rt_f (by decide) (rt_t rfl (rt_gx (by omega) (by omega) (rt_some ?_)))))))
          rw [nI_clamp (by omega), t1]
        · unfold f_X12_fence
          refine re1 (m_isT ha (by omega)) (rt_f i10n (re1 (m_inT (n := 2) (by omega) (by omega)) (rt_f i10n (rt_f (by decide) (rt_t rfl (rt_gx (by omega) (by omega) (rt_some ?_)))))))
          rw [nI_clamp (by omega), t2]
      · refine .inl ⟨nI (ft a), rt_get ?_, rt_get ?_⟩
        · unfold f_X11_fence
          refine re1 (x_hasT ha (by omega)) (rt_f i10n (rt_f (by decide) (rt_t (by decide) (rt_f (by decide) (rt_f (by decide) (rt_gx (by omega) (by omega) (rt_some ?_)))))))
          rw [nI_clamp (by omega), k2]
        · unfold f_X12_fence
          refine re1 (m_isT ha (by omega)) (rt_f i10n (re1 (m_inT (n := 2) (by omega) (by omega)) (rt_f i10n (rt_f (by decide) (rt_f (by decide) (rt_gx (by omega) (by omega) (rt_some ?_)))))))
          rw [nI_clamp (by omega), k4]
    · refine .inr ⟨1, x_hasT ha (by omega), .inr (out_3 ho), rt_get ?_⟩
      unfold f_X12_fence
      exact re1 (m_isT ha (by omega)) (rt_f i10n (re1 (m_inF (n := 2) ho (by omega)) (rt_t rfl (re2 rfl (rt_some rfl)))))
  · refine .inr ⟨0, x_hasF ho, .inl rfl, rt_get ?_⟩
    unfold f_X12_fence
    exact re1 (m_isF ho (by omega)) (rt_t rfl (re2 rfl (rt_some rfl)))
theorem pr_horse (hX : okX F H P kd ht ft st sc ca pl V ck ch cf cd cp rz rk) (hM : okM F H P kd ht ft st sc ca pl V mk mh mf ms mc ma mp mz ml) (p1 p2 : Int32) : (∃ v, f_X11_horse p1 p2 (nI H) cd = some v ∧ f_X12_horse p1 p2 (nI H) tw ms mc ma = some (v, 0)) ∨ (∃ rn, f_X1_hasHorse p1 (nI H) = some rn ∧ (rn = 0 ∨ p2 < 0 ∨ 5 < p2) ∧ f_X12_horse p1 p2 (nI H) tw ms mc ma = some (0, 1)) := by
  have hH := hX.2.2.1.1.1
  rcases bel p1 H (by omega) with ⟨a, ha, rfl⟩ | ho
  · rcases bel p2 6 (by omega) with ⟨w, hw, rfl⟩ | ho
    · obtain ⟨k1, k2, k3⟩ := hX.2.2.1.2 a ha
      obtain ⟨t1, t2, t3⟩ := hM.2.2.1.2 a ha
      have hx : ∀ v, cd (6 * a + w) = v → f_X11_horse (nI a) (nI w) (nI H) cd = some v := by
        intro v hv
        refine rt_get ?_
        unfold f_X11_horse
        refine re1 (x_hasHT ha (by omega)) (rt_f i10n (rt_f (nI_pos (by omega)) (rt_t (nI_lt (b := 6) (by omega) (by omega)) (re1 (x_ofHorse (by omega) hw) (rt_some hv)))))
      by_cases w0 : w = 0
      · subst w0
        refine .inl ⟨nI (st a), hx _ k1, rt_get ?_⟩
        unfold f_X12_horse
        refine re1 (m_isHT ha (by omega)) (rt_f i10n (re1 (m_inT (n := 5) (by omega) (by omega)) (rt_f i10n (rt_t rfl (rt_gx (by omega) (by omega) (rt_some ?_))))))
        rw [nI_clamp (by omega), t1]
      · by_cases w1 : w = 1
        · subst w1
          refine .inl ⟨nI (sc a), hx _ k2, rt_get ?_⟩
          unfold f_X12_horse
          refine re1 (m_isHT ha (by omega)) (rt_f i10n (re1 (m_inT (n := 5) (by omega) (by omega)) (rt_f i10n (rt_f (by decide) (rt_t rfl (rt_gx (by omega) (by omega) (rt_some ?_)))))))
          rw [nI_clamp (by omega), t2]
        · refine .inl ⟨nI (ca (4 * a + (w - 2))), hx _ ?_, rt_get ?_⟩
          · rw [← k3 (w - 2) (by omega)]
            exact congrArg cd (by omega)
          · unfold f_X12_horse
            refine re1 (m_isHT ha (by omega)) (rt_f i10n (re1 (m_inT (n := 5) (by omega) (by omega)) (rt_f i10n (rt_f (fun z => w0 ((nI_eq (b := 0) (by omega) (by omega)).mp z)) (rt_f (fun z => w1 ((nI_eq (b := 1) (by omega) (by omega)).mp z)) ?_)))))
            rw [c_4, pk_mul, nI_add, c_2, pk_sub (by omega), gx (by omega) (by omega), nI_clamp (by omega)]
            refine rt_some ?_
            rw [show 4 * a + w - 2 = 4 * a + (w - 2) by omega, t3 (w - 2) (by omega)]
    · refine .inr ⟨1, x_hasHT ha (by omega), .inr (out_6 ho), rt_get ?_⟩
      unfold f_X12_horse
      exact re1 (m_isHT ha (by omega)) (rt_f i10n (re1 (m_inF (n := 5) ho (by omega)) (rt_t rfl (re2 rfl (rt_some rfl)))))
  · refine .inr ⟨0, x_hasHF ho, .inl rfl, rt_get ?_⟩
    unfold f_X12_horse
    exact re1 (m_isHF ho (by omega)) (rt_t rfl (re2 rfl (rt_some rfl)))
end
section
variable {n : Nat} {rd hs fa te mo : Nat → Nat} {cz tw : Int32} {tr to tf tx mn tm mm : Nat → Int32}
theorem pr_round (hE : tE n rd hs fa te cz tr to tf tx mn) (hY : okY mo tm) (hZ : okY mo mm) (p1 p2 : Int32) : (∃ v, f_X11_round p1 p2 (nI n) tr to tf tx tm = some v ∧ f_X12_round p1 p2 tw mn mm = some (v, 0)) ∨ ((p1 < 0 ∨ nI n ≤ p1 ∨ p2 < 0 ∨ 5 < p2) ∧ f_X12_round p1 p2 tw mn mm = some (0, 1)) := by
  have hC := tE_C hE
  have hN := tE_N hE
  obtain ⟨n12, e0, e48, hrow⟩ := id hE
  have hm : ∀ Q : _ → Prop, Rt (bd1 (f_X12_in p1 0 (nI n - 1)) (fun rn1 => if rn1 = 0 then bd2 (f_X12_lost 0) (fun a b => some (a, b)) else bd1 (f_X12_in p2 0 5) (fun rn4 => if rn4 = 0 then bd2 (f_X12_lost 0) (fun a b => some (a, b)) else if (4 : Int32) ≤ p2 then (if p2 = (4 : Int32) then bd1 (f_X12_placeOf_m_now p1 mn) (fun r => some (r, 0)) else bd1 (f_X12_placeOf_m_now p1 mn) (fun r => bd1 (f_X12_moneyOf r mm) (fun r => some (r, 0)))) else gd (ix ((4 : Int32) * p1 + p2) 49) (some (mn ((4 : Int32) * p1 + p2).toNatClampNeg, 0))))) Q → Rt (f_X12_round p1 p2 tw mn mm) Q := by
    intro Q hQ
    unfold f_X12_round
    refine rt_gd (by decide) ?_
    rw [c_48, nI_clamp (by omega), e48]
    exact hQ
  rcases bel p1 n (by omega) with ⟨a, ha, rfl⟩ | ho
  · rcases bel p2 6 (by omega) with ⟨w, hw, rfl⟩ | ho
    · obtain ⟨_, ⟨k1, k2, k3, k4⟩, t1, t2, t3, t4⟩ := hrow a ha
      have hpl := x_placeOf hC ha
      have hpm := m_placeOf hN ha
      have hp1 : 1 ≤ plO n fa te a := by unfold plO; omega
      have hp2 := plO_lt (fa := fa) (te := te) (k := a) n12
      have hlow : ∀ (w : Nat) (v : Int32), w < 4 → mn (4 * a + w) = v → f_X12_round (nI a) (nI w) tw mn mm = some (v, 0) := by
        intro w v hw hv
        refine rt_get ?_
        unfold f_X12_round
        refine rt_gd (by decide) ?_
        rw [c_48, nI_clamp (by omega), e48]
        refine re1 (m_lowT ha (by omega)) (rt_f i10n (re1 (m_inT (n := 5) (by omega) (by omega)) (rt_f i10n (rt_f (nI_ge (b := 4) (by omega) (by omega)) ?_))))
        rw [c_4, pk_mul, nI_add, gx (by omega) (by omega), nI_clamp (by omega), hv]
        exact rt_some rfl
      have hx0 : ∀ (w : Nat), w < 6 → f_X11_round (nI a) (nI w) (nI n) tr to tf tx tm = (if nI w = (0 : Int32) then gd (ix (nI a) 12) (some (tr (nI a).toNatClampNeg)) else if nI w = (1 : Int32) then gd (ix (nI a) 12) (some (to (nI a).toNatClampNeg)) else if nI w = (2 : Int32) then gd (ix (nI a) 12) (some (tf (nI a).toNatClampNeg)) else if nI w = (3 : Int32) then gd (ix (nI a) 12) (some (tx (nI a).toNatClampNeg)) else if nI w = (4 : Int32) then bd1 (f_X10_placeOf_rounds_faults (nI a) (nI n) tf tx) (fun r => some r) else bd1 (f_X10_placeOf_rounds_faults (nI a) (nI n) tf tx) (fun r => bd1 (f_X10_moneyAt r tm) (fun r => some r))) := by
        intro w hw
        unfold f_X11_round
        rw [if_neg (nI_pos (by omega)), if_neg (nI_ge ha (by omega)), if_neg (nI_pos (by omega)), if_pos (show nI w ≤ (5 : Int32) from nI_le (b := 5) (by omega) (by omega))]
      rcases (show w = 0 ∨ w = 1 ∨ w = 2 ∨ w = 3 ∨ w = 4 ∨ w = 5 by omega) with rfl | rfl | rfl | rfl | rfl | rfl
      · refine .inl ⟨nI (rd a), ?_, hlow 0 _ (by omega) t1⟩
        rw [hx0 0 (by omega), if_pos (by decide), gx (by omega) (by omega), nI_clamp (by omega), k1]
      · refine .inl ⟨nI (hs a), ?_, hlow 1 _ (by omega) t2⟩
        rw [hx0 1 (by omega), if_neg (by decide), if_pos (by decide), gx (by omega) (by omega), nI_clamp (by omega), k2]
      · refine .inl ⟨nI (fa a), ?_, hlow 2 _ (by omega) t3⟩
        rw [hx0 2 (by omega), if_neg (by decide), if_neg (by decide), if_pos (by decide), gx (by omega) (by omega), nI_clamp (by omega), k3]
      · refine .inl ⟨nI (te a), ?_, hlow 3 _ (by omega) t4⟩
        rw [hx0 3 (by omega), if_neg (by decide), if_neg (by decide), if_neg (by decide), if_pos (by decide), gx (by omega) (by omega), nI_clamp (by omega), k4]
      · refine .inl ⟨nI (plO n fa te a), ?_, rt_get (hm _ ?_)⟩
        · rw [hx0 4 (by omega), if_neg (by decide), if_neg (by decide), if_neg (by decide), if_neg (by decide), if_pos (by decide), bd1_t hpl]
        · exact re1 (m_lowT ha (by omega)) (rt_f i10n (re1 (m_inT (n := 5) (by omega) (by omega)) (rt_f i10n (rt_t (by decide) (rt_t (by decide) (re1 hpm (rt_some rfl)))))))
      · refine .inl ⟨nI (mny mo (plO n fa te a)), ?_, rt_get (hm _ ?_)⟩
        · rw [hx0 5 (by omega), if_neg (by decide), if_neg (by decide), if_neg (by decide), if_neg (by decide), if_neg (by decide), bd1_t hpl, bd1_t (x_moneyAt hY hp1 hp2)]
        · exact re1 (m_lowT ha (by omega)) (rt_f i10n (re1 (m_inT (n := 5) (by omega) (by omega)) (rt_f i10n (rt_t (by decide) (rt_f (by decide) (re1 hpm (re1 (m_moneyOf hZ hp1 hp2) (rt_some rfl))))))))
    · refine .inr ⟨.inr (.inr (out_6 ho)), rt_get (hm _ ?_)⟩
      exact re1 (m_lowT ha (by omega)) (rt_f i10n (re1 (m_inF (n := 5) ho (by omega)) (rt_t rfl (re2 rfl (rt_some rfl)))))
  · refine .inr ⟨?_, rt_get (hm _ ?_)⟩
    · rcases ho with h | h
      · exact .inl h
      · exact .inr (.inl h)
    · exact re1 (m_lowF ho (by omega)) (rt_t rfl (re2 rfl (rt_some rfl)))
theorem pr_row {r : Nat} {nt mt : Nat → Int64} (hR : rowE r nt mt) (p1 : Int32) : (∃ v, f_X11_row p1 (nI r) nt = some v ∧ f_X12_row p1 (nI r) tw mt = some (v, 0)) ∨ ((p1 < 0 ∨ nI r ≤ p1) ∧ f_X12_row p1 (nI r) tw mt = some (0, 1)) := by
  have hr := hR.1
  rcases bel p1 r (by omega) with ⟨a, ha, rfl⟩ | ho
  · refine .inl ⟨mt a, rt_get ?_, rt_get ?_⟩
    · unfold f_X11_row
      refine rt_f (nI_pos (by omega)) (rt_t (nI_lt ha (by omega)) (rt_gx (by omega) (by omega) (rt_some ?_)))
      rw [nI_clamp (by omega), hR.2 a ha]
    · unfold f_X12_row
      refine re1 (m_lowT ha (by omega)) (rt_f i10n (rt_gx (by omega) (by omega) (rt_some ?_)))
      rw [nI_clamp (by omega)]
  · refine .inr ⟨?_, rt_get ?_⟩
    · rcases ho with h | h
      · exact .inl h
      · exact .inr h
    · unfold f_X12_row
      exact re1 (m_lowF ho (by omega)) (rt_t rfl (re2 rfl (rt_some rfl)))
end
