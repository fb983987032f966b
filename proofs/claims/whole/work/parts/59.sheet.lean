/-! sheet, count -/
def cl9 (v : Int32) : Int32 := if 0 < (if v < 9 then v else 9) then (if v < 9 then v else 9) else 0
theorem cl9_n (v : Int32) : ∃ n, n ≤ 9 ∧ cl9 v = nI n := by
  unfold cl9
  rcases bel v 10 (by omega) with ⟨k, hk, rfl⟩ | h | h
  · by_cases c : k < 9
    · by_cases z : k = 0
      · subst z; exact ⟨0, by omega, rfl⟩
      · refine ⟨k, by omega, ?_⟩
        have e1 : nI k < 9 := Int32.not_le.mp (nI_ge (b := 9) c (by omega))
        have e2 : 0 < nI k := Int32.not_le.mp (nI_ge (a := 0) (by omega) (by omega))
        rw [if_pos e1, if_pos e2]
    · obtain rfl : k = 9 := by omega
      exact ⟨9, by omega, rfl⟩
  · have e1 : v < 9 := Int32.lt_trans h (by decide)
    rw [if_pos e1, if_neg (Int32.lt_asymm h)]
    exact ⟨0, by omega, rfl⟩
  · have e1 : ¬ v < 9 := by
      intro z
      exact absurd (Int32.lt_of_le_of_lt h z) (by decide)
    rw [if_neg e1]
    exact ⟨9, by omega, rfl⟩
def cst (p v : Int32) : Int32 := if p = 0 then v.toInt8.toInt32 else if p = 1 then v.toInt16.toInt32 else v
def hvS (p1 p2 p3 p4 : Int32) (j : Nat) : Int32 := if p1 = 3 ∨ p2 ≤ nI j then 0 else cl9 (cst p1 (p3 + nI j * p4))
def smS (g : Nat → Int32) : Nat → Int32
  | 0 => 0
  | k + 1 => smS g k + g k
theorem hvS_n (p1 p2 p3 p4 : Int32) (j : Nat) : ∃ n, n ≤ 9 ∧ hvS p1 p2 p3 p4 j = nI n := by
  unfold hvS
  by_cases c : p1 = 3 ∨ p2 ≤ nI j
  · rw [if_pos c]; exact ⟨0, by omega, rfl⟩
  · rw [if_neg c]; exact cl9_n _
theorem x_entry (p v : Int32) : f_X11_sheetEntry p v = some (cl9 (cst p v)) := by
  unfold f_X11_sheetEntry cst cl9
  by_cases c0 : p = 0
  · rw [if_pos c0, if_pos c0]; rfl
  · rw [if_neg c0, if_neg c0]
    by_cases c1 : p = 1
    · rw [if_pos c1, if_pos c1]; rfl
    · rw [if_neg c1, if_neg c1]
section
variable {F : Nat} {p1 p2 p3 p4 tw : Int32} {ch mh : Nat → Int32}
theorem sh_u {g : Nat → Int32} {k : Nat} {x : Int32} {h : Nat → Int32} (hI : ∀ j, j < k → g j = h j) (hx : x = h k) : ∀ j, j < k + 1 → upd g k x j = h j := by
  intro j hj
  by_cases e : j = k
  · subst e; rw [upd_s]; exact hx
  · rw [upd_n e]; exact hI j (by omega)
theorem x_shL (hF : F ≤ 8) (t lim : Int32) (ht : (t = 1 ∧ p1 = 3 ∧ lim = 0) ∨ (t = 0 ∧ p1 ≠ 3 ∧ lim = p2)) : Rt (j_X11_sheet_51 p1 p3 p4 (nI F) ch t lim) (fun r => r.1 = (if p1 = 3 then -3 else smS (hvS p1 p2 p3 p4) F) ∧ ∀ j, j < F → r.2 j = hvS p1 p2 p3 p4 j) := by
  unfold j_X11_sheet_51
  refine rl3 8 (fun k s v g => v = nI k ∧ k ≤ F ∧ s = smS (hvS p1 p2 p3 p4) k ∧ ∀ j, j < k → g j = hvS p1 p2 p3 p4 j) (by omega) ⟨rfl, by omega, rfl, by omega⟩ ?_
  rintro rc k s v g ⟨rfl, hk, rfl, hI⟩ ih
  unfold s_X11_sheet_59
  by_cases c : F ≤ k
  · obtain rfl : F = k := by omega
    refine rt_t (nI_le (Nat.le_refl _) (by omega)) ?_
    unfold k_X11_sheet_59
    rcases ht with ⟨rfl, h2, h3⟩ | ⟨rfl, h2, h3⟩
    · refine rt_f i10n (rt_some ⟨?_, hI⟩)
      rw [if_pos h2]
    · refine rt_t rfl (rt_some ⟨?_, hI⟩)
      rw [if_neg h2]
  · refine rt_f (nI_ge (by omega) (by omega)) ?_
    by_cases cl : lim ≤ nI k
    · have hz : (0 : Int32) = hvS p1 p2 p3 p4 k := by
        unfold hvS
        rw [if_pos]
        rcases ht with ⟨_, h2, _⟩ | ⟨_, _, h3⟩
        · exact .inl h2
        · right; rw [← h3]; exact cl
      refine rt_t cl (rt_gx (by omega) (by omega) (rt_lt (rt_lt (ih (by omega) _ _ _ ⟨nI_1 _, by omega, ?_, ?_⟩))))
      · show _ + (0 : Int32) = smS _ k + hvS p1 p2 p3 p4 k
        rw [← hz]
      · rw [nI_clamp (by omega)]; exact sh_u hI hz
    · have hz : cl9 (cst p1 (p3 + nI k * p4)) = hvS p1 p2 p3 p4 k := by
        unfold hvS
        rw [if_neg]
        rcases ht with ⟨_, _, h3⟩ | ⟨_, h2, h3⟩
        · exact absurd (h3 ▸ nI_le (a := 0) (by omega) (by omega)) cl
        · rw [← h3]; rintro (z | z)
          · exact h2 z
          · exact cl z
      refine rt_f cl (re1 (x_entry _ _) (rt_gx (by omega) (by omega) (rt_lt (rt_lt (ih (by omega) _ _ _ ⟨nI_1 _, by omega, ?_, ?_⟩)))))
      · show smS _ k + _ = smS _ k + hvS p1 p2 p3 p4 k
        rw [← hz]
      · rw [nI_clamp (by omega)]; exact sh_u hI hz
theorem m_shL (hF : F ≤ 8) (hp : p1 = 0 ∨ p1 = 1 ∨ p1 = 2 ∨ p1 = 3) : Rt (j_X12_sheet_34 p1 p2 p3 p4 (nI F) mh ()) (fun r => r.1 = (if p1 = 3 then -3 else smS (hvS p1 p2 p3 p4) F) ∧ r.2.1 = 0 ∧ ∀ j, j < F → r.2.2 j = hvS p1 p2 p3 p4 j) := by
  unfold j_X12_sheet_34
  refine rl4 8 (fun k s w v g => v = nI k ∧ k ≤ F ∧ w = p3 + nI k * p4 ∧ s = smS (hvS p1 p2 p3 p4) k ∧ ∀ j, j < k → g j = hvS p1 p2 p3 p4 j) (by omega) ⟨rfl, by omega, ?_, rfl, by omega⟩ ?_
  · rw [show nI 0 = 0 from rfl, Int32.zero_mul, Int32.add_zero]
  rintro rc k s w v g ⟨rfl, hk, rfl, rfl, hI⟩ ih
  unfold s_X12_sheet_43
  by_cases c : F ≤ k
  · obtain rfl : F = k := by omega
    refine rt_t (nI_le (Nat.le_refl _) (by omega)) ?_
    unfold k_X12_sheet_43
    by_cases h3 : p1 = 3
    · refine rt_t h3 (rt_some ⟨?_, rfl, hI⟩)
      rw [if_pos h3]
    · refine rt_f h3 (rt_some ⟨?_, rfl, hI⟩)
      rw [if_neg h3]
  · refine rt_f (nI_ge (by omega) (by omega)) ?_
    have hw : p3 + nI k * p4 + p4 = p3 + nI (k + 1) * p4 := by
      rw [← nI_1, Int32.add_mul, Int32.one_mul, Int32.add_assoc]
    have z94 : p1 = 3 ∨ p2 ≤ nI k → Rt (j_X12_sheet_94 p4 rc (nI k) (smS (hvS p1 p2 p3 p4) k) (p3 + nI k * p4) (nI k) g) (fun r => r.1 = (if p1 = 3 then -3 else smS (hvS p1 p2 p3 p4) F) ∧ r.2.1 = 0 ∧ ∀ j, j < F → r.2.2 j = hvS p1 p2 p3 p4 j) := by
      intro hc
      have hz : (0 : Int32) = hvS p1 p2 p3 p4 k := by
        unfold hvS
        rw [if_pos hc]
      unfold j_X12_sheet_94
      refine rt_gx (by omega) (by omega) (rt_gx (by omega) (by omega) (rt_lt (rt_lt (rt_lt (ih (by omega) _ _ _ _ ⟨nI_1 _, by omega, hw, ?_, ?_⟩)))))
      · rw [nI_clamp (by omega), upd_s, hz]; rfl
      · rw [nI_clamp (by omega)]; exact sh_u hI hz
    have z75 : Rt (j_X12_sheet_75 p1 p2 p4 rc (smS (hvS p1 p2 p3 p4) k) (p3 + nI k * p4) (nI k) g (cst p1 (p3 + nI k * p4))) (fun r => r.1 = (if p1 = 3 then -3 else smS (hvS p1 p2 p3 p4) F) ∧ r.2.1 = 0 ∧ ∀ j, j < F → r.2.2 j = hvS p1 p2 p3 p4 j) := by
      unfold j_X12_sheet_75
      by_cases h3 : p1 = 3
      · exact rt_t h3 (z94 (.inl h3))
      · refine rt_f h3 ?_
        by_cases cl : nI k < p2
        · have hz : cl9 (cst p1 (p3 + nI k * p4)) = hvS p1 p2 p3 p4 k := by
            unfold hvS
            rw [if_neg]
            rintro (z | z)
            · exact h3 z
            · exact absurd cl (Int32.not_lt.mpr z)
          refine rt_t cl (rt_gx (by omega) (by omega) (rt_gx (by omega) (by omega) (rt_lt (rt_lt (rt_lt (ih (by omega) _ _ _ _ ⟨nI_1 _, by omega, hw, ?_, ?_⟩))))))
          · rw [nI_clamp (by omega), upd_s]
            show smS _ k + _ = smS _ k + hvS p1 p2 p3 p4 k
            rw [← hz]; rfl
          · rw [nI_clamp (by omega)]; exact sh_u hI hz
        · exact rt_f cl (z94 (.inr (Int32.not_lt.mp cl)))
    have ec : ∀ {q : Int32}, q = cst p1 (p3 + nI k * p4) → Rt (j_X12_sheet_75 p1 p2 p4 rc (smS (hvS p1 p2 p3 p4) k) (p3 + nI k * p4) (nI k) g q) (fun r => r.1 = (if p1 = 3 then -3 else smS (hvS p1 p2 p3 p4) F) ∧ r.2.1 = 0 ∧ ∀ j, j < F → r.2.2 j = hvS p1 p2 p3 p4 j) := by
      rintro q rfl; exact z75
    by_cases c0 : p1 = 0
    · refine rt_t c0 (ec ?_)
      unfold cst; rw [if_pos c0]
    · refine rt_f c0 ?_
      by_cases c1 : p1 = 1
      · refine rt_t c1 (ec ?_)
        unfold cst; rw [if_neg c0, if_pos c1]
      · refine rt_f c1 (ec ?_)
        unfold cst; rw [if_neg c0, if_neg c1]
theorem pr_sheet {ht : Nat → Nat} (hF : F ≤ 8) (h1 : okT F ht ch) (h2 : okT F ht mh) : Rt (f_X11_sheet p1 p2 p3 p4 (nI F) ch) (fun a => Rt (f_X12_sheet p1 p2 p3 p4 (nI F) tw mh) (fun b => a.1 = b.1 ∧ b.2.1 = 0 ∧ ∃ ht', okT F ht' a.2 ∧ okT F ht' b.2.2)) := by
  have hin : f_X12_in p1 0 3 = some (if p1 < 0 then 0 else if 3 < p1 then 0 else 1) := m_in
  have same : ∀ v : Int32, v = v ∧ (0 : Int32) = 0 ∧ ∃ ht', okT F ht' ch ∧ okT F ht' mh := fun v => ⟨rfl, rfl, ht, h1, h2⟩
  unfold f_X11_sheet
  by_cases c1 : p1 < 0
  · refine rt_t c1 (rt_some ?_)
    unfold f_X12_sheet
    refine re1 hin ?_
    rw [if_pos c1]
    exact rt_t rfl (rt_some (same _))
  refine rt_f c1 ?_
  by_cases c2 : 3 < p1
  · refine rt_t c2 (rt_some ?_)
    unfold f_X12_sheet
    refine re1 hin ?_
    rw [if_neg c1, if_pos c2]
    exact rt_t rfl (rt_some (same _))
  refine rt_f c2 ?_
  rw [if_neg c1, if_neg c2] at hin
  have hp : p1 = 0 ∨ p1 = 1 ∨ p1 = 2 ∨ p1 = 3 := by
    rcases bel p1 4 (by omega) with ⟨k, hk, rfl⟩ | h | h
    · obtain rfl | rfl | rfl | rfl : k = 0 ∨ k = 1 ∨ k = 2 ∨ k = 3 := by omega
      · exact .inl rfl
      · exact .inr (.inl rfl)
      · exact .inr (.inr (.inl rfl))
      · exact .inr (.inr (.inr rfl))
    · exact absurd h c1
    · exact absurd (Int32.lt_of_lt_of_le (by decide) h) c2
  have h3e : 3 ≤ p1 ↔ p1 = 3 := by
    constructor
    · intro z; exact Int32.le_antisymm (Int32.not_lt.mp c2) z
    · rintro rfl; exact Int32.le_refl _
  by_cases c8 : p2 ≤ 8
  · refine rt_t c8 ?_
    have goM : ∀ a : Int32 × (Nat → Int32), (a.1 = (if p1 = 3 then -3 else smS (hvS p1 p2 p3 p4) F) ∧ ∀ j, j < F → a.2 j = hvS p1 p2 p3 p4 j) → (p1 = 3 ∨ 0 ≤ p2) → Rt (f_X12_sheet p1 p2 p3 p4 (nI F) tw mh) (fun b => a.1 = b.1 ∧ b.2.1 = 0 ∧ ∃ ht', okT F ht' a.2 ∧ okT F ht' b.2.2) := by
      rintro a ⟨a1, a2⟩ hc
      unfold f_X12_sheet
      have hL := rt_mono (Q := fun b => a.1 = b.1 ∧ b.2.1 = 0 ∧ ∃ ht', okT F ht' a.2 ∧ okT F ht' b.2.2) (m_shL (p2 := p2) (p3 := p3) (p4 := p4) (mh := mh) hF hp) (by
        rintro b ⟨b1, b2, b3⟩
        refine ⟨a1.trans b1.symm, b2, fun j => (hvS_n p1 p2 p3 p4 j).choose, fun j hj => ?_, fun j hj => ?_⟩
        · have := (hvS_n p1 p2 p3 p4 j).choose_spec
          exact ⟨this.1, (a2 j hj).trans this.2⟩
        · have := (hvS_n p1 p2 p3 p4 j).choose_spec
          exact ⟨this.1, (b3 j hj).trans this.2⟩)
      refine re1 hin (rt_f i10n (rt_t c8 ?_))
      by_cases h3 : p1 = 3
      · exact rt_t (h3e.mpr h3) hL
      · exact rt_f (fun z => h3 (h3e.mp z)) (rt_t (hc.resolve_left h3) hL)
    by_cases h3 : p1 = 3
    · refine rt_t h3 ?_
      unfold j_X11_sheet_27 j_X11_sheet_41
      exact rt_f i10n (rt_f i10n (rt_mono (x_shL hF 1 0 (.inl ⟨rfl, h3, rfl⟩)) (fun a ha => goM a ha (.inl h3))))
    · refine rt_f h3 ?_
      unfold j_X11_sheet_27 j_X11_sheet_41
      refine rt_t rfl ?_
      by_cases c0 : 0 ≤ p2
      · exact rt_t c0 (rt_t rfl (rt_mono (x_shL hF 0 p2 (.inr ⟨rfl, h3, rfl⟩)) (fun a ha => goM a ha (.inr c0))))
      · refine rt_f c0 (rt_some ?_)
        unfold f_X12_sheet
        exact re1 hin (rt_f i10n (rt_t c8 (rt_f (fun z => h3 (h3e.mp z)) (rt_f c0 (rt_some (same _))))))
  · refine rt_f c8 (rt_some ?_)
    unfold f_X12_sheet
    exact re1 hin (rt_f i10n (rt_f c8 (rt_some (same _))))
theorem x_all {mo : Nat → Nat} {tm : Nat → Int32} (h : okY mo tm) : f_X10_moneyInAll tm = some (smS (fun j => nI (mo j)) 6) := by
  refine rt_get ?_
  unfold f_X10_moneyInAll
  refine rl2 6 (fun k s v => v = nI k ∧ k ≤ 6 ∧ s = smS (fun j => nI (mo j)) k) (by omega) ⟨rfl, by omega, rfl⟩ ?_
  rintro rc k s v ⟨rfl, hk, rfl⟩ ih
  unfold s_X10_moneyInAll_4
  by_cases c : 6 ≤ k
  · obtain rfl : k = 6 := by omega
    exact rt_t (by decide) (rt_some rfl)
  · refine rt_f (nI_ge (b := 6) (by omega) (by omega)) (rt_gx (by omega) (by omega) (rt_lt (rt_lt (ih (by omega) _ _ ⟨nI_1 _, by omega, ?_⟩))))
    rw [nI_clamp (by omega), (h k (by omega)).2]; rfl
theorem m_all {mo : Nat → Nat} {mm : Nat → Int32} (h : okY mo mm) : ml2 (s_X12_count_115 mm (k_X12_count_115)) zN 0 0 = some (smS (fun j => nI (mo j)) 6, 0) := by
  refine rt_get ?_
  refine rl2 6 (fun k s v => v = nI k ∧ k ≤ 6 ∧ s = smS (fun j => nI (mo j)) k) (by omega) ⟨rfl, by omega, rfl⟩ ?_
  rintro rc k s v ⟨rfl, hk, rfl⟩ ih
  unfold s_X12_count_115
  by_cases c : 6 ≤ k
  · obtain rfl : k = 6 := by omega
    exact rt_t (by decide) (rt_some rfl)
  · refine rt_f (nI_ge (b := 6) (by omega) (by omega)) (rt_gx (by omega) (by omega) (rt_lt (rt_lt (rt_lt (ih (by omega) _ _ ⟨nI_1 _, by omega, ?_⟩)))))
    rw [nI_clamp (by omega), (h k (by omega)).2]; rfl
theorem pr_count {mo : Nat → Nat} {cz ts rs f hs ps al hc : Int32} {tr to tf tx mn tm mm : Nat → Int32} (hX : tX cz tr to tf tx mn) (h1 : okY mo tm) (h2 : okY mo mm) : ∃ v, f_X11_count p1 ts rs f hs ps al cz hc tm = some v ∧ f_X12_count p1 f al hs ps ts rs tw hc mn mm = some (v, 0) := by
  have hn : mn 48 = cz := by
    obtain ⟨n, _, _, _, _, _, e1, e2, _⟩ := hX
    rw [e1, e2]
  have e48 : (48 : Int32).toNatClampNeg = 48 := by rw [c_48, nI_clamp (by omega)]
  unfold f_X11_count f_X12_count
  rw [x_all h1, m_all h2, e48, hn, c_48, gx (by omega) (by omega)]
  by_cases d0 : p1 = 0
  · simp only [d0, if_true]; exact ⟨_, rfl, rfl⟩
  by_cases d1 : p1 = 1
  · simp only [d0, d1, if_true, if_false]; exact ⟨_, rfl, rfl⟩
  by_cases d2 : p1 = 2
  · simp only [d0, d1, d2, if_true, if_false]; exact ⟨_, rfl, rfl⟩
  by_cases d3 : p1 = 3
  · simp only [d0, d1, d2, d3, if_true, if_false]; exact ⟨_, rfl, rfl⟩
  by_cases d4 : p1 = 4
  · simp only [d0, d1, d2, d3, d4, if_true, if_false]; exact ⟨_, rfl, rfl⟩
  by_cases d5 : p1 = 5
  · simp only [d0, d1, d2, d3, d4, d5, if_true, if_false]; exact ⟨_, rfl, rfl⟩
  by_cases d6 : p1 = 6
  · simp only [d0, d1, d2, d3, d4, d5, d6, if_true, if_false]; exact ⟨_, rfl, rfl⟩
  by_cases d7 : p1 = 7
  · simp only [d0, d1, d2, d3, d4, d5, d6, d7, if_true, if_false]; exact ⟨_, rfl, rfl⟩
  by_cases d8 : p1 = 8
  · simp only [d0, d1, d2, d3, d4, d5, d6, d7, d8, if_true, if_false]; exact ⟨_, rfl, rfl⟩
  simp only [d0, d1, d2, d3, d4, d5, d6, d7, d8, if_false]; exact ⟨_, rfl, rfl⟩
end
