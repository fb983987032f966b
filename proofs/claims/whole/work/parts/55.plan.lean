/-! plan, prizes -/
section
variable {y F P : Nat} {tc pl : Nat → Nat} {ts mt tw : Int32} {sg mx cp mp : Nat → Int32}
theorem ix89T {q : Nat} (h : 97 ≤ q ∧ q ≤ 104) : sidx 89 (nI q) = nI (q - 97) := by rw [ix89 q (by omega), if_pos h]
theorem ix89F {q : Nat} (hq : q < 256) (h : ¬ (97 ≤ q ∧ q ≤ 104)) : sidx 89 (nI q) < 0 := by rw [ix89 q hq, if_neg h]; decide
theorem pr_plan (hT : okTx y tc ts sg mt mx) (hF : F ≤ 8) (hX : okP P F pl cp) (hM : okP P F pl mp) (tl ta : Int32) : Rt (f_X11_plan ts tl ta (nI F) (nI P) sg cp) (fun a => Rt (f_X12_plan (nI F) (nI P) mt tw mp mx) (fun b => a.1 = b.1 ∧ b.2.2.2.1 = 0 ∧ (a.2.1 = 0 ∧ b.2.2.1 = 0) ∧ ∃ P' pl', a.2.2.2.2.1 = nI P' ∧ b.2.1 = nI P' ∧ okP P' F pl' a.2.2.2.2.2 ∧ okP P' F pl' b.2.2.2.2)) := by
  have hR := okTx_R (T := 80) hT (by omega)
  obtain ⟨hy, rfl, rfl, hk⟩ := hT
  rw [Nat.min_eq_left hy] at hR
  have hP := hX.1
  by_cases hP6 : P = 6
  · subst hP6
    unfold f_X11_plan
    refine re5 (show f_X1_readPlan (nI y) tl ta (nI F) (nI 6) sg cp = some (-100, tl, ta, nI 6, cp) from by unfold f_X1_readPlan; rw [if_neg (by decide)]) (re1 rfl (rt_some ?_))
    unfold f_X12_plan
    exact rt_t rfl (rt_some ⟨rfl, rfl, ⟨rfl, rfl⟩, 6, pl, rfl, rfl, hX, hM⟩)
  · obtain ⟨q, hq1, hq2⟩ := pk_least (fun k => k = F ∨ k = y ∨ (k < y ∧ ¬ (97 ≤ tc k ∧ tc k ≤ 104))) ⟨F, .inl rfl⟩
    have hqF : q ≤ F := Nat.le_of_not_lt (fun z => hq2 F z (.inl rfl))
    have hqy : q ≤ y := Nat.le_of_not_lt (fun z => hq2 y z (.inr (.inl rfl)))
    have hgood : ∀ j, j < q → 97 ≤ tc j ∧ tc j ≤ 104 := fun j hj => Classical.byContradiction (fun z => hq2 j hj (.inr (.inr ⟨by omega, z⟩)))
    have hx : Rt (f_X11_plan (nI y) tl ta (nI F) (nI P) sg cp) (fun a => a.2.1 = 0 ∧ ((q = F ∧ q = y ∧ a.1 = nI P ∧ a.2.2.2.2.1 = nI (P + 1) ∧ (∀ j, j < 8 * P → a.2.2.2.2.2 j = cp j) ∧ ∀ f, f < F → a.2.2.2.2.2 (8 * P + f) = nI (tc f - 97)) ∨ (¬ (q = F ∧ q = y) ∧ a.1 = -1 - nI q ∧ a.2.2.2.2.1 = nI P ∧ ∀ j, j < 8 * P → a.2.2.2.2.2 j = cp j))) := by
      unfold f_X11_plan
      refine rb5 (P := fun (a : Int32 × Int32 × Int32 × Int32 × (Nat → Int32)) => (q = F ∧ q = y ∧ a.1 = nI P ∧ a.2.2.2.1 = nI (P + 1) ∧ (∀ j, j < 8 * P → a.2.2.2.2 j = cp j) ∧ ∀ f, f < F → a.2.2.2.2 (8 * P + f) = nI (tc f - 97)) ∨ (¬ (q = F ∧ q = y) ∧ a.1 = -1 - nI q ∧ a.2.2.2.1 = nI P ∧ ∀ j, j < 8 * P → a.2.2.2.2 j = cp j)) ?_ (fun a1 a2 a3 a4 a5 ha => re1 (show f_X9_clear (nI y) = some 0 from rfl) (rt_some ⟨rfl, ha⟩))
      unfold f_X1_readPlan
      refine rt_t (nI_lt (b := 6) (by omega) (by omega)) (re2 (x_open (k := 80) (by omega) hy tl ta) ?_)
      rw [Nat.min_eq_left hy]
      refine rl3 8 (fun f v2 at' g => v2 = nI f ∧ at' = nI f ∧ f ≤ q ∧ (∀ j, j < 8 * P → g j = cp j) ∧ ∀ j, j < f → g (8 * P + j) = nI (tc j - 97)) (by omega) ⟨rfl, rfl, by omega, fun _ _ => rfl, by omega⟩ ?_
      rintro rc f v2 at' g ⟨rfl, rfl, hf, g1, g2⟩ ih
      unfold s_X1_readPlan_20
      by_cases c1 : F ≤ f
      · have hqf : q = F := by omega
        refine rt_t (nI_le c1 (by omega)) ?_
        unfold k_X1_readPlan_20
        refine re1 (x_done hy (by omega)) ?_
        by_cases c2 : f = y
        · rw [if_pos c2]
          refine rt_f i10n (rt_some (.inl ⟨hqf, by omega, ?_, ?_, g1, fun j hj => g2 j (by omega)⟩))
          · show nI P + 1 - 1 = nI P
            rw [nI_1, nI_pred]
          · exact nI_1 P
        · rw [if_neg c2]
          refine rt_t rfl (re1 rfl (rt_some (.inr ⟨by omega, ?_, rfl, g1⟩)))
          show -1 - nI f = _
          rw [show f = q by omega]
      · refine rt_f (nI_ge (by omega) (by omega)) ?_
        by_cases c2 : f < y ∧ 97 ≤ tc f ∧ tc f ≤ 104
        · have hfq : f < q := by
            rcases Nat.lt_or_eq_of_le hf with z | z
            · exact z
            · subst z
              rcases hq1 with z | z | z
              · omega
              · omega
              · exact absurd c2.2 z.2
          refine re2 (x_oneT hR (by decide) c2.1 (by omega) (ix89T c2.2)) (rt_t (nI_le (a := 0) (by omega) (by omega)) ?_)
          rw [c_8, pk_mul, nI_add, Nat.mul_comm P 8, gx (by omega) (by omega), nI_clamp (by omega)]
          refine rt_lt (ih (by omega) _ _ _ ⟨nI_1 _, rfl, by omega, fun j hj => ?_, fun j hj => ?_⟩)
          · rw [upd_n (by omega)]; exact g1 j hj
          · by_cases e : j = f
            · subst e; rw [upd_s]
            · rw [upd_n (by omega)]; exact g2 j (by omega)
        · have hfq : f = q := by
            rcases Nat.lt_or_eq_of_le hf with z | z
            · exact absurd ⟨by omega, hgood f z⟩ c2
            · exact z
          obtain ⟨v, hv, e⟩ := x_oneF (a := f) (s := 89) hR (by omega) (by decide) (fun z => ix89F (hk f (by omega)).1 (fun w => c2 ⟨by omega, w⟩))
          refine re2 e (rt_f (Int32.not_le.mpr hv) (re1 rfl (rt_some (.inr ⟨by omega, ?_, rfl, g1⟩))))
          show -1 - nI f = _
          rw [hfq]
    have hm : Rt (f_X12_plan (nI F) (nI P) (nI y) tw mp mx) (fun b => b.2.2.2.1 = 0 ∧ b.2.2.1 = 0 ∧ ((q = F ∧ q = y ∧ b.1 = nI P ∧ b.2.1 = nI (P + 1) ∧ (∀ j, j < 8 * P → b.2.2.2.2 j = mp j) ∧ ∀ f, f < F → b.2.2.2.2 (8 * P + f) = nI (tc f - 97)) ∨ (¬ (q = F ∧ q = y) ∧ b.1 = -1 - nI q ∧ b.2.1 = nI P ∧ b.2.2.2.2 = mp))) := by
      unfold f_X12_plan
      refine rt_f (fun z => hP6 ((nI_eq (b := 6) (by omega) (by omega)).mp z)) ?_
      refine rl1 80 (fun k v2 => v2 = nI k ∧ k ≤ q) (by omega) ⟨rfl, by omega⟩ ?_
      rintro rc k v2 ⟨rfl, hkq⟩ ih
      unfold s_X12_plan_29
      by_cases c1 : y ≤ k
      · have hqy' : q = y := by omega
        refine rt_t (nI_le c1 (by omega)) ?_
        unfold k_X12_plan_29
        by_cases c2 : F ≤ y
        · refine rt_t (nI_le c2 (by omega)) ?_
          refine rl2 8 (fun i v2 g => v2 = nI i ∧ i ≤ y ∧ (∀ j, j < 8 * P → g j = mp j) ∧ ∀ j, j < i → g (8 * P + j) = nI (tc j - 97)) (by omega) ⟨rfl, by omega, fun _ _ => rfl, by omega⟩ ?_
          rintro rc2 i v2 g ⟨rfl, hi, g1, g2⟩ ih2
          unfold s_X12_plan_82
          by_cases c3 : y ≤ i
          · refine rt_t (nI_le c3 (by omega)) ?_
            unfold k_X12_plan_82
            refine rt_some ⟨rfl, rfl, .inl ⟨by omega, hqy', ?_, nI_1 P, g1, fun j hj => g2 j (by omega)⟩⟩
            show nI P + 1 - 1 = nI P
            rw [nI_1, nI_pred]
          · have hgi := hgood i (by omega)
            refine rt_f (nI_ge (by omega) (by omega)) ?_
            rw [gx (by omega) (by omega), c_8, pk_mul, nI_add, gx (by omega) (by omega), nI_clamp (by omega), nI_clamp (by omega), (hk i (by omega)).2.2, byt_lo _ (by omega), c_97, pk_sub (by omega)]
            refine rt_lt (ih2 (by omega) _ _ ⟨nI_1 _, by omega, fun j hj => ?_, fun j hj => ?_⟩)
            · rw [upd_n (by omega)]; exact g1 j hj
            · by_cases e : j = i
              · subst e; rw [upd_s]
              · rw [upd_n (by omega)]; exact g2 j (by omega)
        · refine rt_f (nI_ge (by omega) (by omega)) (rt_some ⟨rfl, rfl, .inr ⟨by omega, ?_, rfl, rfl⟩⟩)
          show -1 - nI y = _
          rw [hqy']
      · refine rt_f (nI_ge (by omega) (by omega)) ?_
        by_cases c2 : k = F
        · refine rt_t (congrArg nI c2) (rt_some ⟨rfl, rfl, .inr ⟨by omega, ?_, rfl, rfl⟩⟩)
          show -1 - nI k = _
          rw [show k = q by omega]
        · refine rt_f (fun z => c2 ((nI_eq (by omega) (by omega)).mp z)) (rt_gx (by omega) (by omega) ?_)
          rw [nI_clamp (by omega), (hk k (by omega)).2.2]
          have ein : f_X12_in (byt (tc k)) 97 104 = some (if 97 ≤ tc k ∧ tc k ≤ 104 then 1 else 0) := byt_in (lo := 97) (hi := 104) (hk k (by omega)).1 (by omega) (by omega)
          refine re1 ein ?_
          by_cases c3 : 97 ≤ tc k ∧ tc k ≤ 104
          · have hiq : k < q := by
              rcases Nat.lt_or_eq_of_le hkq with z | z
              · exact z
              · subst z
                rcases hq1 with z | z | z
                · omega
                · omega
                · exact absurd c3 z.2
            rw [if_pos c3]
            exact rt_f i10n (rt_lt (ih (by omega) _ ⟨nI_1 _, by omega⟩))
          · have hiq : k = q := by
              rcases Nat.lt_or_eq_of_le hkq with z | z
              · exact absurd (hgood k z) c3
              · exact z
            rw [if_neg c3]
            refine rt_t rfl (rt_some ⟨rfl, rfl, .inr ⟨by omega, ?_, rfl, rfl⟩⟩)
            show -1 - nI k = _
            rw [hiq]
    refine rt_and hx hm ?_
    rintro a b ⟨a0, ha⟩ ⟨b0, b1, hb⟩
    rcases ha with ⟨k1, k2, a1, a2, a3, a4⟩ | ⟨k1, a1, a2, a3⟩
    · rcases hb with ⟨_, _, b2, b3, b4, b5⟩ | ⟨k3, _⟩
      · have hn : ∀ (g cp' : Nat → Int32), okP P F pl cp' → (∀ j, j < 8 * P → g j = cp' j) → (∀ f, f < F → g (8 * P + f) = nI (tc f - 97)) → okP (P + 1) F (fun j => if j < 8 * P then pl j else tc (j - 8 * P) - 97) g := by
          intro g cp' hc g1 g2
          refine ⟨by omega, fun p hp f hf => ?_⟩
          by_cases e : p = P
          · subst e
            simp only [if_neg (show ¬ 8 * p + f < 8 * p by omega), show 8 * p + f - 8 * p = f by omega]
            have := hgood f (by omega)
            exact ⟨by omega, g2 f hf⟩
          · simp only [if_pos (show 8 * p + f < 8 * P by omega)]
            rw [g1 _ (by omega)]
            exact hc.2 p (by omega) f hf
        exact ⟨a1.trans b2.symm, b0, ⟨a0, b1⟩, P + 1, _, a2, b3, hn _ _ hX a3 a4, hn _ _ hM b4 b5⟩
      · exact absurd ⟨k1, k2⟩ k3
    · rcases hb with ⟨k2, k3, _⟩ | ⟨_, b2, b3, b4⟩
      · exact absurd ⟨k2, k3⟩ k1
      · refine ⟨a1.trans b2.symm, b0, ⟨a0, b1⟩, P, pl, a2, b3, ⟨hX.1, fun p hp f hf => ?_⟩, by rw [b4]; exact hM⟩
        rw [a3 _ (by omega)]
        exact hX.2 p hp f hf
end
