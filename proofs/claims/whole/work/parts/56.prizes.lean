/-! prizes -/
section
variable {y : Nat} {tc mo : Nat → Nat} {ts mt tw : Int32} {sg mx tm mm : Nat → Int32}
theorem fill_dr (v : Int32) (z : Nat → Int32) : Rt (f_J7_fill_53178_rounds_draft v z) (fun g => ∀ j, j < 6 → g j = v) := by
  unfold f_J7_fill_53178_rounds_draft
  refine rl2 6 (fun k v2 g => v2 = nI k ∧ k ≤ 6 ∧ ∀ j, j < k → g j = v) (by omega) ⟨rfl, by omega, by omega⟩ ?_
  rintro rc k v2 g ⟨rfl, hk, hI⟩ ih
  unfold s_J7_fill_53178_rounds_draft_5
  by_cases hkn : 6 ≤ k
  · obtain rfl : k = 6 := by omega
    exact rt_t (by decide) (rt_some hI)
  · refine rt_f (nI_ge (b := 6) (by omega) (by omega)) ?_
    simp (disch := omega) only [gx, lt1_e, nI_1, nI_clamp]
    refine ih (by omega) _ _ ⟨rfl, by omega, fun i hi => ?_⟩
    by_cases e : i = k
    · subst e; rw [upd_s]
    · rw [upd_n (by omega)]; exact hI i (by omega)
theorem m_prizesK {n1 at' w : Int32} {nm : Nat → Int32} (hw : w ≠ -1) : Rt (k_X12_prizes_28 mm (nI y) (nI 80) n1 at' w nm) (fun b => b.1 = -1 - w ∧ b.2.1 = 0 ∧ b.2.2.1 = 0 ∧ b.2.2.2.2.2.2.2.1 = mm) := by
  have hj : Rt (j_X12_prizes_99 mm (nI y) (nI 80) n1 at' nm w) (fun b => b.1 = -1 - w ∧ b.2.1 = 0 ∧ b.2.2.1 = 0 ∧ b.2.2.2.2.2.2.2.1 = mm) := by
    unfold j_X12_prizes_99
    exact re1 (m_fine_f hw) (rt_t rfl (rt_some ⟨rfl, rfl, rfl, rfl⟩))
  unfold k_X12_prizes_28
  exact rt_if (fun _ => hj) (fun _ => re1 (m_fault_f _ hw) hj)
theorem pr_prizes (hT : okTx y tc ts sg mt mx) (hY : okY mo tm) (hZ : okY mo mm) (tl ta q1 q2 q3 q4 q5 : Int32) (dr nm : Nat → Int32) : Rt (f_X11_prizes ts tl ta sg tm dr) (fun a => Rt (f_X12_prizes mt tw q1 q2 q3 q4 q5 mm mx nm) (fun b => a.1 = b.1 ∧ b.2.2.1 = 0 ∧ (a.2.1 = 0 ∧ b.2.1 = 0) ∧ ∃ mo', okY mo' a.2.2.2.2.1 ∧ okY mo' b.2.2.2.2.2.2.2.1)) := by
  have hR := okTx_R (T := 80) hT (by omega)
  obtain ⟨hy, rfl, rfl, hk⟩ := hT
  rw [Nat.min_eq_left hy] at hR
  unfold f_X11_prizes
  refine rb5 (P := fun (a : Int32 × Int32 × Int32 × (Nat → Int32) × (Nat → Int32)) => Rt (f_X12_prizes (nI y) tw q1 q2 q3 q4 q5 mm mx nm) (fun b => a.1 = b.1 ∧ b.2.2.1 = 0 ∧ b.2.1 = 0 ∧ ∃ mo', okY mo' a.2.2.2.1 ∧ okY mo' b.2.2.2.2.2.2.2.1)) ?_ (fun a1 a2 a3 a4 a5 ha => re1 (show f_X9_clear (nI y) = some 0 from rfl) (rt_some (rt_mono ha (fun b hb => ⟨hb.1, hb.2.1, ⟨rfl, hb.2.2.1⟩, hb.2.2.2⟩))))
  unfold f_X10_readMoney
  refine re2 (x_open (k := 80) (by omega) hy tl ta) (rb1 (fill_dr _ _) ?_)
  intro d0 hd0
  rw [Nat.min_eq_left hy]
  have hm0 : f_X12_prizes (nI y) tw q1 q2 q3 q4 q5 mm mx nm = ml5 (s_X12_prizes_28 mx (nI y) (nI 80) (k_X12_prizes_28 mm (nI y) (nI 80))) zN 0 1 0 (-1) nm := by
    unfold f_X12_prizes
    rw [bd4_t (show f_X12_begin_m_text (nI y) 80 q1 q2 q3 q4 q5 = some (nI y, nI 80, 0, -1) from rfl)]
  rw [hm0]
  refine rs3_5 6 (fun k v2 at' d n1 more at2 w nm => ∃ (a : Nat) (mv : Nat → Nat), v2 = nI k ∧ at' = nI a ∧ n1 = nI k ∧ more = 1 ∧ at2 = nI a ∧ w = -1 ∧ k ≤ 6 ∧ a ≤ y ∧ ∀ j, j < 6 → (j < k → mv j ≤ 99 ∧ d j = nI (mv j) ∧ nm j = nI (mv j)) ∧ (k ≤ j → d j = 0)) (by omega) ⟨0, fun _ => 0, rfl, rfl, rfl, rfl, rfl, rfl, by omega, by omega, fun j hj => ⟨by omega, fun _ => hd0 j hj⟩⟩ ?_
  rintro rc rc' k v2 at' d n1 more at2 w nm ⟨a, mv, rfl, rfl, rfl, rfl, rfl, rfl, hk6, hay, hd⟩ hr ih
  -- what the reference does once something is wrong
  have hbad : ∀ (q : Nat) (n2 a2 : Int32) (nm2 : Nat → Int32), q < 1000 → Rt (rc' n2 0 a2 (nI q) nm2) (fun b => -1 - nI q = b.1 ∧ b.2.2.1 = 0 ∧ b.2.1 = 0 ∧ b.2.2.2.2.2.2.2.1 = mm) := by
    intro q n2 a2 nm2 hq
    obtain ⟨rc2, e⟩ := hr n2 0 a2 (nI q) nm2
    rw [e]
    unfold s_X12_prizes_28
    refine rt_t rfl (rt_mono (m_prizesK (m1_ne (by omega))) ?_)
    rintro b ⟨b1, b2, b3, b4⟩
    exact ⟨b1.symm, b3, b2, b4⟩
  unfold s_X10_readMoney_16
  by_cases c6 : 6 ≤ k
  · obtain rfl : k = 6 := by omega
    refine rt_t (by decide) ?_
    unfold k_X10_readMoney_16
    refine re1 rfl (rt_some ?_)
    unfold s_X12_prizes_28
    refine rt_f i10n (re1 m_fine_t (rt_f i10n (rt_t rfl (re1 (m_fault_t _) (rt_lt (re2 (m_passes_f (m1_ne (by omega)) _ _ _ _ _) ?_))))))
    refine rt_mono (hbad a _ _ _ (by omega)) ?_
    rintro b ⟨b1, b2, b3, b4⟩
    exact ⟨b1, b2, b3, mo, hY, by rw [b4]; exact hZ⟩
  · refine rt_f (nI_ge (b := 6) (by omega) (by omega)) ?_
    have en := x_num (a := a) (k := 2) hR (by omega) (by omega) (by omega)
    have em := m_num (a := a) (k := 2) hR (by omega) (by omega) (by omega)
    have hnd := nd_le (tc := tc) (l := y) 2 a
    have hrefN : ∀ Q : _ → Prop, (∀ v at3 w3, f_X12_number_t 2 (nI y) (nI 80) (nI a) (-1) mx = some (v, at3, w3) → Rt (bd2 (f_X12_passes_t 44 (nI y) (nI 80) at3 w3 mx) (fun r at4 => rc' (nI k + 1) r at4 w3 (upd nm k v))) Q) → Rt (s_X12_prizes_28 mx (nI y) (nI 80) (k_X12_prizes_28 mm (nI y) (nI 80)) rc' (nI k) 1 (nI a) (-1) nm) Q := by
      intro Q hQ
      unfold s_X12_prizes_28
      refine rt_f i10n (re1 m_fine_t (rt_f i10n (rt_f (fun z => by have := (nI_eq (b := 6) (by omega) (by omega)).mp z; omega) ?_)))
      by_cases z : nd tc y 2 a = 0
      · have em' := em
        rw [if_pos z] at em'
        refine re3 em' (rt_gx (by omega) (by omega) (rt_lt ?_))
        rw [nI_clamp (by omega)]
        exact hQ _ _ _ em'
      · have em' := em
        rw [if_neg z] at em'
        refine re3 em' (rt_gx (by omega) (by omega) (rt_lt ?_))
        rw [nI_clamp (by omega)]
        exact hQ _ _ _ em'
    by_cases z : nd tc y 2 a = 0
    · rw [if_pos z] at en em
      refine re2 en (rt_gx (by omega) (by omega) (rt_gx (by omega) (by omega) ?_))
      rw [nI_clamp (by omega), upd_s]
      refine rt_t rfl (re1 rfl (rt_some (hrefN _ (fun v at3 w3 e => ?_))))
      have e2 := Option.some.inj (em.symm.trans e)
      injection e2 with e3 e4
      injection e4 with e5 e6
      subst e3 e5 e6
      refine re2 (m_passes_f (m1_ne (by omega)) _ _ _ _ _) (rt_mono (hbad a _ _ _ (by omega)) ?_)
      rintro b ⟨b1, b2, b3, b4⟩
      exact ⟨b1, b2, b3, mo, hY, by rw [b4]; exact hZ⟩
    · rw [if_neg z] at en em
      have hv := nv_b (tc := tc) (l := y) (a := a) (k := 2) (by omega) (nd tc y 2 a) (Nat.le_refl _)
      have hv2 : 10 ^ nd tc y 2 a ≤ 10 ^ 2 := Nat.pow_le_pow_right (by omega) hnd
      have hay2 : a + nd tc y 2 a ≤ y := by
        have := (nd_dg (tc := tc) (l := y) 2 a (nd tc y 2 a - 1) (by omega)).1
        omega
      generalize nd tc y 2 a = dn at *
      have hd2 : ∀ j, j < 6 → (j < k + 1 → (uN mv k (nv tc a dn)) j ≤ 99 ∧ upd d k (nI (nv tc a dn)) j = nI ((uN mv k (nv tc a dn)) j) ∧ upd nm k (nI (nv tc a dn)) j = nI ((uN mv k (nv tc a dn)) j)) ∧ (k + 1 ≤ j → upd d k (nI (nv tc a dn)) j = 0) := fun j hj => by
        by_cases e : j = k
        · subst e
          rw [uN_s, upd_s, upd_s]
          exact ⟨fun _ => ⟨by omega, rfl, rfl⟩, by omega⟩
        · rw [uN_n e, upd_n e, upd_n e]
          exact ⟨fun q => (hd j hj).1 (by omega), fun q => (hd j hj).2 (by omega)⟩
      refine re2 en (rt_gx (by omega) (by omega) (rt_gx (by omega) (by omega) ?_))
      rw [nI_clamp (by omega), upd_s]
      refine rt_f (m1_ne (by omega)) (re1 (x_done hy (by omega)) ?_)
      by_cases cd : a + dn = y
      · rw [if_pos cd]
        refine rt_f i10n (rt_gd (by decide) (rt_some (hrefN _ (fun v at3 w3 e => ?_))))
        have e2 := Option.some.inj (em.symm.trans e)
        injection e2 with e3 e4
        injection e4 with e5 e6
        subst e3 e5 e6
        refine re2 (m_passF (c := 44) hR (by omega) (by omega) (by unfold sn; rw [if_neg (by omega)]; omega)) ?_
        obtain ⟨rc2, er⟩ := hr (nI k + 1) 0 (nI (a + dn)) (-1) (upd nm k (nI (nv tc a dn)))
        rw [er]
        unfold s_X12_prizes_28
        refine rt_t rfl ?_
        unfold k_X12_prizes_28
        refine rt_t (nI_le (by omega) (by omega)) ?_
        unfold j_X12_prizes_99
        refine re1 m_fine_t (rt_f i10n ?_)
        rw [nI_1]
        refine rl2 6 (fun i v3 g => v3 = nI i ∧ i ≤ 6 ∧ ∀ j, j < i → g j = nI (if j < k + 1 then (uN mv k (nv tc a dn)) j else 0)) (by omega) ⟨rfl, by omega, by omega⟩ ?_
        rintro rc3 i v3 g ⟨rfl, hi, hg⟩ ih3
        unfold s_X12_prizes_115
        by_cases ci : 6 ≤ i
        · obtain rfl : i = 6 := by omega
          refine rt_t (by decide) (rt_some ⟨rfl, rfl, rfl, fun j => if j < k + 1 then (uN mv k (nv tc a dn)) j else 0, fun j hj => ?_, fun j hj => ?_⟩)
          · show _ ∧ va_cpy (upd d k (nI (nv tc a dn))) tm 0 0 6 j = _
            rw [cpy_i (i := j) (by omega) hj, Nat.zero_add]
            by_cases e : j < k + 1
            · simp only [if_pos e]
              exact ⟨((hd2 j hj).1 e).1, ((hd2 j hj).1 e).2.1⟩
            · simp only [if_neg e]
              exact ⟨by omega, (hd2 j hj).2 (by omega)⟩
          · refine ⟨?_, hg j hj⟩
            by_cases e : j < k + 1
            · simp only [if_pos e]; exact ((hd2 j hj).1 e).1
            · simp only [if_neg e]; omega
        · refine rt_f (nI_ge (b := 6) (by omega) (by omega)) ?_
          by_cases ck : k + 1 ≤ i
          · refine rt_t (nI_le ck (by omega)) (rt_gx (by omega) (by omega) (rt_lt (ih3 (by omega) _ _ ⟨nI_1 _, by omega, fun j hj => ?_⟩)))
            rw [nI_clamp (by omega)]
            by_cases e : j = i
            · subst e; rw [upd_s, if_neg (by omega)]; rfl
            · rw [upd_n e]; exact hg j (by omega)
          · refine rt_f (nI_ge (by omega) (by omega)) (rt_gx (by omega) (by omega) (rt_gx (by omega) (by omega) (rt_lt (ih3 (by omega) _ _ ⟨nI_1 _, by omega, fun j hj => ?_⟩))))
            rw [nI_clamp (by omega)]
            by_cases e : j = i
            · subst e; rw [upd_s, if_pos (by omega)]; exact ((hd2 j (by omega)).1 (by omega)).2.2
            · rw [upd_n e]; exact hg j (by omega)
      · rw [if_neg cd]
        refine rt_t rfl ?_
        by_cases cs : sn tc y (a + dn) = 44
        · have hlt := (sn_lt hR (by omega) cs).1
          refine re2 (x_takeT (c := 44) hR (by omega) cs) (rt_f i10n (rt_lt (rt_mono (ih (by omega) _ _ _ (nI k + 1) 1 (nI (a + dn + 1)) (-1) (upd nm k (nI (nv tc a dn))) ⟨a + dn + 1, uN mv k (nv tc a dn), nI_1 _, rfl, nI_1 _, rfl, rfl, rfl, by omega, by omega, hd2⟩) ?_)))
          intro p hp
          refine hrefN _ (fun v at3 w3 e => ?_)
          have e2 := Option.some.inj (em.symm.trans e)
          injection e2 with e3 e4
          injection e4 with e5 e6
          subst e3 e5 e6
          exact re2 (m_passT (c := 44) hR (by omega) cs) hp
        · refine re2 (x_takeF (c := 44) hR (by omega) (by omega) cs) (rt_t rfl (re1 rfl (rt_some (hrefN _ (fun v at3 w3 e => ?_)))))
          have e2 := Option.some.inj (em.symm.trans e)
          injection e2 with e3 e4
          injection e4 with e5 e6
          subst e3 e5 e6
          refine re2 (m_passF (c := 44) hR (by omega) (by omega) cs) ?_
          obtain ⟨rc2, er⟩ := hr (nI k + 1) 0 (nI (a + dn)) (-1) (upd nm k (nI (nv tc a dn)))
          rw [er]
          unfold s_X12_prizes_28
          refine rt_t rfl ?_
          unfold k_X12_prizes_28
          refine rt_f (nI_ge (by omega) (by omega)) (re1 (m_fault_t _) ?_)
          unfold j_X12_prizes_99
          exact re1 (m_fine_f (m1_ne (by omega))) (rt_t rfl (rt_some ⟨rfl, rfl, rfl, mo, hY, hZ⟩))
end
