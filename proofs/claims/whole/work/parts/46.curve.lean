/-! curve, quick, sure: the class's side -/
def TT (kd ft : Nat → Nat) (f l : Nat) : Nat := tn (ft f) (kd f) l
def EE (V : Nat → Nat → Nat → Nat → Nat → Nat → Nat → Nat → Nat) (kd ht ft st sc ca : Nat → Nat) (h f l : Nat) : Nat := od V kd ft st sc ca h f l (ht f) + rr kd ft st ca h f
/-- the best pair with at most m spent -/
def bst (A : Nat → Nat → Prop) (m s l : Nat) : Prop := A s l ∧ s ≤ m ∧ ∀ s' l', A s' l' → s' ≤ m → (l < l' ∨ (l = l' ∧ s ≤ s'))
theorem bst_u {A : Nat → Nat → Prop} {m s l s' l' : Nat} (h : bst A m s l) (h' : bst A m s' l') : s = s' ∧ l = l' := by
  have h1 := h.2.2 s' l' h'.1 h'.2.1
  have h2 := h'.2.2 s l h.1 h.2.1
  omega
theorem chn_ext {F : Nat} {T E : Nat → Nat → Nat} {t e k l t' e' : Nat} {w tt ee : Nat → Nat} (h : chn F T E t e w tt ee k) (hp : Pl F T E k (tt k) (ee k) l) (hn : ∀ j, j < l → ¬ Pl F T E k (tt k) (ee k) j) (ht : tt k = t' + T k l) (he : ee k = e' + E k l) : chn F T E t e (fun f => if f = k then l else w f) (fun f => if f = k + 1 then t' else tt f) (fun f => if f = k + 1 then e' else ee f) (k + 1) := by
  refine ⟨?_, ?_, fun f hf => ?_⟩
  · show (if 0 = k + 1 then t' else tt 0) = t
    rw [if_neg (by omega)]; exact h.1
  · show (if 0 = k + 1 then e' else ee 0) = e
    rw [if_neg (by omega)]; exact h.2.1
  · by_cases q : f = k
    · subst q
      simp only [if_true, if_neg (show ¬ f = f + 1 by omega)]
      exact ⟨⟨hp, hn⟩, ht, he⟩
    · simp only [if_neg q, if_neg (show ¬ f = k + 1 by omega), if_neg (show ¬ f + 1 = k + 1 by omega)]
      exact h.2.2 f (by omega)
theorem rwl_cg {g g' : Nat → Int64} {t : Nat → Int64} : ∀ k, (∀ j, j < k → g j = g' j) → rwl g k t = rwl g' k t
  | 0, _ => rfl
  | k + 1, h => by rw [rwl, rwl, h k (by omega), rwl_cg k (fun j hj => h j (by omega))]
section
variable {F H P : Nat} {kd ht ft st sc ca pl : Nat → Nat} {V : Nat → Nat → Nat → Nat → Nat → Nat → Nat → Nat → Nat} {ck ch cf cd cp rk mk mh mf ms mc ma mp ml : Nat → Int32} {rz mz : Int32} {n r h m : Nat} {T E : Nat → Nat → Nat} {tt ee G z : Nat → Int32} {nt mt : Nat → Int64}
theorem x_lay (hX : okX F H P kd ht ft st sc ca pl V ck ch cf cd cp rz rk) (hh : h < H) (lf : Int32) (sk th fe te G z : Nat → Int32) : Rt (f_X4_lay (nI h) (nI F) rz lf ck ch cf cd rk sk th fe te G z) (fun r => r.1 = nI F ∧ okTE F (TT kd ft) (EE V kd ht ft st sc ca h) r.2.2.2.2.1 r.2.2.2.1 ∧ okL F (TT kd ft) (EE V kd ht ft st sc ca h) F r.2.2.2.2.2.1 r.2.2.2.2.2.2) := by
  have hF := hX.1.1
  have hV := hX.2.2.2.2.1
  have hG := hX.2.2.1.1
  have hb : ∀ f l, f < F → l < 8 → TT kd ft f l ≤ 150 ∧ EE V kd ht ft st sc ca h f l ≤ 161 := fun f l hf hl => by
    refine ⟨tn_lt (hX.1.2 f hf).1.2.2, ?_⟩
    have h1 := rf_le (y := ft f) (k := kd f) (c := ca (4 * h + 3)) (hG.2 h hh).1
    have h2 := od_le (kd := kd) (ft := ft) (st := st) (sc := sc) (ca := ca) (h := h) (f := f) (l := l) (hi := ht f) hV
    unfold EE rr; omega
  unfold f_X4_lay
  refine rl5 8 (fun f v3 _ _ fe te => v3 = nI f ∧ f ≤ F ∧ ∀ g, g < f → ∀ l, l < 8 → te (8 * g + l) = nI (TT kd ft g l) ∧ fe (8 * g + l) = nI (EE V kd ht ft st sc ca h g l)) (by omega) ⟨rfl, by omega, by omega⟩ ?_
  rintro rc f v3 s1 t1 fe te ⟨rfl, hf, hI⟩ ih
  unfold s_X4_lay_10
  by_cases hfF : F ≤ f
  · obtain rfl : F = f := by omega
    refine rt_t (nI_le (Nat.le_refl _) (by omega)) ?_
    unfold k_X4_lay_10
    have hO : okTE F (TT kd ft) (EE V kd ht ft st sc ca h) te fe := ⟨hF, fun g hg l hl => ⟨hb g l hg hl, hI g hg l hl⟩⟩
    refine rt_gd (by decide) (re1 (x_from' 0 (by omega)) (rt_gd (by decide) ?_))
    rw [show (nI (fmo 0)).toNatClampNeg = 0 from by decide, show (0 : Int32).toNatClampNeg = 0 from rfl]
    clear ih rc
    refine rl3 8 (fun k v3 G z => v3 = nI (k + 1) ∧ k ≤ F ∧ okL F (TT kd ft) (EE V kd ht ft st sc ca h) k G z) (by omega) ⟨rfl, by omega, fun c hc => ?_, fun c hc t ht' => ?_⟩ ?_
    · obtain rfl : c = 0 := by omega
      rw [upd_s]; rfl
    · obtain rfl : c = 0 := by omega
      have ht0 : t ≤ 0 := ht'
      obtain rfl : t = 0 := by omega
      rw [show fmo 0 + 0 = 0 from rfl, upd_s]
      exact .inr ⟨0, rfl, ⟨rfl, rfl⟩, by omega, fun e' he' => by omega⟩
    · rintro rc k v3 G z ⟨rfl, hk, hL⟩ ih
      unfold s_X4_lay_109
      by_cases hkF : F ≤ k
      · obtain rfl : F = k := by omega
        exact rt_t (nI_lt (by omega) (by omega)) (rt_some ⟨rfl, hO, hL⟩)
      · refine rt_f (nI_nlt (by omega) (by omega)) (rb2 (x_layBehind hO (by omega) hL) ?_)
        intro G2 z2 hL2
        exact rt_lt (ih (by omega) _ _ _ ⟨nI_1 _, by omega, hL2⟩)
  · have hfF' : f < F := by omega
    refine rt_f (nI_ge (by omega) (by omega)) (re1 (x_refusal hX.1 hX.2.2.1 hh hfF') ?_)
    refine rl5 8 (fun l v5 _ _ fe te => v5 = nI l ∧ l ≤ 8 ∧ (∀ g, g < f → ∀ l, l < 8 → te (8 * g + l) = nI (TT kd ft g l) ∧ fe (8 * g + l) = nI (EE V kd ht ft st sc ca h g l)) ∧ ∀ j, j < l → te (8 * f + j) = nI (TT kd ft f j) ∧ fe (8 * f + j) = nI (EE V kd ht ft st sc ca h f j)) (by omega) ⟨rfl, by omega, hI, by omega⟩ ?_
    rintro rc2 l v5 s2 t2 fe te ⟨rfl, hl, hI0, hI1⟩ ih2
    unfold s_X4_lay_29
    by_cases hl8 : 8 ≤ l
    · obtain rfl : l = 8 := by omega
      refine rt_t (by decide) ?_
      unfold k_X4_lay_29
      refine rt_lt (ih (by omega) _ _ _ _ _ ⟨nI_1 _, by omega, fun g hg l hl => ?_⟩)
      by_cases e : g = f
      · subst e; exact hI1 l hl
      · exact hI0 g (by omega) l hl
    · refine rt_f (nI_ge (b := 8) (by omega) (by omega)) (rb3 (x_poleR hX hh hfF' (show l < 8 by omega) s2 t2) ?_)
      rintro a1 s3 t3 rfl
      rw [c_8, pk_mul, nI_add, Nat.mul_comm f 8]
      refine rt_gx (by omega) (by omega) (re1 (x_tenths hX.1 hfF' (show l < 8 by omega)) (rt_gx (by omega) (by omega) (rt_lt (ih2 (by omega) _ _ _ _ _ ⟨nI_1 _, by omega, fun g hg l' hl' => ?_, fun j hj => ?_⟩))))
      · rw [nI_clamp (by omega), upd_n (by omega), upd_n (by omega)]
        exact hI0 g hg l' hl'
      · rw [nI_clamp (by omega)]
        by_cases e : j = l
        · subst e
          rw [upd_s, upd_s, nI_add]
          exact ⟨rfl, rfl⟩
        · rw [upd_n (by omega), upd_n (by omega)]
          exact hI1 j (by omega)
theorem x_fearWith (hO : okTE F T E tt ee) (hL : okL F T E F G z) {t : Nat} (ht : t < 100000) : ∃ v, f_X4_fearWith (nI t) (nI F) G z = some v ∧ mnP (Ac F T E F t) v := by
  have hF := hO.1
  have hsp := spn_le (fun f l hf hl => (hO.2 f hf l hl).1.1) F (Nat.le_refl _)
  have hfl := fmo_le F (by omega)
  have ez := hL.1 F (Nat.le_refl _)
  unfold f_X4_fearWith
  rw [if_neg (nI_pos (by omega)), gx (by omega) (by omega), nI_clamp (by omega), ez]
  by_cases h : spn F T F < t
  · rw [if_pos (nI_lt h (by omega))]
    exact ⟨_, rfl, .inl ⟨rfl, fun e he => by have := Ac_sp F t e he; omega⟩⟩
  · rw [if_neg (nI_nlt (by omega) (by omega)), bd1_t (x_from' F (by omega)), nI_add, gx (by omega) (by omega), nI_clamp (by omega)]
    exact ⟨_, rfl, hL.2 F (Nat.le_refl _) t (by omega)⟩
theorem x_calmest (hO : okTE F T E tt ee) (hL : okL F T E F G z) (hm : m ≤ 9999) : Rt (f_X4_calmestTenths (nI m) (nI F) G z) (fun r => (r = -1 ∧ ∀ t e, Ac F T E F t e → ¬ t ≤ m) ∨ ∃ t e, r = nI t ∧ t ≤ 1200 ∧ bst (Ac F T E F) m t e) := by
  have hF := hO.1
  have hsp := spn_le (fun f l hf hl => (hO.2 f hf l hl).1.1) F (Nat.le_refl _)
  have ez := hL.1 F (Nat.le_refl _)
  unfold f_X4_calmestTenths
  refine rl2 1300 (fun k v2 v3 => v3 = nI k ∧ k ≤ min m (spn F T F) + 1 ∧ ((v2 = -1 ∧ ∀ t e, t < k → ¬ Ac F T E F t e) ∨ ∃ t e, v2 = nI t ∧ t < k ∧ Ac F T E F t e ∧ ∀ t' e', t' < k → Ac F T E F t' e' → (e < e' ∨ (e = e' ∧ t ≤ t')))) (by omega) ⟨rfl, by omega, .inl ⟨rfl, fun t e q => by omega⟩⟩ ?_
  rintro rc k v2 v3 ⟨rfl, hk, hI⟩ ih
  unfold s_X4_calmestTenths_4
  rw [nI_clamp (by omega), ez, nI_mn (by omega) (by omega)]
  refine rt_gx (by omega) (by omega) ?_
  by_cases hks : min m (spn F T F) < k
  · refine rt_t (nI_lt hks (by omega)) (rt_some ?_)
    rcases hI with ⟨rfl, h⟩ | ⟨t, e, rfl, h1, h2, h3⟩
    · refine .inl ⟨rfl, fun t e he q => h t e ?_ he⟩
      have := Ac_sp F t e he; omega
    · refine .inr ⟨t, e, rfl, by omega, h2, by omega, fun t' e' he' q => h3 t' e' ?_ he'⟩
      have := Ac_sp F t' e' he'; omega
  · obtain ⟨v, e1, hv⟩ := x_fearWith hO hL (show k < 100000 by omega)
    refine rt_f (nI_nlt (by omega) (by omega)) (re1 e1 ?_)
    rcases hv with ⟨rfl, hv⟩ | ⟨ev, rfl, v1, v2', v3'⟩
    · refine rt_t rfl (rt_lt (ih (by omega) _ _ ⟨nI_1 _, by omega, ?_⟩))
      rcases hI with ⟨rfl, h⟩ | ⟨t, e, rfl, h1, h2, h3⟩
      · refine .inl ⟨rfl, fun t e q he => ?_⟩
        by_cases c : t = k
        · exact hv e (c ▸ he)
        · exact h t e (by omega) he
      · refine .inr ⟨t, e, rfl, by omega, h2, fun t' e' q he' => ?_⟩
        by_cases c : t' = k
        · exact absurd (c ▸ he') (hv e')
        · exact h3 t' e' (by omega) he'
    · refine rt_f (m1_ne (by omega)) ?_
      rcases hI with ⟨rfl, h⟩ | ⟨t, e, rfl, h1, h2, h3⟩
      · refine rt_t rfl (rt_lt (ih (by omega) _ _ ⟨nI_1 _, by omega, .inr ⟨k, ev, rfl, by omega, v1, fun t' e' q he' => ?_⟩⟩))
        by_cases c : t' = k
        · have := v3' e' (c ▸ he'); omega
        · exact absurd he' (h t' e' (by omega))
      · obtain ⟨u, e2, hu⟩ := x_fearWith hO hL (show t < 100000 by omega)
        have hue : u = nI e := by
          rcases hu with ⟨rfl, hu⟩ | ⟨eu, rfl, u1, u2, u3⟩
          · exact absurd h2 (hu e)
          · have a1 := u3 e h2
            have a2 := h3 t eu h1 u1
            exact congrArg nI (by omega)
        subst hue
        have hel : e ≤ 161 * F := Ac_le (fun f l hf hl => (hO.2 f hf l hl).1.2) F e t (Nat.le_refl _) (Ac_sw _ _ _ h2)
        refine rt_f (m1_ne (by omega)) (re1 e1 (re1 e2 (rt_if (fun q => ?_) (fun q => ?_))))
        · rw [nI_leI (by omega) (by omega)] at q
          refine rt_lt (ih (by omega) _ _ ⟨nI_1 _, by omega, .inr ⟨t, e, rfl, by omega, h2, fun t' e' q' he' => ?_⟩⟩)
          by_cases c : t' = k
          · have := v3' e' (c ▸ he'); omega
          · exact h3 t' e' (by omega) he'
        · rw [nI_leI (by omega) (by omega)] at q
          refine rt_lt (ih (by omega) _ _ ⟨nI_1 _, by omega, .inr ⟨k, ev, rfl, by omega, v1, fun t' e' q' he' => ?_⟩⟩)
          by_cases c : t' = k
          · have := v3' e' (c ▸ he'); omega
          · have := h3 t' e' (by omega) he'; omega
theorem x_fewest (hO : okTE F T E tt ee) (hL : okL F T E F G z) (hm : m ≤ 9999) : Rt (f_X4_fewestTenths (nI m) (nI F) G z) (fun r => (r = -1 ∧ ∀ t e, Ac F T E F t e → ¬ e ≤ m) ∨ ∃ t e, r = nI t ∧ t ≤ 1200 ∧ bst (Ac F E T F) m e t) := by
  have hF := hO.1
  have hsp := spn_le (fun f l hf hl => (hO.2 f hf l hl).1.1) F (Nat.le_refl _)
  have ez := hL.1 F (Nat.le_refl _)
  unfold f_X4_fewestTenths
  refine rl1 1300 (fun k v2 => v2 = nI k ∧ k ≤ spn F T F + 1 ∧ ∀ t e, t < k → Ac F T E F t e → m < e) (by omega) ⟨rfl, by omega, fun t e q => by omega⟩ ?_
  rintro rc k v2 ⟨rfl, hk, hI⟩ ih
  unfold s_X4_fewestTenths_2
  rw [nI_clamp (by omega), ez]
  refine rt_gx (by omega) (by omega) ?_
  by_cases hks : spn F T F < k
  · refine rt_t (nI_lt hks (by omega)) (rt_some (.inl ⟨rfl, fun t e he q => ?_⟩))
    have h1 := Ac_sp F t e he
    have := hI t e (by omega) he
    omega
  · obtain ⟨v, e1, hv⟩ := x_fearWith hO hL (show k < 100000 by omega)
    refine rt_f (nI_nlt (by omega) (by omega)) (re1 e1 ?_)
    rcases hv with ⟨rfl, hv⟩ | ⟨ev, rfl, v1, v2', v3'⟩
    · refine rt_t rfl (rt_lt (ih (by omega) _ ⟨nI_1 _, by omega, fun t e q he => ?_⟩))
      by_cases c : t = k
      · exact absurd (c ▸ he) (hv e)
      · exact hI t e (by omega) he
    · refine rt_f (m1_ne (by omega)) (re1 e1 (rt_if (fun q => ?_) (fun q => ?_)))
      · rw [nI_ltI (by omega) (by omega)] at q
        refine rt_lt (ih (by omega) _ ⟨nI_1 _, by omega, fun t e q' he => ?_⟩)
        by_cases c : t = k
        · have := v3' e (c ▸ he); omega
        · exact hI t e (by omega) he
      · rw [nI_ltI (by omega) (by omega)] at q
        refine rt_some (.inr ⟨k, ev, rfl, by omega, Ac_sw _ _ _ v1, by omega, fun e' t' he' q' => ?_⟩)
        have he2 := Ac_sw _ _ _ he'
        by_cases c : t' < k
        · have := hI t' e' c he2; omega
        · by_cases c2 : t' = k
          · have := v3' e' (c2 ▸ he2); omega
          · exact .inl (by omega)
theorem x_firstLetter (hO : okTE F T E tt ee) (hL : okL F T E F G z) {f t e : Nat} (hf : f < F) (ht : t ≤ 1200) (hA : Ac F T E (F - f) t e) (hmin : ∀ e', Ac F T E (F - f) t e' → e ≤ e') : Rt (f_X4_firstLetter (nI f) (nI t) (nI e) (nI F) ee tt G z) (fun r => ∃ l, r = nI l ∧ Pl F T E f t e l ∧ ∀ j, j < l → ¬ Pl F T E f t e j) := by
  have hF := hO.1
  have hsp := spn_le (fun f l hf hl => (hO.2 f hf l hl).1.1) (F - 1 - f) (by omega)
  have hfl := fmo_le (F - 1 - f) (by omega)
  have ez := hL.1 (F - 1 - f) (by omega)
  have hel : e ≤ 161 * (F - f) := Ac_le (fun f l hf hl => (hO.2 f hf l hl).1.2) (F - f) e t (by omega) (Ac_sw _ _ _ hA)
  have hel2 : 161 * (F - f) ≤ 161 * 8 := Nat.mul_le_mul_left _ (by omega)
  have hPA : ∀ l, Pl F T E f t e l → l < 8 := fun l h => h.1
  obtain ⟨l0, hl0⟩ := (Ac_P hf).mp hA
  unfold f_X4_firstLetter
  rw [pk_sub (by omega), c_1, pk_sub (by omega), show F - f - 1 = F - 1 - f by omega]
  refine rt_lt ?_
  refine rl1 8 (fun l v5 => v5 = nI l ∧ l ≤ 8 ∧ ∀ j, j < l → ¬ Pl F T E f t e j) (by omega) ⟨rfl, by omega, by omega⟩ ?_
  rintro rc l v5 ⟨rfl, hl, hI⟩ ih
  unfold s_X4_firstLetter_13
  by_cases hl8 : 8 ≤ l
  · obtain rfl : l = 8 := by omega
    exact absurd hl0 (hI l0 (hPA l0 hl0))
  · obtain ⟨⟨b1, b2⟩, e1, e2⟩ := hO.2 f hf l (by omega)
    have hnext : ¬ Pl F T E f t e l → Rt (rc (nI l + 1)) (fun r => ∃ l, r = nI l ∧ Pl F T E f t e l ∧ ∀ j, j < l → ¬ Pl F T E f t e j) := fun hn => by
      refine ih (by omega) _ ⟨nI_1 _, by omega, fun j hj => ?_⟩
      by_cases c : j = l
      · rw [c]; exact hn
      · exact hI j (by omega)
    refine rt_f (nI_ge (b := 8) (by omega) (by omega)) ?_
    rw [c_8, pk_mul, nI_add, Nat.mul_comm f 8, gx (by omega) (by omega), nI_clamp (by omega), e1]
    refine rt_lt ?_
    unfold j_X4_firstLetter_75
    rw [c_8, pk_mul, nI_add, Nat.mul_comm f 8]
    by_cases hlt : t < T f l
    · refine rt_t (pk_sneg (by omega) hlt) (rt_t rfl (rt_lt (hnext ?_)))
      rintro ⟨_, t', e', q1, q2, q3⟩
      omega
    · rw [pk_sub (by omega)]
      refine rt_f (nI_pos (by omega)) (rt_gx (by omega) (by omega) ?_)
      rw [nI_clamp (by omega), ez]
      by_cases hs : spn F T (F - 1 - f) < t - T f l
      · refine rt_t (nI_lt hs (by omega)) (rt_t rfl (rt_lt (hnext ?_)))
        rintro ⟨_, t', e', q1, q2, q3⟩
        have := Ac_sp _ t' e' q1
        omega
      · refine rt_f (nI_nlt (by omega) (by omega)) (re1 (x_from' (F - 1 - f) (by omega)) ?_)
        rw [nI_add, gx (by omega) (by omega), nI_clamp (by omega)]
        have hcell := hL.2 (F - 1 - f) (by omega) (t - T f l) (by omega)
        rcases hcell with ⟨c1, c2⟩ | ⟨c, c1, c2, c3, c4⟩
        · refine rt_t c1 (rt_t rfl (rt_lt (hnext ?_)))
          rintro ⟨_, t', e', q1, q2, q3⟩
          exact c2 e' (by rw [show t - T f l = t' by omega]; exact q1)
        · have hcl : c ≤ 161 * (F - 1 - f) := Ac_le (fun f l hf hl => (hO.2 f hf l hl).1.2) _ c _ (by omega) (Ac_sw _ _ _ c2)
          have hcl2 : 161 * (F - 1 - f) ≤ 161 * 8 := Nat.mul_le_mul_left _ (by omega)
          refine rt_f (by rw [c1]; exact m1_ne (by omega)) (rt_f i10n (re1 (x_from' (F - 1 - f) (by omega)) ?_))
          rw [nI_add, gx (by omega) (by omega), gx (by omega) (by omega), nI_clamp (by omega), nI_clamp (by omega), c1, e2, nI_add]
          refine rt_if (fun q => ?_) (fun q => ?_)
          · have q' := (nI_eq (by omega) (by omega)).mp q
            exact rt_some ⟨l, rfl, ⟨by omega, t - T f l, c, c2, by omega, q'.symm⟩, hI⟩
          · refine rt_lt (hnext ?_)
            rintro ⟨_, t', e', q1, q2, q3⟩
            have ht' : t - T f l = t' := by omega
            have h1 := c4 e' (by rw [ht']; exact q1)
            have h2 := hmin (c + E f l) ((Ac_P hf).mpr ⟨l, by omega, t', c, by rw [← ht']; exact c2, q2, rfl⟩)
            exact q (congrArg nI (by omega))
theorem x_tell (hO : okTE F T E tt ee) (hL : okL F T E F G z) {t e : Nat} (ht : t ≤ 1200) (hA : Ac F T E F t e) (hmin : ∀ e', Ac F T E F t e' → e ≤ e') : Rt (f_X4_tell (nI t) (nI 1) (nI F) ee tt G z nt) (fun r => r.1 = nI (F + 1) ∧ ∃ w t1 e1, chn F T E t e w t1 e1 F ∧ r.2 = rwl (fun f => (nI (w f)).toInt64) F nt) := by
  have hF := hO.1
  obtain ⟨v, ev, hv⟩ := x_fearWith hO hL (show t < 100000 by omega)
  have hve : v = nI e := by
    rcases hv with ⟨rfl, hv⟩ | ⟨eu, rfl, u1, u2, u3⟩
    · exact absurd hA (hv e)
    · have a1 := u3 e hA
      have a2 := hmin eu u1
      exact congrArg nI (by omega)
  subst hve
  unfold f_X4_tell
  refine re1 ev ?_
  refine rl5 8 (fun k v3 v4 v5 v1 v2 => ∃ w t1 e1, chn F T E t e w t1 e1 k ∧ v3 = nI (t1 k) ∧ v4 = nI (e1 k) ∧ v5 = nI k ∧ v1 = nI (k + 1) ∧ v2 = rwl (fun f => (nI (w f)).toInt64) k nt ∧ k ≤ F ∧ t1 k ≤ 1200 ∧ Ac F T E (F - k) (t1 k) (e1 k) ∧ ∀ e', Ac F T E (F - k) (t1 k) e' → e1 k ≤ e') (by omega) ⟨fun _ => 0, fun _ => t, fun _ => e, ⟨rfl, rfl, by omega⟩, rfl, rfl, rfl, rfl, rfl, by omega, ht, hA, hmin⟩ ?_
  rintro rc k v3 v4 v5 v1 v2 ⟨w, t1, e1, hc, rfl, rfl, rfl, rfl, rfl, hk, h12, hA', hm'⟩ ih
  unfold s_X4_tell_12
  by_cases hkF : F ≤ k
  · obtain rfl : F = k := by omega
    exact rt_t (nI_le (Nat.le_refl _) (by omega)) (rt_some ⟨rfl, w, t1, e1, hc, rfl⟩)
  · have hkF' : k < F := by omega
    refine rt_f (nI_ge (by omega) (by omega)) (rb1 (x_firstLetter hO hL hkF' h12 hA' hm') ?_)
    rintro a ⟨l, rfl, hp, hn⟩
    obtain ⟨hl8, t', e', q1, q2, q3⟩ := id hp
    obtain ⟨⟨b1, b2⟩, x1, x2⟩ := hO.2 k hkF' l hl8
    refine re2 (x_putk (by omega) _ _) ?_
    rw [c_8, pk_mul, nI_add, Nat.mul_comm k 8, gx (by omega) (by omega), nI_clamp (by omega), x1, x2, pk_sub (by omega), pk_sub (by omega)]
    refine rt_lt (rt_gx (by omega) (by omega) (rt_lt (rt_lt (ih (by omega) _ _ _ _ _ ⟨_, _, _, chn_ext hc hp hn q2 q3, ?_, ?_, nI_1 _, rfl, ?_, by omega, ?_, ?_, ?_⟩))))
    · simp only [if_true]; exact congrArg nI (by omega)
    · simp only [if_true]; exact congrArg nI (by omega)
    · rw [rwl, if_pos rfl, rwl_cg (g := fun f => (nI (if f = k then l else w f)).toInt64) (g' := fun f => (nI (w f)).toInt64) k (fun j hj => by
        show (nI (if j = k then l else w j)).toInt64 = _
        rw [if_neg (by omega)])]
    · simp only [if_true]; omega
    · simp only [if_true]
      rw [show F - (k + 1) = F - 1 - k by omega]; exact q1
    · simp only [if_true]
      intro e2 he2
      rw [show F - (k + 1) = F - 1 - k by omega] at he2
      have := hm' (e2 + E k l) ((Ac_P hkF').mpr ⟨l, hl8, t', e2, he2, q2, rfl⟩)
      omega
theorem x_leastFear (hX : okX F H P kd ht ft st sc ca pl V ck ch cf cd cp rz rk) (hh : h < H) (hm : m ≤ 9999) (lf : Int32) (sk th fe te G z : Nat → Int32) : Rt (f_X11_leastFear (nI h) (nI m) (nI r) (nI F) rz lf ck ch cf cd rk sk th fe te G z nt) (fun a => (a.1 = -2 ∧ a.2.1 = nI r ∧ a.2.2.2.2.2.2.2.2.2 = nt ∧ ∀ t e, Ac F (TT kd ft) (EE V kd ht ft st sc ca h) F t e → ¬ t ≤ m) ∨ ∃ t e w t1 e1, bst (Ac F (TT kd ft) (EE V kd ht ft st sc ca h) F) m t e ∧ chn F (TT kd ft) (EE V kd ht ft st sc ca h) t e w t1 e1 F ∧ a.1 = nI e ∧ a.2.1 = nI (F + 1) ∧ a.2.2.2.2.2.2.2.2.2 = rwl (fun f => (nI (w f)).toInt64) F (vp_updL nt 0 (nI t).toInt64)) := by
  unfold f_X11_leastFear
  refine rb7 (x_lay hX hh lf sk th fe te G z) ?_
  rintro a1 s2 t2 fe2 te2 G2 z2 ⟨rfl, hO, hL⟩
  refine rb1 (x_calmest hO hL hm) ?_
  rintro a (⟨rfl, hno⟩ | ⟨t, e, rfl, h12, hb⟩)
  · exact rt_t rfl (rt_some (.inl ⟨rfl, rfl, rfl, hno⟩))
  · have hmin : ∀ e', Ac F (TT kd ft) (EE V kd ht ft st sc ca h) F t e' → e ≤ e' := fun e' he' => by
      have := hb.2.2 t e' he' hb.2.1; omega
    refine rt_f (m1_ne (by omega)) (re1 (x_start _) (re2 (x_put0 _ _) (rb2 (x_tell hO hL h12 hb.1 hmin) ?_)))
    rintro a1 a2 ⟨rfl, w, t1, e1, hc, ea⟩
    obtain ⟨v, ev, hv⟩ := x_fearWith hO hL (show t < 100000 by omega)
    have hve : v = nI e := by
      rcases hv with ⟨rfl, hv⟩ | ⟨eu, rfl, u1, u2, u3⟩
      · exact absurd hb.1 (hv e)
      · have a1 := u3 e hb.1
        have a2 := hmin eu u1
        exact congrArg nI (by omega)
    subst hve
    exact re1 ev (rt_some (.inr ⟨t, e, w, t1, e1, hb, hc, rfl, rfl, ea⟩))
theorem x_quick (hX : okX F H P kd ht ft st sc ca pl V ck ch cf cd cp rz rk) (hh : h < H) (hm : m ≤ 9999) (lf : Int32) (sk th fe te G z : Nat → Int32) : Rt (f_X11_quick (nI h) (nI m) (nI r) (nI F) (nI H) rz lf ck ch cf cd rk sk th fe te G z nt) (fun a => (a.1 = -2 ∧ a.2.1 = nI r ∧ a.2.2.2.2.2.2.2.2.2 = nt ∧ ∀ t e, Ac F (TT kd ft) (EE V kd ht ft st sc ca h) F t e → ¬ e ≤ m) ∨ ∃ t e w t1 e1, bst (Ac F (EE V kd ht ft st sc ca h) (TT kd ft) F) m e t ∧ chn F (TT kd ft) (EE V kd ht ft st sc ca h) t e w t1 e1 F ∧ a.1 = nI t ∧ a.2.1 = nI (F + 1) ∧ a.2.2.2.2.2.2.2.2.2 = rwl (fun f => (nI (w f)).toInt64) F (vp_updL nt 0 (nI e).toInt64)) := by
  have hH := hX.2.2.1.1.1
  unfold f_X11_quick
  refine re1 (x_hasHT hh (by omega)) (rt_f i10n (rt_f (nI_pos (by omega)) (rt_t (nI_le (b := 9999) hm (by omega)) (rb7 (x_lay hX hh lf sk th fe te G z) ?_))))
  rintro a1 s2 t2 fe2 te2 G2 z2 ⟨rfl, hO, hL⟩
  refine rb1 (x_fewest hO hL hm) ?_
  rintro a (⟨rfl, hno⟩ | ⟨t, e, rfl, h12, hb⟩)
  · exact rt_t rfl (rt_some (.inl ⟨rfl, rfl, rfl, hno⟩))
  · have hA := Ac_sw _ _ _ hb.1
    have hmin : ∀ e', Ac F (TT kd ft) (EE V kd ht ft st sc ca h) F t e' → e ≤ e' := fun e' he' => by
      by_cases q : e' ≤ m
      · have := hb.2.2 e' t (Ac_sw _ _ _ he') q; omega
      · have := hb.2.1; omega
    obtain ⟨v, ev, hv⟩ := x_fearWith hO hL (show t < 100000 by omega)
    have hve : v = nI e := by
      rcases hv with ⟨rfl, hv⟩ | ⟨eu, rfl, u1, u2, u3⟩
      · exact absurd hA (hv e)
      · have a1 := u3 e hA
        have a2 := hmin eu u1
        exact congrArg nI (by omega)
    subst hve
    refine rt_f (m1_ne (by omega)) (re1 (x_start _) (re1 ev (re2 (x_put0 _ _) (rb2 (x_tell hO hL h12 hA hmin) ?_))))
    rintro a1 a2 ⟨rfl, w, t1, e1, hc, ea⟩
    exact rt_some (.inr ⟨t, e, w, t1, e1, hb, hc, rfl, rfl, ea⟩)
end
