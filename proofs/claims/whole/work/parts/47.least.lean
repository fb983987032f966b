/-! curve, quick, sure: the reference's side -/
def mxP (R : Nat → Prop) (v : Int32) : Prop := (v = nI 100000000 ∧ ∀ x, ¬ R x) ∨ (∃ x, v = nI x ∧ R x ∧ x < 100000000 ∧ ∀ x', R x' → x ≤ x')
theorem mxP_cg {R R' : Nat → Prop} {v : Int32} (h : mxP R v) (hh : ∀ e, R e ↔ R' e) : mxP R' v := by
  rcases h with ⟨rfl, h⟩ | ⟨x, rfl, a1, a2, a3⟩
  · exact .inl ⟨rfl, fun x q => h x ((hh x).mpr q)⟩
  · exact .inr ⟨x, rfl, (hh x).mp a1, a2, fun x' q => a3 x' ((hh x').mpr q)⟩
theorem mxP_min {R R' : Nat → Prop} {v v' : Int32} (h : mxP R v) (h' : mxP R' v') : mxP (fun x => R x ∨ R' x) (if v' < v then v' else v) := by
  rcases h with ⟨rfl, h⟩ | ⟨x, rfl, a1, a2, a3⟩
  · rcases h' with ⟨rfl, h'⟩ | ⟨y, rfl, b1, b2, b3⟩
    · rw [if_neg (i_irr _)]
      exact .inl ⟨rfl, fun x q => q.elim (h x) (h' x)⟩
    · rw [if_pos (nI_lt b2 (by omega))]
      exact .inr ⟨y, rfl, .inr b1, b2, fun x' q => q.elim (fun q => absurd q (h x')) (b3 x')⟩
  · rcases h' with ⟨rfl, h'⟩ | ⟨y, rfl, b1, b2, b3⟩
    · rw [if_neg (nI_nlt (by omega) (by omega))]
      exact .inr ⟨x, rfl, .inl a1, a2, fun x' q => q.elim (a3 x') (fun q => absurd q (h' x'))⟩
    · by_cases c : y < x
      · rw [if_pos (nI_lt c (by omega))]
        refine .inr ⟨y, rfl, .inr b1, b2, fun x' q => ?_⟩
        rcases q with q | q
        · have := a3 x' q; omega
        · exact b3 x' q
      · rw [if_neg (nI_nlt (by omega) (by omega))]
        refine .inr ⟨x, rfl, .inl a1, a2, fun x' q => ?_⟩
        rcases q with q | q
        · exact a3 x' q
        · have := b3 x' q; omega
def Rf (F : Nat) (S L : Nat → Nat → Nat) (b k x : Nat) : Prop := ∃ s l, Ac F S L b s l ∧ s ≤ k ∧ x = 10000 * l + s
def Rl (F : Nat) (S L : Nat → Nat → Nat) (f k l x : Nat) : Prop := ∃ s' l', Ac F S L (F - 1 - f) s' l' ∧ s' + S f l ≤ k ∧ x = 10000 * (l' + L f l) + (s' + S f l)
theorem Rf_Rl {F : Nat} {S L : Nat → Nat → Nat} {f k x : Nat} (hf : f < F) : Rf F S L (F - f) k x ↔ ∃ l, l < 8 ∧ Rl F S L f k l x := by
  constructor
  · rintro ⟨s, l, h, h1, h2⟩
    obtain ⟨j, hj, s', l', q1, q2, q3⟩ := (Ac_P hf).mp h
    exact ⟨j, hj, s', l', q1, by omega, by rw [h2, q2, q3]⟩
  · rintro ⟨j, hj, s', l', q1, q2, q3⟩
    exact ⟨s' + S f j, l' + L f j, (Ac_P hf).mpr ⟨j, hj, s', l', q1, rfl, rfl⟩, q2, q3⟩
def okSL (F : Nat) (S L : Nat → Nat → Nat) (sp li : Nat → Int32) : Prop := F ≤ 8 ∧ ∀ f, f < F → ∀ l, l < 8 → (S f l ≤ 161 ∧ L f l ≤ 161) ∧ sp (8 * f + l) = nI (S f l) ∧ li (8 * f + l) = nI (L f l)
theorem SL_le {F : Nat} {S L : Nat → Nat → Nat} {sp li : Nat → Int32} (hO : okSL F S L sp li) {b s l : Nat} (hb : b ≤ F) (h : Ac F S L b s l) : s ≤ 1288 ∧ l ≤ 1288 := by
  have hF := hO.1
  have h1 : s ≤ 161 * b := Ac_le (fun f l hf hl => (hO.2 f hf l hl).1.1) b s l hb h
  have h2 : l ≤ 161 * b := Ac_le (fun f l hf hl => (hO.2 f hf l hl).1.2) b l s hb (Ac_sw _ _ _ h)
  have h3 : 161 * b ≤ 161 * 8 := Nat.mul_le_mul_left _ (by omega)
  omega
section
variable {F H P : Nat} {kd ht ft st sc ca pl : Nat → Nat} {V : Nat → Nat → Nat → Nat → Nat → Nat → Nat → Nat → Nat} {ck ch cf cd cp rk mk mh mf ms mc ma mp ml : Nat → Int32} {rz mz : Int32} {n r h m : Nat} {S L : Nat → Nat → Nat} {sp li le : Nat → Int32} {nt mt : Nat → Int64}
theorem m_leftBy (hO : okSL F S L sp li) {f l k : Nat} (hf : f < F) (hl : l < 8) (hk : k < 1300) (hle : ∀ k, k < 1300 → mxP (Rf F S L (F - (f + 1)) k) (le (1300 * (f + 1) + k))) : ∃ v, f_X12_leftBy (nI f) (nI l) (nI k) le sp li = some v ∧ mxP (Rl F S L f k l) v := by
  have hF := hO.1
  obtain ⟨⟨b1, b2⟩, e1, e2⟩ := hO.2 f hf l hl
  unfold f_X12_leftBy
  rw [c_8, pk_mul, nI_add, lt1_e, gx (by omega) (by omega), nI_clamp (by omega), e1, e2]
  by_cases hs : S f l ≤ k
  · rw [if_pos (nI_le hs (by omega)), gx (by omega) (by omega), nI_1, c_1300, pk_mul, nI_add, pk_sub (by omega), gx (by omega) (by omega), nI_clamp (by omega), lt1_e]
    have hc := hle (k - S f l) (by omega)
    rw [show 1300 * (f + 1) + k - S f l = 1300 * (f + 1) + (k - S f l) by omega]
    rw [show F - (f + 1) = F - 1 - f by omega] at hc
    rcases hc with ⟨c1, c2⟩ | ⟨x, c1, ⟨s', l', q1, q2, q3⟩, c3, c4⟩
    · rw [c1, c_100000000, if_pos rfl]
      refine ⟨_, rfl, .inl ⟨rfl, ?_⟩⟩
      rintro x ⟨s', l', q1, q2, q3⟩
      exact c2 _ ⟨s', l', q1, by omega, rfl⟩
    · have hb := SL_le hO (by omega) q1
      rw [c1, c_100000000, if_neg (fun q => by have := (nI_eq (by omega) (by omega)).mp q; omega), gx (by omega) (by omega), gx (by omega) (by omega), c_10000, pk_mul, nI_add, nI_add]
      refine ⟨_, rfl, .inr ⟨_, rfl, ⟨s', l', q1, by omega, by omega⟩, by omega, ?_⟩⟩
      rintro x' ⟨s2, l2, p1, p2, p3⟩
      have := c4 _ ⟨s2, l2, p1, by omega, rfl⟩
      omega
  · rw [if_neg (nI_ge (by omega) (by omega))]
    refine ⟨_, rfl, .inl ⟨rfl, ?_⟩⟩
    rintro x ⟨s', l', q1, q2, q3⟩
    omega
def okLe (F : Nat) (S L : Nat → Nat → Nat) (f0 : Nat) (le : Nat → Int32) : Prop := ∀ f, f0 ≤ f → f ≤ F → ∀ k, k < 1300 → mxP (Rf F S L (F - f) k) (le (1300 * f + k))
theorem m_least (hO : okSL F S L sp li) (hm : m ≤ 9999) (le : Nat → Int32) : Rt (f_X12_least (nI m) (nI F) (nI r) le sp li mt) (fun a => (a.1 = -2 ∧ a.2.1 = nI r ∧ a.2.2.2 = mt ∧ ∀ s l, Ac F S L F s l → ¬ s ≤ m) ∨ ∃ s l w s1 l1, bst (Ac F S L F) m s l ∧ chn F S L s l w s1 l1 F ∧ a.1 = nI l ∧ a.2.1 = nI (F + 1) ∧ a.2.2.2 = rwl (fun f => (nI (w f)).toInt64) F (vp_updL mt 0 (nI s).toInt64)) := by
  have hF := hO.1
  unfold f_X12_least
  have ev : (if (1299 : Int32) < nI m then 1299 else nI m) = nI (min m 1299) := by
    rw [c_1299, nI_mn (by omega) (by omega)]
  rw [ev]
  refine rt_lt ?_
  have hv : min m 1299 < 1300 := by omega
  have hvm : ∀ s l, Ac F S L F s l → (s ≤ min m 1299 ↔ s ≤ m) := fun s l h => by
    have := SL_le hO (Nat.le_refl _) h
    omega
  generalize min m 1299 = v at *
  refine rl2 1300 (fun k v3 g => v3 = nI k ∧ k ≤ 1300 ∧ ∀ j, j < k → g (1300 * F + j) = 0) (by omega) ⟨rfl, by omega, by omega⟩ ?_
  rintro rc k v3 g ⟨rfl, hk, hI⟩ ih
  unfold s_X12_least_10
  by_cases hk13 : 1300 ≤ k
  · obtain rfl : k = 1300 := by omega
    refine rt_t (by decide) ?_
    clear ih rc
    unfold k_X12_least_10
    refine rt_lt ?_
    have h0 : okLe F S L F g := fun f h1 h2 k hk => by
      obtain rfl : F = f := by omega
      rw [Nat.sub_self, hI k hk]
      refine .inr ⟨0, rfl, ⟨0, 0, ⟨rfl, rfl⟩, by omega, rfl⟩, by omega, fun x' _ => by omega⟩
    refine rl2 8 (fun j v3 g => ∃ f, f + j = F ∧ v3 = nI f - 1 ∧ okLe F S L f g) (by omega) ⟨F, by omega, rfl, h0⟩ ?_
    rintro rc j v3 g ⟨f, hf, rfl, hLe⟩ ih
    unfold s_X12_least_46
    by_cases f0 : f = 0
    · subst f0
      refine rt_t (by decide) ?_
      clear ih rc
      unfold k_X12_least_46
      have hcell := hLe 0 (by omega) (by omega) v hv
      rw [show 1300 * 0 + v = v by omega, Nat.sub_zero] at hcell
      refine rt_gx (by omega) (by omega) ?_
      rw [nI_clamp (by omega)]
      rcases hcell with ⟨c1, c2⟩ | ⟨x, c1, ⟨s, l, q1, q2, q3⟩, c3, c4⟩
      · refine rt_t c1 (rt_some (.inl ⟨rfl, rfl, rfl, fun s l h q => c2 _ ⟨s, l, h, (hvm s l h).mpr q, rfl⟩⟩))
      · have hb := SL_le hO (Nat.le_refl _) q1
        have hbst : bst (Ac F S L F) v s l := ⟨q1, q2, fun s' l' h' q' => by
          have h1 := c4 _ ⟨s', l', h', q', rfl⟩
          have h2 := SL_le hO (Nat.le_refl _) h'
          omega⟩
        have hbm : bst (Ac F S L F) m s l := ⟨q1, (hvm s l q1).mp q2, fun s' l' h' q' => hbst.2.2 s' l' h' ((hvm s' l' h').mpr q')⟩
        refine rt_f (by rw [c1]; exact fun q => by have := (nI_eq (a := x) (b := 100000000) (by omega) (by omega)).mp q; omega) (rt_gx (by omega) (by omega) ?_)
        rw [c1, c_10000, pk_rem (by omega) (by omega) (by omega), show x % 10000 = s by omega]
        refine re2 (m_tell0 _ _) ?_
        refine rl4 8 (fun f v3 v4 v1 v2 => ∃ w s1 l1 may, chn F S L s l w s1 l1 f ∧ bst (Ac F S L (F - f)) may (s1 f) (l1 f) ∧ v3 = nI may ∧ may < 1300 ∧ v4 = nI f ∧ f ≤ F ∧ v1 = nI (f + 1) ∧ v2 = rwl (fun f => (nI (w f)).toInt64) f (vp_updL mt 0 (nI s).toInt64)) (by omega) ⟨fun _ => 0, fun _ => s, fun _ => l, v, ⟨rfl, rfl, by omega⟩, hbst, rfl, hv, rfl, by omega, rfl, rfl⟩ ?_
        rintro rc f v3 v4 v1 v2 ⟨w, s1, l1, may, hc, hb1, rfl, hmay, rfl, hfF, rfl, rfl⟩ ih
        unfold s_X12_least_165
        by_cases hff : F ≤ f
        · obtain rfl : F = f := by omega
          refine rt_t (nI_le (Nat.le_refl _) (by omega)) ?_
          unfold k_X12_least_165
          refine rt_gx (by omega) (by omega) (rt_some (.inr ⟨s, l, w, s1, l1, hbm, hc, ?_, rfl, rfl⟩))
          show g (nI v).toNatClampNeg / 10000 = _
          rw [nI_clamp (by omega), c1, c_10000, pk_div (by omega) (by omega) (by omega)]
          exact congrArg nI (by omega)
        · have hf1 : f < F := by omega
          have hX := SL_le hO (show F - f ≤ F by omega) hb1.1
          have hcell2 : g (1300 * f + may) = nI (10000 * l1 f + s1 f) := by
            rcases hLe f (by omega) (by omega) may hmay with ⟨d1, d2⟩ | ⟨y, d1, ⟨s', l', p1, p2, p3⟩, d3, d4⟩
            · exact absurd ⟨s1 f, l1 f, hb1.1, hb1.2.1, rfl⟩ (d2 (10000 * l1 f + s1 f))
            · have h1 := d4 _ ⟨s1 f, l1 f, hb1.1, hb1.2.1, rfl⟩
              have h2 := hb1.2.2 s' l' p1 p2
              have h3 := SL_le hO (by omega) p1
              rw [d1]; exact congrArg nI (by omega)
          obtain ⟨l0, hl0⟩ := (Ac_P hf1).mp hb1.1
          refine rt_f (nI_ge (by omega) (by omega)) ?_
          refine rl1 8 (fun j v5 => v5 = nI j ∧ j ≤ 8 ∧ ∀ i, i < j → ¬ Pl F S L f (s1 f) (l1 f) i) (by omega) ⟨rfl, by omega, by omega⟩ ?_
          rintro rc2 j v5 ⟨rfl, hj, hI2⟩ ih2
          unfold s_X12_least_177
          by_cases hj8 : j = 8
          · subst hj8
            exact absurd hl0 (hI2 l0 hl0.1)
          · obtain ⟨u, eu, hu⟩ := m_leftBy hO hf1 (show j < 8 by omega) hmay (fun k hk => hLe (f + 1) (by omega) (by omega) k hk)
            obtain ⟨⟨t1, t2⟩, t3, t4⟩ := hO.2 f hf1 j (by omega)
            refine re1 eu ?_
            rw [c_1300, pk_mul, nI_add, gx (by omega) (by omega), nI_clamp (by omega), hcell2]
            refine rt_if (fun q => ?_) (fun q => ?_)
            · rcases hu with ⟨rfl, hu⟩ | ⟨y, rfl, ⟨s', l', p1, p2, p3⟩, hu3, hu4⟩
              · have := (nI_eq (by omega) (by omega)).mp q; omega
              · have q' := (nI_eq (by omega) (by omega)).mp q
                have h3 := SL_le hO (by omega) p1
                have ea : s1 f = s' + S f j := by omega
                have eb : l1 f = l' + L f j := by omega
                unfold k_X12_least_177
                refine re2 (m_tellk (by omega) _ _) ?_
                rw [c_8, pk_mul, nI_add, gx (by omega) (by omega), nI_clamp (by omega), t3, pk_sub (by omega)]
                have hp : Pl F S L f (s1 f) (l1 f) j := ⟨by omega, s', l', p1, ea, eb⟩
                refine rt_lt (rt_lt (ih (by omega) _ _ _ _ ⟨_, _, _, may - S f j, chn_ext hc hp hI2 ea eb, ?_, rfl, by omega, nI_1 _, by omega, rfl, ?_⟩))
                · simp only [if_true]
                  rw [show F - (f + 1) = F - 1 - f by omega]
                  refine ⟨p1, by omega, fun s'' l'' h'' q'' => ?_⟩
                  have := hb1.2.2 (s'' + S f j) (l'' + L f j) ((Ac_P hf1).mpr ⟨j, by omega, s'', l'', h'', rfl, rfl⟩) (by omega)
                  omega
                · rw [rwl, if_pos rfl, rwl_cg (g := fun x => (nI (if x = f then j else w x)).toInt64) (g' := fun f => (nI (w f)).toInt64) f (fun i hi => by
                    show (nI (if i = f then j else w i)).toInt64 = _
                    rw [if_neg (by omega)])]
            · refine rt_lt (ih2 (by omega) _ ⟨nI_1 _, by omega, fun i hi => ?_⟩)
              by_cases c : i = j
              · subst c
                rintro ⟨_, s', l', p1, p2, p3⟩
                have hRl : Rl F S L f may i (10000 * l1 f + s1 f) := ⟨s', l', p1, by have := hb1.2.1; omega, by rw [p2, p3]⟩
                rcases hu with ⟨rfl, hu⟩ | ⟨y, rfl, hu2, hu3, hu4⟩
                · exact hu _ hRl
                · have h1 := hu4 _ hRl
                  obtain ⟨s'', l'', p1', p2', p3'⟩ := hu2
                  have h2 := hb1.2.2 (s'' + S f i) (l'' + L f i) ((Ac_P hf1).mpr ⟨i, by omega, s'', l'', p1', rfl, rfl⟩) (by omega)
                  have h3 := SL_le hO (by omega) p1'
                  exact q (congrArg nI (by omega))
              · exact hI2 i (by omega)
    · obtain ⟨f, rfl⟩ : ∃ q, f = q + 1 := ⟨f - 1, by omega⟩
      rw [nI_pred]
      refine rt_f (nI_pos (by omega)) ?_
      refine rl2 1300 (fun k v4 g => v4 = nI k ∧ k ≤ 1300 ∧ okLe F S L (f + 1) g ∧ ∀ j, j < k → mxP (Rf F S L (F - f) j) (g (1300 * f + j))) (by omega) ⟨rfl, by omega, hLe, by omega⟩ ?_
      rintro rc2 k v4 g ⟨rfl, hk, hLe, hI2⟩ ih2
      unfold s_X12_least_53
      by_cases hk13 : 1300 ≤ k
      · obtain rfl : k = 1300 := by omega
        refine rt_t (by decide) ?_
        unfold k_X12_least_53
        refine rt_lt (ih (by omega) _ _ ⟨f, by omega, nI_bd, fun f' h1 h2 k' hk' => ?_⟩)
        by_cases c : f' = f
        · subst c; exact hI2 k' hk'
        · exact hLe f' (by omega) h2 k' hk'
      · refine rt_f (nI_ge (b := 1300) (by omega) (by omega)) ?_
        refine rl2 8 (fun l v5 v6 => v6 = nI l ∧ l ≤ 8 ∧ mxP (fun x => ∃ i, i < l ∧ Rl F S L f k i x) v5) (by omega) ⟨rfl, by omega, .inl ⟨rfl, ?_⟩⟩ ?_
        · rintro x ⟨i, hi, _⟩
          omega
        rintro rc3 l v5 v6 ⟨rfl, hl, hI3⟩ ih3
        unfold s_X12_least_69
        by_cases hl8 : 8 ≤ l
        · obtain rfl : l = 8 := by omega
          refine rt_t (by decide) ?_
          unfold k_X12_least_69
          rw [c_1300, pk_mul, nI_add, gx (by omega) (by omega), nI_clamp (by omega)]
          refine rt_lt (ih2 (by omega) _ _ ⟨nI_1 _, by omega, fun f' h1 h2 k' hk' => ?_, fun j' hj' => ?_⟩)
          · rw [upd_n (by omega)]; exact hLe f' h1 h2 k' hk'
          · by_cases c : j' = k
            · subst c
              rw [upd_s]
              exact mxP_cg hI3 (fun x => (Rf_Rl (by omega)).symm)
            · rw [upd_n (by omega)]; exact hI2 j' (by omega)
        · obtain ⟨u, eu, hu⟩ := m_leftBy hO (show f < F by omega) (show l < 8 by omega) (show k < 1300 by omega) (fun k hk => hLe (f + 1) (by omega) (by omega) k hk)
          refine rt_f (nI_ge (b := 8) (by omega) (by omega)) (re1 eu (rt_lt (rt_lt (ih3 (by omega) _ _ ⟨nI_1 _, by omega, mxP_cg (mxP_min hI3 hu) (fun x => ?_)⟩))))
          constructor
          · rintro (⟨i, hi, q⟩ | q)
            · exact ⟨i, by omega, q⟩
            · exact ⟨l, by omega, q⟩
          · rintro ⟨i, hi, q⟩
            by_cases c : i = l
            · exact .inr (c ▸ q)
            · exact .inl ⟨i, by omega, q⟩
  · refine rt_f (nI_ge (b := 1300) (by omega) (by omega)) ?_
    rw [c_1300, pk_mul, nI_add, gx (by omega) (by omega), nI_clamp (by omega)]
    refine rt_lt (ih (by omega) _ _ ⟨nI_1 _, by omega, fun j hj => ?_⟩)
    by_cases e : j = k
    · subst e; rw [upd_s]
    · rw [upd_n (by omega)]; exact hI j (by omega)
theorem m_layFences (hM : okM F H P kd ht ft st sc ca pl V mk mh mf ms mc ma mp mz ml) (hh : h < H) {bt : Int32} {S L : Nat → Nat → Nat} (hbt : (bt = 1 ∧ S = TT kd ft ∧ L = EE V kd ht ft st sc ca h) ∨ (bt = 0 ∧ S = EE V kd ht ft st sc ca h ∧ L = TT kd ft)) (q1 q2 q3 q4 q5 q6 q7 q8 q9 q10 : Int32) (sp li : Nat → Int32) : Rt (f_X12_layFences (nI h) bt (nI F) q1 q2 q3 q4 q5 mz q6 q7 q8 q9 q10 mk mh mf ms mc ma ml sp li) (fun r => okSL F S L r.2.2.2.2.2.2.2.2.2.2.1 r.2.2.2.2.2.2.2.2.2.2.2) := by
  have hF := hM.1.1
  have hV := hM.2.2.2.2.1
  have hG := hM.2.2.1.1
  have hb : ∀ f l, f < F → l < 8 → S f l ≤ 161 ∧ L f l ≤ 161 := fun f l hf hl => by
    have h0 : TT kd ft f l ≤ 150 := tn_lt (hM.1.2 f hf).1.2.2
    have h1 := rf_le (y := ft f) (k := kd f) (c := ca (4 * h + 3)) (hG.2 h hh).1
    have h2 := od_le (kd := kd) (ft := ft) (st := st) (sc := sc) (ca := ca) (h := h) (f := f) (l := l) (hi := ht f) hV
    have h3 : EE V kd ht ft st sc ca h f l ≤ 161 := by unfold EE rr; omega
    rcases hbt with ⟨_, rfl, rfl⟩ | ⟨_, rfl, rfl⟩
    · exact ⟨by omega, h3⟩
    · exact ⟨h3, by omega⟩
  unfold f_X12_layFences
  refine rl13 8 (fun f v3 _ _ _ _ _ _ _ _ _ _ sp li => v3 = nI f ∧ f ≤ F ∧ ∀ g, g < f → ∀ l, l < 8 → sp (8 * g + l) = nI (S g l) ∧ li (8 * g + l) = nI (L g l)) (by omega) ⟨rfl, by omega, by omega⟩ ?_
  rintro rc f v3 u1 u2 u3 u4 u5 u6 u7 u8 u9 u10 sp li ⟨rfl, hf, hI⟩ ih
  unfold s_X12_layFences_2
  by_cases hfF : F ≤ f
  · obtain rfl : F = f := by omega
    exact rt_t (nI_le (Nat.le_refl _) (by omega)) (rt_some ⟨hF, fun g hg l hl => ⟨hb g l hg hl, hI g hg l hl⟩⟩)
  · have hfF' : f < F := by omega
    refine rt_f (nI_ge (by omega) (by omega)) ?_
    refine rl13 8 (fun l v4 _ _ _ _ _ _ _ _ _ _ sp li => v4 = nI l ∧ l ≤ 8 ∧ (∀ g, g < f → ∀ l, l < 8 → sp (8 * g + l) = nI (S g l) ∧ li (8 * g + l) = nI (L g l)) ∧ ∀ j, j < l → sp (8 * f + j) = nI (S f j) ∧ li (8 * f + j) = nI (L f j)) (by omega) ⟨rfl, by omega, hI, by omega⟩ ?_
    rintro rc2 l v4 q1 q2 q3 q4 q5 q6 q7 q8 q9 q10 sp li ⟨rfl, hl, hI0, hI1⟩ ih2
    unfold s_X12_layFences_13
    by_cases hl8 : 8 ≤ l
    · obtain rfl : l = 8 := by omega
      refine rt_t (by decide) ?_
      unfold k_X12_layFences_13
      refine rt_lt (ih (by omega) _ _ _ _ _ _ _ _ _ _ _ _ _ ⟨nI_1 _, by omega, fun g hg l hl => ?_⟩)
      by_cases e : g = f
      · subst e; exact hI1 l hl
      · exact hI0 g (by omega) l hl
    · refine rt_f (nI_ge (b := 8) (by omega) (by omega)) (re1 (m_tenths hM.1 hfF' (show l < 8 by omega)) (rb11 (m_oddsR hM hh hfF' (show l < 8 by omega) _ _ _ _ _ _ _ _ _ _) ?_))
      rintro a1 w1 w2 w3 w4 w5 w6 w7 w8 w9 w10 rfl
      refine re1 (m_refusal hM.1 hM.2.2.1 hh hfF') (rt_lt ?_)
      have hfin : ∀ x y : Int32, x = nI (S f l) → y = nI (L f l) → Rt (rc2 (nI l + 1) w1 w2 w3 w4 w5 w6 w7 w8 w9 w10 (upd sp (8 * f + l) x) (upd li (8 * f + l) y)) (fun r => okSL F S L r.2.2.2.2.2.2.2.2.2.2.1 r.2.2.2.2.2.2.2.2.2.2.2) := fun x y hx hy => by
        refine ih2 (by omega) _ _ _ _ _ _ _ _ _ _ _ _ _ ⟨nI_1 _, by omega, fun g hg l' hl' => ?_, fun j hj => ?_⟩
        · rw [upd_n (by omega), upd_n (by omega)]; exact hI0 g hg l' hl'
        · by_cases e : j = l
          · subst e; rw [upd_s, upd_s]; exact ⟨hx, hy⟩
          · rw [upd_n (by omega), upd_n (by omega)]; exact hI1 j (by omega)
      unfold j_X12_layFences_68
      rw [c_8, pk_mul, nI_add, nI_clamp (by omega), nI_add]
      rcases hbt with ⟨rfl, rfl, rfl⟩ | ⟨rfl, rfl, rfl⟩
      · refine rt_f i10n (rt_gx (by omega) (by omega) (rt_f i10n (rt_gx (by omega) (by omega) (rt_lt (hfin _ _ rfl rfl)))))
      · refine rt_t rfl (rt_gx (by omega) (by omega) (rt_t rfl (rt_gx (by omega) (by omega) (rt_lt (hfin _ _ rfl rfl)))))
theorem m_curveT (hM : okM F H P kd ht ft st sc ca pl V mk mh mf ms mc ma mp mz ml) (hh : h < H) (hm : m ≤ 9999) (q1 q2 q3 q4 q5 q6 q7 q8 q9 q10 tw : Int32) (le sp li : Nat → Int32) : Rt (f_X12_curve (nI h) (nI m) (nI F) (nI H) (nI r) tw q1 q2 q3 q4 q5 mz q6 q7 q8 q9 q10 mk mh mf ms mc ma ml le sp li mt) (fun a => a.2.2.1 = 0 ∧ ((a.1 = -2 ∧ a.2.1 = nI r ∧ a.2.2.2.2.2.2.2.2.2.2.2.2.2.2.2.2 = mt ∧ ∀ s l, Ac F (TT kd ft) (EE V kd ht ft st sc ca h) F s l → ¬ s ≤ m) ∨ ∃ s l w s1 l1, bst (Ac F (TT kd ft) (EE V kd ht ft st sc ca h) F) m s l ∧ chn F (TT kd ft) (EE V kd ht ft st sc ca h) s l w s1 l1 F ∧ a.1 = nI l ∧ a.2.1 = nI (F + 1) ∧ a.2.2.2.2.2.2.2.2.2.2.2.2.2.2.2.2 = rwl (fun f => (nI (w f)).toInt64) F (vp_updL mt 0 (nI s).toInt64))) := by
  have hH := hM.2.2.1.1.1
  unfold f_X12_curve
  refine re1 (m_isHT hh (by omega)) (rt_f i10n (re1 (m_isMostT (by omega)) (rt_f i10n (rb12 (m_layFences hM hh (.inl ⟨rfl, rfl, rfl⟩) _ _ _ _ _ _ _ _ _ _ sp li) ?_))))
  rintro w1 w2 w3 w4 w5 w6 w7 w8 w9 w10 sp2 li2 hO
  refine rb4 (m_least (r := r) (mt := mt) hO hm le) ?_
  intro a1 a2 a3 a4 ha
  exact rt_some ⟨rfl, ha⟩
theorem m_quickT (hM : okM F H P kd ht ft st sc ca pl V mk mh mf ms mc ma mp mz ml) (hh : h < H) (hm : m ≤ 9999) (q1 q2 q3 q4 q5 q6 q7 q8 q9 q10 tw : Int32) (le sp li : Nat → Int32) : Rt (f_X12_quick (nI h) (nI m) (nI F) (nI H) (nI r) tw q1 q2 q3 q4 q5 mz q6 q7 q8 q9 q10 mk mh mf ms mc ma ml le sp li mt) (fun a => a.2.2.1 = 0 ∧ ((a.1 = -2 ∧ a.2.1 = nI r ∧ a.2.2.2.2.2.2.2.2.2.2.2.2.2.2.2.2 = mt ∧ ∀ s l, Ac F (EE V kd ht ft st sc ca h) (TT kd ft) F s l → ¬ s ≤ m) ∨ ∃ s l w s1 l1, bst (Ac F (EE V kd ht ft st sc ca h) (TT kd ft) F) m s l ∧ chn F (EE V kd ht ft st sc ca h) (TT kd ft) s l w s1 l1 F ∧ a.1 = nI l ∧ a.2.1 = nI (F + 1) ∧ a.2.2.2.2.2.2.2.2.2.2.2.2.2.2.2.2 = rwl (fun f => (nI (w f)).toInt64) F (vp_updL mt 0 (nI s).toInt64))) := by
  have hH := hM.2.2.1.1.1
  unfold f_X12_quick
  refine re1 (m_isHT hh (by omega)) (rt_f i10n (re1 (m_isMostT (by omega)) (rt_f i10n (rb12 (m_layFences hM hh (.inr ⟨rfl, rfl, rfl⟩) _ _ _ _ _ _ _ _ _ _ sp li) ?_))))
  rintro w1 w2 w3 w4 w5 w6 w7 w8 w9 w10 sp2 li2 hO
  refine rb4 (m_least (r := r) (mt := mt) hO hm le) ?_
  intro a1 a2 a3 a4 ha
  exact rt_some ⟨rfl, ha⟩
theorem row_chn {T E : Nat → Nat → Nat} {t e : Nat} {w t1 e1 w' t1' e1' : Nat → Nat} (hF : F ≤ 8) (h : chn F T E t e w t1 e1 F) (h' : chn F T E t e w' t1' e1' F) (x : Int64) : rowE (F + 1) (rwl (fun f => (nI (w f)).toInt64) F (vp_updL nt 0 x)) (rwl (fun f => (nI (w' f)).toInt64) F (vp_updL mt 0 x)) := by
  have hu := (chn_u h h' F (Nat.le_refl _)).2.2
  refine rowE_l F (fun j hj => ?_) (by omega) rowE_r1
  show (nI (w j)).toInt64 = (nI (w' j)).toInt64
  rw [hu j hj]
theorem lf_pair (hX : okX F H P kd ht ft st sc ca pl V ck ch cf cd cp rz rk) (hM : okM F H P kd ht ft st sc ca pl V mk mh mf ms mc ma mp mz ml) (hR : rowE r nt mt) (hh : h < H) (hm : m ≤ 9999) (lf : Int32) (sk th fe te G z : Nat → Int32) (q1 q2 q3 q4 q5 q6 q7 q8 q9 q10 tw : Int32) (le sp li : Nat → Int32) : Rt (f_X11_leastFear (nI h) (nI m) (nI r) (nI F) rz lf ck ch cf cd rk sk th fe te G z nt) (fun a => Rt (f_X12_curve (nI h) (nI m) (nI F) (nI H) (nI r) tw q1 q2 q3 q4 q5 mz q6 q7 q8 q9 q10 mk mh mf ms mc ma ml le sp li mt) (fun b => a.1 = b.1 ∧ b.2.2.1 = 0 ∧ ∃ r, a.2.1 = nI r ∧ b.2.1 = nI r ∧ rowE r a.2.2.2.2.2.2.2.2.2 b.2.2.2.2.2.2.2.2.2.2.2.2.2.2.2.2)) := by
  have hF := hX.1.1
  refine rt_and (x_leastFear (r := r) (nt := nt) hX hh hm lf sk th fe te G z) (m_curveT (r := r) (mt := mt) hM hh hm q1 q2 q3 q4 q5 q6 q7 q8 q9 q10 tw le sp li) ?_
  rintro a b ha ⟨b0, hb⟩
  rcases ha with ⟨a1, a2, a3, a4⟩ | ⟨t, e, w, t1, e1, a1, a2, a3, a4, a5⟩
  · rcases hb with ⟨b1, b2, b3, b4⟩ | ⟨s, l, w', s1, l1, b1, b2, b3, b4, b5⟩
    · exact ⟨a1.trans b1.symm, b0, r, a2, b2, by rw [a3, b3]; exact hR⟩
    · exact absurd b1.2.1 (a4 s l b1.1)
  · rcases hb with ⟨b1, b2, b3, b4⟩ | ⟨s, l, w', s1, l1, b1, b2, b3, b4, b5⟩
    · exact absurd a1.2.1 (b4 t e a1.1)
    · obtain ⟨rfl, rfl⟩ := bst_u a1 b1
      refine ⟨a3.trans b3.symm, b0, F + 1, a4, b4, ?_⟩
      rw [a5, b5]
      exact row_chn hF a2 b2 _
theorem pr_curve (hX : okX F H P kd ht ft st sc ca pl V ck ch cf cd cp rz rk) (hM : okM F H P kd ht ft st sc ca pl V mk mh mf ms mc ma mp mz ml) (hR : rowE r nt mt) (p1 p2 lf : Int32) (sk th fe te G z : Nat → Int32) (q1 q2 q3 q4 q5 q6 q7 q8 q9 q10 tw : Int32) (le sp li : Nat → Int32) : Rt (f_X11_curve p1 p2 (nI r) (nI F) (nI H) rz lf ck ch cf cd rk sk th fe te G z nt) (fun a => Rt (f_X12_curve p1 p2 (nI F) (nI H) (nI r) tw q1 q2 q3 q4 q5 mz q6 q7 q8 q9 q10 mk mh mf ms mc ma ml le sp li mt) (fun b => a.1 = b.1 ∧ b.2.2.1 = 0 ∧ ∃ r, a.2.1 = nI r ∧ b.2.1 = nI r ∧ rowE r a.2.2.2.2.2.2.2.2.2 b.2.2.2.2.2.2.2.2.2.2.2.2.2.2.2.2)) := by
  have hH := hX.2.2.1.1.1
  rcases bel p1 H (by omega) with ⟨h, hh, rfl⟩ | ho
  · rcases bel p2 10000 (by omega) with ⟨m, hm, rfl⟩ | ho
    · unfold f_X11_curve
      refine re1 (x_hasHT hh (by omega)) (rt_f i10n (rt_f (nI_pos (by omega)) (rt_t (nI_le (b := 9999) (by omega) (by omega)) (rb10 (lf_pair hX hM hR hh (by omega) lf sk th fe te G z q1 q2 q3 q4 q5 q6 q7 q8 q9 q10 tw le sp li) ?_))))
      intro a1 a2 a3 a4 a5 a6 a7 a8 a9 a10 ha
      exact rt_some ha
    · refine rt_and (P := fun a => a = (-1, nI r, lf, sk, th, fe, te, G, z, nt)) (Q := fun b => b.1 = -1 ∧ b.2.1 = nI r ∧ b.2.2.1 = 0 ∧ b.2.2.2.2.2.2.2.2.2.2.2.2.2.2.2.2 = mt) ?_ ?_ ?_
      · unfold f_X11_curve
        exact re1 (x_hasHT hh (by omega)) (rt_f i10n (rt_if (fun _ => rt_some rfl) (fun h0 => rt_f (out_le (n := 9999) ho h0 (by omega)) (rt_some rfl))))
      · unfold f_X12_curve
        exact re1 (m_isHT hh (by omega)) (rt_f i10n (re1 (m_isMostF ho) (rt_t rfl (rt_some ⟨rfl, rfl, rfl, rfl⟩))))
      · rintro a b rfl ⟨b1, b2, b3, b4⟩
        exact ⟨b1.symm, b3, r, rfl, b2, by rw [b4]; exact hR⟩
  · unfold f_X11_curve
    refine re1 (x_hasHF ho) (rt_t rfl (rt_some ?_))
    unfold f_X12_curve
    exact re1 (m_isHF ho (by omega)) (rt_t rfl (rt_some ⟨rfl, rfl, r, rfl, rfl, hR⟩))
theorem pr_quick (hX : okX F H P kd ht ft st sc ca pl V ck ch cf cd cp rz rk) (hM : okM F H P kd ht ft st sc ca pl V mk mh mf ms mc ma mp mz ml) (hR : rowE r nt mt) (p1 p2 lf : Int32) (sk th fe te G z : Nat → Int32) (q1 q2 q3 q4 q5 q6 q7 q8 q9 q10 tw : Int32) (le sp li : Nat → Int32) : Rt (f_X11_quick p1 p2 (nI r) (nI F) (nI H) rz lf ck ch cf cd rk sk th fe te G z nt) (fun a => Rt (f_X12_quick p1 p2 (nI F) (nI H) (nI r) tw q1 q2 q3 q4 q5 mz q6 q7 q8 q9 q10 mk mh mf ms mc ma ml le sp li mt) (fun b => a.1 = b.1 ∧ b.2.2.1 = 0 ∧ ∃ r, a.2.1 = nI r ∧ b.2.1 = nI r ∧ rowE r a.2.2.2.2.2.2.2.2.2 b.2.2.2.2.2.2.2.2.2.2.2.2.2.2.2.2)) := by
  have hH := hX.2.2.1.1.1
  have hF := hX.1.1
  rcases bel p1 H (by omega) with ⟨h, hh, rfl⟩ | ho
  · rcases bel p2 10000 (by omega) with ⟨m, hm, rfl⟩ | ho
    · refine rt_and (x_quick (r := r) (nt := nt) hX hh (show m ≤ 9999 by omega) lf sk th fe te G z) (m_quickT (r := r) (mt := mt) hM hh (show m ≤ 9999 by omega) q1 q2 q3 q4 q5 q6 q7 q8 q9 q10 tw le sp li) ?_
      rintro a b ha ⟨b0, hb⟩
      rcases ha with ⟨a1, a2, a3, a4⟩ | ⟨t, e, w, t1, e1, a1, a2, a3, a4, a5⟩
      · rcases hb with ⟨b1, b2, b3, b4⟩ | ⟨s, l, w', s1, l1, b1, b2, b3, b4, b5⟩
        · exact ⟨a1.trans b1.symm, b0, r, a2, b2, by rw [a3, b3]; exact hR⟩
        · exact absurd b1.2.1 (a4 l s (Ac_sw _ _ _ b1.1))
      · rcases hb with ⟨b1, b2, b3, b4⟩ | ⟨s, l, w', s1, l1, b1, b2, b3, b4, b5⟩
        · exact absurd a1.2.1 (b4 e t a1.1)
        · obtain ⟨rfl, rfl⟩ := bst_u a1 b1
          refine ⟨a3.trans b3.symm, b0, F + 1, a4, b4, ?_⟩
          rw [a5, b5]
          exact row_chn hF a2 (chn_sw b2) _
    · refine rt_and (P := fun a => a = (-1, nI r, lf, sk, th, fe, te, G, z, nt)) (Q := fun b => b.1 = -1 ∧ b.2.1 = nI r ∧ b.2.2.1 = 0 ∧ b.2.2.2.2.2.2.2.2.2.2.2.2.2.2.2.2 = mt) ?_ ?_ ?_
      · unfold f_X11_quick
        exact re1 (x_hasHT hh (by omega)) (rt_f i10n (rt_if (fun _ => rt_some rfl) (fun h0 => rt_f (out_le (n := 9999) ho h0 (by omega)) (rt_some rfl))))
      · unfold f_X12_quick
        exact re1 (m_isHT hh (by omega)) (rt_f i10n (re1 (m_isMostF ho) (rt_t rfl (rt_some ⟨rfl, rfl, rfl, rfl⟩))))
      · rintro a b rfl ⟨b1, b2, b3, b4⟩
        exact ⟨b1.symm, b3, r, rfl, b2, by rw [b4]; exact hR⟩
  · unfold f_X11_quick
    refine re1 (x_hasHF ho) (rt_t rfl (rt_some ?_))
    unfold f_X12_quick
    exact re1 (m_isHF ho (by omega)) (rt_t rfl (rt_some ⟨rfl, rfl, r, rfl, rfl, hR⟩))
theorem pr_sure (hX : okX F H P kd ht ft st sc ca pl V ck ch cf cd cp rz rk) (hM : okM F H P kd ht ft st sc ca pl V mk mh mf ms mc ma mp mz ml) (hR : rowE r nt mt) (ha : m ≤ 9999) (p1 lf : Int32) (sk th fe te G z : Nat → Int32) (q1 q2 q3 q4 q5 q6 q7 q8 q9 q10 tw : Int32) (le sp li : Nat → Int32) : Rt (f_X11_sure p1 (nI r) (nI F) (nI H) (nI m) rz lf ck ch cf cd rk sk th fe te G z nt) (fun a => Rt (f_X12_sure p1 (nI F) (nI m) (nI H) (nI r) tw q1 q2 q3 q4 q5 mz q6 q7 q8 q9 q10 mk mh mf ms mc ma ml le sp li mt) (fun b => a.1 = b.1 ∧ b.2.2.1 = 0 ∧ ∃ r, a.2.1 = nI r ∧ b.2.1 = nI r ∧ rowE r a.2.2.2.2.2.2.2.2.2 b.2.2.2.2.2.2.2.2.2.2.2.2.2.2.2.2)) := by
  have hH := hX.2.2.1.1.1
  have hfin : ∀ (a : Int32 × Int32 × Int32 × (Nat → Int32) × (Nat → Int32) × (Nat → Int32) × (Nat → Int32) × (Nat → Int32) × (Nat → Int32) × (Nat → Int64)), Rt (f_X12_curve p1 (nI m) (nI F) (nI H) (nI r) tw q1 q2 q3 q4 q5 mz q6 q7 q8 q9 q10 mk mh mf ms mc ma ml le sp li mt) (fun b => a.1 = b.1 ∧ b.2.2.1 = 0 ∧ ∃ r, a.2.1 = nI r ∧ b.2.1 = nI r ∧ rowE r a.2.2.2.2.2.2.2.2.2 b.2.2.2.2.2.2.2.2.2.2.2.2.2.2.2.2) → Rt (f_X12_sure p1 (nI F) (nI m) (nI H) (nI r) tw q1 q2 q3 q4 q5 mz q6 q7 q8 q9 q10 mk mh mf ms mc ma ml le sp li mt) (fun b => a.1 = b.1 ∧ b.2.2.1 = 0 ∧ ∃ r, a.2.1 = nI r ∧ b.2.1 = nI r ∧ rowE r a.2.2.2.2.2.2.2.2.2 b.2.2.2.2.2.2.2.2.2.2.2.2.2.2.2.2) := by
    intro a hq
    unfold f_X12_sure
    refine rb17 hq ?_
    rintro b1 b2 b3 w1 w2 w3 w4 w5 w6 w7 w8 w9 w10 b14 b15 b16 b17 hb
    exact rt_some hb
  rcases bel p1 H (by omega) with ⟨h, hh, rfl⟩ | ho
  · unfold f_X11_sure
    refine re1 (x_hasHT hh (by omega)) (rt_f i10n (rb10 (lf_pair hX hM hR hh ha lf sk th fe te G z q1 q2 q3 q4 q5 q6 q7 q8 q9 q10 tw le sp li) ?_))
    intro a1 a2 a3 a4 a5 a6 a7 a8 a9 a10 ha
    exact rt_some (hfin _ ha)
  · unfold f_X11_sure
    refine re1 (x_hasHF ho) (rt_t rfl (rt_some (hfin _ ?_)))
    unfold f_X12_curve
    exact re1 (m_isHF ho (by omega)) (rt_t rfl (rt_some ⟨rfl, rfl, r, rfl, rfl, hR⟩))
end
